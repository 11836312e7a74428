/-! the program's state beside the reference's -/
def LL : List (Nat × Nat) := [(6, 1), (7, 2), (8, 3), (9, 4), (10, 6), (12, 8), (13, 9), (15, 11), (16, 12), (20, 14), (21, 13), (24, 17), (25, 18), (26, 16), (27, 5)]
def LLs : List ((Nat × Nat) × (Nat × Nat)) := [((0, 5), (0, 1)), ((1, 0), (0, 2)), ((1, 1), (0, 3)), ((2, 0), (0, 4)), ((2, 1), (0, 8)), ((4, 8), (0, 5)), ((4, 9), (0, 6))]
def Eqs (A B : AA) : Prop := (∀ x ∈ LL, A x.1 = B x.2) ∧ ∀ x ∈ LLs, A x.1.1 x.1.2 = B x.2.1 x.2.2
theorem Eqs.c6 {A B : AA} (h : Eqs A B) : A 6 = B 1 := h.1 (6, 1) (by decide)
theorem Eqs.c7 {A B : AA} (h : Eqs A B) : A 7 = B 2 := h.1 (7, 2) (by decide)
theorem Eqs.c8 {A B : AA} (h : Eqs A B) : A 8 = B 3 := h.1 (8, 3) (by decide)
theorem Eqs.c9 {A B : AA} (h : Eqs A B) : A 9 = B 4 := h.1 (9, 4) (by decide)
theorem Eqs.c10 {A B : AA} (h : Eqs A B) : A 10 = B 6 := h.1 (10, 6) (by decide)
theorem Eqs.c12 {A B : AA} (h : Eqs A B) : A 12 = B 8 := h.1 (12, 8) (by decide)
theorem Eqs.c13 {A B : AA} (h : Eqs A B) : A 13 = B 9 := h.1 (13, 9) (by decide)
theorem Eqs.c15 {A B : AA} (h : Eqs A B) : A 15 = B 11 := h.1 (15, 11) (by decide)
theorem Eqs.c16 {A B : AA} (h : Eqs A B) : A 16 = B 12 := h.1 (16, 12) (by decide)
theorem Eqs.c20 {A B : AA} (h : Eqs A B) : A 20 = B 14 := h.1 (20, 14) (by decide)
theorem Eqs.c21 {A B : AA} (h : Eqs A B) : A 21 = B 13 := h.1 (21, 13) (by decide)
theorem Eqs.c24 {A B : AA} (h : Eqs A B) : A 24 = B 17 := h.1 (24, 17) (by decide)
theorem Eqs.c25 {A B : AA} (h : Eqs A B) : A 25 = B 18 := h.1 (25, 18) (by decide)
theorem Eqs.c26 {A B : AA} (h : Eqs A B) : A 26 = B 16 := h.1 (26, 16) (by decide)
theorem Eqs.c27 {A B : AA} (h : Eqs A B) : A 27 = B 5 := h.1 (27, 5) (by decide)
theorem Eqs.s1 {A B : AA} (h : Eqs A B) : A 0 5 = B 0 1 := h.2 ((0, 5), (0, 1)) (by decide)
theorem Eqs.s2 {A B : AA} (h : Eqs A B) : A 1 0 = B 0 2 := h.2 ((1, 0), (0, 2)) (by decide)
theorem Eqs.s3 {A B : AA} (h : Eqs A B) : A 1 1 = B 0 3 := h.2 ((1, 1), (0, 3)) (by decide)
theorem Eqs.s4 {A B : AA} (h : Eqs A B) : A 2 0 = B 0 4 := h.2 ((2, 0), (0, 4)) (by decide)
theorem Eqs.s8 {A B : AA} (h : Eqs A B) : A 2 1 = B 0 8 := h.2 ((2, 1), (0, 8)) (by decide)
theorem Eqs.s5 {A B : AA} (h : Eqs A B) : A 4 8 = B 0 5 := h.2 ((4, 8), (0, 5)) (by decide)
theorem Eqs.s6 {A B : AA} (h : Eqs A B) : A 4 9 = B 0 6 := h.2 ((4, 9), (0, 6)) (by decide)
theorem Eqs.u2 {A B : AA} (h : Eqs A B) (k k' i : Nat) (v : Int) (h1 : ∀ x ∈ LL, (x.1 = k ↔ x.2 = k')) (h2 : ∀ x ∈ LLs, x.1.1 ≠ k ∧ x.2.1 ≠ k') : Eqs (zU A k i v) (zU B k' i v) := by
  refine ⟨fun x hx => ?_, fun x hx => ?_⟩
  · by_cases g : x.1 = k
    · have g2 := (h1 x hx).mp g
      funext j
      have e := congrFun (h.1 x hx) j
      rw [zU_e, zU_e, ← e]
      by_cases ej : j = i
      · rw [if_pos ⟨g, ej⟩, if_pos ⟨g2, ej⟩]
      · rw [if_neg (fun z => ej z.2), if_neg (fun z => ej z.2)]
    · have g2 : x.2 ≠ k' := fun z => g ((h1 x hx).mpr z)
      rw [zU_n _ _ g, zU_n _ _ g2]; exact h.1 x hx
  · rw [zU_n _ _ (h2 x hx).1, zU_n _ _ (h2 x hx).2]; exact h.2 x hx
theorem Eqs.ul {A B : AA} (h : Eqs A B) (k i : Nat) (v : Int) (h1 : ∀ x ∈ LL, x.1 ≠ k) (h2 : ∀ x ∈ LLs, x.1 ≠ (k, i)) : Eqs (zU A k i v) B := by
  refine ⟨fun x hx => by rw [zU_n _ _ (h1 x hx)]; exact h.1 x hx, fun x hx => ?_⟩
  rw [zU_e, if_neg (fun z => h2 x hx (Prod.ext z.1 z.2))]; exact h.2 x hx
theorem Eqs.ur {A B : AA} (h : Eqs A B) (k i : Nat) (v : Int) (h1 : ∀ x ∈ LL, x.2 ≠ k) (h2 : ∀ x ∈ LLs, x.2 ≠ (k, i)) : Eqs A (zU B k i v) := by
  refine ⟨fun x hx => by rw [zU_n _ _ (h1 x hx)]; exact h.1 x hx, fun x hx => ?_⟩
  rw [zU_e, if_neg (fun z => h2 x hx (Prod.ext z.1 z.2))]; exact h.2 x hx
theorem Eqs.cl {A B : AA} (h : Eqs A B) (k i : Nat) (v : Int) (h1 : ∀ x ∈ LL, x.1 ≠ k) (h2 : ∀ x ∈ LLs, x.1.1 ≠ k) : Eqs (zU A k i v) B := h.ul k i v h1 (fun x hx z => h2 x hx (by rw [z]))
theorem Eqs.cr {A B : AA} (h : Eqs A B) (k i : Nat) (v : Int) (h1 : ∀ x ∈ LL, x.2 ≠ k) (h2 : ∀ x ∈ LLs, x.2.1 ≠ k) : Eqs A (zU B k i v) := h.ur k i v h1 (fun x hx z => h2 x hx (by rw [z]))
theorem Eqs.us {A B : AA} (h : Eqs A B) (a b c d : Nat) (v : Int) (h1 : ∀ x ∈ LL, x.1 ≠ a ∧ x.2 ≠ c) (h2 : ∀ x ∈ LLs, (x.1 = (a, b) ↔ x.2 = (c, d))) : Eqs (zU A a b v) (zU B c d v) := by
  refine ⟨fun x hx => by rw [zU_n _ _ (h1 x hx).1, zU_n _ _ (h1 x hx).2]; exact h.1 x hx, fun x hx => ?_⟩
  rw [zU_e, zU_e]
  by_cases g : x.1 = (a, b)
  · have g2 := (h2 x hx).mp g
    rw [if_pos (by rw [g]; exact ⟨rfl, rfl⟩), if_pos (by rw [g2]; exact ⟨rfl, rfl⟩)]
  · rw [if_neg (fun z => g (Prod.ext z.1 z.2)), if_neg (fun z => g ((h2 x hx).mpr (Prod.ext z.1 z.2)))]; exact h.2 x hx
theorem Eqs.r2 {A B : AA} (h : Eqs A B) (k k' : Nat) {g g' : Nat → Int} (hg : g = g') (h1 : ∀ x ∈ LL, (x.1 = k ↔ x.2 = k')) (h2 : ∀ x ∈ LLs, x.1.1 ≠ k ∧ x.2.1 ≠ k') : Eqs (zR A k g) (zR B k' g') := by
  subst hg
  refine ⟨fun x hx => ?_, fun x hx => ?_⟩
  · by_cases q : x.1 = k
    · have q2 := (h1 x hx).mp q
      rw [q, q2, zR_s, zR_s]
    · rw [zR_n _ _ q, zR_n _ _ (fun z => q ((h1 x hx).mpr z))]; exact h.1 x hx
  · rw [zR_n _ _ (h2 x hx).1, zR_n _ _ (h2 x hx).2]; exact h.2 x hx
theorem Eqs.rr {A B : AA} (h : Eqs A B) (k : Nat) (g : Nat → Int) (h1 : ∀ x ∈ LL, x.2 ≠ k) (h2 : ∀ x ∈ LLs, x.2.1 ≠ k) : Eqs A (zR B k g) :=
  ⟨fun x hx => by rw [zR_n _ _ (h1 x hx)]; exact h.1 x hx, fun x hx => by rw [zR_n _ _ (h2 x hx)]; exact h.2 x hx⟩
def nx (B : AA) (p : Nat) (v : Int) : Prop := (v = -1 ∧ ∀ q : Nat, p < q → (q : Int) < B 0 4 → B 7 q ≠ B 7 p) ∨ (∃ q : Nat, v = q ∧ p < q ∧ (q : Int) < B 0 4 ∧ B 7 q = B 7 p ∧ ∀ r : Nat, p < r → r < q → B 7 r ≠ B 7 p)
def la (B : AA) (i : Nat) (v : Int) : Prop := ∃ p : Nat, v = p ∧ (p : Int) < B 0 4 ∧ B 7 p = i ∧ ∀ q : Nat, p < q → (q : Int) < B 0 4 → B 7 q ≠ i
def Rw (A B : AA) : Prop := ∀ p : Nat, (p : Int) < B 0 4 → A 14 p = B 9 p - B 10 p
def Rq (A B : AA) : Prop := (∀ i : Nat, i < 16 → A 17 i = q0 B i) ∧ (∀ p : Nat, (p : Int) < B 0 4 → B 10 p ≠ B 9 p → nx B p (A 19 p)) ∧ (∀ i : Nat, i < 16 → A 17 i ≠ -1 → la B i (A 18 i)) ∧ (∀ p : Nat, B 0 4 ≤ p → p < 400 → A 19 p = -1)
def Rh (A B : AA) : Prop := (∀ c : Nat, c < 160 → B 17 c ≠ -1 → A 23 (B 17 c).toNat = c) ∧ (∀ i : Nat, i < 176 → A 23 i ≠ -1 → 0 ≤ A 23 i ∧ A 23 i < 160 ∧ B 17 (A 23 i).toNat = i)
def Rf (A B : AA) : Prop := ∀ c : Nat, c < 160 → 0 ≤ A 22 c ∧ A 22 c ≤ B 13 c ∧ ∀ k : Nat, (k : Int) < B 13 c → (B 15 (4 * c + k) = B 0 5 ↔ B 13 c - A 22 c ≤ k)
def Rel (A B : AA) : Prop := Eqs A B ∧ Rw A B ∧ Rq A B ∧ Rh A B
theorem c_frontOf {A B : AA} (h : iv B) (hr : Rel A B) (hf : Rf A B) {i : Int} (h0 : 0 ≤ i) (hi : i < 176) {post : Int → Prop} (hp : post (fr B i)) : zp_CI_frontOf A i post := by
  obtain ⟨E, hw, hq, hh⟩ := hr
  have w := h.1
  have pk := w.p
  unfold zp_CI_frontOf
  refine ⟨by omega, fun g => ⟨by omega, ?_⟩, fun g => ?_⟩
  · rintro v ev
    have e1 := hq.1 i.toNat (by omega)
    rw [e1, show ((i.toNat : Nat) : Int) = i by omega] at ev
    have ef : fr B i = if q0 B i < 0 then -1 else 16 * q0 B i + B 10 (q0 B i).toNat := by unfold fr; rw [if_pos g]
    rcases qf_np w i with z | ⟨p, z, a, b, c, d⟩
    · rw [z] at ev ef; rw [if_pos (by omega)] at ef
      refine ⟨by omega, fun q => absurd ev q, fun _ => by rw [ef] at hp; exact hp⟩
    · rw [z] at ev ef; rw [if_neg (by omega)] at ef
      simp only [Int.toNat_natCast] at ef
      refine ⟨by omega, fun _ => ⟨by omega, by omega, ?_⟩, fun q => by omega⟩
      rw [ev]; simp only [Int.toNat_natCast]
      rw [E.c13, hw p a]
      have : (p : Int) * 16 + B 9 p - (B 9 p - B 10 p) = fr B i := by omega
      rw [this]; exact hp
  · rintro v rfl
    have a13 := w.a13 (i - 16).toNat
    obtain ⟨f1, f2, f3⟩ := hf (i - 16).toNat (by omega)
    have e4 : (4 * (i - 16)).toNat = 4 * (i - 16).toNat := by omega
    have ef : fr B i = if B 13 (i - 16).toNat = 0 ∨ B 15 (4 * (i - 16)).toNat = B 0 5 then -1 else B 14 (4 * (i - 16)).toNat := by unfold fr; rw [if_neg g]
    rw [E.c21]
    refine ⟨by omega, by omega, by omega, by omega, fun q => ?_, fun q => ⟨by omega, ?_⟩⟩
    · have : fr B i = -1 := by
        rw [ef, if_pos]
        by_cases z : B 13 (i - 16).toNat = 0
        · exact .inl z
        · right; rw [e4]; exact (f3 0 (by omega)).mpr (by omega)
      rw [this] at hp; exact hp
    · have : fr B i = A 20 ((i - 16) * 4).toNat := by
        rw [ef, if_neg, E.c20, show (4 * (i - 16)).toNat = ((i - 16) * 4).toNat by omega]
        rintro (z | z)
        · omega
        · rw [e4] at z; have := (f3 0 (by omega)).mp z; omega
      rw [← this]; exact hp
theorem c_nodeOf {A B : AA} (E : Eqs A B) {i : Int} (h0 : 0 ≤ i) (hi : i < 176) {post : Int → Prop} (hp : post (nd B i)) : zp_CI_nodeOf A i post := by
  unfold zp_CI_nodeOf zp_CP_endOf
  unfold nd at hp
  refine ⟨by omega, fun g => ⟨by omega, by omega, ?_⟩, fun g => ?_⟩
  · rw [if_neg (by omega)] at hp; rw [E.c7]; exact hp
  · rw [if_pos (by omega)] at hp; exact hp
theorem Rh_hh {A B : AA} (h : iv B) (hr : Rh A B) {i : Nat} (hi : i < 176) : A 23 i ≠ -1 ↔ hh B i := by
  have w := h.1
  have hl := w.l
  constructor
  · intro z
    obtain ⟨a, b, c⟩ := hr.2 i hi z
    have := (h.2.2.2.2.2.1 (A 23 i).toNat (by omega) (by omega)).1
    unfold isC at this
    exact ⟨(A 23 i).toNat, by omega, c⟩
  · rintro ⟨c, hc, e⟩
    have := hr.1 c (by omega) (by omega)
    rw [e] at this
    simp only [Int.toNat_natCast] at this
    omega
theorem Rh_rg {A B : AA} (hr : Rh A B) {i : Nat} (hi : i < 176) : -1 ≤ A 23 i ∧ A 23 i < 160 := by
  by_cases g : A 23 i = -1
  · omega
  · have := hr.2 i hi g; omega
theorem c_toGet {A B : AA} (h : iv B) (hr : Rel A B) (hf : Rf A B) {i : Int} (h0 : 0 ≤ i) (hi : i < 176) {post : Int → Prop} (h1 : ∀ c, wt B i c → post c) (hn : (∀ c, ¬ wt B i c) → post (-1)) : zp_CT_channelToGet A i post := by
  have w := h.1
  have hR := hr
  obtain ⟨E, hw, hq, hH⟩ := hr
  have f1 := fr_rg w i
  have r23 := Rh_rg hH (i := i.toNat) (by omega)
  have rhh := Rh_hh h hH (i := i.toNat) (by omega)
  rw [show ((i.toNat : Nat) : Int) = i by omega] at rhh
  unfold zp_CT_channelToGet
  refine c_frontOf h hR hf h0 hi ⟨by omega, fun g => hn (fun c z => by have := z.1; omega), fun g => ?_⟩
  have hfo := fr_ok h h0 hi (by omega)
  have pk := w.p
  refine ⟨by omega, by omega, fun g1 => ⟨by omega, fun _ => hn (fun c z => g1 z.2.1), fun q => absurd rfl q⟩, fun g1 => ⟨by omega, fun q => by omega, fun _ => ⟨by omega, by omega, fun g2 => ?_, fun g2 => hn (fun c z => z.2.2.2.1 (rhh.mp g2))⟩⟩⟩
  refine c_nodeOf E h0 hi ⟨by omega, by omega, ?_⟩
  have f3 := nd_rg w h0; have f2 := w.a8 (fr B i / 16).toNat
  rw [E.c12]
  refine ⟨by omega, ?_⟩
  rw [E.c10, E.c24]
  have ek : (nd B i * 16 + B 8 (fr B i / 16).toNat).toNat = (16 * nd B i + B 8 (fr B i / 16).toNat).toNat := by omega
  rw [ek]
  have hk : (16 * nd B i + B 8 (fr B i / 16).toNat).toNat < 256 := by omega
  have a6 := w.a6 (16 * nd B i + B 8 (fr B i / 16).toNat).toNat
  have a17 := w.a17 (B 6 (16 * nd B i + B 8 (fr B i / 16).toNat).toNat).toNat
  refine ⟨by omega, fun g3 => hn (fun c z => by have := z.2.2.2.2.1; have := z.2.2.2.2.2.1; omega), fun g3 => ⟨by omega, by omega, fun g4 => ?_, fun g4 => hn (fun c z => g4 (by have := z.2.2.2.2.2.2.2; rw [z.2.2.2.2.1] at this; exact this))⟩⟩
  obtain ⟨-, -, b0, b1, b2, b3⟩ := h.2.2.1 _ hk g3
  exact h1 _ ⟨by omega, g1, by omega, fun z => rhh.mpr z g2, rfl, b1.1, b3, g4⟩
theorem c_canMove {A B : AA} (h : iv B) (hr : Rel A B) (hf : Rf A B) {c : Int} (hc : isC B c) {post : Int → Prop} (h1 : cm B c → post 1) (h0 : ¬ cm B c → post 0) : zp_CT_canMoveInto A c post := by
  have w := h.1
  have E := hr.1
  have c1 := hc.lt w
  have a17 := w.a17 c.toNat; have a13 := w.a13 c.toNat
  unfold zp_CT_canMoveInto
  rw [E.c24]
  refine ⟨by omega, fun v ev => ⟨by omega, fun g => h0 (fun z => by have := z.2.1; omega), fun g => ?_⟩⟩
  have f1 := fr_rg w v
  refine c_frontOf h hr hf (by omega) (by omega) ⟨by omega, fun g1 => h0 (fun z => by have := z.2.2.1; rw [← ev] at this; omega), fun g1 => ?_⟩
  unfold zp_CI_hasRoom
  rw [E.c21]
  refine ⟨by omega, by omega, fun g2 => ⟨by omega, fun _ => h0 (fun z => by have := z.2.2.2; omega), fun q => absurd rfl q⟩, fun g2 => ⟨by omega, fun q => by omega, fun _ => h1 ⟨hc, by omega, by rw [← ev]; omega, by omega⟩⟩⟩
theorem c_flitToLeave {A B : AA} (h : iv B) (hr : Rel A B) (hf : Rf A B) {i : Int} (h0 : 0 ≤ i) (hi : i < 176) {post : Int → Prop} (h1 : cl B i → post (fr B i)) (hn : ¬ cl B i → post (-1)) : zp_CT_flitToLeave A i post := by
  have w := h.1
  have E := hr.1
  have f1 := fr_rg w i; have f3 := nd_rg w h0
  unfold zp_CT_flitToLeave
  refine c_frontOf h hr hf h0 hi ⟨by omega, fun g => hn (fun z => by have := z.1; omega), fun g => ?_⟩
  have hfo := fr_ok h h0 hi (by omega)
  have pk := w.p; have f2 := w.a8 (fr B i / 16).toNat
  refine ⟨by omega, by omega, ?_⟩
  rw [E.c12]
  exact c_nodeOf E h0 hi ⟨by omega, by omega, fun q => hn (fun z => q z.2), fun q => h1 ⟨by omega, q⟩⟩
