/-! inputs of different nodes: the order doesn't matter -/
def fs (f : AA → Int → AA) : Nat → AA → AA
  | 0, B => B
  | n + 1, B => f (fs f n B) (n : Int)
noncomputable def gs (P : Nat → Prop) (f : AA → Int → AA) : Nat → AA → AA
  | 0, B => B
  | n + 1, B => cs (P n) (f (gs P f n B) (n : Int)) (gs P f n B)
theorem gs_J {P : Nat → Prop} {f : AA → Int → AA} {J : AA → Prop} {M : Nat} (hJ : ∀ B i, J B → i < M → J (f B (i : Nat))) : ∀ n, n ≤ M → ∀ B, J B → J (gs P f n B) := by
  intro n
  induction n with
  | zero => intro _ B h; exact h
  | succ n ih =>
    intro hn B h
    rw [gs]
    by_cases g : P n
    · rw [cs_t g]; exact hJ _ _ (ih (by omega) B h) (by omega)
    · rw [cs_f g]; exact ih (by omega) B h
theorem gs_x {P : Nat → Prop} {f : AA → Int → AA} {J : AA → Prop} {M : Nat} (hJ : ∀ B i, J B → i < M → J (f B (i : Nat))) (x : Nat) (hx : x < M) : ∀ n, n ≤ M → (∀ i, i < n → P i → ∀ B, J B → f (f B (x : Nat)) (i : Nat) = f (f B (i : Nat)) (x : Nat)) → ∀ B, J B → gs P f n (f B x) = f (gs P f n B) x := by
  intro n
  induction n with
  | zero => intro _ _ B _; rfl
  | succ n ih =>
    intro hn hc B h
    rw [gs, gs, ih (by omega) (fun i hi => hc i (by omega)) B h]
    by_cases g : P n
    · rw [cs_t g, cs_t g]; exact hc n (by omega) g _ (gs_J hJ n (by omega) B h)
    · rw [cs_f g, cs_f g]
theorem gs_s {P Q : Nat → Prop} {f : AA → Int → AA} {J : AA → Prop} {M : Nat} (hJ : ∀ B i, J B → i < M → J (f B (i : Nat))) (hc : ∀ i j, i < M → j < M → P i → Q j → ¬ Q i ∧ ∀ B, J B → f (f B (i : Nat)) (j : Nat) = f (f B (j : Nat)) (i : Nat)) (hd : ∀ i, i < M → P i → ¬ Q i) : ∀ n, n ≤ M → ∀ B, J B → gs Q f n (gs P f n B) = gs (fun i => P i ∨ Q i) f n B := by
  intro n
  induction n with
  | zero => intro _ B _; rfl
  | succ n ih =>
    intro hn B h
    have hY := gs_J (P := P) hJ n (by omega) B h
    by_cases g : P n
    · have nq := hd n (by omega) g
      rw [gs, cs_f nq, gs, cs_t g, gs, cs_t (.inl g), ← ih (by omega) B h]
      exact gs_x hJ n (by omega) n (by omega) (fun i hi qi B hB => ((hc n i (by omega) (by omega) g qi).2 B hB)) _ hY
    · by_cases q : Q n
      · rw [gs, cs_t q, gs, cs_f g, gs, cs_t (.inr q), ih (by omega) B h]
      · rw [gs, cs_f q, gs, cs_f g, gs, cs_f (by rintro (z | z); exact g z; exact q z), ih (by omega) B h]
theorem gs_c {P Q : Nat → Prop} {f : AA → Int → AA} : ∀ n, (∀ i, i < n → (P i ↔ Q i)) → ∀ B, gs P f n B = gs Q f n B := by
  intro n
  induction n with
  | zero => intro _ B; rfl
  | succ n ih =>
    intro h B
    rw [gs, gs, ih (fun i hi => h i (by omega))]
    by_cases g : P n
    · rw [cs_t g, cs_t ((h n (by omega)).mp g)]
    · rw [cs_f g, cs_f (fun z => g ((h n (by omega)).mpr z))]
/-- node by node is as good as input by input -/
theorem gs_nodes {G : Nat → Nat → Prop} {f : AA → Int → AA} {J : AA → Prop} {M : Nat} (hJ : ∀ B i, J B → i < M → J (f B (i : Nat))) (hu : ∀ a b i, G a i → G b i → a = b) (hc : ∀ a b i j, a ≠ b → i < M → j < M → G a i → G b j → ∀ B, J B → f (f B (i : Nat)) (j : Nat) = f (f B (j : Nat)) (i : Nat)) : ∀ N B, J B → fs (fun B n => gs (G n.toNat) f M B) N B = gs (fun i => ∃ n, n < N ∧ G n i) f M B := by
  intro N
  induction N with
  | zero =>
    intro B _
    have : ∀ n, gs (fun i => ∃ n, n < 0 ∧ G n i) f n B = B := by
      intro n
      induction n with
      | zero => rfl
      | succ n ih => rw [gs, cs_f (fun ⟨_, h, _⟩ => by omega), ih]
    rw [this]; rfl
  | succ N ih =>
    intro B h
    rw [fs, ih B h]
    simp only [Int.toNat_natCast]
    rw [gs_s hJ (fun i j hi hj ⟨n, hn, gi⟩ gj => ⟨fun z => by have := hu _ _ _ gi z; omega, hc n N i j (by omega) hi hj gi gj⟩) (fun i _ ⟨n, hn, gi⟩ z => by have := hu _ _ _ gi z; omega) M (Nat.le_refl M) B h]
    refine gs_c _ (fun i _ => ⟨?_, ?_⟩) B
    · rintro (⟨n, hn, g⟩ | g)
      · exact ⟨n, by omega, g⟩
      · exact ⟨N, by omega, g⟩
    · rintro ⟨n, hn, g⟩
      by_cases e : n = N
      · subst e; exact .inr g
      · exact .inl ⟨n, by omega, g⟩
theorem gs_all {P : Nat → Prop} {f : AA → Int → AA} {J : AA → Prop} {M : Nat} (hJ : ∀ B i, J B → i < M → J (f B (i : Nat))) (hn : ∀ B i, J B → i < M → ¬ P i → f B (i : Nat) = B) : ∀ n, n ≤ M → ∀ B, J B → gs P f n B = fs f n B := by
  intro n
  induction n with
  | zero => intro _ B _; rfl
  | succ n ih =>
    intro hM B h
    have hY := gs_J (P := P) hJ n (by omega) B h
    rw [gs, fs, ← ih (by omega) B h]
    by_cases g : P n
    · rw [cs_t g]
    · rw [cs_f g, hn _ n hY (by omega) g]
/-! asking commutes -/
theorem hb_as {B : AA} {i j : Int} (hij : i ≠ j) (hj : 0 ≤ j) (n : Int) : hb (asI B i) j n ↔ hb B j n := by
  by_cases g : wt B i (wc B i)
  · have f7 := g.2.2.2.2.2.2.2
    constructor
    · rintro ⟨d, hd, e⟩
      rw [asI_17 g] at e
      split at e
      · exact absurd e hij
      · exact ⟨d, hd, e⟩
    · rintro ⟨d, hd, e⟩
      refine ⟨d, hd, ?_⟩
      rw [asI_17 g, if_neg]
      · exact e
      · intro z; rw [← z, e] at f7; omega
  · have : asI B i = B := by unfold asI; rw [cs_f g]
    rw [this]
theorem wc_as (B : AA) (i j : Int) : wc (asI B i) j = wc B j := by
  unfold wc; rw [asI_fr, asI_nd, asI_r _ _ (by omega), asI_r _ _ (by omega)]
theorem wt_as {B : AA} (h : iv B) {i j : Int} (h0 : 0 ≤ i) (hi : i < 176) (j0 : 0 ≤ j) (hj : j < 176) (hij : i ≠ j) (hn : nd B i ≠ nd B j) (g : wt B i (wc B i)) : wt (asI B i) j (wc B j) ↔ wt B j (wc B j) := by
  obtain ⟨o1, o2, -, -⟩ := wt_ok h h0 hi g
  have w := h.1
  have n1 := nd_rg w j0; have e8 := w.a8 (fr B j / 16).toNat
  unfold wt
  rw [asI_fr, asI_nd]
  unfold hh
  rw [hb_as hij j0, asI_r _ _ (by omega), asI_r _ _ (by omega), asI_r _ _ (by omega), asI_r _ _ (by omega)]
  have key : 0 ≤ wc B j → (wc B j).toNat ≠ (wc B i).toNat := fun q z => by
    have hk : (16 * nd B j + B 8 (fr B j / 16).toNat).toNat < 256 := by omega
    obtain ⟨-, -, -, b1, b2, -⟩ := h.2.2.1 _ hk (by show wc B j ≠ -1; omega)
    have q2 := o1.lt w
    have z2 : wc B j = wc B i := by omega
    have b2 : B 1 (wc B j / 4).toNat = _ := b2
    rw [z2, o2] at b2; omega
  constructor
  · rintro ⟨a1, a2, a3, a4, a5, a6, a7, a8⟩
    rw [asI_17 g, if_neg (key a6)] at a8
    exact ⟨a1, a2, a3, a4, rfl, a6, a7, a8⟩
  · rintro ⟨a1, a2, a3, a4, a5, a6, a7, a8⟩
    refine ⟨a1, a2, a3, a4, rfl, a6, a7, ?_⟩
    rw [asI_17 g, if_neg (key a6)]; exact a8
theorem zU2 {B : AA} {a b : Nat} {x y u v : Int} (h : a ≠ b) : zU (zU (zU (zU B 17 a x) 18 a y) 17 b u) 18 b v = zU (zU (zU (zU B 17 b u) 18 b v) 17 a x) 18 a y := by
  funext k q
  simp only [zU_e]
  by_cases k17 : k = 17
  · subst k17
    by_cases qa : q = a
    · subst qa; simp [h]
    · simp [qa]
  · by_cases k18 : k = 18
    · subst k18
      by_cases qa : q = a
      · subst qa; simp [h]
      · simp [qa]
    · simp [k17, k18]
theorem as_f {B : AA} {i : Int} (g : ¬ wt B i (wc B i)) : asI B i = B := by unfold asI; rw [cs_f g]
theorem as_t {B : AA} {i : Int} (g : wt B i (wc B i)) : asI B i = zU (zU B 17 (wc B i).toNat i) 18 (wc B i).toNat (fr B i / 16) := by unfold asI; rw [cs_t g]
theorem le_f {B : AA} {i : Int} (g : ¬ cl B i) : leI B i = B := by unfold leI; rw [cs_f g]
theorem com_as {B : AA} (h : iv B) {i j : Int} (h0 : 0 ≤ i) (hi : i < 176) (j0 : 0 ≤ j) (hj : j < 176) (hij : i ≠ j) (hn : nd B i ≠ nd B j) : asI (asI B i) j = asI (asI B j) i := by
  by_cases g : wt B i (wc B i)
  case neg =>
    have e : asI B i = B := by unfold asI; rw [cs_f g]
    rw [e]
    by_cases g2 : wt B j (wc B j)
    · have := wt_as h j0 hj h0 hi (Ne.symm hij) (Ne.symm hn) g2
      rw [as_f (B := asI B j) (by rw [wc_as]; exact fun z => g (this.mp z))]
    · have e2 : asI B j = B := by unfold asI; rw [cs_f g2]
      rw [e2, e]
  by_cases g2 : wt B j (wc B j)
  case neg =>
    have e : asI B j = B := by unfold asI; rw [cs_f g2]
    rw [e]
    have := wt_as h h0 hi j0 hj hij hn g
    rw [as_f (B := asI B i) (by rw [wc_as]; exact fun z => g2 (this.mp z))]
  have t1 := wt_as h h0 hi j0 hj hij hn g
  have t2 := wt_as h j0 hj h0 hi (Ne.symm hij) (Ne.symm hn) g2
  have e1 : asI (asI B i) j = zU (zU (asI B i) 17 (wc B j).toNat j) 18 (wc B j).toNat (fr B j / 16) := by
    rw [as_t (B := asI B i) (by rw [wc_as]; exact t1.mpr g2), wc_as, asI_fr]
  have e2 : asI (asI B j) i = zU (zU (asI B j) 17 (wc B i).toNat i) 18 (wc B i).toNat (fr B i / 16) := by
    rw [as_t (B := asI B j) (by rw [wc_as]; exact t2.mpr g), wc_as, asI_fr]
  have e3 : asI B i = zU (zU B 17 (wc B i).toNat i) 18 (wc B i).toNat (fr B i / 16) := by unfold asI; rw [cs_t g]
  have e4 : asI B j = zU (zU B 17 (wc B j).toNat j) 18 (wc B j).toNat (fr B j / 16) := by unfold asI; rw [cs_t g2]
  rw [e1, e2, e3, e4]
  refine zU2 ?_
  obtain ⟨o1, o2, -, -⟩ := wt_ok h h0 hi g
  obtain ⟨o3, o4, -, -⟩ := wt_ok h j0 hj g2
  have := o1.lt h.1; have := o3.lt h.1
  intro z
  have z2 : wc B i = wc B j := by omega
  rw [z2, o4] at o2; exact hn o2.symm
/-! leaving commutes -/
theorem le_r (B : AA) (i : Int) {k : Nat} (h : k ≠ 0 ∧ k ≠ 11 ∧ k ≠ 12 ∧ k ≠ 10 ∧ k ≠ 13 ∧ k ≠ 14 ∧ k ≠ 15) : leI B i k = B k := by
  by_cases g : cl B i
  · rw [le_t g, lv_r _ _ _ (by omega), tk_r _ _ _ (by omega)]
  · unfold leI; rw [cs_f g]
theorem le_0 (B : AA) (i : Int) {j : Nat} (h : j ≠ 7 ∧ j ≠ 8) : leI B i 0 j = B 0 j := by
  by_cases g : cl B i
  · rw [le_t g, lv0 _ _ _ h, tk_r _ _ _ (by omega)]
  · unfold leI; rw [cs_f g]
theorem le_10 {B : AA} {i : Int} (g : cl B i) (q : Nat) : leI B i 10 q = if i < 16 ∧ q = (fr B i / 16).toNat then B 10 q + 1 else B 10 q := by rw [le_t g, lv_r _ _ _ (by omega), tk10]
theorem le_13 {B : AA} {i : Int} (g : cl B i) (c : Nat) : leI B i 13 c = if 16 ≤ i ∧ c = (i - 16).toNat then B 13 c - 1 else B 13 c := by rw [le_t g, lv_r _ _ _ (by omega), tk13]
theorem le_14 {B : AA} (w : wf B) {i : Int} (g : cl B i) (c k : Nat) (hk : k < 4) : leI B i 14 (4 * c + k) = if 16 ≤ i ∧ c = (i - 16).toNat ∧ (k : Int) < B 13 c - 1 then B 14 (4 * c + k + 1) else B 14 (4 * c + k) := by
  rw [le_t g, lv_r _ _ _ (by omega), tk14 _ _ _ (fun _ => (w.a13 _).2) _ _ hk]
theorem le_15 {B : AA} (w : wf B) {i : Int} (g : cl B i) (c k : Nat) (hk : k < 4) : leI B i 15 (4 * c + k) = if 16 ≤ i ∧ c = (i - 16).toNat ∧ (k : Int) < B 13 c - 1 then B 15 (4 * c + k + 1) else B 15 (4 * c + k) := by
  rw [le_t g, lv_r _ _ _ (by omega), tk15 _ _ _ (fun _ => (w.a13 _).2) _ _ hk]
theorem le_11 {B : AA} {i : Int} (g : cl B i) (q : Nat) : leI B i 11 q = if q = (fr B i / 16).toNat then B 11 q + 1 else B 11 q := by
  rw [le_t g, lv11, tk_r _ _ _ (by omega)]; split
  · subst_vars; rfl
  · rfl
theorem lv12 (B : AA) (p : Nat) (f : Int) (q : Nat) : lv1 B p f 12 q = cs (f % 16 = B 9 p - 1 ∧ q = p) (B 0 5) (B 12 q) := by
  unfold lv1
  by_cases g : f % 16 = B 9 p - 1
  · rw [cs_t g, zU_n _ _ (by omega), zU_e]
    by_cases e : q = p
    · rw [if_pos ⟨rfl, e⟩, cs_t ⟨g, e⟩]
    · rw [if_neg (fun z => e z.2), cs_f (fun z => e z.2), zU_n _ _ (by omega), zU_n _ _ (by omega)]
  · rw [cs_f g, cs_f (fun z => g z.1), zU_n _ _ (by omega), zU_n _ _ (by omega)]
theorem le_12 {B : AA} {i : Int} (g : cl B i) (q : Nat) : leI B i 12 q = cs (tl B (fr B i) ∧ q = (fr B i / 16).toNat) (B 0 5) (B 12 q) := by
  rw [le_t g, lv12, tk_r _ _ _ (by omega), tk_r _ _ _ (by omega), tk_r _ _ _ (by omega)]; rfl
theorem le_07 {B : AA} {i : Int} (g : cl B i) : leI B i 0 7 = B 0 7 + 1 := by rw [le_t g, lv07, tk_r _ _ _ (by omega)]
theorem le_08 {B : AA} {i : Int} (g : cl B i) : leI B i 0 8 = B 0 8 + cs (tl B (fr B i)) 1 0 := by
  rw [le_t g, lv08, tk_r _ _ _ (by omega), tk_r _ _ _ (by omega)]; rfl
theorem fr_le {B : AA} (h : iv B) {i j : Int} (h0 : 0 ≤ i) (hi : i < 176) (j0 : 0 ≤ j) (hij : i ≠ j) : fr (leI B i) j = fr B j := by
  by_cases g : cl B i
  case neg =>
    have e : leI B i = B := by unfold leI; rw [cs_f g]
    rw [e]
  have w := h.1
  have eq : q0 (leI B i) j = q0 B j := q_same (le_0 _ _ (by omega)) (le_r _ _ (by omega)) (le_r _ _ (by omega)) (fun q h7 => by
    rw [le_10 g, if_neg]
    rintro ⟨z1, z2⟩
    obtain ⟨p, p0, -, p7, -, -, p1, -⟩ := fr_q w z1 g.1
    rw [p1] at z2
    simp only [Int.toNat_natCast] at z2
    subst z2; exact hij (by rw [← h7, p7]))
  unfold fr
  rw [eq]
  by_cases gj : j < 16
  · rw [if_pos gj, if_pos gj]
    by_cases z : q0 B j < 0
    · rw [if_pos z, if_pos z]
    · rw [if_neg z, if_neg z, le_10 g, if_neg]
      rintro ⟨z1, z2⟩
      obtain ⟨p, p0, -, p7, -, -, p1, -⟩ := fr_q w z1 g.1
      rcases qf_np w j with y | ⟨p', y0, -, y7, -⟩
      · omega
      · rw [p1, y0] at z2
        simp only [Int.toNat_natCast] at z2
        subst z2; exact hij (by rw [← p7, y7])
  · rw [if_neg gj, if_neg gj, le_0 _ _ (by omega)]
    have nd2 : ¬ (16 ≤ i ∧ (j - 16).toNat = (i - 16).toNat) := by omega
    have e4 : (4 * (j - 16)).toNat = 4 * (j - 16).toNat + 0 := by omega
    have x13 : leI B i 13 (j - 16).toNat = B 13 (j - 16).toNat := by rw [le_13 g, if_neg nd2]
    have x14 : leI B i 14 (4 * (j - 16).toNat + 0) = B 14 (4 * (j - 16).toNat + 0) := by rw [le_14 w g _ _ (by omega), if_neg (fun z => nd2 ⟨z.1, z.2.1⟩)]
    have x15 : leI B i 15 (4 * (j - 16).toNat + 0) = B 15 (4 * (j - 16).toNat + 0) := by rw [le_15 w g _ _ (by omega), if_neg (fun z => nd2 ⟨z.1, z.2.1⟩)]
    rw [e4, x13, x14, x15]
theorem cl_le {B : AA} (h : iv B) {i j : Int} (h0 : 0 ≤ i) (hi : i < 176) (j0 : 0 ≤ j) (hij : i ≠ j) : cl (leI B i) j ↔ cl B j := by
  unfold cl
  rw [fr_le h h0 hi j0 hij, nd_c (le_r _ _ (by omega)), le_r _ _ (by omega)]
theorem ite_sw {P Q : Prop} {a b : Int} (ip : Decidable P) (iq : Decidable Q) : (if P then (if Q then a + 1 else a) + 1 else (if Q then a + 1 else a)) = (if Q then (if P then a + 1 else a) + 1 else (if P then a + 1 else a)) := by
  split <;> split <;> rfl
theorem com_h14 {B : AA} (w : wf B) {i j : Int} (g : cl B i) (g2 : cl B j) (gi : cl (leI B j) i) (gj : cl (leI B i) j) (wi : wf (leI B i)) (wj : wf (leI B j)) (c r : Nat) (hr : r < 4) (b : ¬ (16 ≤ j ∧ c = (j - 16).toNat)) : leI (leI B i) j 14 (4 * c + r) = leI (leI B j) i 14 (4 * c + r) := by
  have a13 := w.a13 c
  have y13 : leI B j 13 c = B 13 c := by rw [le_13 g2, if_neg b]
  have yk : ∀ s, s < 4 → leI B j 14 (4 * c + s) = B 14 (4 * c + s) := fun s hs => by rw [le_14 w g2 _ _ hs, if_neg (fun z => b ⟨z.1, z.2.1⟩)]
  have l1 : leI (leI B i) j 14 (4 * c + r) = leI B i 14 (4 * c + r) := by rw [le_14 wi gj _ _ hr, if_neg (fun z => b ⟨z.1, z.2.1⟩)]
  rw [l1, le_14 w g _ _ hr, le_14 wj gi _ _ hr, y13, yk r hr]
  by_cases a : 16 ≤ i ∧ c = (i - 16).toNat ∧ (r : Int) < B 13 c - 1
  · rw [if_pos a, if_pos a, Nat.add_assoc, yk _ (by omega)]
  · rw [if_neg a, if_neg a]
theorem com_h15 {B : AA} (w : wf B) {i j : Int} (g : cl B i) (g2 : cl B j) (gi : cl (leI B j) i) (gj : cl (leI B i) j) (wi : wf (leI B i)) (wj : wf (leI B j)) (c r : Nat) (hr : r < 4) (b : ¬ (16 ≤ j ∧ c = (j - 16).toNat)) : leI (leI B i) j 15 (4 * c + r) = leI (leI B j) i 15 (4 * c + r) := by
  have a13 := w.a13 c
  have y13 : leI B j 13 c = B 13 c := by rw [le_13 g2, if_neg b]
  have yk : ∀ s, s < 4 → leI B j 15 (4 * c + s) = B 15 (4 * c + s) := fun s hs => by rw [le_15 w g2 _ _ hs, if_neg (fun z => b ⟨z.1, z.2.1⟩)]
  have l1 : leI (leI B i) j 15 (4 * c + r) = leI B i 15 (4 * c + r) := by rw [le_15 wi gj _ _ hr, if_neg (fun z => b ⟨z.1, z.2.1⟩)]
  rw [l1, le_15 w g _ _ hr, le_15 wj gi _ _ hr, y13, yk r hr]
  by_cases a : 16 ≤ i ∧ c = (i - 16).toNat ∧ (r : Int) < B 13 c - 1
  · rw [if_pos a, if_pos a, Nat.add_assoc, yk _ (by omega)]
  · rw [if_neg a, if_neg a]
theorem com_le {B : AA} (h : iv B) {i j : Int} (h0 : 0 ≤ i) (hi : i < 176) (j0 : 0 ≤ j) (hj : j < 176) (hij : i ≠ j) : leI (leI B i) j = leI (leI B j) i := by
  have c1 := cl_le h h0 hi j0 hij
  have c2 := cl_le h j0 hj h0 (Ne.symm hij)
  by_cases g : cl B i
  case neg =>
    have e : leI B i = B := by unfold leI; rw [cs_f g]
    have e2 : leI (leI B j) i = leI B j := le_f (fun z => g (c2.mp z))
    rw [e, e2]
  by_cases g2 : cl B j
  case neg =>
    have e : leI B j = B := by unfold leI; rw [cs_f g2]
    have e2 : leI (leI B i) j = leI B i := le_f (fun z => g2 (c1.mp z))
    rw [e, e2]
  have w := h.1
  have wi := (iv_le h h0 hi).1; have wj := (iv_le h j0 hj).1
  have gj := c1.mpr g2; have gi := c2.mpr g
  have f1 := fr_le h h0 hi j0 hij; have f2 := fr_le h j0 hj h0 (Ne.symm hij)
  have t1 : ∀ x, tl (leI B i) x = tl B x := tl_c (le_r _ _ (by omega))
  have t2 : ∀ x, tl (leI B j) x = tl B x := tl_c (le_r _ _ (by omega))
  funext k q
  by_cases k0 : k = 0
  · subst k0
    by_cases q7 : q = 7
    · subst q7; rw [le_07 gj, le_07 g, le_07 gi, le_07 g2]
    · by_cases q8 : q = 8
      · subst q8; rw [le_08 gj, le_08 g, le_08 gi, le_08 g2, f1, f2, t1, t2]; omega
      · rw [le_0 _ _ ⟨q7, q8⟩, le_0 _ _ ⟨q7, q8⟩, le_0 _ _ ⟨q7, q8⟩, le_0 _ _ ⟨q7, q8⟩]
  by_cases k11 : k = 11
  · subst k11; rw [le_11 gj, le_11 g, le_11 gi, le_11 g2, f1, f2]; split <;> split <;> rfl
  by_cases k12 : k = 12
  · subst k12; rw [le_12 gj, le_12 g, le_12 gi, le_12 g2, f1, f2, t1, t2, le_0 _ _ (by omega), le_0 _ _ (by omega)]
    by_cases a : tl B (fr B i) ∧ q = (fr B i / 16).toNat
    · rw [cs_t a, cs_t a]
      by_cases b : tl B (fr B j) ∧ q = (fr B j / 16).toNat
      · rw [cs_t b]
      · rw [cs_f b]
    · rw [cs_f a, cs_f a]
  by_cases k10 : k = 10
  · subst k10; rw [le_10 gj, le_10 g, le_10 gi, le_10 g2, f1, f2]; split <;> split <;> rfl
  by_cases k13 : k = 13
  · subst k13; rw [le_13 gj, le_13 g, le_13 gi, le_13 g2]; split <;> split <;> rfl
  have nn : ∀ c : Nat, ¬ ((16 ≤ i ∧ c = (i - 16).toNat) ∧ (16 ≤ j ∧ c = (j - 16).toNat)) := fun c => by omega
  by_cases k14 : k = 14
  · subst k14
    obtain ⟨c, r, hr, rfl⟩ : ∃ c r : Nat, r < 4 ∧ q = 4 * c + r := ⟨q / 4, q % 4, by omega, by omega⟩
    by_cases b : 16 ≤ j ∧ c = (j - 16).toNat
    · exact (com_h14 w g2 g gj gi wj wi c r hr (fun z => nn c ⟨z, b⟩)).symm
    · exact com_h14 w g g2 gi gj wi wj c r hr b
  by_cases k15 : k = 15
  · subst k15
    obtain ⟨c, r, hr, rfl⟩ : ∃ c r : Nat, r < 4 ∧ q = 4 * c + r := ⟨q / 4, q % 4, by omega, by omega⟩
    by_cases b : 16 ≤ j ∧ c = (j - 16).toNat
    · exact (com_h15 w g2 g gj gi wj wi c r hr (fun z => nn c ⟨z, b⟩)).symm
    · exact com_h15 w g g2 gi gj wi wj c r hr b
  · have hk : k ≠ 0 ∧ k ≠ 11 ∧ k ≠ 12 ∧ k ≠ 10 ∧ k ≠ 13 ∧ k ≠ 14 ∧ k ≠ 15 := ⟨k0, k11, k12, k10, k13, k14, k15⟩
    rw [le_r _ _ hk, le_r _ _ hk, le_r _ _ hk, le_r _ _ hk]
