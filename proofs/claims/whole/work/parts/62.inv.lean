/-! the net's invariants through asking, moving, leaving -/
theorem qf_no {B : AA} {i : Int} : ∀ n p, qf B i n p = -1 → ∀ q, p ≤ q → q < p + n → B 7 q = i → B 10 q = B 9 q := by
  intro n
  induction n with
  | zero => intro p _ q _ _; omega
  | succ n ih =>
    intro p e q h1 h2 e7
    unfold qf at e
    split at e
    · omega
    · rename_i g
      by_cases e2 : q = p
      · subst e2; exact Classical.byContradiction fun w => g ⟨e7, w⟩
      · exact ih (p + 1) e q (by omega) (by omega) e7
theorem qf_is {B : AA} {i : Int} : ∀ n p (v : Nat), qf B i n p = v → p ≤ v ∧ v < p + n ∧ B 7 v = i ∧ B 10 v ≠ B 9 v ∧ ∀ q, p ≤ q → q < v → B 7 q = i → B 10 q = B 9 q := by
  intro n
  induction n with
  | zero => intro p v e; have e : (-1 : Int) = v := e; omega
  | succ n ih =>
    intro p v e
    unfold qf at e
    split at e
    · rename_i g
      have : p = v := by omega
      subst this
      exact ⟨by omega, by omega, g.1, g.2, fun q _ _ => by omega⟩
    · rename_i g
      obtain ⟨a, b, c, d, f⟩ := ih (p + 1) v e
      refine ⟨by omega, by omega, c, d, fun q h1 h2 e7 => ?_⟩
      by_cases e2 : q = p
      · subst e2; exact Classical.byContradiction fun w => g ⟨e7, w⟩
      · exact f q (by omega) h2 e7
theorem qf_of {B : AA} {i : Int} : ∀ n p (v : Nat), p ≤ v → v < p + n → B 7 v = i → B 10 v ≠ B 9 v → (∀ q, p ≤ q → q < v → B 7 q = i → B 10 q = B 9 q) → qf B i n p = v := by
  intro n
  induction n with
  | zero => intro p v h1 h2; omega
  | succ n ih =>
    intro p v h1 h2 h3 h4 h5
    unfold qf
    by_cases e : p = v
    · subst e; rw [if_pos ⟨h3, h4⟩]
    · rw [if_neg (fun g => g.2 (h5 p (by omega) (by omega) g.1))]
      exact ih (p + 1) v (by omega) (by omega) h3 h4 (fun q a b => h5 q (by omega) b)
theorem qf_c {B B' : AA} {i : Int} (h : ∀ q : Nat, (B' 7 q = i ∧ B' 10 q ≠ B' 9 q) ↔ (B 7 q = i ∧ B 10 q ≠ B 9 q)) : ∀ n p, qf B' i n p = qf B i n p := by
  intro n
  induction n with
  | zero => intro p; rfl
  | succ n ih =>
    intro p
    unfold qf
    by_cases g : B 7 p = i ∧ B 10 p ≠ B 9 p
    · rw [if_pos g, if_pos ((h p).mpr g)]
    · rw [if_neg g, if_neg (fun w => g ((h p).mp w)), ih]
theorem qf_np {B : AA} (h : wf B) (i : Int) : q0 B i = -1 ∨ ∃ p : Nat, q0 B i = p ∧ (p : Int) < B 0 4 ∧ B 7 p = i ∧ B 10 p < B 9 p ∧ ∀ q, q < p → B 7 q = i → B 10 q = B 9 q := by
  rcases qf_ge B i (B 0 4).toNat 0 with e | ⟨e1, e2⟩
  · exact .inl e
  · right
    have hp := h.p
    have h1 : (0 : Int) ≤ q0 B i := by simpa using e1
    obtain ⟨p, ep⟩ : ∃ p : Nat, q0 B i = p := ⟨(q0 B i).toNat, by omega⟩
    obtain ⟨a, b, c, d, f⟩ := qf_is _ _ p ep
    have := h.a10 p
    exact ⟨p, ep, by omega, c, by omega, fun q hq => f q (by omega) hq⟩
theorem fr_q {B : AA} (h : wf B) {i : Int} (hi : i < 16) (hf : 0 ≤ fr B i) : ∃ p : Nat, q0 B i = p ∧ (p : Int) < B 0 4 ∧ B 7 p = i ∧ B 10 p < B 9 p ∧ fr B i = 16 * p + B 10 p ∧ fr B i / 16 = p ∧ fr B i % 16 = B 10 p ∧ ∀ q, q < p → B 7 q = i → B 10 q = B 9 q := by
  have e : fr B i = if q0 B i < 0 then -1 else 16 * q0 B i + B 10 (q0 B i).toNat := by unfold fr; rw [if_pos hi]
  rcases qf_np h i with g | ⟨p, ep, a, b, c, d⟩
  · rw [if_pos (by omega)] at e; omega
  · rw [ep, if_neg (by omega)] at e
    simp only [Int.toNat_natCast] at e
    have := h.a10 p; have := h.a9 p
    exact ⟨p, ep, a, b, c, e, by omega, by omega, d⟩
theorem fr_b {B : AA} {i : Int} (hi : 16 ≤ i) (hf : 0 ≤ fr B i) : B 13 (i - 16).toNat ≠ 0 ∧ B 15 (4 * (i - 16)).toNat ≠ B 0 5 ∧ fr B i = B 14 (4 * (i - 16).toNat) := by
  unfold fr at hf ⊢
  rw [if_neg (by omega)] at hf ⊢
  have e : (4 * (i - 16)).toNat = 4 * (i - 16).toNat := by omega
  split at hf
  · omega
  · rename_i g
    rw [if_neg g, e]
    exact ⟨fun w => g (.inl w), fun w => g (.inr (by rw [← e] at w; exact w)), rfl⟩
def iH2 (B : AA) : Prop := ∀ c : Nat, c < 160 → B 17 c ≠ -1 → isC B c ∧ inp B (B 17 c) ∧ 0 ≤ B 18 c ∧ B 18 c < B 0 4 ∧ B 1 (c / 4) = nd B (B 17 c)
def iv (B : AA) : Prop := wf B ∧ iL B ∧ iR B ∧ iP B ∧ iB B ∧ iH2 B ∧ iG B
theorem fr_ok {B : AA} (h : iv B) {i : Int} (h0 : 0 ≤ i) (hi : i < 176) (hf : 0 ≤ fr B i) : inp B i ∧ fr B i / 16 < B 0 4 ∧ fr B i % 16 < B 9 (fr B i / 16).toNat ∧ fr B i < 6400 := by
  obtain ⟨w, hL, hR, hP, hB, hH, hG⟩ := h
  have hpk := w.p
  by_cases g : i < 16
  · obtain ⟨p, e0, a, b, c, d, e, f, -⟩ := fr_q w g hf
    have := hP.1 p a
    rw [f, e]
    simp only [Int.toNat_natCast]
    exact ⟨⟨h0, .inl ⟨g, by omega⟩⟩, a, c, by omega⟩
  · obtain ⟨a, -, b⟩ := fr_b (by omega) hf
    have := w.a13 (i - 16).toNat
    obtain ⟨c1, c2, c3, -⟩ := hB (i - 16).toNat 0 (by omega) (by omega)
    rw [Nat.add_zero, ← b] at c2 c3
    exact ⟨⟨h0, .inr ⟨by omega, by have e : (((i - 16).toNat : Nat) : Int) = i - 16 := by omega
                                   rw [e] at c1; exact c1⟩⟩, c2, c3, by omega⟩
theorem fo_iv {B : AA} (h : iv B) (i : Int) (h0 : 0 ≤ i) (hi : i < 176) : fo B i := fun g => (fr_ok h h0 hi g).2.1
/-- the way that an input wants -/
theorem wt_ok {B : AA} (h : iv B) {i c : Int} (h0 : 0 ≤ i) (hi : i < 176) (hw : wt B i c) : isC B c ∧ B 1 (c / 4).toNat = nd B i ∧ c = wc B i ∧ inp B i := by
  obtain ⟨a1, a2, a3, a4, a5, a6, a7, a8⟩ := hw
  have w := h.1
  have n1 := nd_rg w h0; have e8 := w.a8 (fr B i / 16).toNat
  have hk : (16 * nd B i + B 8 (fr B i / 16).toNat).toNat < 256 := by omega
  obtain ⟨-, -, -, b1, b2, -⟩ := h.2.2.1 _ hk (by omega)
  rw [← a5] at b1 b2
  exact ⟨b1, by rw [b2]; omega, a5, (fr_ok h h0 hi a1).1⟩
theorem fr_c {B B' : AA} (e0 : B' 0 4 = B 0 4) (e5 : B' 0 5 = B 0 5) (e7 : B' 7 = B 7) (e9 : B' 9 = B 9) (e10 : B' 10 = B 10) (e13 : B' 13 = B 13) (e14 : B' 14 = B 14) (e15 : B' 15 = B 15) (i : Int) : fr B' i = fr B i := by
  have e : q0 B' i = q0 B i := by
    show qf _ _ _ _ = qf _ _ _ _
    rw [e0]; exact qf_c (fun q => by rw [e7, e9, e10]) _ _
  unfold fr; rw [e, e5, e10, e13, e14, e15]
theorem asI_r (B : AA) (i : Int) {k : Nat} (h : k ≠ 17 ∧ k ≠ 18) : asI B i k = B k := by
  unfold asI
  by_cases g : wt B i (wc B i)
  · rw [cs_t g, zU_n _ _ h.2, zU_n _ _ h.1]
  · rw [cs_f g]
theorem asI_fr (B : AA) (i j : Int) : fr (asI B i) j = fr B j := fr_c (by rw [asI_r _ _ (by omega)]) (by rw [asI_r _ _ (by omega)]) (asI_r _ _ (by omega)) (asI_r _ _ (by omega)) (asI_r _ _ (by omega)) (asI_r _ _ (by omega)) (asI_r _ _ (by omega)) (asI_r _ _ (by omega)) j
theorem asI_nd (B : AA) (i j : Int) : nd (asI B i) j = nd B j := by unfold nd; rw [asI_r _ _ (by omega)]
theorem iL_c {B B' : AA} (e0 : B' 0 2 = B 0 2) (e3 : B' 0 3 = B 0 3) (a1 : B' 1 = B 1) (a2 : B' 2 = B 2) (a3 : B' 3 = B 3) (a5 : B' 5 = B 5) (h : iL B) : iL B' := by
  unfold iL at *; rw [e0, e3, a1, a2, a3, a5]; exact h
theorem iR_c {B B' : AA} (e0 : B' 0 2 = B 0 2) (e3 : B' 0 3 = B 0 3) (a1 : B' 1 = B 1) (a3 : B' 3 = B 3) (a4 : B' 4 = B 4) (a6 : B' 6 = B 6) (h : iR B) : iR B' := by
  unfold iR isC at *; rw [e0, e3, a1, a3, a4, a6]; exact h
theorem iP_c {B B' : AA} (e0 : B' 0 2 = B 0 2) (e3 : B' 0 4 = B 0 4) (a1 : B' 7 = B 7) (a2 : B' 8 = B 8) (a3 : B' 9 = B 9) (a5 : B' 10 = B 10) (a6 : B' 11 = B 11) (h : iP B) : iP B' := by
  unfold iP at *; rw [e0, e3, a1, a2, a3, a5, a6]; exact h
theorem iB_c {B B' : AA} (e0 : B' 0 3 = B 0 3) (e3 : B' 0 4 = B 0 4) (e5 : B' 0 5 = B 0 5) (a0 : B' 3 = B 3) (a1 : B' 9 = B 9) (a2 : B' 13 = B 13) (a3 : B' 14 = B 14) (a5 : B' 15 = B 15) (h : iB B) : iB B' := by
  unfold iB isC at *; rw [e0, e3, e5, a0, a1, a2, a3, a5]; exact h
theorem nd_c {B B' : AA} (e : B' 2 = B 2) (i : Int) : nd B' i = nd B i := by unfold nd; rw [e]
theorem iH_c {B B' : AA} (e2 : B' 0 2 = B 0 2) (e3 : B' 0 3 = B 0 3) (e4 : B' 0 4 = B 0 4) (a1 : B' 1 = B 1) (a2 : B' 2 = B 2) (a3 : B' 3 = B 3) (a17 : B' 17 = B 17) (a18 : B' 18 = B 18) (h : iH2 B) : iH2 B' := by
  unfold iH2 inp isC nd at *; rw [e2, e3, e4, a1, a2, a3, a17, a18]; exact h
theorem iG_c {B B' : AA} (e4 : B' 0 4 = B 0 4) (e7 : B' 0 7 = B 0 7) (a : B' 11 = B 11) (h : iG B) : iG B' := by
  unfold iG at *; rw [e4, e7, a]; exact h
theorem iv_as {B : AA} (h : iv B) {i : Int} (h0 : 0 ≤ i) (hi : i < 176) : iv (asI B i) := by
  have hh := h
  obtain ⟨w, hL, hR, hP, hB, hH, hG⟩ := h
  have e : ∀ k, k ≠ 17 ∧ k ≠ 18 → asI B i k = B k := fun k => asI_r B i
  refine ⟨?_, iL_c (by rw [e _ (by omega)]) (by rw [e _ (by omega)]) (e _ (by omega)) (e _ (by omega)) (e _ (by omega)) (e _ (by omega)) hL, iR_c (by rw [e _ (by omega)]) (by rw [e _ (by omega)]) (e _ (by omega)) (e _ (by omega)) (e _ (by omega)) (e _ (by omega)) hR, iP_c (by rw [e _ (by omega)]) (by rw [e _ (by omega)]) (e _ (by omega)) (e _ (by omega)) (e _ (by omega)) (e _ (by omega)) (e _ (by omega)) hP, iB_c (by rw [e _ (by omega)]) (by rw [e _ (by omega)]) (by rw [e _ (by omega)]) (e _ (by omega)) (e _ (by omega)) (e _ (by omega)) (e _ (by omega)) (e _ (by omega)) hB, ?_, iG_c (by rw [e _ (by omega)]) (by rw [e _ (by omega)]) (e _ (by omega)) hG⟩
  · obtain ⟨w1, w2, w3, w4, w5, w6, w7, w8⟩ := w
    unfold wf
    simp only [e 0 (by omega), e 1 (by omega), e 2 (by omega), e 3 (by omega), e 4 (by omega), e 5 (by omega), e 6 (by omega), e 7 (by omega), e 8 (by omega), e 9 (by omega), e 10 (by omega), e 13 (by omega), e 14 (by omega), e 15 (by omega)]
    refine ⟨w1, w2, w3, w4, w5, w6, w7, fun j => ⟨(w8 j).1, (w8 j).2.1, (w8 j).2.2.1, ?_⟩⟩
    have := (w8 j).2.2.2
    unfold asI
    by_cases g : wt B i (wc B i)
    · rw [cs_t g, zU_n _ _ (by omega), zU_e]; split <;> omega
    · rw [cs_f g]; exact this
  · by_cases g : wt B i (wc B i)
    · obtain ⟨o1, o2, -, o4⟩ := wt_ok hh h0 hi g
      have f2 := fr_ok hh h0 hi g.1
      have f1 := g.1
      have hc := o1.lt w
      have er : asI B i = zU (zU B 17 (wc B i).toNat i) 18 (wc B i).toNat (fr B i / 16) := by unfold asI; rw [cs_t g]
      have n1 : ∀ x, nd (asI B i) x = nd B x := asI_nd B i
      intro c hc2
      unfold inp isC
      rw [n1, e 0 (by omega), e 1 (by omega), e 3 (by omega)]
      have e17 : asI B i 17 c = if c = (wc B i).toNat then i else B 17 c := by rw [er, zU_n _ _ (by omega), zU_e]; simp
      have e18 : asI B i 18 c = if c = (wc B i).toNat then fr B i / 16 else B 18 c := by rw [er, zU_e, zU_n _ _ (by omega)]; simp
      rw [e17, e18]
      by_cases ec : c = (wc B i).toNat
      · rw [if_pos ec, if_pos ec]
        intro _
        have ec2 : (c : Int) = wc B i := by omega
        refine ⟨by rw [ec2]; exact o1, o4, by omega, f2.2.1, ?_⟩
        rw [← o2]; congr 1; omega
      · rw [if_neg ec, if_neg ec]
        exact hH c hc2
    · have : asI B i = B := by unfold asI; rw [cs_f g]
      rw [this]; exact hH
