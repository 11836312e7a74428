/-! the net's invariants through moving and leaving -/
theorem dr14 (B : AA) (d : Nat) (h13 : B 13 d ≤ 4) (c k : Nat) (hk : k < 4) : dr B d 14 (4 * c + k) = if c = d ∧ (k : Int) < B 13 d - 1 then B 14 (4 * c + k + 1) else B 14 (4 * c + k) := by
  unfold dr
  rw [zR_n _ _ (by omega), zR_s, shf_e]
  by_cases g : c = d ∧ (k : Int) < B 13 d - 1
  · rw [if_pos (by omega), if_pos g]
  · rw [if_neg (by omega), if_neg g]
theorem dr15 (B : AA) (d : Nat) (h13 : B 13 d ≤ 4) (c k : Nat) (hk : k < 4) : dr B d 15 (4 * c + k) = if c = d ∧ (k : Int) < B 13 d - 1 then B 15 (4 * c + k + 1) else B 15 (4 * c + k) := by
  unfold dr
  rw [zR_s, shf_e]
  by_cases g : c = d ∧ (k : Int) < B 13 d - 1
  · rw [if_pos (by omega), if_pos g]
  · rw [if_neg (by omega), if_neg g]
theorem dr13 (B : AA) (d c : Nat) : dr B d 13 c = if c = d then B 13 c - 1 else B 13 c := by
  unfold dr
  rw [zR_n _ _ (by omega), zR_n _ _ (by omega), zU_e]
  by_cases g : c = d
  · subst g; simp
  · simp [g]
theorem dr_r (B : AA) (d : Nat) {k : Nat} (h : k ≠ 13 ∧ k ≠ 14 ∧ k ≠ 15) : dr B d k = B k := by
  unfold dr
  rw [zR_n _ _ h.2.2, zR_n _ _ h.2.1, zU_n _ _ h.1]
theorem tk_lo (B : AA) {i : Int} (f : Int) (h : i < 16) : tk B i f = zU B 10 (f / 16).toNat (B 10 (f / 16).toNat + 1) := by unfold tk; rw [if_pos h]
theorem tk_hi (B : AA) {i : Int} (f : Int) (h : 16 ≤ i) : tk B i f = dr B (i - 16).toNat := by unfold tk; rw [if_neg (by omega)]
theorem wf_dr {B : AA} (w : wf B) {d : Nat} (h : 0 < B 13 d) : wf (dr B d) := by
  have e : ∀ k, k ≠ 13 ∧ k ≠ 14 ∧ k ≠ 15 → dr B d k = B k := fun k => dr_r B d
  obtain ⟨w1, w2, w3, w4, w5, w6, w7, w8⟩ := w
  unfold wf
  simp only [e 0 (by omega), e 1 (by omega), e 2 (by omega), e 3 (by omega), e 4 (by omega), e 5 (by omega), e 6 (by omega), e 7 (by omega), e 8 (by omega), e 9 (by omega), e 10 (by omega), e 17 (by omega)]
  refine ⟨w1, w2, w3, w4, w5, w6, w7, fun j => ⟨?_, ?_, ?_, (w8 j).2.2.2⟩⟩
  · rw [dr13]; have := (w8 j).1; split
    · subst_vars; omega
    · exact this
  · unfold dr; rw [zR_n _ _ (by omega), zR_s, shf_e]; split
    · exact (w8 (j + 1)).2.1
    · exact (w8 j).2.1
  · unfold dr; rw [zR_s, shf_e]; split
    · exact (w8 (j + 1)).2.2.1
    · exact (w8 j).2.2.1
theorem iB_dr {B : AA} (w : wf B) (hB : iB B) {d : Nat} (h : 0 < B 13 d) : iB (dr B d) := by
  have e : ∀ k, k ≠ 13 ∧ k ≠ 14 ∧ k ≠ 15 → dr B d k = B k := fun k => dr_r B d
  intro c k hc hk
  have a13 := w.a13 c; have b13 := w.a13 d
  rw [dr13] at hk
  rw [dr14 _ _ b13.2 _ _ (by split at hk <;> omega), dr15 _ _ b13.2 _ _ (by split at hk <;> omega)]
  unfold isC
  rw [e 0 (by omega), e 3 (by omega), e 9 (by omega)]
  by_cases g : c = d ∧ (k : Int) < B 13 d - 1
  · rw [if_pos g, if_pos g]
    have := hB c (k + 1) hc (by rw [g.1]; omega)
    exact this
  · rw [if_neg g, if_neg g]
    refine hB c k hc ?_
    split at hk <;> omega
theorem iv_tk {B : AA} (h : iv B) {i : Int} (h0 : 0 ≤ i) (hi : i < 176) (hf : 0 ≤ fr B i) : iv (tk B i (fr B i)) := by
  have hh := h
  obtain ⟨w, hL, hR, hP, hB, hH, hG⟩ := h
  by_cases g : i < 16
  · obtain ⟨p, e0, a, b, c, d, e1, f, hq⟩ := fr_q w g hf
    rw [tk_lo _ _ g, e1]
    simp only [Int.toNat_natCast]
    have e : ∀ k, k ≠ 10 → zU B 10 p (B 10 p + 1) k = B k := fun k hk => zU_n _ _ hk
    have e10 : ∀ q, zU B 10 p (B 10 p + 1) 10 q = if q = p then B 10 p + 1 else B 10 q := fun q => by rw [zU_e]; simp
    refine ⟨?_, iL_c (by rw [e _ (by omega)]) (by rw [e _ (by omega)]) (e _ (by omega)) (e _ (by omega)) (e _ (by omega)) (e _ (by omega)) hL, iR_c (by rw [e _ (by omega)]) (by rw [e _ (by omega)]) (e _ (by omega)) (e _ (by omega)) (e _ (by omega)) (e _ (by omega)) hR, ?_, iB_c (by rw [e _ (by omega)]) (by rw [e _ (by omega)]) (by rw [e _ (by omega)]) (e _ (by omega)) (e _ (by omega)) (e _ (by omega)) (e _ (by omega)) (e _ (by omega)) hB, iH_c (by rw [e _ (by omega)]) (by rw [e _ (by omega)]) (by rw [e _ (by omega)]) (e _ (by omega)) (e _ (by omega)) (e _ (by omega)) (e _ (by omega)) (e _ (by omega)) hH, iG_c (by rw [e _ (by omega)]) (by rw [e _ (by omega)]) (e _ (by omega)) hG⟩
    · obtain ⟨w1, w2, w3, w4, w5, w6, w7, w8⟩ := w
      unfold wf
      simp only [e 0 (by omega), e 1 (by omega), e 2 (by omega), e 3 (by omega), e 4 (by omega), e 5 (by omega), e 6 (by omega), e 7 (by omega), e 8 (by omega), e 9 (by omega), e 13 (by omega), e 14 (by omega), e 15 (by omega), e 17 (by omega)]
      refine ⟨w1, w2, w3, w4, w5, w6, fun j => ⟨(w7 j).1, (w7 j).2.1, (w7 j).2.2.1, ?_⟩, w8⟩
      rw [e10]; have := (w7 j).2.2.2; split
      · subst_vars; omega
      · exact this
    · unfold iP
      rw [e 0 (by omega), e 7 (by omega), e 8 (by omega), e 9 (by omega), e 11 (by omega)]
      obtain ⟨p1, p2, p3⟩ := hP
      refine ⟨p1, fun q hq => ?_, fun q r hqr hr e7 hs => ?_⟩
      · rw [e10, if_neg (by omega)]; exact p2 q hq
      · rw [e10] at hs ⊢
        by_cases er : r = p
        · subst er
          rw [if_neg (by omega)] at hs
          have := hq q hqr (by rw [e7]; exact b)
          omega
        · rw [if_neg er]
          refine p3 q r hqr hr e7 ?_
          split at hs
          · subst_vars; omega
          · exact hs
  · have hp := fr_pos w (by omega) hf
    rw [tk_hi _ _ (by omega)]
    have e : ∀ k, k ≠ 13 ∧ k ≠ 14 ∧ k ≠ 15 → dr B (i - 16).toNat k = B k := fun k => dr_r B _
    exact ⟨wf_dr w hp.1, iL_c (by rw [e _ (by omega)]) (by rw [e _ (by omega)]) (e _ (by omega)) (e _ (by omega)) (e _ (by omega)) (e _ (by omega)) hL, iR_c (by rw [e _ (by omega)]) (by rw [e _ (by omega)]) (e _ (by omega)) (e _ (by omega)) (e _ (by omega)) (e _ (by omega)) hR, iP_c (by rw [e _ (by omega)]) (by rw [e _ (by omega)]) (e _ (by omega)) (e _ (by omega)) (e _ (by omega)) (e _ (by omega)) (e _ (by omega)) hP, iB_dr w hB hp.1, iH_c (by rw [e _ (by omega)]) (by rw [e _ (by omega)]) (by rw [e _ (by omega)]) (e _ (by omega)) (e _ (by omega)) (e _ (by omega)) (e _ (by omega)) (e _ (by omega)) hH, iG_c (by rw [e _ (by omega)]) (by rw [e _ (by omega)]) (e _ (by omega)) hG⟩
theorem pt_r (B : AA) (c : Nat) (f : Int) {k : Nat} (h : k ≠ 13 ∧ k ≠ 14 ∧ k ≠ 15) : pt B c f k = B k := by
  unfold pt; rw [zU_n _ _ h.1, zU_n _ _ h.2.2, zU_n _ _ h.2.1]
theorem pt13 (B : AA) (c : Nat) (f : Int) (e : Nat) : pt B c f 13 e = if e = c then B 13 c + 1 else B 13 e := by
  unfold pt; rw [zU_e, zU_n _ _ (by omega), zU_n _ _ (by omega)]; simp
theorem pt14 (B : AA) (c : Nat) (f : Int) (h : 0 ≤ B 13 c ∧ B 13 c < 4) (e k : Nat) (hk : k < 4) : pt B c f 14 (4 * e + k) = if e = c ∧ (k : Int) = B 13 c then f else B 14 (4 * e + k) := by
  unfold pt; rw [zU_n _ _ (by omega), zU_n _ _ (by omega), zU_e]
  by_cases g : e = c ∧ (k : Int) = B 13 c
  · rw [if_pos g, if_pos (by omega)]
  · rw [if_neg g, if_neg (by omega)]
theorem pt15 (B : AA) (c : Nat) (f : Int) (h : 0 ≤ B 13 c ∧ B 13 c < 4) (e k : Nat) (hk : k < 4) : pt B c f 15 (4 * e + k) = if e = c ∧ (k : Int) = B 13 c then B 0 5 else B 15 (4 * e + k) := by
  unfold pt; rw [zU_n _ _ (by omega), zU_e, zU_n _ _ (by omega)]
  by_cases g : e = c ∧ (k : Int) = B 13 c
  · rw [if_pos g, if_pos (by omega)]
  · rw [if_neg g, if_neg (by omega)]
theorem iv_pt {B : AA} (h : iv B) {c : Nat} (hc : isC B c) (h4 : B 13 c < 4) {f : Int} (f0 : 0 ≤ f ∧ f < 6400) (f1 : f / 16 < B 0 4) (f2 : f % 16 < B 9 (f / 16).toNat) : iv (pt B c f) := by
  obtain ⟨w, hL, hR, hP, hB, hH, hG⟩ := h
  have e : ∀ k, k ≠ 13 ∧ k ≠ 14 ∧ k ≠ 15 → pt B c f k = B k := fun k => pt_r B c f
  have hc2 := hc.lt w
  have t := w.t
  refine ⟨?_, iL_c (by rw [e _ (by omega)]) (by rw [e _ (by omega)]) (e _ (by omega)) (e _ (by omega)) (e _ (by omega)) (e _ (by omega)) hL, iR_c (by rw [e _ (by omega)]) (by rw [e _ (by omega)]) (e _ (by omega)) (e _ (by omega)) (e _ (by omega)) (e _ (by omega)) hR, iP_c (by rw [e _ (by omega)]) (by rw [e _ (by omega)]) (e _ (by omega)) (e _ (by omega)) (e _ (by omega)) (e _ (by omega)) (e _ (by omega)) hP, ?_, iH_c (by rw [e _ (by omega)]) (by rw [e _ (by omega)]) (by rw [e _ (by omega)]) (e _ (by omega)) (e _ (by omega)) (e _ (by omega)) (e _ (by omega)) (e _ (by omega)) hH, iG_c (by rw [e _ (by omega)]) (by rw [e _ (by omega)]) (e _ (by omega)) hG⟩
  · obtain ⟨w1, w2, w3, w4, w5, w6, w7, w8⟩ := w
    unfold wf
    simp only [e 0 (by omega), e 1 (by omega), e 2 (by omega), e 3 (by omega), e 4 (by omega), e 5 (by omega), e 6 (by omega), e 7 (by omega), e 8 (by omega), e 9 (by omega), e 10 (by omega), e 17 (by omega)]
    refine ⟨w1, w2, w3, w4, w5, w6, w7, fun j => ⟨?_, ?_, ?_, (w8 j).2.2.2⟩⟩
    · rw [pt13]; have := (w8 j).1; split
      · subst_vars; omega
      · exact this
    · unfold pt; rw [zU_n _ _ (by omega), zU_n _ _ (by omega), zU_e]; split
      · exact f0
      · exact (w8 j).2.1
    · unfold pt; rw [zU_n _ _ (by omega), zU_e, zU_n _ _ (by omega)]; split
      · exact t
      · exact (w8 j).2.2.1
  · intro d k hd hk
    have a13 := w.a13 d; have b13 := w.a13 c
    rw [pt13] at hk
    have k4 : k < 4 := by split at hk <;> omega
    rw [pt14 _ _ _ ⟨b13.1, h4⟩ _ _ k4, pt15 _ _ _ ⟨b13.1, h4⟩ _ _ k4]
    unfold isC
    rw [e 0 (by omega), e 3 (by omega), e 9 (by omega)]
    by_cases g : d = c ∧ (k : Int) = B 13 c
    · rw [if_pos g, if_pos g, g.1]
      exact ⟨hc, f1, f2, Int.le_refl _⟩
    · rw [if_neg g, if_neg g]
      refine hB d k hd ?_
      split at hk
      · subst_vars; omega
      · exact hk
theorem ms_r (B : AA) (c l : Nat) {k : Nat} (h : k ≠ 0 ∧ k ≠ 16 ∧ k ≠ 5) : ms3 B c l k = B k := by
  unfold ms3; rw [zU_n _ _ h.2.2, zU_n _ _ h.2.1, zU_n _ _ h.1]
theorem ms0 (B : AA) (c l : Nat) {j : Nat} (h : j ≠ 6) : ms3 B c l 0 j = B 0 j := by
  unfold ms3; rw [zU_n _ _ (by omega), zU_n _ _ (by omega), zU_j _ _ h]
theorem iv_ms {B : AA} (h : iv B) {c l : Nat} (hc : isC B c) (hl : l = c / 4) : iv (ms3 B c l) := by
  obtain ⟨w, hL, hR, hP, hB, hH, hG⟩ := h
  have e : ∀ k, k ≠ 0 ∧ k ≠ 16 ∧ k ≠ 5 → ms3 B c l k = B k := fun k => ms_r B c l
  have e0 : ∀ j, j ≠ 6 → ms3 B c l 0 j = B 0 j := fun j hj => ms0 B c l hj
  have e5 : ∀ j, ms3 B c l 5 j = if j = l then (c : Int) % 4 else B 5 j := fun j => by
    unfold ms3; rw [zU_e, zU_n _ _ (by omega), zU_n _ _ (by omega)]; simp
  have e4 : ((c : Int) / 4).toNat = l := by omega
  refine ⟨?_, ?_, iR_c (e0 _ (by omega)) (e0 _ (by omega)) (e _ (by omega)) (e _ (by omega)) (e _ (by omega)) (e _ (by omega)) hR, iP_c (e0 _ (by omega)) (e0 _ (by omega)) (e _ (by omega)) (e _ (by omega)) (e _ (by omega)) (e _ (by omega)) (e _ (by omega)) hP, iB_c (e0 _ (by omega)) (e0 _ (by omega)) (e0 _ (by omega)) (e _ (by omega)) (e _ (by omega)) (e _ (by omega)) (e _ (by omega)) (e _ (by omega)) hB, iH_c (e0 _ (by omega)) (e0 _ (by omega)) (e0 _ (by omega)) (e _ (by omega)) (e _ (by omega)) (e _ (by omega)) (e _ (by omega)) (e _ (by omega)) hH, iG_c (e0 _ (by omega)) (e0 _ (by omega)) (e _ (by omega)) hG⟩
  · obtain ⟨w1, w2, w3, w4, w5, w6, w7, w8⟩ := w
    unfold wf
    simp only [e0 2 (by omega), e0 3 (by omega), e0 4 (by omega), e0 5 (by omega), e 1 (by omega), e 2 (by omega), e 3 (by omega), e 4 (by omega), e 6 (by omega), e 7 (by omega), e 8 (by omega), e 9 (by omega), e 10 (by omega), e 13 (by omega), e 14 (by omega), e 15 (by omega), e 17 (by omega)]
    refine ⟨w1, w2, w3, w4, fun j => ⟨(w5 j).1, (w5 j).2.1, (w5 j).2.2.1, (w5 j).2.2.2.1, ?_⟩, w6, w7, w8⟩
    rw [e5]; split
    · omega
    · exact (w5 j).2.2.2.2
  · unfold iL
    rw [e0 2 (by omega), e0 3 (by omega), e 1 (by omega), e 2 (by omega), e 3 (by omega)]
    unfold isC at hc
    rw [e4] at hc
    refine ⟨fun j hj => ⟨(hL.1 j hj).1, (hL.1 j hj).2.1, (hL.1 j hj).2.2.1, (hL.1 j hj).2.2.2.1, ?_⟩, fun j h1 h2 => ?_⟩
    · rw [e5]; split
      · subst_vars; omega
      · exact (hL.1 j hj).2.2.2.2
    · rw [e5, if_neg (by omega)]; exact hL.2 j h1 h2
theorem rl_r (B : AA) (c : Nat) (f : Int) {k : Nat} (h : k ≠ 17 ∧ k ≠ 18) : rl B c f k = B k := by
  unfold rl
  by_cases g : f % 16 = B 9 (f / 16).toNat - 1
  · rw [cs_t g, zU_n _ _ h.2, zU_n _ _ h.1]
  · rw [cs_f g]
theorem iv_rl {B : AA} (h : iv B) {c : Nat} (f : Int) : iv (rl B c f) := by
  obtain ⟨w, hL, hR, hP, hB, hH, hG⟩ := h
  have e : ∀ k, k ≠ 17 ∧ k ≠ 18 → rl B c f k = B k := fun k => rl_r B c f
  refine ⟨?_, iL_c (by rw [e _ (by omega)]) (by rw [e _ (by omega)]) (e _ (by omega)) (e _ (by omega)) (e _ (by omega)) (e _ (by omega)) hL, iR_c (by rw [e _ (by omega)]) (by rw [e _ (by omega)]) (e _ (by omega)) (e _ (by omega)) (e _ (by omega)) (e _ (by omega)) hR, iP_c (by rw [e _ (by omega)]) (by rw [e _ (by omega)]) (e _ (by omega)) (e _ (by omega)) (e _ (by omega)) (e _ (by omega)) (e _ (by omega)) hP, iB_c (by rw [e _ (by omega)]) (by rw [e _ (by omega)]) (by rw [e _ (by omega)]) (e _ (by omega)) (e _ (by omega)) (e _ (by omega)) (e _ (by omega)) (e _ (by omega)) hB, ?_, iG_c (by rw [e _ (by omega)]) (by rw [e _ (by omega)]) (e _ (by omega)) hG⟩
  · obtain ⟨w1, w2, w3, w4, w5, w6, w7, w8⟩ := w
    unfold wf
    simp only [e 0 (by omega), e 1 (by omega), e 2 (by omega), e 3 (by omega), e 4 (by omega), e 5 (by omega), e 6 (by omega), e 7 (by omega), e 8 (by omega), e 9 (by omega), e 10 (by omega), e 13 (by omega), e 14 (by omega), e 15 (by omega)]
    refine ⟨w1, w2, w3, w4, w5, w6, w7, fun j => ⟨(w8 j).1, (w8 j).2.1, (w8 j).2.2.1, ?_⟩⟩
    unfold rl
    by_cases g : f % 16 = B 9 (f / 16).toNat - 1
    · rw [cs_t g, zU_n _ _ (by omega), zU_e]; split
      · omega
      · exact (w8 j).2.2.2
    · rw [cs_f g]; exact (w8 j).2.2.2
  · by_cases g : f % 16 = B 9 (f / 16).toNat - 1
    · intro d hd hne
      unfold inp isC at *
      rw [nd_c (e 2 (by omega)), e 0 (by omega), e 1 (by omega), e 3 (by omega)]
      have e17 : rl B c f 17 d = if d = c then -1 else B 17 d := by unfold rl; rw [cs_t g, zU_n _ _ (by omega), zU_e]; simp
      have e18 : rl B c f 18 d = if d = c then -1 else B 18 d := by unfold rl; rw [cs_t g, zU_e, zU_n _ _ (by omega)]; simp
      rw [e17] at hne ⊢; rw [e18]
      by_cases ed : d = c
      · rw [if_pos ed] at hne; exact absurd rfl hne
      · rw [if_neg ed] at hne ⊢; rw [if_neg ed]; exact hH d hd hne
    · have : rl B c f = B := by unfold rl; rw [cs_f g]
      rw [this]; exact hH
theorem isC_c {B B' : AA} (e : B' 0 3 = B 0 3) (e3 : B' 3 = B 3) {c : Int} (h : isC B c) : isC B' c := by unfold isC at *; rw [e, e3]; exact h
theorem iv_mo1 {B : AA} (h : iv B) {l c : Nat} (hcm : cm B c) (hl : l = c / 4) : iv (mo1 B l c) := by
  obtain ⟨g1, g2, g3, g4⟩ := hcm
  simp only [Int.toNat_natCast] at g2 g3 g4
  have w := h.1
  have a17 := w.a17 c; have a13 := w.a13 c
  have hf := fr_ok h g2 (by omega) g3
  have e : ∀ k, k ≠ 10 ∧ k ≠ 13 ∧ k ≠ 14 ∧ k ≠ 15 → tk B (B 17 c) (fr B (B 17 c)) k = B k := fun k => tk_r B _ _
  have b13 := tk13 B (B 17 c) (fr B (B 17 c)) c
  unfold mo1
  have hC : isC (tk B (B 17 c) (fr B (B 17 c))) c := isC_c (by rw [e _ (by omega)]) (e _ (by omega)) g1
  refine iv_rl (iv_ms (iv_pt (iv_tk h g2 (by omega) g3) hC ?_ ⟨g3, hf.2.2.2⟩ ?_ ?_) ?_ hl) _
  · rw [b13]; split <;> omega
  · rw [e 0 (by omega)]; exact hf.2.1
  · rw [e 9 (by omega)]; exact hf.2.2.1
  · exact isC_c (by rw [pt_r _ _ _ (by omega)]) (pt_r _ _ _ (by omega)) hC
theorem mv_ok {B : AA} (w : wf B) {l : Int} (hl : 0 ≤ l) (h : ¬ mv B l < 0) : ∃ c : Nat, mv B l = c ∧ cm B c ∧ l.toNat = c / 4 ∧ (c : Int) / 4 = l := by
  rcases mk_spec (B := B) (l := l) 4 1 with e | ⟨g, r, h1, h2, h3⟩
  · have e : mv B l = -1 := e; omega
  · have e : mk B l 4 1 = mv B l := rfl
    rw [e] at g h3
    exact ⟨(mv B l).toNat, by omega, by rw [show (((mv B l).toNat : Nat) : Int) = mv B l by omega]; exact g, by omega, by omega⟩
theorem iv_mo {B : AA} (h : iv B) {l : Int} (hl : 0 ≤ l) : iv (moL B l) := by
  unfold moL
  split
  · exact h
  · rename_i g
    obtain ⟨c, e, g1, g2, -⟩ := mv_ok h.1 hl g
    rw [e]; exact iv_mo1 h g1 g2
theorem sm_c {f g : Nat → Int} : ∀ n, (∀ k, k < n → f k = g k) → sm n f = sm n g := by
  intro n
  induction n with
  | zero => intro _; rfl
  | succ n ih => intro h; rw [sm, sm, ih (fun k hk => h k (by omega)), h n (by omega)]
theorem sm_u {f g : Nat → Int} {j : Nat} {d : Int} : ∀ n, (∀ k, k ≠ j → f k = g k) → f j = g j + d → sm n f = sm n g + (if j < n then d else 0) := by
  intro n
  induction n with
  | zero => intro _ _; rfl
  | succ n ih =>
    intro h1 h2
    rw [sm, sm, ih h1 h2]
    by_cases e : n = j
    · subst e; rw [if_neg (by omega), if_pos (by omega), h2]; omega
    · rw [h1 n e]
      by_cases q : j < n
      · rw [if_pos q, if_pos (by omega)]; omega
      · rw [if_neg q, if_neg (by omega)]; omega
theorem lv_r (B : AA) (p : Nat) (f : Int) {k : Nat} (h : k ≠ 11 ∧ k ≠ 0 ∧ k ≠ 12) : lv1 B p f k = B k := by
  unfold lv1
  by_cases g : f % 16 = B 9 p - 1
  · rw [cs_t g, zU_n _ _ h.2.1, zU_n _ _ h.2.2, zU_n _ _ h.2.1, zU_n _ _ h.1]
  · rw [cs_f g, zU_n _ _ h.2.1, zU_n _ _ h.1]
theorem lv0 (B : AA) (p : Nat) (f : Int) {j : Nat} (h : j ≠ 7 ∧ j ≠ 8) : lv1 B p f 0 j = B 0 j := by
  unfold lv1
  by_cases g : f % 16 = B 9 p - 1
  · rw [cs_t g, zU_j _ _ h.2, zU_n _ _ (by omega), zU_j _ _ h.1, zU_n _ _ (by omega)]
  · rw [cs_f g, zU_j _ _ h.1, zU_n _ _ (by omega)]
theorem lv07 (B : AA) (p : Nat) (f : Int) : lv1 B p f 0 7 = B 0 7 + 1 := by
  unfold lv1
  by_cases g : f % 16 = B 9 p - 1
  · rw [cs_t g, zU_j _ _ (by omega), zU_n _ _ (by omega), zU_s]
  · rw [cs_f g, zU_s]
theorem lv11 (B : AA) (p : Nat) (f : Int) (q : Nat) : lv1 B p f 11 q = if q = p then B 11 p + 1 else B 11 q := by
  unfold lv1
  by_cases g : f % 16 = B 9 p - 1
  · rw [cs_t g, zU_n _ _ (by omega), zU_n _ _ (by omega), zU_n _ _ (by omega), zU_e]; simp
  · rw [cs_f g, zU_n _ _ (by omega), zU_e]; simp
theorem iv_lv {B : AA} (h : iv B) {p : Nat} (f : Int) (hp : (p : Int) < B 0 4) : iv (lv1 B p f) := by
  obtain ⟨w, hL, hR, hP, hB, hH, hG⟩ := h
  have e : ∀ k, k ≠ 11 ∧ k ≠ 0 ∧ k ≠ 12 → lv1 B p f k = B k := fun k => lv_r B p f
  have e0 : ∀ j, j ≠ 7 ∧ j ≠ 8 → lv1 B p f 0 j = B 0 j := fun j => lv0 B p f
  refine ⟨?_, iL_c (e0 _ (by omega)) (e0 _ (by omega)) (e _ (by omega)) (e _ (by omega)) (e _ (by omega)) (e _ (by omega)) hL, iR_c (e0 _ (by omega)) (e0 _ (by omega)) (e _ (by omega)) (e _ (by omega)) (e _ (by omega)) (e _ (by omega)) hR, ?_, iB_c (e0 _ (by omega)) (e0 _ (by omega)) (e0 _ (by omega)) (e _ (by omega)) (e _ (by omega)) (e _ (by omega)) (e _ (by omega)) (e _ (by omega)) hB, iH_c (e0 _ (by omega)) (e0 _ (by omega)) (e0 _ (by omega)) (e _ (by omega)) (e _ (by omega)) (e _ (by omega)) (e _ (by omega)) (e _ (by omega)) hH, ?_⟩
  · unfold wf at *
    simp only [e0 2 (by omega), e0 3 (by omega), e0 4 (by omega), e0 5 (by omega), e 1 (by omega), e 2 (by omega), e 3 (by omega), e 4 (by omega), e 5 (by omega), e 6 (by omega), e 7 (by omega), e 8 (by omega), e 9 (by omega), e 10 (by omega), e 13 (by omega), e 14 (by omega), e 15 (by omega), e 17 (by omega)]
    exact w
  · unfold iP at *
    rw [e0 2 (by omega), e0 4 (by omega), e 7 (by omega), e 8 (by omega), e 9 (by omega), e 10 (by omega)]
    refine ⟨hP.1, fun q hq => ⟨(hP.2.1 q hq).1, ?_⟩, hP.2.2⟩
    rw [lv11, if_neg (by omega)]; exact (hP.2.1 q hq).2
  · unfold iG at *
    rw [lv07, e0 4 (by omega), hG]
    have := sm_u (f := lv1 B p f 11) (g := B 11) (j := p) (d := 1) (B 0 4).toNat (fun k hk => by rw [lv11, if_neg hk]) (by rw [lv11, if_pos rfl])
    rw [this, if_pos (by omega)]
theorem iv_le {B : AA} (h : iv B) {i : Int} (h0 : 0 ≤ i) (hi : i < 176) : iv (leI B i) := by
  unfold leI
  by_cases g : cl B i
  · rw [cs_t g]
    have hf := fr_ok h h0 hi g.1
    have e := tk_r B i (fr B i) (k := 0) (by omega)
    have := g.1
    exact iv_lv (iv_tk h h0 hi g.1) _ (by rw [e]; omega)
  · rw [cs_f g]; exact h
