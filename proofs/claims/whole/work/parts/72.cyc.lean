/-! a whole cycle -/
theorem fs_qm {B : AA} : ∀ j : Nat, (∀ j' : Nat, j' < j → mv B j' = -1) → fs moL j B = B := by
  intro j
  induction j with
  | zero => intro _; rfl
  | succ j ih => intro h; rw [fs, ih (fun j' hj' => h j' (by omega)), moL, if_pos (by rw [h j (by omega)]; omega)]
theorem fs_ql {B : AA} : ∀ j : Nat, (∀ j' : Nat, j' < j → ¬ cl B j') → fs leI j B = B := by
  intro j
  induction j with
  | zero => intro _; rfl
  | succ j ih => intro h; rw [fs, ih (fun j' hj' => h j' (by omega)), le_f (h j (by omega))]
theorem c_movL {B : AA} (h : iv B) {ex : AA → Int → Int → Prop} {post : Int → AA → Prop} (hex : ∀ A' y z, (y = 0 ∨ y = 1) → Rel A' (moF B) → Rf A' (moF B) → (y = 0 → ∀ j' : Nat, j' < (B 0 3).toNat → mv B j' = -1) → ex A' y z) : ∀ (n j : Nat) (A : AA) (x : Int), j + n = (B 0 3).toNat → Rel A (fs moL j B) → Rf A (fs moL j B) → (x = 0 ∨ x = 1) → (x = 0 → ∀ j' : Nat, j' < j → mv B j' = -1) → zl_CT_moveAll_4 ex post (n + 1) A x j := by
  have hl := h.1.l
  intro n
  induction n with
  | zero =>
    intro j A x e hr hf hx hB
    have ej : j = (B 0 3).toNat := by omega
    have e3 := (fs_mo h j).2
    have s3 := hr.1.s3
    subst ej
    exact ⟨by omega, by omega, fun _ => hex A x _ hx hr hf hB, fun g => by omega⟩
  | succ n ih =>
    intro j A x e hr hf hx hB
    obtain ⟨hi, e3⟩ := fs_mo h j
    have s3 := hr.1.s3
    have cj : ((j + 1 : Nat) : Int) = (j : Int) + 1 := by omega
    have nxt := fun A x => ih (j + 1) A x (by omega)
    have hq := fs_qm (B := B) j
    rw [cj] at nxt
    simp only [fs] at nxt
    generalize fs moL j B = X at *
    refine ⟨by omega, by omega, fun g => by omega, fun _ => ?_⟩
    refine c_lane hi hr hf (by omega) (fun hno => ⟨by omega, fun _ => ?_, fun z => absurd rfl z⟩) (fun r r0 r4 er => ⟨by omega, fun z => by omega, fun _ => ⟨by omega, ?_⟩⟩)
    · have e1 : moL X j = X := by unfold moL; rw [if_pos (by omega)]
      rw [e1] at nxt
      refine nxt A x hr hf hx (fun z j' hj' => ?_)
      by_cases ej : j' = j
      · subst ej; rw [hq (hB z)] at hno; exact hno
      · exact hB z j' (by omega)
    · rintro _ rfl
      obtain ⟨c, ec, hcm, hlc, -⟩ := mv_ok hi.1 (l := j) (by omega) (by omega)
      have e1 : moL X j = mo1 X j c := by unfold moL; rw [if_neg (by omega), ec]; simp
      rw [e1] at nxt
      have e2 : (j : Int) * 4 + r = (c : Int) := by omega
      have e4 : r = (c : Int) % 4 := by omega
      rw [e2, e4]
      simp only [Int.toNat_natCast] at hlc ⊢
      exact c_moveInto hi hr hf hcm hlc (fun A' h1 h2 => nxt A' 1 h1 h2 (.inr rfl) (fun z => by omega))
theorem c_mov {A B : AA} (h : iv B) (hr : Rel A B) (hf : Rf A B) {post : Int → AA → Prop} (hp : ∀ A' y, (y = 0 ∨ y = 1) → Rel A' (moF B) → Rf A' (moF B) → (y = 0 → ∀ j' : Nat, j' < (B 0 3).toNat → mv B j' = -1) → post y A') : zp_CT_moveAll A post :=
  ⟨_, c_movL h (ex := fun B' y1 y2 => ze_CT_moveAll_50 B' y1 post) (fun A' y z hy h1 h2 h3 => ⟨hy, hp A' y hy h1 h2 h3⟩) (B 0 3).toNat 0 A 0 (by omega) hr hf (.inl rfl) (fun _ j' hj' => by omega)⟩
theorem tk_cc {B B' : AA} (i f : Int) {k : Nat} (e10 : B' 10 = B 10) (e13 : B' 13 = B 13) (e14 : B' 14 = B 14) (e15 : B' 15 = B 15) (hk : k = 10 ∨ k = 13 ∨ k = 14 ∨ k = 15) : tk B' i f k = tk B i f k := by
  by_cases g : i < 16
  · rw [tk_lo _ _ g, tk_lo _ _ g]
    funext q
    rw [zU_e, zU_e, e10]
    rcases hk with rfl | rfl | rfl | rfl
    · rw [e10]
    · rw [e13]
    · rw [e14]
    · rw [e15]
  · rw [tk_hi _ _ (by omega), tk_hi _ _ (by omega)]
    unfold dr
    rcases hk with rfl | rfl | rfl | rfl
    · rw [zR_n _ _ (by omega), zR_n _ _ (by omega), zU_n _ _ (by omega), zR_n _ _ (by omega), zR_n _ _ (by omega), zU_n _ _ (by omega), e10]
    · rw [zR_n _ _ (by omega), zR_n _ _ (by omega), zR_n _ _ (by omega), zR_n _ _ (by omega)]
      funext q; rw [zU_e, zU_e, e13]
    · rw [zR_n _ _ (by omega), zR_s, zR_n _ _ (by omega), zR_s, e13, e14]
    · rw [zR_s, zR_s, e13, e15]
theorem tk_lv (B : AA) (i f g : Int) (p : Nat) : tk (lv1 B p g) i f = lv1 (tk B i f) p g := by
  have t9 : tk B i f 9 = B 9 := tk_r _ _ _ (by omega)
  have t0 : tk B i f 0 = B 0 := tk_r _ _ _ (by omega)
  have t11 : tk B i f 11 = B 11 := tk_r _ _ _ (by omega)
  have t12 : tk B i f 12 = B 12 := tk_r _ _ _ (by omega)
  funext k q
  by_cases h10 : k = 10 ∨ k = 13 ∨ k = 14 ∨ k = 15
  · rw [lv_r (tk B i f) _ _ (by omega), tk_cc i f (lv_r _ _ _ (by omega)) (lv_r _ _ _ (by omega)) (lv_r _ _ _ (by omega)) (lv_r _ _ _ (by omega)) h10]
  · rw [tk_r _ _ _ (by omega)]
    by_cases k11 : k = 11
    · subst k11; rw [lv11, lv11, t11]
    by_cases k12 : k = 12
    · subst k12; rw [lv12, lv12, t12, t9, t0]
    by_cases k0 : k = 0
    · subst k0
      by_cases q7 : q = 7
      · subst q7; rw [lv07, lv07, t0]
      by_cases q8 : q = 8
      · subst q8; rw [lv08, lv08, t0, t9]
      rw [lv0 _ _ _ ⟨q7, q8⟩, lv0 _ _ _ ⟨q7, q8⟩, t0]
    · rw [lv_r _ _ _ ⟨k11, k0, k12⟩, lv_r _ _ _ ⟨k11, k0, k12⟩, tk_r _ _ _ (by omega)]
theorem c_lea1 {A B : AA} (h : iv B) (hr : Rel A B) (hf : Rf A B) {i : Int} (h0 : 0 ≤ i) (hi : i < 176) (g : cl B i) {post : AA → Prop} (hp : ∀ A', Rel A' (leI B i) → Rf A' (leI B i) → post A') : zp_CK_leave A (fr B i) (A 4 8) (fun S_9 => zp_CI_dropFront S_9 i (fun S_10 => post S_10)) := by
  have g1 := g.1
  have hfo := fr_ok h h0 hi g1
  have pk := h.1.p
  rw [le_t g] at hp
  obtain ⟨p, ep⟩ : ∃ p : Nat, fr B i / 16 = p := ⟨(fr B i / 16).toNat, by omega⟩
  have hivl := iv_lv h (p := p) (fr B i) (by omega)
  have eB : ∀ k, k ≠ 11 ∧ k ≠ 0 ∧ k ≠ 12 → lv1 B p (fr B i) k = B k := fun k => lv_r _ _ _
  have e0 : ∀ j, j ≠ 7 ∧ j ≠ 8 → lv1 B p (fr B i) 0 j = B 0 j := fun j => lv0 _ _ _
  have ef : ∀ x, fr (lv1 B p (fr B i)) x = fr B x := fr_c (e0 _ (by omega)) (e0 _ (by omega)) (eB _ (by omega)) (eB _ (by omega)) (eB _ (by omega)) (eB _ (by omega)) (eB _ (by omega)) (eB _ (by omega))
  obtain ⟨E, hw, hq, hH⟩ := hr
  have fin : ∀ A1, Eqs A1 (lv1 B p (fr B i)) → (∀ k, k ≠ 15 ∧ k ≠ 16 ∧ k ≠ 2 → A1 k = A k) → zp_CI_dropFront A1 i (fun S_10 => post S_10) := fun A1 E1 eA => by
    have hr1 : Rel A1 (lv1 B p (fr B i)) := ⟨E1, Rw_c (eA _ (by omega)) (e0 _ (by omega)) (eB _ (by omega)) (eB _ (by omega)) hw, Rq_c (eA _ (by omega)) (eA _ (by omega)) (eA _ (by omega)) (e0 _ (by omega)) (eB _ (by omega)) (eB _ (by omega)) (eB _ (by omega)) hq, Rh_c (eA _ (by omega)) (eB _ (by omega)) hH⟩
    have hf1 : Rf A1 (lv1 B p (fr B i)) := Rf_c (eA _ (by omega)) (e0 _ (by omega)) (eB _ (by omega)) (eB _ (by omega)) hf
    refine c_drop hivl.1 hivl.2.2.2.1 hr1 h0 hi (by rw [ef]; exact g1) (fun A' hA' e22 _ => ?_)
    have hf2 := Rf_tk hivl.1 hf1 e22 h0 hi (by rw [ef]; exact g1)
    rw [ef, tk_lv] at hA' hf2
    rw [ep] at hp
    simp only [Int.toNat_natCast] at hp
    exact hp A' hA' hf2
  unfold zp_CK_leave zp_CK_packetOf
  rw [ep]
  simp only [Int.toNat_natCast]
  refine ⟨by omega, by omega, by omega, ?_⟩
  rintro _ rfl
  have E1 : Eqs (zU A 15 p (A 15 p + 1)) (zU (zU B 11 p (B 11 p + 1)) 0 7 (B 0 7 + 1)) := by
    rw [E.c15]; exact (E.u2 15 11 _ _ (by decide) (by decide)).ur 0 7 _ (by decide) (by decide)
  have a9 := h.1.a9 p
  have t : ∀ post : Int → Prop, (fr B i % 16 = B 9 p - 1 → post 1) → (¬ fr B i % 16 = B 9 p - 1 → post 0) → zp_CK_isTail (zU A 15 p (A 15 p + 1)) (fr B i) post := fun post q1 q2 => by
    unfold zp_CK_isTail
    rw [zU_n _ _ (by omega), E.c13, ep]
    simp only [Int.toNat_natCast]
    exact ⟨by omega, by omega, by omega, by omega, by omega, q2, q1⟩
  refine t _ (fun q => ⟨by omega, fun z => by omega, fun _ => ⟨by omega, ?_⟩⟩) (fun q => ⟨by omega, fun _ => ?_, fun z => absurd rfl z⟩)
  · rintro _ rfl
    rintro _ rfl
    refine fin _ ?_ (fun k hk => by rw [zU_n _ _ (by omega), zU_n _ _ (by omega), zU_n _ _ (by omega)])
    have e21 : zU (zU A 15 p (A 15 p + 1)) 16 p (A 4 8) 2 1 = B 0 8 := by rw [zU_n _ _ (by omega), zU_n _ _ (by omega), E.s8]
    rw [e21]
    unfold lv1
    rw [cs_t q, E.s5]
    exact (E1.u2 16 12 _ _ (by decide) (by decide)).us 2 1 0 8 _ (by decide) (by decide)
  · refine fin _ ?_ (fun k hk => by rw [zU_n _ _ (by omega)])
    unfold lv1
    rw [cs_f q]
    exact E1
theorem fs_le {B : AA} (h : iv B) : ∀ n, n ≤ 176 → iv (fs leI n B) ∧ pl B (fs leI n B) := by
  intro n
  induction n with
  | zero => intro _; exact ⟨h, rfl, rfl, rfl, rfl⟩
  | succ n ih => intro hn; rw [fs]; have := ih (by omega); exact ⟨iv_le this.1 (by omega) (by omega), pl_le this.2 _⟩
theorem c_leaL {B : AA} (h : iv B) {ex : AA → Int → Int → Prop} {post : Int → AA → Prop} (hex : ∀ A' y z, (y = 0 ∨ y = 1) → Rel A' (leF B) → Rf A' (leF B) → (y = 0 → ∀ j' : Nat, j' < (16 + 4 * B 0 3).toNat → ¬ cl B j') → ex A' y z) : ∀ (n j : Nat) (A : AA) (x : Int), j + n = (16 + 4 * B 0 3).toNat → Rel A (fs leI j B) → Rf A (fs leI j B) → (x = 0 ∨ x = 1) → (x = 0 → ∀ j' : Nat, j' < j → ¬ cl B j') → zl_CT_leaveAll_4 ex post (n + 1) A x j := by
  have hl := h.1.l
  intro n
  induction n with
  | zero =>
    intro j A x e hr hf hx hB
    have ej : j = (16 + 4 * B 0 3).toNat := by omega
    have e3 := (fs_le h j (by omega)).2.2.1
    have s3 := hr.1.s3
    subst ej
    exact ⟨by omega, by omega, fun _ => hex A x _ hx hr hf hB, fun g => by omega⟩
  | succ n ih =>
    intro j A x e hr hf hx hB
    obtain ⟨hi, hp⟩ := fs_le h j (by omega)
    have e3 := hp.2.1
    have s3 := hr.1.s3
    have cj : ((j + 1 : Nat) : Int) = (j : Int) + 1 := by omega
    have nxt := fun A x => ih (j + 1) A x (by omega)
    have hq := fs_ql (B := B) j
    rw [cj] at nxt
    simp only [fs] at nxt
    generalize fs leI j B = X at *
    refine ⟨by omega, by omega, fun g => by omega, fun _ => ?_⟩
    have fg := fr_rg hi.1 (j : Int)
    refine c_flitToLeave hi hr hf (by omega) (by omega) (fun hc => ⟨by omega, fun z => by have := hc.1; omega, fun _ => ?_⟩) (fun hno => ⟨by omega, fun _ => ?_, fun z => absurd rfl z⟩)
    · exact c_lea1 hi hr hf (by omega) (by omega) hc (fun A' h1 h2 => nxt A' 1 h1 h2 (.inr rfl) (fun z => by omega))
    · rw [le_f hno] at nxt
      refine nxt A x hr hf hx (fun z j' hj' => ?_)
      by_cases ej : j' = j
      · subst ej; rw [hq (hB z)] at hno; exact hno
      · exact hB z j' (by omega)
theorem c_lea {A B : AA} (h : iv B) (hr : Rel A B) (hf : Rf A B) {post : Int → AA → Prop} (hp : ∀ A' y, (y = 0 ∨ y = 1) → Rel A' (leF B) → Rf A' (leF B) → (y = 0 → ∀ j' : Nat, j' < (16 + 4 * B 0 3).toNat → ¬ cl B j') → post y A') : zp_CT_leaveAll A post :=
  ⟨_, c_leaL h (ex := fun B' y1 y2 => ze_CT_leaveAll_54 B' y1 post) (fun A' y z hy h1 h2 h3 => ⟨hy, hp A' y hy h1 h2 h3⟩) (16 + 4 * B 0 3).toNat 0 A 0 (by omega) hr hf (.inl rfl) (fun _ j' hj' => by omega)⟩
def gd (B : AA) : Prop := iv B ∧ iW B ∧ iN B
theorem gd_asF {B : AA} (h : gd B) : gd (asF B) := by
  have hl := h.1.1.l
  have : ∀ n, n ≤ 176 → gd (fs asI n B) := by
    intro n
    induction n with
    | zero => intro _; exact h
    | succ n ih =>
      intro hn; rw [fs]
      obtain ⟨a, b, c⟩ := ih (by omega)
      exact ⟨iv_as a (by omega) (by omega), iW_as a b (by omega) (by omega), iN_as c _⟩
  exact this _ (by omega)
theorem gd_moF {B : AA} (h : gd B) : gd (moF B) := by
  have : ∀ n, gd (fs moL n B) := by
    intro n
    induction n with
    | zero => exact h
    | succ n ih =>
      rw [fs]
      obtain ⟨a, b, c⟩ := ih
      generalize fs moL n B = X at *
      refine ⟨iv_mo a (by omega), ?_, ?_⟩
      · unfold moL; split
        · exact b
        · rename_i g
          obtain ⟨d, ed, g1, -, -⟩ := mv_ok a.1 (by omega) g
          rw [ed]; exact iW_mo a b g1
      · unfold moL; split
        · exact c
        · rename_i g
          obtain ⟨d, ed, g1, -, -⟩ := mv_ok a.1 (by omega) g
          rw [ed]; exact iN_mo a c g1
  exact this _
theorem gd_leF {B : AA} (h : gd B) : gd (leF B) := by
  have hl := h.1.1.l
  have : ∀ n, n ≤ 176 → gd (fs leI n B) := by
    intro n
    induction n with
    | zero => intro _; exact h
    | succ n ih =>
      intro hn; rw [fs]
      obtain ⟨a, b, c⟩ := ih (by omega)
      exact ⟨iv_le a (by omega) (by omega), iW_le a b (by omega) (by omega), iN_le a c (by omega) (by omega)⟩
  exact this _ (by omega)
/-- the number of the cycle stands by itself -/
def cyT (B : AA) (t : Int) : AA := zU B 0 5 t
theorem cy_r (B : AA) (t : Int) {k : Nat} (h : k ≠ 0) : cyT B t k = B k := zU_n _ _ h
theorem cy_0 (B : AA) (t : Int) {j : Nat} (h : j ≠ 5) : cyT B t 0 j = B 0 j := zU_j _ _ h
theorem cy_5 (B : AA) (t : Int) : cyT B t 0 5 = t := zU_s _ _ _ _
theorem cy_q0 (B : AA) (t i : Int) : q0 (cyT B t) i = q0 B i := q0_c (cy_0 _ _ (by omega)) (cy_r _ _ (by omega)) (cy_r _ _ (by omega)) (cy_r _ _ (by omega)) i
theorem iv_cy {B : AA} (h : iv B) {t : Int} (ht : B 0 5 ≤ t) (h2 : t ≤ 2000000) : iv (cyT B t) := by
  obtain ⟨w, hL, hR, hP, hB, hH, hG⟩ := h
  have e : ∀ k, k ≠ 0 → cyT B t k = B k := fun k hk => cy_r B t hk
  have e0 : ∀ j, j ≠ 5 → cyT B t 0 j = B 0 j := fun j hj => cy_0 B t hj
  refine ⟨?_, iL_c (e0 _ (by omega)) (e0 _ (by omega)) (e _ (by omega)) (e _ (by omega)) (e _ (by omega)) (e _ (by omega)) hL, iR_c (e0 _ (by omega)) (e0 _ (by omega)) (e _ (by omega)) (e _ (by omega)) (e _ (by omega)) (e _ (by omega)) hR, iP_c (e0 _ (by omega)) (e0 _ (by omega)) (e _ (by omega)) (e _ (by omega)) (e _ (by omega)) (e _ (by omega)) (e _ (by omega)) hP, ?_, iH_c (e0 _ (by omega)) (e0 _ (by omega)) (e0 _ (by omega)) (e _ (by omega)) (e _ (by omega)) (e _ (by omega)) (e _ (by omega)) (e _ (by omega)) hH, iG_c (e0 _ (by omega)) (e0 _ (by omega)) (e _ (by omega)) hG⟩
  · have t0 := w.t
    unfold wf at *
    rw [e0 2 (by omega), e0 3 (by omega), e0 4 (by omega), cy_5, e 1 (by omega), e 2 (by omega), e 3 (by omega), e 4 (by omega), e 5 (by omega), e 6 (by omega), e 7 (by omega), e 8 (by omega), e 9 (by omega), e 10 (by omega), e 13 (by omega), e 14 (by omega), e 15 (by omega), e 17 (by omega)]
    exact ⟨w.1, w.2.1, w.2.2.1, by omega, w.2.2.2.2⟩
  · intro c k hc hk
    rw [e 13 (by omega)] at hk
    obtain ⟨a, b, d, f⟩ := hB c k hc hk
    unfold isC at *
    rw [e0 3 (by omega), e0 4 (by omega), cy_5, e 3 (by omega), e 9 (by omega), e 14 (by omega), e 15 (by omega)]
    exact ⟨a, b, d, by omega⟩
theorem iW_cy {B : AA} (h : iW B) (t : Int) : iW (cyT B t) := by
  have e : ∀ k, k ≠ 0 → cyT B t k = B k := fun k hk => cy_r B t hk
  have en : ∀ x, nd (cyT B t) x = nd B x := nd_c (e 2 (by omega))
  have et : ∀ x, tl (cyT B t) x = tl B x := tl_c (e 9 (by omega))
  obtain ⟨b1, b2, b3, b4, b5, T, b6⟩ := h
  refine ⟨fun c hc hne => ?_, fun c hc hne => ?_, fun c hc k hk => ?_, fun c hc k hk => ?_, fun c d hc hd hne heq => ?_, T, fun c hc hne => ?_⟩
  · rw [e 17 (by omega)] at hne ⊢; rw [e 18 (by omega), e 8 (by omega), en]; exact b1 c hc hne
  · rw [e 17 (by omega)] at hne ⊢; rw [e 18 (by omega), e 13 (by omega), e 14 (by omega), cy_q0]; exact b2 c hc hne
  · rw [e 13 (by omega)] at hk; rw [e 17 (by omega), e 18 (by omega), e 14 (by omega), et]; exact b3 c hc k hk
  · rw [e 13 (by omega)] at hk; rw [e 14 (by omega), et]; exact b4 c hc k hk
  · rw [e 17 (by omega)] at hne heq; exact b5 c d hc hd hne heq
  · rw [e 17 (by omega)] at hne ⊢; rw [e 18 (by omega)]
    unfold bt; simp only [et]; rw [e 7 (by omega), e 9 (by omega), e 10 (by omega), e 13 (by omega), e 14 (by omega)]
    exact b6 c hc hne
theorem iN_cy {B : AA} (h : iN B) (t : Int) : iN (cyT B t) := by
  unfold iN at *
  rw [NN_c (cy_0 _ _ (by omega)) (cy_r _ _ (by omega)) (cy_r _ _ (by omega)) (cy_r _ _ (by omega)) (cy_r _ _ (by omega)), cy_0 _ _ (by omega), cy_0 _ _ (by omega)]; exact h
theorem gd_cy {B : AA} (h : gd B) {t : Int} (ht : B 0 5 ≤ t) (h2 : t ≤ 2000000) : gd (cyT B t) := ⟨iv_cy h.1 ht h2, iW_cy h.2.1 t, iN_cy h.2.2 t⟩
theorem gd_st {B : AA} (h : gd B) (h2 : B 0 5 < 2000000) : gd (stF B) := gd_leF (gd_moF (gd_asF (gd_cy h (by omega) (by omega))))
/-- nothing to do -/
def Qt (Z : AA) : Prop := (∀ j : Nat, j < (16 + 4 * Z 0 3).toNat → ∀ c, ¬ wt Z j c) ∧ (∀ j : Nat, j < (Z 0 3).toNat → mv Z j = -1) ∧ (∀ j : Nat, j < (16 + 4 * Z 0 3).toNat → ¬ cl Z j)
theorem Qt_st {B : AA} (h : Qt (tck B)) : stF B = tck B := by
  obtain ⟨a, b, c⟩ := h
  unfold stF
  have e1 : asF (tck B) = tck B := fs_qa _ a
  have e2 : moF (tck B) = tck B := fs_qm _ b
  have e3 : leF (tck B) = tck B := fs_ql _ c
  rw [e1, e2, e3]
theorem Qt_all {B : AA} (h : ∀ i, 0 ≤ i → i < 176 → fr B i < 0) (w : wf B) : Qt B := by
  have hl := w.l
  refine ⟨fun j hj c z => by have := h j (by omega) (by omega); have := z.1; omega, fun j hj => ?_, fun j hj z => by have := h j (by omega) (by omega); have := z.1; omega⟩
  rcases mk_spec (B := B) (l := j) 4 1 with e | ⟨g, -⟩
  · exact e
  · have g2 := g.2.1; have g3 := g.2.2.1
    have a := w.a17 (mk B (j : Int) 4 1).toNat
    have := h _ g2 (by omega); omega
