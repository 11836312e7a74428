/-! runs -/
def same (B B' : AA) : Prop := (∀ k, 1 ≤ k → k ≤ 18 → B' k = B k) ∧ (∀ j, 2 ≤ j → j ≤ 8 → B' 0 j = B 0 j)
theorem iv_same {B B' : AA} (s : same B B') (h : iv B) : iv B' := by
  obtain ⟨e, e0⟩ := s
  obtain ⟨w, hL, hR, hP, hB, hH, hG⟩ := h
  refine ⟨?_, iL_c (e0 _ (by omega) (by omega)) (e0 _ (by omega) (by omega)) (e _ (by omega) (by omega)) (e _ (by omega) (by omega)) (e _ (by omega) (by omega)) (e _ (by omega) (by omega)) hL, iR_c (e0 _ (by omega) (by omega)) (e0 _ (by omega) (by omega)) (e _ (by omega) (by omega)) (e _ (by omega) (by omega)) (e _ (by omega) (by omega)) (e _ (by omega) (by omega)) hR, iP_c (e0 _ (by omega) (by omega)) (e0 _ (by omega) (by omega)) (e _ (by omega) (by omega)) (e _ (by omega) (by omega)) (e _ (by omega) (by omega)) (e _ (by omega) (by omega)) (e _ (by omega) (by omega)) hP, iB_c (e0 _ (by omega) (by omega)) (e0 _ (by omega) (by omega)) (e0 _ (by omega) (by omega)) (e _ (by omega) (by omega)) (e _ (by omega) (by omega)) (e _ (by omega) (by omega)) (e _ (by omega) (by omega)) (e _ (by omega) (by omega)) hB, iH_c (e0 _ (by omega) (by omega)) (e0 _ (by omega) (by omega)) (e0 _ (by omega) (by omega)) (e _ (by omega) (by omega)) (e _ (by omega) (by omega)) (e _ (by omega) (by omega)) (e _ (by omega) (by omega)) (e _ (by omega) (by omega)) hH, iG_c (e0 _ (by omega) (by omega)) (e0 _ (by omega) (by omega)) (e _ (by omega) (by omega)) hG⟩
  unfold wf at *
  rw [e0 2 (by omega) (by omega), e0 3 (by omega) (by omega), e0 4 (by omega) (by omega), e0 5 (by omega) (by omega), e 1 (by omega) (by omega), e 2 (by omega) (by omega), e 3 (by omega) (by omega), e 4 (by omega) (by omega), e 5 (by omega) (by omega), e 6 (by omega) (by omega), e 7 (by omega) (by omega), e 8 (by omega) (by omega), e 9 (by omega) (by omega), e 10 (by omega) (by omega), e 13 (by omega) (by omega), e 14 (by omega) (by omega), e 15 (by omega) (by omega), e 17 (by omega) (by omega)]
  exact w
theorem iW_same {B B' : AA} (s : same B B') (h : iW B) : iW B' := by
  obtain ⟨e, e0⟩ := s
  have en : ∀ x, nd B' x = nd B x := nd_c (e 2 (by omega) (by omega))
  have et : ∀ x, tl B' x = tl B x := tl_c (e 9 (by omega) (by omega))
  have eq : ∀ x, q0 B' x = q0 B x := q0_c (e0 _ (by omega) (by omega)) (e _ (by omega) (by omega)) (e _ (by omega) (by omega)) (e _ (by omega) (by omega))
  obtain ⟨b1, b2, b3, b4, b5, T, b6⟩ := h
  have e17 := e 17 (by omega) (by omega); have e18 := e 18 (by omega) (by omega); have e13 := e 13 (by omega) (by omega); have e14 := e 14 (by omega) (by omega)
  refine ⟨fun c hc hne => ?_, fun c hc hne => ?_, fun c hc k hk => ?_, fun c hc k hk => ?_, fun c d hc hd hne heq => ?_, T, fun c hc hne => ?_⟩
  · rw [e17] at hne ⊢; rw [e18, e 8 (by omega) (by omega), en]; exact b1 c hc hne
  · rw [e17] at hne ⊢; rw [e18, e13, e14, eq]; exact b2 c hc hne
  · rw [e13] at hk; rw [e17, e18, e14, et]; exact b3 c hc k hk
  · rw [e13] at hk; rw [e14, et]; exact b4 c hc k hk
  · rw [e17] at hne heq; exact b5 c d hc hd hne heq
  · rw [e17] at hne ⊢; rw [e18]
    unfold bt; simp only [et]; rw [e 7 (by omega) (by omega), e 9 (by omega) (by omega), e 10 (by omega) (by omega), e13, e14]
    exact b6 c hc hne
theorem gd_same {B B' : AA} (s : same B B') (h : gd B) : gd B' := by
  refine ⟨iv_same s h.1, iW_same s h.2.1, ?_⟩
  obtain ⟨e, e0⟩ := s
  have := h.2.2
  unfold iN at *
  rw [NN_c (e0 _ (by omega) (by omega)) (e _ (by omega) (by omega)) (e _ (by omega) (by omega)) (e _ (by omega) (by omega)) (e _ (by omega) (by omega)), e0 _ (by omega) (by omega), e0 _ (by omega) (by omega)]; exact this
def RO (A B : AA) : Prop := Rel A B ∧ ∀ c : Nat, c < 160 → A 22 c = 0
theorem Eqs_same {A B B' : AA} (s : same B B') (h1 : B' 0 1 = B 0 1) (h : Eqs A B) : Eqs A B' := by
  refine ⟨fun x hx => ?_, fun x hx => ?_⟩
  · have : 1 ≤ x.2 ∧ x.2 ≤ 18 := by revert x; decide
    rw [s.1 _ this.1 this.2]; exact h.1 x hx
  · have : x.2.1 = 0 ∧ (x.2.2 = 1 ∨ 2 ≤ x.2.2 ∧ x.2.2 ≤ 8) := by revert x; decide
    rw [h.2 x hx, this.1]
    rcases this.2 with z | z
    · rw [z, h1]
    · rw [s.2 _ z.1 z.2]
theorem RO_same {A B B' : AA} (s : same B B') (h1 : B' 0 1 = B 0 1) (h : RO A B) : RO A B' := by
  obtain ⟨⟨E, hw, hq, hH⟩, h22⟩ := h
  obtain ⟨e, e0⟩ := id s
  exact ⟨⟨Eqs_same s h1 E, Rw_c rfl (e0 _ (by omega) (by omega)) (e _ (by omega) (by omega)) (e _ (by omega) (by omega)) hw, Rq_c rfl rfl rfl (e0 _ (by omega) (by omega)) (e _ (by omega) (by omega)) (e _ (by omega) (by omega)) (e _ (by omega) (by omega)) hq, Rh_c rfl (e _ (by omega) (by omega)) hH⟩, h22⟩
theorem same_00 (B : AA) (v : Int) : same B (zU B 0 0 v) := ⟨fun k h1 _ => zU_n _ _ (by omega), fun j h1 _ => zU_j _ _ (by omega)⟩
theorem same_t {B B' B'' : AA} (a : same B B') (b : same B' B'') : same B B'' := ⟨fun k h1 h2 => by rw [b.1 k h1 h2, a.1 k h1 h2], fun j h1 h2 => by rw [b.2 j h1 h2, a.2 j h1 h2]⟩
theorem Rf_tck {A B : AA} (h : iv B) (h22 : ∀ c : Nat, c < 160 → A 22 c = 0) {A1 : AA} (e : A1 22 = A 22) {t : Int} (ht : B 0 5 < t) : Rf A1 (cyT B t) := by
  intro c hc
  rw [e, h22 c hc, cy_r _ _ (by omega), cy_r _ _ (by omega), cy_5]
  have a := h.1.a13 c
  refine ⟨by omega, by omega, fun k hk => ?_⟩
  have := (h.2.2.2.2.1 c k hc hk).2.2.2
  omega
theorem Rel_cy {A B : AA} (h : Rel A B) (t : Int) : Rel (zU A 4 8 t) (cyT B t) := by
  obtain ⟨E, hw, hq, hH⟩ := h
  have eA : ∀ k, k ≠ 4 → zU A 4 8 t k = A k := fun k hk => zU_n _ _ hk
  exact ⟨E.us 4 8 0 5 _ (by decide) (by decide), Rw_c (eA _ (by omega)) (cy_0 _ _ (by omega)) (cy_r _ _ (by omega)) (cy_r _ _ (by omega)) hw, Rq_c (eA _ (by omega)) (eA _ (by omega)) (eA _ (by omega)) (cy_0 _ _ (by omega)) (cy_r _ _ (by omega)) (cy_r _ _ (by omega)) (cy_r _ _ (by omega)) hq, Rh_c (eA _ (by omega)) (cy_r _ _ (by omega)) hH⟩
theorem fs_keep {α : Type} {f : AA → Int → AA} {P : AA → α} (h : ∀ B (i : Nat), P (f B i) = P B) : ∀ n B, P (fs f n B) = P B := by
  intro n
  induction n with
  | zero => intro B; rfl
  | succ n ih => intro B; rw [fs, h, ih]
theorem asF_0 (B : AA) (j : Nat) : asF B 0 j = B 0 j := fs_keep (P := fun B => B 0 j) (fun B i => by show asI B i 0 j = B 0 j; rw [asI_r _ _ (by omega)]) _ B
theorem moL_0 (B : AA) (l : Int) {j : Nat} (h : j ≠ 6) : moL B l 0 j = B 0 j := by
  unfold moL; split
  · rfl
  · exact mo_0 _ _ _ h
theorem moF_0 (B : AA) {j : Nat} (h : j ≠ 6) : moF B 0 j = B 0 j := fs_keep (P := fun B => B 0 j) (fun B i => moL_0 B i h) _ B
theorem leF_0 (B : AA) {j : Nat} (h : j ≠ 7 ∧ j ≠ 8) : leF B 0 j = B 0 j := fs_keep (P := fun B => B 0 j) (fun B i => le_0 B i h) _ B
theorem st_0 (B : AA) {j : Nat} (h : j ≠ 5 ∧ j ≠ 6 ∧ j ≠ 7 ∧ j ≠ 8) : stF B 0 j = B 0 j := by
  unfold stF; rw [leF_0 _ (by omega), moF_0 _ (by omega), asF_0, tck, zU_j _ _ (by omega)]
theorem st_5 (B : AA) : stF B 0 5 = B 0 5 + 1 := by
  unfold stF; rw [leF_0 _ (by omega), moF_0 _ (by omega), asF_0, tck, zU_s]
theorem Rel_A {A A' B : AA} (h : Rel A B) (e : ∀ k, k ≠ 22 → A' k = A k) : Rel A' B := by
  obtain ⟨E, hw, hq, hH⟩ := h
  refine ⟨⟨fun x hx => ?_, fun x hx => ?_⟩, Rw_c (e _ (by omega)) rfl rfl rfl hw, Rq_c (e _ (by omega)) (e _ (by omega)) (e _ (by omega)) rfl rfl rfl rfl hq, Rh_c (e _ (by omega)) rfl hH⟩
  · have : x.1 ≠ 22 := by revert x; decide
    rw [e _ this]; exact E.1 x hx
  · have : x.1.1 ≠ 22 := by revert x; decide
    rw [e _ this]; exact E.2 x hx
theorem c_cycle {A B : AA} (h : gd B) (hb : B 0 5 < 2000000) (hr : RO A B) {post : Int → AA → Prop} (hp : ∀ A' y, (y = 0 ∨ y = 1) → RO A' (stF B) → (y = 0 → Qt (tck B)) → post y A') : zp_CT_goOneCycle A post := by
  have h1 : gd (tck B) := gd_cy h (by omega) (by omega)
  unfold zp_CT_goOneCycle
  rintro _ rfl
  rw [hr.1.1.s5]
  have r1 : Rel (zU A 4 8 (B 0 5 + 1)) (tck B) := Rel_cy hr.1 _
  have f1 : Rf (zU A 4 8 (B 0 5 + 1)) (tck B) := Rf_tck h.1 hr.2 (zU_n _ _ (by omega)) (by omega)
  refine c_ask h1.1 r1 f1 (fun A2 y2 hy2 r2 f2 q2 => ?_)
  refine c_mov (gd_asF h1).1 r2 f2 (fun A3 y3 hy3 r3 f3 q3 => ?_)
  refine c_lea (gd_moF (gd_asF h1)).1 r3 f3 (fun A4 y4 hy4 r4 f4 q4 => ?_)
  unfold zp_CI_endCycle
  rintro _ rfl
  have ro : RO (zF A4 22 160 0) (stF B) := ⟨Rel_A r4 (fun k hk => by simp [zF, hk]), fun c hc => by simp [zF, hc]⟩
  refine ⟨by omega, fun _ => hp _ 1 (.inr rfl) ro (fun z => by omega), fun z2 => ⟨by omega, fun _ => hp _ 1 (.inr rfl) ro (fun z => by omega), fun z3 => ⟨by omega, fun z4 => hp _ 0 (.inl rfl) ro (fun _ => ?_), fun _ => hp _ 1 (.inr rfl) ro (fun z => by omega)⟩⟩⟩
  have a2 := q2 z2
  have e2 : asF (tck B) = tck B := fs_qa _ a2
  rw [e2] at q3 q4
  have a3 := q3 z3
  have e3 : moF (tck B) = tck B := fs_qm _ a3
  rw [e3] at q4
  exact ⟨a2, a3, q4 z4⟩
noncomputable def it : Nat → AA → AA
  | 0, B => B
  | n + 1, B => stF (it n B)
theorem it_gd {B : AA} (h : gd B) : ∀ n : Nat, B 0 5 + n ≤ 2000000 → gd (it n B) ∧ it n B 0 5 = B 0 5 + n ∧ it n B 0 4 = B 0 4 := by
  intro n
  induction n with
  | zero => intro _; exact ⟨h, by simp [it], rfl⟩
  | succ n ih =>
    intro hn
    obtain ⟨a, b, c⟩ := ih (by omega)
    rw [it]
    exact ⟨gd_st a (by omega), by rw [st_5, b]; omega, by rw [st_0 _ (by omega), c]⟩
theorem Qt_in {B : AA} (h : gd B) (hb : B 0 5 < 2000000) (he : B 0 8 = B 0 4) : Qt (tck B) := by
  have h1 : gd (tck B) := gd_cy h (by omega) (by omega)
  have e8 : tck B 0 8 = tck B 0 4 := by
    have a : tck B 0 8 = B 0 8 := zU_j _ _ (by omega)
    have b : tck B 0 4 = B 0 4 := zU_j _ _ (by omega)
    rw [a, b, he]
  exact Qt_all (all_in h1.1 h1.2.1 h1.2.2 e8) h1.1.1
theorem r_run1 {B : AA} (h : gd B) {n : Nat} (hb : B 0 5 + n ≤ 2000000) {v : Int} {ex : AA → Int → Prop} {post : Int → AA → Prop} (hn : n ≤ 2000) (hex : ex (it n B) n) : ∃ k, zl_M_run_29 n v ex post k B 0 := by
  refine sq2 (zl_M_run_29 n v ex post) (fun j => it j B) n (fun k => ?_) (fun j hj k hk => ?_)
  · exact ⟨by omega, by omega, fun _ => hex, fun g => by omega⟩
  · obtain ⟨a, b, c⟩ := it_gd h j (by omega)
    rw [it] at hk
    generalize it j B = X at *
    have p4 := a.1.1.p
    have nn := a.2.2
    have n1 := nq_0 X; have n2 := sm_0 160 (fun c _ => tbz X c)
    unfold iN NN at nn
    refine ⟨by omega, by omega, fun g => by omega, fun _ => ?_⟩
    unfold zp_M_isEmpty
    refine ⟨by omega, by omega, fun g => ⟨by omega, fun _ => ?_, fun z => absurd rfl z⟩, fun g => ⟨by omega, fun z => by omega, fun _ => ?_⟩⟩
    · exact r_step (gd_cy a (by omega) (by omega)).1 hk
    · rintro _ rfl
      rw [Qt_st (Qt_in a (by omega) g)] at hk
      exact hk
/-- all flits have been where they are for a while -/
def old (Z : AA) : Prop := ∀ c k : Nat, c < 160 → (k : Int) < Z 13 c → Z 15 (4 * c + k) < Z 0 5
theorem fr_old {Z : AA} (w : wf Z) (ho : old Z) {t : Int} (ht : Z 0 5 ≤ t) {i : Int} (h0 : 0 ≤ i) (hi : i < 176) : fr (cyT Z t) i = fr Z i := by
  unfold fr
  rw [cy_q0, cy_5, cy_r _ _ (by omega), cy_r _ _ (by omega), cy_r _ _ (by omega), cy_r _ _ (by omega)]
  by_cases g : i < 16
  · rw [if_pos g, if_pos g]
  · rw [if_neg g, if_neg g]
    by_cases z : Z 13 (i - 16).toNat = 0
    · rw [if_pos (.inl z), if_pos (.inl z)]
    · have a := w.a13 (i - 16).toNat
      have := ho (i - 16).toNat 0 (by omega) (by omega)
      have e4 : (4 * (i - 16)).toNat = 4 * (i - 16).toNat + 0 := by omega
      rw [if_neg (by rw [e4]; omega), if_neg (by rw [e4]; omega)]
theorem mk_c {B B' : AA} (l : Int) (e5 : B' 5 = B 5) (hc : ∀ c, cm B' c ↔ cm B c) : ∀ n k, mk B' l n k = mk B l n k := by
  intro n
  induction n with
  | zero => intro k; rfl
  | succ n ih =>
    intro k
    rw [mk, mk, e5, ih]
    by_cases g : cm B (4 * l + (B 5 l.toNat + k + 4) % 4)
    · rw [cs_t g, cs_t ((hc _).mpr g)]
    · rw [cs_f g, cs_f (fun z => g ((hc _).mp z))]
theorem Qt_old {Z : AA} (w : wf Z) (ho : old Z) (hq : Qt Z) {t : Int} (ht : Z 0 5 ≤ t) : Qt (cyT Z t) := by
  have hl := w.l
  obtain ⟨a, b, c⟩ := hq
  have e3 : cyT Z t 0 3 = Z 0 3 := cy_0 _ _ (by omega)
  have en : ∀ x, nd (cyT Z t) x = nd Z x := nd_c (cy_r _ _ (by omega))
  unfold Qt
  rw [e3]
  refine ⟨fun j hj d hw => a j hj d ?_, fun j hj => ?_, fun j hj hcl => c j hj ?_⟩
  · unfold wt hh hb at *
    rw [fr_old w ho ht (by omega) (by omega), en, e3, cy_r _ _ (by omega), cy_r _ _ (by omega), cy_r _ _ (by omega), cy_r _ _ (by omega)] at hw
    exact hw
  · rw [← b j hj]
    refine mk_c _ (cy_r _ _ (by omega)) (fun d => ?_) _ _
    unfold cm isC
    rw [e3, cy_r _ _ (by omega), cy_r _ _ (by omega), cy_r _ _ (by omega)]
    have a17 := w.a17 d.toNat
    constructor
    · rintro ⟨z1, z2, z3, z4⟩
      rw [fr_old w ho ht z2 (by omega)] at z3
      exact ⟨z1, z2, z3, z4⟩
    · rintro ⟨z1, z2, z3, z4⟩
      refine ⟨z1, z2, ?_, z4⟩
      rw [fr_old w ho ht z2 (by omega)]; exact z3
  · unfold cl at *
    rw [fr_old w ho ht (by omega) (by omega), en, cy_r _ _ (by omega)] at hcl
    exact hcl
theorem old_tck {B : AA} (h : iv B) : old (tck B) := fun c k hc hk => by
  have e13 : tck B 13 = B 13 := zU_n _ _ (by omega)
  have e15 : tck B 15 = B 15 := zU_n _ _ (by omega)
  have e5 : tck B 0 5 = B 0 5 + 1 := zU_s _ _ _ _
  rw [e13] at hk
  rw [e15, e5]
  have := (h.2.2.2.2.1 c k hc hk).2.2.2
  omega
theorem cy_cy (B : AA) (s t : Int) : cyT (cyT B s) t = cyT B t := by
  funext k q; unfold cyT; rw [zU_e, zU_e, zU_e]; split
  · rfl
  · rfl
theorem it_quiet {B : AA} (h : gd B) (hb : B 0 5 < 2000000) (hq : Qt (tck B)) : ∀ m : Nat, B 0 5 + 1 + m ≤ 2000000 → it m (stF B) = cyT B (B 0 5 + 1 + m) := by
  have e1 : stF B = cyT B (B 0 5 + 1) := Qt_st hq
  have w1 := (gd_cy h (t := B 0 5 + 1) (by omega) (by omega)).1.1
  intro m
  induction m with
  | zero => intro _; rw [it, e1]; simp
  | succ m ih =>
    intro hm
    rw [it, ih (by omega)]
    have e2 : tck (cyT B (B 0 5 + 1 + m)) = cyT B (B 0 5 + 1 + (m + 1 : Nat)) := by
      show cyT (cyT B (B 0 5 + 1 + m)) (cyT B (B 0 5 + 1 + m) 0 5 + 1) = _
      rw [cy_cy, cy_5]; congr 1; omega
    have : Qt (tck (cyT B (B 0 5 + 1 + m))) := by
      rw [e2, ← cy_cy B (B 0 5 + 1)]
      have e5 : tck B 0 5 = B 0 5 + 1 := zU_s _ _ _ _
      exact Qt_old (Z := tck B) w1 (old_tck h.1) hq (by rw [e5]; omega)
    rw [Qt_st this, e2]
theorem it_add (B : AA) (m : Nat) : ∀ n, it n (it m B) = it (m + n) B := by
  intro n
  induction n with
  | zero => rfl
  | succ n ih => rw [it, ih]; rfl
theorem c_run1 {B : AA} (h : gd B) {n : Nat} (hb : B 0 5 + n ≤ 2000000) (hn : n ≤ 2000) {v : Int} {ex : AA → Int → Int → Prop} {post : Int → AA → Prop} {xp : String → AA → Prop} (hex : ∀ A' y z, RO A' (it n B) → ex A' y z) : ∀ (m j : Nat) (A : AA), j + m = n → RO A (it j B) → zl_CN_run_35 n v ex post xp (m + 1 + 1) A 1 j := by
  intro m
  induction m with
  | zero =>
    intro j A e hr
    have ej : j = n := by omega
    subst ej
    exact ⟨by omega, by omega, fun _ => hex A _ _ hr, fun g => by omega⟩
  | succ m ih =>
    intro j A e hr
    obtain ⟨a, b, c⟩ := it_gd h j (by omega)
    refine ⟨by omega, by omega, fun g => by omega, fun _ => ⟨by omega, fun z => by omega, fun _ => ?_⟩⟩
    refine c_cycle a (by omega) hr (fun A' y hy hr' hq => ⟨by omega, fun hy0 => ?_, fun hy0 => ?_⟩)
    · have : y = 1 := by omega
      subst this
      have := ih (j + 1) A' (by omega) hr'
      simpa using this
    · rintro _ rfl
      have q := hq hy0
      -- the rest are ticks
      obtain ⟨r, er⟩ : ∃ r : Nat, j + 1 + r = n := ⟨n - j - 1, by omega⟩
      have e1 : it n B = cyT (it j B) (it j B 0 5 + 1 + r) := by
        rw [← it_quiet a (by omega) q r (by omega), ← er]
        rw [← it_add B (j + 1) r]; rfl
      have e2 : it n B = cyT (stF (it j B)) (it j B 0 5 + 1 + r) := by
        rw [e1, Qt_st q]; exact (cy_cy _ _ _).symm
      have s8 : A' 4 8 = it j B 0 5 + 1 := by rw [hr'.1.1.s5, st_5]
      have fin : RO (zU A' 4 8 (A' 4 8 + ((n : Int) - j - 1))) (it n B) := by
        rw [e2, s8, show it j B 0 5 + 1 + ((n : Int) - j - 1) = it j B 0 5 + 1 + r by omega]
        exact ⟨Rel_cy hr'.1 _, fun c hc => by rw [zU_n _ _ (by omega)]; exact hr'.2 c hc⟩
      subst hy0
      refine ⟨by omega, by omega, fun _ => hex _ _ _ fin, fun _ => ⟨by omega, fun _ => hex _ _ _ fin, fun z => absurd rfl z⟩⟩
