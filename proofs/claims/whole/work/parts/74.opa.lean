/-! the calls: nodes, links, routes -/
def RR (n : Nat) (A B : AA) : Prop := RO A B ∧ gd B ∧ B 0 5 ≤ 2000 * (n : Int)
theorem RR_same {n : Nat} {A B B' : AA} (s : same B B') (h1 : B' 0 1 = B 0 1) (h : RR n A B) : RR n A B' := ⟨RO_same s h1 h.1, gd_same s h.2.1, by rw [s.2 5 (by omega) (by omega)]; exact h.2.2⟩
theorem RR_s {n : Nat} {A B : AA} (h : RR n A B) : RR (n + 1) A B := ⟨h.1, h.2.1, by have := h.2.2; omega⟩
theorem RR_0 {n : Nat} {A B : AA} (h : RR n A B) (v : Int) : RR n A (zU B 0 0 v) := RR_same (same_00 B v) (zU_j _ _ (by omega)) h
theorem RR_x {n : Nat} {A B : AA} (h : RR n A B) (v : Int) : RR (n + 1) A (zU (zU B 0 0 0) 0 0 v) := RR_s (RR_0 (RR_0 h 0) v)
theorem wf_00 {B : AA} (w : wf B) (v : Int) : wf (zU B 0 0 v) := by
  have e : ∀ k, k ≠ 0 → zU B 0 0 v k = B k := fun k hk => zU_n _ _ hk
  have e0 : ∀ j, j ≠ 0 → zU B 0 0 v 0 j = B 0 j := fun j hj => zU_j _ _ hj
  unfold wf at *
  rw [e0 2 (by omega), e0 3 (by omega), e0 4 (by omega), e0 5 (by omega), e 1 (by omega), e 2 (by omega), e 3 (by omega), e 4 (by omega), e 5 (by omega), e 6 (by omega), e 7 (by omega), e 8 (by omega), e 9 (by omega), e 10 (by omega), e 13 (by omega), e 14 (by omega), e 15 (by omega), e 17 (by omega)]
  exact w
theorem x00 (B : AA) (v : Int) : zU (zU B 0 0 0) 0 0 v 0 0 = v := zU_s _ _ _ _
/-! readers of the program -/
theorem c_hasNode {A B : AA} (E : Eqs A B) (w : wf B) {x : Int} (hx : rg x) {post : Int → Prop} (h1 : 0 ≤ x → x < B 0 2 → post 1) (h0 : ¬ (0 ≤ x ∧ x < B 0 2) → post 0) : zp_CP_hasNode A x post := by
  have := w.n
  unfold zp_CP_hasNode
  rw [E.s2]
  exact ⟨hx, fun g => h0 (by omega), fun g => ⟨hx, by omega, fun q => h0 (by omega), fun q => h1 (by omega) (by omega)⟩⟩
theorem c_hasTwo {A B : AA} (E : Eqs A B) (w : wf B) {x y : Int} (hx : rg x) (hy : rg y) {post : Int → Prop} (h1 : 0 ≤ x → x < B 0 2 → 0 ≤ y → y < B 0 2 → x ≠ y → post 1) (h0 : ¬ (0 ≤ x ∧ x < B 0 2 ∧ 0 ≤ y ∧ y < B 0 2 ∧ x ≠ y) → post 0) : zp_CP_hasTwoNodes A x y post := by
  unfold zp_CP_hasTwoNodes
  refine c_hasNode E w hx (fun a b => ⟨by omega, fun z => by omega, fun _ => ?_⟩) (fun a => ⟨by omega, fun _ => h0 (fun z => a ⟨z.1, z.2.1⟩), fun z => absurd rfl z⟩)
  refine c_hasNode E w hy (fun c d => ⟨by omega, fun z => by omega, fun _ => ⟨hx, hy, fun e => h0 (fun z => z.2.2.2.2 e), fun e => h1 a b c d e⟩⟩) (fun c => ⟨by omega, fun _ => h0 (fun z => c ⟨z.2.2.1, z.2.2.2.1⟩), fun z => absurd rfl z⟩)
theorem c_hasLink {A B : AA} (E : Eqs A B) (w : wf B) {x : Int} (hx : rg x) {post : Int → Prop} (h1 : 0 ≤ x → x < B 0 3 → post 1) (h0 : ¬ (0 ≤ x ∧ x < B 0 3) → post 0) : zp_CP_hasLink A x post := by
  have := w.l
  unfold zp_CP_hasLink
  rw [E.s3]
  exact ⟨hx, fun g => h0 (by omega), fun g => ⟨hx, by omega, fun q => h0 (by omega), fun q => h1 (by omega) (by omega)⟩⟩
theorem c_hasChannel {A B : AA} (E : Eqs A B) (w : wf B) {x : Int} (hx : rg x) {post : Int → Prop} (h1 : isC B x → post 1) (h0 : ¬ isC B x → post 0) : zp_CP_hasChannel A x post := by
  have := w.l
  unfold zp_CP_hasChannel
  refine ⟨hx, fun g => h0 (fun z => by have := z.1; omega), fun g => ⟨by omega, ?_⟩⟩
  refine c_hasLink E w (by omega) (fun a b => ⟨by omega, fun z => by omega, fun _ => ?_⟩) (fun a => ⟨by omega, fun _ => h0 (fun z => a (by unfold isC at z; omega)), fun z => absurd rfl z⟩)
  have a3 := w.a3 (x / 4).toNat
  rw [E.c8]
  exact ⟨by omega, by omega, by omega, by omega, by omega, fun q => h0 (fun z => by unfold isC at z; omega), fun q => h1 (by unfold isC; omega)⟩
/-! node -/
theorem gd_node {B : AA} (h : gd B) (hn : B 0 2 < 16) : gd (zU B 0 2 (B 0 2 + 1)) := by
  obtain ⟨⟨w, hL, hR, hP, hB, hH, hG⟩, hW, hN⟩ := h
  have e : ∀ k, k ≠ 0 → zU B 0 2 (B 0 2 + 1) k = B k := fun k hk => zU_n _ _ hk
  have e0 : ∀ j, j ≠ 2 → zU B 0 2 (B 0 2 + 1) 0 j = B 0 j := fun j hj => zU_j _ _ hj
  have e2 : zU B 0 2 (B 0 2 + 1) 0 2 = B 0 2 + 1 := zU_s _ _ _ _
  have n0 := w.n
  refine ⟨⟨?_, ?_, ?_, ?_, iB_c (e0 _ (by omega)) (e0 _ (by omega)) (e0 _ (by omega)) (e _ (by omega)) (e _ (by omega)) (e _ (by omega)) (e _ (by omega)) (e _ (by omega)) hB, ?_, iG_c (e0 _ (by omega)) (e0 _ (by omega)) (e _ (by omega)) hG⟩, ?_, ?_⟩
  · unfold wf at *
    rw [e2, e0 3 (by omega), e0 4 (by omega), e0 5 (by omega), e 1 (by omega), e 2 (by omega), e 3 (by omega), e 4 (by omega), e 5 (by omega), e 6 (by omega), e 7 (by omega), e 8 (by omega), e 9 (by omega), e 10 (by omega), e 13 (by omega), e 14 (by omega), e 15 (by omega), e 17 (by omega)]
    exact ⟨by omega, w.2⟩
  · unfold iL at *
    rw [e2, e0 3 (by omega), e 1 (by omega), e 2 (by omega), e 3 (by omega), e 5 (by omega)]
    refine ⟨fun l hl => ?_, hL.2⟩
    have := hL.1 l hl
    exact ⟨by omega, by omega, this.2.2⟩
  · unfold iR isC at *
    rw [e2, e0 3 (by omega), e 1 (by omega), e 3 (by omega), e 4 (by omega), e 6 (by omega)]
    intro k hk hne
    have := hR k hk hne
    exact ⟨by omega, by omega, this.2.2⟩
  · unfold iP at *
    rw [e2, e0 4 (by omega), e 7 (by omega), e 8 (by omega), e 9 (by omega), e 10 (by omega), e 11 (by omega)]
    refine ⟨fun p hp => ?_, hP.2⟩
    have := hP.1 p hp
    exact ⟨by omega, by omega, this.2.2⟩
  · unfold iH2 inp isC nd at *
    rw [e2, e0 3 (by omega), e0 4 (by omega), e 1 (by omega), e 2 (by omega), e 3 (by omega), e 17 (by omega), e 18 (by omega)]
    intro c hc hne
    have := hH c hc hne
    refine ⟨this.1, ⟨this.2.1.1, ?_⟩, this.2.2⟩
    rcases this.2.1.2 with z | z
    · exact .inl ⟨z.1, by omega⟩
    · exact .inr z
  · have en : ∀ x, nd (zU B 0 2 (B 0 2 + 1)) x = nd B x := nd_c (e 2 (by omega))
    have et : ∀ x, tl (zU B 0 2 (B 0 2 + 1)) x = tl B x := tl_c (e 9 (by omega))
    have eq : ∀ x, q0 (zU B 0 2 (B 0 2 + 1)) x = q0 B x := q0_c (e0 _ (by omega)) (e _ (by omega)) (e _ (by omega)) (e _ (by omega))
    obtain ⟨b1, b2, b3, b4, b5, T, b6⟩ := hW
    unfold iW wB wCc wJ wK wI wH bt at *
    simp only [en, et, eq]
    rw [e 17 (by omega), e 18 (by omega), e 8 (by omega), e 13 (by omega), e 14 (by omega), e 7 (by omega), e 9 (by omega), e 10 (by omega)]
    exact ⟨b1, b2, b3, b4, b5, T, b6⟩
  · unfold iN at *
    rw [NN_c (e0 _ (by omega)) (e _ (by omega)) (e _ (by omega)) (e _ (by omega)) (e _ (by omega)), e0 _ (by omega), e0 _ (by omega)]; exact hN
theorem Rel_c {A A' B B' : AA} (h : Rel A B) (E : Eqs A' B') (eA : ∀ k, k = 14 ∨ k = 17 ∨ k = 18 ∨ k = 19 ∨ k = 23 → A' k = A k) (eB : ∀ k, k = 7 ∨ k = 9 ∨ k = 10 ∨ k = 17 → B' k = B k) (e4 : B' 0 4 = B 0 4) : Rel A' B' := by
  obtain ⟨-, hw, hq, hH⟩ := h
  exact ⟨E, Rw_c (eA _ (by omega)) e4 (eB _ (by omega)) (eB _ (by omega)) hw, Rq_c (eA _ (by omega)) (eA _ (by omega)) (eA _ (by omega)) e4 (eB _ (by omega)) (eB _ (by omega)) (eB _ (by omega)) hq, Rh_c (eA _ (by omega)) (eB _ (by omega)) hH⟩
theorem op_node {n : Nat} {A B : AA} (h : RR n A B) : zp_CN_node A (fun r S => zp_M_node B (fun t T => T 0 0 = 0 ∧ r = t ∧ RR (n + 1) S T)) (fun E S => E = "java/lang/UnsupportedOperationException" ∧ zp_M_node B (fun t T => T 0 0 = 1 ∧ RR (n + 1) S T)) := by
  obtain ⟨⟨hr, h22⟩, hg, h5⟩ := id h
  have w := hg.1.1
  have n0 := w.n
  have E := hr.1
  unfold zp_CN_node
  rw [E.s2]
  refine ⟨by omega, fun g => ?_, fun g => ⟨rfl, ?_⟩⟩
  · rintro _ rfl
    unfold zp_M_node
    rintro _ rfl
    have x2 : zU B 0 0 0 0 2 = B 0 2 := zU_j _ _ (by omega)
    rw [x2]
    refine ⟨by omega, fun _ => ?_, fun z => by omega⟩
    rintro _ rfl
    have hg0 : gd (zU (zU B 0 0 0) 0 2 (B 0 2 + 1)) := by
      have := gd_node (gd_same (same_00 B 0) hg) (by rw [x2]; omega)
      rw [x2] at this; exact this
    refine ⟨by rw [zU_j _ _ (by omega), zU_s], by rw [zU_s, zU_s], ⟨Rel_c hr ((E.ur 0 0 0 (by decide) (by decide)).us 1 0 0 2 _ (by decide) (by decide)) (fun k hk => zU_n _ _ (by omega)) (fun k hk => by rw [zU_n _ _ (by omega), zU_n _ _ (by omega)]) (by rw [zU_j _ _ (by omega), zU_j _ _ (by omega)]), fun c hc => by rw [zU_n _ _ (by omega)]; exact h22 c hc⟩, hg0, ?_⟩
    rw [zU_j _ _ (by omega), zU_j _ _ (by omega)]; omega
  · unfold zp_M_node
    rintro _ rfl
    have x2 : zU B 0 0 0 0 2 = B 0 2 := zU_j _ _ (by omega)
    rw [x2]
    refine ⟨by omega, fun z => by omega, fun _ => ?_⟩
    rintro _ rfl
    exact ⟨x00 B 1, RR_x h 1⟩
/-! link -/
def lk (B : AA) (a b w : Int) : AA := zU (zU (zU (zU B 1 (B 0 3).toNat a) 2 (B 0 3).toNat b) 3 (B 0 3).toNat w) 0 3 (B 0 3 + 1)
theorem lk_r (B : AA) (a b w : Int) {k : Nat} (h : k ≠ 0 ∧ k ≠ 1 ∧ k ≠ 2 ∧ k ≠ 3) : lk B a b w k = B k := by unfold lk; rw [zU_n _ _ (by omega), zU_n _ _ (by omega), zU_n _ _ (by omega), zU_n _ _ (by omega)]
theorem lk_0 (B : AA) (a b w : Int) {j : Nat} (h : j ≠ 3) : lk B a b w 0 j = B 0 j := by unfold lk; rw [zU_j _ _ h, zU_n _ _ (by omega), zU_n _ _ (by omega), zU_n _ _ (by omega)]
theorem lk_03 (B : AA) (a b w : Int) : lk B a b w 0 3 = B 0 3 + 1 := zU_s _ _ _ _
theorem lk_1 (B : AA) (a b w : Int) (j : Nat) : lk B a b w 1 j = if j = (B 0 3).toNat then a else B 1 j := by unfold lk; rw [zU_n _ _ (by omega), zU_n _ _ (by omega), zU_n _ _ (by omega), zU_e]; simp
theorem lk_2 (B : AA) (a b w : Int) (j : Nat) : lk B a b w 2 j = if j = (B 0 3).toNat then b else B 2 j := by unfold lk; rw [zU_n _ _ (by omega), zU_n _ _ (by omega), zU_e, zU_n _ _ (by omega)]; simp
theorem lk_3 (B : AA) (a b w : Int) (j : Nat) : lk B a b w 3 j = if j = (B 0 3).toNat then w else B 3 j := by unfold lk; rw [zU_n _ _ (by omega), zU_e, zU_n _ _ (by omega), zU_n _ _ (by omega)]; simp
theorem lk_isC {B : AA} (a b w : Int) {c : Int} (h : isC B c) : isC (lk B a b w) c := by
  unfold isC at *; rw [lk_03, lk_3, if_neg (by omega)]; omega
theorem lk_nd {B : AA} (a b w : Int) {i : Int} (h : inp B i) : nd (lk B a b w) i = nd B i := by
  unfold nd
  by_cases g : i < 16
  · rw [if_pos g, if_pos g]
  · have : isC B (i - 16) := by rcases h.2 with z | z; omega; exact z.2
    unfold isC at this
    rw [if_neg g, if_neg g, lk_2, if_neg (by omega)]
theorem gd_link {B : AA} (h : gd B) {a b w : Int} (hl : B 0 3 < 40) (ha : 0 ≤ a ∧ a < B 0 2) (hb : 0 ≤ b ∧ b < B 0 2) (hab : a ≠ b) (hw : 1 ≤ w ∧ w ≤ 4) : gd (lk B a b w) := by
  obtain ⟨⟨wf0, hL, hR, hP, hB, hH, hG⟩, hW, hN⟩ := h
  have e : ∀ k, k ≠ 0 ∧ k ≠ 1 ∧ k ≠ 2 ∧ k ≠ 3 → lk B a b w k = B k := fun k => lk_r B a b w
  have e0 : ∀ j, j ≠ 3 → lk B a b w 0 j = B 0 j := fun j => lk_0 B a b w
  have l0 := wf0.l; have n0 := wf0.n
  refine ⟨⟨?_, ?_, ?_, iP_c (e0 _ (by omega)) (e0 _ (by omega)) (e _ (by omega)) (e _ (by omega)) (e _ (by omega)) (e _ (by omega)) (e _ (by omega)) hP, ?_, ?_, iG_c (e0 _ (by omega)) (e0 _ (by omega)) (e _ (by omega)) hG⟩, ?_, ?_⟩
  · obtain ⟨w1, w2, w3, w4, w5, w6, w7, w8⟩ := wf0
    unfold wf
    rw [e0 2 (by omega), lk_03, e0 4 (by omega), e0 5 (by omega), e 4 (by omega), e 5 (by omega), e 6 (by omega), e 7 (by omega), e 8 (by omega), e 9 (by omega), e 10 (by omega), e 13 (by omega), e 14 (by omega), e 15 (by omega), e 17 (by omega)]
    refine ⟨w1, by omega, w3, w4, fun j => ?_, w6, w7, w8⟩
    rw [lk_1, lk_2, lk_3]
    by_cases q : j = (B 0 3).toNat
    · rw [if_pos q, if_pos q, if_pos q]; exact ⟨by omega, by omega, by omega, (w5 j).2.2.2⟩
    · rw [if_neg q, if_neg q, if_neg q]; exact w5 j
  · unfold iL
    rw [e0 2 (by omega), lk_03, e 5 (by omega)]
    refine ⟨fun j hj => ?_, fun j h1 h2 => hL.2 j (by omega) h2⟩
    rw [lk_1, lk_2, lk_3]
    by_cases q : j = (B 0 3).toNat
    · rw [if_pos q, if_pos q, if_pos q]
      have := hL.2 j (by omega) (by omega)
      exact ⟨by omega, by omega, hab, by omega, by omega⟩
    · rw [if_neg q, if_neg q, if_neg q]; exact hL.1 j (by omega)
  · intro k hk hne
    rw [e 6 (by omega)] at hne ⊢
    rw [e0 2 (by omega), e 4 (by omega), lk_1]
    obtain ⟨a1, a2, a3, a4, a5, a6⟩ := hR k hk hne
    have a4' := a4
    unfold isC at a4'
    rw [if_neg (by omega)]
    exact ⟨a1, a2, a3, lk_isC _ _ _ a4, a5, a6⟩
  · intro c k hc hk
    rw [e 13 (by omega)] at hk
    obtain ⟨a1, a2, a3, a4⟩ := hB c k hc hk
    rw [e0 4 (by omega), e0 5 (by omega), e 9 (by omega), e 14 (by omega), e 15 (by omega)]
    exact ⟨lk_isC _ _ _ a1, a2, a3, a4⟩
  · intro c hc hne
    rw [e 17 (by omega)] at hne ⊢
    obtain ⟨a1, a2, a3, a4, a5⟩ := hH c hc hne
    rw [e 18 (by omega), e0 4 (by omega), lk_nd _ _ _ a2, lk_1]
    have a1' := a1
    unfold isC at a1'
    rw [if_neg (by omega)]
    refine ⟨lk_isC _ _ _ a1, ⟨a2.1, ?_⟩, a3, a4, a5⟩
    rw [e0 2 (by omega)]
    rcases a2.2 with z | z
    · exact .inl z
    · exact .inr ⟨z.1, lk_isC _ _ _ z.2⟩
  · have et : ∀ x, tl (lk B a b w) x = tl B x := tl_c (e 9 (by omega))
    have eq : ∀ x, q0 (lk B a b w) x = q0 B x := q0_c (e0 _ (by omega)) (e _ (by omega)) (e _ (by omega)) (e _ (by omega))
    obtain ⟨b1, b2, b3, b4, b5, T, b6⟩ := hW
    refine ⟨fun c hc hne => ?_, ?_, ?_, ?_, ?_, T, ?_⟩
    · rw [e 17 (by omega)] at hne ⊢
      rw [e 18 (by omega), e 8 (by omega), lk_nd _ _ _ (hH c hc hne).2.1]
      exact b1 c hc hne
    all_goals (unfold wCc wJ wK wI wH bt at *; try simp only [et, eq])
    · rw [e 17 (by omega), e 18 (by omega), e 13 (by omega), e 14 (by omega)]; exact b2
    · rw [e 17 (by omega), e 18 (by omega), e 13 (by omega), e 14 (by omega)]; exact b3
    · rw [e 13 (by omega), e 14 (by omega)]; exact b4
    · rw [e 17 (by omega)]; exact b5
    · rw [e 17 (by omega), e 18 (by omega), e 13 (by omega), e 14 (by omega), e 7 (by omega), e 9 (by omega), e 10 (by omega)]; exact b6
  · unfold iN at *
    rw [NN_c (e0 _ (by omega)) (e _ (by omega)) (e _ (by omega)) (e _ (by omega)) (e _ (by omega)), e0 _ (by omega), e0 _ (by omega)]; exact hN
theorem r_link {B : AA} (h : wf B) {a b w : Int} (ha : rg a) (hb : rg b) (hw : rg w) {post : Int → AA → Prop} (h1 : ¬ ((0 ≤ a ∧ a < B 0 2 ∧ 0 ≤ b ∧ b < B 0 2 ∧ a ≠ b) ∧ 1 ≤ w ∧ w ≤ 4) → post 0 (zU (zU B 0 0 0) 0 0 1)) (h2 : ((0 ≤ a ∧ a < B 0 2 ∧ 0 ≤ b ∧ b < B 0 2 ∧ a ≠ b) ∧ 1 ≤ w ∧ w ≤ 4) → B 0 3 = 40 → post 0 (zU (zU B 0 0 0) 0 0 2)) (h3 : ((0 ≤ a ∧ a < B 0 2 ∧ 0 ≤ b ∧ b < B 0 2 ∧ a ≠ b) ∧ 1 ≤ w ∧ w ≤ 4) → B 0 3 < 40 → post (B 0 3) (lk (zU B 0 0 0) a b w)) : zp_M_link B a b w post := by
  unfold zp_M_link
  rintro _ rfl
  have w0 := wf_00 h 0
  have l0 := h.l
  have x2 : zU B 0 0 0 0 2 = B 0 2 := zU_j _ _ (by omega)
  have x3 : zU B 0 0 0 0 3 = B 0 3 := zU_j _ _ (by omega)
  have bad : ¬ ((0 ≤ a ∧ a < B 0 2 ∧ 0 ≤ b ∧ b < B 0 2 ∧ a ≠ b) ∧ 1 ≤ w ∧ w ≤ 4) → zp_M_wrong (zU B 0 0 0) 1 (fun r S => post r S) := fun q => by rintro _ rfl; exact h1 q
  refine r_isNode w0 ha (fun a1 a2 => ⟨by omega, fun z => by omega, fun _ => ?_⟩) (fun q => ⟨by omega, fun _ => bad (by omega), fun z => absurd rfl z⟩)
  refine r_isNode w0 hb (fun b1 b2 => ⟨by omega, fun z => by omega, fun _ => ⟨ha, hb, fun e => bad (by omega), fun e => ?_⟩⟩) (fun q => ⟨by omega, fun _ => bad (by omega), fun z => absurd rfl z⟩)
  refine r_within hw (by omega) (by omega) (fun w1 w2 => ⟨by omega, fun _ => ?_, fun z => by omega⟩) (fun q => ⟨by omega, fun z => absurd rfl z, fun _ => bad (by omega)⟩)
  rw [x3]
  refine ⟨by omega, fun g => ⟨by omega, ?_⟩, fun g => ?_⟩
  · have h3 := h3 (by omega) (by omega)
    unfold lk at h3
    rw [x3] at h3
    have y1 : zU (zU B 0 0 0) 1 (B 0 3).toNat a 0 3 = B 0 3 := by rw [zU_n _ _ (by omega), x3]
    have y2 : zU (zU (zU B 0 0 0) 1 (B 0 3).toNat a) 2 (B 0 3).toNat b 0 3 = B 0 3 := by rw [zU_n _ _ (by omega), y1]
    have y3 : zU (zU (zU (zU B 0 0 0) 1 (B 0 3).toNat a) 2 (B 0 3).toNat b) 3 (B 0 3).toNat w 0 3 = B 0 3 := by rw [zU_n _ _ (by omega), y2]
    rintro _ rfl
    rw [y1]
    refine ⟨by omega, ?_⟩
    rintro _ rfl
    rw [y2]
    refine ⟨by omega, ?_⟩
    rintro _ rfl
    rintro _ rfl
    rw [y3, zU_s, show B 0 3 + 1 - 1 = B 0 3 by omega]
    exact h3
  · rintro _ rfl
    exact h2 (by omega) g
theorem op_link {n : Nat} {A B : AA} (h : RR n A B) {a b w : Int} (ha : rg a) (hb : rg b) (hw : rg w) : zp_CN_link A a b w (fun r S => zp_M_link B a b w (fun t T => T 0 0 = 0 ∧ r = t ∧ RR (n + 1) S T)) (fun E S => (E = "java/lang/IllegalArgumentException" ∧ zp_M_link B a b w (fun t T => T 0 0 = 1 ∧ RR (n + 1) S T)) ∨ (E = "java/lang/UnsupportedOperationException" ∧ zp_M_link B a b w (fun t T => T 0 0 = 2 ∧ RR (n + 1) S T))) := by
  obtain ⟨⟨hr, h22⟩, hg, h5⟩ := id h
  have w0 := hg.1.1
  have l0 := w0.l
  have E := hr.1
  have bad : ¬ ((0 ≤ a ∧ a < B 0 2 ∧ 0 ≤ b ∧ b < B 0 2 ∧ a ≠ b) ∧ 1 ≤ w ∧ w ≤ 4) → zp_M_link B a b w (fun t T => T 0 0 = 1 ∧ RR (n + 1) A T) := fun q =>
    r_link w0 ha hb hw (fun _ => ⟨x00 _ _, RR_x h 1⟩) (fun z => absurd z q) (fun z => absurd z q)
  unfold zp_CN_link
  refine c_hasTwo E w0 ha hb (fun a1 a2 b1 b2 hab => ⟨by omega, fun _ => ⟨hw, fun q => .inl ⟨rfl, bad (by omega)⟩, fun q => ⟨hw, fun q2 => ?_, fun q2 => .inl ⟨rfl, bad (by omega)⟩⟩⟩, fun z => by omega⟩) (fun q => ⟨by omega, fun z => absurd rfl z, fun _ => .inl ⟨rfl, bad (fun z => q z.1)⟩⟩)
  rw [E.s3]
  refine ⟨by omega, fun g => ?_, fun g => .inr ⟨rfl, ?_⟩⟩
  · unfold zp_CP_addLink
    rw [E.s3]
    rintro _ rfl
    refine ⟨by omega, ?_⟩
    rintro _ rfl
    refine ⟨by omega, ?_⟩
    rintro _ rfl
    refine ⟨by omega, ?_⟩
    rintro _ rfl
    rintro _ rfl
    have y : zU (zU (zU A 6 (B 0 3).toNat a) 7 (B 0 3).toNat b) 8 (B 0 3).toNat w 1 1 = B 0 3 := by rw [zU_n _ _ (by omega), zU_n _ _ (by omega), zU_n _ _ (by omega), E.s3]
    rw [y]
    have x2 : zU B 0 0 0 0 2 = B 0 2 := zU_j _ _ (by omega)
    have x3 : zU B 0 0 0 0 3 = B 0 3 := zU_j _ _ (by omega)
    refine r_link w0 ha hb hw (fun z => by omega) (fun _ z => by omega) (fun _ _ => ⟨by rw [lk_0 _ _ _ _ (by omega), zU_s], rfl, ⟨Rel_c hr ?_ (fun k hk => by rw [zU_n _ _ (by omega), zU_n _ _ (by omega), zU_n _ _ (by omega), zU_n _ _ (by omega)]) (fun k hk => by rw [lk_r _ _ _ _ (by omega), zU_n _ _ (by omega)]) (by rw [lk_0 _ _ _ _ (by omega), zU_j _ _ (by omega)]), fun c hc => by rw [zU_n _ _ (by omega), zU_n _ _ (by omega), zU_n _ _ (by omega), zU_n _ _ (by omega)]; exact h22 c hc⟩, gd_link (gd_same (same_00 B 0) hg) (by rw [x3]; omega) (by rw [x2]; omega) (by rw [x2]; omega) hab (by omega), ?_⟩)
    · unfold lk
      rw [x3]
      exact ((((E.ur 0 0 0 (by decide) (by decide)).u2 6 1 _ _ (by decide) (by decide)).u2 7 2 _ _ (by decide) (by decide)).u2 8 3 _ _ (by decide) (by decide)).us 1 1 0 3 _ (by decide) (by decide)
    · rw [lk_0 _ _ _ _ (by omega), zU_j _ _ (by omega)]; omega
  · exact r_link w0 ha hb hw (fun z => by omega) (fun _ _ => ⟨x00 _ _, RR_x h 2⟩) (fun _ z => by omega)
/-! route -/
theorem gd_6 {B : AA} (h : gd B) {g : Nat → Int} (hg : ∀ k, k < 256 → g k ≠ -1 → ((k / 16 : Nat) : Int) < B 0 2 ∧ ((k % 16 : Nat) : Int) < B 0 2 ∧ k / 16 ≠ k % 16 ∧ isC B (g k) ∧ B 1 (g k / 4).toNat = ((k / 16 : Nat) : Int) ∧ B 4 (g k / 4).toNat = 0) (hr : ∀ k, -1 ≤ g k ∧ g k < 160) : gd (zR B 6 g) := by
  obtain ⟨⟨w, hL, hR, hP, hB, hH, hG⟩, hW, hN⟩ := h
  have e : ∀ k, k ≠ 6 → zR B 6 g k = B k := fun k hk => zR_n _ _ hk
  refine ⟨⟨?_, iL_c (by rw [e _ (by omega)]) (by rw [e _ (by omega)]) (e _ (by omega)) (e _ (by omega)) (e _ (by omega)) (e _ (by omega)) hL, ?_, iP_c (by rw [e _ (by omega)]) (by rw [e _ (by omega)]) (e _ (by omega)) (e _ (by omega)) (e _ (by omega)) (e _ (by omega)) (e _ (by omega)) hP, iB_c (by rw [e _ (by omega)]) (by rw [e _ (by omega)]) (by rw [e _ (by omega)]) (e _ (by omega)) (e _ (by omega)) (e _ (by omega)) (e _ (by omega)) (e _ (by omega)) hB, iH_c (by rw [e _ (by omega)]) (by rw [e _ (by omega)]) (by rw [e _ (by omega)]) (e _ (by omega)) (e _ (by omega)) (e _ (by omega)) (e _ (by omega)) (e _ (by omega)) hH, iG_c (by rw [e _ (by omega)]) (by rw [e _ (by omega)]) (e _ (by omega)) hG⟩, ?_, ?_⟩
  · unfold wf at *
    rw [e 0 (by omega), e 1 (by omega), e 2 (by omega), e 3 (by omega), e 4 (by omega), e 5 (by omega), zR_s, e 7 (by omega), e 8 (by omega), e 9 (by omega), e 10 (by omega), e 13 (by omega), e 14 (by omega), e 15 (by omega), e 17 (by omega)]
    exact ⟨w.1, w.2.1, w.2.2.1, w.2.2.2.1, w.2.2.2.2.1, hr, w.2.2.2.2.2.2⟩
  · unfold iR isC at *
    rw [e 0 (by omega), e 1 (by omega), e 3 (by omega), e 4 (by omega), zR_s]
    exact hg
  · have en : ∀ x, nd (zR B 6 g) x = nd B x := nd_c (e 2 (by omega))
    have et : ∀ x, tl (zR B 6 g) x = tl B x := tl_c (e 9 (by omega))
    have eq : ∀ x, q0 (zR B 6 g) x = q0 B x := q0_c (by rw [e _ (by omega)]) (e _ (by omega)) (e _ (by omega)) (e _ (by omega))
    obtain ⟨b1, b2, b3, b4, b5, T, b6⟩ := hW
    unfold iW wB wCc wJ wK wI wH bt at *
    simp only [en, et, eq]
    rw [e 17 (by omega), e 18 (by omega), e 8 (by omega), e 13 (by omega), e 14 (by omega), e 7 (by omega), e 9 (by omega), e 10 (by omega)]
    exact ⟨b1, b2, b3, b4, b5, T, b6⟩
  · unfold iN at *
    rw [NN_c (by rw [e _ (by omega)]) (e _ (by omega)) (e _ (by omega)) (e _ (by omega)) (e _ (by omega)), e _ (by omega)]; exact hN
theorem zU_R (B : AA) (k i : Nat) (v : Int) : zU B k i v = zR B k (fun j => if j = i then v else B k j) := rfl
def okr (B : AA) (a b c : Int) : Prop := (0 ≤ a ∧ a < B 0 2 ∧ 0 ≤ b ∧ b < B 0 2 ∧ a ≠ b) ∧ (c = -1 ∨ isC B c ∧ B 1 (c / 4).toNat = a ∧ B 4 (c / 4).toNat = 0)
theorem r_route {B : AA} (h : wf B) {a b c : Int} (ha : rg a) (hb : rg b) (hc : rg c) {post : Int → AA → Prop} (h1 : ¬ okr B a b c → post 0 (zU (zU B 0 0 0) 0 0 1)) (h2 : okr B a b c → post (B 6 (16 * a + b).toNat) (zU (zU B 0 0 0) 6 (16 * a + b).toNat c)) : zp_M_route B a b c post := by
  unfold zp_M_route
  rintro _ rfl
  have w0 := wf_00 h 0
  have n0 := h.n; have l0 := h.l
  have x2 : zU B 0 0 0 0 2 = B 0 2 := zU_j _ _ (by omega)
  have x3 : zU B 0 0 0 0 3 = B 0 3 := zU_j _ _ (by omega)
  have x : ∀ k, k ≠ 0 → zU B 0 0 0 k = B k := fun k hk => zU_n _ _ hk
  have xc : isC (zU B 0 0 0) c ↔ isC B c := by unfold isC; rw [x3, x 3 (by omega)]
  have bad : ¬ okr B a b c → zp_M_wrong (zU B 0 0 0) 1 (fun r S => post r S) := fun q => by rintro _ rfl; exact h1 q
  unfold okr at bad h2
  refine r_isNode w0 ha (fun a1 a2 => ⟨by omega, fun z => by omega, fun _ => ?_⟩) (fun q => ⟨by omega, fun _ => bad (fun z => by omega), fun z => absurd rfl z⟩)
  refine r_isNode w0 hb (fun b1 b2 => ⟨by omega, fun z => by omega, fun _ => ⟨ha, hb, fun e => ?_, fun e => bad (fun z => by omega)⟩⟩) (fun q => ⟨by omega, fun _ => bad (fun z => by omega), fun z => absurd rfl z⟩)
  rw [x 6 (by omega), x 1 (by omega), x 4 (by omega)]
  refine ⟨hc, fun g => ⟨by omega, ?_⟩, fun g => ?_⟩
  · rintro _ rfl
    refine ⟨by omega, ?_⟩
    rintro _ rfl
    exact h2 ⟨by omega, .inl g⟩
  · refine r_isChannel w0 hc (fun q => ⟨by omega, fun z => by omega, fun _ => ?_⟩) (fun q => ⟨by omega, fun _ => bad (fun z => z.2.elim g (fun y => q (xc.mpr y.1))), fun z => absurd rfl z⟩)
    have q2 := xc.mp q
    have c1 := q2.lt h
    have a1' := h.a1 (c / 4).toNat; have a4' := h.a4 (c / 4).toNat
    refine ⟨by omega, by omega, by omega, ha, fun e1 => bad (fun z => z.2.elim g (fun y => e1 y.2.1)), fun e1 => ⟨by omega, by omega, by omega, fun e2 => ⟨by omega, ?_⟩, fun e2 => bad (fun z => z.2.elim g (fun y => e2 y.2.2))⟩⟩
    rintro _ rfl
    refine ⟨by omega, ?_⟩
    rintro _ rfl
    exact h2 ⟨by omega, .inr ⟨q2, e1, e2⟩⟩
theorem op_route {n : Nat} {A B : AA} (h : RR n A B) {a b c : Int} (ha : rg a) (hb : rg b) (hc : rg c) : zp_CN_route A a b c (fun r S => zp_M_route B a b c (fun t T => T 0 0 = 0 ∧ r = t ∧ RR (n + 1) S T)) (fun E S => E = "java/lang/IllegalArgumentException" ∧ zp_M_route B a b c (fun t T => T 0 0 = 1 ∧ RR (n + 1) S T)) := by
  obtain ⟨⟨hr, h22⟩, hg, h5⟩ := id h
  have w0 := hg.1.1
  have n0 := w0.n
  have E := hr.1
  have bad : ¬ okr B a b c → zp_M_route B a b c (fun t T => T 0 0 = 1 ∧ RR (n + 1) A T) := fun q =>
    r_route w0 ha hb hc (fun _ => ⟨x00 _ _, RR_x h 1⟩) (fun z => absurd z q)
  have good : okr B a b c → zp_CP_wayAt A a b (fun r_6 => zp_CP_changeWay A a b c (fun S_7 => zp_M_route B a b c (fun t T => T 0 0 = 0 ∧ r_6 = t ∧ RR (n + 1) S_7 T))) := fun q => by
    have q' := q
    unfold okr at q'
    have ek : (a * 16 + b).toNat = (16 * a + b).toNat := by omega
    refine ⟨by omega, by omega, ?_⟩
    rintro _ rfl
    rw [ek]
    refine r_route w0 ha hb hc (fun z => absurd q z) (fun _ => ⟨by rw [zU_n _ _ (by omega), zU_s], by rw [E.c10], ⟨Rel_c hr ((E.ur 0 0 0 (by decide) (by decide)).u2 10 6 _ _ (by decide) (by decide)) (fun k hk => zU_n _ _ (by omega)) (fun k hk => by rw [zU_n _ _ (by omega), zU_n _ _ (by omega)]) (by rw [zU_n _ _ (by omega), zU_j _ _ (by omega)]), fun c hc => by rw [zU_n _ _ (by omega)]; exact h22 c hc⟩, ?_, by rw [zU_n _ _ (by omega), zU_j _ _ (by omega)]; omega⟩)
    rw [zU_R]
    have hg0 := gd_same (same_00 B 0) hg
    refine gd_6 hg0 (fun k hk hne => ?_) (fun k => ?_)
    · by_cases e : k = (16 * a + b).toNat
      · rw [if_pos e] at hne ⊢
        have x : ∀ k, k ≠ 0 → zU B 0 0 0 k = B k := fun k hk => zU_n _ _ hk
        have x2 : zU B 0 0 0 0 2 = B 0 2 := zU_j _ _ (by omega)
        have x3 : zU B 0 0 0 0 3 = B 0 3 := zU_j _ _ (by omega)
        obtain ⟨-, z | ⟨z1, z2, z3⟩⟩ := q
        · exact absurd z hne
        · unfold isC at *
          rw [x2, x3, x 1 (by omega), x 3 (by omega), x 4 (by omega), z2, z3]
          exact ⟨by omega, by omega, by omega, z1, by omega, rfl⟩
      · rw [if_neg e] at hne ⊢
        exact hg0.1.2.2.1 k hk hne
    · by_cases e : k = (16 * a + b).toNat
      · rw [if_pos e]
        obtain ⟨-, z | ⟨z1, -⟩⟩ := q
        · omega
        · have := z1.lt w0; omega
      · rw [if_neg e]; exact hg0.1.1.a6 k
  unfold zp_CN_route
  refine c_hasTwo E w0 ha hb (fun a1 a2 b1 b2 hab => ⟨by omega, fun _ => ⟨hc, fun q => ?_, fun q => ?_⟩, fun z => by omega⟩) (fun q => ⟨by omega, fun z => absurd rfl z, fun _ => ⟨rfl, bad (fun z => q z.1)⟩⟩)
  · exact good ⟨⟨a1, a2, b1, b2, hab⟩, .inl q⟩
  · unfold zp_CP_canBeTaken
    refine c_hasChannel E w0 hc (fun z => ⟨by omega, fun y => by omega, fun _ => ?_⟩) (fun z => ⟨by omega, fun _ => ⟨by omega, fun y => absurd rfl y, fun _ => ⟨rfl, bad (fun y => y.2.elim q (fun u => z u.1))⟩⟩, fun y => absurd rfl y⟩)
    have c1 := z.lt w0
    have a1' := w0.a1 (c / 4).toNat; have a4' := w0.a4 (c / 4).toNat
    unfold zp_CP_beginOf
    rw [E.c6, E.c9]
    refine ⟨by omega, by omega, by omega, ha, fun e1 => ⟨by omega, fun y => absurd rfl y, fun _ => ⟨rfl, bad (fun y => y.2.elim q (fun u => e1 u.2.1))⟩⟩, fun e1 => ⟨by omega, by omega, by omega, fun e2 => ⟨by omega, fun y => absurd rfl y, fun _ => ⟨rfl, bad (fun y => y.2.elim q (fun u => e2 u.2.2))⟩⟩, fun e2 => ⟨by omega, fun _ => ?_, fun y => by omega⟩⟩⟩
    exact good ⟨⟨a1, a2, b1, b2, hab⟩, .inr ⟨z, e1, e2⟩⟩
