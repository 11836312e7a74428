set_option maxRecDepth 10000 in
theorem zw_M_thrown {B : AA} {s : SS} (es : s = zS B) {post : Int32 → Prop} {pz : Int → Prop} (hp : ∀ r, pz r → post (zI r)) (h : zp_M_thrown B pz) : wp_M_thrown s post := by
  subst es; rw [zp_M_thrown] at h; rw [wp_M_thrown]
  exact z_r (P := post) (z_f B 0 0) (hp _ h)
set_option maxRecDepth 10000 in
theorem zw_M_wrong {B : AA} {s : SS} {x1 : Int} {t1 : Int32} (es : s = zS B) (e1 : t1 = zI x1) {post : Int32 → SS → Prop} {pz : Int → AA → Prop} (hp : ∀ r S, pz r S → post (zI r) (zS S)) (h : zp_M_wrong B x1 pz) : wp_M_wrong s t1 post := by
  subst es; subst e1; rw [zp_M_wrong] at h; rw [wp_M_wrong]
  intro s_1 es_1
  obtain ⟨S_1, eS_1⟩ : ∃ w : AA, w = zU B 0 0 x1 := ⟨_, rfl⟩
  have h := h S_1 eS_1
  have es_1 : s_1 = zS S_1 := by rw [eS_1]; exact es_1.trans (z_uf B 0 0 (z_v x1))
  subst es_1
  exact z_r (P := fun r9 => post r9 (zS S_1)) zk_0 (hp _ _ h)
set_option maxRecDepth 10000 in
theorem zw_M_within {B : AA} {s : SS} {x0 : Int} {t0 : Int32} {x1 : Int} {t1 : Int32} {x2 : Int} {t2 : Int32} (es : s = zS B) (e0 : t0 = zI x0) (e1 : t1 = zI x1) (e2 : t2 = zI x2) {post : Int32 → Prop} {pz : Int → Prop} (hp : ∀ r, pz r → post (zI r)) (h : zp_M_within B x0 x1 x2 pz) : wp_M_within s t0 t1 t2 post := by
  subst es; subst e0; subst e1; subst e2; rw [zp_M_within] at h; rw [wp_M_within]
  obtain ⟨g_1, h⟩ := h
  obtain ⟨g_2, h⟩ := h
  have e_3 := z_lt (z_v x0) (z_v x1) g_1 g_2
  refine ⟨fun c => ?_, fun c => ?_⟩
  · have h := h.1 (e_3.mp c)
    exact z_r (P := post) zk_0 (hp _ h)
  · have h := h.2 (fun c9 => c (e_3.mpr c9))
    obtain ⟨g_4, h⟩ := h
    obtain ⟨g_5, h⟩ := h
    have e_6 := z_lt (z_v x2) (z_v x0) g_5 g_4
    refine ⟨fun c => ?_, fun c => ?_⟩
    · have h := h.1 (e_6.mp c)
      exact z_r (P := post) zk_0 (hp _ h)
    · have h := h.2 (fun c9 => c (e_6.mpr c9))
      exact z_r (P := post) zk_1 (hp _ h)
set_option maxRecDepth 10000 in
theorem zw_M_isNode {B : AA} {s : SS} {x1 : Int} {t1 : Int32} (es : s = zS B) (e1 : t1 = zI x1) {post : Int32 → Prop} {pz : Int → Prop} (hp : ∀ r, pz r → post (zI r)) (h : zp_M_isNode B x1 pz) : wp_M_isNode s t1 post := by
  subst es; subst e1; rw [zp_M_isNode] at h; rw [wp_M_isNode]
  refine zw_M_within rfl (z_v x1) zk_0 (z_sub (z_f B 0 2) zk_1) (fun r_1 h => ?_) h
  obtain ⟨b9, h⟩ := h
  refine ⟨z_01 (z_v r_1) b9, ?_⟩
  exact z_r (P := post) (z_v r_1) (hp _ h)
set_option maxRecDepth 10000 in
theorem zw_M_isChannel {B : AA} {s : SS} {x1 : Int} {t1 : Int32} (es : s = zS B) (e1 : t1 = zI x1) {post : Int32 → Prop} {pz : Int → Prop} (hp : ∀ r, pz r → post (zI r)) (h : zp_M_isChannel B x1 pz) : wp_M_isChannel s t1 post := by
  subst es; subst e1; rw [zp_M_isChannel] at h; rw [wp_M_isChannel]
  refine zw_M_within rfl (z_v x1) zk_0 (z_sub (z_mul zk_4 (z_f B 0 3)) zk_1) (fun r_1 h => ?_) h
  obtain ⟨g_2, h⟩ := h
  have e_3 := z_eq (z_v r_1) zk_0 g_2 (by decide)
  refine ⟨fun c => ?_, fun c => ?_⟩
  · have h := h.1 (e_3.mp c)
    exact z_r (P := post) zk_0 (hp _ h)
  · have h := h.2 (fun c9 => c (e_3.mpr c9))
    obtain ⟨n_4, h⟩ := h
    obtain ⟨n_5, h⟩ := h
    obtain ⟨i_6, h⟩ := h
    refine ⟨z_in (z_div (z_v x1) zk_4 n_5 (by decide)) i_6 (by decide), ?_⟩
    obtain ⟨g_7, h⟩ := h
    obtain ⟨g_8, h⟩ := h
    have e_9 := z_le (z_a B 3 (z_div (z_v x1) zk_4 n_5 (by decide)) (z_rg i_6 (by decide))) (z_rem (z_v x1) zk_4 n_4 (by decide)) g_8 g_7
    refine ⟨fun c => ?_, fun c => ?_⟩
    · have h := h.1 (e_9.mp c)
      exact z_r (P := post) zk_0 (hp _ h)
    · have h := h.2 (fun c9 => c (e_9.mpr c9))
      exact z_r (P := post) zk_1 (hp _ h)
set_option maxRecDepth 10000 in
theorem zw_M_node {B : AA} {s : SS} (es : s = zS B) {post : Int32 → SS → Prop} {pz : Int → AA → Prop} (hp : ∀ r S, pz r S → post (zI r) (zS S)) (h : zp_M_node B pz) : wp_M_node s post := by
  subst es; rw [zp_M_node] at h; rw [wp_M_node]
  intro s_1 es_1
  obtain ⟨S_1, eS_1⟩ : ∃ w : AA, w = zU B 0 0 0 := ⟨_, rfl⟩
  have h := h S_1 eS_1
  have es_1 : s_1 = zS S_1 := by rw [eS_1]; exact es_1.trans (z_uf B 0 0 zk_0)
  subst es_1
  obtain ⟨g_2, h⟩ := h
  have e_3 := z_eq (z_f S_1 0 2) zk_16 g_2 (by decide)
  refine ⟨fun c => ?_, fun c => ?_⟩
  · have h := h.1 (fun c9 => c (e_3.mpr c9))
    intro s_4 es_4
    obtain ⟨S_4, eS_4⟩ : ∃ w : AA, w = zU S_1 0 2 ((S_1 0 2) + 1) := ⟨_, rfl⟩
    have h := h S_4 eS_4
    have es_4 : s_4 = zS S_4 := by rw [eS_4]; exact es_4.trans (z_uf S_1 0 2 (z_add (z_f S_1 0 2) zk_1))
    subst es_4
    exact z_r (P := fun r9 => post r9 (zS S_4)) (z_sub (z_f S_4 0 2) zk_1) (hp _ _ h)
  · have h := h.2 (e_3.mp c)
    refine zw_M_wrong rfl zk_1 (fun r_5 S_5 h => ?_) h
    exact z_r (P := fun r9 => post r9 (zS S_5)) (z_v r_5) (hp _ _ h)
set_option maxRecDepth 10000 in
theorem zw_M_link {B : AA} {s : SS} {x1 : Int} {t1 : Int32} {x2 : Int} {t2 : Int32} {x3 : Int} {t3 : Int32} (es : s = zS B) (e1 : t1 = zI x1) (e2 : t2 = zI x2) (e3 : t3 = zI x3) {post : Int32 → SS → Prop} {pz : Int → AA → Prop} (hp : ∀ r S, pz r S → post (zI r) (zS S)) (h : zp_M_link B x1 x2 x3 pz) : wp_M_link s t1 t2 t3 post := by
  subst es; subst e1; subst e2; subst e3; rw [zp_M_link] at h; rw [wp_M_link]
  intro s_1 es_1
  obtain ⟨S_1, eS_1⟩ : ∃ w : AA, w = zU B 0 0 0 := ⟨_, rfl⟩
  have h := h S_1 eS_1
  have es_1 : s_1 = zS S_1 := by rw [eS_1]; exact es_1.trans (z_uf B 0 0 zk_0)
  subst es_1
  refine zw_M_isNode rfl (z_v x1) (fun r_2 h => ?_) h
  obtain ⟨g_3, h⟩ := h
  have e_4 := z_eq (z_v r_2) zk_0 g_3 (by decide)
  refine ⟨fun c => ?_, fun c => ?_⟩
  · have h := h.1 (e_4.mp c)
    refine zw_M_wrong rfl zk_1 (fun r_5 S_5 h => ?_) h
    exact z_r (P := fun r9 => post r9 (zS S_5)) (z_v r_5) (hp _ _ h)
  · have h := h.2 (fun c9 => c (e_4.mpr c9))
    refine zw_M_isNode rfl (z_v x2) (fun r_6 h => ?_) h
    obtain ⟨g_7, h⟩ := h
    have e_8 := z_eq (z_v r_6) zk_0 g_7 (by decide)
    refine ⟨fun c => ?_, fun c => ?_⟩
    · have h := h.1 (e_8.mp c)
      refine zw_M_wrong rfl zk_1 (fun r_9 S_9 h => ?_) h
      exact z_r (P := fun r9 => post r9 (zS S_9)) (z_v r_9) (hp _ _ h)
    · have h := h.2 (fun c9 => c (e_8.mpr c9))
      obtain ⟨g_10, h⟩ := h
      obtain ⟨g_11, h⟩ := h
      have e_12 := z_eq (z_v x1) (z_v x2) g_10 g_11
      refine ⟨fun c => ?_, fun c => ?_⟩
      · have h := h.1 (e_12.mp c)
        refine zw_M_wrong rfl zk_1 (fun r_13 S_13 h => ?_) h
        exact z_r (P := fun r9 => post r9 (zS S_13)) (z_v r_13) (hp _ _ h)
      · have h := h.2 (fun c9 => c (e_12.mpr c9))
        refine zw_M_within rfl (z_v x3) zk_1 zk_4 (fun r_14 h => ?_) h
        obtain ⟨g_15, h⟩ := h
        have e_16 := z_eq (z_v r_14) zk_0 g_15 (by decide)
        refine ⟨fun c => ?_, fun c => ?_⟩
        · have h := h.1 (fun c9 => c (e_16.mpr c9))
          obtain ⟨g_17, h⟩ := h
          have e_18 := z_eq (z_f S_1 0 3) zk_40 g_17 (by decide)
          refine ⟨fun c => ?_, fun c => ?_⟩
          · have h := h.1 (fun c9 => c (e_18.mpr c9))
            obtain ⟨i_19, h⟩ := h
            refine ⟨z_in (z_f S_1 0 3) i_19 (by decide), ?_⟩
            intro s_20 es_20
            obtain ⟨S_20, eS_20⟩ : ∃ w : AA, w = zU S_1 1 (S_1 0 3).toNat x1 := ⟨_, rfl⟩
            have h := h S_20 eS_20
            have es_20 : s_20 = zS S_20 := by rw [eS_20]; exact es_20.trans (z_ua S_1 1 (z_f S_1 0 3) (z_rg i_19 (by decide)) (z_v x1))
            subst es_20
            obtain ⟨i_21, h⟩ := h
            refine ⟨z_in (z_f S_20 0 3) i_21 (by decide), ?_⟩
            intro s_22 es_22
            obtain ⟨S_22, eS_22⟩ : ∃ w : AA, w = zU S_20 2 (S_20 0 3).toNat x2 := ⟨_, rfl⟩
            have h := h S_22 eS_22
            have es_22 : s_22 = zS S_22 := by rw [eS_22]; exact es_22.trans (z_ua S_20 2 (z_f S_20 0 3) (z_rg i_21 (by decide)) (z_v x2))
            subst es_22
            obtain ⟨i_23, h⟩ := h
            refine ⟨z_in (z_f S_22 0 3) i_23 (by decide), ?_⟩
            intro s_24 es_24
            obtain ⟨S_24, eS_24⟩ : ∃ w : AA, w = zU S_22 3 (S_22 0 3).toNat x3 := ⟨_, rfl⟩
            have h := h S_24 eS_24
            have es_24 : s_24 = zS S_24 := by rw [eS_24]; exact es_24.trans (z_ua S_22 3 (z_f S_22 0 3) (z_rg i_23 (by decide)) (z_v x3))
            subst es_24
            intro s_25 es_25
            obtain ⟨S_25, eS_25⟩ : ∃ w : AA, w = zU S_24 0 3 ((S_24 0 3) + 1) := ⟨_, rfl⟩
            have h := h S_25 eS_25
            have es_25 : s_25 = zS S_25 := by rw [eS_25]; exact es_25.trans (z_uf S_24 0 3 (z_add (z_f S_24 0 3) zk_1))
            subst es_25
            exact z_r (P := fun r9 => post r9 (zS S_25)) (z_sub (z_f S_25 0 3) zk_1) (hp _ _ h)
          · have h := h.2 (e_18.mp c)
            refine zw_M_wrong rfl zk_2 (fun r_26 S_26 h => ?_) h
            exact z_r (P := fun r9 => post r9 (zS S_26)) (z_v r_26) (hp _ _ h)
        · have h := h.2 (e_16.mp c)
          refine zw_M_wrong rfl zk_1 (fun r_27 S_27 h => ?_) h
          exact z_r (P := fun r9 => post r9 (zS S_27)) (z_v r_27) (hp _ _ h)
set_option maxRecDepth 10000 in
theorem zw_M_route {B : AA} {s : SS} {x1 : Int} {t1 : Int32} {x2 : Int} {t2 : Int32} {x3 : Int} {t3 : Int32} (es : s = zS B) (e1 : t1 = zI x1) (e2 : t2 = zI x2) (e3 : t3 = zI x3) {post : Int32 → SS → Prop} {pz : Int → AA → Prop} (hp : ∀ r S, pz r S → post (zI r) (zS S)) (h : zp_M_route B x1 x2 x3 pz) : wp_M_route s t1 t2 t3 post := by
  subst es; subst e1; subst e2; subst e3; rw [zp_M_route] at h; rw [wp_M_route]
  intro s_1 es_1
  obtain ⟨S_1, eS_1⟩ : ∃ w : AA, w = zU B 0 0 0 := ⟨_, rfl⟩
  have h := h S_1 eS_1
  have es_1 : s_1 = zS S_1 := by rw [eS_1]; exact es_1.trans (z_uf B 0 0 zk_0)
  subst es_1
  refine zw_M_isNode rfl (z_v x1) (fun r_2 h => ?_) h
  obtain ⟨g_3, h⟩ := h
  have e_4 := z_eq (z_v r_2) zk_0 g_3 (by decide)
  refine ⟨fun c => ?_, fun c => ?_⟩
  · have h := h.1 (e_4.mp c)
    refine zw_M_wrong rfl zk_1 (fun r_5 S_5 h => ?_) h
    exact z_r (P := fun r9 => post r9 (zS S_5)) (z_v r_5) (hp _ _ h)
  · have h := h.2 (fun c9 => c (e_4.mpr c9))
    refine zw_M_isNode rfl (z_v x2) (fun r_6 h => ?_) h
    obtain ⟨g_7, h⟩ := h
    have e_8 := z_eq (z_v r_6) zk_0 g_7 (by decide)
    refine ⟨fun c => ?_, fun c => ?_⟩
    · have h := h.1 (e_8.mp c)
      refine zw_M_wrong rfl zk_1 (fun r_9 S_9 h => ?_) h
      exact z_r (P := fun r9 => post r9 (zS S_9)) (z_v r_9) (hp _ _ h)
    · have h := h.2 (fun c9 => c (e_8.mpr c9))
      obtain ⟨g_10, h⟩ := h
      obtain ⟨g_11, h⟩ := h
      have e_12 := z_eq (z_v x1) (z_v x2) g_10 g_11
      refine ⟨fun c => ?_, fun c => ?_⟩
      · have h := h.1 (fun c9 => c (e_12.mpr c9))
        obtain ⟨g_13, h⟩ := h
        have e_14 := z_eq (z_v x3) zk_m1 g_13 (by decide)
        refine ⟨fun c => ?_, fun c => ?_⟩
        · have h := h.1 (e_14.mp c)
          obtain ⟨i_15, h⟩ := h
          refine ⟨z_in (z_add (z_mul zk_16 (z_v x1)) (z_v x2)) i_15 (by decide), ?_⟩
          intro t_16 et_16
          obtain ⟨v_16, ev_16⟩ : ∃ w : Int, w = S_1 6 ((16 * x1) + x2).toNat := ⟨_, rfl⟩
          have h := h v_16 ev_16
          have et_16 : t_16 = zI v_16 := by rw [ev_16]; exact et_16.trans (z_a S_1 6 (z_add (z_mul zk_16 (z_v x1)) (z_v x2)) (z_rg i_15 (by decide)))
          subst et_16
          obtain ⟨i_17, h⟩ := h
          refine ⟨z_in (z_add (z_mul zk_16 (z_v x1)) (z_v x2)) i_17 (by decide), ?_⟩
          intro s_18 es_18
          obtain ⟨S_18, eS_18⟩ : ∃ w : AA, w = zU S_1 6 ((16 * x1) + x2).toNat x3 := ⟨_, rfl⟩
          have h := h S_18 eS_18
          have es_18 : s_18 = zS S_18 := by rw [eS_18]; exact es_18.trans (z_ua S_1 6 (z_add (z_mul zk_16 (z_v x1)) (z_v x2)) (z_rg i_17 (by decide)) (z_v x3))
          subst es_18
          exact z_r (P := fun r9 => post r9 (zS S_18)) (z_v v_16) (hp _ _ h)
        · have h := h.2 (fun c9 => c (e_14.mpr c9))
          refine zw_M_isChannel rfl (z_v x3) (fun r_19 h => ?_) h
          obtain ⟨g_20, h⟩ := h
          have e_21 := z_eq (z_v r_19) zk_0 g_20 (by decide)
          refine ⟨fun c => ?_, fun c => ?_⟩
          · have h := h.1 (e_21.mp c)
            refine zw_M_wrong rfl zk_1 (fun r_22 S_22 h => ?_) h
            exact z_r (P := fun r9 => post r9 (zS S_22)) (z_v r_22) (hp _ _ h)
          · have h := h.2 (fun c9 => c (e_21.mpr c9))
            obtain ⟨n_23, h⟩ := h
            obtain ⟨i_24, h⟩ := h
            refine ⟨z_in (z_div (z_v x3) zk_4 n_23 (by decide)) i_24 (by decide), ?_⟩
            obtain ⟨g_25, h⟩ := h
            obtain ⟨g_26, h⟩ := h
            have e_27 := z_eq (z_a S_1 1 (z_div (z_v x3) zk_4 n_23 (by decide)) (z_rg i_24 (by decide))) (z_v x1) g_25 g_26
            refine ⟨fun c => ?_, fun c => ?_⟩
            · have h := h.1 (fun c9 => c (e_27.mpr c9))
              refine zw_M_wrong rfl zk_1 (fun r_28 S_28 h => ?_) h
              exact z_r (P := fun r9 => post r9 (zS S_28)) (z_v r_28) (hp _ _ h)
            · have h := h.2 (e_27.mp c)
              obtain ⟨n_29, h⟩ := h
              obtain ⟨i_30, h⟩ := h
              refine ⟨z_in (z_div (z_v x3) zk_4 n_29 (by decide)) i_30 (by decide), ?_⟩
              obtain ⟨g_31, h⟩ := h
              have e_32 := z_eq (z_a S_1 4 (z_div (z_v x3) zk_4 n_29 (by decide)) (z_rg i_30 (by decide))) zk_0 g_31 (by decide)
              refine ⟨fun c => ?_, fun c => ?_⟩
              · have h := h.1 (e_32.mp c)
                obtain ⟨i_33, h⟩ := h
                refine ⟨z_in (z_add (z_mul zk_16 (z_v x1)) (z_v x2)) i_33 (by decide), ?_⟩
                intro t_34 et_34
                obtain ⟨v_34, ev_34⟩ : ∃ w : Int, w = S_1 6 ((16 * x1) + x2).toNat := ⟨_, rfl⟩
                have h := h v_34 ev_34
                have et_34 : t_34 = zI v_34 := by rw [ev_34]; exact et_34.trans (z_a S_1 6 (z_add (z_mul zk_16 (z_v x1)) (z_v x2)) (z_rg i_33 (by decide)))
                subst et_34
                obtain ⟨i_35, h⟩ := h
                refine ⟨z_in (z_add (z_mul zk_16 (z_v x1)) (z_v x2)) i_35 (by decide), ?_⟩
                intro s_36 es_36
                obtain ⟨S_36, eS_36⟩ : ∃ w : AA, w = zU S_1 6 ((16 * x1) + x2).toNat x3 := ⟨_, rfl⟩
                have h := h S_36 eS_36
                have es_36 : s_36 = zS S_36 := by rw [eS_36]; exact es_36.trans (z_ua S_1 6 (z_add (z_mul zk_16 (z_v x1)) (z_v x2)) (z_rg i_35 (by decide)) (z_v x3))
                subst es_36
                exact z_r (P := fun r9 => post r9 (zS S_36)) (z_v v_34) (hp _ _ h)
              · have h := h.2 (fun c9 => c (e_32.mpr c9))
                refine zw_M_wrong rfl zk_1 (fun r_37 S_37 h => ?_) h
                exact z_r (P := fun r9 => post r9 (zS S_37)) (z_v r_37) (hp _ _ h)
      · have h := h.2 (e_12.mp c)
        refine zw_M_wrong rfl zk_1 (fun r_38 S_38 h => ?_) h
        exact z_r (P := fun r9 => post r9 (zS S_38)) (z_v r_38) (hp _ _ h)
set_option maxRecDepth 10000 in
theorem zwe_M_routes_182 (B : AA) (s : SS) (es : s = zS B) (x2 : Int) (t2 : Int32) (e2 : t2 = zI x2) {post : Int32 → SS → Prop} {pz : Int → AA → Prop} (hp : ∀ r S, pz r S → post (zI r) (zS S)) (h : ze_M_routes_182 B x2 pz) : we_M_routes_182 s t2 post := by
  subst es; subst e2; rw [ze_M_routes_182] at h; rw [we_M_routes_182]
  exact z_r (P := fun r9 => post r9 (zS B)) (z_v x2) (hp _ _ h)
set_option maxRecDepth 10000 in
theorem zwe_M_routes_176 (B : AA) (s : SS) (es : s = zS B) (x1 : Int) (t1 : Int32) (e1 : t1 = zI x1) (x2 : Int) (t2 : Int32) (e2 : t2 = zI x2) (x3 : Int) (t3 : Int32) (e3 : t3 = zI x3) {ag : SS → Int32 → Int32 → Prop} {agz : AA → Int → Int → Prop} (hA : ∀ S s, s = zS S → ∀ (y2 : Int) (t2 : Int32), t2 = zI y2 → ∀ (y3 : Int) (t3 : Int32), t3 = zI y3 → agz S y2 y3 → ag s t2 t3) {ex : SS → Int32 → Int32 → Prop} {exz : AA → Int → Int → Prop} (hE : ∀ S s, s = zS S → ∀ (y2 : Int) (t2 : Int32), t2 = zI y2 → ∀ (y3 : Int) (t3 : Int32), t3 = zI y3 → exz S y2 y3 → ex s t2 t3) {post : Int32 → SS → Prop} {pz : Int → AA → Prop} (hp : ∀ r S, pz r S → post (zI r) (zS S)) (h : ze_M_routes_176 B x1 x2 x3 agz exz pz) : we_M_routes_176 s t1 t2 t3 ag ex post := by
  subst es; subst e1; subst e2; subst e3; rw [ze_M_routes_176] at h; rw [we_M_routes_176]
  exact hA _ _ rfl _ _ (z_v x2) _ _ (z_add (z_v x3) zk_1) h
set_option maxRecDepth 10000 in
theorem zwl_M_routes_74  (x1 : Int) (t1 : Int32) (e1 : t1 = zI x1) (x3 : Int) (t3 : Int32) (e3 : t3 = zI x3) {ex : SS → Int32 → Int32 → Prop} {exz : AA → Int → Int → Prop} (hE : ∀ S s, s = zS S → ∀ (y2 : Int) (t2 : Int32), t2 = zI y2 → ∀ (y4 : Int) (t4 : Int32), t4 = zI y4 → exz S y2 y4 → ex s t2 t4) {post : Int32 → SS → Prop} {pz : Int → AA → Prop} (hp : ∀ r S, pz r S → post (zI r) (zS S)) : ∀ k, ∀ B s, s = zS B → ∀ (x2 : Int) (t2 : Int32), t2 = zI x2 → ∀ (x4 : Int) (t4 : Int32), t4 = zI x4 → zl_M_routes_74 x1 x3 exz pz k B x2 x4 → wl_M_routes_74 t1 t3 ex post k s t2 t4 := by
  subst e1; subst e3; intro k
  induction k with
  | zero => intro B s es x2 t2 e2 x4 t4 e4 h; rw [zl_M_routes_74] at h; exact h.elim
  | succ k ih =>
    intro B s es x2 t2 e2 x4 t4 e4 h
    subst es; subst e2; subst e4; rw [zl_M_routes_74] at h; rw [wl_M_routes_74]
    obtain ⟨g_7, h⟩ := h
    obtain ⟨g_8, h⟩ := h
    have e_9 := z_le (z_f B 0 3) (z_v x4) g_8 g_7
    refine ⟨fun c => ?_, fun c => ?_⟩
    · have h := h.1 (e_9.mp c)
      exact hE _ _ rfl _ _ (z_v x2) _ _ (z_v x4) h
    · have h := h.2 (fun c9 => c (e_9.mpr c9))
      obtain ⟨i_10, h⟩ := h
      refine ⟨z_in (z_v x4) i_10 (by decide), ?_⟩
      intro t_11 et_11
      obtain ⟨v_11, ev_11⟩ : ∃ w : Int, w = B 1 x4.toNat := ⟨_, rfl⟩
      have h := h v_11 ev_11
      have et_11 : t_11 = zI v_11 := by rw [ev_11]; exact et_11.trans (z_a B 1 (z_v x4) (z_rg i_10 (by decide)))
      subst et_11
      obtain ⟨i_12, h⟩ := h
      refine ⟨z_in (z_v x4) i_12 (by decide), ?_⟩
      obtain ⟨g_13, h⟩ := h
      have e_14 := z_eq (z_a B 4 (z_v x4) (z_rg i_12 (by decide))) zk_0 g_13 (by decide)
      refine ⟨fun c => ?_, fun c => ?_⟩
      · have h := h.1 (fun c9 => c (e_14.mpr c9))
        exact ih _ _ rfl _ _ (z_v x2) _ _ (z_add (z_v x4) zk_1) h
      · have h := h.2 (e_14.mp c)
        obtain ⟨i_15, h⟩ := h
        refine ⟨z_in (z_v x4) i_15 (by decide), ?_⟩
        obtain ⟨i_16, h⟩ := h
        refine ⟨z_in (z_a B 2 (z_v x4) (z_rg i_15 (by decide))) i_16 (by decide), ?_⟩
        obtain ⟨g_17, h⟩ := h
        obtain ⟨g_18, h⟩ := h
        have e_19 := z_eq (z_a B 20 (z_a B 2 (z_v x4) (z_rg i_15 (by decide))) (z_rg i_16 (by decide))) (z_sub (z_v x3) zk_1) g_17 g_18
        refine ⟨fun c => ?_, fun c => ?_⟩
        · have h := h.1 (fun c9 => c (e_19.mpr c9))
          exact ih _ _ rfl _ _ (z_v x2) _ _ (z_add (z_v x4) zk_1) h
        · have h := h.2 (e_19.mp c)
          obtain ⟨i_20, h⟩ := h
          refine ⟨z_in (z_v v_11) i_20 (by decide), ?_⟩
          obtain ⟨g_21, h⟩ := h
          have e_22 := z_eq (z_a B 20 (z_v v_11) (z_rg i_20 (by decide))) zk_m1 g_21 (by decide)
          refine ⟨fun c => ?_, fun c => ?_⟩
          · have h := h.1 (fun c9 => c (e_22.mpr c9))
            exact ih _ _ rfl _ _ (z_v x2) _ _ (z_add (z_v x4) zk_1) h
          · have h := h.2 (e_22.mp c)
            obtain ⟨i_23, h⟩ := h
            refine ⟨z_in (z_v v_11) i_23 (by decide), ?_⟩
            intro s_24 es_24
            obtain ⟨S_24, eS_24⟩ : ∃ w : AA, w = zU B 20 v_11.toNat x3 := ⟨_, rfl⟩
            have h := h S_24 eS_24
            have es_24 : s_24 = zS S_24 := by rw [eS_24]; exact es_24.trans (z_ua B 20 (z_v v_11) (z_rg i_23 (by decide)) (z_v x3))
            subst es_24
            obtain ⟨i_25, h⟩ := h
            refine ⟨z_in (z_add (z_mul zk_16 (z_v v_11)) (z_v x1)) i_25 (by decide), ?_⟩
            intro s_26 es_26
            obtain ⟨S_26, eS_26⟩ : ∃ w : AA, w = zU S_24 6 ((16 * v_11) + x1).toNat (4 * x4) := ⟨_, rfl⟩
            have h := h S_26 eS_26
            have es_26 : s_26 = zS S_26 := by rw [eS_26]; exact es_26.trans (z_ua S_24 6 (z_add (z_mul zk_16 (z_v v_11)) (z_v x1)) (z_rg i_25 (by decide)) (z_mul zk_4 (z_v x4)))
            subst es_26
            exact ih _ _ rfl _ _ (z_add (z_v x2) zk_1) _ _ (z_add (z_v x4) zk_1) h
set_option maxRecDepth 10000 in
theorem zwl_M_routes_65  (x1 : Int) (t1 : Int32) (e1 : t1 = zI x1) {ex : SS → Int32 → Int32 → Prop} {exz : AA → Int → Int → Prop} (hE : ∀ S s, s = zS S → ∀ (y2 : Int) (t2 : Int32), t2 = zI y2 → ∀ (y3 : Int) (t3 : Int32), t3 = zI y3 → exz S y2 y3 → ex s t2 t3) {post : Int32 → SS → Prop} {pz : Int → AA → Prop} (hp : ∀ r S, pz r S → post (zI r) (zS S)) : ∀ k, ∀ B s, s = zS B → ∀ (x2 : Int) (t2 : Int32), t2 = zI x2 → ∀ (x3 : Int) (t3 : Int32), t3 = zI x3 → zl_M_routes_65 x1 exz pz k B x2 x3 → wl_M_routes_65 t1 ex post k s t2 t3 := by
  subst e1; intro k
  induction k with
  | zero => intro B s es x2 t2 e2 x3 t3 e3 h; rw [zl_M_routes_65] at h; exact h.elim
  | succ k ih =>
    intro B s es x2 t2 e2 x3 t3 e3 h
    subst es; subst e2; subst e3; rw [zl_M_routes_65] at h; rw [wl_M_routes_65]
    obtain ⟨g_5, h⟩ := h
    have e_6 := z_lt zk_16 (z_v x3) (by decide) g_5
    refine ⟨fun c => ?_, fun c => ?_⟩
    · have h := h.1 (e_6.mp c)
      exact hE _ _ rfl _ _ (z_v x2) _ _ (z_v x3) h
    · have h := h.2 (fun c9 => c (e_6.mpr c9))
      obtain ⟨j9, h⟩ := h
      exact ⟨j9, zwl_M_routes_74 _ _ (z_v x1) _ _ (z_v x3) (fun S27 s27 es27 y2_27 t2_27 e2_27 y4_27 t4_27 e4_27 h => zwe_M_routes_176 _ _ es27 _ _ (z_v x1) _ _ e2_27 _ _ (z_v x3) ih hE hp h) hp j9 _ _ rfl _ _ (z_v x2) _ _ zk_0 h⟩
set_option maxRecDepth 10000 in
theorem zwe_M_routes_61 (B : AA) (s : SS) (es : s = zS B) (x1 : Int) (t1 : Int32) (e1 : t1 = zI x1) {post : Int32 → SS → Prop} {pz : Int → AA → Prop} (hp : ∀ r S, pz r S → post (zI r) (zS S)) (h : ze_M_routes_61 B x1 pz) : we_M_routes_61 s t1 post := by
  subst es; subst e1; rw [ze_M_routes_61] at h; rw [we_M_routes_61]
  obtain ⟨j9, h⟩ := h
  exact ⟨j9, zwl_M_routes_65 _ _ (z_v x1) (fun S28 s28 es28 y2_28 t2_28 e2_28 y3_28 t3_28 e3_28 h => zwe_M_routes_182 _ _ es28 _ _ e2_28 hp h) hp j9 _ _ rfl _ _ zk_0 _ _ zk_1 h⟩
set_option maxRecDepth 10000 in
theorem zwl_M_routes_21  (x1 : Int) (t1 : Int32) (e1 : t1 = zI x1) {ex : SS → Int32 → Prop} {exz : AA → Int → Prop} (hE : ∀ S s, s = zS S → ∀ (y2 : Int) (t2 : Int32), t2 = zI y2 → exz S y2 → ex s t2) {post : Int32 → SS → Prop} {pz : Int → AA → Prop} (hp : ∀ r S, pz r S → post (zI r) (zS S)) : ∀ k, ∀ B s, s = zS B → ∀ (x2 : Int) (t2 : Int32), t2 = zI x2 → zl_M_routes_21 x1 exz pz k B x2 → wl_M_routes_21 t1 ex post k s t2 := by
  subst e1; intro k
  induction k with
  | zero => intro B s es x2 t2 e2 h; rw [zl_M_routes_21] at h; exact h.elim
  | succ k ih =>
    intro B s es x2 t2 e2 h
    subst es; subst e2; rw [zl_M_routes_21] at h; rw [wl_M_routes_21]
    obtain ⟨g_29, h⟩ := h
    have e_30 := z_le zk_16 (z_v x2) (by decide) g_29
    refine ⟨fun c => ?_, fun c => ?_⟩
    · have h := h.1 (e_30.mp c)
      exact hE _ _ rfl _ _ (z_v x2) h
    · have h := h.2 (fun c9 => c (e_30.mpr c9))
      obtain ⟨g_31, h⟩ := h
      obtain ⟨g_32, h⟩ := h
      have e_33 := z_eq (z_v x2) (z_v x1) g_31 g_32
      refine ⟨fun c => ?_, fun c => ?_⟩
      · have h := h.1 (fun c9 => c (e_33.mpr c9))
        obtain ⟨i_34, h⟩ := h
        refine ⟨z_in (z_v x2) i_34 (by decide), ?_⟩
        intro s_35 es_35
        obtain ⟨S_35, eS_35⟩ : ∃ w : AA, w = zU B 20 x2.toNat (-1) := ⟨_, rfl⟩
        have h := h S_35 eS_35
        have es_35 : s_35 = zS S_35 := by rw [eS_35]; exact es_35.trans (z_ua B 20 (z_v x2) (z_rg i_34 (by decide)) zk_m1)
        subst es_35
        obtain ⟨i_36, h⟩ := h
        refine ⟨z_in (z_add (z_mul zk_16 (z_v x2)) (z_v x1)) i_36 (by decide), ?_⟩
        intro s_37 es_37
        obtain ⟨S_37, eS_37⟩ : ∃ w : AA, w = zU S_35 6 ((16 * x2) + x1).toNat (-1) := ⟨_, rfl⟩
        have h := h S_37 eS_37
        have es_37 : s_37 = zS S_37 := by rw [eS_37]; exact es_37.trans (z_ua S_35 6 (z_add (z_mul zk_16 (z_v x2)) (z_v x1)) (z_rg i_36 (by decide)) zk_m1)
        subst es_37
        exact ih _ _ rfl _ _ (z_add (z_v x2) zk_1) h
      · have h := h.2 (e_33.mp c)
        obtain ⟨i_38, h⟩ := h
        refine ⟨z_in (z_v x2) i_38 (by decide), ?_⟩
        intro s_39 es_39
        obtain ⟨S_39, eS_39⟩ : ∃ w : AA, w = zU B 20 x2.toNat 0 := ⟨_, rfl⟩
        have h := h S_39 eS_39
        have es_39 : s_39 = zS S_39 := by rw [eS_39]; exact es_39.trans (z_ua B 20 (z_v x2) (z_rg i_38 (by decide)) zk_0)
        subst es_39
        obtain ⟨i_40, h⟩ := h
        refine ⟨z_in (z_add (z_mul zk_16 (z_v x2)) (z_v x1)) i_40 (by decide), ?_⟩
        intro s_41 es_41
        obtain ⟨S_41, eS_41⟩ : ∃ w : AA, w = zU S_39 6 ((16 * x2) + x1).toNat (-1) := ⟨_, rfl⟩
        have h := h S_41 eS_41
        have es_41 : s_41 = zS S_41 := by rw [eS_41]; exact es_41.trans (z_ua S_39 6 (z_add (z_mul zk_16 (z_v x2)) (z_v x1)) (z_rg i_40 (by decide)) zk_m1)
        subst es_41
        exact ih _ _ rfl _ _ (z_add (z_v x2) zk_1) h
set_option maxRecDepth 10000 in
theorem zw_M_routes {B : AA} {s : SS} {x1 : Int} {t1 : Int32} (es : s = zS B) (e1 : t1 = zI x1) {post : Int32 → SS → Prop} {pz : Int → AA → Prop} (hp : ∀ r S, pz r S → post (zI r) (zS S)) (h : zp_M_routes B x1 pz) : wp_M_routes s t1 post := by
  subst es; subst e1; rw [zp_M_routes] at h; rw [wp_M_routes]
  intro s_1 es_1
  obtain ⟨S_1, eS_1⟩ : ∃ w : AA, w = zU B 0 0 0 := ⟨_, rfl⟩
  have h := h S_1 eS_1
  have es_1 : s_1 = zS S_1 := by rw [eS_1]; exact es_1.trans (z_uf B 0 0 zk_0)
  subst es_1
  refine zw_M_isNode rfl (z_v x1) (fun r_2 h => ?_) h
  obtain ⟨g_3, h⟩ := h
  have e_4 := z_eq (z_v r_2) zk_0 g_3 (by decide)
  refine ⟨fun c => ?_, fun c => ?_⟩
  · have h := h.1 (fun c9 => c (e_4.mpr c9))
    obtain ⟨j9, h⟩ := h
    exact ⟨j9, zwl_M_routes_21 _ _ (z_v x1) (fun S42 s42 es42 y2_42 t2_42 e2_42 h => zwe_M_routes_61 _ _ es42 _ _ (z_v x1) hp h) hp j9 _ _ rfl _ _ zk_0 h⟩
  · have h := h.2 (e_4.mp c)
    refine zw_M_wrong rfl zk_1 (fun r_43 S_43 h => ?_) h
    exact z_r (P := fun r9 => post r9 (zS S_43)) (z_v r_43) (hp _ _ h)
set_option maxRecDepth 10000 in
theorem zwe_M_fail_89 (B : AA) (s : SS) (es : s = zS B) (x2 : Int) (t2 : Int32) (e2 : t2 = zI x2) {post : Int32 → SS → Prop} {pz : Int → AA → Prop} (hp : ∀ r S, pz r S → post (zI r) (zS S)) (h : ze_M_fail_89 B x2 pz) : we_M_fail_89 s t2 post := by
  subst es; subst e2; rw [ze_M_fail_89] at h; rw [we_M_fail_89]
  exact z_r (P := fun r9 => post r9 (zS B)) (z_v x2) (hp _ _ h)
set_option maxRecDepth 10000 in
theorem zwl_M_fail_45  (x1 : Int) (t1 : Int32) (e1 : t1 = zI x1) {ex : SS → Int32 → Int32 → Prop} {exz : AA → Int → Int → Prop} (hE : ∀ S s, s = zS S → ∀ (y2 : Int) (t2 : Int32), t2 = zI y2 → ∀ (y3 : Int) (t3 : Int32), t3 = zI y3 → exz S y2 y3 → ex s t2 t3) {post : Int32 → SS → Prop} {pz : Int → AA → Prop} (hp : ∀ r S, pz r S → post (zI r) (zS S)) : ∀ k, ∀ B s, s = zS B → ∀ (x2 : Int) (t2 : Int32), t2 = zI x2 → ∀ (x3 : Int) (t3 : Int32), t3 = zI x3 → zl_M_fail_45 x1 exz pz k B x2 x3 → wl_M_fail_45 t1 ex post k s t2 t3 := by
  subst e1; intro k
  induction k with
  | zero => intro B s es x2 t2 e2 x3 t3 e3 h; rw [zl_M_fail_45] at h; exact h.elim
  | succ k ih =>
    intro B s es x2 t2 e2 x3 t3 e3 h
    subst es; subst e2; subst e3; rw [zl_M_fail_45] at h; rw [wl_M_fail_45]
    obtain ⟨g_11, h⟩ := h
    have e_12 := z_le zk_256 (z_v x3) (by decide) g_11
    refine ⟨fun c => ?_, fun c => ?_⟩
    · have h := h.1 (e_12.mp c)
      exact hE _ _ rfl _ _ (z_v x2) _ _ (z_v x3) h
    · have h := h.2 (fun c9 => c (e_12.mpr c9))
      obtain ⟨i_13, h⟩ := h
      refine ⟨z_in (z_v x3) i_13 (by decide), ?_⟩
      obtain ⟨g_14, h⟩ := h
      have e_15 := z_lt (z_a B 6 (z_v x3) (z_rg i_13 (by decide))) zk_0 g_14 (by decide)
      refine ⟨fun c => ?_, fun c => ?_⟩
      · have h := h.1 (e_15.mp c)
        exact ih _ _ rfl _ _ (z_v x2) _ _ (z_add (z_v x3) zk_1) h
      · have h := h.2 (fun c9 => c (e_15.mpr c9))
        obtain ⟨i_16, h⟩ := h
        refine ⟨z_in (z_v x3) i_16 (by decide), ?_⟩
        obtain ⟨n_17, h⟩ := h
        obtain ⟨g_18, h⟩ := h
        obtain ⟨g_19, h⟩ := h
        have e_20 := z_eq (z_div (z_a B 6 (z_v x3) (z_rg i_16 (by decide))) zk_4 n_17 (by decide)) (z_v x1) g_18 g_19
        refine ⟨fun c => ?_, fun c => ?_⟩
        · have h := h.1 (fun c9 => c (e_20.mpr c9))
          exact ih _ _ rfl _ _ (z_v x2) _ _ (z_add (z_v x3) zk_1) h
        · have h := h.2 (e_20.mp c)
          obtain ⟨i_21, h⟩ := h
          refine ⟨z_in (z_v x3) i_21 (by decide), ?_⟩
          intro s_22 es_22
          obtain ⟨S_22, eS_22⟩ : ∃ w : AA, w = zU B 6 x3.toNat (-1) := ⟨_, rfl⟩
          have h := h S_22 eS_22
          have es_22 : s_22 = zS S_22 := by rw [eS_22]; exact es_22.trans (z_ua B 6 (z_v x3) (z_rg i_21 (by decide)) zk_m1)
          subst es_22
          exact ih _ _ rfl _ _ (z_add (z_v x2) zk_1) _ _ (z_add (z_v x3) zk_1) h
set_option maxRecDepth 10000 in
theorem zw_M_fail {B : AA} {s : SS} {x1 : Int} {t1 : Int32} (es : s = zS B) (e1 : t1 = zI x1) {post : Int32 → SS → Prop} {pz : Int → AA → Prop} (hp : ∀ r S, pz r S → post (zI r) (zS S)) (h : zp_M_fail B x1 pz) : wp_M_fail s t1 post := by
  subst es; subst e1; rw [zp_M_fail] at h; rw [wp_M_fail]
  intro s_1 es_1
  obtain ⟨S_1, eS_1⟩ : ∃ w : AA, w = zU B 0 0 0 := ⟨_, rfl⟩
  have h := h S_1 eS_1
  have es_1 : s_1 = zS S_1 := by rw [eS_1]; exact es_1.trans (z_uf B 0 0 zk_0)
  subst es_1
  refine zw_M_within rfl (z_v x1) zk_0 (z_sub (z_f S_1 0 3) zk_1) (fun r_2 h => ?_) h
  obtain ⟨g_3, h⟩ := h
  have e_4 := z_eq (z_v r_2) zk_0 g_3 (by decide)
  refine ⟨fun c => ?_, fun c => ?_⟩
  · have h := h.1 (e_4.mp c)
    refine zw_M_wrong rfl zk_1 (fun r_5 S_5 h => ?_) h
    exact z_r (P := fun r9 => post r9 (zS S_5)) (z_v r_5) (hp _ _ h)
  · have h := h.2 (fun c9 => c (e_4.mpr c9))
    obtain ⟨i_6, h⟩ := h
    refine ⟨z_in (z_v x1) i_6 (by decide), ?_⟩
    obtain ⟨g_7, h⟩ := h
    have e_8 := z_eq (z_a S_1 4 (z_v x1) (z_rg i_6 (by decide))) zk_0 g_7 (by decide)
    refine ⟨fun c => ?_, fun c => ?_⟩
    · have h := h.1 (e_8.mp c)
      obtain ⟨i_9, h⟩ := h
      refine ⟨z_in (z_v x1) i_9 (by decide), ?_⟩
      intro s_10 es_10
      obtain ⟨S_10, eS_10⟩ : ∃ w : AA, w = zU S_1 4 x1.toNat 1 := ⟨_, rfl⟩
      have h := h S_10 eS_10
      have es_10 : s_10 = zS S_10 := by rw [eS_10]; exact es_10.trans (z_ua S_1 4 (z_v x1) (z_rg i_9 (by decide)) zk_1)
      subst es_10
      obtain ⟨j9, h⟩ := h
      exact ⟨j9, zwl_M_fail_45 _ _ (z_v x1) (fun S23 s23 es23 y2_23 t2_23 e2_23 y3_23 t3_23 e3_23 h => zwe_M_fail_89 _ _ es23 _ _ e2_23 hp h) hp j9 _ _ rfl _ _ zk_0 _ _ zk_0 h⟩
    · have h := h.2 (fun c9 => c (e_8.mpr c9))
      refine zw_M_wrong rfl zk_1 (fun r_24 S_24 h => ?_) h
      exact z_r (P := fun r9 => post r9 (zS S_24)) (z_v r_24) (hp _ _ h)
set_option maxRecDepth 10000 in
theorem zw_M_add {B : AA} {s : SS} {x1 : Int} {t1 : Int32} {x2 : Int} {t2 : Int32} {x3 : Int} {t3 : Int32} (es : s = zS B) (e1 : t1 = zI x1) (e2 : t2 = zI x2) (e3 : t3 = zI x3) {post : Int32 → SS → Prop} {pz : Int → AA → Prop} (hp : ∀ r S, pz r S → post (zI r) (zS S)) (h : zp_M_add B x1 x2 x3 pz) : wp_M_add s t1 t2 t3 post := by
  subst es; subst e1; subst e2; subst e3; rw [zp_M_add] at h; rw [wp_M_add]
  intro t_1 et_1
  obtain ⟨v_1, ev_1⟩ : ∃ w : Int, w = B 0 4 := ⟨_, rfl⟩
  have h := h v_1 ev_1
  have et_1 : t_1 = zI v_1 := by rw [ev_1]; exact et_1.trans (z_f B 0 4)
  subst et_1
  obtain ⟨i_2, h⟩ := h
  refine ⟨z_in (z_v v_1) i_2 (by decide), ?_⟩
  intro s_3 es_3
  obtain ⟨S_3, eS_3⟩ : ∃ w : AA, w = zU B 7 v_1.toNat x1 := ⟨_, rfl⟩
  have h := h S_3 eS_3
  have es_3 : s_3 = zS S_3 := by rw [eS_3]; exact es_3.trans (z_ua B 7 (z_v v_1) (z_rg i_2 (by decide)) (z_v x1))
  subst es_3
  obtain ⟨i_4, h⟩ := h
  refine ⟨z_in (z_v v_1) i_4 (by decide), ?_⟩
  intro s_5 es_5
  obtain ⟨S_5, eS_5⟩ : ∃ w : AA, w = zU S_3 8 v_1.toNat x2 := ⟨_, rfl⟩
  have h := h S_5 eS_5
  have es_5 : s_5 = zS S_5 := by rw [eS_5]; exact es_5.trans (z_ua S_3 8 (z_v v_1) (z_rg i_4 (by decide)) (z_v x2))
  subst es_5
  obtain ⟨i_6, h⟩ := h
  refine ⟨z_in (z_v v_1) i_6 (by decide), ?_⟩
  intro s_7 es_7
  obtain ⟨S_7, eS_7⟩ : ∃ w : AA, w = zU S_5 9 v_1.toNat x3 := ⟨_, rfl⟩
  have h := h S_7 eS_7
  have es_7 : s_7 = zS S_7 := by rw [eS_7]; exact es_7.trans (z_ua S_5 9 (z_v v_1) (z_rg i_6 (by decide)) (z_v x3))
  subst es_7
  intro s_8 es_8
  obtain ⟨S_8, eS_8⟩ : ∃ w : AA, w = zU S_7 0 4 ((S_7 0 4) + 1) := ⟨_, rfl⟩
  have h := h S_8 eS_8
  have es_8 : s_8 = zS S_8 := by rw [eS_8]; exact es_8.trans (z_uf S_7 0 4 (z_add (z_f S_7 0 4) zk_1))
  subst es_8
  exact z_r (P := fun r9 => post r9 (zS S_8)) (z_v v_1) (hp _ _ h)
set_option maxRecDepth 10000 in
theorem zw_M_send {B : AA} {s : SS} {x1 : Int} {t1 : Int32} {x2 : Int} {t2 : Int32} {x3 : Int} {t3 : Int32} (es : s = zS B) (e1 : t1 = zI x1) (e2 : t2 = zI x2) (e3 : t3 = zI x3) {post : Int32 → SS → Prop} {pz : Int → AA → Prop} (hp : ∀ r S, pz r S → post (zI r) (zS S)) (h : zp_M_send B x1 x2 x3 pz) : wp_M_send s t1 t2 t3 post := by
  subst es; subst e1; subst e2; subst e3; rw [zp_M_send] at h; rw [wp_M_send]
  intro s_1 es_1
  obtain ⟨S_1, eS_1⟩ : ∃ w : AA, w = zU B 0 0 0 := ⟨_, rfl⟩
  have h := h S_1 eS_1
  have es_1 : s_1 = zS S_1 := by rw [eS_1]; exact es_1.trans (z_uf B 0 0 zk_0)
  subst es_1
  refine zw_M_isNode rfl (z_v x1) (fun r_2 h => ?_) h
  obtain ⟨g_3, h⟩ := h
  have e_4 := z_eq (z_v r_2) zk_0 g_3 (by decide)
  refine ⟨fun c => ?_, fun c => ?_⟩
  · have h := h.1 (e_4.mp c)
    refine zw_M_wrong rfl zk_1 (fun r_5 S_5 h => ?_) h
    exact z_r (P := fun r9 => post r9 (zS S_5)) (z_v r_5) (hp _ _ h)
  · have h := h.2 (fun c9 => c (e_4.mpr c9))
    refine zw_M_isNode rfl (z_v x2) (fun r_6 h => ?_) h
    obtain ⟨g_7, h⟩ := h
    have e_8 := z_eq (z_v r_6) zk_0 g_7 (by decide)
    refine ⟨fun c => ?_, fun c => ?_⟩
    · have h := h.1 (e_8.mp c)
      refine zw_M_wrong rfl zk_1 (fun r_9 S_9 h => ?_) h
      exact z_r (P := fun r9 => post r9 (zS S_9)) (z_v r_9) (hp _ _ h)
    · have h := h.2 (fun c9 => c (e_8.mpr c9))
      refine zw_M_within rfl (z_v x3) zk_1 zk_16 (fun r_10 h => ?_) h
      obtain ⟨g_11, h⟩ := h
      have e_12 := z_eq (z_v r_10) zk_0 g_11 (by decide)
      refine ⟨fun c => ?_, fun c => ?_⟩
      · have h := h.1 (fun c9 => c (e_12.mpr c9))
        obtain ⟨g_13, h⟩ := h
        have e_14 := z_eq (z_f S_1 0 4) zk_400 g_13 (by decide)
        refine ⟨fun c => ?_, fun c => ?_⟩
        · have h := h.1 (fun c9 => c (e_14.mpr c9))
          refine zw_M_add rfl (z_v x1) (z_v x2) (z_v x3) (fun r_15 S_15 h => ?_) h
          exact z_r (P := fun r9 => post r9 (zS S_15)) (z_v r_15) (hp _ _ h)
        · have h := h.2 (e_14.mp c)
          refine zw_M_wrong rfl zk_2 (fun r_16 S_16 h => ?_) h
          exact z_r (P := fun r9 => post r9 (zS S_16)) (z_v r_16) (hp _ _ h)
      · have h := h.2 (e_12.mp c)
        refine zw_M_wrong rfl zk_1 (fun r_17 S_17 h => ?_) h
        exact z_r (P := fun r9 => post r9 (zS S_17)) (z_v r_17) (hp _ _ h)
set_option maxRecDepth 10000 in
theorem zw_M_draw {B : AA} {s : SS} (es : s = zS B) {post : Int32 → SS → Prop} {pz : Int → AA → Prop} (hp : ∀ r S, pz r S → post (zI r) (zS S)) (h : zp_M_draw B pz) : wp_M_draw s post := by
  subst es; rw [zp_M_draw] at h; rw [wp_M_draw]
  intro s_1 es_1
  obtain ⟨S_1, eS_1⟩ : ∃ w : AA, w = zU B 0 1 (((1103515245 * (B 0 1)) + 12345) % 2147483648) := ⟨_, rfl⟩
  have h := h S_1 eS_1
  have es_1 : s_1 = zS S_1 := by rw [eS_1]; exact es_1.trans (z_uf B 0 1 (z_and (z_add (z_mul zk_1103515245 (z_f B 0 1)) zk_12345)))
  subst es_1
  obtain ⟨n_2, h⟩ := h
  exact z_r (P := fun r9 => post r9 (zS S_1)) (z_div (z_f S_1 0 1) zk_65536 n_2 (by decide)) (hp _ _ h)
set_option maxRecDepth 10000 in
theorem zwe_M_load_103 (B : AA) (s : SS) (es : s = zS B) {post : Int32 → SS → Prop} {pz : Int → AA → Prop} (hp : ∀ r S, pz r S → post (zI r) (zS S)) (h : ze_M_load_103 B pz) : we_M_load_103 s post := by
  subst es; rw [ze_M_load_103] at h; rw [we_M_load_103]
  exact z_r (P := fun r9 => post r9 (zS B)) (z_sub (z_f B 0 4) zk_1) (hp _ _ h)
set_option maxRecDepth 10000 in
theorem zwl_M_load_54  (x1 : Int) (t1 : Int32) (e1 : t1 = zI x1) {ex : SS → Int32 → Prop} {exz : AA → Int → Prop} (hE : ∀ S s, s = zS S → ∀ (y2 : Int) (t2 : Int32), t2 = zI y2 → exz S y2 → ex s t2) {post : Int32 → SS → Prop} {pz : Int → AA → Prop} (hp : ∀ r S, pz r S → post (zI r) (zS S)) : ∀ k, ∀ B s, s = zS B → ∀ (x2 : Int) (t2 : Int32), t2 = zI x2 → zl_M_load_54 x1 exz pz k B x2 → wl_M_load_54 t1 ex post k s t2 := by
  subst e1; intro k
  induction k with
  | zero => intro B s es x2 t2 e2 h; rw [zl_M_load_54] at h; exact h.elim
  | succ k ih =>
    intro B s es x2 t2 e2 h
    subst es; subst e2; rw [zl_M_load_54] at h; rw [wl_M_load_54]
    obtain ⟨g_9, h⟩ := h
    obtain ⟨g_10, h⟩ := h
    have e_11 := z_le (z_v x1) (z_v x2) g_10 g_9
    refine ⟨fun c => ?_, fun c => ?_⟩
    · have h := h.1 (e_11.mp c)
      exact hE _ _ rfl _ _ (z_v x2) h
    · have h := h.2 (fun c9 => c (e_11.mpr c9))
      refine zw_M_draw rfl (fun r_12 S_12 h => ?_) h
      obtain ⟨n_13, h⟩ := h
      obtain ⟨m_13, h⟩ := h
      refine ⟨z_ne (z_f S_12 0 2) m_13, ?_⟩
      intro t_14 et_14
      obtain ⟨v_14, ev_14⟩ : ∃ w : Int, w = r_12 % (S_12 0 2) := ⟨_, rfl⟩
      have h := h v_14 ev_14
      have et_14 : t_14 = zI v_14 := by rw [ev_14]; exact et_14.trans (z_rem (z_v r_12) (z_f S_12 0 2) n_13 m_13)
      subst et_14
      refine zw_M_draw rfl (fun r_15 S_15 h => ?_) h
      obtain ⟨n_16, h⟩ := h
      obtain ⟨m_16, h⟩ := h
      refine ⟨z_ne (z_f S_15 0 2) m_16, ?_⟩
      intro t_17 et_17
      obtain ⟨v_17, ev_17⟩ : ∃ w : Int, w = r_15 % (S_15 0 2) := ⟨_, rfl⟩
      have h := h v_17 ev_17
      have et_17 : t_17 = zI v_17 := by rw [ev_17]; exact et_17.trans (z_rem (z_v r_15) (z_f S_15 0 2) n_16 m_16)
      subst et_17
      refine zw_M_draw rfl (fun r_18 S_18 h => ?_) h
      obtain ⟨n_19, h⟩ := h
      refine zw_M_add rfl (z_v v_14) (z_v v_17) (z_add zk_1 (z_rem (z_v r_18) zk_8 n_19 (by decide))) (fun r_20 S_20 h => ?_) h
      exact ih _ _ rfl _ _ (z_add (z_v x2) zk_1) h
set_option maxRecDepth 10000 in
theorem zw_M_load {B : AA} {s : SS} {x1 : Int} {t1 : Int32} (es : s = zS B) (e1 : t1 = zI x1) {post : Int32 → SS → Prop} {pz : Int → AA → Prop} (hp : ∀ r S, pz r S → post (zI r) (zS S)) (h : zp_M_load B x1 pz) : wp_M_load s t1 post := by
  subst es; subst e1; rw [zp_M_load] at h; rw [wp_M_load]
  intro s_1 es_1
  obtain ⟨S_1, eS_1⟩ : ∃ w : AA, w = zU B 0 0 0 := ⟨_, rfl⟩
  have h := h S_1 eS_1
  have es_1 : s_1 = zS S_1 := by rw [eS_1]; exact es_1.trans (z_uf B 0 0 zk_0)
  subst es_1
  refine zw_M_within rfl (z_v x1) zk_1 zk_50 (fun r_2 h => ?_) h
  obtain ⟨g_3, h⟩ := h
  have e_4 := z_eq (z_v r_2) zk_0 g_3 (by decide)
  refine ⟨fun c => ?_, fun c => ?_⟩
  · have h := h.1 (fun c9 => c (e_4.mpr c9))
    obtain ⟨g_5, h⟩ := h
    have e_6 := z_eq (z_f S_1 0 2) zk_0 g_5 (by decide)
    refine ⟨fun c => ?_, fun c => ?_⟩
    · have h := h.1 (fun c9 => c (e_6.mpr c9))
      obtain ⟨g_7, h⟩ := h
      have e_8 := z_le (z_add (z_f S_1 0 4) (z_v x1)) zk_400 g_7 (by decide)
      refine ⟨fun c => ?_, fun c => ?_⟩
      · have h := h.1 (e_8.mp c)
        obtain ⟨j9, h⟩ := h
        exact ⟨j9, zwl_M_load_54 _ _ (z_v x1) (fun S21 s21 es21 y2_21 t2_21 e2_21 h => zwe_M_load_103 _ _ es21 hp h) hp j9 _ _ rfl _ _ zk_0 h⟩
      · have h := h.2 (fun c9 => c (e_8.mpr c9))
        refine zw_M_wrong rfl zk_3 (fun r_22 S_22 h => ?_) h
        exact z_r (P := fun r9 => post r9 (zS S_22)) (z_v r_22) (hp _ _ h)
    · have h := h.2 (e_6.mp c)
      refine zw_M_wrong rfl zk_2 (fun r_23 S_23 h => ?_) h
      exact z_r (P := fun r9 => post r9 (zS S_23)) (z_v r_23) (hp _ _ h)
  · have h := h.2 (e_4.mp c)
    refine zw_M_wrong rfl zk_1 (fun r_24 S_24 h => ?_) h
    exact z_r (P := fun r9 => post r9 (zS S_24)) (z_v r_24) (hp _ _ h)
set_option maxRecDepth 10000 in
theorem zwe_M_front_89 (B : AA) (s : SS) (es : s = zS B) (x2 : Int) (t2 : Int32) (e2 : t2 = zI x2) {post : Int32 → Prop} {pz : Int → Prop} (hp : ∀ r, pz r → post (zI r)) (h : ze_M_front_89 B x2 pz) : we_M_front_89 s t2 post := by
  subst es; subst e2; rw [ze_M_front_89] at h; rw [we_M_front_89]
  obtain ⟨g_3, h⟩ := h
  obtain ⟨g_4, h⟩ := h
  have e_5 := z_le (z_f B 0 4) (z_v x2) g_4 g_3
  refine ⟨fun c => ?_, fun c => ?_⟩
  · have h := h.1 (e_5.mp c)
    exact z_r (P := post) zk_m1 (hp _ h)
  · have h := h.2 (fun c9 => c (e_5.mpr c9))
    obtain ⟨i_6, h⟩ := h
    refine ⟨z_in (z_v x2) i_6 (by decide), ?_⟩
    exact z_r (P := post) (z_add (z_mul zk_16 (z_v x2)) (z_a B 10 (z_v x2) (z_rg i_6 (by decide)))) (hp _ h)
set_option maxRecDepth 10000 in
theorem zwl_M_front_50 (B : AA) (s : SS) (es : s = zS B) (x1 : Int) (t1 : Int32) (e1 : t1 = zI x1) {ex : Int32 → Prop} {exz : Int → Prop} (hE : ∀ (y2 : Int) (t2 : Int32), t2 = zI y2 → exz y2 → ex t2) {post : Int32 → Prop} {pz : Int → Prop} (hp : ∀ r, pz r → post (zI r)) : ∀ k, ∀ (x2 : Int) (t2 : Int32), t2 = zI x2 → zl_M_front_50 B x1 exz pz k x2 → wl_M_front_50 s t1 ex post k t2 := by
  subst es; subst e1; intro k
  induction k with
  | zero => intro x2 t2 e2 h; rw [zl_M_front_50] at h; exact h.elim
  | succ k ih =>
    intro x2 t2 e2 h
    subst e2; rw [zl_M_front_50] at h; rw [wl_M_front_50]
    obtain ⟨g_7, h⟩ := h
    obtain ⟨g_8, h⟩ := h
    have e_9 := z_le (z_f B 0 4) (z_v x2) g_8 g_7
    refine ⟨fun c => ?_, fun c => ?_⟩
    · have h := h.1 (e_9.mp c)
      exact hE _ _ (z_v x2) h
    · have h := h.2 (fun c9 => c (e_9.mpr c9))
      obtain ⟨i_10, h⟩ := h
      refine ⟨z_in (z_v x2) i_10 (by decide), ?_⟩
      obtain ⟨g_11, h⟩ := h
      obtain ⟨g_12, h⟩ := h
      have e_13 := z_eq (z_a B 7 (z_v x2) (z_rg i_10 (by decide))) (z_v x1) g_11 g_12
      refine ⟨fun c => ?_, fun c => ?_⟩
      · have h := h.1 (fun c9 => c (e_13.mpr c9))
        exact ih _ _ (z_add (z_v x2) zk_1) h
      · have h := h.2 (e_13.mp c)
        obtain ⟨i_14, h⟩ := h
        refine ⟨z_in (z_v x2) i_14 (by decide), ?_⟩
        obtain ⟨i_15, h⟩ := h
        refine ⟨z_in (z_v x2) i_15 (by decide), ?_⟩
        obtain ⟨g_16, h⟩ := h
        obtain ⟨g_17, h⟩ := h
        have e_18 := z_eq (z_a B 10 (z_v x2) (z_rg i_14 (by decide))) (z_a B 9 (z_v x2) (z_rg i_15 (by decide))) g_16 g_17
        refine ⟨fun c => ?_, fun c => ?_⟩
        · have h := h.1 (fun c9 => c (e_18.mpr c9))
          exact hE _ _ (z_v x2) h
        · have h := h.2 (e_18.mp c)
          exact ih _ _ (z_add (z_v x2) zk_1) h
set_option maxRecDepth 10000 in
theorem zw_M_front {B : AA} {s : SS} {x1 : Int} {t1 : Int32} (es : s = zS B) (e1 : t1 = zI x1) {post : Int32 → Prop} {pz : Int → Prop} (hp : ∀ r, pz r → post (zI r)) (h : zp_M_front B x1 pz) : wp_M_front s t1 post := by
  subst es; subst e1; rw [zp_M_front] at h; rw [wp_M_front]
  obtain ⟨g_1, h⟩ := h
  have e_2 := z_lt (z_v x1) zk_16 g_1 (by decide)
  refine ⟨fun c => ?_, fun c => ?_⟩
  · have h := h.1 (e_2.mp c)
    obtain ⟨j9, h⟩ := h
    exact ⟨j9, zwl_M_front_50 _ _ rfl _ _ (z_v x1) (fun y2_19 t2_19 e2_19 h => zwe_M_front_89 _ _ rfl _ _ e2_19 hp h) hp j9 _ _ zk_0 h⟩
  · have h := h.2 (fun c9 => c (e_2.mpr c9))
    intro t_20 et_20
    obtain ⟨v_20, ev_20⟩ : ∃ w : Int, w = x1 - 16 := ⟨_, rfl⟩
    have h := h v_20 ev_20
    have et_20 : t_20 = zI v_20 := by rw [ev_20]; exact et_20.trans (z_sub (z_v x1) zk_16)
    subst et_20
    obtain ⟨i_21, h⟩ := h
    refine ⟨z_in (z_v v_20) i_21 (by decide), ?_⟩
    obtain ⟨g_22, h⟩ := h
    have e_23 := z_eq (z_a B 13 (z_v v_20) (z_rg i_21 (by decide))) zk_0 g_22 (by decide)
    refine ⟨fun c => ?_, fun c => ?_⟩
    · have h := h.1 (e_23.mp c)
      exact z_r (P := post) zk_m1 (hp _ h)
    · have h := h.2 (fun c9 => c (e_23.mpr c9))
      obtain ⟨i_24, h⟩ := h
      refine ⟨z_in (z_mul zk_4 (z_v v_20)) i_24 (by decide), ?_⟩
      obtain ⟨g_25, h⟩ := h
      obtain ⟨g_26, h⟩ := h
      have e_27 := z_eq (z_a B 15 (z_mul zk_4 (z_v v_20)) (z_rg i_24 (by decide))) (z_f B 0 5) g_25 g_26
      refine ⟨fun c => ?_, fun c => ?_⟩
      · have h := h.1 (fun c9 => c (e_27.mpr c9))
        obtain ⟨i_28, h⟩ := h
        refine ⟨z_in (z_mul zk_4 (z_v v_20)) i_28 (by decide), ?_⟩
        exact z_r (P := post) (z_a B 14 (z_mul zk_4 (z_v v_20)) (z_rg i_28 (by decide))) (hp _ h)
      · have h := h.2 (e_27.mp c)
        exact z_r (P := post) zk_m1 (hp _ h)
set_option maxRecDepth 10000 in
theorem zwe_M_take_103 (B : AA) (s : SS) (es : s = zS B) {post : SS → Prop} {pz : AA → Prop} (hp : ∀ S, pz S → post (zS S)) (h : ze_M_take_103 B pz) : we_M_take_103 s post := by
  subst es; rw [ze_M_take_103] at h; rw [we_M_take_103]
  exact hp _ h
set_option maxRecDepth 10000 in
theorem zwl_M_take_38  (x3 : Int) (t3 : Int32) (e3 : t3 = zI x3) {ex : SS → Int32 → Prop} {exz : AA → Int → Prop} (hE : ∀ S s, s = zS S → ∀ (y4 : Int) (t4 : Int32), t4 = zI y4 → exz S y4 → ex s t4) {post : SS → Prop} {pz : AA → Prop} (hp : ∀ S, pz S → post (zS S)) : ∀ k, ∀ B s, s = zS B → ∀ (x4 : Int) (t4 : Int32), t4 = zI x4 → zl_M_take_38 x3 exz pz k B x4 → wl_M_take_38 t3 ex post k s t4 := by
  subst e3; intro k
  induction k with
  | zero => intro B s es x4 t4 e4 h; rw [zl_M_take_38] at h; exact h.elim
  | succ k ih =>
    intro B s es x4 t4 e4 h
    subst es; subst e4; rw [zl_M_take_38] at h; rw [wl_M_take_38]
    obtain ⟨i_7, h⟩ := h
    refine ⟨z_in (z_v x3) i_7 (by decide), ?_⟩
    obtain ⟨g_8, h⟩ := h
    obtain ⟨g_9, h⟩ := h
    have e_10 := z_le (z_a B 13 (z_v x3) (z_rg i_7 (by decide))) (z_v x4) g_9 g_8
    refine ⟨fun c => ?_, fun c => ?_⟩
    · have h := h.1 (e_10.mp c)
      exact hE _ _ rfl _ _ (z_v x4) h
    · have h := h.2 (fun c9 => c (e_10.mpr c9))
      obtain ⟨i_11, h⟩ := h
      refine ⟨z_in (z_add (z_add (z_mul zk_4 (z_v x3)) (z_v x4)) zk_1) i_11 (by decide), ?_⟩
      obtain ⟨i_12, h⟩ := h
      refine ⟨z_in (z_add (z_mul zk_4 (z_v x3)) (z_v x4)) i_12 (by decide), ?_⟩
      intro s_13 es_13
      obtain ⟨S_13, eS_13⟩ : ∃ w : AA, w = zU B 14 ((4 * x3) + x4).toNat (B 14 (((4 * x3) + x4) + 1).toNat) := ⟨_, rfl⟩
      have h := h S_13 eS_13
      have es_13 : s_13 = zS S_13 := by rw [eS_13]; exact es_13.trans (z_ua B 14 (z_add (z_mul zk_4 (z_v x3)) (z_v x4)) (z_rg i_12 (by decide)) (z_a B 14 (z_add (z_add (z_mul zk_4 (z_v x3)) (z_v x4)) zk_1) (z_rg i_11 (by decide))))
      subst es_13
      obtain ⟨i_14, h⟩ := h
      refine ⟨z_in (z_add (z_add (z_mul zk_4 (z_v x3)) (z_v x4)) zk_1) i_14 (by decide), ?_⟩
      obtain ⟨i_15, h⟩ := h
      refine ⟨z_in (z_add (z_mul zk_4 (z_v x3)) (z_v x4)) i_15 (by decide), ?_⟩
      intro s_16 es_16
      obtain ⟨S_16, eS_16⟩ : ∃ w : AA, w = zU S_13 15 ((4 * x3) + x4).toNat (S_13 15 (((4 * x3) + x4) + 1).toNat) := ⟨_, rfl⟩
      have h := h S_16 eS_16
      have es_16 : s_16 = zS S_16 := by rw [eS_16]; exact es_16.trans (z_ua S_13 15 (z_add (z_mul zk_4 (z_v x3)) (z_v x4)) (z_rg i_15 (by decide)) (z_a S_13 15 (z_add (z_add (z_mul zk_4 (z_v x3)) (z_v x4)) zk_1) (z_rg i_14 (by decide))))
      subst es_16
      exact ih _ _ rfl _ _ (z_add (z_v x4) zk_1) h
set_option maxRecDepth 10000 in
theorem zw_M_take {B : AA} {s : SS} {x1 : Int} {t1 : Int32} {x2 : Int} {t2 : Int32} (es : s = zS B) (e1 : t1 = zI x1) (e2 : t2 = zI x2) {post : SS → Prop} {pz : AA → Prop} (hp : ∀ S, pz S → post (zS S)) (h : zp_M_take B x1 x2 pz) : wp_M_take s t1 t2 post := by
  subst es; subst e1; subst e2; rw [zp_M_take] at h; rw [wp_M_take]
  obtain ⟨g_1, h⟩ := h
  have e_2 := z_le zk_16 (z_v x1) (by decide) g_1
  refine ⟨fun c => ?_, fun c => ?_⟩
  · have h := h.1 (e_2.mp c)
    intro t_3 et_3
    obtain ⟨v_3, ev_3⟩ : ∃ w : Int, w = x1 - 16 := ⟨_, rfl⟩
    have h := h v_3 ev_3
    have et_3 : t_3 = zI v_3 := by rw [ev_3]; exact et_3.trans (z_sub (z_v x1) zk_16)
    subst et_3
    obtain ⟨i_4, h⟩ := h
    refine ⟨z_in (z_v v_3) i_4 (by decide), ?_⟩
    obtain ⟨i_5, h⟩ := h
    refine ⟨z_in (z_v v_3) i_5 (by decide), ?_⟩
    intro s_6 es_6
    obtain ⟨S_6, eS_6⟩ : ∃ w : AA, w = zU B 13 v_3.toNat ((B 13 v_3.toNat) - 1) := ⟨_, rfl⟩
    have h := h S_6 eS_6
    have es_6 : s_6 = zS S_6 := by rw [eS_6]; exact es_6.trans (z_ua B 13 (z_v v_3) (z_rg i_5 (by decide)) (z_sub (z_a B 13 (z_v v_3) (z_rg i_4 (by decide))) zk_1))
    subst es_6
    obtain ⟨j9, h⟩ := h
    exact ⟨j9, zwl_M_take_38 _ _ (z_v v_3) (fun S17 s17 es17 y4_17 t4_17 e4_17 h => zwe_M_take_103 _ _ es17 hp h) hp j9 _ _ rfl _ _ zk_0 h⟩
  · have h := h.2 (fun c9 => c (e_2.mpr c9))
    obtain ⟨n_18, h⟩ := h
    obtain ⟨i_19, h⟩ := h
    refine ⟨z_in (z_div (z_v x2) zk_16 n_18 (by decide)) i_19 (by decide), ?_⟩
    obtain ⟨i_20, h⟩ := h
    refine ⟨z_in (z_div (z_v x2) zk_16 n_18 (by decide)) i_20 (by decide), ?_⟩
    intro s_21 es_21
    obtain ⟨S_21, eS_21⟩ : ∃ w : AA, w = zU B 10 (x2 / 16).toNat ((B 10 (x2 / 16).toNat) + 1) := ⟨_, rfl⟩
    have h := h S_21 eS_21
    have es_21 : s_21 = zS S_21 := by rw [eS_21]; exact es_21.trans (z_ua B 10 (z_div (z_v x2) zk_16 n_18 (by decide)) (z_rg i_20 (by decide)) (z_add (z_a B 10 (z_div (z_v x2) zk_16 n_18 (by decide)) (z_rg i_19 (by decide))) zk_1))
    subst es_21
    exact hp _ h
set_option maxRecDepth 10000 in
theorem zw_M_nodeOf {B : AA} {s : SS} {x1 : Int} {t1 : Int32} (es : s = zS B) (e1 : t1 = zI x1) {post : Int32 → Prop} {pz : Int → Prop} (hp : ∀ r, pz r → post (zI r)) (h : zp_M_nodeOf B x1 pz) : wp_M_nodeOf s t1 post := by
  subst es; subst e1; rw [zp_M_nodeOf] at h; rw [wp_M_nodeOf]
  obtain ⟨g_1, h⟩ := h
  have e_2 := z_le zk_16 (z_v x1) (by decide) g_1
  refine ⟨fun c => ?_, fun c => ?_⟩
  · have h := h.1 (e_2.mp c)
    obtain ⟨n_3, h⟩ := h
    obtain ⟨i_4, h⟩ := h
    refine ⟨z_in (z_div (z_sub (z_v x1) zk_16) zk_4 n_3 (by decide)) i_4 (by decide), ?_⟩
    exact z_r (P := post) (z_a B 2 (z_div (z_sub (z_v x1) zk_16) zk_4 n_3 (by decide)) (z_rg i_4 (by decide))) (hp _ h)
  · have h := h.2 (fun c9 => c (e_2.mpr c9))
    exact z_r (P := post) (z_v x1) (hp _ h)
set_option maxRecDepth 10000 in
theorem zw_M_isInput {B : AA} {s : SS} {x1 : Int} {t1 : Int32} {x2 : Int} {t2 : Int32} (es : s = zS B) (e1 : t1 = zI x1) (e2 : t2 = zI x2) {post : Int32 → Prop} {pz : Int → Prop} (hp : ∀ r, pz r → post (zI r)) (h : zp_M_isInput B x1 x2 pz) : wp_M_isInput s t1 t2 post := by
  subst es; subst e1; subst e2; rw [zp_M_isInput] at h; rw [wp_M_isInput]
  obtain ⟨g_1, h⟩ := h
  have e_2 := z_le zk_16 (z_v x1) (by decide) g_1
  refine ⟨fun c => ?_, fun c => ?_⟩
  · have h := h.1 (e_2.mp c)
    refine zw_M_isChannel rfl (z_sub (z_v x1) zk_16) (fun r_3 h => ?_) h
    obtain ⟨g_4, h⟩ := h
    have e_5 := z_eq (z_v r_3) zk_0 g_4 (by decide)
    refine ⟨fun c => ?_, fun c => ?_⟩
    · have h := h.1 (e_5.mp c)
      exact z_r (P := post) zk_0 (hp _ h)
    · have h := h.2 (fun c9 => c (e_5.mpr c9))
      refine zw_M_nodeOf rfl (z_v x1) (fun r_6 h => ?_) h
      obtain ⟨g_7, h⟩ := h
      obtain ⟨g_8, h⟩ := h
      have e_9 := z_eq (z_v r_6) (z_v x2) g_7 g_8
      refine ⟨fun c => ?_, fun c => ?_⟩
      · have h := h.1 (fun c9 => c (e_9.mpr c9))
        exact z_r (P := post) zk_0 (hp _ h)
      · have h := h.2 (e_9.mp c)
        exact z_r (P := post) zk_1 (hp _ h)
  · have h := h.2 (fun c9 => c (e_2.mpr c9))
    obtain ⟨g_10, h⟩ := h
    obtain ⟨g_11, h⟩ := h
    have e_12 := z_eq (z_v x1) (z_v x2) g_10 g_11
    refine ⟨fun c => ?_, fun c => ?_⟩
    · have h := h.1 (fun c9 => c (e_12.mpr c9))
      exact z_r (P := post) zk_0 (hp _ h)
    · have h := h.2 (e_12.mp c)
      exact z_r (P := post) zk_1 (hp _ h)
set_option maxRecDepth 10000 in
theorem zwe_M_holds_40 (B : AA) (s : SS) (es : s = zS B) (x2 : Int) (t2 : Int32) (e2 : t2 = zI x2) {post : Int32 → Prop} {pz : Int → Prop} (hp : ∀ r, pz r → post (zI r)) (h : ze_M_holds_40 B x2 pz) : we_M_holds_40 s t2 post := by
  subst es; subst e2; rw [ze_M_holds_40] at h; rw [we_M_holds_40]
  obtain ⟨b9, h⟩ := h
  refine ⟨z_01 (z_v x2) b9, ?_⟩
  exact z_r (P := post) (z_v x2) (hp _ h)
set_option maxRecDepth 10000 in
theorem zwl_M_holds_4 (B : AA) (s : SS) (es : s = zS B) (x1 : Int) (t1 : Int32) (e1 : t1 = zI x1) {ex : Int32 → Int32 → Prop} {exz : Int → Int → Prop} (hE : ∀ (y2 : Int) (t2 : Int32), t2 = zI y2 → ∀ (y3 : Int) (t3 : Int32), t3 = zI y3 → exz y2 y3 → ex t2 t3) {post : Int32 → Prop} {pz : Int → Prop} (hp : ∀ r, pz r → post (zI r)) : ∀ k, ∀ (x2 : Int) (t2 : Int32), t2 = zI x2 → ∀ (x3 : Int) (t3 : Int32), t3 = zI x3 → zl_M_holds_4 B x1 exz pz k x2 x3 → wl_M_holds_4 s t1 ex post k t2 t3 := by
  subst es; subst e1; intro k
  induction k with
  | zero => intro x2 t2 e2 x3 t3 e3 h; rw [zl_M_holds_4] at h; exact h.elim
  | succ k ih =>
    intro x2 t2 e2 x3 t3 e3 h
    subst e2; subst e3; rw [zl_M_holds_4] at h; rw [wl_M_holds_4]
    obtain ⟨g_1, h⟩ := h
    obtain ⟨g_2, h⟩ := h
    have e_3 := z_le (z_mul zk_4 (z_f B 0 3)) (z_v x3) g_2 g_1
    refine ⟨fun c => ?_, fun c => ?_⟩
    · have h := h.1 (e_3.mp c)
      exact hE _ _ (z_v x2) _ _ (z_v x3) h
    · have h := h.2 (fun c9 => c (e_3.mpr c9))
      obtain ⟨g_4, h⟩ := h
      have e_5 := z_eq (z_v x2) zk_0 g_4 (by decide)
      refine ⟨fun c => ?_, fun c => ?_⟩
      · have h := h.1 (fun c9 => c (e_5.mpr c9))
        exact ih _ _ zk_1 _ _ (z_add (z_v x3) zk_1) h
      · have h := h.2 (e_5.mp c)
        obtain ⟨i_6, h⟩ := h
        refine ⟨z_in (z_v x3) i_6 (by decide), ?_⟩
        obtain ⟨g_7, h⟩ := h
        obtain ⟨g_8, h⟩ := h
        have e_9 := z_eq (z_a B 17 (z_v x3) (z_rg i_6 (by decide))) (z_v x1) g_7 g_8
        refine ⟨fun c => ?_, fun c => ?_⟩
        · have h := h.1 (fun c9 => c (e_9.mpr c9))
          exact ih _ _ zk_0 _ _ (z_add (z_v x3) zk_1) h
        · have h := h.2 (e_9.mp c)
          exact ih _ _ zk_1 _ _ (z_add (z_v x3) zk_1) h
set_option maxRecDepth 10000 in
theorem zw_M_holds {B : AA} {s : SS} {x1 : Int} {t1 : Int32} (es : s = zS B) (e1 : t1 = zI x1) {post : Int32 → Prop} {pz : Int → Prop} (hp : ∀ r, pz r → post (zI r)) (h : zp_M_holds B x1 pz) : wp_M_holds s t1 post := by
  subst es; subst e1; rw [zp_M_holds] at h; rw [wp_M_holds]
  obtain ⟨j9, h⟩ := h
  exact ⟨j9, zwl_M_holds_4 _ _ rfl _ _ (z_v x1) (fun y2_10 t2_10 e2_10 y3_10 t3_10 e3_10 h => zwe_M_holds_40 _ _ rfl _ _ e2_10 hp h) hp j9 _ _ zk_0 _ _ zk_0 h⟩
set_option maxRecDepth 10000 in
theorem zw_M_wanted {B : AA} {s : SS} {x1 : Int} {t1 : Int32} (es : s = zS B) (e1 : t1 = zI x1) {post : Int32 → Prop} {pz : Int → Prop} (hp : ∀ r, pz r → post (zI r)) (h : zp_M_wanted B x1 pz) : wp_M_wanted s t1 post := by
  subst es; subst e1; rw [zp_M_wanted] at h; rw [wp_M_wanted]
  refine zw_M_front rfl (z_v x1) (fun r_1 h => ?_) h
  refine zw_M_nodeOf rfl (z_v x1) (fun r_2 h => ?_) h
  obtain ⟨g_3, h⟩ := h
  have e_4 := z_lt (z_v r_1) zk_0 g_3 (by decide)
  refine ⟨fun c => ?_, fun c => ?_⟩
  · have h := h.1 (e_4.mp c)
    exact z_r (P := post) zk_m1 (hp _ h)
  · have h := h.2 (fun c9 => c (e_4.mpr c9))
    obtain ⟨n_5, h⟩ := h
    obtain ⟨g_6, h⟩ := h
    have e_7 := z_lt zk_0 (z_rem (z_v r_1) zk_16 n_5 (by decide)) (by decide) g_6
    refine ⟨fun c => ?_, fun c => ?_⟩
    · have h := h.1 (e_7.mp c)
      exact z_r (P := post) zk_m1 (hp _ h)
    · have h := h.2 (fun c9 => c (e_7.mpr c9))
      obtain ⟨n_8, h⟩ := h
      obtain ⟨i_9, h⟩ := h
      refine ⟨z_in (z_div (z_v r_1) zk_16 n_8 (by decide)) i_9 (by decide), ?_⟩
      obtain ⟨g_10, h⟩ := h
      obtain ⟨g_11, h⟩ := h
      have e_12 := z_eq (z_a B 8 (z_div (z_v r_1) zk_16 n_8 (by decide)) (z_rg i_9 (by decide))) (z_v r_2) g_10 g_11
      refine ⟨fun c => ?_, fun c => ?_⟩
      · have h := h.1 (e_12.mp c)
        exact z_r (P := post) zk_m1 (hp _ h)
      · have h := h.2 (fun c9 => c (e_12.mpr c9))
        refine zw_M_holds rfl (z_v x1) (fun r_13 h => ?_) h
        obtain ⟨g_14, h⟩ := h
        have e_15 := z_eq (z_v r_13) zk_0 g_14 (by decide)
        refine ⟨fun c => ?_, fun c => ?_⟩
        · have h := h.1 (e_15.mp c)
          obtain ⟨n_16, h⟩ := h
          obtain ⟨i_17, h⟩ := h
          refine ⟨z_in (z_div (z_v r_1) zk_16 n_16 (by decide)) i_17 (by decide), ?_⟩
          obtain ⟨i_18, h⟩ := h
          refine ⟨z_in (z_add (z_mul zk_16 (z_v r_2)) (z_a B 8 (z_div (z_v r_1) zk_16 n_16 (by decide)) (z_rg i_17 (by decide)))) i_18 (by decide), ?_⟩
          intro t_19 et_19
          obtain ⟨v_19, ev_19⟩ : ∃ w : Int, w = B 6 ((16 * r_2) + (B 8 (r_1 / 16).toNat)).toNat := ⟨_, rfl⟩
          have h := h v_19 ev_19
          have et_19 : t_19 = zI v_19 := by rw [ev_19]; exact et_19.trans (z_a B 6 (z_add (z_mul zk_16 (z_v r_2)) (z_a B 8 (z_div (z_v r_1) zk_16 n_16 (by decide)) (z_rg i_17 (by decide)))) (z_rg i_18 (by decide)))
          subst et_19
          obtain ⟨g_20, h⟩ := h
          have e_21 := z_lt (z_v v_19) zk_0 g_20 (by decide)
          refine ⟨fun c => ?_, fun c => ?_⟩
          · have h := h.1 (e_21.mp c)
            exact z_r (P := post) zk_m1 (hp _ h)
          · have h := h.2 (fun c9 => c (e_21.mpr c9))
            obtain ⟨n_22, h⟩ := h
            obtain ⟨i_23, h⟩ := h
            refine ⟨z_in (z_div (z_v v_19) zk_4 n_22 (by decide)) i_23 (by decide), ?_⟩
            obtain ⟨g_24, h⟩ := h
            have e_25 := z_eq (z_a B 4 (z_div (z_v v_19) zk_4 n_22 (by decide)) (z_rg i_23 (by decide))) zk_0 g_24 (by decide)
            refine ⟨fun c => ?_, fun c => ?_⟩
            · have h := h.1 (fun c9 => c (e_25.mpr c9))
              exact z_r (P := post) zk_m1 (hp _ h)
            · have h := h.2 (e_25.mp c)
              obtain ⟨i_26, h⟩ := h
              refine ⟨z_in (z_v v_19) i_26 (by decide), ?_⟩
              obtain ⟨g_27, h⟩ := h
              have e_28 := z_eq (z_a B 17 (z_v v_19) (z_rg i_26 (by decide))) zk_m1 g_27 (by decide)
              refine ⟨fun c => ?_, fun c => ?_⟩
              · have h := h.1 (fun c9 => c (e_28.mpr c9))
                exact z_r (P := post) zk_m1 (hp _ h)
              · have h := h.2 (e_28.mp c)
                exact z_r (P := post) (z_v v_19) (hp _ h)
        · have h := h.2 (fun c9 => c (e_15.mpr c9))
          exact z_r (P := post) zk_m1 (hp _ h)
set_option maxRecDepth 10000 in
theorem zwe_M_ask_81 (B : AA) (s : SS) (es : s = zS B) {post : SS → Prop} {pz : AA → Prop} (hp : ∀ S, pz S → post (zS S)) (h : ze_M_ask_81 B pz) : we_M_ask_81 s post := by
  subst es; rw [ze_M_ask_81] at h; rw [we_M_ask_81]
  exact hp _ h
set_option maxRecDepth 10000 in
theorem zwe_M_ask_75 (B : AA) (s : SS) (es : s = zS B) (x1 : Int) (t1 : Int32) (e1 : t1 = zI x1) {ag : SS → Int32 → Prop} {agz : AA → Int → Prop} (hA : ∀ S s, s = zS S → ∀ (y1 : Int) (t1 : Int32), t1 = zI y1 → agz S y1 → ag s t1) {ex : SS → Int32 → Prop} {exz : AA → Int → Prop} (hE : ∀ S s, s = zS S → ∀ (y1 : Int) (t1 : Int32), t1 = zI y1 → exz S y1 → ex s t1) {post : SS → Prop} {pz : AA → Prop} (hp : ∀ S, pz S → post (zS S)) (h : ze_M_ask_75 B x1 agz exz pz) : we_M_ask_75 s t1 ag ex post := by
  subst es; subst e1; rw [ze_M_ask_75] at h; rw [we_M_ask_75]
  exact hA _ _ rfl _ _ (z_add (z_v x1) zk_1) h
set_option maxRecDepth 10000 in
theorem zwl_M_ask_12  (x1 : Int) (t1 : Int32) (e1 : t1 = zI x1) {ex : SS → Int32 → Prop} {exz : AA → Int → Prop} (hE : ∀ S s, s = zS S → ∀ (y2 : Int) (t2 : Int32), t2 = zI y2 → exz S y2 → ex s t2) {post : SS → Prop} {pz : AA → Prop} (hp : ∀ S, pz S → post (zS S)) : ∀ k, ∀ B s, s = zS B → ∀ (x2 : Int) (t2 : Int32), t2 = zI x2 → zl_M_ask_12 x1 exz pz k B x2 → wl_M_ask_12 t1 ex post k s t2 := by
  subst e1; intro k
  induction k with
  | zero => intro B s es x2 t2 e2 h; rw [zl_M_ask_12] at h; exact h.elim
  | succ k ih =>
    intro B s es x2 t2 e2 h
    subst es; subst e2; rw [zl_M_ask_12] at h; rw [wl_M_ask_12]
    obtain ⟨g_4, h⟩ := h
    obtain ⟨g_5, h⟩ := h
    have e_6 := z_le (z_add zk_16 (z_mul zk_4 (z_f B 0 3))) (z_v x2) g_5 g_4
    refine ⟨fun c => ?_, fun c => ?_⟩
    · have h := h.1 (e_6.mp c)
      exact hE _ _ rfl _ _ (z_v x2) h
    · have h := h.2 (fun c9 => c (e_6.mpr c9))
      refine zw_M_isInput rfl (z_v x2) (z_v x1) (fun r_7 h => ?_) h
      obtain ⟨g_8, h⟩ := h
      have e_9 := z_eq (z_v r_7) zk_0 g_8 (by decide)
      refine ⟨fun c => ?_, fun c => ?_⟩
      · have h := h.1 (e_9.mp c)
        exact ih _ _ rfl _ _ (z_add (z_v x2) zk_1) h
      · have h := h.2 (fun c9 => c (e_9.mpr c9))
        refine zw_M_wanted rfl (z_v x2) (fun r_10 h => ?_) h
        obtain ⟨g_11, h⟩ := h
        have e_12 := z_lt (z_v r_10) zk_0 g_11 (by decide)
        refine ⟨fun c => ?_, fun c => ?_⟩
        · have h := h.1 (e_12.mp c)
          exact ih _ _ rfl _ _ (z_add (z_v x2) zk_1) h
        · have h := h.2 (fun c9 => c (e_12.mpr c9))
          obtain ⟨i_13, h⟩ := h
          refine ⟨z_in (z_v r_10) i_13 (by decide), ?_⟩
          intro s_14 es_14
          obtain ⟨S_14, eS_14⟩ : ∃ w : AA, w = zU B 17 r_10.toNat x2 := ⟨_, rfl⟩
          have h := h S_14 eS_14
          have es_14 : s_14 = zS S_14 := by rw [eS_14]; exact es_14.trans (z_ua B 17 (z_v r_10) (z_rg i_13 (by decide)) (z_v x2))
          subst es_14
          refine zw_M_front rfl (z_v x2) (fun r_15 h => ?_) h
          obtain ⟨n_16, h⟩ := h
          obtain ⟨i_17, h⟩ := h
          refine ⟨z_in (z_v r_10) i_17 (by decide), ?_⟩
          intro s_18 es_18
          obtain ⟨S_18, eS_18⟩ : ∃ w : AA, w = zU S_14 18 r_10.toNat (r_15 / 16) := ⟨_, rfl⟩
          have h := h S_18 eS_18
          have es_18 : s_18 = zS S_18 := by rw [eS_18]; exact es_18.trans (z_ua S_14 18 (z_v r_10) (z_rg i_17 (by decide)) (z_div (z_v r_15) zk_16 n_16 (by decide)))
          subst es_18
          exact ih _ _ rfl _ _ (z_add (z_v x2) zk_1) h
set_option maxRecDepth 10000 in
theorem zwl_M_ask_2  {ex : SS → Int32 → Prop} {exz : AA → Int → Prop} (hE : ∀ S s, s = zS S → ∀ (y1 : Int) (t1 : Int32), t1 = zI y1 → exz S y1 → ex s t1) {post : SS → Prop} {pz : AA → Prop} (hp : ∀ S, pz S → post (zS S)) : ∀ k, ∀ B s, s = zS B → ∀ (x1 : Int) (t1 : Int32), t1 = zI x1 → zl_M_ask_2 exz pz k B x1 → wl_M_ask_2 ex post k s t1 := by
  intro k
  induction k with
  | zero => intro B s es x1 t1 e1 h; rw [zl_M_ask_2] at h; exact h.elim
  | succ k ih =>
    intro B s es x1 t1 e1 h
    subst es; subst e1; rw [zl_M_ask_2] at h; rw [wl_M_ask_2]
    obtain ⟨g_1, h⟩ := h
    obtain ⟨g_2, h⟩ := h
    have e_3 := z_le (z_f B 0 2) (z_v x1) g_2 g_1
    refine ⟨fun c => ?_, fun c => ?_⟩
    · have h := h.1 (e_3.mp c)
      exact hE _ _ rfl _ _ (z_v x1) h
    · have h := h.2 (fun c9 => c (e_3.mpr c9))
      obtain ⟨j9, h⟩ := h
      exact ⟨j9, zwl_M_ask_12 _ _ (z_v x1) (fun S19 s19 es19 y2_19 t2_19 e2_19 h => zwe_M_ask_75 _ _ es19 _ _ (z_v x1) ih hE hp h) hp j9 _ _ rfl _ _ zk_0 h⟩
set_option maxRecDepth 10000 in
theorem zw_M_ask {B : AA} {s : SS} (es : s = zS B) {post : SS → Prop} {pz : AA → Prop} (hp : ∀ S, pz S → post (zS S)) (h : zp_M_ask B pz) : wp_M_ask s post := by
  subst es; rw [zp_M_ask] at h; rw [wp_M_ask]
  obtain ⟨j9, h⟩ := h
  exact ⟨j9, zwl_M_ask_2 (fun S20 s20 es20 y1_20 t1_20 e1_20 h => zwe_M_ask_81 _ _ es20 hp h) hp j9 _ _ rfl _ _ zk_0 h⟩
set_option maxRecDepth 10000 in
theorem zwe_M_mover_72 (B : AA) (s : SS) (es : s = zS B) {post : Int32 → Prop} {pz : Int → Prop} (hp : ∀ r, pz r → post (zI r)) (h : ze_M_mover_72 B pz) : we_M_mover_72 s post := by
  subst es; rw [ze_M_mover_72] at h; rw [we_M_mover_72]
  exact z_r (P := post) zk_m1 (hp _ h)
set_option maxRecDepth 10000 in
theorem zwl_M_mover_2 (B : AA) (s : SS) (es : s = zS B) (x1 : Int) (t1 : Int32) (e1 : t1 = zI x1) {ex : Int32 → Prop} {exz : Int → Prop} (hE : ∀ (y2 : Int) (t2 : Int32), t2 = zI y2 → exz y2 → ex t2) {post : Int32 → Prop} {pz : Int → Prop} (hp : ∀ r, pz r → post (zI r)) : ∀ k, ∀ (x2 : Int) (t2 : Int32), t2 = zI x2 → zl_M_mover_2 B x1 exz pz k x2 → wl_M_mover_2 s t1 ex post k t2 := by
  subst es; subst e1; intro k
  induction k with
  | zero => intro x2 t2 e2 h; rw [zl_M_mover_2] at h; exact h.elim
  | succ k ih =>
    intro x2 t2 e2 h
    subst e2; rw [zl_M_mover_2] at h; rw [wl_M_mover_2]
    obtain ⟨g_1, h⟩ := h
    have e_2 := z_lt zk_4 (z_v x2) (by decide) g_1
    refine ⟨fun c => ?_, fun c => ?_⟩
    · have h := h.1 (e_2.mp c)
      exact hE _ _ (z_v x2) h
    · have h := h.2 (fun c9 => c (e_2.mpr c9))
      obtain ⟨i_3, h⟩ := h
      refine ⟨z_in (z_v x1) i_3 (by decide), ?_⟩
      obtain ⟨n_4, h⟩ := h
      intro t_5 et_5
      obtain ⟨v_5, ev_5⟩ : ∃ w : Int, w = (4 * x1) + ((((B 5 x1.toNat) + x2) + 4) % 4) := ⟨_, rfl⟩
      have h := h v_5 ev_5
      have et_5 : t_5 = zI v_5 := by rw [ev_5]; exact et_5.trans (z_add (z_mul zk_4 (z_v x1)) (z_rem (z_add (z_add (z_a B 5 (z_v x1) (z_rg i_3 (by decide))) (z_v x2)) zk_4) zk_4 n_4 (by decide)))
      subst et_5
      refine zw_M_isChannel rfl (z_v v_5) (fun r_6 h => ?_) h
      obtain ⟨g_7, h⟩ := h
      have e_8 := z_eq (z_v r_6) zk_0 g_7 (by decide)
      refine ⟨fun c => ?_, fun c => ?_⟩
      · have h := h.1 (e_8.mp c)
        exact ih _ _ (z_add (z_v x2) zk_1) h
      · have h := h.2 (fun c9 => c (e_8.mpr c9))
        obtain ⟨i_9, h⟩ := h
        refine ⟨z_in (z_v v_5) i_9 (by decide), ?_⟩
        obtain ⟨g_10, h⟩ := h
        have e_11 := z_lt (z_a B 17 (z_v v_5) (z_rg i_9 (by decide))) zk_0 g_10 (by decide)
        refine ⟨fun c => ?_, fun c => ?_⟩
        · have h := h.1 (e_11.mp c)
          exact ih _ _ (z_add (z_v x2) zk_1) h
        · have h := h.2 (fun c9 => c (e_11.mpr c9))
          obtain ⟨i_12, h⟩ := h
          refine ⟨z_in (z_v v_5) i_12 (by decide), ?_⟩
          refine zw_M_front rfl (z_a B 17 (z_v v_5) (z_rg i_12 (by decide))) (fun r_13 h => ?_) h
          obtain ⟨g_14, h⟩ := h
          have e_15 := z_lt (z_v r_13) zk_0 g_14 (by decide)
          refine ⟨fun c => ?_, fun c => ?_⟩
          · have h := h.1 (e_15.mp c)
            exact ih _ _ (z_add (z_v x2) zk_1) h
          · have h := h.2 (fun c9 => c (e_15.mpr c9))
            obtain ⟨i_16, h⟩ := h
            refine ⟨z_in (z_v v_5) i_16 (by decide), ?_⟩
            obtain ⟨g_17, h⟩ := h
            have e_18 := z_le zk_4 (z_a B 13 (z_v v_5) (z_rg i_16 (by decide))) (by decide) g_17
            refine ⟨fun c => ?_, fun c => ?_⟩
            · have h := h.1 (e_18.mp c)
              exact ih _ _ (z_add (z_v x2) zk_1) h
            · have h := h.2 (fun c9 => c (e_18.mpr c9))
              exact z_r (P := post) (z_v v_5) (hp _ h)
set_option maxRecDepth 10000 in
theorem zw_M_mover {B : AA} {s : SS} {x1 : Int} {t1 : Int32} (es : s = zS B) (e1 : t1 = zI x1) {post : Int32 → Prop} {pz : Int → Prop} (hp : ∀ r, pz r → post (zI r)) (h : zp_M_mover B x1 pz) : wp_M_mover s t1 post := by
  subst es; subst e1; rw [zp_M_mover] at h; rw [wp_M_mover]
  obtain ⟨j9, h⟩ := h
  exact ⟨j9, zwl_M_mover_2 _ _ rfl _ _ (z_v x1) (fun y2_19 t2_19 e2_19 h => zwe_M_mover_72 _ _ rfl hp h) hp j9 _ _ zk_1 h⟩
set_option maxRecDepth 10000 in
theorem zw_M_move {B : AA} {s : SS} {x1 : Int} {t1 : Int32} (es : s = zS B) (e1 : t1 = zI x1) {post : SS → Prop} {pz : AA → Prop} (hp : ∀ S, pz S → post (zS S)) (h : zp_M_move B x1 pz) : wp_M_move s t1 post := by
  subst es; subst e1; rw [zp_M_move] at h; rw [wp_M_move]
  refine zw_M_mover rfl (z_v x1) (fun r_1 h => ?_) h
  obtain ⟨g_2, h⟩ := h
  have e_3 := z_le zk_0 (z_v r_1) (by decide) g_2
  refine ⟨fun c => ?_, fun c => ?_⟩
  · have h := h.1 (e_3.mp c)
    obtain ⟨i_4, h⟩ := h
    refine ⟨z_in (z_v r_1) i_4 (by decide), ?_⟩
    refine zw_M_front rfl (z_a B 17 (z_v r_1) (z_rg i_4 (by decide))) (fun r_5 h => ?_) h
    obtain ⟨i_6, h⟩ := h
    refine ⟨z_in (z_v r_1) i_6 (by decide), ?_⟩
    refine zw_M_take rfl (z_a B 17 (z_v r_1) (z_rg i_6 (by decide))) (z_v r_5) (fun S_7 h => ?_) h
    obtain ⟨i_8, h⟩ := h
    refine ⟨z_in (z_v r_1) i_8 (by decide), ?_⟩
    obtain ⟨i_9, h⟩ := h
    refine ⟨z_in (z_add (z_mul zk_4 (z_v r_1)) (z_a S_7 13 (z_v r_1) (z_rg i_8 (by decide)))) i_9 (by decide), ?_⟩
    intro s_10 es_10
    obtain ⟨S_10, eS_10⟩ : ∃ w : AA, w = zU S_7 14 ((4 * r_1) + (S_7 13 r_1.toNat)).toNat r_5 := ⟨_, rfl⟩
    have h := h S_10 eS_10
    have es_10 : s_10 = zS S_10 := by rw [eS_10]; exact es_10.trans (z_ua S_7 14 (z_add (z_mul zk_4 (z_v r_1)) (z_a S_7 13 (z_v r_1) (z_rg i_8 (by decide)))) (z_rg i_9 (by decide)) (z_v r_5))
    subst es_10
    obtain ⟨i_11, h⟩ := h
    refine ⟨z_in (z_v r_1) i_11 (by decide), ?_⟩
    obtain ⟨i_12, h⟩ := h
    refine ⟨z_in (z_add (z_mul zk_4 (z_v r_1)) (z_a S_10 13 (z_v r_1) (z_rg i_11 (by decide)))) i_12 (by decide), ?_⟩
    intro s_13 es_13
    obtain ⟨S_13, eS_13⟩ : ∃ w : AA, w = zU S_10 15 ((4 * r_1) + (S_10 13 r_1.toNat)).toNat (S_10 0 5) := ⟨_, rfl⟩
    have h := h S_13 eS_13
    have es_13 : s_13 = zS S_13 := by rw [eS_13]; exact es_13.trans (z_ua S_10 15 (z_add (z_mul zk_4 (z_v r_1)) (z_a S_10 13 (z_v r_1) (z_rg i_11 (by decide)))) (z_rg i_12 (by decide)) (z_f S_10 0 5))
    subst es_13
    obtain ⟨i_14, h⟩ := h
    refine ⟨z_in (z_v r_1) i_14 (by decide), ?_⟩
    obtain ⟨i_15, h⟩ := h
    refine ⟨z_in (z_v r_1) i_15 (by decide), ?_⟩
    intro s_16 es_16
    obtain ⟨S_16, eS_16⟩ : ∃ w : AA, w = zU S_13 13 r_1.toNat ((S_13 13 r_1.toNat) + 1) := ⟨_, rfl⟩
    have h := h S_16 eS_16
    have es_16 : s_16 = zS S_16 := by rw [eS_16]; exact es_16.trans (z_ua S_13 13 (z_v r_1) (z_rg i_15 (by decide)) (z_add (z_a S_13 13 (z_v r_1) (z_rg i_14 (by decide))) zk_1))
    subst es_16
    intro s_17 es_17
    obtain ⟨S_17, eS_17⟩ : ∃ w : AA, w = zU S_16 0 6 ((S_16 0 6) + 1) := ⟨_, rfl⟩
    have h := h S_17 eS_17
    have es_17 : s_17 = zS S_17 := by rw [eS_17]; exact es_17.trans (z_uf S_16 0 6 (z_add (z_f S_16 0 6) zk_1))
    subst es_17
    obtain ⟨i_18, h⟩ := h
    refine ⟨z_in (z_v r_1) i_18 (by decide), ?_⟩
    obtain ⟨i_19, h⟩ := h
    refine ⟨z_in (z_v r_1) i_19 (by decide), ?_⟩
    intro s_20 es_20
    obtain ⟨S_20, eS_20⟩ : ∃ w : AA, w = zU S_17 16 r_1.toNat ((S_17 16 r_1.toNat) + 1) := ⟨_, rfl⟩
    have h := h S_20 eS_20
    have es_20 : s_20 = zS S_20 := by rw [eS_20]; exact es_20.trans (z_ua S_17 16 (z_v r_1) (z_rg i_19 (by decide)) (z_add (z_a S_17 16 (z_v r_1) (z_rg i_18 (by decide))) zk_1))
    subst es_20
    obtain ⟨n_21, h⟩ := h
    obtain ⟨i_22, h⟩ := h
    refine ⟨z_in (z_v x1) i_22 (by decide), ?_⟩
    intro s_23 es_23
    obtain ⟨S_23, eS_23⟩ : ∃ w : AA, w = zU S_20 5 x1.toNat (r_1 % 4) := ⟨_, rfl⟩
    have h := h S_23 eS_23
    have es_23 : s_23 = zS S_23 := by rw [eS_23]; exact es_23.trans (z_ua S_20 5 (z_v x1) (z_rg i_22 (by decide)) (z_rem (z_v r_1) zk_4 n_21 (by decide)))
    subst es_23
    obtain ⟨n_24, h⟩ := h
    obtain ⟨n_25, h⟩ := h
    obtain ⟨i_26, h⟩ := h
    refine ⟨z_in (z_div (z_v r_5) zk_16 n_25 (by decide)) i_26 (by decide), ?_⟩
    obtain ⟨g_27, h⟩ := h
    obtain ⟨g_28, h⟩ := h
    have e_29 := z_eq (z_rem (z_v r_5) zk_16 n_24 (by decide)) (z_sub (z_a S_23 9 (z_div (z_v r_5) zk_16 n_25 (by decide)) (z_rg i_26 (by decide))) zk_1) g_27 g_28
    refine ⟨fun c => ?_, fun c => ?_⟩
    · have h := h.1 (fun c9 => c (e_29.mpr c9))
      exact hp _ h
    · have h := h.2 (e_29.mp c)
      obtain ⟨i_30, h⟩ := h
      refine ⟨z_in (z_v r_1) i_30 (by decide), ?_⟩
      intro s_31 es_31
      obtain ⟨S_31, eS_31⟩ : ∃ w : AA, w = zU S_23 17 r_1.toNat (-1) := ⟨_, rfl⟩
      have h := h S_31 eS_31
      have es_31 : s_31 = zS S_31 := by rw [eS_31]; exact es_31.trans (z_ua S_23 17 (z_v r_1) (z_rg i_30 (by decide)) zk_m1)
      subst es_31
      obtain ⟨i_32, h⟩ := h
      refine ⟨z_in (z_v r_1) i_32 (by decide), ?_⟩
      intro s_33 es_33
      obtain ⟨S_33, eS_33⟩ : ∃ w : AA, w = zU S_31 18 r_1.toNat (-1) := ⟨_, rfl⟩
      have h := h S_33 eS_33
      have es_33 : s_33 = zS S_33 := by rw [eS_33]; exact es_33.trans (z_ua S_31 18 (z_v r_1) (z_rg i_32 (by decide)) zk_m1)
      subst es_33
      exact hp _ h
  · have h := h.2 (fun c9 => c (e_3.mpr c9))
    exact hp _ h
set_option maxRecDepth 10000 in
theorem zw_M_leave {B : AA} {s : SS} {x1 : Int} {t1 : Int32} {x2 : Int} {t2 : Int32} (es : s = zS B) (e1 : t1 = zI x1) (e2 : t2 = zI x2) {post : SS → Prop} {pz : AA → Prop} (hp : ∀ S, pz S → post (zS S)) (h : zp_M_leave B x1 x2 pz) : wp_M_leave s t1 t2 post := by
  subst es; subst e1; subst e2; rw [zp_M_leave] at h; rw [wp_M_leave]
  refine zw_M_front rfl (z_v x1) (fun r_1 h => ?_) h
  obtain ⟨g_2, h⟩ := h
  have e_3 := z_lt (z_v r_1) zk_0 g_2 (by decide)
  refine ⟨fun c => ?_, fun c => ?_⟩
  · have h := h.1 (e_3.mp c)
    exact hp _ h
  · have h := h.2 (fun c9 => c (e_3.mpr c9))
    obtain ⟨n_4, h⟩ := h
    obtain ⟨i_5, h⟩ := h
    refine ⟨z_in (z_div (z_v r_1) zk_16 n_4 (by decide)) i_5 (by decide), ?_⟩
    obtain ⟨g_6, h⟩ := h
    obtain ⟨g_7, h⟩ := h
    have e_8 := z_eq (z_a B 8 (z_div (z_v r_1) zk_16 n_4 (by decide)) (z_rg i_5 (by decide))) (z_v x2) g_6 g_7
    refine ⟨fun c => ?_, fun c => ?_⟩
    · have h := h.1 (e_8.mp c)
      refine zw_M_take rfl (z_v x1) (z_v r_1) (fun S_9 h => ?_) h
      obtain ⟨n_10, h⟩ := h
      obtain ⟨i_11, h⟩ := h
      refine ⟨z_in (z_div (z_v r_1) zk_16 n_10 (by decide)) i_11 (by decide), ?_⟩
      obtain ⟨i_12, h⟩ := h
      refine ⟨z_in (z_div (z_v r_1) zk_16 n_10 (by decide)) i_12 (by decide), ?_⟩
      intro s_13 es_13
      obtain ⟨S_13, eS_13⟩ : ∃ w : AA, w = zU S_9 11 (r_1 / 16).toNat ((S_9 11 (r_1 / 16).toNat) + 1) := ⟨_, rfl⟩
      have h := h S_13 eS_13
      have es_13 : s_13 = zS S_13 := by rw [eS_13]; exact es_13.trans (z_ua S_9 11 (z_div (z_v r_1) zk_16 n_10 (by decide)) (z_rg i_12 (by decide)) (z_add (z_a S_9 11 (z_div (z_v r_1) zk_16 n_10 (by decide)) (z_rg i_11 (by decide))) zk_1))
      subst es_13
      intro s_14 es_14
      obtain ⟨S_14, eS_14⟩ : ∃ w : AA, w = zU S_13 0 7 ((S_13 0 7) + 1) := ⟨_, rfl⟩
      have h := h S_14 eS_14
      have es_14 : s_14 = zS S_14 := by rw [eS_14]; exact es_14.trans (z_uf S_13 0 7 (z_add (z_f S_13 0 7) zk_1))
      subst es_14
      obtain ⟨n_15, h⟩ := h
      obtain ⟨n_16, h⟩ := h
      obtain ⟨i_17, h⟩ := h
      refine ⟨z_in (z_div (z_v r_1) zk_16 n_16 (by decide)) i_17 (by decide), ?_⟩
      obtain ⟨g_18, h⟩ := h
      obtain ⟨g_19, h⟩ := h
      have e_20 := z_eq (z_rem (z_v r_1) zk_16 n_15 (by decide)) (z_sub (z_a S_14 9 (z_div (z_v r_1) zk_16 n_16 (by decide)) (z_rg i_17 (by decide))) zk_1) g_18 g_19
      refine ⟨fun c => ?_, fun c => ?_⟩
      · have h := h.1 (fun c9 => c (e_20.mpr c9))
        exact hp _ h
      · have h := h.2 (e_20.mp c)
        obtain ⟨n_21, h⟩ := h
        obtain ⟨i_22, h⟩ := h
        refine ⟨z_in (z_div (z_v r_1) zk_16 n_21 (by decide)) i_22 (by decide), ?_⟩
        intro s_23 es_23
        obtain ⟨S_23, eS_23⟩ : ∃ w : AA, w = zU S_14 12 (r_1 / 16).toNat (S_14 0 5) := ⟨_, rfl⟩
        have h := h S_23 eS_23
        have es_23 : s_23 = zS S_23 := by rw [eS_23]; exact es_23.trans (z_ua S_14 12 (z_div (z_v r_1) zk_16 n_21 (by decide)) (z_rg i_22 (by decide)) (z_f S_14 0 5))
        subst es_23
        intro s_24 es_24
        obtain ⟨S_24, eS_24⟩ : ∃ w : AA, w = zU S_23 0 8 ((S_23 0 8) + 1) := ⟨_, rfl⟩
        have h := h S_24 eS_24
        have es_24 : s_24 = zS S_24 := by rw [eS_24]; exact es_24.trans (z_uf S_23 0 8 (z_add (z_f S_23 0 8) zk_1))
        subst es_24
        exact hp _ h
    · have h := h.2 (fun c9 => c (e_8.mpr c9))
      exact hp _ h
set_option maxRecDepth 10000 in
theorem zwe_M_step_87 (B : AA) (s : SS) (es : s = zS B) {post : SS → Prop} {pz : AA → Prop} (hp : ∀ S, pz S → post (zS S)) (h : ze_M_step_87 B pz) : we_M_step_87 s post := by
  subst es; rw [ze_M_step_87] at h; rw [we_M_step_87]
  exact hp _ h
set_option maxRecDepth 10000 in
theorem zwe_M_step_81 (B : AA) (s : SS) (es : s = zS B) (x1 : Int) (t1 : Int32) (e1 : t1 = zI x1) {ag : SS → Int32 → Prop} {agz : AA → Int → Prop} (hA : ∀ S s, s = zS S → ∀ (y1 : Int) (t1 : Int32), t1 = zI y1 → agz S y1 → ag s t1) {ex : SS → Int32 → Prop} {exz : AA → Int → Prop} (hE : ∀ S s, s = zS S → ∀ (y1 : Int) (t1 : Int32), t1 = zI y1 → exz S y1 → ex s t1) {post : SS → Prop} {pz : AA → Prop} (hp : ∀ S, pz S → post (zS S)) (h : ze_M_step_81 B x1 agz exz pz) : we_M_step_81 s t1 ag ex post := by
  subst es; subst e1; rw [ze_M_step_81] at h; rw [we_M_step_81]
  exact hA _ _ rfl _ _ (z_add (z_v x1) zk_1) h
set_option maxRecDepth 10000 in
theorem zwl_M_step_47  (x1 : Int) (t1 : Int32) (e1 : t1 = zI x1) {ex : SS → Int32 → Prop} {exz : AA → Int → Prop} (hE : ∀ S s, s = zS S → ∀ (y2 : Int) (t2 : Int32), t2 = zI y2 → exz S y2 → ex s t2) {post : SS → Prop} {pz : AA → Prop} (hp : ∀ S, pz S → post (zS S)) : ∀ k, ∀ B s, s = zS B → ∀ (x2 : Int) (t2 : Int32), t2 = zI x2 → zl_M_step_47 x1 exz pz k B x2 → wl_M_step_47 t1 ex post k s t2 := by
  subst e1; intro k
  induction k with
  | zero => intro B s es x2 t2 e2 h; rw [zl_M_step_47] at h; exact h.elim
  | succ k ih =>
    intro B s es x2 t2 e2 h
    subst es; subst e2; rw [zl_M_step_47] at h; rw [wl_M_step_47]
    obtain ⟨g_6, h⟩ := h
    obtain ⟨g_7, h⟩ := h
    have e_8 := z_le (z_add zk_16 (z_mul zk_4 (z_f B 0 3))) (z_v x2) g_7 g_6
    refine ⟨fun c => ?_, fun c => ?_⟩
    · have h := h.1 (e_8.mp c)
      exact hE _ _ rfl _ _ (z_v x2) h
    · have h := h.2 (fun c9 => c (e_8.mpr c9))
      refine zw_M_isInput rfl (z_v x2) (z_v x1) (fun r_9 h => ?_) h
      obtain ⟨g_10, h⟩ := h
      have e_11 := z_eq (z_v r_9) zk_0 g_10 (by decide)
      refine ⟨fun c => ?_, fun c => ?_⟩
      · have h := h.1 (e_11.mp c)
        exact ih _ _ rfl _ _ (z_add (z_v x2) zk_1) h
      · have h := h.2 (fun c9 => c (e_11.mpr c9))
        refine zw_M_leave rfl (z_v x2) (z_v x1) (fun S_12 h => ?_) h
        exact ih _ _ rfl _ _ (z_add (z_v x2) zk_1) h
set_option maxRecDepth 10000 in
theorem zwl_M_step_37  {ex : SS → Int32 → Prop} {exz : AA → Int → Prop} (hE : ∀ S s, s = zS S → ∀ (y1 : Int) (t1 : Int32), t1 = zI y1 → exz S y1 → ex s t1) {post : SS → Prop} {pz : AA → Prop} (hp : ∀ S, pz S → post (zS S)) : ∀ k, ∀ B s, s = zS B → ∀ (x1 : Int) (t1 : Int32), t1 = zI x1 → zl_M_step_37 exz pz k B x1 → wl_M_step_37 ex post k s t1 := by
  intro k
  induction k with
  | zero => intro B s es x1 t1 e1 h; rw [zl_M_step_37] at h; exact h.elim
  | succ k ih =>
    intro B s es x1 t1 e1 h
    subst es; subst e1; rw [zl_M_step_37] at h; rw [wl_M_step_37]
    obtain ⟨g_3, h⟩ := h
    obtain ⟨g_4, h⟩ := h
    have e_5 := z_le (z_f B 0 2) (z_v x1) g_4 g_3
    refine ⟨fun c => ?_, fun c => ?_⟩
    · have h := h.1 (e_5.mp c)
      exact hE _ _ rfl _ _ (z_v x1) h
    · have h := h.2 (fun c9 => c (e_5.mpr c9))
      obtain ⟨j9, h⟩ := h
      exact ⟨j9, zwl_M_step_47 _ _ (z_v x1) (fun S13 s13 es13 y2_13 t2_13 e2_13 h => zwe_M_step_81 _ _ es13 _ _ (z_v x1) ih hE hp h) hp j9 _ _ rfl _ _ zk_0 h⟩
set_option maxRecDepth 10000 in
theorem zwe_M_step_35 (B : AA) (s : SS) (es : s = zS B) {post : SS → Prop} {pz : AA → Prop} (hp : ∀ S, pz S → post (zS S)) (h : ze_M_step_35 B pz) : we_M_step_35 s post := by
  subst es; rw [ze_M_step_35] at h; rw [we_M_step_35]
  obtain ⟨j9, h⟩ := h
  exact ⟨j9, zwl_M_step_37 (fun S14 s14 es14 y1_14 t1_14 e1_14 h => zwe_M_step_87 _ _ es14 hp h) hp j9 _ _ rfl _ _ zk_0 h⟩
set_option maxRecDepth 10000 in
theorem zwl_M_step_16  {ex : SS → Int32 → Prop} {exz : AA → Int → Prop} (hE : ∀ S s, s = zS S → ∀ (y1 : Int) (t1 : Int32), t1 = zI y1 → exz S y1 → ex s t1) {post : SS → Prop} {pz : AA → Prop} (hp : ∀ S, pz S → post (zS S)) : ∀ k, ∀ B s, s = zS B → ∀ (x1 : Int) (t1 : Int32), t1 = zI x1 → zl_M_step_16 exz pz k B x1 → wl_M_step_16 ex post k s t1 := by
  intro k
  induction k with
  | zero => intro B s es x1 t1 e1 h; rw [zl_M_step_16] at h; exact h.elim
  | succ k ih =>
    intro B s es x1 t1 e1 h
    subst es; subst e1; rw [zl_M_step_16] at h; rw [wl_M_step_16]
    obtain ⟨g_15, h⟩ := h
    obtain ⟨g_16, h⟩ := h
    have e_17 := z_le (z_f B 0 3) (z_v x1) g_16 g_15
    refine ⟨fun c => ?_, fun c => ?_⟩
    · have h := h.1 (e_17.mp c)
      exact hE _ _ rfl _ _ (z_v x1) h
    · have h := h.2 (fun c9 => c (e_17.mpr c9))
      refine zw_M_move rfl (z_v x1) (fun S_18 h => ?_) h
      exact ih _ _ rfl _ _ (z_add (z_v x1) zk_1) h
set_option maxRecDepth 10000 in
theorem zw_M_step {B : AA} {s : SS} (es : s = zS B) {post : SS → Prop} {pz : AA → Prop} (hp : ∀ S, pz S → post (zS S)) (h : zp_M_step B pz) : wp_M_step s post := by
  subst es; rw [zp_M_step] at h; rw [wp_M_step]
  intro s_1 es_1
  obtain ⟨S_1, eS_1⟩ : ∃ w : AA, w = zU B 0 5 ((B 0 5) + 1) := ⟨_, rfl⟩
  have h := h S_1 eS_1
  have es_1 : s_1 = zS S_1 := by rw [eS_1]; exact es_1.trans (z_uf B 0 5 (z_add (z_f B 0 5) zk_1))
  subst es_1
  refine zw_M_ask rfl (fun S_2 h => ?_) h
  obtain ⟨j9, h⟩ := h
  exact ⟨j9, zwl_M_step_16 (fun S19 s19 es19 y1_19 t1_19 e1_19 h => zwe_M_step_35 _ _ es19 hp h) hp j9 _ _ rfl _ _ zk_0 h⟩
set_option maxRecDepth 10000 in
theorem zw_M_isEmpty {B : AA} {s : SS} (es : s = zS B) {post : Int32 → Prop} {pz : Int → Prop} (hp : ∀ r, pz r → post (zI r)) (h : zp_M_isEmpty B pz) : wp_M_isEmpty s post := by
  subst es; rw [zp_M_isEmpty] at h; rw [wp_M_isEmpty]
  obtain ⟨g_1, h⟩ := h
  obtain ⟨g_2, h⟩ := h
  have e_3 := z_eq (z_f B 0 8) (z_f B 0 4) g_1 g_2
  refine ⟨fun c => ?_, fun c => ?_⟩
  · have h := h.1 (fun c9 => c (e_3.mpr c9))
    exact z_r (P := post) zk_0 (hp _ h)
  · have h := h.2 (e_3.mp c)
    exact z_r (P := post) zk_1 (hp _ h)
set_option maxRecDepth 10000 in
theorem zwe_M_run_64 (B : AA) (s : SS) (es : s = zS B) (x2 : Int) (t2 : Int32) (e2 : t2 = zI x2) {post : Int32 → SS → Prop} {pz : Int → AA → Prop} (hp : ∀ r S, pz r S → post (zI r) (zS S)) (h : ze_M_run_64 B x2 pz) : we_M_run_64 s t2 post := by
  subst es; subst e2; rw [ze_M_run_64] at h; rw [we_M_run_64]
  exact z_r (P := fun r9 => post r9 (zS B)) (z_sub (z_f B 0 8) (z_v x2)) (hp _ _ h)
set_option maxRecDepth 10000 in
theorem zwl_M_run_29  (x1 : Int) (t1 : Int32) (e1 : t1 = zI x1) (x2 : Int) (t2 : Int32) (e2 : t2 = zI x2) {ex : SS → Int32 → Prop} {exz : AA → Int → Prop} (hE : ∀ S s, s = zS S → ∀ (y3 : Int) (t3 : Int32), t3 = zI y3 → exz S y3 → ex s t3) {post : Int32 → SS → Prop} {pz : Int → AA → Prop} (hp : ∀ r S, pz r S → post (zI r) (zS S)) : ∀ k, ∀ B s, s = zS B → ∀ (x3 : Int) (t3 : Int32), t3 = zI x3 → zl_M_run_29 x1 x2 exz pz k B x3 → wl_M_run_29 t1 t2 ex post k s t3 := by
  subst e1; subst e2; intro k
  induction k with
  | zero => intro B s es x3 t3 e3 h; rw [zl_M_run_29] at h; exact h.elim
  | succ k ih =>
    intro B s es x3 t3 e3 h
    subst es; subst e3; rw [zl_M_run_29] at h; rw [wl_M_run_29]
    obtain ⟨g_6, h⟩ := h
    obtain ⟨g_7, h⟩ := h
    have e_8 := z_le (z_v x1) (z_v x3) g_7 g_6
    refine ⟨fun c => ?_, fun c => ?_⟩
    · have h := h.1 (e_8.mp c)
      exact hE _ _ rfl _ _ (z_v x3) h
    · have h := h.2 (fun c9 => c (e_8.mpr c9))
      refine zw_M_isEmpty rfl (fun r_9 h => ?_) h
      obtain ⟨g_10, h⟩ := h
      have e_11 := z_eq (z_v r_9) zk_0 g_10 (by decide)
      refine ⟨fun c => ?_, fun c => ?_⟩
      · have h := h.1 (e_11.mp c)
        refine zw_M_step rfl (fun S_12 h => ?_) h
        exact ih _ _ rfl _ _ (z_add (z_v x3) zk_1) h
      · have h := h.2 (fun c9 => c (e_11.mpr c9))
        intro s_13 es_13
        obtain ⟨S_13, eS_13⟩ : ∃ w : AA, w = zU B 0 5 ((B 0 5) + 1) := ⟨_, rfl⟩
        have h := h S_13 eS_13
        have es_13 : s_13 = zS S_13 := by rw [eS_13]; exact es_13.trans (z_uf B 0 5 (z_add (z_f B 0 5) zk_1))
        subst es_13
        exact ih _ _ rfl _ _ (z_add (z_v x3) zk_1) h
set_option maxRecDepth 10000 in
theorem zw_M_run {B : AA} {s : SS} {x1 : Int} {t1 : Int32} (es : s = zS B) (e1 : t1 = zI x1) {post : Int32 → SS → Prop} {pz : Int → AA → Prop} (hp : ∀ r S, pz r S → post (zI r) (zS S)) (h : zp_M_run B x1 pz) : wp_M_run s t1 post := by
  subst es; subst e1; rw [zp_M_run] at h; rw [wp_M_run]
  intro s_1 es_1
  obtain ⟨S_1, eS_1⟩ : ∃ w : AA, w = zU B 0 0 0 := ⟨_, rfl⟩
  have h := h S_1 eS_1
  have es_1 : s_1 = zS S_1 := by rw [eS_1]; exact es_1.trans (z_uf B 0 0 zk_0)
  subst es_1
  refine zw_M_within rfl (z_v x1) zk_1 zk_2000 (fun r_2 h => ?_) h
  obtain ⟨g_3, h⟩ := h
  have e_4 := z_eq (z_v r_2) zk_0 g_3 (by decide)
  refine ⟨fun c => ?_, fun c => ?_⟩
  · have h := h.1 (fun c9 => c (e_4.mpr c9))
    intro t_5 et_5
    obtain ⟨v_5, ev_5⟩ : ∃ w : Int, w = S_1 0 8 := ⟨_, rfl⟩
    have h := h v_5 ev_5
    have et_5 : t_5 = zI v_5 := by rw [ev_5]; exact et_5.trans (z_f S_1 0 8)
    subst et_5
    obtain ⟨j9, h⟩ := h
    exact ⟨j9, zwl_M_run_29 _ _ (z_v x1) _ _ (z_v v_5) (fun S14 s14 es14 y3_14 t3_14 e3_14 h => zwe_M_run_64 _ _ es14 _ _ (z_v v_5) hp h) hp j9 _ _ rfl _ _ zk_0 h⟩
  · have h := h.2 (e_4.mp c)
    refine zw_M_wrong rfl zk_1 (fun r_15 S_15 h => ?_) h
    exact z_r (P := fun r9 => post r9 (zS S_15)) (z_v r_15) (hp _ _ h)
set_option maxRecDepth 10000 in
theorem zw_M_flitsIn {B : AA} {s : SS} {x1 : Int} {t1 : Int32} {x2 : Int} {t2 : Int32} (es : s = zS B) (e1 : t1 = zI x1) (e2 : t2 = zI x2) {post : Int32 → Prop} {pz : Int → Prop} (hp : ∀ r, pz r → post (zI r)) (h : zp_M_flitsIn B x1 x2 pz) : wp_M_flitsIn s t1 t2 post := by
  subst es; subst e1; subst e2; rw [zp_M_flitsIn] at h; rw [wp_M_flitsIn]
  obtain ⟨g_1, h⟩ := h
  have e_2 := z_eq (z_v x2) zk_1 g_1 (by decide)
  refine ⟨fun c => ?_, fun c => ?_⟩
  · have h := h.1 (fun c9 => c (e_2.mpr c9))
    obtain ⟨g_3, h⟩ := h
    have e_4 := z_eq (z_v x2) zk_2 g_3 (by decide)
    refine ⟨fun c => ?_, fun c => ?_⟩
    · have h := h.1 (fun c9 => c (e_4.mpr c9))
      obtain ⟨i_5, h⟩ := h
      refine ⟨z_in (z_v x1) i_5 (by decide), ?_⟩
      exact z_r (P := post) (z_a B 11 (z_v x1) (z_rg i_5 (by decide))) (hp _ h)
    · have h := h.2 (e_4.mp c)
      obtain ⟨i_6, h⟩ := h
      refine ⟨z_in (z_v x1) i_6 (by decide), ?_⟩
      obtain ⟨i_7, h⟩ := h
      refine ⟨z_in (z_v x1) i_7 (by decide), ?_⟩
      exact z_r (P := post) (z_sub (z_a B 10 (z_v x1) (z_rg i_6 (by decide))) (z_a B 11 (z_v x1) (z_rg i_7 (by decide)))) (hp _ h)
  · have h := h.2 (e_2.mp c)
    obtain ⟨i_8, h⟩ := h
    refine ⟨z_in (z_v x1) i_8 (by decide), ?_⟩
    obtain ⟨i_9, h⟩ := h
    refine ⟨z_in (z_v x1) i_9 (by decide), ?_⟩
    exact z_r (P := post) (z_sub (z_a B 9 (z_v x1) (z_rg i_8 (by decide))) (z_a B 10 (z_v x1) (z_rg i_9 (by decide)))) (hp _ h)
set_option maxRecDepth 10000 in
theorem zw_M_packet {B : AA} {s : SS} {x1 : Int} {t1 : Int32} {x2 : Int} {t2 : Int32} (es : s = zS B) (e1 : t1 = zI x1) (e2 : t2 = zI x2) {post : Int32 → SS → Prop} {pz : Int → AA → Prop} (hp : ∀ r S, pz r S → post (zI r) (zS S)) (h : zp_M_packet B x1 x2 pz) : wp_M_packet s t1 t2 post := by
  subst es; subst e1; subst e2; rw [zp_M_packet] at h; rw [wp_M_packet]
  intro s_1 es_1
  obtain ⟨S_1, eS_1⟩ : ∃ w : AA, w = zU B 0 0 0 := ⟨_, rfl⟩
  have h := h S_1 eS_1
  have es_1 : s_1 = zS S_1 := by rw [eS_1]; exact es_1.trans (z_uf B 0 0 zk_0)
  subst es_1
  refine zw_M_within rfl (z_v x1) zk_0 (z_sub (z_f S_1 0 4) zk_1) (fun r_2 h => ?_) h
  obtain ⟨g_3, h⟩ := h
  have e_4 := z_eq (z_v r_2) zk_0 g_3 (by decide)
  refine ⟨fun c => ?_, fun c => ?_⟩
  · have h := h.1 (e_4.mp c)
    refine zw_M_wrong rfl zk_1 (fun r_5 S_5 h => ?_) h
    exact z_r (P := fun r9 => post r9 (zS S_5)) (z_v r_5) (hp _ _ h)
  · have h := h.2 (fun c9 => c (e_4.mpr c9))
    refine zw_M_within rfl (z_v x2) zk_0 zk_3 (fun r_6 h => ?_) h
    obtain ⟨g_7, h⟩ := h
    have e_8 := z_eq (z_v r_6) zk_0 g_7 (by decide)
    refine ⟨fun c => ?_, fun c => ?_⟩
    · have h := h.1 (fun c9 => c (e_8.mpr c9))
      obtain ⟨g_9, h⟩ := h
      have e_10 := z_eq (z_v x2) zk_0 g_9 (by decide)
      refine ⟨fun c => ?_, fun c => ?_⟩
      · have h := h.1 (fun c9 => c (e_10.mpr c9))
        refine zw_M_flitsIn rfl (z_v x1) (z_v x2) (fun r_11 h => ?_) h
        exact z_r (P := fun r9 => post r9 (zS S_1)) (z_v r_11) (hp _ _ h)
      · have h := h.2 (e_10.mp c)
        obtain ⟨i_12, h⟩ := h
        refine ⟨z_in (z_v x1) i_12 (by decide), ?_⟩
        exact z_r (P := fun r9 => post r9 (zS S_1)) (z_a S_1 12 (z_v x1) (z_rg i_12 (by decide))) (hp _ _ h)
    · have h := h.2 (e_8.mp c)
      refine zw_M_wrong rfl zk_1 (fun r_13 S_13 h => ?_) h
      exact z_r (P := fun r9 => post r9 (zS S_13)) (z_v r_13) (hp _ _ h)
set_option maxRecDepth 10000 in
theorem zw_M_channel {B : AA} {s : SS} {x1 : Int} {t1 : Int32} {x2 : Int} {t2 : Int32} (es : s = zS B) (e1 : t1 = zI x1) (e2 : t2 = zI x2) {post : Int32 → SS → Prop} {pz : Int → AA → Prop} (hp : ∀ r S, pz r S → post (zI r) (zS S)) (h : zp_M_channel B x1 x2 pz) : wp_M_channel s t1 t2 post := by
  subst es; subst e1; subst e2; rw [zp_M_channel] at h; rw [wp_M_channel]
  intro s_1 es_1
  obtain ⟨S_1, eS_1⟩ : ∃ w : AA, w = zU B 0 0 0 := ⟨_, rfl⟩
  have h := h S_1 eS_1
  have es_1 : s_1 = zS S_1 := by rw [eS_1]; exact es_1.trans (z_uf B 0 0 zk_0)
  subst es_1
  refine zw_M_isChannel rfl (z_v x1) (fun r_2 h => ?_) h
  obtain ⟨g_3, h⟩ := h
  have e_4 := z_eq (z_v r_2) zk_0 g_3 (by decide)
  refine ⟨fun c => ?_, fun c => ?_⟩
  · have h := h.1 (e_4.mp c)
    refine zw_M_wrong rfl zk_1 (fun r_5 S_5 h => ?_) h
    exact z_r (P := fun r9 => post r9 (zS S_5)) (z_v r_5) (hp _ _ h)
  · have h := h.2 (fun c9 => c (e_4.mpr c9))
    refine zw_M_within rfl (z_v x2) zk_0 zk_3 (fun r_6 h => ?_) h
    obtain ⟨g_7, h⟩ := h
    have e_8 := z_eq (z_v r_6) zk_0 g_7 (by decide)
    refine ⟨fun c => ?_, fun c => ?_⟩
    · have h := h.1 (fun c9 => c (e_8.mpr c9))
      obtain ⟨g_9, h⟩ := h
      have e_10 := z_eq (z_v x2) zk_2 g_9 (by decide)
      refine ⟨fun c => ?_, fun c => ?_⟩
      · have h := h.1 (fun c9 => c (e_10.mpr c9))
        obtain ⟨g_11, h⟩ := h
        have e_12 := z_eq (z_v x2) zk_0 g_11 (by decide)
        refine ⟨fun c => ?_, fun c => ?_⟩
        · have h := h.1 (fun c9 => c (e_12.mpr c9))
          obtain ⟨g_13, h⟩ := h
          have e_14 := z_eq (z_v x2) zk_1 g_13 (by decide)
          refine ⟨fun c => ?_, fun c => ?_⟩
          · have h := h.1 (fun c9 => c (e_14.mpr c9))
            obtain ⟨i_15, h⟩ := h
            refine ⟨z_in (z_v x1) i_15 (by decide), ?_⟩
            exact z_r (P := fun r9 => post r9 (zS S_1)) (z_a S_1 16 (z_v x1) (z_rg i_15 (by decide))) (hp _ _ h)
          · have h := h.2 (e_14.mp c)
            obtain ⟨i_16, h⟩ := h
            refine ⟨z_in (z_v x1) i_16 (by decide), ?_⟩
            exact z_r (P := fun r9 => post r9 (zS S_1)) (z_a S_1 18 (z_v x1) (z_rg i_16 (by decide))) (hp _ _ h)
        · have h := h.2 (e_12.mp c)
          obtain ⟨i_17, h⟩ := h
          refine ⟨z_in (z_v x1) i_17 (by decide), ?_⟩
          exact z_r (P := fun r9 => post r9 (zS S_1)) (z_a S_1 13 (z_v x1) (z_rg i_17 (by decide))) (hp _ _ h)
      · have h := h.2 (e_10.mp c)
        obtain ⟨i_18, h⟩ := h
        refine ⟨z_in (z_v x1) i_18 (by decide), ?_⟩
        obtain ⟨g_19, h⟩ := h
        have e_20 := z_eq (z_a S_1 13 (z_v x1) (z_rg i_18 (by decide))) zk_0 g_19 (by decide)
        refine ⟨fun c => ?_, fun c => ?_⟩
        · have h := h.1 (fun c9 => c (e_20.mpr c9))
          obtain ⟨i_21, h⟩ := h
          refine ⟨z_in (z_mul zk_4 (z_v x1)) i_21 (by decide), ?_⟩
          obtain ⟨n_22, h⟩ := h
          exact z_r (P := fun r9 => post r9 (zS S_1)) (z_div (z_a S_1 14 (z_mul zk_4 (z_v x1)) (z_rg i_21 (by decide))) zk_16 n_22 (by decide)) (hp _ _ h)
        · have h := h.2 (e_20.mp c)
          exact z_r (P := fun r9 => post r9 (zS S_1)) zk_m1 (hp _ _ h)
    · have h := h.2 (e_8.mp c)
      refine zw_M_wrong rfl zk_1 (fun r_23 S_23 h => ?_) h
      exact z_r (P := fun r9 => post r9 (zS S_23)) (z_v r_23) (hp _ _ h)
set_option maxRecDepth 10000 in
theorem zwe_M_findLeads_136 (B : AA) (s : SS) (es : s = zS B) {post : SS → Prop} {pz : AA → Prop} (hp : ∀ S, pz S → post (zS S)) (h : ze_M_findLeads_136 B pz) : we_M_findLeads_136 s post := by
  subst es; rw [ze_M_findLeads_136] at h; rw [we_M_findLeads_136]
  exact hp _ h
set_option maxRecDepth 10000 in
theorem zwe_M_findLeads_130 (B : AA) (s : SS) (es : s = zS B) (x1 : Int) (t1 : Int32) (e1 : t1 = zI x1) {ag : SS → Int32 → Prop} {agz : AA → Int → Prop} (hA : ∀ S s, s = zS S → ∀ (y1 : Int) (t1 : Int32), t1 = zI y1 → agz S y1 → ag s t1) {ex : SS → Int32 → Prop} {exz : AA → Int → Prop} (hE : ∀ S s, s = zS S → ∀ (y1 : Int) (t1 : Int32), t1 = zI y1 → exz S y1 → ex s t1) {post : SS → Prop} {pz : AA → Prop} (hp : ∀ S, pz S → post (zS S)) (h : ze_M_findLeads_130 B x1 agz exz pz) : we_M_findLeads_130 s t1 ag ex post := by
  subst es; subst e1; rw [ze_M_findLeads_130] at h; rw [we_M_findLeads_130]
  exact hA _ _ rfl _ _ (z_add (z_v x1) zk_1) h
set_option maxRecDepth 10000 in
theorem zwl_M_findLeads_34  (x1 : Int) (t1 : Int32) (e1 : t1 = zI x1) {ex : SS → Int32 → Prop} {exz : AA → Int → Prop} (hE : ∀ S s, s = zS S → ∀ (y2 : Int) (t2 : Int32), t2 = zI y2 → exz S y2 → ex s t2) {post : SS → Prop} {pz : AA → Prop} (hp : ∀ S, pz S → post (zS S)) : ∀ k, ∀ B s, s = zS B → ∀ (x2 : Int) (t2 : Int32), t2 = zI x2 → zl_M_findLeads_34 x1 exz pz k B x2 → wl_M_findLeads_34 t1 ex post k s t2 := by
  subst e1; intro k
  induction k with
  | zero => intro B s es x2 t2 e2 h; rw [zl_M_findLeads_34] at h; exact h.elim
  | succ k ih =>
    intro B s es x2 t2 e2 h
    subst es; subst e2; rw [zl_M_findLeads_34] at h; rw [wl_M_findLeads_34]
    obtain ⟨g_4, h⟩ := h
    obtain ⟨g_5, h⟩ := h
    have e_6 := z_le (z_f B 0 2) (z_v x2) g_5 g_4
    refine ⟨fun c => ?_, fun c => ?_⟩
    · have h := h.1 (e_6.mp c)
      exact hE _ _ rfl _ _ (z_v x2) h
    · have h := h.2 (fun c9 => c (e_6.mpr c9))
      obtain ⟨g_7, h⟩ := h
      obtain ⟨g_8, h⟩ := h
      have e_9 := z_eq (z_v x2) (z_v x1) g_7 g_8
      refine ⟨fun c => ?_, fun c => ?_⟩
      · have h := h.1 (fun c9 => c (e_9.mpr c9))
        obtain ⟨i_10, h⟩ := h
        refine ⟨z_in (z_add (z_mul zk_16 (z_v x2)) (z_v x1)) i_10 (by decide), ?_⟩
        intro t_11 et_11
        obtain ⟨v_11, ev_11⟩ : ∃ w : Int, w = B 6 ((16 * x2) + x1).toNat := ⟨_, rfl⟩
        have h := h v_11 ev_11
        have et_11 : t_11 = zI v_11 := by rw [ev_11]; exact et_11.trans (z_a B 6 (z_add (z_mul zk_16 (z_v x2)) (z_v x1)) (z_rg i_10 (by decide)))
        subst et_11
        obtain ⟨g_12, h⟩ := h
        have e_13 := z_le zk_0 (z_v v_11) (by decide) g_12
        refine ⟨fun c => ?_, fun c => ?_⟩
        · have h := h.1 (e_13.mp c)
          obtain ⟨n_14, h⟩ := h
          obtain ⟨i_15, h⟩ := h
          refine ⟨z_in (z_div (z_v v_11) zk_4 n_14 (by decide)) i_15 (by decide), ?_⟩
          intro t_16 et_16
          obtain ⟨v_16, ev_16⟩ : ∃ w : Int, w = B 2 (v_11 / 4).toNat := ⟨_, rfl⟩
          have h := h v_16 ev_16
          have et_16 : t_16 = zI v_16 := by rw [ev_16]; exact et_16.trans (z_a B 2 (z_div (z_v v_11) zk_4 n_14 (by decide)) (z_rg i_15 (by decide)))
          subst et_16
          obtain ⟨g_17, h⟩ := h
          obtain ⟨g_18, h⟩ := h
          have e_19 := z_eq (z_v v_16) (z_v x1) g_17 g_18
          refine ⟨fun c => ?_, fun c => ?_⟩
          · have h := h.1 (fun c9 => c (e_19.mpr c9))
            obtain ⟨i_20, h⟩ := h
            refine ⟨z_in (z_add (z_mul zk_16 (z_v v_16)) (z_v x1)) i_20 (by decide), ?_⟩
            intro t_21 et_21
            obtain ⟨v_21, ev_21⟩ : ∃ w : Int, w = B 6 ((16 * v_16) + x1).toNat := ⟨_, rfl⟩
            have h := h v_21 ev_21
            have et_21 : t_21 = zI v_21 := by rw [ev_21]; exact et_21.trans (z_a B 6 (z_add (z_mul zk_16 (z_v v_16)) (z_v x1)) (z_rg i_20 (by decide)))
            subst et_21
            obtain ⟨g_22, h⟩ := h
            have e_23 := z_lt (z_v v_21) zk_0 g_22 (by decide)
            refine ⟨fun c => ?_, fun c => ?_⟩
            · have h := h.1 (e_23.mp c)
              exact ih _ _ rfl _ _ (z_add (z_v x2) zk_1) h
            · have h := h.2 (fun c9 => c (e_23.mpr c9))
              obtain ⟨i_24, h⟩ := h
              refine ⟨z_in (z_add (z_mul zk_160 (z_v v_11)) (z_v v_21)) i_24 (by decide), ?_⟩
              intro s_25 es_25
              obtain ⟨S_25, eS_25⟩ : ∃ w : AA, w = zU B 19 ((160 * v_11) + v_21).toNat 1 := ⟨_, rfl⟩
              have h := h S_25 eS_25
              have es_25 : s_25 = zS S_25 := by rw [eS_25]; exact es_25.trans (z_ua B 19 (z_add (z_mul zk_160 (z_v v_11)) (z_v v_21)) (z_rg i_24 (by decide)) zk_1)
              subst es_25
              exact ih _ _ rfl _ _ (z_add (z_v x2) zk_1) h
          · have h := h.2 (e_19.mp c)
            exact ih _ _ rfl _ _ (z_add (z_v x2) zk_1) h
        · have h := h.2 (fun c9 => c (e_13.mpr c9))
          exact ih _ _ rfl _ _ (z_add (z_v x2) zk_1) h
      · have h := h.2 (e_9.mp c)
        exact ih _ _ rfl _ _ (z_add (z_v x2) zk_1) h
set_option maxRecDepth 10000 in
theorem zwl_M_findLeads_24  {ex : SS → Int32 → Prop} {exz : AA → Int → Prop} (hE : ∀ S s, s = zS S → ∀ (y1 : Int) (t1 : Int32), t1 = zI y1 → exz S y1 → ex s t1) {post : SS → Prop} {pz : AA → Prop} (hp : ∀ S, pz S → post (zS S)) : ∀ k, ∀ B s, s = zS B → ∀ (x1 : Int) (t1 : Int32), t1 = zI x1 → zl_M_findLeads_24 exz pz k B x1 → wl_M_findLeads_24 ex post k s t1 := by
  intro k
  induction k with
  | zero => intro B s es x1 t1 e1 h; rw [zl_M_findLeads_24] at h; exact h.elim
  | succ k ih =>
    intro B s es x1 t1 e1 h
    subst es; subst e1; rw [zl_M_findLeads_24] at h; rw [wl_M_findLeads_24]
    obtain ⟨g_1, h⟩ := h
    obtain ⟨g_2, h⟩ := h
    have e_3 := z_le (z_f B 0 2) (z_v x1) g_2 g_1
    refine ⟨fun c => ?_, fun c => ?_⟩
    · have h := h.1 (e_3.mp c)
      exact hE _ _ rfl _ _ (z_v x1) h
    · have h := h.2 (fun c9 => c (e_3.mpr c9))
      obtain ⟨j9, h⟩ := h
      exact ⟨j9, zwl_M_findLeads_34 _ _ (z_v x1) (fun S26 s26 es26 y2_26 t2_26 e2_26 h => zwe_M_findLeads_130 _ _ es26 _ _ (z_v x1) ih hE hp h) hp j9 _ _ rfl _ _ zk_0 h⟩
set_option maxRecDepth 10000 in
theorem zwe_M_findLeads_22 (B : AA) (s : SS) (es : s = zS B) {post : SS → Prop} {pz : AA → Prop} (hp : ∀ S, pz S → post (zS S)) (h : ze_M_findLeads_22 B pz) : we_M_findLeads_22 s post := by
  subst es; rw [ze_M_findLeads_22] at h; rw [we_M_findLeads_22]
  obtain ⟨j9, h⟩ := h
  exact ⟨j9, zwl_M_findLeads_24 (fun S27 s27 es27 y1_27 t1_27 e1_27 h => zwe_M_findLeads_136 _ _ es27 hp h) hp j9 _ _ rfl _ _ zk_0 h⟩
set_option maxRecDepth 10000 in
theorem zwl_M_findLeads_2  {ex : SS → Int32 → Prop} {exz : AA → Int → Prop} (hE : ∀ S s, s = zS S → ∀ (y1 : Int) (t1 : Int32), t1 = zI y1 → exz S y1 → ex s t1) {post : SS → Prop} {pz : AA → Prop} (hp : ∀ S, pz S → post (zS S)) : ∀ k, ∀ B s, s = zS B → ∀ (x1 : Int) (t1 : Int32), t1 = zI x1 → zl_M_findLeads_2 exz pz k B x1 → wl_M_findLeads_2 ex post k s t1 := by
  intro k
  induction k with
  | zero => intro B s es x1 t1 e1 h; rw [zl_M_findLeads_2] at h; exact h.elim
  | succ k ih =>
    intro B s es x1 t1 e1 h
    subst es; subst e1; rw [zl_M_findLeads_2] at h; rw [wl_M_findLeads_2]
    obtain ⟨g_28, h⟩ := h
    have e_29 := z_le zk_25600 (z_v x1) (by decide) g_28
    refine ⟨fun c => ?_, fun c => ?_⟩
    · have h := h.1 (e_29.mp c)
      exact hE _ _ rfl _ _ (z_v x1) h
    · have h := h.2 (fun c9 => c (e_29.mpr c9))
      obtain ⟨i_30, h⟩ := h
      refine ⟨z_in (z_v x1) i_30 (by decide), ?_⟩
      intro s_31 es_31
      obtain ⟨S_31, eS_31⟩ : ∃ w : AA, w = zU B 19 x1.toNat 0 := ⟨_, rfl⟩
      have h := h S_31 eS_31
      have es_31 : s_31 = zS S_31 := by rw [eS_31]; exact es_31.trans (z_ua B 19 (z_v x1) (z_rg i_30 (by decide)) zk_0)
      subst es_31
      exact ih _ _ rfl _ _ (z_add (z_v x1) zk_1) h
set_option maxRecDepth 10000 in
theorem zw_M_findLeads {B : AA} {s : SS} (es : s = zS B) {post : SS → Prop} {pz : AA → Prop} (hp : ∀ S, pz S → post (zS S)) (h : zp_M_findLeads B pz) : wp_M_findLeads s post := by
  subst es; rw [zp_M_findLeads] at h; rw [wp_M_findLeads]
  obtain ⟨j9, h⟩ := h
  exact ⟨j9, zwl_M_findLeads_2 (fun S32 s32 es32 y1_32 t1_32 e1_32 h => zwe_M_findLeads_22 _ _ es32 hp h) hp j9 _ _ rfl _ _ zk_0 h⟩
set_option maxRecDepth 10000 in
theorem zwe_M_measure_184 (B : AA) (s : SS) (es : s = zS B) {post : SS → Prop} {pz : AA → Prop} (hp : ∀ S, pz S → post (zS S)) (h : ze_M_measure_184 B pz) : we_M_measure_184 s post := by
  subst es; rw [ze_M_measure_184] at h; rw [we_M_measure_184]
  exact hp _ h
set_option maxRecDepth 10000 in
theorem zwe_M_measure_178 (B : AA) (s : SS) (es : s = zS B) (x1 : Int) (t1 : Int32) (e1 : t1 = zI x1) (x2 : Int) (t2 : Int32) (e2 : t2 = zI x2) (x3 : Int) (t3 : Int32) (e3 : t3 = zI x3) {ag : SS → Int32 → Int32 → Prop} {agz : AA → Int → Int → Prop} (hA : ∀ S s, s = zS S → ∀ (y2 : Int) (t2 : Int32), t2 = zI y2 → ∀ (y3 : Int) (t3 : Int32), t3 = zI y3 → agz S y2 y3 → ag s t2 t3) {ex : SS → Int32 → Int32 → Prop} {exz : AA → Int → Int → Prop} (hE : ∀ S s, s = zS S → ∀ (y2 : Int) (t2 : Int32), t2 = zI y2 → ∀ (y3 : Int) (t3 : Int32), t3 = zI y3 → exz S y2 y3 → ex s t2 t3) {post : SS → Prop} {pz : AA → Prop} (hp : ∀ S, pz S → post (zS S)) (h : ze_M_measure_178 B x1 x2 x3 agz exz pz) : we_M_measure_178 s t1 t2 t3 ag ex post := by
  subst es; subst e1; subst e2; subst e3; rw [ze_M_measure_178] at h; rw [we_M_measure_178]
  exact hA _ _ rfl _ _ (z_v x2) _ _ (z_add (z_v x3) zk_1) h
set_option maxRecDepth 10000 in
theorem zwe_M_measure_157 (B : AA) (s : SS) (es : s = zS B) (x1 : Int) (t1 : Int32) (e1 : t1 = zI x1) (x2 : Int) (t2 : Int32) (e2 : t2 = zI x2) (x3 : Int) (t3 : Int32) (e3 : t3 = zI x3) (x4 : Int) (t4 : Int32) (e4 : t4 = zI x4) (x5 : Int) (t5 : Int32) (e5 : t5 = zI x5) {ag : SS → Int32 → Int32 → Prop} {agz : AA → Int → Int → Prop} (hA : ∀ S s, s = zS S → ∀ (y2 : Int) (t2 : Int32), t2 = zI y2 → ∀ (y4 : Int) (t4 : Int32), t4 = zI y4 → agz S y2 y4 → ag s t2 t4) {ex : SS → Int32 → Int32 → Prop} {exz : AA → Int → Int → Prop} (hE : ∀ S s, s = zS S → ∀ (y2 : Int) (t2 : Int32), t2 = zI y2 → ∀ (y4 : Int) (t4 : Int32), t4 = zI y4 → exz S y2 y4 → ex s t2 t4) {post : SS → Prop} {pz : AA → Prop} (hp : ∀ S, pz S → post (zS S)) (h : ze_M_measure_157 B x1 x2 x3 x4 x5 agz exz pz) : we_M_measure_157 s t1 t2 t3 t4 t5 ag ex post := by
  subst es; subst e1; subst e2; subst e3; subst e4; subst e5; rw [ze_M_measure_157] at h; rw [we_M_measure_157]
  obtain ⟨g_8, h⟩ := h
  have e_9 := z_eq (z_v x5) zk_0 g_8 (by decide)
  refine ⟨fun c => ?_, fun c => ?_⟩
  · have h := h.1 (e_9.mp c)
    exact hA _ _ rfl _ _ (z_v x2) _ _ (z_add (z_v x4) zk_1) h
  · have h := h.2 (fun c9 => c (e_9.mpr c9))
    obtain ⟨i_10, h⟩ := h
    refine ⟨z_in (z_v x4) i_10 (by decide), ?_⟩
    intro s_11 es_11
    obtain ⟨S_11, eS_11⟩ : ∃ w : AA, w = zU B 20 x4.toNat x3 := ⟨_, rfl⟩
    have h := h S_11 eS_11
    have es_11 : s_11 = zS S_11 := by rw [eS_11]; exact es_11.trans (z_ua B 20 (z_v x4) (z_rg i_10 (by decide)) (z_v x3))
    subst es_11
    exact hA _ _ rfl _ _ zk_1 _ _ (z_add (z_v x4) zk_1) h
set_option maxRecDepth 10000 in
theorem zwl_M_measure_85 (B : AA) (s : SS) (es : s = zS B) (x1 : Int) (t1 : Int32) (e1 : t1 = zI x1) (x2 : Int) (t2 : Int32) (e2 : t2 = zI x2) (x3 : Int) (t3 : Int32) (e3 : t3 = zI x3) (x4 : Int) (t4 : Int32) (e4 : t4 = zI x4) {ex : Int32 → Int32 → Prop} {exz : Int → Int → Prop} (hE : ∀ (y5 : Int) (t5 : Int32), t5 = zI y5 → ∀ (y6 : Int) (t6 : Int32), t6 = zI y6 → exz y5 y6 → ex t5 t6) {post : SS → Prop} {pz : AA → Prop} (hp : ∀ S, pz S → post (zS S)) : ∀ k, ∀ (x5 : Int) (t5 : Int32), t5 = zI x5 → ∀ (x6 : Int) (t6 : Int32), t6 = zI x6 → zl_M_measure_85 B x1 x2 x3 x4 exz pz k x5 x6 → wl_M_measure_85 s t1 t2 t3 t4 ex post k t5 t6 := by
  subst es; subst e1; subst e2; subst e3; subst e4; intro k
  induction k with
  | zero => intro x5 t5 e5 x6 t6 e6 h; rw [zl_M_measure_85] at h; exact h.elim
  | succ k ih =>
    intro x5 t5 e5 x6 t6 e6 h
    subst e5; subst e6; rw [zl_M_measure_85] at h; rw [wl_M_measure_85]
    obtain ⟨g_12, h⟩ := h
    have e_13 := z_le zk_160 (z_v x6) (by decide) g_12
    refine ⟨fun c => ?_, fun c => ?_⟩
    · have h := h.1 (e_13.mp c)
      exact hE _ _ (z_v x5) _ _ (z_v x6) h
    · have h := h.2 (fun c9 => c (e_13.mpr c9))
      obtain ⟨g_14, h⟩ := h
      have e_15 := z_eq (z_v x5) zk_0 g_14 (by decide)
      refine ⟨fun c => ?_, fun c => ?_⟩
      · have h := h.1 (fun c9 => c (e_15.mpr c9))
        exact hE _ _ (z_v x5) _ _ (z_v x6) h
      · have h := h.2 (e_15.mp c)
        obtain ⟨i_16, h⟩ := h
        refine ⟨z_in (z_v x4) i_16 (by decide), ?_⟩
        obtain ⟨g_17, h⟩ := h
        have e_18 := z_eq (z_a B 20 (z_v x4) (z_rg i_16 (by decide))) zk_m1 g_17 (by decide)
        refine ⟨fun c => ?_, fun c => ?_⟩
        · have h := h.1 (fun c9 => c (e_18.mpr c9))
          exact hE _ _ (z_v x5) _ _ (z_v x6) h
        · have h := h.2 (e_18.mp c)
          obtain ⟨g_19, h⟩ := h
          have e_20 := z_le (z_v x3) zk_1 g_19 (by decide)
          refine ⟨fun c => ?_, fun c => ?_⟩
          · have h := h.1 (e_20.mp c)
            exact hE _ _ (z_v x5) _ _ (z_v x6) h
          · have h := h.2 (fun c9 => c (e_20.mpr c9))
            obtain ⟨i_21, h⟩ := h
            refine ⟨z_in (z_add (z_mul zk_160 (z_v x4)) (z_v x6)) i_21 (by decide), ?_⟩
            obtain ⟨g_22, h⟩ := h
            have e_23 := z_eq (z_a B 19 (z_add (z_mul zk_160 (z_v x4)) (z_v x6)) (z_rg i_21 (by decide))) zk_0 g_22 (by decide)
            refine ⟨fun c => ?_, fun c => ?_⟩
            · have h := h.1 (e_23.mp c)
              exact ih _ _ zk_0 _ _ (z_add (z_v x6) zk_1) h
            · have h := h.2 (fun c9 => c (e_23.mpr c9))
              obtain ⟨i_24, h⟩ := h
              refine ⟨z_in (z_v x6) i_24 (by decide), ?_⟩
              obtain ⟨g_25, h⟩ := h
              obtain ⟨g_26, h⟩ := h
              have e_27 := z_eq (z_a B 20 (z_v x6) (z_rg i_24 (by decide))) (z_sub (z_v x3) zk_1) g_25 g_26
              refine ⟨fun c => ?_, fun c => ?_⟩
              · have h := h.1 (fun c9 => c (e_27.mpr c9))
                exact ih _ _ zk_0 _ _ (z_add (z_v x6) zk_1) h
              · have h := h.2 (e_27.mp c)
                exact ih _ _ zk_1 _ _ (z_add (z_v x6) zk_1) h
set_option maxRecDepth 10000 in
theorem zwl_M_measure_35  (x1 : Int) (t1 : Int32) (e1 : t1 = zI x1) (x3 : Int) (t3 : Int32) (e3 : t3 = zI x3) {ex : SS → Int32 → Int32 → Prop} {exz : AA → Int → Int → Prop} (hE : ∀ S s, s = zS S → ∀ (y2 : Int) (t2 : Int32), t2 = zI y2 → ∀ (y4 : Int) (t4 : Int32), t4 = zI y4 → exz S y2 y4 → ex s t2 t4) {post : SS → Prop} {pz : AA → Prop} (hp : ∀ S, pz S → post (zS S)) : ∀ k, ∀ B s, s = zS B → ∀ (x2 : Int) (t2 : Int32), t2 = zI x2 → ∀ (x4 : Int) (t4 : Int32), t4 = zI x4 → zl_M_measure_35 x1 x3 exz pz k B x2 x4 → wl_M_measure_35 t1 t3 ex post k s t2 t4 := by
  subst e1; subst e3; intro k
  induction k with
  | zero => intro B s es x2 t2 e2 x4 t4 e4 h; rw [zl_M_measure_35] at h; exact h.elim
  | succ k ih =>
    intro B s es x2 t2 e2 x4 t4 e4 h
    subst es; subst e2; subst e4; rw [zl_M_measure_35] at h; rw [wl_M_measure_35]
    obtain ⟨g_3, h⟩ := h
    have e_4 := z_le zk_160 (z_v x4) (by decide) g_3
    refine ⟨fun c => ?_, fun c => ?_⟩
    · have h := h.1 (e_4.mp c)
      exact hE _ _ rfl _ _ (z_v x2) _ _ (z_v x4) h
    · have h := h.2 (fun c9 => c (e_4.mpr c9))
      obtain ⟨i_5, h⟩ := h
      refine ⟨z_in (z_v x4) i_5 (by decide), ?_⟩
      obtain ⟨g_6, h⟩ := h
      have e_7 := z_eq (z_a B 20 (z_v x4) (z_rg i_5 (by decide))) zk_m1 g_6 (by decide)
      refine ⟨fun c => ?_, fun c => ?_⟩
      · have h := h.1 (fun c9 => c (e_7.mpr c9))
        obtain ⟨j9, h⟩ := h
        exact ⟨j9, zwl_M_measure_85 _ _ rfl _ _ (z_v x1) _ _ (z_v x2) _ _ (z_v x3) _ _ (z_v x4) (fun y5_28 t5_28 e5_28 y6_28 t6_28 e6_28 h => zwe_M_measure_157 _ _ rfl _ _ (z_v x1) _ _ (z_v x2) _ _ (z_v x3) _ _ (z_v x4) _ _ e5_28 ih hE hp h) hp j9 _ _ zk_0 _ _ zk_0 h⟩
      · have h := h.2 (e_7.mp c)
        obtain ⟨g_29, h⟩ := h
        have e_30 := z_eq (z_v x3) zk_1 g_29 (by decide)
        refine ⟨fun c => ?_, fun c => ?_⟩
        · have h := h.1 (fun c9 => c (e_30.mpr c9))
          obtain ⟨j9, h⟩ := h
          exact ⟨j9, zwl_M_measure_85 _ _ rfl _ _ (z_v x1) _ _ (z_v x2) _ _ (z_v x3) _ _ (z_v x4) (fun y5_31 t5_31 e5_31 y6_31 t6_31 e6_31 h => zwe_M_measure_157 _ _ rfl _ _ (z_v x1) _ _ (z_v x2) _ _ (z_v x3) _ _ (z_v x4) _ _ e5_31 ih hE hp h) hp j9 _ _ zk_0 _ _ zk_0 h⟩
        · have h := h.2 (e_30.mp c)
          obtain ⟨i_32, h⟩ := h
          refine ⟨z_in (z_add (z_mul zk_160 (z_v x4)) (z_v x1)) i_32 (by decide), ?_⟩
          obtain ⟨g_33, h⟩ := h
          have e_34 := z_eq (z_a B 19 (z_add (z_mul zk_160 (z_v x4)) (z_v x1)) (z_rg i_32 (by decide))) zk_0 g_33 (by decide)
          refine ⟨fun c => ?_, fun c => ?_⟩
          · have h := h.1 (e_34.mp c)
            obtain ⟨j9, h⟩ := h
            exact ⟨j9, zwl_M_measure_85 _ _ rfl _ _ (z_v x1) _ _ (z_v x2) _ _ (z_v x3) _ _ (z_v x4) (fun y5_35 t5_35 e5_35 y6_35 t6_35 e6_35 h => zwe_M_measure_157 _ _ rfl _ _ (z_v x1) _ _ (z_v x2) _ _ (z_v x3) _ _ (z_v x4) _ _ e5_35 ih hE hp h) hp j9 _ _ zk_0 _ _ zk_0 h⟩
          · have h := h.2 (fun c9 => c (e_34.mpr c9))
            obtain ⟨j9, h⟩ := h
            exact ⟨j9, zwl_M_measure_85 _ _ rfl _ _ (z_v x1) _ _ (z_v x2) _ _ (z_v x3) _ _ (z_v x4) (fun y5_36 t5_36 e5_36 y6_36 t6_36 e6_36 h => zwe_M_measure_157 _ _ rfl _ _ (z_v x1) _ _ (z_v x2) _ _ (z_v x3) _ _ (z_v x4) _ _ e5_36 ih hE hp h) hp j9 _ _ zk_1 _ _ zk_0 h⟩
set_option maxRecDepth 10000 in
theorem zwl_M_measure_26  (x1 : Int) (t1 : Int32) (e1 : t1 = zI x1) {ex : SS → Int32 → Int32 → Prop} {exz : AA → Int → Int → Prop} (hE : ∀ S s, s = zS S → ∀ (y2 : Int) (t2 : Int32), t2 = zI y2 → ∀ (y3 : Int) (t3 : Int32), t3 = zI y3 → exz S y2 y3 → ex s t2 t3) {post : SS → Prop} {pz : AA → Prop} (hp : ∀ S, pz S → post (zS S)) : ∀ k, ∀ B s, s = zS B → ∀ (x2 : Int) (t2 : Int32), t2 = zI x2 → ∀ (x3 : Int) (t3 : Int32), t3 = zI x3 → zl_M_measure_26 x1 exz pz k B x2 x3 → wl_M_measure_26 t1 ex post k s t2 t3 := by
  subst e1; intro k
  induction k with
  | zero => intro B s es x2 t2 e2 x3 t3 e3 h; rw [zl_M_measure_26] at h; exact h.elim
  | succ k ih =>
    intro B s es x2 t2 e2 x3 t3 e3 h
    subst es; subst e2; subst e3; rw [zl_M_measure_26] at h; rw [wl_M_measure_26]
    obtain ⟨g_1, h⟩ := h
    have e_2 := z_eq (z_v x2) zk_0 g_1 (by decide)
    refine ⟨fun c => ?_, fun c => ?_⟩
    · have h := h.1 (e_2.mp c)
      exact hE _ _ rfl _ _ (z_v x2) _ _ (z_v x3) h
    · have h := h.2 (fun c9 => c (e_2.mpr c9))
      obtain ⟨j9, h⟩ := h
      exact ⟨j9, zwl_M_measure_35 _ _ (z_v x1) _ _ (z_v x3) (fun S37 s37 es37 y2_37 t2_37 e2_37 y4_37 t4_37 e4_37 h => zwe_M_measure_178 _ _ es37 _ _ (z_v x1) _ _ e2_37 _ _ (z_v x3) ih hE hp h) hp j9 _ _ rfl _ _ zk_0 _ _ zk_0 h⟩
set_option maxRecDepth 10000 in
theorem zwe_M_measure_22 (B : AA) (s : SS) (es : s = zS B) (x1 : Int) (t1 : Int32) (e1 : t1 = zI x1) {post : SS → Prop} {pz : AA → Prop} (hp : ∀ S, pz S → post (zS S)) (h : ze_M_measure_22 B x1 pz) : we_M_measure_22 s t1 post := by
  subst es; subst e1; rw [ze_M_measure_22] at h; rw [we_M_measure_22]
  obtain ⟨j9, h⟩ := h
  exact ⟨j9, zwl_M_measure_26 _ _ (z_v x1) (fun S38 s38 es38 y2_38 t2_38 e2_38 y3_38 t3_38 e3_38 h => zwe_M_measure_184 _ _ es38 hp h) hp j9 _ _ rfl _ _ zk_1 _ _ zk_1 h⟩
set_option maxRecDepth 10000 in
theorem zwl_M_measure_2  (x1 : Int) (t1 : Int32) (e1 : t1 = zI x1) {ex : SS → Int32 → Prop} {exz : AA → Int → Prop} (hE : ∀ S s, s = zS S → ∀ (y2 : Int) (t2 : Int32), t2 = zI y2 → exz S y2 → ex s t2) {post : SS → Prop} {pz : AA → Prop} (hp : ∀ S, pz S → post (zS S)) : ∀ k, ∀ B s, s = zS B → ∀ (x2 : Int) (t2 : Int32), t2 = zI x2 → zl_M_measure_2 x1 exz pz k B x2 → wl_M_measure_2 t1 ex post k s t2 := by
  subst e1; intro k
  induction k with
  | zero => intro B s es x2 t2 e2 h; rw [zl_M_measure_2] at h; exact h.elim
  | succ k ih =>
    intro B s es x2 t2 e2 h
    subst es; subst e2; rw [zl_M_measure_2] at h; rw [wl_M_measure_2]
    obtain ⟨g_39, h⟩ := h
    have e_40 := z_le zk_160 (z_v x2) (by decide) g_39
    refine ⟨fun c => ?_, fun c => ?_⟩
    · have h := h.1 (e_40.mp c)
      exact hE _ _ rfl _ _ (z_v x2) h
    · have h := h.2 (fun c9 => c (e_40.mpr c9))
      obtain ⟨i_41, h⟩ := h
      refine ⟨z_in (z_v x2) i_41 (by decide), ?_⟩
      intro s_42 es_42
      obtain ⟨S_42, eS_42⟩ : ∃ w : AA, w = zU B 20 x2.toNat (-1) := ⟨_, rfl⟩
      have h := h S_42 eS_42
      have es_42 : s_42 = zS S_42 := by rw [eS_42]; exact es_42.trans (z_ua B 20 (z_v x2) (z_rg i_41 (by decide)) zk_m1)
      subst es_42
      exact ih _ _ rfl _ _ (z_add (z_v x2) zk_1) h
set_option maxRecDepth 10000 in
theorem zw_M_measure {B : AA} {s : SS} {x1 : Int} {t1 : Int32} (es : s = zS B) (e1 : t1 = zI x1) {post : SS → Prop} {pz : AA → Prop} (hp : ∀ S, pz S → post (zS S)) (h : zp_M_measure B x1 pz) : wp_M_measure s t1 post := by
  subst es; subst e1; rw [zp_M_measure] at h; rw [wp_M_measure]
  obtain ⟨j9, h⟩ := h
  exact ⟨j9, zwl_M_measure_2 _ _ (z_v x1) (fun S43 s43 es43 y2_43 t2_43 e2_43 h => zwe_M_measure_22 _ _ es43 _ _ (z_v x1) hp h) hp j9 _ _ rfl _ _ zk_0 h⟩
set_option maxRecDepth 10000 in
theorem zwe_M_findRing_168 (B : AA) (s : SS) (es : s = zS B) (x1 : Int) (t1 : Int32) (e1 : t1 = zI x1) {post : Int32 → SS → Prop} {pz : Int → AA → Prop} (hp : ∀ r S, pz r S → post (zI r) (zS S)) (h : ze_M_findRing_168 B x1 pz) : we_M_findRing_168 s t1 post := by
  subst es; subst e1; rw [ze_M_findRing_168] at h; rw [we_M_findRing_168]
  exact z_r (P := fun r9 => post r9 (zS B)) (z_v x1) (hp _ _ h)
set_option maxRecDepth 10000 in
theorem zwe_M_findRing_159 (B : AA) (s : SS) (es : s = zS B) (x1 : Int) (t1 : Int32) (e1 : t1 = zI x1) (x2 : Int) (t2 : Int32) (e2 : t2 = zI x2) (x4 : Int) (t4 : Int32) (e4 : t4 = zI x4) (x5 : Int) (t5 : Int32) (e5 : t5 = zI x5) {ag : SS → Int32 → Int32 → Prop} {agz : AA → Int → Int → Prop} (hA : ∀ S s, s = zS S → ∀ (y3 : Int) (t3 : Int32), t3 = zI y3 → ∀ (y4 : Int) (t4 : Int32), t4 = zI y4 → agz S y3 y4 → ag s t3 t4) {ex : SS → Int32 → Int32 → Prop} {exz : AA → Int → Int → Prop} (hE : ∀ S s, s = zS S → ∀ (y3 : Int) (t3 : Int32), t3 = zI y3 → ∀ (y4 : Int) (t4 : Int32), t4 = zI y4 → exz S y3 y4 → ex s t3 t4) {post : Int32 → SS → Prop} {pz : Int → AA → Prop} (hp : ∀ r S, pz r S → post (zI r) (zS S)) (h : ze_M_findRing_159 B x1 x2 x4 x5 agz exz pz) : we_M_findRing_159 s t1 t2 t4 t5 ag ex post := by
  subst es; subst e1; subst e2; subst e4; subst e5; rw [ze_M_findRing_159] at h; rw [we_M_findRing_159]
  exact hA _ _ rfl _ _ (z_v x5) _ _ (z_add (z_v x4) zk_1) h
set_option maxRecDepth 10000 in
theorem zwl_M_findRing_96 (B : AA) (s : SS) (es : s = zS B) (x1 : Int) (t1 : Int32) (e1 : t1 = zI x1) (x2 : Int) (t2 : Int32) (e2 : t2 = zI x2) (x3 : Int) (t3 : Int32) (e3 : t3 = zI x3) (x4 : Int) (t4 : Int32) (e4 : t4 = zI x4) {ex : Int32 → Prop} {exz : Int → Prop} (hE : ∀ (y5 : Int) (t5 : Int32), t5 = zI y5 → exz y5 → ex t5) {post : Int32 → SS → Prop} {pz : Int → AA → Prop} (hp : ∀ r S, pz r S → post (zI r) (zS S)) : ∀ k, ∀ (x5 : Int) (t5 : Int32), t5 = zI x5 → zl_M_findRing_96 B x1 x2 x3 x4 exz pz k x5 → wl_M_findRing_96 s t1 t2 t3 t4 ex post k t5 := by
  subst es; subst e1; subst e2; subst e3; subst e4; intro k
  induction k with
  | zero => intro x5 t5 e5 h; rw [zl_M_findRing_96] at h; exact h.elim
  | succ k ih =>
    intro x5 t5 e5 h
    subst e5; rw [zl_M_findRing_96] at h; rw [wl_M_findRing_96]
    obtain ⟨g_10, h⟩ := h
    have e_11 := z_le zk_160 (z_v x5) (by decide) g_10
    refine ⟨fun c => ?_, fun c => ?_⟩
    · have h := h.1 (e_11.mp c)
      exact hE _ _ (z_v x5) h
    · have h := h.2 (fun c9 => c (e_11.mpr c9))
      obtain ⟨i_12, h⟩ := h
      refine ⟨z_in (z_add (z_mul zk_160 (z_v x3)) (z_v x5)) i_12 (by decide), ?_⟩
      obtain ⟨g_13, h⟩ := h
      have e_14 := z_eq (z_a B 19 (z_add (z_mul zk_160 (z_v x3)) (z_v x5)) (z_rg i_12 (by decide))) zk_0 g_13 (by decide)
      refine ⟨fun c => ?_, fun c => ?_⟩
      · have h := h.1 (e_14.mp c)
        exact ih _ _ (z_add (z_v x5) zk_1) h
      · have h := h.2 (fun c9 => c (e_14.mpr c9))
        obtain ⟨g_15, h⟩ := h
        obtain ⟨g_16, h⟩ := h
        have e_17 := z_eq (z_v x4) (z_sub (z_v x1) zk_1) g_15 g_16
        refine ⟨fun c => ?_, fun c => ?_⟩
        · have h := h.1 (fun c9 => c (e_17.mpr c9))
          obtain ⟨i_18, h⟩ := h
          refine ⟨z_in (z_v x5) i_18 (by decide), ?_⟩
          obtain ⟨g_19, h⟩ := h
          obtain ⟨g_20, h⟩ := h
          have e_21 := z_eq (z_a B 20 (z_v x5) (z_rg i_18 (by decide))) (z_sub (z_sub (z_v x1) zk_1) (z_v x4)) g_19 g_20
          refine ⟨fun c => ?_, fun c => ?_⟩
          · have h := h.1 (e_21.mp c)
            exact hE _ _ (z_v x5) h
          · have h := h.2 (fun c9 => c (e_21.mpr c9))
            exact ih _ _ (z_add (z_v x5) zk_1) h
        · have h := h.2 (e_17.mp c)
          obtain ⟨g_22, h⟩ := h
          obtain ⟨g_23, h⟩ := h
          have e_24 := z_eq (z_v x5) (z_v x2) g_22 g_23
          refine ⟨fun c => ?_, fun c => ?_⟩
          · have h := h.1 (fun c9 => c (e_24.mpr c9))
            exact ih _ _ (z_add (z_v x5) zk_1) h
          · have h := h.2 (e_24.mp c)
            exact hE _ _ (z_v x5) h
set_option maxRecDepth 10000 in
theorem zwl_M_findRing_79  (x1 : Int) (t1 : Int32) (e1 : t1 = zI x1) (x2 : Int) (t2 : Int32) (e2 : t2 = zI x2) {ex : SS → Int32 → Int32 → Prop} {exz : AA → Int → Int → Prop} (hE : ∀ S s, s = zS S → ∀ (y3 : Int) (t3 : Int32), t3 = zI y3 → ∀ (y4 : Int) (t4 : Int32), t4 = zI y4 → exz S y3 y4 → ex s t3 t4) {post : Int32 → SS → Prop} {pz : Int → AA → Prop} (hp : ∀ r S, pz r S → post (zI r) (zS S)) : ∀ k, ∀ B s, s = zS B → ∀ (x3 : Int) (t3 : Int32), t3 = zI x3 → ∀ (x4 : Int) (t4 : Int32), t4 = zI x4 → zl_M_findRing_79 x1 x2 exz pz k B x3 x4 → wl_M_findRing_79 t1 t2 ex post k s t3 t4 := by
  subst e1; subst e2; intro k
  induction k with
  | zero => intro B s es x3 t3 e3 x4 t4 e4 h; rw [zl_M_findRing_79] at h; exact h.elim
  | succ k ih =>
    intro B s es x3 t3 e3 x4 t4 e4 h
    subst es; subst e3; subst e4; rw [zl_M_findRing_79] at h; rw [wl_M_findRing_79]
    obtain ⟨g_5, h⟩ := h
    obtain ⟨g_6, h⟩ := h
    have e_7 := z_le (z_v x1) (z_v x4) g_6 g_5
    refine ⟨fun c => ?_, fun c => ?_⟩
    · have h := h.1 (e_7.mp c)
      exact hE _ _ rfl _ _ (z_v x3) _ _ (z_v x4) h
    · have h := h.2 (fun c9 => c (e_7.mpr c9))
      obtain ⟨i_8, h⟩ := h
      refine ⟨z_in (z_v x4) i_8 (by decide), ?_⟩
      intro s_9 es_9
      obtain ⟨S_9, eS_9⟩ : ∃ w : AA, w = zU B 21 x4.toNat x3 := ⟨_, rfl⟩
      have h := h S_9 eS_9
      have es_9 : s_9 = zS S_9 := by rw [eS_9]; exact es_9.trans (z_ua B 21 (z_v x4) (z_rg i_8 (by decide)) (z_v x3))
      subst es_9
      obtain ⟨j9, h⟩ := h
      exact ⟨j9, zwl_M_findRing_96 _ _ rfl _ _ (z_v x1) _ _ (z_v x2) _ _ (z_v x3) _ _ (z_v x4) (fun y5_25 t5_25 e5_25 h => zwe_M_findRing_159 _ _ rfl _ _ (z_v x1) _ _ (z_v x2) _ _ (z_v x4) _ _ e5_25 ih hE hp h) hp j9 _ _ zk_0 h⟩
set_option maxRecDepth 10000 in
theorem zwe_M_findRing_63 (B : AA) (s : SS) (es : s = zS B) (x1 : Int) (t1 : Int32) (e1 : t1 = zI x1) (x2 : Int) (t2 : Int32) (e2 : t2 = zI x2) {post : Int32 → SS → Prop} {pz : Int → AA → Prop} (hp : ∀ r S, pz r S → post (zI r) (zS S)) (h : ze_M_findRing_63 B x1 x2 pz) : we_M_findRing_63 s t1 t2 post := by
  subst es; subst e1; subst e2; rw [ze_M_findRing_63] at h; rw [we_M_findRing_63]
  obtain ⟨g_2, h⟩ := h
  have e_3 := z_le zk_0 (z_v x2) (by decide) g_2
  refine ⟨fun c => ?_, fun c => ?_⟩
  · have h := h.1 (e_3.mp c)
    refine zw_M_measure rfl (z_v x2) (fun S_4 h => ?_) h
    obtain ⟨j9, h⟩ := h
    exact ⟨j9, zwl_M_findRing_79 _ _ (z_v x1) _ _ (z_v x2) (fun S26 s26 es26 y3_26 t3_26 e3_26 y4_26 t4_26 e4_26 h => zwe_M_findRing_168 _ _ es26 _ _ (z_v x1) hp h) hp j9 _ _ rfl _ _ (z_v x2) _ _ zk_0 h⟩
  · have h := h.2 (fun c9 => c (e_3.mpr c9))
    exact z_r (P := fun r9 => post r9 (zS B)) zk_0 (hp _ _ h)
set_option maxRecDepth 10000 in
theorem zwl_M_findRing_10  {ex : SS → Int32 → Int32 → Int32 → Prop} {exz : AA → Int → Int → Int → Prop} (hE : ∀ S s, s = zS S → ∀ (y1 : Int) (t1 : Int32), t1 = zI y1 → ∀ (y2 : Int) (t2 : Int32), t2 = zI y2 → ∀ (y3 : Int) (t3 : Int32), t3 = zI y3 → exz S y1 y2 y3 → ex s t1 t2 t3) {post : Int32 → SS → Prop} {pz : Int → AA → Prop} (hp : ∀ r S, pz r S → post (zI r) (zS S)) : ∀ k, ∀ B s, s = zS B → ∀ (x1 : Int) (t1 : Int32), t1 = zI x1 → ∀ (x2 : Int) (t2 : Int32), t2 = zI x2 → ∀ (x3 : Int) (t3 : Int32), t3 = zI x3 → zl_M_findRing_10 exz pz k B x1 x2 x3 → wl_M_findRing_10 ex post k s t1 t2 t3 := by
  intro k
  induction k with
  | zero => intro B s es x1 t1 e1 x2 t2 e2 x3 t3 e3 h; rw [zl_M_findRing_10] at h; exact h.elim
  | succ k ih =>
    intro B s es x1 t1 e1 x2 t2 e2 x3 t3 e3 h
    subst es; subst e1; subst e2; subst e3; rw [zl_M_findRing_10] at h; rw [wl_M_findRing_10]
    obtain ⟨g_27, h⟩ := h
    obtain ⟨g_28, h⟩ := h
    have e_29 := z_le (z_mul zk_4 (z_f B 0 3)) (z_v x3) g_28 g_27
    refine ⟨fun c => ?_, fun c => ?_⟩
    · have h := h.1 (e_29.mp c)
      exact hE _ _ rfl _ _ (z_v x1) _ _ (z_v x2) _ _ (z_v x3) h
    · have h := h.2 (fun c9 => c (e_29.mpr c9))
      refine zw_M_measure rfl (z_v x3) (fun S_30 h => ?_) h
      obtain ⟨i_31, h⟩ := h
      refine ⟨z_in (z_v x3) i_31 (by decide), ?_⟩
      obtain ⟨g_32, h⟩ := h
      have e_33 := z_le (z_a S_30 20 (z_v x3) (z_rg i_31 (by decide))) zk_0 g_32 (by decide)
      refine ⟨fun c => ?_, fun c => ?_⟩
      · have h := h.1 (e_33.mp c)
        exact ih _ _ rfl _ _ (z_v x1) _ _ (z_v x2) _ _ (z_add (z_v x3) zk_1) h
      · have h := h.2 (fun c9 => c (e_33.mpr c9))
        obtain ⟨g_34, h⟩ := h
        have e_35 := z_lt (z_v x2) zk_0 g_34 (by decide)
        refine ⟨fun c => ?_, fun c => ?_⟩
        · have h := h.1 (e_35.mp c)
          obtain ⟨i_36, h⟩ := h
          refine ⟨z_in (z_v x3) i_36 (by decide), ?_⟩
          intro t_37 et_37
          obtain ⟨v_37, ev_37⟩ : ∃ w : Int, w = S_30 20 x3.toNat := ⟨_, rfl⟩
          have h := h v_37 ev_37
          have et_37 : t_37 = zI v_37 := by rw [ev_37]; exact et_37.trans (z_a S_30 20 (z_v x3) (z_rg i_36 (by decide)))
          subst et_37
          exact ih _ _ rfl _ _ (z_v v_37) _ _ (z_v x3) _ _ (z_add (z_v x3) zk_1) h
        · have h := h.2 (fun c9 => c (e_35.mpr c9))
          obtain ⟨i_38, h⟩ := h
          refine ⟨z_in (z_v x3) i_38 (by decide), ?_⟩
          obtain ⟨g_39, h⟩ := h
          obtain ⟨g_40, h⟩ := h
          have e_41 := z_le (z_v x1) (z_a S_30 20 (z_v x3) (z_rg i_38 (by decide))) g_40 g_39
          refine ⟨fun c => ?_, fun c => ?_⟩
          · have h := h.1 (e_41.mp c)
            exact ih _ _ rfl _ _ (z_v x1) _ _ (z_v x2) _ _ (z_add (z_v x3) zk_1) h
          · have h := h.2 (fun c9 => c (e_41.mpr c9))
            obtain ⟨i_42, h⟩ := h
            refine ⟨z_in (z_v x3) i_42 (by decide), ?_⟩
            intro t_43 et_43
            obtain ⟨v_43, ev_43⟩ : ∃ w : Int, w = S_30 20 x3.toNat := ⟨_, rfl⟩
            have h := h v_43 ev_43
            have et_43 : t_43 = zI v_43 := by rw [ev_43]; exact et_43.trans (z_a S_30 20 (z_v x3) (z_rg i_42 (by decide)))
            subst et_43
            exact ih _ _ rfl _ _ (z_v v_43) _ _ (z_v x3) _ _ (z_add (z_v x3) zk_1) h
set_option maxRecDepth 10000 in
theorem zw_M_findRing {B : AA} {s : SS} (es : s = zS B) {post : Int32 → SS → Prop} {pz : Int → AA → Prop} (hp : ∀ r S, pz r S → post (zI r) (zS S)) (h : zp_M_findRing B pz) : wp_M_findRing s post := by
  subst es; rw [zp_M_findRing] at h; rw [wp_M_findRing]
  refine zw_M_findLeads rfl (fun S_1 h => ?_) h
  obtain ⟨j9, h⟩ := h
  exact ⟨j9, zwl_M_findRing_10 (fun S44 s44 es44 y1_44 t1_44 e1_44 y2_44 t2_44 e2_44 y3_44 t3_44 e3_44 h => zwe_M_findRing_63 _ _ es44 _ _ e1_44 _ _ e2_44 hp h) hp j9 _ _ rfl _ _ zk_0 _ _ zk_m1 _ _ zk_0 h⟩
set_option maxRecDepth 10000 in
theorem zw_M_ring {B : AA} {s : SS} (es : s = zS B) {post : Int32 → SS → Prop} {pz : Int → AA → Prop} (hp : ∀ r S, pz r S → post (zI r) (zS S)) (h : zp_M_ring B pz) : wp_M_ring s post := by
  subst es; rw [zp_M_ring] at h; rw [wp_M_ring]
  intro s_1 es_1
  obtain ⟨S_1, eS_1⟩ : ∃ w : AA, w = zU B 0 0 0 := ⟨_, rfl⟩
  have h := h S_1 eS_1
  have es_1 : s_1 = zS S_1 := by rw [eS_1]; exact es_1.trans (z_uf B 0 0 zk_0)
  subst es_1
  refine zw_M_findRing rfl (fun r_2 S_2 h => ?_) h
  exact z_r (P := fun r9 => post r9 (zS S_2)) (z_v r_2) (hp _ _ h)
set_option maxRecDepth 10000 in
theorem zw_M_ringAt {B : AA} {s : SS} {x1 : Int} {t1 : Int32} (es : s = zS B) (e1 : t1 = zI x1) {post : Int32 → SS → Prop} {pz : Int → AA → Prop} (hp : ∀ r S, pz r S → post (zI r) (zS S)) (h : zp_M_ringAt B x1 pz) : wp_M_ringAt s t1 post := by
  subst es; subst e1; rw [zp_M_ringAt] at h; rw [wp_M_ringAt]
  intro s_1 es_1
  obtain ⟨S_1, eS_1⟩ : ∃ w : AA, w = zU B 0 0 0 := ⟨_, rfl⟩
  have h := h S_1 eS_1
  have es_1 : s_1 = zS S_1 := by rw [eS_1]; exact es_1.trans (z_uf B 0 0 zk_0)
  subst es_1
  refine zw_M_findRing rfl (fun r_2 S_2 h => ?_) h
  refine zw_M_within rfl (z_v x1) zk_0 (z_sub (z_v r_2) zk_1) (fun r_3 h => ?_) h
  obtain ⟨g_4, h⟩ := h
  have e_5 := z_eq (z_v r_3) zk_0 g_4 (by decide)
  refine ⟨fun c => ?_, fun c => ?_⟩
  · have h := h.1 (e_5.mp c)
    refine zw_M_wrong rfl zk_1 (fun r_6 S_6 h => ?_) h
    exact z_r (P := fun r9 => post r9 (zS S_6)) (z_v r_6) (hp _ _ h)
  · have h := h.2 (fun c9 => c (e_5.mpr c9))
    obtain ⟨i_7, h⟩ := h
    refine ⟨z_in (z_v x1) i_7 (by decide), ?_⟩
    exact z_r (P := fun r9 => post r9 (zS S_2)) (z_a S_2 21 (z_v x1) (z_rg i_7 (by decide))) (hp _ _ h)
set_option maxRecDepth 10000 in
theorem zwe_M_stuck_168 (B : AA) (s : SS) (es : s = zS B) (x1 : Int) (t1 : Int32) (e1 : t1 = zI x1) {post : Int32 → SS → Prop} {pz : Int → AA → Prop} (hp : ∀ r S, pz r S → post (zI r) (zS S)) (h : ze_M_stuck_168 B x1 pz) : we_M_stuck_168 s t1 post := by
  subst es; subst e1; rw [ze_M_stuck_168] at h; rw [we_M_stuck_168]
  intro s_6 es_6
  obtain ⟨S_6, eS_6⟩ : ∃ w : AA, w = zU B 0 5 ((B 0 5) - 1) := ⟨_, rfl⟩
  have h := h S_6 eS_6
  have es_6 : s_6 = zS S_6 := by rw [eS_6]; exact es_6.trans (z_uf B 0 5 (z_sub (z_f B 0 5) zk_1))
  subst es_6
  obtain ⟨g_7, h⟩ := h
  have e_8 := z_eq (z_v x1) zk_0 g_7 (by decide)
  refine ⟨fun c => ?_, fun c => ?_⟩
  · have h := h.1 (fun c9 => c (e_8.mpr c9))
    exact z_r (P := fun r9 => post r9 (zS S_6)) zk_0 (hp _ _ h)
  · have h := h.2 (e_8.mp c)
    exact z_r (P := fun r9 => post r9 (zS S_6)) zk_1 (hp _ _ h)
set_option maxRecDepth 10000 in
theorem zwl_M_stuck_62 (B : AA) (s : SS) (es : s = zS B) {ex : Int32 → Int32 → Prop} {exz : Int → Int → Prop} (hE : ∀ (y1 : Int) (t1 : Int32), t1 = zI y1 → ∀ (y2 : Int) (t2 : Int32), t2 = zI y2 → exz y1 y2 → ex t1 t2) {post : Int32 → SS → Prop} {pz : Int → AA → Prop} (hp : ∀ r S, pz r S → post (zI r) (zS S)) : ∀ k, ∀ (x1 : Int) (t1 : Int32), t1 = zI x1 → ∀ (x2 : Int) (t2 : Int32), t2 = zI x2 → zl_M_stuck_62 B exz pz k x1 x2 → wl_M_stuck_62 s ex post k t1 t2 := by
  subst es; intro k
  induction k with
  | zero => intro x1 t1 e1 x2 t2 e2 h; rw [zl_M_stuck_62] at h; exact h.elim
  | succ k ih =>
    intro x1 t1 e1 x2 t2 e2 h
    subst e1; subst e2; rw [zl_M_stuck_62] at h; rw [wl_M_stuck_62]
    obtain ⟨g_9, h⟩ := h
    obtain ⟨g_10, h⟩ := h
    have e_11 := z_le (z_add zk_16 (z_mul zk_4 (z_f B 0 3))) (z_v x2) g_10 g_9
    refine ⟨fun c => ?_, fun c => ?_⟩
    · have h := h.1 (e_11.mp c)
      exact hE _ _ (z_v x1) _ _ (z_v x2) h
    · have h := h.2 (fun c9 => c (e_11.mpr c9))
      obtain ⟨g_12, h⟩ := h
      obtain ⟨g_13, h⟩ := h
      have e_14 := z_lt (z_v x2) (z_f B 0 2) g_12 g_13
      refine ⟨fun c => ?_, fun c => ?_⟩
      · have h := h.1 (e_14.mp c)
        refine zw_M_front rfl (z_v x2) (fun r_15 h => ?_) h
        obtain ⟨g_16, h⟩ := h
        have e_17 := z_eq (z_v x1) zk_0 g_16 (by decide)
        refine ⟨fun c => ?_, fun c => ?_⟩
        · have h := h.1 (fun c9 => c (e_17.mpr c9))
          exact ih _ _ zk_1 _ _ (z_add (z_v x2) zk_1) h
        · have h := h.2 (e_17.mp c)
          obtain ⟨g_18, h⟩ := h
          have e_19 := z_lt (z_v r_15) zk_0 g_18 (by decide)
          refine ⟨fun c => ?_, fun c => ?_⟩
          · have h := h.1 (e_19.mp c)
            exact ih _ _ zk_0 _ _ (z_add (z_v x2) zk_1) h
          · have h := h.2 (fun c9 => c (e_19.mpr c9))
            obtain ⟨n_20, h⟩ := h
            obtain ⟨i_21, h⟩ := h
            refine ⟨z_in (z_div (z_v r_15) zk_16 n_20 (by decide)) i_21 (by decide), ?_⟩
            refine zw_M_nodeOf rfl (z_v x2) (fun r_22 h => ?_) h
            obtain ⟨g_23, h⟩ := h
            obtain ⟨g_24, h⟩ := h
            have e_25 := z_eq (z_a B 8 (z_div (z_v r_15) zk_16 n_20 (by decide)) (z_rg i_21 (by decide))) (z_v r_22) g_23 g_24
            refine ⟨fun c => ?_, fun c => ?_⟩
            · have h := h.1 (e_25.mp c)
              exact ih _ _ zk_1 _ _ (z_add (z_v x2) zk_1) h
            · have h := h.2 (fun c9 => c (e_25.mpr c9))
              refine zw_M_wanted rfl (z_v x2) (fun r_26 h => ?_) h
              obtain ⟨g_27, h⟩ := h
              have e_28 := z_lt (z_v r_26) zk_0 g_27 (by decide)
              refine ⟨fun c => ?_, fun c => ?_⟩
              · have h := h.1 (e_28.mp c)
                exact ih _ _ zk_0 _ _ (z_add (z_v x2) zk_1) h
              · have h := h.2 (fun c9 => c (e_28.mpr c9))
                exact ih _ _ zk_1 _ _ (z_add (z_v x2) zk_1) h
      · have h := h.2 (fun c9 => c (e_14.mpr c9))
        obtain ⟨g_29, h⟩ := h
        have e_30 := z_lt (z_v x2) zk_16 g_29 (by decide)
        refine ⟨fun c => ?_, fun c => ?_⟩
        · have h := h.1 (e_30.mp c)
          obtain ⟨g_31, h⟩ := h
          have e_32 := z_eq (z_v x1) zk_0 g_31 (by decide)
          refine ⟨fun c => ?_, fun c => ?_⟩
          · have h := h.1 (fun c9 => c (e_32.mpr c9))
            exact ih _ _ zk_1 _ _ (z_add (z_v x2) zk_1) h
          · have h := h.2 (e_32.mp c)
            exact ih _ _ zk_0 _ _ (z_add (z_v x2) zk_1) h
        · have h := h.2 (fun c9 => c (e_30.mpr c9))
          refine zw_M_isChannel rfl (z_sub (z_v x2) zk_16) (fun r_33 h => ?_) h
          obtain ⟨g_34, h⟩ := h
          have e_35 := z_eq (z_v r_33) zk_0 g_34 (by decide)
          refine ⟨fun c => ?_, fun c => ?_⟩
          · have h := h.1 (e_35.mp c)
            obtain ⟨g_36, h⟩ := h
            have e_37 := z_eq (z_v x1) zk_0 g_36 (by decide)
            refine ⟨fun c => ?_, fun c => ?_⟩
            · have h := h.1 (fun c9 => c (e_37.mpr c9))
              exact ih _ _ zk_1 _ _ (z_add (z_v x2) zk_1) h
            · have h := h.2 (e_37.mp c)
              exact ih _ _ zk_0 _ _ (z_add (z_v x2) zk_1) h
          · have h := h.2 (fun c9 => c (e_35.mpr c9))
            refine zw_M_front rfl (z_v x2) (fun r_38 h => ?_) h
            obtain ⟨g_39, h⟩ := h
            have e_40 := z_eq (z_v x1) zk_0 g_39 (by decide)
            refine ⟨fun c => ?_, fun c => ?_⟩
            · have h := h.1 (fun c9 => c (e_40.mpr c9))
              exact ih _ _ zk_1 _ _ (z_add (z_v x2) zk_1) h
            · have h := h.2 (e_40.mp c)
              obtain ⟨g_41, h⟩ := h
              have e_42 := z_lt (z_v r_38) zk_0 g_41 (by decide)
              refine ⟨fun c => ?_, fun c => ?_⟩
              · have h := h.1 (e_42.mp c)
                exact ih _ _ zk_0 _ _ (z_add (z_v x2) zk_1) h
              · have h := h.2 (fun c9 => c (e_42.mpr c9))
                obtain ⟨n_43, h⟩ := h
                obtain ⟨i_44, h⟩ := h
                refine ⟨z_in (z_div (z_v r_38) zk_16 n_43 (by decide)) i_44 (by decide), ?_⟩
                refine zw_M_nodeOf rfl (z_v x2) (fun r_45 h => ?_) h
                obtain ⟨g_46, h⟩ := h
                obtain ⟨g_47, h⟩ := h
                have e_48 := z_eq (z_a B 8 (z_div (z_v r_38) zk_16 n_43 (by decide)) (z_rg i_44 (by decide))) (z_v r_45) g_46 g_47
                refine ⟨fun c => ?_, fun c => ?_⟩
                · have h := h.1 (e_48.mp c)
                  exact ih _ _ zk_1 _ _ (z_add (z_v x2) zk_1) h
                · have h := h.2 (fun c9 => c (e_48.mpr c9))
                  refine zw_M_wanted rfl (z_v x2) (fun r_49 h => ?_) h
                  obtain ⟨g_50, h⟩ := h
                  have e_51 := z_lt (z_v r_49) zk_0 g_50 (by decide)
                  refine ⟨fun c => ?_, fun c => ?_⟩
                  · have h := h.1 (e_51.mp c)
                    exact ih _ _ zk_0 _ _ (z_add (z_v x2) zk_1) h
                  · have h := h.2 (fun c9 => c (e_51.mpr c9))
                    exact ih _ _ zk_1 _ _ (z_add (z_v x2) zk_1) h
set_option maxRecDepth 10000 in
theorem zwe_M_stuck_60 (B : AA) (s : SS) (es : s = zS B) (x1 : Int) (t1 : Int32) (e1 : t1 = zI x1) {post : Int32 → SS → Prop} {pz : Int → AA → Prop} (hp : ∀ r S, pz r S → post (zI r) (zS S)) (h : ze_M_stuck_60 B x1 pz) : we_M_stuck_60 s t1 post := by
  subst es; subst e1; rw [ze_M_stuck_60] at h; rw [we_M_stuck_60]
  obtain ⟨j9, h⟩ := h
  exact ⟨j9, zwl_M_stuck_62 _ _ rfl (fun y1_52 t1_52 e1_52 y2_52 t2_52 e2_52 h => zwe_M_stuck_168 _ _ rfl _ _ e1_52 hp h) hp j9 _ _ (z_v x1) _ _ zk_0 h⟩
set_option maxRecDepth 10000 in
theorem zwl_M_stuck_28 (B : AA) (s : SS) (es : s = zS B) {ex : Int32 → Int32 → Prop} {exz : Int → Int → Prop} (hE : ∀ (y1 : Int) (t1 : Int32), t1 = zI y1 → ∀ (y2 : Int) (t2 : Int32), t2 = zI y2 → exz y1 y2 → ex t1 t2) {post : Int32 → SS → Prop} {pz : Int → AA → Prop} (hp : ∀ r S, pz r S → post (zI r) (zS S)) : ∀ k, ∀ (x1 : Int) (t1 : Int32), t1 = zI x1 → ∀ (x2 : Int) (t2 : Int32), t2 = zI x2 → zl_M_stuck_28 B exz pz k x1 x2 → wl_M_stuck_28 s ex post k t1 t2 := by
  subst es; intro k
  induction k with
  | zero => intro x1 t1 e1 x2 t2 e2 h; rw [zl_M_stuck_28] at h; exact h.elim
  | succ k ih =>
    intro x1 t1 e1 x2 t2 e2 h
    subst e1; subst e2; rw [zl_M_stuck_28] at h; rw [wl_M_stuck_28]
    obtain ⟨g_53, h⟩ := h
    obtain ⟨g_54, h⟩ := h
    have e_55 := z_le (z_f B 0 3) (z_v x2) g_54 g_53
    refine ⟨fun c => ?_, fun c => ?_⟩
    · have h := h.1 (e_55.mp c)
      exact hE _ _ (z_v x1) _ _ (z_v x2) h
    · have h := h.2 (fun c9 => c (e_55.mpr c9))
      obtain ⟨g_56, h⟩ := h
      have e_57 := z_eq (z_v x1) zk_0 g_56 (by decide)
      refine ⟨fun c => ?_, fun c => ?_⟩
      · have h := h.1 (fun c9 => c (e_57.mpr c9))
        exact ih _ _ zk_1 _ _ (z_add (z_v x2) zk_1) h
      · have h := h.2 (e_57.mp c)
        refine zw_M_mover rfl (z_v x2) (fun r_58 h => ?_) h
        obtain ⟨g_59, h⟩ := h
        have e_60 := z_lt (z_v r_58) zk_0 g_59 (by decide)
        refine ⟨fun c => ?_, fun c => ?_⟩
        · have h := h.1 (e_60.mp c)
          exact ih _ _ zk_0 _ _ (z_add (z_v x2) zk_1) h
        · have h := h.2 (fun c9 => c (e_60.mpr c9))
          exact ih _ _ zk_1 _ _ (z_add (z_v x2) zk_1) h
set_option maxRecDepth 10000 in
theorem zw_M_stuck {B : AA} {s : SS} (es : s = zS B) {post : Int32 → SS → Prop} {pz : Int → AA → Prop} (hp : ∀ r S, pz r S → post (zI r) (zS S)) (h : zp_M_stuck B pz) : wp_M_stuck s post := by
  subst es; rw [zp_M_stuck] at h; rw [wp_M_stuck]
  intro s_1 es_1
  obtain ⟨S_1, eS_1⟩ : ∃ w : AA, w = zU B 0 0 0 := ⟨_, rfl⟩
  have h := h S_1 eS_1
  have es_1 : s_1 = zS S_1 := by rw [eS_1]; exact es_1.trans (z_uf B 0 0 zk_0)
  subst es_1
  refine zw_M_isEmpty rfl (fun r_2 h => ?_) h
  obtain ⟨g_3, h⟩ := h
  have e_4 := z_eq (z_v r_2) zk_0 g_3 (by decide)
  refine ⟨fun c => ?_, fun c => ?_⟩
  · have h := h.1 (e_4.mp c)
    intro s_5 es_5
    obtain ⟨S_5, eS_5⟩ : ∃ w : AA, w = zU S_1 0 5 ((S_1 0 5) + 1) := ⟨_, rfl⟩
    have h := h S_5 eS_5
    have es_5 : s_5 = zS S_5 := by rw [eS_5]; exact es_5.trans (z_uf S_1 0 5 (z_add (z_f S_1 0 5) zk_1))
    subst es_5
    obtain ⟨j9, h⟩ := h
    exact ⟨j9, zwl_M_stuck_28 _ _ rfl (fun y1_61 t1_61 e1_61 y2_61 t2_61 e2_61 h => zwe_M_stuck_60 _ _ rfl _ _ e1_61 hp h) hp j9 _ _ zk_0 _ _ zk_0 h⟩
  · have h := h.2 (fun c9 => c (e_4.mpr c9))
    exact z_r (P := fun r9 => post r9 (zS S_1)) zk_0 (hp _ _ h)
set_option maxRecDepth 10000 in
theorem zwe_M_hasWay_55 (B : AA) (s : SS) (es : s = zS B) (x2 : Int) (t2 : Int32) (e2 : t2 = zI x2) (x3 : Int) (t3 : Int32) (e3 : t3 = zI x3) {post : Int32 → Prop} {pz : Int → Prop} (hp : ∀ r, pz r → post (zI r)) (h : ze_M_hasWay_55 B x2 x3 pz) : we_M_hasWay_55 s t2 t3 post := by
  subst es; subst e2; subst e3; rw [ze_M_hasWay_55] at h; rw [we_M_hasWay_55]
  obtain ⟨g_1, h⟩ := h
  obtain ⟨g_2, h⟩ := h
  have e_3 := z_eq (z_v x3) (z_v x2) g_1 g_2
  refine ⟨fun c => ?_, fun c => ?_⟩
  · have h := h.1 (fun c9 => c (e_3.mpr c9))
    exact z_r (P := post) zk_0 (hp _ h)
  · have h := h.2 (e_3.mp c)
    exact z_r (P := post) zk_1 (hp _ h)
set_option maxRecDepth 10000 in
theorem zwl_M_hasWay_5 (B : AA) (s : SS) (es : s = zS B) (x2 : Int) (t2 : Int32) (e2 : t2 = zI x2) {ex : Int32 → Int32 → Prop} {exz : Int → Int → Prop} (hE : ∀ (y3 : Int) (t3 : Int32), t3 = zI y3 → ∀ (y4 : Int) (t4 : Int32), t4 = zI y4 → exz y3 y4 → ex t3 t4) {post : Int32 → Prop} {pz : Int → Prop} (hp : ∀ r, pz r → post (zI r)) : ∀ k, ∀ (x3 : Int) (t3 : Int32), t3 = zI x3 → ∀ (x4 : Int) (t4 : Int32), t4 = zI x4 → zl_M_hasWay_5 B x2 exz pz k x3 x4 → wl_M_hasWay_5 s t2 ex post k t3 t4 := by
  subst es; subst e2; intro k
  induction k with
  | zero => intro x3 t3 e3 x4 t4 e4 h; rw [zl_M_hasWay_5] at h; exact h.elim
  | succ k ih =>
    intro x3 t3 e3 x4 t4 e4 h
    subst e3; subst e4; rw [zl_M_hasWay_5] at h; rw [wl_M_hasWay_5]
    obtain ⟨g_4, h⟩ := h
    obtain ⟨g_5, h⟩ := h
    have e_6 := z_le (z_f B 0 2) (z_v x4) g_5 g_4
    refine ⟨fun c => ?_, fun c => ?_⟩
    · have h := h.1 (e_6.mp c)
      exact hE _ _ (z_v x3) _ _ (z_v x4) h
    · have h := h.2 (fun c9 => c (e_6.mpr c9))
      obtain ⟨g_7, h⟩ := h
      obtain ⟨g_8, h⟩ := h
      have e_9 := z_eq (z_v x3) (z_v x2) g_7 g_8
      refine ⟨fun c => ?_, fun c => ?_⟩
      · have h := h.1 (e_9.mp c)
        exact hE _ _ (z_v x3) _ _ (z_v x4) h
      · have h := h.2 (fun c9 => c (e_9.mpr c9))
        obtain ⟨i_10, h⟩ := h
        refine ⟨z_in (z_add (z_mul zk_16 (z_v x3)) (z_v x2)) i_10 (by decide), ?_⟩
        intro t_11 et_11
        obtain ⟨v_11, ev_11⟩ : ∃ w : Int, w = B 6 ((16 * x3) + x2).toNat := ⟨_, rfl⟩
        have h := h v_11 ev_11
        have et_11 : t_11 = zI v_11 := by rw [ev_11]; exact et_11.trans (z_a B 6 (z_add (z_mul zk_16 (z_v x3)) (z_v x2)) (z_rg i_10 (by decide)))
        subst et_11
        obtain ⟨g_12, h⟩ := h
        have e_13 := z_le zk_0 (z_v v_11) (by decide) g_12
        refine ⟨fun c => ?_, fun c => ?_⟩
        · have h := h.1 (e_13.mp c)
          obtain ⟨n_14, h⟩ := h
          obtain ⟨i_15, h⟩ := h
          refine ⟨z_in (z_div (z_v v_11) zk_4 n_14 (by decide)) i_15 (by decide), ?_⟩
          intro t_16 et_16
          obtain ⟨v_16, ev_16⟩ : ∃ w : Int, w = B 2 (v_11 / 4).toNat := ⟨_, rfl⟩
          have h := h v_16 ev_16
          have et_16 : t_16 = zI v_16 := by rw [ev_16]; exact et_16.trans (z_a B 2 (z_div (z_v v_11) zk_4 n_14 (by decide)) (z_rg i_15 (by decide)))
          subst et_16
          exact ih _ _ (z_v v_16) _ _ (z_add (z_v x4) zk_1) h
        · have h := h.2 (fun c9 => c (e_13.mpr c9))
          exact z_r (P := post) zk_0 (hp _ h)
set_option maxRecDepth 10000 in
theorem zw_M_hasWay {B : AA} {s : SS} {x1 : Int} {t1 : Int32} {x2 : Int} {t2 : Int32} (es : s = zS B) (e1 : t1 = zI x1) (e2 : t2 = zI x2) {post : Int32 → Prop} {pz : Int → Prop} (hp : ∀ r, pz r → post (zI r)) (h : zp_M_hasWay B x1 x2 pz) : wp_M_hasWay s t1 t2 post := by
  subst es; subst e1; subst e2; rw [zp_M_hasWay] at h; rw [wp_M_hasWay]
  obtain ⟨j9, h⟩ := h
  exact ⟨j9, zwl_M_hasWay_5 _ _ rfl _ _ (z_v x2) (fun y3_17 t3_17 e3_17 y4_17 t4_17 e4_17 h => zwe_M_hasWay_55 _ _ rfl _ _ (z_v x2) _ _ e3_17 hp h) hp j9 _ _ (z_v x1) _ _ zk_0 h⟩
set_option maxRecDepth 10000 in
theorem zwe_M_count_200 (B : AA) (s : SS) (es : s = zS B) (x2 : Int) (t2 : Int32) (e2 : t2 = zI x2) {post : Int32 → SS → Prop} {pz : Int → AA → Prop} (hp : ∀ r S, pz r S → post (zI r) (zS S)) (h : ze_M_count_200 B x2 pz) : we_M_count_200 s t2 post := by
  subst es; subst e2; rw [ze_M_count_200] at h; rw [we_M_count_200]
  exact z_r (P := fun r9 => post r9 (zS B)) (z_v x2) (hp _ _ h)
set_option maxRecDepth 10000 in
theorem zwe_M_count_194 (B : AA) (s : SS) (es : s = zS B) (x2 : Int) (t2 : Int32) (e2 : t2 = zI x2) (x3 : Int) (t3 : Int32) (e3 : t3 = zI x3) {ag : Int32 → Int32 → Prop} {agz : Int → Int → Prop} (hA : ∀ (y2 : Int) (t2 : Int32), t2 = zI y2 → ∀ (y3 : Int) (t3 : Int32), t3 = zI y3 → agz y2 y3 → ag t2 t3) {ex : Int32 → Int32 → Prop} {exz : Int → Int → Prop} (hE : ∀ (y2 : Int) (t2 : Int32), t2 = zI y2 → ∀ (y3 : Int) (t3 : Int32), t3 = zI y3 → exz y2 y3 → ex t2 t3) {post : Int32 → SS → Prop} {pz : Int → AA → Prop} (hp : ∀ r S, pz r S → post (zI r) (zS S)) (h : ze_M_count_194 B x2 x3 agz exz pz) : we_M_count_194 s t2 t3 ag ex post := by
  subst es; subst e2; subst e3; rw [ze_M_count_194] at h; rw [we_M_count_194]
  exact hA _ _ (z_v x2) _ _ (z_add (z_v x3) zk_1) h
set_option maxRecDepth 10000 in
theorem zwl_M_count_155 (B : AA) (s : SS) (es : s = zS B) (x3 : Int) (t3 : Int32) (e3 : t3 = zI x3) {ex : Int32 → Int32 → Prop} {exz : Int → Int → Prop} (hE : ∀ (y2 : Int) (t2 : Int32), t2 = zI y2 → ∀ (y4 : Int) (t4 : Int32), t4 = zI y4 → exz y2 y4 → ex t2 t4) {post : Int32 → SS → Prop} {pz : Int → AA → Prop} (hp : ∀ r S, pz r S → post (zI r) (zS S)) : ∀ k, ∀ (x2 : Int) (t2 : Int32), t2 = zI x2 → ∀ (x4 : Int) (t4 : Int32), t4 = zI x4 → zl_M_count_155 B x3 exz pz k x2 x4 → wl_M_count_155 s t3 ex post k t2 t4 := by
  subst es; subst e3; intro k
  induction k with
  | zero => intro x2 t2 e2 x4 t4 e4 h; rw [zl_M_count_155] at h; exact h.elim
  | succ k ih =>
    intro x2 t2 e2 x4 t4 e4 h
    subst e2; subst e4; rw [zl_M_count_155] at h; rw [wl_M_count_155]
    obtain ⟨g_18, h⟩ := h
    obtain ⟨g_19, h⟩ := h
    have e_20 := z_le (z_f B 0 2) (z_v x4) g_19 g_18
    refine ⟨fun c => ?_, fun c => ?_⟩
    · have h := h.1 (e_20.mp c)
      exact hE _ _ (z_v x2) _ _ (z_v x4) h
    · have h := h.2 (fun c9 => c (e_20.mpr c9))
      obtain ⟨g_21, h⟩ := h
      obtain ⟨g_22, h⟩ := h
      have e_23 := z_eq (z_v x3) (z_v x4) g_21 g_22
      refine ⟨fun c => ?_, fun c => ?_⟩
      · have h := h.1 (e_23.mp c)
        intro t_24 et_24
        obtain ⟨v_24, ev_24⟩ : ∃ w : Int, w = x2 + 0 := ⟨_, rfl⟩
        have h := h v_24 ev_24
        have et_24 : t_24 = zI v_24 := by rw [ev_24]; exact et_24.trans (z_add (z_v x2) zk_0)
        subst et_24
        exact ih _ _ (z_v v_24) _ _ (z_add (z_v x4) zk_1) h
      · have h := h.2 (fun c9 => c (e_23.mpr c9))
        refine zw_M_hasWay rfl (z_v x3) (z_v x4) (fun r_25 h => ?_) h
        obtain ⟨g_26, h⟩ := h
        have e_27 := z_eq (z_v r_25) zk_0 g_26 (by decide)
        refine ⟨fun c => ?_, fun c => ?_⟩
        · have h := h.1 (fun c9 => c (e_27.mpr c9))
          intro t_28 et_28
          obtain ⟨v_28, ev_28⟩ : ∃ w : Int, w = x2 + 0 := ⟨_, rfl⟩
          have h := h v_28 ev_28
          have et_28 : t_28 = zI v_28 := by rw [ev_28]; exact et_28.trans (z_add (z_v x2) zk_0)
          subst et_28
          exact ih _ _ (z_v v_28) _ _ (z_add (z_v x4) zk_1) h
        · have h := h.2 (e_27.mp c)
          intro t_29 et_29
          obtain ⟨v_29, ev_29⟩ : ∃ w : Int, w = x2 + 1 := ⟨_, rfl⟩
          have h := h v_29 ev_29
          have et_29 : t_29 = zI v_29 := by rw [ev_29]; exact et_29.trans (z_add (z_v x2) zk_1)
          subst et_29
          exact ih _ _ (z_v v_29) _ _ (z_add (z_v x4) zk_1) h
set_option maxRecDepth 10000 in
theorem zwl_M_count_144 (B : AA) (s : SS) (es : s = zS B) {ex : Int32 → Int32 → Prop} {exz : Int → Int → Prop} (hE : ∀ (y2 : Int) (t2 : Int32), t2 = zI y2 → ∀ (y3 : Int) (t3 : Int32), t3 = zI y3 → exz y2 y3 → ex t2 t3) {post : Int32 → SS → Prop} {pz : Int → AA → Prop} (hp : ∀ r S, pz r S → post (zI r) (zS S)) : ∀ k, ∀ (x2 : Int) (t2 : Int32), t2 = zI x2 → ∀ (x3 : Int) (t3 : Int32), t3 = zI x3 → zl_M_count_144 B exz pz k x2 x3 → wl_M_count_144 s ex post k t2 t3 := by
  subst es; intro k
  induction k with
  | zero => intro x2 t2 e2 x3 t3 e3 h; rw [zl_M_count_144] at h; exact h.elim
  | succ k ih =>
    intro x2 t2 e2 x3 t3 e3 h
    subst e2; subst e3; rw [zl_M_count_144] at h; rw [wl_M_count_144]
    obtain ⟨g_15, h⟩ := h
    obtain ⟨g_16, h⟩ := h
    have e_17 := z_le (z_f B 0 2) (z_v x3) g_16 g_15
    refine ⟨fun c => ?_, fun c => ?_⟩
    · have h := h.1 (e_17.mp c)
      exact hE _ _ (z_v x2) _ _ (z_v x3) h
    · have h := h.2 (fun c9 => c (e_17.mpr c9))
      obtain ⟨j9, h⟩ := h
      exact ⟨j9, zwl_M_count_155 _ _ rfl _ _ (z_v x3) (fun y2_30 t2_30 e2_30 y4_30 t4_30 e4_30 h => zwe_M_count_194 _ _ rfl _ _ e2_30 _ _ (z_v x3) ih hE hp h) hp j9 _ _ (z_v x2) _ _ zk_0 h⟩
set_option maxRecDepth 10000 in
theorem zwe_M_count_139 (B : AA) (s : SS) (es : s = zS B) (x2 : Int) (t2 : Int32) (e2 : t2 = zI x2) {post : Int32 → SS → Prop} {pz : Int → AA → Prop} (hp : ∀ r S, pz r S → post (zI r) (zS S)) (h : ze_M_count_139 B x2 pz) : we_M_count_139 s t2 post := by
  subst es; subst e2; rw [ze_M_count_139] at h; rw [we_M_count_139]
  exact z_r (P := fun r9 => post r9 (zS B)) (z_v x2) (hp _ _ h)
set_option maxRecDepth 10000 in
theorem zwl_M_count_114 (B : AA) (s : SS) (es : s = zS B) (x1 : Int) (t1 : Int32) (e1 : t1 = zI x1) {ex : Int32 → Int32 → Prop} {exz : Int → Int → Prop} (hE : ∀ (y2 : Int) (t2 : Int32), t2 = zI y2 → ∀ (y3 : Int) (t3 : Int32), t3 = zI y3 → exz y2 y3 → ex t2 t3) {post : Int32 → SS → Prop} {pz : Int → AA → Prop} (hp : ∀ r S, pz r S → post (zI r) (zS S)) : ∀ k, ∀ (x2 : Int) (t2 : Int32), t2 = zI x2 → ∀ (x3 : Int) (t3 : Int32), t3 = zI x3 → zl_M_count_114 B x1 exz pz k x2 x3 → wl_M_count_114 s t1 ex post k t2 t3 := by
  subst es; subst e1; intro k
  induction k with
  | zero => intro x2 t2 e2 x3 t3 e3 h; rw [zl_M_count_114] at h; exact h.elim
  | succ k ih =>
    intro x2 t2 e2 x3 t3 e3 h
    subst e2; subst e3; rw [zl_M_count_114] at h; rw [wl_M_count_114]
    obtain ⟨g_32, h⟩ := h
    obtain ⟨g_33, h⟩ := h
    have e_34 := z_le (z_f B 0 4) (z_v x3) g_33 g_32
    refine ⟨fun c => ?_, fun c => ?_⟩
    · have h := h.1 (e_34.mp c)
      exact hE _ _ (z_v x2) _ _ (z_v x3) h
    · have h := h.2 (fun c9 => c (e_34.mpr c9))
      refine zw_M_flitsIn rfl (z_v x3) (z_sub (z_v x1) zk_4) (fun r_35 h => ?_) h
      intro t_36 et_36
      obtain ⟨v_36, ev_36⟩ : ∃ w : Int, w = x2 + r_35 := ⟨_, rfl⟩
      have h := h v_36 ev_36
      have et_36 : t_36 = zI v_36 := by rw [ev_36]; exact et_36.trans (z_add (z_v x2) (z_v r_35))
      subst et_36
      exact ih _ _ (z_v v_36) _ _ (z_add (z_v x3) zk_1) h
set_option maxRecDepth 10000 in
theorem zw_M_count {B : AA} {s : SS} {x1 : Int} {t1 : Int32} (es : s = zS B) (e1 : t1 = zI x1) {post : Int32 → SS → Prop} {pz : Int → AA → Prop} (hp : ∀ r S, pz r S → post (zI r) (zS S)) (h : zp_M_count B x1 pz) : wp_M_count s t1 post := by
  subst es; subst e1; rw [zp_M_count] at h; rw [wp_M_count]
  intro s_1 es_1
  obtain ⟨S_1, eS_1⟩ : ∃ w : AA, w = zU B 0 0 0 := ⟨_, rfl⟩
  have h := h S_1 eS_1
  have es_1 : s_1 = zS S_1 := by rw [eS_1]; exact es_1.trans (z_uf B 0 0 zk_0)
  subst es_1
  refine zw_M_within rfl (z_v x1) zk_0 zk_9 (fun r_2 h => ?_) h
  obtain ⟨g_3, h⟩ := h
  have e_4 := z_eq (z_v r_2) zk_0 g_3 (by decide)
  refine ⟨fun c => ?_, fun c => ?_⟩
  · have h := h.1 (fun c9 => c (e_4.mpr c9))
    obtain ⟨g_5, h⟩ := h
    have e_6 := z_le zk_5 (z_v x1) (by decide) g_5
    refine ⟨fun c => ?_, fun c => ?_⟩
    · have h := h.1 (e_6.mp c)
      obtain ⟨g_7, h⟩ := h
      have e_8 := z_eq (z_v x1) zk_7 g_7 (by decide)
      refine ⟨fun c => ?_, fun c => ?_⟩
      · have h := h.1 (e_8.mp c)
        obtain ⟨g_9, h⟩ := h
        have e_10 := z_eq (z_v x1) zk_7 g_9 (by decide)
        refine ⟨fun c => ?_, fun c => ?_⟩
        · have h := h.1 (fun c9 => c (e_10.mpr c9))
          exact z_r (P := fun r9 => post r9 (zS S_1)) (z_f S_1 0 7) (hp _ _ h)
        · have h := h.2 (e_10.mp c)
          exact z_r (P := fun r9 => post r9 (zS S_1)) (z_f S_1 0 6) (hp _ _ h)
      · have h := h.2 (fun c9 => c (e_8.mpr c9))
        obtain ⟨g_11, h⟩ := h
        have e_12 := z_eq (z_v x1) zk_8 g_11 (by decide)
        refine ⟨fun c => ?_, fun c => ?_⟩
        · have h := h.1 (fun c9 => c (e_12.mpr c9))
          obtain ⟨g_13, h⟩ := h
          have e_14 := z_le zk_7 (z_v x1) (by decide) g_13
          refine ⟨fun c => ?_, fun c => ?_⟩
          · have h := h.1 (e_14.mp c)
            obtain ⟨j9, h⟩ := h
            exact ⟨j9, zwl_M_count_144 _ _ rfl (fun y2_31 t2_31 e2_31 y3_31 t3_31 e3_31 h => zwe_M_count_200 _ _ rfl _ _ e2_31 hp h) hp j9 _ _ zk_0 _ _ zk_0 h⟩
          · have h := h.2 (fun c9 => c (e_14.mpr c9))
            obtain ⟨j9, h⟩ := h
            exact ⟨j9, zwl_M_count_114 _ _ rfl _ _ (z_v x1) (fun y2_37 t2_37 e2_37 y3_37 t3_37 e3_37 h => zwe_M_count_139 _ _ rfl _ _ e2_37 hp h) hp j9 _ _ zk_0 _ _ zk_0 h⟩
        · have h := h.2 (e_12.mp c)
          obtain ⟨g_38, h⟩ := h
          have e_39 := z_eq (z_v x1) zk_7 g_38 (by decide)
          refine ⟨fun c => ?_, fun c => ?_⟩
          · have h := h.1 (fun c9 => c (e_39.mpr c9))
            exact z_r (P := fun r9 => post r9 (zS S_1)) (z_f S_1 0 7) (hp _ _ h)
          · have h := h.2 (e_39.mp c)
            exact z_r (P := fun r9 => post r9 (zS S_1)) (z_f S_1 0 6) (hp _ _ h)
    · have h := h.2 (fun c9 => c (e_6.mpr c9))
      obtain ⟨g_40, h⟩ := h
      have e_41 := z_eq (z_v x1) zk_0 g_40 (by decide)
      refine ⟨fun c => ?_, fun c => ?_⟩
      · have h := h.1 (fun c9 => c (e_41.mpr c9))
        obtain ⟨g_42, h⟩ := h
        have e_43 := z_eq (z_v x1) zk_1 g_42 (by decide)
        refine ⟨fun c => ?_, fun c => ?_⟩
        · have h := h.1 (fun c9 => c (e_43.mpr c9))
          obtain ⟨g_44, h⟩ := h
          have e_45 := z_eq (z_v x1) zk_2 g_44 (by decide)
          refine ⟨fun c => ?_, fun c => ?_⟩
          · have h := h.1 (fun c9 => c (e_45.mpr c9))
            obtain ⟨g_46, h⟩ := h
            have e_47 := z_eq (z_v x1) zk_3 g_46 (by decide)
            refine ⟨fun c => ?_, fun c => ?_⟩
            · have h := h.1 (fun c9 => c (e_47.mpr c9))
              exact z_r (P := fun r9 => post r9 (zS S_1)) (z_f S_1 0 5) (hp _ _ h)
            · have h := h.2 (e_47.mp c)
              exact z_r (P := fun r9 => post r9 (zS S_1)) (z_f S_1 0 8) (hp _ _ h)
          · have h := h.2 (e_45.mp c)
            exact z_r (P := fun r9 => post r9 (zS S_1)) (z_f S_1 0 4) (hp _ _ h)
        · have h := h.2 (e_43.mp c)
          exact z_r (P := fun r9 => post r9 (zS S_1)) (z_f S_1 0 3) (hp _ _ h)
      · have h := h.2 (e_41.mp c)
        exact z_r (P := fun r9 => post r9 (zS S_1)) (z_f S_1 0 2) (hp _ _ h)
  · have h := h.2 (e_4.mp c)
    exact z_r (P := fun r9 => post r9 (zS S_1)) zk_m1 (hp _ _ h)
