set_option maxRecDepth 10000 in
theorem zw_CN_node {B : AA} {s : SS} (es : s = zS B) {post : Int32 → SS → Prop} {pz : Int → AA → Prop} (hp : ∀ r S, pz r S → post (zI r) (zS S)) {xp : String → SS → Prop} {xz : String → AA → Prop} (hx : ∀ E S, xz E S → xp E (zS S)) (h : zp_CN_node B pz xz) : wp_CN_node s post xp := by
  subst es; rw [zp_CN_node] at h; rw [wp_CN_node]
  obtain ⟨g_1, h⟩ := h
  have e_2 := z_lt (z_f B 1 0) zk_16 g_1 (by decide)
  refine ⟨fun c => ?_, fun c => ?_⟩
  · have h := h.1 (e_2.mp c)
    intro s_3 es_3
    obtain ⟨S_3, eS_3⟩ : ∃ w : AA, w = zU B 1 0 ((B 1 0) + 1) := ⟨_, rfl⟩
    have h := h S_3 eS_3
    have es_3 : s_3 = zS S_3 := by rw [eS_3]; exact es_3.trans (z_uf B 1 0 (z_add (z_f B 1 0) zk_1))
    subst es_3
    exact z_r (P := fun r9 => post r9 (zS S_3)) (z_sub (z_f S_3 1 0) zk_1) (hp _ _ h)
  · have h := h.2 (fun c9 => c (e_2.mpr c9))
    exact hx _ _ h
set_option maxRecDepth 10000 in
theorem zw_CP_hasNode {B : AA} {s : SS} {x1 : Int} {t1 : Int32} (es : s = zS B) (e1 : t1 = zI x1) {post : Int32 → Prop} {pz : Int → Prop} (hp : ∀ r, pz r → post (zI r)) (h : zp_CP_hasNode B x1 pz) : wp_CP_hasNode s t1 post := by
  subst es; subst e1; rw [zp_CP_hasNode] at h; rw [wp_CP_hasNode]
  obtain ⟨g_1, h⟩ := h
  have e_2 := z_lt (z_v x1) zk_0 g_1 (by decide)
  refine ⟨fun c => ?_, fun c => ?_⟩
  · have h := h.1 (e_2.mp c)
    exact z_r (P := post) zk_0 (hp _ h)
  · have h := h.2 (fun c9 => c (e_2.mpr c9))
    obtain ⟨g_3, h⟩ := h
    obtain ⟨g_4, h⟩ := h
    have e_5 := z_le (z_f B 1 0) (z_v x1) g_4 g_3
    refine ⟨fun c => ?_, fun c => ?_⟩
    · have h := h.1 (e_5.mp c)
      exact z_r (P := post) zk_0 (hp _ h)
    · have h := h.2 (fun c9 => c (e_5.mpr c9))
      exact z_r (P := post) zk_1 (hp _ h)
set_option maxRecDepth 10000 in
theorem zw_CP_hasTwoNodes {B : AA} {s : SS} {x1 : Int} {t1 : Int32} {x2 : Int} {t2 : Int32} (es : s = zS B) (e1 : t1 = zI x1) (e2 : t2 = zI x2) {post : Int32 → Prop} {pz : Int → Prop} (hp : ∀ r, pz r → post (zI r)) (h : zp_CP_hasTwoNodes B x1 x2 pz) : wp_CP_hasTwoNodes s t1 t2 post := by
  subst es; subst e1; subst e2; rw [zp_CP_hasTwoNodes] at h; rw [wp_CP_hasTwoNodes]
  refine zw_CP_hasNode rfl (z_v x1) (fun r_1 h => ?_) h
  obtain ⟨g_2, h⟩ := h
  have e_3 := z_eq (z_v r_1) zk_0 g_2 (by decide)
  refine ⟨fun c => ?_, fun c => ?_⟩
  · have h := h.1 (e_3.mp c)
    exact z_r (P := post) zk_0 (hp _ h)
  · have h := h.2 (fun c9 => c (e_3.mpr c9))
    refine zw_CP_hasNode rfl (z_v x2) (fun r_4 h => ?_) h
    obtain ⟨g_5, h⟩ := h
    have e_6 := z_eq (z_v r_4) zk_0 g_5 (by decide)
    refine ⟨fun c => ?_, fun c => ?_⟩
    · have h := h.1 (e_6.mp c)
      exact z_r (P := post) zk_0 (hp _ h)
    · have h := h.2 (fun c9 => c (e_6.mpr c9))
      obtain ⟨g_7, h⟩ := h
      obtain ⟨g_8, h⟩ := h
      have e_9 := z_eq (z_v x1) (z_v x2) g_7 g_8
      refine ⟨fun c => ?_, fun c => ?_⟩
      · have h := h.1 (e_9.mp c)
        exact z_r (P := post) zk_0 (hp _ h)
      · have h := h.2 (fun c9 => c (e_9.mpr c9))
        exact z_r (P := post) zk_1 (hp _ h)
set_option maxRecDepth 10000 in
theorem zw_CP_addLink {B : AA} {s : SS} {x1 : Int} {t1 : Int32} {x2 : Int} {t2 : Int32} {x3 : Int} {t3 : Int32} (es : s = zS B) (e1 : t1 = zI x1) (e2 : t2 = zI x2) (e3 : t3 = zI x3) {post : Int32 → SS → Prop} {pz : Int → AA → Prop} (hp : ∀ r S, pz r S → post (zI r) (zS S)) (h : zp_CP_addLink B x1 x2 x3 pz) : wp_CP_addLink s t1 t2 t3 post := by
  subst es; subst e1; subst e2; subst e3; rw [zp_CP_addLink] at h; rw [wp_CP_addLink]
  intro t_1 et_1
  obtain ⟨v_1, ev_1⟩ : ∃ w : Int, w = B 1 1 := ⟨_, rfl⟩
  have h := h v_1 ev_1
  have et_1 : t_1 = zI v_1 := by rw [ev_1]; exact et_1.trans (z_f B 1 1)
  subst et_1
  obtain ⟨i_2, h⟩ := h
  refine ⟨z_in (z_v v_1) i_2 (by decide), ?_⟩
  intro s_3 es_3
  obtain ⟨S_3, eS_3⟩ : ∃ w : AA, w = zU B 6 v_1.toNat x1 := ⟨_, rfl⟩
  have h := h S_3 eS_3
  have es_3 : s_3 = zS S_3 := by rw [eS_3]; exact es_3.trans (z_ua B 6 (z_v v_1) (z_rg i_2 (by decide)) (z_v x1))
  subst es_3
  obtain ⟨i_4, h⟩ := h
  refine ⟨z_in (z_v v_1) i_4 (by decide), ?_⟩
  intro s_5 es_5
  obtain ⟨S_5, eS_5⟩ : ∃ w : AA, w = zU S_3 7 v_1.toNat x2 := ⟨_, rfl⟩
  have h := h S_5 eS_5
  have es_5 : s_5 = zS S_5 := by rw [eS_5]; exact es_5.trans (z_ua S_3 7 (z_v v_1) (z_rg i_4 (by decide)) (z_v x2))
  subst es_5
  obtain ⟨i_6, h⟩ := h
  refine ⟨z_in (z_v v_1) i_6 (by decide), ?_⟩
  intro s_7 es_7
  obtain ⟨S_7, eS_7⟩ : ∃ w : AA, w = zU S_5 8 v_1.toNat x3 := ⟨_, rfl⟩
  have h := h S_7 eS_7
  have es_7 : s_7 = zS S_7 := by rw [eS_7]; exact es_7.trans (z_ua S_5 8 (z_v v_1) (z_rg i_6 (by decide)) (z_v x3))
  subst es_7
  intro s_8 es_8
  obtain ⟨S_8, eS_8⟩ : ∃ w : AA, w = zU S_7 1 1 ((S_7 1 1) + 1) := ⟨_, rfl⟩
  have h := h S_8 eS_8
  have es_8 : s_8 = zS S_8 := by rw [eS_8]; exact es_8.trans (z_uf S_7 1 1 (z_add (z_f S_7 1 1) zk_1))
  subst es_8
  exact z_r (P := fun r9 => post r9 (zS S_8)) (z_v v_1) (hp _ _ h)
set_option maxRecDepth 10000 in
theorem zw_CN_link {B : AA} {s : SS} {x1 : Int} {t1 : Int32} {x2 : Int} {t2 : Int32} {x3 : Int} {t3 : Int32} (es : s = zS B) (e1 : t1 = zI x1) (e2 : t2 = zI x2) (e3 : t3 = zI x3) {post : Int32 → SS → Prop} {pz : Int → AA → Prop} (hp : ∀ r S, pz r S → post (zI r) (zS S)) {xp : String → SS → Prop} {xz : String → AA → Prop} (hx : ∀ E S, xz E S → xp E (zS S)) (h : zp_CN_link B x1 x2 x3 pz xz) : wp_CN_link s t1 t2 t3 post xp := by
  subst es; subst e1; subst e2; subst e3; rw [zp_CN_link] at h; rw [wp_CN_link]
  refine zw_CP_hasTwoNodes rfl (z_v x1) (z_v x2) (fun r_1 h => ?_) h
  obtain ⟨g_2, h⟩ := h
  have e_3 := z_eq (z_v r_1) zk_0 g_2 (by decide)
  refine ⟨fun c => ?_, fun c => ?_⟩
  · have h := h.1 (fun c9 => c (e_3.mpr c9))
    obtain ⟨g_4, h⟩ := h
    have e_5 := z_lt (z_v x3) zk_1 g_4 (by decide)
    refine ⟨fun c => ?_, fun c => ?_⟩
    · have h := h.1 (e_5.mp c)
      exact hx _ _ h
    · have h := h.2 (fun c9 => c (e_5.mpr c9))
      obtain ⟨g_6, h⟩ := h
      have e_7 := z_le (z_v x3) zk_4 g_6 (by decide)
      refine ⟨fun c => ?_, fun c => ?_⟩
      · have h := h.1 (e_7.mp c)
        obtain ⟨g_8, h⟩ := h
        have e_9 := z_lt (z_f B 1 1) zk_40 g_8 (by decide)
        refine ⟨fun c => ?_, fun c => ?_⟩
        · have h := h.1 (e_9.mp c)
          refine zw_CP_addLink rfl (z_v x1) (z_v x2) (z_v x3) (fun r_10 S_10 h => ?_) h
          exact z_r (P := fun r9 => post r9 (zS S_10)) (z_v r_10) (hp _ _ h)
        · have h := h.2 (fun c9 => c (e_9.mpr c9))
          exact hx _ _ h
      · have h := h.2 (fun c9 => c (e_7.mpr c9))
        exact hx _ _ h
  · have h := h.2 (e_3.mp c)
    exact hx _ _ h
set_option maxRecDepth 10000 in
theorem zw_CP_wayAt {B : AA} {s : SS} {x1 : Int} {t1 : Int32} {x2 : Int} {t2 : Int32} (es : s = zS B) (e1 : t1 = zI x1) (e2 : t2 = zI x2) {post : Int32 → Prop} {pz : Int → Prop} (hp : ∀ r, pz r → post (zI r)) (h : zp_CP_wayAt B x1 x2 pz) : wp_CP_wayAt s t1 t2 post := by
  subst es; subst e1; subst e2; rw [zp_CP_wayAt] at h; rw [wp_CP_wayAt]
  obtain ⟨i_1, h⟩ := h
  refine ⟨z_in (z_add (z_mul (z_v x1) zk_16) (z_v x2)) i_1 (by decide), ?_⟩
  exact z_r (P := post) (z_a B 10 (z_add (z_mul (z_v x1) zk_16) (z_v x2)) (z_rg i_1 (by decide))) (hp _ h)
set_option maxRecDepth 10000 in
theorem zw_CP_changeWay {B : AA} {s : SS} {x1 : Int} {t1 : Int32} {x2 : Int} {t2 : Int32} {x3 : Int} {t3 : Int32} (es : s = zS B) (e1 : t1 = zI x1) (e2 : t2 = zI x2) (e3 : t3 = zI x3) {post : SS → Prop} {pz : AA → Prop} (hp : ∀ S, pz S → post (zS S)) (h : zp_CP_changeWay B x1 x2 x3 pz) : wp_CP_changeWay s t1 t2 t3 post := by
  subst es; subst e1; subst e2; subst e3; rw [zp_CP_changeWay] at h; rw [wp_CP_changeWay]
  obtain ⟨i_1, h⟩ := h
  refine ⟨z_in (z_add (z_mul (z_v x1) zk_16) (z_v x2)) i_1 (by decide), ?_⟩
  intro s_2 es_2
  obtain ⟨S_2, eS_2⟩ : ∃ w : AA, w = zU B 10 ((x1 * 16) + x2).toNat x3 := ⟨_, rfl⟩
  have h := h S_2 eS_2
  have es_2 : s_2 = zS S_2 := by rw [eS_2]; exact es_2.trans (z_ua B 10 (z_add (z_mul (z_v x1) zk_16) (z_v x2)) (z_rg i_1 (by decide)) (z_v x3))
  subst es_2
  exact hp _ h
set_option maxRecDepth 10000 in
theorem zw_CP_hasLink {B : AA} {s : SS} {x1 : Int} {t1 : Int32} (es : s = zS B) (e1 : t1 = zI x1) {post : Int32 → Prop} {pz : Int → Prop} (hp : ∀ r, pz r → post (zI r)) (h : zp_CP_hasLink B x1 pz) : wp_CP_hasLink s t1 post := by
  subst es; subst e1; rw [zp_CP_hasLink] at h; rw [wp_CP_hasLink]
  obtain ⟨g_1, h⟩ := h
  have e_2 := z_lt (z_v x1) zk_0 g_1 (by decide)
  refine ⟨fun c => ?_, fun c => ?_⟩
  · have h := h.1 (e_2.mp c)
    exact z_r (P := post) zk_0 (hp _ h)
  · have h := h.2 (fun c9 => c (e_2.mpr c9))
    obtain ⟨g_3, h⟩ := h
    obtain ⟨g_4, h⟩ := h
    have e_5 := z_le (z_f B 1 1) (z_v x1) g_4 g_3
    refine ⟨fun c => ?_, fun c => ?_⟩
    · have h := h.1 (e_5.mp c)
      exact z_r (P := post) zk_0 (hp _ h)
    · have h := h.2 (fun c9 => c (e_5.mpr c9))
      exact z_r (P := post) zk_1 (hp _ h)
set_option maxRecDepth 10000 in
theorem zw_CP_hasChannel {B : AA} {s : SS} {x1 : Int} {t1 : Int32} (es : s = zS B) (e1 : t1 = zI x1) {post : Int32 → Prop} {pz : Int → Prop} (hp : ∀ r, pz r → post (zI r)) (h : zp_CP_hasChannel B x1 pz) : wp_CP_hasChannel s t1 post := by
  subst es; subst e1; rw [zp_CP_hasChannel] at h; rw [wp_CP_hasChannel]
  obtain ⟨g_1, h⟩ := h
  have e_2 := z_lt (z_v x1) zk_0 g_1 (by decide)
  refine ⟨fun c => ?_, fun c => ?_⟩
  · have h := h.1 (e_2.mp c)
    exact z_r (P := post) zk_0 (hp _ h)
  · have h := h.2 (fun c9 => c (e_2.mpr c9))
    obtain ⟨n_3, h⟩ := h
    refine zw_CP_hasLink rfl (z_div (z_v x1) zk_4 n_3 (by decide)) (fun r_4 h => ?_) h
    obtain ⟨g_5, h⟩ := h
    have e_6 := z_eq (z_v r_4) zk_0 g_5 (by decide)
    refine ⟨fun c => ?_, fun c => ?_⟩
    · have h := h.1 (e_6.mp c)
      exact z_r (P := post) zk_0 (hp _ h)
    · have h := h.2 (fun c9 => c (e_6.mpr c9))
      obtain ⟨n_7, h⟩ := h
      obtain ⟨n_8, h⟩ := h
      obtain ⟨i_9, h⟩ := h
      refine ⟨z_in (z_div (z_v x1) zk_4 n_8 (by decide)) i_9 (by decide), ?_⟩
      obtain ⟨g_10, h⟩ := h
      obtain ⟨g_11, h⟩ := h
      have e_12 := z_le (z_a B 8 (z_div (z_v x1) zk_4 n_8 (by decide)) (z_rg i_9 (by decide))) (z_rem (z_v x1) zk_4 n_7 (by decide)) g_11 g_10
      refine ⟨fun c => ?_, fun c => ?_⟩
      · have h := h.1 (e_12.mp c)
        exact z_r (P := post) zk_0 (hp _ h)
      · have h := h.2 (fun c9 => c (e_12.mpr c9))
        exact z_r (P := post) zk_1 (hp _ h)
set_option maxRecDepth 10000 in
theorem zw_CP_beginOf {B : AA} {s : SS} {x1 : Int} {t1 : Int32} (es : s = zS B) (e1 : t1 = zI x1) {post : Int32 → Prop} {pz : Int → Prop} (hp : ∀ r, pz r → post (zI r)) (h : zp_CP_beginOf B x1 pz) : wp_CP_beginOf s t1 post := by
  subst es; subst e1; rw [zp_CP_beginOf] at h; rw [wp_CP_beginOf]
  obtain ⟨n_1, h⟩ := h
  obtain ⟨i_2, h⟩ := h
  refine ⟨z_in (z_div (z_v x1) zk_4 n_1 (by decide)) i_2 (by decide), ?_⟩
  exact z_r (P := post) (z_a B 6 (z_div (z_v x1) zk_4 n_1 (by decide)) (z_rg i_2 (by decide))) (hp _ h)
set_option maxRecDepth 10000 in
theorem zw_CP_canBeTaken {B : AA} {s : SS} {x1 : Int} {t1 : Int32} {x2 : Int} {t2 : Int32} (es : s = zS B) (e1 : t1 = zI x1) (e2 : t2 = zI x2) {post : Int32 → Prop} {pz : Int → Prop} (hp : ∀ r, pz r → post (zI r)) (h : zp_CP_canBeTaken B x1 x2 pz) : wp_CP_canBeTaken s t1 t2 post := by
  subst es; subst e1; subst e2; rw [zp_CP_canBeTaken] at h; rw [wp_CP_canBeTaken]
  refine zw_CP_hasChannel rfl (z_v x2) (fun r_1 h => ?_) h
  obtain ⟨g_2, h⟩ := h
  have e_3 := z_eq (z_v r_1) zk_0 g_2 (by decide)
  refine ⟨fun c => ?_, fun c => ?_⟩
  · have h := h.1 (e_3.mp c)
    exact z_r (P := post) zk_0 (hp _ h)
  · have h := h.2 (fun c9 => c (e_3.mpr c9))
    refine zw_CP_beginOf rfl (z_v x2) (fun r_4 h => ?_) h
    obtain ⟨g_5, h⟩ := h
    obtain ⟨g_6, h⟩ := h
    have e_7 := z_eq (z_v r_4) (z_v x1) g_5 g_6
    refine ⟨fun c => ?_, fun c => ?_⟩
    · have h := h.1 (fun c9 => c (e_7.mpr c9))
      exact z_r (P := post) zk_0 (hp _ h)
    · have h := h.2 (e_7.mp c)
      obtain ⟨n_8, h⟩ := h
      obtain ⟨i_9, h⟩ := h
      refine ⟨z_in (z_div (z_v x2) zk_4 n_8 (by decide)) i_9 (by decide), ?_⟩
      obtain ⟨g_10, h⟩ := h
      have e_11 := z_eq (z_a B 9 (z_div (z_v x2) zk_4 n_8 (by decide)) (z_rg i_9 (by decide))) zk_0 g_10 (by decide)
      refine ⟨fun c => ?_, fun c => ?_⟩
      · have h := h.1 (fun c9 => c (e_11.mpr c9))
        exact z_r (P := post) zk_0 (hp _ h)
      · have h := h.2 (e_11.mp c)
        exact z_r (P := post) zk_1 (hp _ h)
set_option maxRecDepth 10000 in
theorem zw_CN_route {B : AA} {s : SS} {x1 : Int} {t1 : Int32} {x2 : Int} {t2 : Int32} {x3 : Int} {t3 : Int32} (es : s = zS B) (e1 : t1 = zI x1) (e2 : t2 = zI x2) (e3 : t3 = zI x3) {post : Int32 → SS → Prop} {pz : Int → AA → Prop} (hp : ∀ r S, pz r S → post (zI r) (zS S)) {xp : String → SS → Prop} {xz : String → AA → Prop} (hx : ∀ E S, xz E S → xp E (zS S)) (h : zp_CN_route B x1 x2 x3 pz xz) : wp_CN_route s t1 t2 t3 post xp := by
  subst es; subst e1; subst e2; subst e3; rw [zp_CN_route] at h; rw [wp_CN_route]
  refine zw_CP_hasTwoNodes rfl (z_v x1) (z_v x2) (fun r_1 h => ?_) h
  obtain ⟨g_2, h⟩ := h
  have e_3 := z_eq (z_v r_1) zk_0 g_2 (by decide)
  refine ⟨fun c => ?_, fun c => ?_⟩
  · have h := h.1 (fun c9 => c (e_3.mpr c9))
    obtain ⟨g_4, h⟩ := h
    have e_5 := z_eq (z_v x3) zk_m1 g_4 (by decide)
    refine ⟨fun c => ?_, fun c => ?_⟩
    · have h := h.1 (e_5.mp c)
      refine zw_CP_wayAt rfl (z_v x1) (z_v x2) (fun r_6 h => ?_) h
      refine zw_CP_changeWay rfl (z_v x1) (z_v x2) (z_v x3) (fun S_7 h => ?_) h
      exact z_r (P := fun r9 => post r9 (zS S_7)) (z_v r_6) (hp _ _ h)
    · have h := h.2 (fun c9 => c (e_5.mpr c9))
      refine zw_CP_canBeTaken rfl (z_v x1) (z_v x3) (fun r_8 h => ?_) h
      obtain ⟨g_9, h⟩ := h
      have e_10 := z_eq (z_v r_8) zk_0 g_9 (by decide)
      refine ⟨fun c => ?_, fun c => ?_⟩
      · have h := h.1 (fun c9 => c (e_10.mpr c9))
        refine zw_CP_wayAt rfl (z_v x1) (z_v x2) (fun r_11 h => ?_) h
        refine zw_CP_changeWay rfl (z_v x1) (z_v x2) (z_v x3) (fun S_12 h => ?_) h
        exact z_r (P := fun r9 => post r9 (zS S_12)) (z_v r_11) (hp _ _ h)
      · have h := h.2 (e_10.mp c)
        exact hx _ _ h
  · have h := h.2 (e_3.mp c)
    exact hx _ _ h
set_option maxRecDepth 10000 in
theorem zw_CP_bringsNearer {B : AA} {s : SS} {x1 : Int} {t1 : Int32} {x2 : Int} {t2 : Int32} (es : s = zS B) (e1 : t1 = zI x1) (e2 : t2 = zI x2) {post : Int32 → Prop} {pz : Int → Prop} (hp : ∀ r, pz r → post (zI r)) (h : zp_CP_bringsNearer B x1 x2 pz) : wp_CP_bringsNearer s t1 t2 post := by
  subst es; subst e1; subst e2; rw [zp_CP_bringsNearer] at h; rw [wp_CP_bringsNearer]
  obtain ⟨i_1, h⟩ := h
  refine ⟨z_in (z_v x1) i_1 (by decide), ?_⟩
  obtain ⟨g_2, h⟩ := h
  have e_3 := z_eq (z_a B 9 (z_v x1) (z_rg i_1 (by decide))) zk_0 g_2 (by decide)
  refine ⟨fun c => ?_, fun c => ?_⟩
  · have h := h.1 (fun c9 => c (e_3.mpr c9))
    exact z_r (P := post) zk_0 (hp _ h)
  · have h := h.2 (e_3.mp c)
    obtain ⟨i_4, h⟩ := h
    refine ⟨z_in (z_v x1) i_4 (by decide), ?_⟩
    obtain ⟨i_5, h⟩ := h
    refine ⟨z_in (z_a B 6 (z_v x1) (z_rg i_4 (by decide))) i_5 (by decide), ?_⟩
    obtain ⟨g_6, h⟩ := h
    have e_7 := z_eq (z_a B 11 (z_a B 6 (z_v x1) (z_rg i_4 (by decide))) (z_rg i_5 (by decide))) zk_m1 g_6 (by decide)
    refine ⟨fun c => ?_, fun c => ?_⟩
    · have h := h.1 (fun c9 => c (e_7.mpr c9))
      exact z_r (P := post) zk_0 (hp _ h)
    · have h := h.2 (e_7.mp c)
      obtain ⟨i_8, h⟩ := h
      refine ⟨z_in (z_v x1) i_8 (by decide), ?_⟩
      obtain ⟨i_9, h⟩ := h
      refine ⟨z_in (z_a B 7 (z_v x1) (z_rg i_8 (by decide))) i_9 (by decide), ?_⟩
      obtain ⟨g_10, h⟩ := h
      obtain ⟨g_11, h⟩ := h
      have e_12 := z_eq (z_a B 11 (z_a B 7 (z_v x1) (z_rg i_8 (by decide))) (z_rg i_9 (by decide))) (z_sub (z_v x2) zk_1) g_10 g_11
      refine ⟨fun c => ?_, fun c => ?_⟩
      · have h := h.1 (fun c9 => c (e_12.mpr c9))
        exact z_r (P := post) zk_0 (hp _ h)
      · have h := h.2 (e_12.mp c)
        exact z_r (P := post) zk_1 (hp _ h)
set_option maxRecDepth 10000 in
theorem zwe_CP_makeWaysTo_116 (B : AA) (s : SS) (es : s = zS B) (x2 : Int) (t2 : Int32) (e2 : t2 = zI x2) {post : Int32 → SS → Prop} {pz : Int → AA → Prop} (hp : ∀ r S, pz r S → post (zI r) (zS S)) (h : ze_CP_makeWaysTo_116 B x2 pz) : we_CP_makeWaysTo_116 s t2 post := by
  subst es; subst e2; rw [ze_CP_makeWaysTo_116] at h; rw [we_CP_makeWaysTo_116]
  exact z_r (P := fun r9 => post r9 (zS B)) (z_v x2) (hp _ _ h)
set_option maxRecDepth 10000 in
theorem zwe_CP_makeWaysTo_110 (B : AA) (s : SS) (es : s = zS B) (x1 : Int) (t1 : Int32) (e1 : t1 = zI x1) (x2 : Int) (t2 : Int32) (e2 : t2 = zI x2) (x3 : Int) (t3 : Int32) (e3 : t3 = zI x3) {ag : SS → Int32 → Int32 → Prop} {agz : AA → Int → Int → Prop} (hA : ∀ S s, s = zS S → ∀ (y2 : Int) (t2 : Int32), t2 = zI y2 → ∀ (y3 : Int) (t3 : Int32), t3 = zI y3 → agz S y2 y3 → ag s t2 t3) {ex : SS → Int32 → Int32 → Prop} {exz : AA → Int → Int → Prop} (hE : ∀ S s, s = zS S → ∀ (y2 : Int) (t2 : Int32), t2 = zI y2 → ∀ (y3 : Int) (t3 : Int32), t3 = zI y3 → exz S y2 y3 → ex s t2 t3) {post : Int32 → SS → Prop} {pz : Int → AA → Prop} (hp : ∀ r S, pz r S → post (zI r) (zS S)) (h : ze_CP_makeWaysTo_110 B x1 x2 x3 agz exz pz) : we_CP_makeWaysTo_110 s t1 t2 t3 ag ex post := by
  subst es; subst e1; subst e2; subst e3; rw [ze_CP_makeWaysTo_110] at h; rw [we_CP_makeWaysTo_110]
  exact hA _ _ rfl _ _ (z_v x2) _ _ (z_add (z_v x3) zk_1) h
set_option maxRecDepth 10000 in
theorem zwl_CP_makeWaysTo_53  (x1 : Int) (t1 : Int32) (e1 : t1 = zI x1) (x3 : Int) (t3 : Int32) (e3 : t3 = zI x3) {ex : SS → Int32 → Int32 → Prop} {exz : AA → Int → Int → Prop} (hE : ∀ S s, s = zS S → ∀ (y2 : Int) (t2 : Int32), t2 = zI y2 → ∀ (y4 : Int) (t4 : Int32), t4 = zI y4 → exz S y2 y4 → ex s t2 t4) {post : Int32 → SS → Prop} {pz : Int → AA → Prop} (hp : ∀ r S, pz r S → post (zI r) (zS S)) : ∀ k, ∀ B s, s = zS B → ∀ (x2 : Int) (t2 : Int32), t2 = zI x2 → ∀ (x4 : Int) (t4 : Int32), t4 = zI x4 → zl_CP_makeWaysTo_53 x1 x3 exz pz k B x2 x4 → wl_CP_makeWaysTo_53 t1 t3 ex post k s t2 t4 := by
  subst e1; subst e3; intro k
  induction k with
  | zero => intro B s es x2 t2 e2 x4 t4 e4 h; rw [zl_CP_makeWaysTo_53] at h; exact h.elim
  | succ k ih =>
    intro B s es x2 t2 e2 x4 t4 e4 h
    subst es; subst e2; subst e4; rw [zl_CP_makeWaysTo_53] at h; rw [wl_CP_makeWaysTo_53]
    obtain ⟨g_7, h⟩ := h
    obtain ⟨g_8, h⟩ := h
    have e_9 := z_le (z_f B 1 1) (z_v x4) g_8 g_7
    refine ⟨fun c => ?_, fun c => ?_⟩
    · have h := h.1 (e_9.mp c)
      exact hE _ _ rfl _ _ (z_v x2) _ _ (z_v x4) h
    · have h := h.2 (fun c9 => c (e_9.mpr c9))
      refine zw_CP_bringsNearer rfl (z_v x4) (z_v x3) (fun r_10 h => ?_) h
      obtain ⟨g_11, h⟩ := h
      have e_12 := z_eq (z_v r_10) zk_0 g_11 (by decide)
      refine ⟨fun c => ?_, fun c => ?_⟩
      · have h := h.1 (e_12.mp c)
        exact ih _ _ rfl _ _ (z_v x2) _ _ (z_add (z_v x4) zk_1) h
      · have h := h.2 (fun c9 => c (e_12.mpr c9))
        obtain ⟨i_13, h⟩ := h
        refine ⟨z_in (z_v x4) i_13 (by decide), ?_⟩
        obtain ⟨i_14, h⟩ := h
        refine ⟨z_in (z_a B 6 (z_v x4) (z_rg i_13 (by decide))) i_14 (by decide), ?_⟩
        intro s_15 es_15
        obtain ⟨S_15, eS_15⟩ : ∃ w : AA, w = zU B 11 (B 6 x4.toNat).toNat x3 := ⟨_, rfl⟩
        have h := h S_15 eS_15
        have es_15 : s_15 = zS S_15 := by rw [eS_15]; exact es_15.trans (z_ua B 11 (z_a B 6 (z_v x4) (z_rg i_13 (by decide))) (z_rg i_14 (by decide)) (z_v x3))
        subst es_15
        obtain ⟨i_16, h⟩ := h
        refine ⟨z_in (z_v x4) i_16 (by decide), ?_⟩
        refine zw_CP_changeWay rfl (z_a S_15 6 (z_v x4) (z_rg i_16 (by decide))) (z_v x1) (z_mul (z_v x4) zk_4) (fun S_17 h => ?_) h
        exact ih _ _ rfl _ _ (z_add (z_v x2) zk_1) _ _ (z_add (z_v x4) zk_1) h
set_option maxRecDepth 10000 in
theorem zwl_CP_makeWaysTo_42  (x1 : Int) (t1 : Int32) (e1 : t1 = zI x1) {ex : SS → Int32 → Int32 → Prop} {exz : AA → Int → Int → Prop} (hE : ∀ S s, s = zS S → ∀ (y2 : Int) (t2 : Int32), t2 = zI y2 → ∀ (y3 : Int) (t3 : Int32), t3 = zI y3 → exz S y2 y3 → ex s t2 t3) {post : Int32 → SS → Prop} {pz : Int → AA → Prop} (hp : ∀ r S, pz r S → post (zI r) (zS S)) : ∀ k, ∀ B s, s = zS B → ∀ (x2 : Int) (t2 : Int32), t2 = zI x2 → ∀ (x3 : Int) (t3 : Int32), t3 = zI x3 → zl_CP_makeWaysTo_42 x1 exz pz k B x2 x3 → wl_CP_makeWaysTo_42 t1 ex post k s t2 t3 := by
  subst e1; intro k
  induction k with
  | zero => intro B s es x2 t2 e2 x3 t3 e3 h; rw [zl_CP_makeWaysTo_42] at h; exact h.elim
  | succ k ih =>
    intro B s es x2 t2 e2 x3 t3 e3 h
    subst es; subst e2; subst e3; rw [zl_CP_makeWaysTo_42] at h; rw [wl_CP_makeWaysTo_42]
    obtain ⟨g_4, h⟩ := h
    obtain ⟨g_5, h⟩ := h
    have e_6 := z_le (z_f B 1 0) (z_v x3) g_5 g_4
    refine ⟨fun c => ?_, fun c => ?_⟩
    · have h := h.1 (e_6.mp c)
      exact hE _ _ rfl _ _ (z_v x2) _ _ (z_v x3) h
    · have h := h.2 (fun c9 => c (e_6.mpr c9))
      obtain ⟨j9, h⟩ := h
      exact ⟨j9, zwl_CP_makeWaysTo_53 _ _ (z_v x1) _ _ (z_v x3) (fun S18 s18 es18 y2_18 t2_18 e2_18 y4_18 t4_18 e4_18 h => zwe_CP_makeWaysTo_110 _ _ es18 _ _ (z_v x1) _ _ e2_18 _ _ (z_v x3) ih hE hp h) hp j9 _ _ rfl _ _ (z_v x2) _ _ zk_0 h⟩
set_option maxRecDepth 10000 in
theorem zwe_CP_makeWaysTo_38 (B : AA) (s : SS) (es : s = zS B) (x1 : Int) (t1 : Int32) (e1 : t1 = zI x1) {post : Int32 → SS → Prop} {pz : Int → AA → Prop} (hp : ∀ r S, pz r S → post (zI r) (zS S)) (h : ze_CP_makeWaysTo_38 B x1 pz) : we_CP_makeWaysTo_38 s t1 post := by
  subst es; subst e1; rw [ze_CP_makeWaysTo_38] at h; rw [we_CP_makeWaysTo_38]
  obtain ⟨j9, h⟩ := h
  exact ⟨j9, zwl_CP_makeWaysTo_42 _ _ (z_v x1) (fun S19 s19 es19 y2_19 t2_19 e2_19 y3_19 t3_19 e3_19 h => zwe_CP_makeWaysTo_116 _ _ es19 _ _ e2_19 hp h) hp j9 _ _ rfl _ _ zk_0 _ _ zk_1 h⟩
set_option maxRecDepth 10000 in
theorem zwl_CP_makeWaysTo_17  (x1 : Int) (t1 : Int32) (e1 : t1 = zI x1) {ex : SS → Int32 → Prop} {exz : AA → Int → Prop} (hE : ∀ S s, s = zS S → ∀ (y2 : Int) (t2 : Int32), t2 = zI y2 → exz S y2 → ex s t2) {post : Int32 → SS → Prop} {pz : Int → AA → Prop} (hp : ∀ r S, pz r S → post (zI r) (zS S)) : ∀ k, ∀ B s, s = zS B → ∀ (x2 : Int) (t2 : Int32), t2 = zI x2 → zl_CP_makeWaysTo_17 x1 exz pz k B x2 → wl_CP_makeWaysTo_17 t1 ex post k s t2 := by
  subst e1; intro k
  induction k with
  | zero => intro B s es x2 t2 e2 h; rw [zl_CP_makeWaysTo_17] at h; exact h.elim
  | succ k ih =>
    intro B s es x2 t2 e2 h
    subst es; subst e2; rw [zl_CP_makeWaysTo_17] at h; rw [wl_CP_makeWaysTo_17]
    obtain ⟨g_20, h⟩ := h
    obtain ⟨g_21, h⟩ := h
    have e_22 := z_le (z_f B 1 0) (z_v x2) g_21 g_20
    refine ⟨fun c => ?_, fun c => ?_⟩
    · have h := h.1 (e_22.mp c)
      exact hE _ _ rfl _ _ (z_v x2) h
    · have h := h.2 (fun c9 => c (e_22.mpr c9))
      refine zw_CP_changeWay rfl (z_v x2) (z_v x1) zk_m1 (fun S_23 h => ?_) h
      exact ih _ _ rfl _ _ (z_add (z_v x2) zk_1) h
set_option maxRecDepth 10000 in
theorem zw_CP_makeWaysTo {B : AA} {s : SS} {x1 : Int} {t1 : Int32} (es : s = zS B) (e1 : t1 = zI x1) {post : Int32 → SS → Prop} {pz : Int → AA → Prop} (hp : ∀ r S, pz r S → post (zI r) (zS S)) (h : zp_CP_makeWaysTo B x1 pz) : wp_CP_makeWaysTo s t1 post := by
  subst es; subst e1; rw [zp_CP_makeWaysTo] at h; rw [wp_CP_makeWaysTo]
  intro s_1 es_1
  obtain ⟨S_1, eS_1⟩ : ∃ w : AA, w = zF B 11 16 (-1) := ⟨_, rfl⟩
  have h := h S_1 eS_1
  have es_1 : s_1 = zS S_1 := by rw [eS_1]; exact es_1.trans (z_fl B 11 16 zk_m1)
  subst es_1
  obtain ⟨i_2, h⟩ := h
  refine ⟨z_in (z_v x1) i_2 (by decide), ?_⟩
  intro s_3 es_3
  obtain ⟨S_3, eS_3⟩ : ∃ w : AA, w = zU S_1 11 x1.toNat 0 := ⟨_, rfl⟩
  have h := h S_3 eS_3
  have es_3 : s_3 = zS S_3 := by rw [eS_3]; exact es_3.trans (z_ua S_1 11 (z_v x1) (z_rg i_2 (by decide)) zk_0)
  subst es_3
  obtain ⟨j9, h⟩ := h
  exact ⟨j9, zwl_CP_makeWaysTo_17 _ _ (z_v x1) (fun S24 s24 es24 y2_24 t2_24 e2_24 h => zwe_CP_makeWaysTo_38 _ _ es24 _ _ (z_v x1) hp h) hp j9 _ _ rfl _ _ zk_0 h⟩
set_option maxRecDepth 10000 in
theorem zw_CN_routes {B : AA} {s : SS} {x1 : Int} {t1 : Int32} (es : s = zS B) (e1 : t1 = zI x1) {post : Int32 → SS → Prop} {pz : Int → AA → Prop} (hp : ∀ r S, pz r S → post (zI r) (zS S)) {xp : String → SS → Prop} {xz : String → AA → Prop} (hx : ∀ E S, xz E S → xp E (zS S)) (h : zp_CN_routes B x1 pz xz) : wp_CN_routes s t1 post xp := by
  subst es; subst e1; rw [zp_CN_routes] at h; rw [wp_CN_routes]
  refine zw_CP_hasNode rfl (z_v x1) (fun r_1 h => ?_) h
  obtain ⟨g_2, h⟩ := h
  have e_3 := z_eq (z_v r_1) zk_0 g_2 (by decide)
  refine ⟨fun c => ?_, fun c => ?_⟩
  · have h := h.1 (fun c9 => c (e_3.mpr c9))
    refine zw_CP_makeWaysTo rfl (z_v x1) (fun r_4 S_4 h => ?_) h
    exact z_r (P := fun r9 => post r9 (zS S_4)) (z_v r_4) (hp _ _ h)
  · have h := h.2 (e_3.mp c)
    exact hx _ _ h
set_option maxRecDepth 10000 in
theorem zwe_CP_breakLink_56 (B : AA) (s : SS) (es : s = zS B) (x2 : Int) (t2 : Int32) (e2 : t2 = zI x2) {post : Int32 → SS → Prop} {pz : Int → AA → Prop} (hp : ∀ r S, pz r S → post (zI r) (zS S)) (h : ze_CP_breakLink_56 B x2 pz) : we_CP_breakLink_56 s t2 post := by
  subst es; subst e2; rw [ze_CP_breakLink_56] at h; rw [we_CP_breakLink_56]
  exact z_r (P := fun r9 => post r9 (zS B)) (z_v x2) (hp _ _ h)
set_option maxRecDepth 10000 in
theorem zwl_CP_breakLink_11  (x1 : Int) (t1 : Int32) (e1 : t1 = zI x1) {ex : SS → Int32 → Int32 → Prop} {exz : AA → Int → Int → Prop} (hE : ∀ S s, s = zS S → ∀ (y2 : Int) (t2 : Int32), t2 = zI y2 → ∀ (y3 : Int) (t3 : Int32), t3 = zI y3 → exz S y2 y3 → ex s t2 t3) {post : Int32 → SS → Prop} {pz : Int → AA → Prop} (hp : ∀ r S, pz r S → post (zI r) (zS S)) : ∀ k, ∀ B s, s = zS B → ∀ (x2 : Int) (t2 : Int32), t2 = zI x2 → ∀ (x3 : Int) (t3 : Int32), t3 = zI x3 → zl_CP_breakLink_11 x1 exz pz k B x2 x3 → wl_CP_breakLink_11 t1 ex post k s t2 t3 := by
  subst e1; intro k
  induction k with
  | zero => intro B s es x2 t2 e2 x3 t3 e3 h; rw [zl_CP_breakLink_11] at h; exact h.elim
  | succ k ih =>
    intro B s es x2 t2 e2 x3 t3 e3 h
    subst es; subst e2; subst e3; rw [zl_CP_breakLink_11] at h; rw [wl_CP_breakLink_11]
    obtain ⟨g_3, h⟩ := h
    have e_4 := z_le zk_256 (z_v x3) (by decide) g_3
    refine ⟨fun c => ?_, fun c => ?_⟩
    · have h := h.1 (e_4.mp c)
      exact hE _ _ rfl _ _ (z_v x2) _ _ (z_v x3) h
    · have h := h.2 (fun c9 => c (e_4.mpr c9))
      obtain ⟨i_5, h⟩ := h
      refine ⟨z_in (z_v x3) i_5 (by decide), ?_⟩
      obtain ⟨g_6, h⟩ := h
      have e_7 := z_eq (z_a B 10 (z_v x3) (z_rg i_5 (by decide))) zk_m1 g_6 (by decide)
      refine ⟨fun c => ?_, fun c => ?_⟩
      · have h := h.1 (e_7.mp c)
        exact ih _ _ rfl _ _ (z_v x2) _ _ (z_add (z_v x3) zk_1) h
      · have h := h.2 (fun c9 => c (e_7.mpr c9))
        obtain ⟨i_8, h⟩ := h
        refine ⟨z_in (z_v x3) i_8 (by decide), ?_⟩
        obtain ⟨n_9, h⟩ := h
        obtain ⟨g_10, h⟩ := h
        obtain ⟨g_11, h⟩ := h
        have e_12 := z_eq (z_div (z_a B 10 (z_v x3) (z_rg i_8 (by decide))) zk_4 n_9 (by decide)) (z_v x1) g_10 g_11
        refine ⟨fun c => ?_, fun c => ?_⟩
        · have h := h.1 (fun c9 => c (e_12.mpr c9))
          exact ih _ _ rfl _ _ (z_v x2) _ _ (z_add (z_v x3) zk_1) h
        · have h := h.2 (e_12.mp c)
          obtain ⟨i_13, h⟩ := h
          refine ⟨z_in (z_v x3) i_13 (by decide), ?_⟩
          intro s_14 es_14
          obtain ⟨S_14, eS_14⟩ : ∃ w : AA, w = zU B 10 x3.toNat (-1) := ⟨_, rfl⟩
          have h := h S_14 eS_14
          have es_14 : s_14 = zS S_14 := by rw [eS_14]; exact es_14.trans (z_ua B 10 (z_v x3) (z_rg i_13 (by decide)) zk_m1)
          subst es_14
          exact ih _ _ rfl _ _ (z_add (z_v x2) zk_1) _ _ (z_add (z_v x3) zk_1) h
set_option maxRecDepth 10000 in
theorem zw_CP_breakLink {B : AA} {s : SS} {x1 : Int} {t1 : Int32} (es : s = zS B) (e1 : t1 = zI x1) {post : Int32 → SS → Prop} {pz : Int → AA → Prop} (hp : ∀ r S, pz r S → post (zI r) (zS S)) (h : zp_CP_breakLink B x1 pz) : wp_CP_breakLink s t1 post := by
  subst es; subst e1; rw [zp_CP_breakLink] at h; rw [wp_CP_breakLink]
  obtain ⟨i_1, h⟩ := h
  refine ⟨z_in (z_v x1) i_1 (by decide), ?_⟩
  intro s_2 es_2
  obtain ⟨S_2, eS_2⟩ : ∃ w : AA, w = zU B 9 x1.toNat 1 := ⟨_, rfl⟩
  have h := h S_2 eS_2
  have es_2 : s_2 = zS S_2 := by rw [eS_2]; exact es_2.trans (z_ua B 9 (z_v x1) (z_rg i_1 (by decide)) zk_1)
  subst es_2
  obtain ⟨j9, h⟩ := h
  exact ⟨j9, zwl_CP_breakLink_11 _ _ (z_v x1) (fun S15 s15 es15 y2_15 t2_15 e2_15 y3_15 t3_15 e3_15 h => zwe_CP_breakLink_56 _ _ es15 _ _ e2_15 hp h) hp j9 _ _ rfl _ _ zk_0 _ _ zk_0 h⟩
set_option maxRecDepth 10000 in
theorem zw_CN_fail {B : AA} {s : SS} {x1 : Int} {t1 : Int32} (es : s = zS B) (e1 : t1 = zI x1) {post : Int32 → SS → Prop} {pz : Int → AA → Prop} (hp : ∀ r S, pz r S → post (zI r) (zS S)) {xp : String → SS → Prop} {xz : String → AA → Prop} (hx : ∀ E S, xz E S → xp E (zS S)) (h : zp_CN_fail B x1 pz xz) : wp_CN_fail s t1 post xp := by
  subst es; subst e1; rw [zp_CN_fail] at h; rw [wp_CN_fail]
  refine zw_CP_hasLink rfl (z_v x1) (fun r_1 h => ?_) h
  obtain ⟨g_2, h⟩ := h
  have e_3 := z_eq (z_v r_1) zk_0 g_2 (by decide)
  refine ⟨fun c => ?_, fun c => ?_⟩
  · have h := h.1 (e_3.mp c)
    exact hx _ _ h
  · have h := h.2 (fun c9 => c (e_3.mpr c9))
    obtain ⟨i_4, h⟩ := h
    refine ⟨z_in (z_v x1) i_4 (by decide), ?_⟩
    obtain ⟨g_5, h⟩ := h
    have e_6 := z_eq (z_a B 9 (z_v x1) (z_rg i_4 (by decide))) zk_0 g_5 (by decide)
    refine ⟨fun c => ?_, fun c => ?_⟩
    · have h := h.1 (e_6.mp c)
      refine zw_CP_breakLink rfl (z_v x1) (fun r_7 S_7 h => ?_) h
      exact z_r (P := fun r9 => post r9 (zS S_7)) (z_v r_7) (hp _ _ h)
    · have h := h.2 (fun c9 => c (e_6.mpr c9))
      exact hx _ _ h
set_option maxRecDepth 10000 in
theorem zw_CK_add {B : AA} {s : SS} {x1 : Int} {t1 : Int32} {x2 : Int} {t2 : Int32} (es : s = zS B) (e1 : t1 = zI x1) (e2 : t2 = zI x2) {post : Int32 → SS → Prop} {pz : Int → AA → Prop} (hp : ∀ r S, pz r S → post (zI r) (zS S)) (h : zp_CK_add B x1 x2 pz) : wp_CK_add s t1 t2 post := by
  subst es; subst e1; subst e2; rw [zp_CK_add] at h; rw [wp_CK_add]
  intro t_1 et_1
  obtain ⟨v_1, ev_1⟩ : ∃ w : Int, w = B 2 0 := ⟨_, rfl⟩
  have h := h v_1 ev_1
  have et_1 : t_1 = zI v_1 := by rw [ev_1]; exact et_1.trans (z_f B 2 0)
  subst et_1
  obtain ⟨i_2, h⟩ := h
  refine ⟨z_in (z_v v_1) i_2 (by decide), ?_⟩
  intro s_3 es_3
  obtain ⟨S_3, eS_3⟩ : ∃ w : AA, w = zU B 12 v_1.toNat x1 := ⟨_, rfl⟩
  have h := h S_3 eS_3
  have es_3 : s_3 = zS S_3 := by rw [eS_3]; exact es_3.trans (z_ua B 12 (z_v v_1) (z_rg i_2 (by decide)) (z_v x1))
  subst es_3
  obtain ⟨i_4, h⟩ := h
  refine ⟨z_in (z_v v_1) i_4 (by decide), ?_⟩
  intro s_5 es_5
  obtain ⟨S_5, eS_5⟩ : ∃ w : AA, w = zU S_3 13 v_1.toNat x2 := ⟨_, rfl⟩
  have h := h S_5 eS_5
  have es_5 : s_5 = zS S_5 := by rw [eS_5]; exact es_5.trans (z_ua S_3 13 (z_v v_1) (z_rg i_4 (by decide)) (z_v x2))
  subst es_5
  obtain ⟨i_6, h⟩ := h
  refine ⟨z_in (z_v v_1) i_6 (by decide), ?_⟩
  intro s_7 es_7
  obtain ⟨S_7, eS_7⟩ : ∃ w : AA, w = zU S_5 14 v_1.toNat x2 := ⟨_, rfl⟩
  have h := h S_7 eS_7
  have es_7 : s_7 = zS S_7 := by rw [eS_7]; exact es_7.trans (z_ua S_5 14 (z_v v_1) (z_rg i_6 (by decide)) (z_v x2))
  subst es_7
  intro s_8 es_8
  obtain ⟨S_8, eS_8⟩ : ∃ w : AA, w = zU S_7 2 0 ((S_7 2 0) + 1) := ⟨_, rfl⟩
  have h := h S_8 eS_8
  have es_8 : s_8 = zS S_8 := by rw [eS_8]; exact es_8.trans (z_uf S_7 2 0 (z_add (z_f S_7 2 0) zk_1))
  subst es_8
  exact z_r (P := fun r9 => post r9 (zS S_8)) (z_v v_1) (hp _ _ h)
set_option maxRecDepth 10000 in
theorem zw_CI_lineUp {B : AA} {s : SS} {x1 : Int} {t1 : Int32} {x2 : Int} {t2 : Int32} (es : s = zS B) (e1 : t1 = zI x1) (e2 : t2 = zI x2) {post : SS → Prop} {pz : AA → Prop} (hp : ∀ S, pz S → post (zS S)) (h : zp_CI_lineUp B x1 x2 pz) : wp_CI_lineUp s t1 t2 post := by
  subst es; subst e1; subst e2; rw [zp_CI_lineUp] at h; rw [wp_CI_lineUp]
  obtain ⟨i_1, h⟩ := h
  refine ⟨z_in (z_v x1) i_1 (by decide), ?_⟩
  intro t_2 et_2
  obtain ⟨v_2, ev_2⟩ : ∃ w : Int, w = B 18 x1.toNat := ⟨_, rfl⟩
  have h := h v_2 ev_2
  have et_2 : t_2 = zI v_2 := by rw [ev_2]; exact et_2.trans (z_a B 18 (z_v x1) (z_rg i_1 (by decide)))
  subst et_2
  obtain ⟨i_3, h⟩ := h
  refine ⟨z_in (z_v x1) i_3 (by decide), ?_⟩
  obtain ⟨g_4, h⟩ := h
  have e_5 := z_eq (z_a B 17 (z_v x1) (z_rg i_3 (by decide))) zk_m1 g_4 (by decide)
  refine ⟨fun c => ?_, fun c => ?_⟩
  · have h := h.1 (e_5.mp c)
    obtain ⟨i_6, h⟩ := h
    refine ⟨z_in (z_v x1) i_6 (by decide), ?_⟩
    intro s_7 es_7
    obtain ⟨S_7, eS_7⟩ : ∃ w : AA, w = zU B 17 x1.toNat x2 := ⟨_, rfl⟩
    have h := h S_7 eS_7
    have es_7 : s_7 = zS S_7 := by rw [eS_7]; exact es_7.trans (z_ua B 17 (z_v x1) (z_rg i_6 (by decide)) (z_v x2))
    subst es_7
    obtain ⟨i_8, h⟩ := h
    refine ⟨z_in (z_v x1) i_8 (by decide), ?_⟩
    intro s_9 es_9
    obtain ⟨S_9, eS_9⟩ : ∃ w : AA, w = zU S_7 18 x1.toNat x2 := ⟨_, rfl⟩
    have h := h S_9 eS_9
    have es_9 : s_9 = zS S_9 := by rw [eS_9]; exact es_9.trans (z_ua S_7 18 (z_v x1) (z_rg i_8 (by decide)) (z_v x2))
    subst es_9
    exact hp _ h
  · have h := h.2 (fun c9 => c (e_5.mpr c9))
    obtain ⟨g_10, h⟩ := h
    have e_11 := z_eq (z_v v_2) zk_m1 g_10 (by decide)
    refine ⟨fun c => ?_, fun c => ?_⟩
    · have h := h.1 (fun c9 => c (e_11.mpr c9))
      obtain ⟨i_12, h⟩ := h
      refine ⟨z_in (z_v v_2) i_12 (by decide), ?_⟩
      intro s_13 es_13
      obtain ⟨S_13, eS_13⟩ : ∃ w : AA, w = zU B 19 v_2.toNat x2 := ⟨_, rfl⟩
      have h := h S_13 eS_13
      have es_13 : s_13 = zS S_13 := by rw [eS_13]; exact es_13.trans (z_ua B 19 (z_v v_2) (z_rg i_12 (by decide)) (z_v x2))
      subst es_13
      obtain ⟨i_14, h⟩ := h
      refine ⟨z_in (z_v x1) i_14 (by decide), ?_⟩
      intro s_15 es_15
      obtain ⟨S_15, eS_15⟩ : ∃ w : AA, w = zU S_13 18 x1.toNat x2 := ⟨_, rfl⟩
      have h := h S_15 eS_15
      have es_15 : s_15 = zS S_15 := by rw [eS_15]; exact es_15.trans (z_ua S_13 18 (z_v x1) (z_rg i_14 (by decide)) (z_v x2))
      subst es_15
      exact hp _ h
    · have h := h.2 (e_11.mp c)
      obtain ⟨i_16, h⟩ := h
      refine ⟨z_in (z_v x1) i_16 (by decide), ?_⟩
      intro s_17 es_17
      obtain ⟨S_17, eS_17⟩ : ∃ w : AA, w = zU B 17 x1.toNat x2 := ⟨_, rfl⟩
      have h := h S_17 eS_17
      have es_17 : s_17 = zS S_17 := by rw [eS_17]; exact es_17.trans (z_ua B 17 (z_v x1) (z_rg i_16 (by decide)) (z_v x2))
      subst es_17
      obtain ⟨i_18, h⟩ := h
      refine ⟨z_in (z_v x1) i_18 (by decide), ?_⟩
      intro s_19 es_19
      obtain ⟨S_19, eS_19⟩ : ∃ w : AA, w = zU S_17 18 x1.toNat x2 := ⟨_, rfl⟩
      have h := h S_19 eS_19
      have es_19 : s_19 = zS S_19 := by rw [eS_19]; exact es_19.trans (z_ua S_17 18 (z_v x1) (z_rg i_18 (by decide)) (z_v x2))
      subst es_19
      exact hp _ h
set_option maxRecDepth 10000 in
theorem zw_CN_addPacket {B : AA} {s : SS} {x1 : Int} {t1 : Int32} {x2 : Int} {t2 : Int32} {x3 : Int} {t3 : Int32} (es : s = zS B) (e1 : t1 = zI x1) (e2 : t2 = zI x2) (e3 : t3 = zI x3) {post : Int32 → SS → Prop} {pz : Int → AA → Prop} (hp : ∀ r S, pz r S → post (zI r) (zS S)) (h : zp_CN_addPacket B x1 x2 x3 pz) : wp_CN_addPacket s t1 t2 t3 post := by
  subst es; subst e1; subst e2; subst e3; rw [zp_CN_addPacket] at h; rw [wp_CN_addPacket]
  refine zw_CK_add rfl (z_v x2) (z_v x3) (fun r_1 S_1 h => ?_) h
  refine zw_CI_lineUp rfl (z_v x1) (z_v r_1) (fun S_2 h => ?_) h
  exact z_r (P := fun r9 => post r9 (zS S_2)) (z_v r_1) (hp _ _ h)
set_option maxRecDepth 10000 in
theorem zw_CN_send {B : AA} {s : SS} {x1 : Int} {t1 : Int32} {x2 : Int} {t2 : Int32} {x3 : Int} {t3 : Int32} (es : s = zS B) (e1 : t1 = zI x1) (e2 : t2 = zI x2) (e3 : t3 = zI x3) {post : Int32 → SS → Prop} {pz : Int → AA → Prop} (hp : ∀ r S, pz r S → post (zI r) (zS S)) {xp : String → SS → Prop} {xz : String → AA → Prop} (hx : ∀ E S, xz E S → xp E (zS S)) (h : zp_CN_send B x1 x2 x3 pz xz) : wp_CN_send s t1 t2 t3 post xp := by
  subst es; subst e1; subst e2; subst e3; rw [zp_CN_send] at h; rw [wp_CN_send]
  refine zw_CP_hasNode rfl (z_v x1) (fun r_1 h => ?_) h
  obtain ⟨g_2, h⟩ := h
  have e_3 := z_eq (z_v r_1) zk_0 g_2 (by decide)
  refine ⟨fun c => ?_, fun c => ?_⟩
  · have h := h.1 (e_3.mp c)
    exact hx _ _ h
  · have h := h.2 (fun c9 => c (e_3.mpr c9))
    refine zw_CP_hasNode rfl (z_v x2) (fun r_4 h => ?_) h
    obtain ⟨g_5, h⟩ := h
    have e_6 := z_eq (z_v r_4) zk_0 g_5 (by decide)
    refine ⟨fun c => ?_, fun c => ?_⟩
    · have h := h.1 (fun c9 => c (e_6.mpr c9))
      obtain ⟨g_7, h⟩ := h
      have e_8 := z_lt (z_v x3) zk_1 g_7 (by decide)
      refine ⟨fun c => ?_, fun c => ?_⟩
      · have h := h.1 (e_8.mp c)
        exact hx _ _ h
      · have h := h.2 (fun c9 => c (e_8.mpr c9))
        obtain ⟨g_9, h⟩ := h
        have e_10 := z_le (z_v x3) zk_16 g_9 (by decide)
        refine ⟨fun c => ?_, fun c => ?_⟩
        · have h := h.1 (e_10.mp c)
          obtain ⟨g_11, h⟩ := h
          have e_12 := z_lt (z_f B 2 0) zk_400 g_11 (by decide)
          refine ⟨fun c => ?_, fun c => ?_⟩
          · have h := h.1 (e_12.mp c)
            refine zw_CN_addPacket rfl (z_v x1) (z_v x2) (z_v x3) (fun r_13 S_13 h => ?_) h
            exact z_r (P := fun r9 => post r9 (zS S_13)) (z_v r_13) (hp _ _ h)
          · have h := h.2 (fun c9 => c (e_12.mpr c9))
            exact hx _ _ h
        · have h := h.2 (fun c9 => c (e_10.mpr c9))
          exact hx _ _ h
    · have h := h.2 (e_6.mp c)
      exact hx _ _ h
set_option maxRecDepth 10000 in
theorem zw_CN_drawn {B : AA} {s : SS} (es : s = zS B) {post : Int32 → SS → Prop} {pz : Int → AA → Prop} (hp : ∀ r S, pz r S → post (zI r) (zS S)) (h : zp_CN_drawn B pz) : wp_CN_drawn s post := by
  subst es; rw [zp_CN_drawn] at h; rw [wp_CN_drawn]
  intro s_1 es_1
  obtain ⟨S_1, eS_1⟩ : ∃ w : AA, w = zU B 0 5 (((1103515245 * (B 0 5)) + 12345) % 2147483648) := ⟨_, rfl⟩
  have h := h S_1 eS_1
  have es_1 : s_1 = zS S_1 := by rw [eS_1]; exact es_1.trans (z_uf B 0 5 (z_and (z_add (z_mul zk_1103515245 (z_f B 0 5)) zk_12345)))
  subst es_1
  obtain ⟨n_2, h⟩ := h
  exact z_r (P := fun r9 => post r9 (zS S_1)) (z_div (z_f S_1 0 5) zk_65536 n_2 (by decide)) (hp _ _ h)
set_option maxRecDepth 10000 in
theorem zwe_CN_load_127 (B : AA) (s : SS) (es : s = zS B) {post : Int32 → SS → Prop} {pz : Int → AA → Prop} (hp : ∀ r S, pz r S → post (zI r) (zS S)) {xp : String → SS → Prop} {xz : String → AA → Prop} (hx : ∀ E S, xz E S → xp E (zS S)) (h : ze_CN_load_127 B pz xz) : we_CN_load_127 s post xp := by
  subst es; rw [ze_CN_load_127] at h; rw [we_CN_load_127]
  exact z_r (P := fun r9 => post r9 (zS B)) (z_sub (z_f B 2 0) zk_1) (hp _ _ h)
set_option maxRecDepth 10000 in
theorem zwl_CN_load_68  (x1 : Int) (t1 : Int32) (e1 : t1 = zI x1) {ex : SS → Int32 → Prop} {exz : AA → Int → Prop} (hE : ∀ S s, s = zS S → ∀ (y2 : Int) (t2 : Int32), t2 = zI y2 → exz S y2 → ex s t2) {post : Int32 → SS → Prop} {pz : Int → AA → Prop} (hp : ∀ r S, pz r S → post (zI r) (zS S)) {xp : String → SS → Prop} {xz : String → AA → Prop} (hx : ∀ E S, xz E S → xp E (zS S)) : ∀ k, ∀ B s, s = zS B → ∀ (x2 : Int) (t2 : Int32), t2 = zI x2 → zl_CN_load_68 x1 exz pz xz k B x2 → wl_CN_load_68 t1 ex post xp k s t2 := by
  subst e1; intro k
  induction k with
  | zero => intro B s es x2 t2 e2 h; rw [zl_CN_load_68] at h; exact h.elim
  | succ k ih =>
    intro B s es x2 t2 e2 h
    subst es; subst e2; rw [zl_CN_load_68] at h; rw [wl_CN_load_68]
    obtain ⟨g_9, h⟩ := h
    obtain ⟨g_10, h⟩ := h
    have e_11 := z_le (z_v x1) (z_v x2) g_10 g_9
    refine ⟨fun c => ?_, fun c => ?_⟩
    · have h := h.1 (e_11.mp c)
      exact hE _ _ rfl _ _ (z_v x2) h
    · have h := h.2 (fun c9 => c (e_11.mpr c9))
      refine zw_CN_drawn rfl (fun r_12 S_12 h => ?_) h
      obtain ⟨n_13, h⟩ := h
      obtain ⟨m_13, h⟩ := h
      refine ⟨z_ne (z_f S_12 1 0) m_13, ?_⟩
      intro t_14 et_14
      obtain ⟨v_14, ev_14⟩ : ∃ w : Int, w = r_12 % (S_12 1 0) := ⟨_, rfl⟩
      have h := h v_14 ev_14
      have et_14 : t_14 = zI v_14 := by rw [ev_14]; exact et_14.trans (z_rem (z_v r_12) (z_f S_12 1 0) n_13 m_13)
      subst et_14
      refine zw_CN_drawn rfl (fun r_15 S_15 h => ?_) h
      obtain ⟨n_16, h⟩ := h
      obtain ⟨m_16, h⟩ := h
      refine ⟨z_ne (z_f S_15 1 0) m_16, ?_⟩
      intro t_17 et_17
      obtain ⟨v_17, ev_17⟩ : ∃ w : Int, w = r_15 % (S_15 1 0) := ⟨_, rfl⟩
      have h := h v_17 ev_17
      have et_17 : t_17 = zI v_17 := by rw [ev_17]; exact et_17.trans (z_rem (z_v r_15) (z_f S_15 1 0) n_16 m_16)
      subst et_17
      refine zw_CN_drawn rfl (fun r_18 S_18 h => ?_) h
      obtain ⟨n_19, h⟩ := h
      intro t_20 et_20
      obtain ⟨v_20, ev_20⟩ : ∃ w : Int, w = 1 + (r_18 % 8) := ⟨_, rfl⟩
      have h := h v_20 ev_20
      have et_20 : t_20 = zI v_20 := by rw [ev_20]; exact et_20.trans (z_add zk_1 (z_rem (z_v r_18) zk_8 n_19 (by decide)))
      subst et_20
      refine zw_CN_addPacket rfl (z_v v_14) (z_v v_17) (z_v v_20) (fun r_21 S_21 h => ?_) h
      exact ih _ _ rfl _ _ (z_add (z_v x2) zk_1) h
set_option maxRecDepth 10000 in
theorem zw_CN_load {B : AA} {s : SS} {x1 : Int} {t1 : Int32} (es : s = zS B) (e1 : t1 = zI x1) {post : Int32 → SS → Prop} {pz : Int → AA → Prop} (hp : ∀ r S, pz r S → post (zI r) (zS S)) {xp : String → SS → Prop} {xz : String → AA → Prop} (hx : ∀ E S, xz E S → xp E (zS S)) (h : zp_CN_load B x1 pz xz) : wp_CN_load s t1 post xp := by
  subst es; subst e1; rw [zp_CN_load] at h; rw [wp_CN_load]
  obtain ⟨g_1, h⟩ := h
  have e_2 := z_lt (z_v x1) zk_1 g_1 (by decide)
  refine ⟨fun c => ?_, fun c => ?_⟩
  · have h := h.1 (e_2.mp c)
    exact hx _ _ h
  · have h := h.2 (fun c9 => c (e_2.mpr c9))
    obtain ⟨g_3, h⟩ := h
    have e_4 := z_le (z_v x1) zk_50 g_3 (by decide)
    refine ⟨fun c => ?_, fun c => ?_⟩
    · have h := h.1 (e_4.mp c)
      obtain ⟨g_5, h⟩ := h
      have e_6 := z_eq (z_f B 1 0) zk_0 g_5 (by decide)
      refine ⟨fun c => ?_, fun c => ?_⟩
      · have h := h.1 (fun c9 => c (e_6.mpr c9))
        obtain ⟨g_7, h⟩ := h
        have e_8 := z_le (z_add (z_f B 2 0) (z_v x1)) zk_400 g_7 (by decide)
        refine ⟨fun c => ?_, fun c => ?_⟩
        · have h := h.1 (e_8.mp c)
          obtain ⟨j9, h⟩ := h
          exact ⟨j9, zwl_CN_load_68 _ _ (z_v x1) (fun S22 s22 es22 y2_22 t2_22 e2_22 h => zwe_CN_load_127 _ _ es22 hp hx h) hp hx j9 _ _ rfl _ _ zk_0 h⟩
        · have h := h.2 (fun c9 => c (e_8.mpr c9))
          exact hx _ _ h
      · have h := h.2 (e_6.mp c)
        exact hx _ _ h
    · have h := h.2 (fun c9 => c (e_4.mpr c9))
      exact hx _ _ h
set_option maxRecDepth 10000 in
theorem zw_CI_inUse {B : AA} {s : SS} (es : s = zS B) {post : Int32 → Prop} {pz : Int → Prop} (hp : ∀ r, pz r → post (zI r)) (h : zp_CI_inUse B pz) : wp_CI_inUse s post := by
  subst es; rw [zp_CI_inUse] at h; rw [wp_CI_inUse]
  exact z_r (P := post) (z_add zk_16 (z_mul (z_f B 1 1) zk_4)) (hp _ h)
set_option maxRecDepth 10000 in
theorem zw_CK_firstWaiting {B : AA} {s : SS} {x1 : Int} {t1 : Int32} (es : s = zS B) (e1 : t1 = zI x1) {post : Int32 → Prop} {pz : Int → Prop} (hp : ∀ r, pz r → post (zI r)) (h : zp_CK_firstWaiting B x1 pz) : wp_CK_firstWaiting s t1 post := by
  subst es; subst e1; rw [zp_CK_firstWaiting] at h; rw [wp_CK_firstWaiting]
  obtain ⟨i_1, h⟩ := h
  refine ⟨z_in (z_v x1) i_1 (by decide), ?_⟩
  obtain ⟨i_2, h⟩ := h
  refine ⟨z_in (z_v x1) i_2 (by decide), ?_⟩
  exact z_r (P := post) (z_sub (z_add (z_mul (z_v x1) zk_16) (z_a B 13 (z_v x1) (z_rg i_1 (by decide)))) (z_a B 14 (z_v x1) (z_rg i_2 (by decide)))) (hp _ h)
set_option maxRecDepth 10000 in
theorem zw_CI_frontOf {B : AA} {s : SS} {x1 : Int} {t1 : Int32} (es : s = zS B) (e1 : t1 = zI x1) {post : Int32 → Prop} {pz : Int → Prop} (hp : ∀ r, pz r → post (zI r)) (h : zp_CI_frontOf B x1 pz) : wp_CI_frontOf s t1 post := by
  subst es; subst e1; rw [zp_CI_frontOf] at h; rw [wp_CI_frontOf]
  obtain ⟨g_1, h⟩ := h
  have e_2 := z_lt (z_v x1) zk_16 g_1 (by decide)
  refine ⟨fun c => ?_, fun c => ?_⟩
  · have h := h.1 (e_2.mp c)
    obtain ⟨i_3, h⟩ := h
    refine ⟨z_in (z_v x1) i_3 (by decide), ?_⟩
    intro t_4 et_4
    obtain ⟨v_4, ev_4⟩ : ∃ w : Int, w = B 17 x1.toNat := ⟨_, rfl⟩
    have h := h v_4 ev_4
    have et_4 : t_4 = zI v_4 := by rw [ev_4]; exact et_4.trans (z_a B 17 (z_v x1) (z_rg i_3 (by decide)))
    subst et_4
    obtain ⟨g_5, h⟩ := h
    have e_6 := z_eq (z_v v_4) zk_m1 g_5 (by decide)
    refine ⟨fun c => ?_, fun c => ?_⟩
    · have h := h.1 (fun c9 => c (e_6.mpr c9))
      refine zw_CK_firstWaiting rfl (z_v v_4) (fun r_7 h => ?_) h
      exact z_r (P := post) (z_v r_7) (hp _ h)
    · have h := h.2 (e_6.mp c)
      exact z_r (P := post) zk_m1 (hp _ h)
  · have h := h.2 (fun c9 => c (e_2.mpr c9))
    intro t_8 et_8
    obtain ⟨v_8, ev_8⟩ : ∃ w : Int, w = x1 - 16 := ⟨_, rfl⟩
    have h := h v_8 ev_8
    have et_8 : t_8 = zI v_8 := by rw [ev_8]; exact et_8.trans (z_sub (z_v x1) zk_16)
    subst et_8
    obtain ⟨i_9, h⟩ := h
    refine ⟨z_in (z_v v_8) i_9 (by decide), ?_⟩
    obtain ⟨i_10, h⟩ := h
    refine ⟨z_in (z_v v_8) i_10 (by decide), ?_⟩
    obtain ⟨g_11, h⟩ := h
    obtain ⟨g_12, h⟩ := h
    have e_13 := z_le (z_a B 21 (z_v v_8) (z_rg i_9 (by decide))) (z_a B 22 (z_v v_8) (z_rg i_10 (by decide))) g_11 g_12
    refine ⟨fun c => ?_, fun c => ?_⟩
    · have h := h.1 (e_13.mp c)
      exact z_r (P := post) zk_m1 (hp _ h)
    · have h := h.2 (fun c9 => c (e_13.mpr c9))
      obtain ⟨i_14, h⟩ := h
      refine ⟨z_in (z_mul (z_v v_8) zk_4) i_14 (by decide), ?_⟩
      exact z_r (P := post) (z_a B 20 (z_mul (z_v v_8) zk_4) (z_rg i_14 (by decide))) (hp _ h)
set_option maxRecDepth 10000 in
theorem zw_CK_isHead {B : AA} {s : SS} {x1 : Int} {t1 : Int32} (es : s = zS B) (e1 : t1 = zI x1) {post : Int32 → Prop} {pz : Int → Prop} (hp : ∀ r, pz r → post (zI r)) (h : zp_CK_isHead B x1 pz) : wp_CK_isHead s t1 post := by
  subst es; subst e1; rw [zp_CK_isHead] at h; rw [wp_CK_isHead]
  obtain ⟨n_1, h⟩ := h
  obtain ⟨g_2, h⟩ := h
  have e_3 := z_eq (z_rem (z_v x1) zk_16 n_1 (by decide)) zk_0 g_2 (by decide)
  refine ⟨fun c => ?_, fun c => ?_⟩
  · have h := h.1 (fun c9 => c (e_3.mpr c9))
    exact z_r (P := post) zk_0 (hp _ h)
  · have h := h.2 (e_3.mp c)
    exact z_r (P := post) zk_1 (hp _ h)
set_option maxRecDepth 10000 in
theorem zw_CP_endOf {B : AA} {s : SS} {x1 : Int} {t1 : Int32} (es : s = zS B) (e1 : t1 = zI x1) {post : Int32 → Prop} {pz : Int → Prop} (hp : ∀ r, pz r → post (zI r)) (h : zp_CP_endOf B x1 pz) : wp_CP_endOf s t1 post := by
  subst es; subst e1; rw [zp_CP_endOf] at h; rw [wp_CP_endOf]
  obtain ⟨n_1, h⟩ := h
  obtain ⟨i_2, h⟩ := h
  refine ⟨z_in (z_div (z_v x1) zk_4 n_1 (by decide)) i_2 (by decide), ?_⟩
  exact z_r (P := post) (z_a B 7 (z_div (z_v x1) zk_4 n_1 (by decide)) (z_rg i_2 (by decide))) (hp _ h)
set_option maxRecDepth 10000 in
theorem zw_CI_nodeOf {B : AA} {s : SS} {x1 : Int} {t1 : Int32} (es : s = zS B) (e1 : t1 = zI x1) {post : Int32 → Prop} {pz : Int → Prop} (hp : ∀ r, pz r → post (zI r)) (h : zp_CI_nodeOf B x1 pz) : wp_CI_nodeOf s t1 post := by
  subst es; subst e1; rw [zp_CI_nodeOf] at h; rw [wp_CI_nodeOf]
  obtain ⟨g_1, h⟩ := h
  have e_2 := z_le zk_16 (z_v x1) (by decide) g_1
  refine ⟨fun c => ?_, fun c => ?_⟩
  · have h := h.1 (e_2.mp c)
    refine zw_CP_endOf rfl (z_sub (z_v x1) zk_16) (fun r_3 h => ?_) h
    exact z_r (P := post) (z_v r_3) (hp _ h)
  · have h := h.2 (fun c9 => c (e_2.mpr c9))
    exact z_r (P := post) (z_v x1) (hp _ h)
set_option maxRecDepth 10000 in
theorem zw_CK_endOf {B : AA} {s : SS} {x1 : Int} {t1 : Int32} (es : s = zS B) (e1 : t1 = zI x1) {post : Int32 → Prop} {pz : Int → Prop} (hp : ∀ r, pz r → post (zI r)) (h : zp_CK_endOf B x1 pz) : wp_CK_endOf s t1 post := by
  subst es; subst e1; rw [zp_CK_endOf] at h; rw [wp_CK_endOf]
  obtain ⟨n_1, h⟩ := h
  obtain ⟨i_2, h⟩ := h
  refine ⟨z_in (z_div (z_v x1) zk_16 n_1 (by decide)) i_2 (by decide), ?_⟩
  exact z_r (P := post) (z_a B 12 (z_div (z_v x1) zk_16 n_1 (by decide)) (z_rg i_2 (by decide))) (hp _ h)
set_option maxRecDepth 10000 in
theorem zw_CT_channelToGet {B : AA} {s : SS} {x1 : Int} {t1 : Int32} (es : s = zS B) (e1 : t1 = zI x1) {post : Int32 → Prop} {pz : Int → Prop} (hp : ∀ r, pz r → post (zI r)) (h : zp_CT_channelToGet B x1 pz) : wp_CT_channelToGet s t1 post := by
  subst es; subst e1; rw [zp_CT_channelToGet] at h; rw [wp_CT_channelToGet]
  refine zw_CI_frontOf rfl (z_v x1) (fun r_1 h => ?_) h
  obtain ⟨g_2, h⟩ := h
  have e_3 := z_eq (z_v r_1) zk_m1 g_2 (by decide)
  refine ⟨fun c => ?_, fun c => ?_⟩
  · have h := h.1 (e_3.mp c)
    exact z_r (P := post) zk_m1 (hp _ h)
  · have h := h.2 (fun c9 => c (e_3.mpr c9))
    refine zw_CK_isHead rfl (z_v r_1) (fun r_4 h => ?_) h
    obtain ⟨g_5, h⟩ := h
    have e_6 := z_eq (z_v r_4) zk_0 g_5 (by decide)
    refine ⟨fun c => ?_, fun c => ?_⟩
    · have h := h.1 (e_6.mp c)
      exact z_r (P := post) zk_m1 (hp _ h)
    · have h := h.2 (fun c9 => c (e_6.mpr c9))
      obtain ⟨i_7, h⟩ := h
      refine ⟨z_in (z_v x1) i_7 (by decide), ?_⟩
      obtain ⟨g_8, h⟩ := h
      have e_9 := z_eq (z_a B 23 (z_v x1) (z_rg i_7 (by decide))) zk_m1 g_8 (by decide)
      refine ⟨fun c => ?_, fun c => ?_⟩
      · have h := h.1 (e_9.mp c)
        refine zw_CI_nodeOf rfl (z_v x1) (fun r_10 h => ?_) h
        refine zw_CK_endOf rfl (z_v r_1) (fun r_11 h => ?_) h
        refine zw_CP_wayAt rfl (z_v r_10) (z_v r_11) (fun r_12 h => ?_) h
        obtain ⟨g_13, h⟩ := h
        have e_14 := z_eq (z_v r_12) zk_m1 g_13 (by decide)
        refine ⟨fun c => ?_, fun c => ?_⟩
        · have h := h.1 (e_14.mp c)
          exact z_r (P := post) zk_m1 (hp _ h)
        · have h := h.2 (fun c9 => c (e_14.mpr c9))
          obtain ⟨i_15, h⟩ := h
          refine ⟨z_in (z_v r_12) i_15 (by decide), ?_⟩
          obtain ⟨g_16, h⟩ := h
          have e_17 := z_eq (z_a B 24 (z_v r_12) (z_rg i_15 (by decide))) zk_m1 g_16 (by decide)
          refine ⟨fun c => ?_, fun c => ?_⟩
          · have h := h.1 (e_17.mp c)
            exact z_r (P := post) (z_v r_12) (hp _ h)
          · have h := h.2 (fun c9 => c (e_17.mpr c9))
            exact z_r (P := post) zk_m1 (hp _ h)
      · have h := h.2 (fun c9 => c (e_9.mpr c9))
        exact z_r (P := post) zk_m1 (hp _ h)
set_option maxRecDepth 10000 in
theorem zw_CK_packetOf {B : AA} {s : SS} {x1 : Int} {t1 : Int32} (es : s = zS B) (e1 : t1 = zI x1) {post : Int32 → Prop} {pz : Int → Prop} (hp : ∀ r, pz r → post (zI r)) (h : zp_CK_packetOf B x1 pz) : wp_CK_packetOf s t1 post := by
  subst es; subst e1; rw [zp_CK_packetOf] at h; rw [wp_CK_packetOf]
  obtain ⟨n_1, h⟩ := h
  exact z_r (P := post) (z_div (z_v x1) zk_16 n_1 (by decide)) (hp _ h)
set_option maxRecDepth 10000 in
theorem zwe_CT_askAll_69 (B : AA) (s : SS) (es : s = zS B) (x1 : Int) (t1 : Int32) (e1 : t1 = zI x1) {post : Int32 → SS → Prop} {pz : Int → AA → Prop} (hp : ∀ r S, pz r S → post (zI r) (zS S)) (h : ze_CT_askAll_69 B x1 pz) : we_CT_askAll_69 s t1 post := by
  subst es; subst e1; rw [ze_CT_askAll_69] at h; rw [we_CT_askAll_69]
  obtain ⟨b9, h⟩ := h
  refine ⟨z_01 (z_v x1) b9, ?_⟩
  exact z_r (P := fun r9 => post r9 (zS B)) (z_v x1) (hp _ _ h)
set_option maxRecDepth 10000 in
theorem zwl_CT_askAll_4  {ex : SS → Int32 → Int32 → Prop} {exz : AA → Int → Int → Prop} (hE : ∀ S s, s = zS S → ∀ (y1 : Int) (t1 : Int32), t1 = zI y1 → ∀ (y2 : Int) (t2 : Int32), t2 = zI y2 → exz S y1 y2 → ex s t1 t2) {post : Int32 → SS → Prop} {pz : Int → AA → Prop} (hp : ∀ r S, pz r S → post (zI r) (zS S)) : ∀ k, ∀ B s, s = zS B → ∀ (x1 : Int) (t1 : Int32), t1 = zI x1 → ∀ (x2 : Int) (t2 : Int32), t2 = zI x2 → zl_CT_askAll_4 exz pz k B x1 x2 → wl_CT_askAll_4 ex post k s t1 t2 := by
  intro k
  induction k with
  | zero => intro B s es x1 t1 e1 x2 t2 e2 h; rw [zl_CT_askAll_4] at h; exact h.elim
  | succ k ih =>
    intro B s es x1 t1 e1 x2 t2 e2 h
    subst es; subst e1; subst e2; rw [zl_CT_askAll_4] at h; rw [wl_CT_askAll_4]
    refine zw_CI_inUse rfl (fun r_1 h => ?_) h
    obtain ⟨g_2, h⟩ := h
    obtain ⟨g_3, h⟩ := h
    have e_4 := z_le (z_v r_1) (z_v x2) g_3 g_2
    refine ⟨fun c => ?_, fun c => ?_⟩
    · have h := h.1 (e_4.mp c)
      exact hE _ _ rfl _ _ (z_v x1) _ _ (z_v x2) h
    · have h := h.2 (fun c9 => c (e_4.mpr c9))
      refine zw_CT_channelToGet rfl (z_v x2) (fun r_5 h => ?_) h
      obtain ⟨g_6, h⟩ := h
      have e_7 := z_eq (z_v r_5) zk_m1 g_6 (by decide)
      refine ⟨fun c => ?_, fun c => ?_⟩
      · have h := h.1 (e_7.mp c)
        exact ih _ _ rfl _ _ (z_v x1) _ _ (z_add (z_v x2) zk_1) h
      · have h := h.2 (fun c9 => c (e_7.mpr c9))
        obtain ⟨i_8, h⟩ := h
        refine ⟨z_in (z_v x2) i_8 (by decide), ?_⟩
        intro s_9 es_9
        obtain ⟨S_9, eS_9⟩ : ∃ w : AA, w = zU B 23 x2.toNat r_5 := ⟨_, rfl⟩
        have h := h S_9 eS_9
        have es_9 : s_9 = zS S_9 := by rw [eS_9]; exact es_9.trans (z_ua B 23 (z_v x2) (z_rg i_8 (by decide)) (z_v r_5))
        subst es_9
        obtain ⟨i_10, h⟩ := h
        refine ⟨z_in (z_v r_5) i_10 (by decide), ?_⟩
        intro s_11 es_11
        obtain ⟨S_11, eS_11⟩ : ∃ w : AA, w = zU S_9 24 r_5.toNat x2 := ⟨_, rfl⟩
        have h := h S_11 eS_11
        have es_11 : s_11 = zS S_11 := by rw [eS_11]; exact es_11.trans (z_ua S_9 24 (z_v r_5) (z_rg i_10 (by decide)) (z_v x2))
        subst es_11
        refine zw_CI_frontOf rfl (z_v x2) (fun r_12 h => ?_) h
        refine zw_CK_packetOf rfl (z_v r_12) (fun r_13 h => ?_) h
        obtain ⟨i_14, h⟩ := h
        refine ⟨z_in (z_v r_5) i_14 (by decide), ?_⟩
        intro s_15 es_15
        obtain ⟨S_15, eS_15⟩ : ∃ w : AA, w = zU S_11 25 r_5.toNat r_13 := ⟨_, rfl⟩
        have h := h S_15 eS_15
        have es_15 : s_15 = zS S_15 := by rw [eS_15]; exact es_15.trans (z_ua S_11 25 (z_v r_5) (z_rg i_14 (by decide)) (z_v r_13))
        subst es_15
        exact ih _ _ rfl _ _ zk_1 _ _ (z_add (z_v x2) zk_1) h
set_option maxRecDepth 10000 in
theorem zw_CT_askAll {B : AA} {s : SS} (es : s = zS B) {post : Int32 → SS → Prop} {pz : Int → AA → Prop} (hp : ∀ r S, pz r S → post (zI r) (zS S)) (h : zp_CT_askAll B pz) : wp_CT_askAll s post := by
  subst es; rw [zp_CT_askAll] at h; rw [wp_CT_askAll]
  obtain ⟨j9, h⟩ := h
  exact ⟨j9, zwl_CT_askAll_4 (fun S16 s16 es16 y1_16 t1_16 e1_16 y2_16 t2_16 e2_16 h => zwe_CT_askAll_69 _ _ es16 _ _ e1_16 hp h) hp j9 _ _ rfl _ _ zk_0 _ _ zk_0 h⟩
set_option maxRecDepth 10000 in
theorem zw_CI_hasRoom {B : AA} {s : SS} {x1 : Int} {t1 : Int32} (es : s = zS B) (e1 : t1 = zI x1) {post : Int32 → Prop} {pz : Int → Prop} (hp : ∀ r, pz r → post (zI r)) (h : zp_CI_hasRoom B x1 pz) : wp_CI_hasRoom s t1 post := by
  subst es; subst e1; rw [zp_CI_hasRoom] at h; rw [wp_CI_hasRoom]
  obtain ⟨i_1, h⟩ := h
  refine ⟨z_in (z_v x1) i_1 (by decide), ?_⟩
  obtain ⟨g_2, h⟩ := h
  have e_3 := z_le zk_4 (z_a B 21 (z_v x1) (z_rg i_1 (by decide))) (by decide) g_2
  refine ⟨fun c => ?_, fun c => ?_⟩
  · have h := h.1 (e_3.mp c)
    exact z_r (P := post) zk_0 (hp _ h)
  · have h := h.2 (fun c9 => c (e_3.mpr c9))
    exact z_r (P := post) zk_1 (hp _ h)
set_option maxRecDepth 10000 in
theorem zw_CT_canMoveInto {B : AA} {s : SS} {x1 : Int} {t1 : Int32} (es : s = zS B) (e1 : t1 = zI x1) {post : Int32 → Prop} {pz : Int → Prop} (hp : ∀ r, pz r → post (zI r)) (h : zp_CT_canMoveInto B x1 pz) : wp_CT_canMoveInto s t1 post := by
  subst es; subst e1; rw [zp_CT_canMoveInto] at h; rw [wp_CT_canMoveInto]
  obtain ⟨i_1, h⟩ := h
  refine ⟨z_in (z_v x1) i_1 (by decide), ?_⟩
  intro t_2 et_2
  obtain ⟨v_2, ev_2⟩ : ∃ w : Int, w = B 24 x1.toNat := ⟨_, rfl⟩
  have h := h v_2 ev_2
  have et_2 : t_2 = zI v_2 := by rw [ev_2]; exact et_2.trans (z_a B 24 (z_v x1) (z_rg i_1 (by decide)))
  subst et_2
  obtain ⟨g_3, h⟩ := h
  have e_4 := z_eq (z_v v_2) zk_m1 g_3 (by decide)
  refine ⟨fun c => ?_, fun c => ?_⟩
  · have h := h.1 (e_4.mp c)
    exact z_r (P := post) zk_0 (hp _ h)
  · have h := h.2 (fun c9 => c (e_4.mpr c9))
    refine zw_CI_frontOf rfl (z_v v_2) (fun r_5 h => ?_) h
    obtain ⟨g_6, h⟩ := h
    have e_7 := z_eq (z_v r_5) zk_m1 g_6 (by decide)
    refine ⟨fun c => ?_, fun c => ?_⟩
    · have h := h.1 (e_7.mp c)
      exact z_r (P := post) zk_0 (hp _ h)
    · have h := h.2 (fun c9 => c (e_7.mpr c9))
      refine zw_CI_hasRoom rfl (z_v x1) (fun r_8 h => ?_) h
      obtain ⟨g_9, h⟩ := h
      have e_10 := z_eq (z_v r_8) zk_0 g_9 (by decide)
      refine ⟨fun c => ?_, fun c => ?_⟩
      · have h := h.1 (e_10.mp c)
        exact z_r (P := post) zk_0 (hp _ h)
      · have h := h.2 (fun c9 => c (e_10.mpr c9))
        exact z_r (P := post) zk_1 (hp _ h)
set_option maxRecDepth 10000 in
theorem zwe_CT_laneToMove_65 (B : AA) (s : SS) (es : s = zS B) {post : Int32 → Prop} {pz : Int → Prop} (hp : ∀ r, pz r → post (zI r)) (h : ze_CT_laneToMove_65 B pz) : we_CT_laneToMove_65 s post := by
  subst es; rw [ze_CT_laneToMove_65] at h; rw [we_CT_laneToMove_65]
  exact z_r (P := post) zk_m1 (hp _ h)
set_option maxRecDepth 10000 in
theorem zwl_CT_laneToMove_9 (B : AA) (s : SS) (es : s = zS B) (x1 : Int) (t1 : Int32) (e1 : t1 = zI x1) {ex : Int32 → Int32 → Prop} {exz : Int → Int → Prop} (hE : ∀ (y2 : Int) (t2 : Int32), t2 = zI y2 → ∀ (y3 : Int) (t3 : Int32), t3 = zI y3 → exz y2 y3 → ex t2 t3) {post : Int32 → Prop} {pz : Int → Prop} (hp : ∀ r, pz r → post (zI r)) : ∀ k, ∀ (x2 : Int) (t2 : Int32), t2 = zI x2 → ∀ (x3 : Int) (t3 : Int32), t3 = zI x3 → zl_CT_laneToMove_9 B x1 exz pz k x2 x3 → wl_CT_laneToMove_9 s t1 ex post k t2 t3 := by
  subst es; subst e1; intro k
  induction k with
  | zero => intro x2 t2 e2 x3 t3 e3 h; rw [zl_CT_laneToMove_9] at h; exact h.elim
  | succ k ih =>
    intro x2 t2 e2 x3 t3 e3 h
    subst e2; subst e3; rw [zl_CT_laneToMove_9] at h; rw [wl_CT_laneToMove_9]
    obtain ⟨i_3, h⟩ := h
    refine ⟨z_in (z_v x1) i_3 (by decide), ?_⟩
    obtain ⟨g_4, h⟩ := h
    obtain ⟨g_5, h⟩ := h
    have e_6 := z_le (z_a B 8 (z_v x1) (z_rg i_3 (by decide))) (z_v x3) g_5 g_4
    refine ⟨fun c => ?_, fun c => ?_⟩
    · have h := h.1 (e_6.mp c)
      exact hE _ _ (z_v x2) _ _ (z_v x3) h
    · have h := h.2 (fun c9 => c (e_6.mpr c9))
      obtain ⟨i_7, h⟩ := h
      refine ⟨z_in (z_v x1) i_7 (by decide), ?_⟩
      obtain ⟨g_8, h⟩ := h
      obtain ⟨g_9, h⟩ := h
      have e_10 := z_le (z_a B 8 (z_v x1) (z_rg i_7 (by decide))) (z_add (z_v x2) zk_1) g_9 g_8
      refine ⟨fun c => ?_, fun c => ?_⟩
      · have h := h.1 (e_10.mp c)
        refine zw_CT_canMoveInto rfl (z_add (z_mul (z_v x1) zk_4) zk_0) (fun r_11 h => ?_) h
        obtain ⟨g_12, h⟩ := h
        have e_13 := z_eq (z_v r_11) zk_0 g_12 (by decide)
        refine ⟨fun c => ?_, fun c => ?_⟩
        · have h := h.1 (e_13.mp c)
          exact ih _ _ zk_0 _ _ (z_add (z_v x3) zk_1) h
        · have h := h.2 (fun c9 => c (e_13.mpr c9))
          exact z_r (P := post) zk_0 (hp _ h)
      · have h := h.2 (fun c9 => c (e_10.mpr c9))
        intro t_14 et_14
        obtain ⟨v_14, ev_14⟩ : ∃ w : Int, w = x2 + 1 := ⟨_, rfl⟩
        have h := h v_14 ev_14
        have et_14 : t_14 = zI v_14 := by rw [ev_14]; exact et_14.trans (z_add (z_v x2) zk_1)
        subst et_14
        refine zw_CT_canMoveInto rfl (z_add (z_mul (z_v x1) zk_4) (z_v v_14)) (fun r_15 h => ?_) h
        obtain ⟨g_16, h⟩ := h
        have e_17 := z_eq (z_v r_15) zk_0 g_16 (by decide)
        refine ⟨fun c => ?_, fun c => ?_⟩
        · have h := h.1 (e_17.mp c)
          exact ih _ _ (z_v v_14) _ _ (z_add (z_v x3) zk_1) h
        · have h := h.2 (fun c9 => c (e_17.mpr c9))
          exact z_r (P := post) (z_v v_14) (hp _ h)
set_option maxRecDepth 10000 in
theorem zw_CT_laneToMove {B : AA} {s : SS} {x1 : Int} {t1 : Int32} (es : s = zS B) (e1 : t1 = zI x1) {post : Int32 → Prop} {pz : Int → Prop} (hp : ∀ r, pz r → post (zI r)) (h : zp_CT_laneToMove B x1 pz) : wp_CT_laneToMove s t1 post := by
  subst es; subst e1; rw [zp_CT_laneToMove] at h; rw [wp_CT_laneToMove]
  obtain ⟨i_1, h⟩ := h
  refine ⟨z_in (z_v x1) i_1 (by decide), ?_⟩
  intro t_2 et_2
  obtain ⟨v_2, ev_2⟩ : ∃ w : Int, w = B 27 x1.toNat := ⟨_, rfl⟩
  have h := h v_2 ev_2
  have et_2 : t_2 = zI v_2 := by rw [ev_2]; exact et_2.trans (z_a B 27 (z_v x1) (z_rg i_1 (by decide)))
  subst et_2
  obtain ⟨j9, h⟩ := h
  exact ⟨j9, zwl_CT_laneToMove_9 _ _ rfl _ _ (z_v x1) (fun y2_18 t2_18 e2_18 y3_18 t3_18 e3_18 h => zwe_CT_laneToMove_65 _ _ rfl hp h) hp j9 _ _ (z_v v_2) _ _ zk_0 h⟩
set_option maxRecDepth 10000 in
theorem zwe_CI_dropFromBuffer_40 (B : AA) (s : SS) (es : s = zS B) (x1 : Int) (t1 : Int32) (e1 : t1 = zI x1) {post : SS → Prop} {pz : AA → Prop} (hp : ∀ S, pz S → post (zS S)) (h : ze_CI_dropFromBuffer_40 B x1 pz) : we_CI_dropFromBuffer_40 s t1 post := by
  subst es; subst e1; rw [ze_CI_dropFromBuffer_40] at h; rw [we_CI_dropFromBuffer_40]
  obtain ⟨i_2, h⟩ := h
  refine ⟨z_in (z_v x1) i_2 (by decide), ?_⟩
  obtain ⟨i_3, h⟩ := h
  refine ⟨z_in (z_v x1) i_3 (by decide), ?_⟩
  intro s_4 es_4
  obtain ⟨S_4, eS_4⟩ : ∃ w : AA, w = zU B 21 x1.toNat ((B 21 x1.toNat) - 1) := ⟨_, rfl⟩
  have h := h S_4 eS_4
  have es_4 : s_4 = zS S_4 := by rw [eS_4]; exact es_4.trans (z_ua B 21 (z_v x1) (z_rg i_3 (by decide)) (z_sub (z_a B 21 (z_v x1) (z_rg i_2 (by decide))) zk_1))
  subst es_4
  exact hp _ h
set_option maxRecDepth 10000 in
theorem zwl_CI_dropFromBuffer_6  (x1 : Int) (t1 : Int32) (e1 : t1 = zI x1) (x2 : Int) (t2 : Int32) (e2 : t2 = zI x2) {ex : SS → Int32 → Prop} {exz : AA → Int → Prop} (hE : ∀ S s, s = zS S → ∀ (y3 : Int) (t3 : Int32), t3 = zI y3 → exz S y3 → ex s t3) {post : SS → Prop} {pz : AA → Prop} (hp : ∀ S, pz S → post (zS S)) : ∀ k, ∀ B s, s = zS B → ∀ (x3 : Int) (t3 : Int32), t3 = zI x3 → zl_CI_dropFromBuffer_6 x1 x2 exz pz k B x3 → wl_CI_dropFromBuffer_6 t1 t2 ex post k s t3 := by
  subst e1; subst e2; intro k
  induction k with
  | zero => intro B s es x3 t3 e3 h; rw [zl_CI_dropFromBuffer_6] at h; exact h.elim
  | succ k ih =>
    intro B s es x3 t3 e3 h
    subst es; subst e3; rw [zl_CI_dropFromBuffer_6] at h; rw [wl_CI_dropFromBuffer_6]
    obtain ⟨i_5, h⟩ := h
    refine ⟨z_in (z_v x1) i_5 (by decide), ?_⟩
    obtain ⟨g_6, h⟩ := h
    obtain ⟨g_7, h⟩ := h
    have e_8 := z_le (z_a B 21 (z_v x1) (z_rg i_5 (by decide))) (z_v x3) g_7 g_6
    refine ⟨fun c => ?_, fun c => ?_⟩
    · have h := h.1 (e_8.mp c)
      exact hE _ _ rfl _ _ (z_v x3) h
    · have h := h.2 (fun c9 => c (e_8.mpr c9))
      obtain ⟨i_9, h⟩ := h
      refine ⟨z_in (z_add (z_v x2) (z_v x3)) i_9 (by decide), ?_⟩
      obtain ⟨i_10, h⟩ := h
      refine ⟨z_in (z_sub (z_add (z_v x2) (z_v x3)) zk_1) i_10 (by decide), ?_⟩
      intro s_11 es_11
      obtain ⟨S_11, eS_11⟩ : ∃ w : AA, w = zU B 20 ((x2 + x3) - 1).toNat (B 20 (x2 + x3).toNat) := ⟨_, rfl⟩
      have h := h S_11 eS_11
      have es_11 : s_11 = zS S_11 := by rw [eS_11]; exact es_11.trans (z_ua B 20 (z_sub (z_add (z_v x2) (z_v x3)) zk_1) (z_rg i_10 (by decide)) (z_a B 20 (z_add (z_v x2) (z_v x3)) (z_rg i_9 (by decide))))
      subst es_11
      exact ih _ _ rfl _ _ (z_add (z_v x3) zk_1) h
set_option maxRecDepth 10000 in
theorem zw_CI_dropFromBuffer {B : AA} {s : SS} {x1 : Int} {t1 : Int32} (es : s = zS B) (e1 : t1 = zI x1) {post : SS → Prop} {pz : AA → Prop} (hp : ∀ S, pz S → post (zS S)) (h : zp_CI_dropFromBuffer B x1 pz) : wp_CI_dropFromBuffer s t1 post := by
  subst es; subst e1; rw [zp_CI_dropFromBuffer] at h; rw [wp_CI_dropFromBuffer]
  intro t_1 et_1
  obtain ⟨v_1, ev_1⟩ : ∃ w : Int, w = x1 * 4 := ⟨_, rfl⟩
  have h := h v_1 ev_1
  have et_1 : t_1 = zI v_1 := by rw [ev_1]; exact et_1.trans (z_mul (z_v x1) zk_4)
  subst et_1
  obtain ⟨j9, h⟩ := h
  exact ⟨j9, zwl_CI_dropFromBuffer_6 _ _ (z_v x1) _ _ (z_v v_1) (fun S12 s12 es12 y3_12 t3_12 e3_12 h => zwe_CI_dropFromBuffer_40 _ _ es12 _ _ (z_v x1) hp h) hp j9 _ _ rfl _ _ zk_1 h⟩
set_option maxRecDepth 10000 in
theorem zw_CI_dropFromQueue {B : AA} {s : SS} {x1 : Int} {t1 : Int32} (es : s = zS B) (e1 : t1 = zI x1) {post : SS → Prop} {pz : AA → Prop} (hp : ∀ S, pz S → post (zS S)) (h : zp_CI_dropFromQueue B x1 pz) : wp_CI_dropFromQueue s t1 post := by
  subst es; subst e1; rw [zp_CI_dropFromQueue] at h; rw [wp_CI_dropFromQueue]
  obtain ⟨i_1, h⟩ := h
  refine ⟨z_in (z_v x1) i_1 (by decide), ?_⟩
  intro t_2 et_2
  obtain ⟨v_2, ev_2⟩ : ∃ w : Int, w = B 17 x1.toNat := ⟨_, rfl⟩
  have h := h v_2 ev_2
  have et_2 : t_2 = zI v_2 := by rw [ev_2]; exact et_2.trans (z_a B 17 (z_v x1) (z_rg i_1 (by decide)))
  subst et_2
  obtain ⟨g_3, h⟩ := h
  have e_4 := z_eq (z_v v_2) zk_m1 g_3 (by decide)
  refine ⟨fun c => ?_, fun c => ?_⟩
  · have h := h.1 (fun c9 => c (e_4.mpr c9))
    obtain ⟨i_5, h⟩ := h
    refine ⟨z_in (z_v v_2) i_5 (by decide), ?_⟩
    obtain ⟨i_6, h⟩ := h
    refine ⟨z_in (z_v v_2) i_6 (by decide), ?_⟩
    intro s_7 es_7
    obtain ⟨S_7, eS_7⟩ : ∃ w : AA, w = zU B 14 v_2.toNat ((B 14 v_2.toNat) - 1) := ⟨_, rfl⟩
    have h := h S_7 eS_7
    have es_7 : s_7 = zS S_7 := by rw [eS_7]; exact es_7.trans (z_ua B 14 (z_v v_2) (z_rg i_6 (by decide)) (z_sub (z_a B 14 (z_v v_2) (z_rg i_5 (by decide))) zk_1))
    subst es_7
    obtain ⟨i_8, h⟩ := h
    refine ⟨z_in (z_v v_2) i_8 (by decide), ?_⟩
    obtain ⟨g_9, h⟩ := h
    have e_10 := z_eq (z_a S_7 14 (z_v v_2) (z_rg i_8 (by decide))) zk_0 g_9 (by decide)
    refine ⟨fun c => ?_, fun c => ?_⟩
    · have h := h.1 (fun c9 => c (e_10.mpr c9))
      exact hp _ h
    · have h := h.2 (e_10.mp c)
      obtain ⟨i_11, h⟩ := h
      refine ⟨z_in (z_v v_2) i_11 (by decide), ?_⟩
      obtain ⟨i_12, h⟩ := h
      refine ⟨z_in (z_v x1) i_12 (by decide), ?_⟩
      intro s_13 es_13
      obtain ⟨S_13, eS_13⟩ : ∃ w : AA, w = zU S_7 17 x1.toNat (S_7 19 v_2.toNat) := ⟨_, rfl⟩
      have h := h S_13 eS_13
      have es_13 : s_13 = zS S_13 := by rw [eS_13]; exact es_13.trans (z_ua S_7 17 (z_v x1) (z_rg i_12 (by decide)) (z_a S_7 19 (z_v v_2) (z_rg i_11 (by decide))))
      subst es_13
      exact hp _ h
  · have h := h.2 (e_4.mp c)
    exact hp _ h
set_option maxRecDepth 10000 in
theorem zw_CI_dropFront {B : AA} {s : SS} {x1 : Int} {t1 : Int32} (es : s = zS B) (e1 : t1 = zI x1) {post : SS → Prop} {pz : AA → Prop} (hp : ∀ S, pz S → post (zS S)) (h : zp_CI_dropFront B x1 pz) : wp_CI_dropFront s t1 post := by
  subst es; subst e1; rw [zp_CI_dropFront] at h; rw [wp_CI_dropFront]
  obtain ⟨g_1, h⟩ := h
  have e_2 := z_le zk_16 (z_v x1) (by decide) g_1
  refine ⟨fun c => ?_, fun c => ?_⟩
  · have h := h.1 (e_2.mp c)
    refine zw_CI_dropFromBuffer rfl (z_sub (z_v x1) zk_16) (fun S_3 h => ?_) h
    exact hp _ h
  · have h := h.2 (fun c9 => c (e_2.mpr c9))
    refine zw_CI_dropFromQueue rfl (z_v x1) (fun S_4 h => ?_) h
    exact hp _ h
set_option maxRecDepth 10000 in
theorem zw_CI_put {B : AA} {s : SS} {x1 : Int} {t1 : Int32} {x2 : Int} {t2 : Int32} (es : s = zS B) (e1 : t1 = zI x1) (e2 : t2 = zI x2) {post : SS → Prop} {pz : AA → Prop} (hp : ∀ S, pz S → post (zS S)) (h : zp_CI_put B x1 x2 pz) : wp_CI_put s t1 t2 post := by
  subst es; subst e1; subst e2; rw [zp_CI_put] at h; rw [wp_CI_put]
  obtain ⟨i_1, h⟩ := h
  refine ⟨z_in (z_v x1) i_1 (by decide), ?_⟩
  obtain ⟨i_2, h⟩ := h
  refine ⟨z_in (z_add (z_mul (z_v x1) zk_4) (z_a B 21 (z_v x1) (z_rg i_1 (by decide)))) i_2 (by decide), ?_⟩
  intro s_3 es_3
  obtain ⟨S_3, eS_3⟩ : ∃ w : AA, w = zU B 20 ((x1 * 4) + (B 21 x1.toNat)).toNat x2 := ⟨_, rfl⟩
  have h := h S_3 eS_3
  have es_3 : s_3 = zS S_3 := by rw [eS_3]; exact es_3.trans (z_ua B 20 (z_add (z_mul (z_v x1) zk_4) (z_a B 21 (z_v x1) (z_rg i_1 (by decide)))) (z_rg i_2 (by decide)) (z_v x2))
  subst es_3
  obtain ⟨i_4, h⟩ := h
  refine ⟨z_in (z_v x1) i_4 (by decide), ?_⟩
  obtain ⟨i_5, h⟩ := h
  refine ⟨z_in (z_v x1) i_5 (by decide), ?_⟩
  intro s_6 es_6
  obtain ⟨S_6, eS_6⟩ : ∃ w : AA, w = zU S_3 21 x1.toNat ((S_3 21 x1.toNat) + 1) := ⟨_, rfl⟩
  have h := h S_6 eS_6
  have es_6 : s_6 = zS S_6 := by rw [eS_6]; exact es_6.trans (z_ua S_3 21 (z_v x1) (z_rg i_5 (by decide)) (z_add (z_a S_3 21 (z_v x1) (z_rg i_4 (by decide))) zk_1))
  subst es_6
  obtain ⟨i_7, h⟩ := h
  refine ⟨z_in (z_v x1) i_7 (by decide), ?_⟩
  obtain ⟨i_8, h⟩ := h
  refine ⟨z_in (z_v x1) i_8 (by decide), ?_⟩
  intro s_9 es_9
  obtain ⟨S_9, eS_9⟩ : ∃ w : AA, w = zU S_6 22 x1.toNat ((S_6 22 x1.toNat) + 1) := ⟨_, rfl⟩
  have h := h S_9 eS_9
  have es_9 : s_9 = zS S_9 := by rw [eS_9]; exact es_9.trans (z_ua S_6 22 (z_v x1) (z_rg i_8 (by decide)) (z_add (z_a S_6 22 (z_v x1) (z_rg i_7 (by decide))) zk_1))
  subst es_9
  exact hp _ h
set_option maxRecDepth 10000 in
theorem zw_CK_isTail {B : AA} {s : SS} {x1 : Int} {t1 : Int32} (es : s = zS B) (e1 : t1 = zI x1) {post : Int32 → Prop} {pz : Int → Prop} (hp : ∀ r, pz r → post (zI r)) (h : zp_CK_isTail B x1 pz) : wp_CK_isTail s t1 post := by
  subst es; subst e1; rw [zp_CK_isTail] at h; rw [wp_CK_isTail]
  obtain ⟨n_1, h⟩ := h
  obtain ⟨n_2, h⟩ := h
  obtain ⟨i_3, h⟩ := h
  refine ⟨z_in (z_div (z_v x1) zk_16 n_2 (by decide)) i_3 (by decide), ?_⟩
  obtain ⟨g_4, h⟩ := h
  obtain ⟨g_5, h⟩ := h
  have e_6 := z_eq (z_rem (z_v x1) zk_16 n_1 (by decide)) (z_sub (z_a B 13 (z_div (z_v x1) zk_16 n_2 (by decide)) (z_rg i_3 (by decide))) zk_1) g_4 g_5
  refine ⟨fun c => ?_, fun c => ?_⟩
  · have h := h.1 (fun c9 => c (e_6.mpr c9))
    exact z_r (P := post) zk_0 (hp _ h)
  · have h := h.2 (e_6.mp c)
    exact z_r (P := post) zk_1 (hp _ h)
set_option maxRecDepth 10000 in
theorem zw_CT_moveInto {B : AA} {s : SS} {x1 : Int} {t1 : Int32} (es : s = zS B) (e1 : t1 = zI x1) {post : SS → Prop} {pz : AA → Prop} (hp : ∀ S, pz S → post (zS S)) (h : zp_CT_moveInto B x1 pz) : wp_CT_moveInto s t1 post := by
  subst es; subst e1; rw [zp_CT_moveInto] at h; rw [wp_CT_moveInto]
  obtain ⟨i_1, h⟩ := h
  refine ⟨z_in (z_v x1) i_1 (by decide), ?_⟩
  intro t_2 et_2
  obtain ⟨v_2, ev_2⟩ : ∃ w : Int, w = B 24 x1.toNat := ⟨_, rfl⟩
  have h := h v_2 ev_2
  have et_2 : t_2 = zI v_2 := by rw [ev_2]; exact et_2.trans (z_a B 24 (z_v x1) (z_rg i_1 (by decide)))
  subst et_2
  obtain ⟨g_3, h⟩ := h
  have e_4 := z_eq (z_v v_2) zk_m1 g_3 (by decide)
  refine ⟨fun c => ?_, fun c => ?_⟩
  · have h := h.1 (fun c9 => c (e_4.mpr c9))
    refine zw_CI_frontOf rfl (z_v v_2) (fun r_5 h => ?_) h
    obtain ⟨g_6, h⟩ := h
    have e_7 := z_eq (z_v r_5) zk_m1 g_6 (by decide)
    refine ⟨fun c => ?_, fun c => ?_⟩
    · have h := h.1 (fun c9 => c (e_7.mpr c9))
      refine zw_CI_dropFront rfl (z_v v_2) (fun S_8 h => ?_) h
      refine zw_CI_put rfl (z_v x1) (z_v r_5) (fun S_9 h => ?_) h
      obtain ⟨i_10, h⟩ := h
      refine ⟨z_in (z_v x1) i_10 (by decide), ?_⟩
      obtain ⟨i_11, h⟩ := h
      refine ⟨z_in (z_v x1) i_11 (by decide), ?_⟩
      intro s_12 es_12
      obtain ⟨S_12, eS_12⟩ : ∃ w : AA, w = zU S_9 26 x1.toNat ((S_9 26 x1.toNat) + 1) := ⟨_, rfl⟩
      have h := h S_12 eS_12
      have es_12 : s_12 = zS S_12 := by rw [eS_12]; exact es_12.trans (z_ua S_9 26 (z_v x1) (z_rg i_11 (by decide)) (z_add (z_a S_9 26 (z_v x1) (z_rg i_10 (by decide))) zk_1))
      subst es_12
      intro s_13 es_13
      obtain ⟨S_13, eS_13⟩ : ∃ w : AA, w = zU S_12 4 9 ((S_12 4 9) + 1) := ⟨_, rfl⟩
      have h := h S_13 eS_13
      have es_13 : s_13 = zS S_13 := by rw [eS_13]; exact es_13.trans (z_uf S_12 4 9 (z_add (z_f S_12 4 9) zk_1))
      subst es_13
      refine zw_CK_isTail rfl (z_v r_5) (fun r_14 h => ?_) h
      obtain ⟨g_15, h⟩ := h
      have e_16 := z_eq (z_v r_14) zk_0 g_15 (by decide)
      refine ⟨fun c => ?_, fun c => ?_⟩
      · have h := h.1 (e_16.mp c)
        exact hp _ h
      · have h := h.2 (fun c9 => c (e_16.mpr c9))
        obtain ⟨i_17, h⟩ := h
        refine ⟨z_in (z_v v_2) i_17 (by decide), ?_⟩
        intro s_18 es_18
        obtain ⟨S_18, eS_18⟩ : ∃ w : AA, w = zU S_13 23 v_2.toNat (-1) := ⟨_, rfl⟩
        have h := h S_18 eS_18
        have es_18 : s_18 = zS S_18 := by rw [eS_18]; exact es_18.trans (z_ua S_13 23 (z_v v_2) (z_rg i_17 (by decide)) zk_m1)
        subst es_18
        obtain ⟨i_19, h⟩ := h
        refine ⟨z_in (z_v x1) i_19 (by decide), ?_⟩
        intro s_20 es_20
        obtain ⟨S_20, eS_20⟩ : ∃ w : AA, w = zU S_18 24 x1.toNat (-1) := ⟨_, rfl⟩
        have h := h S_20 eS_20
        have es_20 : s_20 = zS S_20 := by rw [eS_20]; exact es_20.trans (z_ua S_18 24 (z_v x1) (z_rg i_19 (by decide)) zk_m1)
        subst es_20
        obtain ⟨i_21, h⟩ := h
        refine ⟨z_in (z_v x1) i_21 (by decide), ?_⟩
        intro s_22 es_22
        obtain ⟨S_22, eS_22⟩ : ∃ w : AA, w = zU S_20 25 x1.toNat (-1) := ⟨_, rfl⟩
        have h := h S_22 eS_22
        have es_22 : s_22 = zS S_22 := by rw [eS_22]; exact es_22.trans (z_ua S_20 25 (z_v x1) (z_rg i_21 (by decide)) zk_m1)
        subst es_22
        exact hp _ h
    · have h := h.2 (e_7.mp c)
      exact hp _ h
  · have h := h.2 (e_4.mp c)
    exact hp _ h
set_option maxRecDepth 10000 in
theorem zwe_CT_moveAll_50 (B : AA) (s : SS) (es : s = zS B) (x1 : Int) (t1 : Int32) (e1 : t1 = zI x1) {post : Int32 → SS → Prop} {pz : Int → AA → Prop} (hp : ∀ r S, pz r S → post (zI r) (zS S)) (h : ze_CT_moveAll_50 B x1 pz) : we_CT_moveAll_50 s t1 post := by
  subst es; subst e1; rw [ze_CT_moveAll_50] at h; rw [we_CT_moveAll_50]
  obtain ⟨b9, h⟩ := h
  refine ⟨z_01 (z_v x1) b9, ?_⟩
  exact z_r (P := fun r9 => post r9 (zS B)) (z_v x1) (hp _ _ h)
set_option maxRecDepth 10000 in
theorem zwl_CT_moveAll_4  {ex : SS → Int32 → Int32 → Prop} {exz : AA → Int → Int → Prop} (hE : ∀ S s, s = zS S → ∀ (y1 : Int) (t1 : Int32), t1 = zI y1 → ∀ (y2 : Int) (t2 : Int32), t2 = zI y2 → exz S y1 y2 → ex s t1 t2) {post : Int32 → SS → Prop} {pz : Int → AA → Prop} (hp : ∀ r S, pz r S → post (zI r) (zS S)) : ∀ k, ∀ B s, s = zS B → ∀ (x1 : Int) (t1 : Int32), t1 = zI x1 → ∀ (x2 : Int) (t2 : Int32), t2 = zI x2 → zl_CT_moveAll_4 exz pz k B x1 x2 → wl_CT_moveAll_4 ex post k s t1 t2 := by
  intro k
  induction k with
  | zero => intro B s es x1 t1 e1 x2 t2 e2 h; rw [zl_CT_moveAll_4] at h; exact h.elim
  | succ k ih =>
    intro B s es x1 t1 e1 x2 t2 e2 h
    subst es; subst e1; subst e2; rw [zl_CT_moveAll_4] at h; rw [wl_CT_moveAll_4]
    obtain ⟨g_1, h⟩ := h
    obtain ⟨g_2, h⟩ := h
    have e_3 := z_le (z_f B 1 1) (z_v x2) g_2 g_1
    refine ⟨fun c => ?_, fun c => ?_⟩
    · have h := h.1 (e_3.mp c)
      exact hE _ _ rfl _ _ (z_v x1) _ _ (z_v x2) h
    · have h := h.2 (fun c9 => c (e_3.mpr c9))
      refine zw_CT_laneToMove rfl (z_v x2) (fun r_4 h => ?_) h
      obtain ⟨g_5, h⟩ := h
      have e_6 := z_eq (z_v r_4) zk_m1 g_5 (by decide)
      refine ⟨fun c => ?_, fun c => ?_⟩
      · have h := h.1 (e_6.mp c)
        exact ih _ _ rfl _ _ (z_v x1) _ _ (z_add (z_v x2) zk_1) h
      · have h := h.2 (fun c9 => c (e_6.mpr c9))
        obtain ⟨i_7, h⟩ := h
        refine ⟨z_in (z_v x2) i_7 (by decide), ?_⟩
        intro s_8 es_8
        obtain ⟨S_8, eS_8⟩ : ∃ w : AA, w = zU B 27 x2.toNat r_4 := ⟨_, rfl⟩
        have h := h S_8 eS_8
        have es_8 : s_8 = zS S_8 := by rw [eS_8]; exact es_8.trans (z_ua B 27 (z_v x2) (z_rg i_7 (by decide)) (z_v r_4))
        subst es_8
        refine zw_CT_moveInto rfl (z_add (z_mul (z_v x2) zk_4) (z_v r_4)) (fun S_9 h => ?_) h
        exact ih _ _ rfl _ _ zk_1 _ _ (z_add (z_v x2) zk_1) h
set_option maxRecDepth 10000 in
theorem zw_CT_moveAll {B : AA} {s : SS} (es : s = zS B) {post : Int32 → SS → Prop} {pz : Int → AA → Prop} (hp : ∀ r S, pz r S → post (zI r) (zS S)) (h : zp_CT_moveAll B pz) : wp_CT_moveAll s post := by
  subst es; rw [zp_CT_moveAll] at h; rw [wp_CT_moveAll]
  obtain ⟨j9, h⟩ := h
  exact ⟨j9, zwl_CT_moveAll_4 (fun S10 s10 es10 y1_10 t1_10 e1_10 y2_10 t2_10 e2_10 h => zwe_CT_moveAll_50 _ _ es10 _ _ e1_10 hp h) hp j9 _ _ rfl _ _ zk_0 _ _ zk_0 h⟩
set_option maxRecDepth 10000 in
theorem zw_CT_flitToLeave {B : AA} {s : SS} {x1 : Int} {t1 : Int32} (es : s = zS B) (e1 : t1 = zI x1) {post : Int32 → Prop} {pz : Int → Prop} (hp : ∀ r, pz r → post (zI r)) (h : zp_CT_flitToLeave B x1 pz) : wp_CT_flitToLeave s t1 post := by
  subst es; subst e1; rw [zp_CT_flitToLeave] at h; rw [wp_CT_flitToLeave]
  refine zw_CI_frontOf rfl (z_v x1) (fun r_1 h => ?_) h
  obtain ⟨g_2, h⟩ := h
  have e_3 := z_eq (z_v r_1) zk_m1 g_2 (by decide)
  refine ⟨fun c => ?_, fun c => ?_⟩
  · have h := h.1 (e_3.mp c)
    exact z_r (P := post) zk_m1 (hp _ h)
  · have h := h.2 (fun c9 => c (e_3.mpr c9))
    refine zw_CK_endOf rfl (z_v r_1) (fun r_4 h => ?_) h
    refine zw_CI_nodeOf rfl (z_v x1) (fun r_5 h => ?_) h
    obtain ⟨g_6, h⟩ := h
    obtain ⟨g_7, h⟩ := h
    have e_8 := z_eq (z_v r_4) (z_v r_5) g_6 g_7
    refine ⟨fun c => ?_, fun c => ?_⟩
    · have h := h.1 (fun c9 => c (e_8.mpr c9))
      exact z_r (P := post) zk_m1 (hp _ h)
    · have h := h.2 (e_8.mp c)
      exact z_r (P := post) (z_v r_1) (hp _ h)
set_option maxRecDepth 10000 in
theorem zw_CK_leave {B : AA} {s : SS} {x1 : Int} {t1 : Int32} {x2 : Int} {t2 : Int32} (es : s = zS B) (e1 : t1 = zI x1) (e2 : t2 = zI x2) {post : SS → Prop} {pz : AA → Prop} (hp : ∀ S, pz S → post (zS S)) (h : zp_CK_leave B x1 x2 pz) : wp_CK_leave s t1 t2 post := by
  subst es; subst e1; subst e2; rw [zp_CK_leave] at h; rw [wp_CK_leave]
  refine zw_CK_packetOf rfl (z_v x1) (fun r_1 h => ?_) h
  obtain ⟨i_2, h⟩ := h
  refine ⟨z_in (z_v r_1) i_2 (by decide), ?_⟩
  obtain ⟨i_3, h⟩ := h
  refine ⟨z_in (z_v r_1) i_3 (by decide), ?_⟩
  intro s_4 es_4
  obtain ⟨S_4, eS_4⟩ : ∃ w : AA, w = zU B 15 r_1.toNat ((B 15 r_1.toNat) + 1) := ⟨_, rfl⟩
  have h := h S_4 eS_4
  have es_4 : s_4 = zS S_4 := by rw [eS_4]; exact es_4.trans (z_ua B 15 (z_v r_1) (z_rg i_3 (by decide)) (z_add (z_a B 15 (z_v r_1) (z_rg i_2 (by decide))) zk_1))
  subst es_4
  refine zw_CK_isTail rfl (z_v x1) (fun r_5 h => ?_) h
  obtain ⟨g_6, h⟩ := h
  have e_7 := z_eq (z_v r_5) zk_0 g_6 (by decide)
  refine ⟨fun c => ?_, fun c => ?_⟩
  · have h := h.1 (e_7.mp c)
    exact hp _ h
  · have h := h.2 (fun c9 => c (e_7.mpr c9))
    obtain ⟨i_8, h⟩ := h
    refine ⟨z_in (z_v r_1) i_8 (by decide), ?_⟩
    intro s_9 es_9
    obtain ⟨S_9, eS_9⟩ : ∃ w : AA, w = zU S_4 16 r_1.toNat x2 := ⟨_, rfl⟩
    have h := h S_9 eS_9
    have es_9 : s_9 = zS S_9 := by rw [eS_9]; exact es_9.trans (z_ua S_4 16 (z_v r_1) (z_rg i_8 (by decide)) (z_v x2))
    subst es_9
    intro s_10 es_10
    obtain ⟨S_10, eS_10⟩ : ∃ w : AA, w = zU S_9 2 1 ((S_9 2 1) + 1) := ⟨_, rfl⟩
    have h := h S_10 eS_10
    have es_10 : s_10 = zS S_10 := by rw [eS_10]; exact es_10.trans (z_uf S_9 2 1 (z_add (z_f S_9 2 1) zk_1))
    subst es_10
    exact hp _ h
set_option maxRecDepth 10000 in
theorem zwe_CT_leaveAll_54 (B : AA) (s : SS) (es : s = zS B) (x1 : Int) (t1 : Int32) (e1 : t1 = zI x1) {post : Int32 → SS → Prop} {pz : Int → AA → Prop} (hp : ∀ r S, pz r S → post (zI r) (zS S)) (h : ze_CT_leaveAll_54 B x1 pz) : we_CT_leaveAll_54 s t1 post := by
  subst es; subst e1; rw [ze_CT_leaveAll_54] at h; rw [we_CT_leaveAll_54]
  obtain ⟨b9, h⟩ := h
  refine ⟨z_01 (z_v x1) b9, ?_⟩
  exact z_r (P := fun r9 => post r9 (zS B)) (z_v x1) (hp _ _ h)
set_option maxRecDepth 10000 in
theorem zwl_CT_leaveAll_4  {ex : SS → Int32 → Int32 → Prop} {exz : AA → Int → Int → Prop} (hE : ∀ S s, s = zS S → ∀ (y1 : Int) (t1 : Int32), t1 = zI y1 → ∀ (y2 : Int) (t2 : Int32), t2 = zI y2 → exz S y1 y2 → ex s t1 t2) {post : Int32 → SS → Prop} {pz : Int → AA → Prop} (hp : ∀ r S, pz r S → post (zI r) (zS S)) : ∀ k, ∀ B s, s = zS B → ∀ (x1 : Int) (t1 : Int32), t1 = zI x1 → ∀ (x2 : Int) (t2 : Int32), t2 = zI x2 → zl_CT_leaveAll_4 exz pz k B x1 x2 → wl_CT_leaveAll_4 ex post k s t1 t2 := by
  intro k
  induction k with
  | zero => intro B s es x1 t1 e1 x2 t2 e2 h; rw [zl_CT_leaveAll_4] at h; exact h.elim
  | succ k ih =>
    intro B s es x1 t1 e1 x2 t2 e2 h
    subst es; subst e1; subst e2; rw [zl_CT_leaveAll_4] at h; rw [wl_CT_leaveAll_4]
    refine zw_CI_inUse rfl (fun r_1 h => ?_) h
    obtain ⟨g_2, h⟩ := h
    obtain ⟨g_3, h⟩ := h
    have e_4 := z_le (z_v r_1) (z_v x2) g_3 g_2
    refine ⟨fun c => ?_, fun c => ?_⟩
    · have h := h.1 (e_4.mp c)
      exact hE _ _ rfl _ _ (z_v x1) _ _ (z_v x2) h
    · have h := h.2 (fun c9 => c (e_4.mpr c9))
      refine zw_CT_flitToLeave rfl (z_v x2) (fun r_5 h => ?_) h
      obtain ⟨g_6, h⟩ := h
      have e_7 := z_eq (z_v r_5) zk_m1 g_6 (by decide)
      refine ⟨fun c => ?_, fun c => ?_⟩
      · have h := h.1 (e_7.mp c)
        exact ih _ _ rfl _ _ (z_v x1) _ _ (z_add (z_v x2) zk_1) h
      · have h := h.2 (fun c9 => c (e_7.mpr c9))
        refine zw_CK_leave rfl (z_v r_5) (z_f B 4 8) (fun S_8 h => ?_) h
        refine zw_CI_dropFront rfl (z_v x2) (fun S_9 h => ?_) h
        exact ih _ _ rfl _ _ zk_1 _ _ (z_add (z_v x2) zk_1) h
set_option maxRecDepth 10000 in
theorem zw_CT_leaveAll {B : AA} {s : SS} (es : s = zS B) {post : Int32 → SS → Prop} {pz : Int → AA → Prop} (hp : ∀ r S, pz r S → post (zI r) (zS S)) (h : zp_CT_leaveAll B pz) : wp_CT_leaveAll s post := by
  subst es; rw [zp_CT_leaveAll] at h; rw [wp_CT_leaveAll]
  obtain ⟨j9, h⟩ := h
  exact ⟨j9, zwl_CT_leaveAll_4 (fun S10 s10 es10 y1_10 t1_10 e1_10 y2_10 t2_10 e2_10 h => zwe_CT_leaveAll_54 _ _ es10 _ _ e1_10 hp h) hp j9 _ _ rfl _ _ zk_0 _ _ zk_0 h⟩
set_option maxRecDepth 10000 in
theorem zw_CI_endCycle {B : AA} {s : SS} (es : s = zS B) {post : SS → Prop} {pz : AA → Prop} (hp : ∀ S, pz S → post (zS S)) (h : zp_CI_endCycle B pz) : wp_CI_endCycle s post := by
  subst es; rw [zp_CI_endCycle] at h; rw [wp_CI_endCycle]
  intro s_1 es_1
  obtain ⟨S_1, eS_1⟩ : ∃ w : AA, w = zF B 22 160 0 := ⟨_, rfl⟩
  have h := h S_1 eS_1
  have es_1 : s_1 = zS S_1 := by rw [eS_1]; exact es_1.trans (z_fl B 22 160 zk_0)
  subst es_1
  exact hp _ h
set_option maxRecDepth 10000 in
theorem zw_CT_goOneCycle {B : AA} {s : SS} (es : s = zS B) {post : Int32 → SS → Prop} {pz : Int → AA → Prop} (hp : ∀ r S, pz r S → post (zI r) (zS S)) (h : zp_CT_goOneCycle B pz) : wp_CT_goOneCycle s post := by
  subst es; rw [zp_CT_goOneCycle] at h; rw [wp_CT_goOneCycle]
  intro s_1 es_1
  obtain ⟨S_1, eS_1⟩ : ∃ w : AA, w = zU B 4 8 ((B 4 8) + 1) := ⟨_, rfl⟩
  have h := h S_1 eS_1
  have es_1 : s_1 = zS S_1 := by rw [eS_1]; exact es_1.trans (z_uf B 4 8 (z_add (z_f B 4 8) zk_1))
  subst es_1
  refine zw_CT_askAll rfl (fun r_2 S_2 h => ?_) h
  refine zw_CT_moveAll rfl (fun r_3 S_3 h => ?_) h
  refine zw_CT_leaveAll rfl (fun r_4 S_4 h => ?_) h
  refine zw_CI_endCycle rfl (fun S_5 h => ?_) h
  obtain ⟨g_6, h⟩ := h
  have e_7 := z_eq (z_v r_2) zk_0 g_6 (by decide)
  refine ⟨fun c => ?_, fun c => ?_⟩
  · have h := h.1 (fun c9 => c (e_7.mpr c9))
    exact z_r (P := fun r9 => post r9 (zS S_5)) zk_1 (hp _ _ h)
  · have h := h.2 (e_7.mp c)
    obtain ⟨g_8, h⟩ := h
    have e_9 := z_eq (z_v r_3) zk_0 g_8 (by decide)
    refine ⟨fun c => ?_, fun c => ?_⟩
    · have h := h.1 (fun c9 => c (e_9.mpr c9))
      exact z_r (P := fun r9 => post r9 (zS S_5)) zk_1 (hp _ _ h)
    · have h := h.2 (e_9.mp c)
      obtain ⟨g_10, h⟩ := h
      have e_11 := z_eq (z_v r_4) zk_0 g_10 (by decide)
      refine ⟨fun c => ?_, fun c => ?_⟩
      · have h := h.1 (e_11.mp c)
        exact z_r (P := fun r9 => post r9 (zS S_5)) zk_0 (hp _ _ h)
      · have h := h.2 (fun c9 => c (e_11.mpr c9))
        exact z_r (P := fun r9 => post r9 (zS S_5)) zk_1 (hp _ _ h)
set_option maxRecDepth 10000 in
theorem zwe_CN_run_81 (B : AA) (s : SS) (es : s = zS B) (x2 : Int) (t2 : Int32) (e2 : t2 = zI x2) {post : Int32 → SS → Prop} {pz : Int → AA → Prop} (hp : ∀ r S, pz r S → post (zI r) (zS S)) {xp : String → SS → Prop} {xz : String → AA → Prop} (hx : ∀ E S, xz E S → xp E (zS S)) (h : ze_CN_run_81 B x2 pz xz) : we_CN_run_81 s t2 post xp := by
  subst es; subst e2; rw [ze_CN_run_81] at h; rw [we_CN_run_81]
  exact z_r (P := fun r9 => post r9 (zS B)) (z_sub (z_f B 2 1) (z_v x2)) (hp _ _ h)
set_option maxRecDepth 10000 in
theorem zwl_CN_run_35  (x1 : Int) (t1 : Int32) (e1 : t1 = zI x1) (x2 : Int) (t2 : Int32) (e2 : t2 = zI x2) {ex : SS → Int32 → Int32 → Prop} {exz : AA → Int → Int → Prop} (hE : ∀ S s, s = zS S → ∀ (y3 : Int) (t3 : Int32), t3 = zI y3 → ∀ (y4 : Int) (t4 : Int32), t4 = zI y4 → exz S y3 y4 → ex s t3 t4) {post : Int32 → SS → Prop} {pz : Int → AA → Prop} (hp : ∀ r S, pz r S → post (zI r) (zS S)) {xp : String → SS → Prop} {xz : String → AA → Prop} (hx : ∀ E S, xz E S → xp E (zS S)) : ∀ k, ∀ B s, s = zS B → ∀ (x3 : Int) (t3 : Int32), t3 = zI x3 → ∀ (x4 : Int) (t4 : Int32), t4 = zI x4 → zl_CN_run_35 x1 x2 exz pz xz k B x3 x4 → wl_CN_run_35 t1 t2 ex post xp k s t3 t4 := by
  subst e1; subst e2; intro k
  induction k with
  | zero => intro B s es x3 t3 e3 x4 t4 e4 h; rw [zl_CN_run_35] at h; exact h.elim
  | succ k ih =>
    intro B s es x3 t3 e3 x4 t4 e4 h
    subst es; subst e3; subst e4; rw [zl_CN_run_35] at h; rw [wl_CN_run_35]
    obtain ⟨g_6, h⟩ := h
    obtain ⟨g_7, h⟩ := h
    have e_8 := z_le (z_v x1) (z_v x4) g_7 g_6
    refine ⟨fun c => ?_, fun c => ?_⟩
    · have h := h.1 (e_8.mp c)
      exact hE _ _ rfl _ _ (z_v x3) _ _ (z_v x4) h
    · have h := h.2 (fun c9 => c (e_8.mpr c9))
      obtain ⟨g_9, h⟩ := h
      have e_10 := z_eq (z_v x3) zk_0 g_9 (by decide)
      refine ⟨fun c => ?_, fun c => ?_⟩
      · have h := h.1 (e_10.mp c)
        exact hE _ _ rfl _ _ (z_v x3) _ _ (z_v x4) h
      · have h := h.2 (fun c9 => c (e_10.mpr c9))
        refine zw_CT_goOneCycle rfl (fun r_11 S_11 h => ?_) h
        obtain ⟨g_12, h⟩ := h
        have e_13 := z_eq (z_v r_11) zk_0 g_12 (by decide)
        refine ⟨fun c => ?_, fun c => ?_⟩
        · have h := h.1 (fun c9 => c (e_13.mpr c9))
          exact ih _ _ rfl _ _ (z_v r_11) _ _ (z_add (z_v x4) zk_1) h
        · have h := h.2 (e_13.mp c)
          intro s_14 es_14
          obtain ⟨S_14, eS_14⟩ : ∃ w : AA, w = zU S_11 4 8 ((S_11 4 8) + ((x1 - x4) - 1)) := ⟨_, rfl⟩
          have h := h S_14 eS_14
          have es_14 : s_14 = zS S_14 := by rw [eS_14]; exact es_14.trans (z_uf S_11 4 8 (z_add (z_f S_11 4 8) (z_sub (z_sub (z_v x1) (z_v x4)) zk_1)))
          subst es_14
          exact ih _ _ rfl _ _ (z_v r_11) _ _ (z_add (z_v x4) zk_1) h
set_option maxRecDepth 10000 in
theorem zw_CN_run {B : AA} {s : SS} {x1 : Int} {t1 : Int32} (es : s = zS B) (e1 : t1 = zI x1) {post : Int32 → SS → Prop} {pz : Int → AA → Prop} (hp : ∀ r S, pz r S → post (zI r) (zS S)) {xp : String → SS → Prop} {xz : String → AA → Prop} (hx : ∀ E S, xz E S → xp E (zS S)) (h : zp_CN_run B x1 pz xz) : wp_CN_run s t1 post xp := by
  subst es; subst e1; rw [zp_CN_run] at h; rw [wp_CN_run]
  obtain ⟨g_1, h⟩ := h
  have e_2 := z_lt (z_v x1) zk_1 g_1 (by decide)
  refine ⟨fun c => ?_, fun c => ?_⟩
  · have h := h.1 (e_2.mp c)
    exact hx _ _ h
  · have h := h.2 (fun c9 => c (e_2.mpr c9))
    obtain ⟨g_3, h⟩ := h
    have e_4 := z_le (z_v x1) zk_2000 g_3 (by decide)
    refine ⟨fun c => ?_, fun c => ?_⟩
    · have h := h.1 (e_4.mp c)
      intro t_5 et_5
      obtain ⟨v_5, ev_5⟩ : ∃ w : Int, w = B 2 1 := ⟨_, rfl⟩
      have h := h v_5 ev_5
      have et_5 : t_5 = zI v_5 := by rw [ev_5]; exact et_5.trans (z_f B 2 1)
      subst et_5
      obtain ⟨j9, h⟩ := h
      exact ⟨j9, zwl_CN_run_35 _ _ (z_v x1) _ _ (z_v v_5) (fun S15 s15 es15 y3_15 t3_15 e3_15 y4_15 t4_15 e4_15 h => zwe_CN_run_81 _ _ es15 _ _ (z_v v_5) hp hx h) hp hx j9 _ _ rfl _ _ zk_1 _ _ zk_0 h⟩
    · have h := h.2 (fun c9 => c (e_4.mpr c9))
      exact hx _ _ h
set_option maxRecDepth 10000 in
theorem zw_CN_packet {B : AA} {s : SS} {x1 : Int} {t1 : Int32} {x2 : Int} {t2 : Int32} (es : s = zS B) (e1 : t1 = zI x1) (e2 : t2 = zI x2) {post : Int32 → Prop} {pz : Int → Prop} (hp : ∀ r, pz r → post (zI r)) {xp : String → SS → Prop} {xz : String → AA → Prop} (hx : ∀ E S, xz E S → xp E (zS S)) (h : zp_CN_packet B x1 x2 pz xz) : wp_CN_packet s t1 t2 post xp := by
  subst es; subst e1; subst e2; rw [zp_CN_packet] at h; rw [wp_CN_packet]
  obtain ⟨g_1, h⟩ := h
  have e_2 := z_lt (z_v x1) zk_0 g_1 (by decide)
  refine ⟨fun c => ?_, fun c => ?_⟩
  · have h := h.1 (e_2.mp c)
    exact hx _ _ h
  · have h := h.2 (fun c9 => c (e_2.mpr c9))
    obtain ⟨g_3, h⟩ := h
    obtain ⟨g_4, h⟩ := h
    have e_5 := z_lt (z_v x1) (z_f B 2 0) g_3 g_4
    refine ⟨fun c => ?_, fun c => ?_⟩
    · have h := h.1 (e_5.mp c)
      obtain ⟨g_6, h⟩ := h
      refine ⟨fun c => ?_, fun c => ?_, fun c => ?_, fun c => ?_, fun cc0 cc1 cc2 cc3 => ?_⟩
      · have h := h.1 ((z_eq (z_v x2) zk_0 g_6 (by decide)).mp c)
        obtain ⟨i_7, h⟩ := h
        refine ⟨z_in (z_v x1) i_7 (by decide), ?_⟩
        exact z_r (P := post) (z_a B 16 (z_v x1) (z_rg i_7 (by decide))) (hp _ h)
      · have h := h.2.1 ((z_eq (z_v x2) zk_1 g_6 (by decide)).mp c)
        obtain ⟨i_8, h⟩ := h
        refine ⟨z_in (z_v x1) i_8 (by decide), ?_⟩
        exact z_r (P := post) (z_a B 14 (z_v x1) (z_rg i_8 (by decide))) (hp _ h)
      · have h := h.2.2.1 ((z_eq (z_v x2) zk_2 g_6 (by decide)).mp c)
        obtain ⟨i_9, h⟩ := h
        refine ⟨z_in (z_v x1) i_9 (by decide), ?_⟩
        obtain ⟨i_10, h⟩ := h
        refine ⟨z_in (z_v x1) i_10 (by decide), ?_⟩
        obtain ⟨i_11, h⟩ := h
        refine ⟨z_in (z_v x1) i_11 (by decide), ?_⟩
        exact z_r (P := post) (z_sub (z_sub (z_a B 13 (z_v x1) (z_rg i_9 (by decide))) (z_a B 14 (z_v x1) (z_rg i_10 (by decide)))) (z_a B 15 (z_v x1) (z_rg i_11 (by decide)))) (hp _ h)
      · have h := h.2.2.2.1 ((z_eq (z_v x2) zk_3 g_6 (by decide)).mp c)
        obtain ⟨i_12, h⟩ := h
        refine ⟨z_in (z_v x1) i_12 (by decide), ?_⟩
        exact z_r (P := post) (z_a B 15 (z_v x1) (z_rg i_12 (by decide))) (hp _ h)
      · have h := h.2.2.2.2 (fun c9 => cc0 ((z_eq (z_v x2) zk_0 g_6 (by decide)).mpr c9)) (fun c9 => cc1 ((z_eq (z_v x2) zk_1 g_6 (by decide)).mpr c9)) (fun c9 => cc2 ((z_eq (z_v x2) zk_2 g_6 (by decide)).mpr c9)) (fun c9 => cc3 ((z_eq (z_v x2) zk_3 g_6 (by decide)).mpr c9))
        exact hx _ _ h
    · have h := h.2 (fun c9 => c (e_5.mpr c9))
      exact hx _ _ h
set_option maxRecDepth 10000 in
theorem zw_CI_frontPacketIn {B : AA} {s : SS} {x1 : Int} {t1 : Int32} (es : s = zS B) (e1 : t1 = zI x1) {post : Int32 → Prop} {pz : Int → Prop} (hp : ∀ r, pz r → post (zI r)) (h : zp_CI_frontPacketIn B x1 pz) : wp_CI_frontPacketIn s t1 post := by
  subst es; subst e1; rw [zp_CI_frontPacketIn] at h; rw [wp_CI_frontPacketIn]
  obtain ⟨i_1, h⟩ := h
  refine ⟨z_in (z_v x1) i_1 (by decide), ?_⟩
  obtain ⟨g_2, h⟩ := h
  have e_3 := z_le (z_a B 21 (z_v x1) (z_rg i_1 (by decide))) zk_0 g_2 (by decide)
  refine ⟨fun c => ?_, fun c => ?_⟩
  · have h := h.1 (e_3.mp c)
    exact z_r (P := post) zk_m1 (hp _ h)
  · have h := h.2 (fun c9 => c (e_3.mpr c9))
    obtain ⟨i_4, h⟩ := h
    refine ⟨z_in (z_mul (z_v x1) zk_4) i_4 (by decide), ?_⟩
    refine zw_CK_packetOf rfl (z_a B 20 (z_mul (z_v x1) zk_4) (z_rg i_4 (by decide))) (fun r_5 h => ?_) h
    exact z_r (P := post) (z_v r_5) (hp _ h)
set_option maxRecDepth 10000 in
theorem zw_CN_channel {B : AA} {s : SS} {x1 : Int} {t1 : Int32} {x2 : Int} {t2 : Int32} (es : s = zS B) (e1 : t1 = zI x1) (e2 : t2 = zI x2) {post : Int32 → Prop} {pz : Int → Prop} (hp : ∀ r, pz r → post (zI r)) {xp : String → SS → Prop} {xz : String → AA → Prop} (hx : ∀ E S, xz E S → xp E (zS S)) (h : zp_CN_channel B x1 x2 pz xz) : wp_CN_channel s t1 t2 post xp := by
  subst es; subst e1; subst e2; rw [zp_CN_channel] at h; rw [wp_CN_channel]
  refine zw_CP_hasChannel rfl (z_v x1) (fun r_1 h => ?_) h
  obtain ⟨g_2, h⟩ := h
  have e_3 := z_eq (z_v r_1) zk_0 g_2 (by decide)
  refine ⟨fun c => ?_, fun c => ?_⟩
  · have h := h.1 (fun c9 => c (e_3.mpr c9))
    obtain ⟨g_4, h⟩ := h
    refine ⟨fun c => ?_, fun c => ?_, fun c => ?_, fun c => ?_, fun cc0 cc1 cc2 cc3 => ?_⟩
    · have h := h.1 ((z_eq (z_v x2) zk_0 g_4 (by decide)).mp c)
      obtain ⟨i_5, h⟩ := h
      refine ⟨z_in (z_v x1) i_5 (by decide), ?_⟩
      exact z_r (P := post) (z_a B 21 (z_v x1) (z_rg i_5 (by decide))) (hp _ h)
    · have h := h.2.1 ((z_eq (z_v x2) zk_1 g_4 (by decide)).mp c)
      obtain ⟨i_6, h⟩ := h
      refine ⟨z_in (z_v x1) i_6 (by decide), ?_⟩
      exact z_r (P := post) (z_a B 25 (z_v x1) (z_rg i_6 (by decide))) (hp _ h)
    · have h := h.2.2.1 ((z_eq (z_v x2) zk_2 g_4 (by decide)).mp c)
      refine zw_CI_frontPacketIn rfl (z_v x1) (fun r_7 h => ?_) h
      exact z_r (P := post) (z_v r_7) (hp _ h)
    · have h := h.2.2.2.1 ((z_eq (z_v x2) zk_3 g_4 (by decide)).mp c)
      obtain ⟨i_8, h⟩ := h
      refine ⟨z_in (z_v x1) i_8 (by decide), ?_⟩
      exact z_r (P := post) (z_a B 26 (z_v x1) (z_rg i_8 (by decide))) (hp _ h)
    · have h := h.2.2.2.2 (fun c9 => cc0 ((z_eq (z_v x2) zk_0 g_4 (by decide)).mpr c9)) (fun c9 => cc1 ((z_eq (z_v x2) zk_1 g_4 (by decide)).mpr c9)) (fun c9 => cc2 ((z_eq (z_v x2) zk_2 g_4 (by decide)).mpr c9)) (fun c9 => cc3 ((z_eq (z_v x2) zk_3 g_4 (by decide)).mpr c9))
      exact hx _ _ h
  · have h := h.2 (e_3.mp c)
    exact hx _ _ h
set_option maxRecDepth 10000 in
theorem zw_CR_channelAfter {B : AA} {s : SS} {x1 : Int} {t1 : Int32} {x2 : Int} {t2 : Int32} (es : s = zS B) (e1 : t1 = zI x1) (e2 : t2 = zI x2) {post : Int32 → Prop} {pz : Int → Prop} (hp : ∀ r, pz r → post (zI r)) (h : zp_CR_channelAfter B x1 x2 pz) : wp_CR_channelAfter s t1 t2 post := by
  subst es; subst e1; subst e2; rw [zp_CR_channelAfter] at h; rw [wp_CR_channelAfter]
  obtain ⟨g_1, h⟩ := h
  have e_2 := z_eq (z_v x1) zk_m1 g_1 (by decide)
  refine ⟨fun c => ?_, fun c => ?_⟩
  · have h := h.1 (fun c9 => c (e_2.mpr c9))
    refine zw_CP_endOf rfl (z_v x1) (fun r_3 h => ?_) h
    refine zw_CP_wayAt rfl (z_v r_3) (z_v x2) (fun r_4 h => ?_) h
    exact z_r (P := post) (z_v r_4) (hp _ h)
  · have h := h.2 (e_2.mp c)
    exact z_r (P := post) zk_m1 (hp _ h)
set_option maxRecDepth 10000 in
theorem zwe_CR_gatherSteps_95 (B : AA) (s : SS) (es : s = zS B) {post : SS → Prop} {pz : AA → Prop} (hp : ∀ S, pz S → post (zS S)) (h : ze_CR_gatherSteps_95 B pz) : we_CR_gatherSteps_95 s post := by
  subst es; rw [ze_CR_gatherSteps_95] at h; rw [we_CR_gatherSteps_95]
  exact hp _ h
set_option maxRecDepth 10000 in
theorem zwe_CR_gatherSteps_89 (B : AA) (s : SS) (es : s = zS B) (x1 : Int) (t1 : Int32) (e1 : t1 = zI x1) {ag : SS → Int32 → Prop} {agz : AA → Int → Prop} (hA : ∀ S s, s = zS S → ∀ (y1 : Int) (t1 : Int32), t1 = zI y1 → agz S y1 → ag s t1) {ex : SS → Int32 → Prop} {exz : AA → Int → Prop} (hE : ∀ S s, s = zS S → ∀ (y1 : Int) (t1 : Int32), t1 = zI y1 → exz S y1 → ex s t1) {post : SS → Prop} {pz : AA → Prop} (hp : ∀ S, pz S → post (zS S)) (h : ze_CR_gatherSteps_89 B x1 agz exz pz) : we_CR_gatherSteps_89 s t1 ag ex post := by
  subst es; subst e1; rw [ze_CR_gatherSteps_89] at h; rw [we_CR_gatherSteps_89]
  exact hA _ _ rfl _ _ (z_add (z_v x1) zk_1) h
set_option maxRecDepth 10000 in
theorem zwl_CR_gatherSteps_23  (x1 : Int) (t1 : Int32) (e1 : t1 = zI x1) {ex : SS → Int32 → Prop} {exz : AA → Int → Prop} (hE : ∀ S s, s = zS S → ∀ (y2 : Int) (t2 : Int32), t2 = zI y2 → exz S y2 → ex s t2) {post : SS → Prop} {pz : AA → Prop} (hp : ∀ S, pz S → post (zS S)) : ∀ k, ∀ B s, s = zS B → ∀ (x2 : Int) (t2 : Int32), t2 = zI x2 → zl_CR_gatherSteps_23 x1 exz pz k B x2 → wl_CR_gatherSteps_23 t1 ex post k s t2 := by
  subst e1; intro k
  induction k with
  | zero => intro B s es x2 t2 e2 h; rw [zl_CR_gatherSteps_23] at h; exact h.elim
  | succ k ih =>
    intro B s es x2 t2 e2 h
    subst es; subst e2; rw [zl_CR_gatherSteps_23] at h; rw [wl_CR_gatherSteps_23]
    obtain ⟨g_5, h⟩ := h
    obtain ⟨g_6, h⟩ := h
    have e_7 := z_le (z_f B 1 0) (z_v x2) g_6 g_5
    refine ⟨fun c => ?_, fun c => ?_⟩
    · have h := h.1 (e_7.mp c)
      exact hE _ _ rfl _ _ (z_v x2) h
    · have h := h.2 (fun c9 => c (e_7.mpr c9))
      refine zw_CP_wayAt rfl (z_v x1) (z_v x2) (fun r_8 h => ?_) h
      refine zw_CR_channelAfter rfl (z_v r_8) (z_v x2) (fun r_9 h => ?_) h
      obtain ⟨g_10, h⟩ := h
      have e_11 := z_eq (z_v r_9) zk_m1 g_10 (by decide)
      refine ⟨fun c => ?_, fun c => ?_⟩
      · have h := h.1 (e_11.mp c)
        exact ih _ _ rfl _ _ (z_add (z_v x2) zk_1) h
      · have h := h.2 (fun c9 => c (e_11.mpr c9))
        intro t_12 et_12
        obtain ⟨v_12, ev_12⟩ : ∃ w : Int, w = (x1 * 16) + x2 := ⟨_, rfl⟩
        have h := h v_12 ev_12
        have et_12 : t_12 = zI v_12 := by rw [ev_12]; exact et_12.trans (z_add (z_mul (z_v x1) zk_16) (z_v x2))
        subst et_12
        obtain ⟨i_13, h⟩ := h
        refine ⟨z_in (z_v r_9) i_13 (by decide), ?_⟩
        obtain ⟨i_14, h⟩ := h
        refine ⟨z_in (z_v v_12) i_14 (by decide), ?_⟩
        intro s_15 es_15
        obtain ⟨S_15, eS_15⟩ : ∃ w : AA, w = zU B 29 v_12.toNat (B 28 r_9.toNat) := ⟨_, rfl⟩
        have h := h S_15 eS_15
        have es_15 : s_15 = zS S_15 := by rw [eS_15]; exact es_15.trans (z_ua B 29 (z_v v_12) (z_rg i_14 (by decide)) (z_a B 28 (z_v r_9) (z_rg i_13 (by decide))))
        subst es_15
        obtain ⟨i_16, h⟩ := h
        refine ⟨z_in (z_v r_9) i_16 (by decide), ?_⟩
        intro s_17 es_17
        obtain ⟨S_17, eS_17⟩ : ∃ w : AA, w = zU S_15 28 r_9.toNat v_12 := ⟨_, rfl⟩
        have h := h S_17 eS_17
        have es_17 : s_17 = zS S_17 := by rw [eS_17]; exact es_17.trans (z_ua S_15 28 (z_v r_9) (z_rg i_16 (by decide)) (z_v v_12))
        subst es_17
        exact ih _ _ rfl _ _ (z_add (z_v x2) zk_1) h
set_option maxRecDepth 10000 in
theorem zwl_CR_gatherSteps_10  {ex : SS → Int32 → Prop} {exz : AA → Int → Prop} (hE : ∀ S s, s = zS S → ∀ (y1 : Int) (t1 : Int32), t1 = zI y1 → exz S y1 → ex s t1) {post : SS → Prop} {pz : AA → Prop} (hp : ∀ S, pz S → post (zS S)) : ∀ k, ∀ B s, s = zS B → ∀ (x1 : Int) (t1 : Int32), t1 = zI x1 → zl_CR_gatherSteps_10 exz pz k B x1 → wl_CR_gatherSteps_10 ex post k s t1 := by
  intro k
  induction k with
  | zero => intro B s es x1 t1 e1 h; rw [zl_CR_gatherSteps_10] at h; exact h.elim
  | succ k ih =>
    intro B s es x1 t1 e1 h
    subst es; subst e1; rw [zl_CR_gatherSteps_10] at h; rw [wl_CR_gatherSteps_10]
    obtain ⟨g_2, h⟩ := h
    obtain ⟨g_3, h⟩ := h
    have e_4 := z_le (z_f B 1 0) (z_v x1) g_3 g_2
    refine ⟨fun c => ?_, fun c => ?_⟩
    · have h := h.1 (e_4.mp c)
      exact hE _ _ rfl _ _ (z_v x1) h
    · have h := h.2 (fun c9 => c (e_4.mpr c9))
      obtain ⟨j9, h⟩ := h
      exact ⟨j9, zwl_CR_gatherSteps_23 _ _ (z_v x1) (fun S18 s18 es18 y2_18 t2_18 e2_18 h => zwe_CR_gatherSteps_89 _ _ es18 _ _ (z_v x1) ih hE hp h) hp j9 _ _ rfl _ _ zk_0 h⟩
set_option maxRecDepth 10000 in
theorem zw_CR_gatherSteps {B : AA} {s : SS} (es : s = zS B) {post : SS → Prop} {pz : AA → Prop} (hp : ∀ S, pz S → post (zS S)) (h : zp_CR_gatherSteps B pz) : wp_CR_gatherSteps s post := by
  subst es; rw [zp_CR_gatherSteps] at h; rw [wp_CR_gatherSteps]
  intro s_1 es_1
  obtain ⟨S_1, eS_1⟩ : ∃ w : AA, w = zF B 28 160 (-1) := ⟨_, rfl⟩
  have h := h S_1 eS_1
  have es_1 : s_1 = zS S_1 := by rw [eS_1]; exact es_1.trans (z_fl B 28 160 zk_m1)
  subst es_1
  obtain ⟨j9, h⟩ := h
  exact ⟨j9, zwl_CR_gatherSteps_10 (fun S19 s19 es19 y1_19 t1_19 e1_19 h => zwe_CR_gatherSteps_95 _ _ es19 hp h) hp j9 _ _ rfl _ _ zk_0 h⟩
set_option maxRecDepth 10000 in
theorem zwe_CR_closeAt_163 (B : AA) (s : SS) (es : s = zS B) (x1 : Int) (t1 : Int32) (e1 : t1 = zI x1) {post : Int32 → SS → Prop} {pz : Int → AA → Prop} (hp : ∀ r S, pz r S → post (zI r) (zS S)) (h : ze_CR_closeAt_163 B x1 pz) : we_CR_closeAt_163 s t1 post := by
  subst es; subst e1; rw [ze_CR_closeAt_163] at h; rw [we_CR_closeAt_163]
  obtain ⟨i_4, h⟩ := h
  refine ⟨z_in (z_v x1) i_4 (by decide), ?_⟩
  exact z_r (P := fun r9 => post r9 (zS B)) (z_a B 30 (z_v x1) (z_rg i_4 (by decide))) (hp _ _ h)
set_option maxRecDepth 10000 in
theorem zwe_CR_closeAt_157 (B : AA) (s : SS) (es : s = zS B) (x1 : Int) (t1 : Int32) (e1 : t1 = zI x1) (x2 : Int) (t2 : Int32) (e2 : t2 = zI x2) (x3 : Int) (t3 : Int32) (e3 : t3 = zI x3) {ag : SS → Int32 → Int32 → Prop} {agz : AA → Int → Int → Prop} (hA : ∀ S s, s = zS S → ∀ (y2 : Int) (t2 : Int32), t2 = zI y2 → ∀ (y3 : Int) (t3 : Int32), t3 = zI y3 → agz S y2 y3 → ag s t2 t3) {ex : SS → Int32 → Int32 → Prop} {exz : AA → Int → Int → Prop} (hE : ∀ S s, s = zS S → ∀ (y2 : Int) (t2 : Int32), t2 = zI y2 → ∀ (y3 : Int) (t3 : Int32), t3 = zI y3 → exz S y2 y3 → ex s t2 t3) {post : Int32 → SS → Prop} {pz : Int → AA → Prop} (hp : ∀ r S, pz r S → post (zI r) (zS S)) (h : ze_CR_closeAt_157 B x1 x2 x3 agz exz pz) : we_CR_closeAt_157 s t1 t2 t3 ag ex post := by
  subst es; subst e1; subst e2; subst e3; rw [ze_CR_closeAt_157] at h; rw [we_CR_closeAt_157]
  exact hA _ _ rfl _ _ (z_v x2) _ _ (z_add (z_v x3) zk_1) h
set_option maxRecDepth 10000 in
theorem zwl_CR_closeAt_60  (x1 : Int) (t1 : Int32) (e1 : t1 = zI x1) (x3 : Int) (t3 : Int32) (e3 : t3 = zI x3) (x4 : Int) (t4 : Int32) (e4 : t4 = zI x4) {ex : SS → Int32 → Int32 → Int32 → Prop} {exz : AA → Int → Int → Int → Prop} (hE : ∀ S s, s = zS S → ∀ (y2 : Int) (t2 : Int32), t2 = zI y2 → ∀ (y5 : Int) (t5 : Int32), t5 = zI y5 → ∀ (y6 : Int) (t6 : Int32), t6 = zI y6 → exz S y2 y5 y6 → ex s t2 t5 t6) {post : Int32 → SS → Prop} {pz : Int → AA → Prop} (hp : ∀ r S, pz r S → post (zI r) (zS S)) : ∀ k, ∀ B s, s = zS B → ∀ (x2 : Int) (t2 : Int32), t2 = zI x2 → ∀ (x5 : Int) (t5 : Int32), t5 = zI x5 → ∀ (x6 : Int) (t6 : Int32), t6 = zI x6 → zl_CR_closeAt_60 x1 x3 x4 exz pz k B x2 x5 x6 → wl_CR_closeAt_60 t1 t3 t4 ex post k s t2 t5 t6 := by
  subst e1; subst e3; subst e4; intro k
  induction k with
  | zero => intro B s es x2 t2 e2 x5 t5 e5 x6 t6 e6 h; rw [zl_CR_closeAt_60] at h; exact h.elim
  | succ k ih =>
    intro B s es x2 t2 e2 x5 t5 e5 x6 t6 e6 h
    subst es; subst e2; subst e5; subst e6; rw [zl_CR_closeAt_60] at h; rw [wl_CR_closeAt_60]
    obtain ⟨g_17, h⟩ := h
    have e_18 := z_le zk_256 (z_v x6) (by decide) g_17
    refine ⟨fun c => ?_, fun c => ?_⟩
    · have h := h.1 (e_18.mp c)
      exact hE _ _ rfl _ _ (z_v x2) _ _ (z_v x5) _ _ (z_v x6) h
    · have h := h.2 (fun c9 => c (e_18.mpr c9))
      obtain ⟨g_19, h⟩ := h
      have e_20 := z_eq (z_v x5) zk_m1 g_19 (by decide)
      refine ⟨fun c => ?_, fun c => ?_⟩
      · have h := h.1 (e_20.mp c)
        exact hE _ _ rfl _ _ (z_v x2) _ _ (z_v x5) _ _ (z_v x6) h
      · have h := h.2 (fun c9 => c (e_20.mpr c9))
        obtain ⟨i_21, h⟩ := h
        refine ⟨z_in (z_v x5) i_21 (by decide), ?_⟩
        intro t_22 et_22
        obtain ⟨v_22, ev_22⟩ : ∃ w : Int, w = B 10 x5.toNat := ⟨_, rfl⟩
        have h := h v_22 ev_22
        have et_22 : t_22 = zI v_22 := by rw [ev_22]; exact et_22.trans (z_a B 10 (z_v x5) (z_rg i_21 (by decide)))
        subst et_22
        obtain ⟨g_23, h⟩ := h
        have e_24 := z_eq (z_v v_22) zk_m1 g_23 (by decide)
        refine ⟨fun c => ?_, fun c => ?_⟩
        · have h := h.1 (e_24.mp c)
          obtain ⟨i_25, h⟩ := h
          refine ⟨z_in (z_v x5) i_25 (by decide), ?_⟩
          intro t_26 et_26
          obtain ⟨v_26, ev_26⟩ : ∃ w : Int, w = B 29 x5.toNat := ⟨_, rfl⟩
          have h := h v_26 ev_26
          have et_26 : t_26 = zI v_26 := by rw [ev_26]; exact et_26.trans (z_a B 29 (z_v x5) (z_rg i_25 (by decide)))
          subst et_26
          exact ih _ _ rfl _ _ (z_v x2) _ _ (z_v v_26) _ _ (z_add (z_v x6) zk_1) h
        · have h := h.2 (fun c9 => c (e_24.mpr c9))
          obtain ⟨i_27, h⟩ := h
          refine ⟨z_in (z_v v_22) i_27 (by decide), ?_⟩
          obtain ⟨g_28, h⟩ := h
          have e_29 := z_eq (z_a B 30 (z_v v_22) (z_rg i_27 (by decide))) zk_0 g_28 (by decide)
          refine ⟨fun c => ?_, fun c => ?_⟩
          · have h := h.1 (fun c9 => c (e_29.mpr c9))
            obtain ⟨i_30, h⟩ := h
            refine ⟨z_in (z_v x5) i_30 (by decide), ?_⟩
            intro t_31 et_31
            obtain ⟨v_31, ev_31⟩ : ∃ w : Int, w = B 29 x5.toNat := ⟨_, rfl⟩
            have h := h v_31 ev_31
            have et_31 : t_31 = zI v_31 := by rw [ev_31]; exact et_31.trans (z_a B 29 (z_v x5) (z_rg i_30 (by decide)))
            subst et_31
            exact ih _ _ rfl _ _ (z_v x2) _ _ (z_v v_31) _ _ (z_add (z_v x6) zk_1) h
          · have h := h.2 (e_29.mp c)
            obtain ⟨i_32, h⟩ := h
            refine ⟨z_in (z_v x4) i_32 (by decide), ?_⟩
            obtain ⟨i_33, h⟩ := h
            refine ⟨z_in (z_v v_22) i_33 (by decide), ?_⟩
            intro s_34 es_34
            obtain ⟨S_34, eS_34⟩ : ∃ w : AA, w = zU B 30 v_22.toNat ((B 30 x4.toNat) + 1) := ⟨_, rfl⟩
            have h := h S_34 eS_34
            have es_34 : s_34 = zS S_34 := by rw [eS_34]; exact es_34.trans (z_ua B 30 (z_v v_22) (z_rg i_33 (by decide)) (z_add (z_a B 30 (z_v x4) (z_rg i_32 (by decide))) zk_1))
            subst es_34
            obtain ⟨g_35, h⟩ := h
            obtain ⟨g_36, h⟩ := h
            have e_37 := z_eq (z_v v_22) (z_v x1) g_35 g_36
            refine ⟨fun c => ?_, fun c => ?_⟩
            · have h := h.1 (e_37.mp c)
              obtain ⟨i_38, h⟩ := h
              refine ⟨z_in (z_v x5) i_38 (by decide), ?_⟩
              intro t_39 et_39
              obtain ⟨v_39, ev_39⟩ : ∃ w : Int, w = S_34 29 x5.toNat := ⟨_, rfl⟩
              have h := h v_39 ev_39
              have et_39 : t_39 = zI v_39 := by rw [ev_39]; exact et_39.trans (z_a S_34 29 (z_v x5) (z_rg i_38 (by decide)))
              subst et_39
              exact ih _ _ rfl _ _ (z_v x2) _ _ (z_v v_39) _ _ (z_add (z_v x6) zk_1) h
            · have h := h.2 (fun c9 => c (e_37.mpr c9))
              obtain ⟨g_40, h⟩ := h
              have e_41 := z_le zk_160 (z_v x2) (by decide) g_40
              refine ⟨fun c => ?_, fun c => ?_⟩
              · have h := h.1 (e_41.mp c)
                obtain ⟨i_42, h⟩ := h
                refine ⟨z_in (z_v x5) i_42 (by decide), ?_⟩
                intro t_43 et_43
                obtain ⟨v_43, ev_43⟩ : ∃ w : Int, w = S_34 29 x5.toNat := ⟨_, rfl⟩
                have h := h v_43 ev_43
                have et_43 : t_43 = zI v_43 := by rw [ev_43]; exact et_43.trans (z_a S_34 29 (z_v x5) (z_rg i_42 (by decide)))
                subst et_43
                exact ih _ _ rfl _ _ (z_v x2) _ _ (z_v v_43) _ _ (z_add (z_v x6) zk_1) h
              · have h := h.2 (fun c9 => c (e_41.mpr c9))
                obtain ⟨i_44, h⟩ := h
                refine ⟨z_in (z_v x2) i_44 (by decide), ?_⟩
                intro s_45 es_45
                obtain ⟨S_45, eS_45⟩ : ∃ w : AA, w = zU S_34 31 x2.toNat v_22 := ⟨_, rfl⟩
                have h := h S_45 eS_45
                have es_45 : s_45 = zS S_45 := by rw [eS_45]; exact es_45.trans (z_ua S_34 31 (z_v x2) (z_rg i_44 (by decide)) (z_v v_22))
                subst es_45
                obtain ⟨i_46, h⟩ := h
                refine ⟨z_in (z_v x5) i_46 (by decide), ?_⟩
                intro t_47 et_47
                obtain ⟨v_47, ev_47⟩ : ∃ w : Int, w = S_45 29 x5.toNat := ⟨_, rfl⟩
                have h := h v_47 ev_47
                have et_47 : t_47 = zI v_47 := by rw [ev_47]; exact et_47.trans (z_a S_45 29 (z_v x5) (z_rg i_46 (by decide)))
                subst et_47
                exact ih _ _ rfl _ _ (z_add (z_v x2) zk_1) _ _ (z_v v_47) _ _ (z_add (z_v x6) zk_1) h
set_option maxRecDepth 10000 in
theorem zwl_CR_closeAt_19  (x1 : Int) (t1 : Int32) (e1 : t1 = zI x1) {ex : SS → Int32 → Int32 → Prop} {exz : AA → Int → Int → Prop} (hE : ∀ S s, s = zS S → ∀ (y2 : Int) (t2 : Int32), t2 = zI y2 → ∀ (y3 : Int) (t3 : Int32), t3 = zI y3 → exz S y2 y3 → ex s t2 t3) {post : Int32 → SS → Prop} {pz : Int → AA → Prop} (hp : ∀ r S, pz r S → post (zI r) (zS S)) : ∀ k, ∀ B s, s = zS B → ∀ (x2 : Int) (t2 : Int32), t2 = zI x2 → ∀ (x3 : Int) (t3 : Int32), t3 = zI x3 → zl_CR_closeAt_19 x1 exz pz k B x2 x3 → wl_CR_closeAt_19 t1 ex post k s t2 t3 := by
  subst e1; intro k
  induction k with
  | zero => intro B s es x2 t2 e2 x3 t3 e3 h; rw [zl_CR_closeAt_19] at h; exact h.elim
  | succ k ih =>
    intro B s es x2 t2 e2 x3 t3 e3 h
    subst es; subst e2; subst e3; rw [zl_CR_closeAt_19] at h; rw [wl_CR_closeAt_19]
    obtain ⟨g_5, h⟩ := h
    obtain ⟨g_6, h⟩ := h
    have e_7 := z_le (z_v x2) (z_v x3) g_6 g_5
    refine ⟨fun c => ?_, fun c => ?_⟩
    · have h := h.1 (e_7.mp c)
      exact hE _ _ rfl _ _ (z_v x2) _ _ (z_v x3) h
    · have h := h.2 (fun c9 => c (e_7.mpr c9))
      obtain ⟨g_8, h⟩ := h
      have e_9 := z_le zk_160 (z_v x3) (by decide) g_8
      refine ⟨fun c => ?_, fun c => ?_⟩
      · have h := h.1 (e_9.mp c)
        exact hE _ _ rfl _ _ (z_v x2) _ _ (z_v x3) h
      · have h := h.2 (fun c9 => c (e_9.mpr c9))
        obtain ⟨i_10, h⟩ := h
        refine ⟨z_in (z_v x1) i_10 (by decide), ?_⟩
        obtain ⟨g_11, h⟩ := h
        have e_12 := z_eq (z_a B 30 (z_v x1) (z_rg i_10 (by decide))) zk_0 g_11 (by decide)
        refine ⟨fun c => ?_, fun c => ?_⟩
        · have h := h.1 (fun c9 => c (e_12.mpr c9))
          exact hE _ _ rfl _ _ (z_v x2) _ _ (z_v x3) h
        · have h := h.2 (e_12.mp c)
          obtain ⟨i_13, h⟩ := h
          refine ⟨z_in (z_v x3) i_13 (by decide), ?_⟩
          intro t_14 et_14
          obtain ⟨v_14, ev_14⟩ : ∃ w : Int, w = B 31 x3.toNat := ⟨_, rfl⟩
          have h := h v_14 ev_14
          have et_14 : t_14 = zI v_14 := by rw [ev_14]; exact et_14.trans (z_a B 31 (z_v x3) (z_rg i_13 (by decide)))
          subst et_14
          obtain ⟨i_15, h⟩ := h
          refine ⟨z_in (z_v v_14) i_15 (by decide), ?_⟩
          intro t_16 et_16
          obtain ⟨v_16, ev_16⟩ : ∃ w : Int, w = B 28 v_14.toNat := ⟨_, rfl⟩
          have h := h v_16 ev_16
          have et_16 : t_16 = zI v_16 := by rw [ev_16]; exact et_16.trans (z_a B 28 (z_v v_14) (z_rg i_15 (by decide)))
          subst et_16
          obtain ⟨j9, h⟩ := h
          exact ⟨j9, zwl_CR_closeAt_60 _ _ (z_v x1) _ _ (z_v x3) _ _ (z_v v_14) (fun S48 s48 es48 y2_48 t2_48 e2_48 y5_48 t5_48 e5_48 y6_48 t6_48 e6_48 h => zwe_CR_closeAt_157 _ _ es48 _ _ (z_v x1) _ _ e2_48 _ _ (z_v x3) ih hE hp h) hp j9 _ _ rfl _ _ (z_v x2) _ _ (z_v v_16) _ _ zk_0 h⟩
set_option maxRecDepth 10000 in
theorem zw_CR_closeAt {B : AA} {s : SS} {x1 : Int} {t1 : Int32} (es : s = zS B) (e1 : t1 = zI x1) {post : Int32 → SS → Prop} {pz : Int → AA → Prop} (hp : ∀ r S, pz r S → post (zI r) (zS S)) (h : zp_CR_closeAt B x1 pz) : wp_CR_closeAt s t1 post := by
  subst es; subst e1; rw [zp_CR_closeAt] at h; rw [wp_CR_closeAt]
  intro s_1 es_1
  obtain ⟨S_1, eS_1⟩ : ∃ w : AA, w = zF B 30 160 0 := ⟨_, rfl⟩
  have h := h S_1 eS_1
  have es_1 : s_1 = zS S_1 := by rw [eS_1]; exact es_1.trans (z_fl B 30 160 zk_0)
  subst es_1
  obtain ⟨i_2, h⟩ := h
  refine ⟨z_in zk_0 i_2 (by decide), ?_⟩
  intro s_3 es_3
  obtain ⟨S_3, eS_3⟩ : ∃ w : AA, w = zU S_1 31 (0 : Int).toNat x1 := ⟨_, rfl⟩
  have h := h S_3 eS_3
  have es_3 : s_3 = zS S_3 := by rw [eS_3]; exact es_3.trans (z_ua S_1 31 zk_0 (z_rg i_2 (by decide)) (z_v x1))
  subst es_3
  obtain ⟨j9, h⟩ := h
  exact ⟨j9, zwl_CR_closeAt_19 _ _ (z_v x1) (fun S49 s49 es49 y2_49 t2_49 e2_49 y3_49 t3_49 e3_49 h => zwe_CR_closeAt_163 _ _ es49 _ _ (z_v x1) hp h) hp j9 _ _ rfl _ _ zk_1 _ _ zk_0 h⟩
set_option maxRecDepth 10000 in
theorem zwe_CR_search_70 (B : AA) (s : SS) (es : s = zS B) {post : SS → Prop} {pz : AA → Prop} (hp : ∀ S, pz S → post (zS S)) (h : ze_CR_search_70 B pz) : we_CR_search_70 s post := by
  subst es; rw [ze_CR_search_70] at h; rw [we_CR_search_70]
  exact hp _ h
set_option maxRecDepth 10000 in
theorem zwl_CR_search_16  {ex : SS → Int32 → Prop} {exz : AA → Int → Prop} (hE : ∀ S s, s = zS S → ∀ (y1 : Int) (t1 : Int32), t1 = zI y1 → exz S y1 → ex s t1) {post : SS → Prop} {pz : AA → Prop} (hp : ∀ S, pz S → post (zS S)) : ∀ k, ∀ B s, s = zS B → ∀ (x1 : Int) (t1 : Int32), t1 = zI x1 → zl_CR_search_16 exz pz k B x1 → wl_CR_search_16 ex post k s t1 := by
  intro k
  induction k with
  | zero => intro B s es x1 t1 e1 h; rw [zl_CR_search_16] at h; exact h.elim
  | succ k ih =>
    intro B s es x1 t1 e1 h
    subst es; subst e1; rw [zl_CR_search_16] at h; rw [wl_CR_search_16]
    obtain ⟨g_4, h⟩ := h
    obtain ⟨g_5, h⟩ := h
    have e_6 := z_le (z_mul (z_f B 1 1) zk_4) (z_v x1) g_5 g_4
    refine ⟨fun c => ?_, fun c => ?_⟩
    · have h := h.1 (e_6.mp c)
      exact hE _ _ rfl _ _ (z_v x1) h
    · have h := h.2 (fun c9 => c (e_6.mpr c9))
      refine zw_CR_closeAt rfl (z_v x1) (fun r_7 S_7 h => ?_) h
      obtain ⟨g_8, h⟩ := h
      have e_9 := z_eq (z_v r_7) zk_0 g_8 (by decide)
      refine ⟨fun c => ?_, fun c => ?_⟩
      · have h := h.1 (e_9.mp c)
        exact ih _ _ rfl _ _ (z_add (z_v x1) zk_1) h
      · have h := h.2 (fun c9 => c (e_9.mpr c9))
        obtain ⟨g_10, h⟩ := h
        have e_11 := z_eq (z_f S_7 5 6) zk_0 g_10 (by decide)
        refine ⟨fun c => ?_, fun c => ?_⟩
        · have h := h.1 (e_11.mp c)
          intro s_12 es_12
          obtain ⟨S_12, eS_12⟩ : ∃ w : AA, w = zU S_7 5 5 x1 := ⟨_, rfl⟩
          have h := h S_12 eS_12
          have es_12 : s_12 = zS S_12 := by rw [eS_12]; exact es_12.trans (z_uf S_7 5 5 (z_v x1))
          subst es_12
          intro s_13 es_13
          obtain ⟨S_13, eS_13⟩ : ∃ w : AA, w = zU S_12 5 6 r_7 := ⟨_, rfl⟩
          have h := h S_13 eS_13
          have es_13 : s_13 = zS S_13 := by rw [eS_13]; exact es_13.trans (z_uf S_12 5 6 (z_v r_7))
          subst es_13
          exact ih _ _ rfl _ _ (z_add (z_v x1) zk_1) h
        · have h := h.2 (fun c9 => c (e_11.mpr c9))
          obtain ⟨g_14, h⟩ := h
          obtain ⟨g_15, h⟩ := h
          have e_16 := z_le (z_f S_7 5 6) (z_v r_7) g_15 g_14
          refine ⟨fun c => ?_, fun c => ?_⟩
          · have h := h.1 (e_16.mp c)
            exact ih _ _ rfl _ _ (z_add (z_v x1) zk_1) h
          · have h := h.2 (fun c9 => c (e_16.mpr c9))
            intro s_17 es_17
            obtain ⟨S_17, eS_17⟩ : ∃ w : AA, w = zU S_7 5 5 x1 := ⟨_, rfl⟩
            have h := h S_17 eS_17
            have es_17 : s_17 = zS S_17 := by rw [eS_17]; exact es_17.trans (z_uf S_7 5 5 (z_v x1))
            subst es_17
            intro s_18 es_18
            obtain ⟨S_18, eS_18⟩ : ∃ w : AA, w = zU S_17 5 6 r_7 := ⟨_, rfl⟩
            have h := h S_18 eS_18
            have es_18 : s_18 = zS S_18 := by rw [eS_18]; exact es_18.trans (z_uf S_17 5 6 (z_v r_7))
            subst es_18
            exact ih _ _ rfl _ _ (z_add (z_v x1) zk_1) h
set_option maxRecDepth 10000 in
theorem zw_CR_search {B : AA} {s : SS} (es : s = zS B) {post : SS → Prop} {pz : AA → Prop} (hp : ∀ S, pz S → post (zS S)) (h : zp_CR_search B pz) : wp_CR_search s post := by
  subst es; rw [zp_CR_search] at h; rw [wp_CR_search]
  refine zw_CR_gatherSteps rfl (fun S_1 h => ?_) h
  intro s_2 es_2
  obtain ⟨S_2, eS_2⟩ : ∃ w : AA, w = zU S_1 5 5 (-1) := ⟨_, rfl⟩
  have h := h S_2 eS_2
  have es_2 : s_2 = zS S_2 := by rw [eS_2]; exact es_2.trans (z_uf S_1 5 5 zk_m1)
  subst es_2
  intro s_3 es_3
  obtain ⟨S_3, eS_3⟩ : ∃ w : AA, w = zU S_2 5 6 0 := ⟨_, rfl⟩
  have h := h S_3 eS_3
  have es_3 : s_3 = zS S_3 := by rw [eS_3]; exact es_3.trans (z_uf S_2 5 6 zk_0)
  subst es_3
  obtain ⟨j9, h⟩ := h
  exact ⟨j9, zwl_CR_search_16 (fun S19 s19 es19 y1_19 t1_19 e1_19 h => zwe_CR_search_70 _ _ es19 hp h) hp j9 _ _ rfl _ _ zk_0 h⟩
set_option maxRecDepth 10000 in
theorem zw_CN_ring {B : AA} {s : SS} (es : s = zS B) {post : Int32 → SS → Prop} {pz : Int → AA → Prop} (hp : ∀ r S, pz r S → post (zI r) (zS S)) (h : zp_CN_ring B pz) : wp_CN_ring s post := by
  subst es; rw [zp_CN_ring] at h; rw [wp_CN_ring]
  refine zw_CR_search rfl (fun S_1 h => ?_) h
  exact z_r (P := fun r9 => post r9 (zS S_1)) (z_f S_1 5 6) (hp _ _ h)
set_option maxRecDepth 10000 in
theorem zwe_CR_lowestThatCloses_90 (B : AA) (s : SS) (es : s = zS B) (x4 : Int) (t4 : Int32) (e4 : t4 = zI x4) {post : Int32 → Prop} {pz : Int → Prop} (hp : ∀ r, pz r → post (zI r)) (h : ze_CR_lowestThatCloses_90 B x4 pz) : we_CR_lowestThatCloses_90 s t4 post := by
  subst es; subst e4; rw [ze_CR_lowestThatCloses_90] at h; rw [we_CR_lowestThatCloses_90]
  exact z_r (P := post) (z_v x4) (hp _ h)
set_option maxRecDepth 10000 in
theorem zwl_CR_lowestThatCloses_15 (B : AA) (s : SS) (es : s = zS B) (x1 : Int) (t1 : Int32) (e1 : t1 = zI x1) (x2 : Int) (t2 : Int32) (e2 : t2 = zI x2) (x3 : Int) (t3 : Int32) (e3 : t3 = zI x3) {ex : Int32 → Int32 → Prop} {exz : Int → Int → Prop} (hE : ∀ (y4 : Int) (t4 : Int32), t4 = zI y4 → ∀ (y5 : Int) (t5 : Int32), t5 = zI y5 → exz y4 y5 → ex t4 t5) {post : Int32 → Prop} {pz : Int → Prop} (hp : ∀ r, pz r → post (zI r)) : ∀ k, ∀ (x4 : Int) (t4 : Int32), t4 = zI x4 → ∀ (x5 : Int) (t5 : Int32), t5 = zI x5 → zl_CR_lowestThatCloses_15 B x1 x2 x3 exz pz k x4 x5 → wl_CR_lowestThatCloses_15 s t1 t2 t3 ex post k t4 t5 := by
  subst es; subst e1; subst e2; subst e3; intro k
  induction k with
  | zero => intro x4 t4 e4 x5 t5 e5 h; rw [zl_CR_lowestThatCloses_15] at h; exact h.elim
  | succ k ih =>
    intro x4 t4 e4 x5 t5 e5 h
    subst e4; subst e5; rw [zl_CR_lowestThatCloses_15] at h; rw [wl_CR_lowestThatCloses_15]
    obtain ⟨g_2, h⟩ := h
    obtain ⟨g_3, h⟩ := h
    have e_4 := z_le (z_f B 1 0) (z_v x5) g_3 g_2
    refine ⟨fun c => ?_, fun c => ?_⟩
    · have h := h.1 (e_4.mp c)
      exact hE _ _ (z_v x4) _ _ (z_v x5) h
    · have h := h.2 (fun c9 => c (e_4.mpr c9))
      refine zw_CP_wayAt rfl (z_v x3) (z_v x5) (fun r_5 h => ?_) h
      obtain ⟨g_6, h⟩ := h
      obtain ⟨g_7, h⟩ := h
      have e_8 := z_eq (z_v r_5) (z_v x1) g_6 g_7
      refine ⟨fun c => ?_, fun c => ?_⟩
      · have h := h.1 (fun c9 => c (e_8.mpr c9))
        exact ih _ _ (z_v x4) _ _ (z_add (z_v x5) zk_1) h
      · have h := h.2 (e_8.mp c)
        refine zw_CR_channelAfter rfl (z_v x1) (z_v x5) (fun r_9 h => ?_) h
        obtain ⟨g_10, h⟩ := h
        have e_11 := z_eq (z_v r_9) zk_m1 g_10 (by decide)
        refine ⟨fun c => ?_, fun c => ?_⟩
        · have h := h.1 (e_11.mp c)
          exact ih _ _ (z_v x4) _ _ (z_add (z_v x5) zk_1) h
        · have h := h.2 (fun c9 => c (e_11.mpr c9))
          obtain ⟨i_12, h⟩ := h
          refine ⟨z_in (z_v r_9) i_12 (by decide), ?_⟩
          obtain ⟨g_13, h⟩ := h
          obtain ⟨g_14, h⟩ := h
          have e_15 := z_eq (z_a B 30 (z_v r_9) (z_rg i_12 (by decide))) (z_v x2) g_13 g_14
          refine ⟨fun c => ?_, fun c => ?_⟩
          · have h := h.1 (fun c9 => c (e_15.mpr c9))
            exact ih _ _ (z_v x4) _ _ (z_add (z_v x5) zk_1) h
          · have h := h.2 (e_15.mp c)
            obtain ⟨g_16, h⟩ := h
            have e_17 := z_eq (z_v x4) zk_m1 g_16 (by decide)
            refine ⟨fun c => ?_, fun c => ?_⟩
            · have h := h.1 (e_17.mp c)
              exact ih _ _ (z_v r_9) _ _ (z_add (z_v x5) zk_1) h
            · have h := h.2 (fun c9 => c (e_17.mpr c9))
              obtain ⟨g_18, h⟩ := h
              obtain ⟨g_19, h⟩ := h
              have e_20 := z_le (z_v x4) (z_v r_9) g_19 g_18
              refine ⟨fun c => ?_, fun c => ?_⟩
              · have h := h.1 (e_20.mp c)
                exact ih _ _ (z_v x4) _ _ (z_add (z_v x5) zk_1) h
              · have h := h.2 (fun c9 => c (e_20.mpr c9))
                exact ih _ _ (z_v r_9) _ _ (z_add (z_v x5) zk_1) h
set_option maxRecDepth 10000 in
theorem zw_CR_lowestThatCloses {B : AA} {s : SS} {x1 : Int} {t1 : Int32} {x2 : Int} {t2 : Int32} (es : s = zS B) (e1 : t1 = zI x1) (e2 : t2 = zI x2) {post : Int32 → Prop} {pz : Int → Prop} (hp : ∀ r, pz r → post (zI r)) (h : zp_CR_lowestThatCloses B x1 x2 pz) : wp_CR_lowestThatCloses s t1 t2 post := by
  subst es; subst e1; subst e2; rw [zp_CR_lowestThatCloses] at h; rw [wp_CR_lowestThatCloses]
  refine zw_CP_beginOf rfl (z_v x1) (fun r_1 h => ?_) h
  obtain ⟨j9, h⟩ := h
  exact ⟨j9, zwl_CR_lowestThatCloses_15 _ _ rfl _ _ (z_v x1) _ _ (z_v x2) _ _ (z_v r_1) (fun y4_21 t4_21 e4_21 y5_21 t5_21 e5_21 h => zwe_CR_lowestThatCloses_90 _ _ rfl _ _ e4_21 hp h) hp j9 _ _ zk_m1 _ _ zk_0 h⟩
set_option maxRecDepth 10000 in
theorem zwe_CR_channelBehind_54 (B : AA) (s : SS) (es : s = zS B) (x2 : Int) (t2 : Int32) (e2 : t2 = zI x2) {post : Int32 → SS → Prop} {pz : Int → AA → Prop} (hp : ∀ r S, pz r S → post (zI r) (zS S)) (h : ze_CR_channelBehind_54 B x2 pz) : we_CR_channelBehind_54 s t2 post := by
  subst es; subst e2; rw [ze_CR_channelBehind_54] at h; rw [we_CR_channelBehind_54]
  exact z_r (P := fun r9 => post r9 (zS B)) (z_v x2) (hp _ _ h)
set_option maxRecDepth 10000 in
theorem zwl_CR_channelBehind_26 (B : AA) (s : SS) (es : s = zS B) (x1 : Int) (t1 : Int32) (e1 : t1 = zI x1) {ex : Int32 → Int32 → Prop} {exz : Int → Int → Prop} (hE : ∀ (y2 : Int) (t2 : Int32), t2 = zI y2 → ∀ (y3 : Int) (t3 : Int32), t3 = zI y3 → exz y2 y3 → ex t2 t3) {post : Int32 → SS → Prop} {pz : Int → AA → Prop} (hp : ∀ r S, pz r S → post (zI r) (zS S)) : ∀ k, ∀ (x2 : Int) (t2 : Int32), t2 = zI x2 → ∀ (x3 : Int) (t3 : Int32), t3 = zI x3 → zl_CR_channelBehind_26 B x1 exz pz k x2 x3 → wl_CR_channelBehind_26 s t1 ex post k t2 t3 := by
  subst es; subst e1; intro k
  induction k with
  | zero => intro x2 t2 e2 x3 t3 e3 h; rw [zl_CR_channelBehind_26] at h; exact h.elim
  | succ k ih =>
    intro x2 t2 e2 x3 t3 e3 h
    subst e2; subst e3; rw [zl_CR_channelBehind_26] at h; rw [wl_CR_channelBehind_26]
    obtain ⟨g_5, h⟩ := h
    obtain ⟨g_6, h⟩ := h
    have e_7 := z_lt (z_v x1) (z_v x3) g_6 g_5
    refine ⟨fun c => ?_, fun c => ?_⟩
    · have h := h.1 (e_7.mp c)
      exact hE _ _ (z_v x2) _ _ (z_v x3) h
    · have h := h.2 (fun c9 => c (e_7.mpr c9))
      obtain ⟨g_8, h⟩ := h
      have e_9 := z_eq (z_v x2) zk_m1 g_8 (by decide)
      refine ⟨fun c => ?_, fun c => ?_⟩
      · have h := h.1 (e_9.mp c)
        exact hE _ _ (z_v x2) _ _ (z_v x3) h
      · have h := h.2 (fun c9 => c (e_9.mpr c9))
        refine zw_CR_lowestThatCloses rfl (z_v x2) (z_sub (z_f B 5 6) (z_v x3)) (fun r_10 h => ?_) h
        exact ih _ _ (z_v r_10) _ _ (z_add (z_v x3) zk_1) h
set_option maxRecDepth 10000 in
theorem zw_CR_channelBehind {B : AA} {s : SS} {x1 : Int} {t1 : Int32} (es : s = zS B) (e1 : t1 = zI x1) {post : Int32 → SS → Prop} {pz : Int → AA → Prop} (hp : ∀ r S, pz r S → post (zI r) (zS S)) (h : zp_CR_channelBehind B x1 pz) : wp_CR_channelBehind s t1 post := by
  subst es; subst e1; rw [zp_CR_channelBehind] at h; rw [wp_CR_channelBehind]
  obtain ⟨g_1, h⟩ := h
  have e_2 := z_eq (z_f B 5 5) zk_m1 g_1 (by decide)
  refine ⟨fun c => ?_, fun c => ?_⟩
  · have h := h.1 (fun c9 => c (e_2.mpr c9))
    refine zw_CR_closeAt rfl (z_f B 5 5) (fun r_3 S_3 h => ?_) h
    intro t_4 et_4
    obtain ⟨v_4, ev_4⟩ : ∃ w : Int, w = S_3 5 5 := ⟨_, rfl⟩
    have h := h v_4 ev_4
    have et_4 : t_4 = zI v_4 := by rw [ev_4]; exact et_4.trans (z_f S_3 5 5)
    subst et_4
    obtain ⟨j9, h⟩ := h
    exact ⟨j9, zwl_CR_channelBehind_26 _ _ rfl _ _ (z_v x1) (fun y2_11 t2_11 e2_11 y3_11 t3_11 e3_11 h => zwe_CR_channelBehind_54 _ _ rfl _ _ e2_11 hp h) hp j9 _ _ (z_v v_4) _ _ zk_1 h⟩
  · have h := h.2 (e_2.mp c)
    exact z_r (P := fun r9 => post r9 (zS B)) zk_m1 (hp _ _ h)
set_option maxRecDepth 10000 in
theorem zw_CN_ringAt {B : AA} {s : SS} {x1 : Int} {t1 : Int32} (es : s = zS B) (e1 : t1 = zI x1) {post : Int32 → SS → Prop} {pz : Int → AA → Prop} (hp : ∀ r S, pz r S → post (zI r) (zS S)) {xp : String → SS → Prop} {xz : String → AA → Prop} (hx : ∀ E S, xz E S → xp E (zS S)) (h : zp_CN_ringAt B x1 pz xz) : wp_CN_ringAt s t1 post xp := by
  subst es; subst e1; rw [zp_CN_ringAt] at h; rw [wp_CN_ringAt]
  refine zw_CR_search rfl (fun S_1 h => ?_) h
  obtain ⟨g_2, h⟩ := h
  have e_3 := z_lt (z_v x1) zk_0 g_2 (by decide)
  refine ⟨fun c => ?_, fun c => ?_⟩
  · have h := h.1 (e_3.mp c)
    exact hx _ _ h
  · have h := h.2 (fun c9 => c (e_3.mpr c9))
    obtain ⟨g_4, h⟩ := h
    obtain ⟨g_5, h⟩ := h
    have e_6 := z_lt (z_v x1) (z_f S_1 5 6) g_4 g_5
    refine ⟨fun c => ?_, fun c => ?_⟩
    · have h := h.1 (e_6.mp c)
      refine zw_CR_channelBehind rfl (z_v x1) (fun r_7 S_7 h => ?_) h
      exact z_r (P := fun r9 => post r9 (zS S_7)) (z_v r_7) (hp _ _ h)
    · have h := h.2 (fun c9 => c (e_6.mpr c9))
      exact hx _ _ h
set_option maxRecDepth 10000 in
theorem zwe_CT_isAtRest_69 (B : AA) (s : SS) (es : s = zS B) {post : Int32 → Prop} {pz : Int → Prop} (hp : ∀ r, pz r → post (zI r)) (h : ze_CT_isAtRest_69 B pz) : we_CT_isAtRest_69 s post := by
  subst es; rw [ze_CT_isAtRest_69] at h; rw [we_CT_isAtRest_69]
  exact z_r (P := post) zk_1 (hp _ h)
set_option maxRecDepth 10000 in
theorem zwl_CT_isAtRest_41 (B : AA) (s : SS) (es : s = zS B) {ex : Int32 → Prop} {exz : Int → Prop} (hE : ∀ (y1 : Int) (t1 : Int32), t1 = zI y1 → exz y1 → ex t1) {post : Int32 → Prop} {pz : Int → Prop} (hp : ∀ r, pz r → post (zI r)) : ∀ k, ∀ (x1 : Int) (t1 : Int32), t1 = zI x1 → zl_CT_isAtRest_41 B exz pz k x1 → wl_CT_isAtRest_41 s ex post k t1 := by
  subst es; intro k
  induction k with
  | zero => intro x1 t1 e1 h; rw [zl_CT_isAtRest_41] at h; exact h.elim
  | succ k ih =>
    intro x1 t1 e1 h
    subst e1; rw [zl_CT_isAtRest_41] at h; rw [wl_CT_isAtRest_41]
    obtain ⟨g_1, h⟩ := h
    obtain ⟨g_2, h⟩ := h
    have e_3 := z_le (z_f B 1 1) (z_v x1) g_2 g_1
    refine ⟨fun c => ?_, fun c => ?_⟩
    · have h := h.1 (e_3.mp c)
      exact hE _ _ (z_v x1) h
    · have h := h.2 (fun c9 => c (e_3.mpr c9))
      refine zw_CT_laneToMove rfl (z_v x1) (fun r_4 h => ?_) h
      obtain ⟨g_5, h⟩ := h
      have e_6 := z_eq (z_v r_4) zk_m1 g_5 (by decide)
      refine ⟨fun c => ?_, fun c => ?_⟩
      · have h := h.1 (e_6.mp c)
        exact ih _ _ (z_add (z_v x1) zk_1) h
      · have h := h.2 (fun c9 => c (e_6.mpr c9))
        exact z_r (P := post) zk_0 (hp _ h)
set_option maxRecDepth 10000 in
theorem zwe_CT_isAtRest_39 (B : AA) (s : SS) (es : s = zS B) {post : Int32 → Prop} {pz : Int → Prop} (hp : ∀ r, pz r → post (zI r)) (h : ze_CT_isAtRest_39 B pz) : we_CT_isAtRest_39 s post := by
  subst es; rw [ze_CT_isAtRest_39] at h; rw [we_CT_isAtRest_39]
  obtain ⟨j9, h⟩ := h
  exact ⟨j9, zwl_CT_isAtRest_41 _ _ rfl (fun y1_7 t1_7 e1_7 h => zwe_CT_isAtRest_69 _ _ rfl hp h) hp j9 _ _ zk_0 h⟩
set_option maxRecDepth 10000 in
theorem zwl_CT_isAtRest_2 (B : AA) (s : SS) (es : s = zS B) {ex : Int32 → Prop} {exz : Int → Prop} (hE : ∀ (y1 : Int) (t1 : Int32), t1 = zI y1 → exz y1 → ex t1) {post : Int32 → Prop} {pz : Int → Prop} (hp : ∀ r, pz r → post (zI r)) : ∀ k, ∀ (x1 : Int) (t1 : Int32), t1 = zI x1 → zl_CT_isAtRest_2 B exz pz k x1 → wl_CT_isAtRest_2 s ex post k t1 := by
  subst es; intro k
  induction k with
  | zero => intro x1 t1 e1 h; rw [zl_CT_isAtRest_2] at h; exact h.elim
  | succ k ih =>
    intro x1 t1 e1 h
    subst e1; rw [zl_CT_isAtRest_2] at h; rw [wl_CT_isAtRest_2]
    refine zw_CI_inUse rfl (fun r_8 h => ?_) h
    obtain ⟨g_9, h⟩ := h
    obtain ⟨g_10, h⟩ := h
    have e_11 := z_le (z_v r_8) (z_v x1) g_10 g_9
    refine ⟨fun c => ?_, fun c => ?_⟩
    · have h := h.1 (e_11.mp c)
      exact hE _ _ (z_v x1) h
    · have h := h.2 (fun c9 => c (e_11.mpr c9))
      refine zw_CT_channelToGet rfl (z_v x1) (fun r_12 h => ?_) h
      obtain ⟨g_13, h⟩ := h
      have e_14 := z_eq (z_v r_12) zk_m1 g_13 (by decide)
      refine ⟨fun c => ?_, fun c => ?_⟩
      · have h := h.1 (fun c9 => c (e_14.mpr c9))
        exact z_r (P := post) zk_0 (hp _ h)
      · have h := h.2 (e_14.mp c)
        refine zw_CT_flitToLeave rfl (z_v x1) (fun r_15 h => ?_) h
        obtain ⟨g_16, h⟩ := h
        have e_17 := z_eq (z_v r_15) zk_m1 g_16 (by decide)
        refine ⟨fun c => ?_, fun c => ?_⟩
        · have h := h.1 (e_17.mp c)
          exact ih _ _ (z_add (z_v x1) zk_1) h
        · have h := h.2 (fun c9 => c (e_17.mpr c9))
          exact z_r (P := post) zk_0 (hp _ h)
set_option maxRecDepth 10000 in
theorem zw_CT_isAtRest {B : AA} {s : SS} (es : s = zS B) {post : Int32 → Prop} {pz : Int → Prop} (hp : ∀ r, pz r → post (zI r)) (h : zp_CT_isAtRest B pz) : wp_CT_isAtRest s post := by
  subst es; rw [zp_CT_isAtRest] at h; rw [wp_CT_isAtRest]
  obtain ⟨j9, h⟩ := h
  exact ⟨j9, zwl_CT_isAtRest_2 _ _ rfl (fun y1_18 t1_18 e1_18 h => zwe_CT_isAtRest_39 _ _ rfl hp h) hp j9 _ _ zk_0 h⟩
set_option maxRecDepth 10000 in
theorem zw_CN_stuck {B : AA} {s : SS} (es : s = zS B) {post : Int32 → Prop} {pz : Int → Prop} (hp : ∀ r, pz r → post (zI r)) (h : zp_CN_stuck B pz) : wp_CN_stuck s post := by
  subst es; rw [zp_CN_stuck] at h; rw [wp_CN_stuck]
  obtain ⟨g_1, h⟩ := h
  obtain ⟨g_2, h⟩ := h
  have e_3 := z_le (z_f B 2 0) (z_f B 2 1) g_2 g_1
  refine ⟨fun c => ?_, fun c => ?_⟩
  · have h := h.1 (e_3.mp c)
    exact z_r (P := post) zk_0 (hp _ h)
  · have h := h.2 (fun c9 => c (e_3.mpr c9))
    refine zw_CT_isAtRest rfl (fun r_4 h => ?_) h
    obtain ⟨g_5, h⟩ := h
    have e_6 := z_eq (z_v r_4) zk_0 g_5 (by decide)
    refine ⟨fun c => ?_, fun c => ?_⟩
    · have h := h.1 (e_6.mp c)
      exact z_r (P := post) zk_0 (hp _ h)
    · have h := h.2 (fun c9 => c (e_6.mpr c9))
      exact z_r (P := post) zk_1 (hp _ h)
set_option maxRecDepth 10000 in
theorem zwe_CK_sumOf_14_30 (B : AA) (s : SS) (es : s = zS B) (x2 : Int) (t2 : Int32) (e2 : t2 = zI x2) {post : Int32 → Prop} {pz : Int → Prop} (hp : ∀ r, pz r → post (zI r)) (h : ze_CK_sumOf_14_30 B x2 pz) : we_CK_sumOf_14_30 s t2 post := by
  subst es; subst e2; rw [ze_CK_sumOf_14_30] at h; rw [we_CK_sumOf_14_30]
  exact z_r (P := post) (z_v x2) (hp _ h)
set_option maxRecDepth 10000 in
theorem zwl_CK_sumOf_14_4 (B : AA) (s : SS) (es : s = zS B) {ex : Int32 → Int32 → Prop} {exz : Int → Int → Prop} (hE : ∀ (y2 : Int) (t2 : Int32), t2 = zI y2 → ∀ (y3 : Int) (t3 : Int32), t3 = zI y3 → exz y2 y3 → ex t2 t3) {post : Int32 → Prop} {pz : Int → Prop} (hp : ∀ r, pz r → post (zI r)) : ∀ k, ∀ (x2 : Int) (t2 : Int32), t2 = zI x2 → ∀ (x3 : Int) (t3 : Int32), t3 = zI x3 → zl_CK_sumOf_14_4 B exz pz k x2 x3 → wl_CK_sumOf_14_4 s ex post k t2 t3 := by
  subst es; intro k
  induction k with
  | zero => intro x2 t2 e2 x3 t3 e3 h; rw [zl_CK_sumOf_14_4] at h; exact h.elim
  | succ k ih =>
    intro x2 t2 e2 x3 t3 e3 h
    subst e2; subst e3; rw [zl_CK_sumOf_14_4] at h; rw [wl_CK_sumOf_14_4]
    obtain ⟨g_1, h⟩ := h
    obtain ⟨g_2, h⟩ := h
    have e_3 := z_le (z_f B 2 0) (z_v x3) g_2 g_1
    refine ⟨fun c => ?_, fun c => ?_⟩
    · have h := h.1 (e_3.mp c)
      exact hE _ _ (z_v x2) _ _ (z_v x3) h
    · have h := h.2 (fun c9 => c (e_3.mpr c9))
      obtain ⟨g_4, h⟩ := h
      have e_5 := z_le zk_400 (z_v x3) (by decide) g_4
      refine ⟨fun c => ?_, fun c => ?_⟩
      · have h := h.1 (e_5.mp c)
        exact hE _ _ (z_v x2) _ _ (z_v x3) h
      · have h := h.2 (fun c9 => c (e_5.mpr c9))
        obtain ⟨i_6, h⟩ := h
        refine ⟨z_in (z_v x3) i_6 (by decide), ?_⟩
        intro t_7 et_7
        obtain ⟨v_7, ev_7⟩ : ∃ w : Int, w = x2 + (B 14 x3.toNat) := ⟨_, rfl⟩
        have h := h v_7 ev_7
        have et_7 : t_7 = zI v_7 := by rw [ev_7]; exact et_7.trans (z_add (z_v x2) (z_a B 14 (z_v x3) (z_rg i_6 (by decide))))
        subst et_7
        exact ih _ _ (z_v v_7) _ _ (z_add (z_v x3) zk_1) h
set_option maxRecDepth 10000 in
theorem zw_CK_sumOf_14 {B : AA} {s : SS} (es : s = zS B) {post : Int32 → Prop} {pz : Int → Prop} (hp : ∀ r, pz r → post (zI r)) (h : zp_CK_sumOf_14 B pz) : wp_CK_sumOf_14 s post := by
  subst es; rw [zp_CK_sumOf_14] at h; rw [wp_CK_sumOf_14]
  obtain ⟨j9, h⟩ := h
  exact ⟨j9, zwl_CK_sumOf_14_4 _ _ rfl (fun y2_8 t2_8 e2_8 y3_8 t3_8 e3_8 h => zwe_CK_sumOf_14_30 _ _ rfl _ _ e2_8 hp h) hp j9 _ _ zk_0 _ _ zk_0 h⟩
set_option maxRecDepth 10000 in
theorem zw_CK_flitsInQueues {B : AA} {s : SS} (es : s = zS B) {post : Int32 → Prop} {pz : Int → Prop} (hp : ∀ r, pz r → post (zI r)) (h : zp_CK_flitsInQueues B pz) : wp_CK_flitsInQueues s post := by
  subst es; rw [zp_CK_flitsInQueues] at h; rw [wp_CK_flitsInQueues]
  refine zw_CK_sumOf_14 rfl (fun r_1 h => ?_) h
  exact z_r (P := post) (z_v r_1) (hp _ h)
set_option maxRecDepth 10000 in
theorem zwe_CK_sumOf_13_30 (B : AA) (s : SS) (es : s = zS B) (x2 : Int) (t2 : Int32) (e2 : t2 = zI x2) {post : Int32 → Prop} {pz : Int → Prop} (hp : ∀ r, pz r → post (zI r)) (h : ze_CK_sumOf_13_30 B x2 pz) : we_CK_sumOf_13_30 s t2 post := by
  subst es; subst e2; rw [ze_CK_sumOf_13_30] at h; rw [we_CK_sumOf_13_30]
  exact z_r (P := post) (z_v x2) (hp _ h)
set_option maxRecDepth 10000 in
theorem zwl_CK_sumOf_13_4 (B : AA) (s : SS) (es : s = zS B) {ex : Int32 → Int32 → Prop} {exz : Int → Int → Prop} (hE : ∀ (y2 : Int) (t2 : Int32), t2 = zI y2 → ∀ (y3 : Int) (t3 : Int32), t3 = zI y3 → exz y2 y3 → ex t2 t3) {post : Int32 → Prop} {pz : Int → Prop} (hp : ∀ r, pz r → post (zI r)) : ∀ k, ∀ (x2 : Int) (t2 : Int32), t2 = zI x2 → ∀ (x3 : Int) (t3 : Int32), t3 = zI x3 → zl_CK_sumOf_13_4 B exz pz k x2 x3 → wl_CK_sumOf_13_4 s ex post k t2 t3 := by
  subst es; intro k
  induction k with
  | zero => intro x2 t2 e2 x3 t3 e3 h; rw [zl_CK_sumOf_13_4] at h; exact h.elim
  | succ k ih =>
    intro x2 t2 e2 x3 t3 e3 h
    subst e2; subst e3; rw [zl_CK_sumOf_13_4] at h; rw [wl_CK_sumOf_13_4]
    obtain ⟨g_1, h⟩ := h
    obtain ⟨g_2, h⟩ := h
    have e_3 := z_le (z_f B 2 0) (z_v x3) g_2 g_1
    refine ⟨fun c => ?_, fun c => ?_⟩
    · have h := h.1 (e_3.mp c)
      exact hE _ _ (z_v x2) _ _ (z_v x3) h
    · have h := h.2 (fun c9 => c (e_3.mpr c9))
      obtain ⟨g_4, h⟩ := h
      have e_5 := z_le zk_400 (z_v x3) (by decide) g_4
      refine ⟨fun c => ?_, fun c => ?_⟩
      · have h := h.1 (e_5.mp c)
        exact hE _ _ (z_v x2) _ _ (z_v x3) h
      · have h := h.2 (fun c9 => c (e_5.mpr c9))
        obtain ⟨i_6, h⟩ := h
        refine ⟨z_in (z_v x3) i_6 (by decide), ?_⟩
        intro t_7 et_7
        obtain ⟨v_7, ev_7⟩ : ∃ w : Int, w = x2 + (B 13 x3.toNat) := ⟨_, rfl⟩
        have h := h v_7 ev_7
        have et_7 : t_7 = zI v_7 := by rw [ev_7]; exact et_7.trans (z_add (z_v x2) (z_a B 13 (z_v x3) (z_rg i_6 (by decide))))
        subst et_7
        exact ih _ _ (z_v v_7) _ _ (z_add (z_v x3) zk_1) h
set_option maxRecDepth 10000 in
theorem zw_CK_sumOf_13 {B : AA} {s : SS} (es : s = zS B) {post : Int32 → Prop} {pz : Int → Prop} (hp : ∀ r, pz r → post (zI r)) (h : zp_CK_sumOf_13 B pz) : wp_CK_sumOf_13 s post := by
  subst es; rw [zp_CK_sumOf_13] at h; rw [wp_CK_sumOf_13]
  obtain ⟨j9, h⟩ := h
  exact ⟨j9, zwl_CK_sumOf_13_4 _ _ rfl (fun y2_8 t2_8 e2_8 y3_8 t3_8 e3_8 h => zwe_CK_sumOf_13_30 _ _ rfl _ _ e2_8 hp h) hp j9 _ _ zk_0 _ _ zk_0 h⟩
set_option maxRecDepth 10000 in
theorem zwe_CK_sumOf_15_30 (B : AA) (s : SS) (es : s = zS B) (x2 : Int) (t2 : Int32) (e2 : t2 = zI x2) {post : Int32 → Prop} {pz : Int → Prop} (hp : ∀ r, pz r → post (zI r)) (h : ze_CK_sumOf_15_30 B x2 pz) : we_CK_sumOf_15_30 s t2 post := by
  subst es; subst e2; rw [ze_CK_sumOf_15_30] at h; rw [we_CK_sumOf_15_30]
  exact z_r (P := post) (z_v x2) (hp _ h)
set_option maxRecDepth 10000 in
theorem zwl_CK_sumOf_15_4 (B : AA) (s : SS) (es : s = zS B) {ex : Int32 → Int32 → Prop} {exz : Int → Int → Prop} (hE : ∀ (y2 : Int) (t2 : Int32), t2 = zI y2 → ∀ (y3 : Int) (t3 : Int32), t3 = zI y3 → exz y2 y3 → ex t2 t3) {post : Int32 → Prop} {pz : Int → Prop} (hp : ∀ r, pz r → post (zI r)) : ∀ k, ∀ (x2 : Int) (t2 : Int32), t2 = zI x2 → ∀ (x3 : Int) (t3 : Int32), t3 = zI x3 → zl_CK_sumOf_15_4 B exz pz k x2 x3 → wl_CK_sumOf_15_4 s ex post k t2 t3 := by
  subst es; intro k
  induction k with
  | zero => intro x2 t2 e2 x3 t3 e3 h; rw [zl_CK_sumOf_15_4] at h; exact h.elim
  | succ k ih =>
    intro x2 t2 e2 x3 t3 e3 h
    subst e2; subst e3; rw [zl_CK_sumOf_15_4] at h; rw [wl_CK_sumOf_15_4]
    obtain ⟨g_1, h⟩ := h
    obtain ⟨g_2, h⟩ := h
    have e_3 := z_le (z_f B 2 0) (z_v x3) g_2 g_1
    refine ⟨fun c => ?_, fun c => ?_⟩
    · have h := h.1 (e_3.mp c)
      exact hE _ _ (z_v x2) _ _ (z_v x3) h
    · have h := h.2 (fun c9 => c (e_3.mpr c9))
      obtain ⟨g_4, h⟩ := h
      have e_5 := z_le zk_400 (z_v x3) (by decide) g_4
      refine ⟨fun c => ?_, fun c => ?_⟩
      · have h := h.1 (e_5.mp c)
        exact hE _ _ (z_v x2) _ _ (z_v x3) h
      · have h := h.2 (fun c9 => c (e_5.mpr c9))
        obtain ⟨i_6, h⟩ := h
        refine ⟨z_in (z_v x3) i_6 (by decide), ?_⟩
        intro t_7 et_7
        obtain ⟨v_7, ev_7⟩ : ∃ w : Int, w = x2 + (B 15 x3.toNat) := ⟨_, rfl⟩
        have h := h v_7 ev_7
        have et_7 : t_7 = zI v_7 := by rw [ev_7]; exact et_7.trans (z_add (z_v x2) (z_a B 15 (z_v x3) (z_rg i_6 (by decide))))
        subst et_7
        exact ih _ _ (z_v v_7) _ _ (z_add (z_v x3) zk_1) h
set_option maxRecDepth 10000 in
theorem zw_CK_sumOf_15 {B : AA} {s : SS} (es : s = zS B) {post : Int32 → Prop} {pz : Int → Prop} (hp : ∀ r, pz r → post (zI r)) (h : zp_CK_sumOf_15 B pz) : wp_CK_sumOf_15 s post := by
  subst es; rw [zp_CK_sumOf_15] at h; rw [wp_CK_sumOf_15]
  obtain ⟨j9, h⟩ := h
  exact ⟨j9, zwl_CK_sumOf_15_4 _ _ rfl (fun y2_8 t2_8 e2_8 y3_8 t3_8 e3_8 h => zwe_CK_sumOf_15_30 _ _ rfl _ _ e2_8 hp h) hp j9 _ _ zk_0 _ _ zk_0 h⟩
set_option maxRecDepth 10000 in
theorem zw_CK_flitsInBuffers {B : AA} {s : SS} (es : s = zS B) {post : Int32 → Prop} {pz : Int → Prop} (hp : ∀ r, pz r → post (zI r)) (h : zp_CK_flitsInBuffers B pz) : wp_CK_flitsInBuffers s post := by
  subst es; rw [zp_CK_flitsInBuffers] at h; rw [wp_CK_flitsInBuffers]
  refine zw_CK_sumOf_13 rfl (fun r_1 h => ?_) h
  refine zw_CK_sumOf_14 rfl (fun r_2 h => ?_) h
  refine zw_CK_sumOf_15 rfl (fun r_3 h => ?_) h
  exact z_r (P := post) (z_sub (z_sub (z_v r_1) (z_v r_2)) (z_v r_3)) (hp _ h)
set_option maxRecDepth 10000 in
theorem zw_CK_flitsLeft {B : AA} {s : SS} (es : s = zS B) {post : Int32 → Prop} {pz : Int → Prop} (hp : ∀ r, pz r → post (zI r)) (h : zp_CK_flitsLeft B pz) : wp_CK_flitsLeft s post := by
  subst es; rw [zp_CK_flitsLeft] at h; rw [wp_CK_flitsLeft]
  refine zw_CK_sumOf_15 rfl (fun r_1 h => ?_) h
  exact z_r (P := post) (z_v r_1) (hp _ h)
set_option maxRecDepth 10000 in
theorem zwe_CP_comesTo_48 (B : AA) (s : SS) (es : s = zS B) (x2 : Int) (t2 : Int32) (e2 : t2 = zI x2) (x3 : Int) (t3 : Int32) (e3 : t3 = zI x3) {post : Int32 → Prop} {pz : Int → Prop} (hp : ∀ r, pz r → post (zI r)) (h : ze_CP_comesTo_48 B x2 x3 pz) : we_CP_comesTo_48 s t2 t3 post := by
  subst es; subst e2; subst e3; rw [ze_CP_comesTo_48] at h; rw [we_CP_comesTo_48]
  obtain ⟨g_1, h⟩ := h
  obtain ⟨g_2, h⟩ := h
  have e_3 := z_eq (z_v x3) (z_v x2) g_1 g_2
  refine ⟨fun c => ?_, fun c => ?_⟩
  · have h := h.1 (fun c9 => c (e_3.mpr c9))
    exact z_r (P := post) zk_0 (hp _ h)
  · have h := h.2 (e_3.mp c)
    exact z_r (P := post) zk_1 (hp _ h)
set_option maxRecDepth 10000 in
theorem zwl_CP_comesTo_5 (B : AA) (s : SS) (es : s = zS B) (x2 : Int) (t2 : Int32) (e2 : t2 = zI x2) {ex : Int32 → Int32 → Prop} {exz : Int → Int → Prop} (hE : ∀ (y3 : Int) (t3 : Int32), t3 = zI y3 → ∀ (y4 : Int) (t4 : Int32), t4 = zI y4 → exz y3 y4 → ex t3 t4) {post : Int32 → Prop} {pz : Int → Prop} (hp : ∀ r, pz r → post (zI r)) : ∀ k, ∀ (x3 : Int) (t3 : Int32), t3 = zI x3 → ∀ (x4 : Int) (t4 : Int32), t4 = zI x4 → zl_CP_comesTo_5 B x2 exz pz k x3 x4 → wl_CP_comesTo_5 s t2 ex post k t3 t4 := by
  subst es; subst e2; intro k
  induction k with
  | zero => intro x3 t3 e3 x4 t4 e4 h; rw [zl_CP_comesTo_5] at h; exact h.elim
  | succ k ih =>
    intro x3 t3 e3 x4 t4 e4 h
    subst e3; subst e4; rw [zl_CP_comesTo_5] at h; rw [wl_CP_comesTo_5]
    obtain ⟨g_4, h⟩ := h
    obtain ⟨g_5, h⟩ := h
    have e_6 := z_le (z_f B 1 0) (z_v x4) g_5 g_4
    refine ⟨fun c => ?_, fun c => ?_⟩
    · have h := h.1 (e_6.mp c)
      exact hE _ _ (z_v x3) _ _ (z_v x4) h
    · have h := h.2 (fun c9 => c (e_6.mpr c9))
      obtain ⟨g_7, h⟩ := h
      obtain ⟨g_8, h⟩ := h
      have e_9 := z_eq (z_v x3) (z_v x2) g_7 g_8
      refine ⟨fun c => ?_, fun c => ?_⟩
      · have h := h.1 (e_9.mp c)
        exact hE _ _ (z_v x3) _ _ (z_v x4) h
      · have h := h.2 (fun c9 => c (e_9.mpr c9))
        refine zw_CP_wayAt rfl (z_v x3) (z_v x2) (fun r_10 h => ?_) h
        obtain ⟨g_11, h⟩ := h
        have e_12 := z_eq (z_v r_10) zk_m1 g_11 (by decide)
        refine ⟨fun c => ?_, fun c => ?_⟩
        · have h := h.1 (fun c9 => c (e_12.mpr c9))
          refine zw_CP_endOf rfl (z_v r_10) (fun r_13 h => ?_) h
          exact ih _ _ (z_v r_13) _ _ (z_add (z_v x4) zk_1) h
        · have h := h.2 (e_12.mp c)
          exact z_r (P := post) zk_0 (hp _ h)
set_option maxRecDepth 10000 in
theorem zw_CP_comesTo {B : AA} {s : SS} {x1 : Int} {t1 : Int32} {x2 : Int} {t2 : Int32} (es : s = zS B) (e1 : t1 = zI x1) (e2 : t2 = zI x2) {post : Int32 → Prop} {pz : Int → Prop} (hp : ∀ r, pz r → post (zI r)) (h : zp_CP_comesTo B x1 x2 pz) : wp_CP_comesTo s t1 t2 post := by
  subst es; subst e1; subst e2; rw [zp_CP_comesTo] at h; rw [wp_CP_comesTo]
  obtain ⟨j9, h⟩ := h
  exact ⟨j9, zwl_CP_comesTo_5 _ _ rfl _ _ (z_v x2) (fun y3_14 t3_14 e3_14 y4_14 t4_14 e4_14 h => zwe_CP_comesTo_48 _ _ rfl _ _ (z_v x2) _ _ e3_14 hp h) hp j9 _ _ (z_v x1) _ _ zk_0 h⟩
set_option maxRecDepth 10000 in
theorem zwe_CP_pairsWithoutWay_51 (B : AA) (s : SS) (es : s = zS B) (x1 : Int) (t1 : Int32) (e1 : t1 = zI x1) {post : Int32 → Prop} {pz : Int → Prop} (hp : ∀ r, pz r → post (zI r)) (h : ze_CP_pairsWithoutWay_51 B x1 pz) : we_CP_pairsWithoutWay_51 s t1 post := by
  subst es; subst e1; rw [ze_CP_pairsWithoutWay_51] at h; rw [we_CP_pairsWithoutWay_51]
  exact z_r (P := post) (z_v x1) (hp _ h)
set_option maxRecDepth 10000 in
theorem zwe_CP_pairsWithoutWay_45 (B : AA) (s : SS) (es : s = zS B) (x1 : Int) (t1 : Int32) (e1 : t1 = zI x1) (x2 : Int) (t2 : Int32) (e2 : t2 = zI x2) {ag : Int32 → Int32 → Prop} {agz : Int → Int → Prop} (hA : ∀ (y1 : Int) (t1 : Int32), t1 = zI y1 → ∀ (y2 : Int) (t2 : Int32), t2 = zI y2 → agz y1 y2 → ag t1 t2) {ex : Int32 → Int32 → Prop} {exz : Int → Int → Prop} (hE : ∀ (y1 : Int) (t1 : Int32), t1 = zI y1 → ∀ (y2 : Int) (t2 : Int32), t2 = zI y2 → exz y1 y2 → ex t1 t2) {post : Int32 → Prop} {pz : Int → Prop} (hp : ∀ r, pz r → post (zI r)) (h : ze_CP_pairsWithoutWay_45 B x1 x2 agz exz pz) : we_CP_pairsWithoutWay_45 s t1 t2 ag ex post := by
  subst es; subst e1; subst e2; rw [ze_CP_pairsWithoutWay_45] at h; rw [we_CP_pairsWithoutWay_45]
  exact hA _ _ (z_v x1) _ _ (z_add (z_v x2) zk_1) h
set_option maxRecDepth 10000 in
theorem zwl_CP_pairsWithoutWay_14 (B : AA) (s : SS) (es : s = zS B) (x2 : Int) (t2 : Int32) (e2 : t2 = zI x2) {ex : Int32 → Int32 → Prop} {exz : Int → Int → Prop} (hE : ∀ (y1 : Int) (t1 : Int32), t1 = zI y1 → ∀ (y3 : Int) (t3 : Int32), t3 = zI y3 → exz y1 y3 → ex t1 t3) {post : Int32 → Prop} {pz : Int → Prop} (hp : ∀ r, pz r → post (zI r)) : ∀ k, ∀ (x1 : Int) (t1 : Int32), t1 = zI x1 → ∀ (x3 : Int) (t3 : Int32), t3 = zI x3 → zl_CP_pairsWithoutWay_14 B x2 exz pz k x1 x3 → wl_CP_pairsWithoutWay_14 s t2 ex post k t1 t3 := by
  subst es; subst e2; intro k
  induction k with
  | zero => intro x1 t1 e1 x3 t3 e3 h; rw [zl_CP_pairsWithoutWay_14] at h; exact h.elim
  | succ k ih =>
    intro x1 t1 e1 x3 t3 e3 h
    subst e1; subst e3; rw [zl_CP_pairsWithoutWay_14] at h; rw [wl_CP_pairsWithoutWay_14]
    obtain ⟨g_4, h⟩ := h
    obtain ⟨g_5, h⟩ := h
    have e_6 := z_le (z_f B 1 0) (z_v x3) g_5 g_4
    refine ⟨fun c => ?_, fun c => ?_⟩
    · have h := h.1 (e_6.mp c)
      exact hE _ _ (z_v x1) _ _ (z_v x3) h
    · have h := h.2 (fun c9 => c (e_6.mpr c9))
      obtain ⟨g_7, h⟩ := h
      obtain ⟨g_8, h⟩ := h
      have e_9 := z_eq (z_v x2) (z_v x3) g_7 g_8
      refine ⟨fun c => ?_, fun c => ?_⟩
      · have h := h.1 (e_9.mp c)
        exact ih _ _ (z_v x1) _ _ (z_add (z_v x3) zk_1) h
      · have h := h.2 (fun c9 => c (e_9.mpr c9))
        refine zw_CP_comesTo rfl (z_v x2) (z_v x3) (fun r_10 h => ?_) h
        obtain ⟨g_11, h⟩ := h
        have e_12 := z_eq (z_v r_10) zk_0 g_11 (by decide)
        refine ⟨fun c => ?_, fun c => ?_⟩
        · have h := h.1 (fun c9 => c (e_12.mpr c9))
          exact ih _ _ (z_v x1) _ _ (z_add (z_v x3) zk_1) h
        · have h := h.2 (e_12.mp c)
          exact ih _ _ (z_add (z_v x1) zk_1) _ _ (z_add (z_v x3) zk_1) h
set_option maxRecDepth 10000 in
theorem zwl_CP_pairsWithoutWay_4 (B : AA) (s : SS) (es : s = zS B) {ex : Int32 → Int32 → Prop} {exz : Int → Int → Prop} (hE : ∀ (y1 : Int) (t1 : Int32), t1 = zI y1 → ∀ (y2 : Int) (t2 : Int32), t2 = zI y2 → exz y1 y2 → ex t1 t2) {post : Int32 → Prop} {pz : Int → Prop} (hp : ∀ r, pz r → post (zI r)) : ∀ k, ∀ (x1 : Int) (t1 : Int32), t1 = zI x1 → ∀ (x2 : Int) (t2 : Int32), t2 = zI x2 → zl_CP_pairsWithoutWay_4 B exz pz k x1 x2 → wl_CP_pairsWithoutWay_4 s ex post k t1 t2 := by
  subst es; intro k
  induction k with
  | zero => intro x1 t1 e1 x2 t2 e2 h; rw [zl_CP_pairsWithoutWay_4] at h; exact h.elim
  | succ k ih =>
    intro x1 t1 e1 x2 t2 e2 h
    subst e1; subst e2; rw [zl_CP_pairsWithoutWay_4] at h; rw [wl_CP_pairsWithoutWay_4]
    obtain ⟨g_1, h⟩ := h
    obtain ⟨g_2, h⟩ := h
    have e_3 := z_le (z_f B 1 0) (z_v x2) g_2 g_1
    refine ⟨fun c => ?_, fun c => ?_⟩
    · have h := h.1 (e_3.mp c)
      exact hE _ _ (z_v x1) _ _ (z_v x2) h
    · have h := h.2 (fun c9 => c (e_3.mpr c9))
      obtain ⟨j9, h⟩ := h
      exact ⟨j9, zwl_CP_pairsWithoutWay_14 _ _ rfl _ _ (z_v x2) (fun y1_13 t1_13 e1_13 y3_13 t3_13 e3_13 h => zwe_CP_pairsWithoutWay_45 _ _ rfl _ _ e1_13 _ _ (z_v x2) ih hE hp h) hp j9 _ _ (z_v x1) _ _ zk_0 h⟩
set_option maxRecDepth 10000 in
theorem zw_CP_pairsWithoutWay {B : AA} {s : SS} (es : s = zS B) {post : Int32 → Prop} {pz : Int → Prop} (hp : ∀ r, pz r → post (zI r)) (h : zp_CP_pairsWithoutWay B pz) : wp_CP_pairsWithoutWay s post := by
  subst es; rw [zp_CP_pairsWithoutWay] at h; rw [wp_CP_pairsWithoutWay]
  obtain ⟨j9, h⟩ := h
  exact ⟨j9, zwl_CP_pairsWithoutWay_4 _ _ rfl (fun y1_14 t1_14 e1_14 y2_14 t2_14 e2_14 h => zwe_CP_pairsWithoutWay_51 _ _ rfl _ _ e1_14 hp h) hp j9 _ _ zk_0 _ _ zk_0 h⟩
set_option maxRecDepth 10000 in
theorem zw_CN_count {B : AA} {s : SS} {x1 : Int} {t1 : Int32} (es : s = zS B) (e1 : t1 = zI x1) {post : Int32 → Prop} {pz : Int → Prop} (hp : ∀ r, pz r → post (zI r)) (h : zp_CN_count B x1 pz) : wp_CN_count s t1 post := by
  subst es; subst e1; rw [zp_CN_count] at h; rw [wp_CN_count]
  obtain ⟨g_1, h⟩ := h
  refine ⟨fun c => ?_, fun c => ?_, fun c => ?_, fun c => ?_, fun c => ?_, fun c => ?_, fun c => ?_, fun c => ?_, fun c => ?_, fun c => ?_, fun cc0 cc1 cc2 cc3 cc4 cc5 cc6 cc7 cc8 cc9 => ?_⟩
  · have h := h.1 ((z_eq (z_v x1) zk_0 g_1 (by decide)).mp c)
    exact z_r (P := post) (z_f B 1 0) (hp _ h)
  · have h := h.2.1 ((z_eq (z_v x1) zk_1 g_1 (by decide)).mp c)
    exact z_r (P := post) (z_f B 1 1) (hp _ h)
  · have h := h.2.2.1 ((z_eq (z_v x1) zk_2 g_1 (by decide)).mp c)
    exact z_r (P := post) (z_f B 2 0) (hp _ h)
  · have h := h.2.2.2.1 ((z_eq (z_v x1) zk_3 g_1 (by decide)).mp c)
    exact z_r (P := post) (z_f B 2 1) (hp _ h)
  · have h := h.2.2.2.2.1 ((z_eq (z_v x1) zk_4 g_1 (by decide)).mp c)
    exact z_r (P := post) (z_f B 4 8) (hp _ h)
  · have h := h.2.2.2.2.2.1 ((z_eq (z_v x1) zk_5 g_1 (by decide)).mp c)
    refine zw_CK_flitsInQueues rfl (fun r_2 h => ?_) h
    exact z_r (P := post) (z_v r_2) (hp _ h)
  · have h := h.2.2.2.2.2.2.1 ((z_eq (z_v x1) zk_6 g_1 (by decide)).mp c)
    refine zw_CK_flitsInBuffers rfl (fun r_3 h => ?_) h
    exact z_r (P := post) (z_v r_3) (hp _ h)
  · have h := h.2.2.2.2.2.2.2.1 ((z_eq (z_v x1) zk_7 g_1 (by decide)).mp c)
    exact z_r (P := post) (z_f B 4 9) (hp _ h)
  · have h := h.2.2.2.2.2.2.2.2.1 ((z_eq (z_v x1) zk_8 g_1 (by decide)).mp c)
    refine zw_CK_flitsLeft rfl (fun r_4 h => ?_) h
    exact z_r (P := post) (z_v r_4) (hp _ h)
  · have h := h.2.2.2.2.2.2.2.2.2.1 ((z_eq (z_v x1) zk_9 g_1 (by decide)).mp c)
    refine zw_CP_pairsWithoutWay rfl (fun r_5 h => ?_) h
    exact z_r (P := post) (z_v r_5) (hp _ h)
  · have h := h.2.2.2.2.2.2.2.2.2.2 (fun c9 => cc0 ((z_eq (z_v x1) zk_0 g_1 (by decide)).mpr c9)) (fun c9 => cc1 ((z_eq (z_v x1) zk_1 g_1 (by decide)).mpr c9)) (fun c9 => cc2 ((z_eq (z_v x1) zk_2 g_1 (by decide)).mpr c9)) (fun c9 => cc3 ((z_eq (z_v x1) zk_3 g_1 (by decide)).mpr c9)) (fun c9 => cc4 ((z_eq (z_v x1) zk_4 g_1 (by decide)).mpr c9)) (fun c9 => cc5 ((z_eq (z_v x1) zk_5 g_1 (by decide)).mpr c9)) (fun c9 => cc6 ((z_eq (z_v x1) zk_6 g_1 (by decide)).mpr c9)) (fun c9 => cc7 ((z_eq (z_v x1) zk_7 g_1 (by decide)).mpr c9)) (fun c9 => cc8 ((z_eq (z_v x1) zk_8 g_1 (by decide)).mpr c9)) (fun c9 => cc9 ((z_eq (z_v x1) zk_9 g_1 (by decide)).mpr c9))
    exact z_r (P := post) zk_m1 (hp _ h)
