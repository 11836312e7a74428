def wp_M_thrown (σ : SS) (post : Int32 → Prop) : Prop :=
  post (σ 0 0)
def wp_M_wrong (σ : SS) (x1 : Int32) (post : Int32 → SS → Prop) : Prop :=
  ∀ s_1, s_1 = u2 σ 0 0 x1 → post 0 s_1
def wp_M_within (σ : SS) (x0 : Int32) (x1 : Int32) (x2 : Int32) (post : Int32 → Prop) : Prop :=
  ((x0 < x1 → post 0) ∧ (¬ x0 < x1 → ((x2 < x0 → post 0) ∧ (¬ x2 < x0 → post 1))))
def wp_M_isNode (σ : SS) (x1 : Int32) (post : Int32 → Prop) : Prop :=
  wp_M_within σ x1 0 ((σ 0 2) - 1) (fun r_1 => ((r_1 = 0 ∨ r_1 = 1) ∧ post r_1))
def wp_M_isChannel (σ : SS) (x1 : Int32) (post : Int32 → Prop) : Prop :=
  wp_M_within σ x1 0 ((4 * (σ 0 3)) - 1) (fun r_1 => ((r_1 = 0 → post 0) ∧ (¬ r_1 = 0 → vp_in (x1 / 4) 40 ∧ (((σ 3 (x1 / 4).toNatClampNeg) ≤ (x1 - x1 / 4 * 4) → post 0) ∧ (¬ (σ 3 (x1 / 4).toNatClampNeg) ≤ (x1 - x1 / 4 * 4) → post 1)))))
def wp_M_node (σ : SS) (post : Int32 → SS → Prop) : Prop :=
  ∀ s_1, s_1 = u2 σ 0 0 0 → ((¬ (s_1 0 2) = 16 → ∀ s_3, s_3 = u2 s_1 0 2 ((s_1 0 2) + 1) → post ((s_3 0 2) - 1) s_3) ∧ ((s_1 0 2) = 16 → wp_M_wrong s_1 1 (fun r_4 σ_4 => post r_4 σ_4)))
def wp_M_link (σ : SS) (x1 : Int32) (x2 : Int32) (x3 : Int32) (post : Int32 → SS → Prop) : Prop :=
  ∀ s_1, s_1 = u2 σ 0 0 0 → wp_M_isNode s_1 x1 (fun r_2 => ((r_2 = 0 → wp_M_wrong s_1 1 (fun r_4 σ_4 => post r_4 σ_4)) ∧ (¬ r_2 = 0 → wp_M_isNode s_1 x2 (fun r_5 => ((r_5 = 0 → wp_M_wrong s_1 1 (fun r_7 σ_7 => post r_7 σ_7)) ∧ (¬ r_5 = 0 → ((x1 = x2 → wp_M_wrong s_1 1 (fun r_9 σ_9 => post r_9 σ_9)) ∧ (¬ x1 = x2 → wp_M_within s_1 x3 1 4 (fun r_10 => ((¬ r_10 = 0 → ((¬ (s_1 0 3) = 40 → vp_in (s_1 0 3) 40 ∧ ∀ s_13, s_13 = u2 s_1 1 (s_1 0 3).toNatClampNeg x1 → vp_in (s_13 0 3) 40 ∧ ∀ s_14, s_14 = u2 s_13 2 (s_13 0 3).toNatClampNeg x2 → vp_in (s_14 0 3) 40 ∧ ∀ s_15, s_15 = u2 s_14 3 (s_14 0 3).toNatClampNeg x3 → ∀ s_16, s_16 = u2 s_15 0 3 ((s_15 0 3) + 1) → post ((s_16 0 3) - 1) s_16) ∧ ((s_1 0 3) = 40 → wp_M_wrong s_1 2 (fun r_17 σ_17 => post r_17 σ_17)))) ∧ (r_10 = 0 → wp_M_wrong s_1 1 (fun r_18 σ_18 => post r_18 σ_18))))))))))))
def wp_M_route (σ : SS) (x1 : Int32) (x2 : Int32) (x3 : Int32) (post : Int32 → SS → Prop) : Prop :=
  ∀ s_1, s_1 = u2 σ 0 0 0 → wp_M_isNode s_1 x1 (fun r_2 => ((r_2 = 0 → wp_M_wrong s_1 1 (fun r_4 σ_4 => post r_4 σ_4)) ∧ (¬ r_2 = 0 → wp_M_isNode s_1 x2 (fun r_5 => ((r_5 = 0 → wp_M_wrong s_1 1 (fun r_7 σ_7 => post r_7 σ_7)) ∧ (¬ r_5 = 0 → ((¬ x1 = x2 → ((x3 = (-1) → vp_in ((16 * x1) + x2) 256 ∧ ∀ v_10, v_10 = s_1 6 ((16 * x1) + x2).toNatClampNeg → vp_in ((16 * x1) + x2) 256 ∧ ∀ s_11, s_11 = u2 s_1 6 ((16 * x1) + x2).toNatClampNeg x3 → post v_10 s_11) ∧ (¬ x3 = (-1) → wp_M_isChannel s_1 x3 (fun r_12 => ((r_12 = 0 → wp_M_wrong s_1 1 (fun r_14 σ_14 => post r_14 σ_14)) ∧ (¬ r_12 = 0 → vp_in (x3 / 4) 40 ∧ ((¬ (s_1 1 (x3 / 4).toNatClampNeg) = x1 → wp_M_wrong s_1 1 (fun r_16 σ_16 => post r_16 σ_16)) ∧ ((s_1 1 (x3 / 4).toNatClampNeg) = x1 → vp_in (x3 / 4) 40 ∧ (((s_1 4 (x3 / 4).toNatClampNeg) = 0 → vp_in ((16 * x1) + x2) 256 ∧ ∀ v_18, v_18 = s_1 6 ((16 * x1) + x2).toNatClampNeg → vp_in ((16 * x1) + x2) 256 ∧ ∀ s_19, s_19 = u2 s_1 6 ((16 * x1) + x2).toNatClampNeg x3 → post v_18 s_19) ∧ (¬ (s_1 4 (x3 / 4).toNatClampNeg) = 0 → wp_M_wrong s_1 1 (fun r_20 σ_20 => post r_20 σ_20))))))))))) ∧ (x1 = x2 → wp_M_wrong s_1 1 (fun r_21 σ_21 => post r_21 σ_21)))))))))
def we_M_routes_182 (σ : SS) (x2 : Int32) (post : Int32 → SS → Prop) : Prop :=
  post x2 σ
def we_M_routes_176 (σ : SS) (x1 : Int32) (x2 : Int32) (x3 : Int32) (ag : SS → Int32 → Int32 → Prop) (ex : SS → Int32 → Int32 → Prop) (post : Int32 → SS → Prop) : Prop :=
  ag σ x2 (x3 + 1)
def wl_M_routes_74 (x1 : Int32) (x3 : Int32) (ex : SS → Int32 → Int32 → Prop) (post : Int32 → SS → Prop) : Nat → SS → Int32 → Int32 → Prop
  | 0, _, _, _ => False
  | k + 1, σ, x2, x4 =>
    (((σ 0 3) ≤ x4 → ex σ x2 x4) ∧ (¬ (σ 0 3) ≤ x4 → vp_in x4 40 ∧ ∀ v_6, v_6 = σ 1 x4.toNatClampNeg → vp_in x4 40 ∧ ((¬ (σ 4 x4.toNatClampNeg) = 0 → wl_M_routes_74 x1 x3 ex post k σ x2 (x4 + 1)) ∧ ((σ 4 x4.toNatClampNeg) = 0 → vp_in x4 40 ∧ vp_in (σ 2 x4.toNatClampNeg) 160 ∧ ((¬ (σ 20 (σ 2 x4.toNatClampNeg).toNatClampNeg) = (x3 - 1) → wl_M_routes_74 x1 x3 ex post k σ x2 (x4 + 1)) ∧ ((σ 20 (σ 2 x4.toNatClampNeg).toNatClampNeg) = (x3 - 1) → vp_in v_6 160 ∧ ((¬ (σ 20 v_6.toNatClampNeg) = (-1) → wl_M_routes_74 x1 x3 ex post k σ x2 (x4 + 1)) ∧ ((σ 20 v_6.toNatClampNeg) = (-1) → vp_in v_6 160 ∧ ∀ s_13, s_13 = u2 σ 20 v_6.toNatClampNeg x3 → vp_in ((16 * v_6) + x1) 256 ∧ ∀ s_14, s_14 = u2 s_13 6 ((16 * v_6) + x1).toNatClampNeg (4 * x4) → wl_M_routes_74 x1 x3 ex post k s_14 (x2 + 1) (x4 + 1)))))))))
def wl_M_routes_65 (x1 : Int32) (ex : SS → Int32 → Int32 → Prop) (post : Int32 → SS → Prop) : Nat → SS → Int32 → Int32 → Prop
  | 0, _, _, _ => False
  | k + 1, σ, x2, x3 =>
    ((16 < x3 → ex σ x2 x3) ∧ (¬ 16 < x3 → (∃ j74, wl_M_routes_74 x1 x3 (fun σ' y2 y4 => we_M_routes_176 σ' x1 y2 x3 (wl_M_routes_65 x1 ex post k) ex post) post j74 σ x2 0)))
def we_M_routes_61 (σ : SS) (x1 : Int32) (post : Int32 → SS → Prop) : Prop :=
  (∃ j65, wl_M_routes_65 x1 (fun σ' y2 y3 => we_M_routes_182 σ' y2 post) post j65 σ 0 1)
def wl_M_routes_21 (x1 : Int32) (ex : SS → Int32 → Prop) (post : Int32 → SS → Prop) : Nat → SS → Int32 → Prop
  | 0, _, _ => False
  | k + 1, σ, x2 =>
    ((16 ≤ x2 → ex σ x2) ∧ (¬ 16 ≤ x2 → ((¬ x2 = x1 → vp_in x2 160 ∧ ∀ s_17, s_17 = u2 σ 20 x2.toNatClampNeg (-1) → vp_in ((16 * x2) + x1) 256 ∧ ∀ s_18, s_18 = u2 s_17 6 ((16 * x2) + x1).toNatClampNeg (-1) → wl_M_routes_21 x1 ex post k s_18 (x2 + 1)) ∧ (x2 = x1 → vp_in x2 160 ∧ ∀ s_19, s_19 = u2 σ 20 x2.toNatClampNeg 0 → vp_in ((16 * x2) + x1) 256 ∧ ∀ s_20, s_20 = u2 s_19 6 ((16 * x2) + x1).toNatClampNeg (-1) → wl_M_routes_21 x1 ex post k s_20 (x2 + 1)))))
def wp_M_routes (σ : SS) (x1 : Int32) (post : Int32 → SS → Prop) : Prop :=
  ∀ s_1, s_1 = u2 σ 0 0 0 → wp_M_isNode s_1 x1 (fun r_2 => ((¬ r_2 = 0 → (∃ j21, wl_M_routes_21 x1 (fun σ' y2 => we_M_routes_61 σ' x1 post) post j21 s_1 0)) ∧ (r_2 = 0 → wp_M_wrong s_1 1 (fun r_21 σ_21 => post r_21 σ_21))))
def we_M_fail_89 (σ : SS) (x2 : Int32) (post : Int32 → SS → Prop) : Prop :=
  post x2 σ
def wl_M_fail_45 (x1 : Int32) (ex : SS → Int32 → Int32 → Prop) (post : Int32 → SS → Prop) : Nat → SS → Int32 → Int32 → Prop
  | 0, _, _, _ => False
  | k + 1, σ, x2, x3 =>
    ((256 ≤ x3 → ex σ x2 x3) ∧ (¬ 256 ≤ x3 → vp_in x3 256 ∧ (((σ 6 x3.toNatClampNeg) < 0 → wl_M_fail_45 x1 ex post k σ x2 (x3 + 1)) ∧ (¬ (σ 6 x3.toNatClampNeg) < 0 → vp_in x3 256 ∧ ((¬ ((σ 6 x3.toNatClampNeg) / 4) = x1 → wl_M_fail_45 x1 ex post k σ x2 (x3 + 1)) ∧ (((σ 6 x3.toNatClampNeg) / 4) = x1 → vp_in x3 256 ∧ ∀ s_10, s_10 = u2 σ 6 x3.toNatClampNeg (-1) → wl_M_fail_45 x1 ex post k s_10 (x2 + 1) (x3 + 1)))))))
def wp_M_fail (σ : SS) (x1 : Int32) (post : Int32 → SS → Prop) : Prop :=
  ∀ s_1, s_1 = u2 σ 0 0 0 → wp_M_within s_1 x1 0 ((s_1 0 3) - 1) (fun r_2 => ((r_2 = 0 → wp_M_wrong s_1 1 (fun r_4 σ_4 => post r_4 σ_4)) ∧ (¬ r_2 = 0 → vp_in x1 40 ∧ (((s_1 4 x1.toNatClampNeg) = 0 → vp_in x1 40 ∧ ∀ s_6, s_6 = u2 s_1 4 x1.toNatClampNeg 1 → (∃ j45, wl_M_fail_45 x1 (fun σ' y2 y3 => we_M_fail_89 σ' y2 post) post j45 s_6 0 0)) ∧ (¬ (s_1 4 x1.toNatClampNeg) = 0 → wp_M_wrong s_1 1 (fun r_11 σ_11 => post r_11 σ_11))))))
def wp_M_add (σ : SS) (x1 : Int32) (x2 : Int32) (x3 : Int32) (post : Int32 → SS → Prop) : Prop :=
  ∀ v_1, v_1 = σ 0 4 → vp_in v_1 400 ∧ ∀ s_2, s_2 = u2 σ 7 v_1.toNatClampNeg x1 → vp_in v_1 400 ∧ ∀ s_3, s_3 = u2 s_2 8 v_1.toNatClampNeg x2 → vp_in v_1 400 ∧ ∀ s_4, s_4 = u2 s_3 9 v_1.toNatClampNeg x3 → ∀ s_5, s_5 = u2 s_4 0 4 ((s_4 0 4) + 1) → post v_1 s_5
def wp_M_send (σ : SS) (x1 : Int32) (x2 : Int32) (x3 : Int32) (post : Int32 → SS → Prop) : Prop :=
  ∀ s_1, s_1 = u2 σ 0 0 0 → wp_M_isNode s_1 x1 (fun r_2 => ((r_2 = 0 → wp_M_wrong s_1 1 (fun r_4 σ_4 => post r_4 σ_4)) ∧ (¬ r_2 = 0 → wp_M_isNode s_1 x2 (fun r_5 => ((r_5 = 0 → wp_M_wrong s_1 1 (fun r_7 σ_7 => post r_7 σ_7)) ∧ (¬ r_5 = 0 → wp_M_within s_1 x3 1 16 (fun r_8 => ((¬ r_8 = 0 → ((¬ (s_1 0 4) = 400 → wp_M_add s_1 x1 x2 x3 (fun r_11 σ_11 => post r_11 σ_11)) ∧ ((s_1 0 4) = 400 → wp_M_wrong s_1 2 (fun r_12 σ_12 => post r_12 σ_12)))) ∧ (r_8 = 0 → wp_M_wrong s_1 1 (fun r_13 σ_13 => post r_13 σ_13))))))))))
def wp_M_draw (σ : SS) (post : Int32 → SS → Prop) : Prop :=
  ∀ s_1, s_1 = u2 σ 0 1 (((1103515245 * (σ 0 1)) + 12345) &&& 2147483647) → post ((s_1 0 1) / 65536) s_1
def we_M_load_103 (σ : SS) (post : Int32 → SS → Prop) : Prop :=
  post ((σ 0 4) - 1) σ
def wl_M_load_54 (x1 : Int32) (ex : SS → Int32 → Prop) (post : Int32 → SS → Prop) : Nat → SS → Int32 → Prop
  | 0, _, _ => False
  | k + 1, σ, x2 =>
    ((x1 ≤ x2 → ex σ x2) ∧ (¬ x1 ≤ x2 → wp_M_draw σ (fun r_7 σ_7 => (¬ (σ_7 0 2) = 0) ∧ ∀ v_8, v_8 = r_7 - r_7 / (σ_7 0 2) * (σ_7 0 2) → wp_M_draw σ_7 (fun r_9 σ_9 => (¬ (σ_9 0 2) = 0) ∧ ∀ v_10, v_10 = r_9 - r_9 / (σ_9 0 2) * (σ_9 0 2) → wp_M_draw σ_9 (fun r_11 σ_11 => wp_M_add σ_11 v_8 v_10 (1 + (r_11 - r_11 / 8 * 8)) (fun r_12 σ_12 => wl_M_load_54 x1 ex post k σ_12 (x2 + 1)))))))
def wp_M_load (σ : SS) (x1 : Int32) (post : Int32 → SS → Prop) : Prop :=
  ∀ s_1, s_1 = u2 σ 0 0 0 → wp_M_within s_1 x1 1 50 (fun r_2 => ((¬ r_2 = 0 → ((¬ (s_1 0 2) = 0 → ((((s_1 0 4) + x1) ≤ 400 → (∃ j54, wl_M_load_54 x1 (fun σ' y2 => we_M_load_103 σ' post) post j54 s_1 0)) ∧ (¬ ((s_1 0 4) + x1) ≤ 400 → wp_M_wrong s_1 3 (fun r_13 σ_13 => post r_13 σ_13)))) ∧ ((s_1 0 2) = 0 → wp_M_wrong s_1 2 (fun r_14 σ_14 => post r_14 σ_14)))) ∧ (r_2 = 0 → wp_M_wrong s_1 1 (fun r_15 σ_15 => post r_15 σ_15))))
def we_M_front_89 (σ : SS) (x2 : Int32) (post : Int32 → Prop) : Prop :=
  (((σ 0 4) ≤ x2 → post (-1)) ∧ (¬ (σ 0 4) ≤ x2 → vp_in x2 400 ∧ post ((16 * x2) + (σ 10 x2.toNatClampNeg))))
def wl_M_front_50 (σ : SS) (x1 : Int32) (ex : Int32 → Prop) (post : Int32 → Prop) : Nat → Int32 → Prop
  | 0, _ => False
  | k + 1, x2 =>
    (((σ 0 4) ≤ x2 → ex x2) ∧ (¬ (σ 0 4) ≤ x2 → vp_in x2 400 ∧ ((¬ (σ 7 x2.toNatClampNeg) = x1 → wl_M_front_50 σ x1 ex post k (x2 + 1)) ∧ ((σ 7 x2.toNatClampNeg) = x1 → vp_in x2 400 ∧ vp_in x2 400 ∧ ((¬ (σ 10 x2.toNatClampNeg) = (σ 9 x2.toNatClampNeg) → ex x2) ∧ ((σ 10 x2.toNatClampNeg) = (σ 9 x2.toNatClampNeg) → wl_M_front_50 σ x1 ex post k (x2 + 1)))))))
def wp_M_front (σ : SS) (x1 : Int32) (post : Int32 → Prop) : Prop :=
  ((x1 < 16 → (∃ j50, wl_M_front_50 σ x1 (fun y2 => we_M_front_89 σ y2 post) post j50 0)) ∧ (¬ x1 < 16 → ∀ v_6, v_6 = x1 - 16 → vp_in v_6 160 ∧ (((σ 13 v_6.toNatClampNeg) = 0 → post (-1)) ∧ (¬ (σ 13 v_6.toNatClampNeg) = 0 → vp_in (4 * v_6) 640 ∧ ((¬ (σ 15 (4 * v_6).toNatClampNeg) = (σ 0 5) → vp_in (4 * v_6) 640 ∧ post (σ 14 (4 * v_6).toNatClampNeg)) ∧ ((σ 15 (4 * v_6).toNatClampNeg) = (σ 0 5) → post (-1)))))))
def we_M_take_103 (σ : SS) (post : SS → Prop) : Prop :=
  post σ
def wl_M_take_38 (x3 : Int32) (ex : SS → Int32 → Prop) (post : SS → Prop) : Nat → SS → Int32 → Prop
  | 0, _, _ => False
  | k + 1, σ, x4 =>
    vp_in x3 160 ∧ (((σ 13 x3.toNatClampNeg) ≤ x4 → ex σ x4) ∧ (¬ (σ 13 x3.toNatClampNeg) ≤ x4 → vp_in (((4 * x3) + x4) + 1) 640 ∧ vp_in ((4 * x3) + x4) 640 ∧ ∀ s_5, s_5 = u2 σ 14 ((4 * x3) + x4).toNatClampNeg (σ 14 (((4 * x3) + x4) + 1).toNatClampNeg) → vp_in (((4 * x3) + x4) + 1) 640 ∧ vp_in ((4 * x3) + x4) 640 ∧ ∀ s_6, s_6 = u2 s_5 15 ((4 * x3) + x4).toNatClampNeg (s_5 15 (((4 * x3) + x4) + 1).toNatClampNeg) → wl_M_take_38 x3 ex post k s_6 (x4 + 1)))
def wp_M_take (σ : SS) (x1 : Int32) (x2 : Int32) (post : SS → Prop) : Prop :=
  ((16 ≤ x1 → ∀ v_2, v_2 = x1 - 16 → vp_in v_2 160 ∧ vp_in v_2 160 ∧ ∀ s_3, s_3 = u2 σ 13 v_2.toNatClampNeg ((σ 13 v_2.toNatClampNeg) - 1) → (∃ j38, wl_M_take_38 v_2 (fun σ' y4 => we_M_take_103 σ' post) post j38 s_3 0)) ∧ (¬ 16 ≤ x1 → vp_in (x2 / 16) 400 ∧ vp_in (x2 / 16) 400 ∧ ∀ s_7, s_7 = u2 σ 10 (x2 / 16).toNatClampNeg ((σ 10 (x2 / 16).toNatClampNeg) + 1) → post s_7))
def wp_M_nodeOf (σ : SS) (x1 : Int32) (post : Int32 → Prop) : Prop :=
  ((16 ≤ x1 → vp_in ((x1 - 16) / 4) 40 ∧ post (σ 2 ((x1 - 16) / 4).toNatClampNeg)) ∧ (¬ 16 ≤ x1 → post x1))
def wp_M_isInput (σ : SS) (x1 : Int32) (x2 : Int32) (post : Int32 → Prop) : Prop :=
  ((16 ≤ x1 → wp_M_isChannel σ (x1 - 16) (fun r_2 => ((r_2 = 0 → post 0) ∧ (¬ r_2 = 0 → wp_M_nodeOf σ x1 (fun r_4 => ((¬ r_4 = x2 → post 0) ∧ (r_4 = x2 → post 1))))))) ∧ (¬ 16 ≤ x1 → ((¬ x1 = x2 → post 0) ∧ (x1 = x2 → post 1))))
def we_M_holds_40 (σ : SS) (x2 : Int32) (post : Int32 → Prop) : Prop :=
  ((x2 = 0 ∨ x2 = 1) ∧ post x2)
def wl_M_holds_4 (σ : SS) (x1 : Int32) (ex : Int32 → Int32 → Prop) (post : Int32 → Prop) : Nat → Int32 → Int32 → Prop
  | 0, _, _ => False
  | k + 1, x2, x3 =>
    (((4 * (σ 0 3)) ≤ x3 → ex x2 x3) ∧ (¬ (4 * (σ 0 3)) ≤ x3 → ((¬ x2 = 0 → wl_M_holds_4 σ x1 ex post k 1 (x3 + 1)) ∧ (x2 = 0 → vp_in x3 160 ∧ ((¬ (σ 17 x3.toNatClampNeg) = x1 → wl_M_holds_4 σ x1 ex post k 0 (x3 + 1)) ∧ ((σ 17 x3.toNatClampNeg) = x1 → wl_M_holds_4 σ x1 ex post k 1 (x3 + 1)))))))
def wp_M_holds (σ : SS) (x1 : Int32) (post : Int32 → Prop) : Prop :=
  (∃ j4, wl_M_holds_4 σ x1 (fun y2 y3 => we_M_holds_40 σ y2 post) post j4 0 0)
def wp_M_wanted (σ : SS) (x1 : Int32) (post : Int32 → Prop) : Prop :=
  wp_M_front σ x1 (fun r_1 => wp_M_nodeOf σ x1 (fun r_2 => ((r_1 < 0 → post (-1)) ∧ (¬ r_1 < 0 → ((0 < (r_1 - r_1 / 16 * 16) → post (-1)) ∧ (¬ 0 < (r_1 - r_1 / 16 * 16) → vp_in (r_1 / 16) 400 ∧ (((σ 8 (r_1 / 16).toNatClampNeg) = r_2 → post (-1)) ∧ (¬ (σ 8 (r_1 / 16).toNatClampNeg) = r_2 → wp_M_holds σ x1 (fun r_6 => ((r_6 = 0 → vp_in (r_1 / 16) 400 ∧ vp_in ((16 * r_2) + (σ 8 (r_1 / 16).toNatClampNeg)) 256 ∧ ∀ v_8, v_8 = σ 6 ((16 * r_2) + (σ 8 (r_1 / 16).toNatClampNeg)).toNatClampNeg → ((v_8 < 0 → post (-1)) ∧ (¬ v_8 < 0 → vp_in (v_8 / 4) 40 ∧ ((¬ (σ 4 (v_8 / 4).toNatClampNeg) = 0 → post (-1)) ∧ ((σ 4 (v_8 / 4).toNatClampNeg) = 0 → vp_in v_8 160 ∧ ((¬ (σ 17 v_8.toNatClampNeg) = (-1) → post (-1)) ∧ ((σ 17 v_8.toNatClampNeg) = (-1) → post v_8))))))) ∧ (¬ r_6 = 0 → post (-1))))))))))))
def we_M_ask_81 (σ : SS) (post : SS → Prop) : Prop :=
  post σ
def we_M_ask_75 (σ : SS) (x1 : Int32) (ag : SS → Int32 → Prop) (ex : SS → Int32 → Prop) (post : SS → Prop) : Prop :=
  ag σ (x1 + 1)
def wl_M_ask_12 (x1 : Int32) (ex : SS → Int32 → Prop) (post : SS → Prop) : Nat → SS → Int32 → Prop
  | 0, _, _ => False
  | k + 1, σ, x2 =>
    (((16 + (4 * (σ 0 3))) ≤ x2 → ex σ x2) ∧ (¬ (16 + (4 * (σ 0 3))) ≤ x2 → wp_M_isInput σ x2 x1 (fun r_3 => ((r_3 = 0 → wl_M_ask_12 x1 ex post k σ (x2 + 1)) ∧ (¬ r_3 = 0 → wp_M_wanted σ x2 (fun r_6 => ((r_6 < 0 → wl_M_ask_12 x1 ex post k σ (x2 + 1)) ∧ (¬ r_6 < 0 → vp_in r_6 160 ∧ ∀ s_8, s_8 = u2 σ 17 r_6.toNatClampNeg x2 → wp_M_front s_8 x2 (fun r_9 => vp_in r_6 160 ∧ ∀ s_10, s_10 = u2 s_8 18 r_6.toNatClampNeg (r_9 / 16) → wl_M_ask_12 x1 ex post k s_10 (x2 + 1))))))))))
def wl_M_ask_2 (ex : SS → Int32 → Prop) (post : SS → Prop) : Nat → SS → Int32 → Prop
  | 0, _, _ => False
  | k + 1, σ, x1 =>
    (((σ 0 2) ≤ x1 → ex σ x1) ∧ (¬ (σ 0 2) ≤ x1 → (∃ j12, wl_M_ask_12 x1 (fun σ' y2 => we_M_ask_75 σ' x1 (wl_M_ask_2 ex post k) ex post) post j12 σ 0)))
def wp_M_ask (σ : SS) (post : SS → Prop) : Prop :=
  (∃ j2, wl_M_ask_2 (fun σ' y1 => we_M_ask_81 σ' post) post j2 σ 0)
def we_M_mover_72 (σ : SS) (post : Int32 → Prop) : Prop :=
  post (-1)
def wl_M_mover_2 (σ : SS) (x1 : Int32) (ex : Int32 → Prop) (post : Int32 → Prop) : Nat → Int32 → Prop
  | 0, _ => False
  | k + 1, x2 =>
    ((4 < x2 → ex x2) ∧ (¬ 4 < x2 → vp_in x1 40 ∧ ∀ v_2, v_2 = (4 * x1) + ((((σ 5 x1.toNatClampNeg) + x2) + 4) - (((σ 5 x1.toNatClampNeg) + x2) + 4) / 4 * 4) → wp_M_isChannel σ v_2 (fun r_3 => ((r_3 = 0 → wl_M_mover_2 σ x1 ex post k (x2 + 1)) ∧ (¬ r_3 = 0 → vp_in v_2 160 ∧ (((σ 17 v_2.toNatClampNeg) < 0 → wl_M_mover_2 σ x1 ex post k (x2 + 1)) ∧ (¬ (σ 17 v_2.toNatClampNeg) < 0 → vp_in v_2 160 ∧ wp_M_front σ (σ 17 v_2.toNatClampNeg) (fun r_6 => ((r_6 < 0 → wl_M_mover_2 σ x1 ex post k (x2 + 1)) ∧ (¬ r_6 < 0 → vp_in v_2 160 ∧ ((4 ≤ (σ 13 v_2.toNatClampNeg) → wl_M_mover_2 σ x1 ex post k (x2 + 1)) ∧ (¬ 4 ≤ (σ 13 v_2.toNatClampNeg) → post v_2))))))))))))
def wp_M_mover (σ : SS) (x1 : Int32) (post : Int32 → Prop) : Prop :=
  (∃ j2, wl_M_mover_2 σ x1 (fun y2 => we_M_mover_72 σ post) post j2 1)
def wp_M_move (σ : SS) (x1 : Int32) (post : SS → Prop) : Prop :=
  wp_M_mover σ x1 (fun r_1 => ((0 ≤ r_1 → vp_in r_1 160 ∧ wp_M_front σ (σ 17 r_1.toNatClampNeg) (fun r_3 => vp_in r_1 160 ∧ wp_M_take σ (σ 17 r_1.toNatClampNeg) r_3 (fun σ_4 => vp_in r_1 160 ∧ vp_in ((4 * r_1) + (σ_4 13 r_1.toNatClampNeg)) 640 ∧ ∀ s_5, s_5 = u2 σ_4 14 ((4 * r_1) + (σ_4 13 r_1.toNatClampNeg)).toNatClampNeg r_3 → vp_in r_1 160 ∧ vp_in ((4 * r_1) + (s_5 13 r_1.toNatClampNeg)) 640 ∧ ∀ s_6, s_6 = u2 s_5 15 ((4 * r_1) + (s_5 13 r_1.toNatClampNeg)).toNatClampNeg (s_5 0 5) → vp_in r_1 160 ∧ vp_in r_1 160 ∧ ∀ s_7, s_7 = u2 s_6 13 r_1.toNatClampNeg ((s_6 13 r_1.toNatClampNeg) + 1) → ∀ s_8, s_8 = u2 s_7 0 6 ((s_7 0 6) + 1) → vp_in r_1 160 ∧ vp_in r_1 160 ∧ ∀ s_9, s_9 = u2 s_8 16 r_1.toNatClampNeg ((s_8 16 r_1.toNatClampNeg) + 1) → vp_in x1 40 ∧ ∀ s_10, s_10 = u2 s_9 5 x1.toNatClampNeg (r_1 - r_1 / 4 * 4) → vp_in (r_3 / 16) 400 ∧ ((¬ (r_3 - r_3 / 16 * 16) = ((s_10 9 (r_3 / 16).toNatClampNeg) - 1) → post s_10) ∧ ((r_3 - r_3 / 16 * 16) = ((s_10 9 (r_3 / 16).toNatClampNeg) - 1) → vp_in r_1 160 ∧ ∀ s_12, s_12 = u2 s_10 17 r_1.toNatClampNeg (-1) → vp_in r_1 160 ∧ ∀ s_13, s_13 = u2 s_12 18 r_1.toNatClampNeg (-1) → post s_13))))) ∧ (¬ 0 ≤ r_1 → post σ)))
def wp_M_leave (σ : SS) (x1 : Int32) (x2 : Int32) (post : SS → Prop) : Prop :=
  wp_M_front σ x1 (fun r_1 => ((r_1 < 0 → post σ) ∧ (¬ r_1 < 0 → vp_in (r_1 / 16) 400 ∧ (((σ 8 (r_1 / 16).toNatClampNeg) = x2 → wp_M_take σ x1 r_1 (fun σ_4 => vp_in (r_1 / 16) 400 ∧ vp_in (r_1 / 16) 400 ∧ ∀ s_5, s_5 = u2 σ_4 11 (r_1 / 16).toNatClampNeg ((σ_4 11 (r_1 / 16).toNatClampNeg) + 1) → ∀ s_6, s_6 = u2 s_5 0 7 ((s_5 0 7) + 1) → vp_in (r_1 / 16) 400 ∧ ((¬ (r_1 - r_1 / 16 * 16) = ((s_6 9 (r_1 / 16).toNatClampNeg) - 1) → post s_6) ∧ ((r_1 - r_1 / 16 * 16) = ((s_6 9 (r_1 / 16).toNatClampNeg) - 1) → vp_in (r_1 / 16) 400 ∧ ∀ s_8, s_8 = u2 s_6 12 (r_1 / 16).toNatClampNeg (s_6 0 5) → ∀ s_9, s_9 = u2 s_8 0 8 ((s_8 0 8) + 1) → post s_9)))) ∧ (¬ (σ 8 (r_1 / 16).toNatClampNeg) = x2 → post σ)))))
def we_M_step_87 (σ : SS) (post : SS → Prop) : Prop :=
  post σ
def we_M_step_81 (σ : SS) (x1 : Int32) (ag : SS → Int32 → Prop) (ex : SS → Int32 → Prop) (post : SS → Prop) : Prop :=
  ag σ (x1 + 1)
def wl_M_step_47 (x1 : Int32) (ex : SS → Int32 → Prop) (post : SS → Prop) : Nat → SS → Int32 → Prop
  | 0, _, _ => False
  | k + 1, σ, x2 =>
    (((16 + (4 * (σ 0 3))) ≤ x2 → ex σ x2) ∧ (¬ (16 + (4 * (σ 0 3))) ≤ x2 → wp_M_isInput σ x2 x1 (fun r_5 => ((r_5 = 0 → wl_M_step_47 x1 ex post k σ (x2 + 1)) ∧ (¬ r_5 = 0 → wp_M_leave σ x2 x1 (fun σ_7 => wl_M_step_47 x1 ex post k σ_7 (x2 + 1)))))))
def wl_M_step_37 (ex : SS → Int32 → Prop) (post : SS → Prop) : Nat → SS → Int32 → Prop
  | 0, _, _ => False
  | k + 1, σ, x1 =>
    (((σ 0 2) ≤ x1 → ex σ x1) ∧ (¬ (σ 0 2) ≤ x1 → (∃ j47, wl_M_step_47 x1 (fun σ' y2 => we_M_step_81 σ' x1 (wl_M_step_37 ex post k) ex post) post j47 σ 0)))
def we_M_step_35 (σ : SS) (post : SS → Prop) : Prop :=
  (∃ j37, wl_M_step_37 (fun σ' y1 => we_M_step_87 σ' post) post j37 σ 0)
def wl_M_step_16 (ex : SS → Int32 → Prop) (post : SS → Prop) : Nat → SS → Int32 → Prop
  | 0, _, _ => False
  | k + 1, σ, x1 =>
    (((σ 0 3) ≤ x1 → ex σ x1) ∧ (¬ (σ 0 3) ≤ x1 → wp_M_move σ x1 (fun σ_9 => wl_M_step_16 ex post k σ_9 (x1 + 1))))
def wp_M_step (σ : SS) (post : SS → Prop) : Prop :=
  ∀ s_1, s_1 = u2 σ 0 5 ((σ 0 5) + 1) → wp_M_ask s_1 (fun σ_2 => (∃ j16, wl_M_step_16 (fun σ' y1 => we_M_step_35 σ' post) post j16 σ_2 0))
def wp_M_isEmpty (σ : SS) (post : Int32 → Prop) : Prop :=
  ((¬ (σ 0 8) = (σ 0 4) → post 0) ∧ ((σ 0 8) = (σ 0 4) → post 1))
def we_M_run_64 (σ : SS) (x2 : Int32) (post : Int32 → SS → Prop) : Prop :=
  post ((σ 0 8) - x2) σ
def wl_M_run_29 (x1 : Int32) (x2 : Int32) (ex : SS → Int32 → Prop) (post : Int32 → SS → Prop) : Nat → SS → Int32 → Prop
  | 0, _, _ => False
  | k + 1, σ, x3 =>
    ((x1 ≤ x3 → ex σ x3) ∧ (¬ x1 ≤ x3 → wp_M_isEmpty σ (fun r_6 => ((r_6 = 0 → wp_M_step σ (fun σ_8 => wl_M_run_29 x1 x2 ex post k σ_8 (x3 + 1))) ∧ (¬ r_6 = 0 → ∀ s_9, s_9 = u2 σ 0 5 ((σ 0 5) + 1) → wl_M_run_29 x1 x2 ex post k s_9 (x3 + 1))))))
def wp_M_run (σ : SS) (x1 : Int32) (post : Int32 → SS → Prop) : Prop :=
  ∀ s_1, s_1 = u2 σ 0 0 0 → wp_M_within s_1 x1 1 2000 (fun r_2 => ((¬ r_2 = 0 → ∀ v_4, v_4 = s_1 0 8 → (∃ j29, wl_M_run_29 x1 v_4 (fun σ' y3 => we_M_run_64 σ' v_4 post) post j29 s_1 0)) ∧ (r_2 = 0 → wp_M_wrong s_1 1 (fun r_10 σ_10 => post r_10 σ_10))))
def wp_M_flitsIn (σ : SS) (x1 : Int32) (x2 : Int32) (post : Int32 → Prop) : Prop :=
  ((¬ x2 = 1 → ((¬ x2 = 2 → vp_in x1 400 ∧ post (σ 11 x1.toNatClampNeg)) ∧ (x2 = 2 → vp_in x1 400 ∧ vp_in x1 400 ∧ post ((σ 10 x1.toNatClampNeg) - (σ 11 x1.toNatClampNeg))))) ∧ (x2 = 1 → vp_in x1 400 ∧ vp_in x1 400 ∧ post ((σ 9 x1.toNatClampNeg) - (σ 10 x1.toNatClampNeg))))
def wp_M_packet (σ : SS) (x1 : Int32) (x2 : Int32) (post : Int32 → SS → Prop) : Prop :=
  ∀ s_1, s_1 = u2 σ 0 0 0 → wp_M_within s_1 x1 0 ((s_1 0 4) - 1) (fun r_2 => ((r_2 = 0 → wp_M_wrong s_1 1 (fun r_4 σ_4 => post r_4 σ_4)) ∧ (¬ r_2 = 0 → wp_M_within s_1 x2 0 3 (fun r_5 => ((¬ r_5 = 0 → ((¬ x2 = 0 → wp_M_flitsIn s_1 x1 x2 (fun r_8 => post r_8 s_1)) ∧ (x2 = 0 → vp_in x1 400 ∧ post (s_1 12 x1.toNatClampNeg) s_1))) ∧ (r_5 = 0 → wp_M_wrong s_1 1 (fun r_9 σ_9 => post r_9 σ_9)))))))
def wp_M_channel (σ : SS) (x1 : Int32) (x2 : Int32) (post : Int32 → SS → Prop) : Prop :=
  ∀ s_1, s_1 = u2 σ 0 0 0 → wp_M_isChannel s_1 x1 (fun r_2 => ((r_2 = 0 → wp_M_wrong s_1 1 (fun r_4 σ_4 => post r_4 σ_4)) ∧ (¬ r_2 = 0 → wp_M_within s_1 x2 0 3 (fun r_5 => ((¬ r_5 = 0 → ((¬ x2 = 2 → ((¬ x2 = 0 → ((¬ x2 = 1 → vp_in x1 160 ∧ post (s_1 16 x1.toNatClampNeg) s_1) ∧ (x2 = 1 → vp_in x1 160 ∧ post (s_1 18 x1.toNatClampNeg) s_1))) ∧ (x2 = 0 → vp_in x1 160 ∧ post (s_1 13 x1.toNatClampNeg) s_1))) ∧ (x2 = 2 → vp_in x1 160 ∧ ((¬ (s_1 13 x1.toNatClampNeg) = 0 → vp_in (4 * x1) 640 ∧ post ((s_1 14 (4 * x1).toNatClampNeg) / 16) s_1) ∧ ((s_1 13 x1.toNatClampNeg) = 0 → post (-1) s_1))))) ∧ (r_5 = 0 → wp_M_wrong s_1 1 (fun r_11 σ_11 => post r_11 σ_11)))))))
def we_M_findLeads_136 (σ : SS) (post : SS → Prop) : Prop :=
  post σ
def we_M_findLeads_130 (σ : SS) (x1 : Int32) (ag : SS → Int32 → Prop) (ex : SS → Int32 → Prop) (post : SS → Prop) : Prop :=
  ag σ (x1 + 1)
def wl_M_findLeads_34 (x1 : Int32) (ex : SS → Int32 → Prop) (post : SS → Prop) : Nat → SS → Int32 → Prop
  | 0, _, _ => False
  | k + 1, σ, x2 =>
    (((σ 0 2) ≤ x2 → ex σ x2) ∧ (¬ (σ 0 2) ≤ x2 → ((¬ x2 = x1 → vp_in ((16 * x2) + x1) 256 ∧ ∀ v_4, v_4 = σ 6 ((16 * x2) + x1).toNatClampNeg → ((0 ≤ v_4 → vp_in (v_4 / 4) 40 ∧ ∀ v_6, v_6 = σ 2 (v_4 / 4).toNatClampNeg → ((¬ v_6 = x1 → vp_in ((16 * v_6) + x1) 256 ∧ ∀ v_8, v_8 = σ 6 ((16 * v_6) + x1).toNatClampNeg → ((v_8 < 0 → wl_M_findLeads_34 x1 ex post k σ (x2 + 1)) ∧ (¬ v_8 < 0 → vp_in ((160 * v_4) + v_8) 25600 ∧ ∀ s_10, s_10 = u2 σ 19 ((160 * v_4) + v_8).toNatClampNeg 1 → wl_M_findLeads_34 x1 ex post k s_10 (x2 + 1)))) ∧ (v_6 = x1 → wl_M_findLeads_34 x1 ex post k σ (x2 + 1)))) ∧ (¬ 0 ≤ v_4 → wl_M_findLeads_34 x1 ex post k σ (x2 + 1)))) ∧ (x2 = x1 → wl_M_findLeads_34 x1 ex post k σ (x2 + 1)))))
def wl_M_findLeads_24 (ex : SS → Int32 → Prop) (post : SS → Prop) : Nat → SS → Int32 → Prop
  | 0, _, _ => False
  | k + 1, σ, x1 =>
    (((σ 0 2) ≤ x1 → ex σ x1) ∧ (¬ (σ 0 2) ≤ x1 → (∃ j34, wl_M_findLeads_34 x1 (fun σ' y2 => we_M_findLeads_130 σ' x1 (wl_M_findLeads_24 ex post k) ex post) post j34 σ 0)))
def we_M_findLeads_22 (σ : SS) (post : SS → Prop) : Prop :=
  (∃ j24, wl_M_findLeads_24 (fun σ' y1 => we_M_findLeads_136 σ' post) post j24 σ 0)
def wl_M_findLeads_2 (ex : SS → Int32 → Prop) (post : SS → Prop) : Nat → SS → Int32 → Prop
  | 0, _, _ => False
  | k + 1, σ, x1 =>
    ((25600 ≤ x1 → ex σ x1) ∧ (¬ 25600 ≤ x1 → vp_in x1 25600 ∧ ∀ s_18, s_18 = u2 σ 19 x1.toNatClampNeg 0 → wl_M_findLeads_2 ex post k s_18 (x1 + 1)))
def wp_M_findLeads (σ : SS) (post : SS → Prop) : Prop :=
  (∃ j2, wl_M_findLeads_2 (fun σ' y1 => we_M_findLeads_22 σ' post) post j2 σ 0)
def we_M_measure_184 (σ : SS) (post : SS → Prop) : Prop :=
  post σ
def we_M_measure_178 (σ : SS) (x1 : Int32) (x2 : Int32) (x3 : Int32) (ag : SS → Int32 → Int32 → Prop) (ex : SS → Int32 → Int32 → Prop) (post : SS → Prop) : Prop :=
  ag σ x2 (x3 + 1)
def we_M_measure_157 (σ : SS) (x1 : Int32) (x2 : Int32) (x3 : Int32) (x4 : Int32) (x5 : Int32) (ag : SS → Int32 → Int32 → Prop) (ex : SS → Int32 → Int32 → Prop) (post : SS → Prop) : Prop :=
  ((x5 = 0 → ag σ x2 (x4 + 1)) ∧ (¬ x5 = 0 → vp_in x4 160 ∧ ∀ s_5, s_5 = u2 σ 20 x4.toNatClampNeg x3 → ag s_5 1 (x4 + 1)))
def wl_M_measure_85 (σ : SS) (x1 : Int32) (x2 : Int32) (x3 : Int32) (x4 : Int32) (ex : Int32 → Int32 → Prop) (post : SS → Prop) : Nat → Int32 → Int32 → Prop
  | 0, _, _ => False
  | k + 1, x5, x6 =>
    ((160 ≤ x6 → ex x5 x6) ∧ (¬ 160 ≤ x6 → ((¬ x5 = 0 → ex x5 x6) ∧ (x5 = 0 → vp_in x4 160 ∧ ((¬ (σ 20 x4.toNatClampNeg) = (-1) → ex x5 x6) ∧ ((σ 20 x4.toNatClampNeg) = (-1) → ((x3 ≤ 1 → ex x5 x6) ∧ (¬ x3 ≤ 1 → vp_in ((160 * x4) + x6) 25600 ∧ (((σ 19 ((160 * x4) + x6).toNatClampNeg) = 0 → wl_M_measure_85 σ x1 x2 x3 x4 ex post k 0 (x6 + 1)) ∧ (¬ (σ 19 ((160 * x4) + x6).toNatClampNeg) = 0 → vp_in x6 160 ∧ ((¬ (σ 20 x6.toNatClampNeg) = (x3 - 1) → wl_M_measure_85 σ x1 x2 x3 x4 ex post k 0 (x6 + 1)) ∧ ((σ 20 x6.toNatClampNeg) = (x3 - 1) → wl_M_measure_85 σ x1 x2 x3 x4 ex post k 1 (x6 + 1)))))))))))))
def wl_M_measure_35 (x1 : Int32) (x3 : Int32) (ex : SS → Int32 → Int32 → Prop) (post : SS → Prop) : Nat → SS → Int32 → Int32 → Prop
  | 0, _, _, _ => False
  | k + 1, σ, x2, x4 =>
    ((160 ≤ x4 → ex σ x2 x4) ∧ (¬ 160 ≤ x4 → vp_in x4 160 ∧ ((¬ (σ 20 x4.toNatClampNeg) = (-1) → (∃ j85, wl_M_measure_85 σ x1 x2 x3 x4 (fun y5 y6 => we_M_measure_157 σ x1 x2 x3 x4 y5 (wl_M_measure_35 x1 x3 ex post k) ex post) post j85 0 0)) ∧ ((σ 20 x4.toNatClampNeg) = (-1) → ((¬ x3 = 1 → (∃ j85, wl_M_measure_85 σ x1 x2 x3 x4 (fun y5 y6 => we_M_measure_157 σ x1 x2 x3 x4 y5 (wl_M_measure_35 x1 x3 ex post k) ex post) post j85 0 0)) ∧ (x3 = 1 → vp_in ((160 * x4) + x1) 25600 ∧ (((σ 19 ((160 * x4) + x1).toNatClampNeg) = 0 → (∃ j85, wl_M_measure_85 σ x1 x2 x3 x4 (fun y5 y6 => we_M_measure_157 σ x1 x2 x3 x4 y5 (wl_M_measure_35 x1 x3 ex post k) ex post) post j85 0 0)) ∧ (¬ (σ 19 ((160 * x4) + x1).toNatClampNeg) = 0 → (∃ j85, wl_M_measure_85 σ x1 x2 x3 x4 (fun y5 y6 => we_M_measure_157 σ x1 x2 x3 x4 y5 (wl_M_measure_35 x1 x3 ex post k) ex post) post j85 1 0)))))))))
def wl_M_measure_26 (x1 : Int32) (ex : SS → Int32 → Int32 → Prop) (post : SS → Prop) : Nat → SS → Int32 → Int32 → Prop
  | 0, _, _, _ => False
  | k + 1, σ, x2, x3 =>
    ((x2 = 0 → ex σ x2 x3) ∧ (¬ x2 = 0 → (∃ j35, wl_M_measure_35 x1 x3 (fun σ' y2 y4 => we_M_measure_178 σ' x1 y2 x3 (wl_M_measure_26 x1 ex post k) ex post) post j35 σ 0 0)))
def we_M_measure_22 (σ : SS) (x1 : Int32) (post : SS → Prop) : Prop :=
  (∃ j26, wl_M_measure_26 x1 (fun σ' y2 y3 => we_M_measure_184 σ' post) post j26 σ 1 1)
def wl_M_measure_2 (x1 : Int32) (ex : SS → Int32 → Prop) (post : SS → Prop) : Nat → SS → Int32 → Prop
  | 0, _, _ => False
  | k + 1, σ, x2 =>
    ((160 ≤ x2 → ex σ x2) ∧ (¬ 160 ≤ x2 → vp_in x2 160 ∧ ∀ s_15, s_15 = u2 σ 20 x2.toNatClampNeg (-1) → wl_M_measure_2 x1 ex post k s_15 (x2 + 1)))
def wp_M_measure (σ : SS) (x1 : Int32) (post : SS → Prop) : Prop :=
  (∃ j2, wl_M_measure_2 x1 (fun σ' y2 => we_M_measure_22 σ' x1 post) post j2 σ 0)
def we_M_findRing_168 (σ : SS) (x1 : Int32) (post : Int32 → SS → Prop) : Prop :=
  post x1 σ
def we_M_findRing_159 (σ : SS) (x1 : Int32) (x2 : Int32) (x4 : Int32) (x5 : Int32) (ag : SS → Int32 → Int32 → Prop) (ex : SS → Int32 → Int32 → Prop) (post : Int32 → SS → Prop) : Prop :=
  ag σ x5 (x4 + 1)
def wl_M_findRing_96 (σ : SS) (x1 : Int32) (x2 : Int32) (x3 : Int32) (x4 : Int32) (ex : Int32 → Prop) (post : Int32 → SS → Prop) : Nat → Int32 → Prop
  | 0, _ => False
  | k + 1, x5 =>
    ((160 ≤ x5 → ex x5) ∧ (¬ 160 ≤ x5 → vp_in ((160 * x3) + x5) 25600 ∧ (((σ 19 ((160 * x3) + x5).toNatClampNeg) = 0 → wl_M_findRing_96 σ x1 x2 x3 x4 ex post k (x5 + 1)) ∧ (¬ (σ 19 ((160 * x3) + x5).toNatClampNeg) = 0 → ((¬ x4 = (x1 - 1) → vp_in x5 160 ∧ (((σ 20 x5.toNatClampNeg) = ((x1 - 1) - x4) → ex x5) ∧ (¬ (σ 20 x5.toNatClampNeg) = ((x1 - 1) - x4) → wl_M_findRing_96 σ x1 x2 x3 x4 ex post k (x5 + 1)))) ∧ (x4 = (x1 - 1) → ((¬ x5 = x2 → wl_M_findRing_96 σ x1 x2 x3 x4 ex post k (x5 + 1)) ∧ (x5 = x2 → ex x5))))))))
def wl_M_findRing_79 (x1 : Int32) (x2 : Int32) (ex : SS → Int32 → Int32 → Prop) (post : Int32 → SS → Prop) : Nat → SS → Int32 → Int32 → Prop
  | 0, _, _, _ => False
  | k + 1, σ, x3, x4 =>
    ((x1 ≤ x4 → ex σ x3 x4) ∧ (¬ x1 ≤ x4 → vp_in x4 160 ∧ ∀ s_5, s_5 = u2 σ 21 x4.toNatClampNeg x3 → (∃ j96, wl_M_findRing_96 s_5 x1 x2 x3 x4 (fun y5 => we_M_findRing_159 s_5 x1 x2 x4 y5 (wl_M_findRing_79 x1 x2 ex post k) ex post) post j96 0)))
def we_M_findRing_63 (σ : SS) (x1 : Int32) (x2 : Int32) (post : Int32 → SS → Prop) : Prop :=
  ((0 ≤ x2 → wp_M_measure σ x2 (fun σ_3 => (∃ j79, wl_M_findRing_79 x1 x2 (fun σ' y3 y4 => we_M_findRing_168 σ' x1 post) post j79 σ_3 x2 0))) ∧ (¬ 0 ≤ x2 → post 0 σ))
def wl_M_findRing_10 (ex : SS → Int32 → Int32 → Int32 → Prop) (post : Int32 → SS → Prop) : Nat → SS → Int32 → Int32 → Int32 → Prop
  | 0, _, _, _, _ => False
  | k + 1, σ, x1, x2, x3 =>
    (((4 * (σ 0 3)) ≤ x3 → ex σ x1 x2 x3) ∧ (¬ (4 * (σ 0 3)) ≤ x3 → wp_M_measure σ x3 (fun σ_12 => vp_in x3 160 ∧ (((σ_12 20 x3.toNatClampNeg) ≤ 0 → wl_M_findRing_10 ex post k σ_12 x1 x2 (x3 + 1)) ∧ (¬ (σ_12 20 x3.toNatClampNeg) ≤ 0 → ((x2 < 0 → vp_in x3 160 ∧ ∀ v_15, v_15 = σ_12 20 x3.toNatClampNeg → wl_M_findRing_10 ex post k σ_12 v_15 x3 (x3 + 1)) ∧ (¬ x2 < 0 → vp_in x3 160 ∧ ((x1 ≤ (σ_12 20 x3.toNatClampNeg) → wl_M_findRing_10 ex post k σ_12 x1 x2 (x3 + 1)) ∧ (¬ x1 ≤ (σ_12 20 x3.toNatClampNeg) → vp_in x3 160 ∧ ∀ v_17, v_17 = σ_12 20 x3.toNatClampNeg → wl_M_findRing_10 ex post k σ_12 v_17 x3 (x3 + 1))))))))))
def wp_M_findRing (σ : SS) (post : Int32 → SS → Prop) : Prop :=
  wp_M_findLeads σ (fun σ_1 => (∃ j10, wl_M_findRing_10 (fun σ' y1 y2 y3 => we_M_findRing_63 σ' y1 y2 post) post j10 σ_1 0 (-1) 0))
def wp_M_ring (σ : SS) (post : Int32 → SS → Prop) : Prop :=
  ∀ s_1, s_1 = u2 σ 0 0 0 → wp_M_findRing s_1 (fun r_2 σ_2 => post r_2 σ_2)
def wp_M_ringAt (σ : SS) (x1 : Int32) (post : Int32 → SS → Prop) : Prop :=
  ∀ s_1, s_1 = u2 σ 0 0 0 → wp_M_findRing s_1 (fun r_2 σ_2 => wp_M_within σ_2 x1 0 (r_2 - 1) (fun r_3 => ((r_3 = 0 → wp_M_wrong σ_2 1 (fun r_5 σ_5 => post r_5 σ_5)) ∧ (¬ r_3 = 0 → vp_in x1 160 ∧ post (σ_2 21 x1.toNatClampNeg) σ_2))))
def we_M_stuck_168 (σ : SS) (x1 : Int32) (post : Int32 → SS → Prop) : Prop :=
  ∀ s_5, s_5 = u2 σ 0 5 ((σ 0 5) - 1) → ((¬ x1 = 0 → post 0 s_5) ∧ (x1 = 0 → post 1 s_5))
def wl_M_stuck_62 (σ : SS) (ex : Int32 → Int32 → Prop) (post : Int32 → SS → Prop) : Nat → Int32 → Int32 → Prop
  | 0, _, _ => False
  | k + 1, x1, x2 =>
    (((16 + (4 * (σ 0 3))) ≤ x2 → ex x1 x2) ∧ (¬ (16 + (4 * (σ 0 3))) ≤ x2 → ((x2 < (σ 0 2) → wp_M_front σ x2 (fun r_10 => ((¬ x1 = 0 → wl_M_stuck_62 σ ex post k 1 (x2 + 1)) ∧ (x1 = 0 → ((r_10 < 0 → wl_M_stuck_62 σ ex post k 0 (x2 + 1)) ∧ (¬ r_10 < 0 → vp_in (r_10 / 16) 400 ∧ wp_M_nodeOf σ x2 (fun r_13 => (((σ 8 (r_10 / 16).toNatClampNeg) = r_13 → wl_M_stuck_62 σ ex post k 1 (x2 + 1)) ∧ (¬ (σ 8 (r_10 / 16).toNatClampNeg) = r_13 → wp_M_wanted σ x2 (fun r_15 => ((r_15 < 0 → wl_M_stuck_62 σ ex post k 0 (x2 + 1)) ∧ (¬ r_15 < 0 → wl_M_stuck_62 σ ex post k 1 (x2 + 1))))))))))))) ∧ (¬ x2 < (σ 0 2) → ((x2 < 16 → ((¬ x1 = 0 → wl_M_stuck_62 σ ex post k 1 (x2 + 1)) ∧ (x1 = 0 → wl_M_stuck_62 σ ex post k 0 (x2 + 1)))) ∧ (¬ x2 < 16 → wp_M_isChannel σ (x2 - 16) (fun r_21 => ((r_21 = 0 → ((¬ x1 = 0 → wl_M_stuck_62 σ ex post k 1 (x2 + 1)) ∧ (x1 = 0 → wl_M_stuck_62 σ ex post k 0 (x2 + 1)))) ∧ (¬ r_21 = 0 → wp_M_front σ x2 (fun r_27 => ((¬ x1 = 0 → wl_M_stuck_62 σ ex post k 1 (x2 + 1)) ∧ (x1 = 0 → ((r_27 < 0 → wl_M_stuck_62 σ ex post k 0 (x2 + 1)) ∧ (¬ r_27 < 0 → vp_in (r_27 / 16) 400 ∧ wp_M_nodeOf σ x2 (fun r_30 => (((σ 8 (r_27 / 16).toNatClampNeg) = r_30 → wl_M_stuck_62 σ ex post k 1 (x2 + 1)) ∧ (¬ (σ 8 (r_27 / 16).toNatClampNeg) = r_30 → wp_M_wanted σ x2 (fun r_32 => ((r_32 < 0 → wl_M_stuck_62 σ ex post k 0 (x2 + 1)) ∧ (¬ r_32 < 0 → wl_M_stuck_62 σ ex post k 1 (x2 + 1)))))))))))))))))))))
def we_M_stuck_60 (σ : SS) (x1 : Int32) (post : Int32 → SS → Prop) : Prop :=
  (∃ j62, wl_M_stuck_62 σ (fun y1 y2 => we_M_stuck_168 σ y1 post) post j62 x1 0)
def wl_M_stuck_28 (σ : SS) (ex : Int32 → Int32 → Prop) (post : Int32 → SS → Prop) : Nat → Int32 → Int32 → Prop
  | 0, _, _ => False
  | k + 1, x1, x2 =>
    (((σ 0 3) ≤ x2 → ex x1 x2) ∧ (¬ (σ 0 3) ≤ x2 → ((¬ x1 = 0 → wl_M_stuck_28 σ ex post k 1 (x2 + 1)) ∧ (x1 = 0 → wp_M_mover σ x2 (fun r_36 => ((r_36 < 0 → wl_M_stuck_28 σ ex post k 0 (x2 + 1)) ∧ (¬ r_36 < 0 → wl_M_stuck_28 σ ex post k 1 (x2 + 1))))))))
def wp_M_stuck (σ : SS) (post : Int32 → SS → Prop) : Prop :=
  ∀ s_1, s_1 = u2 σ 0 0 0 → wp_M_isEmpty s_1 (fun r_2 => ((r_2 = 0 → ∀ s_4, s_4 = u2 s_1 0 5 ((s_1 0 5) + 1) → (∃ j28, wl_M_stuck_28 s_4 (fun y1 y2 => we_M_stuck_60 s_4 y1 post) post j28 0 0)) ∧ (¬ r_2 = 0 → post 0 s_1)))
def we_M_hasWay_55 (σ : SS) (x2 : Int32) (x3 : Int32) (post : Int32 → Prop) : Prop :=
  ((¬ x3 = x2 → post 0) ∧ (x3 = x2 → post 1))
def wl_M_hasWay_5 (σ : SS) (x2 : Int32) (ex : Int32 → Int32 → Prop) (post : Int32 → Prop) : Nat → Int32 → Int32 → Prop
  | 0, _, _ => False
  | k + 1, x3, x4 =>
    (((σ 0 2) ≤ x4 → ex x3 x4) ∧ (¬ (σ 0 2) ≤ x4 → ((x3 = x2 → ex x3 x4) ∧ (¬ x3 = x2 → vp_in ((16 * x3) + x2) 256 ∧ ∀ v_4, v_4 = σ 6 ((16 * x3) + x2).toNatClampNeg → ((0 ≤ v_4 → vp_in (v_4 / 4) 40 ∧ ∀ v_6, v_6 = σ 2 (v_4 / 4).toNatClampNeg → wl_M_hasWay_5 σ x2 ex post k v_6 (x4 + 1)) ∧ (¬ 0 ≤ v_4 → post 0))))))
def wp_M_hasWay (σ : SS) (x1 : Int32) (x2 : Int32) (post : Int32 → Prop) : Prop :=
  (∃ j5, wl_M_hasWay_5 σ x2 (fun y3 y4 => we_M_hasWay_55 σ x2 y3 post) post j5 x1 0)
def we_M_count_200 (σ : SS) (x2 : Int32) (post : Int32 → SS → Prop) : Prop :=
  post x2 σ
def we_M_count_194 (σ : SS) (x2 : Int32) (x3 : Int32) (ag : Int32 → Int32 → Prop) (ex : Int32 → Int32 → Prop) (post : Int32 → SS → Prop) : Prop :=
  ag x2 (x3 + 1)
def wl_M_count_155 (σ : SS) (x3 : Int32) (ex : Int32 → Int32 → Prop) (post : Int32 → SS → Prop) : Nat → Int32 → Int32 → Prop
  | 0, _, _ => False
  | k + 1, x2, x4 =>
    (((σ 0 2) ≤ x4 → ex x2 x4) ∧ (¬ (σ 0 2) ≤ x4 → ((x3 = x4 → ∀ v_12, v_12 = x2 + 0 → wl_M_count_155 σ x3 ex post k v_12 (x4 + 1)) ∧ (¬ x3 = x4 → wp_M_hasWay σ x3 x4 (fun r_13 => ((¬ r_13 = 0 → ∀ v_15, v_15 = x2 + 0 → wl_M_count_155 σ x3 ex post k v_15 (x4 + 1)) ∧ (r_13 = 0 → ∀ v_16, v_16 = x2 + 1 → wl_M_count_155 σ x3 ex post k v_16 (x4 + 1))))))))
def wl_M_count_144 (σ : SS) (ex : Int32 → Int32 → Prop) (post : Int32 → SS → Prop) : Nat → Int32 → Int32 → Prop
  | 0, _, _ => False
  | k + 1, x2, x3 =>
    (((σ 0 2) ≤ x3 → ex x2 x3) ∧ (¬ (σ 0 2) ≤ x3 → (∃ j155, wl_M_count_155 σ x3 (fun y2 y4 => we_M_count_194 σ y2 x3 (wl_M_count_144 σ ex post k) ex post) post j155 x2 0)))
def we_M_count_139 (σ : SS) (x2 : Int32) (post : Int32 → SS → Prop) : Prop :=
  post x2 σ
def wl_M_count_114 (σ : SS) (x1 : Int32) (ex : Int32 → Int32 → Prop) (post : Int32 → SS → Prop) : Nat → Int32 → Int32 → Prop
  | 0, _, _ => False
  | k + 1, x2, x3 =>
    (((σ 0 4) ≤ x3 → ex x2 x3) ∧ (¬ (σ 0 4) ≤ x3 → wp_M_flitsIn σ x3 (x1 - 4) (fun r_18 => ∀ v_19, v_19 = x2 + r_18 → wl_M_count_114 σ x1 ex post k v_19 (x3 + 1))))
def wp_M_count (σ : SS) (x1 : Int32) (post : Int32 → SS → Prop) : Prop :=
  ∀ s_1, s_1 = u2 σ 0 0 0 → wp_M_within s_1 x1 0 9 (fun r_2 => ((¬ r_2 = 0 → ((5 ≤ x1 → ((x1 = 7 → ((¬ x1 = 7 → post (s_1 0 7) s_1) ∧ (x1 = 7 → post (s_1 0 6) s_1))) ∧ (¬ x1 = 7 → ((¬ x1 = 8 → ((7 ≤ x1 → (∃ j144, wl_M_count_144 s_1 (fun y2 y3 => we_M_count_200 s_1 y2 post) post j144 0 0)) ∧ (¬ 7 ≤ x1 → (∃ j114, wl_M_count_114 s_1 x1 (fun y2 y3 => we_M_count_139 s_1 y2 post) post j114 0 0)))) ∧ (x1 = 8 → ((¬ x1 = 7 → post (s_1 0 7) s_1) ∧ (x1 = 7 → post (s_1 0 6) s_1))))))) ∧ (¬ 5 ≤ x1 → ((¬ x1 = 0 → ((¬ x1 = 1 → ((¬ x1 = 2 → ((¬ x1 = 3 → post (s_1 0 5) s_1) ∧ (x1 = 3 → post (s_1 0 8) s_1))) ∧ (x1 = 2 → post (s_1 0 4) s_1))) ∧ (x1 = 1 → post (s_1 0 3) s_1))) ∧ (x1 = 0 → post (s_1 0 2) s_1))))) ∧ (r_2 = 0 → post (-1) s_1)))
