def zp_M_thrown (B : AA) (post : Int → Prop) : Prop :=
  post (B 0 0)
def zp_M_wrong (B : AA) (x1 : Int) (post : Int → AA → Prop) : Prop :=
  ∀ S_1, S_1 = zU B 0 0 x1 → post 0 S_1
def zp_M_within (B : AA) (x0 : Int) (x1 : Int) (x2 : Int) (post : Int → Prop) : Prop :=
  rg x0 ∧ rg x1 ∧ ((x0 < x1 → post 0) ∧ (¬ x0 < x1 → rg x0 ∧ rg x2 ∧ ((x2 < x0 → post 0) ∧ (¬ x2 < x0 → post 1))))
def zp_M_isNode (B : AA) (x1 : Int) (post : Int → Prop) : Prop :=
  zp_M_within B x1 0 ((B 0 2) - 1) (fun r_1 => ((r_1 = 0 ∨ r_1 = 1) ∧ post r_1))
def zp_M_isChannel (B : AA) (x1 : Int) (post : Int → Prop) : Prop :=
  zp_M_within B x1 0 ((4 * (B 0 3)) - 1) (fun r_1 => rg r_1 ∧ ((r_1 = 0 → post 0) ∧ (¬ r_1 = 0 → rn x1 ∧ rn x1 ∧ (0 ≤ (x1 / 4) ∧ (x1 / 4) < 40) ∧ rg (x1 % 4) ∧ rg (B 3 (x1 / 4).toNat) ∧ (((B 3 (x1 / 4).toNat) ≤ (x1 % 4) → post 0) ∧ (¬ (B 3 (x1 / 4).toNat) ≤ (x1 % 4) → post 1)))))
def zp_M_node (B : AA) (post : Int → AA → Prop) : Prop :=
  ∀ S_1, S_1 = zU B 0 0 0 → rg (S_1 0 2) ∧ ((¬ (S_1 0 2) = 16 → ∀ S_4, S_4 = zU S_1 0 2 ((S_1 0 2) + 1) → post ((S_4 0 2) - 1) S_4) ∧ ((S_1 0 2) = 16 → zp_M_wrong S_1 1 (fun r_5 S_5 => post r_5 S_5)))
def zp_M_link (B : AA) (x1 : Int) (x2 : Int) (x3 : Int) (post : Int → AA → Prop) : Prop :=
  ∀ S_1, S_1 = zU B 0 0 0 → zp_M_isNode S_1 x1 (fun r_2 => rg r_2 ∧ ((r_2 = 0 → zp_M_wrong S_1 1 (fun r_5 S_5 => post r_5 S_5)) ∧ (¬ r_2 = 0 → zp_M_isNode S_1 x2 (fun r_6 => rg r_6 ∧ ((r_6 = 0 → zp_M_wrong S_1 1 (fun r_9 S_9 => post r_9 S_9)) ∧ (¬ r_6 = 0 → rg x1 ∧ rg x2 ∧ ((x1 = x2 → zp_M_wrong S_1 1 (fun r_13 S_13 => post r_13 S_13)) ∧ (¬ x1 = x2 → zp_M_within S_1 x3 1 4 (fun r_14 => rg r_14 ∧ ((¬ r_14 = 0 → rg (S_1 0 3) ∧ ((¬ (S_1 0 3) = 40 → (0 ≤ (S_1 0 3) ∧ (S_1 0 3) < 40) ∧ ∀ S_20, S_20 = zU S_1 1 (S_1 0 3).toNat x1 → (0 ≤ (S_20 0 3) ∧ (S_20 0 3) < 40) ∧ ∀ S_22, S_22 = zU S_20 2 (S_20 0 3).toNat x2 → (0 ≤ (S_22 0 3) ∧ (S_22 0 3) < 40) ∧ ∀ S_24, S_24 = zU S_22 3 (S_22 0 3).toNat x3 → ∀ S_25, S_25 = zU S_24 0 3 ((S_24 0 3) + 1) → post ((S_25 0 3) - 1) S_25) ∧ ((S_1 0 3) = 40 → zp_M_wrong S_1 2 (fun r_26 S_26 => post r_26 S_26)))) ∧ (r_14 = 0 → zp_M_wrong S_1 1 (fun r_27 S_27 => post r_27 S_27))))))))))))
def zp_M_route (B : AA) (x1 : Int) (x2 : Int) (x3 : Int) (post : Int → AA → Prop) : Prop :=
  ∀ S_1, S_1 = zU B 0 0 0 → zp_M_isNode S_1 x1 (fun r_2 => rg r_2 ∧ ((r_2 = 0 → zp_M_wrong S_1 1 (fun r_5 S_5 => post r_5 S_5)) ∧ (¬ r_2 = 0 → zp_M_isNode S_1 x2 (fun r_6 => rg r_6 ∧ ((r_6 = 0 → zp_M_wrong S_1 1 (fun r_9 S_9 => post r_9 S_9)) ∧ (¬ r_6 = 0 → rg x1 ∧ rg x2 ∧ ((¬ x1 = x2 → rg x3 ∧ ((x3 = (-1) → (0 ≤ ((16 * x1) + x2) ∧ ((16 * x1) + x2) < 256) ∧ ∀ v_16, v_16 = S_1 6 ((16 * x1) + x2).toNat → (0 ≤ ((16 * x1) + x2) ∧ ((16 * x1) + x2) < 256) ∧ ∀ S_18, S_18 = zU S_1 6 ((16 * x1) + x2).toNat x3 → post v_16 S_18) ∧ (¬ x3 = (-1) → zp_M_isChannel S_1 x3 (fun r_19 => rg r_19 ∧ ((r_19 = 0 → zp_M_wrong S_1 1 (fun r_22 S_22 => post r_22 S_22)) ∧ (¬ r_19 = 0 → rn x3 ∧ (0 ≤ (x3 / 4) ∧ (x3 / 4) < 40) ∧ rg (S_1 1 (x3 / 4).toNat) ∧ rg x1 ∧ ((¬ (S_1 1 (x3 / 4).toNat) = x1 → zp_M_wrong S_1 1 (fun r_28 S_28 => post r_28 S_28)) ∧ ((S_1 1 (x3 / 4).toNat) = x1 → rn x3 ∧ (0 ≤ (x3 / 4) ∧ (x3 / 4) < 40) ∧ rg (S_1 4 (x3 / 4).toNat) ∧ (((S_1 4 (x3 / 4).toNat) = 0 → (0 ≤ ((16 * x1) + x2) ∧ ((16 * x1) + x2) < 256) ∧ ∀ v_34, v_34 = S_1 6 ((16 * x1) + x2).toNat → (0 ≤ ((16 * x1) + x2) ∧ ((16 * x1) + x2) < 256) ∧ ∀ S_36, S_36 = zU S_1 6 ((16 * x1) + x2).toNat x3 → post v_34 S_36) ∧ (¬ (S_1 4 (x3 / 4).toNat) = 0 → zp_M_wrong S_1 1 (fun r_37 S_37 => post r_37 S_37))))))))))) ∧ (x1 = x2 → zp_M_wrong S_1 1 (fun r_38 S_38 => post r_38 S_38)))))))))
def ze_M_routes_182 (B : AA) (x2 : Int) (post : Int → AA → Prop) : Prop :=
  post x2 B
def ze_M_routes_176 (B : AA) (x1 : Int) (x2 : Int) (x3 : Int) (ag : AA → Int → Int → Prop) (ex : AA → Int → Int → Prop) (post : Int → AA → Prop) : Prop :=
  ag B x2 (x3 + 1)
def zl_M_routes_74 (x1 : Int) (x3 : Int) (ex : AA → Int → Int → Prop) (post : Int → AA → Prop) : Nat → AA → Int → Int → Prop
  | 0, _, _, _ => False
  | k + 1, B, x2, x4 =>
    rg x4 ∧ rg (B 0 3) ∧ (((B 0 3) ≤ x4 → ex B x2 x4) ∧ (¬ (B 0 3) ≤ x4 → (0 ≤ x4 ∧ x4 < 40) ∧ ∀ v_11, v_11 = B 1 x4.toNat → (0 ≤ x4 ∧ x4 < 40) ∧ rg (B 4 x4.toNat) ∧ ((¬ (B 4 x4.toNat) = 0 → zl_M_routes_74 x1 x3 ex post k B x2 (x4 + 1)) ∧ ((B 4 x4.toNat) = 0 → (0 ≤ x4 ∧ x4 < 40) ∧ (0 ≤ (B 2 x4.toNat) ∧ (B 2 x4.toNat) < 160) ∧ rg (B 20 (B 2 x4.toNat).toNat) ∧ rg (x3 - 1) ∧ ((¬ (B 20 (B 2 x4.toNat).toNat) = (x3 - 1) → zl_M_routes_74 x1 x3 ex post k B x2 (x4 + 1)) ∧ ((B 20 (B 2 x4.toNat).toNat) = (x3 - 1) → (0 ≤ v_11 ∧ v_11 < 160) ∧ rg (B 20 v_11.toNat) ∧ ((¬ (B 20 v_11.toNat) = (-1) → zl_M_routes_74 x1 x3 ex post k B x2 (x4 + 1)) ∧ ((B 20 v_11.toNat) = (-1) → (0 ≤ v_11 ∧ v_11 < 160) ∧ ∀ S_24, S_24 = zU B 20 v_11.toNat x3 → (0 ≤ ((16 * v_11) + x1) ∧ ((16 * v_11) + x1) < 256) ∧ ∀ S_26, S_26 = zU S_24 6 ((16 * v_11) + x1).toNat (4 * x4) → zl_M_routes_74 x1 x3 ex post k S_26 (x2 + 1) (x4 + 1)))))))))
def zl_M_routes_65 (x1 : Int) (ex : AA → Int → Int → Prop) (post : Int → AA → Prop) : Nat → AA → Int → Int → Prop
  | 0, _, _, _ => False
  | k + 1, B, x2, x3 =>
    rg x3 ∧ ((16 < x3 → ex B x2 x3) ∧ (¬ 16 < x3 → (∃ j74, zl_M_routes_74 x1 x3 (fun B' y2 y4 => ze_M_routes_176 B' x1 y2 x3 (zl_M_routes_65 x1 ex post k) ex post) post j74 B x2 0)))
def ze_M_routes_61 (B : AA) (x1 : Int) (post : Int → AA → Prop) : Prop :=
  (∃ j65, zl_M_routes_65 x1 (fun B' y2 y3 => ze_M_routes_182 B' y2 post) post j65 B 0 1)
def zl_M_routes_21 (x1 : Int) (ex : AA → Int → Prop) (post : Int → AA → Prop) : Nat → AA → Int → Prop
  | 0, _, _ => False
  | k + 1, B, x2 =>
    rg x2 ∧ ((16 ≤ x2 → ex B x2) ∧ (¬ 16 ≤ x2 → rg x2 ∧ rg x1 ∧ ((¬ x2 = x1 → (0 ≤ x2 ∧ x2 < 160) ∧ ∀ S_35, S_35 = zU B 20 x2.toNat (-1) → (0 ≤ ((16 * x2) + x1) ∧ ((16 * x2) + x1) < 256) ∧ ∀ S_37, S_37 = zU S_35 6 ((16 * x2) + x1).toNat (-1) → zl_M_routes_21 x1 ex post k S_37 (x2 + 1)) ∧ (x2 = x1 → (0 ≤ x2 ∧ x2 < 160) ∧ ∀ S_39, S_39 = zU B 20 x2.toNat 0 → (0 ≤ ((16 * x2) + x1) ∧ ((16 * x2) + x1) < 256) ∧ ∀ S_41, S_41 = zU S_39 6 ((16 * x2) + x1).toNat (-1) → zl_M_routes_21 x1 ex post k S_41 (x2 + 1)))))
def zp_M_routes (B : AA) (x1 : Int) (post : Int → AA → Prop) : Prop :=
  ∀ S_1, S_1 = zU B 0 0 0 → zp_M_isNode S_1 x1 (fun r_2 => rg r_2 ∧ ((¬ r_2 = 0 → (∃ j21, zl_M_routes_21 x1 (fun B' y2 => ze_M_routes_61 B' x1 post) post j21 S_1 0)) ∧ (r_2 = 0 → zp_M_wrong S_1 1 (fun r_43 S_43 => post r_43 S_43))))
def ze_M_fail_89 (B : AA) (x2 : Int) (post : Int → AA → Prop) : Prop :=
  post x2 B
def zl_M_fail_45 (x1 : Int) (ex : AA → Int → Int → Prop) (post : Int → AA → Prop) : Nat → AA → Int → Int → Prop
  | 0, _, _, _ => False
  | k + 1, B, x2, x3 =>
    rg x3 ∧ ((256 ≤ x3 → ex B x2 x3) ∧ (¬ 256 ≤ x3 → (0 ≤ x3 ∧ x3 < 256) ∧ rg (B 6 x3.toNat) ∧ (((B 6 x3.toNat) < 0 → zl_M_fail_45 x1 ex post k B x2 (x3 + 1)) ∧ (¬ (B 6 x3.toNat) < 0 → (0 ≤ x3 ∧ x3 < 256) ∧ rn (B 6 x3.toNat) ∧ rg ((B 6 x3.toNat) / 4) ∧ rg x1 ∧ ((¬ ((B 6 x3.toNat) / 4) = x1 → zl_M_fail_45 x1 ex post k B x2 (x3 + 1)) ∧ (((B 6 x3.toNat) / 4) = x1 → (0 ≤ x3 ∧ x3 < 256) ∧ ∀ S_22, S_22 = zU B 6 x3.toNat (-1) → zl_M_fail_45 x1 ex post k S_22 (x2 + 1) (x3 + 1)))))))
def zp_M_fail (B : AA) (x1 : Int) (post : Int → AA → Prop) : Prop :=
  ∀ S_1, S_1 = zU B 0 0 0 → zp_M_within S_1 x1 0 ((S_1 0 3) - 1) (fun r_2 => rg r_2 ∧ ((r_2 = 0 → zp_M_wrong S_1 1 (fun r_5 S_5 => post r_5 S_5)) ∧ (¬ r_2 = 0 → (0 ≤ x1 ∧ x1 < 40) ∧ rg (S_1 4 x1.toNat) ∧ (((S_1 4 x1.toNat) = 0 → (0 ≤ x1 ∧ x1 < 40) ∧ ∀ S_10, S_10 = zU S_1 4 x1.toNat 1 → (∃ j45, zl_M_fail_45 x1 (fun B' y2 y3 => ze_M_fail_89 B' y2 post) post j45 S_10 0 0)) ∧ (¬ (S_1 4 x1.toNat) = 0 → zp_M_wrong S_1 1 (fun r_24 S_24 => post r_24 S_24))))))
def zp_M_add (B : AA) (x1 : Int) (x2 : Int) (x3 : Int) (post : Int → AA → Prop) : Prop :=
  ∀ v_1, v_1 = B 0 4 → (0 ≤ v_1 ∧ v_1 < 400) ∧ ∀ S_3, S_3 = zU B 7 v_1.toNat x1 → (0 ≤ v_1 ∧ v_1 < 400) ∧ ∀ S_5, S_5 = zU S_3 8 v_1.toNat x2 → (0 ≤ v_1 ∧ v_1 < 400) ∧ ∀ S_7, S_7 = zU S_5 9 v_1.toNat x3 → ∀ S_8, S_8 = zU S_7 0 4 ((S_7 0 4) + 1) → post v_1 S_8
def zp_M_send (B : AA) (x1 : Int) (x2 : Int) (x3 : Int) (post : Int → AA → Prop) : Prop :=
  ∀ S_1, S_1 = zU B 0 0 0 → zp_M_isNode S_1 x1 (fun r_2 => rg r_2 ∧ ((r_2 = 0 → zp_M_wrong S_1 1 (fun r_5 S_5 => post r_5 S_5)) ∧ (¬ r_2 = 0 → zp_M_isNode S_1 x2 (fun r_6 => rg r_6 ∧ ((r_6 = 0 → zp_M_wrong S_1 1 (fun r_9 S_9 => post r_9 S_9)) ∧ (¬ r_6 = 0 → zp_M_within S_1 x3 1 16 (fun r_10 => rg r_10 ∧ ((¬ r_10 = 0 → rg (S_1 0 4) ∧ ((¬ (S_1 0 4) = 400 → zp_M_add S_1 x1 x2 x3 (fun r_15 S_15 => post r_15 S_15)) ∧ ((S_1 0 4) = 400 → zp_M_wrong S_1 2 (fun r_16 S_16 => post r_16 S_16)))) ∧ (r_10 = 0 → zp_M_wrong S_1 1 (fun r_17 S_17 => post r_17 S_17))))))))))
def zp_M_draw (B : AA) (post : Int → AA → Prop) : Prop :=
  ∀ S_1, S_1 = zU B 0 1 (((1103515245 * (B 0 1)) + 12345) % 2147483648) → rn (S_1 0 1) ∧ post ((S_1 0 1) / 65536) S_1
def ze_M_load_103 (B : AA) (post : Int → AA → Prop) : Prop :=
  post ((B 0 4) - 1) B
def zl_M_load_54 (x1 : Int) (ex : AA → Int → Prop) (post : Int → AA → Prop) : Nat → AA → Int → Prop
  | 0, _, _ => False
  | k + 1, B, x2 =>
    rg x2 ∧ rg x1 ∧ ((x1 ≤ x2 → ex B x2) ∧ (¬ x1 ≤ x2 → zp_M_draw B (fun r_12 S_12 => rn r_12 ∧ (0 < (S_12 0 2) ∧ (S_12 0 2) < 2147483648) ∧ ∀ v_14, v_14 = r_12 % (S_12 0 2) → zp_M_draw S_12 (fun r_15 S_15 => rn r_15 ∧ (0 < (S_15 0 2) ∧ (S_15 0 2) < 2147483648) ∧ ∀ v_17, v_17 = r_15 % (S_15 0 2) → zp_M_draw S_15 (fun r_18 S_18 => rn r_18 ∧ zp_M_add S_18 v_14 v_17 (1 + (r_18 % 8)) (fun r_20 S_20 => zl_M_load_54 x1 ex post k S_20 (x2 + 1)))))))
def zp_M_load (B : AA) (x1 : Int) (post : Int → AA → Prop) : Prop :=
  ∀ S_1, S_1 = zU B 0 0 0 → zp_M_within S_1 x1 1 50 (fun r_2 => rg r_2 ∧ ((¬ r_2 = 0 → rg (S_1 0 2) ∧ ((¬ (S_1 0 2) = 0 → rg ((S_1 0 4) + x1) ∧ ((((S_1 0 4) + x1) ≤ 400 → (∃ j54, zl_M_load_54 x1 (fun B' y2 => ze_M_load_103 B' post) post j54 S_1 0)) ∧ (¬ ((S_1 0 4) + x1) ≤ 400 → zp_M_wrong S_1 3 (fun r_22 S_22 => post r_22 S_22)))) ∧ ((S_1 0 2) = 0 → zp_M_wrong S_1 2 (fun r_23 S_23 => post r_23 S_23)))) ∧ (r_2 = 0 → zp_M_wrong S_1 1 (fun r_24 S_24 => post r_24 S_24))))
def ze_M_front_89 (B : AA) (x2 : Int) (post : Int → Prop) : Prop :=
  rg x2 ∧ rg (B 0 4) ∧ (((B 0 4) ≤ x2 → post (-1)) ∧ (¬ (B 0 4) ≤ x2 → (0 ≤ x2 ∧ x2 < 400) ∧ post ((16 * x2) + (B 10 x2.toNat))))
def zl_M_front_50 (B : AA) (x1 : Int) (ex : Int → Prop) (post : Int → Prop) : Nat → Int → Prop
  | 0, _ => False
  | k + 1, x2 =>
    rg x2 ∧ rg (B 0 4) ∧ (((B 0 4) ≤ x2 → ex x2) ∧ (¬ (B 0 4) ≤ x2 → (0 ≤ x2 ∧ x2 < 400) ∧ rg (B 7 x2.toNat) ∧ rg x1 ∧ ((¬ (B 7 x2.toNat) = x1 → zl_M_front_50 B x1 ex post k (x2 + 1)) ∧ ((B 7 x2.toNat) = x1 → (0 ≤ x2 ∧ x2 < 400) ∧ (0 ≤ x2 ∧ x2 < 400) ∧ rg (B 10 x2.toNat) ∧ rg (B 9 x2.toNat) ∧ ((¬ (B 10 x2.toNat) = (B 9 x2.toNat) → ex x2) ∧ ((B 10 x2.toNat) = (B 9 x2.toNat) → zl_M_front_50 B x1 ex post k (x2 + 1)))))))
def zp_M_front (B : AA) (x1 : Int) (post : Int → Prop) : Prop :=
  rg x1 ∧ ((x1 < 16 → (∃ j50, zl_M_front_50 B x1 (fun y2 => ze_M_front_89 B y2 post) post j50 0)) ∧ (¬ x1 < 16 → ∀ v_20, v_20 = x1 - 16 → (0 ≤ v_20 ∧ v_20 < 160) ∧ rg (B 13 v_20.toNat) ∧ (((B 13 v_20.toNat) = 0 → post (-1)) ∧ (¬ (B 13 v_20.toNat) = 0 → (0 ≤ (4 * v_20) ∧ (4 * v_20) < 640) ∧ rg (B 15 (4 * v_20).toNat) ∧ rg (B 0 5) ∧ ((¬ (B 15 (4 * v_20).toNat) = (B 0 5) → (0 ≤ (4 * v_20) ∧ (4 * v_20) < 640) ∧ post (B 14 (4 * v_20).toNat)) ∧ ((B 15 (4 * v_20).toNat) = (B 0 5) → post (-1)))))))
def ze_M_take_103 (B : AA) (post : AA → Prop) : Prop :=
  post B
def zl_M_take_38 (x3 : Int) (ex : AA → Int → Prop) (post : AA → Prop) : Nat → AA → Int → Prop
  | 0, _, _ => False
  | k + 1, B, x4 =>
    (0 ≤ x3 ∧ x3 < 160) ∧ rg x4 ∧ rg (B 13 x3.toNat) ∧ (((B 13 x3.toNat) ≤ x4 → ex B x4) ∧ (¬ (B 13 x3.toNat) ≤ x4 → (0 ≤ (((4 * x3) + x4) + 1) ∧ (((4 * x3) + x4) + 1) < 640) ∧ (0 ≤ ((4 * x3) + x4) ∧ ((4 * x3) + x4) < 640) ∧ ∀ S_13, S_13 = zU B 14 ((4 * x3) + x4).toNat (B 14 (((4 * x3) + x4) + 1).toNat) → (0 ≤ (((4 * x3) + x4) + 1) ∧ (((4 * x3) + x4) + 1) < 640) ∧ (0 ≤ ((4 * x3) + x4) ∧ ((4 * x3) + x4) < 640) ∧ ∀ S_16, S_16 = zU S_13 15 ((4 * x3) + x4).toNat (S_13 15 (((4 * x3) + x4) + 1).toNat) → zl_M_take_38 x3 ex post k S_16 (x4 + 1)))
def zp_M_take (B : AA) (x1 : Int) (x2 : Int) (post : AA → Prop) : Prop :=
  rg x1 ∧ ((16 ≤ x1 → ∀ v_3, v_3 = x1 - 16 → (0 ≤ v_3 ∧ v_3 < 160) ∧ (0 ≤ v_3 ∧ v_3 < 160) ∧ ∀ S_6, S_6 = zU B 13 v_3.toNat ((B 13 v_3.toNat) - 1) → (∃ j38, zl_M_take_38 v_3 (fun B' y4 => ze_M_take_103 B' post) post j38 S_6 0)) ∧ (¬ 16 ≤ x1 → rn x2 ∧ (0 ≤ (x2 / 16) ∧ (x2 / 16) < 400) ∧ (0 ≤ (x2 / 16) ∧ (x2 / 16) < 400) ∧ ∀ S_21, S_21 = zU B 10 (x2 / 16).toNat ((B 10 (x2 / 16).toNat) + 1) → post S_21))
def zp_M_nodeOf (B : AA) (x1 : Int) (post : Int → Prop) : Prop :=
  rg x1 ∧ ((16 ≤ x1 → rn (x1 - 16) ∧ (0 ≤ ((x1 - 16) / 4) ∧ ((x1 - 16) / 4) < 40) ∧ post (B 2 ((x1 - 16) / 4).toNat)) ∧ (¬ 16 ≤ x1 → post x1))
def zp_M_isInput (B : AA) (x1 : Int) (x2 : Int) (post : Int → Prop) : Prop :=
  rg x1 ∧ ((16 ≤ x1 → zp_M_isChannel B (x1 - 16) (fun r_3 => rg r_3 ∧ ((r_3 = 0 → post 0) ∧ (¬ r_3 = 0 → zp_M_nodeOf B x1 (fun r_6 => rg r_6 ∧ rg x2 ∧ ((¬ r_6 = x2 → post 0) ∧ (r_6 = x2 → post 1))))))) ∧ (¬ 16 ≤ x1 → rg x1 ∧ rg x2 ∧ ((¬ x1 = x2 → post 0) ∧ (x1 = x2 → post 1))))
def ze_M_holds_40 (B : AA) (x2 : Int) (post : Int → Prop) : Prop :=
  ((x2 = 0 ∨ x2 = 1) ∧ post x2)
def zl_M_holds_4 (B : AA) (x1 : Int) (ex : Int → Int → Prop) (post : Int → Prop) : Nat → Int → Int → Prop
  | 0, _, _ => False
  | k + 1, x2, x3 =>
    rg x3 ∧ rg (4 * (B 0 3)) ∧ (((4 * (B 0 3)) ≤ x3 → ex x2 x3) ∧ (¬ (4 * (B 0 3)) ≤ x3 → rg x2 ∧ ((¬ x2 = 0 → zl_M_holds_4 B x1 ex post k 1 (x3 + 1)) ∧ (x2 = 0 → (0 ≤ x3 ∧ x3 < 160) ∧ rg (B 17 x3.toNat) ∧ rg x1 ∧ ((¬ (B 17 x3.toNat) = x1 → zl_M_holds_4 B x1 ex post k 0 (x3 + 1)) ∧ ((B 17 x3.toNat) = x1 → zl_M_holds_4 B x1 ex post k 1 (x3 + 1)))))))
def zp_M_holds (B : AA) (x1 : Int) (post : Int → Prop) : Prop :=
  (∃ j4, zl_M_holds_4 B x1 (fun y2 y3 => ze_M_holds_40 B y2 post) post j4 0 0)
def zp_M_wanted (B : AA) (x1 : Int) (post : Int → Prop) : Prop :=
  zp_M_front B x1 (fun r_1 => zp_M_nodeOf B x1 (fun r_2 => rg r_1 ∧ ((r_1 < 0 → post (-1)) ∧ (¬ r_1 < 0 → rn r_1 ∧ rg (r_1 % 16) ∧ ((0 < (r_1 % 16) → post (-1)) ∧ (¬ 0 < (r_1 % 16) → rn r_1 ∧ (0 ≤ (r_1 / 16) ∧ (r_1 / 16) < 400) ∧ rg (B 8 (r_1 / 16).toNat) ∧ rg r_2 ∧ (((B 8 (r_1 / 16).toNat) = r_2 → post (-1)) ∧ (¬ (B 8 (r_1 / 16).toNat) = r_2 → zp_M_holds B x1 (fun r_13 => rg r_13 ∧ ((r_13 = 0 → rn r_1 ∧ (0 ≤ (r_1 / 16) ∧ (r_1 / 16) < 400) ∧ (0 ≤ ((16 * r_2) + (B 8 (r_1 / 16).toNat)) ∧ ((16 * r_2) + (B 8 (r_1 / 16).toNat)) < 256) ∧ ∀ v_19, v_19 = B 6 ((16 * r_2) + (B 8 (r_1 / 16).toNat)).toNat → rg v_19 ∧ ((v_19 < 0 → post (-1)) ∧ (¬ v_19 < 0 → rn v_19 ∧ (0 ≤ (v_19 / 4) ∧ (v_19 / 4) < 40) ∧ rg (B 4 (v_19 / 4).toNat) ∧ ((¬ (B 4 (v_19 / 4).toNat) = 0 → post (-1)) ∧ ((B 4 (v_19 / 4).toNat) = 0 → (0 ≤ v_19 ∧ v_19 < 160) ∧ rg (B 17 v_19.toNat) ∧ ((¬ (B 17 v_19.toNat) = (-1) → post (-1)) ∧ ((B 17 v_19.toNat) = (-1) → post v_19))))))) ∧ (¬ r_13 = 0 → post (-1))))))))))))
def ze_M_ask_81 (B : AA) (post : AA → Prop) : Prop :=
  post B
def ze_M_ask_75 (B : AA) (x1 : Int) (ag : AA → Int → Prop) (ex : AA → Int → Prop) (post : AA → Prop) : Prop :=
  ag B (x1 + 1)
def zl_M_ask_12 (x1 : Int) (ex : AA → Int → Prop) (post : AA → Prop) : Nat → AA → Int → Prop
  | 0, _, _ => False
  | k + 1, B, x2 =>
    rg x2 ∧ rg (16 + (4 * (B 0 3))) ∧ (((16 + (4 * (B 0 3))) ≤ x2 → ex B x2) ∧ (¬ (16 + (4 * (B 0 3))) ≤ x2 → zp_M_isInput B x2 x1 (fun r_7 => rg r_7 ∧ ((r_7 = 0 → zl_M_ask_12 x1 ex post k B (x2 + 1)) ∧ (¬ r_7 = 0 → zp_M_wanted B x2 (fun r_10 => rg r_10 ∧ ((r_10 < 0 → zl_M_ask_12 x1 ex post k B (x2 + 1)) ∧ (¬ r_10 < 0 → (0 ≤ r_10 ∧ r_10 < 160) ∧ ∀ S_14, S_14 = zU B 17 r_10.toNat x2 → zp_M_front S_14 x2 (fun r_15 => rn r_15 ∧ (0 ≤ r_10 ∧ r_10 < 160) ∧ ∀ S_18, S_18 = zU S_14 18 r_10.toNat (r_15 / 16) → zl_M_ask_12 x1 ex post k S_18 (x2 + 1))))))))))
def zl_M_ask_2 (ex : AA → Int → Prop) (post : AA → Prop) : Nat → AA → Int → Prop
  | 0, _, _ => False
  | k + 1, B, x1 =>
    rg x1 ∧ rg (B 0 2) ∧ (((B 0 2) ≤ x1 → ex B x1) ∧ (¬ (B 0 2) ≤ x1 → (∃ j12, zl_M_ask_12 x1 (fun B' y2 => ze_M_ask_75 B' x1 (zl_M_ask_2 ex post k) ex post) post j12 B 0)))
def zp_M_ask (B : AA) (post : AA → Prop) : Prop :=
  (∃ j2, zl_M_ask_2 (fun B' y1 => ze_M_ask_81 B' post) post j2 B 0)
def ze_M_mover_72 (B : AA) (post : Int → Prop) : Prop :=
  post (-1)
def zl_M_mover_2 (B : AA) (x1 : Int) (ex : Int → Prop) (post : Int → Prop) : Nat → Int → Prop
  | 0, _ => False
  | k + 1, x2 =>
    rg x2 ∧ ((4 < x2 → ex x2) ∧ (¬ 4 < x2 → (0 ≤ x1 ∧ x1 < 40) ∧ rn (((B 5 x1.toNat) + x2) + 4) ∧ ∀ v_5, v_5 = (4 * x1) + ((((B 5 x1.toNat) + x2) + 4) % 4) → zp_M_isChannel B v_5 (fun r_6 => rg r_6 ∧ ((r_6 = 0 → zl_M_mover_2 B x1 ex post k (x2 + 1)) ∧ (¬ r_6 = 0 → (0 ≤ v_5 ∧ v_5 < 160) ∧ rg (B 17 v_5.toNat) ∧ (((B 17 v_5.toNat) < 0 → zl_M_mover_2 B x1 ex post k (x2 + 1)) ∧ (¬ (B 17 v_5.toNat) < 0 → (0 ≤ v_5 ∧ v_5 < 160) ∧ zp_M_front B (B 17 v_5.toNat) (fun r_13 => rg r_13 ∧ ((r_13 < 0 → zl_M_mover_2 B x1 ex post k (x2 + 1)) ∧ (¬ r_13 < 0 → (0 ≤ v_5 ∧ v_5 < 160) ∧ rg (B 13 v_5.toNat) ∧ ((4 ≤ (B 13 v_5.toNat) → zl_M_mover_2 B x1 ex post k (x2 + 1)) ∧ (¬ 4 ≤ (B 13 v_5.toNat) → post v_5))))))))))))
def zp_M_mover (B : AA) (x1 : Int) (post : Int → Prop) : Prop :=
  (∃ j2, zl_M_mover_2 B x1 (fun y2 => ze_M_mover_72 B post) post j2 1)
def zp_M_move (B : AA) (x1 : Int) (post : AA → Prop) : Prop :=
  zp_M_mover B x1 (fun r_1 => rg r_1 ∧ ((0 ≤ r_1 → (0 ≤ r_1 ∧ r_1 < 160) ∧ zp_M_front B (B 17 r_1.toNat) (fun r_5 => (0 ≤ r_1 ∧ r_1 < 160) ∧ zp_M_take B (B 17 r_1.toNat) r_5 (fun S_7 => (0 ≤ r_1 ∧ r_1 < 160) ∧ (0 ≤ ((4 * r_1) + (S_7 13 r_1.toNat)) ∧ ((4 * r_1) + (S_7 13 r_1.toNat)) < 640) ∧ ∀ S_10, S_10 = zU S_7 14 ((4 * r_1) + (S_7 13 r_1.toNat)).toNat r_5 → (0 ≤ r_1 ∧ r_1 < 160) ∧ (0 ≤ ((4 * r_1) + (S_10 13 r_1.toNat)) ∧ ((4 * r_1) + (S_10 13 r_1.toNat)) < 640) ∧ ∀ S_13, S_13 = zU S_10 15 ((4 * r_1) + (S_10 13 r_1.toNat)).toNat (S_10 0 5) → (0 ≤ r_1 ∧ r_1 < 160) ∧ (0 ≤ r_1 ∧ r_1 < 160) ∧ ∀ S_16, S_16 = zU S_13 13 r_1.toNat ((S_13 13 r_1.toNat) + 1) → ∀ S_17, S_17 = zU S_16 0 6 ((S_16 0 6) + 1) → (0 ≤ r_1 ∧ r_1 < 160) ∧ (0 ≤ r_1 ∧ r_1 < 160) ∧ ∀ S_20, S_20 = zU S_17 16 r_1.toNat ((S_17 16 r_1.toNat) + 1) → rn r_1 ∧ (0 ≤ x1 ∧ x1 < 40) ∧ ∀ S_23, S_23 = zU S_20 5 x1.toNat (r_1 % 4) → rn r_5 ∧ rn r_5 ∧ (0 ≤ (r_5 / 16) ∧ (r_5 / 16) < 400) ∧ rg (r_5 % 16) ∧ rg ((S_23 9 (r_5 / 16).toNat) - 1) ∧ ((¬ (r_5 % 16) = ((S_23 9 (r_5 / 16).toNat) - 1) → post S_23) ∧ ((r_5 % 16) = ((S_23 9 (r_5 / 16).toNat) - 1) → (0 ≤ r_1 ∧ r_1 < 160) ∧ ∀ S_31, S_31 = zU S_23 17 r_1.toNat (-1) → (0 ≤ r_1 ∧ r_1 < 160) ∧ ∀ S_33, S_33 = zU S_31 18 r_1.toNat (-1) → post S_33))))) ∧ (¬ 0 ≤ r_1 → post B)))
def zp_M_leave (B : AA) (x1 : Int) (x2 : Int) (post : AA → Prop) : Prop :=
  zp_M_front B x1 (fun r_1 => rg r_1 ∧ ((r_1 < 0 → post B) ∧ (¬ r_1 < 0 → rn r_1 ∧ (0 ≤ (r_1 / 16) ∧ (r_1 / 16) < 400) ∧ rg (B 8 (r_1 / 16).toNat) ∧ rg x2 ∧ (((B 8 (r_1 / 16).toNat) = x2 → zp_M_take B x1 r_1 (fun S_9 => rn r_1 ∧ (0 ≤ (r_1 / 16) ∧ (r_1 / 16) < 400) ∧ (0 ≤ (r_1 / 16) ∧ (r_1 / 16) < 400) ∧ ∀ S_13, S_13 = zU S_9 11 (r_1 / 16).toNat ((S_9 11 (r_1 / 16).toNat) + 1) → ∀ S_14, S_14 = zU S_13 0 7 ((S_13 0 7) + 1) → rn r_1 ∧ rn r_1 ∧ (0 ≤ (r_1 / 16) ∧ (r_1 / 16) < 400) ∧ rg (r_1 % 16) ∧ rg ((S_14 9 (r_1 / 16).toNat) - 1) ∧ ((¬ (r_1 % 16) = ((S_14 9 (r_1 / 16).toNat) - 1) → post S_14) ∧ ((r_1 % 16) = ((S_14 9 (r_1 / 16).toNat) - 1) → rn r_1 ∧ (0 ≤ (r_1 / 16) ∧ (r_1 / 16) < 400) ∧ ∀ S_23, S_23 = zU S_14 12 (r_1 / 16).toNat (S_14 0 5) → ∀ S_24, S_24 = zU S_23 0 8 ((S_23 0 8) + 1) → post S_24)))) ∧ (¬ (B 8 (r_1 / 16).toNat) = x2 → post B)))))
def ze_M_step_87 (B : AA) (post : AA → Prop) : Prop :=
  post B
def ze_M_step_81 (B : AA) (x1 : Int) (ag : AA → Int → Prop) (ex : AA → Int → Prop) (post : AA → Prop) : Prop :=
  ag B (x1 + 1)
def zl_M_step_47 (x1 : Int) (ex : AA → Int → Prop) (post : AA → Prop) : Nat → AA → Int → Prop
  | 0, _, _ => False
  | k + 1, B, x2 =>
    rg x2 ∧ rg (16 + (4 * (B 0 3))) ∧ (((16 + (4 * (B 0 3))) ≤ x2 → ex B x2) ∧ (¬ (16 + (4 * (B 0 3))) ≤ x2 → zp_M_isInput B x2 x1 (fun r_9 => rg r_9 ∧ ((r_9 = 0 → zl_M_step_47 x1 ex post k B (x2 + 1)) ∧ (¬ r_9 = 0 → zp_M_leave B x2 x1 (fun S_12 => zl_M_step_47 x1 ex post k S_12 (x2 + 1)))))))
def zl_M_step_37 (ex : AA → Int → Prop) (post : AA → Prop) : Nat → AA → Int → Prop
  | 0, _, _ => False
  | k + 1, B, x1 =>
    rg x1 ∧ rg (B 0 2) ∧ (((B 0 2) ≤ x1 → ex B x1) ∧ (¬ (B 0 2) ≤ x1 → (∃ j47, zl_M_step_47 x1 (fun B' y2 => ze_M_step_81 B' x1 (zl_M_step_37 ex post k) ex post) post j47 B 0)))
def ze_M_step_35 (B : AA) (post : AA → Prop) : Prop :=
  (∃ j37, zl_M_step_37 (fun B' y1 => ze_M_step_87 B' post) post j37 B 0)
def zl_M_step_16 (ex : AA → Int → Prop) (post : AA → Prop) : Nat → AA → Int → Prop
  | 0, _, _ => False
  | k + 1, B, x1 =>
    rg x1 ∧ rg (B 0 3) ∧ (((B 0 3) ≤ x1 → ex B x1) ∧ (¬ (B 0 3) ≤ x1 → zp_M_move B x1 (fun S_18 => zl_M_step_16 ex post k S_18 (x1 + 1))))
def zp_M_step (B : AA) (post : AA → Prop) : Prop :=
  ∀ S_1, S_1 = zU B 0 5 ((B 0 5) + 1) → zp_M_ask S_1 (fun S_2 => (∃ j16, zl_M_step_16 (fun B' y1 => ze_M_step_35 B' post) post j16 S_2 0))
def zp_M_isEmpty (B : AA) (post : Int → Prop) : Prop :=
  rg (B 0 8) ∧ rg (B 0 4) ∧ ((¬ (B 0 8) = (B 0 4) → post 0) ∧ ((B 0 8) = (B 0 4) → post 1))
def ze_M_run_64 (B : AA) (x2 : Int) (post : Int → AA → Prop) : Prop :=
  post ((B 0 8) - x2) B
def zl_M_run_29 (x1 : Int) (x2 : Int) (ex : AA → Int → Prop) (post : Int → AA → Prop) : Nat → AA → Int → Prop
  | 0, _, _ => False
  | k + 1, B, x3 =>
    rg x3 ∧ rg x1 ∧ ((x1 ≤ x3 → ex B x3) ∧ (¬ x1 ≤ x3 → zp_M_isEmpty B (fun r_9 => rg r_9 ∧ ((r_9 = 0 → zp_M_step B (fun S_12 => zl_M_run_29 x1 x2 ex post k S_12 (x3 + 1))) ∧ (¬ r_9 = 0 → ∀ S_13, S_13 = zU B 0 5 ((B 0 5) + 1) → zl_M_run_29 x1 x2 ex post k S_13 (x3 + 1))))))
def zp_M_run (B : AA) (x1 : Int) (post : Int → AA → Prop) : Prop :=
  ∀ S_1, S_1 = zU B 0 0 0 → zp_M_within S_1 x1 1 2000 (fun r_2 => rg r_2 ∧ ((¬ r_2 = 0 → ∀ v_5, v_5 = S_1 0 8 → (∃ j29, zl_M_run_29 x1 v_5 (fun B' y3 => ze_M_run_64 B' v_5 post) post j29 S_1 0)) ∧ (r_2 = 0 → zp_M_wrong S_1 1 (fun r_15 S_15 => post r_15 S_15))))
def zp_M_flitsIn (B : AA) (x1 : Int) (x2 : Int) (post : Int → Prop) : Prop :=
  rg x2 ∧ ((¬ x2 = 1 → rg x2 ∧ ((¬ x2 = 2 → (0 ≤ x1 ∧ x1 < 400) ∧ post (B 11 x1.toNat)) ∧ (x2 = 2 → (0 ≤ x1 ∧ x1 < 400) ∧ (0 ≤ x1 ∧ x1 < 400) ∧ post ((B 10 x1.toNat) - (B 11 x1.toNat))))) ∧ (x2 = 1 → (0 ≤ x1 ∧ x1 < 400) ∧ (0 ≤ x1 ∧ x1 < 400) ∧ post ((B 9 x1.toNat) - (B 10 x1.toNat))))
def zp_M_packet (B : AA) (x1 : Int) (x2 : Int) (post : Int → AA → Prop) : Prop :=
  ∀ S_1, S_1 = zU B 0 0 0 → zp_M_within S_1 x1 0 ((S_1 0 4) - 1) (fun r_2 => rg r_2 ∧ ((r_2 = 0 → zp_M_wrong S_1 1 (fun r_5 S_5 => post r_5 S_5)) ∧ (¬ r_2 = 0 → zp_M_within S_1 x2 0 3 (fun r_6 => rg r_6 ∧ ((¬ r_6 = 0 → rg x2 ∧ ((¬ x2 = 0 → zp_M_flitsIn S_1 x1 x2 (fun r_11 => post r_11 S_1)) ∧ (x2 = 0 → (0 ≤ x1 ∧ x1 < 400) ∧ post (S_1 12 x1.toNat) S_1))) ∧ (r_6 = 0 → zp_M_wrong S_1 1 (fun r_13 S_13 => post r_13 S_13)))))))
def zp_M_channel (B : AA) (x1 : Int) (x2 : Int) (post : Int → AA → Prop) : Prop :=
  ∀ S_1, S_1 = zU B 0 0 0 → zp_M_isChannel S_1 x1 (fun r_2 => rg r_2 ∧ ((r_2 = 0 → zp_M_wrong S_1 1 (fun r_5 S_5 => post r_5 S_5)) ∧ (¬ r_2 = 0 → zp_M_within S_1 x2 0 3 (fun r_6 => rg r_6 ∧ ((¬ r_6 = 0 → rg x2 ∧ ((¬ x2 = 2 → rg x2 ∧ ((¬ x2 = 0 → rg x2 ∧ ((¬ x2 = 1 → (0 ≤ x1 ∧ x1 < 160) ∧ post (S_1 16 x1.toNat) S_1) ∧ (x2 = 1 → (0 ≤ x1 ∧ x1 < 160) ∧ post (S_1 18 x1.toNat) S_1))) ∧ (x2 = 0 → (0 ≤ x1 ∧ x1 < 160) ∧ post (S_1 13 x1.toNat) S_1))) ∧ (x2 = 2 → (0 ≤ x1 ∧ x1 < 160) ∧ rg (S_1 13 x1.toNat) ∧ ((¬ (S_1 13 x1.toNat) = 0 → (0 ≤ (4 * x1) ∧ (4 * x1) < 640) ∧ rn (S_1 14 (4 * x1).toNat) ∧ post ((S_1 14 (4 * x1).toNat) / 16) S_1) ∧ ((S_1 13 x1.toNat) = 0 → post (-1) S_1))))) ∧ (r_6 = 0 → zp_M_wrong S_1 1 (fun r_23 S_23 => post r_23 S_23)))))))
def ze_M_findLeads_136 (B : AA) (post : AA → Prop) : Prop :=
  post B
def ze_M_findLeads_130 (B : AA) (x1 : Int) (ag : AA → Int → Prop) (ex : AA → Int → Prop) (post : AA → Prop) : Prop :=
  ag B (x1 + 1)
def zl_M_findLeads_34 (x1 : Int) (ex : AA → Int → Prop) (post : AA → Prop) : Nat → AA → Int → Prop
  | 0, _, _ => False
  | k + 1, B, x2 =>
    rg x2 ∧ rg (B 0 2) ∧ (((B 0 2) ≤ x2 → ex B x2) ∧ (¬ (B 0 2) ≤ x2 → rg x2 ∧ rg x1 ∧ ((¬ x2 = x1 → (0 ≤ ((16 * x2) + x1) ∧ ((16 * x2) + x1) < 256) ∧ ∀ v_11, v_11 = B 6 ((16 * x2) + x1).toNat → rg v_11 ∧ ((0 ≤ v_11 → rn v_11 ∧ (0 ≤ (v_11 / 4) ∧ (v_11 / 4) < 40) ∧ ∀ v_16, v_16 = B 2 (v_11 / 4).toNat → rg v_16 ∧ rg x1 ∧ ((¬ v_16 = x1 → (0 ≤ ((16 * v_16) + x1) ∧ ((16 * v_16) + x1) < 256) ∧ ∀ v_21, v_21 = B 6 ((16 * v_16) + x1).toNat → rg v_21 ∧ ((v_21 < 0 → zl_M_findLeads_34 x1 ex post k B (x2 + 1)) ∧ (¬ v_21 < 0 → (0 ≤ ((160 * v_11) + v_21) ∧ ((160 * v_11) + v_21) < 25600) ∧ ∀ S_25, S_25 = zU B 19 ((160 * v_11) + v_21).toNat 1 → zl_M_findLeads_34 x1 ex post k S_25 (x2 + 1)))) ∧ (v_16 = x1 → zl_M_findLeads_34 x1 ex post k B (x2 + 1)))) ∧ (¬ 0 ≤ v_11 → zl_M_findLeads_34 x1 ex post k B (x2 + 1)))) ∧ (x2 = x1 → zl_M_findLeads_34 x1 ex post k B (x2 + 1)))))
def zl_M_findLeads_24 (ex : AA → Int → Prop) (post : AA → Prop) : Nat → AA → Int → Prop
  | 0, _, _ => False
  | k + 1, B, x1 =>
    rg x1 ∧ rg (B 0 2) ∧ (((B 0 2) ≤ x1 → ex B x1) ∧ (¬ (B 0 2) ≤ x1 → (∃ j34, zl_M_findLeads_34 x1 (fun B' y2 => ze_M_findLeads_130 B' x1 (zl_M_findLeads_24 ex post k) ex post) post j34 B 0)))
def ze_M_findLeads_22 (B : AA) (post : AA → Prop) : Prop :=
  (∃ j24, zl_M_findLeads_24 (fun B' y1 => ze_M_findLeads_136 B' post) post j24 B 0)
def zl_M_findLeads_2 (ex : AA → Int → Prop) (post : AA → Prop) : Nat → AA → Int → Prop
  | 0, _, _ => False
  | k + 1, B, x1 =>
    rg x1 ∧ ((25600 ≤ x1 → ex B x1) ∧ (¬ 25600 ≤ x1 → (0 ≤ x1 ∧ x1 < 25600) ∧ ∀ S_31, S_31 = zU B 19 x1.toNat 0 → zl_M_findLeads_2 ex post k S_31 (x1 + 1)))
def zp_M_findLeads (B : AA) (post : AA → Prop) : Prop :=
  (∃ j2, zl_M_findLeads_2 (fun B' y1 => ze_M_findLeads_22 B' post) post j2 B 0)
def ze_M_measure_184 (B : AA) (post : AA → Prop) : Prop :=
  post B
def ze_M_measure_178 (B : AA) (x1 : Int) (x2 : Int) (x3 : Int) (ag : AA → Int → Int → Prop) (ex : AA → Int → Int → Prop) (post : AA → Prop) : Prop :=
  ag B x2 (x3 + 1)
def ze_M_measure_157 (B : AA) (x1 : Int) (x2 : Int) (x3 : Int) (x4 : Int) (x5 : Int) (ag : AA → Int → Int → Prop) (ex : AA → Int → Int → Prop) (post : AA → Prop) : Prop :=
  rg x5 ∧ ((x5 = 0 → ag B x2 (x4 + 1)) ∧ (¬ x5 = 0 → (0 ≤ x4 ∧ x4 < 160) ∧ ∀ S_11, S_11 = zU B 20 x4.toNat x3 → ag S_11 1 (x4 + 1)))
def zl_M_measure_85 (B : AA) (x1 : Int) (x2 : Int) (x3 : Int) (x4 : Int) (ex : Int → Int → Prop) (post : AA → Prop) : Nat → Int → Int → Prop
  | 0, _, _ => False
  | k + 1, x5, x6 =>
    rg x6 ∧ ((160 ≤ x6 → ex x5 x6) ∧ (¬ 160 ≤ x6 → rg x5 ∧ ((¬ x5 = 0 → ex x5 x6) ∧ (x5 = 0 → (0 ≤ x4 ∧ x4 < 160) ∧ rg (B 20 x4.toNat) ∧ ((¬ (B 20 x4.toNat) = (-1) → ex x5 x6) ∧ ((B 20 x4.toNat) = (-1) → rg x3 ∧ ((x3 ≤ 1 → ex x5 x6) ∧ (¬ x3 ≤ 1 → (0 ≤ ((160 * x4) + x6) ∧ ((160 * x4) + x6) < 25600) ∧ rg (B 19 ((160 * x4) + x6).toNat) ∧ (((B 19 ((160 * x4) + x6).toNat) = 0 → zl_M_measure_85 B x1 x2 x3 x4 ex post k 0 (x6 + 1)) ∧ (¬ (B 19 ((160 * x4) + x6).toNat) = 0 → (0 ≤ x6 ∧ x6 < 160) ∧ rg (B 20 x6.toNat) ∧ rg (x3 - 1) ∧ ((¬ (B 20 x6.toNat) = (x3 - 1) → zl_M_measure_85 B x1 x2 x3 x4 ex post k 0 (x6 + 1)) ∧ ((B 20 x6.toNat) = (x3 - 1) → zl_M_measure_85 B x1 x2 x3 x4 ex post k 1 (x6 + 1)))))))))))))
def zl_M_measure_35 (x1 : Int) (x3 : Int) (ex : AA → Int → Int → Prop) (post : AA → Prop) : Nat → AA → Int → Int → Prop
  | 0, _, _, _ => False
  | k + 1, B, x2, x4 =>
    rg x4 ∧ ((160 ≤ x4 → ex B x2 x4) ∧ (¬ 160 ≤ x4 → (0 ≤ x4 ∧ x4 < 160) ∧ rg (B 20 x4.toNat) ∧ ((¬ (B 20 x4.toNat) = (-1) → (∃ j85, zl_M_measure_85 B x1 x2 x3 x4 (fun y5 y6 => ze_M_measure_157 B x1 x2 x3 x4 y5 (zl_M_measure_35 x1 x3 ex post k) ex post) post j85 0 0)) ∧ ((B 20 x4.toNat) = (-1) → rg x3 ∧ ((¬ x3 = 1 → (∃ j85, zl_M_measure_85 B x1 x2 x3 x4 (fun y5 y6 => ze_M_measure_157 B x1 x2 x3 x4 y5 (zl_M_measure_35 x1 x3 ex post k) ex post) post j85 0 0)) ∧ (x3 = 1 → (0 ≤ ((160 * x4) + x1) ∧ ((160 * x4) + x1) < 25600) ∧ rg (B 19 ((160 * x4) + x1).toNat) ∧ (((B 19 ((160 * x4) + x1).toNat) = 0 → (∃ j85, zl_M_measure_85 B x1 x2 x3 x4 (fun y5 y6 => ze_M_measure_157 B x1 x2 x3 x4 y5 (zl_M_measure_35 x1 x3 ex post k) ex post) post j85 0 0)) ∧ (¬ (B 19 ((160 * x4) + x1).toNat) = 0 → (∃ j85, zl_M_measure_85 B x1 x2 x3 x4 (fun y5 y6 => ze_M_measure_157 B x1 x2 x3 x4 y5 (zl_M_measure_35 x1 x3 ex post k) ex post) post j85 1 0)))))))))
def zl_M_measure_26 (x1 : Int) (ex : AA → Int → Int → Prop) (post : AA → Prop) : Nat → AA → Int → Int → Prop
  | 0, _, _, _ => False
  | k + 1, B, x2, x3 =>
    rg x2 ∧ ((x2 = 0 → ex B x2 x3) ∧ (¬ x2 = 0 → (∃ j35, zl_M_measure_35 x1 x3 (fun B' y2 y4 => ze_M_measure_178 B' x1 y2 x3 (zl_M_measure_26 x1 ex post k) ex post) post j35 B 0 0)))
def ze_M_measure_22 (B : AA) (x1 : Int) (post : AA → Prop) : Prop :=
  (∃ j26, zl_M_measure_26 x1 (fun B' y2 y3 => ze_M_measure_184 B' post) post j26 B 1 1)
def zl_M_measure_2 (x1 : Int) (ex : AA → Int → Prop) (post : AA → Prop) : Nat → AA → Int → Prop
  | 0, _, _ => False
  | k + 1, B, x2 =>
    rg x2 ∧ ((160 ≤ x2 → ex B x2) ∧ (¬ 160 ≤ x2 → (0 ≤ x2 ∧ x2 < 160) ∧ ∀ S_42, S_42 = zU B 20 x2.toNat (-1) → zl_M_measure_2 x1 ex post k S_42 (x2 + 1)))
def zp_M_measure (B : AA) (x1 : Int) (post : AA → Prop) : Prop :=
  (∃ j2, zl_M_measure_2 x1 (fun B' y2 => ze_M_measure_22 B' x1 post) post j2 B 0)
def ze_M_findRing_168 (B : AA) (x1 : Int) (post : Int → AA → Prop) : Prop :=
  post x1 B
def ze_M_findRing_159 (B : AA) (x1 : Int) (x2 : Int) (x4 : Int) (x5 : Int) (ag : AA → Int → Int → Prop) (ex : AA → Int → Int → Prop) (post : Int → AA → Prop) : Prop :=
  ag B x5 (x4 + 1)
def zl_M_findRing_96 (B : AA) (x1 : Int) (x2 : Int) (x3 : Int) (x4 : Int) (ex : Int → Prop) (post : Int → AA → Prop) : Nat → Int → Prop
  | 0, _ => False
  | k + 1, x5 =>
    rg x5 ∧ ((160 ≤ x5 → ex x5) ∧ (¬ 160 ≤ x5 → (0 ≤ ((160 * x3) + x5) ∧ ((160 * x3) + x5) < 25600) ∧ rg (B 19 ((160 * x3) + x5).toNat) ∧ (((B 19 ((160 * x3) + x5).toNat) = 0 → zl_M_findRing_96 B x1 x2 x3 x4 ex post k (x5 + 1)) ∧ (¬ (B 19 ((160 * x3) + x5).toNat) = 0 → rg x4 ∧ rg (x1 - 1) ∧ ((¬ x4 = (x1 - 1) → (0 ≤ x5 ∧ x5 < 160) ∧ rg (B 20 x5.toNat) ∧ rg ((x1 - 1) - x4) ∧ (((B 20 x5.toNat) = ((x1 - 1) - x4) → ex x5) ∧ (¬ (B 20 x5.toNat) = ((x1 - 1) - x4) → zl_M_findRing_96 B x1 x2 x3 x4 ex post k (x5 + 1)))) ∧ (x4 = (x1 - 1) → rg x5 ∧ rg x2 ∧ ((¬ x5 = x2 → zl_M_findRing_96 B x1 x2 x3 x4 ex post k (x5 + 1)) ∧ (x5 = x2 → ex x5))))))))
def zl_M_findRing_79 (x1 : Int) (x2 : Int) (ex : AA → Int → Int → Prop) (post : Int → AA → Prop) : Nat → AA → Int → Int → Prop
  | 0, _, _, _ => False
  | k + 1, B, x3, x4 =>
    rg x4 ∧ rg x1 ∧ ((x1 ≤ x4 → ex B x3 x4) ∧ (¬ x1 ≤ x4 → (0 ≤ x4 ∧ x4 < 160) ∧ ∀ S_9, S_9 = zU B 21 x4.toNat x3 → (∃ j96, zl_M_findRing_96 S_9 x1 x2 x3 x4 (fun y5 => ze_M_findRing_159 S_9 x1 x2 x4 y5 (zl_M_findRing_79 x1 x2 ex post k) ex post) post j96 0)))
def ze_M_findRing_63 (B : AA) (x1 : Int) (x2 : Int) (post : Int → AA → Prop) : Prop :=
  rg x2 ∧ ((0 ≤ x2 → zp_M_measure B x2 (fun S_4 => (∃ j79, zl_M_findRing_79 x1 x2 (fun B' y3 y4 => ze_M_findRing_168 B' x1 post) post j79 S_4 x2 0))) ∧ (¬ 0 ≤ x2 → post 0 B))
def zl_M_findRing_10 (ex : AA → Int → Int → Int → Prop) (post : Int → AA → Prop) : Nat → AA → Int → Int → Int → Prop
  | 0, _, _, _, _ => False
  | k + 1, B, x1, x2, x3 =>
    rg x3 ∧ rg (4 * (B 0 3)) ∧ (((4 * (B 0 3)) ≤ x3 → ex B x1 x2 x3) ∧ (¬ (4 * (B 0 3)) ≤ x3 → zp_M_measure B x3 (fun S_30 => (0 ≤ x3 ∧ x3 < 160) ∧ rg (S_30 20 x3.toNat) ∧ (((S_30 20 x3.toNat) ≤ 0 → zl_M_findRing_10 ex post k S_30 x1 x2 (x3 + 1)) ∧ (¬ (S_30 20 x3.toNat) ≤ 0 → rg x2 ∧ ((x2 < 0 → (0 ≤ x3 ∧ x3 < 160) ∧ ∀ v_37, v_37 = S_30 20 x3.toNat → zl_M_findRing_10 ex post k S_30 v_37 x3 (x3 + 1)) ∧ (¬ x2 < 0 → (0 ≤ x3 ∧ x3 < 160) ∧ rg (S_30 20 x3.toNat) ∧ rg x1 ∧ ((x1 ≤ (S_30 20 x3.toNat) → zl_M_findRing_10 ex post k S_30 x1 x2 (x3 + 1)) ∧ (¬ x1 ≤ (S_30 20 x3.toNat) → (0 ≤ x3 ∧ x3 < 160) ∧ ∀ v_43, v_43 = S_30 20 x3.toNat → zl_M_findRing_10 ex post k S_30 v_43 x3 (x3 + 1))))))))))
def zp_M_findRing (B : AA) (post : Int → AA → Prop) : Prop :=
  zp_M_findLeads B (fun S_1 => (∃ j10, zl_M_findRing_10 (fun B' y1 y2 y3 => ze_M_findRing_63 B' y1 y2 post) post j10 S_1 0 (-1) 0))
def zp_M_ring (B : AA) (post : Int → AA → Prop) : Prop :=
  ∀ S_1, S_1 = zU B 0 0 0 → zp_M_findRing S_1 (fun r_2 S_2 => post r_2 S_2)
def zp_M_ringAt (B : AA) (x1 : Int) (post : Int → AA → Prop) : Prop :=
  ∀ S_1, S_1 = zU B 0 0 0 → zp_M_findRing S_1 (fun r_2 S_2 => zp_M_within S_2 x1 0 (r_2 - 1) (fun r_3 => rg r_3 ∧ ((r_3 = 0 → zp_M_wrong S_2 1 (fun r_6 S_6 => post r_6 S_6)) ∧ (¬ r_3 = 0 → (0 ≤ x1 ∧ x1 < 160) ∧ post (S_2 21 x1.toNat) S_2))))
def ze_M_stuck_168 (B : AA) (x1 : Int) (post : Int → AA → Prop) : Prop :=
  ∀ S_6, S_6 = zU B 0 5 ((B 0 5) - 1) → rg x1 ∧ ((¬ x1 = 0 → post 0 S_6) ∧ (x1 = 0 → post 1 S_6))
def zl_M_stuck_62 (B : AA) (ex : Int → Int → Prop) (post : Int → AA → Prop) : Nat → Int → Int → Prop
  | 0, _, _ => False
  | k + 1, x1, x2 =>
    rg x2 ∧ rg (16 + (4 * (B 0 3))) ∧ (((16 + (4 * (B 0 3))) ≤ x2 → ex x1 x2) ∧ (¬ (16 + (4 * (B 0 3))) ≤ x2 → rg x2 ∧ rg (B 0 2) ∧ ((x2 < (B 0 2) → zp_M_front B x2 (fun r_15 => rg x1 ∧ ((¬ x1 = 0 → zl_M_stuck_62 B ex post k 1 (x2 + 1)) ∧ (x1 = 0 → rg r_15 ∧ ((r_15 < 0 → zl_M_stuck_62 B ex post k 0 (x2 + 1)) ∧ (¬ r_15 < 0 → rn r_15 ∧ (0 ≤ (r_15 / 16) ∧ (r_15 / 16) < 400) ∧ zp_M_nodeOf B x2 (fun r_22 => rg (B 8 (r_15 / 16).toNat) ∧ rg r_22 ∧ (((B 8 (r_15 / 16).toNat) = r_22 → zl_M_stuck_62 B ex post k 1 (x2 + 1)) ∧ (¬ (B 8 (r_15 / 16).toNat) = r_22 → zp_M_wanted B x2 (fun r_26 => rg r_26 ∧ ((r_26 < 0 → zl_M_stuck_62 B ex post k 0 (x2 + 1)) ∧ (¬ r_26 < 0 → zl_M_stuck_62 B ex post k 1 (x2 + 1))))))))))))) ∧ (¬ x2 < (B 0 2) → rg x2 ∧ ((x2 < 16 → rg x1 ∧ ((¬ x1 = 0 → zl_M_stuck_62 B ex post k 1 (x2 + 1)) ∧ (x1 = 0 → zl_M_stuck_62 B ex post k 0 (x2 + 1)))) ∧ (¬ x2 < 16 → zp_M_isChannel B (x2 - 16) (fun r_33 => rg r_33 ∧ ((r_33 = 0 → rg x1 ∧ ((¬ x1 = 0 → zl_M_stuck_62 B ex post k 1 (x2 + 1)) ∧ (x1 = 0 → zl_M_stuck_62 B ex post k 0 (x2 + 1)))) ∧ (¬ r_33 = 0 → zp_M_front B x2 (fun r_38 => rg x1 ∧ ((¬ x1 = 0 → zl_M_stuck_62 B ex post k 1 (x2 + 1)) ∧ (x1 = 0 → rg r_38 ∧ ((r_38 < 0 → zl_M_stuck_62 B ex post k 0 (x2 + 1)) ∧ (¬ r_38 < 0 → rn r_38 ∧ (0 ≤ (r_38 / 16) ∧ (r_38 / 16) < 400) ∧ zp_M_nodeOf B x2 (fun r_45 => rg (B 8 (r_38 / 16).toNat) ∧ rg r_45 ∧ (((B 8 (r_38 / 16).toNat) = r_45 → zl_M_stuck_62 B ex post k 1 (x2 + 1)) ∧ (¬ (B 8 (r_38 / 16).toNat) = r_45 → zp_M_wanted B x2 (fun r_49 => rg r_49 ∧ ((r_49 < 0 → zl_M_stuck_62 B ex post k 0 (x2 + 1)) ∧ (¬ r_49 < 0 → zl_M_stuck_62 B ex post k 1 (x2 + 1)))))))))))))))))))))
def ze_M_stuck_60 (B : AA) (x1 : Int) (post : Int → AA → Prop) : Prop :=
  (∃ j62, zl_M_stuck_62 B (fun y1 y2 => ze_M_stuck_168 B y1 post) post j62 x1 0)
def zl_M_stuck_28 (B : AA) (ex : Int → Int → Prop) (post : Int → AA → Prop) : Nat → Int → Int → Prop
  | 0, _, _ => False
  | k + 1, x1, x2 =>
    rg x2 ∧ rg (B 0 3) ∧ (((B 0 3) ≤ x2 → ex x1 x2) ∧ (¬ (B 0 3) ≤ x2 → rg x1 ∧ ((¬ x1 = 0 → zl_M_stuck_28 B ex post k 1 (x2 + 1)) ∧ (x1 = 0 → zp_M_mover B x2 (fun r_58 => rg r_58 ∧ ((r_58 < 0 → zl_M_stuck_28 B ex post k 0 (x2 + 1)) ∧ (¬ r_58 < 0 → zl_M_stuck_28 B ex post k 1 (x2 + 1))))))))
def zp_M_stuck (B : AA) (post : Int → AA → Prop) : Prop :=
  ∀ S_1, S_1 = zU B 0 0 0 → zp_M_isEmpty S_1 (fun r_2 => rg r_2 ∧ ((r_2 = 0 → ∀ S_5, S_5 = zU S_1 0 5 ((S_1 0 5) + 1) → (∃ j28, zl_M_stuck_28 S_5 (fun y1 y2 => ze_M_stuck_60 S_5 y1 post) post j28 0 0)) ∧ (¬ r_2 = 0 → post 0 S_1)))
def ze_M_hasWay_55 (B : AA) (x2 : Int) (x3 : Int) (post : Int → Prop) : Prop :=
  rg x3 ∧ rg x2 ∧ ((¬ x3 = x2 → post 0) ∧ (x3 = x2 → post 1))
def zl_M_hasWay_5 (B : AA) (x2 : Int) (ex : Int → Int → Prop) (post : Int → Prop) : Nat → Int → Int → Prop
  | 0, _, _ => False
  | k + 1, x3, x4 =>
    rg x4 ∧ rg (B 0 2) ∧ (((B 0 2) ≤ x4 → ex x3 x4) ∧ (¬ (B 0 2) ≤ x4 → rg x3 ∧ rg x2 ∧ ((x3 = x2 → ex x3 x4) ∧ (¬ x3 = x2 → (0 ≤ ((16 * x3) + x2) ∧ ((16 * x3) + x2) < 256) ∧ ∀ v_11, v_11 = B 6 ((16 * x3) + x2).toNat → rg v_11 ∧ ((0 ≤ v_11 → rn v_11 ∧ (0 ≤ (v_11 / 4) ∧ (v_11 / 4) < 40) ∧ ∀ v_16, v_16 = B 2 (v_11 / 4).toNat → zl_M_hasWay_5 B x2 ex post k v_16 (x4 + 1)) ∧ (¬ 0 ≤ v_11 → post 0))))))
def zp_M_hasWay (B : AA) (x1 : Int) (x2 : Int) (post : Int → Prop) : Prop :=
  (∃ j5, zl_M_hasWay_5 B x2 (fun y3 y4 => ze_M_hasWay_55 B x2 y3 post) post j5 x1 0)
def ze_M_count_200 (B : AA) (x2 : Int) (post : Int → AA → Prop) : Prop :=
  post x2 B
def ze_M_count_194 (B : AA) (x2 : Int) (x3 : Int) (ag : Int → Int → Prop) (ex : Int → Int → Prop) (post : Int → AA → Prop) : Prop :=
  ag x2 (x3 + 1)
def zl_M_count_155 (B : AA) (x3 : Int) (ex : Int → Int → Prop) (post : Int → AA → Prop) : Nat → Int → Int → Prop
  | 0, _, _ => False
  | k + 1, x2, x4 =>
    rg x4 ∧ rg (B 0 2) ∧ (((B 0 2) ≤ x4 → ex x2 x4) ∧ (¬ (B 0 2) ≤ x4 → rg x3 ∧ rg x4 ∧ ((x3 = x4 → ∀ v_24, v_24 = x2 + 0 → zl_M_count_155 B x3 ex post k v_24 (x4 + 1)) ∧ (¬ x3 = x4 → zp_M_hasWay B x3 x4 (fun r_25 => rg r_25 ∧ ((¬ r_25 = 0 → ∀ v_28, v_28 = x2 + 0 → zl_M_count_155 B x3 ex post k v_28 (x4 + 1)) ∧ (r_25 = 0 → ∀ v_29, v_29 = x2 + 1 → zl_M_count_155 B x3 ex post k v_29 (x4 + 1))))))))
def zl_M_count_144 (B : AA) (ex : Int → Int → Prop) (post : Int → AA → Prop) : Nat → Int → Int → Prop
  | 0, _, _ => False
  | k + 1, x2, x3 =>
    rg x3 ∧ rg (B 0 2) ∧ (((B 0 2) ≤ x3 → ex x2 x3) ∧ (¬ (B 0 2) ≤ x3 → (∃ j155, zl_M_count_155 B x3 (fun y2 y4 => ze_M_count_194 B y2 x3 (zl_M_count_144 B ex post k) ex post) post j155 x2 0)))
def ze_M_count_139 (B : AA) (x2 : Int) (post : Int → AA → Prop) : Prop :=
  post x2 B
def zl_M_count_114 (B : AA) (x1 : Int) (ex : Int → Int → Prop) (post : Int → AA → Prop) : Nat → Int → Int → Prop
  | 0, _, _ => False
  | k + 1, x2, x3 =>
    rg x3 ∧ rg (B 0 4) ∧ (((B 0 4) ≤ x3 → ex x2 x3) ∧ (¬ (B 0 4) ≤ x3 → zp_M_flitsIn B x3 (x1 - 4) (fun r_35 => ∀ v_36, v_36 = x2 + r_35 → zl_M_count_114 B x1 ex post k v_36 (x3 + 1))))
def zp_M_count (B : AA) (x1 : Int) (post : Int → AA → Prop) : Prop :=
  ∀ S_1, S_1 = zU B 0 0 0 → zp_M_within S_1 x1 0 9 (fun r_2 => rg r_2 ∧ ((¬ r_2 = 0 → rg x1 ∧ ((5 ≤ x1 → rg x1 ∧ ((x1 = 7 → rg x1 ∧ ((¬ x1 = 7 → post (S_1 0 7) S_1) ∧ (x1 = 7 → post (S_1 0 6) S_1))) ∧ (¬ x1 = 7 → rg x1 ∧ ((¬ x1 = 8 → rg x1 ∧ ((7 ≤ x1 → (∃ j144, zl_M_count_144 S_1 (fun y2 y3 => ze_M_count_200 S_1 y2 post) post j144 0 0)) ∧ (¬ 7 ≤ x1 → (∃ j114, zl_M_count_114 S_1 x1 (fun y2 y3 => ze_M_count_139 S_1 y2 post) post j114 0 0)))) ∧ (x1 = 8 → rg x1 ∧ ((¬ x1 = 7 → post (S_1 0 7) S_1) ∧ (x1 = 7 → post (S_1 0 6) S_1))))))) ∧ (¬ 5 ≤ x1 → rg x1 ∧ ((¬ x1 = 0 → rg x1 ∧ ((¬ x1 = 1 → rg x1 ∧ ((¬ x1 = 2 → rg x1 ∧ ((¬ x1 = 3 → post (S_1 0 5) S_1) ∧ (x1 = 3 → post (S_1 0 8) S_1))) ∧ (x1 = 2 → post (S_1 0 4) S_1))) ∧ (x1 = 1 → post (S_1 0 3) S_1))) ∧ (x1 = 0 → post (S_1 0 2) S_1))))) ∧ (r_2 = 0 → post (-1) S_1)))
