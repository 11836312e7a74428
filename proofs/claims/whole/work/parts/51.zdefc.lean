def zp_CN_node (B : AA) (post : Int → AA → Prop) (xp : String → AA → Prop) : Prop :=
  rg (B 1 0) ∧ (((B 1 0) < 16 → ∀ S_3, S_3 = zU B 1 0 ((B 1 0) + 1) → post ((S_3 1 0) - 1) S_3) ∧ (¬ (B 1 0) < 16 → xp "java/lang/UnsupportedOperationException" B))
def zp_CP_hasNode (B : AA) (x1 : Int) (post : Int → Prop) : Prop :=
  rg x1 ∧ ((x1 < 0 → post 0) ∧ (¬ x1 < 0 → rg x1 ∧ rg (B 1 0) ∧ (((B 1 0) ≤ x1 → post 0) ∧ (¬ (B 1 0) ≤ x1 → post 1))))
def zp_CP_hasTwoNodes (B : AA) (x1 : Int) (x2 : Int) (post : Int → Prop) : Prop :=
  zp_CP_hasNode B x1 (fun r_1 => rg r_1 ∧ ((r_1 = 0 → post 0) ∧ (¬ r_1 = 0 → zp_CP_hasNode B x2 (fun r_4 => rg r_4 ∧ ((r_4 = 0 → post 0) ∧ (¬ r_4 = 0 → rg x1 ∧ rg x2 ∧ ((x1 = x2 → post 0) ∧ (¬ x1 = x2 → post 1))))))))
def zp_CP_addLink (B : AA) (x1 : Int) (x2 : Int) (x3 : Int) (post : Int → AA → Prop) : Prop :=
  ∀ v_1, v_1 = B 1 1 → (0 ≤ v_1 ∧ v_1 < 40) ∧ ∀ S_3, S_3 = zU B 6 v_1.toNat x1 → (0 ≤ v_1 ∧ v_1 < 40) ∧ ∀ S_5, S_5 = zU S_3 7 v_1.toNat x2 → (0 ≤ v_1 ∧ v_1 < 40) ∧ ∀ S_7, S_7 = zU S_5 8 v_1.toNat x3 → ∀ S_8, S_8 = zU S_7 1 1 ((S_7 1 1) + 1) → post v_1 S_8
def zp_CN_link (B : AA) (x1 : Int) (x2 : Int) (x3 : Int) (post : Int → AA → Prop) (xp : String → AA → Prop) : Prop :=
  zp_CP_hasTwoNodes B x1 x2 (fun r_1 => rg r_1 ∧ ((¬ r_1 = 0 → rg x3 ∧ ((x3 < 1 → xp "java/lang/IllegalArgumentException" B) ∧ (¬ x3 < 1 → rg x3 ∧ ((x3 ≤ 4 → rg (B 1 1) ∧ (((B 1 1) < 40 → zp_CP_addLink B x1 x2 x3 (fun r_10 S_10 => post r_10 S_10)) ∧ (¬ (B 1 1) < 40 → xp "java/lang/UnsupportedOperationException" B))) ∧ (¬ x3 ≤ 4 → xp "java/lang/IllegalArgumentException" B))))) ∧ (r_1 = 0 → xp "java/lang/IllegalArgumentException" B)))
def zp_CP_wayAt (B : AA) (x1 : Int) (x2 : Int) (post : Int → Prop) : Prop :=
  (0 ≤ ((x1 * 16) + x2) ∧ ((x1 * 16) + x2) < 256) ∧ post (B 10 ((x1 * 16) + x2).toNat)
def zp_CP_changeWay (B : AA) (x1 : Int) (x2 : Int) (x3 : Int) (post : AA → Prop) : Prop :=
  (0 ≤ ((x1 * 16) + x2) ∧ ((x1 * 16) + x2) < 256) ∧ ∀ S_2, S_2 = zU B 10 ((x1 * 16) + x2).toNat x3 → post S_2
def zp_CP_hasLink (B : AA) (x1 : Int) (post : Int → Prop) : Prop :=
  rg x1 ∧ ((x1 < 0 → post 0) ∧ (¬ x1 < 0 → rg x1 ∧ rg (B 1 1) ∧ (((B 1 1) ≤ x1 → post 0) ∧ (¬ (B 1 1) ≤ x1 → post 1))))
def zp_CP_hasChannel (B : AA) (x1 : Int) (post : Int → Prop) : Prop :=
  rg x1 ∧ ((x1 < 0 → post 0) ∧ (¬ x1 < 0 → rn x1 ∧ zp_CP_hasLink B (x1 / 4) (fun r_4 => rg r_4 ∧ ((r_4 = 0 → post 0) ∧ (¬ r_4 = 0 → rn x1 ∧ rn x1 ∧ (0 ≤ (x1 / 4) ∧ (x1 / 4) < 40) ∧ rg (x1 % 4) ∧ rg (B 8 (x1 / 4).toNat) ∧ (((B 8 (x1 / 4).toNat) ≤ (x1 % 4) → post 0) ∧ (¬ (B 8 (x1 / 4).toNat) ≤ (x1 % 4) → post 1)))))))
def zp_CP_beginOf (B : AA) (x1 : Int) (post : Int → Prop) : Prop :=
  rn x1 ∧ (0 ≤ (x1 / 4) ∧ (x1 / 4) < 40) ∧ post (B 6 (x1 / 4).toNat)
def zp_CP_canBeTaken (B : AA) (x1 : Int) (x2 : Int) (post : Int → Prop) : Prop :=
  zp_CP_hasChannel B x2 (fun r_1 => rg r_1 ∧ ((r_1 = 0 → post 0) ∧ (¬ r_1 = 0 → zp_CP_beginOf B x2 (fun r_4 => rg r_4 ∧ rg x1 ∧ ((¬ r_4 = x1 → post 0) ∧ (r_4 = x1 → rn x2 ∧ (0 ≤ (x2 / 4) ∧ (x2 / 4) < 40) ∧ rg (B 9 (x2 / 4).toNat) ∧ ((¬ (B 9 (x2 / 4).toNat) = 0 → post 0) ∧ ((B 9 (x2 / 4).toNat) = 0 → post 1))))))))
def zp_CN_route (B : AA) (x1 : Int) (x2 : Int) (x3 : Int) (post : Int → AA → Prop) (xp : String → AA → Prop) : Prop :=
  zp_CP_hasTwoNodes B x1 x2 (fun r_1 => rg r_1 ∧ ((¬ r_1 = 0 → rg x3 ∧ ((x3 = (-1) → zp_CP_wayAt B x1 x2 (fun r_6 => zp_CP_changeWay B x1 x2 x3 (fun S_7 => post r_6 S_7))) ∧ (¬ x3 = (-1) → zp_CP_canBeTaken B x1 x3 (fun r_8 => rg r_8 ∧ ((¬ r_8 = 0 → zp_CP_wayAt B x1 x2 (fun r_11 => zp_CP_changeWay B x1 x2 x3 (fun S_12 => post r_11 S_12))) ∧ (r_8 = 0 → xp "java/lang/IllegalArgumentException" B)))))) ∧ (r_1 = 0 → xp "java/lang/IllegalArgumentException" B)))
def zp_CP_bringsNearer (B : AA) (x1 : Int) (x2 : Int) (post : Int → Prop) : Prop :=
  (0 ≤ x1 ∧ x1 < 40) ∧ rg (B 9 x1.toNat) ∧ ((¬ (B 9 x1.toNat) = 0 → post 0) ∧ ((B 9 x1.toNat) = 0 → (0 ≤ x1 ∧ x1 < 40) ∧ (0 ≤ (B 6 x1.toNat) ∧ (B 6 x1.toNat) < 16) ∧ rg (B 11 (B 6 x1.toNat).toNat) ∧ ((¬ (B 11 (B 6 x1.toNat).toNat) = (-1) → post 0) ∧ ((B 11 (B 6 x1.toNat).toNat) = (-1) → (0 ≤ x1 ∧ x1 < 40) ∧ (0 ≤ (B 7 x1.toNat) ∧ (B 7 x1.toNat) < 16) ∧ rg (B 11 (B 7 x1.toNat).toNat) ∧ rg (x2 - 1) ∧ ((¬ (B 11 (B 7 x1.toNat).toNat) = (x2 - 1) → post 0) ∧ ((B 11 (B 7 x1.toNat).toNat) = (x2 - 1) → post 1))))))
def ze_CP_makeWaysTo_116 (B : AA) (x2 : Int) (post : Int → AA → Prop) : Prop :=
  post x2 B
def ze_CP_makeWaysTo_110 (B : AA) (x1 : Int) (x2 : Int) (x3 : Int) (ag : AA → Int → Int → Prop) (ex : AA → Int → Int → Prop) (post : Int → AA → Prop) : Prop :=
  ag B x2 (x3 + 1)
def zl_CP_makeWaysTo_53 (x1 : Int) (x3 : Int) (ex : AA → Int → Int → Prop) (post : Int → AA → Prop) : Nat → AA → Int → Int → Prop
  | 0, _, _, _ => False
  | k + 1, B, x2, x4 =>
    rg x4 ∧ rg (B 1 1) ∧ (((B 1 1) ≤ x4 → ex B x2 x4) ∧ (¬ (B 1 1) ≤ x4 → zp_CP_bringsNearer B x4 x3 (fun r_10 => rg r_10 ∧ ((r_10 = 0 → zl_CP_makeWaysTo_53 x1 x3 ex post k B x2 (x4 + 1)) ∧ (¬ r_10 = 0 → (0 ≤ x4 ∧ x4 < 40) ∧ (0 ≤ (B 6 x4.toNat) ∧ (B 6 x4.toNat) < 16) ∧ ∀ S_15, S_15 = zU B 11 (B 6 x4.toNat).toNat x3 → (0 ≤ x4 ∧ x4 < 40) ∧ zp_CP_changeWay S_15 (S_15 6 x4.toNat) x1 (x4 * 4) (fun S_17 => zl_CP_makeWaysTo_53 x1 x3 ex post k S_17 (x2 + 1) (x4 + 1)))))))
def zl_CP_makeWaysTo_42 (x1 : Int) (ex : AA → Int → Int → Prop) (post : Int → AA → Prop) : Nat → AA → Int → Int → Prop
  | 0, _, _, _ => False
  | k + 1, B, x2, x3 =>
    rg x3 ∧ rg (B 1 0) ∧ (((B 1 0) ≤ x3 → ex B x2 x3) ∧ (¬ (B 1 0) ≤ x3 → (∃ j53, zl_CP_makeWaysTo_53 x1 x3 (fun B' y2 y4 => ze_CP_makeWaysTo_110 B' x1 y2 x3 (zl_CP_makeWaysTo_42 x1 ex post k) ex post) post j53 B x2 0)))
def ze_CP_makeWaysTo_38 (B : AA) (x1 : Int) (post : Int → AA → Prop) : Prop :=
  (∃ j42, zl_CP_makeWaysTo_42 x1 (fun B' y2 y3 => ze_CP_makeWaysTo_116 B' y2 post) post j42 B 0 1)
def zl_CP_makeWaysTo_17 (x1 : Int) (ex : AA → Int → Prop) (post : Int → AA → Prop) : Nat → AA → Int → Prop
  | 0, _, _ => False
  | k + 1, B, x2 =>
    rg x2 ∧ rg (B 1 0) ∧ (((B 1 0) ≤ x2 → ex B x2) ∧ (¬ (B 1 0) ≤ x2 → zp_CP_changeWay B x2 x1 (-1) (fun S_23 => zl_CP_makeWaysTo_17 x1 ex post k S_23 (x2 + 1))))
def zp_CP_makeWaysTo (B : AA) (x1 : Int) (post : Int → AA → Prop) : Prop :=
  ∀ S_1, S_1 = zF B 11 16 (-1) → (0 ≤ x1 ∧ x1 < 16) ∧ ∀ S_3, S_3 = zU S_1 11 x1.toNat 0 → (∃ j17, zl_CP_makeWaysTo_17 x1 (fun B' y2 => ze_CP_makeWaysTo_38 B' x1 post) post j17 S_3 0)
def zp_CN_routes (B : AA) (x1 : Int) (post : Int → AA → Prop) (xp : String → AA → Prop) : Prop :=
  zp_CP_hasNode B x1 (fun r_1 => rg r_1 ∧ ((¬ r_1 = 0 → zp_CP_makeWaysTo B x1 (fun r_4 S_4 => post r_4 S_4)) ∧ (r_1 = 0 → xp "java/lang/IllegalArgumentException" B)))
def ze_CP_breakLink_56 (B : AA) (x2 : Int) (post : Int → AA → Prop) : Prop :=
  post x2 B
def zl_CP_breakLink_11 (x1 : Int) (ex : AA → Int → Int → Prop) (post : Int → AA → Prop) : Nat → AA → Int → Int → Prop
  | 0, _, _, _ => False
  | k + 1, B, x2, x3 =>
    rg x3 ∧ ((256 ≤ x3 → ex B x2 x3) ∧ (¬ 256 ≤ x3 → (0 ≤ x3 ∧ x3 < 256) ∧ rg (B 10 x3.toNat) ∧ (((B 10 x3.toNat) = (-1) → zl_CP_breakLink_11 x1 ex post k B x2 (x3 + 1)) ∧ (¬ (B 10 x3.toNat) = (-1) → (0 ≤ x3 ∧ x3 < 256) ∧ rn (B 10 x3.toNat) ∧ rg ((B 10 x3.toNat) / 4) ∧ rg x1 ∧ ((¬ ((B 10 x3.toNat) / 4) = x1 → zl_CP_breakLink_11 x1 ex post k B x2 (x3 + 1)) ∧ (((B 10 x3.toNat) / 4) = x1 → (0 ≤ x3 ∧ x3 < 256) ∧ ∀ S_14, S_14 = zU B 10 x3.toNat (-1) → zl_CP_breakLink_11 x1 ex post k S_14 (x2 + 1) (x3 + 1)))))))
def zp_CP_breakLink (B : AA) (x1 : Int) (post : Int → AA → Prop) : Prop :=
  (0 ≤ x1 ∧ x1 < 40) ∧ ∀ S_2, S_2 = zU B 9 x1.toNat 1 → (∃ j11, zl_CP_breakLink_11 x1 (fun B' y2 y3 => ze_CP_breakLink_56 B' y2 post) post j11 S_2 0 0)
def zp_CN_fail (B : AA) (x1 : Int) (post : Int → AA → Prop) (xp : String → AA → Prop) : Prop :=
  zp_CP_hasLink B x1 (fun r_1 => rg r_1 ∧ ((r_1 = 0 → xp "java/lang/IllegalArgumentException" B) ∧ (¬ r_1 = 0 → (0 ≤ x1 ∧ x1 < 40) ∧ rg (B 9 x1.toNat) ∧ (((B 9 x1.toNat) = 0 → zp_CP_breakLink B x1 (fun r_7 S_7 => post r_7 S_7)) ∧ (¬ (B 9 x1.toNat) = 0 → xp "java/lang/IllegalArgumentException" B)))))
def zp_CK_add (B : AA) (x1 : Int) (x2 : Int) (post : Int → AA → Prop) : Prop :=
  ∀ v_1, v_1 = B 2 0 → (0 ≤ v_1 ∧ v_1 < 400) ∧ ∀ S_3, S_3 = zU B 12 v_1.toNat x1 → (0 ≤ v_1 ∧ v_1 < 400) ∧ ∀ S_5, S_5 = zU S_3 13 v_1.toNat x2 → (0 ≤ v_1 ∧ v_1 < 400) ∧ ∀ S_7, S_7 = zU S_5 14 v_1.toNat x2 → ∀ S_8, S_8 = zU S_7 2 0 ((S_7 2 0) + 1) → post v_1 S_8
def zp_CI_lineUp (B : AA) (x1 : Int) (x2 : Int) (post : AA → Prop) : Prop :=
  (0 ≤ x1 ∧ x1 < 16) ∧ ∀ v_2, v_2 = B 18 x1.toNat → (0 ≤ x1 ∧ x1 < 16) ∧ rg (B 17 x1.toNat) ∧ (((B 17 x1.toNat) = (-1) → (0 ≤ x1 ∧ x1 < 16) ∧ ∀ S_7, S_7 = zU B 17 x1.toNat x2 → (0 ≤ x1 ∧ x1 < 16) ∧ ∀ S_9, S_9 = zU S_7 18 x1.toNat x2 → post S_9) ∧ (¬ (B 17 x1.toNat) = (-1) → rg v_2 ∧ ((¬ v_2 = (-1) → (0 ≤ v_2 ∧ v_2 < 400) ∧ ∀ S_13, S_13 = zU B 19 v_2.toNat x2 → (0 ≤ x1 ∧ x1 < 16) ∧ ∀ S_15, S_15 = zU S_13 18 x1.toNat x2 → post S_15) ∧ (v_2 = (-1) → (0 ≤ x1 ∧ x1 < 16) ∧ ∀ S_17, S_17 = zU B 17 x1.toNat x2 → (0 ≤ x1 ∧ x1 < 16) ∧ ∀ S_19, S_19 = zU S_17 18 x1.toNat x2 → post S_19))))
def zp_CN_addPacket (B : AA) (x1 : Int) (x2 : Int) (x3 : Int) (post : Int → AA → Prop) : Prop :=
  zp_CK_add B x2 x3 (fun r_1 S_1 => zp_CI_lineUp S_1 x1 r_1 (fun S_2 => post r_1 S_2))
def zp_CN_send (B : AA) (x1 : Int) (x2 : Int) (x3 : Int) (post : Int → AA → Prop) (xp : String → AA → Prop) : Prop :=
  zp_CP_hasNode B x1 (fun r_1 => rg r_1 ∧ ((r_1 = 0 → xp "java/lang/IllegalArgumentException" B) ∧ (¬ r_1 = 0 → zp_CP_hasNode B x2 (fun r_4 => rg r_4 ∧ ((¬ r_4 = 0 → rg x3 ∧ ((x3 < 1 → xp "java/lang/IllegalArgumentException" B) ∧ (¬ x3 < 1 → rg x3 ∧ ((x3 ≤ 16 → rg (B 2 0) ∧ (((B 2 0) < 400 → zp_CN_addPacket B x1 x2 x3 (fun r_13 S_13 => post r_13 S_13)) ∧ (¬ (B 2 0) < 400 → xp "java/lang/UnsupportedOperationException" B))) ∧ (¬ x3 ≤ 16 → xp "java/lang/IllegalArgumentException" B))))) ∧ (r_4 = 0 → xp "java/lang/IllegalArgumentException" B))))))
def zp_CN_drawn (B : AA) (post : Int → AA → Prop) : Prop :=
  ∀ S_1, S_1 = zU B 0 5 (((1103515245 * (B 0 5)) + 12345) % 2147483648) → rn (S_1 0 5) ∧ post ((S_1 0 5) / 65536) S_1
def ze_CN_load_127 (B : AA) (post : Int → AA → Prop) (xp : String → AA → Prop) : Prop :=
  post ((B 2 0) - 1) B
def zl_CN_load_68 (x1 : Int) (ex : AA → Int → Prop) (post : Int → AA → Prop) (xp : String → AA → Prop) : Nat → AA → Int → Prop
  | 0, _, _ => False
  | k + 1, B, x2 =>
    rg x2 ∧ rg x1 ∧ ((x1 ≤ x2 → ex B x2) ∧ (¬ x1 ≤ x2 → zp_CN_drawn B (fun r_12 S_12 => rn r_12 ∧ (0 < (S_12 1 0) ∧ (S_12 1 0) < 2147483648) ∧ ∀ v_14, v_14 = r_12 % (S_12 1 0) → zp_CN_drawn S_12 (fun r_15 S_15 => rn r_15 ∧ (0 < (S_15 1 0) ∧ (S_15 1 0) < 2147483648) ∧ ∀ v_17, v_17 = r_15 % (S_15 1 0) → zp_CN_drawn S_15 (fun r_18 S_18 => rn r_18 ∧ ∀ v_20, v_20 = 1 + (r_18 % 8) → zp_CN_addPacket S_18 v_14 v_17 v_20 (fun r_21 S_21 => zl_CN_load_68 x1 ex post xp k S_21 (x2 + 1)))))))
def zp_CN_load (B : AA) (x1 : Int) (post : Int → AA → Prop) (xp : String → AA → Prop) : Prop :=
  rg x1 ∧ ((x1 < 1 → xp "java/lang/IllegalArgumentException" B) ∧ (¬ x1 < 1 → rg x1 ∧ ((x1 ≤ 50 → rg (B 1 0) ∧ ((¬ (B 1 0) = 0 → rg ((B 2 0) + x1) ∧ ((((B 2 0) + x1) ≤ 400 → (∃ j68, zl_CN_load_68 x1 (fun B' y2 => ze_CN_load_127 B' post xp) post xp j68 B 0)) ∧ (¬ ((B 2 0) + x1) ≤ 400 → xp "java/lang/UnsupportedOperationException" B))) ∧ ((B 1 0) = 0 → xp "java/lang/IllegalStateException" B))) ∧ (¬ x1 ≤ 50 → xp "java/lang/IllegalArgumentException" B))))
def zp_CI_inUse (B : AA) (post : Int → Prop) : Prop :=
  post (16 + ((B 1 1) * 4))
def zp_CK_firstWaiting (B : AA) (x1 : Int) (post : Int → Prop) : Prop :=
  (0 ≤ x1 ∧ x1 < 400) ∧ (0 ≤ x1 ∧ x1 < 400) ∧ post (((x1 * 16) + (B 13 x1.toNat)) - (B 14 x1.toNat))
def zp_CI_frontOf (B : AA) (x1 : Int) (post : Int → Prop) : Prop :=
  rg x1 ∧ ((x1 < 16 → (0 ≤ x1 ∧ x1 < 16) ∧ ∀ v_4, v_4 = B 17 x1.toNat → rg v_4 ∧ ((¬ v_4 = (-1) → zp_CK_firstWaiting B v_4 (fun r_7 => post r_7)) ∧ (v_4 = (-1) → post (-1)))) ∧ (¬ x1 < 16 → ∀ v_8, v_8 = x1 - 16 → (0 ≤ v_8 ∧ v_8 < 160) ∧ (0 ≤ v_8 ∧ v_8 < 160) ∧ rg (B 21 v_8.toNat) ∧ rg (B 22 v_8.toNat) ∧ (((B 21 v_8.toNat) ≤ (B 22 v_8.toNat) → post (-1)) ∧ (¬ (B 21 v_8.toNat) ≤ (B 22 v_8.toNat) → (0 ≤ (v_8 * 4) ∧ (v_8 * 4) < 640) ∧ post (B 20 (v_8 * 4).toNat)))))
def zp_CK_isHead (B : AA) (x1 : Int) (post : Int → Prop) : Prop :=
  rn x1 ∧ rg (x1 % 16) ∧ ((¬ (x1 % 16) = 0 → post 0) ∧ ((x1 % 16) = 0 → post 1))
def zp_CP_endOf (B : AA) (x1 : Int) (post : Int → Prop) : Prop :=
  rn x1 ∧ (0 ≤ (x1 / 4) ∧ (x1 / 4) < 40) ∧ post (B 7 (x1 / 4).toNat)
def zp_CI_nodeOf (B : AA) (x1 : Int) (post : Int → Prop) : Prop :=
  rg x1 ∧ ((16 ≤ x1 → zp_CP_endOf B (x1 - 16) (fun r_3 => post r_3)) ∧ (¬ 16 ≤ x1 → post x1))
def zp_CK_endOf (B : AA) (x1 : Int) (post : Int → Prop) : Prop :=
  rn x1 ∧ (0 ≤ (x1 / 16) ∧ (x1 / 16) < 400) ∧ post (B 12 (x1 / 16).toNat)
def zp_CT_channelToGet (B : AA) (x1 : Int) (post : Int → Prop) : Prop :=
  zp_CI_frontOf B x1 (fun r_1 => rg r_1 ∧ ((r_1 = (-1) → post (-1)) ∧ (¬ r_1 = (-1) → zp_CK_isHead B r_1 (fun r_4 => rg r_4 ∧ ((r_4 = 0 → post (-1)) ∧ (¬ r_4 = 0 → (0 ≤ x1 ∧ x1 < 176) ∧ rg (B 23 x1.toNat) ∧ (((B 23 x1.toNat) = (-1) → zp_CI_nodeOf B x1 (fun r_10 => zp_CK_endOf B r_1 (fun r_11 => zp_CP_wayAt B r_10 r_11 (fun r_12 => rg r_12 ∧ ((r_12 = (-1) → post (-1)) ∧ (¬ r_12 = (-1) → (0 ≤ r_12 ∧ r_12 < 160) ∧ rg (B 24 r_12.toNat) ∧ (((B 24 r_12.toNat) = (-1) → post r_12) ∧ (¬ (B 24 r_12.toNat) = (-1) → post (-1))))))))) ∧ (¬ (B 23 x1.toNat) = (-1) → post (-1)))))))))
def zp_CK_packetOf (B : AA) (x1 : Int) (post : Int → Prop) : Prop :=
  rn x1 ∧ post (x1 / 16)
def ze_CT_askAll_69 (B : AA) (x1 : Int) (post : Int → AA → Prop) : Prop :=
  ((x1 = 0 ∨ x1 = 1) ∧ post x1 B)
def zl_CT_askAll_4 (ex : AA → Int → Int → Prop) (post : Int → AA → Prop) : Nat → AA → Int → Int → Prop
  | 0, _, _, _ => False
  | k + 1, B, x1, x2 =>
    zp_CI_inUse B (fun r_1 => rg x2 ∧ rg r_1 ∧ ((r_1 ≤ x2 → ex B x1 x2) ∧ (¬ r_1 ≤ x2 → zp_CT_channelToGet B x2 (fun r_5 => rg r_5 ∧ ((r_5 = (-1) → zl_CT_askAll_4 ex post k B x1 (x2 + 1)) ∧ (¬ r_5 = (-1) → (0 ≤ x2 ∧ x2 < 176) ∧ ∀ S_9, S_9 = zU B 23 x2.toNat r_5 → (0 ≤ r_5 ∧ r_5 < 160) ∧ ∀ S_11, S_11 = zU S_9 24 r_5.toNat x2 → zp_CI_frontOf S_11 x2 (fun r_12 => zp_CK_packetOf S_11 r_12 (fun r_13 => (0 ≤ r_5 ∧ r_5 < 160) ∧ ∀ S_15, S_15 = zU S_11 25 r_5.toNat r_13 → zl_CT_askAll_4 ex post k S_15 1 (x2 + 1)))))))))
def zp_CT_askAll (B : AA) (post : Int → AA → Prop) : Prop :=
  (∃ j4, zl_CT_askAll_4 (fun B' y1 y2 => ze_CT_askAll_69 B' y1 post) post j4 B 0 0)
def zp_CI_hasRoom (B : AA) (x1 : Int) (post : Int → Prop) : Prop :=
  (0 ≤ x1 ∧ x1 < 160) ∧ rg (B 21 x1.toNat) ∧ ((4 ≤ (B 21 x1.toNat) → post 0) ∧ (¬ 4 ≤ (B 21 x1.toNat) → post 1))
def zp_CT_canMoveInto (B : AA) (x1 : Int) (post : Int → Prop) : Prop :=
  (0 ≤ x1 ∧ x1 < 160) ∧ ∀ v_2, v_2 = B 24 x1.toNat → rg v_2 ∧ ((v_2 = (-1) → post 0) ∧ (¬ v_2 = (-1) → zp_CI_frontOf B v_2 (fun r_5 => rg r_5 ∧ ((r_5 = (-1) → post 0) ∧ (¬ r_5 = (-1) → zp_CI_hasRoom B x1 (fun r_8 => rg r_8 ∧ ((r_8 = 0 → post 0) ∧ (¬ r_8 = 0 → post 1))))))))
def ze_CT_laneToMove_65 (B : AA) (post : Int → Prop) : Prop :=
  post (-1)
def zl_CT_laneToMove_9 (B : AA) (x1 : Int) (ex : Int → Int → Prop) (post : Int → Prop) : Nat → Int → Int → Prop
  | 0, _, _ => False
  | k + 1, x2, x3 =>
    (0 ≤ x1 ∧ x1 < 40) ∧ rg x3 ∧ rg (B 8 x1.toNat) ∧ (((B 8 x1.toNat) ≤ x3 → ex x2 x3) ∧ (¬ (B 8 x1.toNat) ≤ x3 → (0 ≤ x1 ∧ x1 < 40) ∧ rg (x2 + 1) ∧ rg (B 8 x1.toNat) ∧ (((B 8 x1.toNat) ≤ (x2 + 1) → zp_CT_canMoveInto B ((x1 * 4) + 0) (fun r_11 => rg r_11 ∧ ((r_11 = 0 → zl_CT_laneToMove_9 B x1 ex post k 0 (x3 + 1)) ∧ (¬ r_11 = 0 → post 0)))) ∧ (¬ (B 8 x1.toNat) ≤ (x2 + 1) → ∀ v_14, v_14 = x2 + 1 → zp_CT_canMoveInto B ((x1 * 4) + v_14) (fun r_15 => rg r_15 ∧ ((r_15 = 0 → zl_CT_laneToMove_9 B x1 ex post k v_14 (x3 + 1)) ∧ (¬ r_15 = 0 → post v_14)))))))
def zp_CT_laneToMove (B : AA) (x1 : Int) (post : Int → Prop) : Prop :=
  (0 ≤ x1 ∧ x1 < 40) ∧ ∀ v_2, v_2 = B 27 x1.toNat → (∃ j9, zl_CT_laneToMove_9 B x1 (fun y2 y3 => ze_CT_laneToMove_65 B post) post j9 v_2 0)
def ze_CI_dropFromBuffer_40 (B : AA) (x1 : Int) (post : AA → Prop) : Prop :=
  (0 ≤ x1 ∧ x1 < 160) ∧ (0 ≤ x1 ∧ x1 < 160) ∧ ∀ S_4, S_4 = zU B 21 x1.toNat ((B 21 x1.toNat) - 1) → post S_4
def zl_CI_dropFromBuffer_6 (x1 : Int) (x2 : Int) (ex : AA → Int → Prop) (post : AA → Prop) : Nat → AA → Int → Prop
  | 0, _, _ => False
  | k + 1, B, x3 =>
    (0 ≤ x1 ∧ x1 < 160) ∧ rg x3 ∧ rg (B 21 x1.toNat) ∧ (((B 21 x1.toNat) ≤ x3 → ex B x3) ∧ (¬ (B 21 x1.toNat) ≤ x3 → (0 ≤ (x2 + x3) ∧ (x2 + x3) < 640) ∧ (0 ≤ ((x2 + x3) - 1) ∧ ((x2 + x3) - 1) < 640) ∧ ∀ S_11, S_11 = zU B 20 ((x2 + x3) - 1).toNat (B 20 (x2 + x3).toNat) → zl_CI_dropFromBuffer_6 x1 x2 ex post k S_11 (x3 + 1)))
def zp_CI_dropFromBuffer (B : AA) (x1 : Int) (post : AA → Prop) : Prop :=
  ∀ v_1, v_1 = x1 * 4 → (∃ j6, zl_CI_dropFromBuffer_6 x1 v_1 (fun B' y3 => ze_CI_dropFromBuffer_40 B' x1 post) post j6 B 1)
def zp_CI_dropFromQueue (B : AA) (x1 : Int) (post : AA → Prop) : Prop :=
  (0 ≤ x1 ∧ x1 < 16) ∧ ∀ v_2, v_2 = B 17 x1.toNat → rg v_2 ∧ ((¬ v_2 = (-1) → (0 ≤ v_2 ∧ v_2 < 400) ∧ (0 ≤ v_2 ∧ v_2 < 400) ∧ ∀ S_7, S_7 = zU B 14 v_2.toNat ((B 14 v_2.toNat) - 1) → (0 ≤ v_2 ∧ v_2 < 400) ∧ rg (S_7 14 v_2.toNat) ∧ ((¬ (S_7 14 v_2.toNat) = 0 → post S_7) ∧ ((S_7 14 v_2.toNat) = 0 → (0 ≤ v_2 ∧ v_2 < 400) ∧ (0 ≤ x1 ∧ x1 < 16) ∧ ∀ S_13, S_13 = zU S_7 17 x1.toNat (S_7 19 v_2.toNat) → post S_13))) ∧ (v_2 = (-1) → post B))
def zp_CI_dropFront (B : AA) (x1 : Int) (post : AA → Prop) : Prop :=
  rg x1 ∧ ((16 ≤ x1 → zp_CI_dropFromBuffer B (x1 - 16) (fun S_3 => post S_3)) ∧ (¬ 16 ≤ x1 → zp_CI_dropFromQueue B x1 (fun S_4 => post S_4)))
def zp_CI_put (B : AA) (x1 : Int) (x2 : Int) (post : AA → Prop) : Prop :=
  (0 ≤ x1 ∧ x1 < 160) ∧ (0 ≤ ((x1 * 4) + (B 21 x1.toNat)) ∧ ((x1 * 4) + (B 21 x1.toNat)) < 640) ∧ ∀ S_3, S_3 = zU B 20 ((x1 * 4) + (B 21 x1.toNat)).toNat x2 → (0 ≤ x1 ∧ x1 < 160) ∧ (0 ≤ x1 ∧ x1 < 160) ∧ ∀ S_6, S_6 = zU S_3 21 x1.toNat ((S_3 21 x1.toNat) + 1) → (0 ≤ x1 ∧ x1 < 160) ∧ (0 ≤ x1 ∧ x1 < 160) ∧ ∀ S_9, S_9 = zU S_6 22 x1.toNat ((S_6 22 x1.toNat) + 1) → post S_9
def zp_CK_isTail (B : AA) (x1 : Int) (post : Int → Prop) : Prop :=
  rn x1 ∧ rn x1 ∧ (0 ≤ (x1 / 16) ∧ (x1 / 16) < 400) ∧ rg (x1 % 16) ∧ rg ((B 13 (x1 / 16).toNat) - 1) ∧ ((¬ (x1 % 16) = ((B 13 (x1 / 16).toNat) - 1) → post 0) ∧ ((x1 % 16) = ((B 13 (x1 / 16).toNat) - 1) → post 1))
def zp_CT_moveInto (B : AA) (x1 : Int) (post : AA → Prop) : Prop :=
  (0 ≤ x1 ∧ x1 < 160) ∧ ∀ v_2, v_2 = B 24 x1.toNat → rg v_2 ∧ ((¬ v_2 = (-1) → zp_CI_frontOf B v_2 (fun r_5 => rg r_5 ∧ ((¬ r_5 = (-1) → zp_CI_dropFront B v_2 (fun S_8 => zp_CI_put S_8 x1 r_5 (fun S_9 => (0 ≤ x1 ∧ x1 < 160) ∧ (0 ≤ x1 ∧ x1 < 160) ∧ ∀ S_12, S_12 = zU S_9 26 x1.toNat ((S_9 26 x1.toNat) + 1) → ∀ S_13, S_13 = zU S_12 4 9 ((S_12 4 9) + 1) → zp_CK_isTail S_13 r_5 (fun r_14 => rg r_14 ∧ ((r_14 = 0 → post S_13) ∧ (¬ r_14 = 0 → (0 ≤ v_2 ∧ v_2 < 176) ∧ ∀ S_18, S_18 = zU S_13 23 v_2.toNat (-1) → (0 ≤ x1 ∧ x1 < 160) ∧ ∀ S_20, S_20 = zU S_18 24 x1.toNat (-1) → (0 ≤ x1 ∧ x1 < 160) ∧ ∀ S_22, S_22 = zU S_20 25 x1.toNat (-1) → post S_22)))))) ∧ (r_5 = (-1) → post B)))) ∧ (v_2 = (-1) → post B))
def ze_CT_moveAll_50 (B : AA) (x1 : Int) (post : Int → AA → Prop) : Prop :=
  ((x1 = 0 ∨ x1 = 1) ∧ post x1 B)
def zl_CT_moveAll_4 (ex : AA → Int → Int → Prop) (post : Int → AA → Prop) : Nat → AA → Int → Int → Prop
  | 0, _, _, _ => False
  | k + 1, B, x1, x2 =>
    rg x2 ∧ rg (B 1 1) ∧ (((B 1 1) ≤ x2 → ex B x1 x2) ∧ (¬ (B 1 1) ≤ x2 → zp_CT_laneToMove B x2 (fun r_4 => rg r_4 ∧ ((r_4 = (-1) → zl_CT_moveAll_4 ex post k B x1 (x2 + 1)) ∧ (¬ r_4 = (-1) → (0 ≤ x2 ∧ x2 < 40) ∧ ∀ S_8, S_8 = zU B 27 x2.toNat r_4 → zp_CT_moveInto S_8 ((x2 * 4) + r_4) (fun S_9 => zl_CT_moveAll_4 ex post k S_9 1 (x2 + 1)))))))
def zp_CT_moveAll (B : AA) (post : Int → AA → Prop) : Prop :=
  (∃ j4, zl_CT_moveAll_4 (fun B' y1 y2 => ze_CT_moveAll_50 B' y1 post) post j4 B 0 0)
def zp_CT_flitToLeave (B : AA) (x1 : Int) (post : Int → Prop) : Prop :=
  zp_CI_frontOf B x1 (fun r_1 => rg r_1 ∧ ((r_1 = (-1) → post (-1)) ∧ (¬ r_1 = (-1) → zp_CK_endOf B r_1 (fun r_4 => zp_CI_nodeOf B x1 (fun r_5 => rg r_4 ∧ rg r_5 ∧ ((¬ r_4 = r_5 → post (-1)) ∧ (r_4 = r_5 → post r_1)))))))
def zp_CK_leave (B : AA) (x1 : Int) (x2 : Int) (post : AA → Prop) : Prop :=
  zp_CK_packetOf B x1 (fun r_1 => (0 ≤ r_1 ∧ r_1 < 400) ∧ (0 ≤ r_1 ∧ r_1 < 400) ∧ ∀ S_4, S_4 = zU B 15 r_1.toNat ((B 15 r_1.toNat) + 1) → zp_CK_isTail S_4 x1 (fun r_5 => rg r_5 ∧ ((r_5 = 0 → post S_4) ∧ (¬ r_5 = 0 → (0 ≤ r_1 ∧ r_1 < 400) ∧ ∀ S_9, S_9 = zU S_4 16 r_1.toNat x2 → ∀ S_10, S_10 = zU S_9 2 1 ((S_9 2 1) + 1) → post S_10))))
def ze_CT_leaveAll_54 (B : AA) (x1 : Int) (post : Int → AA → Prop) : Prop :=
  ((x1 = 0 ∨ x1 = 1) ∧ post x1 B)
def zl_CT_leaveAll_4 (ex : AA → Int → Int → Prop) (post : Int → AA → Prop) : Nat → AA → Int → Int → Prop
  | 0, _, _, _ => False
  | k + 1, B, x1, x2 =>
    zp_CI_inUse B (fun r_1 => rg x2 ∧ rg r_1 ∧ ((r_1 ≤ x2 → ex B x1 x2) ∧ (¬ r_1 ≤ x2 → zp_CT_flitToLeave B x2 (fun r_5 => rg r_5 ∧ ((r_5 = (-1) → zl_CT_leaveAll_4 ex post k B x1 (x2 + 1)) ∧ (¬ r_5 = (-1) → zp_CK_leave B r_5 (B 4 8) (fun S_8 => zp_CI_dropFront S_8 x2 (fun S_9 => zl_CT_leaveAll_4 ex post k S_9 1 (x2 + 1)))))))))
def zp_CT_leaveAll (B : AA) (post : Int → AA → Prop) : Prop :=
  (∃ j4, zl_CT_leaveAll_4 (fun B' y1 y2 => ze_CT_leaveAll_54 B' y1 post) post j4 B 0 0)
def zp_CI_endCycle (B : AA) (post : AA → Prop) : Prop :=
  ∀ S_1, S_1 = zF B 22 160 0 → post S_1
def zp_CT_goOneCycle (B : AA) (post : Int → AA → Prop) : Prop :=
  ∀ S_1, S_1 = zU B 4 8 ((B 4 8) + 1) → zp_CT_askAll S_1 (fun r_2 S_2 => zp_CT_moveAll S_2 (fun r_3 S_3 => zp_CT_leaveAll S_3 (fun r_4 S_4 => zp_CI_endCycle S_4 (fun S_5 => rg r_2 ∧ ((¬ r_2 = 0 → post 1 S_5) ∧ (r_2 = 0 → rg r_3 ∧ ((¬ r_3 = 0 → post 1 S_5) ∧ (r_3 = 0 → rg r_4 ∧ ((r_4 = 0 → post 0 S_5) ∧ (¬ r_4 = 0 → post 1 S_5))))))))))
def ze_CN_run_81 (B : AA) (x2 : Int) (post : Int → AA → Prop) (xp : String → AA → Prop) : Prop :=
  post ((B 2 1) - x2) B
def zl_CN_run_35 (x1 : Int) (x2 : Int) (ex : AA → Int → Int → Prop) (post : Int → AA → Prop) (xp : String → AA → Prop) : Nat → AA → Int → Int → Prop
  | 0, _, _, _ => False
  | k + 1, B, x3, x4 =>
    rg x4 ∧ rg x1 ∧ ((x1 ≤ x4 → ex B x3 x4) ∧ (¬ x1 ≤ x4 → rg x3 ∧ ((x3 = 0 → ex B x3 x4) ∧ (¬ x3 = 0 → zp_CT_goOneCycle B (fun r_11 S_11 => rg r_11 ∧ ((¬ r_11 = 0 → zl_CN_run_35 x1 x2 ex post xp k S_11 r_11 (x4 + 1)) ∧ (r_11 = 0 → ∀ S_14, S_14 = zU S_11 4 8 ((S_11 4 8) + ((x1 - x4) - 1)) → zl_CN_run_35 x1 x2 ex post xp k S_14 r_11 (x4 + 1))))))))
def zp_CN_run (B : AA) (x1 : Int) (post : Int → AA → Prop) (xp : String → AA → Prop) : Prop :=
  rg x1 ∧ ((x1 < 1 → xp "java/lang/IllegalArgumentException" B) ∧ (¬ x1 < 1 → rg x1 ∧ ((x1 ≤ 2000 → ∀ v_5, v_5 = B 2 1 → (∃ j35, zl_CN_run_35 x1 v_5 (fun B' y3 y4 => ze_CN_run_81 B' v_5 post xp) post xp j35 B 1 0)) ∧ (¬ x1 ≤ 2000 → xp "java/lang/IllegalArgumentException" B))))
def zp_CN_packet (B : AA) (x1 : Int) (x2 : Int) (post : Int → Prop) (xp : String → AA → Prop) : Prop :=
  rg x1 ∧ ((x1 < 0 → xp "java/lang/IndexOutOfBoundsException" B) ∧ (¬ x1 < 0 → rg x1 ∧ rg (B 2 0) ∧ ((x1 < (B 2 0) → rg x2 ∧ ((x2 = 0 → (0 ≤ x1 ∧ x1 < 400) ∧ post (B 16 x1.toNat)) ∧ (x2 = 1 → (0 ≤ x1 ∧ x1 < 400) ∧ post (B 14 x1.toNat)) ∧ (x2 = 2 → (0 ≤ x1 ∧ x1 < 400) ∧ (0 ≤ x1 ∧ x1 < 400) ∧ (0 ≤ x1 ∧ x1 < 400) ∧ post (((B 13 x1.toNat) - (B 14 x1.toNat)) - (B 15 x1.toNat))) ∧ (x2 = 3 → (0 ≤ x1 ∧ x1 < 400) ∧ post (B 15 x1.toNat)) ∧ (¬ x2 = 0 → ¬ x2 = 1 → ¬ x2 = 2 → ¬ x2 = 3 → xp "java/lang/IndexOutOfBoundsException" B))) ∧ (¬ x1 < (B 2 0) → xp "java/lang/IndexOutOfBoundsException" B))))
def zp_CI_frontPacketIn (B : AA) (x1 : Int) (post : Int → Prop) : Prop :=
  (0 ≤ x1 ∧ x1 < 160) ∧ rg (B 21 x1.toNat) ∧ (((B 21 x1.toNat) ≤ 0 → post (-1)) ∧ (¬ (B 21 x1.toNat) ≤ 0 → (0 ≤ (x1 * 4) ∧ (x1 * 4) < 640) ∧ zp_CK_packetOf B (B 20 (x1 * 4).toNat) (fun r_5 => post r_5)))
def zp_CN_channel (B : AA) (x1 : Int) (x2 : Int) (post : Int → Prop) (xp : String → AA → Prop) : Prop :=
  zp_CP_hasChannel B x1 (fun r_1 => rg r_1 ∧ ((¬ r_1 = 0 → rg x2 ∧ ((x2 = 0 → (0 ≤ x1 ∧ x1 < 160) ∧ post (B 21 x1.toNat)) ∧ (x2 = 1 → (0 ≤ x1 ∧ x1 < 160) ∧ post (B 25 x1.toNat)) ∧ (x2 = 2 → zp_CI_frontPacketIn B x1 (fun r_7 => post r_7)) ∧ (x2 = 3 → (0 ≤ x1 ∧ x1 < 160) ∧ post (B 26 x1.toNat)) ∧ (¬ x2 = 0 → ¬ x2 = 1 → ¬ x2 = 2 → ¬ x2 = 3 → xp "java/lang/IndexOutOfBoundsException" B))) ∧ (r_1 = 0 → xp "java/lang/IndexOutOfBoundsException" B)))
def zp_CR_channelAfter (B : AA) (x1 : Int) (x2 : Int) (post : Int → Prop) : Prop :=
  rg x1 ∧ ((¬ x1 = (-1) → zp_CP_endOf B x1 (fun r_3 => zp_CP_wayAt B r_3 x2 (fun r_4 => post r_4))) ∧ (x1 = (-1) → post (-1)))
def ze_CR_gatherSteps_95 (B : AA) (post : AA → Prop) : Prop :=
  post B
def ze_CR_gatherSteps_89 (B : AA) (x1 : Int) (ag : AA → Int → Prop) (ex : AA → Int → Prop) (post : AA → Prop) : Prop :=
  ag B (x1 + 1)
def zl_CR_gatherSteps_23 (x1 : Int) (ex : AA → Int → Prop) (post : AA → Prop) : Nat → AA → Int → Prop
  | 0, _, _ => False
  | k + 1, B, x2 =>
    rg x2 ∧ rg (B 1 0) ∧ (((B 1 0) ≤ x2 → ex B x2) ∧ (¬ (B 1 0) ≤ x2 → zp_CP_wayAt B x1 x2 (fun r_8 => zp_CR_channelAfter B r_8 x2 (fun r_9 => rg r_9 ∧ ((r_9 = (-1) → zl_CR_gatherSteps_23 x1 ex post k B (x2 + 1)) ∧ (¬ r_9 = (-1) → ∀ v_12, v_12 = (x1 * 16) + x2 → (0 ≤ r_9 ∧ r_9 < 160) ∧ (0 ≤ v_12 ∧ v_12 < 256) ∧ ∀ S_15, S_15 = zU B 29 v_12.toNat (B 28 r_9.toNat) → (0 ≤ r_9 ∧ r_9 < 160) ∧ ∀ S_17, S_17 = zU S_15 28 r_9.toNat v_12 → zl_CR_gatherSteps_23 x1 ex post k S_17 (x2 + 1)))))))
def zl_CR_gatherSteps_10 (ex : AA → Int → Prop) (post : AA → Prop) : Nat → AA → Int → Prop
  | 0, _, _ => False
  | k + 1, B, x1 =>
    rg x1 ∧ rg (B 1 0) ∧ (((B 1 0) ≤ x1 → ex B x1) ∧ (¬ (B 1 0) ≤ x1 → (∃ j23, zl_CR_gatherSteps_23 x1 (fun B' y2 => ze_CR_gatherSteps_89 B' x1 (zl_CR_gatherSteps_10 ex post k) ex post) post j23 B 0)))
def zp_CR_gatherSteps (B : AA) (post : AA → Prop) : Prop :=
  ∀ S_1, S_1 = zF B 28 160 (-1) → (∃ j10, zl_CR_gatherSteps_10 (fun B' y1 => ze_CR_gatherSteps_95 B' post) post j10 S_1 0)
def ze_CR_closeAt_163 (B : AA) (x1 : Int) (post : Int → AA → Prop) : Prop :=
  (0 ≤ x1 ∧ x1 < 160) ∧ post (B 30 x1.toNat) B
def ze_CR_closeAt_157 (B : AA) (x1 : Int) (x2 : Int) (x3 : Int) (ag : AA → Int → Int → Prop) (ex : AA → Int → Int → Prop) (post : Int → AA → Prop) : Prop :=
  ag B x2 (x3 + 1)
def zl_CR_closeAt_60 (x1 : Int) (x3 : Int) (x4 : Int) (ex : AA → Int → Int → Int → Prop) (post : Int → AA → Prop) : Nat → AA → Int → Int → Int → Prop
  | 0, _, _, _, _ => False
  | k + 1, B, x2, x5, x6 =>
    rg x6 ∧ ((256 ≤ x6 → ex B x2 x5 x6) ∧ (¬ 256 ≤ x6 → rg x5 ∧ ((x5 = (-1) → ex B x2 x5 x6) ∧ (¬ x5 = (-1) → (0 ≤ x5 ∧ x5 < 256) ∧ ∀ v_22, v_22 = B 10 x5.toNat → rg v_22 ∧ ((v_22 = (-1) → (0 ≤ x5 ∧ x5 < 256) ∧ ∀ v_26, v_26 = B 29 x5.toNat → zl_CR_closeAt_60 x1 x3 x4 ex post k B x2 v_26 (x6 + 1)) ∧ (¬ v_22 = (-1) → (0 ≤ v_22 ∧ v_22 < 160) ∧ rg (B 30 v_22.toNat) ∧ ((¬ (B 30 v_22.toNat) = 0 → (0 ≤ x5 ∧ x5 < 256) ∧ ∀ v_31, v_31 = B 29 x5.toNat → zl_CR_closeAt_60 x1 x3 x4 ex post k B x2 v_31 (x6 + 1)) ∧ ((B 30 v_22.toNat) = 0 → (0 ≤ x4 ∧ x4 < 160) ∧ (0 ≤ v_22 ∧ v_22 < 160) ∧ ∀ S_34, S_34 = zU B 30 v_22.toNat ((B 30 x4.toNat) + 1) → rg v_22 ∧ rg x1 ∧ ((v_22 = x1 → (0 ≤ x5 ∧ x5 < 256) ∧ ∀ v_39, v_39 = S_34 29 x5.toNat → zl_CR_closeAt_60 x1 x3 x4 ex post k S_34 x2 v_39 (x6 + 1)) ∧ (¬ v_22 = x1 → rg x2 ∧ ((160 ≤ x2 → (0 ≤ x5 ∧ x5 < 256) ∧ ∀ v_43, v_43 = S_34 29 x5.toNat → zl_CR_closeAt_60 x1 x3 x4 ex post k S_34 x2 v_43 (x6 + 1)) ∧ (¬ 160 ≤ x2 → (0 ≤ x2 ∧ x2 < 160) ∧ ∀ S_45, S_45 = zU S_34 31 x2.toNat v_22 → (0 ≤ x5 ∧ x5 < 256) ∧ ∀ v_47, v_47 = S_45 29 x5.toNat → zl_CR_closeAt_60 x1 x3 x4 ex post k S_45 (x2 + 1) v_47 (x6 + 1)))))))))))))
def zl_CR_closeAt_19 (x1 : Int) (ex : AA → Int → Int → Prop) (post : Int → AA → Prop) : Nat → AA → Int → Int → Prop
  | 0, _, _, _ => False
  | k + 1, B, x2, x3 =>
    rg x3 ∧ rg x2 ∧ ((x2 ≤ x3 → ex B x2 x3) ∧ (¬ x2 ≤ x3 → rg x3 ∧ ((160 ≤ x3 → ex B x2 x3) ∧ (¬ 160 ≤ x3 → (0 ≤ x1 ∧ x1 < 160) ∧ rg (B 30 x1.toNat) ∧ ((¬ (B 30 x1.toNat) = 0 → ex B x2 x3) ∧ ((B 30 x1.toNat) = 0 → (0 ≤ x3 ∧ x3 < 160) ∧ ∀ v_14, v_14 = B 31 x3.toNat → (0 ≤ v_14 ∧ v_14 < 160) ∧ ∀ v_16, v_16 = B 28 v_14.toNat → (∃ j60, zl_CR_closeAt_60 x1 x3 v_14 (fun B' y2 y5 y6 => ze_CR_closeAt_157 B' x1 y2 x3 (zl_CR_closeAt_19 x1 ex post k) ex post) post j60 B x2 v_16 0)))))))
def zp_CR_closeAt (B : AA) (x1 : Int) (post : Int → AA → Prop) : Prop :=
  ∀ S_1, S_1 = zF B 30 160 0 → (0 ≤ (0 : Int) ∧ (0 : Int) < 160) ∧ ∀ S_3, S_3 = zU S_1 31 (0 : Int).toNat x1 → (∃ j19, zl_CR_closeAt_19 x1 (fun B' y2 y3 => ze_CR_closeAt_163 B' x1 post) post j19 S_3 1 0)
def ze_CR_search_70 (B : AA) (post : AA → Prop) : Prop :=
  post B
def zl_CR_search_16 (ex : AA → Int → Prop) (post : AA → Prop) : Nat → AA → Int → Prop
  | 0, _, _ => False
  | k + 1, B, x1 =>
    rg x1 ∧ rg ((B 1 1) * 4) ∧ ((((B 1 1) * 4) ≤ x1 → ex B x1) ∧ (¬ ((B 1 1) * 4) ≤ x1 → zp_CR_closeAt B x1 (fun r_7 S_7 => rg r_7 ∧ ((r_7 = 0 → zl_CR_search_16 ex post k S_7 (x1 + 1)) ∧ (¬ r_7 = 0 → rg (S_7 5 6) ∧ (((S_7 5 6) = 0 → ∀ S_12, S_12 = zU S_7 5 5 x1 → ∀ S_13, S_13 = zU S_12 5 6 r_7 → zl_CR_search_16 ex post k S_13 (x1 + 1)) ∧ (¬ (S_7 5 6) = 0 → rg r_7 ∧ rg (S_7 5 6) ∧ (((S_7 5 6) ≤ r_7 → zl_CR_search_16 ex post k S_7 (x1 + 1)) ∧ (¬ (S_7 5 6) ≤ r_7 → ∀ S_17, S_17 = zU S_7 5 5 x1 → ∀ S_18, S_18 = zU S_17 5 6 r_7 → zl_CR_search_16 ex post k S_18 (x1 + 1))))))))))
def zp_CR_search (B : AA) (post : AA → Prop) : Prop :=
  zp_CR_gatherSteps B (fun S_1 => ∀ S_2, S_2 = zU S_1 5 5 (-1) → ∀ S_3, S_3 = zU S_2 5 6 0 → (∃ j16, zl_CR_search_16 (fun B' y1 => ze_CR_search_70 B' post) post j16 S_3 0))
def zp_CN_ring (B : AA) (post : Int → AA → Prop) : Prop :=
  zp_CR_search B (fun S_1 => post (S_1 5 6) S_1)
def ze_CR_lowestThatCloses_90 (B : AA) (x4 : Int) (post : Int → Prop) : Prop :=
  post x4
def zl_CR_lowestThatCloses_15 (B : AA) (x1 : Int) (x2 : Int) (x3 : Int) (ex : Int → Int → Prop) (post : Int → Prop) : Nat → Int → Int → Prop
  | 0, _, _ => False
  | k + 1, x4, x5 =>
    rg x5 ∧ rg (B 1 0) ∧ (((B 1 0) ≤ x5 → ex x4 x5) ∧ (¬ (B 1 0) ≤ x5 → zp_CP_wayAt B x3 x5 (fun r_5 => rg r_5 ∧ rg x1 ∧ ((¬ r_5 = x1 → zl_CR_lowestThatCloses_15 B x1 x2 x3 ex post k x4 (x5 + 1)) ∧ (r_5 = x1 → zp_CR_channelAfter B x1 x5 (fun r_9 => rg r_9 ∧ ((r_9 = (-1) → zl_CR_lowestThatCloses_15 B x1 x2 x3 ex post k x4 (x5 + 1)) ∧ (¬ r_9 = (-1) → (0 ≤ r_9 ∧ r_9 < 160) ∧ rg (B 30 r_9.toNat) ∧ rg x2 ∧ ((¬ (B 30 r_9.toNat) = x2 → zl_CR_lowestThatCloses_15 B x1 x2 x3 ex post k x4 (x5 + 1)) ∧ ((B 30 r_9.toNat) = x2 → rg x4 ∧ ((x4 = (-1) → zl_CR_lowestThatCloses_15 B x1 x2 x3 ex post k r_9 (x5 + 1)) ∧ (¬ x4 = (-1) → rg r_9 ∧ rg x4 ∧ ((x4 ≤ r_9 → zl_CR_lowestThatCloses_15 B x1 x2 x3 ex post k x4 (x5 + 1)) ∧ (¬ x4 ≤ r_9 → zl_CR_lowestThatCloses_15 B x1 x2 x3 ex post k r_9 (x5 + 1)))))))))))))))
def zp_CR_lowestThatCloses (B : AA) (x1 : Int) (x2 : Int) (post : Int → Prop) : Prop :=
  zp_CP_beginOf B x1 (fun r_1 => (∃ j15, zl_CR_lowestThatCloses_15 B x1 x2 r_1 (fun y4 y5 => ze_CR_lowestThatCloses_90 B y4 post) post j15 (-1) 0))
def ze_CR_channelBehind_54 (B : AA) (x2 : Int) (post : Int → AA → Prop) : Prop :=
  post x2 B
def zl_CR_channelBehind_26 (B : AA) (x1 : Int) (ex : Int → Int → Prop) (post : Int → AA → Prop) : Nat → Int → Int → Prop
  | 0, _, _ => False
  | k + 1, x2, x3 =>
    rg x3 ∧ rg x1 ∧ ((x1 < x3 → ex x2 x3) ∧ (¬ x1 < x3 → rg x2 ∧ ((x2 = (-1) → ex x2 x3) ∧ (¬ x2 = (-1) → zp_CR_lowestThatCloses B x2 ((B 5 6) - x3) (fun r_10 => zl_CR_channelBehind_26 B x1 ex post k r_10 (x3 + 1))))))
def zp_CR_channelBehind (B : AA) (x1 : Int) (post : Int → AA → Prop) : Prop :=
  rg (B 5 5) ∧ ((¬ (B 5 5) = (-1) → zp_CR_closeAt B (B 5 5) (fun r_3 S_3 => ∀ v_4, v_4 = S_3 5 5 → (∃ j26, zl_CR_channelBehind_26 S_3 x1 (fun y2 y3 => ze_CR_channelBehind_54 S_3 y2 post) post j26 v_4 1))) ∧ ((B 5 5) = (-1) → post (-1) B))
def zp_CN_ringAt (B : AA) (x1 : Int) (post : Int → AA → Prop) (xp : String → AA → Prop) : Prop :=
  zp_CR_search B (fun S_1 => rg x1 ∧ ((x1 < 0 → xp "java/lang/IndexOutOfBoundsException" S_1) ∧ (¬ x1 < 0 → rg x1 ∧ rg (S_1 5 6) ∧ ((x1 < (S_1 5 6) → zp_CR_channelBehind S_1 x1 (fun r_7 S_7 => post r_7 S_7)) ∧ (¬ x1 < (S_1 5 6) → xp "java/lang/IndexOutOfBoundsException" S_1)))))
def ze_CT_isAtRest_69 (B : AA) (post : Int → Prop) : Prop :=
  post 1
def zl_CT_isAtRest_41 (B : AA) (ex : Int → Prop) (post : Int → Prop) : Nat → Int → Prop
  | 0, _ => False
  | k + 1, x1 =>
    rg x1 ∧ rg (B 1 1) ∧ (((B 1 1) ≤ x1 → ex x1) ∧ (¬ (B 1 1) ≤ x1 → zp_CT_laneToMove B x1 (fun r_4 => rg r_4 ∧ ((r_4 = (-1) → zl_CT_isAtRest_41 B ex post k (x1 + 1)) ∧ (¬ r_4 = (-1) → post 0)))))
def ze_CT_isAtRest_39 (B : AA) (post : Int → Prop) : Prop :=
  (∃ j41, zl_CT_isAtRest_41 B (fun y1 => ze_CT_isAtRest_69 B post) post j41 0)
def zl_CT_isAtRest_2 (B : AA) (ex : Int → Prop) (post : Int → Prop) : Nat → Int → Prop
  | 0, _ => False
  | k + 1, x1 =>
    zp_CI_inUse B (fun r_8 => rg x1 ∧ rg r_8 ∧ ((r_8 ≤ x1 → ex x1) ∧ (¬ r_8 ≤ x1 → zp_CT_channelToGet B x1 (fun r_12 => rg r_12 ∧ ((¬ r_12 = (-1) → post 0) ∧ (r_12 = (-1) → zp_CT_flitToLeave B x1 (fun r_15 => rg r_15 ∧ ((r_15 = (-1) → zl_CT_isAtRest_2 B ex post k (x1 + 1)) ∧ (¬ r_15 = (-1) → post 0)))))))))
def zp_CT_isAtRest (B : AA) (post : Int → Prop) : Prop :=
  (∃ j2, zl_CT_isAtRest_2 B (fun y1 => ze_CT_isAtRest_39 B post) post j2 0)
def zp_CN_stuck (B : AA) (post : Int → Prop) : Prop :=
  rg (B 2 1) ∧ rg (B 2 0) ∧ (((B 2 0) ≤ (B 2 1) → post 0) ∧ (¬ (B 2 0) ≤ (B 2 1) → zp_CT_isAtRest B (fun r_4 => rg r_4 ∧ ((r_4 = 0 → post 0) ∧ (¬ r_4 = 0 → post 1)))))
def ze_CK_sumOf_14_30 (B : AA) (x2 : Int) (post : Int → Prop) : Prop :=
  post x2
def zl_CK_sumOf_14_4 (B : AA) (ex : Int → Int → Prop) (post : Int → Prop) : Nat → Int → Int → Prop
  | 0, _, _ => False
  | k + 1, x2, x3 =>
    rg x3 ∧ rg (B 2 0) ∧ (((B 2 0) ≤ x3 → ex x2 x3) ∧ (¬ (B 2 0) ≤ x3 → rg x3 ∧ ((400 ≤ x3 → ex x2 x3) ∧ (¬ 400 ≤ x3 → (0 ≤ x3 ∧ x3 < 400) ∧ ∀ v_7, v_7 = x2 + (B 14 x3.toNat) → zl_CK_sumOf_14_4 B ex post k v_7 (x3 + 1)))))
def zp_CK_sumOf_14 (B : AA) (post : Int → Prop) : Prop :=
  (∃ j4, zl_CK_sumOf_14_4 B (fun y2 y3 => ze_CK_sumOf_14_30 B y2 post) post j4 0 0)
def zp_CK_flitsInQueues (B : AA) (post : Int → Prop) : Prop :=
  zp_CK_sumOf_14 B (fun r_1 => post r_1)
def ze_CK_sumOf_13_30 (B : AA) (x2 : Int) (post : Int → Prop) : Prop :=
  post x2
def zl_CK_sumOf_13_4 (B : AA) (ex : Int → Int → Prop) (post : Int → Prop) : Nat → Int → Int → Prop
  | 0, _, _ => False
  | k + 1, x2, x3 =>
    rg x3 ∧ rg (B 2 0) ∧ (((B 2 0) ≤ x3 → ex x2 x3) ∧ (¬ (B 2 0) ≤ x3 → rg x3 ∧ ((400 ≤ x3 → ex x2 x3) ∧ (¬ 400 ≤ x3 → (0 ≤ x3 ∧ x3 < 400) ∧ ∀ v_7, v_7 = x2 + (B 13 x3.toNat) → zl_CK_sumOf_13_4 B ex post k v_7 (x3 + 1)))))
def zp_CK_sumOf_13 (B : AA) (post : Int → Prop) : Prop :=
  (∃ j4, zl_CK_sumOf_13_4 B (fun y2 y3 => ze_CK_sumOf_13_30 B y2 post) post j4 0 0)
def ze_CK_sumOf_15_30 (B : AA) (x2 : Int) (post : Int → Prop) : Prop :=
  post x2
def zl_CK_sumOf_15_4 (B : AA) (ex : Int → Int → Prop) (post : Int → Prop) : Nat → Int → Int → Prop
  | 0, _, _ => False
  | k + 1, x2, x3 =>
    rg x3 ∧ rg (B 2 0) ∧ (((B 2 0) ≤ x3 → ex x2 x3) ∧ (¬ (B 2 0) ≤ x3 → rg x3 ∧ ((400 ≤ x3 → ex x2 x3) ∧ (¬ 400 ≤ x3 → (0 ≤ x3 ∧ x3 < 400) ∧ ∀ v_7, v_7 = x2 + (B 15 x3.toNat) → zl_CK_sumOf_15_4 B ex post k v_7 (x3 + 1)))))
def zp_CK_sumOf_15 (B : AA) (post : Int → Prop) : Prop :=
  (∃ j4, zl_CK_sumOf_15_4 B (fun y2 y3 => ze_CK_sumOf_15_30 B y2 post) post j4 0 0)
def zp_CK_flitsInBuffers (B : AA) (post : Int → Prop) : Prop :=
  zp_CK_sumOf_13 B (fun r_1 => zp_CK_sumOf_14 B (fun r_2 => zp_CK_sumOf_15 B (fun r_3 => post ((r_1 - r_2) - r_3))))
def zp_CK_flitsLeft (B : AA) (post : Int → Prop) : Prop :=
  zp_CK_sumOf_15 B (fun r_1 => post r_1)
def ze_CP_comesTo_48 (B : AA) (x2 : Int) (x3 : Int) (post : Int → Prop) : Prop :=
  rg x3 ∧ rg x2 ∧ ((¬ x3 = x2 → post 0) ∧ (x3 = x2 → post 1))
def zl_CP_comesTo_5 (B : AA) (x2 : Int) (ex : Int → Int → Prop) (post : Int → Prop) : Nat → Int → Int → Prop
  | 0, _, _ => False
  | k + 1, x3, x4 =>
    rg x4 ∧ rg (B 1 0) ∧ (((B 1 0) ≤ x4 → ex x3 x4) ∧ (¬ (B 1 0) ≤ x4 → rg x3 ∧ rg x2 ∧ ((x3 = x2 → ex x3 x4) ∧ (¬ x3 = x2 → zp_CP_wayAt B x3 x2 (fun r_10 => rg r_10 ∧ ((¬ r_10 = (-1) → zp_CP_endOf B r_10 (fun r_13 => zl_CP_comesTo_5 B x2 ex post k r_13 (x4 + 1))) ∧ (r_10 = (-1) → post 0)))))))
def zp_CP_comesTo (B : AA) (x1 : Int) (x2 : Int) (post : Int → Prop) : Prop :=
  (∃ j5, zl_CP_comesTo_5 B x2 (fun y3 y4 => ze_CP_comesTo_48 B x2 y3 post) post j5 x1 0)
def ze_CP_pairsWithoutWay_51 (B : AA) (x1 : Int) (post : Int → Prop) : Prop :=
  post x1
def ze_CP_pairsWithoutWay_45 (B : AA) (x1 : Int) (x2 : Int) (ag : Int → Int → Prop) (ex : Int → Int → Prop) (post : Int → Prop) : Prop :=
  ag x1 (x2 + 1)
def zl_CP_pairsWithoutWay_14 (B : AA) (x2 : Int) (ex : Int → Int → Prop) (post : Int → Prop) : Nat → Int → Int → Prop
  | 0, _, _ => False
  | k + 1, x1, x3 =>
    rg x3 ∧ rg (B 1 0) ∧ (((B 1 0) ≤ x3 → ex x1 x3) ∧ (¬ (B 1 0) ≤ x3 → rg x2 ∧ rg x3 ∧ ((x2 = x3 → zl_CP_pairsWithoutWay_14 B x2 ex post k x1 (x3 + 1)) ∧ (¬ x2 = x3 → zp_CP_comesTo B x2 x3 (fun r_10 => rg r_10 ∧ ((¬ r_10 = 0 → zl_CP_pairsWithoutWay_14 B x2 ex post k x1 (x3 + 1)) ∧ (r_10 = 0 → zl_CP_pairsWithoutWay_14 B x2 ex post k (x1 + 1) (x3 + 1))))))))
def zl_CP_pairsWithoutWay_4 (B : AA) (ex : Int → Int → Prop) (post : Int → Prop) : Nat → Int → Int → Prop
  | 0, _, _ => False
  | k + 1, x1, x2 =>
    rg x2 ∧ rg (B 1 0) ∧ (((B 1 0) ≤ x2 → ex x1 x2) ∧ (¬ (B 1 0) ≤ x2 → (∃ j14, zl_CP_pairsWithoutWay_14 B x2 (fun y1 y3 => ze_CP_pairsWithoutWay_45 B y1 x2 (zl_CP_pairsWithoutWay_4 B ex post k) ex post) post j14 x1 0)))
def zp_CP_pairsWithoutWay (B : AA) (post : Int → Prop) : Prop :=
  (∃ j4, zl_CP_pairsWithoutWay_4 B (fun y1 y2 => ze_CP_pairsWithoutWay_51 B y1 post) post j4 0 0)
def zp_CN_count (B : AA) (x1 : Int) (post : Int → Prop) : Prop :=
  rg x1 ∧ ((x1 = 0 → post (B 1 0)) ∧ (x1 = 1 → post (B 1 1)) ∧ (x1 = 2 → post (B 2 0)) ∧ (x1 = 3 → post (B 2 1)) ∧ (x1 = 4 → post (B 4 8)) ∧ (x1 = 5 → zp_CK_flitsInQueues B (fun r_2 => post r_2)) ∧ (x1 = 6 → zp_CK_flitsInBuffers B (fun r_3 => post r_3)) ∧ (x1 = 7 → post (B 4 9)) ∧ (x1 = 8 → zp_CK_flitsLeft B (fun r_4 => post r_4)) ∧ (x1 = 9 → zp_CP_pairsWithoutWay B (fun r_5 => post r_5)) ∧ (¬ x1 = 0 → ¬ x1 = 1 → ¬ x1 = 2 → ¬ x1 = 3 → ¬ x1 = 4 → ¬ x1 = 5 → ¬ x1 = 6 → ¬ x1 = 7 → ¬ x1 = 8 → ¬ x1 = 9 → post (-1)))
