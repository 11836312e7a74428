def wp_CN_node (σ : SS) (post : Int32 → SS → Prop) (xp : String → SS → Prop) : Prop :=
  (((σ 1 0) < 16 → ∀ s_2, s_2 = u2 σ 1 0 ((σ 1 0) + 1) → post ((s_2 1 0) - 1) s_2) ∧ (¬ (σ 1 0) < 16 → xp "java/lang/UnsupportedOperationException" σ))
def wp_CP_hasNode (σ : SS) (x1 : Int32) (post : Int32 → Prop) : Prop :=
  ((x1 < 0 → post 0) ∧ (¬ x1 < 0 → (((σ 1 0) ≤ x1 → post 0) ∧ (¬ (σ 1 0) ≤ x1 → post 1))))
def wp_CP_hasTwoNodes (σ : SS) (x1 : Int32) (x2 : Int32) (post : Int32 → Prop) : Prop :=
  wp_CP_hasNode σ x1 (fun r_1 => ((r_1 = 0 → post 0) ∧ (¬ r_1 = 0 → wp_CP_hasNode σ x2 (fun r_3 => ((r_3 = 0 → post 0) ∧ (¬ r_3 = 0 → ((x1 = x2 → post 0) ∧ (¬ x1 = x2 → post 1))))))))
def wp_CP_addLink (σ : SS) (x1 : Int32) (x2 : Int32) (x3 : Int32) (post : Int32 → SS → Prop) : Prop :=
  ∀ v_1, v_1 = σ 1 1 → vp_in v_1 40 ∧ ∀ s_2, s_2 = u2 σ 6 v_1.toNatClampNeg x1 → vp_in v_1 40 ∧ ∀ s_3, s_3 = u2 s_2 7 v_1.toNatClampNeg x2 → vp_in v_1 40 ∧ ∀ s_4, s_4 = u2 s_3 8 v_1.toNatClampNeg x3 → ∀ s_5, s_5 = u2 s_4 1 1 ((s_4 1 1) + 1) → post v_1 s_5
def wp_CN_link (σ : SS) (x1 : Int32) (x2 : Int32) (x3 : Int32) (post : Int32 → SS → Prop) (xp : String → SS → Prop) : Prop :=
  wp_CP_hasTwoNodes σ x1 x2 (fun r_1 => ((¬ r_1 = 0 → ((x3 < 1 → xp "java/lang/IllegalArgumentException" σ) ∧ (¬ x3 < 1 → ((x3 ≤ 4 → (((σ 1 1) < 40 → wp_CP_addLink σ x1 x2 x3 (fun r_6 σ_6 => post r_6 σ_6)) ∧ (¬ (σ 1 1) < 40 → xp "java/lang/UnsupportedOperationException" σ))) ∧ (¬ x3 ≤ 4 → xp "java/lang/IllegalArgumentException" σ))))) ∧ (r_1 = 0 → xp "java/lang/IllegalArgumentException" σ)))
def wp_CP_wayAt (σ : SS) (x1 : Int32) (x2 : Int32) (post : Int32 → Prop) : Prop :=
  vp_in ((x1 * 16) + x2) 256 ∧ post (σ 10 ((x1 * 16) + x2).toNatClampNeg)
def wp_CP_changeWay (σ : SS) (x1 : Int32) (x2 : Int32) (x3 : Int32) (post : SS → Prop) : Prop :=
  vp_in ((x1 * 16) + x2) 256 ∧ ∀ s_1, s_1 = u2 σ 10 ((x1 * 16) + x2).toNatClampNeg x3 → post s_1
def wp_CP_hasLink (σ : SS) (x1 : Int32) (post : Int32 → Prop) : Prop :=
  ((x1 < 0 → post 0) ∧ (¬ x1 < 0 → (((σ 1 1) ≤ x1 → post 0) ∧ (¬ (σ 1 1) ≤ x1 → post 1))))
def wp_CP_hasChannel (σ : SS) (x1 : Int32) (post : Int32 → Prop) : Prop :=
  ((x1 < 0 → post 0) ∧ (¬ x1 < 0 → wp_CP_hasLink σ (x1 / 4) (fun r_2 => ((r_2 = 0 → post 0) ∧ (¬ r_2 = 0 → vp_in (x1 / 4) 40 ∧ (((σ 8 (x1 / 4).toNatClampNeg) ≤ (x1 - x1 / 4 * 4) → post 0) ∧ (¬ (σ 8 (x1 / 4).toNatClampNeg) ≤ (x1 - x1 / 4 * 4) → post 1)))))))
def wp_CP_beginOf (σ : SS) (x1 : Int32) (post : Int32 → Prop) : Prop :=
  vp_in (x1 / 4) 40 ∧ post (σ 6 (x1 / 4).toNatClampNeg)
def wp_CP_canBeTaken (σ : SS) (x1 : Int32) (x2 : Int32) (post : Int32 → Prop) : Prop :=
  wp_CP_hasChannel σ x2 (fun r_1 => ((r_1 = 0 → post 0) ∧ (¬ r_1 = 0 → wp_CP_beginOf σ x2 (fun r_3 => ((¬ r_3 = x1 → post 0) ∧ (r_3 = x1 → vp_in (x2 / 4) 40 ∧ ((¬ (σ 9 (x2 / 4).toNatClampNeg) = 0 → post 0) ∧ ((σ 9 (x2 / 4).toNatClampNeg) = 0 → post 1))))))))
def wp_CN_route (σ : SS) (x1 : Int32) (x2 : Int32) (x3 : Int32) (post : Int32 → SS → Prop) (xp : String → SS → Prop) : Prop :=
  wp_CP_hasTwoNodes σ x1 x2 (fun r_1 => ((¬ r_1 = 0 → ((x3 = (-1) → wp_CP_wayAt σ x1 x2 (fun r_4 => wp_CP_changeWay σ x1 x2 x3 (fun σ_5 => post r_4 σ_5))) ∧ (¬ x3 = (-1) → wp_CP_canBeTaken σ x1 x3 (fun r_6 => ((¬ r_6 = 0 → wp_CP_wayAt σ x1 x2 (fun r_8 => wp_CP_changeWay σ x1 x2 x3 (fun σ_9 => post r_8 σ_9))) ∧ (r_6 = 0 → xp "java/lang/IllegalArgumentException" σ)))))) ∧ (r_1 = 0 → xp "java/lang/IllegalArgumentException" σ)))
def wp_CP_bringsNearer (σ : SS) (x1 : Int32) (x2 : Int32) (post : Int32 → Prop) : Prop :=
  vp_in x1 40 ∧ ((¬ (σ 9 x1.toNatClampNeg) = 0 → post 0) ∧ ((σ 9 x1.toNatClampNeg) = 0 → vp_in x1 40 ∧ vp_in (σ 6 x1.toNatClampNeg) 16 ∧ ((¬ (σ 11 (σ 6 x1.toNatClampNeg).toNatClampNeg) = (-1) → post 0) ∧ ((σ 11 (σ 6 x1.toNatClampNeg).toNatClampNeg) = (-1) → vp_in x1 40 ∧ vp_in (σ 7 x1.toNatClampNeg) 16 ∧ ((¬ (σ 11 (σ 7 x1.toNatClampNeg).toNatClampNeg) = (x2 - 1) → post 0) ∧ ((σ 11 (σ 7 x1.toNatClampNeg).toNatClampNeg) = (x2 - 1) → post 1))))))
def we_CP_makeWaysTo_116 (σ : SS) (x2 : Int32) (post : Int32 → SS → Prop) : Prop :=
  post x2 σ
def we_CP_makeWaysTo_110 (σ : SS) (x1 : Int32) (x2 : Int32) (x3 : Int32) (ag : SS → Int32 → Int32 → Prop) (ex : SS → Int32 → Int32 → Prop) (post : Int32 → SS → Prop) : Prop :=
  ag σ x2 (x3 + 1)
def wl_CP_makeWaysTo_53 (x1 : Int32) (x3 : Int32) (ex : SS → Int32 → Int32 → Prop) (post : Int32 → SS → Prop) : Nat → SS → Int32 → Int32 → Prop
  | 0, _, _, _ => False
  | k + 1, σ, x2, x4 =>
    (((σ 1 1) ≤ x4 → ex σ x2 x4) ∧ (¬ (σ 1 1) ≤ x4 → wp_CP_bringsNearer σ x4 x3 (fun r_5 => ((r_5 = 0 → wl_CP_makeWaysTo_53 x1 x3 ex post k σ x2 (x4 + 1)) ∧ (¬ r_5 = 0 → vp_in x4 40 ∧ vp_in (σ 6 x4.toNatClampNeg) 16 ∧ ∀ s_7, s_7 = u2 σ 11 (σ 6 x4.toNatClampNeg).toNatClampNeg x3 → vp_in x4 40 ∧ wp_CP_changeWay s_7 (s_7 6 x4.toNatClampNeg) x1 (x4 * 4) (fun σ_8 => wl_CP_makeWaysTo_53 x1 x3 ex post k σ_8 (x2 + 1) (x4 + 1)))))))
def wl_CP_makeWaysTo_42 (x1 : Int32) (ex : SS → Int32 → Int32 → Prop) (post : Int32 → SS → Prop) : Nat → SS → Int32 → Int32 → Prop
  | 0, _, _, _ => False
  | k + 1, σ, x2, x3 =>
    (((σ 1 0) ≤ x3 → ex σ x2 x3) ∧ (¬ (σ 1 0) ≤ x3 → (∃ j53, wl_CP_makeWaysTo_53 x1 x3 (fun σ' y2 y4 => we_CP_makeWaysTo_110 σ' x1 y2 x3 (wl_CP_makeWaysTo_42 x1 ex post k) ex post) post j53 σ x2 0)))
def we_CP_makeWaysTo_38 (σ : SS) (x1 : Int32) (post : Int32 → SS → Prop) : Prop :=
  (∃ j42, wl_CP_makeWaysTo_42 x1 (fun σ' y2 y3 => we_CP_makeWaysTo_116 σ' y2 post) post j42 σ 0 1)
def wl_CP_makeWaysTo_17 (x1 : Int32) (ex : SS → Int32 → Prop) (post : Int32 → SS → Prop) : Nat → SS → Int32 → Prop
  | 0, _, _ => False
  | k + 1, σ, x2 =>
    (((σ 1 0) ≤ x2 → ex σ x2) ∧ (¬ (σ 1 0) ≤ x2 → wp_CP_changeWay σ x2 x1 (-1) (fun σ_10 => wl_CP_makeWaysTo_17 x1 ex post k σ_10 (x2 + 1))))
def wp_CP_makeWaysTo (σ : SS) (x1 : Int32) (post : Int32 → SS → Prop) : Prop :=
  ∀ s_1, s_1 = fl σ 11 16 (-1) → vp_in x1 16 ∧ ∀ s_2, s_2 = u2 s_1 11 x1.toNatClampNeg 0 → (∃ j17, wl_CP_makeWaysTo_17 x1 (fun σ' y2 => we_CP_makeWaysTo_38 σ' x1 post) post j17 s_2 0)
def wp_CN_routes (σ : SS) (x1 : Int32) (post : Int32 → SS → Prop) (xp : String → SS → Prop) : Prop :=
  wp_CP_hasNode σ x1 (fun r_1 => ((¬ r_1 = 0 → wp_CP_makeWaysTo σ x1 (fun r_3 σ_3 => post r_3 σ_3)) ∧ (r_1 = 0 → xp "java/lang/IllegalArgumentException" σ)))
def we_CP_breakLink_56 (σ : SS) (x2 : Int32) (post : Int32 → SS → Prop) : Prop :=
  post x2 σ
def wl_CP_breakLink_11 (x1 : Int32) (ex : SS → Int32 → Int32 → Prop) (post : Int32 → SS → Prop) : Nat → SS → Int32 → Int32 → Prop
  | 0, _, _, _ => False
  | k + 1, σ, x2, x3 =>
    ((256 ≤ x3 → ex σ x2 x3) ∧ (¬ 256 ≤ x3 → vp_in x3 256 ∧ (((σ 10 x3.toNatClampNeg) = (-1) → wl_CP_breakLink_11 x1 ex post k σ x2 (x3 + 1)) ∧ (¬ (σ 10 x3.toNatClampNeg) = (-1) → vp_in x3 256 ∧ ((¬ ((σ 10 x3.toNatClampNeg) / 4) = x1 → wl_CP_breakLink_11 x1 ex post k σ x2 (x3 + 1)) ∧ (((σ 10 x3.toNatClampNeg) / 4) = x1 → vp_in x3 256 ∧ ∀ s_5, s_5 = u2 σ 10 x3.toNatClampNeg (-1) → wl_CP_breakLink_11 x1 ex post k s_5 (x2 + 1) (x3 + 1)))))))
def wp_CP_breakLink (σ : SS) (x1 : Int32) (post : Int32 → SS → Prop) : Prop :=
  vp_in x1 40 ∧ ∀ s_1, s_1 = u2 σ 9 x1.toNatClampNeg 1 → (∃ j11, wl_CP_breakLink_11 x1 (fun σ' y2 y3 => we_CP_breakLink_56 σ' y2 post) post j11 s_1 0 0)
def wp_CN_fail (σ : SS) (x1 : Int32) (post : Int32 → SS → Prop) (xp : String → SS → Prop) : Prop :=
  wp_CP_hasLink σ x1 (fun r_1 => ((r_1 = 0 → xp "java/lang/IllegalArgumentException" σ) ∧ (¬ r_1 = 0 → vp_in x1 40 ∧ (((σ 9 x1.toNatClampNeg) = 0 → wp_CP_breakLink σ x1 (fun r_4 σ_4 => post r_4 σ_4)) ∧ (¬ (σ 9 x1.toNatClampNeg) = 0 → xp "java/lang/IllegalArgumentException" σ)))))
def wp_CK_add (σ : SS) (x1 : Int32) (x2 : Int32) (post : Int32 → SS → Prop) : Prop :=
  ∀ v_1, v_1 = σ 2 0 → vp_in v_1 400 ∧ ∀ s_2, s_2 = u2 σ 12 v_1.toNatClampNeg x1 → vp_in v_1 400 ∧ ∀ s_3, s_3 = u2 s_2 13 v_1.toNatClampNeg x2 → vp_in v_1 400 ∧ ∀ s_4, s_4 = u2 s_3 14 v_1.toNatClampNeg x2 → ∀ s_5, s_5 = u2 s_4 2 0 ((s_4 2 0) + 1) → post v_1 s_5
def wp_CI_lineUp (σ : SS) (x1 : Int32) (x2 : Int32) (post : SS → Prop) : Prop :=
  vp_in x1 16 ∧ ∀ v_1, v_1 = σ 18 x1.toNatClampNeg → vp_in x1 16 ∧ (((σ 17 x1.toNatClampNeg) = (-1) → vp_in x1 16 ∧ ∀ s_3, s_3 = u2 σ 17 x1.toNatClampNeg x2 → vp_in x1 16 ∧ ∀ s_4, s_4 = u2 s_3 18 x1.toNatClampNeg x2 → post s_4) ∧ (¬ (σ 17 x1.toNatClampNeg) = (-1) → ((¬ v_1 = (-1) → vp_in v_1 400 ∧ ∀ s_6, s_6 = u2 σ 19 v_1.toNatClampNeg x2 → vp_in x1 16 ∧ ∀ s_7, s_7 = u2 s_6 18 x1.toNatClampNeg x2 → post s_7) ∧ (v_1 = (-1) → vp_in x1 16 ∧ ∀ s_8, s_8 = u2 σ 17 x1.toNatClampNeg x2 → vp_in x1 16 ∧ ∀ s_9, s_9 = u2 s_8 18 x1.toNatClampNeg x2 → post s_9))))
def wp_CN_addPacket (σ : SS) (x1 : Int32) (x2 : Int32) (x3 : Int32) (post : Int32 → SS → Prop) : Prop :=
  wp_CK_add σ x2 x3 (fun r_1 σ_1 => wp_CI_lineUp σ_1 x1 r_1 (fun σ_2 => post r_1 σ_2))
def wp_CN_send (σ : SS) (x1 : Int32) (x2 : Int32) (x3 : Int32) (post : Int32 → SS → Prop) (xp : String → SS → Prop) : Prop :=
  wp_CP_hasNode σ x1 (fun r_1 => ((r_1 = 0 → xp "java/lang/IllegalArgumentException" σ) ∧ (¬ r_1 = 0 → wp_CP_hasNode σ x2 (fun r_3 => ((¬ r_3 = 0 → ((x3 < 1 → xp "java/lang/IllegalArgumentException" σ) ∧ (¬ x3 < 1 → ((x3 ≤ 16 → (((σ 2 0) < 400 → wp_CN_addPacket σ x1 x2 x3 (fun r_8 σ_8 => post r_8 σ_8)) ∧ (¬ (σ 2 0) < 400 → xp "java/lang/UnsupportedOperationException" σ))) ∧ (¬ x3 ≤ 16 → xp "java/lang/IllegalArgumentException" σ))))) ∧ (r_3 = 0 → xp "java/lang/IllegalArgumentException" σ))))))
def wp_CN_drawn (σ : SS) (post : Int32 → SS → Prop) : Prop :=
  ∀ s_1, s_1 = u2 σ 0 5 (((1103515245 * (σ 0 5)) + 12345) &&& 2147483647) → post ((s_1 0 5) / 65536) s_1
def we_CN_load_127 (σ : SS) (post : Int32 → SS → Prop) (xp : String → SS → Prop) : Prop :=
  post ((σ 2 0) - 1) σ
def wl_CN_load_68 (x1 : Int32) (ex : SS → Int32 → Prop) (post : Int32 → SS → Prop) (xp : String → SS → Prop) : Nat → SS → Int32 → Prop
  | 0, _, _ => False
  | k + 1, σ, x2 =>
    ((x1 ≤ x2 → ex σ x2) ∧ (¬ x1 ≤ x2 → wp_CN_drawn σ (fun r_6 σ_6 => (¬ (σ_6 1 0) = 0) ∧ ∀ v_7, v_7 = r_6 - r_6 / (σ_6 1 0) * (σ_6 1 0) → wp_CN_drawn σ_6 (fun r_8 σ_8 => (¬ (σ_8 1 0) = 0) ∧ ∀ v_9, v_9 = r_8 - r_8 / (σ_8 1 0) * (σ_8 1 0) → wp_CN_drawn σ_8 (fun r_10 σ_10 => ∀ v_11, v_11 = 1 + (r_10 - r_10 / 8 * 8) → wp_CN_addPacket σ_10 v_7 v_9 v_11 (fun r_12 σ_12 => wl_CN_load_68 x1 ex post xp k σ_12 (x2 + 1)))))))
def wp_CN_load (σ : SS) (x1 : Int32) (post : Int32 → SS → Prop) (xp : String → SS → Prop) : Prop :=
  ((x1 < 1 → xp "java/lang/IllegalArgumentException" σ) ∧ (¬ x1 < 1 → ((x1 ≤ 50 → ((¬ (σ 1 0) = 0 → ((((σ 2 0) + x1) ≤ 400 → (∃ j68, wl_CN_load_68 x1 (fun σ' y2 => we_CN_load_127 σ' post xp) post xp j68 σ 0)) ∧ (¬ ((σ 2 0) + x1) ≤ 400 → xp "java/lang/UnsupportedOperationException" σ))) ∧ ((σ 1 0) = 0 → xp "java/lang/IllegalStateException" σ))) ∧ (¬ x1 ≤ 50 → xp "java/lang/IllegalArgumentException" σ))))
def wp_CI_inUse (σ : SS) (post : Int32 → Prop) : Prop :=
  post (16 + ((σ 1 1) * 4))
def wp_CK_firstWaiting (σ : SS) (x1 : Int32) (post : Int32 → Prop) : Prop :=
  vp_in x1 400 ∧ vp_in x1 400 ∧ post (((x1 * 16) + (σ 13 x1.toNatClampNeg)) - (σ 14 x1.toNatClampNeg))
def wp_CI_frontOf (σ : SS) (x1 : Int32) (post : Int32 → Prop) : Prop :=
  ((x1 < 16 → vp_in x1 16 ∧ ∀ v_2, v_2 = σ 17 x1.toNatClampNeg → ((¬ v_2 = (-1) → wp_CK_firstWaiting σ v_2 (fun r_4 => post r_4)) ∧ (v_2 = (-1) → post (-1)))) ∧ (¬ x1 < 16 → ∀ v_5, v_5 = x1 - 16 → vp_in v_5 160 ∧ vp_in v_5 160 ∧ (((σ 21 v_5.toNatClampNeg) ≤ (σ 22 v_5.toNatClampNeg) → post (-1)) ∧ (¬ (σ 21 v_5.toNatClampNeg) ≤ (σ 22 v_5.toNatClampNeg) → vp_in (v_5 * 4) 640 ∧ post (σ 20 (v_5 * 4).toNatClampNeg)))))
def wp_CK_isHead (σ : SS) (x1 : Int32) (post : Int32 → Prop) : Prop :=
  ((¬ (x1 - x1 / 16 * 16) = 0 → post 0) ∧ ((x1 - x1 / 16 * 16) = 0 → post 1))
def wp_CP_endOf (σ : SS) (x1 : Int32) (post : Int32 → Prop) : Prop :=
  vp_in (x1 / 4) 40 ∧ post (σ 7 (x1 / 4).toNatClampNeg)
def wp_CI_nodeOf (σ : SS) (x1 : Int32) (post : Int32 → Prop) : Prop :=
  ((16 ≤ x1 → wp_CP_endOf σ (x1 - 16) (fun r_2 => post r_2)) ∧ (¬ 16 ≤ x1 → post x1))
def wp_CK_endOf (σ : SS) (x1 : Int32) (post : Int32 → Prop) : Prop :=
  vp_in (x1 / 16) 400 ∧ post (σ 12 (x1 / 16).toNatClampNeg)
def wp_CT_channelToGet (σ : SS) (x1 : Int32) (post : Int32 → Prop) : Prop :=
  wp_CI_frontOf σ x1 (fun r_1 => ((r_1 = (-1) → post (-1)) ∧ (¬ r_1 = (-1) → wp_CK_isHead σ r_1 (fun r_3 => ((r_3 = 0 → post (-1)) ∧ (¬ r_3 = 0 → vp_in x1 176 ∧ (((σ 23 x1.toNatClampNeg) = (-1) → wp_CI_nodeOf σ x1 (fun r_6 => wp_CK_endOf σ r_1 (fun r_7 => wp_CP_wayAt σ r_6 r_7 (fun r_8 => ((r_8 = (-1) → post (-1)) ∧ (¬ r_8 = (-1) → vp_in r_8 160 ∧ (((σ 24 r_8.toNatClampNeg) = (-1) → post r_8) ∧ (¬ (σ 24 r_8.toNatClampNeg) = (-1) → post (-1))))))))) ∧ (¬ (σ 23 x1.toNatClampNeg) = (-1) → post (-1)))))))))
def wp_CK_packetOf (σ : SS) (x1 : Int32) (post : Int32 → Prop) : Prop :=
  post (x1 / 16)
def we_CT_askAll_69 (σ : SS) (x1 : Int32) (post : Int32 → SS → Prop) : Prop :=
  ((x1 = 0 ∨ x1 = 1) ∧ post x1 σ)
def wl_CT_askAll_4 (ex : SS → Int32 → Int32 → Prop) (post : Int32 → SS → Prop) : Nat → SS → Int32 → Int32 → Prop
  | 0, _, _, _ => False
  | k + 1, σ, x1, x2 =>
    wp_CI_inUse σ (fun r_1 => ((r_1 ≤ x2 → ex σ x1 x2) ∧ (¬ r_1 ≤ x2 → wp_CT_channelToGet σ x2 (fun r_3 => ((r_3 = (-1) → wl_CT_askAll_4 ex post k σ x1 (x2 + 1)) ∧ (¬ r_3 = (-1) → vp_in x2 176 ∧ ∀ s_5, s_5 = u2 σ 23 x2.toNatClampNeg r_3 → vp_in r_3 160 ∧ ∀ s_6, s_6 = u2 s_5 24 r_3.toNatClampNeg x2 → wp_CI_frontOf s_6 x2 (fun r_7 => wp_CK_packetOf s_6 r_7 (fun r_8 => vp_in r_3 160 ∧ ∀ s_9, s_9 = u2 s_6 25 r_3.toNatClampNeg r_8 → wl_CT_askAll_4 ex post k s_9 1 (x2 + 1)))))))))
def wp_CT_askAll (σ : SS) (post : Int32 → SS → Prop) : Prop :=
  (∃ j4, wl_CT_askAll_4 (fun σ' y1 y2 => we_CT_askAll_69 σ' y1 post) post j4 σ 0 0)
def wp_CI_hasRoom (σ : SS) (x1 : Int32) (post : Int32 → Prop) : Prop :=
  vp_in x1 160 ∧ ((4 ≤ (σ 21 x1.toNatClampNeg) → post 0) ∧ (¬ 4 ≤ (σ 21 x1.toNatClampNeg) → post 1))
def wp_CT_canMoveInto (σ : SS) (x1 : Int32) (post : Int32 → Prop) : Prop :=
  vp_in x1 160 ∧ ∀ v_1, v_1 = σ 24 x1.toNatClampNeg → ((v_1 = (-1) → post 0) ∧ (¬ v_1 = (-1) → wp_CI_frontOf σ v_1 (fun r_3 => ((r_3 = (-1) → post 0) ∧ (¬ r_3 = (-1) → wp_CI_hasRoom σ x1 (fun r_5 => ((r_5 = 0 → post 0) ∧ (¬ r_5 = 0 → post 1))))))))
def we_CT_laneToMove_65 (σ : SS) (post : Int32 → Prop) : Prop :=
  post (-1)
def wl_CT_laneToMove_9 (σ : SS) (x1 : Int32) (ex : Int32 → Int32 → Prop) (post : Int32 → Prop) : Nat → Int32 → Int32 → Prop
  | 0, _, _ => False
  | k + 1, x2, x3 =>
    vp_in x1 40 ∧ (((σ 8 x1.toNatClampNeg) ≤ x3 → ex x2 x3) ∧ (¬ (σ 8 x1.toNatClampNeg) ≤ x3 → vp_in x1 40 ∧ (((σ 8 x1.toNatClampNeg) ≤ (x2 + 1) → wp_CT_canMoveInto σ ((x1 * 4) + 0) (fun r_4 => ((r_4 = 0 → wl_CT_laneToMove_9 σ x1 ex post k 0 (x3 + 1)) ∧ (¬ r_4 = 0 → post 0)))) ∧ (¬ (σ 8 x1.toNatClampNeg) ≤ (x2 + 1) → ∀ v_6, v_6 = x2 + 1 → wp_CT_canMoveInto σ ((x1 * 4) + v_6) (fun r_7 => ((r_7 = 0 → wl_CT_laneToMove_9 σ x1 ex post k v_6 (x3 + 1)) ∧ (¬ r_7 = 0 → post v_6)))))))
def wp_CT_laneToMove (σ : SS) (x1 : Int32) (post : Int32 → Prop) : Prop :=
  vp_in x1 40 ∧ ∀ v_1, v_1 = σ 27 x1.toNatClampNeg → (∃ j9, wl_CT_laneToMove_9 σ x1 (fun y2 y3 => we_CT_laneToMove_65 σ post) post j9 v_1 0)
def we_CI_dropFromBuffer_40 (σ : SS) (x1 : Int32) (post : SS → Prop) : Prop :=
  vp_in x1 160 ∧ vp_in x1 160 ∧ ∀ s_2, s_2 = u2 σ 21 x1.toNatClampNeg ((σ 21 x1.toNatClampNeg) - 1) → post s_2
def wl_CI_dropFromBuffer_6 (x1 : Int32) (x2 : Int32) (ex : SS → Int32 → Prop) (post : SS → Prop) : Nat → SS → Int32 → Prop
  | 0, _, _ => False
  | k + 1, σ, x3 =>
    vp_in x1 160 ∧ (((σ 21 x1.toNatClampNeg) ≤ x3 → ex σ x3) ∧ (¬ (σ 21 x1.toNatClampNeg) ≤ x3 → vp_in (x2 + x3) 640 ∧ vp_in ((x2 + x3) - 1) 640 ∧ ∀ s_4, s_4 = u2 σ 20 ((x2 + x3) - 1).toNatClampNeg (σ 20 (x2 + x3).toNatClampNeg) → wl_CI_dropFromBuffer_6 x1 x2 ex post k s_4 (x3 + 1)))
def wp_CI_dropFromBuffer (σ : SS) (x1 : Int32) (post : SS → Prop) : Prop :=
  ∀ v_1, v_1 = x1 * 4 → (∃ j6, wl_CI_dropFromBuffer_6 x1 v_1 (fun σ' y3 => we_CI_dropFromBuffer_40 σ' x1 post) post j6 σ 1)
def wp_CI_dropFromQueue (σ : SS) (x1 : Int32) (post : SS → Prop) : Prop :=
  vp_in x1 16 ∧ ∀ v_1, v_1 = σ 17 x1.toNatClampNeg → ((¬ v_1 = (-1) → vp_in v_1 400 ∧ vp_in v_1 400 ∧ ∀ s_3, s_3 = u2 σ 14 v_1.toNatClampNeg ((σ 14 v_1.toNatClampNeg) - 1) → vp_in v_1 400 ∧ ((¬ (s_3 14 v_1.toNatClampNeg) = 0 → post s_3) ∧ ((s_3 14 v_1.toNatClampNeg) = 0 → vp_in v_1 400 ∧ vp_in x1 16 ∧ ∀ s_5, s_5 = u2 s_3 17 x1.toNatClampNeg (s_3 19 v_1.toNatClampNeg) → post s_5))) ∧ (v_1 = (-1) → post σ))
def wp_CI_dropFront (σ : SS) (x1 : Int32) (post : SS → Prop) : Prop :=
  ((16 ≤ x1 → wp_CI_dropFromBuffer σ (x1 - 16) (fun σ_2 => post σ_2)) ∧ (¬ 16 ≤ x1 → wp_CI_dropFromQueue σ x1 (fun σ_3 => post σ_3)))
def wp_CI_put (σ : SS) (x1 : Int32) (x2 : Int32) (post : SS → Prop) : Prop :=
  vp_in x1 160 ∧ vp_in ((x1 * 4) + (σ 21 x1.toNatClampNeg)) 640 ∧ ∀ s_1, s_1 = u2 σ 20 ((x1 * 4) + (σ 21 x1.toNatClampNeg)).toNatClampNeg x2 → vp_in x1 160 ∧ vp_in x1 160 ∧ ∀ s_2, s_2 = u2 s_1 21 x1.toNatClampNeg ((s_1 21 x1.toNatClampNeg) + 1) → vp_in x1 160 ∧ vp_in x1 160 ∧ ∀ s_3, s_3 = u2 s_2 22 x1.toNatClampNeg ((s_2 22 x1.toNatClampNeg) + 1) → post s_3
def wp_CK_isTail (σ : SS) (x1 : Int32) (post : Int32 → Prop) : Prop :=
  vp_in (x1 / 16) 400 ∧ ((¬ (x1 - x1 / 16 * 16) = ((σ 13 (x1 / 16).toNatClampNeg) - 1) → post 0) ∧ ((x1 - x1 / 16 * 16) = ((σ 13 (x1 / 16).toNatClampNeg) - 1) → post 1))
def wp_CT_moveInto (σ : SS) (x1 : Int32) (post : SS → Prop) : Prop :=
  vp_in x1 160 ∧ ∀ v_1, v_1 = σ 24 x1.toNatClampNeg → ((¬ v_1 = (-1) → wp_CI_frontOf σ v_1 (fun r_3 => ((¬ r_3 = (-1) → wp_CI_dropFront σ v_1 (fun σ_5 => wp_CI_put σ_5 x1 r_3 (fun σ_6 => vp_in x1 160 ∧ vp_in x1 160 ∧ ∀ s_7, s_7 = u2 σ_6 26 x1.toNatClampNeg ((σ_6 26 x1.toNatClampNeg) + 1) → ∀ s_8, s_8 = u2 s_7 4 9 ((s_7 4 9) + 1) → wp_CK_isTail s_8 r_3 (fun r_9 => ((r_9 = 0 → post s_8) ∧ (¬ r_9 = 0 → vp_in v_1 176 ∧ ∀ s_11, s_11 = u2 s_8 23 v_1.toNatClampNeg (-1) → vp_in x1 160 ∧ ∀ s_12, s_12 = u2 s_11 24 x1.toNatClampNeg (-1) → vp_in x1 160 ∧ ∀ s_13, s_13 = u2 s_12 25 x1.toNatClampNeg (-1) → post s_13)))))) ∧ (r_3 = (-1) → post σ)))) ∧ (v_1 = (-1) → post σ))
def we_CT_moveAll_50 (σ : SS) (x1 : Int32) (post : Int32 → SS → Prop) : Prop :=
  ((x1 = 0 ∨ x1 = 1) ∧ post x1 σ)
def wl_CT_moveAll_4 (ex : SS → Int32 → Int32 → Prop) (post : Int32 → SS → Prop) : Nat → SS → Int32 → Int32 → Prop
  | 0, _, _, _ => False
  | k + 1, σ, x1, x2 =>
    (((σ 1 1) ≤ x2 → ex σ x1 x2) ∧ (¬ (σ 1 1) ≤ x2 → wp_CT_laneToMove σ x2 (fun r_2 => ((r_2 = (-1) → wl_CT_moveAll_4 ex post k σ x1 (x2 + 1)) ∧ (¬ r_2 = (-1) → vp_in x2 40 ∧ ∀ s_4, s_4 = u2 σ 27 x2.toNatClampNeg r_2 → wp_CT_moveInto s_4 ((x2 * 4) + r_2) (fun σ_5 => wl_CT_moveAll_4 ex post k σ_5 1 (x2 + 1)))))))
def wp_CT_moveAll (σ : SS) (post : Int32 → SS → Prop) : Prop :=
  (∃ j4, wl_CT_moveAll_4 (fun σ' y1 y2 => we_CT_moveAll_50 σ' y1 post) post j4 σ 0 0)
def wp_CT_flitToLeave (σ : SS) (x1 : Int32) (post : Int32 → Prop) : Prop :=
  wp_CI_frontOf σ x1 (fun r_1 => ((r_1 = (-1) → post (-1)) ∧ (¬ r_1 = (-1) → wp_CK_endOf σ r_1 (fun r_3 => wp_CI_nodeOf σ x1 (fun r_4 => ((¬ r_3 = r_4 → post (-1)) ∧ (r_3 = r_4 → post r_1)))))))
def wp_CK_leave (σ : SS) (x1 : Int32) (x2 : Int32) (post : SS → Prop) : Prop :=
  wp_CK_packetOf σ x1 (fun r_1 => vp_in r_1 400 ∧ vp_in r_1 400 ∧ ∀ s_2, s_2 = u2 σ 15 r_1.toNatClampNeg ((σ 15 r_1.toNatClampNeg) + 1) → wp_CK_isTail s_2 x1 (fun r_3 => ((r_3 = 0 → post s_2) ∧ (¬ r_3 = 0 → vp_in r_1 400 ∧ ∀ s_5, s_5 = u2 s_2 16 r_1.toNatClampNeg x2 → ∀ s_6, s_6 = u2 s_5 2 1 ((s_5 2 1) + 1) → post s_6))))
def we_CT_leaveAll_54 (σ : SS) (x1 : Int32) (post : Int32 → SS → Prop) : Prop :=
  ((x1 = 0 ∨ x1 = 1) ∧ post x1 σ)
def wl_CT_leaveAll_4 (ex : SS → Int32 → Int32 → Prop) (post : Int32 → SS → Prop) : Nat → SS → Int32 → Int32 → Prop
  | 0, _, _, _ => False
  | k + 1, σ, x1, x2 =>
    wp_CI_inUse σ (fun r_1 => ((r_1 ≤ x2 → ex σ x1 x2) ∧ (¬ r_1 ≤ x2 → wp_CT_flitToLeave σ x2 (fun r_3 => ((r_3 = (-1) → wl_CT_leaveAll_4 ex post k σ x1 (x2 + 1)) ∧ (¬ r_3 = (-1) → wp_CK_leave σ r_3 (σ 4 8) (fun σ_5 => wp_CI_dropFront σ_5 x2 (fun σ_6 => wl_CT_leaveAll_4 ex post k σ_6 1 (x2 + 1)))))))))
def wp_CT_leaveAll (σ : SS) (post : Int32 → SS → Prop) : Prop :=
  (∃ j4, wl_CT_leaveAll_4 (fun σ' y1 y2 => we_CT_leaveAll_54 σ' y1 post) post j4 σ 0 0)
def wp_CI_endCycle (σ : SS) (post : SS → Prop) : Prop :=
  ∀ s_1, s_1 = fl σ 22 160 0 → post s_1
def wp_CT_goOneCycle (σ : SS) (post : Int32 → SS → Prop) : Prop :=
  ∀ s_1, s_1 = u2 σ 4 8 ((σ 4 8) + 1) → wp_CT_askAll s_1 (fun r_2 σ_2 => wp_CT_moveAll σ_2 (fun r_3 σ_3 => wp_CT_leaveAll σ_3 (fun r_4 σ_4 => wp_CI_endCycle σ_4 (fun σ_5 => ((¬ r_2 = 0 → post 1 σ_5) ∧ (r_2 = 0 → ((¬ r_3 = 0 → post 1 σ_5) ∧ (r_3 = 0 → ((r_4 = 0 → post 0 σ_5) ∧ (¬ r_4 = 0 → post 1 σ_5))))))))))
def we_CN_run_81 (σ : SS) (x2 : Int32) (post : Int32 → SS → Prop) (xp : String → SS → Prop) : Prop :=
  post ((σ 2 1) - x2) σ
def wl_CN_run_35 (x1 : Int32) (x2 : Int32) (ex : SS → Int32 → Int32 → Prop) (post : Int32 → SS → Prop) (xp : String → SS → Prop) : Nat → SS → Int32 → Int32 → Prop
  | 0, _, _, _ => False
  | k + 1, σ, x3, x4 =>
    ((x1 ≤ x4 → ex σ x3 x4) ∧ (¬ x1 ≤ x4 → ((x3 = 0 → ex σ x3 x4) ∧ (¬ x3 = 0 → wp_CT_goOneCycle σ (fun r_6 σ_6 => ((¬ r_6 = 0 → wl_CN_run_35 x1 x2 ex post xp k σ_6 r_6 (x4 + 1)) ∧ (r_6 = 0 → ∀ s_8, s_8 = u2 σ_6 4 8 ((σ_6 4 8) + ((x1 - x4) - 1)) → wl_CN_run_35 x1 x2 ex post xp k s_8 r_6 (x4 + 1))))))))
def wp_CN_run (σ : SS) (x1 : Int32) (post : Int32 → SS → Prop) (xp : String → SS → Prop) : Prop :=
  ((x1 < 1 → xp "java/lang/IllegalArgumentException" σ) ∧ (¬ x1 < 1 → ((x1 ≤ 2000 → ∀ v_3, v_3 = σ 2 1 → (∃ j35, wl_CN_run_35 x1 v_3 (fun σ' y3 y4 => we_CN_run_81 σ' v_3 post xp) post xp j35 σ 1 0)) ∧ (¬ x1 ≤ 2000 → xp "java/lang/IllegalArgumentException" σ))))
def wp_CN_packet (σ : SS) (x1 : Int32) (x2 : Int32) (post : Int32 → Prop) (xp : String → SS → Prop) : Prop :=
  ((x1 < 0 → xp "java/lang/IndexOutOfBoundsException" σ) ∧ (¬ x1 < 0 → ((x1 < (σ 2 0) → ((x2 = 0 → vp_in x1 400 ∧ post (σ 16 x1.toNatClampNeg)) ∧ (x2 = 1 → vp_in x1 400 ∧ post (σ 14 x1.toNatClampNeg)) ∧ (x2 = 2 → vp_in x1 400 ∧ vp_in x1 400 ∧ vp_in x1 400 ∧ post (((σ 13 x1.toNatClampNeg) - (σ 14 x1.toNatClampNeg)) - (σ 15 x1.toNatClampNeg))) ∧ (x2 = 3 → vp_in x1 400 ∧ post (σ 15 x1.toNatClampNeg)) ∧ (¬ x2 = 0 → ¬ x2 = 1 → ¬ x2 = 2 → ¬ x2 = 3 → xp "java/lang/IndexOutOfBoundsException" σ))) ∧ (¬ x1 < (σ 2 0) → xp "java/lang/IndexOutOfBoundsException" σ))))
def wp_CI_frontPacketIn (σ : SS) (x1 : Int32) (post : Int32 → Prop) : Prop :=
  vp_in x1 160 ∧ (((σ 21 x1.toNatClampNeg) ≤ 0 → post (-1)) ∧ (¬ (σ 21 x1.toNatClampNeg) ≤ 0 → vp_in (x1 * 4) 640 ∧ wp_CK_packetOf σ (σ 20 (x1 * 4).toNatClampNeg) (fun r_2 => post r_2)))
def wp_CN_channel (σ : SS) (x1 : Int32) (x2 : Int32) (post : Int32 → Prop) (xp : String → SS → Prop) : Prop :=
  wp_CP_hasChannel σ x1 (fun r_1 => ((¬ r_1 = 0 → ((x2 = 0 → vp_in x1 160 ∧ post (σ 21 x1.toNatClampNeg)) ∧ (x2 = 1 → vp_in x1 160 ∧ post (σ 25 x1.toNatClampNeg)) ∧ (x2 = 2 → wp_CI_frontPacketIn σ x1 (fun r_7 => post r_7)) ∧ (x2 = 3 → vp_in x1 160 ∧ post (σ 26 x1.toNatClampNeg)) ∧ (¬ x2 = 0 → ¬ x2 = 1 → ¬ x2 = 2 → ¬ x2 = 3 → xp "java/lang/IndexOutOfBoundsException" σ))) ∧ (r_1 = 0 → xp "java/lang/IndexOutOfBoundsException" σ)))
def wp_CR_channelAfter (σ : SS) (x1 : Int32) (x2 : Int32) (post : Int32 → Prop) : Prop :=
  ((¬ x1 = (-1) → wp_CP_endOf σ x1 (fun r_2 => wp_CP_wayAt σ r_2 x2 (fun r_3 => post r_3))) ∧ (x1 = (-1) → post (-1)))
def we_CR_gatherSteps_95 (σ : SS) (post : SS → Prop) : Prop :=
  post σ
def we_CR_gatherSteps_89 (σ : SS) (x1 : Int32) (ag : SS → Int32 → Prop) (ex : SS → Int32 → Prop) (post : SS → Prop) : Prop :=
  ag σ (x1 + 1)
def wl_CR_gatherSteps_23 (x1 : Int32) (ex : SS → Int32 → Prop) (post : SS → Prop) : Nat → SS → Int32 → Prop
  | 0, _, _ => False
  | k + 1, σ, x2 =>
    (((σ 1 0) ≤ x2 → ex σ x2) ∧ (¬ (σ 1 0) ≤ x2 → wp_CP_wayAt σ x1 x2 (fun r_4 => wp_CR_channelAfter σ r_4 x2 (fun r_5 => ((r_5 = (-1) → wl_CR_gatherSteps_23 x1 ex post k σ (x2 + 1)) ∧ (¬ r_5 = (-1) → ∀ v_7, v_7 = (x1 * 16) + x2 → vp_in r_5 160 ∧ vp_in v_7 256 ∧ ∀ s_8, s_8 = u2 σ 29 v_7.toNatClampNeg (σ 28 r_5.toNatClampNeg) → vp_in r_5 160 ∧ ∀ s_9, s_9 = u2 s_8 28 r_5.toNatClampNeg v_7 → wl_CR_gatherSteps_23 x1 ex post k s_9 (x2 + 1)))))))
def wl_CR_gatherSteps_10 (ex : SS → Int32 → Prop) (post : SS → Prop) : Nat → SS → Int32 → Prop
  | 0, _, _ => False
  | k + 1, σ, x1 =>
    (((σ 1 0) ≤ x1 → ex σ x1) ∧ (¬ (σ 1 0) ≤ x1 → (∃ j23, wl_CR_gatherSteps_23 x1 (fun σ' y2 => we_CR_gatherSteps_89 σ' x1 (wl_CR_gatherSteps_10 ex post k) ex post) post j23 σ 0)))
def wp_CR_gatherSteps (σ : SS) (post : SS → Prop) : Prop :=
  ∀ s_1, s_1 = fl σ 28 160 (-1) → (∃ j10, wl_CR_gatherSteps_10 (fun σ' y1 => we_CR_gatherSteps_95 σ' post) post j10 s_1 0)
def we_CR_closeAt_163 (σ : SS) (x1 : Int32) (post : Int32 → SS → Prop) : Prop :=
  vp_in x1 160 ∧ post (σ 30 x1.toNatClampNeg) σ
def we_CR_closeAt_157 (σ : SS) (x1 : Int32) (x2 : Int32) (x3 : Int32) (ag : SS → Int32 → Int32 → Prop) (ex : SS → Int32 → Int32 → Prop) (post : Int32 → SS → Prop) : Prop :=
  ag σ x2 (x3 + 1)
def wl_CR_closeAt_60 (x1 : Int32) (x3 : Int32) (x4 : Int32) (ex : SS → Int32 → Int32 → Int32 → Prop) (post : Int32 → SS → Prop) : Nat → SS → Int32 → Int32 → Int32 → Prop
  | 0, _, _, _, _ => False
  | k + 1, σ, x2, x5, x6 =>
    ((256 ≤ x6 → ex σ x2 x5 x6) ∧ (¬ 256 ≤ x6 → ((x5 = (-1) → ex σ x2 x5 x6) ∧ (¬ x5 = (-1) → vp_in x5 256 ∧ ∀ v_10, v_10 = σ 10 x5.toNatClampNeg → ((v_10 = (-1) → vp_in x5 256 ∧ ∀ v_12, v_12 = σ 29 x5.toNatClampNeg → wl_CR_closeAt_60 x1 x3 x4 ex post k σ x2 v_12 (x6 + 1)) ∧ (¬ v_10 = (-1) → vp_in v_10 160 ∧ ((¬ (σ 30 v_10.toNatClampNeg) = 0 → vp_in x5 256 ∧ ∀ v_14, v_14 = σ 29 x5.toNatClampNeg → wl_CR_closeAt_60 x1 x3 x4 ex post k σ x2 v_14 (x6 + 1)) ∧ ((σ 30 v_10.toNatClampNeg) = 0 → vp_in x4 160 ∧ vp_in v_10 160 ∧ ∀ s_15, s_15 = u2 σ 30 v_10.toNatClampNeg ((σ 30 x4.toNatClampNeg) + 1) → ((v_10 = x1 → vp_in x5 256 ∧ ∀ v_17, v_17 = s_15 29 x5.toNatClampNeg → wl_CR_closeAt_60 x1 x3 x4 ex post k s_15 x2 v_17 (x6 + 1)) ∧ (¬ v_10 = x1 → ((160 ≤ x2 → vp_in x5 256 ∧ ∀ v_19, v_19 = s_15 29 x5.toNatClampNeg → wl_CR_closeAt_60 x1 x3 x4 ex post k s_15 x2 v_19 (x6 + 1)) ∧ (¬ 160 ≤ x2 → vp_in x2 160 ∧ ∀ s_20, s_20 = u2 s_15 31 x2.toNatClampNeg v_10 → vp_in x5 256 ∧ ∀ v_21, v_21 = s_20 29 x5.toNatClampNeg → wl_CR_closeAt_60 x1 x3 x4 ex post k s_20 (x2 + 1) v_21 (x6 + 1)))))))))))))
def wl_CR_closeAt_19 (x1 : Int32) (ex : SS → Int32 → Int32 → Prop) (post : Int32 → SS → Prop) : Nat → SS → Int32 → Int32 → Prop
  | 0, _, _, _ => False
  | k + 1, σ, x2, x3 =>
    ((x2 ≤ x3 → ex σ x2 x3) ∧ (¬ x2 ≤ x3 → ((160 ≤ x3 → ex σ x2 x3) ∧ (¬ 160 ≤ x3 → vp_in x1 160 ∧ ((¬ (σ 30 x1.toNatClampNeg) = 0 → ex σ x2 x3) ∧ ((σ 30 x1.toNatClampNeg) = 0 → vp_in x3 160 ∧ ∀ v_6, v_6 = σ 31 x3.toNatClampNeg → vp_in v_6 160 ∧ ∀ v_7, v_7 = σ 28 v_6.toNatClampNeg → (∃ j60, wl_CR_closeAt_60 x1 x3 v_6 (fun σ' y2 y5 y6 => we_CR_closeAt_157 σ' x1 y2 x3 (wl_CR_closeAt_19 x1 ex post k) ex post) post j60 σ x2 v_7 0)))))))
def wp_CR_closeAt (σ : SS) (x1 : Int32) (post : Int32 → SS → Prop) : Prop :=
  ∀ s_1, s_1 = fl σ 30 160 0 → vp_in 0 160 ∧ ∀ s_2, s_2 = u2 s_1 31 (0 : Int32).toNatClampNeg x1 → (∃ j19, wl_CR_closeAt_19 x1 (fun σ' y2 y3 => we_CR_closeAt_163 σ' x1 post) post j19 s_2 1 0)
def we_CR_search_70 (σ : SS) (post : SS → Prop) : Prop :=
  post σ
def wl_CR_search_16 (ex : SS → Int32 → Prop) (post : SS → Prop) : Nat → SS → Int32 → Prop
  | 0, _, _ => False
  | k + 1, σ, x1 =>
    ((((σ 1 1) * 4) ≤ x1 → ex σ x1) ∧ (¬ ((σ 1 1) * 4) ≤ x1 → wp_CR_closeAt σ x1 (fun r_5 σ_5 => ((r_5 = 0 → wl_CR_search_16 ex post k σ_5 (x1 + 1)) ∧ (¬ r_5 = 0 → (((σ_5 5 6) = 0 → ∀ s_8, s_8 = u2 σ_5 5 5 x1 → ∀ s_9, s_9 = u2 s_8 5 6 r_5 → wl_CR_search_16 ex post k s_9 (x1 + 1)) ∧ (¬ (σ_5 5 6) = 0 → (((σ_5 5 6) ≤ r_5 → wl_CR_search_16 ex post k σ_5 (x1 + 1)) ∧ (¬ (σ_5 5 6) ≤ r_5 → ∀ s_11, s_11 = u2 σ_5 5 5 x1 → ∀ s_12, s_12 = u2 s_11 5 6 r_5 → wl_CR_search_16 ex post k s_12 (x1 + 1))))))))))
def wp_CR_search (σ : SS) (post : SS → Prop) : Prop :=
  wp_CR_gatherSteps σ (fun σ_1 => ∀ s_2, s_2 = u2 σ_1 5 5 (-1) → ∀ s_3, s_3 = u2 s_2 5 6 0 → (∃ j16, wl_CR_search_16 (fun σ' y1 => we_CR_search_70 σ' post) post j16 s_3 0))
def wp_CN_ring (σ : SS) (post : Int32 → SS → Prop) : Prop :=
  wp_CR_search σ (fun σ_1 => post (σ_1 5 6) σ_1)
def we_CR_lowestThatCloses_90 (σ : SS) (x4 : Int32) (post : Int32 → Prop) : Prop :=
  post x4
def wl_CR_lowestThatCloses_15 (σ : SS) (x1 : Int32) (x2 : Int32) (x3 : Int32) (ex : Int32 → Int32 → Prop) (post : Int32 → Prop) : Nat → Int32 → Int32 → Prop
  | 0, _, _ => False
  | k + 1, x4, x5 =>
    (((σ 1 0) ≤ x5 → ex x4 x5) ∧ (¬ (σ 1 0) ≤ x5 → wp_CP_wayAt σ x3 x5 (fun r_3 => ((¬ r_3 = x1 → wl_CR_lowestThatCloses_15 σ x1 x2 x3 ex post k x4 (x5 + 1)) ∧ (r_3 = x1 → wp_CR_channelAfter σ x1 x5 (fun r_5 => ((r_5 = (-1) → wl_CR_lowestThatCloses_15 σ x1 x2 x3 ex post k x4 (x5 + 1)) ∧ (¬ r_5 = (-1) → vp_in r_5 160 ∧ ((¬ (σ 30 r_5.toNatClampNeg) = x2 → wl_CR_lowestThatCloses_15 σ x1 x2 x3 ex post k x4 (x5 + 1)) ∧ ((σ 30 r_5.toNatClampNeg) = x2 → ((x4 = (-1) → wl_CR_lowestThatCloses_15 σ x1 x2 x3 ex post k r_5 (x5 + 1)) ∧ (¬ x4 = (-1) → ((x4 ≤ r_5 → wl_CR_lowestThatCloses_15 σ x1 x2 x3 ex post k x4 (x5 + 1)) ∧ (¬ x4 ≤ r_5 → wl_CR_lowestThatCloses_15 σ x1 x2 x3 ex post k r_5 (x5 + 1)))))))))))))))
def wp_CR_lowestThatCloses (σ : SS) (x1 : Int32) (x2 : Int32) (post : Int32 → Prop) : Prop :=
  wp_CP_beginOf σ x1 (fun r_1 => (∃ j15, wl_CR_lowestThatCloses_15 σ x1 x2 r_1 (fun y4 y5 => we_CR_lowestThatCloses_90 σ y4 post) post j15 (-1) 0))
def we_CR_channelBehind_54 (σ : SS) (x2 : Int32) (post : Int32 → SS → Prop) : Prop :=
  post x2 σ
def wl_CR_channelBehind_26 (σ : SS) (x1 : Int32) (ex : Int32 → Int32 → Prop) (post : Int32 → SS → Prop) : Nat → Int32 → Int32 → Prop
  | 0, _, _ => False
  | k + 1, x2, x3 =>
    ((x1 < x3 → ex x2 x3) ∧ (¬ x1 < x3 → ((x2 = (-1) → ex x2 x3) ∧ (¬ x2 = (-1) → wp_CR_lowestThatCloses σ x2 ((σ 5 6) - x3) (fun r_6 => wl_CR_channelBehind_26 σ x1 ex post k r_6 (x3 + 1))))))
def wp_CR_channelBehind (σ : SS) (x1 : Int32) (post : Int32 → SS → Prop) : Prop :=
  ((¬ (σ 5 5) = (-1) → wp_CR_closeAt σ (σ 5 5) (fun r_2 σ_2 => ∀ v_3, v_3 = σ_2 5 5 → (∃ j26, wl_CR_channelBehind_26 σ_2 x1 (fun y2 y3 => we_CR_channelBehind_54 σ_2 y2 post) post j26 v_3 1))) ∧ ((σ 5 5) = (-1) → post (-1) σ))
def wp_CN_ringAt (σ : SS) (x1 : Int32) (post : Int32 → SS → Prop) (xp : String → SS → Prop) : Prop :=
  wp_CR_search σ (fun σ_1 => ((x1 < 0 → xp "java/lang/IndexOutOfBoundsException" σ_1) ∧ (¬ x1 < 0 → ((x1 < (σ_1 5 6) → wp_CR_channelBehind σ_1 x1 (fun r_4 σ_4 => post r_4 σ_4)) ∧ (¬ x1 < (σ_1 5 6) → xp "java/lang/IndexOutOfBoundsException" σ_1)))))
def we_CT_isAtRest_69 (σ : SS) (post : Int32 → Prop) : Prop :=
  post 1
def wl_CT_isAtRest_41 (σ : SS) (ex : Int32 → Prop) (post : Int32 → Prop) : Nat → Int32 → Prop
  | 0, _ => False
  | k + 1, x1 =>
    (((σ 1 1) ≤ x1 → ex x1) ∧ (¬ (σ 1 1) ≤ x1 → wp_CT_laneToMove σ x1 (fun r_2 => ((r_2 = (-1) → wl_CT_isAtRest_41 σ ex post k (x1 + 1)) ∧ (¬ r_2 = (-1) → post 0)))))
def we_CT_isAtRest_39 (σ : SS) (post : Int32 → Prop) : Prop :=
  (∃ j41, wl_CT_isAtRest_41 σ (fun y1 => we_CT_isAtRest_69 σ post) post j41 0)
def wl_CT_isAtRest_2 (σ : SS) (ex : Int32 → Prop) (post : Int32 → Prop) : Nat → Int32 → Prop
  | 0, _ => False
  | k + 1, x1 =>
    wp_CI_inUse σ (fun r_4 => ((r_4 ≤ x1 → ex x1) ∧ (¬ r_4 ≤ x1 → wp_CT_channelToGet σ x1 (fun r_6 => ((¬ r_6 = (-1) → post 0) ∧ (r_6 = (-1) → wp_CT_flitToLeave σ x1 (fun r_8 => ((r_8 = (-1) → wl_CT_isAtRest_2 σ ex post k (x1 + 1)) ∧ (¬ r_8 = (-1) → post 0)))))))))
def wp_CT_isAtRest (σ : SS) (post : Int32 → Prop) : Prop :=
  (∃ j2, wl_CT_isAtRest_2 σ (fun y1 => we_CT_isAtRest_39 σ post) post j2 0)
def wp_CN_stuck (σ : SS) (post : Int32 → Prop) : Prop :=
  (((σ 2 0) ≤ (σ 2 1) → post 0) ∧ (¬ (σ 2 0) ≤ (σ 2 1) → wp_CT_isAtRest σ (fun r_2 => ((r_2 = 0 → post 0) ∧ (¬ r_2 = 0 → post 1)))))
def we_CK_sumOf_14_30 (σ : SS) (x2 : Int32) (post : Int32 → Prop) : Prop :=
  post x2
def wl_CK_sumOf_14_4 (σ : SS) (ex : Int32 → Int32 → Prop) (post : Int32 → Prop) : Nat → Int32 → Int32 → Prop
  | 0, _, _ => False
  | k + 1, x2, x3 =>
    (((σ 2 0) ≤ x3 → ex x2 x3) ∧ (¬ (σ 2 0) ≤ x3 → ((400 ≤ x3 → ex x2 x3) ∧ (¬ 400 ≤ x3 → vp_in x3 400 ∧ ∀ v_3, v_3 = x2 + (σ 14 x3.toNatClampNeg) → wl_CK_sumOf_14_4 σ ex post k v_3 (x3 + 1)))))
def wp_CK_sumOf_14 (σ : SS) (post : Int32 → Prop) : Prop :=
  (∃ j4, wl_CK_sumOf_14_4 σ (fun y2 y3 => we_CK_sumOf_14_30 σ y2 post) post j4 0 0)
def wp_CK_flitsInQueues (σ : SS) (post : Int32 → Prop) : Prop :=
  wp_CK_sumOf_14 σ (fun r_1 => post r_1)
def we_CK_sumOf_13_30 (σ : SS) (x2 : Int32) (post : Int32 → Prop) : Prop :=
  post x2
def wl_CK_sumOf_13_4 (σ : SS) (ex : Int32 → Int32 → Prop) (post : Int32 → Prop) : Nat → Int32 → Int32 → Prop
  | 0, _, _ => False
  | k + 1, x2, x3 =>
    (((σ 2 0) ≤ x3 → ex x2 x3) ∧ (¬ (σ 2 0) ≤ x3 → ((400 ≤ x3 → ex x2 x3) ∧ (¬ 400 ≤ x3 → vp_in x3 400 ∧ ∀ v_3, v_3 = x2 + (σ 13 x3.toNatClampNeg) → wl_CK_sumOf_13_4 σ ex post k v_3 (x3 + 1)))))
def wp_CK_sumOf_13 (σ : SS) (post : Int32 → Prop) : Prop :=
  (∃ j4, wl_CK_sumOf_13_4 σ (fun y2 y3 => we_CK_sumOf_13_30 σ y2 post) post j4 0 0)
def we_CK_sumOf_15_30 (σ : SS) (x2 : Int32) (post : Int32 → Prop) : Prop :=
  post x2
def wl_CK_sumOf_15_4 (σ : SS) (ex : Int32 → Int32 → Prop) (post : Int32 → Prop) : Nat → Int32 → Int32 → Prop
  | 0, _, _ => False
  | k + 1, x2, x3 =>
    (((σ 2 0) ≤ x3 → ex x2 x3) ∧ (¬ (σ 2 0) ≤ x3 → ((400 ≤ x3 → ex x2 x3) ∧ (¬ 400 ≤ x3 → vp_in x3 400 ∧ ∀ v_3, v_3 = x2 + (σ 15 x3.toNatClampNeg) → wl_CK_sumOf_15_4 σ ex post k v_3 (x3 + 1)))))
def wp_CK_sumOf_15 (σ : SS) (post : Int32 → Prop) : Prop :=
  (∃ j4, wl_CK_sumOf_15_4 σ (fun y2 y3 => we_CK_sumOf_15_30 σ y2 post) post j4 0 0)
def wp_CK_flitsInBuffers (σ : SS) (post : Int32 → Prop) : Prop :=
  wp_CK_sumOf_13 σ (fun r_1 => wp_CK_sumOf_14 σ (fun r_2 => wp_CK_sumOf_15 σ (fun r_3 => post ((r_1 - r_2) - r_3))))
def wp_CK_flitsLeft (σ : SS) (post : Int32 → Prop) : Prop :=
  wp_CK_sumOf_15 σ (fun r_1 => post r_1)
def we_CP_comesTo_48 (σ : SS) (x2 : Int32) (x3 : Int32) (post : Int32 → Prop) : Prop :=
  ((¬ x3 = x2 → post 0) ∧ (x3 = x2 → post 1))
def wl_CP_comesTo_5 (σ : SS) (x2 : Int32) (ex : Int32 → Int32 → Prop) (post : Int32 → Prop) : Nat → Int32 → Int32 → Prop
  | 0, _, _ => False
  | k + 1, x3, x4 =>
    (((σ 1 0) ≤ x4 → ex x3 x4) ∧ (¬ (σ 1 0) ≤ x4 → ((x3 = x2 → ex x3 x4) ∧ (¬ x3 = x2 → wp_CP_wayAt σ x3 x2 (fun r_4 => ((¬ r_4 = (-1) → wp_CP_endOf σ r_4 (fun r_6 => wl_CP_comesTo_5 σ x2 ex post k r_6 (x4 + 1))) ∧ (r_4 = (-1) → post 0)))))))
def wp_CP_comesTo (σ : SS) (x1 : Int32) (x2 : Int32) (post : Int32 → Prop) : Prop :=
  (∃ j5, wl_CP_comesTo_5 σ x2 (fun y3 y4 => we_CP_comesTo_48 σ x2 y3 post) post j5 x1 0)
def we_CP_pairsWithoutWay_51 (σ : SS) (x1 : Int32) (post : Int32 → Prop) : Prop :=
  post x1
def we_CP_pairsWithoutWay_45 (σ : SS) (x1 : Int32) (x2 : Int32) (ag : Int32 → Int32 → Prop) (ex : Int32 → Int32 → Prop) (post : Int32 → Prop) : Prop :=
  ag x1 (x2 + 1)
def wl_CP_pairsWithoutWay_14 (σ : SS) (x2 : Int32) (ex : Int32 → Int32 → Prop) (post : Int32 → Prop) : Nat → Int32 → Int32 → Prop
  | 0, _, _ => False
  | k + 1, x1, x3 =>
    (((σ 1 0) ≤ x3 → ex x1 x3) ∧ (¬ (σ 1 0) ≤ x3 → ((x2 = x3 → wl_CP_pairsWithoutWay_14 σ x2 ex post k x1 (x3 + 1)) ∧ (¬ x2 = x3 → wp_CP_comesTo σ x2 x3 (fun r_4 => ((¬ r_4 = 0 → wl_CP_pairsWithoutWay_14 σ x2 ex post k x1 (x3 + 1)) ∧ (r_4 = 0 → wl_CP_pairsWithoutWay_14 σ x2 ex post k (x1 + 1) (x3 + 1))))))))
def wl_CP_pairsWithoutWay_4 (σ : SS) (ex : Int32 → Int32 → Prop) (post : Int32 → Prop) : Nat → Int32 → Int32 → Prop
  | 0, _, _ => False
  | k + 1, x1, x2 =>
    (((σ 1 0) ≤ x2 → ex x1 x2) ∧ (¬ (σ 1 0) ≤ x2 → (∃ j14, wl_CP_pairsWithoutWay_14 σ x2 (fun y1 y3 => we_CP_pairsWithoutWay_45 σ y1 x2 (wl_CP_pairsWithoutWay_4 σ ex post k) ex post) post j14 x1 0)))
def wp_CP_pairsWithoutWay (σ : SS) (post : Int32 → Prop) : Prop :=
  (∃ j4, wl_CP_pairsWithoutWay_4 σ (fun y1 y2 => we_CP_pairsWithoutWay_51 σ y1 post) post j4 0 0)
def wp_CN_count (σ : SS) (x1 : Int32) (post : Int32 → Prop) : Prop :=
  ((x1 = 0 → post (σ 1 0)) ∧ (x1 = 1 → post (σ 1 1)) ∧ (x1 = 2 → post (σ 2 0)) ∧ (x1 = 3 → post (σ 2 1)) ∧ (x1 = 4 → post (σ 4 8)) ∧ (x1 = 5 → wp_CK_flitsInQueues σ (fun r_11 => post r_11)) ∧ (x1 = 6 → wp_CK_flitsInBuffers σ (fun r_12 => post r_12)) ∧ (x1 = 7 → post (σ 4 9)) ∧ (x1 = 8 → wp_CK_flitsLeft σ (fun r_13 => post r_13)) ∧ (x1 = 9 → wp_CP_pairsWithoutWay σ (fun r_14 => post r_14)) ∧ (¬ x1 = 0 → ¬ x1 = 1 → ¬ x1 = 2 → ¬ x1 = 3 → ¬ x1 = 4 → ¬ x1 = 5 → ¬ x1 = 6 → ¬ x1 = 7 → ¬ x1 = 8 → ¬ x1 = 9 → post (-1)))
