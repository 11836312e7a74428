set_option maxHeartbeats 4000000 in
set_option maxRecDepth 100000 in
theorem c_CN_node (l : Launch) (hst : l.stackTraces = false) (dC : Nat → ClassId) (dI : Nat → Nat → Nat) (cI cZ : ClassId) (a : Nat → Nat) (sz : Nat) (σ : SS) (post : Int32 → SS → Prop) (xp : String → SS → Prop) (hw : wp_CN_node σ post xp) : xMet l y_CN_node (.code y_CN_node b_CN_node 1 (some .int) :: TT) { frames := 6, cells := 1, slots := 6, locals := 83 } (pX (dC, dI) clsT (tyT cI cZ) [.ref (a 0)] sz (wC cI cZ a σ)) (va_Qi post (bW (dC, dI) clsT (tyT cI cZ) (wC cI cZ a) (va_A (wC cI cZ a σ) sz)) (va_A (wC cI cZ a σ) sz)) (xC (dC, dI) clsT (tyT cI cZ) (wC cI cZ a) (va_A (wC cI cZ a σ) sz) xp) 1 6 (va_A (wC cI cZ a σ) sz) := by
  refine hdx (Qf := fun A => (va_Qi post (bW (dC, dI) clsT (tyT cI cZ) (wC cI cZ a) A) A)) (Xf := fun A => (xC (dC, dI) clsT (tyT cI cZ) (wC cI cZ a) A xp)) (by decide) (Nat.le_of_ble_eq_true rfl) ?_
  intro p e s m below meth c A ls hx hb hr hts hown hlocks hml hK hP hD hS hA hl hX hO hZ
  have hown : s.vm.findClass R_CN = some m.cls := hown
  have hl : lv_has ls 1 [(0, .ref (a 0))] := hl
  rw [wp_CN_node] at hw
  refine lv_aload_n hx hb d_CN_node_0 rfl (lv_at hl 0 rfl) ?_
  refine va_get (D := (dC, dI)) (ci := 0) (v := .ref (a 1)) (C := R_CN) (T := F_CN) (N := 6) hx hb hts in_CN hown hK hP 0 rfl rfl 0 (by decide) (hts (.fieldLink R_CN 16 R_CN "plan" "LNetRoutes$Plan;") (tm 241 rfl)) (fun _ h9 => h9) rfl d_CN_node_1 ?_
  refine va_get (D := (dC, dI)) (ci := 1) (v := .int (σ 1 0)) (C := R_CP) (T := F_CP) (N := 8) hx hb hts in_CP hown hK hP 1 rfl rfl 0 (by decide) (hts (.fieldLink R_CN 54 R_CP "nodes" "I") (tm 242 rfl)) (fun _ h9 => h9) rfl d_CN_node_4 ?_
  refine lv_bipush (v := 16) hx hb d_CN_node_7 (by decide) ?_
  refine lv_icmp_lt (tgt := 22) hx hb d_CN_node_9 (by decide) (fun c_1 => ?_) (fun c_1 => ?_)
  · have hw := hw.1 c_1
    refine lv_aload_n hx hb d_CN_node_22 rfl (lv_at hl 0 rfl) ?_
    refine va_get (D := (dC, dI)) (ci := 0) (v := .ref (a 1)) (C := R_CN) (T := F_CN) (N := 6) hx hb hts in_CN hown hK hP 0 rfl rfl 0 (by decide) (hts (.fieldLink R_CN 16 R_CN "plan" "LNetRoutes$Plan;") (tm 241 rfl)) (fun _ h9 => h9) rfl d_CN_node_23 ?_
    refine lv_dup hx hb d_CN_node_26 rfl ?_
    refine va_get (D := (dC, dI)) (ci := 1) (v := .int (σ 1 0)) (C := R_CP) (T := F_CP) (N := 8) hx hb hts in_CP hown hK hP 1 rfl rfl 0 (by decide) (hts (.fieldLink R_CN 54 R_CP "nodes" "I") (tm 242 rfl)) (fun _ h9 => h9) rfl d_CN_node_27 ?_
    refine lv_iconst (v := 1) hx hb d_CN_node_30 (by decide) ?_
    refine lv_iadd hx hb d_CN_node_31 ?_
    refine st_f (D := (dC, dI)) (w := wC cI cZ a) (ci := 1) (C := R_CP) (T := F_CP) (N := 8) hx hb hts in_CP t_CP t_CP_ok n_CP hown hK hP hD hS 1 rfl rfl 0 (by decide) (hts (.fieldLink R_CN 54 R_CP "nodes" "I") (tm 242 rfl)) (fun _ h9 => h9) rfl (by decide +kernel) (Nat.le_of_ble_eq_true rfl) rfl d_CN_node_32 (fun s_2 e_2 H locs hP hD hS => ?_)
    have hw := hw s_2 e_2
    refine lv_aload_n hx hb d_CN_node_35 rfl (lv_at hl 0 rfl) ?_
    refine va_get (D := (dC, dI)) (ci := 0) (v := .ref (a 1)) (C := R_CN) (T := F_CN) (N := 6) hx hb hts in_CN hown hK hP 0 rfl rfl 0 (by decide) (hts (.fieldLink R_CN 16 R_CN "plan" "LNetRoutes$Plan;") (tm 241 rfl)) (fun _ h9 => h9) rfl d_CN_node_36 ?_
    refine va_get (D := (dC, dI)) (ci := 1) (v := .int (s_2 1 0)) (C := R_CP) (T := F_CP) (N := 8) hx hb hts in_CP hown hK hP 1 rfl rfl 0 (by decide) (hts (.fieldLink R_CN 54 R_CP "nodes" "I") (tm 242 rfl)) (fun _ h9 => h9) rfl d_CN_node_39 ?_
    refine lv_iconst (v := 1) hx hb d_CN_node_42 (by decide) ?_
    refine lv_isub hx hb d_CN_node_43 ?_
    exact x_ret (W.widen (k := 1) (n := 6) (Nat.zero_le _) (Nat.zero_le _) (rt_i (w := wC cI cZ a) hx hb hr hlocks hK hP hD hS d_CN_node_44 hw))
  · have hw := hw.2 c_1
    exact x_thrown (w := wC cI cZ a) (cls := "java/lang/UnsupportedOperationException") (text := "there are sixteen nodes") hx hb hst hts hown (by decide +kernel) (List.mem_of_getElem? (i := 619) rfl) (List.mem_of_getElem? (i := 550) rfl) (List.mem_of_getElem? (i := 620) rfl) ex_at_61 ex_no_61 hO (by decide +kernel) hK hP hD hS hA (hl.1.trans hml.symm) d_CN_node_12 d_CN_node_15 d_CN_node_16 d_CN_node_18 d_CN_node_21 hX (Nat.le_of_ble_eq_true rfl) (Nat.le_of_ble_eq_true rfl) (Nat.le_of_ble_eq_true rfl) (Nat.le_of_ble_eq_true rfl) hlocks (Nat.le_of_ble_eq_true rfl) (Nat.le_of_ble_eq_true rfl) hw
set_option maxHeartbeats 4000000 in
set_option maxRecDepth 100000 in
theorem c_CN_link (l : Launch) (hst : l.stackTraces = false) (dC : Nat → ClassId) (dI : Nat → Nat → Nat) (cI cZ : ClassId) (a : Nat → Nat) (sz : Nat) (σ : SS) (x1 : Int32) (x2 : Int32) (x3 : Int32) (post : Int32 → SS → Prop) (xp : String → SS → Prop) (hw : wp_CN_link σ x1 x2 x3 post xp) : xMet l y_CN_link (.code y_CN_link b_CN_link 4 (some .int) :: TT) { frames := 6, cells := 1, slots := 6, locals := 83 } (pX (dC, dI) clsT (tyT cI cZ) [.ref (a 0), .int x1, .int x2, .int x3] sz (wC cI cZ a σ)) (va_Qi post (bW (dC, dI) clsT (tyT cI cZ) (wC cI cZ a) (va_A (wC cI cZ a σ) sz)) (va_A (wC cI cZ a σ) sz)) (xC (dC, dI) clsT (tyT cI cZ) (wC cI cZ a) (va_A (wC cI cZ a σ) sz) xp) 1 6 (va_A (wC cI cZ a σ) sz) := by
  refine hdx (Qf := fun A => (va_Qi post (bW (dC, dI) clsT (tyT cI cZ) (wC cI cZ a) A) A)) (Xf := fun A => (xC (dC, dI) clsT (tyT cI cZ) (wC cI cZ a) A xp)) (by decide) (Nat.le_of_ble_eq_true rfl) ?_
  intro p e s m below meth c A ls hx hb hr hts hown hlocks hml hK hP hD hS hA hl hX hO hZ
  have hown : s.vm.findClass R_CN = some m.cls := hown
  have hl : lv_has ls 4 [(0, .ref (a 0)), (1, .int x1), (2, .int x2), (3, .int x3)] := hl
  rw [wp_CN_link] at hw
  refine lv_aload_n hx hb d_CN_link_0 rfl (lv_at hl 0 rfl) ?_
  refine va_get (D := (dC, dI)) (ci := 0) (v := .ref (a 1)) (C := R_CN) (T := F_CN) (N := 6) hx hb hts in_CN hown hK hP 0 rfl rfl 0 (by decide) (hts (.fieldLink R_CN 16 R_CN "plan" "LNetRoutes$Plan;") (tm 241 rfl)) (fun _ h9 => h9) rfl d_CN_link_1 ?_
  refine lv_iload_n hx hb d_CN_link_4 rfl (lv_at hl 1 rfl) ?_
  refine lv_iload_n hx hb d_CN_link_5 rfl (lv_at hl 2 rfl) ?_
  refine cl_r (va_runV (As := [.int x1, .int x2]) (rest := []) ⟨hx, hb, hml, hown, hts⟩ (c_CP_hasTwoNodes l dC dI cI cZ a _ σ x1 x2 _ hw) (cwV 2 hts (gi_V (tm 266 rfl) (tm 267 rfl) (tm 268 rfl) (tm 4 rfl) (tm 269 rfl)) rfl rfl rfl (by decide +kernel) ⟨Nat.le_of_ble_eq_true rfl, Nat.le_of_ble_eq_true rfl⟩) (pW_V hK hP hD (ci := 1) (k := 1) rfl rfl) rfl rfl hl.1 rfl (lv_room (Nat.le_of_ble_eq_true rfl)) d_CN_link_6 ⟨Nat.zero_le _, Nat.zero_le _⟩) hP hS hA (fun r_1 H locs hw hP hT => ?_)
  have hS := hT _ hA hS
  refine lv_if_ne (tgt := 22) hx hb d_CN_link_9 (by decide) (fun c_2 => ?_) (fun c_2 => ?_)
  · have hw := hw.1 c_2
    refine lv_iload_n hx hb d_CN_link_22 rfl (lv_at hl 3 rfl) ?_
    refine lv_iconst (v := 1) hx hb d_CN_link_23 (by decide) ?_
    refine lv_icmp_lt (tgt := 32) hx hb d_CN_link_24 (by decide) (fun c_3 => ?_) (fun c_3 => ?_)
    · have hw := hw.1 c_3
      exact x_thrown (w := wC cI cZ a) (cls := "java/lang/IllegalArgumentException") (text := "a link has 1 to 4 channels") hx hb hst hts hown (by decide +kernel) (List.mem_of_getElem? (i := 677) rfl) (List.mem_of_getElem? (i := 551) rfl) (List.mem_of_getElem? (i := 678) rfl) ex_at_72 ex_no_72 hO (by decide +kernel) hK hP hD hS hA (hl.1.trans hml.symm) d_CN_link_32 d_CN_link_35 d_CN_link_36 d_CN_link_38 d_CN_link_41 hX (Nat.le_of_ble_eq_true rfl) (Nat.le_of_ble_eq_true rfl) (Nat.le_of_ble_eq_true rfl) (Nat.le_of_ble_eq_true rfl) hlocks (Nat.le_of_ble_eq_true rfl) (Nat.le_of_ble_eq_true rfl) hw
    · have hw := hw.2 c_3
      refine lv_iload_n hx hb d_CN_link_27 rfl (lv_at hl 3 rfl) ?_
      refine lv_iconst (v := 4) hx hb d_CN_link_28 (by decide) ?_
      refine lv_icmp_le (tgt := 42) hx hb d_CN_link_29 (by decide) (fun c_4 => ?_) (fun c_4 => ?_)
      · have hw := hw.1 c_4
        refine lv_aload_n hx hb d_CN_link_42 rfl (lv_at hl 0 rfl) ?_
        refine va_get (D := (dC, dI)) (ci := 0) (v := .ref (a 1)) (C := R_CN) (T := F_CN) (N := 6) hx hb hts in_CN hown hK hP 0 rfl rfl 0 (by decide) (hts (.fieldLink R_CN 16 R_CN "plan" "LNetRoutes$Plan;") (tm 241 rfl)) (fun _ h9 => h9) rfl d_CN_link_43 ?_
        refine va_get (D := (dC, dI)) (ci := 1) (v := .int (σ 1 1)) (C := R_CP) (T := F_CP) (N := 8) hx hb hts in_CP hown hK hP 1 rfl rfl 1 (by decide) (hts (.fieldLink R_CN 75 R_CP "links" "I") (tm 243 rfl)) (fun _ h9 => h9) rfl d_CN_link_46 ?_
        refine lv_bipush (v := 40) hx hb d_CN_link_49 (by decide) ?_
        refine lv_icmp_lt (tgt := 64) hx hb d_CN_link_51 (by decide) (fun c_5 => ?_) (fun c_5 => ?_)
        · have hw := hw.1 c_5
          refine lv_aload_n hx hb d_CN_link_64 rfl (lv_at hl 0 rfl) ?_
          refine va_get (D := (dC, dI)) (ci := 0) (v := .ref (a 1)) (C := R_CN) (T := F_CN) (N := 6) hx hb hts in_CN hown hK hP 0 rfl rfl 0 (by decide) (hts (.fieldLink R_CN 16 R_CN "plan" "LNetRoutes$Plan;") (tm 241 rfl)) (fun _ h9 => h9) rfl d_CN_link_65 ?_
          refine lv_iload_n hx hb d_CN_link_68 rfl (lv_at hl 1 rfl) ?_
          refine lv_iload_n hx hb d_CN_link_69 rfl (lv_at hl 2 rfl) ?_
          refine lv_iload_n hx hb d_CN_link_70 rfl (lv_at hl 3 rfl) ?_
          refine cl_i (va_runV (As := [.int x1, .int x2, .int x3]) (rest := []) ⟨hx, hb, hml, hown, hts⟩ (c_CP_addLink l dC dI cI cZ a _ σ x1 x2 x3 _ hw) (cwV 3 hts (gi_V (tm 262 rfl) (tm 263 rfl) (tm 264 rfl) (tm 4 rfl) (tm 265 rfl)) rfl rfl rfl (by decide +kernel) ⟨Nat.le_of_ble_eq_true rfl, Nat.le_of_ble_eq_true rfl⟩) (pW_V hK hP hD (ci := 1) (k := 1) rfl rfl) rfl rfl hl.1 rfl (lv_room (Nat.le_of_ble_eq_true rfl)) d_CN_link_71 ⟨Nat.zero_le _, Nat.zero_le _⟩) hD hS hA (fun r_6 σ_6 H locs hw hP hD hS => ?_)
          exact x_ret (W.widen (k := 1) (n := 6) (Nat.zero_le _) (Nat.zero_le _) (rt_i (w := wC cI cZ a) hx hb hr hlocks hK hP hD hS d_CN_link_74 hw))
        · have hw := hw.2 c_5
          exact x_thrown (w := wC cI cZ a) (cls := "java/lang/UnsupportedOperationException") (text := "there are forty links") hx hb hst hts hown (by decide +kernel) (List.mem_of_getElem? (i := 619) rfl) (List.mem_of_getElem? (i := 550) rfl) (List.mem_of_getElem? (i := 620) rfl) ex_at_61 ex_no_61 hO (by decide +kernel) hK hP hD hS hA (hl.1.trans hml.symm) d_CN_link_54 d_CN_link_57 d_CN_link_58 d_CN_link_60 d_CN_link_63 hX (Nat.le_of_ble_eq_true rfl) (Nat.le_of_ble_eq_true rfl) (Nat.le_of_ble_eq_true rfl) (Nat.le_of_ble_eq_true rfl) hlocks (Nat.le_of_ble_eq_true rfl) (Nat.le_of_ble_eq_true rfl) hw
      · have hw := hw.2 c_4
        exact x_thrown (w := wC cI cZ a) (cls := "java/lang/IllegalArgumentException") (text := "a link has 1 to 4 channels") hx hb hst hts hown (by decide +kernel) (List.mem_of_getElem? (i := 677) rfl) (List.mem_of_getElem? (i := 551) rfl) (List.mem_of_getElem? (i := 678) rfl) ex_at_72 ex_no_72 hO (by decide +kernel) hK hP hD hS hA (hl.1.trans hml.symm) d_CN_link_32 d_CN_link_35 d_CN_link_36 d_CN_link_38 d_CN_link_41 hX (Nat.le_of_ble_eq_true rfl) (Nat.le_of_ble_eq_true rfl) (Nat.le_of_ble_eq_true rfl) (Nat.le_of_ble_eq_true rfl) hlocks (Nat.le_of_ble_eq_true rfl) (Nat.le_of_ble_eq_true rfl) hw
  · have hw := hw.2 c_2
    exact x_thrown (w := wC cI cZ a) (cls := "java/lang/IllegalArgumentException") (text := "a link goes from a node to another one") hx hb hst hts hown (by decide +kernel) (List.mem_of_getElem? (i := 677) rfl) (List.mem_of_getElem? (i := 551) rfl) (List.mem_of_getElem? (i := 678) rfl) ex_at_72 ex_no_72 hO (by decide +kernel) hK hP hD hS hA (hl.1.trans hml.symm) d_CN_link_12 d_CN_link_15 d_CN_link_16 d_CN_link_18 d_CN_link_21 hX (Nat.le_of_ble_eq_true rfl) (Nat.le_of_ble_eq_true rfl) (Nat.le_of_ble_eq_true rfl) (Nat.le_of_ble_eq_true rfl) hlocks (Nat.le_of_ble_eq_true rfl) (Nat.le_of_ble_eq_true rfl) hw
set_option maxHeartbeats 4000000 in
set_option maxRecDepth 100000 in
theorem c_CN_route (l : Launch) (hst : l.stackTraces = false) (dC : Nat → ClassId) (dI : Nat → Nat → Nat) (cI cZ : ClassId) (a : Nat → Nat) (sz : Nat) (σ : SS) (x1 : Int32) (x2 : Int32) (x3 : Int32) (post : Int32 → SS → Prop) (xp : String → SS → Prop) (hw : wp_CN_route σ x1 x2 x3 post xp) : xMet l y_CN_route (.code y_CN_route b_CN_route 5 (some .int) :: TT) { frames := 6, cells := 1, slots := 6, locals := 83 } (pX (dC, dI) clsT (tyT cI cZ) [.ref (a 0), .int x1, .int x2, .int x3] sz (wC cI cZ a σ)) (va_Qi post (bW (dC, dI) clsT (tyT cI cZ) (wC cI cZ a) (va_A (wC cI cZ a σ) sz)) (va_A (wC cI cZ a σ) sz)) (xC (dC, dI) clsT (tyT cI cZ) (wC cI cZ a) (va_A (wC cI cZ a σ) sz) xp) 1 6 (va_A (wC cI cZ a σ) sz) := by
  refine hdx (Qf := fun A => (va_Qi post (bW (dC, dI) clsT (tyT cI cZ) (wC cI cZ a) A) A)) (Xf := fun A => (xC (dC, dI) clsT (tyT cI cZ) (wC cI cZ a) A xp)) (by decide) (Nat.le_of_ble_eq_true rfl) ?_
  intro p e s m below meth c A ls hx hb hr hts hown hlocks hml hK hP hD hS hA hl hX hO hZ
  have hown : s.vm.findClass R_CN = some m.cls := hown
  have hl : lv_has ls 5 [(0, .ref (a 0)), (1, .int x1), (2, .int x2), (3, .int x3)] := hl
  rw [wp_CN_route] at hw
  refine lv_aload_n hx hb d_CN_route_0 rfl (lv_at hl 0 rfl) ?_
  refine va_get (D := (dC, dI)) (ci := 0) (v := .ref (a 1)) (C := R_CN) (T := F_CN) (N := 6) hx hb hts in_CN hown hK hP 0 rfl rfl 0 (by decide) (hts (.fieldLink R_CN 16 R_CN "plan" "LNetRoutes$Plan;") (tm 241 rfl)) (fun _ h9 => h9) rfl d_CN_route_1 ?_
  refine lv_iload_n hx hb d_CN_route_4 rfl (lv_at hl 1 rfl) ?_
  refine lv_iload_n hx hb d_CN_route_5 rfl (lv_at hl 2 rfl) ?_
  refine cl_r (va_runV (As := [.int x1, .int x2]) (rest := []) ⟨hx, hb, hml, hown, hts⟩ (c_CP_hasTwoNodes l dC dI cI cZ a _ σ x1 x2 _ hw) (cwV 2 hts (gi_V (tm 266 rfl) (tm 267 rfl) (tm 268 rfl) (tm 4 rfl) (tm 269 rfl)) rfl rfl rfl (by decide +kernel) ⟨Nat.le_of_ble_eq_true rfl, Nat.le_of_ble_eq_true rfl⟩) (pW_V hK hP hD (ci := 1) (k := 1) rfl rfl) rfl rfl hl.1 rfl (lv_room (Nat.le_of_ble_eq_true rfl)) d_CN_route_6 ⟨Nat.zero_le _, Nat.zero_le _⟩) hP hS hA (fun r_1 H locs hw hP hT => ?_)
  have hS := hT _ hA hS
  refine lv_if_ne (tgt := 22) hx hb d_CN_route_9 (by decide) (fun c_2 => ?_) (fun c_2 => ?_)
  · have hw := hw.1 c_2
    refine lv_iload_n hx hb d_CN_route_22 rfl (lv_at hl 3 rfl) ?_
    refine lv_iconst (v := (-1)) hx hb d_CN_route_23 (by decide) ?_
    refine lv_icmp_eq (tgt := 49) hx hb d_CN_route_24 (by decide) (fun c_3 => ?_) (fun c_3 => ?_)
    · have hw := hw.1 c_3
      refine lv_aload_n hx hb d_CN_route_49 rfl (lv_at hl 0 rfl) ?_
      refine va_get (D := (dC, dI)) (ci := 0) (v := .ref (a 1)) (C := R_CN) (T := F_CN) (N := 6) hx hb hts in_CN hown hK hP 0 rfl rfl 0 (by decide) (hts (.fieldLink R_CN 16 R_CN "plan" "LNetRoutes$Plan;") (tm 241 rfl)) (fun _ h9 => h9) rfl d_CN_route_50 ?_
      refine lv_iload_n hx hb d_CN_route_53 rfl (lv_at hl 1 rfl) ?_
      refine lv_iload_n hx hb d_CN_route_54 rfl (lv_at hl 2 rfl) ?_
      refine cl_r (va_runV (As := [.int x1, .int x2]) (rest := []) ⟨hx, hb, hml, hown, hts⟩ (c_CP_wayAt l dC dI cI cZ a _ σ x1 x2 _ hw) (cwV 2 hts (gi_V (tm 271 rfl) (tm 80 rfl) (tm 81 rfl) (tm 4 rfl) (tm 82 rfl)) rfl rfl rfl (by decide +kernel) ⟨Nat.le_of_ble_eq_true rfl, Nat.le_of_ble_eq_true rfl⟩) (pW_V hK hP hD (ci := 1) (k := 1) rfl rfl) rfl rfl hl.1 rfl (lv_room (Nat.le_of_ble_eq_true rfl)) d_CN_route_55 ⟨Nat.zero_le _, Nat.zero_le _⟩) hP hS hA (fun r_4 H locs hw hP hT => ?_)
      have hS := hT _ hA hS
      refine lv_istore (lv' := [(4, .int r_4), (0, .ref (a 0)), (1, .int x1), (2, .int x2), (3, .int x3)]) hx hb d_CN_route_58 hl (by decide) rfl (fun ls hl => ?_)
      refine lv_aload_n hx hb d_CN_route_60 rfl (lv_at hl 1 rfl) ?_
      refine va_get (D := (dC, dI)) (ci := 0) (v := .ref (a 1)) (C := R_CN) (T := F_CN) (N := 6) hx hb hts in_CN hown hK hP 0 rfl rfl 0 (by decide) (hts (.fieldLink R_CN 16 R_CN "plan" "LNetRoutes$Plan;") (tm 241 rfl)) (fun _ h9 => h9) rfl d_CN_route_61 ?_
      refine lv_iload_n hx hb d_CN_route_64 rfl (lv_at hl 2 rfl) ?_
      refine lv_iload_n hx hb d_CN_route_65 rfl (lv_at hl 3 rfl) ?_
      refine lv_iload_n hx hb d_CN_route_66 rfl (lv_at hl 4 rfl) ?_
      refine cl_v (va_runV (As := [.int x1, .int x2, .int x3]) (rest := []) ⟨hx, hb, hml, hown, hts⟩ (c_CP_changeWay l dC dI cI cZ a _ σ x1 x2 x3 _ hw) (cwV 3 hts (gi_V (tm 270 rfl) (tm 30 rfl) (tm 31 rfl) (tm 4 rfl) (tm 32 rfl)) rfl rfl rfl (by decide +kernel) ⟨Nat.le_of_ble_eq_true rfl, Nat.le_of_ble_eq_true rfl⟩) (pW_V hK hP hD (ci := 1) (k := 1) rfl rfl) rfl rfl hl.1 rfl (lv_room (Nat.le_of_ble_eq_true rfl)) d_CN_route_67 ⟨Nat.zero_le _, Nat.zero_le _⟩) hD hS hA (fun σ_5 H locs hw hP hD hS => ?_)
      refine lv_iload hx hb d_CN_route_70 (lv_at hl 0 rfl) ?_
      exact x_ret (W.widen (k := 1) (n := 6) (Nat.zero_le _) (Nat.zero_le _) (rt_i (w := wC cI cZ a) hx hb hr hlocks hK hP hD hS d_CN_route_72 hw))
    · have hw := hw.2 c_3
      refine lv_aload_n hx hb d_CN_route_27 rfl (lv_at hl 0 rfl) ?_
      refine va_get (D := (dC, dI)) (ci := 0) (v := .ref (a 1)) (C := R_CN) (T := F_CN) (N := 6) hx hb hts in_CN hown hK hP 0 rfl rfl 0 (by decide) (hts (.fieldLink R_CN 16 R_CN "plan" "LNetRoutes$Plan;") (tm 241 rfl)) (fun _ h9 => h9) rfl d_CN_route_28 ?_
      refine lv_iload_n hx hb d_CN_route_31 rfl (lv_at hl 1 rfl) ?_
      refine lv_iload_n hx hb d_CN_route_32 rfl (lv_at hl 3 rfl) ?_
      refine cl_r (va_runV (As := [.int x1, .int x3]) (rest := []) ⟨hx, hb, hml, hown, hts⟩ (c_CP_canBeTaken l dC dI cI cZ a _ σ x1 x3 _ hw) (cwV 2 hts (gi_V (tm 272 rfl) (tm 273 rfl) (tm 274 rfl) (tm 4 rfl) (tm 275 rfl)) rfl rfl rfl (by decide +kernel) ⟨Nat.le_of_ble_eq_true rfl, Nat.le_of_ble_eq_true rfl⟩) (pW_V hK hP hD (ci := 1) (k := 1) rfl rfl) rfl rfl hl.1 rfl (lv_room (Nat.le_of_ble_eq_true rfl)) d_CN_route_33 ⟨Nat.zero_le _, Nat.zero_le _⟩) hP hS hA (fun r_6 H locs hw hP hT => ?_)
      have hS := hT _ hA hS
      refine lv_if_ne (tgt := 49) hx hb d_CN_route_36 (by decide) (fun c_7 => ?_) (fun c_7 => ?_)
      · have hw := hw.1 c_7
        refine lv_aload_n hx hb d_CN_route_49 rfl (lv_at hl 0 rfl) ?_
        refine va_get (D := (dC, dI)) (ci := 0) (v := .ref (a 1)) (C := R_CN) (T := F_CN) (N := 6) hx hb hts in_CN hown hK hP 0 rfl rfl 0 (by decide) (hts (.fieldLink R_CN 16 R_CN "plan" "LNetRoutes$Plan;") (tm 241 rfl)) (fun _ h9 => h9) rfl d_CN_route_50 ?_
        refine lv_iload_n hx hb d_CN_route_53 rfl (lv_at hl 1 rfl) ?_
        refine lv_iload_n hx hb d_CN_route_54 rfl (lv_at hl 2 rfl) ?_
        refine cl_r (va_runV (As := [.int x1, .int x2]) (rest := []) ⟨hx, hb, hml, hown, hts⟩ (c_CP_wayAt l dC dI cI cZ a _ σ x1 x2 _ hw) (cwV 2 hts (gi_V (tm 271 rfl) (tm 80 rfl) (tm 81 rfl) (tm 4 rfl) (tm 82 rfl)) rfl rfl rfl (by decide +kernel) ⟨Nat.le_of_ble_eq_true rfl, Nat.le_of_ble_eq_true rfl⟩) (pW_V hK hP hD (ci := 1) (k := 1) rfl rfl) rfl rfl hl.1 rfl (lv_room (Nat.le_of_ble_eq_true rfl)) d_CN_route_55 ⟨Nat.zero_le _, Nat.zero_le _⟩) hP hS hA (fun r_8 H locs hw hP hT => ?_)
        have hS := hT _ hA hS
        refine lv_istore (lv' := [(4, .int r_8), (0, .ref (a 0)), (1, .int x1), (2, .int x2), (3, .int x3)]) hx hb d_CN_route_58 hl (by decide) rfl (fun ls hl => ?_)
        refine lv_aload_n hx hb d_CN_route_60 rfl (lv_at hl 1 rfl) ?_
        refine va_get (D := (dC, dI)) (ci := 0) (v := .ref (a 1)) (C := R_CN) (T := F_CN) (N := 6) hx hb hts in_CN hown hK hP 0 rfl rfl 0 (by decide) (hts (.fieldLink R_CN 16 R_CN "plan" "LNetRoutes$Plan;") (tm 241 rfl)) (fun _ h9 => h9) rfl d_CN_route_61 ?_
        refine lv_iload_n hx hb d_CN_route_64 rfl (lv_at hl 2 rfl) ?_
        refine lv_iload_n hx hb d_CN_route_65 rfl (lv_at hl 3 rfl) ?_
        refine lv_iload_n hx hb d_CN_route_66 rfl (lv_at hl 4 rfl) ?_
        refine cl_v (va_runV (As := [.int x1, .int x2, .int x3]) (rest := []) ⟨hx, hb, hml, hown, hts⟩ (c_CP_changeWay l dC dI cI cZ a _ σ x1 x2 x3 _ hw) (cwV 3 hts (gi_V (tm 270 rfl) (tm 30 rfl) (tm 31 rfl) (tm 4 rfl) (tm 32 rfl)) rfl rfl rfl (by decide +kernel) ⟨Nat.le_of_ble_eq_true rfl, Nat.le_of_ble_eq_true rfl⟩) (pW_V hK hP hD (ci := 1) (k := 1) rfl rfl) rfl rfl hl.1 rfl (lv_room (Nat.le_of_ble_eq_true rfl)) d_CN_route_67 ⟨Nat.zero_le _, Nat.zero_le _⟩) hD hS hA (fun σ_9 H locs hw hP hD hS => ?_)
        refine lv_iload hx hb d_CN_route_70 (lv_at hl 0 rfl) ?_
        exact x_ret (W.widen (k := 1) (n := 6) (Nat.zero_le _) (Nat.zero_le _) (rt_i (w := wC cI cZ a) hx hb hr hlocks hK hP hD hS d_CN_route_72 hw))
      · have hw := hw.2 c_7
        exact x_thrown (w := wC cI cZ a) (cls := "java/lang/IllegalArgumentException") (text := "no channel that can be taken at this node") hx hb hst hts hown (by decide +kernel) (List.mem_of_getElem? (i := 677) rfl) (List.mem_of_getElem? (i := 551) rfl) (List.mem_of_getElem? (i := 678) rfl) ex_at_72 ex_no_72 hO (by decide +kernel) hK hP hD hS hA (hl.1.trans hml.symm) d_CN_route_39 d_CN_route_42 d_CN_route_43 d_CN_route_45 d_CN_route_48 hX (Nat.le_of_ble_eq_true rfl) (Nat.le_of_ble_eq_true rfl) (Nat.le_of_ble_eq_true rfl) (Nat.le_of_ble_eq_true rfl) hlocks (Nat.le_of_ble_eq_true rfl) (Nat.le_of_ble_eq_true rfl) hw
  · have hw := hw.2 c_2
    exact x_thrown (w := wC cI cZ a) (cls := "java/lang/IllegalArgumentException") (text := "a route goes from a node to another one") hx hb hst hts hown (by decide +kernel) (List.mem_of_getElem? (i := 677) rfl) (List.mem_of_getElem? (i := 551) rfl) (List.mem_of_getElem? (i := 678) rfl) ex_at_72 ex_no_72 hO (by decide +kernel) hK hP hD hS hA (hl.1.trans hml.symm) d_CN_route_12 d_CN_route_15 d_CN_route_16 d_CN_route_18 d_CN_route_21 hX (Nat.le_of_ble_eq_true rfl) (Nat.le_of_ble_eq_true rfl) (Nat.le_of_ble_eq_true rfl) (Nat.le_of_ble_eq_true rfl) hlocks (Nat.le_of_ble_eq_true rfl) (Nat.le_of_ble_eq_true rfl) hw
set_option maxHeartbeats 4000000 in
set_option maxRecDepth 100000 in
theorem c_CN_routes (l : Launch) (hst : l.stackTraces = false) (dC : Nat → ClassId) (dI : Nat → Nat → Nat) (cI cZ : ClassId) (a : Nat → Nat) (sz : Nat) (σ : SS) (x1 : Int32) (post : Int32 → SS → Prop) (xp : String → SS → Prop) (hw : wp_CN_routes σ x1 post xp) : xMet l y_CN_routes (.code y_CN_routes b_CN_routes 2 (some .int) :: TT) { frames := 6, cells := 1, slots := 6, locals := 83 } (pX (dC, dI) clsT (tyT cI cZ) [.ref (a 0), .int x1] sz (wC cI cZ a σ)) (va_Qi post (bW (dC, dI) clsT (tyT cI cZ) (wC cI cZ a) (va_A (wC cI cZ a σ) sz)) (va_A (wC cI cZ a σ) sz)) (xC (dC, dI) clsT (tyT cI cZ) (wC cI cZ a) (va_A (wC cI cZ a σ) sz) xp) 1 6 (va_A (wC cI cZ a σ) sz) := by
  refine hdx (Qf := fun A => (va_Qi post (bW (dC, dI) clsT (tyT cI cZ) (wC cI cZ a) A) A)) (Xf := fun A => (xC (dC, dI) clsT (tyT cI cZ) (wC cI cZ a) A xp)) (by decide) (Nat.le_of_ble_eq_true rfl) ?_
  intro p e s m below meth c A ls hx hb hr hts hown hlocks hml hK hP hD hS hA hl hX hO hZ
  have hown : s.vm.findClass R_CN = some m.cls := hown
  have hl : lv_has ls 2 [(0, .ref (a 0)), (1, .int x1)] := hl
  rw [wp_CN_routes] at hw
  refine lv_aload_n hx hb d_CN_routes_0 rfl (lv_at hl 0 rfl) ?_
  refine va_get (D := (dC, dI)) (ci := 0) (v := .ref (a 1)) (C := R_CN) (T := F_CN) (N := 6) hx hb hts in_CN hown hK hP 0 rfl rfl 0 (by decide) (hts (.fieldLink R_CN 16 R_CN "plan" "LNetRoutes$Plan;") (tm 241 rfl)) (fun _ h9 => h9) rfl d_CN_routes_1 ?_
  refine lv_iload_n hx hb d_CN_routes_4 rfl (lv_at hl 1 rfl) ?_
  refine cl_r (va_runV (As := [.int x1]) (rest := []) ⟨hx, hb, hml, hown, hts⟩ (c_CP_hasNode l dC dI cI cZ a _ σ x1 _ hw) (cwV 1 hts (gi_V (tm 280 rfl) (tm 2 rfl) (tm 3 rfl) (tm 4 rfl) (tm 5 rfl)) rfl rfl rfl (by decide +kernel) ⟨Nat.le_of_ble_eq_true rfl, Nat.le_of_ble_eq_true rfl⟩) (pW_V hK hP hD (ci := 1) (k := 1) rfl rfl) rfl rfl hl.1 rfl (lv_room (Nat.le_of_ble_eq_true rfl)) d_CN_routes_5 ⟨Nat.zero_le _, Nat.zero_le _⟩) hP hS hA (fun r_1 H locs hw hP hT => ?_)
  have hS := hT _ hA hS
  refine lv_if_ne (tgt := 21) hx hb d_CN_routes_8 (by decide) (fun c_2 => ?_) (fun c_2 => ?_)
  · have hw := hw.1 c_2
    refine lv_aload_n hx hb d_CN_routes_21 rfl (lv_at hl 0 rfl) ?_
    refine va_get (D := (dC, dI)) (ci := 0) (v := .ref (a 1)) (C := R_CN) (T := F_CN) (N := 6) hx hb hts in_CN hown hK hP 0 rfl rfl 0 (by decide) (hts (.fieldLink R_CN 16 R_CN "plan" "LNetRoutes$Plan;") (tm 241 rfl)) (fun _ h9 => h9) rfl d_CN_routes_22 ?_
    refine lv_iload_n hx hb d_CN_routes_25 rfl (lv_at hl 1 rfl) ?_
    refine cl_i (va_runV (As := [.int x1]) (rest := []) ⟨hx, hb, hml, hown, hts⟩ (c_CP_makeWaysTo l dC dI cI cZ a _ σ x1 _ hw) (cwV 1 hts (gi_V (tm 276 rfl) (tm 277 rfl) (tm 278 rfl) (tm 4 rfl) (tm 279 rfl)) rfl rfl rfl (by decide +kernel) ⟨Nat.le_of_ble_eq_true rfl, Nat.le_of_ble_eq_true rfl⟩) (pW_V hK hP hD (ci := 1) (k := 1) rfl rfl) rfl rfl hl.1 rfl (lv_room (Nat.le_of_ble_eq_true rfl)) d_CN_routes_26 ⟨Nat.zero_le _, Nat.zero_le _⟩) hD hS hA (fun r_3 σ_3 H locs hw hP hD hS => ?_)
    exact x_ret (W.widen (k := 1) (n := 6) (Nat.zero_le _) (Nat.zero_le _) (rt_i (w := wC cI cZ a) hx hb hr hlocks hK hP hD hS d_CN_routes_29 hw))
  · have hw := hw.2 c_2
    exact x_thrown (w := wC cI cZ a) (cls := "java/lang/IllegalArgumentException") (text := "no such node") hx hb hst hts hown (by decide +kernel) (List.mem_of_getElem? (i := 677) rfl) (List.mem_of_getElem? (i := 551) rfl) (List.mem_of_getElem? (i := 678) rfl) ex_at_72 ex_no_72 hO (by decide +kernel) hK hP hD hS hA (hl.1.trans hml.symm) d_CN_routes_11 d_CN_routes_14 d_CN_routes_15 d_CN_routes_17 d_CN_routes_20 hX (Nat.le_of_ble_eq_true rfl) (Nat.le_of_ble_eq_true rfl) (Nat.le_of_ble_eq_true rfl) (Nat.le_of_ble_eq_true rfl) hlocks (Nat.le_of_ble_eq_true rfl) (Nat.le_of_ble_eq_true rfl) hw
set_option maxHeartbeats 4000000 in
set_option maxRecDepth 100000 in
theorem c_CN_fail (l : Launch) (hst : l.stackTraces = false) (dC : Nat → ClassId) (dI : Nat → Nat → Nat) (cI cZ : ClassId) (a : Nat → Nat) (sz : Nat) (σ : SS) (x1 : Int32) (post : Int32 → SS → Prop) (xp : String → SS → Prop) (hw : wp_CN_fail σ x1 post xp) : xMet l y_CN_fail (.code y_CN_fail b_CN_fail 2 (some .int) :: TT) { frames := 6, cells := 1, slots := 6, locals := 83 } (pX (dC, dI) clsT (tyT cI cZ) [.ref (a 0), .int x1] sz (wC cI cZ a σ)) (va_Qi post (bW (dC, dI) clsT (tyT cI cZ) (wC cI cZ a) (va_A (wC cI cZ a σ) sz)) (va_A (wC cI cZ a σ) sz)) (xC (dC, dI) clsT (tyT cI cZ) (wC cI cZ a) (va_A (wC cI cZ a σ) sz) xp) 1 6 (va_A (wC cI cZ a σ) sz) := by
  refine hdx (Qf := fun A => (va_Qi post (bW (dC, dI) clsT (tyT cI cZ) (wC cI cZ a) A) A)) (Xf := fun A => (xC (dC, dI) clsT (tyT cI cZ) (wC cI cZ a) A xp)) (by decide) (Nat.le_of_ble_eq_true rfl) ?_
  intro p e s m below meth c A ls hx hb hr hts hown hlocks hml hK hP hD hS hA hl hX hO hZ
  have hown : s.vm.findClass R_CN = some m.cls := hown
  have hl : lv_has ls 2 [(0, .ref (a 0)), (1, .int x1)] := hl
  rw [wp_CN_fail] at hw
  refine lv_aload_n hx hb d_CN_fail_0 rfl (lv_at hl 0 rfl) ?_
  refine va_get (D := (dC, dI)) (ci := 0) (v := .ref (a 1)) (C := R_CN) (T := F_CN) (N := 6) hx hb hts in_CN hown hK hP 0 rfl rfl 0 (by decide) (hts (.fieldLink R_CN 16 R_CN "plan" "LNetRoutes$Plan;") (tm 241 rfl)) (fun _ h9 => h9) rfl d_CN_fail_1 ?_
  refine lv_iload_n hx hb d_CN_fail_4 rfl (lv_at hl 1 rfl) ?_
  refine cl_r (va_runV (As := [.int x1]) (rest := []) ⟨hx, hb, hml, hown, hts⟩ (c_CP_hasLink l dC dI cI cZ a _ σ x1 _ hw) (cwV 1 hts (gi_V (tm 286 rfl) (tm 12 rfl) (tm 13 rfl) (tm 4 rfl) (tm 14 rfl)) rfl rfl rfl (by decide +kernel) ⟨Nat.le_of_ble_eq_true rfl, Nat.le_of_ble_eq_true rfl⟩) (pW_V hK hP hD (ci := 1) (k := 1) rfl rfl) rfl rfl hl.1 rfl (lv_room (Nat.le_of_ble_eq_true rfl)) d_CN_fail_5 ⟨Nat.zero_le _, Nat.zero_le _⟩) hP hS hA (fun r_1 H locs hw hP hT => ?_)
  have hS := hT _ hA hS
  refine lv_if_eq (tgt := 23) hx hb d_CN_fail_8 (by decide) (fun c_2 => ?_) (fun c_2 => ?_)
  · have hw := hw.1 c_2
    exact x_thrown (w := wC cI cZ a) (cls := "java/lang/IllegalArgumentException") (text := "no such link, or it has failed") hx hb hst hts hown (by decide +kernel) (List.mem_of_getElem? (i := 677) rfl) (List.mem_of_getElem? (i := 551) rfl) (List.mem_of_getElem? (i := 678) rfl) ex_at_72 ex_no_72 hO (by decide +kernel) hK hP hD hS hA (hl.1.trans hml.symm) d_CN_fail_23 d_CN_fail_26 d_CN_fail_27 d_CN_fail_29 d_CN_fail_32 hX (Nat.le_of_ble_eq_true rfl) (Nat.le_of_ble_eq_true rfl) (Nat.le_of_ble_eq_true rfl) (Nat.le_of_ble_eq_true rfl) hlocks (Nat.le_of_ble_eq_true rfl) (Nat.le_of_ble_eq_true rfl) hw
  · have hw := hw.2 c_2
    refine lv_aload_n hx hb d_CN_fail_11 rfl (lv_at hl 0 rfl) ?_
    refine va_get (D := (dC, dI)) (ci := 0) (v := .ref (a 1)) (C := R_CN) (T := F_CN) (N := 6) hx hb hts in_CN hown hK hP 0 rfl rfl 0 (by decide) (hts (.fieldLink R_CN 16 R_CN "plan" "LNetRoutes$Plan;") (tm 241 rfl)) (fun _ h9 => h9) rfl d_CN_fail_12 ?_
    refine va_get (D := (dC, dI)) (ci := 1) (v := .ref (a 9)) (C := R_CP) (T := F_CP) (N := 8) hx hb hts in_CP hown hK hP 1 rfl rfl 5 (by decide) (hts (.fieldLink R_CN 112 R_CP "failed" "[Z") (tm 281 rfl)) (fun _ h9 => h9) rfl d_CN_fail_15 ?_
    refine lv_iload_n hx hb d_CN_fail_18 rfl (lv_at hl 1 rfl) ?_
    obtain ⟨hin, hw⟩ := hw
    refine va_zald hx hb hK hP 9 1 rfl rfl hin d_CN_fail_19 ?_
    refine lv_if_eq (tgt := 33) hx hb d_CN_fail_20 (by decide) (fun c_3 => ?_) (fun c_3 => ?_)
    · have hw := hw.1 c_3
      refine lv_aload_n hx hb d_CN_fail_33 rfl (lv_at hl 0 rfl) ?_
      refine va_get (D := (dC, dI)) (ci := 0) (v := .ref (a 1)) (C := R_CN) (T := F_CN) (N := 6) hx hb hts in_CN hown hK hP 0 rfl rfl 0 (by decide) (hts (.fieldLink R_CN 16 R_CN "plan" "LNetRoutes$Plan;") (tm 241 rfl)) (fun _ h9 => h9) rfl d_CN_fail_34 ?_
      refine lv_iload_n hx hb d_CN_fail_37 rfl (lv_at hl 1 rfl) ?_
      refine cl_i (va_runV (As := [.int x1]) (rest := []) ⟨hx, hb, hml, hown, hts⟩ (c_CP_breakLink l dC dI cI cZ a _ σ x1 _ hw) (cwV 1 hts (gi_V (tm 282 rfl) (tm 283 rfl) (tm 284 rfl) (tm 4 rfl) (tm 285 rfl)) rfl rfl rfl (by decide +kernel) ⟨Nat.le_of_ble_eq_true rfl, Nat.le_of_ble_eq_true rfl⟩) (pW_V hK hP hD (ci := 1) (k := 1) rfl rfl) rfl rfl hl.1 rfl (lv_room (Nat.le_of_ble_eq_true rfl)) d_CN_fail_38 ⟨Nat.zero_le _, Nat.zero_le _⟩) hD hS hA (fun r_4 σ_4 H locs hw hP hD hS => ?_)
      exact x_ret (W.widen (k := 1) (n := 6) (Nat.zero_le _) (Nat.zero_le _) (rt_i (w := wC cI cZ a) hx hb hr hlocks hK hP hD hS d_CN_fail_41 hw))
    · have hw := hw.2 c_3
      exact x_thrown (w := wC cI cZ a) (cls := "java/lang/IllegalArgumentException") (text := "no such link, or it has failed") hx hb hst hts hown (by decide +kernel) (List.mem_of_getElem? (i := 677) rfl) (List.mem_of_getElem? (i := 551) rfl) (List.mem_of_getElem? (i := 678) rfl) ex_at_72 ex_no_72 hO (by decide +kernel) hK hP hD hS hA (hl.1.trans hml.symm) d_CN_fail_23 d_CN_fail_26 d_CN_fail_27 d_CN_fail_29 d_CN_fail_32 hX (Nat.le_of_ble_eq_true rfl) (Nat.le_of_ble_eq_true rfl) (Nat.le_of_ble_eq_true rfl) (Nat.le_of_ble_eq_true rfl) hlocks (Nat.le_of_ble_eq_true rfl) (Nat.le_of_ble_eq_true rfl) hw
set_option maxHeartbeats 4000000 in
set_option maxRecDepth 100000 in
theorem c_CN_send (l : Launch) (hst : l.stackTraces = false) (dC : Nat → ClassId) (dI : Nat → Nat → Nat) (cI cZ : ClassId) (a : Nat → Nat) (sz : Nat) (σ : SS) (x1 : Int32) (x2 : Int32) (x3 : Int32) (post : Int32 → SS → Prop) (xp : String → SS → Prop) (hw : wp_CN_send σ x1 x2 x3 post xp) : xMet l y_CN_send (.code y_CN_send b_CN_send 4 (some .int) :: TT) { frames := 6, cells := 1, slots := 6, locals := 83 } (pX (dC, dI) clsT (tyT cI cZ) [.ref (a 0), .int x1, .int x2, .int x3] sz (wC cI cZ a σ)) (va_Qi post (bW (dC, dI) clsT (tyT cI cZ) (wC cI cZ a) (va_A (wC cI cZ a σ) sz)) (va_A (wC cI cZ a σ) sz)) (xC (dC, dI) clsT (tyT cI cZ) (wC cI cZ a) (va_A (wC cI cZ a σ) sz) xp) 1 6 (va_A (wC cI cZ a σ) sz) := by
  refine hdx (Qf := fun A => (va_Qi post (bW (dC, dI) clsT (tyT cI cZ) (wC cI cZ a) A) A)) (Xf := fun A => (xC (dC, dI) clsT (tyT cI cZ) (wC cI cZ a) A xp)) (by decide) (Nat.le_of_ble_eq_true rfl) ?_
  intro p e s m below meth c A ls hx hb hr hts hown hlocks hml hK hP hD hS hA hl hX hO hZ
  have hown : s.vm.findClass R_CN = some m.cls := hown
  have hl : lv_has ls 4 [(0, .ref (a 0)), (1, .int x1), (2, .int x2), (3, .int x3)] := hl
  rw [wp_CN_send] at hw
  refine lv_aload_n hx hb d_CN_send_0 rfl (lv_at hl 0 rfl) ?_
  refine va_get (D := (dC, dI)) (ci := 0) (v := .ref (a 1)) (C := R_CN) (T := F_CN) (N := 6) hx hb hts in_CN hown hK hP 0 rfl rfl 0 (by decide) (hts (.fieldLink R_CN 16 R_CN "plan" "LNetRoutes$Plan;") (tm 241 rfl)) (fun _ h9 => h9) rfl d_CN_send_1 ?_
  refine lv_iload_n hx hb d_CN_send_4 rfl (lv_at hl 1 rfl) ?_
  refine cl_r (va_runV (As := [.int x1]) (rest := []) ⟨hx, hb, hml, hown, hts⟩ (c_CP_hasNode l dC dI cI cZ a _ σ x1 _ hw) (cwV 1 hts (gi_V (tm 280 rfl) (tm 2 rfl) (tm 3 rfl) (tm 4 rfl) (tm 5 rfl)) rfl rfl rfl (by decide +kernel) ⟨Nat.le_of_ble_eq_true rfl, Nat.le_of_ble_eq_true rfl⟩) (pW_V hK hP hD (ci := 1) (k := 1) rfl rfl) rfl rfl hl.1 rfl (lv_room (Nat.le_of_ble_eq_true rfl)) d_CN_send_5 ⟨Nat.zero_le _, Nat.zero_le _⟩) hP hS hA (fun r_1 H locs hw hP hT => ?_)
  have hS := hT _ hA hS
  refine lv_if_eq (tgt := 22) hx hb d_CN_send_8 (by decide) (fun c_2 => ?_) (fun c_2 => ?_)
  · have hw := hw.1 c_2
    exact x_thrown (w := wC cI cZ a) (cls := "java/lang/IllegalArgumentException") (text := "no such nodes") hx hb hst hts hown (by decide +kernel) (List.mem_of_getElem? (i := 677) rfl) (List.mem_of_getElem? (i := 551) rfl) (List.mem_of_getElem? (i := 678) rfl) ex_at_72 ex_no_72 hO (by decide +kernel) hK hP hD hS hA (hl.1.trans hml.symm) d_CN_send_22 d_CN_send_25 d_CN_send_26 d_CN_send_28 d_CN_send_31 hX (Nat.le_of_ble_eq_true rfl) (Nat.le_of_ble_eq_true rfl) (Nat.le_of_ble_eq_true rfl) (Nat.le_of_ble_eq_true rfl) hlocks (Nat.le_of_ble_eq_true rfl) (Nat.le_of_ble_eq_true rfl) hw
  · have hw := hw.2 c_2
    refine lv_aload_n hx hb d_CN_send_11 rfl (lv_at hl 0 rfl) ?_
    refine va_get (D := (dC, dI)) (ci := 0) (v := .ref (a 1)) (C := R_CN) (T := F_CN) (N := 6) hx hb hts in_CN hown hK hP 0 rfl rfl 0 (by decide) (hts (.fieldLink R_CN 16 R_CN "plan" "LNetRoutes$Plan;") (tm 241 rfl)) (fun _ h9 => h9) rfl d_CN_send_12 ?_
    refine lv_iload_n hx hb d_CN_send_15 rfl (lv_at hl 2 rfl) ?_
    refine cl_r (va_runV (As := [.int x2]) (rest := []) ⟨hx, hb, hml, hown, hts⟩ (c_CP_hasNode l dC dI cI cZ a _ σ x2 _ hw) (cwV 1 hts (gi_V (tm 280 rfl) (tm 2 rfl) (tm 3 rfl) (tm 4 rfl) (tm 5 rfl)) rfl rfl rfl (by decide +kernel) ⟨Nat.le_of_ble_eq_true rfl, Nat.le_of_ble_eq_true rfl⟩) (pW_V hK hP hD (ci := 1) (k := 1) rfl rfl) rfl rfl hl.1 rfl (lv_room (Nat.le_of_ble_eq_true rfl)) d_CN_send_16 ⟨Nat.zero_le _, Nat.zero_le _⟩) hP hS hA (fun r_3 H locs hw hP hT => ?_)
    have hS := hT _ hA hS
    refine lv_if_ne (tgt := 32) hx hb d_CN_send_19 (by decide) (fun c_4 => ?_) (fun c_4 => ?_)
    · have hw := hw.1 c_4
      refine lv_iload_n hx hb d_CN_send_32 rfl (lv_at hl 3 rfl) ?_
      refine lv_iconst (v := 1) hx hb d_CN_send_33 (by decide) ?_
      refine lv_icmp_lt (tgt := 43) hx hb d_CN_send_34 (by decide) (fun c_5 => ?_) (fun c_5 => ?_)
      · have hw := hw.1 c_5
        exact x_thrown (w := wC cI cZ a) (cls := "java/lang/IllegalArgumentException") (text := "a packet has 1 to 16 flits") hx hb hst hts hown (by decide +kernel) (List.mem_of_getElem? (i := 677) rfl) (List.mem_of_getElem? (i := 551) rfl) (List.mem_of_getElem? (i := 678) rfl) ex_at_72 ex_no_72 hO (by decide +kernel) hK hP hD hS hA (hl.1.trans hml.symm) d_CN_send_43 d_CN_send_46 d_CN_send_47 d_CN_send_49 d_CN_send_52 hX (Nat.le_of_ble_eq_true rfl) (Nat.le_of_ble_eq_true rfl) (Nat.le_of_ble_eq_true rfl) (Nat.le_of_ble_eq_true rfl) hlocks (Nat.le_of_ble_eq_true rfl) (Nat.le_of_ble_eq_true rfl) hw
      · have hw := hw.2 c_5
        refine lv_iload_n hx hb d_CN_send_37 rfl (lv_at hl 3 rfl) ?_
        refine lv_bipush (v := 16) hx hb d_CN_send_38 (by decide) ?_
        refine lv_icmp_le (tgt := 53) hx hb d_CN_send_40 (by decide) (fun c_6 => ?_) (fun c_6 => ?_)
        · have hw := hw.1 c_6
          refine lv_aload_n hx hb d_CN_send_53 rfl (lv_at hl 0 rfl) ?_
          refine va_get (D := (dC, dI)) (ci := 0) (v := .ref (a 2)) (C := R_CN) (T := F_CN) (N := 6) hx hb hts in_CN hown hK hP 0 rfl rfl 1 (by decide) (hts (.fieldLink R_CN 23 R_CN "packets" "LNetRoutes$Packets;") (tm 44 rfl)) (fun _ h9 => h9) rfl d_CN_send_54 ?_
          refine va_get (D := (dC, dI)) (ci := 2) (v := .int (σ 2 0)) (C := R_CK) (T := F_CK) (N := 7) hx hb hts in_CK hown hK hP 2 rfl rfl 0 (by decide) (hts (.fieldLink R_CN 125 R_CK "many" "I") (tm 225 rfl)) (fun _ h9 => h9) rfl d_CN_send_57 ?_
          refine lv_sipush (v := 400) hx hb d_CN_send_60 (by decide) ?_
          refine lv_icmp_lt (tgt := 76) hx hb d_CN_send_63 (by decide) (fun c_7 => ?_) (fun c_7 => ?_)
          · have hw := hw.1 c_7
            refine lv_aload_n hx hb d_CN_send_76 rfl (lv_at hl 0 rfl) ?_
            refine lv_iload_n hx hb d_CN_send_77 rfl (lv_at hl 1 rfl) ?_
            refine lv_iload_n hx hb d_CN_send_78 rfl (lv_at hl 2 rfl) ?_
            refine lv_iload_n hx hb d_CN_send_79 rfl (lv_at hl 3 rfl) ?_
            refine cl_i (va_runV (As := [.int x1, .int x2, .int x3]) (rest := []) ⟨hx, hb, hml, hown, hts⟩ (c_CN_addPacket l dC dI cI cZ a _ σ x1 x2 x3 _ hw) (cwV 3 hts (gi_V (tm 287 rfl) (tm 288 rfl) (tm 289 rfl) (tm 290 rfl) (tm 291 rfl)) rfl rfl rfl (by decide +kernel) ⟨Nat.le_of_ble_eq_true rfl, Nat.le_of_ble_eq_true rfl⟩) (pW_V hK hP hD (ci := 0) (k := 0) rfl rfl) rfl rfl hl.1 rfl (lv_room (Nat.le_of_ble_eq_true rfl)) d_CN_send_80 ⟨Nat.zero_le _, Nat.zero_le _⟩) hD hS hA (fun r_8 σ_8 H locs hw hP hD hS => ?_)
            exact x_ret (W.widen (k := 1) (n := 6) (Nat.zero_le _) (Nat.zero_le _) (rt_i (w := wC cI cZ a) hx hb hr hlocks hK hP hD hS d_CN_send_83 hw))
          · have hw := hw.2 c_7
            exact x_thrown (w := wC cI cZ a) (cls := "java/lang/UnsupportedOperationException") (text := "there are 400 packets") hx hb hst hts hown (by decide +kernel) (List.mem_of_getElem? (i := 619) rfl) (List.mem_of_getElem? (i := 550) rfl) (List.mem_of_getElem? (i := 620) rfl) ex_at_61 ex_no_61 hO (by decide +kernel) hK hP hD hS hA (hl.1.trans hml.symm) d_CN_send_66 d_CN_send_69 d_CN_send_70 d_CN_send_72 d_CN_send_75 hX (Nat.le_of_ble_eq_true rfl) (Nat.le_of_ble_eq_true rfl) (Nat.le_of_ble_eq_true rfl) (Nat.le_of_ble_eq_true rfl) hlocks (Nat.le_of_ble_eq_true rfl) (Nat.le_of_ble_eq_true rfl) hw
        · have hw := hw.2 c_6
          exact x_thrown (w := wC cI cZ a) (cls := "java/lang/IllegalArgumentException") (text := "a packet has 1 to 16 flits") hx hb hst hts hown (by decide +kernel) (List.mem_of_getElem? (i := 677) rfl) (List.mem_of_getElem? (i := 551) rfl) (List.mem_of_getElem? (i := 678) rfl) ex_at_72 ex_no_72 hO (by decide +kernel) hK hP hD hS hA (hl.1.trans hml.symm) d_CN_send_43 d_CN_send_46 d_CN_send_47 d_CN_send_49 d_CN_send_52 hX (Nat.le_of_ble_eq_true rfl) (Nat.le_of_ble_eq_true rfl) (Nat.le_of_ble_eq_true rfl) (Nat.le_of_ble_eq_true rfl) hlocks (Nat.le_of_ble_eq_true rfl) (Nat.le_of_ble_eq_true rfl) hw
    · have hw := hw.2 c_4
      exact x_thrown (w := wC cI cZ a) (cls := "java/lang/IllegalArgumentException") (text := "no such nodes") hx hb hst hts hown (by decide +kernel) (List.mem_of_getElem? (i := 677) rfl) (List.mem_of_getElem? (i := 551) rfl) (List.mem_of_getElem? (i := 678) rfl) ex_at_72 ex_no_72 hO (by decide +kernel) hK hP hD hS hA (hl.1.trans hml.symm) d_CN_send_22 d_CN_send_25 d_CN_send_26 d_CN_send_28 d_CN_send_31 hX (Nat.le_of_ble_eq_true rfl) (Nat.le_of_ble_eq_true rfl) (Nat.le_of_ble_eq_true rfl) (Nat.le_of_ble_eq_true rfl) hlocks (Nat.le_of_ble_eq_true rfl) (Nat.le_of_ble_eq_true rfl) hw
set_option maxHeartbeats 4000000 in
set_option maxRecDepth 100000 in
theorem c_CN_load (l : Launch) (hst : l.stackTraces = false) (dC : Nat → ClassId) (dI : Nat → Nat → Nat) (cI cZ : ClassId) (a : Nat → Nat) (sz : Nat) (σ : SS) (x1 : Int32) (post : Int32 → SS → Prop) (xp : String → SS → Prop) (hw : wp_CN_load σ x1 post xp) : xMet l y_CN_load (.code y_CN_load b_CN_load 6 (some .int) :: TT) { frames := 6, cells := 1, slots := 6, locals := 83 } (pX (dC, dI) clsT (tyT cI cZ) [.ref (a 0), .int x1] sz (wC cI cZ a σ)) (va_Qi post (bW (dC, dI) clsT (tyT cI cZ) (wC cI cZ a) (va_A (wC cI cZ a σ) sz)) (va_A (wC cI cZ a σ) sz)) (xC (dC, dI) clsT (tyT cI cZ) (wC cI cZ a) (va_A (wC cI cZ a σ) sz) xp) 1 6 (va_A (wC cI cZ a σ) sz) := by
  refine hdx (Qf := fun A => (va_Qi post (bW (dC, dI) clsT (tyT cI cZ) (wC cI cZ a) A) A)) (Xf := fun A => (xC (dC, dI) clsT (tyT cI cZ) (wC cI cZ a) A xp)) (by decide) (Nat.le_of_ble_eq_true rfl) ?_
  intro p e s m below meth c A ls hx hb hr hts hown hlocks hml hK hP hD hS hA hl hX hO hZ
  have hown : s.vm.findClass R_CN = some m.cls := hown
  have hl : lv_has ls 6 [(0, .ref (a 0)), (1, .int x1)] := hl
  rw [wp_CN_load] at hw
  refine lv_iload_n hx hb d_CN_load_0 rfl (lv_at hl 1 rfl) ?_
  refine lv_iconst (v := 1) hx hb d_CN_load_1 (by decide) ?_
  refine lv_icmp_lt (tgt := 11) hx hb d_CN_load_2 (by decide) (fun c_1 => ?_) (fun c_1 => ?_)
  · have hw := hw.1 c_1
    exact x_thrown (w := wC cI cZ a) (cls := "java/lang/IllegalArgumentException") (text := "1 to 50 packets at once") hx hb hst hts hown (by decide +kernel) (List.mem_of_getElem? (i := 677) rfl) (List.mem_of_getElem? (i := 551) rfl) (List.mem_of_getElem? (i := 678) rfl) ex_at_72 ex_no_72 hO (by decide +kernel) hK hP hD hS hA (hl.1.trans hml.symm) d_CN_load_11 d_CN_load_14 d_CN_load_15 d_CN_load_17 d_CN_load_20 hX (Nat.le_of_ble_eq_true rfl) (Nat.le_of_ble_eq_true rfl) (Nat.le_of_ble_eq_true rfl) (Nat.le_of_ble_eq_true rfl) hlocks (Nat.le_of_ble_eq_true rfl) (Nat.le_of_ble_eq_true rfl) hw
  · have hw := hw.2 c_1
    refine lv_iload_n hx hb d_CN_load_5 rfl (lv_at hl 1 rfl) ?_
    refine lv_bipush (v := 50) hx hb d_CN_load_6 (by decide) ?_
    refine lv_icmp_le (tgt := 21) hx hb d_CN_load_8 (by decide) (fun c_2 => ?_) (fun c_2 => ?_)
    · have hw := hw.1 c_2
      refine lv_aload_n hx hb d_CN_load_21 rfl (lv_at hl 0 rfl) ?_
      refine va_get (D := (dC, dI)) (ci := 0) (v := .ref (a 1)) (C := R_CN) (T := F_CN) (N := 6) hx hb hts in_CN hown hK hP 0 rfl rfl 0 (by decide) (hts (.fieldLink R_CN 16 R_CN "plan" "LNetRoutes$Plan;") (tm 241 rfl)) (fun _ h9 => h9) rfl d_CN_load_22 ?_
      refine va_get (D := (dC, dI)) (ci := 1) (v := .int (σ 1 0)) (C := R_CP) (T := F_CP) (N := 8) hx hb hts in_CP hown hK hP 1 rfl rfl 0 (by decide) (hts (.fieldLink R_CN 54 R_CP "nodes" "I") (tm 242 rfl)) (fun _ h9 => h9) rfl d_CN_load_25 ?_
      refine lv_if_ne (tgt := 41) hx hb d_CN_load_28 (by decide) (fun c_3 => ?_) (fun c_3 => ?_)
      · have hw := hw.1 c_3
        refine lv_aload_n hx hb d_CN_load_41 rfl (lv_at hl 0 rfl) ?_
        refine va_get (D := (dC, dI)) (ci := 0) (v := .ref (a 2)) (C := R_CN) (T := F_CN) (N := 6) hx hb hts in_CN hown hK hP 0 rfl rfl 1 (by decide) (hts (.fieldLink R_CN 23 R_CN "packets" "LNetRoutes$Packets;") (tm 44 rfl)) (fun _ h9 => h9) rfl d_CN_load_42 ?_
        refine va_get (D := (dC, dI)) (ci := 2) (v := .int (σ 2 0)) (C := R_CK) (T := F_CK) (N := 7) hx hb hts in_CK hown hK hP 2 rfl rfl 0 (by decide) (hts (.fieldLink R_CN 125 R_CK "many" "I") (tm 225 rfl)) (fun _ h9 => h9) rfl d_CN_load_45 ?_
        refine lv_iload_n hx hb d_CN_load_48 rfl (lv_at hl 1 rfl) ?_
        refine lv_iadd hx hb d_CN_load_49 ?_
        refine lv_sipush (v := 400) hx hb d_CN_load_50 (by decide) ?_
        refine lv_icmp_le (tgt := 66) hx hb d_CN_load_53 (by decide) (fun c_4 => ?_) (fun c_4 => ?_)
        · have hw := hw.1 c_4
          refine lv_iconst (v := 0) hx hb d_CN_load_66 (by decide) ?_
          refine lv_istore_n (lv' := [(2, .int 0), (0, .ref (a 0)), (1, .int x1)]) hx hb d_CN_load_67 rfl hl (by decide) rfl (fun ls hl => ?_)
          obtain ⟨k_13, hw⟩ := hw
          have hE_13 : ∀ (σ_13 : SS) (y2_13 : Int32) (H : Heap) (locs : List Loc) (ls : Array Slot), we_CN_load_127 σ_13 post xp → va_P (dC, dI) clsT (wC cI cZ a σ_13) H → va_D A (wC cI cZ a σ_13) → va_S A s.heap H locs → lv_has ls 6 [(0, .ref (a 0))] → W p l e { frames := 6, cells := 1, slots := 6, locals := 83 } s m ([.ref (a 0), .int x1] : List Value).toArray below meth c H locs 0 0 (xMQ below (va_Qi post (bW (dC, dI) clsT (tyT cI cZ) (wC cI cZ a) A) A) (xC (dC, dI) clsT (tyT cI cZ) (wC cI cZ a) A xp) ([.ref (a 0), .int x1] : List Value).toArray s 1 6 A) (F0 m 127 ls []) := by
            intro σ_13 y2_13 H locs ls hw hP hD hS hl
            rw [we_CN_load_127] at hw
            refine lv_aload_n hx hb d_CN_load_127 rfl (lv_at hl 0 rfl) ?_
            refine va_get (D := (dC, dI)) (ci := 0) (v := .ref (a 2)) (C := R_CN) (T := F_CN) (N := 6) hx hb hts in_CN hown hK hP 0 rfl rfl 1 (by decide) (hts (.fieldLink R_CN 23 R_CN "packets" "LNetRoutes$Packets;") (tm 44 rfl)) (fun _ h9 => h9) rfl d_CN_load_128 ?_
            refine va_get (D := (dC, dI)) (ci := 2) (v := .int (σ_13 2 0)) (C := R_CK) (T := F_CK) (N := 7) hx hb hts in_CK hown hK hP 2 rfl rfl 0 (by decide) (hts (.fieldLink R_CN 125 R_CK "many" "I") (tm 225 rfl)) (fun _ h9 => h9) rfl d_CN_load_131 ?_
            refine lv_iconst (v := 1) hx hb d_CN_load_134 (by decide) ?_
            refine lv_isub hx hb d_CN_load_135 ?_
            exact x_ret (W.widen (k := 1) (n := 6) (Nat.zero_le _) (Nat.zero_le _) (rt_i (w := wC cI cZ a) hx hb hr hlocks hK hP hD hS d_CN_load_136 hw))
          have lp_13 : ∀ (kf_13 : Nat) (σ_13 : SS) (y2_13 : Int32) (H : Heap) (locs : List Loc) (ls : Array Slot), wl_CN_load_68 x1 (fun σ' y2 => we_CN_load_127 σ' post xp) post xp kf_13 σ_13 y2_13 → va_P (dC, dI) clsT (wC cI cZ a σ_13) H → va_D A (wC cI cZ a σ_13) → va_S A s.heap H locs → lv_has ls 6 [(0, .ref (a 0)), (1, .int x1), (2, .int y2_13)] → W p l e { frames := 6, cells := 1, slots := 6, locals := 83 } s m ([.ref (a 0), .int x1] : List Value).toArray below meth c H locs 0 0 (xMQ below (va_Qi post (bW (dC, dI) clsT (tyT cI cZ) (wC cI cZ a) A) A) (xC (dC, dI) clsT (tyT cI cZ) (wC cI cZ a) A xp) ([.ref (a 0), .int x1] : List Value).toArray s 1 6 A) (F0 m 68 ls []) := by
            intro kf_13
            induction kf_13 with
            | zero => intro σ_13 y2_13 H locs ls hw; rw [wl_CN_load_68] at hw; exact hw.elim
            | succ kf_13 ih_13 =>
              intro σ_13 y2_13 H locs ls hw hP hD hS hl
              rw [wl_CN_load_68] at hw
              refine lv_iload_n hx hb d_CN_load_68 rfl (lv_at hl 2 rfl) ?_
              refine lv_iload_n hx hb d_CN_load_69 rfl (lv_at hl 1 rfl) ?_
              refine lv_icmp_ge (tgt := 127) hx hb d_CN_load_70 (by decide) (fun c_14 => ?_) (fun c_14 => ?_)
              · have hw := hw.1 c_14
                exact hE_13 σ_13 y2_13 _ _ _ hw hP hD hS (lv_sub hl [0] rfl)
              · have hw := hw.2 c_14
                refine lv_aload_n hx hb d_CN_load_73 rfl (lv_at hl 0 rfl) ?_
                refine cl_i (va_runV (As := []) (rest := []) ⟨hx, hb, hml, hown, hts⟩ (c_CN_drawn l dC dI cI cZ a _ σ_13 _ hw) (cwV 0 hts (gi_V (tm 292 rfl) (tm 293 rfl) (tm 294 rfl) (tm 290 rfl) (tm 295 rfl)) rfl rfl rfl (by decide +kernel) ⟨Nat.le_of_ble_eq_true rfl, Nat.le_of_ble_eq_true rfl⟩) (pW_V hK hP hD (ci := 0) (k := 0) rfl rfl) rfl rfl hl.1 rfl (lv_room (Nat.le_of_ble_eq_true rfl)) d_CN_load_74 ⟨Nat.zero_le _, Nat.zero_le _⟩) hD hS hA (fun r_15 σ_15 H locs hw hP hD hS => ?_)
                refine lv_aload_n hx hb d_CN_load_77 rfl (lv_at hl 0 rfl) ?_
                refine va_get (D := (dC, dI)) (ci := 0) (v := .ref (a 1)) (C := R_CN) (T := F_CN) (N := 6) hx hb hts in_CN hown hK hP 0 rfl rfl 0 (by decide) (hts (.fieldLink R_CN 16 R_CN "plan" "LNetRoutes$Plan;") (tm 241 rfl)) (fun _ h9 => h9) rfl d_CN_load_78 ?_
                refine va_get (D := (dC, dI)) (ci := 1) (v := .int (σ_15 1 0)) (C := R_CP) (T := F_CP) (N := 8) hx hb hts in_CP hown hK hP 1 rfl rfl 0 (by decide) (hts (.fieldLink R_CN 54 R_CP "nodes" "I") (tm 242 rfl)) (fun _ h9 => h9) rfl d_CN_load_81 ?_
                obtain ⟨hne, hw⟩ := hw
                refine lv_irem hx hb d_CN_load_84 hne ?_
                refine lv_topi (fun v_16 ev_16 => ?_)
                have hw := hw v_16 ev_16
                refine lv_istore_n (lv' := [(3, .int v_16), (0, .ref (a 0)), (1, .int x1), (2, .int y2_13)]) hx hb d_CN_load_85 rfl hl (by decide) rfl (fun ls hl => ?_)
                refine lv_aload_n hx hb d_CN_load_86 rfl (lv_at hl 1 rfl) ?_
                refine cl_i (va_runV (As := []) (rest := []) ⟨hx, hb, hml, hown, hts⟩ (c_CN_drawn l dC dI cI cZ a _ σ_15 _ hw) (cwV 0 hts (gi_V (tm 292 rfl) (tm 293 rfl) (tm 294 rfl) (tm 290 rfl) (tm 295 rfl)) rfl rfl rfl (by decide +kernel) ⟨Nat.le_of_ble_eq_true rfl, Nat.le_of_ble_eq_true rfl⟩) (pW_V hK hP hD (ci := 0) (k := 0) rfl rfl) rfl rfl hl.1 rfl (lv_room (Nat.le_of_ble_eq_true rfl)) d_CN_load_87 ⟨Nat.zero_le _, Nat.zero_le _⟩) hD hS hA (fun r_17 σ_17 H locs hw hP hD hS => ?_)
                refine lv_aload_n hx hb d_CN_load_90 rfl (lv_at hl 1 rfl) ?_
                refine va_get (D := (dC, dI)) (ci := 0) (v := .ref (a 1)) (C := R_CN) (T := F_CN) (N := 6) hx hb hts in_CN hown hK hP 0 rfl rfl 0 (by decide) (hts (.fieldLink R_CN 16 R_CN "plan" "LNetRoutes$Plan;") (tm 241 rfl)) (fun _ h9 => h9) rfl d_CN_load_91 ?_
                refine va_get (D := (dC, dI)) (ci := 1) (v := .int (σ_17 1 0)) (C := R_CP) (T := F_CP) (N := 8) hx hb hts in_CP hown hK hP 1 rfl rfl 0 (by decide) (hts (.fieldLink R_CN 54 R_CP "nodes" "I") (tm 242 rfl)) (fun _ h9 => h9) rfl d_CN_load_94 ?_
                obtain ⟨hne, hw⟩ := hw
                refine lv_irem hx hb d_CN_load_97 hne ?_
                refine lv_topi (fun v_18 ev_18 => ?_)
                have hw := hw v_18 ev_18
                refine lv_istore (lv' := [(4, .int v_18), (3, .int v_16), (0, .ref (a 0)), (1, .int x1), (2, .int y2_13)]) hx hb d_CN_load_98 hl (by decide) rfl (fun ls hl => ?_)
                refine lv_iconst (v := 1) hx hb d_CN_load_100 (by decide) ?_
                refine lv_aload_n hx hb d_CN_load_101 rfl (lv_at hl 2 rfl) ?_
                refine cl_i (va_runV (As := []) (rest := [.int 1]) ⟨hx, hb, hml, hown, hts⟩ (c_CN_drawn l dC dI cI cZ a _ σ_17 _ hw) (cwV 0 hts (gi_V (tm 292 rfl) (tm 293 rfl) (tm 294 rfl) (tm 290 rfl) (tm 295 rfl)) rfl rfl rfl (by decide +kernel) ⟨Nat.le_of_ble_eq_true rfl, Nat.le_of_ble_eq_true rfl⟩) (pW_V hK hP hD (ci := 0) (k := 0) rfl rfl) rfl rfl hl.1 rfl (lv_room (Nat.le_of_ble_eq_true rfl)) d_CN_load_102 ⟨Nat.zero_le _, Nat.zero_le _⟩) hD hS hA (fun r_19 σ_19 H locs hw hP hD hS => ?_)
                refine lv_bipush (v := 8) hx hb d_CN_load_105 (by decide) ?_
                refine lv_irem hx hb d_CN_load_107 (by decide) ?_
                refine lv_iadd hx hb d_CN_load_108 ?_
                refine lv_topi (fun v_20 ev_20 => ?_)
                have hw := hw v_20 ev_20
                refine lv_istore (lv' := [(5, .int v_20), (4, .int v_18), (3, .int v_16), (0, .ref (a 0)), (1, .int x1), (2, .int y2_13)]) hx hb d_CN_load_109 hl (by decide) rfl (fun ls hl => ?_)
                refine lv_aload_n hx hb d_CN_load_111 rfl (lv_at hl 3 rfl) ?_
                refine lv_iload_n hx hb d_CN_load_112 rfl (lv_at hl 2 rfl) ?_
                refine lv_iload hx hb d_CN_load_113 (lv_at hl 1 rfl) ?_
                refine lv_iload hx hb d_CN_load_115 (lv_at hl 0 rfl) ?_
                refine cl_i (va_runV (As := [.int v_16, .int v_18, .int v_20]) (rest := []) ⟨hx, hb, hml, hown, hts⟩ (c_CN_addPacket l dC dI cI cZ a _ σ_19 v_16 v_18 v_20 _ hw) (cwV 3 hts (gi_V (tm 287 rfl) (tm 288 rfl) (tm 289 rfl) (tm 290 rfl) (tm 291 rfl)) rfl rfl rfl (by decide +kernel) ⟨Nat.le_of_ble_eq_true rfl, Nat.le_of_ble_eq_true rfl⟩) (pW_V hK hP hD (ci := 0) (k := 0) rfl rfl) rfl rfl hl.1 rfl (lv_room (Nat.le_of_ble_eq_true rfl)) d_CN_load_117 ⟨Nat.zero_le _, Nat.zero_le _⟩) hD hS hA (fun r_21 σ_21 H locs hw hP hD hS => ?_)
                refine lv_pop hx hb d_CN_load_120 rfl ?_
                refine lv_iinc (v := y2_13 + 1) (lv' := [(2, .int (y2_13 + 1)), (5, .int v_20), (4, .int v_18), (3, .int v_16), (0, .ref (a 0)), (1, .int x1)]) hx hb d_CN_load_121 hl (k := 5) rfl rfl (by decide) rfl (fun ls hl => ?_)
                refine lv_goto (tgt := 68) hx hb d_CN_load_124 (by decide) ?_
                exact ih_13 σ_21 (y2_13 + 1) _ _ _ hw hP hD hS (lv_sub hl [4, 5, 0] rfl)
          exact lp_13 k_13 σ 0 _ _ _ hw hP hD hS (lv_sub hl [1, 2, 0] rfl)
        · have hw := hw.2 c_4
          exact x_thrown (w := wC cI cZ a) (cls := "java/lang/UnsupportedOperationException") (text := "there would be more than 400 packets") hx hb hst hts hown (by decide +kernel) (List.mem_of_getElem? (i := 619) rfl) (List.mem_of_getElem? (i := 550) rfl) (List.mem_of_getElem? (i := 620) rfl) ex_at_61 ex_no_61 hO (by decide +kernel) hK hP hD hS hA (hl.1.trans hml.symm) d_CN_load_56 d_CN_load_59 d_CN_load_60 d_CN_load_62 d_CN_load_65 hX (Nat.le_of_ble_eq_true rfl) (Nat.le_of_ble_eq_true rfl) (Nat.le_of_ble_eq_true rfl) (Nat.le_of_ble_eq_true rfl) hlocks (Nat.le_of_ble_eq_true rfl) (Nat.le_of_ble_eq_true rfl) hw
      · have hw := hw.2 c_3
        exact x_thrown (w := wC cI cZ a) (cls := "java/lang/IllegalStateException") (text := "there are no nodes") hx hb hst hts hown (by decide +kernel) (List.mem_of_getElem? (i := 722) rfl) (List.mem_of_getElem? (i := 552) rfl) (List.mem_of_getElem? (i := 723) rfl) ex_at_139 ex_no_139 hO (by decide +kernel) hK hP hD hS hA (hl.1.trans hml.symm) d_CN_load_31 d_CN_load_34 d_CN_load_35 d_CN_load_37 d_CN_load_40 hX (Nat.le_of_ble_eq_true rfl) (Nat.le_of_ble_eq_true rfl) (Nat.le_of_ble_eq_true rfl) (Nat.le_of_ble_eq_true rfl) hlocks (Nat.le_of_ble_eq_true rfl) (Nat.le_of_ble_eq_true rfl) hw
    · have hw := hw.2 c_2
      exact x_thrown (w := wC cI cZ a) (cls := "java/lang/IllegalArgumentException") (text := "1 to 50 packets at once") hx hb hst hts hown (by decide +kernel) (List.mem_of_getElem? (i := 677) rfl) (List.mem_of_getElem? (i := 551) rfl) (List.mem_of_getElem? (i := 678) rfl) ex_at_72 ex_no_72 hO (by decide +kernel) hK hP hD hS hA (hl.1.trans hml.symm) d_CN_load_11 d_CN_load_14 d_CN_load_15 d_CN_load_17 d_CN_load_20 hX (Nat.le_of_ble_eq_true rfl) (Nat.le_of_ble_eq_true rfl) (Nat.le_of_ble_eq_true rfl) (Nat.le_of_ble_eq_true rfl) hlocks (Nat.le_of_ble_eq_true rfl) (Nat.le_of_ble_eq_true rfl) hw
set_option maxHeartbeats 4000000 in
set_option maxRecDepth 100000 in
theorem c_CN_run (l : Launch) (hst : l.stackTraces = false) (dC : Nat → ClassId) (dI : Nat → Nat → Nat) (cI cZ : ClassId) (a : Nat → Nat) (sz : Nat) (σ : SS) (x1 : Int32) (post : Int32 → SS → Prop) (xp : String → SS → Prop) (hw : wp_CN_run σ x1 post xp) : xMet l y_CN_run (.code y_CN_run b_CN_run 5 (some .int) :: TT) { frames := 6, cells := 1, slots := 6, locals := 134 } (pX (dC, dI) clsT (tyT cI cZ) [.ref (a 0), .int x1] sz (wC cI cZ a σ)) (va_Qi post (bW (dC, dI) clsT (tyT cI cZ) (wC cI cZ a) (va_A (wC cI cZ a σ) sz)) (va_A (wC cI cZ a σ) sz)) (xC (dC, dI) clsT (tyT cI cZ) (wC cI cZ a) (va_A (wC cI cZ a σ) sz) xp) 1 6 (va_A (wC cI cZ a σ) sz) := by
  refine hdx (Qf := fun A => (va_Qi post (bW (dC, dI) clsT (tyT cI cZ) (wC cI cZ a) A) A)) (Xf := fun A => (xC (dC, dI) clsT (tyT cI cZ) (wC cI cZ a) A xp)) (by decide) (Nat.le_of_ble_eq_true rfl) ?_
  intro p e s m below meth c A ls hx hb hr hts hown hlocks hml hK hP hD hS hA hl hX hO hZ
  have hown : s.vm.findClass R_CN = some m.cls := hown
  have hl : lv_has ls 5 [(0, .ref (a 0)), (1, .int x1)] := hl
  rw [wp_CN_run] at hw
  refine lv_iload_n hx hb d_CN_run_0 rfl (lv_at hl 1 rfl) ?_
  refine lv_iconst (v := 1) hx hb d_CN_run_1 (by decide) ?_
  refine lv_icmp_lt (tgt := 12) hx hb d_CN_run_2 (by decide) (fun c_1 => ?_) (fun c_1 => ?_)
  · have hw := hw.1 c_1
    exact x_thrown (w := wC cI cZ a) (cls := "java/lang/IllegalArgumentException") (text := "1 to 2000 cycles") hx hb hst hts hown (by decide +kernel) (List.mem_of_getElem? (i := 677) rfl) (List.mem_of_getElem? (i := 551) rfl) (List.mem_of_getElem? (i := 678) rfl) ex_at_72 ex_no_72 hO (by decide +kernel) hK hP hD hS hA (hl.1.trans hml.symm) d_CN_run_12 d_CN_run_15 d_CN_run_16 d_CN_run_18 d_CN_run_21 hX (Nat.le_of_ble_eq_true rfl) (Nat.le_of_ble_eq_true rfl) (Nat.le_of_ble_eq_true rfl) (Nat.le_of_ble_eq_true rfl) hlocks (Nat.le_of_ble_eq_true rfl) (Nat.le_of_ble_eq_true rfl) hw
  · have hw := hw.2 c_1
    refine lv_iload_n hx hb d_CN_run_5 rfl (lv_at hl 1 rfl) ?_
    refine lv_sipush (v := 2000) hx hb d_CN_run_6 (by decide) ?_
    refine lv_icmp_le (tgt := 22) hx hb d_CN_run_9 (by decide) (fun c_2 => ?_) (fun c_2 => ?_)
    · have hw := hw.1 c_2
      refine lv_aload_n hx hb d_CN_run_22 rfl (lv_at hl 0 rfl) ?_
      refine va_get (D := (dC, dI)) (ci := 0) (v := .ref (a 2)) (C := R_CN) (T := F_CN) (N := 6) hx hb hts in_CN hown hK hP 0 rfl rfl 1 (by decide) (hts (.fieldLink R_CN 23 R_CN "packets" "LNetRoutes$Packets;") (tm 44 rfl)) (fun _ h9 => h9) rfl d_CN_run_23 ?_
      refine va_get (D := (dC, dI)) (ci := 2) (v := .int (σ 2 1)) (C := R_CK) (T := F_CK) (N := 7) hx hb hts in_CK hown hK hP 2 rfl rfl 1 (by decide) (hts (.fieldLink R_CN 148 R_CK "arrived" "I") (tm 224 rfl)) (fun _ h9 => h9) rfl d_CN_run_26 ?_
      refine lv_topi (fun v_3 ev_3 => ?_)
      have hw := hw v_3 ev_3
      refine lv_istore_n (lv' := [(2, .int v_3), (0, .ref (a 0)), (1, .int x1)]) hx hb d_CN_run_29 rfl hl (by decide) rfl (fun ls hl => ?_)
      refine lv_iconst (v := 1) hx hb d_CN_run_30 (by decide) ?_
      refine lv_istore_n (lv' := [(3, .int 1), (2, .int v_3), (0, .ref (a 0)), (1, .int x1)]) hx hb d_CN_run_31 rfl hl (by decide) rfl (fun ls hl => ?_)
      refine lv_iconst (v := 0) hx hb d_CN_run_32 (by decide) ?_
      refine lv_istore (lv' := [(4, .int 0), (3, .int 1), (2, .int v_3), (0, .ref (a 0)), (1, .int x1)]) hx hb d_CN_run_33 hl (by decide) rfl (fun ls hl => ?_)
      obtain ⟨k_9, hw⟩ := hw
      have hE_9 : ∀ (σ_9 : SS) (y3_9 : Int32) (y4_9 : Int32) (H : Heap) (locs : List Loc) (ls : Array Slot), we_CN_run_81 σ_9 v_3 post xp → va_P (dC, dI) clsT (wC cI cZ a σ_9) H → va_D A (wC cI cZ a σ_9) → va_S A s.heap H locs → lv_has ls 5 [(0, .ref (a 0)), (2, .int v_3)] → W p l e { frames := 6, cells := 1, slots := 6, locals := 134 } s m ([.ref (a 0), .int x1] : List Value).toArray below meth c H locs 0 0 (xMQ below (va_Qi post (bW (dC, dI) clsT (tyT cI cZ) (wC cI cZ a) A) A) (xC (dC, dI) clsT (tyT cI cZ) (wC cI cZ a) A xp) ([.ref (a 0), .int x1] : List Value).toArray s 1 6 A) (F0 m 81 ls []) := by
        intro σ_9 y3_9 y4_9 H locs ls hw hP hD hS hl
        rw [we_CN_run_81] at hw
        refine lv_aload_n hx hb d_CN_run_81 rfl (lv_at hl 0 rfl) ?_
        refine va_get (D := (dC, dI)) (ci := 0) (v := .ref (a 2)) (C := R_CN) (T := F_CN) (N := 6) hx hb hts in_CN hown hK hP 0 rfl rfl 1 (by decide) (hts (.fieldLink R_CN 23 R_CN "packets" "LNetRoutes$Packets;") (tm 44 rfl)) (fun _ h9 => h9) rfl d_CN_run_82 ?_
        refine va_get (D := (dC, dI)) (ci := 2) (v := .int (σ_9 2 1)) (C := R_CK) (T := F_CK) (N := 7) hx hb hts in_CK hown hK hP 2 rfl rfl 1 (by decide) (hts (.fieldLink R_CN 148 R_CK "arrived" "I") (tm 224 rfl)) (fun _ h9 => h9) rfl d_CN_run_85 ?_
        refine lv_iload_n hx hb d_CN_run_88 rfl (lv_at hl 1 rfl) ?_
        refine lv_isub hx hb d_CN_run_89 ?_
        exact x_ret (W.widen (k := 1) (n := 6) (Nat.zero_le _) (Nat.zero_le _) (rt_i (w := wC cI cZ a) hx hb hr hlocks hK hP hD hS d_CN_run_90 hw))
      have lp_9 : ∀ (kf_9 : Nat) (σ_9 : SS) (y3_9 : Int32) (y4_9 : Int32) (H : Heap) (locs : List Loc) (ls : Array Slot), wl_CN_run_35 x1 v_3 (fun σ' y3 y4 => we_CN_run_81 σ' v_3 post xp) post xp kf_9 σ_9 y3_9 y4_9 → va_P (dC, dI) clsT (wC cI cZ a σ_9) H → va_D A (wC cI cZ a σ_9) → va_S A s.heap H locs → lv_has ls 5 [(0, .ref (a 0)), (1, .int x1), (2, .int v_3), (3, .int y3_9), (4, .int y4_9)] → W p l e { frames := 6, cells := 1, slots := 6, locals := 134 } s m ([.ref (a 0), .int x1] : List Value).toArray below meth c H locs 0 0 (xMQ below (va_Qi post (bW (dC, dI) clsT (tyT cI cZ) (wC cI cZ a) A) A) (xC (dC, dI) clsT (tyT cI cZ) (wC cI cZ a) A xp) ([.ref (a 0), .int x1] : List Value).toArray s 1 6 A) (F0 m 35 ls []) := by
        intro kf_9
        induction kf_9 with
        | zero => intro σ_9 y3_9 y4_9 H locs ls hw; rw [wl_CN_run_35] at hw; exact hw.elim
        | succ kf_9 ih_9 =>
          intro σ_9 y3_9 y4_9 H locs ls hw hP hD hS hl
          rw [wl_CN_run_35] at hw
          refine lv_iload hx hb d_CN_run_35 (lv_at hl 4 rfl) ?_
          refine lv_iload_n hx hb d_CN_run_37 rfl (lv_at hl 1 rfl) ?_
          refine lv_icmp_ge (tgt := 81) hx hb d_CN_run_38 (by decide) (fun c_10 => ?_) (fun c_10 => ?_)
          · have hw := hw.1 c_10
            exact hE_9 σ_9 y3_9 y4_9 _ _ _ hw hP hD hS (lv_sub hl [0, 2] rfl)
          · have hw := hw.2 c_10
            refine lv_iload_n hx hb d_CN_run_41 rfl (lv_at hl 3 rfl) ?_
            refine lv_if_eq (tgt := 81) hx hb d_CN_run_42 (by decide) (fun c_11 => ?_) (fun c_11 => ?_)
            · have hw := hw.1 c_11
              exact hE_9 σ_9 y3_9 y4_9 _ _ _ hw hP hD hS (lv_sub hl [0, 2] rfl)
            · have hw := hw.2 c_11
              refine lv_aload_n hx hb d_CN_run_45 rfl (lv_at hl 0 rfl) ?_
              refine va_get (D := (dC, dI)) (ci := 0) (v := .ref (a 4)) (C := R_CN) (T := F_CN) (N := 6) hx hb hts in_CN hown hK hP 0 rfl rfl 3 (by decide) (hts (.fieldLink R_CN 41 R_CN "traffic" "LNetRoutes$Traffic;") (tm 226 rfl)) (fun _ h9 => h9) rfl d_CN_run_46 ?_
              refine cl_i (va_runV (As := []) (rest := []) ⟨hx, hb, hml, hown, hts⟩ (c_CT_goOneCycle l dC dI cI cZ a _ σ_9 _ hw) (cwV 0 hts (gi_V (tm 296 rfl) (tm 297 rfl) (tm 298 rfl) (tm 107 rfl) (tm 299 rfl)) rfl rfl rfl (by decide +kernel) ⟨Nat.le_of_ble_eq_true rfl, Nat.le_of_ble_eq_true rfl⟩) (pW_V hK hP hD (ci := 4) (k := 4) rfl rfl) rfl rfl hl.1 rfl (lv_room (Nat.le_of_ble_eq_true rfl)) d_CN_run_49 ⟨Nat.zero_le _, Nat.zero_le _⟩) hD hS hA (fun r_12 σ_12 H locs hw hP hD hS => ?_)
              refine lv_istore_n (lv' := [(3, .int r_12), (0, .ref (a 0)), (1, .int x1), (2, .int v_3), (4, .int y4_9)]) hx hb d_CN_run_52 rfl hl (by decide) rfl (fun ls hl => ?_)
              refine lv_iload_n hx hb d_CN_run_53 rfl (lv_at hl 0 rfl) ?_
              refine lv_if_ne (tgt := 75) hx hb d_CN_run_54 (by decide) (fun c_13 => ?_) (fun c_13 => ?_)
              · have hw := hw.1 c_13
                refine lv_iinc (v := y4_9 + 1) (lv' := [(4, .int (y4_9 + 1)), (3, .int r_12), (0, .ref (a 0)), (1, .int x1), (2, .int v_3)]) hx hb d_CN_run_75 hl (k := 4) rfl rfl (by decide) rfl (fun ls hl => ?_)
                refine lv_goto (tgt := 35) hx hb d_CN_run_78 (by decide) ?_
                exact ih_9 σ_12 r_12 (y4_9 + 1) _ _ _ hw hP hD hS (lv_sub hl [2, 3, 4, 1, 0] rfl)
              · have hw := hw.2 c_13
                refine lv_aload_n hx hb d_CN_run_57 rfl (lv_at hl 1 rfl) ?_
                refine va_get (D := (dC, dI)) (ci := 0) (v := .ref (a 4)) (C := R_CN) (T := F_CN) (N := 6) hx hb hts in_CN hown hK hP 0 rfl rfl 3 (by decide) (hts (.fieldLink R_CN 41 R_CN "traffic" "LNetRoutes$Traffic;") (tm 226 rfl)) (fun _ h9 => h9) rfl d_CN_run_58 ?_
                refine lv_dup hx hb d_CN_run_61 rfl ?_
                refine va_get (D := (dC, dI)) (ci := 4) (v := .int (σ_12 4 8)) (C := R_CT) (T := F_CT) (N := 10) hx hb hts in_CT hown hK hP 4 rfl rfl 8 (by decide) (hts (.fieldLink R_CN 155 R_CT "cycles" "I") (tm 244 rfl)) (fun _ h9 => h9) rfl d_CN_run_62 ?_
                refine lv_iload_n hx hb d_CN_run_65 rfl (lv_at hl 2 rfl) ?_
                refine lv_iload hx hb d_CN_run_66 (lv_at hl 4 rfl) ?_
                refine lv_isub hx hb d_CN_run_68 ?_
                refine lv_iconst (v := 1) hx hb d_CN_run_69 (by decide) ?_
                refine lv_isub hx hb d_CN_run_70 ?_
                refine lv_iadd hx hb d_CN_run_71 ?_
                refine st_f (D := (dC, dI)) (w := wC cI cZ a) (ci := 4) (C := R_CT) (T := F_CT) (N := 10) hx hb hts in_CT t_CT t_CT_ok n_CT hown hK hP hD hS 4 rfl rfl 8 (by decide) (hts (.fieldLink R_CN 155 R_CT "cycles" "I") (tm 244 rfl)) (fun _ h9 => h9) rfl (by decide +kernel) (Nat.le_of_ble_eq_true rfl) rfl d_CN_run_72 (fun s_14 e_14 H locs hP hD hS => ?_)
                have hw := hw s_14 e_14
                refine lv_iinc (v := y4_9 + 1) (lv' := [(4, .int (y4_9 + 1)), (3, .int r_12), (0, .ref (a 0)), (1, .int x1), (2, .int v_3)]) hx hb d_CN_run_75 hl (k := 4) rfl rfl (by decide) rfl (fun ls hl => ?_)
                refine lv_goto (tgt := 35) hx hb d_CN_run_78 (by decide) ?_
                exact ih_9 s_14 r_12 (y4_9 + 1) _ _ _ hw hP hD hS (lv_sub hl [2, 3, 4, 1, 0] rfl)
      exact lp_9 k_9 σ 1 0 _ _ _ hw hP hD hS (lv_sub hl [3, 4, 2, 1, 0] rfl)
    · have hw := hw.2 c_2
      exact x_thrown (w := wC cI cZ a) (cls := "java/lang/IllegalArgumentException") (text := "1 to 2000 cycles") hx hb hst hts hown (by decide +kernel) (List.mem_of_getElem? (i := 677) rfl) (List.mem_of_getElem? (i := 551) rfl) (List.mem_of_getElem? (i := 678) rfl) ex_at_72 ex_no_72 hO (by decide +kernel) hK hP hD hS hA (hl.1.trans hml.symm) d_CN_run_12 d_CN_run_15 d_CN_run_16 d_CN_run_18 d_CN_run_21 hX (Nat.le_of_ble_eq_true rfl) (Nat.le_of_ble_eq_true rfl) (Nat.le_of_ble_eq_true rfl) (Nat.le_of_ble_eq_true rfl) hlocks (Nat.le_of_ble_eq_true rfl) (Nat.le_of_ble_eq_true rfl) hw
set_option maxHeartbeats 4000000 in
set_option maxRecDepth 100000 in
theorem c_CN_packet (l : Launch) (hst : l.stackTraces = false) (dC : Nat → ClassId) (dI : Nat → Nat → Nat) (cI cZ : ClassId) (a : Nat → Nat) (sz : Nat) (σ : SS) (x1 : Int32) (x2 : Int32) (post : Int32 → Prop) (xp : String → SS → Prop) (hw : wp_CN_packet σ x1 x2 post xp) : xMet l y_CN_packet (.code y_CN_packet b_CN_packet 3 (some .int) :: TT) { frames := 6, cells := 1, slots := 6, locals := 83 } (pX (dC, dI) clsT (tyT cI cZ) [.ref (a 0), .int x1, .int x2] sz (wC cI cZ a σ)) (va_Qi (fun r u => u = σ ∧ post r) (bW (dC, dI) clsT (tyT cI cZ) (wC cI cZ a) (va_A (wC cI cZ a σ) sz)) (va_A (wC cI cZ a σ) sz)) (xC (dC, dI) clsT (tyT cI cZ) (wC cI cZ a) (va_A (wC cI cZ a σ) sz) xp) 1 6 (va_A (wC cI cZ a σ) sz) := by
  refine hdx (Qf := fun A => (va_Qi (fun r u => u = σ ∧ post r) (bW (dC, dI) clsT (tyT cI cZ) (wC cI cZ a) A) A)) (Xf := fun A => (xC (dC, dI) clsT (tyT cI cZ) (wC cI cZ a) A xp)) (by decide) (Nat.le_of_ble_eq_true rfl) ?_
  intro p e s m below meth c A ls hx hb hr hts hown hlocks hml hK hP hD hS hA hl hX hO hZ
  have hown : s.vm.findClass R_CN = some m.cls := hown
  have hl : lv_has ls 3 [(0, .ref (a 0)), (1, .int x1), (2, .int x2)] := hl
  rw [wp_CN_packet] at hw
  refine lv_iload_n hx hb d_CN_packet_0 rfl (lv_at hl 1 rfl) ?_
  refine lv_if_lt (tgt := 15) hx hb d_CN_packet_1 (by decide) (fun c_1 => ?_) (fun c_1 => ?_)
  · have hw := hw.1 c_1
    exact x_thrown (w := wC cI cZ a) (cls := "java/lang/IndexOutOfBoundsException") (text := "no such packet") hx hb hst hts hown (by decide +kernel) (List.mem_of_getElem? (i := 749) rfl) (List.mem_of_getElem? (i := 553) rfl) (List.mem_of_getElem? (i := 750) rfl) ex_at_162 ex_no_162 hO (by decide +kernel) hK hP hD hS hA (hl.1.trans hml.symm) d_CN_packet_15 d_CN_packet_18 d_CN_packet_19 d_CN_packet_21 d_CN_packet_24 hX (Nat.le_of_ble_eq_true rfl) (Nat.le_of_ble_eq_true rfl) (Nat.le_of_ble_eq_true rfl) (Nat.le_of_ble_eq_true rfl) hlocks (Nat.le_of_ble_eq_true rfl) (Nat.le_of_ble_eq_true rfl) hw
  · have hw := hw.2 c_1
    refine lv_iload_n hx hb d_CN_packet_4 rfl (lv_at hl 1 rfl) ?_
    refine lv_aload_n hx hb d_CN_packet_5 rfl (lv_at hl 0 rfl) ?_
    refine va_get (D := (dC, dI)) (ci := 0) (v := .ref (a 2)) (C := R_CN) (T := F_CN) (N := 6) hx hb hts in_CN hown hK hP 0 rfl rfl 1 (by decide) (hts (.fieldLink R_CN 23 R_CN "packets" "LNetRoutes$Packets;") (tm 44 rfl)) (fun _ h9 => h9) rfl d_CN_packet_6 ?_
    refine va_get (D := (dC, dI)) (ci := 2) (v := .int (σ 2 0)) (C := R_CK) (T := F_CK) (N := 7) hx hb hts in_CK hown hK hP 2 rfl rfl 0 (by decide) (hts (.fieldLink R_CN 125 R_CK "many" "I") (tm 225 rfl)) (fun _ h9 => h9) rfl d_CN_packet_9 ?_
    refine lv_icmp_lt (tgt := 25) hx hb d_CN_packet_12 (by decide) (fun c_2 => ?_) (fun c_2 => ?_)
    · have hw := hw.1 c_2
      refine lv_iload_n hx hb d_CN_packet_25 rfl (lv_at hl 2 rfl) ?_
      by_cases c_3 : x2 = 0
      · have hw := hw.1 c_3
        refine lv_tableIn (tgt := 56) hx hb d_CN_packet_26 (by rw [c_3]; decide) (by rw [c_3]; decide) (by rw [c_3]; rfl) (by decide) ?_
        refine lv_aload_n hx hb d_CN_packet_56 rfl (lv_at hl 0 rfl) ?_
        refine va_get (D := (dC, dI)) (ci := 0) (v := .ref (a 2)) (C := R_CN) (T := F_CN) (N := 6) hx hb hts in_CN hown hK hP 0 rfl rfl 1 (by decide) (hts (.fieldLink R_CN 23 R_CN "packets" "LNetRoutes$Packets;") (tm 44 rfl)) (fun _ h9 => h9) rfl d_CN_packet_57 ?_
        refine va_get (D := (dC, dI)) (ci := 2) (v := .ref (a 16)) (C := R_CK) (T := F_CK) (N := 7) hx hb hts in_CK hown hK hP 2 rfl rfl 6 (by decide) (hts (.fieldLink R_CN 163 R_CK "arrivedIn" "[I") (tm 300 rfl)) (fun _ h9 => h9) rfl d_CN_packet_60 ?_
        refine lv_iload_n hx hb d_CN_packet_63 rfl (lv_at hl 1 rfl) ?_
        obtain ⟨hin, hw⟩ := hw
        refine va_iald hx hb hK hP 16 0 rfl rfl hin d_CN_packet_64 ?_
        exact x_ret (W.widen (k := 1) (n := 6) (Nat.zero_le _) (Nat.zero_le _) (rt_i (w := wC cI cZ a) hx hb hr hlocks hK hP hD hS d_CN_packet_65 ⟨rfl, hw⟩))
      by_cases c_4 : x2 = 1
      · have hw := hw.2.1 c_4
        refine lv_tableIn (tgt := 66) hx hb d_CN_packet_26 (by rw [c_4]; decide) (by rw [c_4]; decide) (by rw [c_4]; rfl) (by decide) ?_
        refine lv_aload_n hx hb d_CN_packet_66 rfl (lv_at hl 0 rfl) ?_
        refine va_get (D := (dC, dI)) (ci := 0) (v := .ref (a 2)) (C := R_CN) (T := F_CN) (N := 6) hx hb hts in_CN hown hK hP 0 rfl rfl 1 (by decide) (hts (.fieldLink R_CN 23 R_CN "packets" "LNetRoutes$Packets;") (tm 44 rfl)) (fun _ h9 => h9) rfl d_CN_packet_67 ?_
        refine va_get (D := (dC, dI)) (ci := 2) (v := .ref (a 14)) (C := R_CK) (T := F_CK) (N := 7) hx hb hts in_CK hown hK hP 2 rfl rfl 4 (by decide) (hts (.fieldLink R_CN 167 R_CK "waiting" "[I") (tm 301 rfl)) (fun _ h9 => h9) rfl d_CN_packet_70 ?_
        refine lv_iload_n hx hb d_CN_packet_73 rfl (lv_at hl 1 rfl) ?_
        obtain ⟨hin, hw⟩ := hw
        refine va_iald hx hb hK hP 14 0 rfl rfl hin d_CN_packet_74 ?_
        exact x_ret (W.widen (k := 1) (n := 6) (Nat.zero_le _) (Nat.zero_le _) (rt_i (w := wC cI cZ a) hx hb hr hlocks hK hP hD hS d_CN_packet_75 ⟨rfl, hw⟩))
      by_cases c_5 : x2 = 2
      · have hw := hw.2.2.1 c_5
        refine lv_tableIn (tgt := 76) hx hb d_CN_packet_26 (by rw [c_5]; decide) (by rw [c_5]; decide) (by rw [c_5]; rfl) (by decide) ?_
        refine lv_aload_n hx hb d_CN_packet_76 rfl (lv_at hl 0 rfl) ?_
        refine va_get (D := (dC, dI)) (ci := 0) (v := .ref (a 2)) (C := R_CN) (T := F_CN) (N := 6) hx hb hts in_CN hown hK hP 0 rfl rfl 1 (by decide) (hts (.fieldLink R_CN 23 R_CN "packets" "LNetRoutes$Packets;") (tm 44 rfl)) (fun _ h9 => h9) rfl d_CN_packet_77 ?_
        refine va_get (D := (dC, dI)) (ci := 2) (v := .ref (a 13)) (C := R_CK) (T := F_CK) (N := 7) hx hb hts in_CK hown hK hP 2 rfl rfl 3 (by decide) (hts (.fieldLink R_CN 170 R_CK "flits" "[I") (tm 302 rfl)) (fun _ h9 => h9) rfl d_CN_packet_80 ?_
        refine lv_iload_n hx hb d_CN_packet_83 rfl (lv_at hl 1 rfl) ?_
        obtain ⟨hin, hw⟩ := hw
        refine va_iald hx hb hK hP 13 0 rfl rfl hin d_CN_packet_84 ?_
        refine lv_aload_n hx hb d_CN_packet_85 rfl (lv_at hl 0 rfl) ?_
        refine va_get (D := (dC, dI)) (ci := 0) (v := .ref (a 2)) (C := R_CN) (T := F_CN) (N := 6) hx hb hts in_CN hown hK hP 0 rfl rfl 1 (by decide) (hts (.fieldLink R_CN 23 R_CN "packets" "LNetRoutes$Packets;") (tm 44 rfl)) (fun _ h9 => h9) rfl d_CN_packet_86 ?_
        refine va_get (D := (dC, dI)) (ci := 2) (v := .ref (a 14)) (C := R_CK) (T := F_CK) (N := 7) hx hb hts in_CK hown hK hP 2 rfl rfl 4 (by decide) (hts (.fieldLink R_CN 167 R_CK "waiting" "[I") (tm 301 rfl)) (fun _ h9 => h9) rfl d_CN_packet_89 ?_
        refine lv_iload_n hx hb d_CN_packet_92 rfl (lv_at hl 1 rfl) ?_
        obtain ⟨hin, hw⟩ := hw
        refine va_iald hx hb hK hP 14 0 rfl rfl hin d_CN_packet_93 ?_
        refine lv_isub hx hb d_CN_packet_94 ?_
        refine lv_aload_n hx hb d_CN_packet_95 rfl (lv_at hl 0 rfl) ?_
        refine va_get (D := (dC, dI)) (ci := 0) (v := .ref (a 2)) (C := R_CN) (T := F_CN) (N := 6) hx hb hts in_CN hown hK hP 0 rfl rfl 1 (by decide) (hts (.fieldLink R_CN 23 R_CN "packets" "LNetRoutes$Packets;") (tm 44 rfl)) (fun _ h9 => h9) rfl d_CN_packet_96 ?_
        refine va_get (D := (dC, dI)) (ci := 2) (v := .ref (a 15)) (C := R_CK) (T := F_CK) (N := 7) hx hb hts in_CK hown hK hP 2 rfl rfl 5 (by decide) (hts (.fieldLink R_CN 173 R_CK "left" "[I") (tm 303 rfl)) (fun _ h9 => h9) rfl d_CN_packet_99 ?_
        refine lv_iload_n hx hb d_CN_packet_102 rfl (lv_at hl 1 rfl) ?_
        obtain ⟨hin, hw⟩ := hw
        refine va_iald hx hb hK hP 15 0 rfl rfl hin d_CN_packet_103 ?_
        refine lv_isub hx hb d_CN_packet_104 ?_
        exact x_ret (W.widen (k := 1) (n := 6) (Nat.zero_le _) (Nat.zero_le _) (rt_i (w := wC cI cZ a) hx hb hr hlocks hK hP hD hS d_CN_packet_105 ⟨rfl, hw⟩))
      by_cases c_6 : x2 = 3
      · have hw := hw.2.2.2.1 c_6
        refine lv_tableIn (tgt := 106) hx hb d_CN_packet_26 (by rw [c_6]; decide) (by rw [c_6]; decide) (by rw [c_6]; rfl) (by decide) ?_
        refine lv_aload_n hx hb d_CN_packet_106 rfl (lv_at hl 0 rfl) ?_
        refine va_get (D := (dC, dI)) (ci := 0) (v := .ref (a 2)) (C := R_CN) (T := F_CN) (N := 6) hx hb hts in_CN hown hK hP 0 rfl rfl 1 (by decide) (hts (.fieldLink R_CN 23 R_CN "packets" "LNetRoutes$Packets;") (tm 44 rfl)) (fun _ h9 => h9) rfl d_CN_packet_107 ?_
        refine va_get (D := (dC, dI)) (ci := 2) (v := .ref (a 15)) (C := R_CK) (T := F_CK) (N := 7) hx hb hts in_CK hown hK hP 2 rfl rfl 5 (by decide) (hts (.fieldLink R_CN 173 R_CK "left" "[I") (tm 303 rfl)) (fun _ h9 => h9) rfl d_CN_packet_110 ?_
        refine lv_iload_n hx hb d_CN_packet_113 rfl (lv_at hl 1 rfl) ?_
        obtain ⟨hin, hw⟩ := hw
        refine va_iald hx hb hK hP 15 0 rfl rfl hin d_CN_packet_114 ?_
        exact x_ret (W.widen (k := 1) (n := 6) (Nat.zero_le _) (Nat.zero_le _) (rt_i (w := wC cI cZ a) hx hb hr hlocks hK hP hD hS d_CN_packet_115 ⟨rfl, hw⟩))
      have hw := hw.2.2.2.2 c_3 c_4 c_5 c_6
      refine lv_tableOut (tgt := 116) hx hb d_CN_packet_26 (by have g0 := lv_neT c_3 (a := 0) rfl; have g1 := lv_neT c_4 (a := 1) rfl; have g2 := lv_neT c_5 (a := 2) rfl; have g3 := lv_neT c_6 (a := 3) rfl; omega) (by decide) ?_
      exact x_thrown (w := wC cI cZ a) (cls := "java/lang/IndexOutOfBoundsException") (text := "no such number of a packet") hx hb hst hts hown (by decide +kernel) (List.mem_of_getElem? (i := 749) rfl) (List.mem_of_getElem? (i := 553) rfl) (List.mem_of_getElem? (i := 750) rfl) ex_at_162 ex_no_162 hO (by decide +kernel) hK hP hD hS hA (hl.1.trans hml.symm) d_CN_packet_116 d_CN_packet_119 d_CN_packet_120 d_CN_packet_122 d_CN_packet_125 hX (Nat.le_of_ble_eq_true rfl) (Nat.le_of_ble_eq_true rfl) (Nat.le_of_ble_eq_true rfl) (Nat.le_of_ble_eq_true rfl) hlocks (Nat.le_of_ble_eq_true rfl) (Nat.le_of_ble_eq_true rfl) hw
    · have hw := hw.2 c_2
      exact x_thrown (w := wC cI cZ a) (cls := "java/lang/IndexOutOfBoundsException") (text := "no such packet") hx hb hst hts hown (by decide +kernel) (List.mem_of_getElem? (i := 749) rfl) (List.mem_of_getElem? (i := 553) rfl) (List.mem_of_getElem? (i := 750) rfl) ex_at_162 ex_no_162 hO (by decide +kernel) hK hP hD hS hA (hl.1.trans hml.symm) d_CN_packet_15 d_CN_packet_18 d_CN_packet_19 d_CN_packet_21 d_CN_packet_24 hX (Nat.le_of_ble_eq_true rfl) (Nat.le_of_ble_eq_true rfl) (Nat.le_of_ble_eq_true rfl) (Nat.le_of_ble_eq_true rfl) hlocks (Nat.le_of_ble_eq_true rfl) (Nat.le_of_ble_eq_true rfl) hw
set_option maxHeartbeats 4000000 in
set_option maxRecDepth 100000 in
theorem c_CN_channel (l : Launch) (hst : l.stackTraces = false) (dC : Nat → ClassId) (dI : Nat → Nat → Nat) (cI cZ : ClassId) (a : Nat → Nat) (sz : Nat) (σ : SS) (x1 : Int32) (x2 : Int32) (post : Int32 → Prop) (xp : String → SS → Prop) (hw : wp_CN_channel σ x1 x2 post xp) : xMet l y_CN_channel (.code y_CN_channel b_CN_channel 3 (some .int) :: TT) { frames := 6, cells := 1, slots := 6, locals := 83 } (pX (dC, dI) clsT (tyT cI cZ) [.ref (a 0), .int x1, .int x2] sz (wC cI cZ a σ)) (va_Qi (fun r u => u = σ ∧ post r) (bW (dC, dI) clsT (tyT cI cZ) (wC cI cZ a) (va_A (wC cI cZ a σ) sz)) (va_A (wC cI cZ a σ) sz)) (xC (dC, dI) clsT (tyT cI cZ) (wC cI cZ a) (va_A (wC cI cZ a σ) sz) xp) 1 6 (va_A (wC cI cZ a σ) sz) := by
  refine hdx (Qf := fun A => (va_Qi (fun r u => u = σ ∧ post r) (bW (dC, dI) clsT (tyT cI cZ) (wC cI cZ a) A) A)) (Xf := fun A => (xC (dC, dI) clsT (tyT cI cZ) (wC cI cZ a) A xp)) (by decide) (Nat.le_of_ble_eq_true rfl) ?_
  intro p e s m below meth c A ls hx hb hr hts hown hlocks hml hK hP hD hS hA hl hX hO hZ
  have hown : s.vm.findClass R_CN = some m.cls := hown
  have hl : lv_has ls 3 [(0, .ref (a 0)), (1, .int x1), (2, .int x2)] := hl
  rw [wp_CN_channel] at hw
  refine lv_aload_n hx hb d_CN_channel_0 rfl (lv_at hl 0 rfl) ?_
  refine va_get (D := (dC, dI)) (ci := 0) (v := .ref (a 1)) (C := R_CN) (T := F_CN) (N := 6) hx hb hts in_CN hown hK hP 0 rfl rfl 0 (by decide) (hts (.fieldLink R_CN 16 R_CN "plan" "LNetRoutes$Plan;") (tm 241 rfl)) (fun _ h9 => h9) rfl d_CN_channel_1 ?_
  refine lv_iload_n hx hb d_CN_channel_4 rfl (lv_at hl 1 rfl) ?_
  refine cl_r (va_runV (As := [.int x1]) (rest := []) ⟨hx, hb, hml, hown, hts⟩ (c_CP_hasChannel l dC dI cI cZ a _ σ x1 _ hw) (cwV 1 hts (gi_V (tm 311 rfl) (tm 21 rfl) (tm 22 rfl) (tm 4 rfl) (tm 23 rfl)) rfl rfl rfl (by decide +kernel) ⟨Nat.le_of_ble_eq_true rfl, Nat.le_of_ble_eq_true rfl⟩) (pW_V hK hP hD (ci := 1) (k := 1) rfl rfl) rfl rfl hl.1 rfl (lv_room (Nat.le_of_ble_eq_true rfl)) d_CN_channel_5 ⟨Nat.zero_le _, Nat.zero_le _⟩) hP hS hA (fun r_1 H locs hw hP hT => ?_)
  have hS := hT _ hA hS
  refine lv_if_ne (tgt := 21) hx hb d_CN_channel_8 (by decide) (fun c_2 => ?_) (fun c_2 => ?_)
  · have hw := hw.1 c_2
    refine lv_iload_n hx hb d_CN_channel_21 rfl (lv_at hl 2 rfl) ?_
    by_cases c_3 : x2 = 0
    · have hw := hw.1 c_3
      refine lv_tableIn (tgt := 52) hx hb d_CN_channel_22 (by rw [c_3]; decide) (by rw [c_3]; decide) (by rw [c_3]; rfl) (by decide) ?_
      refine lv_aload_n hx hb d_CN_channel_52 rfl (lv_at hl 0 rfl) ?_
      refine va_get (D := (dC, dI)) (ci := 0) (v := .ref (a 3)) (C := R_CN) (T := F_CN) (N := 6) hx hb hts in_CN hown hK hP 0 rfl rfl 2 (by decide) (hts (.fieldLink R_CN 32 R_CN "inputs" "LNetRoutes$Inputs;") (tm 45 rfl)) (fun _ h9 => h9) rfl d_CN_channel_53 ?_
      refine va_get (D := (dC, dI)) (ci := 3) (v := .ref (a 21)) (C := R_CI) (T := F_CI) (N := 8) hx hb hts in_CI hown hK hP 3 rfl rfl 6 (by decide) (hts (.fieldLink R_CN 183 R_CI "size" "[I") (tm 304 rfl)) (fun _ h9 => h9) rfl d_CN_channel_56 ?_
      refine lv_iload_n hx hb d_CN_channel_59 rfl (lv_at hl 1 rfl) ?_
      obtain ⟨hin, hw⟩ := hw
      refine va_iald hx hb hK hP 21 0 rfl rfl hin d_CN_channel_60 ?_
      exact x_ret (W.widen (k := 1) (n := 6) (Nat.zero_le _) (Nat.zero_le _) (rt_i (w := wC cI cZ a) hx hb hr hlocks hK hP hD hS d_CN_channel_61 ⟨rfl, hw⟩))
    by_cases c_4 : x2 = 1
    · have hw := hw.2.1 c_4
      refine lv_tableIn (tgt := 62) hx hb d_CN_channel_22 (by rw [c_4]; decide) (by rw [c_4]; decide) (by rw [c_4]; rfl) (by decide) ?_
      refine lv_aload_n hx hb d_CN_channel_62 rfl (lv_at hl 0 rfl) ?_
      refine va_get (D := (dC, dI)) (ci := 0) (v := .ref (a 4)) (C := R_CN) (T := F_CN) (N := 6) hx hb hts in_CN hown hK hP 0 rfl rfl 3 (by decide) (hts (.fieldLink R_CN 41 R_CN "traffic" "LNetRoutes$Traffic;") (tm 226 rfl)) (fun _ h9 => h9) rfl d_CN_channel_63 ?_
      refine va_get (D := (dC, dI)) (ci := 4) (v := .ref (a 25)) (C := R_CT) (T := F_CT) (N := 10) hx hb hts in_CT hown hK hP 4 rfl rfl 5 (by decide) (hts (.fieldLink R_CN 186 R_CT "heldFor" "[I") (tm 305 rfl)) (fun _ h9 => h9) rfl d_CN_channel_66 ?_
      refine lv_iload_n hx hb d_CN_channel_69 rfl (lv_at hl 1 rfl) ?_
      obtain ⟨hin, hw⟩ := hw
      refine va_iald hx hb hK hP 25 0 rfl rfl hin d_CN_channel_70 ?_
      exact x_ret (W.widen (k := 1) (n := 6) (Nat.zero_le _) (Nat.zero_le _) (rt_i (w := wC cI cZ a) hx hb hr hlocks hK hP hD hS d_CN_channel_71 ⟨rfl, hw⟩))
    by_cases c_5 : x2 = 2
    · have hw := hw.2.2.1 c_5
      refine lv_tableIn (tgt := 72) hx hb d_CN_channel_22 (by rw [c_5]; decide) (by rw [c_5]; decide) (by rw [c_5]; rfl) (by decide) ?_
      refine lv_aload_n hx hb d_CN_channel_72 rfl (lv_at hl 0 rfl) ?_
      refine va_get (D := (dC, dI)) (ci := 0) (v := .ref (a 3)) (C := R_CN) (T := F_CN) (N := 6) hx hb hts in_CN hown hK hP 0 rfl rfl 2 (by decide) (hts (.fieldLink R_CN 32 R_CN "inputs" "LNetRoutes$Inputs;") (tm 45 rfl)) (fun _ h9 => h9) rfl d_CN_channel_73 ?_
      refine lv_iload_n hx hb d_CN_channel_76 rfl (lv_at hl 1 rfl) ?_
      refine cl_r (va_runV (As := [.int x1]) (rest := []) ⟨hx, hb, hml, hown, hts⟩ (c_CI_frontPacketIn l dC dI cI cZ a _ σ x1 _ hw) (cwV 1 hts (gi_V (tm 306 rfl) (tm 307 rfl) (tm 308 rfl) (tm 49 rfl) (tm 309 rfl)) rfl rfl rfl (by decide +kernel) ⟨Nat.le_of_ble_eq_true rfl, Nat.le_of_ble_eq_true rfl⟩) (pW_V hK hP hD (ci := 3) (k := 3) rfl rfl) rfl rfl hl.1 rfl (lv_room (Nat.le_of_ble_eq_true rfl)) d_CN_channel_77 ⟨Nat.zero_le _, Nat.zero_le _⟩) hP hS hA (fun r_7 H locs hw hP hT => ?_)
      have hS := hT _ hA hS
      exact x_ret (W.widen (k := 1) (n := 6) (Nat.zero_le _) (Nat.zero_le _) (rt_i (w := wC cI cZ a) hx hb hr hlocks hK hP hD hS d_CN_channel_80 ⟨rfl, hw⟩))
    by_cases c_6 : x2 = 3
    · have hw := hw.2.2.2.1 c_6
      refine lv_tableIn (tgt := 81) hx hb d_CN_channel_22 (by rw [c_6]; decide) (by rw [c_6]; decide) (by rw [c_6]; rfl) (by decide) ?_
      refine lv_aload_n hx hb d_CN_channel_81 rfl (lv_at hl 0 rfl) ?_
      refine va_get (D := (dC, dI)) (ci := 0) (v := .ref (a 4)) (C := R_CN) (T := F_CN) (N := 6) hx hb hts in_CN hown hK hP 0 rfl rfl 3 (by decide) (hts (.fieldLink R_CN 41 R_CN "traffic" "LNetRoutes$Traffic;") (tm 226 rfl)) (fun _ h9 => h9) rfl d_CN_channel_82 ?_
      refine va_get (D := (dC, dI)) (ci := 4) (v := .ref (a 26)) (C := R_CT) (T := F_CT) (N := 10) hx hb hts in_CT hown hK hP 4 rfl rfl 6 (by decide) (hts (.fieldLink R_CN 192 R_CT "entered" "[I") (tm 310 rfl)) (fun _ h9 => h9) rfl d_CN_channel_85 ?_
      refine lv_iload_n hx hb d_CN_channel_88 rfl (lv_at hl 1 rfl) ?_
      obtain ⟨hin, hw⟩ := hw
      refine va_iald hx hb hK hP 26 0 rfl rfl hin d_CN_channel_89 ?_
      exact x_ret (W.widen (k := 1) (n := 6) (Nat.zero_le _) (Nat.zero_le _) (rt_i (w := wC cI cZ a) hx hb hr hlocks hK hP hD hS d_CN_channel_90 ⟨rfl, hw⟩))
    have hw := hw.2.2.2.2 c_3 c_4 c_5 c_6
    refine lv_tableOut (tgt := 91) hx hb d_CN_channel_22 (by have g0 := lv_neT c_3 (a := 0) rfl; have g1 := lv_neT c_4 (a := 1) rfl; have g2 := lv_neT c_5 (a := 2) rfl; have g3 := lv_neT c_6 (a := 3) rfl; omega) (by decide) ?_
    exact x_thrown (w := wC cI cZ a) (cls := "java/lang/IndexOutOfBoundsException") (text := "no such number of a channel") hx hb hst hts hown (by decide +kernel) (List.mem_of_getElem? (i := 749) rfl) (List.mem_of_getElem? (i := 553) rfl) (List.mem_of_getElem? (i := 750) rfl) ex_at_162 ex_no_162 hO (by decide +kernel) hK hP hD hS hA (hl.1.trans hml.symm) d_CN_channel_91 d_CN_channel_94 d_CN_channel_95 d_CN_channel_97 d_CN_channel_100 hX (Nat.le_of_ble_eq_true rfl) (Nat.le_of_ble_eq_true rfl) (Nat.le_of_ble_eq_true rfl) (Nat.le_of_ble_eq_true rfl) hlocks (Nat.le_of_ble_eq_true rfl) (Nat.le_of_ble_eq_true rfl) hw
  · have hw := hw.2 c_2
    exact x_thrown (w := wC cI cZ a) (cls := "java/lang/IndexOutOfBoundsException") (text := "no such channel") hx hb hst hts hown (by decide +kernel) (List.mem_of_getElem? (i := 749) rfl) (List.mem_of_getElem? (i := 553) rfl) (List.mem_of_getElem? (i := 750) rfl) ex_at_162 ex_no_162 hO (by decide +kernel) hK hP hD hS hA (hl.1.trans hml.symm) d_CN_channel_11 d_CN_channel_14 d_CN_channel_15 d_CN_channel_17 d_CN_channel_20 hX (Nat.le_of_ble_eq_true rfl) (Nat.le_of_ble_eq_true rfl) (Nat.le_of_ble_eq_true rfl) (Nat.le_of_ble_eq_true rfl) hlocks (Nat.le_of_ble_eq_true rfl) (Nat.le_of_ble_eq_true rfl) hw
set_option maxHeartbeats 4000000 in
set_option maxRecDepth 100000 in
theorem c_CN_ringAt (l : Launch) (hst : l.stackTraces = false) (dC : Nat → ClassId) (dI : Nat → Nat → Nat) (cI cZ : ClassId) (a : Nat → Nat) (sz : Nat) (σ : SS) (x1 : Int32) (post : Int32 → SS → Prop) (xp : String → SS → Prop) (hw : wp_CN_ringAt σ x1 post xp) : xMet l y_CN_ringAt (.code y_CN_ringAt b_CN_ringAt 2 (some .int) :: TT) { frames := 6, cells := 1, slots := 6, locals := 93 } (pX (dC, dI) clsT (tyT cI cZ) [.ref (a 0), .int x1] sz (wC cI cZ a σ)) (va_Qi post (bW (dC, dI) clsT (tyT cI cZ) (wC cI cZ a) (va_A (wC cI cZ a σ) sz)) (va_A (wC cI cZ a σ) sz)) (xC (dC, dI) clsT (tyT cI cZ) (wC cI cZ a) (va_A (wC cI cZ a σ) sz) xp) 1 6 (va_A (wC cI cZ a σ) sz) := by
  refine hdx (Qf := fun A => (va_Qi post (bW (dC, dI) clsT (tyT cI cZ) (wC cI cZ a) A) A)) (Xf := fun A => (xC (dC, dI) clsT (tyT cI cZ) (wC cI cZ a) A xp)) (by decide) (Nat.le_of_ble_eq_true rfl) ?_
  intro p e s m below meth c A ls hx hb hr hts hown hlocks hml hK hP hD hS hA hl hX hO hZ
  have hown : s.vm.findClass R_CN = some m.cls := hown
  have hl : lv_has ls 2 [(0, .ref (a 0)), (1, .int x1)] := hl
  rw [wp_CN_ringAt] at hw
  refine lv_aload_n hx hb d_CN_ringAt_0 rfl (lv_at hl 0 rfl) ?_
  refine va_get (D := (dC, dI)) (ci := 0) (v := .ref (a 5)) (C := R_CN) (T := F_CN) (N := 6) hx hb hts in_CN hown hK hP 0 rfl rfl 4 (by decide) (hts (.fieldLink R_CN 50 R_CN "rings" "LNetRoutes$Rings;") (tm 213 rfl)) (fun _ h9 => h9) rfl d_CN_ringAt_1 ?_
  refine cl_v (va_runV (As := []) (rest := []) ⟨hx, hb, hml, hown, hts⟩ (c_CR_search l dC dI cI cZ a _ σ _ hw) (cwV 0 hts (gi_V (tm 215 rfl) (tm 216 rfl) (tm 217 rfl) (tm 197 rfl) (tm 218 rfl)) rfl rfl rfl (by decide +kernel) ⟨Nat.le_of_ble_eq_true rfl, Nat.le_of_ble_eq_true rfl⟩) (pW_V hK hP hD (ci := 5) (k := 5) rfl rfl) rfl rfl hl.1 rfl (lv_room (Nat.le_of_ble_eq_true rfl)) d_CN_ringAt_4 ⟨Nat.zero_le _, Nat.zero_le _⟩) hD hS hA (fun σ_1 H locs hw hP hD hS => ?_)
  refine lv_iload_n hx hb d_CN_ringAt_7 rfl (lv_at hl 1 rfl) ?_
  refine lv_if_lt (tgt := 22) hx hb d_CN_ringAt_8 (by decide) (fun c_2 => ?_) (fun c_2 => ?_)
  · have hw := hw.1 c_2
    exact x_thrown (w := wC cI cZ a) (cls := "java/lang/IndexOutOfBoundsException") (text := "no such channel of a ring") hx hb hst hts hown (by decide +kernel) (List.mem_of_getElem? (i := 749) rfl) (List.mem_of_getElem? (i := 553) rfl) (List.mem_of_getElem? (i := 750) rfl) ex_at_162 ex_no_162 hO (by decide +kernel) hK hP hD hS hA (hl.1.trans hml.symm) d_CN_ringAt_22 d_CN_ringAt_25 d_CN_ringAt_26 d_CN_ringAt_28 d_CN_ringAt_31 hX (Nat.le_of_ble_eq_true rfl) (Nat.le_of_ble_eq_true rfl) (Nat.le_of_ble_eq_true rfl) (Nat.le_of_ble_eq_true rfl) hlocks (Nat.le_of_ble_eq_true rfl) (Nat.le_of_ble_eq_true rfl) hw
  · have hw := hw.2 c_2
    refine lv_iload_n hx hb d_CN_ringAt_11 rfl (lv_at hl 1 rfl) ?_
    refine lv_aload_n hx hb d_CN_ringAt_12 rfl (lv_at hl 0 rfl) ?_
    refine va_get (D := (dC, dI)) (ci := 0) (v := .ref (a 5)) (C := R_CN) (T := F_CN) (N := 6) hx hb hts in_CN hown hK hP 0 rfl rfl 4 (by decide) (hts (.fieldLink R_CN 50 R_CN "rings" "LNetRoutes$Rings;") (tm 213 rfl)) (fun _ h9 => h9) rfl d_CN_ringAt_13 ?_
    refine va_get (D := (dC, dI)) (ci := 5) (v := .int (σ_1 5 6)) (C := R_CR) (T := F_CR) (N := 7) hx hb hts in_CR hown hK hP 5 rfl rfl 6 (by decide) (hts (.fieldLink R_CN 200 R_CR "length" "I") (tm 214 rfl)) (fun _ h9 => h9) rfl d_CN_ringAt_16 ?_
    refine lv_icmp_lt (tgt := 32) hx hb d_CN_ringAt_19 (by decide) (fun c_3 => ?_) (fun c_3 => ?_)
    · have hw := hw.1 c_3
      refine lv_aload_n hx hb d_CN_ringAt_32 rfl (lv_at hl 0 rfl) ?_
      refine va_get (D := (dC, dI)) (ci := 0) (v := .ref (a 5)) (C := R_CN) (T := F_CN) (N := 6) hx hb hts in_CN hown hK hP 0 rfl rfl 4 (by decide) (hts (.fieldLink R_CN 50 R_CN "rings" "LNetRoutes$Rings;") (tm 213 rfl)) (fun _ h9 => h9) rfl d_CN_ringAt_33 ?_
      refine lv_iload_n hx hb d_CN_ringAt_36 rfl (lv_at hl 1 rfl) ?_
      refine cl_i (va_runV (As := [.int x1]) (rest := []) ⟨hx, hb, hml, hown, hts⟩ (c_CR_channelBehind l dC dI cI cZ a _ σ_1 x1 _ hw) (cwV 1 hts (gi_V (tm 312 rfl) (tm 313 rfl) (tm 314 rfl) (tm 197 rfl) (tm 315 rfl)) rfl rfl rfl (by decide +kernel) ⟨Nat.le_of_ble_eq_true rfl, Nat.le_of_ble_eq_true rfl⟩) (pW_V hK hP hD (ci := 5) (k := 5) rfl rfl) rfl rfl hl.1 rfl (lv_room (Nat.le_of_ble_eq_true rfl)) d_CN_ringAt_37 ⟨Nat.zero_le _, Nat.zero_le _⟩) hD hS hA (fun r_4 σ_4 H locs hw hP hD hS => ?_)
      exact x_ret (W.widen (k := 1) (n := 6) (Nat.zero_le _) (Nat.zero_le _) (rt_i (w := wC cI cZ a) hx hb hr hlocks hK hP hD hS d_CN_ringAt_40 hw))
    · have hw := hw.2 c_3
      exact x_thrown (w := wC cI cZ a) (cls := "java/lang/IndexOutOfBoundsException") (text := "no such channel of a ring") hx hb hst hts hown (by decide +kernel) (List.mem_of_getElem? (i := 749) rfl) (List.mem_of_getElem? (i := 553) rfl) (List.mem_of_getElem? (i := 750) rfl) ex_at_162 ex_no_162 hO (by decide +kernel) hK hP hD hS hA (hl.1.trans hml.symm) d_CN_ringAt_22 d_CN_ringAt_25 d_CN_ringAt_26 d_CN_ringAt_28 d_CN_ringAt_31 hX (Nat.le_of_ble_eq_true rfl) (Nat.le_of_ble_eq_true rfl) (Nat.le_of_ble_eq_true rfl) (Nat.le_of_ble_eq_true rfl) hlocks (Nat.le_of_ble_eq_true rfl) (Nat.le_of_ble_eq_true rfl) hw
