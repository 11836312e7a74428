set_option maxHeartbeats 4000000 in
set_option maxRecDepth 100000 in
theorem c_CN_addPacket (l : Launch) (dC : Nat → ClassId) (dI : Nat → Nat → Nat) (cI cZ : ClassId) (a : Nat → Nat) (sz : Nat) (σ : SS) (x1 : Int32) (x2 : Int32) (x3 : Int32) (post : Int32 → SS → Prop) (hw : wp_CN_addPacket σ x1 x2 x3 post) : Met l y_CN_addPacket (.code y_CN_addPacket b_CN_addPacket 5 (some .int) :: TT) { frames := 1, cells := 0, slots := 0, locals := 23 } (pW (dC, dI) clsT (tyT cI cZ) [.ref (a 0), .int x1, .int x2, .int x3] sz (wC cI cZ a σ)) (va_Qi post (bW (dC, dI) clsT (tyT cI cZ) (wC cI cZ a) (va_A (wC cI cZ a σ) sz)) (va_A (wC cI cZ a σ) sz)) 0 0 (va_A (wC cI cZ a σ) sz) := by
  refine hd (Qf := fun A => (va_Qi post (bW (dC, dI) clsT (tyT cI cZ) (wC cI cZ a) A) A)) (by decide) (Nat.le_of_ble_eq_true rfl) ?_
  intro p e s m below meth c A ls hx hb hr hts hown hlocks hml hK hP hD hS hA hl
  have hown : s.vm.findClass R_CN = some m.cls := hown
  have hl : lv_has ls 5 [(0, .ref (a 0)), (1, .int x1), (2, .int x2), (3, .int x3)] := hl
  rw [wp_CN_addPacket] at hw
  refine lv_aload_n hx hb d_CN_addPacket_0 rfl (lv_at hl 0 rfl) ?_
  refine va_get (D := (dC, dI)) (ci := 0) (v := .ref (a 2)) (C := R_CN) (T := F_CN) (N := 6) hx hb hts in_CN hown hK hP 0 rfl rfl 1 (by decide) (hts (.fieldLink R_CN 23 R_CN "packets" "LNetRoutes$Packets;") (tm 44 rfl)) (fun _ h9 => h9) rfl d_CN_addPacket_1 ?_
  refine lv_iload_n hx hb d_CN_addPacket_4 rfl (lv_at hl 2 rfl) ?_
  refine lv_iload_n hx hb d_CN_addPacket_5 rfl (lv_at hl 3 rfl) ?_
  refine cl_i (va_runV (As := [.int x2, .int x3]) (rest := []) ⟨hx, hb, hml, hown, hts⟩ (c_CK_add l dC dI cI cZ a _ σ x2 x3 _ hw) (cwV 2 hts (gi_V (tm 51 rfl) (tm 52 rfl) (tm 53 rfl) (tm 54 rfl) (tm 55 rfl)) rfl rfl rfl (by decide +kernel) ⟨Nat.le_of_ble_eq_true rfl, Nat.le_of_ble_eq_true rfl⟩) (pW_V hK hP hD (ci := 2) (k := 2) rfl rfl) rfl rfl hl.1 rfl (lv_room (Nat.le_of_ble_eq_true rfl)) d_CN_addPacket_6 ⟨Nat.zero_le _, Nat.zero_le _⟩) hD hS hA (fun r_1 σ_1 H locs hw hP hD hS => ?_)
  refine lv_istore (lv' := [(4, .int r_1), (0, .ref (a 0)), (1, .int x1), (2, .int x2), (3, .int x3)]) hx hb d_CN_addPacket_9 hl (by decide) rfl (fun ls hl => ?_)
  refine lv_aload_n hx hb d_CN_addPacket_11 rfl (lv_at hl 1 rfl) ?_
  refine va_get (D := (dC, dI)) (ci := 0) (v := .ref (a 3)) (C := R_CN) (T := F_CN) (N := 6) hx hb hts in_CN hown hK hP 0 rfl rfl 2 (by decide) (hts (.fieldLink R_CN 32 R_CN "inputs" "LNetRoutes$Inputs;") (tm 45 rfl)) (fun _ h9 => h9) rfl d_CN_addPacket_12 ?_
  refine lv_iload_n hx hb d_CN_addPacket_15 rfl (lv_at hl 2 rfl) ?_
  refine lv_iload hx hb d_CN_addPacket_16 (lv_at hl 0 rfl) ?_
  refine cl_v (va_runV (As := [.int x1, .int r_1]) (rest := []) ⟨hx, hb, hml, hown, hts⟩ (c_CI_lineUp l dC dI cI cZ a _ σ_1 x1 r_1 _ hw) (cwV 2 hts (gi_V (tm 46 rfl) (tm 47 rfl) (tm 48 rfl) (tm 49 rfl) (tm 50 rfl)) rfl rfl rfl (by decide +kernel) ⟨Nat.le_of_ble_eq_true rfl, Nat.le_of_ble_eq_true rfl⟩) (pW_V hK hP hD (ci := 3) (k := 3) rfl rfl) rfl rfl hl.1 rfl (lv_room (Nat.le_of_ble_eq_true rfl)) d_CN_addPacket_18 ⟨Nat.zero_le _, Nat.zero_le _⟩) hD hS hA (fun σ_2 H locs hw hP hD hS => ?_)
  refine lv_iload hx hb d_CN_addPacket_21 (lv_at hl 0 rfl) ?_
  exact rt_i (w := wC cI cZ a) hx hb hr hlocks hK hP hD hS d_CN_addPacket_23 hw
set_option maxHeartbeats 4000000 in
set_option maxRecDepth 100000 in
theorem c_CN_drawn (l : Launch) (dC : Nat → ClassId) (dI : Nat → Nat → Nat) (cI cZ : ClassId) (a : Nat → Nat) (sz : Nat) (σ : SS) (post : Int32 → SS → Prop) (hw : wp_CN_drawn σ post) : Met l y_CN_drawn (.code y_CN_drawn b_CN_drawn 1 (some .int) :: TT) { frames := 0, cells := 0, slots := 0, locals := 0 } (pW (dC, dI) clsT (tyT cI cZ) [.ref (a 0)] sz (wC cI cZ a σ)) (va_Qi post (bW (dC, dI) clsT (tyT cI cZ) (wC cI cZ a) (va_A (wC cI cZ a σ) sz)) (va_A (wC cI cZ a σ) sz)) 0 0 (va_A (wC cI cZ a σ) sz) := by
  refine hd (Qf := fun A => (va_Qi post (bW (dC, dI) clsT (tyT cI cZ) (wC cI cZ a) A) A)) (by decide) (Nat.le_of_ble_eq_true rfl) ?_
  intro p e s m below meth c A ls hx hb hr hts hown hlocks hml hK hP hD hS hA hl
  have hown : s.vm.findClass R_CN = some m.cls := hown
  have hl : lv_has ls 1 [(0, .ref (a 0))] := hl
  rw [wp_CN_drawn] at hw
  refine lv_aload_n hx hb d_CN_drawn_0 rfl (lv_at hl 0 rfl) ?_
  refine lv_ldc (v := 1103515245) hx hb hown (hts (.constant R_CN 233 1103515245) (tm 56 rfl)) d_CN_drawn_1 ?_
  refine lv_aload_n hx hb d_CN_drawn_3 rfl (lv_at hl 0 rfl) ?_
  refine va_get (D := (dC, dI)) (ci := 0) (v := .int (σ 0 5)) (C := R_CN) (T := F_CN) (N := 6) hx hb hts in_CN hown hK hP 0 rfl rfl 5 (by decide) (hts (.fieldLink R_CN 9 R_CN "seed" "I") (tm 57 rfl)) (fun _ h9 => h9) rfl d_CN_drawn_4 ?_
  refine lv_imul hx hb d_CN_drawn_7 ?_
  refine lv_sipush (v := 12345) hx hb d_CN_drawn_8 (by decide) ?_
  refine lv_iadd hx hb d_CN_drawn_11 ?_
  refine lv_ldc (v := 2147483647) hx hb hown (hts (.constant R_CN 234 2147483647) (tm 58 rfl)) d_CN_drawn_12 ?_
  refine lv_iand hx hb d_CN_drawn_14 ?_
  refine st_f (D := (dC, dI)) (w := wC cI cZ a) (ci := 0) (C := R_CN) (T := F_CN) (N := 6) hx hb hts in_CN t_CN t_CN_ok n_CN hown hK hP hD hS 0 rfl rfl 5 (by decide) (hts (.fieldLink R_CN 9 R_CN "seed" "I") (tm 57 rfl)) (fun _ h9 => h9) rfl (by decide +kernel) (Nat.le_of_ble_eq_true rfl) rfl d_CN_drawn_15 (fun s_1 e_1 H locs hP hD hS => ?_)
  have hw := hw s_1 e_1
  refine lv_aload_n hx hb d_CN_drawn_18 rfl (lv_at hl 0 rfl) ?_
  refine va_get (D := (dC, dI)) (ci := 0) (v := .int (s_1 0 5)) (C := R_CN) (T := F_CN) (N := 6) hx hb hts in_CN hown hK hP 0 rfl rfl 5 (by decide) (hts (.fieldLink R_CN 9 R_CN "seed" "I") (tm 57 rfl)) (fun _ h9 => h9) rfl d_CN_drawn_19 ?_
  refine lv_ldc (v := 65536) hx hb hown (hts (.constant R_CN 235 65536) (tm 59 rfl)) d_CN_drawn_22 ?_
  refine lv_idiv hx hb d_CN_drawn_24 (by decide) ?_
  exact rt_i (w := wC cI cZ a) hx hb hr hlocks hK hP hD hS d_CN_drawn_25 hw
set_option maxHeartbeats 4000000 in
set_option maxRecDepth 100000 in
theorem c_CI_inUse (l : Launch) (dC : Nat → ClassId) (dI : Nat → Nat → Nat) (cI cZ : ClassId) (a : Nat → Nat) (sz : Nat) (σ : SS) (post : Int32 → Prop) (hw : wp_CI_inUse σ post) : Met l y_CI_inUse (.code y_CI_inUse b_CI_inUse 1 (some .int) :: TT) { frames := 0, cells := 0, slots := 0, locals := 0 } (pW (dC, dI) clsT (tyT cI cZ) [.ref (a 3)] sz (wC cI cZ a σ)) (va_Qi (fun r (_ : Unit) => post r) (fun _ _ => True) (fun q => sz ≤ q)) 0 0 (fun q => sz ≤ q) := by
  refine hdr (Qf := fun A => (va_Qi (fun r (_ : Unit) => post r) (fun _ _ => True) A)) (by decide) (Nat.le_of_ble_eq_true rfl) ?_
  intro p e s m below meth c A ls hx hb hr hts hown hlocks hml hK hP hD hS hA hl
  have hown : s.vm.findClass R_CI = some m.cls := hown
  have hl : lv_has ls 1 [(0, .ref (a 3))] := hl
  rw [wp_CI_inUse] at hw
  refine lv_bipush (v := 16) hx hb d_CI_inUse_0 (by decide) ?_
  refine lv_aload_n hx hb d_CI_inUse_2 rfl (lv_at hl 0 rfl) ?_
  refine va_get (D := (dC, dI)) (ci := 3) (v := .ref (a 1)) (C := R_CI) (T := F_CI) (N := 8) hx hb hts in_CI hown hK hP 3 rfl rfl 0 (by decide) (hts (.fieldLink R_CI 30 R_CI "plan" "LNetRoutes$Plan;") (tm 60 rfl)) (fun _ h9 => h9) rfl d_CI_inUse_3 ?_
  refine va_get (D := (dC, dI)) (ci := 1) (v := .int (σ 1 1)) (C := R_CP) (T := F_CP) (N := 8) hx hb hts in_CP hown hK hP 1 rfl rfl 1 (by decide) (hts (.fieldLink R_CI 44 R_CP "links" "I") (tm 61 rfl)) (fun _ h9 => h9) rfl d_CI_inUse_6 ?_
  refine lv_iconst (v := 4) hx hb d_CI_inUse_9 (by decide) ?_
  refine lv_imul hx hb d_CI_inUse_10 ?_
  refine lv_iadd hx hb d_CI_inUse_11 ?_
  exact rr_i hx hb hr hlocks hS d_CI_inUse_12 hw
set_option maxHeartbeats 4000000 in
set_option maxRecDepth 100000 in
theorem c_CK_firstWaiting (l : Launch) (dC : Nat → ClassId) (dI : Nat → Nat → Nat) (cI cZ : ClassId) (a : Nat → Nat) (sz : Nat) (σ : SS) (x1 : Int32) (post : Int32 → Prop) (hw : wp_CK_firstWaiting σ x1 post) : Met l y_CK_firstWaiting (.code y_CK_firstWaiting b_CK_firstWaiting 2 (some .int) :: TT) { frames := 0, cells := 0, slots := 0, locals := 0 } (pW (dC, dI) clsT (tyT cI cZ) [.ref (a 2), .int x1] sz (wC cI cZ a σ)) (va_Qi (fun r (_ : Unit) => post r) (fun _ _ => True) (fun q => sz ≤ q)) 0 0 (fun q => sz ≤ q) := by
  refine hdr (Qf := fun A => (va_Qi (fun r (_ : Unit) => post r) (fun _ _ => True) A)) (by decide) (Nat.le_of_ble_eq_true rfl) ?_
  intro p e s m below meth c A ls hx hb hr hts hown hlocks hml hK hP hD hS hA hl
  have hown : s.vm.findClass R_CK = some m.cls := hown
  have hl : lv_has ls 2 [(0, .ref (a 2)), (1, .int x1)] := hl
  rw [wp_CK_firstWaiting] at hw
  refine lv_iload_n hx hb d_CK_firstWaiting_0 rfl (lv_at hl 1 rfl) ?_
  refine lv_bipush (v := 16) hx hb d_CK_firstWaiting_1 (by decide) ?_
  refine lv_imul hx hb d_CK_firstWaiting_3 ?_
  refine lv_aload_n hx hb d_CK_firstWaiting_4 rfl (lv_at hl 0 rfl) ?_
  refine va_get (D := (dC, dI)) (ci := 2) (v := .ref (a 13)) (C := R_CK) (T := F_CK) (N := 7) hx hb hts in_CK hown hK hP 2 rfl rfl 3 (by decide) (hts (.fieldLink R_CK 15 R_CK "flits" "[I") (tm 39 rfl)) (fun _ h9 => h9) rfl d_CK_firstWaiting_5 ?_
  refine lv_iload_n hx hb d_CK_firstWaiting_8 rfl (lv_at hl 1 rfl) ?_
  obtain ⟨hin, hw⟩ := hw
  refine va_iald hx hb hK hP 13 0 rfl rfl hin d_CK_firstWaiting_9 ?_
  refine lv_iadd hx hb d_CK_firstWaiting_10 ?_
  refine lv_aload_n hx hb d_CK_firstWaiting_11 rfl (lv_at hl 0 rfl) ?_
  refine va_get (D := (dC, dI)) (ci := 2) (v := .ref (a 14)) (C := R_CK) (T := F_CK) (N := 7) hx hb hts in_CK hown hK hP 2 rfl rfl 4 (by decide) (hts (.fieldLink R_CK 18 R_CK "waiting" "[I") (tm 40 rfl)) (fun _ h9 => h9) rfl d_CK_firstWaiting_12 ?_
  refine lv_iload_n hx hb d_CK_firstWaiting_15 rfl (lv_at hl 1 rfl) ?_
  obtain ⟨hin, hw⟩ := hw
  refine va_iald hx hb hK hP 14 0 rfl rfl hin d_CK_firstWaiting_16 ?_
  refine lv_isub hx hb d_CK_firstWaiting_17 ?_
  exact rr_i hx hb hr hlocks hS d_CK_firstWaiting_18 hw
set_option maxHeartbeats 4000000 in
set_option maxRecDepth 100000 in
theorem c_CI_frontOf (l : Launch) (dC : Nat → ClassId) (dI : Nat → Nat → Nat) (cI cZ : ClassId) (a : Nat → Nat) (sz : Nat) (σ : SS) (x1 : Int32) (post : Int32 → Prop) (hw : wp_CI_frontOf σ x1 post) : Met l y_CI_frontOf (.code y_CI_frontOf b_CI_frontOf 3 (some .int) :: TT) { frames := 1, cells := 0, slots := 0, locals := 21 } (pW (dC, dI) clsT (tyT cI cZ) [.ref (a 3), .int x1] sz (wC cI cZ a σ)) (va_Qi (fun r (_ : Unit) => post r) (fun _ _ => True) (fun q => sz ≤ q)) 0 0 (fun q => sz ≤ q) := by
  refine hdr (Qf := fun A => (va_Qi (fun r (_ : Unit) => post r) (fun _ _ => True) A)) (by decide) (Nat.le_of_ble_eq_true rfl) ?_
  intro p e s m below meth c A ls hx hb hr hts hown hlocks hml hK hP hD hS hA hl
  have hown : s.vm.findClass R_CI = some m.cls := hown
  have hl : lv_has ls 3 [(0, .ref (a 3)), (1, .int x1)] := hl
  rw [wp_CI_frontOf] at hw
  refine lv_iload_n hx hb d_CI_frontOf_0 rfl (lv_at hl 1 rfl) ?_
  refine lv_bipush (v := 16) hx hb d_CI_frontOf_1 (by decide) ?_
  refine lv_icmp_lt (tgt := 39) hx hb d_CI_frontOf_3 (by decide) (fun c_1 => ?_) (fun c_1 => ?_)
  · have hw := hw.1 c_1
    refine lv_aload_n hx hb d_CI_frontOf_39 rfl (lv_at hl 0 rfl) ?_
    refine va_get (D := (dC, dI)) (ci := 3) (v := .ref (a 17)) (C := R_CI) (T := F_CI) (N := 8) hx hb hts in_CI hown hK hP 3 rfl rfl 2 (by decide) (hts (.fieldLink R_CI 9 R_CI "firstPacket" "[I") (tm 42 rfl)) (fun _ h9 => h9) rfl d_CI_frontOf_40 ?_
    refine lv_iload_n hx hb d_CI_frontOf_43 rfl (lv_at hl 1 rfl) ?_
    obtain ⟨hin, hw⟩ := hw
    refine va_iald hx hb hK hP 17 0 rfl rfl hin d_CI_frontOf_44 ?_
    refine lv_topi (fun v_2 ev_2 => ?_)
    have hw := hw v_2 ev_2
    refine lv_istore_n (lv' := [(2, .int v_2), (0, .ref (a 3)), (1, .int x1)]) hx hb d_CI_frontOf_45 rfl hl (by decide) rfl (fun ls hl => ?_)
    refine lv_iload_n hx hb d_CI_frontOf_46 rfl (lv_at hl 0 rfl) ?_
    refine lv_iconst (v := (-1)) hx hb d_CI_frontOf_47 (by decide) ?_
    refine lv_icmp_ne (tgt := 55) hx hb d_CI_frontOf_48 (by decide) (fun c_3 => ?_) (fun c_3 => ?_)
    · have hw := hw.1 c_3
      refine lv_aload_n hx hb d_CI_frontOf_55 rfl (lv_at hl 1 rfl) ?_
      refine va_get (D := (dC, dI)) (ci := 3) (v := .ref (a 2)) (C := R_CI) (T := F_CI) (N := 8) hx hb hts in_CI hown hK hP 3 rfl rfl 1 (by decide) (hts (.fieldLink R_CI 34 R_CI "packets" "LNetRoutes$Packets;") (tm 62 rfl)) (fun _ h9 => h9) rfl d_CI_frontOf_56 ?_
      refine lv_iload_n hx hb d_CI_frontOf_59 rfl (lv_at hl 0 rfl) ?_
      refine cl_r (va_runV (As := [.int v_2]) (rest := []) ⟨hx, hb, hml, hown, hts⟩ (c_CK_firstWaiting l dC dI cI cZ a _ σ v_2 _ hw) (cwV 1 hts (gi_V (tm 63 rfl) (tm 64 rfl) (tm 65 rfl) (tm 54 rfl) (tm 66 rfl)) rfl rfl rfl (by decide +kernel) ⟨Nat.le_of_ble_eq_true rfl, Nat.le_of_ble_eq_true rfl⟩) (pW_V hK hP hD (ci := 2) (k := 2) rfl rfl) rfl rfl hl.1 rfl (lv_room (Nat.le_of_ble_eq_true rfl)) d_CI_frontOf_60 ⟨Nat.zero_le _, Nat.zero_le _⟩) hP hS hA (fun r_4 H locs hw hP hT => ?_)
      have hS := hT _ hA hS
      exact rr_i hx hb hr hlocks hS d_CI_frontOf_63 hw
    · have hw := hw.2 c_3
      refine lv_iconst (v := (-1)) hx hb d_CI_frontOf_51 (by decide) ?_
      refine lv_goto (tgt := 63) hx hb d_CI_frontOf_52 (by decide) ?_
      exact rr_i hx hb hr hlocks hS d_CI_frontOf_63 hw
  · have hw := hw.2 c_1
    refine lv_iload_n hx hb d_CI_frontOf_6 rfl (lv_at hl 1 rfl) ?_
    refine lv_bipush (v := 16) hx hb d_CI_frontOf_7 (by decide) ?_
    refine lv_isub hx hb d_CI_frontOf_9 ?_
    refine lv_topi (fun v_5 ev_5 => ?_)
    have hw := hw v_5 ev_5
    refine lv_istore_n (lv' := [(2, .int v_5), (0, .ref (a 3)), (1, .int x1)]) hx hb d_CI_frontOf_10 rfl hl (by decide) rfl (fun ls hl => ?_)
    refine lv_aload_n hx hb d_CI_frontOf_11 rfl (lv_at hl 1 rfl) ?_
    refine va_get (D := (dC, dI)) (ci := 3) (v := .ref (a 21)) (C := R_CI) (T := F_CI) (N := 8) hx hb hts in_CI hown hK hP 3 rfl rfl 6 (by decide) (hts (.fieldLink R_CI 24 R_CI "size" "[I") (tm 67 rfl)) (fun _ h9 => h9) rfl d_CI_frontOf_12 ?_
    refine lv_iload_n hx hb d_CI_frontOf_15 rfl (lv_at hl 0 rfl) ?_
    obtain ⟨hin, hw⟩ := hw
    refine va_iald hx hb hK hP 21 0 rfl rfl hin d_CI_frontOf_16 ?_
    refine lv_aload_n hx hb d_CI_frontOf_17 rfl (lv_at hl 1 rfl) ?_
    refine va_get (D := (dC, dI)) (ci := 3) (v := .ref (a 22)) (C := R_CI) (T := F_CI) (N := 8) hx hb hts in_CI hown hK hP 3 rfl rfl 7 (by decide) (hts (.fieldLink R_CI 27 R_CI "fresh" "[I") (tm 68 rfl)) (fun _ h9 => h9) rfl d_CI_frontOf_18 ?_
    refine lv_iload_n hx hb d_CI_frontOf_21 rfl (lv_at hl 0 rfl) ?_
    obtain ⟨hin, hw⟩ := hw
    refine va_iald hx hb hK hP 22 0 rfl rfl hin d_CI_frontOf_22 ?_
    refine lv_icmp_le (tgt := 37) hx hb d_CI_frontOf_23 (by decide) (fun c_6 => ?_) (fun c_6 => ?_)
    · have hw := hw.1 c_6
      refine lv_iconst (v := (-1)) hx hb d_CI_frontOf_37 (by decide) ?_
      exact rr_i hx hb hr hlocks hS d_CI_frontOf_38 hw
    · have hw := hw.2 c_6
      refine lv_aload_n hx hb d_CI_frontOf_26 rfl (lv_at hl 1 rfl) ?_
      refine va_get (D := (dC, dI)) (ci := 3) (v := .ref (a 20)) (C := R_CI) (T := F_CI) (N := 8) hx hb hts in_CI hown hK hP 3 rfl rfl 5 (by decide) (hts (.fieldLink R_CI 21 R_CI "slots" "[I") (tm 69 rfl)) (fun _ h9 => h9) rfl d_CI_frontOf_27 ?_
      refine lv_iload_n hx hb d_CI_frontOf_30 rfl (lv_at hl 0 rfl) ?_
      refine lv_iconst (v := 4) hx hb d_CI_frontOf_31 (by decide) ?_
      refine lv_imul hx hb d_CI_frontOf_32 ?_
      obtain ⟨hin, hw⟩ := hw
      refine va_iald hx hb hK hP 20 0 rfl rfl hin d_CI_frontOf_33 ?_
      refine lv_goto (tgt := 38) hx hb d_CI_frontOf_34 (by decide) ?_
      exact rr_i hx hb hr hlocks hS d_CI_frontOf_38 hw
set_option maxHeartbeats 4000000 in
set_option maxRecDepth 100000 in
theorem c_CK_isHead (l : Launch) (dC : Nat → ClassId) (dI : Nat → Nat → Nat) (cI cZ : ClassId) (a : Nat → Nat) (sz : Nat) (σ : SS) (x1 : Int32) (post : Int32 → Prop) (hw : wp_CK_isHead σ x1 post) : Met l y_CK_isHead (.code y_CK_isHead b_CK_isHead 2 (some .boolean) :: TT) { frames := 0, cells := 0, slots := 0, locals := 0 } (pW (dC, dI) clsT (tyT cI cZ) [.ref (a 2), .int x1] sz (wC cI cZ a σ)) (va_Qi (fun r (_ : Unit) => post r) (fun _ _ => True) (fun q => sz ≤ q)) 0 0 (fun q => sz ≤ q) := by
  refine hdr (Qf := fun A => (va_Qi (fun r (_ : Unit) => post r) (fun _ _ => True) A)) (by decide) (Nat.le_of_ble_eq_true rfl) ?_
  intro p e s m below meth c A ls hx hb hr hts hown hlocks hml hK hP hD hS hA hl
  have hown : s.vm.findClass R_CK = some m.cls := hown
  have hl : lv_has ls 2 [(0, .ref (a 2)), (1, .int x1)] := hl
  rw [wp_CK_isHead] at hw
  refine lv_iload_n hx hb d_CK_isHead_0 rfl (lv_at hl 1 rfl) ?_
  refine lv_bipush (v := 16) hx hb d_CK_isHead_1 (by decide) ?_
  refine lv_irem hx hb d_CK_isHead_3 (by decide) ?_
  refine lv_if_ne (tgt := 11) hx hb d_CK_isHead_4 (by decide) (fun c_1 => ?_) (fun c_1 => ?_)
  · have hw := hw.1 c_1
    refine lv_iconst (v := 0) hx hb d_CK_isHead_11 (by decide) ?_
    exact rr_z hx hb hr hlocks hS d_CK_isHead_12 (Or.inl rfl) hw
  · have hw := hw.2 c_1
    refine lv_iconst (v := 1) hx hb d_CK_isHead_7 (by decide) ?_
    refine lv_goto (tgt := 12) hx hb d_CK_isHead_8 (by decide) ?_
    exact rr_z hx hb hr hlocks hS d_CK_isHead_12 (Or.inr rfl) hw
set_option maxHeartbeats 4000000 in
set_option maxRecDepth 100000 in
theorem c_CP_endOf (l : Launch) (dC : Nat → ClassId) (dI : Nat → Nat → Nat) (cI cZ : ClassId) (a : Nat → Nat) (sz : Nat) (σ : SS) (x1 : Int32) (post : Int32 → Prop) (hw : wp_CP_endOf σ x1 post) : Met l y_CP_endOf (.code y_CP_endOf b_CP_endOf 2 (some .int) :: TT) { frames := 0, cells := 0, slots := 0, locals := 0 } (pW (dC, dI) clsT (tyT cI cZ) [.ref (a 1), .int x1] sz (wC cI cZ a σ)) (va_Qi (fun r (_ : Unit) => post r) (fun _ _ => True) (fun q => sz ≤ q)) 0 0 (fun q => sz ≤ q) := by
  refine hdr (Qf := fun A => (va_Qi (fun r (_ : Unit) => post r) (fun _ _ => True) A)) (by decide) (Nat.le_of_ble_eq_true rfl) ?_
  intro p e s m below meth c A ls hx hb hr hts hown hlocks hml hK hP hD hS hA hl
  have hown : s.vm.findClass R_CP = some m.cls := hown
  have hl : lv_has ls 2 [(0, .ref (a 1)), (1, .int x1)] := hl
  rw [wp_CP_endOf] at hw
  refine lv_aload_n hx hb d_CP_endOf_0 rfl (lv_at hl 0 rfl) ?_
  refine va_get (D := (dC, dI)) (ci := 1) (v := .ref (a 7)) (C := R_CP) (T := F_CP) (N := 8) hx hb hts in_CP hown hK hP 1 rfl rfl 3 (by decide) (hts (.fieldLink R_CP 15 R_CP "end" "[I") (tm 8 rfl)) (fun _ h9 => h9) rfl d_CP_endOf_1 ?_
  refine lv_iload_n hx hb d_CP_endOf_4 rfl (lv_at hl 1 rfl) ?_
  refine lv_iconst (v := 4) hx hb d_CP_endOf_5 (by decide) ?_
  refine lv_idiv hx hb d_CP_endOf_6 (by decide) ?_
  obtain ⟨hin, hw⟩ := hw
  refine va_iald hx hb hK hP 7 0 rfl rfl hin d_CP_endOf_7 ?_
  exact rr_i hx hb hr hlocks hS d_CP_endOf_8 hw
set_option maxHeartbeats 4000000 in
set_option maxRecDepth 100000 in
theorem c_CI_nodeOf (l : Launch) (dC : Nat → ClassId) (dI : Nat → Nat → Nat) (cI cZ : ClassId) (a : Nat → Nat) (sz : Nat) (σ : SS) (x1 : Int32) (post : Int32 → Prop) (hw : wp_CI_nodeOf σ x1 post) : Met l y_CI_nodeOf (.code y_CI_nodeOf b_CI_nodeOf 2 (some .int) :: TT) { frames := 1, cells := 0, slots := 0, locals := 21 } (pW (dC, dI) clsT (tyT cI cZ) [.ref (a 3), .int x1] sz (wC cI cZ a σ)) (va_Qi (fun r (_ : Unit) => post r) (fun _ _ => True) (fun q => sz ≤ q)) 0 0 (fun q => sz ≤ q) := by
  refine hdr (Qf := fun A => (va_Qi (fun r (_ : Unit) => post r) (fun _ _ => True) A)) (by decide) (Nat.le_of_ble_eq_true rfl) ?_
  intro p e s m below meth c A ls hx hb hr hts hown hlocks hml hK hP hD hS hA hl
  have hown : s.vm.findClass R_CI = some m.cls := hown
  have hl : lv_has ls 2 [(0, .ref (a 3)), (1, .int x1)] := hl
  rw [wp_CI_nodeOf] at hw
  refine lv_iload_n hx hb d_CI_nodeOf_0 rfl (lv_at hl 1 rfl) ?_
  refine lv_bipush (v := 16) hx hb d_CI_nodeOf_1 (by decide) ?_
  refine lv_icmp_ge (tgt := 10) hx hb d_CI_nodeOf_3 (by decide) (fun c_1 => ?_) (fun c_1 => ?_)
  · have hw := hw.1 c_1
    refine lv_aload_n hx hb d_CI_nodeOf_10 rfl (lv_at hl 0 rfl) ?_
    refine va_get (D := (dC, dI)) (ci := 3) (v := .ref (a 1)) (C := R_CI) (T := F_CI) (N := 8) hx hb hts in_CI hown hK hP 3 rfl rfl 0 (by decide) (hts (.fieldLink R_CI 30 R_CI "plan" "LNetRoutes$Plan;") (tm 60 rfl)) (fun _ h9 => h9) rfl d_CI_nodeOf_11 ?_
    refine lv_iload_n hx hb d_CI_nodeOf_14 rfl (lv_at hl 1 rfl) ?_
    refine lv_bipush (v := 16) hx hb d_CI_nodeOf_15 (by decide) ?_
    refine lv_isub hx hb d_CI_nodeOf_17 ?_
    refine cl_r (va_runV (As := [.int (x1 - 16)]) (rest := []) ⟨hx, hb, hml, hown, hts⟩ (c_CP_endOf l dC dI cI cZ a _ σ (x1 - 16) _ hw) (cwV 1 hts (gi_V (tm 70 rfl) (tm 71 rfl) (tm 72 rfl) (tm 4 rfl) (tm 73 rfl)) rfl rfl rfl (by decide +kernel) ⟨Nat.le_of_ble_eq_true rfl, Nat.le_of_ble_eq_true rfl⟩) (pW_V hK hP hD (ci := 1) (k := 1) rfl rfl) rfl rfl hl.1 rfl (lv_room (Nat.le_of_ble_eq_true rfl)) d_CI_nodeOf_18 ⟨Nat.zero_le _, Nat.zero_le _⟩) hP hS hA (fun r_2 H locs hw hP hT => ?_)
    have hS := hT _ hA hS
    exact rr_i hx hb hr hlocks hS d_CI_nodeOf_21 hw
  · have hw := hw.2 c_1
    refine lv_iload_n hx hb d_CI_nodeOf_6 rfl (lv_at hl 1 rfl) ?_
    refine lv_goto (tgt := 21) hx hb d_CI_nodeOf_7 (by decide) ?_
    exact rr_i hx hb hr hlocks hS d_CI_nodeOf_21 hw
set_option maxHeartbeats 4000000 in
set_option maxRecDepth 100000 in
theorem c_CK_endOf (l : Launch) (dC : Nat → ClassId) (dI : Nat → Nat → Nat) (cI cZ : ClassId) (a : Nat → Nat) (sz : Nat) (σ : SS) (x1 : Int32) (post : Int32 → Prop) (hw : wp_CK_endOf σ x1 post) : Met l y_CK_endOf (.code y_CK_endOf b_CK_endOf 2 (some .int) :: TT) { frames := 0, cells := 0, slots := 0, locals := 0 } (pW (dC, dI) clsT (tyT cI cZ) [.ref (a 2), .int x1] sz (wC cI cZ a σ)) (va_Qi (fun r (_ : Unit) => post r) (fun _ _ => True) (fun q => sz ≤ q)) 0 0 (fun q => sz ≤ q) := by
  refine hdr (Qf := fun A => (va_Qi (fun r (_ : Unit) => post r) (fun _ _ => True) A)) (by decide) (Nat.le_of_ble_eq_true rfl) ?_
  intro p e s m below meth c A ls hx hb hr hts hown hlocks hml hK hP hD hS hA hl
  have hown : s.vm.findClass R_CK = some m.cls := hown
  have hl : lv_has ls 2 [(0, .ref (a 2)), (1, .int x1)] := hl
  rw [wp_CK_endOf] at hw
  refine lv_aload_n hx hb d_CK_endOf_0 rfl (lv_at hl 0 rfl) ?_
  refine va_get (D := (dC, dI)) (ci := 2) (v := .ref (a 12)) (C := R_CK) (T := F_CK) (N := 7) hx hb hts in_CK hown hK hP 2 rfl rfl 2 (by decide) (hts (.fieldLink R_CK 9 R_CK "end" "[I") (tm 38 rfl)) (fun _ h9 => h9) rfl d_CK_endOf_1 ?_
  refine lv_iload_n hx hb d_CK_endOf_4 rfl (lv_at hl 1 rfl) ?_
  refine lv_bipush (v := 16) hx hb d_CK_endOf_5 (by decide) ?_
  refine lv_idiv hx hb d_CK_endOf_7 (by decide) ?_
  obtain ⟨hin, hw⟩ := hw
  refine va_iald hx hb hK hP 12 0 rfl rfl hin d_CK_endOf_8 ?_
  exact rr_i hx hb hr hlocks hS d_CK_endOf_9 hw
set_option maxHeartbeats 4000000 in
set_option maxRecDepth 100000 in
theorem c_CT_channelToGet (l : Launch) (dC : Nat → ClassId) (dI : Nat → Nat → Nat) (cI cZ : ClassId) (a : Nat → Nat) (sz : Nat) (σ : SS) (x1 : Int32) (post : Int32 → Prop) (hw : wp_CT_channelToGet σ x1 post) : Met l y_CT_channelToGet (.code y_CT_channelToGet b_CT_channelToGet 4 (some .int) :: TT) { frames := 2, cells := 0, slots := 0, locals := 43 } (pW (dC, dI) clsT (tyT cI cZ) [.ref (a 4), .int x1] sz (wC cI cZ a σ)) (va_Qi (fun r (_ : Unit) => post r) (fun _ _ => True) (fun q => sz ≤ q)) 0 0 (fun q => sz ≤ q) := by
  refine hdr (Qf := fun A => (va_Qi (fun r (_ : Unit) => post r) (fun _ _ => True) A)) (by decide) (Nat.le_of_ble_eq_true rfl) ?_
  intro p e s m below meth c A ls hx hb hr hts hown hlocks hml hK hP hD hS hA hl
  have hown : s.vm.findClass R_CT = some m.cls := hown
  have hl : lv_has ls 4 [(0, .ref (a 4)), (1, .int x1)] := hl
  rw [wp_CT_channelToGet] at hw
  refine lv_aload_n hx hb d_CT_channelToGet_0 rfl (lv_at hl 0 rfl) ?_
  refine va_get (D := (dC, dI)) (ci := 4) (v := .ref (a 3)) (C := R_CT) (T := F_CT) (N := 10) hx hb hts in_CT hown hK hP 4 rfl rfl 2 (by decide) (hts (.fieldLink R_CT 35 R_CT "inputs" "LNetRoutes$Inputs;") (tm 74 rfl)) (fun _ h9 => h9) rfl d_CT_channelToGet_1 ?_
  refine lv_iload_n hx hb d_CT_channelToGet_4 rfl (lv_at hl 1 rfl) ?_
  refine cl_r (va_runV (As := [.int x1]) (rest := []) ⟨hx, hb, hml, hown, hts⟩ (c_CI_frontOf l dC dI cI cZ a _ σ x1 _ hw) (cwV 1 hts (gi_V (tm 95 rfl) (tm 96 rfl) (tm 97 rfl) (tm 49 rfl) (tm 98 rfl)) rfl rfl rfl (by decide +kernel) ⟨Nat.le_of_ble_eq_true rfl, Nat.le_of_ble_eq_true rfl⟩) (pW_V hK hP hD (ci := 3) (k := 3) rfl rfl) rfl rfl hl.1 rfl (lv_room (Nat.le_of_ble_eq_true rfl)) d_CT_channelToGet_5 ⟨Nat.zero_le _, Nat.zero_le _⟩) hP hS hA (fun r_1 H locs hw hP hT => ?_)
  have hS := hT _ hA hS
  refine lv_istore_n (lv' := [(2, .int r_1), (0, .ref (a 4)), (1, .int x1)]) hx hb d_CT_channelToGet_8 rfl hl (by decide) rfl (fun ls hl => ?_)
  refine lv_iload_n hx hb d_CT_channelToGet_9 rfl (lv_at hl 0 rfl) ?_
  refine lv_iconst (v := (-1)) hx hb d_CT_channelToGet_10 (by decide) ?_
  refine lv_icmp_eq (tgt := 35) hx hb d_CT_channelToGet_11 (by decide) (fun c_2 => ?_) (fun c_2 => ?_)
  · have hw := hw.1 c_2
    refine lv_iconst (v := (-1)) hx hb d_CT_channelToGet_35 (by decide) ?_
    exact rr_i hx hb hr hlocks hS d_CT_channelToGet_36 hw
  · have hw := hw.2 c_2
    refine lv_aload_n hx hb d_CT_channelToGet_14 rfl (lv_at hl 1 rfl) ?_
    refine va_get (D := (dC, dI)) (ci := 4) (v := .ref (a 2)) (C := R_CT) (T := F_CT) (N := 10) hx hb hts in_CT hown hK hP 4 rfl rfl 1 (by decide) (hts (.fieldLink R_CT 31 R_CT "packets" "LNetRoutes$Packets;") (tm 75 rfl)) (fun _ h9 => h9) rfl d_CT_channelToGet_15 ?_
    refine lv_iload_n hx hb d_CT_channelToGet_18 rfl (lv_at hl 0 rfl) ?_
    refine cl_r (va_runV (As := [.int r_1]) (rest := []) ⟨hx, hb, hml, hown, hts⟩ (c_CK_isHead l dC dI cI cZ a _ σ r_1 _ hw) (cwV 1 hts (gi_V (tm 91 rfl) (tm 92 rfl) (tm 93 rfl) (tm 54 rfl) (tm 94 rfl)) rfl rfl rfl (by decide +kernel) ⟨Nat.le_of_ble_eq_true rfl, Nat.le_of_ble_eq_true rfl⟩) (pW_V hK hP hD (ci := 2) (k := 2) rfl rfl) rfl rfl hl.1 rfl (lv_room (Nat.le_of_ble_eq_true rfl)) d_CT_channelToGet_19 ⟨Nat.zero_le _, Nat.zero_le _⟩) hP hS hA (fun r_3 H locs hw hP hT => ?_)
    have hS := hT _ hA hS
    refine lv_if_eq (tgt := 35) hx hb d_CT_channelToGet_22 (by decide) (fun c_4 => ?_) (fun c_4 => ?_)
    · have hw := hw.1 c_4
      refine lv_iconst (v := (-1)) hx hb d_CT_channelToGet_35 (by decide) ?_
      exact rr_i hx hb hr hlocks hS d_CT_channelToGet_36 hw
    · have hw := hw.2 c_4
      refine lv_aload_n hx hb d_CT_channelToGet_25 rfl (lv_at hl 1 rfl) ?_
      refine va_get (D := (dC, dI)) (ci := 4) (v := .ref (a 23)) (C := R_CT) (T := F_CT) (N := 10) hx hb hts in_CT hown hK hP 4 rfl rfl 3 (by decide) (hts (.fieldLink R_CT 9 R_CT "holds" "[I") (tm 76 rfl)) (fun _ h9 => h9) rfl d_CT_channelToGet_26 ?_
      refine lv_iload_n hx hb d_CT_channelToGet_29 rfl (lv_at hl 2 rfl) ?_
      obtain ⟨hin, hw⟩ := hw
      refine va_iald hx hb hK hP 23 0 rfl rfl hin d_CT_channelToGet_30 ?_
      refine lv_iconst (v := (-1)) hx hb d_CT_channelToGet_31 (by decide) ?_
      refine lv_icmp_eq (tgt := 37) hx hb d_CT_channelToGet_32 (by decide) (fun c_5 => ?_) (fun c_5 => ?_)
      · have hw := hw.1 c_5
        refine lv_aload_n hx hb d_CT_channelToGet_37 rfl (lv_at hl 1 rfl) ?_
        refine va_get (D := (dC, dI)) (ci := 4) (v := .ref (a 1)) (C := R_CT) (T := F_CT) (N := 10) hx hb hts in_CT hown hK hP 4 rfl rfl 0 (by decide) (hts (.fieldLink R_CT 27 R_CT "plan" "LNetRoutes$Plan;") (tm 77 rfl)) (fun _ h9 => h9) rfl d_CT_channelToGet_38 ?_
        refine lv_aload_n hx hb d_CT_channelToGet_41 rfl (lv_at hl 1 rfl) ?_
        refine va_get (D := (dC, dI)) (ci := 4) (v := .ref (a 3)) (C := R_CT) (T := F_CT) (N := 10) hx hb hts in_CT hown hK hP 4 rfl rfl 2 (by decide) (hts (.fieldLink R_CT 35 R_CT "inputs" "LNetRoutes$Inputs;") (tm 74 rfl)) (fun _ h9 => h9) rfl d_CT_channelToGet_42 ?_
        refine lv_iload_n hx hb d_CT_channelToGet_45 rfl (lv_at hl 2 rfl) ?_
        refine cl_r (va_runV (As := [.int x1]) (rest := [.ref (a 1)]) ⟨hx, hb, hml, hown, hts⟩ (c_CI_nodeOf l dC dI cI cZ a _ σ x1 _ hw) (cwV 1 hts (gi_V (tm 87 rfl) (tm 88 rfl) (tm 89 rfl) (tm 49 rfl) (tm 90 rfl)) rfl rfl rfl (by decide +kernel) ⟨Nat.le_of_ble_eq_true rfl, Nat.le_of_ble_eq_true rfl⟩) (pW_V hK hP hD (ci := 3) (k := 3) rfl rfl) rfl rfl hl.1 rfl (lv_room (Nat.le_of_ble_eq_true rfl)) d_CT_channelToGet_46 ⟨Nat.zero_le _, Nat.zero_le _⟩) hP hS hA (fun r_6 H locs hw hP hT => ?_)
        have hS := hT _ hA hS
        refine lv_aload_n hx hb d_CT_channelToGet_49 rfl (lv_at hl 1 rfl) ?_
        refine va_get (D := (dC, dI)) (ci := 4) (v := .ref (a 2)) (C := R_CT) (T := F_CT) (N := 10) hx hb hts in_CT hown hK hP 4 rfl rfl 1 (by decide) (hts (.fieldLink R_CT 31 R_CT "packets" "LNetRoutes$Packets;") (tm 75 rfl)) (fun _ h9 => h9) rfl d_CT_channelToGet_50 ?_
        refine lv_iload_n hx hb d_CT_channelToGet_53 rfl (lv_at hl 0 rfl) ?_
        refine cl_r (va_runV (As := [.int r_1]) (rest := [.int r_6, .ref (a 1)]) ⟨hx, hb, hml, hown, hts⟩ (c_CK_endOf l dC dI cI cZ a _ σ r_1 _ hw) (cwV 1 hts (gi_V (tm 83 rfl) (tm 84 rfl) (tm 85 rfl) (tm 54 rfl) (tm 86 rfl)) rfl rfl rfl (by decide +kernel) ⟨Nat.le_of_ble_eq_true rfl, Nat.le_of_ble_eq_true rfl⟩) (pW_V hK hP hD (ci := 2) (k := 2) rfl rfl) rfl rfl hl.1 rfl (lv_room (Nat.le_of_ble_eq_true rfl)) d_CT_channelToGet_54 ⟨Nat.zero_le _, Nat.zero_le _⟩) hP hS hA (fun r_7 H locs hw hP hT => ?_)
        have hS := hT _ hA hS
        refine cl_r (va_runV (As := [.int r_6, .int r_7]) (rest := []) ⟨hx, hb, hml, hown, hts⟩ (c_CP_wayAt l dC dI cI cZ a _ σ r_6 r_7 _ hw) (cwV 2 hts (gi_V (tm 79 rfl) (tm 80 rfl) (tm 81 rfl) (tm 4 rfl) (tm 82 rfl)) rfl rfl rfl (by decide +kernel) ⟨Nat.le_of_ble_eq_true rfl, Nat.le_of_ble_eq_true rfl⟩) (pW_V hK hP hD (ci := 1) (k := 1) rfl rfl) rfl rfl hl.1 rfl (lv_room (Nat.le_of_ble_eq_true rfl)) d_CT_channelToGet_57 ⟨Nat.zero_le _, Nat.zero_le _⟩) hP hS hA (fun r_8 H locs hw hP hT => ?_)
        have hS := hT _ hA hS
        refine lv_istore_n (lv' := [(3, .int r_8), (2, .int r_1), (0, .ref (a 4)), (1, .int x1)]) hx hb d_CT_channelToGet_60 rfl hl (by decide) rfl (fun ls hl => ?_)
        refine lv_iload_n hx hb d_CT_channelToGet_61 rfl (lv_at hl 0 rfl) ?_
        refine lv_iconst (v := (-1)) hx hb d_CT_channelToGet_62 (by decide) ?_
        refine lv_icmp_eq (tgt := 76) hx hb d_CT_channelToGet_63 (by decide) (fun c_9 => ?_) (fun c_9 => ?_)
        · have hw := hw.1 c_9
          refine lv_iconst (v := (-1)) hx hb d_CT_channelToGet_76 (by decide) ?_
          refine lv_goto (tgt := 81) hx hb d_CT_channelToGet_77 (by decide) ?_
          exact rr_i hx hb hr hlocks hS d_CT_channelToGet_81 hw
        · have hw := hw.2 c_9
          refine lv_aload_n hx hb d_CT_channelToGet_66 rfl (lv_at hl 2 rfl) ?_
          refine va_get (D := (dC, dI)) (ci := 4) (v := .ref (a 24)) (C := R_CT) (T := F_CT) (N := 10) hx hb hts in_CT hown hK hP 4 rfl rfl 4 (by decide) (hts (.fieldLink R_CT 15 R_CT "holder" "[I") (tm 78 rfl)) (fun _ h9 => h9) rfl d_CT_channelToGet_67 ?_
          refine lv_iload_n hx hb d_CT_channelToGet_70 rfl (lv_at hl 0 rfl) ?_
          obtain ⟨hin, hw⟩ := hw
          refine va_iald hx hb hK hP 24 0 rfl rfl hin d_CT_channelToGet_71 ?_
          refine lv_iconst (v := (-1)) hx hb d_CT_channelToGet_72 (by decide) ?_
          refine lv_icmp_eq (tgt := 80) hx hb d_CT_channelToGet_73 (by decide) (fun c_10 => ?_) (fun c_10 => ?_)
          · have hw := hw.1 c_10
            refine lv_iload_n hx hb d_CT_channelToGet_80 rfl (lv_at hl 0 rfl) ?_
            exact rr_i hx hb hr hlocks hS d_CT_channelToGet_81 hw
          · have hw := hw.2 c_10
            refine lv_iconst (v := (-1)) hx hb d_CT_channelToGet_76 (by decide) ?_
            refine lv_goto (tgt := 81) hx hb d_CT_channelToGet_77 (by decide) ?_
            exact rr_i hx hb hr hlocks hS d_CT_channelToGet_81 hw
      · have hw := hw.2 c_5
        refine lv_iconst (v := (-1)) hx hb d_CT_channelToGet_35 (by decide) ?_
        exact rr_i hx hb hr hlocks hS d_CT_channelToGet_36 hw
set_option maxHeartbeats 4000000 in
set_option maxRecDepth 100000 in
theorem c_CK_packetOf (l : Launch) (dC : Nat → ClassId) (dI : Nat → Nat → Nat) (cI cZ : ClassId) (a : Nat → Nat) (sz : Nat) (σ : SS) (x1 : Int32) (post : Int32 → Prop) (hw : wp_CK_packetOf σ x1 post) : Met l y_CK_packetOf (.code y_CK_packetOf b_CK_packetOf 2 (some .int) :: TT) { frames := 0, cells := 0, slots := 0, locals := 0 } (pW (dC, dI) clsT (tyT cI cZ) [.ref (a 2), .int x1] sz (wC cI cZ a σ)) (va_Qi (fun r (_ : Unit) => post r) (fun _ _ => True) (fun q => sz ≤ q)) 0 0 (fun q => sz ≤ q) := by
  refine hdr (Qf := fun A => (va_Qi (fun r (_ : Unit) => post r) (fun _ _ => True) A)) (by decide) (Nat.le_of_ble_eq_true rfl) ?_
  intro p e s m below meth c A ls hx hb hr hts hown hlocks hml hK hP hD hS hA hl
  have hown : s.vm.findClass R_CK = some m.cls := hown
  have hl : lv_has ls 2 [(0, .ref (a 2)), (1, .int x1)] := hl
  rw [wp_CK_packetOf] at hw
  refine lv_iload_n hx hb d_CK_packetOf_0 rfl (lv_at hl 1 rfl) ?_
  refine lv_bipush (v := 16) hx hb d_CK_packetOf_1 (by decide) ?_
  refine lv_idiv hx hb d_CK_packetOf_3 (by decide) ?_
  exact rr_i hx hb hr hlocks hS d_CK_packetOf_4 hw
set_option maxHeartbeats 4000000 in
set_option maxRecDepth 100000 in
theorem c_CT_askAll (l : Launch) (dC : Nat → ClassId) (dI : Nat → Nat → Nat) (cI cZ : ClassId) (a : Nat → Nat) (sz : Nat) (σ : SS) (post : Int32 → SS → Prop) (hw : wp_CT_askAll σ post) : Met l y_CT_askAll (.code y_CT_askAll b_CT_askAll 4 (some .boolean) :: TT) { frames := 3, cells := 0, slots := 0, locals := 66 } (pW (dC, dI) clsT (tyT cI cZ) [.ref (a 4)] sz (wC cI cZ a σ)) (va_Qi post (bW (dC, dI) clsT (tyT cI cZ) (wC cI cZ a) (va_A (wC cI cZ a σ) sz)) (va_A (wC cI cZ a σ) sz)) 0 0 (va_A (wC cI cZ a σ) sz) := by
  refine hd (Qf := fun A => (va_Qi post (bW (dC, dI) clsT (tyT cI cZ) (wC cI cZ a) A) A)) (by decide) (Nat.le_of_ble_eq_true rfl) ?_
  intro p e s m below meth c A ls hx hb hr hts hown hlocks hml hK hP hD hS hA hl
  have hown : s.vm.findClass R_CT = some m.cls := hown
  have hl : lv_has ls 4 [(0, .ref (a 4))] := hl
  rw [wp_CT_askAll] at hw
  refine lv_iconst (v := 0) hx hb d_CT_askAll_0 (by decide) ?_
  refine lv_istore_n (lv' := [(1, .int 0), (0, .ref (a 4))]) hx hb d_CT_askAll_1 rfl hl (by decide) rfl (fun ls hl => ?_)
  refine lv_iconst (v := 0) hx hb d_CT_askAll_2 (by decide) ?_
  refine lv_istore_n (lv' := [(2, .int 0), (1, .int 0), (0, .ref (a 4))]) hx hb d_CT_askAll_3 rfl hl (by decide) rfl (fun ls hl => ?_)
  obtain ⟨k_10, hw⟩ := hw
  have hE_10 : ∀ (σ_10 : SS) (y1_10 : Int32) (y2_10 : Int32) (H : Heap) (locs : List Loc) (ls : Array Slot), we_CT_askAll_69 σ_10 y1_10 post → va_P (dC, dI) clsT (wC cI cZ a σ_10) H → va_D A (wC cI cZ a σ_10) → va_S A s.heap H locs → lv_has ls 4 [(1, .int y1_10)] → W p l e { frames := 3, cells := 0, slots := 0, locals := 66 } s m ([.ref (a 4)] : List Value).toArray below meth c H locs 0 0 (MQ below (va_Qi post (bW (dC, dI) clsT (tyT cI cZ) (wC cI cZ a) A) A) ([.ref (a 4)] : List Value).toArray s 0 0 A) (F0 m 69 ls []) := by
    intro σ_10 y1_10 y2_10 H locs ls hw hP hD hS hl
    rw [we_CT_askAll_69] at hw
    refine lv_iload_n hx hb d_CT_askAll_69 rfl (lv_at hl 0 rfl) ?_
    exact rt_z (w := wC cI cZ a) hx hb hr hlocks hK hP hD hS d_CT_askAll_70 hw.1 hw.2
  have lp_10 : ∀ (kf_10 : Nat) (σ_10 : SS) (y1_10 : Int32) (y2_10 : Int32) (H : Heap) (locs : List Loc) (ls : Array Slot), wl_CT_askAll_4 (fun σ' y1 y2 => we_CT_askAll_69 σ' y1 post) post kf_10 σ_10 y1_10 y2_10 → va_P (dC, dI) clsT (wC cI cZ a σ_10) H → va_D A (wC cI cZ a σ_10) → va_S A s.heap H locs → lv_has ls 4 [(0, .ref (a 4)), (1, .int y1_10), (2, .int y2_10)] → W p l e { frames := 3, cells := 0, slots := 0, locals := 66 } s m ([.ref (a 4)] : List Value).toArray below meth c H locs 0 0 (MQ below (va_Qi post (bW (dC, dI) clsT (tyT cI cZ) (wC cI cZ a) A) A) ([.ref (a 4)] : List Value).toArray s 0 0 A) (F0 m 4 ls []) := by
    intro kf_10
    induction kf_10 with
    | zero => intro σ_10 y1_10 y2_10 H locs ls hw; rw [wl_CT_askAll_4] at hw; exact hw.elim
    | succ kf_10 ih_10 =>
      intro σ_10 y1_10 y2_10 H locs ls hw hP hD hS hl
      rw [wl_CT_askAll_4] at hw
      refine lv_iload_n hx hb d_CT_askAll_4 rfl (lv_at hl 2 rfl) ?_
      refine lv_aload_n hx hb d_CT_askAll_5 rfl (lv_at hl 0 rfl) ?_
      refine va_get (D := (dC, dI)) (ci := 4) (v := .ref (a 3)) (C := R_CT) (T := F_CT) (N := 10) hx hb hts in_CT hown hK hP 4 rfl rfl 2 (by decide) (hts (.fieldLink R_CT 35 R_CT "inputs" "LNetRoutes$Inputs;") (tm 74 rfl)) (fun _ h9 => h9) rfl d_CT_askAll_6 ?_
      refine cl_r (va_runV (As := []) (rest := [.int y2_10]) ⟨hx, hb, hml, hown, hts⟩ (c_CI_inUse l dC dI cI cZ a _ σ_10 _ hw) (cwV 0 hts (gi_V (tm 109 rfl) (tm 110 rfl) (tm 111 rfl) (tm 49 rfl) (tm 112 rfl)) rfl rfl rfl (by decide +kernel) ⟨Nat.le_of_ble_eq_true rfl, Nat.le_of_ble_eq_true rfl⟩) (pW_V hK hP hD (ci := 3) (k := 3) rfl rfl) rfl rfl hl.1 rfl (lv_room (Nat.le_of_ble_eq_true rfl)) d_CT_askAll_9 ⟨Nat.zero_le _, Nat.zero_le _⟩) hP hS hA (fun r_11 H locs hw hP hT => ?_)
      have hS := hT _ hA hS
      refine lv_icmp_ge (tgt := 69) hx hb d_CT_askAll_12 (by decide) (fun c_12 => ?_) (fun c_12 => ?_)
      · have hw := hw.1 c_12
        exact hE_10 σ_10 y1_10 y2_10 _ _ _ hw hP hD hS (lv_sub hl [1] rfl)
      · have hw := hw.2 c_12
        refine lv_aload_n hx hb d_CT_askAll_15 rfl (lv_at hl 0 rfl) ?_
        refine lv_iload_n hx hb d_CT_askAll_16 rfl (lv_at hl 2 rfl) ?_
        refine cl_r (va_runV (As := [.int y2_10]) (rest := []) ⟨hx, hb, hml, hown, hts⟩ (c_CT_channelToGet l dC dI cI cZ a _ σ_10 y2_10 _ hw) (cwV 1 hts (gi_V (tm 104 rfl) (tm 105 rfl) (tm 106 rfl) (tm 107 rfl) (tm 108 rfl)) rfl rfl rfl (by decide +kernel) ⟨Nat.le_of_ble_eq_true rfl, Nat.le_of_ble_eq_true rfl⟩) (pW_V hK hP hD (ci := 4) (k := 4) rfl rfl) rfl rfl hl.1 rfl (lv_room (Nat.le_of_ble_eq_true rfl)) d_CT_askAll_17 ⟨Nat.zero_le _, Nat.zero_le _⟩) hP hS hA (fun r_13 H locs hw hP hT => ?_)
        have hS := hT _ hA hS
        refine lv_istore_n (lv' := [(3, .int r_13), (0, .ref (a 4)), (1, .int y1_10), (2, .int y2_10)]) hx hb d_CT_askAll_20 rfl hl (by decide) rfl (fun ls hl => ?_)
        refine lv_iload_n hx hb d_CT_askAll_21 rfl (lv_at hl 0 rfl) ?_
        refine lv_iconst (v := (-1)) hx hb d_CT_askAll_22 (by decide) ?_
        refine lv_icmp_eq (tgt := 63) hx hb d_CT_askAll_23 (by decide) (fun c_14 => ?_) (fun c_14 => ?_)
        · have hw := hw.1 c_14
          refine lv_iinc (v := y2_10 + 1) (lv' := [(2, .int (y2_10 + 1)), (3, .int r_13), (0, .ref (a 4)), (1, .int y1_10)]) hx hb d_CT_askAll_63 hl (k := 3) rfl rfl (by decide) rfl (fun ls hl => ?_)
          refine lv_goto (tgt := 4) hx hb d_CT_askAll_66 (by decide) ?_
          exact ih_10 σ_10 y1_10 (y2_10 + 1) _ _ _ hw hP hD hS (lv_sub hl [2, 3, 0] rfl)
        · have hw := hw.2 c_14
          refine lv_aload_n hx hb d_CT_askAll_26 rfl (lv_at hl 1 rfl) ?_
          refine va_get (D := (dC, dI)) (ci := 4) (v := .ref (a 23)) (C := R_CT) (T := F_CT) (N := 10) hx hb hts in_CT hown hK hP 4 rfl rfl 3 (by decide) (hts (.fieldLink R_CT 9 R_CT "holds" "[I") (tm 76 rfl)) (fun _ h9 => h9) rfl d_CT_askAll_27 ?_
          refine lv_iload_n hx hb d_CT_askAll_30 rfl (lv_at hl 3 rfl) ?_
          refine lv_iload_n hx hb d_CT_askAll_31 rfl (lv_at hl 0 rfl) ?_
          obtain ⟨hin, hw⟩ := hw
          refine st_i (w := wC cI cZ a) hx hb hK hP hD hS 23 0 rfl rfl rfl hin d_CT_askAll_32 (fun s_15 e_15 H locs hP hD hS => ?_)
          have hw := hw s_15 e_15
          refine lv_aload_n hx hb d_CT_askAll_33 rfl (lv_at hl 1 rfl) ?_
          refine va_get (D := (dC, dI)) (ci := 4) (v := .ref (a 24)) (C := R_CT) (T := F_CT) (N := 10) hx hb hts in_CT hown hK hP 4 rfl rfl 4 (by decide) (hts (.fieldLink R_CT 15 R_CT "holder" "[I") (tm 78 rfl)) (fun _ h9 => h9) rfl d_CT_askAll_34 ?_
          refine lv_iload_n hx hb d_CT_askAll_37 rfl (lv_at hl 0 rfl) ?_
          refine lv_iload_n hx hb d_CT_askAll_38 rfl (lv_at hl 3 rfl) ?_
          obtain ⟨hin, hw⟩ := hw
          refine st_i (w := wC cI cZ a) hx hb hK hP hD hS 24 0 rfl rfl rfl hin d_CT_askAll_39 (fun s_16 e_16 H locs hP hD hS => ?_)
          have hw := hw s_16 e_16
          refine lv_aload_n hx hb d_CT_askAll_40 rfl (lv_at hl 1 rfl) ?_
          refine va_get (D := (dC, dI)) (ci := 4) (v := .ref (a 25)) (C := R_CT) (T := F_CT) (N := 10) hx hb hts in_CT hown hK hP 4 rfl rfl 5 (by decide) (hts (.fieldLink R_CT 18 R_CT "heldFor" "[I") (tm 99 rfl)) (fun _ h9 => h9) rfl d_CT_askAll_41 ?_
          refine lv_iload_n hx hb d_CT_askAll_44 rfl (lv_at hl 0 rfl) ?_
          refine lv_aload_n hx hb d_CT_askAll_45 rfl (lv_at hl 1 rfl) ?_
          refine va_get (D := (dC, dI)) (ci := 4) (v := .ref (a 2)) (C := R_CT) (T := F_CT) (N := 10) hx hb hts in_CT hown hK hP 4 rfl rfl 1 (by decide) (hts (.fieldLink R_CT 31 R_CT "packets" "LNetRoutes$Packets;") (tm 75 rfl)) (fun _ h9 => h9) rfl d_CT_askAll_46 ?_
          refine lv_aload_n hx hb d_CT_askAll_49 rfl (lv_at hl 1 rfl) ?_
          refine va_get (D := (dC, dI)) (ci := 4) (v := .ref (a 3)) (C := R_CT) (T := F_CT) (N := 10) hx hb hts in_CT hown hK hP 4 rfl rfl 2 (by decide) (hts (.fieldLink R_CT 35 R_CT "inputs" "LNetRoutes$Inputs;") (tm 74 rfl)) (fun _ h9 => h9) rfl d_CT_askAll_50 ?_
          refine lv_iload_n hx hb d_CT_askAll_53 rfl (lv_at hl 3 rfl) ?_
          refine cl_r (va_runV (As := [.int y2_10]) (rest := [.ref (a 2), .int r_13, .ref (a 25)]) ⟨hx, hb, hml, hown, hts⟩ (c_CI_frontOf l dC dI cI cZ a _ s_16 y2_10 _ hw) (cwV 1 hts (gi_V (tm 95 rfl) (tm 96 rfl) (tm 97 rfl) (tm 49 rfl) (tm 98 rfl)) rfl rfl rfl (by decide +kernel) ⟨Nat.le_of_ble_eq_true rfl, Nat.le_of_ble_eq_true rfl⟩) (pW_V hK hP hD (ci := 3) (k := 3) rfl rfl) rfl rfl hl.1 rfl (lv_room (Nat.le_of_ble_eq_true rfl)) d_CT_askAll_54 ⟨Nat.zero_le _, Nat.zero_le _⟩) hP hS hA (fun r_17 H locs hw hP hT => ?_)
          have hS := hT _ hA hS
          refine cl_r (va_runV (As := [.int r_17]) (rest := [.int r_13, .ref (a 25)]) ⟨hx, hb, hml, hown, hts⟩ (c_CK_packetOf l dC dI cI cZ a _ s_16 r_17 _ hw) (cwV 1 hts (gi_V (tm 100 rfl) (tm 101 rfl) (tm 102 rfl) (tm 54 rfl) (tm 103 rfl)) rfl rfl rfl (by decide +kernel) ⟨Nat.le_of_ble_eq_true rfl, Nat.le_of_ble_eq_true rfl⟩) (pW_V hK hP hD (ci := 2) (k := 2) rfl rfl) rfl rfl hl.1 rfl (lv_room (Nat.le_of_ble_eq_true rfl)) d_CT_askAll_57 ⟨Nat.zero_le _, Nat.zero_le _⟩) hP hS hA (fun r_18 H locs hw hP hT => ?_)
          have hS := hT _ hA hS
          obtain ⟨hin, hw⟩ := hw
          refine st_i (w := wC cI cZ a) hx hb hK hP hD hS 25 0 rfl rfl rfl hin d_CT_askAll_60 (fun s_19 e_19 H locs hP hD hS => ?_)
          have hw := hw s_19 e_19
          refine lv_iconst (v := 1) hx hb d_CT_askAll_61 (by decide) ?_
          refine lv_istore_n (lv' := [(1, .int 1), (3, .int r_13), (0, .ref (a 4)), (2, .int y2_10)]) hx hb d_CT_askAll_62 rfl hl (by decide) rfl (fun ls hl => ?_)
          refine lv_iinc (v := y2_10 + 1) (lv' := [(2, .int (y2_10 + 1)), (1, .int 1), (3, .int r_13), (0, .ref (a 4))]) hx hb d_CT_askAll_63 hl (k := 3) rfl rfl (by decide) rfl (fun ls hl => ?_)
          refine lv_goto (tgt := 4) hx hb d_CT_askAll_66 (by decide) ?_
          exact ih_10 s_19 1 (y2_10 + 1) _ _ _ hw hP hD hS (lv_sub hl [3, 1, 0] rfl)
  exact lp_10 k_10 σ 0 0 _ _ _ hw hP hD hS (lv_sub hl [2, 1, 0] rfl)
set_option maxHeartbeats 4000000 in
set_option maxRecDepth 100000 in
theorem c_CI_hasRoom (l : Launch) (dC : Nat → ClassId) (dI : Nat → Nat → Nat) (cI cZ : ClassId) (a : Nat → Nat) (sz : Nat) (σ : SS) (x1 : Int32) (post : Int32 → Prop) (hw : wp_CI_hasRoom σ x1 post) : Met l y_CI_hasRoom (.code y_CI_hasRoom b_CI_hasRoom 2 (some .boolean) :: TT) { frames := 0, cells := 0, slots := 0, locals := 0 } (pW (dC, dI) clsT (tyT cI cZ) [.ref (a 3), .int x1] sz (wC cI cZ a σ)) (va_Qi (fun r (_ : Unit) => post r) (fun _ _ => True) (fun q => sz ≤ q)) 0 0 (fun q => sz ≤ q) := by
  refine hdr (Qf := fun A => (va_Qi (fun r (_ : Unit) => post r) (fun _ _ => True) A)) (by decide) (Nat.le_of_ble_eq_true rfl) ?_
  intro p e s m below meth c A ls hx hb hr hts hown hlocks hml hK hP hD hS hA hl
  have hown : s.vm.findClass R_CI = some m.cls := hown
  have hl : lv_has ls 2 [(0, .ref (a 3)), (1, .int x1)] := hl
  rw [wp_CI_hasRoom] at hw
  refine lv_aload_n hx hb d_CI_hasRoom_0 rfl (lv_at hl 0 rfl) ?_
  refine va_get (D := (dC, dI)) (ci := 3) (v := .ref (a 21)) (C := R_CI) (T := F_CI) (N := 8) hx hb hts in_CI hown hK hP 3 rfl rfl 6 (by decide) (hts (.fieldLink R_CI 24 R_CI "size" "[I") (tm 67 rfl)) (fun _ h9 => h9) rfl d_CI_hasRoom_1 ?_
  refine lv_iload_n hx hb d_CI_hasRoom_4 rfl (lv_at hl 1 rfl) ?_
  obtain ⟨hin, hw⟩ := hw
  refine va_iald hx hb hK hP 21 0 rfl rfl hin d_CI_hasRoom_5 ?_
  refine lv_iconst (v := 4) hx hb d_CI_hasRoom_6 (by decide) ?_
  refine lv_icmp_ge (tgt := 14) hx hb d_CI_hasRoom_7 (by decide) (fun c_1 => ?_) (fun c_1 => ?_)
  · have hw := hw.1 c_1
    refine lv_iconst (v := 0) hx hb d_CI_hasRoom_14 (by decide) ?_
    exact rr_z hx hb hr hlocks hS d_CI_hasRoom_15 (Or.inl rfl) hw
  · have hw := hw.2 c_1
    refine lv_iconst (v := 1) hx hb d_CI_hasRoom_10 (by decide) ?_
    refine lv_goto (tgt := 15) hx hb d_CI_hasRoom_11 (by decide) ?_
    exact rr_z hx hb hr hlocks hS d_CI_hasRoom_15 (Or.inr rfl) hw
set_option maxHeartbeats 4000000 in
set_option maxRecDepth 100000 in
theorem c_CT_canMoveInto (l : Launch) (dC : Nat → ClassId) (dI : Nat → Nat → Nat) (cI cZ : ClassId) (a : Nat → Nat) (sz : Nat) (σ : SS) (x1 : Int32) (post : Int32 → Prop) (hw : wp_CT_canMoveInto σ x1 post) : Met l y_CT_canMoveInto (.code y_CT_canMoveInto b_CT_canMoveInto 3 (some .boolean) :: TT) { frames := 2, cells := 0, slots := 0, locals := 43 } (pW (dC, dI) clsT (tyT cI cZ) [.ref (a 4), .int x1] sz (wC cI cZ a σ)) (va_Qi (fun r (_ : Unit) => post r) (fun _ _ => True) (fun q => sz ≤ q)) 0 0 (fun q => sz ≤ q) := by
  refine hdr (Qf := fun A => (va_Qi (fun r (_ : Unit) => post r) (fun _ _ => True) A)) (by decide) (Nat.le_of_ble_eq_true rfl) ?_
  intro p e s m below meth c A ls hx hb hr hts hown hlocks hml hK hP hD hS hA hl
  have hown : s.vm.findClass R_CT = some m.cls := hown
  have hl : lv_has ls 3 [(0, .ref (a 4)), (1, .int x1)] := hl
  rw [wp_CT_canMoveInto] at hw
  refine lv_aload_n hx hb d_CT_canMoveInto_0 rfl (lv_at hl 0 rfl) ?_
  refine va_get (D := (dC, dI)) (ci := 4) (v := .ref (a 24)) (C := R_CT) (T := F_CT) (N := 10) hx hb hts in_CT hown hK hP 4 rfl rfl 4 (by decide) (hts (.fieldLink R_CT 15 R_CT "holder" "[I") (tm 78 rfl)) (fun _ h9 => h9) rfl d_CT_canMoveInto_1 ?_
  refine lv_iload_n hx hb d_CT_canMoveInto_4 rfl (lv_at hl 1 rfl) ?_
  obtain ⟨hin, hw⟩ := hw
  refine va_iald hx hb hK hP 24 0 rfl rfl hin d_CT_canMoveInto_5 ?_
  refine lv_topi (fun v_1 ev_1 => ?_)
  have hw := hw v_1 ev_1
  refine lv_istore_n (lv' := [(2, .int v_1), (0, .ref (a 4)), (1, .int x1)]) hx hb d_CT_canMoveInto_6 rfl hl (by decide) rfl (fun ls hl => ?_)
  refine lv_iload_n hx hb d_CT_canMoveInto_7 rfl (lv_at hl 0 rfl) ?_
  refine lv_iconst (v := (-1)) hx hb d_CT_canMoveInto_8 (by decide) ?_
  refine lv_icmp_eq (tgt := 39) hx hb d_CT_canMoveInto_9 (by decide) (fun c_2 => ?_) (fun c_2 => ?_)
  · have hw := hw.1 c_2
    refine lv_iconst (v := 0) hx hb d_CT_canMoveInto_39 (by decide) ?_
    exact rr_z hx hb hr hlocks hS d_CT_canMoveInto_40 (Or.inl rfl) hw
  · have hw := hw.2 c_2
    refine lv_aload_n hx hb d_CT_canMoveInto_12 rfl (lv_at hl 1 rfl) ?_
    refine va_get (D := (dC, dI)) (ci := 4) (v := .ref (a 3)) (C := R_CT) (T := F_CT) (N := 10) hx hb hts in_CT hown hK hP 4 rfl rfl 2 (by decide) (hts (.fieldLink R_CT 35 R_CT "inputs" "LNetRoutes$Inputs;") (tm 74 rfl)) (fun _ h9 => h9) rfl d_CT_canMoveInto_13 ?_
    refine lv_iload_n hx hb d_CT_canMoveInto_16 rfl (lv_at hl 0 rfl) ?_
    refine cl_r (va_runV (As := [.int v_1]) (rest := []) ⟨hx, hb, hml, hown, hts⟩ (c_CI_frontOf l dC dI cI cZ a _ σ v_1 _ hw) (cwV 1 hts (gi_V (tm 95 rfl) (tm 96 rfl) (tm 97 rfl) (tm 49 rfl) (tm 98 rfl)) rfl rfl rfl (by decide +kernel) ⟨Nat.le_of_ble_eq_true rfl, Nat.le_of_ble_eq_true rfl⟩) (pW_V hK hP hD (ci := 3) (k := 3) rfl rfl) rfl rfl hl.1 rfl (lv_room (Nat.le_of_ble_eq_true rfl)) d_CT_canMoveInto_17 ⟨Nat.zero_le _, Nat.zero_le _⟩) hP hS hA (fun r_3 H locs hw hP hT => ?_)
    have hS := hT _ hA hS
    refine lv_iconst (v := (-1)) hx hb d_CT_canMoveInto_20 (by decide) ?_
    refine lv_icmp_eq (tgt := 39) hx hb d_CT_canMoveInto_21 (by decide) (fun c_4 => ?_) (fun c_4 => ?_)
    · have hw := hw.1 c_4
      refine lv_iconst (v := 0) hx hb d_CT_canMoveInto_39 (by decide) ?_
      exact rr_z hx hb hr hlocks hS d_CT_canMoveInto_40 (Or.inl rfl) hw
    · have hw := hw.2 c_4
      refine lv_aload_n hx hb d_CT_canMoveInto_24 rfl (lv_at hl 1 rfl) ?_
      refine va_get (D := (dC, dI)) (ci := 4) (v := .ref (a 3)) (C := R_CT) (T := F_CT) (N := 10) hx hb hts in_CT hown hK hP 4 rfl rfl 2 (by decide) (hts (.fieldLink R_CT 35 R_CT "inputs" "LNetRoutes$Inputs;") (tm 74 rfl)) (fun _ h9 => h9) rfl d_CT_canMoveInto_25 ?_
      refine lv_iload_n hx hb d_CT_canMoveInto_28 rfl (lv_at hl 2 rfl) ?_
      refine cl_r (va_runV (As := [.int x1]) (rest := []) ⟨hx, hb, hml, hown, hts⟩ (c_CI_hasRoom l dC dI cI cZ a _ σ x1 _ hw) (cwV 1 hts (gi_V (tm 113 rfl) (tm 114 rfl) (tm 115 rfl) (tm 49 rfl) (tm 116 rfl)) rfl rfl rfl (by decide +kernel) ⟨Nat.le_of_ble_eq_true rfl, Nat.le_of_ble_eq_true rfl⟩) (pW_V hK hP hD (ci := 3) (k := 3) rfl rfl) rfl rfl hl.1 rfl (lv_room (Nat.le_of_ble_eq_true rfl)) d_CT_canMoveInto_29 ⟨Nat.zero_le _, Nat.zero_le _⟩) hP hS hA (fun r_5 H locs hw hP hT => ?_)
      have hS := hT _ hA hS
      refine lv_if_eq (tgt := 39) hx hb d_CT_canMoveInto_32 (by decide) (fun c_6 => ?_) (fun c_6 => ?_)
      · have hw := hw.1 c_6
        refine lv_iconst (v := 0) hx hb d_CT_canMoveInto_39 (by decide) ?_
        exact rr_z hx hb hr hlocks hS d_CT_canMoveInto_40 (Or.inl rfl) hw
      · have hw := hw.2 c_6
        refine lv_iconst (v := 1) hx hb d_CT_canMoveInto_35 (by decide) ?_
        refine lv_goto (tgt := 40) hx hb d_CT_canMoveInto_36 (by decide) ?_
        exact rr_z hx hb hr hlocks hS d_CT_canMoveInto_40 (Or.inr rfl) hw
set_option maxHeartbeats 4000000 in
set_option maxRecDepth 100000 in
theorem c_CT_laneToMove (l : Launch) (dC : Nat → ClassId) (dI : Nat → Nat → Nat) (cI cZ : ClassId) (a : Nat → Nat) (sz : Nat) (σ : SS) (x1 : Int32) (post : Int32 → Prop) (hw : wp_CT_laneToMove σ x1 post) : Met l y_CT_laneToMove (.code y_CT_laneToMove b_CT_laneToMove 4 (some .int) :: TT) { frames := 3, cells := 0, slots := 0, locals := 65 } (pW (dC, dI) clsT (tyT cI cZ) [.ref (a 4), .int x1] sz (wC cI cZ a σ)) (va_Qi (fun r (_ : Unit) => post r) (fun _ _ => True) (fun q => sz ≤ q)) 0 0 (fun q => sz ≤ q) := by
  refine hdr (Qf := fun A => (va_Qi (fun r (_ : Unit) => post r) (fun _ _ => True) A)) (by decide) (Nat.le_of_ble_eq_true rfl) ?_
  intro p e s m below meth c A ls hx hb hr hts hown hlocks hml hK hP hD hS hA hl
  have hown : s.vm.findClass R_CT = some m.cls := hown
  have hl : lv_has ls 4 [(0, .ref (a 4)), (1, .int x1)] := hl
  rw [wp_CT_laneToMove] at hw
  refine lv_aload_n hx hb d_CT_laneToMove_0 rfl (lv_at hl 0 rfl) ?_
  refine va_get (D := (dC, dI)) (ci := 4) (v := .ref (a 27)) (C := R_CT) (T := F_CT) (N := 10) hx hb hts in_CT hown hK hP 4 rfl rfl 7 (by decide) (hts (.fieldLink R_CT 24 R_CT "lastLane" "[I") (tm 117 rfl)) (fun _ h9 => h9) rfl d_CT_laneToMove_1 ?_
  refine lv_iload_n hx hb d_CT_laneToMove_4 rfl (lv_at hl 1 rfl) ?_
  obtain ⟨hin, hw⟩ := hw
  refine va_iald hx hb hK hP 27 0 rfl rfl hin d_CT_laneToMove_5 ?_
  refine lv_topi (fun v_1 ev_1 => ?_)
  have hw := hw v_1 ev_1
  refine lv_istore_n (lv' := [(2, .int v_1), (0, .ref (a 4)), (1, .int x1)]) hx hb d_CT_laneToMove_6 rfl hl (by decide) rfl (fun ls hl => ?_)
  refine lv_iconst (v := 0) hx hb d_CT_laneToMove_7 (by decide) ?_
  refine lv_istore_n (lv' := [(3, .int 0), (2, .int v_1), (0, .ref (a 4)), (1, .int x1)]) hx hb d_CT_laneToMove_8 rfl hl (by decide) rfl (fun ls hl => ?_)
  obtain ⟨k_9, hw⟩ := hw
  have hE_9 : ∀ (y2_9 : Int32) (y3_9 : Int32) (H : Heap) (locs : List Loc) (ls : Array Slot), we_CT_laneToMove_65 σ post → va_P (dC, dI) clsT (wC cI cZ a σ) H → va_S A s.heap H locs → lv_has ls 4 [] → W p l e { frames := 3, cells := 0, slots := 0, locals := 65 } s m ([.ref (a 4), .int x1] : List Value).toArray below meth c H locs 0 0 (MQ below (va_Qi (fun r (_ : Unit) => post r) (fun _ _ => True) A) ([.ref (a 4), .int x1] : List Value).toArray s 0 0 A) (F0 m 65 ls []) := by
    intro y2_9 y3_9 H locs ls hw hP hS hl
    rw [we_CT_laneToMove_65] at hw
    refine lv_iconst (v := (-1)) hx hb d_CT_laneToMove_65 (by decide) ?_
    exact rr_i hx hb hr hlocks hS d_CT_laneToMove_66 hw
  have lp_9 : ∀ (kf_9 : Nat) (y2_9 : Int32) (y3_9 : Int32) (H : Heap) (locs : List Loc) (ls : Array Slot), wl_CT_laneToMove_9 σ x1 (fun y2 y3 => we_CT_laneToMove_65 σ post) post kf_9 y2_9 y3_9 → va_P (dC, dI) clsT (wC cI cZ a σ) H → va_S A s.heap H locs → lv_has ls 4 [(0, .ref (a 4)), (1, .int x1), (2, .int y2_9), (3, .int y3_9)] → W p l e { frames := 3, cells := 0, slots := 0, locals := 65 } s m ([.ref (a 4), .int x1] : List Value).toArray below meth c H locs 0 0 (MQ below (va_Qi (fun r (_ : Unit) => post r) (fun _ _ => True) A) ([.ref (a 4), .int x1] : List Value).toArray s 0 0 A) (F0 m 9 ls []) := by
    intro kf_9
    induction kf_9 with
    | zero => intro y2_9 y3_9 H locs ls hw; rw [wl_CT_laneToMove_9] at hw; exact hw.elim
    | succ kf_9 ih_9 =>
      intro y2_9 y3_9 H locs ls hw hP hS hl
      rw [wl_CT_laneToMove_9] at hw
      refine lv_iload_n hx hb d_CT_laneToMove_9 rfl (lv_at hl 3 rfl) ?_
      refine lv_aload_n hx hb d_CT_laneToMove_10 rfl (lv_at hl 0 rfl) ?_
      refine va_get (D := (dC, dI)) (ci := 4) (v := .ref (a 1)) (C := R_CT) (T := F_CT) (N := 10) hx hb hts in_CT hown hK hP 4 rfl rfl 0 (by decide) (hts (.fieldLink R_CT 27 R_CT "plan" "LNetRoutes$Plan;") (tm 77 rfl)) (fun _ h9 => h9) rfl d_CT_laneToMove_11 ?_
      refine va_get (D := (dC, dI)) (ci := 1) (v := .ref (a 8)) (C := R_CP) (T := F_CP) (N := 8) hx hb hts in_CP hown hK hP 1 rfl rfl 4 (by decide) (hts (.fieldLink R_CT 116 R_CP "lanes" "[I") (tm 118 rfl)) (fun _ h9 => h9) rfl d_CT_laneToMove_14 ?_
      refine lv_iload_n hx hb d_CT_laneToMove_17 rfl (lv_at hl 1 rfl) ?_
      obtain ⟨hin, hw⟩ := hw
      refine va_iald hx hb hK hP 8 0 rfl rfl hin d_CT_laneToMove_18 ?_
      refine lv_icmp_ge (tgt := 65) hx hb d_CT_laneToMove_19 (by decide) (fun c_10 => ?_) (fun c_10 => ?_)
      · have hw := hw.1 c_10
        exact hE_9 y2_9 y3_9 _ _ _ hw hP hS (lv_sub hl [] rfl)
      · have hw := hw.2 c_10
        refine lv_iload_n hx hb d_CT_laneToMove_22 rfl (lv_at hl 2 rfl) ?_
        refine lv_iconst (v := 1) hx hb d_CT_laneToMove_23 (by decide) ?_
        refine lv_iadd hx hb d_CT_laneToMove_24 ?_
        refine lv_aload_n hx hb d_CT_laneToMove_25 rfl (lv_at hl 0 rfl) ?_
        refine va_get (D := (dC, dI)) (ci := 4) (v := .ref (a 1)) (C := R_CT) (T := F_CT) (N := 10) hx hb hts in_CT hown hK hP 4 rfl rfl 0 (by decide) (hts (.fieldLink R_CT 27 R_CT "plan" "LNetRoutes$Plan;") (tm 77 rfl)) (fun _ h9 => h9) rfl d_CT_laneToMove_26 ?_
        refine va_get (D := (dC, dI)) (ci := 1) (v := .ref (a 8)) (C := R_CP) (T := F_CP) (N := 8) hx hb hts in_CP hown hK hP 1 rfl rfl 4 (by decide) (hts (.fieldLink R_CT 116 R_CP "lanes" "[I") (tm 118 rfl)) (fun _ h9 => h9) rfl d_CT_laneToMove_29 ?_
        refine lv_iload_n hx hb d_CT_laneToMove_32 rfl (lv_at hl 1 rfl) ?_
        obtain ⟨hin, hw⟩ := hw
        refine va_iald hx hb hK hP 8 0 rfl rfl hin d_CT_laneToMove_33 ?_
        refine lv_icmp_ge (tgt := 43) hx hb d_CT_laneToMove_34 (by decide) (fun c_11 => ?_) (fun c_11 => ?_)
        · have hw := hw.1 c_11
          refine lv_iconst (v := 0) hx hb d_CT_laneToMove_43 (by decide) ?_
          refine lv_istore_n (lv' := [(2, .int 0), (0, .ref (a 4)), (1, .int x1), (3, .int y3_9)]) hx hb d_CT_laneToMove_44 rfl hl (by decide) rfl (fun ls hl => ?_)
          refine lv_aload_n hx hb d_CT_laneToMove_45 rfl (lv_at hl 1 rfl) ?_
          refine lv_iload_n hx hb d_CT_laneToMove_46 rfl (lv_at hl 2 rfl) ?_
          refine lv_iconst (v := 4) hx hb d_CT_laneToMove_47 (by decide) ?_
          refine lv_imul hx hb d_CT_laneToMove_48 ?_
          refine lv_iload_n hx hb d_CT_laneToMove_49 rfl (lv_at hl 0 rfl) ?_
          refine lv_iadd hx hb d_CT_laneToMove_50 ?_
          refine cl_r (va_runV (As := [.int ((x1 * 4) + 0)]) (rest := []) ⟨hx, hb, hml, hown, hts⟩ (c_CT_canMoveInto l dC dI cI cZ a _ σ ((x1 * 4) + 0) _ hw) (cwV 1 hts (gi_V (tm 119 rfl) (tm 120 rfl) (tm 121 rfl) (tm 107 rfl) (tm 122 rfl)) rfl rfl rfl (by decide +kernel) ⟨Nat.le_of_ble_eq_true rfl, Nat.le_of_ble_eq_true rfl⟩) (pW_V hK hP hD (ci := 4) (k := 4) rfl rfl) rfl rfl hl.1 rfl (lv_room (Nat.le_of_ble_eq_true rfl)) d_CT_laneToMove_51 ⟨Nat.zero_le _, Nat.zero_le _⟩) hP hS hA (fun r_12 H locs hw hP hT => ?_)
          have hS := hT _ hA hS
          refine lv_if_eq (tgt := 59) hx hb d_CT_laneToMove_54 (by decide) (fun c_13 => ?_) (fun c_13 => ?_)
          · have hw := hw.1 c_13
            refine lv_iinc (v := y3_9 + 1) (lv' := [(3, .int (y3_9 + 1)), (2, .int 0), (0, .ref (a 4)), (1, .int x1)]) hx hb d_CT_laneToMove_59 hl (k := 3) rfl rfl (by decide) rfl (fun ls hl => ?_)
            refine lv_goto (tgt := 9) hx hb d_CT_laneToMove_62 (by decide) ?_
            exact ih_9 0 (y3_9 + 1) _ _ _ hw hP hS (lv_sub hl [2, 3, 1, 0] rfl)
          · have hw := hw.2 c_13
            refine lv_iload_n hx hb d_CT_laneToMove_57 rfl (lv_at hl 0 rfl) ?_
            exact rr_i hx hb hr hlocks hS d_CT_laneToMove_58 hw
        · have hw := hw.2 c_11
          refine lv_iload_n hx hb d_CT_laneToMove_37 rfl (lv_at hl 2 rfl) ?_
          refine lv_iconst (v := 1) hx hb d_CT_laneToMove_38 (by decide) ?_
          refine lv_iadd hx hb d_CT_laneToMove_39 ?_
          refine lv_goto (tgt := 44) hx hb d_CT_laneToMove_40 (by decide) ?_
          refine lv_topi (fun v_14 ev_14 => ?_)
          have hw := hw v_14 ev_14
          refine lv_istore_n (lv' := [(2, .int v_14), (0, .ref (a 4)), (1, .int x1), (3, .int y3_9)]) hx hb d_CT_laneToMove_44 rfl hl (by decide) rfl (fun ls hl => ?_)
          refine lv_aload_n hx hb d_CT_laneToMove_45 rfl (lv_at hl 1 rfl) ?_
          refine lv_iload_n hx hb d_CT_laneToMove_46 rfl (lv_at hl 2 rfl) ?_
          refine lv_iconst (v := 4) hx hb d_CT_laneToMove_47 (by decide) ?_
          refine lv_imul hx hb d_CT_laneToMove_48 ?_
          refine lv_iload_n hx hb d_CT_laneToMove_49 rfl (lv_at hl 0 rfl) ?_
          refine lv_iadd hx hb d_CT_laneToMove_50 ?_
          refine cl_r (va_runV (As := [.int ((x1 * 4) + v_14)]) (rest := []) ⟨hx, hb, hml, hown, hts⟩ (c_CT_canMoveInto l dC dI cI cZ a _ σ ((x1 * 4) + v_14) _ hw) (cwV 1 hts (gi_V (tm 119 rfl) (tm 120 rfl) (tm 121 rfl) (tm 107 rfl) (tm 122 rfl)) rfl rfl rfl (by decide +kernel) ⟨Nat.le_of_ble_eq_true rfl, Nat.le_of_ble_eq_true rfl⟩) (pW_V hK hP hD (ci := 4) (k := 4) rfl rfl) rfl rfl hl.1 rfl (lv_room (Nat.le_of_ble_eq_true rfl)) d_CT_laneToMove_51 ⟨Nat.zero_le _, Nat.zero_le _⟩) hP hS hA (fun r_15 H locs hw hP hT => ?_)
          have hS := hT _ hA hS
          refine lv_if_eq (tgt := 59) hx hb d_CT_laneToMove_54 (by decide) (fun c_16 => ?_) (fun c_16 => ?_)
          · have hw := hw.1 c_16
            refine lv_iinc (v := y3_9 + 1) (lv' := [(3, .int (y3_9 + 1)), (2, .int v_14), (0, .ref (a 4)), (1, .int x1)]) hx hb d_CT_laneToMove_59 hl (k := 3) rfl rfl (by decide) rfl (fun ls hl => ?_)
            refine lv_goto (tgt := 9) hx hb d_CT_laneToMove_62 (by decide) ?_
            exact ih_9 v_14 (y3_9 + 1) _ _ _ hw hP hS (lv_sub hl [2, 3, 1, 0] rfl)
          · have hw := hw.2 c_16
            refine lv_iload_n hx hb d_CT_laneToMove_57 rfl (lv_at hl 0 rfl) ?_
            exact rr_i hx hb hr hlocks hS d_CT_laneToMove_58 hw
  exact lp_9 k_9 v_1 0 _ _ _ hw hP hS (lv_sub hl [2, 3, 1, 0] rfl)
set_option maxHeartbeats 4000000 in
set_option maxRecDepth 100000 in
theorem c_CI_dropFromBuffer (l : Launch) (dC : Nat → ClassId) (dI : Nat → Nat → Nat) (cI cZ : ClassId) (a : Nat → Nat) (sz : Nat) (σ : SS) (x1 : Int32) (post : SS → Prop) (hw : wp_CI_dropFromBuffer σ x1 post) : Met l y_CI_dropFromBuffer (.code y_CI_dropFromBuffer b_CI_dropFromBuffer 4 none :: TT) { frames := 0, cells := 0, slots := 0, locals := 0 } (pW (dC, dI) clsT (tyT cI cZ) [.ref (a 3), .int x1] sz (wC cI cZ a σ)) (va_Qv post (bW (dC, dI) clsT (tyT cI cZ) (wC cI cZ a) (va_A (wC cI cZ a σ) sz)) (va_A (wC cI cZ a σ) sz)) 0 0 (va_A (wC cI cZ a σ) sz) := by
  refine hd (Qf := fun A => (va_Qv post (bW (dC, dI) clsT (tyT cI cZ) (wC cI cZ a) A) A)) (by decide) (Nat.le_of_ble_eq_true rfl) ?_
  intro p e s m below meth c A ls hx hb hr hts hown hlocks hml hK hP hD hS hA hl
  have hown : s.vm.findClass R_CI = some m.cls := hown
  have hl : lv_has ls 4 [(0, .ref (a 3)), (1, .int x1)] := hl
  rw [wp_CI_dropFromBuffer] at hw
  refine lv_iload_n hx hb d_CI_dropFromBuffer_0 rfl (lv_at hl 1 rfl) ?_
  refine lv_iconst (v := 4) hx hb d_CI_dropFromBuffer_1 (by decide) ?_
  refine lv_imul hx hb d_CI_dropFromBuffer_2 ?_
  refine lv_topi (fun v_1 ev_1 => ?_)
  have hw := hw v_1 ev_1
  refine lv_istore_n (lv' := [(2, .int v_1), (0, .ref (a 3)), (1, .int x1)]) hx hb d_CI_dropFromBuffer_3 rfl hl (by decide) rfl (fun ls hl => ?_)
  refine lv_iconst (v := 1) hx hb d_CI_dropFromBuffer_4 (by decide) ?_
  refine lv_istore_n (lv' := [(3, .int 1), (2, .int v_1), (0, .ref (a 3)), (1, .int x1)]) hx hb d_CI_dropFromBuffer_5 rfl hl (by decide) rfl (fun ls hl => ?_)
  obtain ⟨k_5, hw⟩ := hw
  have hE_5 : ∀ (σ_5 : SS) (y3_5 : Int32) (H : Heap) (locs : List Loc) (ls : Array Slot), we_CI_dropFromBuffer_40 σ_5 x1 post → va_P (dC, dI) clsT (wC cI cZ a σ_5) H → va_D A (wC cI cZ a σ_5) → va_S A s.heap H locs → lv_has ls 4 [(0, .ref (a 3)), (1, .int x1)] → W p l e { frames := 0, cells := 0, slots := 0, locals := 0 } s m ([.ref (a 3), .int x1] : List Value).toArray below meth c H locs 0 0 (MQ below (va_Qv post (bW (dC, dI) clsT (tyT cI cZ) (wC cI cZ a) A) A) ([.ref (a 3), .int x1] : List Value).toArray s 0 0 A) (F0 m 40 ls []) := by
    intro σ_5 y3_5 H locs ls hw hP hD hS hl
    rw [we_CI_dropFromBuffer_40] at hw
    refine lv_aload_n hx hb d_CI_dropFromBuffer_40 rfl (lv_at hl 0 rfl) ?_
    refine va_get (D := (dC, dI)) (ci := 3) (v := .ref (a 21)) (C := R_CI) (T := F_CI) (N := 8) hx hb hts in_CI hown hK hP 3 rfl rfl 6 (by decide) (hts (.fieldLink R_CI 24 R_CI "size" "[I") (tm 67 rfl)) (fun _ h9 => h9) rfl d_CI_dropFromBuffer_41 ?_
    refine lv_iload_n hx hb d_CI_dropFromBuffer_44 rfl (lv_at hl 1 rfl) ?_
    refine lv_dup2_11 hx hb d_CI_dropFromBuffer_45 rfl rfl ?_
    obtain ⟨hin, hw⟩ := hw
    refine va_iald hx hb hK hP 21 0 rfl rfl hin d_CI_dropFromBuffer_46 ?_
    refine lv_iconst (v := 1) hx hb d_CI_dropFromBuffer_47 (by decide) ?_
    refine lv_isub hx hb d_CI_dropFromBuffer_48 ?_
    obtain ⟨hin, hw⟩ := hw
    refine st_i (w := wC cI cZ a) hx hb hK hP hD hS 21 0 rfl rfl rfl hin d_CI_dropFromBuffer_49 (fun s_6 e_6 H locs hP hD hS => ?_)
    have hw := hw s_6 e_6
    exact rt_v (w := wC cI cZ a) hx hb hr hlocks hK hP hD hS d_CI_dropFromBuffer_50 hw
  have lp_5 : ∀ (kf_5 : Nat) (σ_5 : SS) (y3_5 : Int32) (H : Heap) (locs : List Loc) (ls : Array Slot), wl_CI_dropFromBuffer_6 x1 v_1 (fun σ' y3 => we_CI_dropFromBuffer_40 σ' x1 post) post kf_5 σ_5 y3_5 → va_P (dC, dI) clsT (wC cI cZ a σ_5) H → va_D A (wC cI cZ a σ_5) → va_S A s.heap H locs → lv_has ls 4 [(0, .ref (a 3)), (1, .int x1), (2, .int v_1), (3, .int y3_5)] → W p l e { frames := 0, cells := 0, slots := 0, locals := 0 } s m ([.ref (a 3), .int x1] : List Value).toArray below meth c H locs 0 0 (MQ below (va_Qv post (bW (dC, dI) clsT (tyT cI cZ) (wC cI cZ a) A) A) ([.ref (a 3), .int x1] : List Value).toArray s 0 0 A) (F0 m 6 ls []) := by
    intro kf_5
    induction kf_5 with
    | zero => intro σ_5 y3_5 H locs ls hw; rw [wl_CI_dropFromBuffer_6] at hw; exact hw.elim
    | succ kf_5 ih_5 =>
      intro σ_5 y3_5 H locs ls hw hP hD hS hl
      rw [wl_CI_dropFromBuffer_6] at hw
      refine lv_iload_n hx hb d_CI_dropFromBuffer_6 rfl (lv_at hl 3 rfl) ?_
      refine lv_aload_n hx hb d_CI_dropFromBuffer_7 rfl (lv_at hl 0 rfl) ?_
      refine va_get (D := (dC, dI)) (ci := 3) (v := .ref (a 21)) (C := R_CI) (T := F_CI) (N := 8) hx hb hts in_CI hown hK hP 3 rfl rfl 6 (by decide) (hts (.fieldLink R_CI 24 R_CI "size" "[I") (tm 67 rfl)) (fun _ h9 => h9) rfl d_CI_dropFromBuffer_8 ?_
      refine lv_iload_n hx hb d_CI_dropFromBuffer_11 rfl (lv_at hl 1 rfl) ?_
      obtain ⟨hin, hw⟩ := hw
      refine va_iald hx hb hK hP 21 0 rfl rfl hin d_CI_dropFromBuffer_12 ?_
      refine lv_icmp_ge (tgt := 40) hx hb d_CI_dropFromBuffer_13 (by decide) (fun c_7 => ?_) (fun c_7 => ?_)
      · have hw := hw.1 c_7
        exact hE_5 σ_5 y3_5 _ _ _ hw hP hD hS (lv_sub hl [0, 1] rfl)
      · have hw := hw.2 c_7
        refine lv_aload_n hx hb d_CI_dropFromBuffer_16 rfl (lv_at hl 0 rfl) ?_
        refine va_get (D := (dC, dI)) (ci := 3) (v := .ref (a 20)) (C := R_CI) (T := F_CI) (N := 8) hx hb hts in_CI hown hK hP 3 rfl rfl 5 (by decide) (hts (.fieldLink R_CI 21 R_CI "slots" "[I") (tm 69 rfl)) (fun _ h9 => h9) rfl d_CI_dropFromBuffer_17 ?_
        refine lv_iload_n hx hb d_CI_dropFromBuffer_20 rfl (lv_at hl 2 rfl) ?_
        refine lv_iload_n hx hb d_CI_dropFromBuffer_21 rfl (lv_at hl 3 rfl) ?_
        refine lv_iadd hx hb d_CI_dropFromBuffer_22 ?_
        refine lv_iconst (v := 1) hx hb d_CI_dropFromBuffer_23 (by decide) ?_
        refine lv_isub hx hb d_CI_dropFromBuffer_24 ?_
        refine lv_aload_n hx hb d_CI_dropFromBuffer_25 rfl (lv_at hl 0 rfl) ?_
        refine va_get (D := (dC, dI)) (ci := 3) (v := .ref (a 20)) (C := R_CI) (T := F_CI) (N := 8) hx hb hts in_CI hown hK hP 3 rfl rfl 5 (by decide) (hts (.fieldLink R_CI 21 R_CI "slots" "[I") (tm 69 rfl)) (fun _ h9 => h9) rfl d_CI_dropFromBuffer_26 ?_
        refine lv_iload_n hx hb d_CI_dropFromBuffer_29 rfl (lv_at hl 2 rfl) ?_
        refine lv_iload_n hx hb d_CI_dropFromBuffer_30 rfl (lv_at hl 3 rfl) ?_
        refine lv_iadd hx hb d_CI_dropFromBuffer_31 ?_
        obtain ⟨hin, hw⟩ := hw
        refine va_iald hx hb hK hP 20 0 rfl rfl hin d_CI_dropFromBuffer_32 ?_
        obtain ⟨hin, hw⟩ := hw
        refine st_i (w := wC cI cZ a) hx hb hK hP hD hS 20 0 rfl rfl rfl hin d_CI_dropFromBuffer_33 (fun s_8 e_8 H locs hP hD hS => ?_)
        have hw := hw s_8 e_8
        refine lv_iinc (v := y3_5 + 1) (lv' := [(3, .int (y3_5 + 1)), (0, .ref (a 3)), (1, .int x1), (2, .int v_1)]) hx hb d_CI_dropFromBuffer_34 hl (k := 3) rfl rfl (by decide) rfl (fun ls hl => ?_)
        refine lv_goto (tgt := 6) hx hb d_CI_dropFromBuffer_37 (by decide) ?_
        exact ih_5 s_8 (y3_5 + 1) _ _ _ hw hP hD hS (lv_sub hl [1, 2, 3, 0] rfl)
  exact lp_5 k_5 σ 1 _ _ _ hw hP hD hS (lv_sub hl [2, 3, 1, 0] rfl)
