set_option maxHeartbeats 4000000 in
set_option maxRecDepth 100000 in
theorem c_CI_dropFromQueue (l : Launch) (dC : Nat → ClassId) (dI : Nat → Nat → Nat) (cI cZ : ClassId) (a : Nat → Nat) (sz : Nat) (σ : SS) (x1 : Int32) (post : SS → Prop) (hw : wp_CI_dropFromQueue σ x1 post) : Met l y_CI_dropFromQueue (.code y_CI_dropFromQueue b_CI_dropFromQueue 3 none :: TT) { frames := 0, cells := 0, slots := 0, locals := 0 } (pW (dC, dI) clsT (tyT cI cZ) [.ref (a 3), .int x1] sz (wC cI cZ a σ)) (va_Qv post (bW (dC, dI) clsT (tyT cI cZ) (wC cI cZ a) (va_A (wC cI cZ a σ) sz)) (va_A (wC cI cZ a σ) sz)) 0 0 (va_A (wC cI cZ a σ) sz) := by
  refine hd (Qf := fun A => (va_Qv post (bW (dC, dI) clsT (tyT cI cZ) (wC cI cZ a) A) A)) (by decide) (Nat.le_of_ble_eq_true rfl) ?_
  intro p e s m below meth c A ls hx hb hr hts hown hlocks hml hK hP hD hS hA hl
  have hown : s.vm.findClass R_CI = some m.cls := hown
  have hl : lv_has ls 3 [(0, .ref (a 3)), (1, .int x1)] := hl
  rw [wp_CI_dropFromQueue] at hw
  refine lv_aload_n hx hb d_CI_dropFromQueue_0 rfl (lv_at hl 0 rfl) ?_
  refine va_get (D := (dC, dI)) (ci := 3) (v := .ref (a 17)) (C := R_CI) (T := F_CI) (N := 8) hx hb hts in_CI hown hK hP 3 rfl rfl 2 (by decide) (hts (.fieldLink R_CI 9 R_CI "firstPacket" "[I") (tm 42 rfl)) (fun _ h9 => h9) rfl d_CI_dropFromQueue_1 ?_
  refine lv_iload_n hx hb d_CI_dropFromQueue_4 rfl (lv_at hl 1 rfl) ?_
  obtain ⟨hin, hw⟩ := hw
  refine va_iald hx hb hK hP 17 0 rfl rfl hin d_CI_dropFromQueue_5 ?_
  refine lv_topi (fun v_1 ev_1 => ?_)
  have hw := hw v_1 ev_1
  refine lv_istore_n (lv' := [(2, .int v_1), (0, .ref (a 3)), (1, .int x1)]) hx hb d_CI_dropFromQueue_6 rfl hl (by decide) rfl (fun ls hl => ?_)
  refine lv_iload_n hx hb d_CI_dropFromQueue_7 rfl (lv_at hl 0 rfl) ?_
  refine lv_iconst (v := (-1)) hx hb d_CI_dropFromQueue_8 (by decide) ?_
  refine lv_icmp_ne (tgt := 13) hx hb d_CI_dropFromQueue_9 (by decide) (fun c_2 => ?_) (fun c_2 => ?_)
  · have hw := hw.1 c_2
    refine lv_aload_n hx hb d_CI_dropFromQueue_13 rfl (lv_at hl 1 rfl) ?_
    refine va_get (D := (dC, dI)) (ci := 3) (v := .ref (a 2)) (C := R_CI) (T := F_CI) (N := 8) hx hb hts in_CI hown hK hP 3 rfl rfl 1 (by decide) (hts (.fieldLink R_CI 34 R_CI "packets" "LNetRoutes$Packets;") (tm 62 rfl)) (fun _ h9 => h9) rfl d_CI_dropFromQueue_14 ?_
    refine va_get (D := (dC, dI)) (ci := 2) (v := .ref (a 14)) (C := R_CK) (T := F_CK) (N := 7) hx hb hts in_CK hown hK hP 2 rfl rfl 4 (by decide) (hts (.fieldLink R_CI 69 R_CK "waiting" "[I") (tm 123 rfl)) (fun _ h9 => h9) rfl d_CI_dropFromQueue_17 ?_
    refine lv_iload_n hx hb d_CI_dropFromQueue_20 rfl (lv_at hl 0 rfl) ?_
    refine lv_dup2_11 hx hb d_CI_dropFromQueue_21 rfl rfl ?_
    obtain ⟨hin, hw⟩ := hw
    refine va_iald hx hb hK hP 14 0 rfl rfl hin d_CI_dropFromQueue_22 ?_
    refine lv_iconst (v := 1) hx hb d_CI_dropFromQueue_23 (by decide) ?_
    refine lv_isub hx hb d_CI_dropFromQueue_24 ?_
    obtain ⟨hin, hw⟩ := hw
    refine st_i (w := wC cI cZ a) hx hb hK hP hD hS 14 0 rfl rfl rfl hin d_CI_dropFromQueue_25 (fun s_3 e_3 H locs hP hD hS => ?_)
    have hw := hw s_3 e_3
    refine lv_aload_n hx hb d_CI_dropFromQueue_26 rfl (lv_at hl 1 rfl) ?_
    refine va_get (D := (dC, dI)) (ci := 3) (v := .ref (a 2)) (C := R_CI) (T := F_CI) (N := 8) hx hb hts in_CI hown hK hP 3 rfl rfl 1 (by decide) (hts (.fieldLink R_CI 34 R_CI "packets" "LNetRoutes$Packets;") (tm 62 rfl)) (fun _ h9 => h9) rfl d_CI_dropFromQueue_27 ?_
    refine va_get (D := (dC, dI)) (ci := 2) (v := .ref (a 14)) (C := R_CK) (T := F_CK) (N := 7) hx hb hts in_CK hown hK hP 2 rfl rfl 4 (by decide) (hts (.fieldLink R_CI 69 R_CK "waiting" "[I") (tm 123 rfl)) (fun _ h9 => h9) rfl d_CI_dropFromQueue_30 ?_
    refine lv_iload_n hx hb d_CI_dropFromQueue_33 rfl (lv_at hl 0 rfl) ?_
    obtain ⟨hin, hw⟩ := hw
    refine va_iald hx hb hK hP 14 0 rfl rfl hin d_CI_dropFromQueue_34 ?_
    refine lv_if_ne (tgt := 50) hx hb d_CI_dropFromQueue_35 (by decide) (fun c_4 => ?_) (fun c_4 => ?_)
    · have hw := hw.1 c_4
      exact rt_v (w := wC cI cZ a) hx hb hr hlocks hK hP hD hS d_CI_dropFromQueue_50 hw
    · have hw := hw.2 c_4
      refine lv_aload_n hx hb d_CI_dropFromQueue_38 rfl (lv_at hl 1 rfl) ?_
      refine va_get (D := (dC, dI)) (ci := 3) (v := .ref (a 17)) (C := R_CI) (T := F_CI) (N := 8) hx hb hts in_CI hown hK hP 3 rfl rfl 2 (by decide) (hts (.fieldLink R_CI 9 R_CI "firstPacket" "[I") (tm 42 rfl)) (fun _ h9 => h9) rfl d_CI_dropFromQueue_39 ?_
      refine lv_iload_n hx hb d_CI_dropFromQueue_42 rfl (lv_at hl 2 rfl) ?_
      refine lv_aload_n hx hb d_CI_dropFromQueue_43 rfl (lv_at hl 1 rfl) ?_
      refine va_get (D := (dC, dI)) (ci := 3) (v := .ref (a 19)) (C := R_CI) (T := F_CI) (N := 8) hx hb hts in_CI hown hK hP 3 rfl rfl 4 (by decide) (hts (.fieldLink R_CI 18 R_CI "packetBehind" "[I") (tm 43 rfl)) (fun _ h9 => h9) rfl d_CI_dropFromQueue_44 ?_
      refine lv_iload_n hx hb d_CI_dropFromQueue_47 rfl (lv_at hl 0 rfl) ?_
      obtain ⟨hin, hw⟩ := hw
      refine va_iald hx hb hK hP 19 0 rfl rfl hin d_CI_dropFromQueue_48 ?_
      obtain ⟨hin, hw⟩ := hw
      refine st_i (w := wC cI cZ a) hx hb hK hP hD hS 17 0 rfl rfl rfl hin d_CI_dropFromQueue_49 (fun s_5 e_5 H locs hP hD hS => ?_)
      have hw := hw s_5 e_5
      exact rt_v (w := wC cI cZ a) hx hb hr hlocks hK hP hD hS d_CI_dropFromQueue_50 hw
  · have hw := hw.2 c_2
    exact rt_v (w := wC cI cZ a) hx hb hr hlocks hK hP hD hS d_CI_dropFromQueue_12 hw
set_option maxHeartbeats 4000000 in
set_option maxRecDepth 100000 in
theorem c_CI_dropFront (l : Launch) (dC : Nat → ClassId) (dI : Nat → Nat → Nat) (cI cZ : ClassId) (a : Nat → Nat) (sz : Nat) (σ : SS) (x1 : Int32) (post : SS → Prop) (hw : wp_CI_dropFront σ x1 post) : Met l y_CI_dropFront (.code y_CI_dropFront b_CI_dropFront 2 none :: TT) { frames := 1, cells := 0, slots := 0, locals := 23 } (pW (dC, dI) clsT (tyT cI cZ) [.ref (a 3), .int x1] sz (wC cI cZ a σ)) (va_Qv post (bW (dC, dI) clsT (tyT cI cZ) (wC cI cZ a) (va_A (wC cI cZ a σ) sz)) (va_A (wC cI cZ a σ) sz)) 0 0 (va_A (wC cI cZ a σ) sz) := by
  refine hd (Qf := fun A => (va_Qv post (bW (dC, dI) clsT (tyT cI cZ) (wC cI cZ a) A) A)) (by decide) (Nat.le_of_ble_eq_true rfl) ?_
  intro p e s m below meth c A ls hx hb hr hts hown hlocks hml hK hP hD hS hA hl
  have hown : s.vm.findClass R_CI = some m.cls := hown
  have hl : lv_has ls 2 [(0, .ref (a 3)), (1, .int x1)] := hl
  rw [wp_CI_dropFront] at hw
  refine lv_iload_n hx hb d_CI_dropFront_0 rfl (lv_at hl 1 rfl) ?_
  refine lv_bipush (v := 16) hx hb d_CI_dropFront_1 (by decide) ?_
  refine lv_icmp_ge (tgt := 14) hx hb d_CI_dropFront_3 (by decide) (fun c_1 => ?_) (fun c_1 => ?_)
  · have hw := hw.1 c_1
    refine lv_aload_n hx hb d_CI_dropFront_14 rfl (lv_at hl 0 rfl) ?_
    refine lv_iload_n hx hb d_CI_dropFront_15 rfl (lv_at hl 1 rfl) ?_
    refine lv_bipush (v := 16) hx hb d_CI_dropFront_16 (by decide) ?_
    refine lv_isub hx hb d_CI_dropFront_18 ?_
    refine cl_v (va_runV (As := [.int (x1 - 16)]) (rest := []) ⟨hx, hb, hml, hown, hts⟩ (c_CI_dropFromBuffer l dC dI cI cZ a _ σ (x1 - 16) _ hw) (cwV 1 hts (gi_V (tm 124 rfl) (tm 125 rfl) (tm 126 rfl) (tm 49 rfl) (tm 127 rfl)) rfl rfl rfl (by decide +kernel) ⟨Nat.le_of_ble_eq_true rfl, Nat.le_of_ble_eq_true rfl⟩) (pW_V hK hP hD (ci := 3) (k := 3) rfl rfl) rfl rfl hl.1 rfl (lv_room (Nat.le_of_ble_eq_true rfl)) d_CI_dropFront_19 ⟨Nat.zero_le _, Nat.zero_le _⟩) hD hS hA (fun σ_2 H locs hw hP hD hS => ?_)
    exact rt_v (w := wC cI cZ a) hx hb hr hlocks hK hP hD hS d_CI_dropFront_22 hw
  · have hw := hw.2 c_1
    refine lv_aload_n hx hb d_CI_dropFront_6 rfl (lv_at hl 0 rfl) ?_
    refine lv_iload_n hx hb d_CI_dropFront_7 rfl (lv_at hl 1 rfl) ?_
    refine cl_v (va_runV (As := [.int x1]) (rest := []) ⟨hx, hb, hml, hown, hts⟩ (c_CI_dropFromQueue l dC dI cI cZ a _ σ x1 _ hw) (cwV 1 hts (gi_V (tm 128 rfl) (tm 129 rfl) (tm 130 rfl) (tm 49 rfl) (tm 131 rfl)) rfl rfl rfl (by decide +kernel) ⟨Nat.le_of_ble_eq_true rfl, Nat.le_of_ble_eq_true rfl⟩) (pW_V hK hP hD (ci := 3) (k := 3) rfl rfl) rfl rfl hl.1 rfl (lv_room (Nat.le_of_ble_eq_true rfl)) d_CI_dropFront_8 ⟨Nat.zero_le _, Nat.zero_le _⟩) hD hS hA (fun σ_3 H locs hw hP hD hS => ?_)
    refine lv_goto (tgt := 22) hx hb d_CI_dropFront_11 (by decide) ?_
    exact rt_v (w := wC cI cZ a) hx hb hr hlocks hK hP hD hS d_CI_dropFront_22 hw
set_option maxHeartbeats 4000000 in
set_option maxRecDepth 100000 in
theorem c_CI_put (l : Launch) (dC : Nat → ClassId) (dI : Nat → Nat → Nat) (cI cZ : ClassId) (a : Nat → Nat) (sz : Nat) (σ : SS) (x1 : Int32) (x2 : Int32) (post : SS → Prop) (hw : wp_CI_put σ x1 x2 post) : Met l y_CI_put (.code y_CI_put b_CI_put 3 none :: TT) { frames := 0, cells := 0, slots := 0, locals := 0 } (pW (dC, dI) clsT (tyT cI cZ) [.ref (a 3), .int x1, .int x2] sz (wC cI cZ a σ)) (va_Qv post (bW (dC, dI) clsT (tyT cI cZ) (wC cI cZ a) (va_A (wC cI cZ a σ) sz)) (va_A (wC cI cZ a σ) sz)) 0 0 (va_A (wC cI cZ a σ) sz) := by
  refine hd (Qf := fun A => (va_Qv post (bW (dC, dI) clsT (tyT cI cZ) (wC cI cZ a) A) A)) (by decide) (Nat.le_of_ble_eq_true rfl) ?_
  intro p e s m below meth c A ls hx hb hr hts hown hlocks hml hK hP hD hS hA hl
  have hown : s.vm.findClass R_CI = some m.cls := hown
  have hl : lv_has ls 3 [(0, .ref (a 3)), (1, .int x1), (2, .int x2)] := hl
  rw [wp_CI_put] at hw
  refine lv_aload_n hx hb d_CI_put_0 rfl (lv_at hl 0 rfl) ?_
  refine va_get (D := (dC, dI)) (ci := 3) (v := .ref (a 20)) (C := R_CI) (T := F_CI) (N := 8) hx hb hts in_CI hown hK hP 3 rfl rfl 5 (by decide) (hts (.fieldLink R_CI 21 R_CI "slots" "[I") (tm 69 rfl)) (fun _ h9 => h9) rfl d_CI_put_1 ?_
  refine lv_iload_n hx hb d_CI_put_4 rfl (lv_at hl 1 rfl) ?_
  refine lv_iconst (v := 4) hx hb d_CI_put_5 (by decide) ?_
  refine lv_imul hx hb d_CI_put_6 ?_
  refine lv_aload_n hx hb d_CI_put_7 rfl (lv_at hl 0 rfl) ?_
  refine va_get (D := (dC, dI)) (ci := 3) (v := .ref (a 21)) (C := R_CI) (T := F_CI) (N := 8) hx hb hts in_CI hown hK hP 3 rfl rfl 6 (by decide) (hts (.fieldLink R_CI 24 R_CI "size" "[I") (tm 67 rfl)) (fun _ h9 => h9) rfl d_CI_put_8 ?_
  refine lv_iload_n hx hb d_CI_put_11 rfl (lv_at hl 1 rfl) ?_
  obtain ⟨hin, hw⟩ := hw
  refine va_iald hx hb hK hP 21 0 rfl rfl hin d_CI_put_12 ?_
  refine lv_iadd hx hb d_CI_put_13 ?_
  refine lv_iload_n hx hb d_CI_put_14 rfl (lv_at hl 2 rfl) ?_
  obtain ⟨hin, hw⟩ := hw
  refine st_i (w := wC cI cZ a) hx hb hK hP hD hS 20 0 rfl rfl rfl hin d_CI_put_15 (fun s_1 e_1 H locs hP hD hS => ?_)
  have hw := hw s_1 e_1
  refine lv_aload_n hx hb d_CI_put_16 rfl (lv_at hl 0 rfl) ?_
  refine va_get (D := (dC, dI)) (ci := 3) (v := .ref (a 21)) (C := R_CI) (T := F_CI) (N := 8) hx hb hts in_CI hown hK hP 3 rfl rfl 6 (by decide) (hts (.fieldLink R_CI 24 R_CI "size" "[I") (tm 67 rfl)) (fun _ h9 => h9) rfl d_CI_put_17 ?_
  refine lv_iload_n hx hb d_CI_put_20 rfl (lv_at hl 1 rfl) ?_
  refine lv_dup2_11 hx hb d_CI_put_21 rfl rfl ?_
  obtain ⟨hin, hw⟩ := hw
  refine va_iald hx hb hK hP 21 0 rfl rfl hin d_CI_put_22 ?_
  refine lv_iconst (v := 1) hx hb d_CI_put_23 (by decide) ?_
  refine lv_iadd hx hb d_CI_put_24 ?_
  obtain ⟨hin, hw⟩ := hw
  refine st_i (w := wC cI cZ a) hx hb hK hP hD hS 21 0 rfl rfl rfl hin d_CI_put_25 (fun s_2 e_2 H locs hP hD hS => ?_)
  have hw := hw s_2 e_2
  refine lv_aload_n hx hb d_CI_put_26 rfl (lv_at hl 0 rfl) ?_
  refine va_get (D := (dC, dI)) (ci := 3) (v := .ref (a 22)) (C := R_CI) (T := F_CI) (N := 8) hx hb hts in_CI hown hK hP 3 rfl rfl 7 (by decide) (hts (.fieldLink R_CI 27 R_CI "fresh" "[I") (tm 68 rfl)) (fun _ h9 => h9) rfl d_CI_put_27 ?_
  refine lv_iload_n hx hb d_CI_put_30 rfl (lv_at hl 1 rfl) ?_
  refine lv_dup2_11 hx hb d_CI_put_31 rfl rfl ?_
  obtain ⟨hin, hw⟩ := hw
  refine va_iald hx hb hK hP 22 0 rfl rfl hin d_CI_put_32 ?_
  refine lv_iconst (v := 1) hx hb d_CI_put_33 (by decide) ?_
  refine lv_iadd hx hb d_CI_put_34 ?_
  obtain ⟨hin, hw⟩ := hw
  refine st_i (w := wC cI cZ a) hx hb hK hP hD hS 22 0 rfl rfl rfl hin d_CI_put_35 (fun s_3 e_3 H locs hP hD hS => ?_)
  have hw := hw s_3 e_3
  exact rt_v (w := wC cI cZ a) hx hb hr hlocks hK hP hD hS d_CI_put_36 hw
set_option maxHeartbeats 4000000 in
set_option maxRecDepth 100000 in
theorem c_CK_isTail (l : Launch) (dC : Nat → ClassId) (dI : Nat → Nat → Nat) (cI cZ : ClassId) (a : Nat → Nat) (sz : Nat) (σ : SS) (x1 : Int32) (post : Int32 → Prop) (hw : wp_CK_isTail σ x1 post) : Met l y_CK_isTail (.code y_CK_isTail b_CK_isTail 2 (some .boolean) :: TT) { frames := 0, cells := 0, slots := 0, locals := 0 } (pW (dC, dI) clsT (tyT cI cZ) [.ref (a 2), .int x1] sz (wC cI cZ a σ)) (va_Qi (fun r (_ : Unit) => post r) (fun _ _ => True) (fun q => sz ≤ q)) 0 0 (fun q => sz ≤ q) := by
  refine hdr (Qf := fun A => (va_Qi (fun r (_ : Unit) => post r) (fun _ _ => True) A)) (by decide) (Nat.le_of_ble_eq_true rfl) ?_
  intro p e s m below meth c A ls hx hb hr hts hown hlocks hml hK hP hD hS hA hl
  have hown : s.vm.findClass R_CK = some m.cls := hown
  have hl : lv_has ls 2 [(0, .ref (a 2)), (1, .int x1)] := hl
  rw [wp_CK_isTail] at hw
  refine lv_iload_n hx hb d_CK_isTail_0 rfl (lv_at hl 1 rfl) ?_
  refine lv_bipush (v := 16) hx hb d_CK_isTail_1 (by decide) ?_
  refine lv_irem hx hb d_CK_isTail_3 (by decide) ?_
  refine lv_aload_n hx hb d_CK_isTail_4 rfl (lv_at hl 0 rfl) ?_
  refine va_get (D := (dC, dI)) (ci := 2) (v := .ref (a 13)) (C := R_CK) (T := F_CK) (N := 7) hx hb hts in_CK hown hK hP 2 rfl rfl 3 (by decide) (hts (.fieldLink R_CK 15 R_CK "flits" "[I") (tm 39 rfl)) (fun _ h9 => h9) rfl d_CK_isTail_5 ?_
  refine lv_iload_n hx hb d_CK_isTail_8 rfl (lv_at hl 1 rfl) ?_
  refine lv_bipush (v := 16) hx hb d_CK_isTail_9 (by decide) ?_
  refine lv_idiv hx hb d_CK_isTail_11 (by decide) ?_
  obtain ⟨hin, hw⟩ := hw
  refine va_iald hx hb hK hP 13 0 rfl rfl hin d_CK_isTail_12 ?_
  refine lv_iconst (v := 1) hx hb d_CK_isTail_13 (by decide) ?_
  refine lv_isub hx hb d_CK_isTail_14 ?_
  refine lv_icmp_ne (tgt := 22) hx hb d_CK_isTail_15 (by decide) (fun c_1 => ?_) (fun c_1 => ?_)
  · have hw := hw.1 c_1
    refine lv_iconst (v := 0) hx hb d_CK_isTail_22 (by decide) ?_
    exact rr_z hx hb hr hlocks hS d_CK_isTail_23 (Or.inl rfl) hw
  · have hw := hw.2 c_1
    refine lv_iconst (v := 1) hx hb d_CK_isTail_18 (by decide) ?_
    refine lv_goto (tgt := 23) hx hb d_CK_isTail_19 (by decide) ?_
    exact rr_z hx hb hr hlocks hS d_CK_isTail_23 (Or.inr rfl) hw
set_option maxHeartbeats 4000000 in
set_option maxRecDepth 100000 in
theorem c_CT_moveInto (l : Launch) (dC : Nat → ClassId) (dI : Nat → Nat → Nat) (cI cZ : ClassId) (a : Nat → Nat) (sz : Nat) (σ : SS) (x1 : Int32) (post : SS → Prop) (hw : wp_CT_moveInto σ x1 post) : Met l y_CT_moveInto (.code y_CT_moveInto b_CT_moveInto 4 none :: TT) { frames := 2, cells := 0, slots := 0, locals := 44 } (pW (dC, dI) clsT (tyT cI cZ) [.ref (a 4), .int x1] sz (wC cI cZ a σ)) (va_Qv post (bW (dC, dI) clsT (tyT cI cZ) (wC cI cZ a) (va_A (wC cI cZ a σ) sz)) (va_A (wC cI cZ a σ) sz)) 0 0 (va_A (wC cI cZ a σ) sz) := by
  refine hd (Qf := fun A => (va_Qv post (bW (dC, dI) clsT (tyT cI cZ) (wC cI cZ a) A) A)) (by decide) (Nat.le_of_ble_eq_true rfl) ?_
  intro p e s m below meth c A ls hx hb hr hts hown hlocks hml hK hP hD hS hA hl
  have hown : s.vm.findClass R_CT = some m.cls := hown
  have hl : lv_has ls 4 [(0, .ref (a 4)), (1, .int x1)] := hl
  rw [wp_CT_moveInto] at hw
  refine lv_aload_n hx hb d_CT_moveInto_0 rfl (lv_at hl 0 rfl) ?_
  refine va_get (D := (dC, dI)) (ci := 4) (v := .ref (a 24)) (C := R_CT) (T := F_CT) (N := 10) hx hb hts in_CT hown hK hP 4 rfl rfl 4 (by decide) (hts (.fieldLink R_CT 15 R_CT "holder" "[I") (tm 78 rfl)) (fun _ h9 => h9) rfl d_CT_moveInto_1 ?_
  refine lv_iload_n hx hb d_CT_moveInto_4 rfl (lv_at hl 1 rfl) ?_
  obtain ⟨hin, hw⟩ := hw
  refine va_iald hx hb hK hP 24 0 rfl rfl hin d_CT_moveInto_5 ?_
  refine lv_topi (fun v_1 ev_1 => ?_)
  have hw := hw v_1 ev_1
  refine lv_istore_n (lv' := [(2, .int v_1), (0, .ref (a 4)), (1, .int x1)]) hx hb d_CT_moveInto_6 rfl hl (by decide) rfl (fun ls hl => ?_)
  refine lv_iload_n hx hb d_CT_moveInto_7 rfl (lv_at hl 0 rfl) ?_
  refine lv_iconst (v := (-1)) hx hb d_CT_moveInto_8 (by decide) ?_
  refine lv_icmp_ne (tgt := 16) hx hb d_CT_moveInto_9 (by decide) (fun c_2 => ?_) (fun c_2 => ?_)
  · have hw := hw.1 c_2
    refine lv_aload_n hx hb d_CT_moveInto_16 rfl (lv_at hl 1 rfl) ?_
    refine va_get (D := (dC, dI)) (ci := 4) (v := .ref (a 3)) (C := R_CT) (T := F_CT) (N := 10) hx hb hts in_CT hown hK hP 4 rfl rfl 2 (by decide) (hts (.fieldLink R_CT 35 R_CT "inputs" "LNetRoutes$Inputs;") (tm 74 rfl)) (fun _ h9 => h9) rfl d_CT_moveInto_17 ?_
    refine lv_iload_n hx hb d_CT_moveInto_20 rfl (lv_at hl 0 rfl) ?_
    refine cl_r (va_runV (As := [.int v_1]) (rest := []) ⟨hx, hb, hml, hown, hts⟩ (c_CI_frontOf l dC dI cI cZ a _ σ v_1 _ hw) (cwV 1 hts (gi_V (tm 95 rfl) (tm 96 rfl) (tm 97 rfl) (tm 49 rfl) (tm 98 rfl)) rfl rfl rfl (by decide +kernel) ⟨Nat.le_of_ble_eq_true rfl, Nat.le_of_ble_eq_true rfl⟩) (pW_V hK hP hD (ci := 3) (k := 3) rfl rfl) rfl rfl hl.1 rfl (lv_room (Nat.le_of_ble_eq_true rfl)) d_CT_moveInto_21 ⟨Nat.zero_le _, Nat.zero_le _⟩) hP hS hA (fun r_3 H locs hw hP hT => ?_)
    have hS := hT _ hA hS
    refine lv_istore_n (lv' := [(3, .int r_3), (2, .int v_1), (0, .ref (a 4)), (1, .int x1)]) hx hb d_CT_moveInto_24 rfl hl (by decide) rfl (fun ls hl => ?_)
    refine lv_iload_n hx hb d_CT_moveInto_25 rfl (lv_at hl 0 rfl) ?_
    refine lv_iconst (v := (-1)) hx hb d_CT_moveInto_26 (by decide) ?_
    refine lv_icmp_ne (tgt := 31) hx hb d_CT_moveInto_27 (by decide) (fun c_4 => ?_) (fun c_4 => ?_)
    · have hw := hw.1 c_4
      refine lv_aload_n hx hb d_CT_moveInto_31 rfl (lv_at hl 2 rfl) ?_
      refine va_get (D := (dC, dI)) (ci := 4) (v := .ref (a 3)) (C := R_CT) (T := F_CT) (N := 10) hx hb hts in_CT hown hK hP 4 rfl rfl 2 (by decide) (hts (.fieldLink R_CT 35 R_CT "inputs" "LNetRoutes$Inputs;") (tm 74 rfl)) (fun _ h9 => h9) rfl d_CT_moveInto_32 ?_
      refine lv_iload_n hx hb d_CT_moveInto_35 rfl (lv_at hl 1 rfl) ?_
      refine cl_v (va_runV (As := [.int v_1]) (rest := []) ⟨hx, hb, hml, hown, hts⟩ (c_CI_dropFront l dC dI cI cZ a _ σ v_1 _ hw) (cwV 1 hts (gi_V (tm 142 rfl) (tm 143 rfl) (tm 144 rfl) (tm 49 rfl) (tm 145 rfl)) rfl rfl rfl (by decide +kernel) ⟨Nat.le_of_ble_eq_true rfl, Nat.le_of_ble_eq_true rfl⟩) (pW_V hK hP hD (ci := 3) (k := 3) rfl rfl) rfl rfl hl.1 rfl (lv_room (Nat.le_of_ble_eq_true rfl)) d_CT_moveInto_36 ⟨Nat.zero_le _, Nat.zero_le _⟩) hD hS hA (fun σ_5 H locs hw hP hD hS => ?_)
      refine lv_aload_n hx hb d_CT_moveInto_39 rfl (lv_at hl 2 rfl) ?_
      refine va_get (D := (dC, dI)) (ci := 4) (v := .ref (a 3)) (C := R_CT) (T := F_CT) (N := 10) hx hb hts in_CT hown hK hP 4 rfl rfl 2 (by decide) (hts (.fieldLink R_CT 35 R_CT "inputs" "LNetRoutes$Inputs;") (tm 74 rfl)) (fun _ h9 => h9) rfl d_CT_moveInto_40 ?_
      refine lv_iload_n hx hb d_CT_moveInto_43 rfl (lv_at hl 3 rfl) ?_
      refine lv_iload_n hx hb d_CT_moveInto_44 rfl (lv_at hl 0 rfl) ?_
      refine cl_v (va_runV (As := [.int x1, .int r_3]) (rest := []) ⟨hx, hb, hml, hown, hts⟩ (c_CI_put l dC dI cI cZ a _ σ_5 x1 r_3 _ hw) (cwV 2 hts (gi_V (tm 138 rfl) (tm 139 rfl) (tm 140 rfl) (tm 49 rfl) (tm 141 rfl)) rfl rfl rfl (by decide +kernel) ⟨Nat.le_of_ble_eq_true rfl, Nat.le_of_ble_eq_true rfl⟩) (pW_V hK hP hD (ci := 3) (k := 3) rfl rfl) rfl rfl hl.1 rfl (lv_room (Nat.le_of_ble_eq_true rfl)) d_CT_moveInto_45 ⟨Nat.zero_le _, Nat.zero_le _⟩) hD hS hA (fun σ_6 H locs hw hP hD hS => ?_)
      refine lv_aload_n hx hb d_CT_moveInto_48 rfl (lv_at hl 2 rfl) ?_
      refine va_get (D := (dC, dI)) (ci := 4) (v := .ref (a 26)) (C := R_CT) (T := F_CT) (N := 10) hx hb hts in_CT hown hK hP 4 rfl rfl 6 (by decide) (hts (.fieldLink R_CT 21 R_CT "entered" "[I") (tm 132 rfl)) (fun _ h9 => h9) rfl d_CT_moveInto_49 ?_
      refine lv_iload_n hx hb d_CT_moveInto_52 rfl (lv_at hl 3 rfl) ?_
      refine lv_dup2_11 hx hb d_CT_moveInto_53 rfl rfl ?_
      obtain ⟨hin, hw⟩ := hw
      refine va_iald hx hb hK hP 26 0 rfl rfl hin d_CT_moveInto_54 ?_
      refine lv_iconst (v := 1) hx hb d_CT_moveInto_55 (by decide) ?_
      refine lv_iadd hx hb d_CT_moveInto_56 ?_
      obtain ⟨hin, hw⟩ := hw
      refine st_i (w := wC cI cZ a) hx hb hK hP hD hS 26 0 rfl rfl rfl hin d_CT_moveInto_57 (fun s_7 e_7 H locs hP hD hS => ?_)
      have hw := hw s_7 e_7
      refine lv_aload_n hx hb d_CT_moveInto_58 rfl (lv_at hl 2 rfl) ?_
      refine lv_dup hx hb d_CT_moveInto_59 rfl ?_
      refine va_get (D := (dC, dI)) (ci := 4) (v := .int (s_7 4 9)) (C := R_CT) (T := F_CT) (N := 10) hx hb hts in_CT hown hK hP 4 rfl rfl 9 (by decide) (hts (.fieldLink R_CT 128 R_CT "moved" "I") (tm 133 rfl)) (fun _ h9 => h9) rfl d_CT_moveInto_60 ?_
      refine lv_iconst (v := 1) hx hb d_CT_moveInto_63 (by decide) ?_
      refine lv_iadd hx hb d_CT_moveInto_64 ?_
      refine st_f (D := (dC, dI)) (w := wC cI cZ a) (ci := 4) (C := R_CT) (T := F_CT) (N := 10) hx hb hts in_CT t_CT t_CT_ok n_CT hown hK hP hD hS 4 rfl rfl 9 (by decide) (hts (.fieldLink R_CT 128 R_CT "moved" "I") (tm 133 rfl)) (fun _ h9 => h9) rfl (by decide +kernel) (Nat.le_of_ble_eq_true rfl) rfl d_CT_moveInto_65 (fun s_8 e_8 H locs hP hD hS => ?_)
      have hw := hw s_8 e_8
      refine lv_aload_n hx hb d_CT_moveInto_68 rfl (lv_at hl 2 rfl) ?_
      refine va_get (D := (dC, dI)) (ci := 4) (v := .ref (a 2)) (C := R_CT) (T := F_CT) (N := 10) hx hb hts in_CT hown hK hP 4 rfl rfl 1 (by decide) (hts (.fieldLink R_CT 31 R_CT "packets" "LNetRoutes$Packets;") (tm 75 rfl)) (fun _ h9 => h9) rfl d_CT_moveInto_69 ?_
      refine lv_iload_n hx hb d_CT_moveInto_72 rfl (lv_at hl 0 rfl) ?_
      refine cl_r (va_runV (As := [.int r_3]) (rest := []) ⟨hx, hb, hml, hown, hts⟩ (c_CK_isTail l dC dI cI cZ a _ s_8 r_3 _ hw) (cwV 1 hts (gi_V (tm 134 rfl) (tm 135 rfl) (tm 136 rfl) (tm 54 rfl) (tm 137 rfl)) rfl rfl rfl (by decide +kernel) ⟨Nat.le_of_ble_eq_true rfl, Nat.le_of_ble_eq_true rfl⟩) (pW_V hK hP hD (ci := 2) (k := 2) rfl rfl) rfl rfl hl.1 rfl (lv_room (Nat.le_of_ble_eq_true rfl)) d_CT_moveInto_73 ⟨Nat.zero_le _, Nat.zero_le _⟩) hP hS hA (fun r_9 H locs hw hP hT => ?_)
      have hS := hT _ hA hS
      refine lv_if_eq (tgt := 100) hx hb d_CT_moveInto_76 (by decide) (fun c_10 => ?_) (fun c_10 => ?_)
      · have hw := hw.1 c_10
        exact rt_v (w := wC cI cZ a) hx hb hr hlocks hK hP hD hS d_CT_moveInto_100 hw
      · have hw := hw.2 c_10
        refine lv_aload_n hx hb d_CT_moveInto_79 rfl (lv_at hl 2 rfl) ?_
        refine va_get (D := (dC, dI)) (ci := 4) (v := .ref (a 23)) (C := R_CT) (T := F_CT) (N := 10) hx hb hts in_CT hown hK hP 4 rfl rfl 3 (by decide) (hts (.fieldLink R_CT 9 R_CT "holds" "[I") (tm 76 rfl)) (fun _ h9 => h9) rfl d_CT_moveInto_80 ?_
        refine lv_iload_n hx hb d_CT_moveInto_83 rfl (lv_at hl 1 rfl) ?_
        refine lv_iconst (v := (-1)) hx hb d_CT_moveInto_84 (by decide) ?_
        obtain ⟨hin, hw⟩ := hw
        refine st_i (w := wC cI cZ a) hx hb hK hP hD hS 23 0 rfl rfl rfl hin d_CT_moveInto_85 (fun s_11 e_11 H locs hP hD hS => ?_)
        have hw := hw s_11 e_11
        refine lv_aload_n hx hb d_CT_moveInto_86 rfl (lv_at hl 2 rfl) ?_
        refine va_get (D := (dC, dI)) (ci := 4) (v := .ref (a 24)) (C := R_CT) (T := F_CT) (N := 10) hx hb hts in_CT hown hK hP 4 rfl rfl 4 (by decide) (hts (.fieldLink R_CT 15 R_CT "holder" "[I") (tm 78 rfl)) (fun _ h9 => h9) rfl d_CT_moveInto_87 ?_
        refine lv_iload_n hx hb d_CT_moveInto_90 rfl (lv_at hl 3 rfl) ?_
        refine lv_iconst (v := (-1)) hx hb d_CT_moveInto_91 (by decide) ?_
        obtain ⟨hin, hw⟩ := hw
        refine st_i (w := wC cI cZ a) hx hb hK hP hD hS 24 0 rfl rfl rfl hin d_CT_moveInto_92 (fun s_12 e_12 H locs hP hD hS => ?_)
        have hw := hw s_12 e_12
        refine lv_aload_n hx hb d_CT_moveInto_93 rfl (lv_at hl 2 rfl) ?_
        refine va_get (D := (dC, dI)) (ci := 4) (v := .ref (a 25)) (C := R_CT) (T := F_CT) (N := 10) hx hb hts in_CT hown hK hP 4 rfl rfl 5 (by decide) (hts (.fieldLink R_CT 18 R_CT "heldFor" "[I") (tm 99 rfl)) (fun _ h9 => h9) rfl d_CT_moveInto_94 ?_
        refine lv_iload_n hx hb d_CT_moveInto_97 rfl (lv_at hl 3 rfl) ?_
        refine lv_iconst (v := (-1)) hx hb d_CT_moveInto_98 (by decide) ?_
        obtain ⟨hin, hw⟩ := hw
        refine st_i (w := wC cI cZ a) hx hb hK hP hD hS 25 0 rfl rfl rfl hin d_CT_moveInto_99 (fun s_13 e_13 H locs hP hD hS => ?_)
        have hw := hw s_13 e_13
        exact rt_v (w := wC cI cZ a) hx hb hr hlocks hK hP hD hS d_CT_moveInto_100 hw
    · have hw := hw.2 c_4
      exact rt_v (w := wC cI cZ a) hx hb hr hlocks hK hP hD hS d_CT_moveInto_30 hw
  · have hw := hw.2 c_2
    refine lv_iconst (v := (-1)) hx hb d_CT_moveInto_12 (by decide) ?_
    refine lv_goto (tgt := 24) hx hb d_CT_moveInto_13 (by decide) ?_
    refine lv_istore_n (lv' := [(3, .int (-1)), (2, .int v_1), (0, .ref (a 4)), (1, .int x1)]) hx hb d_CT_moveInto_24 rfl hl (by decide) rfl (fun ls hl => ?_)
    refine lv_iload_n hx hb d_CT_moveInto_25 rfl (lv_at hl 0 rfl) ?_
    refine lv_iconst (v := (-1)) hx hb d_CT_moveInto_26 (by decide) ?_
    refine lv_icmp_ne (tgt := 31) hx hb d_CT_moveInto_27 (by decide) (fun c9 => absurd rfl c9) (fun _ => ?_)
    exact rt_v (w := wC cI cZ a) hx hb hr hlocks hK hP hD hS d_CT_moveInto_30 hw
set_option maxHeartbeats 4000000 in
set_option maxRecDepth 100000 in
theorem c_CT_moveAll (l : Launch) (dC : Nat → ClassId) (dI : Nat → Nat → Nat) (cI cZ : ClassId) (a : Nat → Nat) (sz : Nat) (σ : SS) (post : Int32 → SS → Prop) (hw : wp_CT_moveAll σ post) : Met l y_CT_moveAll (.code y_CT_moveAll b_CT_moveAll 4 (some .boolean) :: TT) { frames := 4, cells := 0, slots := 0, locals := 88 } (pW (dC, dI) clsT (tyT cI cZ) [.ref (a 4)] sz (wC cI cZ a σ)) (va_Qi post (bW (dC, dI) clsT (tyT cI cZ) (wC cI cZ a) (va_A (wC cI cZ a σ) sz)) (va_A (wC cI cZ a σ) sz)) 0 0 (va_A (wC cI cZ a σ) sz) := by
  refine hd (Qf := fun A => (va_Qi post (bW (dC, dI) clsT (tyT cI cZ) (wC cI cZ a) A) A)) (by decide) (Nat.le_of_ble_eq_true rfl) ?_
  intro p e s m below meth c A ls hx hb hr hts hown hlocks hml hK hP hD hS hA hl
  have hown : s.vm.findClass R_CT = some m.cls := hown
  have hl : lv_has ls 4 [(0, .ref (a 4))] := hl
  rw [wp_CT_moveAll] at hw
  refine lv_iconst (v := 0) hx hb d_CT_moveAll_0 (by decide) ?_
  refine lv_istore_n (lv' := [(1, .int 0), (0, .ref (a 4))]) hx hb d_CT_moveAll_1 rfl hl (by decide) rfl (fun ls hl => ?_)
  refine lv_iconst (v := 0) hx hb d_CT_moveAll_2 (by decide) ?_
  refine lv_istore_n (lv' := [(2, .int 0), (1, .int 0), (0, .ref (a 4))]) hx hb d_CT_moveAll_3 rfl hl (by decide) rfl (fun ls hl => ?_)
  obtain ⟨k_6, hw⟩ := hw
  have hE_6 : ∀ (σ_6 : SS) (y1_6 : Int32) (y2_6 : Int32) (H : Heap) (locs : List Loc) (ls : Array Slot), we_CT_moveAll_50 σ_6 y1_6 post → va_P (dC, dI) clsT (wC cI cZ a σ_6) H → va_D A (wC cI cZ a σ_6) → va_S A s.heap H locs → lv_has ls 4 [(1, .int y1_6)] → W p l e { frames := 4, cells := 0, slots := 0, locals := 88 } s m ([.ref (a 4)] : List Value).toArray below meth c H locs 0 0 (MQ below (va_Qi post (bW (dC, dI) clsT (tyT cI cZ) (wC cI cZ a) A) A) ([.ref (a 4)] : List Value).toArray s 0 0 A) (F0 m 50 ls []) := by
    intro σ_6 y1_6 y2_6 H locs ls hw hP hD hS hl
    rw [we_CT_moveAll_50] at hw
    refine lv_iload_n hx hb d_CT_moveAll_50 rfl (lv_at hl 0 rfl) ?_
    exact rt_z (w := wC cI cZ a) hx hb hr hlocks hK hP hD hS d_CT_moveAll_51 hw.1 hw.2
  have lp_6 : ∀ (kf_6 : Nat) (σ_6 : SS) (y1_6 : Int32) (y2_6 : Int32) (H : Heap) (locs : List Loc) (ls : Array Slot), wl_CT_moveAll_4 (fun σ' y1 y2 => we_CT_moveAll_50 σ' y1 post) post kf_6 σ_6 y1_6 y2_6 → va_P (dC, dI) clsT (wC cI cZ a σ_6) H → va_D A (wC cI cZ a σ_6) → va_S A s.heap H locs → lv_has ls 4 [(0, .ref (a 4)), (1, .int y1_6), (2, .int y2_6)] → W p l e { frames := 4, cells := 0, slots := 0, locals := 88 } s m ([.ref (a 4)] : List Value).toArray below meth c H locs 0 0 (MQ below (va_Qi post (bW (dC, dI) clsT (tyT cI cZ) (wC cI cZ a) A) A) ([.ref (a 4)] : List Value).toArray s 0 0 A) (F0 m 4 ls []) := by
    intro kf_6
    induction kf_6 with
    | zero => intro σ_6 y1_6 y2_6 H locs ls hw; rw [wl_CT_moveAll_4] at hw; exact hw.elim
    | succ kf_6 ih_6 =>
      intro σ_6 y1_6 y2_6 H locs ls hw hP hD hS hl
      rw [wl_CT_moveAll_4] at hw
      refine lv_iload_n hx hb d_CT_moveAll_4 rfl (lv_at hl 2 rfl) ?_
      refine lv_aload_n hx hb d_CT_moveAll_5 rfl (lv_at hl 0 rfl) ?_
      refine va_get (D := (dC, dI)) (ci := 4) (v := .ref (a 1)) (C := R_CT) (T := F_CT) (N := 10) hx hb hts in_CT hown hK hP 4 rfl rfl 0 (by decide) (hts (.fieldLink R_CT 27 R_CT "plan" "LNetRoutes$Plan;") (tm 77 rfl)) (fun _ h9 => h9) rfl d_CT_moveAll_6 ?_
      refine va_get (D := (dC, dI)) (ci := 1) (v := .int (σ_6 1 1)) (C := R_CP) (T := F_CP) (N := 8) hx hb hts in_CP hown hK hP 1 rfl rfl 1 (by decide) (hts (.fieldLink R_CT 80 R_CP "links" "I") (tm 146 rfl)) (fun _ h9 => h9) rfl d_CT_moveAll_9 ?_
      refine lv_icmp_ge (tgt := 50) hx hb d_CT_moveAll_12 (by decide) (fun c_7 => ?_) (fun c_7 => ?_)
      · have hw := hw.1 c_7
        exact hE_6 σ_6 y1_6 y2_6 _ _ _ hw hP hD hS (lv_sub hl [1] rfl)
      · have hw := hw.2 c_7
        refine lv_aload_n hx hb d_CT_moveAll_15 rfl (lv_at hl 0 rfl) ?_
        refine lv_iload_n hx hb d_CT_moveAll_16 rfl (lv_at hl 2 rfl) ?_
        refine cl_r (va_runV (As := [.int y2_6]) (rest := []) ⟨hx, hb, hml, hown, hts⟩ (c_CT_laneToMove l dC dI cI cZ a _ σ_6 y2_6 _ hw) (cwV 1 hts (gi_V (tm 151 rfl) (tm 152 rfl) (tm 153 rfl) (tm 107 rfl) (tm 154 rfl)) rfl rfl rfl (by decide +kernel) ⟨Nat.le_of_ble_eq_true rfl, Nat.le_of_ble_eq_true rfl⟩) (pW_V hK hP hD (ci := 4) (k := 4) rfl rfl) rfl rfl hl.1 rfl (lv_room (Nat.le_of_ble_eq_true rfl)) d_CT_moveAll_17 ⟨Nat.zero_le _, Nat.zero_le _⟩) hP hS hA (fun r_8 H locs hw hP hT => ?_)
        have hS := hT _ hA hS
        refine lv_istore_n (lv' := [(3, .int r_8), (0, .ref (a 4)), (1, .int y1_6), (2, .int y2_6)]) hx hb d_CT_moveAll_20 rfl hl (by decide) rfl (fun ls hl => ?_)
        refine lv_iload_n hx hb d_CT_moveAll_21 rfl (lv_at hl 0 rfl) ?_
        refine lv_iconst (v := (-1)) hx hb d_CT_moveAll_22 (by decide) ?_
        refine lv_icmp_eq (tgt := 44) hx hb d_CT_moveAll_23 (by decide) (fun c_9 => ?_) (fun c_9 => ?_)
        · have hw := hw.1 c_9
          refine lv_iinc (v := y2_6 + 1) (lv' := [(2, .int (y2_6 + 1)), (3, .int r_8), (0, .ref (a 4)), (1, .int y1_6)]) hx hb d_CT_moveAll_44 hl (k := 3) rfl rfl (by decide) rfl (fun ls hl => ?_)
          refine lv_goto (tgt := 4) hx hb d_CT_moveAll_47 (by decide) ?_
          exact ih_6 σ_6 y1_6 (y2_6 + 1) _ _ _ hw hP hD hS (lv_sub hl [2, 3, 0] rfl)
        · have hw := hw.2 c_9
          refine lv_aload_n hx hb d_CT_moveAll_26 rfl (lv_at hl 1 rfl) ?_
          refine va_get (D := (dC, dI)) (ci := 4) (v := .ref (a 27)) (C := R_CT) (T := F_CT) (N := 10) hx hb hts in_CT hown hK hP 4 rfl rfl 7 (by decide) (hts (.fieldLink R_CT 24 R_CT "lastLane" "[I") (tm 117 rfl)) (fun _ h9 => h9) rfl d_CT_moveAll_27 ?_
          refine lv_iload_n hx hb d_CT_moveAll_30 rfl (lv_at hl 3 rfl) ?_
          refine lv_iload_n hx hb d_CT_moveAll_31 rfl (lv_at hl 0 rfl) ?_
          obtain ⟨hin, hw⟩ := hw
          refine st_i (w := wC cI cZ a) hx hb hK hP hD hS 27 0 rfl rfl rfl hin d_CT_moveAll_32 (fun s_10 e_10 H locs hP hD hS => ?_)
          have hw := hw s_10 e_10
          refine lv_aload_n hx hb d_CT_moveAll_33 rfl (lv_at hl 1 rfl) ?_
          refine lv_iload_n hx hb d_CT_moveAll_34 rfl (lv_at hl 3 rfl) ?_
          refine lv_iconst (v := 4) hx hb d_CT_moveAll_35 (by decide) ?_
          refine lv_imul hx hb d_CT_moveAll_36 ?_
          refine lv_iload_n hx hb d_CT_moveAll_37 rfl (lv_at hl 0 rfl) ?_
          refine lv_iadd hx hb d_CT_moveAll_38 ?_
          refine cl_v (va_runV (As := [.int ((y2_6 * 4) + r_8)]) (rest := []) ⟨hx, hb, hml, hown, hts⟩ (c_CT_moveInto l dC dI cI cZ a _ s_10 ((y2_6 * 4) + r_8) _ hw) (cwV 1 hts (gi_V (tm 147 rfl) (tm 148 rfl) (tm 149 rfl) (tm 107 rfl) (tm 150 rfl)) rfl rfl rfl (by decide +kernel) ⟨Nat.le_of_ble_eq_true rfl, Nat.le_of_ble_eq_true rfl⟩) (pW_V hK hP hD (ci := 4) (k := 4) rfl rfl) rfl rfl hl.1 rfl (lv_room (Nat.le_of_ble_eq_true rfl)) d_CT_moveAll_39 ⟨Nat.zero_le _, Nat.zero_le _⟩) hD hS hA (fun σ_11 H locs hw hP hD hS => ?_)
          refine lv_iconst (v := 1) hx hb d_CT_moveAll_42 (by decide) ?_
          refine lv_istore_n (lv' := [(1, .int 1), (3, .int r_8), (0, .ref (a 4)), (2, .int y2_6)]) hx hb d_CT_moveAll_43 rfl hl (by decide) rfl (fun ls hl => ?_)
          refine lv_iinc (v := y2_6 + 1) (lv' := [(2, .int (y2_6 + 1)), (1, .int 1), (3, .int r_8), (0, .ref (a 4))]) hx hb d_CT_moveAll_44 hl (k := 3) rfl rfl (by decide) rfl (fun ls hl => ?_)
          refine lv_goto (tgt := 4) hx hb d_CT_moveAll_47 (by decide) ?_
          exact ih_6 σ_11 1 (y2_6 + 1) _ _ _ hw hP hD hS (lv_sub hl [3, 1, 0] rfl)
  exact lp_6 k_6 σ 0 0 _ _ _ hw hP hD hS (lv_sub hl [2, 1, 0] rfl)
set_option maxHeartbeats 4000000 in
set_option maxRecDepth 100000 in
theorem c_CT_flitToLeave (l : Launch) (dC : Nat → ClassId) (dI : Nat → Nat → Nat) (cI cZ : ClassId) (a : Nat → Nat) (sz : Nat) (σ : SS) (x1 : Int32) (post : Int32 → Prop) (hw : wp_CT_flitToLeave σ x1 post) : Met l y_CT_flitToLeave (.code y_CT_flitToLeave b_CT_flitToLeave 3 (some .int) :: TT) { frames := 2, cells := 0, slots := 0, locals := 43 } (pW (dC, dI) clsT (tyT cI cZ) [.ref (a 4), .int x1] sz (wC cI cZ a σ)) (va_Qi (fun r (_ : Unit) => post r) (fun _ _ => True) (fun q => sz ≤ q)) 0 0 (fun q => sz ≤ q) := by
  refine hdr (Qf := fun A => (va_Qi (fun r (_ : Unit) => post r) (fun _ _ => True) A)) (by decide) (Nat.le_of_ble_eq_true rfl) ?_
  intro p e s m below meth c A ls hx hb hr hts hown hlocks hml hK hP hD hS hA hl
  have hown : s.vm.findClass R_CT = some m.cls := hown
  have hl : lv_has ls 3 [(0, .ref (a 4)), (1, .int x1)] := hl
  rw [wp_CT_flitToLeave] at hw
  refine lv_aload_n hx hb d_CT_flitToLeave_0 rfl (lv_at hl 0 rfl) ?_
  refine va_get (D := (dC, dI)) (ci := 4) (v := .ref (a 3)) (C := R_CT) (T := F_CT) (N := 10) hx hb hts in_CT hown hK hP 4 rfl rfl 2 (by decide) (hts (.fieldLink R_CT 35 R_CT "inputs" "LNetRoutes$Inputs;") (tm 74 rfl)) (fun _ h9 => h9) rfl d_CT_flitToLeave_1 ?_
  refine lv_iload_n hx hb d_CT_flitToLeave_4 rfl (lv_at hl 1 rfl) ?_
  refine cl_r (va_runV (As := [.int x1]) (rest := []) ⟨hx, hb, hml, hown, hts⟩ (c_CI_frontOf l dC dI cI cZ a _ σ x1 _ hw) (cwV 1 hts (gi_V (tm 95 rfl) (tm 96 rfl) (tm 97 rfl) (tm 49 rfl) (tm 98 rfl)) rfl rfl rfl (by decide +kernel) ⟨Nat.le_of_ble_eq_true rfl, Nat.le_of_ble_eq_true rfl⟩) (pW_V hK hP hD (ci := 3) (k := 3) rfl rfl) rfl rfl hl.1 rfl (lv_room (Nat.le_of_ble_eq_true rfl)) d_CT_flitToLeave_5 ⟨Nat.zero_le _, Nat.zero_le _⟩) hP hS hA (fun r_1 H locs hw hP hT => ?_)
  have hS := hT _ hA hS
  refine lv_istore_n (lv' := [(2, .int r_1), (0, .ref (a 4)), (1, .int x1)]) hx hb d_CT_flitToLeave_8 rfl hl (by decide) rfl (fun ls hl => ?_)
  refine lv_iload_n hx hb d_CT_flitToLeave_9 rfl (lv_at hl 0 rfl) ?_
  refine lv_iconst (v := (-1)) hx hb d_CT_flitToLeave_10 (by decide) ?_
  refine lv_icmp_eq (tgt := 37) hx hb d_CT_flitToLeave_11 (by decide) (fun c_2 => ?_) (fun c_2 => ?_)
  · have hw := hw.1 c_2
    refine lv_iconst (v := (-1)) hx hb d_CT_flitToLeave_37 (by decide) ?_
    exact rr_i hx hb hr hlocks hS d_CT_flitToLeave_38 hw
  · have hw := hw.2 c_2
    refine lv_aload_n hx hb d_CT_flitToLeave_14 rfl (lv_at hl 1 rfl) ?_
    refine va_get (D := (dC, dI)) (ci := 4) (v := .ref (a 2)) (C := R_CT) (T := F_CT) (N := 10) hx hb hts in_CT hown hK hP 4 rfl rfl 1 (by decide) (hts (.fieldLink R_CT 31 R_CT "packets" "LNetRoutes$Packets;") (tm 75 rfl)) (fun _ h9 => h9) rfl d_CT_flitToLeave_15 ?_
    refine lv_iload_n hx hb d_CT_flitToLeave_18 rfl (lv_at hl 0 rfl) ?_
    refine cl_r (va_runV (As := [.int r_1]) (rest := []) ⟨hx, hb, hml, hown, hts⟩ (c_CK_endOf l dC dI cI cZ a _ σ r_1 _ hw) (cwV 1 hts (gi_V (tm 83 rfl) (tm 84 rfl) (tm 85 rfl) (tm 54 rfl) (tm 86 rfl)) rfl rfl rfl (by decide +kernel) ⟨Nat.le_of_ble_eq_true rfl, Nat.le_of_ble_eq_true rfl⟩) (pW_V hK hP hD (ci := 2) (k := 2) rfl rfl) rfl rfl hl.1 rfl (lv_room (Nat.le_of_ble_eq_true rfl)) d_CT_flitToLeave_19 ⟨Nat.zero_le _, Nat.zero_le _⟩) hP hS hA (fun r_3 H locs hw hP hT => ?_)
    have hS := hT _ hA hS
    refine lv_aload_n hx hb d_CT_flitToLeave_22 rfl (lv_at hl 1 rfl) ?_
    refine va_get (D := (dC, dI)) (ci := 4) (v := .ref (a 3)) (C := R_CT) (T := F_CT) (N := 10) hx hb hts in_CT hown hK hP 4 rfl rfl 2 (by decide) (hts (.fieldLink R_CT 35 R_CT "inputs" "LNetRoutes$Inputs;") (tm 74 rfl)) (fun _ h9 => h9) rfl d_CT_flitToLeave_23 ?_
    refine lv_iload_n hx hb d_CT_flitToLeave_26 rfl (lv_at hl 2 rfl) ?_
    refine cl_r (va_runV (As := [.int x1]) (rest := [.int r_3]) ⟨hx, hb, hml, hown, hts⟩ (c_CI_nodeOf l dC dI cI cZ a _ σ x1 _ hw) (cwV 1 hts (gi_V (tm 87 rfl) (tm 88 rfl) (tm 89 rfl) (tm 49 rfl) (tm 90 rfl)) rfl rfl rfl (by decide +kernel) ⟨Nat.le_of_ble_eq_true rfl, Nat.le_of_ble_eq_true rfl⟩) (pW_V hK hP hD (ci := 3) (k := 3) rfl rfl) rfl rfl hl.1 rfl (lv_room (Nat.le_of_ble_eq_true rfl)) d_CT_flitToLeave_27 ⟨Nat.zero_le _, Nat.zero_le _⟩) hP hS hA (fun r_4 H locs hw hP hT => ?_)
    have hS := hT _ hA hS
    refine lv_icmp_ne (tgt := 37) hx hb d_CT_flitToLeave_30 (by decide) (fun c_5 => ?_) (fun c_5 => ?_)
    · have hw := hw.1 c_5
      refine lv_iconst (v := (-1)) hx hb d_CT_flitToLeave_37 (by decide) ?_
      exact rr_i hx hb hr hlocks hS d_CT_flitToLeave_38 hw
    · have hw := hw.2 c_5
      refine lv_iload_n hx hb d_CT_flitToLeave_33 rfl (lv_at hl 0 rfl) ?_
      refine lv_goto (tgt := 38) hx hb d_CT_flitToLeave_34 (by decide) ?_
      exact rr_i hx hb hr hlocks hS d_CT_flitToLeave_38 hw
set_option maxHeartbeats 4000000 in
set_option maxRecDepth 100000 in
theorem c_CK_leave (l : Launch) (dC : Nat → ClassId) (dI : Nat → Nat → Nat) (cI cZ : ClassId) (a : Nat → Nat) (sz : Nat) (σ : SS) (x1 : Int32) (x2 : Int32) (post : SS → Prop) (hw : wp_CK_leave σ x1 x2 post) : Met l y_CK_leave (.code y_CK_leave b_CK_leave 4 none :: TT) { frames := 1, cells := 0, slots := 0, locals := 21 } (pW (dC, dI) clsT (tyT cI cZ) [.ref (a 2), .int x1, .int x2] sz (wC cI cZ a σ)) (va_Qv post (bW (dC, dI) clsT (tyT cI cZ) (wC cI cZ a) (va_A (wC cI cZ a σ) sz)) (va_A (wC cI cZ a σ) sz)) 0 0 (va_A (wC cI cZ a σ) sz) := by
  refine hd (Qf := fun A => (va_Qv post (bW (dC, dI) clsT (tyT cI cZ) (wC cI cZ a) A) A)) (by decide) (Nat.le_of_ble_eq_true rfl) ?_
  intro p e s m below meth c A ls hx hb hr hts hown hlocks hml hK hP hD hS hA hl
  have hown : s.vm.findClass R_CK = some m.cls := hown
  have hl : lv_has ls 4 [(0, .ref (a 2)), (1, .int x1), (2, .int x2)] := hl
  rw [wp_CK_leave] at hw
  refine lv_aload_n hx hb d_CK_leave_0 rfl (lv_at hl 0 rfl) ?_
  refine lv_iload_n hx hb d_CK_leave_1 rfl (lv_at hl 1 rfl) ?_
  refine cl_r (va_runV (As := [.int x1]) (rest := []) ⟨hx, hb, hml, hown, hts⟩ (c_CK_packetOf l dC dI cI cZ a _ σ x1 _ hw) (cwV 1 hts (gi_V (tm 159 rfl) (tm 101 rfl) (tm 102 rfl) (tm 54 rfl) (tm 103 rfl)) rfl rfl rfl (by decide +kernel) ⟨Nat.le_of_ble_eq_true rfl, Nat.le_of_ble_eq_true rfl⟩) (pW_V hK hP hD (ci := 2) (k := 2) rfl rfl) rfl rfl hl.1 rfl (lv_room (Nat.le_of_ble_eq_true rfl)) d_CK_leave_2 ⟨Nat.zero_le _, Nat.zero_le _⟩) hP hS hA (fun r_1 H locs hw hP hT => ?_)
  have hS := hT _ hA hS
  refine lv_istore_n (lv' := [(3, .int r_1), (0, .ref (a 2)), (1, .int x1), (2, .int x2)]) hx hb d_CK_leave_5 rfl hl (by decide) rfl (fun ls hl => ?_)
  refine lv_aload_n hx hb d_CK_leave_6 rfl (lv_at hl 1 rfl) ?_
  refine va_get (D := (dC, dI)) (ci := 2) (v := .ref (a 15)) (C := R_CK) (T := F_CK) (N := 7) hx hb hts in_CK hown hK hP 2 rfl rfl 5 (by decide) (hts (.fieldLink R_CK 21 R_CK "left" "[I") (tm 155 rfl)) (fun _ h9 => h9) rfl d_CK_leave_7 ?_
  refine lv_iload_n hx hb d_CK_leave_10 rfl (lv_at hl 0 rfl) ?_
  refine lv_dup2_11 hx hb d_CK_leave_11 rfl rfl ?_
  obtain ⟨hin, hw⟩ := hw
  refine va_iald hx hb hK hP 15 0 rfl rfl hin d_CK_leave_12 ?_
  refine lv_iconst (v := 1) hx hb d_CK_leave_13 (by decide) ?_
  refine lv_iadd hx hb d_CK_leave_14 ?_
  obtain ⟨hin, hw⟩ := hw
  refine st_i (w := wC cI cZ a) hx hb hK hP hD hS 15 0 rfl rfl rfl hin d_CK_leave_15 (fun s_2 e_2 H locs hP hD hS => ?_)
  have hw := hw s_2 e_2
  refine lv_aload_n hx hb d_CK_leave_16 rfl (lv_at hl 1 rfl) ?_
  refine lv_iload_n hx hb d_CK_leave_17 rfl (lv_at hl 2 rfl) ?_
  refine cl_r (va_runV (As := [.int x1]) (rest := []) ⟨hx, hb, hml, hown, hts⟩ (c_CK_isTail l dC dI cI cZ a _ s_2 x1 _ hw) (cwV 1 hts (gi_V (tm 158 rfl) (tm 135 rfl) (tm 136 rfl) (tm 54 rfl) (tm 137 rfl)) rfl rfl rfl (by decide +kernel) ⟨Nat.le_of_ble_eq_true rfl, Nat.le_of_ble_eq_true rfl⟩) (pW_V hK hP hD (ci := 2) (k := 2) rfl rfl) rfl rfl hl.1 rfl (lv_room (Nat.le_of_ble_eq_true rfl)) d_CK_leave_18 ⟨Nat.zero_le _, Nat.zero_le _⟩) hP hS hA (fun r_3 H locs hw hP hT => ?_)
  have hS := hT _ hA hS
  refine lv_if_eq (tgt := 41) hx hb d_CK_leave_21 (by decide) (fun c_4 => ?_) (fun c_4 => ?_)
  · have hw := hw.1 c_4
    exact rt_v (w := wC cI cZ a) hx hb hr hlocks hK hP hD hS d_CK_leave_41 hw
  · have hw := hw.2 c_4
    refine lv_aload_n hx hb d_CK_leave_24 rfl (lv_at hl 1 rfl) ?_
    refine va_get (D := (dC, dI)) (ci := 2) (v := .ref (a 16)) (C := R_CK) (T := F_CK) (N := 7) hx hb hts in_CK hown hK hP 2 rfl rfl 6 (by decide) (hts (.fieldLink R_CK 24 R_CK "arrivedIn" "[I") (tm 156 rfl)) (fun _ h9 => h9) rfl d_CK_leave_25 ?_
    refine lv_iload_n hx hb d_CK_leave_28 rfl (lv_at hl 0 rfl) ?_
    refine lv_iload_n hx hb d_CK_leave_29 rfl (lv_at hl 3 rfl) ?_
    obtain ⟨hin, hw⟩ := hw
    refine st_i (w := wC cI cZ a) hx hb hK hP hD hS 16 0 rfl rfl rfl hin d_CK_leave_30 (fun s_5 e_5 H locs hP hD hS => ?_)
    have hw := hw s_5 e_5
    refine lv_aload_n hx hb d_CK_leave_31 rfl (lv_at hl 1 rfl) ?_
    refine lv_dup hx hb d_CK_leave_32 rfl ?_
    refine va_get (D := (dC, dI)) (ci := 2) (v := .int (s_5 2 1)) (C := R_CK) (T := F_CK) (N := 7) hx hb hts in_CK hown hK hP 2 rfl rfl 1 (by decide) (hts (.fieldLink R_CK 39 R_CK "arrived" "I") (tm 157 rfl)) (fun _ h9 => h9) rfl d_CK_leave_33 ?_
    refine lv_iconst (v := 1) hx hb d_CK_leave_36 (by decide) ?_
    refine lv_iadd hx hb d_CK_leave_37 ?_
    refine st_f (D := (dC, dI)) (w := wC cI cZ a) (ci := 2) (C := R_CK) (T := F_CK) (N := 7) hx hb hts in_CK t_CK t_CK_ok n_CK hown hK hP hD hS 2 rfl rfl 1 (by decide) (hts (.fieldLink R_CK 39 R_CK "arrived" "I") (tm 157 rfl)) (fun _ h9 => h9) rfl (by decide +kernel) (Nat.le_of_ble_eq_true rfl) rfl d_CK_leave_38 (fun s_6 e_6 H locs hP hD hS => ?_)
    have hw := hw s_6 e_6
    exact rt_v (w := wC cI cZ a) hx hb hr hlocks hK hP hD hS d_CK_leave_41 hw
set_option maxHeartbeats 4000000 in
set_option maxRecDepth 100000 in
theorem c_CT_leaveAll (l : Launch) (dC : Nat → ClassId) (dI : Nat → Nat → Nat) (cI cZ : ClassId) (a : Nat → Nat) (sz : Nat) (σ : SS) (post : Int32 → SS → Prop) (hw : wp_CT_leaveAll σ post) : Met l y_CT_leaveAll (.code y_CT_leaveAll b_CT_leaveAll 4 (some .boolean) :: TT) { frames := 3, cells := 0, slots := 0, locals := 65 } (pW (dC, dI) clsT (tyT cI cZ) [.ref (a 4)] sz (wC cI cZ a σ)) (va_Qi post (bW (dC, dI) clsT (tyT cI cZ) (wC cI cZ a) (va_A (wC cI cZ a σ) sz)) (va_A (wC cI cZ a σ) sz)) 0 0 (va_A (wC cI cZ a σ) sz) := by
  refine hd (Qf := fun A => (va_Qi post (bW (dC, dI) clsT (tyT cI cZ) (wC cI cZ a) A) A)) (by decide) (Nat.le_of_ble_eq_true rfl) ?_
  intro p e s m below meth c A ls hx hb hr hts hown hlocks hml hK hP hD hS hA hl
  have hown : s.vm.findClass R_CT = some m.cls := hown
  have hl : lv_has ls 4 [(0, .ref (a 4))] := hl
  rw [wp_CT_leaveAll] at hw
  refine lv_iconst (v := 0) hx hb d_CT_leaveAll_0 (by decide) ?_
  refine lv_istore_n (lv' := [(1, .int 0), (0, .ref (a 4))]) hx hb d_CT_leaveAll_1 rfl hl (by decide) rfl (fun ls hl => ?_)
  refine lv_iconst (v := 0) hx hb d_CT_leaveAll_2 (by decide) ?_
  refine lv_istore_n (lv' := [(2, .int 0), (1, .int 0), (0, .ref (a 4))]) hx hb d_CT_leaveAll_3 rfl hl (by decide) rfl (fun ls hl => ?_)
  obtain ⟨k_7, hw⟩ := hw
  have hE_7 : ∀ (σ_7 : SS) (y1_7 : Int32) (y2_7 : Int32) (H : Heap) (locs : List Loc) (ls : Array Slot), we_CT_leaveAll_54 σ_7 y1_7 post → va_P (dC, dI) clsT (wC cI cZ a σ_7) H → va_D A (wC cI cZ a σ_7) → va_S A s.heap H locs → lv_has ls 4 [(1, .int y1_7)] → W p l e { frames := 3, cells := 0, slots := 0, locals := 65 } s m ([.ref (a 4)] : List Value).toArray below meth c H locs 0 0 (MQ below (va_Qi post (bW (dC, dI) clsT (tyT cI cZ) (wC cI cZ a) A) A) ([.ref (a 4)] : List Value).toArray s 0 0 A) (F0 m 54 ls []) := by
    intro σ_7 y1_7 y2_7 H locs ls hw hP hD hS hl
    rw [we_CT_leaveAll_54] at hw
    refine lv_iload_n hx hb d_CT_leaveAll_54 rfl (lv_at hl 0 rfl) ?_
    exact rt_z (w := wC cI cZ a) hx hb hr hlocks hK hP hD hS d_CT_leaveAll_55 hw.1 hw.2
  have lp_7 : ∀ (kf_7 : Nat) (σ_7 : SS) (y1_7 : Int32) (y2_7 : Int32) (H : Heap) (locs : List Loc) (ls : Array Slot), wl_CT_leaveAll_4 (fun σ' y1 y2 => we_CT_leaveAll_54 σ' y1 post) post kf_7 σ_7 y1_7 y2_7 → va_P (dC, dI) clsT (wC cI cZ a σ_7) H → va_D A (wC cI cZ a σ_7) → va_S A s.heap H locs → lv_has ls 4 [(0, .ref (a 4)), (1, .int y1_7), (2, .int y2_7)] → W p l e { frames := 3, cells := 0, slots := 0, locals := 65 } s m ([.ref (a 4)] : List Value).toArray below meth c H locs 0 0 (MQ below (va_Qi post (bW (dC, dI) clsT (tyT cI cZ) (wC cI cZ a) A) A) ([.ref (a 4)] : List Value).toArray s 0 0 A) (F0 m 4 ls []) := by
    intro kf_7
    induction kf_7 with
    | zero => intro σ_7 y1_7 y2_7 H locs ls hw; rw [wl_CT_leaveAll_4] at hw; exact hw.elim
    | succ kf_7 ih_7 =>
      intro σ_7 y1_7 y2_7 H locs ls hw hP hD hS hl
      rw [wl_CT_leaveAll_4] at hw
      refine lv_iload_n hx hb d_CT_leaveAll_4 rfl (lv_at hl 2 rfl) ?_
      refine lv_aload_n hx hb d_CT_leaveAll_5 rfl (lv_at hl 0 rfl) ?_
      refine va_get (D := (dC, dI)) (ci := 4) (v := .ref (a 3)) (C := R_CT) (T := F_CT) (N := 10) hx hb hts in_CT hown hK hP 4 rfl rfl 2 (by decide) (hts (.fieldLink R_CT 35 R_CT "inputs" "LNetRoutes$Inputs;") (tm 74 rfl)) (fun _ h9 => h9) rfl d_CT_leaveAll_6 ?_
      refine cl_r (va_runV (As := []) (rest := [.int y2_7]) ⟨hx, hb, hml, hown, hts⟩ (c_CI_inUse l dC dI cI cZ a _ σ_7 _ hw) (cwV 0 hts (gi_V (tm 109 rfl) (tm 110 rfl) (tm 111 rfl) (tm 49 rfl) (tm 112 rfl)) rfl rfl rfl (by decide +kernel) ⟨Nat.le_of_ble_eq_true rfl, Nat.le_of_ble_eq_true rfl⟩) (pW_V hK hP hD (ci := 3) (k := 3) rfl rfl) rfl rfl hl.1 rfl (lv_room (Nat.le_of_ble_eq_true rfl)) d_CT_leaveAll_9 ⟨Nat.zero_le _, Nat.zero_le _⟩) hP hS hA (fun r_8 H locs hw hP hT => ?_)
      have hS := hT _ hA hS
      refine lv_icmp_ge (tgt := 54) hx hb d_CT_leaveAll_12 (by decide) (fun c_9 => ?_) (fun c_9 => ?_)
      · have hw := hw.1 c_9
        exact hE_7 σ_7 y1_7 y2_7 _ _ _ hw hP hD hS (lv_sub hl [1] rfl)
      · have hw := hw.2 c_9
        refine lv_aload_n hx hb d_CT_leaveAll_15 rfl (lv_at hl 0 rfl) ?_
        refine lv_iload_n hx hb d_CT_leaveAll_16 rfl (lv_at hl 2 rfl) ?_
        refine cl_r (va_runV (As := [.int y2_7]) (rest := []) ⟨hx, hb, hml, hown, hts⟩ (c_CT_flitToLeave l dC dI cI cZ a _ σ_7 y2_7 _ hw) (cwV 1 hts (gi_V (tm 165 rfl) (tm 166 rfl) (tm 167 rfl) (tm 107 rfl) (tm 168 rfl)) rfl rfl rfl (by decide +kernel) ⟨Nat.le_of_ble_eq_true rfl, Nat.le_of_ble_eq_true rfl⟩) (pW_V hK hP hD (ci := 4) (k := 4) rfl rfl) rfl rfl hl.1 rfl (lv_room (Nat.le_of_ble_eq_true rfl)) d_CT_leaveAll_17 ⟨Nat.zero_le _, Nat.zero_le _⟩) hP hS hA (fun r_10 H locs hw hP hT => ?_)
        have hS := hT _ hA hS
        refine lv_istore_n (lv' := [(3, .int r_10), (0, .ref (a 4)), (1, .int y1_7), (2, .int y2_7)]) hx hb d_CT_leaveAll_20 rfl hl (by decide) rfl (fun ls hl => ?_)
        refine lv_iload_n hx hb d_CT_leaveAll_21 rfl (lv_at hl 0 rfl) ?_
        refine lv_iconst (v := (-1)) hx hb d_CT_leaveAll_22 (by decide) ?_
        refine lv_icmp_eq (tgt := 48) hx hb d_CT_leaveAll_23 (by decide) (fun c_11 => ?_) (fun c_11 => ?_)
        · have hw := hw.1 c_11
          refine lv_iinc (v := y2_7 + 1) (lv' := [(2, .int (y2_7 + 1)), (3, .int r_10), (0, .ref (a 4)), (1, .int y1_7)]) hx hb d_CT_leaveAll_48 hl (k := 3) rfl rfl (by decide) rfl (fun ls hl => ?_)
          refine lv_goto (tgt := 4) hx hb d_CT_leaveAll_51 (by decide) ?_
          exact ih_7 σ_7 y1_7 (y2_7 + 1) _ _ _ hw hP hD hS (lv_sub hl [2, 3, 0] rfl)
        · have hw := hw.2 c_11
          refine lv_aload_n hx hb d_CT_leaveAll_26 rfl (lv_at hl 1 rfl) ?_
          refine va_get (D := (dC, dI)) (ci := 4) (v := .ref (a 2)) (C := R_CT) (T := F_CT) (N := 10) hx hb hts in_CT hown hK hP 4 rfl rfl 1 (by decide) (hts (.fieldLink R_CT 31 R_CT "packets" "LNetRoutes$Packets;") (tm 75 rfl)) (fun _ h9 => h9) rfl d_CT_leaveAll_27 ?_
          refine lv_iload_n hx hb d_CT_leaveAll_30 rfl (lv_at hl 0 rfl) ?_
          refine lv_aload_n hx hb d_CT_leaveAll_31 rfl (lv_at hl 1 rfl) ?_
          refine va_get (D := (dC, dI)) (ci := 4) (v := .int (σ_7 4 8)) (C := R_CT) (T := F_CT) (N := 10) hx hb hts in_CT hown hK hP 4 rfl rfl 8 (by decide) (hts (.fieldLink R_CT 45 R_CT "cycles" "I") (tm 160 rfl)) (fun _ h9 => h9) rfl d_CT_leaveAll_32 ?_
          refine cl_v (va_runV (As := [.int r_10, .int (σ_7 4 8)]) (rest := []) ⟨hx, hb, hml, hown, hts⟩ (c_CK_leave l dC dI cI cZ a _ σ_7 r_10 (σ_7 4 8) _ hw) (cwV 2 hts (gi_V (tm 161 rfl) (tm 162 rfl) (tm 163 rfl) (tm 54 rfl) (tm 164 rfl)) rfl rfl rfl (by decide +kernel) ⟨Nat.le_of_ble_eq_true rfl, Nat.le_of_ble_eq_true rfl⟩) (pW_V hK hP hD (ci := 2) (k := 2) rfl rfl) rfl rfl hl.1 rfl (lv_room (Nat.le_of_ble_eq_true rfl)) d_CT_leaveAll_35 ⟨Nat.zero_le _, Nat.zero_le _⟩) hD hS hA (fun σ_12 H locs hw hP hD hS => ?_)
          refine lv_aload_n hx hb d_CT_leaveAll_38 rfl (lv_at hl 1 rfl) ?_
          refine va_get (D := (dC, dI)) (ci := 4) (v := .ref (a 3)) (C := R_CT) (T := F_CT) (N := 10) hx hb hts in_CT hown hK hP 4 rfl rfl 2 (by decide) (hts (.fieldLink R_CT 35 R_CT "inputs" "LNetRoutes$Inputs;") (tm 74 rfl)) (fun _ h9 => h9) rfl d_CT_leaveAll_39 ?_
          refine lv_iload_n hx hb d_CT_leaveAll_42 rfl (lv_at hl 3 rfl) ?_
          refine cl_v (va_runV (As := [.int y2_7]) (rest := []) ⟨hx, hb, hml, hown, hts⟩ (c_CI_dropFront l dC dI cI cZ a _ σ_12 y2_7 _ hw) (cwV 1 hts (gi_V (tm 142 rfl) (tm 143 rfl) (tm 144 rfl) (tm 49 rfl) (tm 145 rfl)) rfl rfl rfl (by decide +kernel) ⟨Nat.le_of_ble_eq_true rfl, Nat.le_of_ble_eq_true rfl⟩) (pW_V hK hP hD (ci := 3) (k := 3) rfl rfl) rfl rfl hl.1 rfl (lv_room (Nat.le_of_ble_eq_true rfl)) d_CT_leaveAll_43 ⟨Nat.zero_le _, Nat.zero_le _⟩) hD hS hA (fun σ_13 H locs hw hP hD hS => ?_)
          refine lv_iconst (v := 1) hx hb d_CT_leaveAll_46 (by decide) ?_
          refine lv_istore_n (lv' := [(1, .int 1), (3, .int r_10), (0, .ref (a 4)), (2, .int y2_7)]) hx hb d_CT_leaveAll_47 rfl hl (by decide) rfl (fun ls hl => ?_)
          refine lv_iinc (v := y2_7 + 1) (lv' := [(2, .int (y2_7 + 1)), (1, .int 1), (3, .int r_10), (0, .ref (a 4))]) hx hb d_CT_leaveAll_48 hl (k := 3) rfl rfl (by decide) rfl (fun ls hl => ?_)
          refine lv_goto (tgt := 4) hx hb d_CT_leaveAll_51 (by decide) ?_
          exact ih_7 σ_13 1 (y2_7 + 1) _ _ _ hw hP hD hS (lv_sub hl [3, 1, 0] rfl)
  exact lp_7 k_7 σ 0 0 _ _ _ hw hP hD hS (lv_sub hl [2, 1, 0] rfl)
set_option maxHeartbeats 4000000 in
set_option maxRecDepth 100000 in
theorem c_CI_endCycle (l : Launch) (dC : Nat → ClassId) (dI : Nat → Nat → Nat) (cI cZ : ClassId) (a : Nat → Nat) (sz : Nat) (σ : SS) (post : SS → Prop) (hw : wp_CI_endCycle σ post) : Met l y_CI_endCycle (.code y_CI_endCycle b_CI_endCycle 1 none :: TT) { frames := 1, cells := 0, slots := 0, locals := 23 } (pW (dC, dI) clsT (tyT cI cZ) [.ref (a 3)] sz (wC cI cZ a σ)) (va_Qv post (bW (dC, dI) clsT (tyT cI cZ) (wC cI cZ a) (va_A (wC cI cZ a σ) sz)) (va_A (wC cI cZ a σ) sz)) 0 0 (va_A (wC cI cZ a σ) sz) := by
  refine hd (Qf := fun A => (va_Qv post (bW (dC, dI) clsT (tyT cI cZ) (wC cI cZ a) A) A)) (by decide) (Nat.le_of_ble_eq_true rfl) ?_
  intro p e s m below meth c A ls hx hb hr hts hown hlocks hml hK hP hD hS hA hl
  have hown : s.vm.findClass R_CI = some m.cls := hown
  have hl : lv_has ls 1 [(0, .ref (a 3))] := hl
  rw [wp_CI_endCycle] at hw
  refine lv_aload_n hx hb d_CI_endCycle_0 rfl (lv_at hl 0 rfl) ?_
  refine va_get (D := (dC, dI)) (ci := 3) (v := .ref (a 22)) (C := R_CI) (T := F_CI) (N := 8) hx hb hts in_CI hown hK hP 3 rfl rfl 7 (by decide) (hts (.fieldLink R_CI 27 R_CI "fresh" "[I") (tm 68 rfl)) (fun _ h9 => h9) rfl d_CI_endCycle_1 ?_
  refine lv_iconst (v := 0) hx hb d_CI_endCycle_4 (by decide) ?_
  refine cl_fill (w := wC cI cZ a) (rest := []) (v := 0) ⟨hx, hb, hml, hown, hts⟩ hK hP hD hS hA 22 rfl rfl (by decide) rfl (gi_S9 (tm 169 rfl) (tm 26 rfl) (tm 27 rfl) (tm 28 rfl)) ⟨Nat.le_of_ble_eq_true rfl, Nat.le_of_ble_eq_true rfl⟩ hl.1 (lv_room (Nat.le_of_ble_eq_true rfl)) ⟨Nat.zero_le _, Nat.zero_le _⟩ d_CI_endCycle_5 (fun s_1 e_1 H locs hP hD hS => ?_)
  have hw := hw s_1 e_1
  exact rt_v (w := wC cI cZ a) hx hb hr hlocks hK hP hD hS d_CI_endCycle_8 hw
set_option maxHeartbeats 4000000 in
set_option maxRecDepth 100000 in
theorem c_CT_goOneCycle (l : Launch) (dC : Nat → ClassId) (dI : Nat → Nat → Nat) (cI cZ : ClassId) (a : Nat → Nat) (sz : Nat) (σ : SS) (post : Int32 → SS → Prop) (hw : wp_CT_goOneCycle σ post) : Met l y_CT_goOneCycle (.code y_CT_goOneCycle b_CT_goOneCycle 4 (some .boolean) :: TT) { frames := 5, cells := 0, slots := 0, locals := 111 } (pW (dC, dI) clsT (tyT cI cZ) [.ref (a 4)] sz (wC cI cZ a σ)) (va_Qi post (bW (dC, dI) clsT (tyT cI cZ) (wC cI cZ a) (va_A (wC cI cZ a σ) sz)) (va_A (wC cI cZ a σ) sz)) 0 0 (va_A (wC cI cZ a σ) sz) := by
  refine hd (Qf := fun A => (va_Qi post (bW (dC, dI) clsT (tyT cI cZ) (wC cI cZ a) A) A)) (by decide) (Nat.le_of_ble_eq_true rfl) ?_
  intro p e s m below meth c A ls hx hb hr hts hown hlocks hml hK hP hD hS hA hl
  have hown : s.vm.findClass R_CT = some m.cls := hown
  have hl : lv_has ls 4 [(0, .ref (a 4))] := hl
  rw [wp_CT_goOneCycle] at hw
  refine lv_aload_n hx hb d_CT_goOneCycle_0 rfl (lv_at hl 0 rfl) ?_
  refine lv_dup hx hb d_CT_goOneCycle_1 rfl ?_
  refine va_get (D := (dC, dI)) (ci := 4) (v := .int (σ 4 8)) (C := R_CT) (T := F_CT) (N := 10) hx hb hts in_CT hown hK hP 4 rfl rfl 8 (by decide) (hts (.fieldLink R_CT 45 R_CT "cycles" "I") (tm 160 rfl)) (fun _ h9 => h9) rfl d_CT_goOneCycle_2 ?_
  refine lv_iconst (v := 1) hx hb d_CT_goOneCycle_5 (by decide) ?_
  refine lv_iadd hx hb d_CT_goOneCycle_6 ?_
  refine st_f (D := (dC, dI)) (w := wC cI cZ a) (ci := 4) (C := R_CT) (T := F_CT) (N := 10) hx hb hts in_CT t_CT t_CT_ok n_CT hown hK hP hD hS 4 rfl rfl 8 (by decide) (hts (.fieldLink R_CT 45 R_CT "cycles" "I") (tm 160 rfl)) (fun _ h9 => h9) rfl (by decide +kernel) (Nat.le_of_ble_eq_true rfl) rfl d_CT_goOneCycle_7 (fun s_1 e_1 H locs hP hD hS => ?_)
  have hw := hw s_1 e_1
  refine lv_aload_n hx hb d_CT_goOneCycle_10 rfl (lv_at hl 0 rfl) ?_
  refine cl_i (va_runV (As := []) (rest := []) ⟨hx, hb, hml, hown, hts⟩ (c_CT_askAll l dC dI cI cZ a _ s_1 _ hw) (cwV 0 hts (gi_V (tm 182 rfl) (tm 183 rfl) (tm 184 rfl) (tm 107 rfl) (tm 185 rfl)) rfl rfl rfl (by decide +kernel) ⟨Nat.le_of_ble_eq_true rfl, Nat.le_of_ble_eq_true rfl⟩) (pW_V hK hP hD (ci := 4) (k := 4) rfl rfl) rfl rfl hl.1 rfl (lv_room (Nat.le_of_ble_eq_true rfl)) d_CT_goOneCycle_11 ⟨Nat.zero_le _, Nat.zero_le _⟩) hD hS hA (fun r_2 σ_2 H locs hw hP hD hS => ?_)
  refine lv_istore_n (lv' := [(1, .int r_2), (0, .ref (a 4))]) hx hb d_CT_goOneCycle_14 rfl hl (by decide) rfl (fun ls hl => ?_)
  refine lv_aload_n hx hb d_CT_goOneCycle_15 rfl (lv_at hl 1 rfl) ?_
  refine cl_i (va_runV (As := []) (rest := []) ⟨hx, hb, hml, hown, hts⟩ (c_CT_moveAll l dC dI cI cZ a _ σ_2 _ hw) (cwV 0 hts (gi_V (tm 178 rfl) (tm 179 rfl) (tm 180 rfl) (tm 107 rfl) (tm 181 rfl)) rfl rfl rfl (by decide +kernel) ⟨Nat.le_of_ble_eq_true rfl, Nat.le_of_ble_eq_true rfl⟩) (pW_V hK hP hD (ci := 4) (k := 4) rfl rfl) rfl rfl hl.1 rfl (lv_room (Nat.le_of_ble_eq_true rfl)) d_CT_goOneCycle_16 ⟨Nat.zero_le _, Nat.zero_le _⟩) hD hS hA (fun r_3 σ_3 H locs hw hP hD hS => ?_)
  refine lv_istore_n (lv' := [(2, .int r_3), (1, .int r_2), (0, .ref (a 4))]) hx hb d_CT_goOneCycle_19 rfl hl (by decide) rfl (fun ls hl => ?_)
  refine lv_aload_n hx hb d_CT_goOneCycle_20 rfl (lv_at hl 2 rfl) ?_
  refine cl_i (va_runV (As := []) (rest := []) ⟨hx, hb, hml, hown, hts⟩ (c_CT_leaveAll l dC dI cI cZ a _ σ_3 _ hw) (cwV 0 hts (gi_V (tm 174 rfl) (tm 175 rfl) (tm 176 rfl) (tm 107 rfl) (tm 177 rfl)) rfl rfl rfl (by decide +kernel) ⟨Nat.le_of_ble_eq_true rfl, Nat.le_of_ble_eq_true rfl⟩) (pW_V hK hP hD (ci := 4) (k := 4) rfl rfl) rfl rfl hl.1 rfl (lv_room (Nat.le_of_ble_eq_true rfl)) d_CT_goOneCycle_21 ⟨Nat.zero_le _, Nat.zero_le _⟩) hD hS hA (fun r_4 σ_4 H locs hw hP hD hS => ?_)
  refine lv_istore_n (lv' := [(3, .int r_4), (2, .int r_3), (1, .int r_2), (0, .ref (a 4))]) hx hb d_CT_goOneCycle_24 rfl hl (by decide) rfl (fun ls hl => ?_)
  refine lv_aload_n hx hb d_CT_goOneCycle_25 rfl (lv_at hl 3 rfl) ?_
  refine va_get (D := (dC, dI)) (ci := 4) (v := .ref (a 3)) (C := R_CT) (T := F_CT) (N := 10) hx hb hts in_CT hown hK hP 4 rfl rfl 2 (by decide) (hts (.fieldLink R_CT 35 R_CT "inputs" "LNetRoutes$Inputs;") (tm 74 rfl)) (fun _ h9 => h9) rfl d_CT_goOneCycle_26 ?_
  refine cl_v (va_runV (As := []) (rest := []) ⟨hx, hb, hml, hown, hts⟩ (c_CI_endCycle l dC dI cI cZ a _ σ_4 _ hw) (cwV 0 hts (gi_V (tm 170 rfl) (tm 171 rfl) (tm 172 rfl) (tm 49 rfl) (tm 173 rfl)) rfl rfl rfl (by decide +kernel) ⟨Nat.le_of_ble_eq_true rfl, Nat.le_of_ble_eq_true rfl⟩) (pW_V hK hP hD (ci := 3) (k := 3) rfl rfl) rfl rfl hl.1 rfl (lv_room (Nat.le_of_ble_eq_true rfl)) d_CT_goOneCycle_29 ⟨Nat.zero_le _, Nat.zero_le _⟩) hD hS hA (fun σ_5 H locs hw hP hD hS => ?_)
  refine lv_iload_n hx hb d_CT_goOneCycle_32 rfl (lv_at hl 2 rfl) ?_
  refine lv_if_ne (tgt := 44) hx hb d_CT_goOneCycle_33 (by decide) (fun c_6 => ?_) (fun c_6 => ?_)
  · have hw := hw.1 c_6
    refine lv_iconst (v := 1) hx hb d_CT_goOneCycle_44 (by decide) ?_
    refine lv_goto (tgt := 49) hx hb d_CT_goOneCycle_45 (by decide) ?_
    exact rt_z (w := wC cI cZ a) hx hb hr hlocks hK hP hD hS d_CT_goOneCycle_49 (Or.inr rfl) hw
  · have hw := hw.2 c_6
    refine lv_iload_n hx hb d_CT_goOneCycle_36 rfl (lv_at hl 1 rfl) ?_
    refine lv_if_ne (tgt := 44) hx hb d_CT_goOneCycle_37 (by decide) (fun c_7 => ?_) (fun c_7 => ?_)
    · have hw := hw.1 c_7
      refine lv_iconst (v := 1) hx hb d_CT_goOneCycle_44 (by decide) ?_
      refine lv_goto (tgt := 49) hx hb d_CT_goOneCycle_45 (by decide) ?_
      exact rt_z (w := wC cI cZ a) hx hb hr hlocks hK hP hD hS d_CT_goOneCycle_49 (Or.inr rfl) hw
    · have hw := hw.2 c_7
      refine lv_iload_n hx hb d_CT_goOneCycle_40 rfl (lv_at hl 0 rfl) ?_
      refine lv_if_eq (tgt := 48) hx hb d_CT_goOneCycle_41 (by decide) (fun c_8 => ?_) (fun c_8 => ?_)
      · have hw := hw.1 c_8
        refine lv_iconst (v := 0) hx hb d_CT_goOneCycle_48 (by decide) ?_
        exact rt_z (w := wC cI cZ a) hx hb hr hlocks hK hP hD hS d_CT_goOneCycle_49 (Or.inl rfl) hw
      · have hw := hw.2 c_8
        refine lv_iconst (v := 1) hx hb d_CT_goOneCycle_44 (by decide) ?_
        refine lv_goto (tgt := 49) hx hb d_CT_goOneCycle_45 (by decide) ?_
        exact rt_z (w := wC cI cZ a) hx hb hr hlocks hK hP hD hS d_CT_goOneCycle_49 (Or.inr rfl) hw
set_option maxHeartbeats 4000000 in
set_option maxRecDepth 100000 in
theorem c_CI_frontPacketIn (l : Launch) (dC : Nat → ClassId) (dI : Nat → Nat → Nat) (cI cZ : ClassId) (a : Nat → Nat) (sz : Nat) (σ : SS) (x1 : Int32) (post : Int32 → Prop) (hw : wp_CI_frontPacketIn σ x1 post) : Met l y_CI_frontPacketIn (.code y_CI_frontPacketIn b_CI_frontPacketIn 2 (some .int) :: TT) { frames := 1, cells := 0, slots := 0, locals := 21 } (pW (dC, dI) clsT (tyT cI cZ) [.ref (a 3), .int x1] sz (wC cI cZ a σ)) (va_Qi (fun r (_ : Unit) => post r) (fun _ _ => True) (fun q => sz ≤ q)) 0 0 (fun q => sz ≤ q) := by
  refine hdr (Qf := fun A => (va_Qi (fun r (_ : Unit) => post r) (fun _ _ => True) A)) (by decide) (Nat.le_of_ble_eq_true rfl) ?_
  intro p e s m below meth c A ls hx hb hr hts hown hlocks hml hK hP hD hS hA hl
  have hown : s.vm.findClass R_CI = some m.cls := hown
  have hl : lv_has ls 2 [(0, .ref (a 3)), (1, .int x1)] := hl
  rw [wp_CI_frontPacketIn] at hw
  refine lv_aload_n hx hb d_CI_frontPacketIn_0 rfl (lv_at hl 0 rfl) ?_
  refine va_get (D := (dC, dI)) (ci := 3) (v := .ref (a 21)) (C := R_CI) (T := F_CI) (N := 8) hx hb hts in_CI hown hK hP 3 rfl rfl 6 (by decide) (hts (.fieldLink R_CI 24 R_CI "size" "[I") (tm 67 rfl)) (fun _ h9 => h9) rfl d_CI_frontPacketIn_1 ?_
  refine lv_iload_n hx hb d_CI_frontPacketIn_4 rfl (lv_at hl 1 rfl) ?_
  obtain ⟨hin, hw⟩ := hw
  refine va_iald hx hb hK hP 21 0 rfl rfl hin d_CI_frontPacketIn_5 ?_
  refine lv_if_le (tgt := 27) hx hb d_CI_frontPacketIn_6 (by decide) (fun c_1 => ?_) (fun c_1 => ?_)
  · have hw := hw.1 c_1
    refine lv_iconst (v := (-1)) hx hb d_CI_frontPacketIn_27 (by decide) ?_
    exact rr_i hx hb hr hlocks hS d_CI_frontPacketIn_28 hw
  · have hw := hw.2 c_1
    refine lv_aload_n hx hb d_CI_frontPacketIn_9 rfl (lv_at hl 0 rfl) ?_
    refine va_get (D := (dC, dI)) (ci := 3) (v := .ref (a 2)) (C := R_CI) (T := F_CI) (N := 8) hx hb hts in_CI hown hK hP 3 rfl rfl 1 (by decide) (hts (.fieldLink R_CI 34 R_CI "packets" "LNetRoutes$Packets;") (tm 62 rfl)) (fun _ h9 => h9) rfl d_CI_frontPacketIn_10 ?_
    refine lv_aload_n hx hb d_CI_frontPacketIn_13 rfl (lv_at hl 0 rfl) ?_
    refine va_get (D := (dC, dI)) (ci := 3) (v := .ref (a 20)) (C := R_CI) (T := F_CI) (N := 8) hx hb hts in_CI hown hK hP 3 rfl rfl 5 (by decide) (hts (.fieldLink R_CI 21 R_CI "slots" "[I") (tm 69 rfl)) (fun _ h9 => h9) rfl d_CI_frontPacketIn_14 ?_
    refine lv_iload_n hx hb d_CI_frontPacketIn_17 rfl (lv_at hl 1 rfl) ?_
    refine lv_iconst (v := 4) hx hb d_CI_frontPacketIn_18 (by decide) ?_
    refine lv_imul hx hb d_CI_frontPacketIn_19 ?_
    obtain ⟨hin, hw⟩ := hw
    refine va_iald hx hb hK hP 20 0 rfl rfl hin d_CI_frontPacketIn_20 ?_
    refine cl_r (va_runV (As := [.int (σ 20 (x1 * 4).toNatClampNeg)]) (rest := []) ⟨hx, hb, hml, hown, hts⟩ (c_CK_packetOf l dC dI cI cZ a _ σ (σ 20 (x1 * 4).toNatClampNeg) _ hw) (cwV 1 hts (gi_V (tm 186 rfl) (tm 101 rfl) (tm 102 rfl) (tm 54 rfl) (tm 103 rfl)) rfl rfl rfl (by decide +kernel) ⟨Nat.le_of_ble_eq_true rfl, Nat.le_of_ble_eq_true rfl⟩) (pW_V hK hP hD (ci := 2) (k := 2) rfl rfl) rfl rfl hl.1 rfl (lv_room (Nat.le_of_ble_eq_true rfl)) d_CI_frontPacketIn_21 ⟨Nat.zero_le _, Nat.zero_le _⟩) hP hS hA (fun r_2 H locs hw hP hT => ?_)
    have hS := hT _ hA hS
    refine lv_goto (tgt := 28) hx hb d_CI_frontPacketIn_24 (by decide) ?_
    exact rr_i hx hb hr hlocks hS d_CI_frontPacketIn_28 hw
