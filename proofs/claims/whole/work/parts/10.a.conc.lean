set_option maxHeartbeats 4000000 in
set_option maxRecDepth 100000 in
theorem c_CP_hasNode (l : Launch) (dC : Nat → ClassId) (dI : Nat → Nat → Nat) (cI cZ : ClassId) (a : Nat → Nat) (sz : Nat) (σ : SS) (x1 : Int32) (post : Int32 → Prop) (hw : wp_CP_hasNode σ x1 post) : Met l y_CP_hasNode (.code y_CP_hasNode b_CP_hasNode 2 (some .boolean) :: TT) { frames := 0, cells := 0, slots := 0, locals := 0 } (pW (dC, dI) clsT (tyT cI cZ) [.ref (a 1), .int x1] sz (wC cI cZ a σ)) (va_Qi (fun r (_ : Unit) => post r) (fun _ _ => True) (fun q => sz ≤ q)) 0 0 (fun q => sz ≤ q) := by
  refine hdr (Qf := fun A => (va_Qi (fun r (_ : Unit) => post r) (fun _ _ => True) A)) (by decide) (Nat.le_of_ble_eq_true rfl) ?_
  intro p e s m below meth c A ls hx hb hr hts hown hlocks hml hK hP hD hS hA hl
  have hown : s.vm.findClass R_CP = some m.cls := hown
  have hl : lv_has ls 2 [(0, .ref (a 1)), (1, .int x1)] := hl
  rw [wp_CP_hasNode] at hw
  refine lv_iload_n hx hb d_CP_hasNode_0 rfl (lv_at hl 1 rfl) ?_
  refine lv_if_lt (tgt := 16) hx hb d_CP_hasNode_1 (by decide) (fun c_1 => ?_) (fun c_1 => ?_)
  · have hw := hw.1 c_1
    refine lv_iconst (v := 0) hx hb d_CP_hasNode_16 (by decide) ?_
    exact rr_z hx hb hr hlocks hS d_CP_hasNode_17 (Or.inl rfl) hw
  · have hw := hw.2 c_1
    refine lv_iload_n hx hb d_CP_hasNode_4 rfl (lv_at hl 1 rfl) ?_
    refine lv_aload_n hx hb d_CP_hasNode_5 rfl (lv_at hl 0 rfl) ?_
    refine va_get (D := (dC, dI)) (ci := 1) (v := .int (σ 1 0)) (C := R_CP) (T := F_CP) (N := 8) hx hb hts in_CP hown hK hP 1 rfl rfl 0 (by decide) (hts (.fieldLink R_CP 37 R_CP "nodes" "I") (tm 0 rfl)) (fun _ h9 => h9) rfl d_CP_hasNode_6 ?_
    refine lv_icmp_ge (tgt := 16) hx hb d_CP_hasNode_9 (by decide) (fun c_2 => ?_) (fun c_2 => ?_)
    · have hw := hw.1 c_2
      refine lv_iconst (v := 0) hx hb d_CP_hasNode_16 (by decide) ?_
      exact rr_z hx hb hr hlocks hS d_CP_hasNode_17 (Or.inl rfl) hw
    · have hw := hw.2 c_2
      refine lv_iconst (v := 1) hx hb d_CP_hasNode_12 (by decide) ?_
      refine lv_goto (tgt := 17) hx hb d_CP_hasNode_13 (by decide) ?_
      exact rr_z hx hb hr hlocks hS d_CP_hasNode_17 (Or.inr rfl) hw
set_option maxHeartbeats 4000000 in
set_option maxRecDepth 100000 in
theorem c_CP_hasTwoNodes (l : Launch) (dC : Nat → ClassId) (dI : Nat → Nat → Nat) (cI cZ : ClassId) (a : Nat → Nat) (sz : Nat) (σ : SS) (x1 : Int32) (x2 : Int32) (post : Int32 → Prop) (hw : wp_CP_hasTwoNodes σ x1 x2 post) : Met l y_CP_hasTwoNodes (.code y_CP_hasTwoNodes b_CP_hasTwoNodes 3 (some .boolean) :: TT) { frames := 1, cells := 0, slots := 0, locals := 21 } (pW (dC, dI) clsT (tyT cI cZ) [.ref (a 1), .int x1, .int x2] sz (wC cI cZ a σ)) (va_Qi (fun r (_ : Unit) => post r) (fun _ _ => True) (fun q => sz ≤ q)) 0 0 (fun q => sz ≤ q) := by
  refine hdr (Qf := fun A => (va_Qi (fun r (_ : Unit) => post r) (fun _ _ => True) A)) (by decide) (Nat.le_of_ble_eq_true rfl) ?_
  intro p e s m below meth c A ls hx hb hr hts hown hlocks hml hK hP hD hS hA hl
  have hown : s.vm.findClass R_CP = some m.cls := hown
  have hl : lv_has ls 3 [(0, .ref (a 1)), (1, .int x1), (2, .int x2)] := hl
  rw [wp_CP_hasTwoNodes] at hw
  refine lv_aload_n hx hb d_CP_hasTwoNodes_0 rfl (lv_at hl 0 rfl) ?_
  refine lv_iload_n hx hb d_CP_hasTwoNodes_1 rfl (lv_at hl 1 rfl) ?_
  refine cl_r (va_runV (As := [.int x1]) (rest := []) ⟨hx, hb, hml, hown, hts⟩ (c_CP_hasNode l dC dI cI cZ a _ σ x1 _ hw) (cwV 1 hts (gi_V (tm 1 rfl) (tm 2 rfl) (tm 3 rfl) (tm 4 rfl) (tm 5 rfl)) rfl rfl rfl (by decide +kernel) ⟨Nat.le_of_ble_eq_true rfl, Nat.le_of_ble_eq_true rfl⟩) (pW_V hK hP hD (ci := 1) (k := 1) rfl rfl) rfl rfl hl.1 rfl (lv_room (Nat.le_of_ble_eq_true rfl)) d_CP_hasTwoNodes_2 ⟨Nat.zero_le _, Nat.zero_le _⟩) hP hS hA (fun r_1 H locs hw hP hT => ?_)
  have hS := hT _ hA hS
  refine lv_if_eq (tgt := 25) hx hb d_CP_hasTwoNodes_5 (by decide) (fun c_2 => ?_) (fun c_2 => ?_)
  · have hw := hw.1 c_2
    refine lv_iconst (v := 0) hx hb d_CP_hasTwoNodes_25 (by decide) ?_
    exact rr_z hx hb hr hlocks hS d_CP_hasTwoNodes_26 (Or.inl rfl) hw
  · have hw := hw.2 c_2
    refine lv_aload_n hx hb d_CP_hasTwoNodes_8 rfl (lv_at hl 0 rfl) ?_
    refine lv_iload_n hx hb d_CP_hasTwoNodes_9 rfl (lv_at hl 2 rfl) ?_
    refine cl_r (va_runV (As := [.int x2]) (rest := []) ⟨hx, hb, hml, hown, hts⟩ (c_CP_hasNode l dC dI cI cZ a _ σ x2 _ hw) (cwV 1 hts (gi_V (tm 1 rfl) (tm 2 rfl) (tm 3 rfl) (tm 4 rfl) (tm 5 rfl)) rfl rfl rfl (by decide +kernel) ⟨Nat.le_of_ble_eq_true rfl, Nat.le_of_ble_eq_true rfl⟩) (pW_V hK hP hD (ci := 1) (k := 1) rfl rfl) rfl rfl hl.1 rfl (lv_room (Nat.le_of_ble_eq_true rfl)) d_CP_hasTwoNodes_10 ⟨Nat.zero_le _, Nat.zero_le _⟩) hP hS hA (fun r_3 H locs hw hP hT => ?_)
    have hS := hT _ hA hS
    refine lv_if_eq (tgt := 25) hx hb d_CP_hasTwoNodes_13 (by decide) (fun c_4 => ?_) (fun c_4 => ?_)
    · have hw := hw.1 c_4
      refine lv_iconst (v := 0) hx hb d_CP_hasTwoNodes_25 (by decide) ?_
      exact rr_z hx hb hr hlocks hS d_CP_hasTwoNodes_26 (Or.inl rfl) hw
    · have hw := hw.2 c_4
      refine lv_iload_n hx hb d_CP_hasTwoNodes_16 rfl (lv_at hl 1 rfl) ?_
      refine lv_iload_n hx hb d_CP_hasTwoNodes_17 rfl (lv_at hl 2 rfl) ?_
      refine lv_icmp_eq (tgt := 25) hx hb d_CP_hasTwoNodes_18 (by decide) (fun c_5 => ?_) (fun c_5 => ?_)
      · have hw := hw.1 c_5
        refine lv_iconst (v := 0) hx hb d_CP_hasTwoNodes_25 (by decide) ?_
        exact rr_z hx hb hr hlocks hS d_CP_hasTwoNodes_26 (Or.inl rfl) hw
      · have hw := hw.2 c_5
        refine lv_iconst (v := 1) hx hb d_CP_hasTwoNodes_21 (by decide) ?_
        refine lv_goto (tgt := 26) hx hb d_CP_hasTwoNodes_22 (by decide) ?_
        exact rr_z hx hb hr hlocks hS d_CP_hasTwoNodes_26 (Or.inr rfl) hw
set_option maxHeartbeats 4000000 in
set_option maxRecDepth 100000 in
theorem c_CP_addLink (l : Launch) (dC : Nat → ClassId) (dI : Nat → Nat → Nat) (cI cZ : ClassId) (a : Nat → Nat) (sz : Nat) (σ : SS) (x1 : Int32) (x2 : Int32) (x3 : Int32) (post : Int32 → SS → Prop) (hw : wp_CP_addLink σ x1 x2 x3 post) : Met l y_CP_addLink (.code y_CP_addLink b_CP_addLink 5 (some .int) :: TT) { frames := 0, cells := 0, slots := 0, locals := 0 } (pW (dC, dI) clsT (tyT cI cZ) [.ref (a 1), .int x1, .int x2, .int x3] sz (wC cI cZ a σ)) (va_Qi post (bW (dC, dI) clsT (tyT cI cZ) (wC cI cZ a) (va_A (wC cI cZ a σ) sz)) (va_A (wC cI cZ a σ) sz)) 0 0 (va_A (wC cI cZ a σ) sz) := by
  refine hd (Qf := fun A => (va_Qi post (bW (dC, dI) clsT (tyT cI cZ) (wC cI cZ a) A) A)) (by decide) (Nat.le_of_ble_eq_true rfl) ?_
  intro p e s m below meth c A ls hx hb hr hts hown hlocks hml hK hP hD hS hA hl
  have hown : s.vm.findClass R_CP = some m.cls := hown
  have hl : lv_has ls 5 [(0, .ref (a 1)), (1, .int x1), (2, .int x2), (3, .int x3)] := hl
  rw [wp_CP_addLink] at hw
  refine lv_aload_n hx hb d_CP_addLink_0 rfl (lv_at hl 0 rfl) ?_
  refine va_get (D := (dC, dI)) (ci := 1) (v := .int (σ 1 1)) (C := R_CP) (T := F_CP) (N := 8) hx hb hts in_CP hown hK hP 1 rfl rfl 1 (by decide) (hts (.fieldLink R_CP 45 R_CP "links" "I") (tm 6 rfl)) (fun _ h9 => h9) rfl d_CP_addLink_1 ?_
  refine lv_topi (fun v_1 ev_1 => ?_)
  have hw := hw v_1 ev_1
  refine lv_istore (lv' := [(4, .int v_1), (0, .ref (a 1)), (1, .int x1), (2, .int x2), (3, .int x3)]) hx hb d_CP_addLink_4 hl (by decide) rfl (fun ls hl => ?_)
  refine lv_aload_n hx hb d_CP_addLink_6 rfl (lv_at hl 1 rfl) ?_
  refine va_get (D := (dC, dI)) (ci := 1) (v := .ref (a 6)) (C := R_CP) (T := F_CP) (N := 8) hx hb hts in_CP hown hK hP 1 rfl rfl 2 (by decide) (hts (.fieldLink R_CP 9 R_CP "begin" "[I") (tm 7 rfl)) (fun _ h9 => h9) rfl d_CP_addLink_7 ?_
  refine lv_iload hx hb d_CP_addLink_10 (lv_at hl 0 rfl) ?_
  refine lv_iload_n hx hb d_CP_addLink_12 rfl (lv_at hl 2 rfl) ?_
  obtain ⟨hin, hw⟩ := hw
  refine st_i (w := wC cI cZ a) hx hb hK hP hD hS 6 0 rfl rfl rfl hin d_CP_addLink_13 (fun s_2 e_2 H locs hP hD hS => ?_)
  have hw := hw s_2 e_2
  refine lv_aload_n hx hb d_CP_addLink_14 rfl (lv_at hl 1 rfl) ?_
  refine va_get (D := (dC, dI)) (ci := 1) (v := .ref (a 7)) (C := R_CP) (T := F_CP) (N := 8) hx hb hts in_CP hown hK hP 1 rfl rfl 3 (by decide) (hts (.fieldLink R_CP 15 R_CP "end" "[I") (tm 8 rfl)) (fun _ h9 => h9) rfl d_CP_addLink_15 ?_
  refine lv_iload hx hb d_CP_addLink_18 (lv_at hl 0 rfl) ?_
  refine lv_iload_n hx hb d_CP_addLink_20 rfl (lv_at hl 3 rfl) ?_
  obtain ⟨hin, hw⟩ := hw
  refine st_i (w := wC cI cZ a) hx hb hK hP hD hS 7 0 rfl rfl rfl hin d_CP_addLink_21 (fun s_3 e_3 H locs hP hD hS => ?_)
  have hw := hw s_3 e_3
  refine lv_aload_n hx hb d_CP_addLink_22 rfl (lv_at hl 1 rfl) ?_
  refine va_get (D := (dC, dI)) (ci := 1) (v := .ref (a 8)) (C := R_CP) (T := F_CP) (N := 8) hx hb hts in_CP hown hK hP 1 rfl rfl 4 (by decide) (hts (.fieldLink R_CP 18 R_CP "lanes" "[I") (tm 9 rfl)) (fun _ h9 => h9) rfl d_CP_addLink_23 ?_
  refine lv_iload hx hb d_CP_addLink_26 (lv_at hl 0 rfl) ?_
  refine lv_iload_n hx hb d_CP_addLink_28 rfl (lv_at hl 4 rfl) ?_
  obtain ⟨hin, hw⟩ := hw
  refine st_i (w := wC cI cZ a) hx hb hK hP hD hS 8 0 rfl rfl rfl hin d_CP_addLink_29 (fun s_4 e_4 H locs hP hD hS => ?_)
  have hw := hw s_4 e_4
  refine lv_aload_n hx hb d_CP_addLink_30 rfl (lv_at hl 1 rfl) ?_
  refine lv_dup hx hb d_CP_addLink_31 rfl ?_
  refine va_get (D := (dC, dI)) (ci := 1) (v := .int (s_4 1 1)) (C := R_CP) (T := F_CP) (N := 8) hx hb hts in_CP hown hK hP 1 rfl rfl 1 (by decide) (hts (.fieldLink R_CP 45 R_CP "links" "I") (tm 6 rfl)) (fun _ h9 => h9) rfl d_CP_addLink_32 ?_
  refine lv_iconst (v := 1) hx hb d_CP_addLink_35 (by decide) ?_
  refine lv_iadd hx hb d_CP_addLink_36 ?_
  refine st_f (D := (dC, dI)) (w := wC cI cZ a) (ci := 1) (C := R_CP) (T := F_CP) (N := 8) hx hb hts in_CP t_CP t_CP_ok n_CP hown hK hP hD hS 1 rfl rfl 1 (by decide) (hts (.fieldLink R_CP 45 R_CP "links" "I") (tm 6 rfl)) (fun _ h9 => h9) rfl (by decide +kernel) (Nat.le_of_ble_eq_true rfl) rfl d_CP_addLink_37 (fun s_5 e_5 H locs hP hD hS => ?_)
  have hw := hw s_5 e_5
  refine lv_iload hx hb d_CP_addLink_40 (lv_at hl 0 rfl) ?_
  exact rt_i (w := wC cI cZ a) hx hb hr hlocks hK hP hD hS d_CP_addLink_42 hw
set_option maxHeartbeats 4000000 in
set_option maxRecDepth 100000 in
theorem c_CP_wayAt (l : Launch) (dC : Nat → ClassId) (dI : Nat → Nat → Nat) (cI cZ : ClassId) (a : Nat → Nat) (sz : Nat) (σ : SS) (x1 : Int32) (x2 : Int32) (post : Int32 → Prop) (hw : wp_CP_wayAt σ x1 x2 post) : Met l y_CP_wayAt (.code y_CP_wayAt b_CP_wayAt 3 (some .int) :: TT) { frames := 0, cells := 0, slots := 0, locals := 0 } (pW (dC, dI) clsT (tyT cI cZ) [.ref (a 1), .int x1, .int x2] sz (wC cI cZ a σ)) (va_Qi (fun r (_ : Unit) => post r) (fun _ _ => True) (fun q => sz ≤ q)) 0 0 (fun q => sz ≤ q) := by
  refine hdr (Qf := fun A => (va_Qi (fun r (_ : Unit) => post r) (fun _ _ => True) A)) (by decide) (Nat.le_of_ble_eq_true rfl) ?_
  intro p e s m below meth c A ls hx hb hr hts hown hlocks hml hK hP hD hS hA hl
  have hown : s.vm.findClass R_CP = some m.cls := hown
  have hl : lv_has ls 3 [(0, .ref (a 1)), (1, .int x1), (2, .int x2)] := hl
  rw [wp_CP_wayAt] at hw
  refine lv_aload_n hx hb d_CP_wayAt_0 rfl (lv_at hl 0 rfl) ?_
  refine va_get (D := (dC, dI)) (ci := 1) (v := .ref (a 10)) (C := R_CP) (T := F_CP) (N := 8) hx hb hts in_CP hown hK hP 1 rfl rfl 6 (by decide) (hts (.fieldLink R_CP 25 R_CP "ways" "[I") (tm 10 rfl)) (fun _ h9 => h9) rfl d_CP_wayAt_1 ?_
  refine lv_iload_n hx hb d_CP_wayAt_4 rfl (lv_at hl 1 rfl) ?_
  refine lv_bipush (v := 16) hx hb d_CP_wayAt_5 (by decide) ?_
  refine lv_imul hx hb d_CP_wayAt_7 ?_
  refine lv_iload_n hx hb d_CP_wayAt_8 rfl (lv_at hl 2 rfl) ?_
  refine lv_iadd hx hb d_CP_wayAt_9 ?_
  obtain ⟨hin, hw⟩ := hw
  refine va_iald hx hb hK hP 10 0 rfl rfl hin d_CP_wayAt_10 ?_
  exact rr_i hx hb hr hlocks hS d_CP_wayAt_11 hw
set_option maxHeartbeats 4000000 in
set_option maxRecDepth 100000 in
theorem c_CP_changeWay (l : Launch) (dC : Nat → ClassId) (dI : Nat → Nat → Nat) (cI cZ : ClassId) (a : Nat → Nat) (sz : Nat) (σ : SS) (x1 : Int32) (x2 : Int32) (x3 : Int32) (post : SS → Prop) (hw : wp_CP_changeWay σ x1 x2 x3 post) : Met l y_CP_changeWay (.code y_CP_changeWay b_CP_changeWay 4 none :: TT) { frames := 0, cells := 0, slots := 0, locals := 0 } (pW (dC, dI) clsT (tyT cI cZ) [.ref (a 1), .int x1, .int x2, .int x3] sz (wC cI cZ a σ)) (va_Qv post (bW (dC, dI) clsT (tyT cI cZ) (wC cI cZ a) (va_A (wC cI cZ a σ) sz)) (va_A (wC cI cZ a σ) sz)) 0 0 (va_A (wC cI cZ a σ) sz) := by
  refine hd (Qf := fun A => (va_Qv post (bW (dC, dI) clsT (tyT cI cZ) (wC cI cZ a) A) A)) (by decide) (Nat.le_of_ble_eq_true rfl) ?_
  intro p e s m below meth c A ls hx hb hr hts hown hlocks hml hK hP hD hS hA hl
  have hown : s.vm.findClass R_CP = some m.cls := hown
  have hl : lv_has ls 4 [(0, .ref (a 1)), (1, .int x1), (2, .int x2), (3, .int x3)] := hl
  rw [wp_CP_changeWay] at hw
  refine lv_aload_n hx hb d_CP_changeWay_0 rfl (lv_at hl 0 rfl) ?_
  refine va_get (D := (dC, dI)) (ci := 1) (v := .ref (a 10)) (C := R_CP) (T := F_CP) (N := 8) hx hb hts in_CP hown hK hP 1 rfl rfl 6 (by decide) (hts (.fieldLink R_CP 25 R_CP "ways" "[I") (tm 10 rfl)) (fun _ h9 => h9) rfl d_CP_changeWay_1 ?_
  refine lv_iload_n hx hb d_CP_changeWay_4 rfl (lv_at hl 1 rfl) ?_
  refine lv_bipush (v := 16) hx hb d_CP_changeWay_5 (by decide) ?_
  refine lv_imul hx hb d_CP_changeWay_7 ?_
  refine lv_iload_n hx hb d_CP_changeWay_8 rfl (lv_at hl 2 rfl) ?_
  refine lv_iadd hx hb d_CP_changeWay_9 ?_
  refine lv_iload_n hx hb d_CP_changeWay_10 rfl (lv_at hl 3 rfl) ?_
  obtain ⟨hin, hw⟩ := hw
  refine st_i (w := wC cI cZ a) hx hb hK hP hD hS 10 0 rfl rfl rfl hin d_CP_changeWay_11 (fun s_1 e_1 H locs hP hD hS => ?_)
  have hw := hw s_1 e_1
  exact rt_v (w := wC cI cZ a) hx hb hr hlocks hK hP hD hS d_CP_changeWay_12 hw
set_option maxHeartbeats 4000000 in
set_option maxRecDepth 100000 in
theorem c_CP_hasLink (l : Launch) (dC : Nat → ClassId) (dI : Nat → Nat → Nat) (cI cZ : ClassId) (a : Nat → Nat) (sz : Nat) (σ : SS) (x1 : Int32) (post : Int32 → Prop) (hw : wp_CP_hasLink σ x1 post) : Met l y_CP_hasLink (.code y_CP_hasLink b_CP_hasLink 2 (some .boolean) :: TT) { frames := 0, cells := 0, slots := 0, locals := 0 } (pW (dC, dI) clsT (tyT cI cZ) [.ref (a 1), .int x1] sz (wC cI cZ a σ)) (va_Qi (fun r (_ : Unit) => post r) (fun _ _ => True) (fun q => sz ≤ q)) 0 0 (fun q => sz ≤ q) := by
  refine hdr (Qf := fun A => (va_Qi (fun r (_ : Unit) => post r) (fun _ _ => True) A)) (by decide) (Nat.le_of_ble_eq_true rfl) ?_
  intro p e s m below meth c A ls hx hb hr hts hown hlocks hml hK hP hD hS hA hl
  have hown : s.vm.findClass R_CP = some m.cls := hown
  have hl : lv_has ls 2 [(0, .ref (a 1)), (1, .int x1)] := hl
  rw [wp_CP_hasLink] at hw
  refine lv_iload_n hx hb d_CP_hasLink_0 rfl (lv_at hl 1 rfl) ?_
  refine lv_if_lt (tgt := 16) hx hb d_CP_hasLink_1 (by decide) (fun c_1 => ?_) (fun c_1 => ?_)
  · have hw := hw.1 c_1
    refine lv_iconst (v := 0) hx hb d_CP_hasLink_16 (by decide) ?_
    exact rr_z hx hb hr hlocks hS d_CP_hasLink_17 (Or.inl rfl) hw
  · have hw := hw.2 c_1
    refine lv_iload_n hx hb d_CP_hasLink_4 rfl (lv_at hl 1 rfl) ?_
    refine lv_aload_n hx hb d_CP_hasLink_5 rfl (lv_at hl 0 rfl) ?_
    refine va_get (D := (dC, dI)) (ci := 1) (v := .int (σ 1 1)) (C := R_CP) (T := F_CP) (N := 8) hx hb hts in_CP hown hK hP 1 rfl rfl 1 (by decide) (hts (.fieldLink R_CP 45 R_CP "links" "I") (tm 6 rfl)) (fun _ h9 => h9) rfl d_CP_hasLink_6 ?_
    refine lv_icmp_ge (tgt := 16) hx hb d_CP_hasLink_9 (by decide) (fun c_2 => ?_) (fun c_2 => ?_)
    · have hw := hw.1 c_2
      refine lv_iconst (v := 0) hx hb d_CP_hasLink_16 (by decide) ?_
      exact rr_z hx hb hr hlocks hS d_CP_hasLink_17 (Or.inl rfl) hw
    · have hw := hw.2 c_2
      refine lv_iconst (v := 1) hx hb d_CP_hasLink_12 (by decide) ?_
      refine lv_goto (tgt := 17) hx hb d_CP_hasLink_13 (by decide) ?_
      exact rr_z hx hb hr hlocks hS d_CP_hasLink_17 (Or.inr rfl) hw
set_option maxHeartbeats 4000000 in
set_option maxRecDepth 100000 in
theorem c_CP_hasChannel (l : Launch) (dC : Nat → ClassId) (dI : Nat → Nat → Nat) (cI cZ : ClassId) (a : Nat → Nat) (sz : Nat) (σ : SS) (x1 : Int32) (post : Int32 → Prop) (hw : wp_CP_hasChannel σ x1 post) : Met l y_CP_hasChannel (.code y_CP_hasChannel b_CP_hasChannel 2 (some .boolean) :: TT) { frames := 1, cells := 0, slots := 0, locals := 21 } (pW (dC, dI) clsT (tyT cI cZ) [.ref (a 1), .int x1] sz (wC cI cZ a σ)) (va_Qi (fun r (_ : Unit) => post r) (fun _ _ => True) (fun q => sz ≤ q)) 0 0 (fun q => sz ≤ q) := by
  refine hdr (Qf := fun A => (va_Qi (fun r (_ : Unit) => post r) (fun _ _ => True) A)) (by decide) (Nat.le_of_ble_eq_true rfl) ?_
  intro p e s m below meth c A ls hx hb hr hts hown hlocks hml hK hP hD hS hA hl
  have hown : s.vm.findClass R_CP = some m.cls := hown
  have hl : lv_has ls 2 [(0, .ref (a 1)), (1, .int x1)] := hl
  rw [wp_CP_hasChannel] at hw
  refine lv_iload_n hx hb d_CP_hasChannel_0 rfl (lv_at hl 1 rfl) ?_
  refine lv_if_lt (tgt := 32) hx hb d_CP_hasChannel_1 (by decide) (fun c_1 => ?_) (fun c_1 => ?_)
  · have hw := hw.1 c_1
    refine lv_iconst (v := 0) hx hb d_CP_hasChannel_32 (by decide) ?_
    exact rr_z hx hb hr hlocks hS d_CP_hasChannel_33 (Or.inl rfl) hw
  · have hw := hw.2 c_1
    refine lv_aload_n hx hb d_CP_hasChannel_4 rfl (lv_at hl 0 rfl) ?_
    refine lv_iload_n hx hb d_CP_hasChannel_5 rfl (lv_at hl 1 rfl) ?_
    refine lv_iconst (v := 4) hx hb d_CP_hasChannel_6 (by decide) ?_
    refine lv_idiv hx hb d_CP_hasChannel_7 (by decide) ?_
    refine cl_r (va_runV (As := [.int (x1 / 4)]) (rest := []) ⟨hx, hb, hml, hown, hts⟩ (c_CP_hasLink l dC dI cI cZ a _ σ (x1 / 4) _ hw) (cwV 1 hts (gi_V (tm 11 rfl) (tm 12 rfl) (tm 13 rfl) (tm 4 rfl) (tm 14 rfl)) rfl rfl rfl (by decide +kernel) ⟨Nat.le_of_ble_eq_true rfl, Nat.le_of_ble_eq_true rfl⟩) (pW_V hK hP hD (ci := 1) (k := 1) rfl rfl) rfl rfl hl.1 rfl (lv_room (Nat.le_of_ble_eq_true rfl)) d_CP_hasChannel_8 ⟨Nat.zero_le _, Nat.zero_le _⟩) hP hS hA (fun r_2 H locs hw hP hT => ?_)
    have hS := hT _ hA hS
    refine lv_if_eq (tgt := 32) hx hb d_CP_hasChannel_11 (by decide) (fun c_3 => ?_) (fun c_3 => ?_)
    · have hw := hw.1 c_3
      refine lv_iconst (v := 0) hx hb d_CP_hasChannel_32 (by decide) ?_
      exact rr_z hx hb hr hlocks hS d_CP_hasChannel_33 (Or.inl rfl) hw
    · have hw := hw.2 c_3
      refine lv_iload_n hx hb d_CP_hasChannel_14 rfl (lv_at hl 1 rfl) ?_
      refine lv_iconst (v := 4) hx hb d_CP_hasChannel_15 (by decide) ?_
      refine lv_irem hx hb d_CP_hasChannel_16 (by decide) ?_
      refine lv_aload_n hx hb d_CP_hasChannel_17 rfl (lv_at hl 0 rfl) ?_
      refine va_get (D := (dC, dI)) (ci := 1) (v := .ref (a 8)) (C := R_CP) (T := F_CP) (N := 8) hx hb hts in_CP hown hK hP 1 rfl rfl 4 (by decide) (hts (.fieldLink R_CP 18 R_CP "lanes" "[I") (tm 9 rfl)) (fun _ h9 => h9) rfl d_CP_hasChannel_18 ?_
      refine lv_iload_n hx hb d_CP_hasChannel_21 rfl (lv_at hl 1 rfl) ?_
      refine lv_iconst (v := 4) hx hb d_CP_hasChannel_22 (by decide) ?_
      refine lv_idiv hx hb d_CP_hasChannel_23 (by decide) ?_
      obtain ⟨hin, hw⟩ := hw
      refine va_iald hx hb hK hP 8 0 rfl rfl hin d_CP_hasChannel_24 ?_
      refine lv_icmp_ge (tgt := 32) hx hb d_CP_hasChannel_25 (by decide) (fun c_4 => ?_) (fun c_4 => ?_)
      · have hw := hw.1 c_4
        refine lv_iconst (v := 0) hx hb d_CP_hasChannel_32 (by decide) ?_
        exact rr_z hx hb hr hlocks hS d_CP_hasChannel_33 (Or.inl rfl) hw
      · have hw := hw.2 c_4
        refine lv_iconst (v := 1) hx hb d_CP_hasChannel_28 (by decide) ?_
        refine lv_goto (tgt := 33) hx hb d_CP_hasChannel_29 (by decide) ?_
        exact rr_z hx hb hr hlocks hS d_CP_hasChannel_33 (Or.inr rfl) hw
set_option maxHeartbeats 4000000 in
set_option maxRecDepth 100000 in
theorem c_CP_beginOf (l : Launch) (dC : Nat → ClassId) (dI : Nat → Nat → Nat) (cI cZ : ClassId) (a : Nat → Nat) (sz : Nat) (σ : SS) (x1 : Int32) (post : Int32 → Prop) (hw : wp_CP_beginOf σ x1 post) : Met l y_CP_beginOf (.code y_CP_beginOf b_CP_beginOf 2 (some .int) :: TT) { frames := 0, cells := 0, slots := 0, locals := 0 } (pW (dC, dI) clsT (tyT cI cZ) [.ref (a 1), .int x1] sz (wC cI cZ a σ)) (va_Qi (fun r (_ : Unit) => post r) (fun _ _ => True) (fun q => sz ≤ q)) 0 0 (fun q => sz ≤ q) := by
  refine hdr (Qf := fun A => (va_Qi (fun r (_ : Unit) => post r) (fun _ _ => True) A)) (by decide) (Nat.le_of_ble_eq_true rfl) ?_
  intro p e s m below meth c A ls hx hb hr hts hown hlocks hml hK hP hD hS hA hl
  have hown : s.vm.findClass R_CP = some m.cls := hown
  have hl : lv_has ls 2 [(0, .ref (a 1)), (1, .int x1)] := hl
  rw [wp_CP_beginOf] at hw
  refine lv_aload_n hx hb d_CP_beginOf_0 rfl (lv_at hl 0 rfl) ?_
  refine va_get (D := (dC, dI)) (ci := 1) (v := .ref (a 6)) (C := R_CP) (T := F_CP) (N := 8) hx hb hts in_CP hown hK hP 1 rfl rfl 2 (by decide) (hts (.fieldLink R_CP 9 R_CP "begin" "[I") (tm 7 rfl)) (fun _ h9 => h9) rfl d_CP_beginOf_1 ?_
  refine lv_iload_n hx hb d_CP_beginOf_4 rfl (lv_at hl 1 rfl) ?_
  refine lv_iconst (v := 4) hx hb d_CP_beginOf_5 (by decide) ?_
  refine lv_idiv hx hb d_CP_beginOf_6 (by decide) ?_
  obtain ⟨hin, hw⟩ := hw
  refine va_iald hx hb hK hP 6 0 rfl rfl hin d_CP_beginOf_7 ?_
  exact rr_i hx hb hr hlocks hS d_CP_beginOf_8 hw
set_option maxHeartbeats 4000000 in
set_option maxRecDepth 100000 in
theorem c_CP_canBeTaken (l : Launch) (dC : Nat → ClassId) (dI : Nat → Nat → Nat) (cI cZ : ClassId) (a : Nat → Nat) (sz : Nat) (σ : SS) (x1 : Int32) (x2 : Int32) (post : Int32 → Prop) (hw : wp_CP_canBeTaken σ x1 x2 post) : Met l y_CP_canBeTaken (.code y_CP_canBeTaken b_CP_canBeTaken 3 (some .boolean) :: TT) { frames := 2, cells := 0, slots := 0, locals := 42 } (pW (dC, dI) clsT (tyT cI cZ) [.ref (a 1), .int x1, .int x2] sz (wC cI cZ a σ)) (va_Qi (fun r (_ : Unit) => post r) (fun _ _ => True) (fun q => sz ≤ q)) 0 0 (fun q => sz ≤ q) := by
  refine hdr (Qf := fun A => (va_Qi (fun r (_ : Unit) => post r) (fun _ _ => True) A)) (by decide) (Nat.le_of_ble_eq_true rfl) ?_
  intro p e s m below meth c A ls hx hb hr hts hown hlocks hml hK hP hD hS hA hl
  have hown : s.vm.findClass R_CP = some m.cls := hown
  have hl : lv_has ls 3 [(0, .ref (a 1)), (1, .int x1), (2, .int x2)] := hl
  rw [wp_CP_canBeTaken] at hw
  refine lv_aload_n hx hb d_CP_canBeTaken_0 rfl (lv_at hl 0 rfl) ?_
  refine lv_iload_n hx hb d_CP_canBeTaken_1 rfl (lv_at hl 2 rfl) ?_
  refine cl_r (va_runV (As := [.int x2]) (rest := []) ⟨hx, hb, hml, hown, hts⟩ (c_CP_hasChannel l dC dI cI cZ a _ σ x2 _ hw) (cwV 1 hts (gi_V (tm 20 rfl) (tm 21 rfl) (tm 22 rfl) (tm 4 rfl) (tm 23 rfl)) rfl rfl rfl (by decide +kernel) ⟨Nat.le_of_ble_eq_true rfl, Nat.le_of_ble_eq_true rfl⟩) (pW_V hK hP hD (ci := 1) (k := 1) rfl rfl) rfl rfl hl.1 rfl (lv_room (Nat.le_of_ble_eq_true rfl)) d_CP_canBeTaken_2 ⟨Nat.zero_le _, Nat.zero_le _⟩) hP hS hA (fun r_1 H locs hw hP hT => ?_)
  have hS := hT _ hA hS
  refine lv_if_eq (tgt := 32) hx hb d_CP_canBeTaken_5 (by decide) (fun c_2 => ?_) (fun c_2 => ?_)
  · have hw := hw.1 c_2
    refine lv_iconst (v := 0) hx hb d_CP_canBeTaken_32 (by decide) ?_
    exact rr_z hx hb hr hlocks hS d_CP_canBeTaken_33 (Or.inl rfl) hw
  · have hw := hw.2 c_2
    refine lv_aload_n hx hb d_CP_canBeTaken_8 rfl (lv_at hl 0 rfl) ?_
    refine lv_iload_n hx hb d_CP_canBeTaken_9 rfl (lv_at hl 2 rfl) ?_
    refine cl_r (va_runV (As := [.int x2]) (rest := []) ⟨hx, hb, hml, hown, hts⟩ (c_CP_beginOf l dC dI cI cZ a _ σ x2 _ hw) (cwV 1 hts (gi_V (tm 16 rfl) (tm 17 rfl) (tm 18 rfl) (tm 4 rfl) (tm 19 rfl)) rfl rfl rfl (by decide +kernel) ⟨Nat.le_of_ble_eq_true rfl, Nat.le_of_ble_eq_true rfl⟩) (pW_V hK hP hD (ci := 1) (k := 1) rfl rfl) rfl rfl hl.1 rfl (lv_room (Nat.le_of_ble_eq_true rfl)) d_CP_canBeTaken_10 ⟨Nat.zero_le _, Nat.zero_le _⟩) hP hS hA (fun r_3 H locs hw hP hT => ?_)
    have hS := hT _ hA hS
    refine lv_iload_n hx hb d_CP_canBeTaken_13 rfl (lv_at hl 1 rfl) ?_
    refine lv_icmp_ne (tgt := 32) hx hb d_CP_canBeTaken_14 (by decide) (fun c_4 => ?_) (fun c_4 => ?_)
    · have hw := hw.1 c_4
      refine lv_iconst (v := 0) hx hb d_CP_canBeTaken_32 (by decide) ?_
      exact rr_z hx hb hr hlocks hS d_CP_canBeTaken_33 (Or.inl rfl) hw
    · have hw := hw.2 c_4
      refine lv_aload_n hx hb d_CP_canBeTaken_17 rfl (lv_at hl 0 rfl) ?_
      refine va_get (D := (dC, dI)) (ci := 1) (v := .ref (a 9)) (C := R_CP) (T := F_CP) (N := 8) hx hb hts in_CP hown hK hP 1 rfl rfl 5 (by decide) (hts (.fieldLink R_CP 21 R_CP "failed" "[Z") (tm 15 rfl)) (fun _ h9 => h9) rfl d_CP_canBeTaken_18 ?_
      refine lv_iload_n hx hb d_CP_canBeTaken_21 rfl (lv_at hl 2 rfl) ?_
      refine lv_iconst (v := 4) hx hb d_CP_canBeTaken_22 (by decide) ?_
      refine lv_idiv hx hb d_CP_canBeTaken_23 (by decide) ?_
      obtain ⟨hin, hw⟩ := hw
      refine va_zald hx hb hK hP 9 1 rfl rfl hin d_CP_canBeTaken_24 ?_
      refine lv_if_ne (tgt := 32) hx hb d_CP_canBeTaken_25 (by decide) (fun c_5 => ?_) (fun c_5 => ?_)
      · have hw := hw.1 c_5
        refine lv_iconst (v := 0) hx hb d_CP_canBeTaken_32 (by decide) ?_
        exact rr_z hx hb hr hlocks hS d_CP_canBeTaken_33 (Or.inl rfl) hw
      · have hw := hw.2 c_5
        refine lv_iconst (v := 1) hx hb d_CP_canBeTaken_28 (by decide) ?_
        refine lv_goto (tgt := 33) hx hb d_CP_canBeTaken_29 (by decide) ?_
        exact rr_z hx hb hr hlocks hS d_CP_canBeTaken_33 (Or.inr rfl) hw
set_option maxHeartbeats 4000000 in
set_option maxRecDepth 100000 in
theorem c_CP_bringsNearer (l : Launch) (dC : Nat → ClassId) (dI : Nat → Nat → Nat) (cI cZ : ClassId) (a : Nat → Nat) (sz : Nat) (σ : SS) (x1 : Int32) (x2 : Int32) (post : Int32 → Prop) (hw : wp_CP_bringsNearer σ x1 x2 post) : Met l y_CP_bringsNearer (.code y_CP_bringsNearer b_CP_bringsNearer 3 (some .boolean) :: TT) { frames := 0, cells := 0, slots := 0, locals := 0 } (pW (dC, dI) clsT (tyT cI cZ) [.ref (a 1), .int x1, .int x2] sz (wC cI cZ a σ)) (va_Qi (fun r (_ : Unit) => post r) (fun _ _ => True) (fun q => sz ≤ q)) 0 0 (fun q => sz ≤ q) := by
  refine hdr (Qf := fun A => (va_Qi (fun r (_ : Unit) => post r) (fun _ _ => True) A)) (by decide) (Nat.le_of_ble_eq_true rfl) ?_
  intro p e s m below meth c A ls hx hb hr hts hown hlocks hml hK hP hD hS hA hl
  have hown : s.vm.findClass R_CP = some m.cls := hown
  have hl : lv_has ls 3 [(0, .ref (a 1)), (1, .int x1), (2, .int x2)] := hl
  rw [wp_CP_bringsNearer] at hw
  refine lv_aload_n hx hb d_CP_bringsNearer_0 rfl (lv_at hl 0 rfl) ?_
  refine va_get (D := (dC, dI)) (ci := 1) (v := .ref (a 9)) (C := R_CP) (T := F_CP) (N := 8) hx hb hts in_CP hown hK hP 1 rfl rfl 5 (by decide) (hts (.fieldLink R_CP 21 R_CP "failed" "[Z") (tm 15 rfl)) (fun _ h9 => h9) rfl d_CP_bringsNearer_1 ?_
  refine lv_iload_n hx hb d_CP_bringsNearer_4 rfl (lv_at hl 1 rfl) ?_
  obtain ⟨hin, hw⟩ := hw
  refine va_zald hx hb hK hP 9 1 rfl rfl hin d_CP_bringsNearer_5 ?_
  refine lv_if_ne (tgt := 45) hx hb d_CP_bringsNearer_6 (by decide) (fun c_1 => ?_) (fun c_1 => ?_)
  · have hw := hw.1 c_1
    refine lv_iconst (v := 0) hx hb d_CP_bringsNearer_45 (by decide) ?_
    exact rr_z hx hb hr hlocks hS d_CP_bringsNearer_46 (Or.inl rfl) hw
  · have hw := hw.2 c_1
    refine lv_aload_n hx hb d_CP_bringsNearer_9 rfl (lv_at hl 0 rfl) ?_
    refine va_get (D := (dC, dI)) (ci := 1) (v := .ref (a 11)) (C := R_CP) (T := F_CP) (N := 8) hx hb hts in_CP hown hK hP 1 rfl rfl 7 (by decide) (hts (.fieldLink R_CP 28 R_CP "distance" "[I") (tm 24 rfl)) (fun _ h9 => h9) rfl d_CP_bringsNearer_10 ?_
    refine lv_aload_n hx hb d_CP_bringsNearer_13 rfl (lv_at hl 0 rfl) ?_
    refine va_get (D := (dC, dI)) (ci := 1) (v := .ref (a 6)) (C := R_CP) (T := F_CP) (N := 8) hx hb hts in_CP hown hK hP 1 rfl rfl 2 (by decide) (hts (.fieldLink R_CP 9 R_CP "begin" "[I") (tm 7 rfl)) (fun _ h9 => h9) rfl d_CP_bringsNearer_14 ?_
    refine lv_iload_n hx hb d_CP_bringsNearer_17 rfl (lv_at hl 1 rfl) ?_
    obtain ⟨hin, hw⟩ := hw
    refine va_iald hx hb hK hP 6 0 rfl rfl hin d_CP_bringsNearer_18 ?_
    obtain ⟨hin, hw⟩ := hw
    refine va_iald hx hb hK hP 11 0 rfl rfl hin d_CP_bringsNearer_19 ?_
    refine lv_iconst (v := (-1)) hx hb d_CP_bringsNearer_20 (by decide) ?_
    refine lv_icmp_ne (tgt := 45) hx hb d_CP_bringsNearer_21 (by decide) (fun c_2 => ?_) (fun c_2 => ?_)
    · have hw := hw.1 c_2
      refine lv_iconst (v := 0) hx hb d_CP_bringsNearer_45 (by decide) ?_
      exact rr_z hx hb hr hlocks hS d_CP_bringsNearer_46 (Or.inl rfl) hw
    · have hw := hw.2 c_2
      refine lv_aload_n hx hb d_CP_bringsNearer_24 rfl (lv_at hl 0 rfl) ?_
      refine va_get (D := (dC, dI)) (ci := 1) (v := .ref (a 11)) (C := R_CP) (T := F_CP) (N := 8) hx hb hts in_CP hown hK hP 1 rfl rfl 7 (by decide) (hts (.fieldLink R_CP 28 R_CP "distance" "[I") (tm 24 rfl)) (fun _ h9 => h9) rfl d_CP_bringsNearer_25 ?_
      refine lv_aload_n hx hb d_CP_bringsNearer_28 rfl (lv_at hl 0 rfl) ?_
      refine va_get (D := (dC, dI)) (ci := 1) (v := .ref (a 7)) (C := R_CP) (T := F_CP) (N := 8) hx hb hts in_CP hown hK hP 1 rfl rfl 3 (by decide) (hts (.fieldLink R_CP 15 R_CP "end" "[I") (tm 8 rfl)) (fun _ h9 => h9) rfl d_CP_bringsNearer_29 ?_
      refine lv_iload_n hx hb d_CP_bringsNearer_32 rfl (lv_at hl 1 rfl) ?_
      obtain ⟨hin, hw⟩ := hw
      refine va_iald hx hb hK hP 7 0 rfl rfl hin d_CP_bringsNearer_33 ?_
      obtain ⟨hin, hw⟩ := hw
      refine va_iald hx hb hK hP 11 0 rfl rfl hin d_CP_bringsNearer_34 ?_
      refine lv_iload_n hx hb d_CP_bringsNearer_35 rfl (lv_at hl 2 rfl) ?_
      refine lv_iconst (v := 1) hx hb d_CP_bringsNearer_36 (by decide) ?_
      refine lv_isub hx hb d_CP_bringsNearer_37 ?_
      refine lv_icmp_ne (tgt := 45) hx hb d_CP_bringsNearer_38 (by decide) (fun c_3 => ?_) (fun c_3 => ?_)
      · have hw := hw.1 c_3
        refine lv_iconst (v := 0) hx hb d_CP_bringsNearer_45 (by decide) ?_
        exact rr_z hx hb hr hlocks hS d_CP_bringsNearer_46 (Or.inl rfl) hw
      · have hw := hw.2 c_3
        refine lv_iconst (v := 1) hx hb d_CP_bringsNearer_41 (by decide) ?_
        refine lv_goto (tgt := 46) hx hb d_CP_bringsNearer_42 (by decide) ?_
        exact rr_z hx hb hr hlocks hS d_CP_bringsNearer_46 (Or.inr rfl) hw
set_option maxHeartbeats 4000000 in
set_option maxRecDepth 100000 in
theorem c_CP_makeWaysTo (l : Launch) (dC : Nat → ClassId) (dI : Nat → Nat → Nat) (cI cZ : ClassId) (a : Nat → Nat) (sz : Nat) (σ : SS) (x1 : Int32) (post : Int32 → SS → Prop) (hw : wp_CP_makeWaysTo σ x1 post) : Met l y_CP_makeWaysTo (.code y_CP_makeWaysTo b_CP_makeWaysTo 5 (some .int) :: TT) { frames := 1, cells := 0, slots := 0, locals := 23 } (pW (dC, dI) clsT (tyT cI cZ) [.ref (a 1), .int x1] sz (wC cI cZ a σ)) (va_Qi post (bW (dC, dI) clsT (tyT cI cZ) (wC cI cZ a) (va_A (wC cI cZ a σ) sz)) (va_A (wC cI cZ a σ) sz)) 0 0 (va_A (wC cI cZ a σ) sz) := by
  refine hd (Qf := fun A => (va_Qi post (bW (dC, dI) clsT (tyT cI cZ) (wC cI cZ a) A) A)) (by decide) (Nat.le_of_ble_eq_true rfl) ?_
  intro p e s m below meth c A ls hx hb hr hts hown hlocks hml hK hP hD hS hA hl
  have hown : s.vm.findClass R_CP = some m.cls := hown
  have hl : lv_has ls 5 [(0, .ref (a 1)), (1, .int x1)] := hl
  rw [wp_CP_makeWaysTo] at hw
  refine lv_aload_n hx hb d_CP_makeWaysTo_0 rfl (lv_at hl 0 rfl) ?_
  refine va_get (D := (dC, dI)) (ci := 1) (v := .ref (a 11)) (C := R_CP) (T := F_CP) (N := 8) hx hb hts in_CP hown hK hP 1 rfl rfl 7 (by decide) (hts (.fieldLink R_CP 28 R_CP "distance" "[I") (tm 24 rfl)) (fun _ h9 => h9) rfl d_CP_makeWaysTo_1 ?_
  refine lv_iconst (v := (-1)) hx hb d_CP_makeWaysTo_4 (by decide) ?_
  refine cl_fill (w := wC cI cZ a) (rest := []) (v := (-1)) ⟨hx, hb, hml, hown, hts⟩ hK hP hD hS hA 11 rfl rfl (by decide) rfl (gi_S9 (tm 25 rfl) (tm 26 rfl) (tm 27 rfl) (tm 28 rfl)) ⟨Nat.le_of_ble_eq_true rfl, Nat.le_of_ble_eq_true rfl⟩ hl.1 (lv_room (Nat.le_of_ble_eq_true rfl)) ⟨Nat.zero_le _, Nat.zero_le _⟩ d_CP_makeWaysTo_5 (fun s_1 e_1 H locs hP hD hS => ?_)
  have hw := hw s_1 e_1
  refine lv_aload_n hx hb d_CP_makeWaysTo_8 rfl (lv_at hl 0 rfl) ?_
  refine va_get (D := (dC, dI)) (ci := 1) (v := .ref (a 11)) (C := R_CP) (T := F_CP) (N := 8) hx hb hts in_CP hown hK hP 1 rfl rfl 7 (by decide) (hts (.fieldLink R_CP 28 R_CP "distance" "[I") (tm 24 rfl)) (fun _ h9 => h9) rfl d_CP_makeWaysTo_9 ?_
  refine lv_iload_n hx hb d_CP_makeWaysTo_12 rfl (lv_at hl 1 rfl) ?_
  refine lv_iconst (v := 0) hx hb d_CP_makeWaysTo_13 (by decide) ?_
  obtain ⟨hin, hw⟩ := hw
  refine st_i (w := wC cI cZ a) hx hb hK hP hD hS 11 0 rfl rfl rfl hin d_CP_makeWaysTo_14 (fun s_2 e_2 H locs hP hD hS => ?_)
  have hw := hw s_2 e_2
  refine lv_iconst (v := 0) hx hb d_CP_makeWaysTo_15 (by decide) ?_
  refine lv_istore_n (lv' := [(2, .int 0), (0, .ref (a 1)), (1, .int x1)]) hx hb d_CP_makeWaysTo_16 rfl hl (by decide) rfl (fun ls hl => ?_)
  obtain ⟨k_25, hw⟩ := hw
  have hE_25 : ∀ (σ_25 : SS) (y2_25 : Int32) (H : Heap) (locs : List Loc) (ls : Array Slot), we_CP_makeWaysTo_38 σ_25 x1 post → va_P (dC, dI) clsT (wC cI cZ a σ_25) H → va_D A (wC cI cZ a σ_25) → va_S A s.heap H locs → lv_has ls 5 [(0, .ref (a 1)), (1, .int x1)] → W p l e { frames := 1, cells := 0, slots := 0, locals := 23 } s m ([.ref (a 1), .int x1] : List Value).toArray below meth c H locs 0 0 (MQ below (va_Qi post (bW (dC, dI) clsT (tyT cI cZ) (wC cI cZ a) A) A) ([.ref (a 1), .int x1] : List Value).toArray s 0 0 A) (F0 m 38 ls []) := by
    intro σ_25 y2_25 H locs ls hw hP hD hS hl
    rw [we_CP_makeWaysTo_38] at hw
    refine lv_iconst (v := 0) hx hb d_CP_makeWaysTo_38 (by decide) ?_
    refine lv_istore_n (lv' := [(2, .int 0), (0, .ref (a 1)), (1, .int x1)]) hx hb d_CP_makeWaysTo_39 rfl hl (by decide) rfl (fun ls hl => ?_)
    refine lv_iconst (v := 1) hx hb d_CP_makeWaysTo_40 (by decide) ?_
    refine lv_istore_n (lv' := [(3, .int 1), (2, .int 0), (0, .ref (a 1)), (1, .int x1)]) hx hb d_CP_makeWaysTo_41 rfl hl (by decide) rfl (fun ls hl => ?_)
    obtain ⟨k_26, hw⟩ := hw
    have hE_26 : ∀ (σ_26 : SS) (y2_26 : Int32) (y3_26 : Int32) (H : Heap) (locs : List Loc) (ls : Array Slot), we_CP_makeWaysTo_116 σ_26 y2_26 post → va_P (dC, dI) clsT (wC cI cZ a σ_26) H → va_D A (wC cI cZ a σ_26) → va_S A s.heap H locs → lv_has ls 5 [(2, .int y2_26)] → W p l e { frames := 1, cells := 0, slots := 0, locals := 23 } s m ([.ref (a 1), .int x1] : List Value).toArray below meth c H locs 0 0 (MQ below (va_Qi post (bW (dC, dI) clsT (tyT cI cZ) (wC cI cZ a) A) A) ([.ref (a 1), .int x1] : List Value).toArray s 0 0 A) (F0 m 116 ls []) := by
      intro σ_26 y2_26 y3_26 H locs ls hw hP hD hS hl
      rw [we_CP_makeWaysTo_116] at hw
      refine lv_iload_n hx hb d_CP_makeWaysTo_116 rfl (lv_at hl 0 rfl) ?_
      exact rt_i (w := wC cI cZ a) hx hb hr hlocks hK hP hD hS d_CP_makeWaysTo_117 hw
    have lp_26 : ∀ (kf_26 : Nat) (σ_26 : SS) (y2_26 : Int32) (y3_26 : Int32) (H : Heap) (locs : List Loc) (ls : Array Slot), wl_CP_makeWaysTo_42 x1 (fun σ' y2 y3 => we_CP_makeWaysTo_116 σ' y2 post) post kf_26 σ_26 y2_26 y3_26 → va_P (dC, dI) clsT (wC cI cZ a σ_26) H → va_D A (wC cI cZ a σ_26) → va_S A s.heap H locs → lv_has ls 5 [(0, .ref (a 1)), (1, .int x1), (2, .int y2_26), (3, .int y3_26)] → W p l e { frames := 1, cells := 0, slots := 0, locals := 23 } s m ([.ref (a 1), .int x1] : List Value).toArray below meth c H locs 0 0 (MQ below (va_Qi post (bW (dC, dI) clsT (tyT cI cZ) (wC cI cZ a) A) A) ([.ref (a 1), .int x1] : List Value).toArray s 0 0 A) (F0 m 42 ls []) := by
      intro kf_26
      induction kf_26 with
      | zero => intro σ_26 y2_26 y3_26 H locs ls hw; rw [wl_CP_makeWaysTo_42] at hw; exact hw.elim
      | succ kf_26 ih_26 =>
        intro σ_26 y2_26 y3_26 H locs ls hw hP hD hS hl
        rw [wl_CP_makeWaysTo_42] at hw
        refine lv_iload_n hx hb d_CP_makeWaysTo_42 rfl (lv_at hl 3 rfl) ?_
        refine lv_aload_n hx hb d_CP_makeWaysTo_43 rfl (lv_at hl 0 rfl) ?_
        refine va_get (D := (dC, dI)) (ci := 1) (v := .int (σ_26 1 0)) (C := R_CP) (T := F_CP) (N := 8) hx hb hts in_CP hown hK hP 1 rfl rfl 0 (by decide) (hts (.fieldLink R_CP 37 R_CP "nodes" "I") (tm 0 rfl)) (fun _ h9 => h9) rfl d_CP_makeWaysTo_44 ?_
        refine lv_icmp_ge (tgt := 116) hx hb d_CP_makeWaysTo_47 (by decide) (fun c_27 => ?_) (fun c_27 => ?_)
        · have hw := hw.1 c_27
          exact hE_26 σ_26 y2_26 y3_26 _ _ _ hw hP hD hS (lv_sub hl [2] rfl)
        · have hw := hw.2 c_27
          refine lv_iconst (v := 0) hx hb d_CP_makeWaysTo_50 (by decide) ?_
          refine lv_istore (lv' := [(4, .int 0), (0, .ref (a 1)), (1, .int x1), (2, .int y2_26), (3, .int y3_26)]) hx hb d_CP_makeWaysTo_51 hl (by decide) rfl (fun ls hl => ?_)
          obtain ⟨k_28, hw⟩ := hw
          have hE_28 : ∀ (σ_28 : SS) (y2_28 : Int32) (y4_28 : Int32) (H : Heap) (locs : List Loc) (ls : Array Slot), we_CP_makeWaysTo_110 σ_28 x1 y2_28 y3_26 (wl_CP_makeWaysTo_42 x1 (fun σ' y2 y3 => we_CP_makeWaysTo_116 σ' y2 post) post kf_26) (fun σ' y2 y3 => we_CP_makeWaysTo_116 σ' y2 post) post → va_P (dC, dI) clsT (wC cI cZ a σ_28) H → va_D A (wC cI cZ a σ_28) → va_S A s.heap H locs → lv_has ls 5 [(0, .ref (a 1)), (1, .int x1), (2, .int y2_28), (3, .int y3_26)] → W p l e { frames := 1, cells := 0, slots := 0, locals := 23 } s m ([.ref (a 1), .int x1] : List Value).toArray below meth c H locs 0 0 (MQ below (va_Qi post (bW (dC, dI) clsT (tyT cI cZ) (wC cI cZ a) A) A) ([.ref (a 1), .int x1] : List Value).toArray s 0 0 A) (F0 m 110 ls []) := by
            intro σ_28 y2_28 y4_28 H locs ls hw hP hD hS hl
            rw [we_CP_makeWaysTo_110] at hw
            refine lv_iinc (v := y3_26 + 1) (lv' := [(3, .int (y3_26 + 1)), (0, .ref (a 1)), (1, .int x1), (2, .int y2_28)]) hx hb d_CP_makeWaysTo_110 hl (k := 3) rfl rfl (by decide) rfl (fun ls hl => ?_)
            refine lv_goto (tgt := 42) hx hb d_CP_makeWaysTo_113 (by decide) ?_
            exact ih_26 σ_28 y2_28 (y3_26 + 1) _ _ _ hw hP hD hS (lv_sub hl [1, 2, 3, 0] rfl)
          have lp_28 : ∀ (kf_28 : Nat) (σ_28 : SS) (y2_28 : Int32) (y4_28 : Int32) (H : Heap) (locs : List Loc) (ls : Array Slot), wl_CP_makeWaysTo_53 x1 y3_26 (fun σ' y2 y4 => we_CP_makeWaysTo_110 σ' x1 y2 y3_26 (wl_CP_makeWaysTo_42 x1 (fun σ' y2 y3 => we_CP_makeWaysTo_116 σ' y2 post) post kf_26) (fun σ' y2 y3 => we_CP_makeWaysTo_116 σ' y2 post) post) post kf_28 σ_28 y2_28 y4_28 → va_P (dC, dI) clsT (wC cI cZ a σ_28) H → va_D A (wC cI cZ a σ_28) → va_S A s.heap H locs → lv_has ls 5 [(0, .ref (a 1)), (1, .int x1), (2, .int y2_28), (3, .int y3_26), (4, .int y4_28)] → W p l e { frames := 1, cells := 0, slots := 0, locals := 23 } s m ([.ref (a 1), .int x1] : List Value).toArray below meth c H locs 0 0 (MQ below (va_Qi post (bW (dC, dI) clsT (tyT cI cZ) (wC cI cZ a) A) A) ([.ref (a 1), .int x1] : List Value).toArray s 0 0 A) (F0 m 53 ls []) := by
            intro kf_28
            induction kf_28 with
            | zero => intro σ_28 y2_28 y4_28 H locs ls hw; rw [wl_CP_makeWaysTo_53] at hw; exact hw.elim
            | succ kf_28 ih_28 =>
              intro σ_28 y2_28 y4_28 H locs ls hw hP hD hS hl
              rw [wl_CP_makeWaysTo_53] at hw
              refine lv_iload hx hb d_CP_makeWaysTo_53 (lv_at hl 4 rfl) ?_
              refine lv_aload_n hx hb d_CP_makeWaysTo_55 rfl (lv_at hl 0 rfl) ?_
              refine va_get (D := (dC, dI)) (ci := 1) (v := .int (σ_28 1 1)) (C := R_CP) (T := F_CP) (N := 8) hx hb hts in_CP hown hK hP 1 rfl rfl 1 (by decide) (hts (.fieldLink R_CP 45 R_CP "links" "I") (tm 6 rfl)) (fun _ h9 => h9) rfl d_CP_makeWaysTo_56 ?_
              refine lv_icmp_ge (tgt := 110) hx hb d_CP_makeWaysTo_59 (by decide) (fun c_29 => ?_) (fun c_29 => ?_)
              · have hw := hw.1 c_29
                exact hE_28 σ_28 y2_28 y4_28 _ _ _ hw hP hD hS (lv_sub hl [0, 1, 2, 3] rfl)
              · have hw := hw.2 c_29
                refine lv_aload_n hx hb d_CP_makeWaysTo_62 rfl (lv_at hl 0 rfl) ?_
                refine lv_iload hx hb d_CP_makeWaysTo_63 (lv_at hl 4 rfl) ?_
                refine lv_iload_n hx hb d_CP_makeWaysTo_65 rfl (lv_at hl 3 rfl) ?_
                refine cl_r (va_runV (As := [.int y4_28, .int y3_26]) (rest := []) ⟨hx, hb, hml, hown, hts⟩ (c_CP_bringsNearer l dC dI cI cZ a _ σ_28 y4_28 y3_26 _ hw) (cwV 2 hts (gi_V (tm 33 rfl) (tm 34 rfl) (tm 35 rfl) (tm 4 rfl) (tm 36 rfl)) rfl rfl rfl (by decide +kernel) ⟨Nat.le_of_ble_eq_true rfl, Nat.le_of_ble_eq_true rfl⟩) (pW_V hK hP hD (ci := 1) (k := 1) rfl rfl) rfl rfl hl.1 rfl (lv_room (Nat.le_of_ble_eq_true rfl)) d_CP_makeWaysTo_66 ⟨Nat.zero_le _, Nat.zero_le _⟩) hP hS hA (fun r_30 H locs hw hP hT => ?_)
                have hS := hT _ hA hS
                refine lv_if_eq (tgt := 104) hx hb d_CP_makeWaysTo_69 (by decide) (fun c_31 => ?_) (fun c_31 => ?_)
                · have hw := hw.1 c_31
                  refine lv_iinc (v := y4_28 + 1) (lv' := [(4, .int (y4_28 + 1)), (0, .ref (a 1)), (1, .int x1), (2, .int y2_28), (3, .int y3_26)]) hx hb d_CP_makeWaysTo_104 hl (k := 4) rfl rfl (by decide) rfl (fun ls hl => ?_)
                  refine lv_goto (tgt := 53) hx hb d_CP_makeWaysTo_107 (by decide) ?_
                  exact ih_28 σ_28 y2_28 (y4_28 + 1) _ _ _ hw hP hD hS (lv_sub hl [1, 2, 3, 4, 0] rfl)
                · have hw := hw.2 c_31
                  refine lv_aload_n hx hb d_CP_makeWaysTo_72 rfl (lv_at hl 0 rfl) ?_
                  refine va_get (D := (dC, dI)) (ci := 1) (v := .ref (a 11)) (C := R_CP) (T := F_CP) (N := 8) hx hb hts in_CP hown hK hP 1 rfl rfl 7 (by decide) (hts (.fieldLink R_CP 28 R_CP "distance" "[I") (tm 24 rfl)) (fun _ h9 => h9) rfl d_CP_makeWaysTo_73 ?_
                  refine lv_aload_n hx hb d_CP_makeWaysTo_76 rfl (lv_at hl 0 rfl) ?_
                  refine va_get (D := (dC, dI)) (ci := 1) (v := .ref (a 6)) (C := R_CP) (T := F_CP) (N := 8) hx hb hts in_CP hown hK hP 1 rfl rfl 2 (by decide) (hts (.fieldLink R_CP 9 R_CP "begin" "[I") (tm 7 rfl)) (fun _ h9 => h9) rfl d_CP_makeWaysTo_77 ?_
                  refine lv_iload hx hb d_CP_makeWaysTo_80 (lv_at hl 4 rfl) ?_
                  obtain ⟨hin, hw⟩ := hw
                  refine va_iald hx hb hK hP 6 0 rfl rfl hin d_CP_makeWaysTo_82 ?_
                  refine lv_iload_n hx hb d_CP_makeWaysTo_83 rfl (lv_at hl 3 rfl) ?_
                  obtain ⟨hin, hw⟩ := hw
                  refine st_i (w := wC cI cZ a) hx hb hK hP hD hS 11 0 rfl rfl rfl hin d_CP_makeWaysTo_84 (fun s_32 e_32 H locs hP hD hS => ?_)
                  have hw := hw s_32 e_32
                  refine lv_aload_n hx hb d_CP_makeWaysTo_85 rfl (lv_at hl 0 rfl) ?_
                  refine lv_aload_n hx hb d_CP_makeWaysTo_86 rfl (lv_at hl 0 rfl) ?_
                  refine va_get (D := (dC, dI)) (ci := 1) (v := .ref (a 6)) (C := R_CP) (T := F_CP) (N := 8) hx hb hts in_CP hown hK hP 1 rfl rfl 2 (by decide) (hts (.fieldLink R_CP 9 R_CP "begin" "[I") (tm 7 rfl)) (fun _ h9 => h9) rfl d_CP_makeWaysTo_87 ?_
                  refine lv_iload hx hb d_CP_makeWaysTo_90 (lv_at hl 4 rfl) ?_
                  obtain ⟨hin, hw⟩ := hw
                  refine va_iald hx hb hK hP 6 0 rfl rfl hin d_CP_makeWaysTo_92 ?_
                  refine lv_iload_n hx hb d_CP_makeWaysTo_93 rfl (lv_at hl 1 rfl) ?_
                  refine lv_iload hx hb d_CP_makeWaysTo_94 (lv_at hl 4 rfl) ?_
                  refine lv_iconst (v := 4) hx hb d_CP_makeWaysTo_96 (by decide) ?_
                  refine lv_imul hx hb d_CP_makeWaysTo_97 ?_
                  refine cl_v (va_runV (As := [.int (s_32 6 y4_28.toNatClampNeg), .int x1, .int (y4_28 * 4)]) (rest := []) ⟨hx, hb, hml, hown, hts⟩ (c_CP_changeWay l dC dI cI cZ a _ s_32 (s_32 6 y4_28.toNatClampNeg) x1 (y4_28 * 4) _ hw) (cwV 3 hts (gi_V (tm 29 rfl) (tm 30 rfl) (tm 31 rfl) (tm 4 rfl) (tm 32 rfl)) rfl rfl rfl (by decide +kernel) ⟨Nat.le_of_ble_eq_true rfl, Nat.le_of_ble_eq_true rfl⟩) (pW_V hK hP hD (ci := 1) (k := 1) rfl rfl) rfl rfl hl.1 rfl (lv_room (Nat.le_of_ble_eq_true rfl)) d_CP_makeWaysTo_98 ⟨Nat.zero_le _, Nat.zero_le _⟩) hD hS hA (fun σ_33 H locs hw hP hD hS => ?_)
                  refine lv_iinc (v := y2_28 + 1) (lv' := [(2, .int (y2_28 + 1)), (0, .ref (a 1)), (1, .int x1), (3, .int y3_26), (4, .int y4_28)]) hx hb d_CP_makeWaysTo_101 hl (k := 2) rfl rfl (by decide) rfl (fun ls hl => ?_)
                  refine lv_iinc (v := y4_28 + 1) (lv' := [(4, .int (y4_28 + 1)), (2, .int (y2_28 + 1)), (0, .ref (a 1)), (1, .int x1), (3, .int y3_26)]) hx hb d_CP_makeWaysTo_104 hl (k := 4) rfl rfl (by decide) rfl (fun ls hl => ?_)
                  refine lv_goto (tgt := 53) hx hb d_CP_makeWaysTo_107 (by decide) ?_
                  exact ih_28 σ_33 (y2_28 + 1) (y4_28 + 1) _ _ _ hw hP hD hS (lv_sub hl [2, 3, 1, 4, 0] rfl)
          exact lp_28 k_28 σ_26 y2_26 0 _ _ _ hw hP hD hS (lv_sub hl [1, 2, 3, 4, 0] rfl)
    exact lp_26 k_26 σ_25 0 1 _ _ _ hw hP hD hS (lv_sub hl [2, 3, 1, 0] rfl)
  have lp_25 : ∀ (kf_25 : Nat) (σ_25 : SS) (y2_25 : Int32) (H : Heap) (locs : List Loc) (ls : Array Slot), wl_CP_makeWaysTo_17 x1 (fun σ' y2 => we_CP_makeWaysTo_38 σ' x1 post) post kf_25 σ_25 y2_25 → va_P (dC, dI) clsT (wC cI cZ a σ_25) H → va_D A (wC cI cZ a σ_25) → va_S A s.heap H locs → lv_has ls 5 [(0, .ref (a 1)), (1, .int x1), (2, .int y2_25)] → W p l e { frames := 1, cells := 0, slots := 0, locals := 23 } s m ([.ref (a 1), .int x1] : List Value).toArray below meth c H locs 0 0 (MQ below (va_Qi post (bW (dC, dI) clsT (tyT cI cZ) (wC cI cZ a) A) A) ([.ref (a 1), .int x1] : List Value).toArray s 0 0 A) (F0 m 17 ls []) := by
    intro kf_25
    induction kf_25 with
    | zero => intro σ_25 y2_25 H locs ls hw; rw [wl_CP_makeWaysTo_17] at hw; exact hw.elim
    | succ kf_25 ih_25 =>
      intro σ_25 y2_25 H locs ls hw hP hD hS hl
      rw [wl_CP_makeWaysTo_17] at hw
      refine lv_iload_n hx hb d_CP_makeWaysTo_17 rfl (lv_at hl 2 rfl) ?_
      refine lv_aload_n hx hb d_CP_makeWaysTo_18 rfl (lv_at hl 0 rfl) ?_
      refine va_get (D := (dC, dI)) (ci := 1) (v := .int (σ_25 1 0)) (C := R_CP) (T := F_CP) (N := 8) hx hb hts in_CP hown hK hP 1 rfl rfl 0 (by decide) (hts (.fieldLink R_CP 37 R_CP "nodes" "I") (tm 0 rfl)) (fun _ h9 => h9) rfl d_CP_makeWaysTo_19 ?_
      refine lv_icmp_ge (tgt := 38) hx hb d_CP_makeWaysTo_22 (by decide) (fun c_34 => ?_) (fun c_34 => ?_)
      · have hw := hw.1 c_34
        exact hE_25 σ_25 y2_25 _ _ _ hw hP hD hS (lv_sub hl [0, 1] rfl)
      · have hw := hw.2 c_34
        refine lv_aload_n hx hb d_CP_makeWaysTo_25 rfl (lv_at hl 0 rfl) ?_
        refine lv_iload_n hx hb d_CP_makeWaysTo_26 rfl (lv_at hl 2 rfl) ?_
        refine lv_iload_n hx hb d_CP_makeWaysTo_27 rfl (lv_at hl 1 rfl) ?_
        refine lv_iconst (v := (-1)) hx hb d_CP_makeWaysTo_28 (by decide) ?_
        refine cl_v (va_runV (As := [.int y2_25, .int x1, .int (-1)]) (rest := []) ⟨hx, hb, hml, hown, hts⟩ (c_CP_changeWay l dC dI cI cZ a _ σ_25 y2_25 x1 (-1) _ hw) (cwV 3 hts (gi_V (tm 29 rfl) (tm 30 rfl) (tm 31 rfl) (tm 4 rfl) (tm 32 rfl)) rfl rfl rfl (by decide +kernel) ⟨Nat.le_of_ble_eq_true rfl, Nat.le_of_ble_eq_true rfl⟩) (pW_V hK hP hD (ci := 1) (k := 1) rfl rfl) rfl rfl hl.1 rfl (lv_room (Nat.le_of_ble_eq_true rfl)) d_CP_makeWaysTo_29 ⟨Nat.zero_le _, Nat.zero_le _⟩) hD hS hA (fun σ_35 H locs hw hP hD hS => ?_)
        refine lv_iinc (v := y2_25 + 1) (lv' := [(2, .int (y2_25 + 1)), (0, .ref (a 1)), (1, .int x1)]) hx hb d_CP_makeWaysTo_32 hl (k := 2) rfl rfl (by decide) rfl (fun ls hl => ?_)
        refine lv_goto (tgt := 17) hx hb d_CP_makeWaysTo_35 (by decide) ?_
        exact ih_25 σ_35 (y2_25 + 1) _ _ _ hw hP hD hS (lv_sub hl [1, 2, 0] rfl)
  exact lp_25 k_25 s_2 0 _ _ _ hw hP hD hS (lv_sub hl [1, 2, 0] rfl)
set_option maxHeartbeats 4000000 in
set_option maxRecDepth 100000 in
theorem c_CP_breakLink (l : Launch) (dC : Nat → ClassId) (dI : Nat → Nat → Nat) (cI cZ : ClassId) (a : Nat → Nat) (sz : Nat) (σ : SS) (x1 : Int32) (post : Int32 → SS → Prop) (hw : wp_CP_breakLink σ x1 post) : Met l y_CP_breakLink (.code y_CP_breakLink b_CP_breakLink 4 (some .int) :: TT) { frames := 0, cells := 0, slots := 0, locals := 0 } (pW (dC, dI) clsT (tyT cI cZ) [.ref (a 1), .int x1] sz (wC cI cZ a σ)) (va_Qi post (bW (dC, dI) clsT (tyT cI cZ) (wC cI cZ a) (va_A (wC cI cZ a σ) sz)) (va_A (wC cI cZ a σ) sz)) 0 0 (va_A (wC cI cZ a σ) sz) := by
  refine hd (Qf := fun A => (va_Qi post (bW (dC, dI) clsT (tyT cI cZ) (wC cI cZ a) A) A)) (by decide) (Nat.le_of_ble_eq_true rfl) ?_
  intro p e s m below meth c A ls hx hb hr hts hown hlocks hml hK hP hD hS hA hl
  have hown : s.vm.findClass R_CP = some m.cls := hown
  have hl : lv_has ls 4 [(0, .ref (a 1)), (1, .int x1)] := hl
  rw [wp_CP_breakLink] at hw
  refine lv_aload_n hx hb d_CP_breakLink_0 rfl (lv_at hl 0 rfl) ?_
  refine va_get (D := (dC, dI)) (ci := 1) (v := .ref (a 9)) (C := R_CP) (T := F_CP) (N := 8) hx hb hts in_CP hown hK hP 1 rfl rfl 5 (by decide) (hts (.fieldLink R_CP 21 R_CP "failed" "[Z") (tm 15 rfl)) (fun _ h9 => h9) rfl d_CP_breakLink_1 ?_
  refine lv_iload_n hx hb d_CP_breakLink_4 rfl (lv_at hl 1 rfl) ?_
  refine lv_iconst (v := 1) hx hb d_CP_breakLink_5 (by decide) ?_
  obtain ⟨hin, hw⟩ := hw
  refine st_z (w := wC cI cZ a) hx hb hK hP hD hS 9 1 rfl rfl (by decide +kernel) rfl hin d_CP_breakLink_6 (fun s_1 e_1 H locs hP hD hS => ?_)
  have hw := hw s_1 e_1
  refine lv_iconst (v := 0) hx hb d_CP_breakLink_7 (by decide) ?_
  refine lv_istore_n (lv' := [(2, .int 0), (0, .ref (a 1)), (1, .int x1)]) hx hb d_CP_breakLink_8 rfl hl (by decide) rfl (fun ls hl => ?_)
  refine lv_iconst (v := 0) hx hb d_CP_breakLink_9 (by decide) ?_
  refine lv_istore_n (lv' := [(3, .int 0), (2, .int 0), (0, .ref (a 1)), (1, .int x1)]) hx hb d_CP_breakLink_10 rfl hl (by decide) rfl (fun ls hl => ?_)
  obtain ⟨k_6, hw⟩ := hw
  have hE_6 : ∀ (σ_6 : SS) (y2_6 : Int32) (y3_6 : Int32) (H : Heap) (locs : List Loc) (ls : Array Slot), we_CP_breakLink_56 σ_6 y2_6 post → va_P (dC, dI) clsT (wC cI cZ a σ_6) H → va_D A (wC cI cZ a σ_6) → va_S A s.heap H locs → lv_has ls 4 [(2, .int y2_6)] → W p l e { frames := 0, cells := 0, slots := 0, locals := 0 } s m ([.ref (a 1), .int x1] : List Value).toArray below meth c H locs 0 0 (MQ below (va_Qi post (bW (dC, dI) clsT (tyT cI cZ) (wC cI cZ a) A) A) ([.ref (a 1), .int x1] : List Value).toArray s 0 0 A) (F0 m 56 ls []) := by
    intro σ_6 y2_6 y3_6 H locs ls hw hP hD hS hl
    rw [we_CP_breakLink_56] at hw
    refine lv_iload_n hx hb d_CP_breakLink_56 rfl (lv_at hl 0 rfl) ?_
    exact rt_i (w := wC cI cZ a) hx hb hr hlocks hK hP hD hS d_CP_breakLink_57 hw
  have lp_6 : ∀ (kf_6 : Nat) (σ_6 : SS) (y2_6 : Int32) (y3_6 : Int32) (H : Heap) (locs : List Loc) (ls : Array Slot), wl_CP_breakLink_11 x1 (fun σ' y2 y3 => we_CP_breakLink_56 σ' y2 post) post kf_6 σ_6 y2_6 y3_6 → va_P (dC, dI) clsT (wC cI cZ a σ_6) H → va_D A (wC cI cZ a σ_6) → va_S A s.heap H locs → lv_has ls 4 [(0, .ref (a 1)), (1, .int x1), (2, .int y2_6), (3, .int y3_6)] → W p l e { frames := 0, cells := 0, slots := 0, locals := 0 } s m ([.ref (a 1), .int x1] : List Value).toArray below meth c H locs 0 0 (MQ below (va_Qi post (bW (dC, dI) clsT (tyT cI cZ) (wC cI cZ a) A) A) ([.ref (a 1), .int x1] : List Value).toArray s 0 0 A) (F0 m 11 ls []) := by
    intro kf_6
    induction kf_6 with
    | zero => intro σ_6 y2_6 y3_6 H locs ls hw; rw [wl_CP_breakLink_11] at hw; exact hw.elim
    | succ kf_6 ih_6 =>
      intro σ_6 y2_6 y3_6 H locs ls hw hP hD hS hl
      rw [wl_CP_breakLink_11] at hw
      refine lv_iload_n hx hb d_CP_breakLink_11 rfl (lv_at hl 3 rfl) ?_
      refine lv_sipush (v := 256) hx hb d_CP_breakLink_12 (by decide) ?_
      refine lv_icmp_ge (tgt := 56) hx hb d_CP_breakLink_15 (by decide) (fun c_7 => ?_) (fun c_7 => ?_)
      · have hw := hw.1 c_7
        exact hE_6 σ_6 y2_6 y3_6 _ _ _ hw hP hD hS (lv_sub hl [2] rfl)
      · have hw := hw.2 c_7
        refine lv_aload_n hx hb d_CP_breakLink_18 rfl (lv_at hl 0 rfl) ?_
        refine va_get (D := (dC, dI)) (ci := 1) (v := .ref (a 10)) (C := R_CP) (T := F_CP) (N := 8) hx hb hts in_CP hown hK hP 1 rfl rfl 6 (by decide) (hts (.fieldLink R_CP 25 R_CP "ways" "[I") (tm 10 rfl)) (fun _ h9 => h9) rfl d_CP_breakLink_19 ?_
        refine lv_iload_n hx hb d_CP_breakLink_22 rfl (lv_at hl 3 rfl) ?_
        obtain ⟨hin, hw⟩ := hw
        refine va_iald hx hb hK hP 10 0 rfl rfl hin d_CP_breakLink_23 ?_
        refine lv_iconst (v := (-1)) hx hb d_CP_breakLink_24 (by decide) ?_
        refine lv_icmp_eq (tgt := 50) hx hb d_CP_breakLink_25 (by decide) (fun c_8 => ?_) (fun c_8 => ?_)
        · have hw := hw.1 c_8
          refine lv_iinc (v := y3_6 + 1) (lv' := [(3, .int (y3_6 + 1)), (0, .ref (a 1)), (1, .int x1), (2, .int y2_6)]) hx hb d_CP_breakLink_50 hl (k := 3) rfl rfl (by decide) rfl (fun ls hl => ?_)
          refine lv_goto (tgt := 11) hx hb d_CP_breakLink_53 (by decide) ?_
          exact ih_6 σ_6 y2_6 (y3_6 + 1) _ _ _ hw hP hD hS (lv_sub hl [1, 2, 3, 0] rfl)
        · have hw := hw.2 c_8
          refine lv_aload_n hx hb d_CP_breakLink_28 rfl (lv_at hl 0 rfl) ?_
          refine va_get (D := (dC, dI)) (ci := 1) (v := .ref (a 10)) (C := R_CP) (T := F_CP) (N := 8) hx hb hts in_CP hown hK hP 1 rfl rfl 6 (by decide) (hts (.fieldLink R_CP 25 R_CP "ways" "[I") (tm 10 rfl)) (fun _ h9 => h9) rfl d_CP_breakLink_29 ?_
          refine lv_iload_n hx hb d_CP_breakLink_32 rfl (lv_at hl 3 rfl) ?_
          obtain ⟨hin, hw⟩ := hw
          refine va_iald hx hb hK hP 10 0 rfl rfl hin d_CP_breakLink_33 ?_
          refine lv_iconst (v := 4) hx hb d_CP_breakLink_34 (by decide) ?_
          refine lv_idiv hx hb d_CP_breakLink_35 (by decide) ?_
          refine lv_iload_n hx hb d_CP_breakLink_36 rfl (lv_at hl 1 rfl) ?_
          refine lv_icmp_ne (tgt := 50) hx hb d_CP_breakLink_37 (by decide) (fun c_9 => ?_) (fun c_9 => ?_)
          · have hw := hw.1 c_9
            refine lv_iinc (v := y3_6 + 1) (lv' := [(3, .int (y3_6 + 1)), (0, .ref (a 1)), (1, .int x1), (2, .int y2_6)]) hx hb d_CP_breakLink_50 hl (k := 3) rfl rfl (by decide) rfl (fun ls hl => ?_)
            refine lv_goto (tgt := 11) hx hb d_CP_breakLink_53 (by decide) ?_
            exact ih_6 σ_6 y2_6 (y3_6 + 1) _ _ _ hw hP hD hS (lv_sub hl [1, 2, 3, 0] rfl)
          · have hw := hw.2 c_9
            refine lv_aload_n hx hb d_CP_breakLink_40 rfl (lv_at hl 0 rfl) ?_
            refine va_get (D := (dC, dI)) (ci := 1) (v := .ref (a 10)) (C := R_CP) (T := F_CP) (N := 8) hx hb hts in_CP hown hK hP 1 rfl rfl 6 (by decide) (hts (.fieldLink R_CP 25 R_CP "ways" "[I") (tm 10 rfl)) (fun _ h9 => h9) rfl d_CP_breakLink_41 ?_
            refine lv_iload_n hx hb d_CP_breakLink_44 rfl (lv_at hl 3 rfl) ?_
            refine lv_iconst (v := (-1)) hx hb d_CP_breakLink_45 (by decide) ?_
            obtain ⟨hin, hw⟩ := hw
            refine st_i (w := wC cI cZ a) hx hb hK hP hD hS 10 0 rfl rfl rfl hin d_CP_breakLink_46 (fun s_10 e_10 H locs hP hD hS => ?_)
            have hw := hw s_10 e_10
            refine lv_iinc (v := y2_6 + 1) (lv' := [(2, .int (y2_6 + 1)), (0, .ref (a 1)), (1, .int x1), (3, .int y3_6)]) hx hb d_CP_breakLink_47 hl (k := 2) rfl rfl (by decide) rfl (fun ls hl => ?_)
            refine lv_iinc (v := y3_6 + 1) (lv' := [(3, .int (y3_6 + 1)), (2, .int (y2_6 + 1)), (0, .ref (a 1)), (1, .int x1)]) hx hb d_CP_breakLink_50 hl (k := 3) rfl rfl (by decide) rfl (fun ls hl => ?_)
            refine lv_goto (tgt := 11) hx hb d_CP_breakLink_53 (by decide) ?_
            exact ih_6 s_10 (y2_6 + 1) (y3_6 + 1) _ _ _ hw hP hD hS (lv_sub hl [2, 3, 1, 0] rfl)
  exact lp_6 k_6 s_1 0 0 _ _ _ hw hP hD hS (lv_sub hl [2, 3, 1, 0] rfl)
set_option maxHeartbeats 4000000 in
set_option maxRecDepth 100000 in
theorem c_CK_add (l : Launch) (dC : Nat → ClassId) (dI : Nat → Nat → Nat) (cI cZ : ClassId) (a : Nat → Nat) (sz : Nat) (σ : SS) (x1 : Int32) (x2 : Int32) (post : Int32 → SS → Prop) (hw : wp_CK_add σ x1 x2 post) : Met l y_CK_add (.code y_CK_add b_CK_add 4 (some .int) :: TT) { frames := 0, cells := 0, slots := 0, locals := 0 } (pW (dC, dI) clsT (tyT cI cZ) [.ref (a 2), .int x1, .int x2] sz (wC cI cZ a σ)) (va_Qi post (bW (dC, dI) clsT (tyT cI cZ) (wC cI cZ a) (va_A (wC cI cZ a σ) sz)) (va_A (wC cI cZ a σ) sz)) 0 0 (va_A (wC cI cZ a σ) sz) := by
  refine hd (Qf := fun A => (va_Qi post (bW (dC, dI) clsT (tyT cI cZ) (wC cI cZ a) A) A)) (by decide) (Nat.le_of_ble_eq_true rfl) ?_
  intro p e s m below meth c A ls hx hb hr hts hown hlocks hml hK hP hD hS hA hl
  have hown : s.vm.findClass R_CK = some m.cls := hown
  have hl : lv_has ls 4 [(0, .ref (a 2)), (1, .int x1), (2, .int x2)] := hl
  rw [wp_CK_add] at hw
  refine lv_aload_n hx hb d_CK_add_0 rfl (lv_at hl 0 rfl) ?_
  refine va_get (D := (dC, dI)) (ci := 2) (v := .int (σ 2 0)) (C := R_CK) (T := F_CK) (N := 7) hx hb hts in_CK hown hK hP 2 rfl rfl 0 (by decide) (hts (.fieldLink R_CK 27 R_CK "many" "I") (tm 37 rfl)) (fun _ h9 => h9) rfl d_CK_add_1 ?_
  refine lv_topi (fun v_1 ev_1 => ?_)
  have hw := hw v_1 ev_1
  refine lv_istore_n (lv' := [(3, .int v_1), (0, .ref (a 2)), (1, .int x1), (2, .int x2)]) hx hb d_CK_add_4 rfl hl (by decide) rfl (fun ls hl => ?_)
  refine lv_aload_n hx hb d_CK_add_5 rfl (lv_at hl 1 rfl) ?_
  refine va_get (D := (dC, dI)) (ci := 2) (v := .ref (a 12)) (C := R_CK) (T := F_CK) (N := 7) hx hb hts in_CK hown hK hP 2 rfl rfl 2 (by decide) (hts (.fieldLink R_CK 9 R_CK "end" "[I") (tm 38 rfl)) (fun _ h9 => h9) rfl d_CK_add_6 ?_
  refine lv_iload_n hx hb d_CK_add_9 rfl (lv_at hl 0 rfl) ?_
  refine lv_iload_n hx hb d_CK_add_10 rfl (lv_at hl 2 rfl) ?_
  obtain ⟨hin, hw⟩ := hw
  refine st_i (w := wC cI cZ a) hx hb hK hP hD hS 12 0 rfl rfl rfl hin d_CK_add_11 (fun s_2 e_2 H locs hP hD hS => ?_)
  have hw := hw s_2 e_2
  refine lv_aload_n hx hb d_CK_add_12 rfl (lv_at hl 1 rfl) ?_
  refine va_get (D := (dC, dI)) (ci := 2) (v := .ref (a 13)) (C := R_CK) (T := F_CK) (N := 7) hx hb hts in_CK hown hK hP 2 rfl rfl 3 (by decide) (hts (.fieldLink R_CK 15 R_CK "flits" "[I") (tm 39 rfl)) (fun _ h9 => h9) rfl d_CK_add_13 ?_
  refine lv_iload_n hx hb d_CK_add_16 rfl (lv_at hl 0 rfl) ?_
  refine lv_iload_n hx hb d_CK_add_17 rfl (lv_at hl 3 rfl) ?_
  obtain ⟨hin, hw⟩ := hw
  refine st_i (w := wC cI cZ a) hx hb hK hP hD hS 13 0 rfl rfl rfl hin d_CK_add_18 (fun s_3 e_3 H locs hP hD hS => ?_)
  have hw := hw s_3 e_3
  refine lv_aload_n hx hb d_CK_add_19 rfl (lv_at hl 1 rfl) ?_
  refine va_get (D := (dC, dI)) (ci := 2) (v := .ref (a 14)) (C := R_CK) (T := F_CK) (N := 7) hx hb hts in_CK hown hK hP 2 rfl rfl 4 (by decide) (hts (.fieldLink R_CK 18 R_CK "waiting" "[I") (tm 40 rfl)) (fun _ h9 => h9) rfl d_CK_add_20 ?_
  refine lv_iload_n hx hb d_CK_add_23 rfl (lv_at hl 0 rfl) ?_
  refine lv_iload_n hx hb d_CK_add_24 rfl (lv_at hl 3 rfl) ?_
  obtain ⟨hin, hw⟩ := hw
  refine st_i (w := wC cI cZ a) hx hb hK hP hD hS 14 0 rfl rfl rfl hin d_CK_add_25 (fun s_4 e_4 H locs hP hD hS => ?_)
  have hw := hw s_4 e_4
  refine lv_aload_n hx hb d_CK_add_26 rfl (lv_at hl 1 rfl) ?_
  refine lv_dup hx hb d_CK_add_27 rfl ?_
  refine va_get (D := (dC, dI)) (ci := 2) (v := .int (s_4 2 0)) (C := R_CK) (T := F_CK) (N := 7) hx hb hts in_CK hown hK hP 2 rfl rfl 0 (by decide) (hts (.fieldLink R_CK 27 R_CK "many" "I") (tm 37 rfl)) (fun _ h9 => h9) rfl d_CK_add_28 ?_
  refine lv_iconst (v := 1) hx hb d_CK_add_31 (by decide) ?_
  refine lv_iadd hx hb d_CK_add_32 ?_
  refine st_f (D := (dC, dI)) (w := wC cI cZ a) (ci := 2) (C := R_CK) (T := F_CK) (N := 7) hx hb hts in_CK t_CK t_CK_ok n_CK hown hK hP hD hS 2 rfl rfl 0 (by decide) (hts (.fieldLink R_CK 27 R_CK "many" "I") (tm 37 rfl)) (fun _ h9 => h9) rfl (by decide +kernel) (Nat.le_of_ble_eq_true rfl) rfl d_CK_add_33 (fun s_5 e_5 H locs hP hD hS => ?_)
  have hw := hw s_5 e_5
  refine lv_iload_n hx hb d_CK_add_36 rfl (lv_at hl 0 rfl) ?_
  exact rt_i (w := wC cI cZ a) hx hb hr hlocks hK hP hD hS d_CK_add_37 hw
set_option maxHeartbeats 4000000 in
set_option maxRecDepth 100000 in
theorem c_CI_lineUp (l : Launch) (dC : Nat → ClassId) (dI : Nat → Nat → Nat) (cI cZ : ClassId) (a : Nat → Nat) (sz : Nat) (σ : SS) (x1 : Int32) (x2 : Int32) (post : SS → Prop) (hw : wp_CI_lineUp σ x1 x2 post) : Met l y_CI_lineUp (.code y_CI_lineUp b_CI_lineUp 4 none :: TT) { frames := 0, cells := 0, slots := 0, locals := 0 } (pW (dC, dI) clsT (tyT cI cZ) [.ref (a 3), .int x1, .int x2] sz (wC cI cZ a σ)) (va_Qv post (bW (dC, dI) clsT (tyT cI cZ) (wC cI cZ a) (va_A (wC cI cZ a σ) sz)) (va_A (wC cI cZ a σ) sz)) 0 0 (va_A (wC cI cZ a σ) sz) := by
  refine hd (Qf := fun A => (va_Qv post (bW (dC, dI) clsT (tyT cI cZ) (wC cI cZ a) A) A)) (by decide) (Nat.le_of_ble_eq_true rfl) ?_
  intro p e s m below meth c A ls hx hb hr hts hown hlocks hml hK hP hD hS hA hl
  have hown : s.vm.findClass R_CI = some m.cls := hown
  have hl : lv_has ls 4 [(0, .ref (a 3)), (1, .int x1), (2, .int x2)] := hl
  rw [wp_CI_lineUp] at hw
  refine lv_aload_n hx hb d_CI_lineUp_0 rfl (lv_at hl 0 rfl) ?_
  refine va_get (D := (dC, dI)) (ci := 3) (v := .ref (a 18)) (C := R_CI) (T := F_CI) (N := 8) hx hb hts in_CI hown hK hP 3 rfl rfl 3 (by decide) (hts (.fieldLink R_CI 15 R_CI "lastPacket" "[I") (tm 41 rfl)) (fun _ h9 => h9) rfl d_CI_lineUp_1 ?_
  refine lv_iload_n hx hb d_CI_lineUp_4 rfl (lv_at hl 1 rfl) ?_
  obtain ⟨hin, hw⟩ := hw
  refine va_iald hx hb hK hP 18 0 rfl rfl hin d_CI_lineUp_5 ?_
  refine lv_topi (fun v_1 ev_1 => ?_)
  have hw := hw v_1 ev_1
  refine lv_istore_n (lv' := [(3, .int v_1), (0, .ref (a 3)), (1, .int x1), (2, .int x2)]) hx hb d_CI_lineUp_6 rfl hl (by decide) rfl (fun ls hl => ?_)
  refine lv_aload_n hx hb d_CI_lineUp_7 rfl (lv_at hl 1 rfl) ?_
  refine va_get (D := (dC, dI)) (ci := 3) (v := .ref (a 17)) (C := R_CI) (T := F_CI) (N := 8) hx hb hts in_CI hown hK hP 3 rfl rfl 2 (by decide) (hts (.fieldLink R_CI 9 R_CI "firstPacket" "[I") (tm 42 rfl)) (fun _ h9 => h9) rfl d_CI_lineUp_8 ?_
  refine lv_iload_n hx hb d_CI_lineUp_11 rfl (lv_at hl 2 rfl) ?_
  obtain ⟨hin, hw⟩ := hw
  refine va_iald hx hb hK hP 17 0 rfl rfl hin d_CI_lineUp_12 ?_
  refine lv_iconst (v := (-1)) hx hb d_CI_lineUp_13 (by decide) ?_
  refine lv_icmp_eq (tgt := 22) hx hb d_CI_lineUp_14 (by decide) (fun c_2 => ?_) (fun c_2 => ?_)
  · have hw := hw.1 c_2
    refine lv_aload_n hx hb d_CI_lineUp_22 rfl (lv_at hl 1 rfl) ?_
    refine va_get (D := (dC, dI)) (ci := 3) (v := .ref (a 17)) (C := R_CI) (T := F_CI) (N := 8) hx hb hts in_CI hown hK hP 3 rfl rfl 2 (by decide) (hts (.fieldLink R_CI 9 R_CI "firstPacket" "[I") (tm 42 rfl)) (fun _ h9 => h9) rfl d_CI_lineUp_23 ?_
    refine lv_iload_n hx hb d_CI_lineUp_26 rfl (lv_at hl 2 rfl) ?_
    refine lv_iload_n hx hb d_CI_lineUp_27 rfl (lv_at hl 3 rfl) ?_
    obtain ⟨hin, hw⟩ := hw
    refine st_i (w := wC cI cZ a) hx hb hK hP hD hS 17 0 rfl rfl rfl hin d_CI_lineUp_28 (fun s_3 e_3 H locs hP hD hS => ?_)
    have hw := hw s_3 e_3
    refine lv_goto (tgt := 39) hx hb d_CI_lineUp_29 (by decide) ?_
    refine lv_aload_n hx hb d_CI_lineUp_39 rfl (lv_at hl 1 rfl) ?_
    refine va_get (D := (dC, dI)) (ci := 3) (v := .ref (a 18)) (C := R_CI) (T := F_CI) (N := 8) hx hb hts in_CI hown hK hP 3 rfl rfl 3 (by decide) (hts (.fieldLink R_CI 15 R_CI "lastPacket" "[I") (tm 41 rfl)) (fun _ h9 => h9) rfl d_CI_lineUp_40 ?_
    refine lv_iload_n hx hb d_CI_lineUp_43 rfl (lv_at hl 2 rfl) ?_
    refine lv_iload_n hx hb d_CI_lineUp_44 rfl (lv_at hl 3 rfl) ?_
    obtain ⟨hin, hw⟩ := hw
    refine st_i (w := wC cI cZ a) hx hb hK hP hD hS 18 0 rfl rfl rfl hin d_CI_lineUp_45 (fun s_4 e_4 H locs hP hD hS => ?_)
    have hw := hw s_4 e_4
    exact rt_v (w := wC cI cZ a) hx hb hr hlocks hK hP hD hS d_CI_lineUp_46 hw
  · have hw := hw.2 c_2
    refine lv_iload_n hx hb d_CI_lineUp_17 rfl (lv_at hl 0 rfl) ?_
    refine lv_iconst (v := (-1)) hx hb d_CI_lineUp_18 (by decide) ?_
    refine lv_icmp_ne (tgt := 32) hx hb d_CI_lineUp_19 (by decide) (fun c_5 => ?_) (fun c_5 => ?_)
    · have hw := hw.1 c_5
      refine lv_aload_n hx hb d_CI_lineUp_32 rfl (lv_at hl 1 rfl) ?_
      refine va_get (D := (dC, dI)) (ci := 3) (v := .ref (a 19)) (C := R_CI) (T := F_CI) (N := 8) hx hb hts in_CI hown hK hP 3 rfl rfl 4 (by decide) (hts (.fieldLink R_CI 18 R_CI "packetBehind" "[I") (tm 43 rfl)) (fun _ h9 => h9) rfl d_CI_lineUp_33 ?_
      refine lv_iload_n hx hb d_CI_lineUp_36 rfl (lv_at hl 0 rfl) ?_
      refine lv_iload_n hx hb d_CI_lineUp_37 rfl (lv_at hl 3 rfl) ?_
      obtain ⟨hin, hw⟩ := hw
      refine st_i (w := wC cI cZ a) hx hb hK hP hD hS 19 0 rfl rfl rfl hin d_CI_lineUp_38 (fun s_6 e_6 H locs hP hD hS => ?_)
      have hw := hw s_6 e_6
      refine lv_aload_n hx hb d_CI_lineUp_39 rfl (lv_at hl 1 rfl) ?_
      refine va_get (D := (dC, dI)) (ci := 3) (v := .ref (a 18)) (C := R_CI) (T := F_CI) (N := 8) hx hb hts in_CI hown hK hP 3 rfl rfl 3 (by decide) (hts (.fieldLink R_CI 15 R_CI "lastPacket" "[I") (tm 41 rfl)) (fun _ h9 => h9) rfl d_CI_lineUp_40 ?_
      refine lv_iload_n hx hb d_CI_lineUp_43 rfl (lv_at hl 2 rfl) ?_
      refine lv_iload_n hx hb d_CI_lineUp_44 rfl (lv_at hl 3 rfl) ?_
      obtain ⟨hin, hw⟩ := hw
      refine st_i (w := wC cI cZ a) hx hb hK hP hD hS 18 0 rfl rfl rfl hin d_CI_lineUp_45 (fun s_7 e_7 H locs hP hD hS => ?_)
      have hw := hw s_7 e_7
      exact rt_v (w := wC cI cZ a) hx hb hr hlocks hK hP hD hS d_CI_lineUp_46 hw
    · have hw := hw.2 c_5
      refine lv_aload_n hx hb d_CI_lineUp_22 rfl (lv_at hl 1 rfl) ?_
      refine va_get (D := (dC, dI)) (ci := 3) (v := .ref (a 17)) (C := R_CI) (T := F_CI) (N := 8) hx hb hts in_CI hown hK hP 3 rfl rfl 2 (by decide) (hts (.fieldLink R_CI 9 R_CI "firstPacket" "[I") (tm 42 rfl)) (fun _ h9 => h9) rfl d_CI_lineUp_23 ?_
      refine lv_iload_n hx hb d_CI_lineUp_26 rfl (lv_at hl 2 rfl) ?_
      refine lv_iload_n hx hb d_CI_lineUp_27 rfl (lv_at hl 3 rfl) ?_
      obtain ⟨hin, hw⟩ := hw
      refine st_i (w := wC cI cZ a) hx hb hK hP hD hS 17 0 rfl rfl rfl hin d_CI_lineUp_28 (fun s_8 e_8 H locs hP hD hS => ?_)
      have hw := hw s_8 e_8
      refine lv_goto (tgt := 39) hx hb d_CI_lineUp_29 (by decide) ?_
      refine lv_aload_n hx hb d_CI_lineUp_39 rfl (lv_at hl 1 rfl) ?_
      refine va_get (D := (dC, dI)) (ci := 3) (v := .ref (a 18)) (C := R_CI) (T := F_CI) (N := 8) hx hb hts in_CI hown hK hP 3 rfl rfl 3 (by decide) (hts (.fieldLink R_CI 15 R_CI "lastPacket" "[I") (tm 41 rfl)) (fun _ h9 => h9) rfl d_CI_lineUp_40 ?_
      refine lv_iload_n hx hb d_CI_lineUp_43 rfl (lv_at hl 2 rfl) ?_
      refine lv_iload_n hx hb d_CI_lineUp_44 rfl (lv_at hl 3 rfl) ?_
      obtain ⟨hin, hw⟩ := hw
      refine st_i (w := wC cI cZ a) hx hb hK hP hD hS 18 0 rfl rfl rfl hin d_CI_lineUp_45 (fun s_9 e_9 H locs hP hD hS => ?_)
      have hw := hw s_9 e_9
      exact rt_v (w := wC cI cZ a) hx hb hr hlocks hK hP hD hS d_CI_lineUp_46 hw
