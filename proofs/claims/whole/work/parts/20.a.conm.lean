set_option maxHeartbeats 4000000 in
set_option maxRecDepth 100000 in
theorem c_M_thrown (l : Launch) (dC : Nat → ClassId) (dI : Nat → Nat → Nat) (cI cZ : ClassId) (a : Nat → Nat) (sz : Nat) (σ : SS) (post : Int32 → Prop) (hw : wp_M_thrown σ post) : Met l y_M_thrown (.code y_M_thrown b_M_thrown 1 (some .int) :: TT) { frames := 0, cells := 0, slots := 0, locals := 0 } (pW (dC, dI) clsT (tyT cI cZ) [.ref (a 0)] sz (wM cI cZ a σ)) (va_Qi (fun r (_ : Unit) => post r) (fun _ _ => True) (fun q => sz ≤ q)) 0 0 (fun q => sz ≤ q) := by
  refine hdr (Qf := fun A => (va_Qi (fun r (_ : Unit) => post r) (fun _ _ => True) A)) (by decide) (Nat.le_of_ble_eq_true rfl) ?_
  intro p e s m below meth c A ls hx hb hr hts hown hlocks hml hK hP hD hS hA hl
  have hown : s.vm.findClass R_M = some m.cls := hown
  have hl : lv_has ls 1 [(0, .ref (a 0))] := hl
  rw [wp_M_thrown] at hw
  refine lv_aload_n hx hb d_M_thrown_0 rfl (lv_at hl 0 rfl) ?_
  refine va_get (D := (dC, dI)) (ci := 6) (v := .int (σ 0 0)) (C := R_M) (T := F_M) (N := 30) hx hb hts in_M hown hK hP 0 rfl rfl 0 (by decide) (hts (.fieldLink R_M 78 R_M "thrown" "I") (tm 316 rfl)) (fun _ h9 => h9) rfl d_M_thrown_1 ?_
  exact rr_i hx hb hr hlocks hS d_M_thrown_4 hw
set_option maxHeartbeats 4000000 in
set_option maxRecDepth 100000 in
theorem c_M_wrong (l : Launch) (dC : Nat → ClassId) (dI : Nat → Nat → Nat) (cI cZ : ClassId) (a : Nat → Nat) (sz : Nat) (σ : SS) (x1 : Int32) (post : Int32 → SS → Prop) (hw : wp_M_wrong σ x1 post) : Met l y_M_wrong (.code y_M_wrong b_M_wrong 2 (some .int) :: TT) { frames := 0, cells := 0, slots := 0, locals := 0 } (pW (dC, dI) clsT (tyT cI cZ) [.ref (a 0), .int x1] sz (wM cI cZ a σ)) (va_Qi post (bW (dC, dI) clsT (tyT cI cZ) (wM cI cZ a) (va_A (wM cI cZ a σ) sz)) (va_A (wM cI cZ a σ) sz)) 0 0 (va_A (wM cI cZ a σ) sz) := by
  refine hd (Qf := fun A => (va_Qi post (bW (dC, dI) clsT (tyT cI cZ) (wM cI cZ a) A) A)) (by decide) (Nat.le_of_ble_eq_true rfl) ?_
  intro p e s m below meth c A ls hx hb hr hts hown hlocks hml hK hP hD hS hA hl
  have hown : s.vm.findClass R_M = some m.cls := hown
  have hl : lv_has ls 2 [(0, .ref (a 0)), (1, .int x1)] := hl
  rw [wp_M_wrong] at hw
  refine lv_aload_n hx hb d_M_wrong_0 rfl (lv_at hl 0 rfl) ?_
  refine lv_iload_n hx hb d_M_wrong_1 rfl (lv_at hl 1 rfl) ?_
  refine st_f (D := (dC, dI)) (w := wM cI cZ a) (ci := 6) (C := R_M) (T := F_M) (N := 30) hx hb hts in_M t_M t_M_ok n_M hown hK hP hD hS 0 rfl rfl 0 (by decide) (hts (.fieldLink R_M 78 R_M "thrown" "I") (tm 316 rfl)) (fun _ h9 => h9) rfl (by decide +kernel) (Nat.le_of_ble_eq_true rfl) rfl d_M_wrong_2 (fun s_1 e_1 H locs hP hD hS => ?_)
  have hw := hw s_1 e_1
  refine lv_iconst (v := 0) hx hb d_M_wrong_5 (by decide) ?_
  exact rt_i (w := wM cI cZ a) hx hb hr hlocks hK hP hD hS d_M_wrong_6 hw
set_option maxHeartbeats 4000000 in
set_option maxRecDepth 100000 in
theorem c_M_within (l : Launch) (dC : Nat → ClassId) (dI : Nat → Nat → Nat) (cI cZ : ClassId) (a : Nat → Nat) (sz : Nat) (σ : SS) (x0 : Int32) (x1 : Int32) (x2 : Int32) (post : Int32 → Prop) (hw : wp_M_within σ x0 x1 x2 post) : Met l y_M_within (.code y_M_within b_M_within 3 (some .boolean) :: TT) { frames := 0, cells := 0, slots := 0, locals := 0 } (pW (dC, dI) clsT (tyT cI cZ) [.int x0, .int x1, .int x2] sz (wM cI cZ a σ)) (va_Qi (fun r (_ : Unit) => post r) (fun _ _ => True) (fun q => sz ≤ q)) 0 0 (fun q => sz ≤ q) := by
  refine hdr (Qf := fun A => (va_Qi (fun r (_ : Unit) => post r) (fun _ _ => True) A)) (by decide) (Nat.le_of_ble_eq_true rfl) ?_
  intro p e s m below meth c A ls hx hb hr hts hown hlocks hml hK hP hD hS hA hl
  have hown : s.vm.findClass R_M = some m.cls := hown
  have hl : lv_has ls 3 [(0, .int x0), (1, .int x1), (2, .int x2)] := hl
  rw [wp_M_within] at hw
  refine lv_iload_n hx hb d_M_within_0 rfl (lv_at hl 0 rfl) ?_
  refine lv_iload_n hx hb d_M_within_1 rfl (lv_at hl 1 rfl) ?_
  refine lv_icmp_lt (tgt := 14) hx hb d_M_within_2 (by decide) (fun c_1 => ?_) (fun c_1 => ?_)
  · have hw := hw.1 c_1
    refine lv_iconst (v := 0) hx hb d_M_within_14 (by decide) ?_
    exact rr_z hx hb hr hlocks hS d_M_within_15 (Or.inl rfl) hw
  · have hw := hw.2 c_1
    refine lv_iload_n hx hb d_M_within_5 rfl (lv_at hl 0 rfl) ?_
    refine lv_iload_n hx hb d_M_within_6 rfl (lv_at hl 2 rfl) ?_
    refine lv_icmp_gt (tgt := 14) hx hb d_M_within_7 (by decide) (fun c_2 => ?_) (fun c_2 => ?_)
    · have hw := hw.1 c_2
      refine lv_iconst (v := 0) hx hb d_M_within_14 (by decide) ?_
      exact rr_z hx hb hr hlocks hS d_M_within_15 (Or.inl rfl) hw
    · have hw := hw.2 c_2
      refine lv_iconst (v := 1) hx hb d_M_within_10 (by decide) ?_
      refine lv_goto (tgt := 15) hx hb d_M_within_11 (by decide) ?_
      exact rr_z hx hb hr hlocks hS d_M_within_15 (Or.inr rfl) hw
set_option maxHeartbeats 4000000 in
set_option maxRecDepth 100000 in
theorem c_M_isNode (l : Launch) (dC : Nat → ClassId) (dI : Nat → Nat → Nat) (cI cZ : ClassId) (a : Nat → Nat) (sz : Nat) (σ : SS) (x1 : Int32) (post : Int32 → Prop) (hw : wp_M_isNode σ x1 post) : Met l y_M_isNode (.code y_M_isNode b_M_isNode 2 (some .boolean) :: TT) { frames := 1, cells := 0, slots := 0, locals := 22 } (pW (dC, dI) clsT (tyT cI cZ) [.ref (a 0), .int x1] sz (wM cI cZ a σ)) (va_Qi (fun r (_ : Unit) => post r) (fun _ _ => True) (fun q => sz ≤ q)) 0 0 (fun q => sz ≤ q) := by
  refine hdr (Qf := fun A => (va_Qi (fun r (_ : Unit) => post r) (fun _ _ => True) A)) (by decide) (Nat.le_of_ble_eq_true rfl) ?_
  intro p e s m below meth c A ls hx hb hr hts hown hlocks hml hK hP hD hS hA hl
  have hown : s.vm.findClass R_M = some m.cls := hown
  have hl : lv_has ls 2 [(0, .ref (a 0)), (1, .int x1)] := hl
  rw [wp_M_isNode] at hw
  refine lv_iload_n hx hb d_M_isNode_0 rfl (lv_at hl 1 rfl) ?_
  refine lv_iconst (v := 0) hx hb d_M_isNode_1 (by decide) ?_
  refine lv_aload_n hx hb d_M_isNode_2 rfl (lv_at hl 0 rfl) ?_
  refine va_get (D := (dC, dI)) (ci := 6) (v := .int (σ 0 2)) (C := R_M) (T := F_M) (N := 30) hx hb hts in_M hown hK hP 0 rfl rfl 2 (by decide) (hts (.fieldLink R_M 81 R_M "nodes" "I") (tm 317 rfl)) (fun _ h9 => h9) rfl d_M_isNode_3 ?_
  refine lv_iconst (v := 1) hx hb d_M_isNode_6 (by decide) ?_
  refine lv_isub hx hb d_M_isNode_7 ?_
  refine cl_r (va_runS (As := [.int x1, .int 0, .int ((σ 0 2) - 1)]) (rest := []) ⟨hx, hb, hml, hown, hts⟩ (c_M_within l dC dI cI cZ a _ σ x1 0 ((σ 0 2) - 1) _ hw) (cwS 3 hts (gi_S (tm 318 rfl) (tm 319 rfl) (tm 320 rfl) (tm 321 rfl)) rfl rfl rfl (by decide +kernel) ⟨Nat.le_of_ble_eq_true rfl, Nat.le_of_ble_eq_true rfl⟩) (pW_S hK hP hD) rfl rfl hl.1 rfl (lv_room (Nat.le_of_ble_eq_true rfl)) d_M_isNode_8 ⟨Nat.zero_le _, Nat.zero_le _⟩) hP hS hA (fun r_1 H locs hw hP hT => ?_)
  have hS := hT _ hA hS
  exact rr_z hx hb hr hlocks hS d_M_isNode_11 hw.1 hw.2
set_option maxHeartbeats 4000000 in
set_option maxRecDepth 100000 in
theorem c_M_isChannel (l : Launch) (dC : Nat → ClassId) (dI : Nat → Nat → Nat) (cI cZ : ClassId) (a : Nat → Nat) (sz : Nat) (σ : SS) (x1 : Int32) (post : Int32 → Prop) (hw : wp_M_isChannel σ x1 post) : Met l y_M_isChannel (.code y_M_isChannel b_M_isChannel 2 (some .boolean) :: TT) { frames := 1, cells := 0, slots := 0, locals := 22 } (pW (dC, dI) clsT (tyT cI cZ) [.ref (a 0), .int x1] sz (wM cI cZ a σ)) (va_Qi (fun r (_ : Unit) => post r) (fun _ _ => True) (fun q => sz ≤ q)) 0 0 (fun q => sz ≤ q) := by
  refine hdr (Qf := fun A => (va_Qi (fun r (_ : Unit) => post r) (fun _ _ => True) A)) (by decide) (Nat.le_of_ble_eq_true rfl) ?_
  intro p e s m below meth c A ls hx hb hr hts hown hlocks hml hK hP hD hS hA hl
  have hown : s.vm.findClass R_M = some m.cls := hown
  have hl : lv_has ls 2 [(0, .ref (a 0)), (1, .int x1)] := hl
  rw [wp_M_isChannel] at hw
  refine lv_iload_n hx hb d_M_isChannel_0 rfl (lv_at hl 1 rfl) ?_
  refine lv_iconst (v := 0) hx hb d_M_isChannel_1 (by decide) ?_
  refine lv_iconst (v := 4) hx hb d_M_isChannel_2 (by decide) ?_
  refine lv_aload_n hx hb d_M_isChannel_3 rfl (lv_at hl 0 rfl) ?_
  refine va_get (D := (dC, dI)) (ci := 6) (v := .int (σ 0 3)) (C := R_M) (T := F_M) (N := 30) hx hb hts in_M hown hK hP 0 rfl rfl 3 (by decide) (hts (.fieldLink R_M 88 R_M "links" "I") (tm 322 rfl)) (fun _ h9 => h9) rfl d_M_isChannel_4 ?_
  refine lv_imul hx hb d_M_isChannel_7 ?_
  refine lv_iconst (v := 1) hx hb d_M_isChannel_8 (by decide) ?_
  refine lv_isub hx hb d_M_isChannel_9 ?_
  refine cl_r (va_runS (As := [.int x1, .int 0, .int ((4 * (σ 0 3)) - 1)]) (rest := []) ⟨hx, hb, hml, hown, hts⟩ (c_M_within l dC dI cI cZ a _ σ x1 0 ((4 * (σ 0 3)) - 1) _ hw) (cwS 3 hts (gi_S (tm 318 rfl) (tm 319 rfl) (tm 320 rfl) (tm 321 rfl)) rfl rfl rfl (by decide +kernel) ⟨Nat.le_of_ble_eq_true rfl, Nat.le_of_ble_eq_true rfl⟩) (pW_S hK hP hD) rfl rfl hl.1 rfl (lv_room (Nat.le_of_ble_eq_true rfl)) d_M_isChannel_10 ⟨Nat.zero_le _, Nat.zero_le _⟩) hP hS hA (fun r_1 H locs hw hP hT => ?_)
  have hS := hT _ hA hS
  refine lv_if_eq (tgt := 34) hx hb d_M_isChannel_13 (by decide) (fun c_2 => ?_) (fun c_2 => ?_)
  · have hw := hw.1 c_2
    refine lv_iconst (v := 0) hx hb d_M_isChannel_34 (by decide) ?_
    exact rr_z hx hb hr hlocks hS d_M_isChannel_35 (Or.inl rfl) hw
  · have hw := hw.2 c_2
    refine lv_iload_n hx hb d_M_isChannel_16 rfl (lv_at hl 1 rfl) ?_
    refine lv_iconst (v := 4) hx hb d_M_isChannel_17 (by decide) ?_
    refine lv_irem hx hb d_M_isChannel_18 (by decide) ?_
    refine lv_aload_n hx hb d_M_isChannel_19 rfl (lv_at hl 0 rfl) ?_
    refine va_get (D := (dC, dI)) (ci := 6) (v := .ref (a 3)) (C := R_M) (T := F_M) (N := 30) hx hb hts in_M hown hK hP 0 rfl rfl 11 (by decide) (hts (.fieldLink R_M 16 R_M "width" "[I") (tm 323 rfl)) (fun _ h9 => h9) rfl d_M_isChannel_20 ?_
    refine lv_iload_n hx hb d_M_isChannel_23 rfl (lv_at hl 1 rfl) ?_
    refine lv_iconst (v := 4) hx hb d_M_isChannel_24 (by decide) ?_
    refine lv_idiv hx hb d_M_isChannel_25 (by decide) ?_
    obtain ⟨hin, hw⟩ := hw
    refine va_iald hx hb hK hP 3 0 rfl rfl hin d_M_isChannel_26 ?_
    refine lv_icmp_ge (tgt := 34) hx hb d_M_isChannel_27 (by decide) (fun c_3 => ?_) (fun c_3 => ?_)
    · have hw := hw.1 c_3
      refine lv_iconst (v := 0) hx hb d_M_isChannel_34 (by decide) ?_
      exact rr_z hx hb hr hlocks hS d_M_isChannel_35 (Or.inl rfl) hw
    · have hw := hw.2 c_3
      refine lv_iconst (v := 1) hx hb d_M_isChannel_30 (by decide) ?_
      refine lv_goto (tgt := 35) hx hb d_M_isChannel_31 (by decide) ?_
      exact rr_z hx hb hr hlocks hS d_M_isChannel_35 (Or.inr rfl) hw
set_option maxHeartbeats 4000000 in
set_option maxRecDepth 100000 in
theorem c_M_node (l : Launch) (dC : Nat → ClassId) (dI : Nat → Nat → Nat) (cI cZ : ClassId) (a : Nat → Nat) (sz : Nat) (σ : SS) (post : Int32 → SS → Prop) (hw : wp_M_node σ post) : Met l y_M_node (.code y_M_node b_M_node 1 (some .int) :: TT) { frames := 1, cells := 0, slots := 0, locals := 21 } (pW (dC, dI) clsT (tyT cI cZ) [.ref (a 0)] sz (wM cI cZ a σ)) (va_Qi post (bW (dC, dI) clsT (tyT cI cZ) (wM cI cZ a) (va_A (wM cI cZ a σ) sz)) (va_A (wM cI cZ a σ) sz)) 0 0 (va_A (wM cI cZ a σ) sz) := by
  refine hd (Qf := fun A => (va_Qi post (bW (dC, dI) clsT (tyT cI cZ) (wM cI cZ a) A) A)) (by decide) (Nat.le_of_ble_eq_true rfl) ?_
  intro p e s m below meth c A ls hx hb hr hts hown hlocks hml hK hP hD hS hA hl
  have hown : s.vm.findClass R_M = some m.cls := hown
  have hl : lv_has ls 1 [(0, .ref (a 0))] := hl
  rw [wp_M_node] at hw
  refine lv_aload_n hx hb d_M_node_0 rfl (lv_at hl 0 rfl) ?_
  refine lv_iconst (v := 0) hx hb d_M_node_1 (by decide) ?_
  refine st_f (D := (dC, dI)) (w := wM cI cZ a) (ci := 6) (C := R_M) (T := F_M) (N := 30) hx hb hts in_M t_M t_M_ok n_M hown hK hP hD hS 0 rfl rfl 0 (by decide) (hts (.fieldLink R_M 78 R_M "thrown" "I") (tm 316 rfl)) (fun _ h9 => h9) rfl (by decide +kernel) (Nat.le_of_ble_eq_true rfl) rfl d_M_node_2 (fun s_1 e_1 H locs hP hD hS => ?_)
  have hw := hw s_1 e_1
  refine lv_aload_n hx hb d_M_node_5 rfl (lv_at hl 0 rfl) ?_
  refine va_get (D := (dC, dI)) (ci := 6) (v := .int (s_1 0 2)) (C := R_M) (T := F_M) (N := 30) hx hb hts in_M hown hK hP 0 rfl rfl 2 (by decide) (hts (.fieldLink R_M 81 R_M "nodes" "I") (tm 317 rfl)) (fun _ h9 => h9) rfl d_M_node_6 ?_
  refine lv_bipush (v := 16) hx hb d_M_node_9 (by decide) ?_
  refine lv_icmp_ne (tgt := 20) hx hb d_M_node_11 (by decide) (fun c_2 => ?_) (fun c_2 => ?_)
  · have hw := hw.1 c_2
    refine lv_aload_n hx hb d_M_node_20 rfl (lv_at hl 0 rfl) ?_
    refine lv_dup hx hb d_M_node_21 rfl ?_
    refine va_get (D := (dC, dI)) (ci := 6) (v := .int (s_1 0 2)) (C := R_M) (T := F_M) (N := 30) hx hb hts in_M hown hK hP 0 rfl rfl 2 (by decide) (hts (.fieldLink R_M 81 R_M "nodes" "I") (tm 317 rfl)) (fun _ h9 => h9) rfl d_M_node_22 ?_
    refine lv_iconst (v := 1) hx hb d_M_node_25 (by decide) ?_
    refine lv_iadd hx hb d_M_node_26 ?_
    refine st_f (D := (dC, dI)) (w := wM cI cZ a) (ci := 6) (C := R_M) (T := F_M) (N := 30) hx hb hts in_M t_M t_M_ok n_M hown hK hP hD hS 0 rfl rfl 2 (by decide) (hts (.fieldLink R_M 81 R_M "nodes" "I") (tm 317 rfl)) (fun _ h9 => h9) rfl (by decide +kernel) (Nat.le_of_ble_eq_true rfl) rfl d_M_node_27 (fun s_3 e_3 H locs hP hD hS => ?_)
    have hw := hw s_3 e_3
    refine lv_aload_n hx hb d_M_node_30 rfl (lv_at hl 0 rfl) ?_
    refine va_get (D := (dC, dI)) (ci := 6) (v := .int (s_3 0 2)) (C := R_M) (T := F_M) (N := 30) hx hb hts in_M hown hK hP 0 rfl rfl 2 (by decide) (hts (.fieldLink R_M 81 R_M "nodes" "I") (tm 317 rfl)) (fun _ h9 => h9) rfl d_M_node_31 ?_
    refine lv_iconst (v := 1) hx hb d_M_node_34 (by decide) ?_
    refine lv_isub hx hb d_M_node_35 ?_
    exact rt_i (w := wM cI cZ a) hx hb hr hlocks hK hP hD hS d_M_node_36 hw
  · have hw := hw.2 c_2
    refine lv_aload_n hx hb d_M_node_14 rfl (lv_at hl 0 rfl) ?_
    refine lv_iconst (v := 1) hx hb d_M_node_15 (by decide) ?_
    refine cl_i (va_runV (As := [.int 1]) (rest := []) ⟨hx, hb, hml, hown, hts⟩ (c_M_wrong l dC dI cI cZ a _ s_1 1 _ hw) (cwV 1 hts (gi_V (tm 324 rfl) (tm 325 rfl) (tm 326 rfl) (tm 320 rfl) (tm 327 rfl)) rfl rfl rfl (by decide +kernel) ⟨Nat.le_of_ble_eq_true rfl, Nat.le_of_ble_eq_true rfl⟩) (pW_V hK hP hD (ci := 6) (k := 0) rfl rfl) rfl rfl hl.1 rfl (lv_room (Nat.le_of_ble_eq_true rfl)) d_M_node_16 ⟨Nat.zero_le _, Nat.zero_le _⟩) hD hS hA (fun r_4 σ_4 H locs hw hP hD hS => ?_)
    exact rt_i (w := wM cI cZ a) hx hb hr hlocks hK hP hD hS d_M_node_19 hw
set_option maxHeartbeats 4000000 in
set_option maxRecDepth 100000 in
theorem c_M_link (l : Launch) (dC : Nat → ClassId) (dI : Nat → Nat → Nat) (cI cZ : ClassId) (a : Nat → Nat) (sz : Nat) (σ : SS) (x1 : Int32) (x2 : Int32) (x3 : Int32) (post : Int32 → SS → Prop) (hw : wp_M_link σ x1 x2 x3 post) : Met l y_M_link (.code y_M_link b_M_link 4 (some .int) :: TT) { frames := 2, cells := 0, slots := 0, locals := 43 } (pW (dC, dI) clsT (tyT cI cZ) [.ref (a 0), .int x1, .int x2, .int x3] sz (wM cI cZ a σ)) (va_Qi post (bW (dC, dI) clsT (tyT cI cZ) (wM cI cZ a) (va_A (wM cI cZ a σ) sz)) (va_A (wM cI cZ a σ) sz)) 0 0 (va_A (wM cI cZ a σ) sz) := by
  refine hd (Qf := fun A => (va_Qi post (bW (dC, dI) clsT (tyT cI cZ) (wM cI cZ a) A) A)) (by decide) (Nat.le_of_ble_eq_true rfl) ?_
  intro p e s m below meth c A ls hx hb hr hts hown hlocks hml hK hP hD hS hA hl
  have hown : s.vm.findClass R_M = some m.cls := hown
  have hl : lv_has ls 4 [(0, .ref (a 0)), (1, .int x1), (2, .int x2), (3, .int x3)] := hl
  rw [wp_M_link] at hw
  refine lv_aload_n hx hb d_M_link_0 rfl (lv_at hl 0 rfl) ?_
  refine lv_iconst (v := 0) hx hb d_M_link_1 (by decide) ?_
  refine st_f (D := (dC, dI)) (w := wM cI cZ a) (ci := 6) (C := R_M) (T := F_M) (N := 30) hx hb hts in_M t_M t_M_ok n_M hown hK hP hD hS 0 rfl rfl 0 (by decide) (hts (.fieldLink R_M 78 R_M "thrown" "I") (tm 316 rfl)) (fun _ h9 => h9) rfl (by decide +kernel) (Nat.le_of_ble_eq_true rfl) rfl d_M_link_2 (fun s_1 e_1 H locs hP hD hS => ?_)
  have hw := hw s_1 e_1
  refine lv_aload_n hx hb d_M_link_5 rfl (lv_at hl 0 rfl) ?_
  refine lv_iload_n hx hb d_M_link_6 rfl (lv_at hl 1 rfl) ?_
  refine cl_r (va_runV (As := [.int x1]) (rest := []) ⟨hx, hb, hml, hown, hts⟩ (c_M_isNode l dC dI cI cZ a _ s_1 x1 _ hw) (cwV 1 hts (gi_V (tm 330 rfl) (tm 331 rfl) (tm 332 rfl) (tm 320 rfl) (tm 333 rfl)) rfl rfl rfl (by decide +kernel) ⟨Nat.le_of_ble_eq_true rfl, Nat.le_of_ble_eq_true rfl⟩) (pW_V hK hP hD (ci := 6) (k := 0) rfl rfl) rfl rfl hl.1 rfl (lv_room (Nat.le_of_ble_eq_true rfl)) d_M_link_7 ⟨Nat.zero_le _, Nat.zero_le _⟩) hP hS hA (fun r_2 H locs hw hP hT => ?_)
  have hS := hT _ hA hS
  refine lv_if_eq (tgt := 35) hx hb d_M_link_10 (by decide) (fun c_3 => ?_) (fun c_3 => ?_)
  · have hw := hw.1 c_3
    refine lv_aload_n hx hb d_M_link_35 rfl (lv_at hl 0 rfl) ?_
    refine lv_iconst (v := 1) hx hb d_M_link_36 (by decide) ?_
    refine cl_i (va_runV (As := [.int 1]) (rest := []) ⟨hx, hb, hml, hown, hts⟩ (c_M_wrong l dC dI cI cZ a _ s_1 1 _ hw) (cwV 1 hts (gi_V (tm 324 rfl) (tm 325 rfl) (tm 326 rfl) (tm 320 rfl) (tm 327 rfl)) rfl rfl rfl (by decide +kernel) ⟨Nat.le_of_ble_eq_true rfl, Nat.le_of_ble_eq_true rfl⟩) (pW_V hK hP hD (ci := 6) (k := 0) rfl rfl) rfl rfl hl.1 rfl (lv_room (Nat.le_of_ble_eq_true rfl)) d_M_link_37 ⟨Nat.zero_le _, Nat.zero_le _⟩) hD hS hA (fun r_4 σ_4 H locs hw hP hD hS => ?_)
    exact rt_i (w := wM cI cZ a) hx hb hr hlocks hK hP hD hS d_M_link_40 hw
  · have hw := hw.2 c_3
    refine lv_aload_n hx hb d_M_link_13 rfl (lv_at hl 0 rfl) ?_
    refine lv_iload_n hx hb d_M_link_14 rfl (lv_at hl 2 rfl) ?_
    refine cl_r (va_runV (As := [.int x2]) (rest := []) ⟨hx, hb, hml, hown, hts⟩ (c_M_isNode l dC dI cI cZ a _ s_1 x2 _ hw) (cwV 1 hts (gi_V (tm 330 rfl) (tm 331 rfl) (tm 332 rfl) (tm 320 rfl) (tm 333 rfl)) rfl rfl rfl (by decide +kernel) ⟨Nat.le_of_ble_eq_true rfl, Nat.le_of_ble_eq_true rfl⟩) (pW_V hK hP hD (ci := 6) (k := 0) rfl rfl) rfl rfl hl.1 rfl (lv_room (Nat.le_of_ble_eq_true rfl)) d_M_link_15 ⟨Nat.zero_le _, Nat.zero_le _⟩) hP hS hA (fun r_5 H locs hw hP hT => ?_)
    have hS := hT _ hA hS
    refine lv_if_eq (tgt := 35) hx hb d_M_link_18 (by decide) (fun c_6 => ?_) (fun c_6 => ?_)
    · have hw := hw.1 c_6
      refine lv_aload_n hx hb d_M_link_35 rfl (lv_at hl 0 rfl) ?_
      refine lv_iconst (v := 1) hx hb d_M_link_36 (by decide) ?_
      refine cl_i (va_runV (As := [.int 1]) (rest := []) ⟨hx, hb, hml, hown, hts⟩ (c_M_wrong l dC dI cI cZ a _ s_1 1 _ hw) (cwV 1 hts (gi_V (tm 324 rfl) (tm 325 rfl) (tm 326 rfl) (tm 320 rfl) (tm 327 rfl)) rfl rfl rfl (by decide +kernel) ⟨Nat.le_of_ble_eq_true rfl, Nat.le_of_ble_eq_true rfl⟩) (pW_V hK hP hD (ci := 6) (k := 0) rfl rfl) rfl rfl hl.1 rfl (lv_room (Nat.le_of_ble_eq_true rfl)) d_M_link_37 ⟨Nat.zero_le _, Nat.zero_le _⟩) hD hS hA (fun r_7 σ_7 H locs hw hP hD hS => ?_)
      exact rt_i (w := wM cI cZ a) hx hb hr hlocks hK hP hD hS d_M_link_40 hw
    · have hw := hw.2 c_6
      refine lv_iload_n hx hb d_M_link_21 rfl (lv_at hl 1 rfl) ?_
      refine lv_iload_n hx hb d_M_link_22 rfl (lv_at hl 2 rfl) ?_
      refine lv_icmp_eq (tgt := 35) hx hb d_M_link_23 (by decide) (fun c_8 => ?_) (fun c_8 => ?_)
      · have hw := hw.1 c_8
        refine lv_aload_n hx hb d_M_link_35 rfl (lv_at hl 0 rfl) ?_
        refine lv_iconst (v := 1) hx hb d_M_link_36 (by decide) ?_
        refine cl_i (va_runV (As := [.int 1]) (rest := []) ⟨hx, hb, hml, hown, hts⟩ (c_M_wrong l dC dI cI cZ a _ s_1 1 _ hw) (cwV 1 hts (gi_V (tm 324 rfl) (tm 325 rfl) (tm 326 rfl) (tm 320 rfl) (tm 327 rfl)) rfl rfl rfl (by decide +kernel) ⟨Nat.le_of_ble_eq_true rfl, Nat.le_of_ble_eq_true rfl⟩) (pW_V hK hP hD (ci := 6) (k := 0) rfl rfl) rfl rfl hl.1 rfl (lv_room (Nat.le_of_ble_eq_true rfl)) d_M_link_37 ⟨Nat.zero_le _, Nat.zero_le _⟩) hD hS hA (fun r_9 σ_9 H locs hw hP hD hS => ?_)
        exact rt_i (w := wM cI cZ a) hx hb hr hlocks hK hP hD hS d_M_link_40 hw
      · have hw := hw.2 c_8
        refine lv_iload_n hx hb d_M_link_26 rfl (lv_at hl 3 rfl) ?_
        refine lv_iconst (v := 1) hx hb d_M_link_27 (by decide) ?_
        refine lv_iconst (v := 4) hx hb d_M_link_28 (by decide) ?_
        refine cl_r (va_runS (As := [.int x3, .int 1, .int 4]) (rest := []) ⟨hx, hb, hml, hown, hts⟩ (c_M_within l dC dI cI cZ a _ s_1 x3 1 4 _ hw) (cwS 3 hts (gi_S (tm 318 rfl) (tm 319 rfl) (tm 320 rfl) (tm 321 rfl)) rfl rfl rfl (by decide +kernel) ⟨Nat.le_of_ble_eq_true rfl, Nat.le_of_ble_eq_true rfl⟩) (pW_S hK hP hD) rfl rfl hl.1 rfl (lv_room (Nat.le_of_ble_eq_true rfl)) d_M_link_29 ⟨Nat.zero_le _, Nat.zero_le _⟩) hP hS hA (fun r_10 H locs hw hP hT => ?_)
        have hS := hT _ hA hS
        refine lv_if_ne (tgt := 41) hx hb d_M_link_32 (by decide) (fun c_11 => ?_) (fun c_11 => ?_)
        · have hw := hw.1 c_11
          refine lv_aload_n hx hb d_M_link_41 rfl (lv_at hl 0 rfl) ?_
          refine va_get (D := (dC, dI)) (ci := 6) (v := .int (s_1 0 3)) (C := R_M) (T := F_M) (N := 30) hx hb hts in_M hown hK hP 0 rfl rfl 3 (by decide) (hts (.fieldLink R_M 88 R_M "links" "I") (tm 322 rfl)) (fun _ h9 => h9) rfl d_M_link_42 ?_
          refine lv_bipush (v := 40) hx hb d_M_link_45 (by decide) ?_
          refine lv_icmp_ne (tgt := 56) hx hb d_M_link_47 (by decide) (fun c_12 => ?_) (fun c_12 => ?_)
          · have hw := hw.1 c_12
            refine lv_aload_n hx hb d_M_link_56 rfl (lv_at hl 0 rfl) ?_
            refine va_get (D := (dC, dI)) (ci := 6) (v := .ref (a 1)) (C := R_M) (T := F_M) (N := 30) hx hb hts in_M hown hK hP 0 rfl rfl 9 (by decide) (hts (.fieldLink R_M 7 R_M "from" "[I") (tm 328 rfl)) (fun _ h9 => h9) rfl d_M_link_57 ?_
            refine lv_aload_n hx hb d_M_link_60 rfl (lv_at hl 0 rfl) ?_
            refine va_get (D := (dC, dI)) (ci := 6) (v := .int (s_1 0 3)) (C := R_M) (T := F_M) (N := 30) hx hb hts in_M hown hK hP 0 rfl rfl 3 (by decide) (hts (.fieldLink R_M 88 R_M "links" "I") (tm 322 rfl)) (fun _ h9 => h9) rfl d_M_link_61 ?_
            refine lv_iload_n hx hb d_M_link_64 rfl (lv_at hl 1 rfl) ?_
            obtain ⟨hin, hw⟩ := hw
            refine st_i (w := wM cI cZ a) hx hb hK hP hD hS 1 0 rfl rfl rfl hin d_M_link_65 (fun s_13 e_13 H locs hP hD hS => ?_)
            have hw := hw s_13 e_13
            refine lv_aload_n hx hb d_M_link_66 rfl (lv_at hl 0 rfl) ?_
            refine va_get (D := (dC, dI)) (ci := 6) (v := .ref (a 2)) (C := R_M) (T := F_M) (N := 30) hx hb hts in_M hown hK hP 0 rfl rfl 10 (by decide) (hts (.fieldLink R_M 13 R_M "to" "[I") (tm 329 rfl)) (fun _ h9 => h9) rfl d_M_link_67 ?_
            refine lv_aload_n hx hb d_M_link_70 rfl (lv_at hl 0 rfl) ?_
            refine va_get (D := (dC, dI)) (ci := 6) (v := .int (s_13 0 3)) (C := R_M) (T := F_M) (N := 30) hx hb hts in_M hown hK hP 0 rfl rfl 3 (by decide) (hts (.fieldLink R_M 88 R_M "links" "I") (tm 322 rfl)) (fun _ h9 => h9) rfl d_M_link_71 ?_
            refine lv_iload_n hx hb d_M_link_74 rfl (lv_at hl 2 rfl) ?_
            obtain ⟨hin, hw⟩ := hw
            refine st_i (w := wM cI cZ a) hx hb hK hP hD hS 2 0 rfl rfl rfl hin d_M_link_75 (fun s_14 e_14 H locs hP hD hS => ?_)
            have hw := hw s_14 e_14
            refine lv_aload_n hx hb d_M_link_76 rfl (lv_at hl 0 rfl) ?_
            refine va_get (D := (dC, dI)) (ci := 6) (v := .ref (a 3)) (C := R_M) (T := F_M) (N := 30) hx hb hts in_M hown hK hP 0 rfl rfl 11 (by decide) (hts (.fieldLink R_M 16 R_M "width" "[I") (tm 323 rfl)) (fun _ h9 => h9) rfl d_M_link_77 ?_
            refine lv_aload_n hx hb d_M_link_80 rfl (lv_at hl 0 rfl) ?_
            refine va_get (D := (dC, dI)) (ci := 6) (v := .int (s_14 0 3)) (C := R_M) (T := F_M) (N := 30) hx hb hts in_M hown hK hP 0 rfl rfl 3 (by decide) (hts (.fieldLink R_M 88 R_M "links" "I") (tm 322 rfl)) (fun _ h9 => h9) rfl d_M_link_81 ?_
            refine lv_iload_n hx hb d_M_link_84 rfl (lv_at hl 3 rfl) ?_
            obtain ⟨hin, hw⟩ := hw
            refine st_i (w := wM cI cZ a) hx hb hK hP hD hS 3 0 rfl rfl rfl hin d_M_link_85 (fun s_15 e_15 H locs hP hD hS => ?_)
            have hw := hw s_15 e_15
            refine lv_aload_n hx hb d_M_link_86 rfl (lv_at hl 0 rfl) ?_
            refine lv_dup hx hb d_M_link_87 rfl ?_
            refine va_get (D := (dC, dI)) (ci := 6) (v := .int (s_15 0 3)) (C := R_M) (T := F_M) (N := 30) hx hb hts in_M hown hK hP 0 rfl rfl 3 (by decide) (hts (.fieldLink R_M 88 R_M "links" "I") (tm 322 rfl)) (fun _ h9 => h9) rfl d_M_link_88 ?_
            refine lv_iconst (v := 1) hx hb d_M_link_91 (by decide) ?_
            refine lv_iadd hx hb d_M_link_92 ?_
            refine st_f (D := (dC, dI)) (w := wM cI cZ a) (ci := 6) (C := R_M) (T := F_M) (N := 30) hx hb hts in_M t_M t_M_ok n_M hown hK hP hD hS 0 rfl rfl 3 (by decide) (hts (.fieldLink R_M 88 R_M "links" "I") (tm 322 rfl)) (fun _ h9 => h9) rfl (by decide +kernel) (Nat.le_of_ble_eq_true rfl) rfl d_M_link_93 (fun s_16 e_16 H locs hP hD hS => ?_)
            have hw := hw s_16 e_16
            refine lv_aload_n hx hb d_M_link_96 rfl (lv_at hl 0 rfl) ?_
            refine va_get (D := (dC, dI)) (ci := 6) (v := .int (s_16 0 3)) (C := R_M) (T := F_M) (N := 30) hx hb hts in_M hown hK hP 0 rfl rfl 3 (by decide) (hts (.fieldLink R_M 88 R_M "links" "I") (tm 322 rfl)) (fun _ h9 => h9) rfl d_M_link_97 ?_
            refine lv_iconst (v := 1) hx hb d_M_link_100 (by decide) ?_
            refine lv_isub hx hb d_M_link_101 ?_
            exact rt_i (w := wM cI cZ a) hx hb hr hlocks hK hP hD hS d_M_link_102 hw
          · have hw := hw.2 c_12
            refine lv_aload_n hx hb d_M_link_50 rfl (lv_at hl 0 rfl) ?_
            refine lv_iconst (v := 2) hx hb d_M_link_51 (by decide) ?_
            refine cl_i (va_runV (As := [.int 2]) (rest := []) ⟨hx, hb, hml, hown, hts⟩ (c_M_wrong l dC dI cI cZ a _ s_1 2 _ hw) (cwV 1 hts (gi_V (tm 324 rfl) (tm 325 rfl) (tm 326 rfl) (tm 320 rfl) (tm 327 rfl)) rfl rfl rfl (by decide +kernel) ⟨Nat.le_of_ble_eq_true rfl, Nat.le_of_ble_eq_true rfl⟩) (pW_V hK hP hD (ci := 6) (k := 0) rfl rfl) rfl rfl hl.1 rfl (lv_room (Nat.le_of_ble_eq_true rfl)) d_M_link_52 ⟨Nat.zero_le _, Nat.zero_le _⟩) hD hS hA (fun r_17 σ_17 H locs hw hP hD hS => ?_)
            exact rt_i (w := wM cI cZ a) hx hb hr hlocks hK hP hD hS d_M_link_55 hw
        · have hw := hw.2 c_11
          refine lv_aload_n hx hb d_M_link_35 rfl (lv_at hl 0 rfl) ?_
          refine lv_iconst (v := 1) hx hb d_M_link_36 (by decide) ?_
          refine cl_i (va_runV (As := [.int 1]) (rest := []) ⟨hx, hb, hml, hown, hts⟩ (c_M_wrong l dC dI cI cZ a _ s_1 1 _ hw) (cwV 1 hts (gi_V (tm 324 rfl) (tm 325 rfl) (tm 326 rfl) (tm 320 rfl) (tm 327 rfl)) rfl rfl rfl (by decide +kernel) ⟨Nat.le_of_ble_eq_true rfl, Nat.le_of_ble_eq_true rfl⟩) (pW_V hK hP hD (ci := 6) (k := 0) rfl rfl) rfl rfl hl.1 rfl (lv_room (Nat.le_of_ble_eq_true rfl)) d_M_link_37 ⟨Nat.zero_le _, Nat.zero_le _⟩) hD hS hA (fun r_18 σ_18 H locs hw hP hD hS => ?_)
          exact rt_i (w := wM cI cZ a) hx hb hr hlocks hK hP hD hS d_M_link_40 hw
set_option maxHeartbeats 4000000 in
set_option maxRecDepth 100000 in
theorem c_M_route (l : Launch) (dC : Nat → ClassId) (dI : Nat → Nat → Nat) (cI cZ : ClassId) (a : Nat → Nat) (sz : Nat) (σ : SS) (x1 : Int32) (x2 : Int32) (x3 : Int32) (post : Int32 → SS → Prop) (hw : wp_M_route σ x1 x2 x3 post) : Met l y_M_route (.code y_M_route b_M_route 5 (some .int) :: TT) { frames := 2, cells := 0, slots := 0, locals := 43 } (pW (dC, dI) clsT (tyT cI cZ) [.ref (a 0), .int x1, .int x2, .int x3] sz (wM cI cZ a σ)) (va_Qi post (bW (dC, dI) clsT (tyT cI cZ) (wM cI cZ a) (va_A (wM cI cZ a σ) sz)) (va_A (wM cI cZ a σ) sz)) 0 0 (va_A (wM cI cZ a σ) sz) := by
  refine hd (Qf := fun A => (va_Qi post (bW (dC, dI) clsT (tyT cI cZ) (wM cI cZ a) A) A)) (by decide) (Nat.le_of_ble_eq_true rfl) ?_
  intro p e s m below meth c A ls hx hb hr hts hown hlocks hml hK hP hD hS hA hl
  have hown : s.vm.findClass R_M = some m.cls := hown
  have hl : lv_has ls 5 [(0, .ref (a 0)), (1, .int x1), (2, .int x2), (3, .int x3)] := hl
  rw [wp_M_route] at hw
  refine lv_aload_n hx hb d_M_route_0 rfl (lv_at hl 0 rfl) ?_
  refine lv_iconst (v := 0) hx hb d_M_route_1 (by decide) ?_
  refine st_f (D := (dC, dI)) (w := wM cI cZ a) (ci := 6) (C := R_M) (T := F_M) (N := 30) hx hb hts in_M t_M t_M_ok n_M hown hK hP hD hS 0 rfl rfl 0 (by decide) (hts (.fieldLink R_M 78 R_M "thrown" "I") (tm 316 rfl)) (fun _ h9 => h9) rfl (by decide +kernel) (Nat.le_of_ble_eq_true rfl) rfl d_M_route_2 (fun s_1 e_1 H locs hP hD hS => ?_)
  have hw := hw s_1 e_1
  refine lv_aload_n hx hb d_M_route_5 rfl (lv_at hl 0 rfl) ?_
  refine lv_iload_n hx hb d_M_route_6 rfl (lv_at hl 1 rfl) ?_
  refine cl_r (va_runV (As := [.int x1]) (rest := []) ⟨hx, hb, hml, hown, hts⟩ (c_M_isNode l dC dI cI cZ a _ s_1 x1 _ hw) (cwV 1 hts (gi_V (tm 330 rfl) (tm 331 rfl) (tm 332 rfl) (tm 320 rfl) (tm 333 rfl)) rfl rfl rfl (by decide +kernel) ⟨Nat.le_of_ble_eq_true rfl, Nat.le_of_ble_eq_true rfl⟩) (pW_V hK hP hD (ci := 6) (k := 0) rfl rfl) rfl rfl hl.1 rfl (lv_room (Nat.le_of_ble_eq_true rfl)) d_M_route_7 ⟨Nat.zero_le _, Nat.zero_le _⟩) hP hS hA (fun r_2 H locs hw hP hT => ?_)
  have hS := hT _ hA hS
  refine lv_if_eq (tgt := 26) hx hb d_M_route_10 (by decide) (fun c_3 => ?_) (fun c_3 => ?_)
  · have hw := hw.1 c_3
    refine lv_aload_n hx hb d_M_route_26 rfl (lv_at hl 0 rfl) ?_
    refine lv_iconst (v := 1) hx hb d_M_route_27 (by decide) ?_
    refine cl_i (va_runV (As := [.int 1]) (rest := []) ⟨hx, hb, hml, hown, hts⟩ (c_M_wrong l dC dI cI cZ a _ s_1 1 _ hw) (cwV 1 hts (gi_V (tm 324 rfl) (tm 325 rfl) (tm 326 rfl) (tm 320 rfl) (tm 327 rfl)) rfl rfl rfl (by decide +kernel) ⟨Nat.le_of_ble_eq_true rfl, Nat.le_of_ble_eq_true rfl⟩) (pW_V hK hP hD (ci := 6) (k := 0) rfl rfl) rfl rfl hl.1 rfl (lv_room (Nat.le_of_ble_eq_true rfl)) d_M_route_28 ⟨Nat.zero_le _, Nat.zero_le _⟩) hD hS hA (fun r_4 σ_4 H locs hw hP hD hS => ?_)
    exact rt_i (w := wM cI cZ a) hx hb hr hlocks hK hP hD hS d_M_route_31 hw
  · have hw := hw.2 c_3
    refine lv_aload_n hx hb d_M_route_13 rfl (lv_at hl 0 rfl) ?_
    refine lv_iload_n hx hb d_M_route_14 rfl (lv_at hl 2 rfl) ?_
    refine cl_r (va_runV (As := [.int x2]) (rest := []) ⟨hx, hb, hml, hown, hts⟩ (c_M_isNode l dC dI cI cZ a _ s_1 x2 _ hw) (cwV 1 hts (gi_V (tm 330 rfl) (tm 331 rfl) (tm 332 rfl) (tm 320 rfl) (tm 333 rfl)) rfl rfl rfl (by decide +kernel) ⟨Nat.le_of_ble_eq_true rfl, Nat.le_of_ble_eq_true rfl⟩) (pW_V hK hP hD (ci := 6) (k := 0) rfl rfl) rfl rfl hl.1 rfl (lv_room (Nat.le_of_ble_eq_true rfl)) d_M_route_15 ⟨Nat.zero_le _, Nat.zero_le _⟩) hP hS hA (fun r_5 H locs hw hP hT => ?_)
    have hS := hT _ hA hS
    refine lv_if_eq (tgt := 26) hx hb d_M_route_18 (by decide) (fun c_6 => ?_) (fun c_6 => ?_)
    · have hw := hw.1 c_6
      refine lv_aload_n hx hb d_M_route_26 rfl (lv_at hl 0 rfl) ?_
      refine lv_iconst (v := 1) hx hb d_M_route_27 (by decide) ?_
      refine cl_i (va_runV (As := [.int 1]) (rest := []) ⟨hx, hb, hml, hown, hts⟩ (c_M_wrong l dC dI cI cZ a _ s_1 1 _ hw) (cwV 1 hts (gi_V (tm 324 rfl) (tm 325 rfl) (tm 326 rfl) (tm 320 rfl) (tm 327 rfl)) rfl rfl rfl (by decide +kernel) ⟨Nat.le_of_ble_eq_true rfl, Nat.le_of_ble_eq_true rfl⟩) (pW_V hK hP hD (ci := 6) (k := 0) rfl rfl) rfl rfl hl.1 rfl (lv_room (Nat.le_of_ble_eq_true rfl)) d_M_route_28 ⟨Nat.zero_le _, Nat.zero_le _⟩) hD hS hA (fun r_7 σ_7 H locs hw hP hD hS => ?_)
      exact rt_i (w := wM cI cZ a) hx hb hr hlocks hK hP hD hS d_M_route_31 hw
    · have hw := hw.2 c_6
      refine lv_iload_n hx hb d_M_route_21 rfl (lv_at hl 1 rfl) ?_
      refine lv_iload_n hx hb d_M_route_22 rfl (lv_at hl 2 rfl) ?_
      refine lv_icmp_ne (tgt := 32) hx hb d_M_route_23 (by decide) (fun c_8 => ?_) (fun c_8 => ?_)
      · have hw := hw.1 c_8
        refine lv_iload_n hx hb d_M_route_32 rfl (lv_at hl 3 rfl) ?_
        refine lv_iconst (v := (-1)) hx hb d_M_route_33 (by decide) ?_
        refine lv_icmp_eq (tgt := 74) hx hb d_M_route_34 (by decide) (fun c_9 => ?_) (fun c_9 => ?_)
        · have hw := hw.1 c_9
          refine lv_aload_n hx hb d_M_route_74 rfl (lv_at hl 0 rfl) ?_
          refine va_get (D := (dC, dI)) (ci := 6) (v := .ref (a 6)) (C := R_M) (T := F_M) (N := 30) hx hb hts in_M hown hK hP 0 rfl rfl 14 (by decide) (hts (.fieldLink R_M 26 R_M "route" "[I") (tm 334 rfl)) (fun _ h9 => h9) rfl d_M_route_75 ?_
          refine lv_bipush (v := 16) hx hb d_M_route_78 (by decide) ?_
          refine lv_iload_n hx hb d_M_route_80 rfl (lv_at hl 1 rfl) ?_
          refine lv_imul hx hb d_M_route_81 ?_
          refine lv_iload_n hx hb d_M_route_82 rfl (lv_at hl 2 rfl) ?_
          refine lv_iadd hx hb d_M_route_83 ?_
          obtain ⟨hin, hw⟩ := hw
          refine va_iald hx hb hK hP 6 0 rfl rfl hin d_M_route_84 ?_
          refine lv_topi (fun v_10 ev_10 => ?_)
          have hw := hw v_10 ev_10
          refine lv_istore (lv' := [(4, .int v_10), (0, .ref (a 0)), (1, .int x1), (2, .int x2), (3, .int x3)]) hx hb d_M_route_85 hl (by decide) rfl (fun ls hl => ?_)
          refine lv_aload_n hx hb d_M_route_87 rfl (lv_at hl 1 rfl) ?_
          refine va_get (D := (dC, dI)) (ci := 6) (v := .ref (a 6)) (C := R_M) (T := F_M) (N := 30) hx hb hts in_M hown hK hP 0 rfl rfl 14 (by decide) (hts (.fieldLink R_M 26 R_M "route" "[I") (tm 334 rfl)) (fun _ h9 => h9) rfl d_M_route_88 ?_
          refine lv_bipush (v := 16) hx hb d_M_route_91 (by decide) ?_
          refine lv_iload_n hx hb d_M_route_93 rfl (lv_at hl 2 rfl) ?_
          refine lv_imul hx hb d_M_route_94 ?_
          refine lv_iload_n hx hb d_M_route_95 rfl (lv_at hl 3 rfl) ?_
          refine lv_iadd hx hb d_M_route_96 ?_
          refine lv_iload_n hx hb d_M_route_97 rfl (lv_at hl 4 rfl) ?_
          obtain ⟨hin, hw⟩ := hw
          refine st_i (w := wM cI cZ a) hx hb hK hP hD hS 6 0 rfl rfl rfl hin d_M_route_98 (fun s_11 e_11 H locs hP hD hS => ?_)
          have hw := hw s_11 e_11
          refine lv_iload hx hb d_M_route_99 (lv_at hl 0 rfl) ?_
          exact rt_i (w := wM cI cZ a) hx hb hr hlocks hK hP hD hS d_M_route_101 hw
        · have hw := hw.2 c_9
          refine lv_aload_n hx hb d_M_route_37 rfl (lv_at hl 0 rfl) ?_
          refine lv_iload_n hx hb d_M_route_38 rfl (lv_at hl 3 rfl) ?_
          refine cl_r (va_runV (As := [.int x3]) (rest := []) ⟨hx, hb, hml, hown, hts⟩ (c_M_isChannel l dC dI cI cZ a _ s_1 x3 _ hw) (cwV 1 hts (gi_V (tm 336 rfl) (tm 337 rfl) (tm 338 rfl) (tm 320 rfl) (tm 339 rfl)) rfl rfl rfl (by decide +kernel) ⟨Nat.le_of_ble_eq_true rfl, Nat.le_of_ble_eq_true rfl⟩) (pW_V hK hP hD (ci := 6) (k := 0) rfl rfl) rfl rfl hl.1 rfl (lv_room (Nat.le_of_ble_eq_true rfl)) d_M_route_39 ⟨Nat.zero_le _, Nat.zero_le _⟩) hP hS hA (fun r_12 H locs hw hP hT => ?_)
          have hS := hT _ hA hS
          refine lv_if_eq (tgt := 68) hx hb d_M_route_42 (by decide) (fun c_13 => ?_) (fun c_13 => ?_)
          · have hw := hw.1 c_13
            refine lv_aload_n hx hb d_M_route_68 rfl (lv_at hl 0 rfl) ?_
            refine lv_iconst (v := 1) hx hb d_M_route_69 (by decide) ?_
            refine cl_i (va_runV (As := [.int 1]) (rest := []) ⟨hx, hb, hml, hown, hts⟩ (c_M_wrong l dC dI cI cZ a _ s_1 1 _ hw) (cwV 1 hts (gi_V (tm 324 rfl) (tm 325 rfl) (tm 326 rfl) (tm 320 rfl) (tm 327 rfl)) rfl rfl rfl (by decide +kernel) ⟨Nat.le_of_ble_eq_true rfl, Nat.le_of_ble_eq_true rfl⟩) (pW_V hK hP hD (ci := 6) (k := 0) rfl rfl) rfl rfl hl.1 rfl (lv_room (Nat.le_of_ble_eq_true rfl)) d_M_route_70 ⟨Nat.zero_le _, Nat.zero_le _⟩) hD hS hA (fun r_14 σ_14 H locs hw hP hD hS => ?_)
            exact rt_i (w := wM cI cZ a) hx hb hr hlocks hK hP hD hS d_M_route_73 hw
          · have hw := hw.2 c_13
            refine lv_aload_n hx hb d_M_route_45 rfl (lv_at hl 0 rfl) ?_
            refine va_get (D := (dC, dI)) (ci := 6) (v := .ref (a 1)) (C := R_M) (T := F_M) (N := 30) hx hb hts in_M hown hK hP 0 rfl rfl 9 (by decide) (hts (.fieldLink R_M 7 R_M "from" "[I") (tm 328 rfl)) (fun _ h9 => h9) rfl d_M_route_46 ?_
            refine lv_iload_n hx hb d_M_route_49 rfl (lv_at hl 3 rfl) ?_
            refine lv_iconst (v := 4) hx hb d_M_route_50 (by decide) ?_
            refine lv_idiv hx hb d_M_route_51 (by decide) ?_
            obtain ⟨hin, hw⟩ := hw
            refine va_iald hx hb hK hP 1 0 rfl rfl hin d_M_route_52 ?_
            refine lv_iload_n hx hb d_M_route_53 rfl (lv_at hl 1 rfl) ?_
            refine lv_icmp_ne (tgt := 68) hx hb d_M_route_54 (by decide) (fun c_15 => ?_) (fun c_15 => ?_)
            · have hw := hw.1 c_15
              refine lv_aload_n hx hb d_M_route_68 rfl (lv_at hl 0 rfl) ?_
              refine lv_iconst (v := 1) hx hb d_M_route_69 (by decide) ?_
              refine cl_i (va_runV (As := [.int 1]) (rest := []) ⟨hx, hb, hml, hown, hts⟩ (c_M_wrong l dC dI cI cZ a _ s_1 1 _ hw) (cwV 1 hts (gi_V (tm 324 rfl) (tm 325 rfl) (tm 326 rfl) (tm 320 rfl) (tm 327 rfl)) rfl rfl rfl (by decide +kernel) ⟨Nat.le_of_ble_eq_true rfl, Nat.le_of_ble_eq_true rfl⟩) (pW_V hK hP hD (ci := 6) (k := 0) rfl rfl) rfl rfl hl.1 rfl (lv_room (Nat.le_of_ble_eq_true rfl)) d_M_route_70 ⟨Nat.zero_le _, Nat.zero_le _⟩) hD hS hA (fun r_16 σ_16 H locs hw hP hD hS => ?_)
              exact rt_i (w := wM cI cZ a) hx hb hr hlocks hK hP hD hS d_M_route_73 hw
            · have hw := hw.2 c_15
              refine lv_aload_n hx hb d_M_route_57 rfl (lv_at hl 0 rfl) ?_
              refine va_get (D := (dC, dI)) (ci := 6) (v := .ref (a 4)) (C := R_M) (T := F_M) (N := 30) hx hb hts in_M hown hK hP 0 rfl rfl 12 (by decide) (hts (.fieldLink R_M 19 R_M "failed" "[Z") (tm 335 rfl)) (fun _ h9 => h9) rfl d_M_route_58 ?_
              refine lv_iload_n hx hb d_M_route_61 rfl (lv_at hl 3 rfl) ?_
              refine lv_iconst (v := 4) hx hb d_M_route_62 (by decide) ?_
              refine lv_idiv hx hb d_M_route_63 (by decide) ?_
              obtain ⟨hin, hw⟩ := hw
              refine va_zald hx hb hK hP 4 1 rfl rfl hin d_M_route_64 ?_
              refine lv_if_eq (tgt := 74) hx hb d_M_route_65 (by decide) (fun c_17 => ?_) (fun c_17 => ?_)
              · have hw := hw.1 c_17
                refine lv_aload_n hx hb d_M_route_74 rfl (lv_at hl 0 rfl) ?_
                refine va_get (D := (dC, dI)) (ci := 6) (v := .ref (a 6)) (C := R_M) (T := F_M) (N := 30) hx hb hts in_M hown hK hP 0 rfl rfl 14 (by decide) (hts (.fieldLink R_M 26 R_M "route" "[I") (tm 334 rfl)) (fun _ h9 => h9) rfl d_M_route_75 ?_
                refine lv_bipush (v := 16) hx hb d_M_route_78 (by decide) ?_
                refine lv_iload_n hx hb d_M_route_80 rfl (lv_at hl 1 rfl) ?_
                refine lv_imul hx hb d_M_route_81 ?_
                refine lv_iload_n hx hb d_M_route_82 rfl (lv_at hl 2 rfl) ?_
                refine lv_iadd hx hb d_M_route_83 ?_
                obtain ⟨hin, hw⟩ := hw
                refine va_iald hx hb hK hP 6 0 rfl rfl hin d_M_route_84 ?_
                refine lv_topi (fun v_18 ev_18 => ?_)
                have hw := hw v_18 ev_18
                refine lv_istore (lv' := [(4, .int v_18), (0, .ref (a 0)), (1, .int x1), (2, .int x2), (3, .int x3)]) hx hb d_M_route_85 hl (by decide) rfl (fun ls hl => ?_)
                refine lv_aload_n hx hb d_M_route_87 rfl (lv_at hl 1 rfl) ?_
                refine va_get (D := (dC, dI)) (ci := 6) (v := .ref (a 6)) (C := R_M) (T := F_M) (N := 30) hx hb hts in_M hown hK hP 0 rfl rfl 14 (by decide) (hts (.fieldLink R_M 26 R_M "route" "[I") (tm 334 rfl)) (fun _ h9 => h9) rfl d_M_route_88 ?_
                refine lv_bipush (v := 16) hx hb d_M_route_91 (by decide) ?_
                refine lv_iload_n hx hb d_M_route_93 rfl (lv_at hl 2 rfl) ?_
                refine lv_imul hx hb d_M_route_94 ?_
                refine lv_iload_n hx hb d_M_route_95 rfl (lv_at hl 3 rfl) ?_
                refine lv_iadd hx hb d_M_route_96 ?_
                refine lv_iload_n hx hb d_M_route_97 rfl (lv_at hl 4 rfl) ?_
                obtain ⟨hin, hw⟩ := hw
                refine st_i (w := wM cI cZ a) hx hb hK hP hD hS 6 0 rfl rfl rfl hin d_M_route_98 (fun s_19 e_19 H locs hP hD hS => ?_)
                have hw := hw s_19 e_19
                refine lv_iload hx hb d_M_route_99 (lv_at hl 0 rfl) ?_
                exact rt_i (w := wM cI cZ a) hx hb hr hlocks hK hP hD hS d_M_route_101 hw
              · have hw := hw.2 c_17
                refine lv_aload_n hx hb d_M_route_68 rfl (lv_at hl 0 rfl) ?_
                refine lv_iconst (v := 1) hx hb d_M_route_69 (by decide) ?_
                refine cl_i (va_runV (As := [.int 1]) (rest := []) ⟨hx, hb, hml, hown, hts⟩ (c_M_wrong l dC dI cI cZ a _ s_1 1 _ hw) (cwV 1 hts (gi_V (tm 324 rfl) (tm 325 rfl) (tm 326 rfl) (tm 320 rfl) (tm 327 rfl)) rfl rfl rfl (by decide +kernel) ⟨Nat.le_of_ble_eq_true rfl, Nat.le_of_ble_eq_true rfl⟩) (pW_V hK hP hD (ci := 6) (k := 0) rfl rfl) rfl rfl hl.1 rfl (lv_room (Nat.le_of_ble_eq_true rfl)) d_M_route_70 ⟨Nat.zero_le _, Nat.zero_le _⟩) hD hS hA (fun r_20 σ_20 H locs hw hP hD hS => ?_)
                exact rt_i (w := wM cI cZ a) hx hb hr hlocks hK hP hD hS d_M_route_73 hw
      · have hw := hw.2 c_8
        refine lv_aload_n hx hb d_M_route_26 rfl (lv_at hl 0 rfl) ?_
        refine lv_iconst (v := 1) hx hb d_M_route_27 (by decide) ?_
        refine cl_i (va_runV (As := [.int 1]) (rest := []) ⟨hx, hb, hml, hown, hts⟩ (c_M_wrong l dC dI cI cZ a _ s_1 1 _ hw) (cwV 1 hts (gi_V (tm 324 rfl) (tm 325 rfl) (tm 326 rfl) (tm 320 rfl) (tm 327 rfl)) rfl rfl rfl (by decide +kernel) ⟨Nat.le_of_ble_eq_true rfl, Nat.le_of_ble_eq_true rfl⟩) (pW_V hK hP hD (ci := 6) (k := 0) rfl rfl) rfl rfl hl.1 rfl (lv_room (Nat.le_of_ble_eq_true rfl)) d_M_route_28 ⟨Nat.zero_le _, Nat.zero_le _⟩) hD hS hA (fun r_21 σ_21 H locs hw hP hD hS => ?_)
        exact rt_i (w := wM cI cZ a) hx hb hr hlocks hK hP hD hS d_M_route_31 hw
set_option maxHeartbeats 4000000 in
set_option maxRecDepth 100000 in
theorem c_M_routes (l : Launch) (dC : Nat → ClassId) (dI : Nat → Nat → Nat) (cI cZ : ClassId) (a : Nat → Nat) (sz : Nat) (σ : SS) (x1 : Int32) (post : Int32 → SS → Prop) (hw : wp_M_routes σ x1 post) : Met l y_M_routes (.code y_M_routes b_M_routes 7 (some .int) :: TT) { frames := 2, cells := 0, slots := 0, locals := 43 } (pW (dC, dI) clsT (tyT cI cZ) [.ref (a 0), .int x1] sz (wM cI cZ a σ)) (va_Qi post (bW (dC, dI) clsT (tyT cI cZ) (wM cI cZ a) (va_A (wM cI cZ a σ) sz)) (va_A (wM cI cZ a σ) sz)) 0 0 (va_A (wM cI cZ a σ) sz) := by
  refine hd (Qf := fun A => (va_Qi post (bW (dC, dI) clsT (tyT cI cZ) (wM cI cZ a) A) A)) (by decide) (Nat.le_of_ble_eq_true rfl) ?_
  intro p e s m below meth c A ls hx hb hr hts hown hlocks hml hK hP hD hS hA hl
  have hown : s.vm.findClass R_M = some m.cls := hown
  have hl : lv_has ls 7 [(0, .ref (a 0)), (1, .int x1)] := hl
  rw [wp_M_routes] at hw
  refine lv_aload_n hx hb d_M_routes_0 rfl (lv_at hl 0 rfl) ?_
  refine lv_iconst (v := 0) hx hb d_M_routes_1 (by decide) ?_
  refine st_f (D := (dC, dI)) (w := wM cI cZ a) (ci := 6) (C := R_M) (T := F_M) (N := 30) hx hb hts in_M t_M t_M_ok n_M hown hK hP hD hS 0 rfl rfl 0 (by decide) (hts (.fieldLink R_M 78 R_M "thrown" "I") (tm 316 rfl)) (fun _ h9 => h9) rfl (by decide +kernel) (Nat.le_of_ble_eq_true rfl) rfl d_M_routes_2 (fun s_1 e_1 H locs hP hD hS => ?_)
  have hw := hw s_1 e_1
  refine lv_aload_n hx hb d_M_routes_5 rfl (lv_at hl 0 rfl) ?_
  refine lv_iload_n hx hb d_M_routes_6 rfl (lv_at hl 1 rfl) ?_
  refine cl_r (va_runV (As := [.int x1]) (rest := []) ⟨hx, hb, hml, hown, hts⟩ (c_M_isNode l dC dI cI cZ a _ s_1 x1 _ hw) (cwV 1 hts (gi_V (tm 330 rfl) (tm 331 rfl) (tm 332 rfl) (tm 320 rfl) (tm 333 rfl)) rfl rfl rfl (by decide +kernel) ⟨Nat.le_of_ble_eq_true rfl, Nat.le_of_ble_eq_true rfl⟩) (pW_V hK hP hD (ci := 6) (k := 0) rfl rfl) rfl rfl hl.1 rfl (lv_room (Nat.le_of_ble_eq_true rfl)) d_M_routes_7 ⟨Nat.zero_le _, Nat.zero_le _⟩) hP hS hA (fun r_2 H locs hw hP hT => ?_)
  have hS := hT _ hA hS
  refine lv_if_ne (tgt := 19) hx hb d_M_routes_10 (by decide) (fun c_3 => ?_) (fun c_3 => ?_)
  · have hw := hw.1 c_3
    refine lv_iconst (v := 0) hx hb d_M_routes_19 (by decide) ?_
    refine lv_istore_n (lv' := [(2, .int 0), (0, .ref (a 0)), (1, .int x1)]) hx hb d_M_routes_20 rfl hl (by decide) rfl (fun ls hl => ?_)
    obtain ⟨k_45, hw⟩ := hw
    have hE_45 : ∀ (σ_45 : SS) (y2_45 : Int32) (H : Heap) (locs : List Loc) (ls : Array Slot), we_M_routes_61 σ_45 x1 post → va_P (dC, dI) clsT (wM cI cZ a σ_45) H → va_D A (wM cI cZ a σ_45) → va_S A s.heap H locs → lv_has ls 7 [(0, .ref (a 0)), (1, .int x1)] → W p l e { frames := 2, cells := 0, slots := 0, locals := 43 } s m ([.ref (a 0), .int x1] : List Value).toArray below meth c H locs 0 0 (MQ below (va_Qi post (bW (dC, dI) clsT (tyT cI cZ) (wM cI cZ a) A) A) ([.ref (a 0), .int x1] : List Value).toArray s 0 0 A) (F0 m 61 ls []) := by
      intro σ_45 y2_45 H locs ls hw hP hD hS hl
      rw [we_M_routes_61] at hw
      refine lv_iconst (v := 0) hx hb d_M_routes_61 (by decide) ?_
      refine lv_istore_n (lv' := [(2, .int 0), (0, .ref (a 0)), (1, .int x1)]) hx hb d_M_routes_62 rfl hl (by decide) rfl (fun ls hl => ?_)
      refine lv_iconst (v := 1) hx hb d_M_routes_63 (by decide) ?_
      refine lv_istore_n (lv' := [(3, .int 1), (2, .int 0), (0, .ref (a 0)), (1, .int x1)]) hx hb d_M_routes_64 rfl hl (by decide) rfl (fun ls hl => ?_)
      obtain ⟨k_46, hw⟩ := hw
      have hE_46 : ∀ (σ_46 : SS) (y2_46 : Int32) (y3_46 : Int32) (H : Heap) (locs : List Loc) (ls : Array Slot), we_M_routes_182 σ_46 y2_46 post → va_P (dC, dI) clsT (wM cI cZ a σ_46) H → va_D A (wM cI cZ a σ_46) → va_S A s.heap H locs → lv_has ls 7 [(2, .int y2_46)] → W p l e { frames := 2, cells := 0, slots := 0, locals := 43 } s m ([.ref (a 0), .int x1] : List Value).toArray below meth c H locs 0 0 (MQ below (va_Qi post (bW (dC, dI) clsT (tyT cI cZ) (wM cI cZ a) A) A) ([.ref (a 0), .int x1] : List Value).toArray s 0 0 A) (F0 m 182 ls []) := by
        intro σ_46 y2_46 y3_46 H locs ls hw hP hD hS hl
        rw [we_M_routes_182] at hw
        refine lv_iload_n hx hb d_M_routes_182 rfl (lv_at hl 0 rfl) ?_
        exact rt_i (w := wM cI cZ a) hx hb hr hlocks hK hP hD hS d_M_routes_183 hw
      have lp_46 : ∀ (kf_46 : Nat) (σ_46 : SS) (y2_46 : Int32) (y3_46 : Int32) (H : Heap) (locs : List Loc) (ls : Array Slot), wl_M_routes_65 x1 (fun σ' y2 y3 => we_M_routes_182 σ' y2 post) post kf_46 σ_46 y2_46 y3_46 → va_P (dC, dI) clsT (wM cI cZ a σ_46) H → va_D A (wM cI cZ a σ_46) → va_S A s.heap H locs → lv_has ls 7 [(0, .ref (a 0)), (1, .int x1), (2, .int y2_46), (3, .int y3_46)] → W p l e { frames := 2, cells := 0, slots := 0, locals := 43 } s m ([.ref (a 0), .int x1] : List Value).toArray below meth c H locs 0 0 (MQ below (va_Qi post (bW (dC, dI) clsT (tyT cI cZ) (wM cI cZ a) A) A) ([.ref (a 0), .int x1] : List Value).toArray s 0 0 A) (F0 m 65 ls []) := by
        intro kf_46
        induction kf_46 with
        | zero => intro σ_46 y2_46 y3_46 H locs ls hw; rw [wl_M_routes_65] at hw; exact hw.elim
        | succ kf_46 ih_46 =>
          intro σ_46 y2_46 y3_46 H locs ls hw hP hD hS hl
          rw [wl_M_routes_65] at hw
          refine lv_iload_n hx hb d_M_routes_65 rfl (lv_at hl 3 rfl) ?_
          refine lv_bipush (v := 16) hx hb d_M_routes_66 (by decide) ?_
          refine lv_icmp_gt (tgt := 182) hx hb d_M_routes_68 (by decide) (fun c_47 => ?_) (fun c_47 => ?_)
          · have hw := hw.1 c_47
            exact hE_46 σ_46 y2_46 y3_46 _ _ _ hw hP hD hS (lv_sub hl [2] rfl)
          · have hw := hw.2 c_47
            refine lv_iconst (v := 0) hx hb d_M_routes_71 (by decide) ?_
            refine lv_istore (lv' := [(4, .int 0), (0, .ref (a 0)), (1, .int x1), (2, .int y2_46), (3, .int y3_46)]) hx hb d_M_routes_72 hl (by decide) rfl (fun ls hl => ?_)
            obtain ⟨k_48, hw⟩ := hw
            have hE_48 : ∀ (σ_48 : SS) (y2_48 : Int32) (y4_48 : Int32) (H : Heap) (locs : List Loc) (ls : Array Slot), we_M_routes_176 σ_48 x1 y2_48 y3_46 (wl_M_routes_65 x1 (fun σ' y2 y3 => we_M_routes_182 σ' y2 post) post kf_46) (fun σ' y2 y3 => we_M_routes_182 σ' y2 post) post → va_P (dC, dI) clsT (wM cI cZ a σ_48) H → va_D A (wM cI cZ a σ_48) → va_S A s.heap H locs → lv_has ls 7 [(0, .ref (a 0)), (1, .int x1), (2, .int y2_48), (3, .int y3_46)] → W p l e { frames := 2, cells := 0, slots := 0, locals := 43 } s m ([.ref (a 0), .int x1] : List Value).toArray below meth c H locs 0 0 (MQ below (va_Qi post (bW (dC, dI) clsT (tyT cI cZ) (wM cI cZ a) A) A) ([.ref (a 0), .int x1] : List Value).toArray s 0 0 A) (F0 m 176 ls []) := by
              intro σ_48 y2_48 y4_48 H locs ls hw hP hD hS hl
              rw [we_M_routes_176] at hw
              refine lv_iinc (v := y3_46 + 1) (lv' := [(3, .int (y3_46 + 1)), (0, .ref (a 0)), (1, .int x1), (2, .int y2_48)]) hx hb d_M_routes_176 hl (k := 3) rfl rfl (by decide) rfl (fun ls hl => ?_)
              refine lv_goto (tgt := 65) hx hb d_M_routes_179 (by decide) ?_
              exact ih_46 σ_48 y2_48 (y3_46 + 1) _ _ _ hw hP hD hS (lv_sub hl [1, 2, 3, 0] rfl)
            have lp_48 : ∀ (kf_48 : Nat) (σ_48 : SS) (y2_48 : Int32) (y4_48 : Int32) (H : Heap) (locs : List Loc) (ls : Array Slot), wl_M_routes_74 x1 y3_46 (fun σ' y2 y4 => we_M_routes_176 σ' x1 y2 y3_46 (wl_M_routes_65 x1 (fun σ' y2 y3 => we_M_routes_182 σ' y2 post) post kf_46) (fun σ' y2 y3 => we_M_routes_182 σ' y2 post) post) post kf_48 σ_48 y2_48 y4_48 → va_P (dC, dI) clsT (wM cI cZ a σ_48) H → va_D A (wM cI cZ a σ_48) → va_S A s.heap H locs → lv_has ls 7 [(0, .ref (a 0)), (1, .int x1), (2, .int y2_48), (3, .int y3_46), (4, .int y4_48)] → W p l e { frames := 2, cells := 0, slots := 0, locals := 43 } s m ([.ref (a 0), .int x1] : List Value).toArray below meth c H locs 0 0 (MQ below (va_Qi post (bW (dC, dI) clsT (tyT cI cZ) (wM cI cZ a) A) A) ([.ref (a 0), .int x1] : List Value).toArray s 0 0 A) (F0 m 74 ls []) := by
              intro kf_48
              induction kf_48 with
              | zero => intro σ_48 y2_48 y4_48 H locs ls hw; rw [wl_M_routes_74] at hw; exact hw.elim
              | succ kf_48 ih_48 =>
                intro σ_48 y2_48 y4_48 H locs ls hw hP hD hS hl
                rw [wl_M_routes_74] at hw
                refine lv_iload hx hb d_M_routes_74 (lv_at hl 4 rfl) ?_
                refine lv_aload_n hx hb d_M_routes_76 rfl (lv_at hl 0 rfl) ?_
                refine va_get (D := (dC, dI)) (ci := 6) (v := .int (σ_48 0 3)) (C := R_M) (T := F_M) (N := 30) hx hb hts in_M hown hK hP 0 rfl rfl 3 (by decide) (hts (.fieldLink R_M 88 R_M "links" "I") (tm 322 rfl)) (fun _ h9 => h9) rfl d_M_routes_77 ?_
                refine lv_icmp_ge (tgt := 176) hx hb d_M_routes_80 (by decide) (fun c_49 => ?_) (fun c_49 => ?_)
                · have hw := hw.1 c_49
                  exact hE_48 σ_48 y2_48 y4_48 _ _ _ hw hP hD hS (lv_sub hl [0, 1, 2, 3] rfl)
                · have hw := hw.2 c_49
                  refine lv_aload_n hx hb d_M_routes_83 rfl (lv_at hl 0 rfl) ?_
                  refine va_get (D := (dC, dI)) (ci := 6) (v := .ref (a 1)) (C := R_M) (T := F_M) (N := 30) hx hb hts in_M hown hK hP 0 rfl rfl 9 (by decide) (hts (.fieldLink R_M 7 R_M "from" "[I") (tm 328 rfl)) (fun _ h9 => h9) rfl d_M_routes_84 ?_
                  refine lv_iload hx hb d_M_routes_87 (lv_at hl 4 rfl) ?_
                  obtain ⟨hin, hw⟩ := hw
                  refine va_iald hx hb hK hP 1 0 rfl rfl hin d_M_routes_89 ?_
                  refine lv_topi (fun v_50 ev_50 => ?_)
                  have hw := hw v_50 ev_50
                  refine lv_istore (lv' := [(5, .int v_50), (0, .ref (a 0)), (1, .int x1), (2, .int y2_48), (3, .int y3_46), (4, .int y4_48)]) hx hb d_M_routes_90 hl (by decide) rfl (fun ls hl => ?_)
                  refine lv_aload_n hx hb d_M_routes_92 rfl (lv_at hl 1 rfl) ?_
                  refine va_get (D := (dC, dI)) (ci := 6) (v := .ref (a 4)) (C := R_M) (T := F_M) (N := 30) hx hb hts in_M hown hK hP 0 rfl rfl 12 (by decide) (hts (.fieldLink R_M 19 R_M "failed" "[Z") (tm 335 rfl)) (fun _ h9 => h9) rfl d_M_routes_93 ?_
                  refine lv_iload hx hb d_M_routes_96 (lv_at hl 5 rfl) ?_
                  obtain ⟨hin, hw⟩ := hw
                  refine va_zald hx hb hK hP 4 1 rfl rfl hin d_M_routes_98 ?_
                  refine lv_if_ne (tgt := 124) hx hb d_M_routes_99 (by decide) (fun c_51 => ?_) (fun c_51 => ?_)
                  · have hw := hw.1 c_51
                    refine lv_iconst (v := 0) hx hb d_M_routes_124 (by decide) ?_
                    refine lv_istore (lv' := [(6, .int 0), (5, .int v_50), (0, .ref (a 0)), (1, .int x1), (2, .int y2_48), (3, .int y3_46), (4, .int y4_48)]) hx hb d_M_routes_125 hl (by decide) rfl (fun ls hl => ?_)
                    refine lv_iload hx hb d_M_routes_127 (lv_at hl 0 rfl) ?_
                    refine lv_if_eq (tgt := 170) hx hb d_M_routes_129 (by decide) (fun _ => ?_) (fun c9 => absurd rfl c9)
                    refine lv_iinc (v := y4_48 + 1) (lv' := [(4, .int (y4_48 + 1)), (6, .int 0), (5, .int v_50), (0, .ref (a 0)), (1, .int x1), (2, .int y2_48), (3, .int y3_46)]) hx hb d_M_routes_170 hl (k := 6) rfl rfl (by decide) rfl (fun ls hl => ?_)
                    refine lv_goto (tgt := 74) hx hb d_M_routes_173 (by decide) ?_
                    exact ih_48 σ_48 y2_48 (y4_48 + 1) _ _ _ hw hP hD hS (lv_sub hl [3, 4, 5, 6, 0] rfl)
                  · have hw := hw.2 c_51
                    refine lv_aload_n hx hb d_M_routes_102 rfl (lv_at hl 1 rfl) ?_
                    refine va_get (D := (dC, dI)) (ci := 6) (v := .ref (a 20)) (C := R_M) (T := F_M) (N := 30) hx hb hts in_M hown hK hP 0 rfl rfl 28 (by decide) (hts (.fieldLink R_M 68 R_M "away" "[I") (tm 340 rfl)) (fun _ h9 => h9) rfl d_M_routes_103 ?_
                    refine lv_aload_n hx hb d_M_routes_106 rfl (lv_at hl 1 rfl) ?_
                    refine va_get (D := (dC, dI)) (ci := 6) (v := .ref (a 2)) (C := R_M) (T := F_M) (N := 30) hx hb hts in_M hown hK hP 0 rfl rfl 10 (by decide) (hts (.fieldLink R_M 13 R_M "to" "[I") (tm 329 rfl)) (fun _ h9 => h9) rfl d_M_routes_107 ?_
                    refine lv_iload hx hb d_M_routes_110 (lv_at hl 5 rfl) ?_
                    obtain ⟨hin, hw⟩ := hw
                    refine va_iald hx hb hK hP 2 0 rfl rfl hin d_M_routes_112 ?_
                    obtain ⟨hin, hw⟩ := hw
                    refine va_iald hx hb hK hP 20 0 rfl rfl hin d_M_routes_113 ?_
                    refine lv_iload_n hx hb d_M_routes_114 rfl (lv_at hl 4 rfl) ?_
                    refine lv_iconst (v := 1) hx hb d_M_routes_115 (by decide) ?_
                    refine lv_isub hx hb d_M_routes_116 ?_
                    refine lv_icmp_ne (tgt := 124) hx hb d_M_routes_117 (by decide) (fun c_53 => ?_) (fun c_53 => ?_)
                    · have hw := hw.1 c_53
                      refine lv_iconst (v := 0) hx hb d_M_routes_124 (by decide) ?_
                      refine lv_istore (lv' := [(6, .int 0), (5, .int v_50), (0, .ref (a 0)), (1, .int x1), (2, .int y2_48), (3, .int y3_46), (4, .int y4_48)]) hx hb d_M_routes_125 hl (by decide) rfl (fun ls hl => ?_)
                      refine lv_iload hx hb d_M_routes_127 (lv_at hl 0 rfl) ?_
                      refine lv_if_eq (tgt := 170) hx hb d_M_routes_129 (by decide) (fun _ => ?_) (fun c9 => absurd rfl c9)
                      refine lv_iinc (v := y4_48 + 1) (lv' := [(4, .int (y4_48 + 1)), (6, .int 0), (5, .int v_50), (0, .ref (a 0)), (1, .int x1), (2, .int y2_48), (3, .int y3_46)]) hx hb d_M_routes_170 hl (k := 6) rfl rfl (by decide) rfl (fun ls hl => ?_)
                      refine lv_goto (tgt := 74) hx hb d_M_routes_173 (by decide) ?_
                      exact ih_48 σ_48 y2_48 (y4_48 + 1) _ _ _ hw hP hD hS (lv_sub hl [3, 4, 5, 6, 0] rfl)
                    · have hw := hw.2 c_53
                      refine lv_iconst (v := 1) hx hb d_M_routes_120 (by decide) ?_
                      refine lv_goto (tgt := 125) hx hb d_M_routes_121 (by decide) ?_
                      refine lv_istore (lv' := [(6, .int 1), (5, .int v_50), (0, .ref (a 0)), (1, .int x1), (2, .int y2_48), (3, .int y3_46), (4, .int y4_48)]) hx hb d_M_routes_125 hl (by decide) rfl (fun ls hl => ?_)
                      refine lv_iload hx hb d_M_routes_127 (lv_at hl 0 rfl) ?_
                      refine lv_if_eq (tgt := 170) hx hb d_M_routes_129 (by decide) (fun c9 => absurd c9 (by decide)) (fun _ => ?_)
                      refine lv_aload_n hx hb d_M_routes_132 rfl (lv_at hl 2 rfl) ?_
                      refine va_get (D := (dC, dI)) (ci := 6) (v := .ref (a 20)) (C := R_M) (T := F_M) (N := 30) hx hb hts in_M hown hK hP 0 rfl rfl 28 (by decide) (hts (.fieldLink R_M 68 R_M "away" "[I") (tm 340 rfl)) (fun _ h9 => h9) rfl d_M_routes_133 ?_
                      refine lv_iload hx hb d_M_routes_136 (lv_at hl 1 rfl) ?_
                      obtain ⟨hin, hw⟩ := hw
                      refine va_iald hx hb hK hP 20 0 rfl rfl hin d_M_routes_138 ?_
                      refine lv_iconst (v := (-1)) hx hb d_M_routes_139 (by decide) ?_
                      refine lv_icmp_ne (tgt := 170) hx hb d_M_routes_140 (by decide) (fun c_56 => ?_) (fun c_56 => ?_)
                      · have hw := hw.1 c_56
                        refine lv_iinc (v := y4_48 + 1) (lv' := [(4, .int (y4_48 + 1)), (6, .int 1), (5, .int v_50), (0, .ref (a 0)), (1, .int x1), (2, .int y2_48), (3, .int y3_46)]) hx hb d_M_routes_170 hl (k := 6) rfl rfl (by decide) rfl (fun ls hl => ?_)
                        refine lv_goto (tgt := 74) hx hb d_M_routes_173 (by decide) ?_
                        exact ih_48 σ_48 y2_48 (y4_48 + 1) _ _ _ hw hP hD hS (lv_sub hl [3, 4, 5, 6, 0] rfl)
                      · have hw := hw.2 c_56
                        refine lv_aload_n hx hb d_M_routes_143 rfl (lv_at hl 2 rfl) ?_
                        refine va_get (D := (dC, dI)) (ci := 6) (v := .ref (a 20)) (C := R_M) (T := F_M) (N := 30) hx hb hts in_M hown hK hP 0 rfl rfl 28 (by decide) (hts (.fieldLink R_M 68 R_M "away" "[I") (tm 340 rfl)) (fun _ h9 => h9) rfl d_M_routes_144 ?_
                        refine lv_iload hx hb d_M_routes_147 (lv_at hl 1 rfl) ?_
                        refine lv_iload_n hx hb d_M_routes_149 rfl (lv_at hl 5 rfl) ?_
                        obtain ⟨hin, hw⟩ := hw
                        refine st_i (w := wM cI cZ a) hx hb hK hP hD hS 20 0 rfl rfl rfl hin d_M_routes_150 (fun s_57 e_57 H locs hP hD hS => ?_)
                        have hw := hw s_57 e_57
                        refine lv_aload_n hx hb d_M_routes_151 rfl (lv_at hl 2 rfl) ?_
                        refine va_get (D := (dC, dI)) (ci := 6) (v := .ref (a 6)) (C := R_M) (T := F_M) (N := 30) hx hb hts in_M hown hK hP 0 rfl rfl 14 (by decide) (hts (.fieldLink R_M 26 R_M "route" "[I") (tm 334 rfl)) (fun _ h9 => h9) rfl d_M_routes_152 ?_
                        refine lv_bipush (v := 16) hx hb d_M_routes_155 (by decide) ?_
                        refine lv_iload hx hb d_M_routes_157 (lv_at hl 1 rfl) ?_
                        refine lv_imul hx hb d_M_routes_159 ?_
                        refine lv_iload_n hx hb d_M_routes_160 rfl (lv_at hl 3 rfl) ?_
                        refine lv_iadd hx hb d_M_routes_161 ?_
                        refine lv_iconst (v := 4) hx hb d_M_routes_162 (by decide) ?_
                        refine lv_iload hx hb d_M_routes_163 (lv_at hl 6 rfl) ?_
                        refine lv_imul hx hb d_M_routes_165 ?_
                        obtain ⟨hin, hw⟩ := hw
                        refine st_i (w := wM cI cZ a) hx hb hK hP hD hS 6 0 rfl rfl rfl hin d_M_routes_166 (fun s_58 e_58 H locs hP hD hS => ?_)
                        have hw := hw s_58 e_58
                        refine lv_iinc (v := y2_48 + 1) (lv' := [(2, .int (y2_48 + 1)), (6, .int 1), (5, .int v_50), (0, .ref (a 0)), (1, .int x1), (3, .int y3_46), (4, .int y4_48)]) hx hb d_M_routes_167 hl (k := 4) rfl rfl (by decide) rfl (fun ls hl => ?_)
                        refine lv_iinc (v := y4_48 + 1) (lv' := [(4, .int (y4_48 + 1)), (2, .int (y2_48 + 1)), (6, .int 1), (5, .int v_50), (0, .ref (a 0)), (1, .int x1), (3, .int y3_46)]) hx hb d_M_routes_170 hl (k := 6) rfl rfl (by decide) rfl (fun ls hl => ?_)
                        refine lv_goto (tgt := 74) hx hb d_M_routes_173 (by decide) ?_
                        exact ih_48 s_58 (y2_48 + 1) (y4_48 + 1) _ _ _ hw hP hD hS (lv_sub hl [4, 5, 1, 6, 0] rfl)
            exact lp_48 k_48 σ_46 y2_46 0 _ _ _ hw hP hD hS (lv_sub hl [1, 2, 3, 4, 0] rfl)
      exact lp_46 k_46 σ_45 0 1 _ _ _ hw hP hD hS (lv_sub hl [2, 3, 1, 0] rfl)
    have lp_45 : ∀ (kf_45 : Nat) (σ_45 : SS) (y2_45 : Int32) (H : Heap) (locs : List Loc) (ls : Array Slot), wl_M_routes_21 x1 (fun σ' y2 => we_M_routes_61 σ' x1 post) post kf_45 σ_45 y2_45 → va_P (dC, dI) clsT (wM cI cZ a σ_45) H → va_D A (wM cI cZ a σ_45) → va_S A s.heap H locs → lv_has ls 7 [(0, .ref (a 0)), (1, .int x1), (2, .int y2_45)] → W p l e { frames := 2, cells := 0, slots := 0, locals := 43 } s m ([.ref (a 0), .int x1] : List Value).toArray below meth c H locs 0 0 (MQ below (va_Qi post (bW (dC, dI) clsT (tyT cI cZ) (wM cI cZ a) A) A) ([.ref (a 0), .int x1] : List Value).toArray s 0 0 A) (F0 m 21 ls []) := by
      intro kf_45
      induction kf_45 with
      | zero => intro σ_45 y2_45 H locs ls hw; rw [wl_M_routes_21] at hw; exact hw.elim
      | succ kf_45 ih_45 =>
        intro σ_45 y2_45 H locs ls hw hP hD hS hl
        rw [wl_M_routes_21] at hw
        refine lv_iload_n hx hb d_M_routes_21 rfl (lv_at hl 2 rfl) ?_
        refine lv_bipush (v := 16) hx hb d_M_routes_22 (by decide) ?_
        refine lv_icmp_ge (tgt := 61) hx hb d_M_routes_24 (by decide) (fun c_59 => ?_) (fun c_59 => ?_)
        · have hw := hw.1 c_59
          exact hE_45 σ_45 y2_45 _ _ _ hw hP hD hS (lv_sub hl [0, 1] rfl)
        · have hw := hw.2 c_59
          refine lv_aload_n hx hb d_M_routes_27 rfl (lv_at hl 0 rfl) ?_
          refine va_get (D := (dC, dI)) (ci := 6) (v := .ref (a 20)) (C := R_M) (T := F_M) (N := 30) hx hb hts in_M hown hK hP 0 rfl rfl 28 (by decide) (hts (.fieldLink R_M 68 R_M "away" "[I") (tm 340 rfl)) (fun _ h9 => h9) rfl d_M_routes_28 ?_
          refine lv_iload_n hx hb d_M_routes_31 rfl (lv_at hl 2 rfl) ?_
          refine lv_iload_n hx hb d_M_routes_32 rfl (lv_at hl 2 rfl) ?_
          refine lv_iload_n hx hb d_M_routes_33 rfl (lv_at hl 1 rfl) ?_
          refine lv_icmp_ne (tgt := 41) hx hb d_M_routes_34 (by decide) (fun c_60 => ?_) (fun c_60 => ?_)
          · have hw := hw.1 c_60
            refine lv_iconst (v := (-1)) hx hb d_M_routes_41 (by decide) ?_
            obtain ⟨hin, hw⟩ := hw
            refine st_i (w := wM cI cZ a) hx hb hK hP hD hS 20 0 rfl rfl rfl hin d_M_routes_42 (fun s_61 e_61 H locs hP hD hS => ?_)
            have hw := hw s_61 e_61
            refine lv_aload_n hx hb d_M_routes_43 rfl (lv_at hl 0 rfl) ?_
            refine va_get (D := (dC, dI)) (ci := 6) (v := .ref (a 6)) (C := R_M) (T := F_M) (N := 30) hx hb hts in_M hown hK hP 0 rfl rfl 14 (by decide) (hts (.fieldLink R_M 26 R_M "route" "[I") (tm 334 rfl)) (fun _ h9 => h9) rfl d_M_routes_44 ?_
            refine lv_bipush (v := 16) hx hb d_M_routes_47 (by decide) ?_
            refine lv_iload_n hx hb d_M_routes_49 rfl (lv_at hl 2 rfl) ?_
            refine lv_imul hx hb d_M_routes_50 ?_
            refine lv_iload_n hx hb d_M_routes_51 rfl (lv_at hl 1 rfl) ?_
            refine lv_iadd hx hb d_M_routes_52 ?_
            refine lv_iconst (v := (-1)) hx hb d_M_routes_53 (by decide) ?_
            obtain ⟨hin, hw⟩ := hw
            refine st_i (w := wM cI cZ a) hx hb hK hP hD hS 6 0 rfl rfl rfl hin d_M_routes_54 (fun s_62 e_62 H locs hP hD hS => ?_)
            have hw := hw s_62 e_62
            refine lv_iinc (v := y2_45 + 1) (lv' := [(2, .int (y2_45 + 1)), (0, .ref (a 0)), (1, .int x1)]) hx hb d_M_routes_55 hl (k := 2) rfl rfl (by decide) rfl (fun ls hl => ?_)
            refine lv_goto (tgt := 21) hx hb d_M_routes_58 (by decide) ?_
            exact ih_45 s_62 (y2_45 + 1) _ _ _ hw hP hD hS (lv_sub hl [1, 2, 0] rfl)
          · have hw := hw.2 c_60
            refine lv_iconst (v := 0) hx hb d_M_routes_37 (by decide) ?_
            refine lv_goto (tgt := 42) hx hb d_M_routes_38 (by decide) ?_
            obtain ⟨hin, hw⟩ := hw
            refine st_i (w := wM cI cZ a) hx hb hK hP hD hS 20 0 rfl rfl rfl hin d_M_routes_42 (fun s_63 e_63 H locs hP hD hS => ?_)
            have hw := hw s_63 e_63
            refine lv_aload_n hx hb d_M_routes_43 rfl (lv_at hl 0 rfl) ?_
            refine va_get (D := (dC, dI)) (ci := 6) (v := .ref (a 6)) (C := R_M) (T := F_M) (N := 30) hx hb hts in_M hown hK hP 0 rfl rfl 14 (by decide) (hts (.fieldLink R_M 26 R_M "route" "[I") (tm 334 rfl)) (fun _ h9 => h9) rfl d_M_routes_44 ?_
            refine lv_bipush (v := 16) hx hb d_M_routes_47 (by decide) ?_
            refine lv_iload_n hx hb d_M_routes_49 rfl (lv_at hl 2 rfl) ?_
            refine lv_imul hx hb d_M_routes_50 ?_
            refine lv_iload_n hx hb d_M_routes_51 rfl (lv_at hl 1 rfl) ?_
            refine lv_iadd hx hb d_M_routes_52 ?_
            refine lv_iconst (v := (-1)) hx hb d_M_routes_53 (by decide) ?_
            obtain ⟨hin, hw⟩ := hw
            refine st_i (w := wM cI cZ a) hx hb hK hP hD hS 6 0 rfl rfl rfl hin d_M_routes_54 (fun s_64 e_64 H locs hP hD hS => ?_)
            have hw := hw s_64 e_64
            refine lv_iinc (v := y2_45 + 1) (lv' := [(2, .int (y2_45 + 1)), (0, .ref (a 0)), (1, .int x1)]) hx hb d_M_routes_55 hl (k := 2) rfl rfl (by decide) rfl (fun ls hl => ?_)
            refine lv_goto (tgt := 21) hx hb d_M_routes_58 (by decide) ?_
            exact ih_45 s_64 (y2_45 + 1) _ _ _ hw hP hD hS (lv_sub hl [1, 2, 0] rfl)
    exact lp_45 k_45 s_1 0 _ _ _ hw hP hD hS (lv_sub hl [1, 2, 0] rfl)
  · have hw := hw.2 c_3
    refine lv_aload_n hx hb d_M_routes_13 rfl (lv_at hl 0 rfl) ?_
    refine lv_iconst (v := 1) hx hb d_M_routes_14 (by decide) ?_
    refine cl_i (va_runV (As := [.int 1]) (rest := []) ⟨hx, hb, hml, hown, hts⟩ (c_M_wrong l dC dI cI cZ a _ s_1 1 _ hw) (cwV 1 hts (gi_V (tm 324 rfl) (tm 325 rfl) (tm 326 rfl) (tm 320 rfl) (tm 327 rfl)) rfl rfl rfl (by decide +kernel) ⟨Nat.le_of_ble_eq_true rfl, Nat.le_of_ble_eq_true rfl⟩) (pW_V hK hP hD (ci := 6) (k := 0) rfl rfl) rfl rfl hl.1 rfl (lv_room (Nat.le_of_ble_eq_true rfl)) d_M_routes_15 ⟨Nat.zero_le _, Nat.zero_le _⟩) hD hS hA (fun r_65 σ_65 H locs hw hP hD hS => ?_)
    exact rt_i (w := wM cI cZ a) hx hb hr hlocks hK hP hD hS d_M_routes_18 hw
