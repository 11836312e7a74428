set_option maxHeartbeats 4000000 in
set_option maxRecDepth 100000 in
theorem c_CR_channelBehind (l : Launch) (dC : Nat → ClassId) (dI : Nat → Nat → Nat) (cI cZ : ClassId) (a : Nat → Nat) (sz : Nat) (σ : SS) (x1 : Int32) (post : Int32 → SS → Prop) (hw : wp_CR_channelBehind σ x1 post) : Met l y_CR_channelBehind (.code y_CR_channelBehind b_CR_channelBehind 4 (some .int) :: TT) { frames := 3, cells := 0, slots := 0, locals := 70 } (pW (dC, dI) clsT (tyT cI cZ) [.ref (a 5), .int x1] sz (wC cI cZ a σ)) (va_Qi post (bW (dC, dI) clsT (tyT cI cZ) (wC cI cZ a) (va_A (wC cI cZ a σ) sz)) (va_A (wC cI cZ a σ) sz)) 0 0 (va_A (wC cI cZ a σ) sz) := by
  refine hd (Qf := fun A => (va_Qi post (bW (dC, dI) clsT (tyT cI cZ) (wC cI cZ a) A) A)) (by decide) (Nat.le_of_ble_eq_true rfl) ?_
  intro p e s m below meth c A ls hx hb hr hts hown hlocks hml hK hP hD hS hA hl
  have hown : s.vm.findClass R_CR = some m.cls := hown
  have hl : lv_has ls 4 [(0, .ref (a 5)), (1, .int x1)] := hl
  rw [wp_CR_channelBehind] at hw
  refine lv_aload_n hx hb d_CR_channelBehind_0 rfl (lv_at hl 0 rfl) ?_
  refine va_get (D := (dC, dI)) (ci := 5) (v := .int (σ 5 5)) (C := R_CR) (T := F_CR) (N := 7) hx hb hts in_CR hown hK hP 5 rfl rfl 5 (by decide) (hts (.fieldLink R_CR 31 R_CR "start" "I") (tm 202 rfl)) (fun _ h9 => h9) rfl d_CR_channelBehind_1 ?_
  refine lv_iconst (v := (-1)) hx hb d_CR_channelBehind_4 (by decide) ?_
  refine lv_icmp_ne (tgt := 10) hx hb d_CR_channelBehind_5 (by decide) (fun c_1 => ?_) (fun c_1 => ?_)
  · have hw := hw.1 c_1
    refine lv_aload_n hx hb d_CR_channelBehind_10 rfl (lv_at hl 0 rfl) ?_
    refine lv_aload_n hx hb d_CR_channelBehind_11 rfl (lv_at hl 0 rfl) ?_
    refine va_get (D := (dC, dI)) (ci := 5) (v := .int (σ 5 5)) (C := R_CR) (T := F_CR) (N := 7) hx hb hts in_CR hown hK hP 5 rfl rfl 5 (by decide) (hts (.fieldLink R_CR 31 R_CR "start" "I") (tm 202 rfl)) (fun _ h9 => h9) rfl d_CR_channelBehind_12 ?_
    refine cl_i (va_runV (As := [.int (σ 5 5)]) (rest := []) ⟨hx, hb, hml, hown, hts⟩ (c_CR_closeAt l dC dI cI cZ a _ σ (σ 5 5) _ hw) (cwV 1 hts (gi_V (tm 205 rfl) (tm 206 rfl) (tm 207 rfl) (tm 197 rfl) (tm 208 rfl)) rfl rfl rfl (by decide +kernel) ⟨Nat.le_of_ble_eq_true rfl, Nat.le_of_ble_eq_true rfl⟩) (pW_V hK hP hD (ci := 5) (k := 5) rfl rfl) rfl rfl hl.1 rfl (lv_room (Nat.le_of_ble_eq_true rfl)) d_CR_channelBehind_15 ⟨Nat.zero_le _, Nat.zero_le _⟩) hD hS hA (fun r_2 σ_2 H locs hw hP hD hS => ?_)
    refine lv_pop hx hb d_CR_channelBehind_18 rfl ?_
    refine lv_aload_n hx hb d_CR_channelBehind_19 rfl (lv_at hl 0 rfl) ?_
    refine va_get (D := (dC, dI)) (ci := 5) (v := .int (σ_2 5 5)) (C := R_CR) (T := F_CR) (N := 7) hx hb hts in_CR hown hK hP 5 rfl rfl 5 (by decide) (hts (.fieldLink R_CR 31 R_CR "start" "I") (tm 202 rfl)) (fun _ h9 => h9) rfl d_CR_channelBehind_20 ?_
    refine lv_topi (fun v_3 ev_3 => ?_)
    have hw := hw v_3 ev_3
    refine lv_istore_n (lv' := [(2, .int v_3), (0, .ref (a 5)), (1, .int x1)]) hx hb d_CR_channelBehind_23 rfl hl (by decide) rfl (fun ls hl => ?_)
    refine lv_iconst (v := 1) hx hb d_CR_channelBehind_24 (by decide) ?_
    refine lv_istore_n (lv' := [(3, .int 1), (2, .int v_3), (0, .ref (a 5)), (1, .int x1)]) hx hb d_CR_channelBehind_25 rfl hl (by decide) rfl (fun ls hl => ?_)
    obtain ⟨k_7, hw⟩ := hw
    have hE_7 : ∀ (y2_7 : Int32) (y3_7 : Int32) (H : Heap) (locs : List Loc) (ls : Array Slot), we_CR_channelBehind_54 σ_2 y2_7 post → va_P (dC, dI) clsT (wC cI cZ a σ_2) H → va_D A (wC cI cZ a σ_2) → va_S A s.heap H locs → lv_has ls 4 [(2, .int y2_7)] → W p l e { frames := 3, cells := 0, slots := 0, locals := 70 } s m ([.ref (a 5), .int x1] : List Value).toArray below meth c H locs 0 0 (MQ below (va_Qi post (bW (dC, dI) clsT (tyT cI cZ) (wC cI cZ a) A) A) ([.ref (a 5), .int x1] : List Value).toArray s 0 0 A) (F0 m 54 ls []) := by
      intro y2_7 y3_7 H locs ls hw hP hD hS hl
      rw [we_CR_channelBehind_54] at hw
      refine lv_iload_n hx hb d_CR_channelBehind_54 rfl (lv_at hl 0 rfl) ?_
      exact rt_i (w := wC cI cZ a) hx hb hr hlocks hK hP hD hS d_CR_channelBehind_55 hw
    have lp_7 : ∀ (kf_7 : Nat) (y2_7 : Int32) (y3_7 : Int32) (H : Heap) (locs : List Loc) (ls : Array Slot), wl_CR_channelBehind_26 σ_2 x1 (fun y2 y3 => we_CR_channelBehind_54 σ_2 y2 post) post kf_7 y2_7 y3_7 → va_P (dC, dI) clsT (wC cI cZ a σ_2) H → va_D A (wC cI cZ a σ_2) → va_S A s.heap H locs → lv_has ls 4 [(0, .ref (a 5)), (1, .int x1), (2, .int y2_7), (3, .int y3_7)] → W p l e { frames := 3, cells := 0, slots := 0, locals := 70 } s m ([.ref (a 5), .int x1] : List Value).toArray below meth c H locs 0 0 (MQ below (va_Qi post (bW (dC, dI) clsT (tyT cI cZ) (wC cI cZ a) A) A) ([.ref (a 5), .int x1] : List Value).toArray s 0 0 A) (F0 m 26 ls []) := by
      intro kf_7
      induction kf_7 with
      | zero => intro y2_7 y3_7 H locs ls hw; rw [wl_CR_channelBehind_26] at hw; exact hw.elim
      | succ kf_7 ih_7 =>
        intro y2_7 y3_7 H locs ls hw hP hD hS hl
        rw [wl_CR_channelBehind_26] at hw
        refine lv_iload_n hx hb d_CR_channelBehind_26 rfl (lv_at hl 3 rfl) ?_
        refine lv_iload_n hx hb d_CR_channelBehind_27 rfl (lv_at hl 1 rfl) ?_
        refine lv_icmp_gt (tgt := 54) hx hb d_CR_channelBehind_28 (by decide) (fun c_8 => ?_) (fun c_8 => ?_)
        · have hw := hw.1 c_8
          exact hE_7 y2_7 y3_7 _ _ _ hw hP hD hS (lv_sub hl [2] rfl)
        · have hw := hw.2 c_8
          refine lv_iload_n hx hb d_CR_channelBehind_31 rfl (lv_at hl 2 rfl) ?_
          refine lv_iconst (v := (-1)) hx hb d_CR_channelBehind_32 (by decide) ?_
          refine lv_icmp_eq (tgt := 54) hx hb d_CR_channelBehind_33 (by decide) (fun c_9 => ?_) (fun c_9 => ?_)
          · have hw := hw.1 c_9
            exact hE_7 y2_7 y3_7 _ _ _ hw hP hD hS (lv_sub hl [2] rfl)
          · have hw := hw.2 c_9
            refine lv_aload_n hx hb d_CR_channelBehind_36 rfl (lv_at hl 0 rfl) ?_
            refine lv_iload_n hx hb d_CR_channelBehind_37 rfl (lv_at hl 2 rfl) ?_
            refine lv_aload_n hx hb d_CR_channelBehind_38 rfl (lv_at hl 0 rfl) ?_
            refine va_get (D := (dC, dI)) (ci := 5) (v := .int (σ_2 5 6)) (C := R_CR) (T := F_CR) (N := 7) hx hb hts in_CR hown hK hP 5 rfl rfl 6 (by decide) (hts (.fieldLink R_CR 35 R_CR "length" "I") (tm 203 rfl)) (fun _ h9 => h9) rfl d_CR_channelBehind_39 ?_
            refine lv_iload_n hx hb d_CR_channelBehind_42 rfl (lv_at hl 3 rfl) ?_
            refine lv_isub hx hb d_CR_channelBehind_43 ?_
            refine cl_r (va_runV (As := [.int y2_7, .int ((σ_2 5 6) - y3_7)]) (rest := []) ⟨hx, hb, hml, hown, hts⟩ (c_CR_lowestThatCloses l dC dI cI cZ a _ σ_2 y2_7 ((σ_2 5 6) - y3_7) _ hw) (cwV 2 hts (gi_V (tm 220 rfl) (tm 221 rfl) (tm 222 rfl) (tm 197 rfl) (tm 223 rfl)) rfl rfl rfl (by decide +kernel) ⟨Nat.le_of_ble_eq_true rfl, Nat.le_of_ble_eq_true rfl⟩) (pW_V hK hP hD (ci := 5) (k := 5) rfl rfl) rfl rfl hl.1 rfl (lv_room (Nat.le_of_ble_eq_true rfl)) d_CR_channelBehind_44 ⟨Nat.zero_le _, Nat.zero_le _⟩) hP hS hA (fun r_10 H locs hw hP hT => ?_)
            have hS := hT _ hA hS
            refine lv_istore_n (lv' := [(2, .int r_10), (0, .ref (a 5)), (1, .int x1), (3, .int y3_7)]) hx hb d_CR_channelBehind_47 rfl hl (by decide) rfl (fun ls hl => ?_)
            refine lv_iinc (v := y3_7 + 1) (lv' := [(3, .int (y3_7 + 1)), (2, .int r_10), (0, .ref (a 5)), (1, .int x1)]) hx hb d_CR_channelBehind_48 hl (k := 3) rfl rfl (by decide) rfl (fun ls hl => ?_)
            refine lv_goto (tgt := 26) hx hb d_CR_channelBehind_51 (by decide) ?_
            exact ih_7 r_10 (y3_7 + 1) _ _ _ hw hP hD hS (lv_sub hl [2, 3, 1, 0] rfl)
    exact lp_7 k_7 v_3 1 _ _ _ hw hP hD hS (lv_sub hl [2, 3, 1, 0] rfl)
  · have hw := hw.2 c_1
    refine lv_iconst (v := (-1)) hx hb d_CR_channelBehind_8 (by decide) ?_
    exact rt_i (w := wC cI cZ a) hx hb hr hlocks hK hP hD hS d_CR_channelBehind_9 hw
set_option maxHeartbeats 4000000 in
set_option maxRecDepth 100000 in
theorem c_CT_isAtRest (l : Launch) (dC : Nat → ClassId) (dI : Nat → Nat → Nat) (cI cZ : ClassId) (a : Nat → Nat) (sz : Nat) (σ : SS) (post : Int32 → Prop) (hw : wp_CT_isAtRest σ post) : Met l y_CT_isAtRest (.code y_CT_isAtRest b_CT_isAtRest 2 (some .boolean) :: TT) { frames := 4, cells := 0, slots := 0, locals := 88 } (pW (dC, dI) clsT (tyT cI cZ) [.ref (a 4)] sz (wC cI cZ a σ)) (va_Qi (fun r (_ : Unit) => post r) (fun _ _ => True) (fun q => sz ≤ q)) 0 0 (fun q => sz ≤ q) := by
  refine hdr (Qf := fun A => (va_Qi (fun r (_ : Unit) => post r) (fun _ _ => True) A)) (by decide) (Nat.le_of_ble_eq_true rfl) ?_
  intro p e s m below meth c A ls hx hb hr hts hown hlocks hml hK hP hD hS hA hl
  have hown : s.vm.findClass R_CT = some m.cls := hown
  have hl : lv_has ls 2 [(0, .ref (a 4))] := hl
  rw [wp_CT_isAtRest] at hw
  refine lv_iconst (v := 0) hx hb d_CT_isAtRest_0 (by decide) ?_
  refine lv_istore_n (lv' := [(1, .int 0), (0, .ref (a 4))]) hx hb d_CT_isAtRest_1 rfl hl (by decide) rfl (fun ls hl => ?_)
  obtain ⟨k_14, hw⟩ := hw
  have hE_14 : ∀ (y1_14 : Int32) (H : Heap) (locs : List Loc) (ls : Array Slot), we_CT_isAtRest_39 σ post → va_P (dC, dI) clsT (wC cI cZ a σ) H → va_S A s.heap H locs → lv_has ls 2 [(0, .ref (a 4))] → W p l e { frames := 4, cells := 0, slots := 0, locals := 88 } s m ([.ref (a 4)] : List Value).toArray below meth c H locs 0 0 (MQ below (va_Qi (fun r (_ : Unit) => post r) (fun _ _ => True) A) ([.ref (a 4)] : List Value).toArray s 0 0 A) (F0 m 39 ls []) := by
    intro y1_14 H locs ls hw hP hS hl
    rw [we_CT_isAtRest_39] at hw
    refine lv_iconst (v := 0) hx hb d_CT_isAtRest_39 (by decide) ?_
    refine lv_istore_n (lv' := [(1, .int 0), (0, .ref (a 4))]) hx hb d_CT_isAtRest_40 rfl hl (by decide) rfl (fun ls hl => ?_)
    obtain ⟨k_15, hw⟩ := hw
    have hE_15 : ∀ (y1_15 : Int32) (H : Heap) (locs : List Loc) (ls : Array Slot), we_CT_isAtRest_69 σ post → va_P (dC, dI) clsT (wC cI cZ a σ) H → va_S A s.heap H locs → lv_has ls 2 [] → W p l e { frames := 4, cells := 0, slots := 0, locals := 88 } s m ([.ref (a 4)] : List Value).toArray below meth c H locs 0 0 (MQ below (va_Qi (fun r (_ : Unit) => post r) (fun _ _ => True) A) ([.ref (a 4)] : List Value).toArray s 0 0 A) (F0 m 69 ls []) := by
      intro y1_15 H locs ls hw hP hS hl
      rw [we_CT_isAtRest_69] at hw
      refine lv_iconst (v := 1) hx hb d_CT_isAtRest_69 (by decide) ?_
      exact rr_z hx hb hr hlocks hS d_CT_isAtRest_70 (Or.inr rfl) hw
    have lp_15 : ∀ (kf_15 : Nat) (y1_15 : Int32) (H : Heap) (locs : List Loc) (ls : Array Slot), wl_CT_isAtRest_41 σ (fun y1 => we_CT_isAtRest_69 σ post) post kf_15 y1_15 → va_P (dC, dI) clsT (wC cI cZ a σ) H → va_S A s.heap H locs → lv_has ls 2 [(0, .ref (a 4)), (1, .int y1_15)] → W p l e { frames := 4, cells := 0, slots := 0, locals := 88 } s m ([.ref (a 4)] : List Value).toArray below meth c H locs 0 0 (MQ below (va_Qi (fun r (_ : Unit) => post r) (fun _ _ => True) A) ([.ref (a 4)] : List Value).toArray s 0 0 A) (F0 m 41 ls []) := by
      intro kf_15
      induction kf_15 with
      | zero => intro y1_15 H locs ls hw; rw [wl_CT_isAtRest_41] at hw; exact hw.elim
      | succ kf_15 ih_15 =>
        intro y1_15 H locs ls hw hP hS hl
        rw [wl_CT_isAtRest_41] at hw
        refine lv_iload_n hx hb d_CT_isAtRest_41 rfl (lv_at hl 1 rfl) ?_
        refine lv_aload_n hx hb d_CT_isAtRest_42 rfl (lv_at hl 0 rfl) ?_
        refine va_get (D := (dC, dI)) (ci := 4) (v := .ref (a 1)) (C := R_CT) (T := F_CT) (N := 10) hx hb hts in_CT hown hK hP 4 rfl rfl 0 (by decide) (hts (.fieldLink R_CT 27 R_CT "plan" "LNetRoutes$Plan;") (tm 77 rfl)) (fun _ h9 => h9) rfl d_CT_isAtRest_43 ?_
        refine va_get (D := (dC, dI)) (ci := 1) (v := .int (σ 1 1)) (C := R_CP) (T := F_CP) (N := 8) hx hb hts in_CP hown hK hP 1 rfl rfl 1 (by decide) (hts (.fieldLink R_CT 80 R_CP "links" "I") (tm 146 rfl)) (fun _ h9 => h9) rfl d_CT_isAtRest_46 ?_
        refine lv_icmp_ge (tgt := 69) hx hb d_CT_isAtRest_49 (by decide) (fun c_16 => ?_) (fun c_16 => ?_)
        · have hw := hw.1 c_16
          exact hE_15 y1_15 _ _ _ hw hP hS (lv_sub hl [] rfl)
        · have hw := hw.2 c_16
          refine lv_aload_n hx hb d_CT_isAtRest_52 rfl (lv_at hl 0 rfl) ?_
          refine lv_iload_n hx hb d_CT_isAtRest_53 rfl (lv_at hl 1 rfl) ?_
          refine cl_r (va_runV (As := [.int y1_15]) (rest := []) ⟨hx, hb, hml, hown, hts⟩ (c_CT_laneToMove l dC dI cI cZ a _ σ y1_15 _ hw) (cwV 1 hts (gi_V (tm 151 rfl) (tm 152 rfl) (tm 153 rfl) (tm 107 rfl) (tm 154 rfl)) rfl rfl rfl (by decide +kernel) ⟨Nat.le_of_ble_eq_true rfl, Nat.le_of_ble_eq_true rfl⟩) (pW_V hK hP hD (ci := 4) (k := 4) rfl rfl) rfl rfl hl.1 rfl (lv_room (Nat.le_of_ble_eq_true rfl)) d_CT_isAtRest_54 ⟨Nat.zero_le _, Nat.zero_le _⟩) hP hS hA (fun r_17 H locs hw hP hT => ?_)
          have hS := hT _ hA hS
          refine lv_iconst (v := (-1)) hx hb d_CT_isAtRest_57 (by decide) ?_
          refine lv_icmp_eq (tgt := 63) hx hb d_CT_isAtRest_58 (by decide) (fun c_18 => ?_) (fun c_18 => ?_)
          · have hw := hw.1 c_18
            refine lv_iinc (v := y1_15 + 1) (lv' := [(1, .int (y1_15 + 1)), (0, .ref (a 4))]) hx hb d_CT_isAtRest_63 hl (k := 1) rfl rfl (by decide) rfl (fun ls hl => ?_)
            refine lv_goto (tgt := 41) hx hb d_CT_isAtRest_66 (by decide) ?_
            exact ih_15 (y1_15 + 1) _ _ _ hw hP hS (lv_sub hl [1, 0] rfl)
          · have hw := hw.2 c_18
            refine lv_iconst (v := 0) hx hb d_CT_isAtRest_61 (by decide) ?_
            exact rr_z hx hb hr hlocks hS d_CT_isAtRest_62 (Or.inl rfl) hw
    exact lp_15 k_15 0 _ _ _ hw hP hS (lv_sub hl [1, 0] rfl)
  have lp_14 : ∀ (kf_14 : Nat) (y1_14 : Int32) (H : Heap) (locs : List Loc) (ls : Array Slot), wl_CT_isAtRest_2 σ (fun y1 => we_CT_isAtRest_39 σ post) post kf_14 y1_14 → va_P (dC, dI) clsT (wC cI cZ a σ) H → va_S A s.heap H locs → lv_has ls 2 [(0, .ref (a 4)), (1, .int y1_14)] → W p l e { frames := 4, cells := 0, slots := 0, locals := 88 } s m ([.ref (a 4)] : List Value).toArray below meth c H locs 0 0 (MQ below (va_Qi (fun r (_ : Unit) => post r) (fun _ _ => True) A) ([.ref (a 4)] : List Value).toArray s 0 0 A) (F0 m 2 ls []) := by
    intro kf_14
    induction kf_14 with
    | zero => intro y1_14 H locs ls hw; rw [wl_CT_isAtRest_2] at hw; exact hw.elim
    | succ kf_14 ih_14 =>
      intro y1_14 H locs ls hw hP hS hl
      rw [wl_CT_isAtRest_2] at hw
      refine lv_iload_n hx hb d_CT_isAtRest_2 rfl (lv_at hl 1 rfl) ?_
      refine lv_aload_n hx hb d_CT_isAtRest_3 rfl (lv_at hl 0 rfl) ?_
      refine va_get (D := (dC, dI)) (ci := 4) (v := .ref (a 3)) (C := R_CT) (T := F_CT) (N := 10) hx hb hts in_CT hown hK hP 4 rfl rfl 2 (by decide) (hts (.fieldLink R_CT 35 R_CT "inputs" "LNetRoutes$Inputs;") (tm 74 rfl)) (fun _ h9 => h9) rfl d_CT_isAtRest_4 ?_
      refine cl_r (va_runV (As := []) (rest := [.int y1_14]) ⟨hx, hb, hml, hown, hts⟩ (c_CI_inUse l dC dI cI cZ a _ σ _ hw) (cwV 0 hts (gi_V (tm 109 rfl) (tm 110 rfl) (tm 111 rfl) (tm 49 rfl) (tm 112 rfl)) rfl rfl rfl (by decide +kernel) ⟨Nat.le_of_ble_eq_true rfl, Nat.le_of_ble_eq_true rfl⟩) (pW_V hK hP hD (ci := 3) (k := 3) rfl rfl) rfl rfl hl.1 rfl (lv_room (Nat.le_of_ble_eq_true rfl)) d_CT_isAtRest_7 ⟨Nat.zero_le _, Nat.zero_le _⟩) hP hS hA (fun r_19 H locs hw hP hT => ?_)
      have hS := hT _ hA hS
      refine lv_icmp_ge (tgt := 39) hx hb d_CT_isAtRest_10 (by decide) (fun c_20 => ?_) (fun c_20 => ?_)
      · have hw := hw.1 c_20
        exact hE_14 y1_14 _ _ _ hw hP hS (lv_sub hl [0] rfl)
      · have hw := hw.2 c_20
        refine lv_aload_n hx hb d_CT_isAtRest_13 rfl (lv_at hl 0 rfl) ?_
        refine lv_iload_n hx hb d_CT_isAtRest_14 rfl (lv_at hl 1 rfl) ?_
        refine cl_r (va_runV (As := [.int y1_14]) (rest := []) ⟨hx, hb, hml, hown, hts⟩ (c_CT_channelToGet l dC dI cI cZ a _ σ y1_14 _ hw) (cwV 1 hts (gi_V (tm 104 rfl) (tm 105 rfl) (tm 106 rfl) (tm 107 rfl) (tm 108 rfl)) rfl rfl rfl (by decide +kernel) ⟨Nat.le_of_ble_eq_true rfl, Nat.le_of_ble_eq_true rfl⟩) (pW_V hK hP hD (ci := 4) (k := 4) rfl rfl) rfl rfl hl.1 rfl (lv_room (Nat.le_of_ble_eq_true rfl)) d_CT_isAtRest_15 ⟨Nat.zero_le _, Nat.zero_le _⟩) hP hS hA (fun r_21 H locs hw hP hT => ?_)
        have hS := hT _ hA hS
        refine lv_iconst (v := (-1)) hx hb d_CT_isAtRest_18 (by decide) ?_
        refine lv_icmp_ne (tgt := 31) hx hb d_CT_isAtRest_19 (by decide) (fun c_22 => ?_) (fun c_22 => ?_)
        · have hw := hw.1 c_22
          refine lv_iconst (v := 0) hx hb d_CT_isAtRest_31 (by decide) ?_
          exact rr_z hx hb hr hlocks hS d_CT_isAtRest_32 (Or.inl rfl) hw
        · have hw := hw.2 c_22
          refine lv_aload_n hx hb d_CT_isAtRest_22 rfl (lv_at hl 0 rfl) ?_
          refine lv_iload_n hx hb d_CT_isAtRest_23 rfl (lv_at hl 1 rfl) ?_
          refine cl_r (va_runV (As := [.int y1_14]) (rest := []) ⟨hx, hb, hml, hown, hts⟩ (c_CT_flitToLeave l dC dI cI cZ a _ σ y1_14 _ hw) (cwV 1 hts (gi_V (tm 165 rfl) (tm 166 rfl) (tm 167 rfl) (tm 107 rfl) (tm 168 rfl)) rfl rfl rfl (by decide +kernel) ⟨Nat.le_of_ble_eq_true rfl, Nat.le_of_ble_eq_true rfl⟩) (pW_V hK hP hD (ci := 4) (k := 4) rfl rfl) rfl rfl hl.1 rfl (lv_room (Nat.le_of_ble_eq_true rfl)) d_CT_isAtRest_24 ⟨Nat.zero_le _, Nat.zero_le _⟩) hP hS hA (fun r_23 H locs hw hP hT => ?_)
          have hS := hT _ hA hS
          refine lv_iconst (v := (-1)) hx hb d_CT_isAtRest_27 (by decide) ?_
          refine lv_icmp_eq (tgt := 33) hx hb d_CT_isAtRest_28 (by decide) (fun c_24 => ?_) (fun c_24 => ?_)
          · have hw := hw.1 c_24
            refine lv_iinc (v := y1_14 + 1) (lv' := [(1, .int (y1_14 + 1)), (0, .ref (a 4))]) hx hb d_CT_isAtRest_33 hl (k := 1) rfl rfl (by decide) rfl (fun ls hl => ?_)
            refine lv_goto (tgt := 2) hx hb d_CT_isAtRest_36 (by decide) ?_
            exact ih_14 (y1_14 + 1) _ _ _ hw hP hS (lv_sub hl [1, 0] rfl)
          · have hw := hw.2 c_24
            refine lv_iconst (v := 0) hx hb d_CT_isAtRest_31 (by decide) ?_
            exact rr_z hx hb hr hlocks hS d_CT_isAtRest_32 (Or.inl rfl) hw
  exact lp_14 k_14 0 _ _ _ hw hP hS (lv_sub hl [1, 0] rfl)
set_option maxHeartbeats 4000000 in
set_option maxRecDepth 100000 in
theorem c_CN_stuck (l : Launch) (dC : Nat → ClassId) (dI : Nat → Nat → Nat) (cI cZ : ClassId) (a : Nat → Nat) (sz : Nat) (σ : SS) (post : Int32 → Prop) (hw : wp_CN_stuck σ post) : Met l y_CN_stuck (.code y_CN_stuck b_CN_stuck 1 (some .boolean) :: TT) { frames := 5, cells := 0, slots := 0, locals := 109 } (pW (dC, dI) clsT (tyT cI cZ) [.ref (a 0)] sz (wC cI cZ a σ)) (va_Qi (fun r (_ : Unit) => post r) (fun _ _ => True) (fun q => sz ≤ q)) 0 0 (fun q => sz ≤ q) := by
  refine hdr (Qf := fun A => (va_Qi (fun r (_ : Unit) => post r) (fun _ _ => True) A)) (by decide) (Nat.le_of_ble_eq_true rfl) ?_
  intro p e s m below meth c A ls hx hb hr hts hown hlocks hml hK hP hD hS hA hl
  have hown : s.vm.findClass R_CN = some m.cls := hown
  have hl : lv_has ls 1 [(0, .ref (a 0))] := hl
  rw [wp_CN_stuck] at hw
  refine lv_aload_n hx hb d_CN_stuck_0 rfl (lv_at hl 0 rfl) ?_
  refine va_get (D := (dC, dI)) (ci := 0) (v := .ref (a 2)) (C := R_CN) (T := F_CN) (N := 6) hx hb hts in_CN hown hK hP 0 rfl rfl 1 (by decide) (hts (.fieldLink R_CN 23 R_CN "packets" "LNetRoutes$Packets;") (tm 44 rfl)) (fun _ h9 => h9) rfl d_CN_stuck_1 ?_
  refine va_get (D := (dC, dI)) (ci := 2) (v := .int (σ 2 1)) (C := R_CK) (T := F_CK) (N := 7) hx hb hts in_CK hown hK hP 2 rfl rfl 1 (by decide) (hts (.fieldLink R_CN 148 R_CK "arrived" "I") (tm 224 rfl)) (fun _ h9 => h9) rfl d_CN_stuck_4 ?_
  refine lv_aload_n hx hb d_CN_stuck_7 rfl (lv_at hl 0 rfl) ?_
  refine va_get (D := (dC, dI)) (ci := 0) (v := .ref (a 2)) (C := R_CN) (T := F_CN) (N := 6) hx hb hts in_CN hown hK hP 0 rfl rfl 1 (by decide) (hts (.fieldLink R_CN 23 R_CN "packets" "LNetRoutes$Packets;") (tm 44 rfl)) (fun _ h9 => h9) rfl d_CN_stuck_8 ?_
  refine va_get (D := (dC, dI)) (ci := 2) (v := .int (σ 2 0)) (C := R_CK) (T := F_CK) (N := 7) hx hb hts in_CK hown hK hP 2 rfl rfl 0 (by decide) (hts (.fieldLink R_CN 125 R_CK "many" "I") (tm 225 rfl)) (fun _ h9 => h9) rfl d_CN_stuck_11 ?_
  refine lv_icmp_ge (tgt := 31) hx hb d_CN_stuck_14 (by decide) (fun c_1 => ?_) (fun c_1 => ?_)
  · have hw := hw.1 c_1
    refine lv_iconst (v := 0) hx hb d_CN_stuck_31 (by decide) ?_
    exact rr_z hx hb hr hlocks hS d_CN_stuck_32 (Or.inl rfl) hw
  · have hw := hw.2 c_1
    refine lv_aload_n hx hb d_CN_stuck_17 rfl (lv_at hl 0 rfl) ?_
    refine va_get (D := (dC, dI)) (ci := 0) (v := .ref (a 4)) (C := R_CN) (T := F_CN) (N := 6) hx hb hts in_CN hown hK hP 0 rfl rfl 3 (by decide) (hts (.fieldLink R_CN 41 R_CN "traffic" "LNetRoutes$Traffic;") (tm 226 rfl)) (fun _ h9 => h9) rfl d_CN_stuck_18 ?_
    refine cl_r (va_runV (As := []) (rest := []) ⟨hx, hb, hml, hown, hts⟩ (c_CT_isAtRest l dC dI cI cZ a _ σ _ hw) (cwV 0 hts (gi_V (tm 227 rfl) (tm 228 rfl) (tm 229 rfl) (tm 107 rfl) (tm 230 rfl)) rfl rfl rfl (by decide +kernel) ⟨Nat.le_of_ble_eq_true rfl, Nat.le_of_ble_eq_true rfl⟩) (pW_V hK hP hD (ci := 4) (k := 4) rfl rfl) rfl rfl hl.1 rfl (lv_room (Nat.le_of_ble_eq_true rfl)) d_CN_stuck_21 ⟨Nat.zero_le _, Nat.zero_le _⟩) hP hS hA (fun r_2 H locs hw hP hT => ?_)
    have hS := hT _ hA hS
    refine lv_if_eq (tgt := 31) hx hb d_CN_stuck_24 (by decide) (fun c_3 => ?_) (fun c_3 => ?_)
    · have hw := hw.1 c_3
      refine lv_iconst (v := 0) hx hb d_CN_stuck_31 (by decide) ?_
      exact rr_z hx hb hr hlocks hS d_CN_stuck_32 (Or.inl rfl) hw
    · have hw := hw.2 c_3
      refine lv_iconst (v := 1) hx hb d_CN_stuck_27 (by decide) ?_
      refine lv_goto (tgt := 32) hx hb d_CN_stuck_28 (by decide) ?_
      exact rr_z hx hb hr hlocks hS d_CN_stuck_32 (Or.inr rfl) hw
set_option maxHeartbeats 4000000 in
set_option maxRecDepth 100000 in
theorem c_CK_sumOf_14 (l : Launch) (dC : Nat → ClassId) (dI : Nat → Nat → Nat) (cI cZ : ClassId) (a : Nat → Nat) (sz : Nat) (σ : SS) (post : Int32 → Prop) (hw : wp_CK_sumOf_14 σ post) : Met l y_CK_sumOf (.code y_CK_sumOf b_CK_sumOf 4 (some .int) :: TT) { frames := 0, cells := 0, slots := 0, locals := 0 } (pW (dC, dI) clsT (tyT cI cZ) [.ref (a 2), .ref (a 14)] sz (wC cI cZ a σ)) (va_Qi (fun r (_ : Unit) => post r) (fun _ _ => True) (fun q => sz ≤ q)) 0 0 (fun q => sz ≤ q) := by
  refine hdr (Qf := fun A => (va_Qi (fun r (_ : Unit) => post r) (fun _ _ => True) A)) (by decide) (Nat.le_of_ble_eq_true rfl) ?_
  intro p e s m below meth c A ls hx hb hr hts hown hlocks hml hK hP hD hS hA hl
  have hown : s.vm.findClass R_CK = some m.cls := hown
  have hl : lv_has ls 4 [(0, .ref (a 2)), (1, .ref (a 14))] := hl
  rw [wp_CK_sumOf_14] at hw
  refine lv_iconst (v := 0) hx hb d_CK_sumOf_0 (by decide) ?_
  refine lv_istore_n (lv' := [(2, .int 0), (0, .ref (a 2)), (1, .ref (a 14))]) hx hb d_CK_sumOf_1 rfl hl (by decide) rfl (fun ls hl => ?_)
  refine lv_iconst (v := 0) hx hb d_CK_sumOf_2 (by decide) ?_
  refine lv_istore_n (lv' := [(3, .int 0), (2, .int 0), (0, .ref (a 2)), (1, .ref (a 14))]) hx hb d_CK_sumOf_3 rfl hl (by decide) rfl (fun ls hl => ?_)
  obtain ⟨k_4, hw⟩ := hw
  have hE_4 : ∀ (y2_4 : Int32) (y3_4 : Int32) (H : Heap) (locs : List Loc) (ls : Array Slot), we_CK_sumOf_14_30 σ y2_4 post → va_P (dC, dI) clsT (wC cI cZ a σ) H → va_S A s.heap H locs → lv_has ls 4 [(2, .int y2_4)] → W p l e { frames := 0, cells := 0, slots := 0, locals := 0 } s m ([.ref (a 2), .ref (a 14)] : List Value).toArray below meth c H locs 0 0 (MQ below (va_Qi (fun r (_ : Unit) => post r) (fun _ _ => True) A) ([.ref (a 2), .ref (a 14)] : List Value).toArray s 0 0 A) (F0 m 30 ls []) := by
    intro y2_4 y3_4 H locs ls hw hP hS hl
    rw [we_CK_sumOf_14_30] at hw
    refine lv_iload_n hx hb d_CK_sumOf_30 rfl (lv_at hl 0 rfl) ?_
    exact rr_i hx hb hr hlocks hS d_CK_sumOf_31 hw
  have lp_4 : ∀ (kf_4 : Nat) (y2_4 : Int32) (y3_4 : Int32) (H : Heap) (locs : List Loc) (ls : Array Slot), wl_CK_sumOf_14_4 σ (fun y2 y3 => we_CK_sumOf_14_30 σ y2 post) post kf_4 y2_4 y3_4 → va_P (dC, dI) clsT (wC cI cZ a σ) H → va_S A s.heap H locs → lv_has ls 4 [(0, .ref (a 2)), (1, .ref (a 14)), (2, .int y2_4), (3, .int y3_4)] → W p l e { frames := 0, cells := 0, slots := 0, locals := 0 } s m ([.ref (a 2), .ref (a 14)] : List Value).toArray below meth c H locs 0 0 (MQ below (va_Qi (fun r (_ : Unit) => post r) (fun _ _ => True) A) ([.ref (a 2), .ref (a 14)] : List Value).toArray s 0 0 A) (F0 m 4 ls []) := by
    intro kf_4
    induction kf_4 with
    | zero => intro y2_4 y3_4 H locs ls hw; rw [wl_CK_sumOf_14_4] at hw; exact hw.elim
    | succ kf_4 ih_4 =>
      intro y2_4 y3_4 H locs ls hw hP hS hl
      rw [wl_CK_sumOf_14_4] at hw
      refine lv_iload_n hx hb d_CK_sumOf_4 rfl (lv_at hl 3 rfl) ?_
      refine lv_aload_n hx hb d_CK_sumOf_5 rfl (lv_at hl 0 rfl) ?_
      refine va_get (D := (dC, dI)) (ci := 2) (v := .int (σ 2 0)) (C := R_CK) (T := F_CK) (N := 7) hx hb hts in_CK hown hK hP 2 rfl rfl 0 (by decide) (hts (.fieldLink R_CK 27 R_CK "many" "I") (tm 37 rfl)) (fun _ h9 => h9) rfl d_CK_sumOf_6 ?_
      refine lv_icmp_ge (tgt := 30) hx hb d_CK_sumOf_9 (by decide) (fun c_5 => ?_) (fun c_5 => ?_)
      · have hw := hw.1 c_5
        exact hE_4 y2_4 y3_4 _ _ _ hw hP hS (lv_sub hl [2] rfl)
      · have hw := hw.2 c_5
        refine lv_iload_n hx hb d_CK_sumOf_12 rfl (lv_at hl 3 rfl) ?_
        refine lv_aload_n hx hb d_CK_sumOf_13 rfl (lv_at hl 1 rfl) ?_
        refine va_alen hx hb hK hP 14 0 rfl rfl (v := 400) rfl d_CK_sumOf_14 ?_
        refine lv_icmp_ge (tgt := 30) hx hb d_CK_sumOf_15 (by decide) (fun c_6 => ?_) (fun c_6 => ?_)
        · have hw := hw.1 c_6
          exact hE_4 y2_4 y3_4 _ _ _ hw hP hS (lv_sub hl [2] rfl)
        · have hw := hw.2 c_6
          refine lv_iload_n hx hb d_CK_sumOf_18 rfl (lv_at hl 2 rfl) ?_
          refine lv_aload_n hx hb d_CK_sumOf_19 rfl (lv_at hl 1 rfl) ?_
          refine lv_iload_n hx hb d_CK_sumOf_20 rfl (lv_at hl 3 rfl) ?_
          obtain ⟨hin, hw⟩ := hw
          refine va_iald hx hb hK hP 14 0 rfl rfl hin d_CK_sumOf_21 ?_
          refine lv_iadd hx hb d_CK_sumOf_22 ?_
          refine lv_topi (fun v_7 ev_7 => ?_)
          have hw := hw v_7 ev_7
          refine lv_istore_n (lv' := [(2, .int v_7), (0, .ref (a 2)), (1, .ref (a 14)), (3, .int y3_4)]) hx hb d_CK_sumOf_23 rfl hl (by decide) rfl (fun ls hl => ?_)
          refine lv_iinc (v := y3_4 + 1) (lv' := [(3, .int (y3_4 + 1)), (2, .int v_7), (0, .ref (a 2)), (1, .ref (a 14))]) hx hb d_CK_sumOf_24 hl (k := 3) rfl rfl (by decide) rfl (fun ls hl => ?_)
          refine lv_goto (tgt := 4) hx hb d_CK_sumOf_27 (by decide) ?_
          exact ih_4 v_7 (y3_4 + 1) _ _ _ hw hP hS (lv_sub hl [2, 3, 1, 0] rfl)
  exact lp_4 k_4 0 0 _ _ _ hw hP hS (lv_sub hl [2, 3, 1, 0] rfl)
set_option maxHeartbeats 4000000 in
set_option maxRecDepth 100000 in
theorem c_CK_flitsInQueues (l : Launch) (dC : Nat → ClassId) (dI : Nat → Nat → Nat) (cI cZ : ClassId) (a : Nat → Nat) (sz : Nat) (σ : SS) (post : Int32 → Prop) (hw : wp_CK_flitsInQueues σ post) : Met l y_CK_flitsInQueues (.code y_CK_flitsInQueues b_CK_flitsInQueues 1 (some .int) :: TT) { frames := 1, cells := 0, slots := 0, locals := 23 } (pW (dC, dI) clsT (tyT cI cZ) [.ref (a 2)] sz (wC cI cZ a σ)) (va_Qi (fun r (_ : Unit) => post r) (fun _ _ => True) (fun q => sz ≤ q)) 0 0 (fun q => sz ≤ q) := by
  refine hdr (Qf := fun A => (va_Qi (fun r (_ : Unit) => post r) (fun _ _ => True) A)) (by decide) (Nat.le_of_ble_eq_true rfl) ?_
  intro p e s m below meth c A ls hx hb hr hts hown hlocks hml hK hP hD hS hA hl
  have hown : s.vm.findClass R_CK = some m.cls := hown
  have hl : lv_has ls 1 [(0, .ref (a 2))] := hl
  rw [wp_CK_flitsInQueues] at hw
  refine lv_aload_n hx hb d_CK_flitsInQueues_0 rfl (lv_at hl 0 rfl) ?_
  refine lv_aload_n hx hb d_CK_flitsInQueues_1 rfl (lv_at hl 0 rfl) ?_
  refine va_get (D := (dC, dI)) (ci := 2) (v := .ref (a 14)) (C := R_CK) (T := F_CK) (N := 7) hx hb hts in_CK hown hK hP 2 rfl rfl 4 (by decide) (hts (.fieldLink R_CK 18 R_CK "waiting" "[I") (tm 40 rfl)) (fun _ h9 => h9) rfl d_CK_flitsInQueues_2 ?_
  refine cl_r (va_runV (As := [.ref (a 14)]) (rest := []) ⟨hx, hb, hml, hown, hts⟩ (c_CK_sumOf_14 l dC dI cI cZ a _ σ _ hw) (cwV 1 hts (gi_V (tm 231 rfl) (tm 232 rfl) (tm 233 rfl) (tm 54 rfl) (tm 234 rfl)) rfl rfl rfl (by decide +kernel) ⟨Nat.le_of_ble_eq_true rfl, Nat.le_of_ble_eq_true rfl⟩) (pW_V hK hP hD (ci := 2) (k := 2) rfl rfl) rfl rfl hl.1 rfl (lv_room (Nat.le_of_ble_eq_true rfl)) d_CK_flitsInQueues_5 ⟨Nat.zero_le _, Nat.zero_le _⟩) hP hS hA (fun r_1 H locs hw hP hT => ?_)
  have hS := hT _ hA hS
  exact rr_i hx hb hr hlocks hS d_CK_flitsInQueues_8 hw
set_option maxHeartbeats 4000000 in
set_option maxRecDepth 100000 in
theorem c_CK_sumOf_13 (l : Launch) (dC : Nat → ClassId) (dI : Nat → Nat → Nat) (cI cZ : ClassId) (a : Nat → Nat) (sz : Nat) (σ : SS) (post : Int32 → Prop) (hw : wp_CK_sumOf_13 σ post) : Met l y_CK_sumOf (.code y_CK_sumOf b_CK_sumOf 4 (some .int) :: TT) { frames := 0, cells := 0, slots := 0, locals := 0 } (pW (dC, dI) clsT (tyT cI cZ) [.ref (a 2), .ref (a 13)] sz (wC cI cZ a σ)) (va_Qi (fun r (_ : Unit) => post r) (fun _ _ => True) (fun q => sz ≤ q)) 0 0 (fun q => sz ≤ q) := by
  refine hdr (Qf := fun A => (va_Qi (fun r (_ : Unit) => post r) (fun _ _ => True) A)) (by decide) (Nat.le_of_ble_eq_true rfl) ?_
  intro p e s m below meth c A ls hx hb hr hts hown hlocks hml hK hP hD hS hA hl
  have hown : s.vm.findClass R_CK = some m.cls := hown
  have hl : lv_has ls 4 [(0, .ref (a 2)), (1, .ref (a 13))] := hl
  rw [wp_CK_sumOf_13] at hw
  refine lv_iconst (v := 0) hx hb d_CK_sumOf_0 (by decide) ?_
  refine lv_istore_n (lv' := [(2, .int 0), (0, .ref (a 2)), (1, .ref (a 13))]) hx hb d_CK_sumOf_1 rfl hl (by decide) rfl (fun ls hl => ?_)
  refine lv_iconst (v := 0) hx hb d_CK_sumOf_2 (by decide) ?_
  refine lv_istore_n (lv' := [(3, .int 0), (2, .int 0), (0, .ref (a 2)), (1, .ref (a 13))]) hx hb d_CK_sumOf_3 rfl hl (by decide) rfl (fun ls hl => ?_)
  obtain ⟨k_4, hw⟩ := hw
  have hE_4 : ∀ (y2_4 : Int32) (y3_4 : Int32) (H : Heap) (locs : List Loc) (ls : Array Slot), we_CK_sumOf_13_30 σ y2_4 post → va_P (dC, dI) clsT (wC cI cZ a σ) H → va_S A s.heap H locs → lv_has ls 4 [(2, .int y2_4)] → W p l e { frames := 0, cells := 0, slots := 0, locals := 0 } s m ([.ref (a 2), .ref (a 13)] : List Value).toArray below meth c H locs 0 0 (MQ below (va_Qi (fun r (_ : Unit) => post r) (fun _ _ => True) A) ([.ref (a 2), .ref (a 13)] : List Value).toArray s 0 0 A) (F0 m 30 ls []) := by
    intro y2_4 y3_4 H locs ls hw hP hS hl
    rw [we_CK_sumOf_13_30] at hw
    refine lv_iload_n hx hb d_CK_sumOf_30 rfl (lv_at hl 0 rfl) ?_
    exact rr_i hx hb hr hlocks hS d_CK_sumOf_31 hw
  have lp_4 : ∀ (kf_4 : Nat) (y2_4 : Int32) (y3_4 : Int32) (H : Heap) (locs : List Loc) (ls : Array Slot), wl_CK_sumOf_13_4 σ (fun y2 y3 => we_CK_sumOf_13_30 σ y2 post) post kf_4 y2_4 y3_4 → va_P (dC, dI) clsT (wC cI cZ a σ) H → va_S A s.heap H locs → lv_has ls 4 [(0, .ref (a 2)), (1, .ref (a 13)), (2, .int y2_4), (3, .int y3_4)] → W p l e { frames := 0, cells := 0, slots := 0, locals := 0 } s m ([.ref (a 2), .ref (a 13)] : List Value).toArray below meth c H locs 0 0 (MQ below (va_Qi (fun r (_ : Unit) => post r) (fun _ _ => True) A) ([.ref (a 2), .ref (a 13)] : List Value).toArray s 0 0 A) (F0 m 4 ls []) := by
    intro kf_4
    induction kf_4 with
    | zero => intro y2_4 y3_4 H locs ls hw; rw [wl_CK_sumOf_13_4] at hw; exact hw.elim
    | succ kf_4 ih_4 =>
      intro y2_4 y3_4 H locs ls hw hP hS hl
      rw [wl_CK_sumOf_13_4] at hw
      refine lv_iload_n hx hb d_CK_sumOf_4 rfl (lv_at hl 3 rfl) ?_
      refine lv_aload_n hx hb d_CK_sumOf_5 rfl (lv_at hl 0 rfl) ?_
      refine va_get (D := (dC, dI)) (ci := 2) (v := .int (σ 2 0)) (C := R_CK) (T := F_CK) (N := 7) hx hb hts in_CK hown hK hP 2 rfl rfl 0 (by decide) (hts (.fieldLink R_CK 27 R_CK "many" "I") (tm 37 rfl)) (fun _ h9 => h9) rfl d_CK_sumOf_6 ?_
      refine lv_icmp_ge (tgt := 30) hx hb d_CK_sumOf_9 (by decide) (fun c_5 => ?_) (fun c_5 => ?_)
      · have hw := hw.1 c_5
        exact hE_4 y2_4 y3_4 _ _ _ hw hP hS (lv_sub hl [2] rfl)
      · have hw := hw.2 c_5
        refine lv_iload_n hx hb d_CK_sumOf_12 rfl (lv_at hl 3 rfl) ?_
        refine lv_aload_n hx hb d_CK_sumOf_13 rfl (lv_at hl 1 rfl) ?_
        refine va_alen hx hb hK hP 13 0 rfl rfl (v := 400) rfl d_CK_sumOf_14 ?_
        refine lv_icmp_ge (tgt := 30) hx hb d_CK_sumOf_15 (by decide) (fun c_6 => ?_) (fun c_6 => ?_)
        · have hw := hw.1 c_6
          exact hE_4 y2_4 y3_4 _ _ _ hw hP hS (lv_sub hl [2] rfl)
        · have hw := hw.2 c_6
          refine lv_iload_n hx hb d_CK_sumOf_18 rfl (lv_at hl 2 rfl) ?_
          refine lv_aload_n hx hb d_CK_sumOf_19 rfl (lv_at hl 1 rfl) ?_
          refine lv_iload_n hx hb d_CK_sumOf_20 rfl (lv_at hl 3 rfl) ?_
          obtain ⟨hin, hw⟩ := hw
          refine va_iald hx hb hK hP 13 0 rfl rfl hin d_CK_sumOf_21 ?_
          refine lv_iadd hx hb d_CK_sumOf_22 ?_
          refine lv_topi (fun v_7 ev_7 => ?_)
          have hw := hw v_7 ev_7
          refine lv_istore_n (lv' := [(2, .int v_7), (0, .ref (a 2)), (1, .ref (a 13)), (3, .int y3_4)]) hx hb d_CK_sumOf_23 rfl hl (by decide) rfl (fun ls hl => ?_)
          refine lv_iinc (v := y3_4 + 1) (lv' := [(3, .int (y3_4 + 1)), (2, .int v_7), (0, .ref (a 2)), (1, .ref (a 13))]) hx hb d_CK_sumOf_24 hl (k := 3) rfl rfl (by decide) rfl (fun ls hl => ?_)
          refine lv_goto (tgt := 4) hx hb d_CK_sumOf_27 (by decide) ?_
          exact ih_4 v_7 (y3_4 + 1) _ _ _ hw hP hS (lv_sub hl [2, 3, 1, 0] rfl)
  exact lp_4 k_4 0 0 _ _ _ hw hP hS (lv_sub hl [2, 3, 1, 0] rfl)
set_option maxHeartbeats 4000000 in
set_option maxRecDepth 100000 in
theorem c_CK_sumOf_15 (l : Launch) (dC : Nat → ClassId) (dI : Nat → Nat → Nat) (cI cZ : ClassId) (a : Nat → Nat) (sz : Nat) (σ : SS) (post : Int32 → Prop) (hw : wp_CK_sumOf_15 σ post) : Met l y_CK_sumOf (.code y_CK_sumOf b_CK_sumOf 4 (some .int) :: TT) { frames := 0, cells := 0, slots := 0, locals := 0 } (pW (dC, dI) clsT (tyT cI cZ) [.ref (a 2), .ref (a 15)] sz (wC cI cZ a σ)) (va_Qi (fun r (_ : Unit) => post r) (fun _ _ => True) (fun q => sz ≤ q)) 0 0 (fun q => sz ≤ q) := by
  refine hdr (Qf := fun A => (va_Qi (fun r (_ : Unit) => post r) (fun _ _ => True) A)) (by decide) (Nat.le_of_ble_eq_true rfl) ?_
  intro p e s m below meth c A ls hx hb hr hts hown hlocks hml hK hP hD hS hA hl
  have hown : s.vm.findClass R_CK = some m.cls := hown
  have hl : lv_has ls 4 [(0, .ref (a 2)), (1, .ref (a 15))] := hl
  rw [wp_CK_sumOf_15] at hw
  refine lv_iconst (v := 0) hx hb d_CK_sumOf_0 (by decide) ?_
  refine lv_istore_n (lv' := [(2, .int 0), (0, .ref (a 2)), (1, .ref (a 15))]) hx hb d_CK_sumOf_1 rfl hl (by decide) rfl (fun ls hl => ?_)
  refine lv_iconst (v := 0) hx hb d_CK_sumOf_2 (by decide) ?_
  refine lv_istore_n (lv' := [(3, .int 0), (2, .int 0), (0, .ref (a 2)), (1, .ref (a 15))]) hx hb d_CK_sumOf_3 rfl hl (by decide) rfl (fun ls hl => ?_)
  obtain ⟨k_4, hw⟩ := hw
  have hE_4 : ∀ (y2_4 : Int32) (y3_4 : Int32) (H : Heap) (locs : List Loc) (ls : Array Slot), we_CK_sumOf_15_30 σ y2_4 post → va_P (dC, dI) clsT (wC cI cZ a σ) H → va_S A s.heap H locs → lv_has ls 4 [(2, .int y2_4)] → W p l e { frames := 0, cells := 0, slots := 0, locals := 0 } s m ([.ref (a 2), .ref (a 15)] : List Value).toArray below meth c H locs 0 0 (MQ below (va_Qi (fun r (_ : Unit) => post r) (fun _ _ => True) A) ([.ref (a 2), .ref (a 15)] : List Value).toArray s 0 0 A) (F0 m 30 ls []) := by
    intro y2_4 y3_4 H locs ls hw hP hS hl
    rw [we_CK_sumOf_15_30] at hw
    refine lv_iload_n hx hb d_CK_sumOf_30 rfl (lv_at hl 0 rfl) ?_
    exact rr_i hx hb hr hlocks hS d_CK_sumOf_31 hw
  have lp_4 : ∀ (kf_4 : Nat) (y2_4 : Int32) (y3_4 : Int32) (H : Heap) (locs : List Loc) (ls : Array Slot), wl_CK_sumOf_15_4 σ (fun y2 y3 => we_CK_sumOf_15_30 σ y2 post) post kf_4 y2_4 y3_4 → va_P (dC, dI) clsT (wC cI cZ a σ) H → va_S A s.heap H locs → lv_has ls 4 [(0, .ref (a 2)), (1, .ref (a 15)), (2, .int y2_4), (3, .int y3_4)] → W p l e { frames := 0, cells := 0, slots := 0, locals := 0 } s m ([.ref (a 2), .ref (a 15)] : List Value).toArray below meth c H locs 0 0 (MQ below (va_Qi (fun r (_ : Unit) => post r) (fun _ _ => True) A) ([.ref (a 2), .ref (a 15)] : List Value).toArray s 0 0 A) (F0 m 4 ls []) := by
    intro kf_4
    induction kf_4 with
    | zero => intro y2_4 y3_4 H locs ls hw; rw [wl_CK_sumOf_15_4] at hw; exact hw.elim
    | succ kf_4 ih_4 =>
      intro y2_4 y3_4 H locs ls hw hP hS hl
      rw [wl_CK_sumOf_15_4] at hw
      refine lv_iload_n hx hb d_CK_sumOf_4 rfl (lv_at hl 3 rfl) ?_
      refine lv_aload_n hx hb d_CK_sumOf_5 rfl (lv_at hl 0 rfl) ?_
      refine va_get (D := (dC, dI)) (ci := 2) (v := .int (σ 2 0)) (C := R_CK) (T := F_CK) (N := 7) hx hb hts in_CK hown hK hP 2 rfl rfl 0 (by decide) (hts (.fieldLink R_CK 27 R_CK "many" "I") (tm 37 rfl)) (fun _ h9 => h9) rfl d_CK_sumOf_6 ?_
      refine lv_icmp_ge (tgt := 30) hx hb d_CK_sumOf_9 (by decide) (fun c_5 => ?_) (fun c_5 => ?_)
      · have hw := hw.1 c_5
        exact hE_4 y2_4 y3_4 _ _ _ hw hP hS (lv_sub hl [2] rfl)
      · have hw := hw.2 c_5
        refine lv_iload_n hx hb d_CK_sumOf_12 rfl (lv_at hl 3 rfl) ?_
        refine lv_aload_n hx hb d_CK_sumOf_13 rfl (lv_at hl 1 rfl) ?_
        refine va_alen hx hb hK hP 15 0 rfl rfl (v := 400) rfl d_CK_sumOf_14 ?_
        refine lv_icmp_ge (tgt := 30) hx hb d_CK_sumOf_15 (by decide) (fun c_6 => ?_) (fun c_6 => ?_)
        · have hw := hw.1 c_6
          exact hE_4 y2_4 y3_4 _ _ _ hw hP hS (lv_sub hl [2] rfl)
        · have hw := hw.2 c_6
          refine lv_iload_n hx hb d_CK_sumOf_18 rfl (lv_at hl 2 rfl) ?_
          refine lv_aload_n hx hb d_CK_sumOf_19 rfl (lv_at hl 1 rfl) ?_
          refine lv_iload_n hx hb d_CK_sumOf_20 rfl (lv_at hl 3 rfl) ?_
          obtain ⟨hin, hw⟩ := hw
          refine va_iald hx hb hK hP 15 0 rfl rfl hin d_CK_sumOf_21 ?_
          refine lv_iadd hx hb d_CK_sumOf_22 ?_
          refine lv_topi (fun v_7 ev_7 => ?_)
          have hw := hw v_7 ev_7
          refine lv_istore_n (lv' := [(2, .int v_7), (0, .ref (a 2)), (1, .ref (a 15)), (3, .int y3_4)]) hx hb d_CK_sumOf_23 rfl hl (by decide) rfl (fun ls hl => ?_)
          refine lv_iinc (v := y3_4 + 1) (lv' := [(3, .int (y3_4 + 1)), (2, .int v_7), (0, .ref (a 2)), (1, .ref (a 15))]) hx hb d_CK_sumOf_24 hl (k := 3) rfl rfl (by decide) rfl (fun ls hl => ?_)
          refine lv_goto (tgt := 4) hx hb d_CK_sumOf_27 (by decide) ?_
          exact ih_4 v_7 (y3_4 + 1) _ _ _ hw hP hS (lv_sub hl [2, 3, 1, 0] rfl)
  exact lp_4 k_4 0 0 _ _ _ hw hP hS (lv_sub hl [2, 3, 1, 0] rfl)
set_option maxHeartbeats 4000000 in
set_option maxRecDepth 100000 in
theorem c_CK_flitsInBuffers (l : Launch) (dC : Nat → ClassId) (dI : Nat → Nat → Nat) (cI cZ : ClassId) (a : Nat → Nat) (sz : Nat) (σ : SS) (post : Int32 → Prop) (hw : wp_CK_flitsInBuffers σ post) : Met l y_CK_flitsInBuffers (.code y_CK_flitsInBuffers b_CK_flitsInBuffers 1 (some .int) :: TT) { frames := 1, cells := 0, slots := 0, locals := 23 } (pW (dC, dI) clsT (tyT cI cZ) [.ref (a 2)] sz (wC cI cZ a σ)) (va_Qi (fun r (_ : Unit) => post r) (fun _ _ => True) (fun q => sz ≤ q)) 0 0 (fun q => sz ≤ q) := by
  refine hdr (Qf := fun A => (va_Qi (fun r (_ : Unit) => post r) (fun _ _ => True) A)) (by decide) (Nat.le_of_ble_eq_true rfl) ?_
  intro p e s m below meth c A ls hx hb hr hts hown hlocks hml hK hP hD hS hA hl
  have hown : s.vm.findClass R_CK = some m.cls := hown
  have hl : lv_has ls 1 [(0, .ref (a 2))] := hl
  rw [wp_CK_flitsInBuffers] at hw
  refine lv_aload_n hx hb d_CK_flitsInBuffers_0 rfl (lv_at hl 0 rfl) ?_
  refine lv_aload_n hx hb d_CK_flitsInBuffers_1 rfl (lv_at hl 0 rfl) ?_
  refine va_get (D := (dC, dI)) (ci := 2) (v := .ref (a 13)) (C := R_CK) (T := F_CK) (N := 7) hx hb hts in_CK hown hK hP 2 rfl rfl 3 (by decide) (hts (.fieldLink R_CK 15 R_CK "flits" "[I") (tm 39 rfl)) (fun _ h9 => h9) rfl d_CK_flitsInBuffers_2 ?_
  refine cl_r (va_runV (As := [.ref (a 13)]) (rest := []) ⟨hx, hb, hml, hown, hts⟩ (c_CK_sumOf_13 l dC dI cI cZ a _ σ _ hw) (cwV 1 hts (gi_V (tm 231 rfl) (tm 232 rfl) (tm 233 rfl) (tm 54 rfl) (tm 234 rfl)) rfl rfl rfl (by decide +kernel) ⟨Nat.le_of_ble_eq_true rfl, Nat.le_of_ble_eq_true rfl⟩) (pW_V hK hP hD (ci := 2) (k := 2) rfl rfl) rfl rfl hl.1 rfl (lv_room (Nat.le_of_ble_eq_true rfl)) d_CK_flitsInBuffers_5 ⟨Nat.zero_le _, Nat.zero_le _⟩) hP hS hA (fun r_1 H locs hw hP hT => ?_)
  have hS := hT _ hA hS
  refine lv_aload_n hx hb d_CK_flitsInBuffers_8 rfl (lv_at hl 0 rfl) ?_
  refine lv_aload_n hx hb d_CK_flitsInBuffers_9 rfl (lv_at hl 0 rfl) ?_
  refine va_get (D := (dC, dI)) (ci := 2) (v := .ref (a 14)) (C := R_CK) (T := F_CK) (N := 7) hx hb hts in_CK hown hK hP 2 rfl rfl 4 (by decide) (hts (.fieldLink R_CK 18 R_CK "waiting" "[I") (tm 40 rfl)) (fun _ h9 => h9) rfl d_CK_flitsInBuffers_10 ?_
  refine cl_r (va_runV (As := [.ref (a 14)]) (rest := [.int r_1]) ⟨hx, hb, hml, hown, hts⟩ (c_CK_sumOf_14 l dC dI cI cZ a _ σ _ hw) (cwV 1 hts (gi_V (tm 231 rfl) (tm 232 rfl) (tm 233 rfl) (tm 54 rfl) (tm 234 rfl)) rfl rfl rfl (by decide +kernel) ⟨Nat.le_of_ble_eq_true rfl, Nat.le_of_ble_eq_true rfl⟩) (pW_V hK hP hD (ci := 2) (k := 2) rfl rfl) rfl rfl hl.1 rfl (lv_room (Nat.le_of_ble_eq_true rfl)) d_CK_flitsInBuffers_13 ⟨Nat.zero_le _, Nat.zero_le _⟩) hP hS hA (fun r_2 H locs hw hP hT => ?_)
  have hS := hT _ hA hS
  refine lv_isub hx hb d_CK_flitsInBuffers_16 ?_
  refine lv_aload_n hx hb d_CK_flitsInBuffers_17 rfl (lv_at hl 0 rfl) ?_
  refine lv_aload_n hx hb d_CK_flitsInBuffers_18 rfl (lv_at hl 0 rfl) ?_
  refine va_get (D := (dC, dI)) (ci := 2) (v := .ref (a 15)) (C := R_CK) (T := F_CK) (N := 7) hx hb hts in_CK hown hK hP 2 rfl rfl 5 (by decide) (hts (.fieldLink R_CK 21 R_CK "left" "[I") (tm 155 rfl)) (fun _ h9 => h9) rfl d_CK_flitsInBuffers_19 ?_
  refine cl_r (va_runV (As := [.ref (a 15)]) (rest := [.int (r_1 - r_2)]) ⟨hx, hb, hml, hown, hts⟩ (c_CK_sumOf_15 l dC dI cI cZ a _ σ _ hw) (cwV 1 hts (gi_V (tm 231 rfl) (tm 232 rfl) (tm 233 rfl) (tm 54 rfl) (tm 234 rfl)) rfl rfl rfl (by decide +kernel) ⟨Nat.le_of_ble_eq_true rfl, Nat.le_of_ble_eq_true rfl⟩) (pW_V hK hP hD (ci := 2) (k := 2) rfl rfl) rfl rfl hl.1 rfl (lv_room (Nat.le_of_ble_eq_true rfl)) d_CK_flitsInBuffers_22 ⟨Nat.zero_le _, Nat.zero_le _⟩) hP hS hA (fun r_3 H locs hw hP hT => ?_)
  have hS := hT _ hA hS
  refine lv_isub hx hb d_CK_flitsInBuffers_25 ?_
  exact rr_i hx hb hr hlocks hS d_CK_flitsInBuffers_26 hw
set_option maxHeartbeats 4000000 in
set_option maxRecDepth 100000 in
theorem c_CK_flitsLeft (l : Launch) (dC : Nat → ClassId) (dI : Nat → Nat → Nat) (cI cZ : ClassId) (a : Nat → Nat) (sz : Nat) (σ : SS) (post : Int32 → Prop) (hw : wp_CK_flitsLeft σ post) : Met l y_CK_flitsLeft (.code y_CK_flitsLeft b_CK_flitsLeft 1 (some .int) :: TT) { frames := 1, cells := 0, slots := 0, locals := 23 } (pW (dC, dI) clsT (tyT cI cZ) [.ref (a 2)] sz (wC cI cZ a σ)) (va_Qi (fun r (_ : Unit) => post r) (fun _ _ => True) (fun q => sz ≤ q)) 0 0 (fun q => sz ≤ q) := by
  refine hdr (Qf := fun A => (va_Qi (fun r (_ : Unit) => post r) (fun _ _ => True) A)) (by decide) (Nat.le_of_ble_eq_true rfl) ?_
  intro p e s m below meth c A ls hx hb hr hts hown hlocks hml hK hP hD hS hA hl
  have hown : s.vm.findClass R_CK = some m.cls := hown
  have hl : lv_has ls 1 [(0, .ref (a 2))] := hl
  rw [wp_CK_flitsLeft] at hw
  refine lv_aload_n hx hb d_CK_flitsLeft_0 rfl (lv_at hl 0 rfl) ?_
  refine lv_aload_n hx hb d_CK_flitsLeft_1 rfl (lv_at hl 0 rfl) ?_
  refine va_get (D := (dC, dI)) (ci := 2) (v := .ref (a 15)) (C := R_CK) (T := F_CK) (N := 7) hx hb hts in_CK hown hK hP 2 rfl rfl 5 (by decide) (hts (.fieldLink R_CK 21 R_CK "left" "[I") (tm 155 rfl)) (fun _ h9 => h9) rfl d_CK_flitsLeft_2 ?_
  refine cl_r (va_runV (As := [.ref (a 15)]) (rest := []) ⟨hx, hb, hml, hown, hts⟩ (c_CK_sumOf_15 l dC dI cI cZ a _ σ _ hw) (cwV 1 hts (gi_V (tm 231 rfl) (tm 232 rfl) (tm 233 rfl) (tm 54 rfl) (tm 234 rfl)) rfl rfl rfl (by decide +kernel) ⟨Nat.le_of_ble_eq_true rfl, Nat.le_of_ble_eq_true rfl⟩) (pW_V hK hP hD (ci := 2) (k := 2) rfl rfl) rfl rfl hl.1 rfl (lv_room (Nat.le_of_ble_eq_true rfl)) d_CK_flitsLeft_5 ⟨Nat.zero_le _, Nat.zero_le _⟩) hP hS hA (fun r_1 H locs hw hP hT => ?_)
  have hS := hT _ hA hS
  exact rr_i hx hb hr hlocks hS d_CK_flitsLeft_8 hw
set_option maxHeartbeats 4000000 in
set_option maxRecDepth 100000 in
theorem c_CP_comesTo (l : Launch) (dC : Nat → ClassId) (dI : Nat → Nat → Nat) (cI cZ : ClassId) (a : Nat → Nat) (sz : Nat) (σ : SS) (x1 : Int32) (x2 : Int32) (post : Int32 → Prop) (hw : wp_CP_comesTo σ x1 x2 post) : Met l y_CP_comesTo (.code y_CP_comesTo b_CP_comesTo 6 (some .boolean) :: TT) { frames := 1, cells := 0, slots := 0, locals := 22 } (pW (dC, dI) clsT (tyT cI cZ) [.ref (a 1), .int x1, .int x2] sz (wC cI cZ a σ)) (va_Qi (fun r (_ : Unit) => post r) (fun _ _ => True) (fun q => sz ≤ q)) 0 0 (fun q => sz ≤ q) := by
  refine hdr (Qf := fun A => (va_Qi (fun r (_ : Unit) => post r) (fun _ _ => True) A)) (by decide) (Nat.le_of_ble_eq_true rfl) ?_
  intro p e s m below meth c A ls hx hb hr hts hown hlocks hml hK hP hD hS hA hl
  have hown : s.vm.findClass R_CP = some m.cls := hown
  have hl : lv_has ls 6 [(0, .ref (a 1)), (1, .int x1), (2, .int x2)] := hl
  rw [wp_CP_comesTo] at hw
  refine lv_iload_n hx hb d_CP_comesTo_0 rfl (lv_at hl 1 rfl) ?_
  refine lv_istore_n (lv' := [(3, .int x1), (0, .ref (a 1)), (1, .int x1), (2, .int x2)]) hx hb d_CP_comesTo_1 rfl hl (by decide) rfl (fun ls hl => ?_)
  refine lv_iconst (v := 0) hx hb d_CP_comesTo_2 (by decide) ?_
  refine lv_istore (lv' := [(4, .int 0), (3, .int x1), (0, .ref (a 1)), (1, .int x1), (2, .int x2)]) hx hb d_CP_comesTo_3 hl (by decide) rfl (fun ls hl => ?_)
  obtain ⟨k_7, hw⟩ := hw
  have hE_7 : ∀ (y3_7 : Int32) (y4_7 : Int32) (H : Heap) (locs : List Loc) (ls : Array Slot), we_CP_comesTo_48 σ x2 y3_7 post → va_P (dC, dI) clsT (wC cI cZ a σ) H → va_S A s.heap H locs → lv_has ls 6 [(2, .int x2), (3, .int y3_7)] → W p l e { frames := 1, cells := 0, slots := 0, locals := 22 } s m ([.ref (a 1), .int x1, .int x2] : List Value).toArray below meth c H locs 0 0 (MQ below (va_Qi (fun r (_ : Unit) => post r) (fun _ _ => True) A) ([.ref (a 1), .int x1, .int x2] : List Value).toArray s 0 0 A) (F0 m 48 ls []) := by
    intro y3_7 y4_7 H locs ls hw hP hS hl
    rw [we_CP_comesTo_48] at hw
    refine lv_iload_n hx hb d_CP_comesTo_48 rfl (lv_at hl 1 rfl) ?_
    refine lv_iload_n hx hb d_CP_comesTo_49 rfl (lv_at hl 0 rfl) ?_
    refine lv_icmp_ne (tgt := 57) hx hb d_CP_comesTo_50 (by decide) (fun c_8 => ?_) (fun c_8 => ?_)
    · have hw := hw.1 c_8
      refine lv_iconst (v := 0) hx hb d_CP_comesTo_57 (by decide) ?_
      exact rr_z hx hb hr hlocks hS d_CP_comesTo_58 (Or.inl rfl) hw
    · have hw := hw.2 c_8
      refine lv_iconst (v := 1) hx hb d_CP_comesTo_53 (by decide) ?_
      refine lv_goto (tgt := 58) hx hb d_CP_comesTo_54 (by decide) ?_
      exact rr_z hx hb hr hlocks hS d_CP_comesTo_58 (Or.inr rfl) hw
  have lp_7 : ∀ (kf_7 : Nat) (y3_7 : Int32) (y4_7 : Int32) (H : Heap) (locs : List Loc) (ls : Array Slot), wl_CP_comesTo_5 σ x2 (fun y3 y4 => we_CP_comesTo_48 σ x2 y3 post) post kf_7 y3_7 y4_7 → va_P (dC, dI) clsT (wC cI cZ a σ) H → va_S A s.heap H locs → lv_has ls 6 [(0, .ref (a 1)), (2, .int x2), (3, .int y3_7), (4, .int y4_7)] → W p l e { frames := 1, cells := 0, slots := 0, locals := 22 } s m ([.ref (a 1), .int x1, .int x2] : List Value).toArray below meth c H locs 0 0 (MQ below (va_Qi (fun r (_ : Unit) => post r) (fun _ _ => True) A) ([.ref (a 1), .int x1, .int x2] : List Value).toArray s 0 0 A) (F0 m 5 ls []) := by
    intro kf_7
    induction kf_7 with
    | zero => intro y3_7 y4_7 H locs ls hw; rw [wl_CP_comesTo_5] at hw; exact hw.elim
    | succ kf_7 ih_7 =>
      intro y3_7 y4_7 H locs ls hw hP hS hl
      rw [wl_CP_comesTo_5] at hw
      refine lv_iload hx hb d_CP_comesTo_5 (lv_at hl 3 rfl) ?_
      refine lv_aload_n hx hb d_CP_comesTo_7 rfl (lv_at hl 0 rfl) ?_
      refine va_get (D := (dC, dI)) (ci := 1) (v := .int (σ 1 0)) (C := R_CP) (T := F_CP) (N := 8) hx hb hts in_CP hown hK hP 1 rfl rfl 0 (by decide) (hts (.fieldLink R_CP 37 R_CP "nodes" "I") (tm 0 rfl)) (fun _ h9 => h9) rfl d_CP_comesTo_8 ?_
      refine lv_icmp_ge (tgt := 48) hx hb d_CP_comesTo_11 (by decide) (fun c_9 => ?_) (fun c_9 => ?_)
      · have hw := hw.1 c_9
        exact hE_7 y3_7 y4_7 _ _ _ hw hP hS (lv_sub hl [1, 2] rfl)
      · have hw := hw.2 c_9
        refine lv_iload_n hx hb d_CP_comesTo_14 rfl (lv_at hl 2 rfl) ?_
        refine lv_iload_n hx hb d_CP_comesTo_15 rfl (lv_at hl 1 rfl) ?_
        refine lv_icmp_eq (tgt := 48) hx hb d_CP_comesTo_16 (by decide) (fun c_10 => ?_) (fun c_10 => ?_)
        · have hw := hw.1 c_10
          exact hE_7 y3_7 y4_7 _ _ _ hw hP hS (lv_sub hl [1, 2] rfl)
        · have hw := hw.2 c_10
          refine lv_aload_n hx hb d_CP_comesTo_19 rfl (lv_at hl 0 rfl) ?_
          refine lv_iload_n hx hb d_CP_comesTo_20 rfl (lv_at hl 2 rfl) ?_
          refine lv_iload_n hx hb d_CP_comesTo_21 rfl (lv_at hl 1 rfl) ?_
          refine cl_r (va_runV (As := [.int y3_7, .int x2]) (rest := []) ⟨hx, hb, hml, hown, hts⟩ (c_CP_wayAt l dC dI cI cZ a _ σ y3_7 x2 _ hw) (cwV 2 hts (gi_V (tm 236 rfl) (tm 80 rfl) (tm 81 rfl) (tm 4 rfl) (tm 82 rfl)) rfl rfl rfl (by decide +kernel) ⟨Nat.le_of_ble_eq_true rfl, Nat.le_of_ble_eq_true rfl⟩) (pW_V hK hP hD (ci := 1) (k := 1) rfl rfl) rfl rfl hl.1 rfl (lv_room (Nat.le_of_ble_eq_true rfl)) d_CP_comesTo_22 ⟨Nat.zero_le _, Nat.zero_le _⟩) hP hS hA (fun r_11 H locs hw hP hT => ?_)
          have hS := hT _ hA hS
          refine lv_istore (lv' := [(5, .int r_11), (0, .ref (a 1)), (2, .int x2), (3, .int y3_7), (4, .int y4_7)]) hx hb d_CP_comesTo_25 hl (by decide) rfl (fun ls hl => ?_)
          refine lv_iload hx hb d_CP_comesTo_27 (lv_at hl 0 rfl) ?_
          refine lv_iconst (v := (-1)) hx hb d_CP_comesTo_29 (by decide) ?_
          refine lv_icmp_ne (tgt := 35) hx hb d_CP_comesTo_30 (by decide) (fun c_12 => ?_) (fun c_12 => ?_)
          · have hw := hw.1 c_12
            refine lv_aload_n hx hb d_CP_comesTo_35 rfl (lv_at hl 1 rfl) ?_
            refine lv_iload hx hb d_CP_comesTo_36 (lv_at hl 0 rfl) ?_
            refine cl_r (va_runV (As := [.int r_11]) (rest := []) ⟨hx, hb, hml, hown, hts⟩ (c_CP_endOf l dC dI cI cZ a _ σ r_11 _ hw) (cwV 1 hts (gi_V (tm 235 rfl) (tm 71 rfl) (tm 72 rfl) (tm 4 rfl) (tm 73 rfl)) rfl rfl rfl (by decide +kernel) ⟨Nat.le_of_ble_eq_true rfl, Nat.le_of_ble_eq_true rfl⟩) (pW_V hK hP hD (ci := 1) (k := 1) rfl rfl) rfl rfl hl.1 rfl (lv_room (Nat.le_of_ble_eq_true rfl)) d_CP_comesTo_38 ⟨Nat.zero_le _, Nat.zero_le _⟩) hP hS hA (fun r_13 H locs hw hP hT => ?_)
            have hS := hT _ hA hS
            refine lv_istore_n (lv' := [(3, .int r_13), (5, .int r_11), (0, .ref (a 1)), (2, .int x2), (4, .int y4_7)]) hx hb d_CP_comesTo_41 rfl hl (by decide) rfl (fun ls hl => ?_)
            refine lv_iinc (v := y4_7 + 1) (lv' := [(4, .int (y4_7 + 1)), (3, .int r_13), (5, .int r_11), (0, .ref (a 1)), (2, .int x2)]) hx hb d_CP_comesTo_42 hl (k := 4) rfl rfl (by decide) rfl (fun ls hl => ?_)
            refine lv_goto (tgt := 5) hx hb d_CP_comesTo_45 (by decide) ?_
            exact ih_7 r_13 (y4_7 + 1) _ _ _ hw hP hS (lv_sub hl [3, 4, 1, 0] rfl)
          · have hw := hw.2 c_12
            refine lv_iconst (v := 0) hx hb d_CP_comesTo_33 (by decide) ?_
            exact rr_z hx hb hr hlocks hS d_CP_comesTo_34 (Or.inl rfl) hw
  exact lp_7 k_7 x1 0 _ _ _ hw hP hS (lv_sub hl [2, 4, 1, 0] rfl)
set_option maxHeartbeats 4000000 in
set_option maxRecDepth 100000 in
theorem c_CP_pairsWithoutWay (l : Launch) (dC : Nat → ClassId) (dI : Nat → Nat → Nat) (cI cZ : ClassId) (a : Nat → Nat) (sz : Nat) (σ : SS) (post : Int32 → Prop) (hw : wp_CP_pairsWithoutWay σ post) : Met l y_CP_pairsWithoutWay (.code y_CP_pairsWithoutWay b_CP_pairsWithoutWay 4 (some .int) :: TT) { frames := 2, cells := 0, slots := 0, locals := 47 } (pW (dC, dI) clsT (tyT cI cZ) [.ref (a 1)] sz (wC cI cZ a σ)) (va_Qi (fun r (_ : Unit) => post r) (fun _ _ => True) (fun q => sz ≤ q)) 0 0 (fun q => sz ≤ q) := by
  refine hdr (Qf := fun A => (va_Qi (fun r (_ : Unit) => post r) (fun _ _ => True) A)) (by decide) (Nat.le_of_ble_eq_true rfl) ?_
  intro p e s m below meth c A ls hx hb hr hts hown hlocks hml hK hP hD hS hA hl
  have hown : s.vm.findClass R_CP = some m.cls := hown
  have hl : lv_has ls 4 [(0, .ref (a 1))] := hl
  rw [wp_CP_pairsWithoutWay] at hw
  refine lv_iconst (v := 0) hx hb d_CP_pairsWithoutWay_0 (by decide) ?_
  refine lv_istore_n (lv' := [(1, .int 0), (0, .ref (a 1))]) hx hb d_CP_pairsWithoutWay_1 rfl hl (by decide) rfl (fun ls hl => ?_)
  refine lv_iconst (v := 0) hx hb d_CP_pairsWithoutWay_2 (by decide) ?_
  refine lv_istore_n (lv' := [(2, .int 0), (1, .int 0), (0, .ref (a 1))]) hx hb d_CP_pairsWithoutWay_3 rfl hl (by decide) rfl (fun ls hl => ?_)
  obtain ⟨k_11, hw⟩ := hw
  have hE_11 : ∀ (y1_11 : Int32) (y2_11 : Int32) (H : Heap) (locs : List Loc) (ls : Array Slot), we_CP_pairsWithoutWay_51 σ y1_11 post → va_P (dC, dI) clsT (wC cI cZ a σ) H → va_S A s.heap H locs → lv_has ls 4 [(1, .int y1_11)] → W p l e { frames := 2, cells := 0, slots := 0, locals := 47 } s m ([.ref (a 1)] : List Value).toArray below meth c H locs 0 0 (MQ below (va_Qi (fun r (_ : Unit) => post r) (fun _ _ => True) A) ([.ref (a 1)] : List Value).toArray s 0 0 A) (F0 m 51 ls []) := by
    intro y1_11 y2_11 H locs ls hw hP hS hl
    rw [we_CP_pairsWithoutWay_51] at hw
    refine lv_iload_n hx hb d_CP_pairsWithoutWay_51 rfl (lv_at hl 0 rfl) ?_
    exact rr_i hx hb hr hlocks hS d_CP_pairsWithoutWay_52 hw
  have lp_11 : ∀ (kf_11 : Nat) (y1_11 : Int32) (y2_11 : Int32) (H : Heap) (locs : List Loc) (ls : Array Slot), wl_CP_pairsWithoutWay_4 σ (fun y1 y2 => we_CP_pairsWithoutWay_51 σ y1 post) post kf_11 y1_11 y2_11 → va_P (dC, dI) clsT (wC cI cZ a σ) H → va_S A s.heap H locs → lv_has ls 4 [(0, .ref (a 1)), (1, .int y1_11), (2, .int y2_11)] → W p l e { frames := 2, cells := 0, slots := 0, locals := 47 } s m ([.ref (a 1)] : List Value).toArray below meth c H locs 0 0 (MQ below (va_Qi (fun r (_ : Unit) => post r) (fun _ _ => True) A) ([.ref (a 1)] : List Value).toArray s 0 0 A) (F0 m 4 ls []) := by
    intro kf_11
    induction kf_11 with
    | zero => intro y1_11 y2_11 H locs ls hw; rw [wl_CP_pairsWithoutWay_4] at hw; exact hw.elim
    | succ kf_11 ih_11 =>
      intro y1_11 y2_11 H locs ls hw hP hS hl
      rw [wl_CP_pairsWithoutWay_4] at hw
      refine lv_iload_n hx hb d_CP_pairsWithoutWay_4 rfl (lv_at hl 2 rfl) ?_
      refine lv_aload_n hx hb d_CP_pairsWithoutWay_5 rfl (lv_at hl 0 rfl) ?_
      refine va_get (D := (dC, dI)) (ci := 1) (v := .int (σ 1 0)) (C := R_CP) (T := F_CP) (N := 8) hx hb hts in_CP hown hK hP 1 rfl rfl 0 (by decide) (hts (.fieldLink R_CP 37 R_CP "nodes" "I") (tm 0 rfl)) (fun _ h9 => h9) rfl d_CP_pairsWithoutWay_6 ?_
      refine lv_icmp_ge (tgt := 51) hx hb d_CP_pairsWithoutWay_9 (by decide) (fun c_12 => ?_) (fun c_12 => ?_)
      · have hw := hw.1 c_12
        exact hE_11 y1_11 y2_11 _ _ _ hw hP hS (lv_sub hl [1] rfl)
      · have hw := hw.2 c_12
        refine lv_iconst (v := 0) hx hb d_CP_pairsWithoutWay_12 (by decide) ?_
        refine lv_istore_n (lv' := [(3, .int 0), (0, .ref (a 1)), (1, .int y1_11), (2, .int y2_11)]) hx hb d_CP_pairsWithoutWay_13 rfl hl (by decide) rfl (fun ls hl => ?_)
        obtain ⟨k_13, hw⟩ := hw
        have hE_13 : ∀ (y1_13 : Int32) (y3_13 : Int32) (H : Heap) (locs : List Loc) (ls : Array Slot), we_CP_pairsWithoutWay_45 σ y1_13 y2_11 (wl_CP_pairsWithoutWay_4 σ (fun y1 y2 => we_CP_pairsWithoutWay_51 σ y1 post) post kf_11) (fun y1 y2 => we_CP_pairsWithoutWay_51 σ y1 post) post → va_P (dC, dI) clsT (wC cI cZ a σ) H → va_S A s.heap H locs → lv_has ls 4 [(0, .ref (a 1)), (1, .int y1_13), (2, .int y2_11)] → W p l e { frames := 2, cells := 0, slots := 0, locals := 47 } s m ([.ref (a 1)] : List Value).toArray below meth c H locs 0 0 (MQ below (va_Qi (fun r (_ : Unit) => post r) (fun _ _ => True) A) ([.ref (a 1)] : List Value).toArray s 0 0 A) (F0 m 45 ls []) := by
          intro y1_13 y3_13 H locs ls hw hP hS hl
          rw [we_CP_pairsWithoutWay_45] at hw
          refine lv_iinc (v := y2_11 + 1) (lv' := [(2, .int (y2_11 + 1)), (0, .ref (a 1)), (1, .int y1_13)]) hx hb d_CP_pairsWithoutWay_45 hl (k := 2) rfl rfl (by decide) rfl (fun ls hl => ?_)
          refine lv_goto (tgt := 4) hx hb d_CP_pairsWithoutWay_48 (by decide) ?_
          exact ih_11 y1_13 (y2_11 + 1) _ _ _ hw hP hS (lv_sub hl [1, 2, 0] rfl)
        have lp_13 : ∀ (kf_13 : Nat) (y1_13 : Int32) (y3_13 : Int32) (H : Heap) (locs : List Loc) (ls : Array Slot), wl_CP_pairsWithoutWay_14 σ y2_11 (fun y1 y3 => we_CP_pairsWithoutWay_45 σ y1 y2_11 (wl_CP_pairsWithoutWay_4 σ (fun y1 y2 => we_CP_pairsWithoutWay_51 σ y1 post) post kf_11) (fun y1 y2 => we_CP_pairsWithoutWay_51 σ y1 post) post) post kf_13 y1_13 y3_13 → va_P (dC, dI) clsT (wC cI cZ a σ) H → va_S A s.heap H locs → lv_has ls 4 [(0, .ref (a 1)), (1, .int y1_13), (2, .int y2_11), (3, .int y3_13)] → W p l e { frames := 2, cells := 0, slots := 0, locals := 47 } s m ([.ref (a 1)] : List Value).toArray below meth c H locs 0 0 (MQ below (va_Qi (fun r (_ : Unit) => post r) (fun _ _ => True) A) ([.ref (a 1)] : List Value).toArray s 0 0 A) (F0 m 14 ls []) := by
          intro kf_13
          induction kf_13 with
          | zero => intro y1_13 y3_13 H locs ls hw; rw [wl_CP_pairsWithoutWay_14] at hw; exact hw.elim
          | succ kf_13 ih_13 =>
            intro y1_13 y3_13 H locs ls hw hP hS hl
            rw [wl_CP_pairsWithoutWay_14] at hw
            refine lv_iload_n hx hb d_CP_pairsWithoutWay_14 rfl (lv_at hl 3 rfl) ?_
            refine lv_aload_n hx hb d_CP_pairsWithoutWay_15 rfl (lv_at hl 0 rfl) ?_
            refine va_get (D := (dC, dI)) (ci := 1) (v := .int (σ 1 0)) (C := R_CP) (T := F_CP) (N := 8) hx hb hts in_CP hown hK hP 1 rfl rfl 0 (by decide) (hts (.fieldLink R_CP 37 R_CP "nodes" "I") (tm 0 rfl)) (fun _ h9 => h9) rfl d_CP_pairsWithoutWay_16 ?_
            refine lv_icmp_ge (tgt := 45) hx hb d_CP_pairsWithoutWay_19 (by decide) (fun c_14 => ?_) (fun c_14 => ?_)
            · have hw := hw.1 c_14
              exact hE_13 y1_13 y3_13 _ _ _ hw hP hS (lv_sub hl [0, 1, 2] rfl)
            · have hw := hw.2 c_14
              refine lv_iload_n hx hb d_CP_pairsWithoutWay_22 rfl (lv_at hl 2 rfl) ?_
              refine lv_iload_n hx hb d_CP_pairsWithoutWay_23 rfl (lv_at hl 3 rfl) ?_
              refine lv_icmp_eq (tgt := 39) hx hb d_CP_pairsWithoutWay_24 (by decide) (fun c_15 => ?_) (fun c_15 => ?_)
              · have hw := hw.1 c_15
                refine lv_iinc (v := y3_13 + 1) (lv' := [(3, .int (y3_13 + 1)), (0, .ref (a 1)), (1, .int y1_13), (2, .int y2_11)]) hx hb d_CP_pairsWithoutWay_39 hl (k := 3) rfl rfl (by decide) rfl (fun ls hl => ?_)
                refine lv_goto (tgt := 14) hx hb d_CP_pairsWithoutWay_42 (by decide) ?_
                exact ih_13 y1_13 (y3_13 + 1) _ _ _ hw hP hS (lv_sub hl [1, 2, 3, 0] rfl)
              · have hw := hw.2 c_15
                refine lv_aload_n hx hb d_CP_pairsWithoutWay_27 rfl (lv_at hl 0 rfl) ?_
                refine lv_iload_n hx hb d_CP_pairsWithoutWay_28 rfl (lv_at hl 2 rfl) ?_
                refine lv_iload_n hx hb d_CP_pairsWithoutWay_29 rfl (lv_at hl 3 rfl) ?_
                refine cl_r (va_runV (As := [.int y2_11, .int y3_13]) (rest := []) ⟨hx, hb, hml, hown, hts⟩ (c_CP_comesTo l dC dI cI cZ a _ σ y2_11 y3_13 _ hw) (cwV 2 hts (gi_V (tm 237 rfl) (tm 238 rfl) (tm 239 rfl) (tm 4 rfl) (tm 240 rfl)) rfl rfl rfl (by decide +kernel) ⟨Nat.le_of_ble_eq_true rfl, Nat.le_of_ble_eq_true rfl⟩) (pW_V hK hP hD (ci := 1) (k := 1) rfl rfl) rfl rfl hl.1 rfl (lv_room (Nat.le_of_ble_eq_true rfl)) d_CP_pairsWithoutWay_30 ⟨Nat.zero_le _, Nat.zero_le _⟩) hP hS hA (fun r_16 H locs hw hP hT => ?_)
                have hS := hT _ hA hS
                refine lv_if_ne (tgt := 39) hx hb d_CP_pairsWithoutWay_33 (by decide) (fun c_17 => ?_) (fun c_17 => ?_)
                · have hw := hw.1 c_17
                  refine lv_iinc (v := y3_13 + 1) (lv' := [(3, .int (y3_13 + 1)), (0, .ref (a 1)), (1, .int y1_13), (2, .int y2_11)]) hx hb d_CP_pairsWithoutWay_39 hl (k := 3) rfl rfl (by decide) rfl (fun ls hl => ?_)
                  refine lv_goto (tgt := 14) hx hb d_CP_pairsWithoutWay_42 (by decide) ?_
                  exact ih_13 y1_13 (y3_13 + 1) _ _ _ hw hP hS (lv_sub hl [1, 2, 3, 0] rfl)
                · have hw := hw.2 c_17
                  refine lv_iinc (v := y1_13 + 1) (lv' := [(1, .int (y1_13 + 1)), (0, .ref (a 1)), (2, .int y2_11), (3, .int y3_13)]) hx hb d_CP_pairsWithoutWay_36 hl (k := 1) rfl rfl (by decide) rfl (fun ls hl => ?_)
                  refine lv_iinc (v := y3_13 + 1) (lv' := [(3, .int (y3_13 + 1)), (1, .int (y1_13 + 1)), (0, .ref (a 1)), (2, .int y2_11)]) hx hb d_CP_pairsWithoutWay_39 hl (k := 3) rfl rfl (by decide) rfl (fun ls hl => ?_)
                  refine lv_goto (tgt := 14) hx hb d_CP_pairsWithoutWay_42 (by decide) ?_
                  exact ih_13 (y1_13 + 1) (y3_13 + 1) _ _ _ hw hP hS (lv_sub hl [2, 1, 3, 0] rfl)
        exact lp_13 k_13 y1_11 0 _ _ _ hw hP hS (lv_sub hl [1, 2, 3, 0] rfl)
  exact lp_11 k_11 0 0 _ _ _ hw hP hS (lv_sub hl [2, 1, 0] rfl)
