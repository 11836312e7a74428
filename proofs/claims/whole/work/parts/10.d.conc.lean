set_option maxHeartbeats 4000000 in
set_option maxRecDepth 100000 in
theorem c_CR_channelAfter (l : Launch) (dC : Nat → ClassId) (dI : Nat → Nat → Nat) (cI cZ : ClassId) (a : Nat → Nat) (sz : Nat) (σ : SS) (x1 : Int32) (x2 : Int32) (post : Int32 → Prop) (hw : wp_CR_channelAfter σ x1 x2 post) : Met l y_CR_channelAfter (.code y_CR_channelAfter b_CR_channelAfter 3 (some .int) :: TT) { frames := 1, cells := 0, slots := 0, locals := 22 } (pW (dC, dI) clsT (tyT cI cZ) [.ref (a 5), .int x1, .int x2] sz (wC cI cZ a σ)) (va_Qi (fun r (_ : Unit) => post r) (fun _ _ => True) (fun q => sz ≤ q)) 0 0 (fun q => sz ≤ q) := by
  refine hdr (Qf := fun A => (va_Qi (fun r (_ : Unit) => post r) (fun _ _ => True) A)) (by decide) (Nat.le_of_ble_eq_true rfl) ?_
  intro p e s m below meth c A ls hx hb hr hts hown hlocks hml hK hP hD hS hA hl
  have hown : s.vm.findClass R_CR = some m.cls := hown
  have hl : lv_has ls 3 [(0, .ref (a 5)), (1, .int x1), (2, .int x2)] := hl
  rw [wp_CR_channelAfter] at hw
  refine lv_iload_n hx hb d_CR_channelAfter_0 rfl (lv_at hl 1 rfl) ?_
  refine lv_iconst (v := (-1)) hx hb d_CR_channelAfter_1 (by decide) ?_
  refine lv_icmp_ne (tgt := 9) hx hb d_CR_channelAfter_2 (by decide) (fun c_1 => ?_) (fun c_1 => ?_)
  · have hw := hw.1 c_1
    refine lv_aload_n hx hb d_CR_channelAfter_9 rfl (lv_at hl 0 rfl) ?_
    refine va_get (D := (dC, dI)) (ci := 5) (v := .ref (a 1)) (C := R_CR) (T := F_CR) (N := 7) hx hb hts in_CR hown hK hP 5 rfl rfl 0 (by decide) (hts (.fieldLink R_CR 24 R_CR "plan" "LNetRoutes$Plan;") (tm 187 rfl)) (fun _ h9 => h9) rfl d_CR_channelAfter_10 ?_
    refine lv_aload_n hx hb d_CR_channelAfter_13 rfl (lv_at hl 0 rfl) ?_
    refine va_get (D := (dC, dI)) (ci := 5) (v := .ref (a 1)) (C := R_CR) (T := F_CR) (N := 7) hx hb hts in_CR hown hK hP 5 rfl rfl 0 (by decide) (hts (.fieldLink R_CR 24 R_CR "plan" "LNetRoutes$Plan;") (tm 187 rfl)) (fun _ h9 => h9) rfl d_CR_channelAfter_14 ?_
    refine lv_iload_n hx hb d_CR_channelAfter_17 rfl (lv_at hl 1 rfl) ?_
    refine cl_r (va_runV (As := [.int x1]) (rest := [.ref (a 1)]) ⟨hx, hb, hml, hown, hts⟩ (c_CP_endOf l dC dI cI cZ a _ σ x1 _ hw) (cwV 1 hts (gi_V (tm 189 rfl) (tm 71 rfl) (tm 72 rfl) (tm 4 rfl) (tm 73 rfl)) rfl rfl rfl (by decide +kernel) ⟨Nat.le_of_ble_eq_true rfl, Nat.le_of_ble_eq_true rfl⟩) (pW_V hK hP hD (ci := 1) (k := 1) rfl rfl) rfl rfl hl.1 rfl (lv_room (Nat.le_of_ble_eq_true rfl)) d_CR_channelAfter_18 ⟨Nat.zero_le _, Nat.zero_le _⟩) hP hS hA (fun r_2 H locs hw hP hT => ?_)
    have hS := hT _ hA hS
    refine lv_iload_n hx hb d_CR_channelAfter_21 rfl (lv_at hl 2 rfl) ?_
    refine cl_r (va_runV (As := [.int r_2, .int x2]) (rest := []) ⟨hx, hb, hml, hown, hts⟩ (c_CP_wayAt l dC dI cI cZ a _ σ r_2 x2 _ hw) (cwV 2 hts (gi_V (tm 188 rfl) (tm 80 rfl) (tm 81 rfl) (tm 4 rfl) (tm 82 rfl)) rfl rfl rfl (by decide +kernel) ⟨Nat.le_of_ble_eq_true rfl, Nat.le_of_ble_eq_true rfl⟩) (pW_V hK hP hD (ci := 1) (k := 1) rfl rfl) rfl rfl hl.1 rfl (lv_room (Nat.le_of_ble_eq_true rfl)) d_CR_channelAfter_22 ⟨Nat.zero_le _, Nat.zero_le _⟩) hP hS hA (fun r_3 H locs hw hP hT => ?_)
    have hS := hT _ hA hS
    exact rr_i hx hb hr hlocks hS d_CR_channelAfter_25 hw
  · have hw := hw.2 c_1
    refine lv_iconst (v := (-1)) hx hb d_CR_channelAfter_5 (by decide) ?_
    refine lv_goto (tgt := 25) hx hb d_CR_channelAfter_6 (by decide) ?_
    exact rr_i hx hb hr hlocks hS d_CR_channelAfter_25 hw
set_option maxHeartbeats 4000000 in
set_option maxRecDepth 100000 in
theorem c_CR_gatherSteps (l : Launch) (dC : Nat → ClassId) (dI : Nat → Nat → Nat) (cI cZ : ClassId) (a : Nat → Nat) (sz : Nat) (σ : SS) (post : SS → Prop) (hw : wp_CR_gatherSteps σ post) : Met l y_CR_gatherSteps (.code y_CR_gatherSteps b_CR_gatherSteps 5 none :: TT) { frames := 2, cells := 0, slots := 0, locals := 44 } (pW (dC, dI) clsT (tyT cI cZ) [.ref (a 5)] sz (wC cI cZ a σ)) (va_Qv post (bW (dC, dI) clsT (tyT cI cZ) (wC cI cZ a) (va_A (wC cI cZ a σ) sz)) (va_A (wC cI cZ a σ) sz)) 0 0 (va_A (wC cI cZ a σ) sz) := by
  refine hd (Qf := fun A => (va_Qv post (bW (dC, dI) clsT (tyT cI cZ) (wC cI cZ a) A) A)) (by decide) (Nat.le_of_ble_eq_true rfl) ?_
  intro p e s m below meth c A ls hx hb hr hts hown hlocks hml hK hP hD hS hA hl
  have hown : s.vm.findClass R_CR = some m.cls := hown
  have hl : lv_has ls 5 [(0, .ref (a 5))] := hl
  rw [wp_CR_gatherSteps] at hw
  refine lv_aload_n hx hb d_CR_gatherSteps_0 rfl (lv_at hl 0 rfl) ?_
  refine va_get (D := (dC, dI)) (ci := 5) (v := .ref (a 28)) (C := R_CR) (T := F_CR) (N := 7) hx hb hts in_CR hown hK hP 5 rfl rfl 1 (by decide) (hts (.fieldLink R_CR 9 R_CR "firstStep" "[I") (tm 190 rfl)) (fun _ h9 => h9) rfl d_CR_gatherSteps_1 ?_
  refine lv_iconst (v := (-1)) hx hb d_CR_gatherSteps_4 (by decide) ?_
  refine cl_fill (w := wC cI cZ a) (rest := []) (v := (-1)) ⟨hx, hb, hml, hown, hts⟩ hK hP hD hS hA 28 rfl rfl (by decide) rfl (gi_S9 (tm 191 rfl) (tm 26 rfl) (tm 27 rfl) (tm 28 rfl)) ⟨Nat.le_of_ble_eq_true rfl, Nat.le_of_ble_eq_true rfl⟩ hl.1 (lv_room (Nat.le_of_ble_eq_true rfl)) ⟨Nat.zero_le _, Nat.zero_le _⟩ d_CR_gatherSteps_5 (fun s_1 e_1 H locs hP hD hS => ?_)
  have hw := hw s_1 e_1
  refine lv_iconst (v := 0) hx hb d_CR_gatherSteps_8 (by decide) ?_
  refine lv_istore_n (lv' := [(1, .int 0), (0, .ref (a 5))]) hx hb d_CR_gatherSteps_9 rfl hl (by decide) rfl (fun ls hl => ?_)
  obtain ⟨k_18, hw⟩ := hw
  have hE_18 : ∀ (σ_18 : SS) (y1_18 : Int32) (H : Heap) (locs : List Loc) (ls : Array Slot), we_CR_gatherSteps_95 σ_18 post → va_P (dC, dI) clsT (wC cI cZ a σ_18) H → va_D A (wC cI cZ a σ_18) → va_S A s.heap H locs → lv_has ls 5 [] → W p l e { frames := 2, cells := 0, slots := 0, locals := 44 } s m ([.ref (a 5)] : List Value).toArray below meth c H locs 0 0 (MQ below (va_Qv post (bW (dC, dI) clsT (tyT cI cZ) (wC cI cZ a) A) A) ([.ref (a 5)] : List Value).toArray s 0 0 A) (F0 m 95 ls []) := by
    intro σ_18 y1_18 H locs ls hw hP hD hS hl
    rw [we_CR_gatherSteps_95] at hw
    exact rt_v (w := wC cI cZ a) hx hb hr hlocks hK hP hD hS d_CR_gatherSteps_95 hw
  have lp_18 : ∀ (kf_18 : Nat) (σ_18 : SS) (y1_18 : Int32) (H : Heap) (locs : List Loc) (ls : Array Slot), wl_CR_gatherSteps_10 (fun σ' y1 => we_CR_gatherSteps_95 σ' post) post kf_18 σ_18 y1_18 → va_P (dC, dI) clsT (wC cI cZ a σ_18) H → va_D A (wC cI cZ a σ_18) → va_S A s.heap H locs → lv_has ls 5 [(0, .ref (a 5)), (1, .int y1_18)] → W p l e { frames := 2, cells := 0, slots := 0, locals := 44 } s m ([.ref (a 5)] : List Value).toArray below meth c H locs 0 0 (MQ below (va_Qv post (bW (dC, dI) clsT (tyT cI cZ) (wC cI cZ a) A) A) ([.ref (a 5)] : List Value).toArray s 0 0 A) (F0 m 10 ls []) := by
    intro kf_18
    induction kf_18 with
    | zero => intro σ_18 y1_18 H locs ls hw; rw [wl_CR_gatherSteps_10] at hw; exact hw.elim
    | succ kf_18 ih_18 =>
      intro σ_18 y1_18 H locs ls hw hP hD hS hl
      rw [wl_CR_gatherSteps_10] at hw
      refine lv_iload_n hx hb d_CR_gatherSteps_10 rfl (lv_at hl 1 rfl) ?_
      refine lv_aload_n hx hb d_CR_gatherSteps_11 rfl (lv_at hl 0 rfl) ?_
      refine va_get (D := (dC, dI)) (ci := 5) (v := .ref (a 1)) (C := R_CR) (T := F_CR) (N := 7) hx hb hts in_CR hown hK hP 5 rfl rfl 0 (by decide) (hts (.fieldLink R_CR 24 R_CR "plan" "LNetRoutes$Plan;") (tm 187 rfl)) (fun _ h9 => h9) rfl d_CR_gatherSteps_12 ?_
      refine va_get (D := (dC, dI)) (ci := 1) (v := .int (σ_18 1 0)) (C := R_CP) (T := F_CP) (N := 8) hx hb hts in_CP hown hK hP 1 rfl rfl 0 (by decide) (hts (.fieldLink R_CR 53 R_CP "nodes" "I") (tm 192 rfl)) (fun _ h9 => h9) rfl d_CR_gatherSteps_15 ?_
      refine lv_icmp_ge (tgt := 95) hx hb d_CR_gatherSteps_18 (by decide) (fun c_19 => ?_) (fun c_19 => ?_)
      · have hw := hw.1 c_19
        exact hE_18 σ_18 y1_18 _ _ _ hw hP hD hS (lv_sub hl [] rfl)
      · have hw := hw.2 c_19
        refine lv_iconst (v := 0) hx hb d_CR_gatherSteps_21 (by decide) ?_
        refine lv_istore_n (lv' := [(2, .int 0), (0, .ref (a 5)), (1, .int y1_18)]) hx hb d_CR_gatherSteps_22 rfl hl (by decide) rfl (fun ls hl => ?_)
        obtain ⟨k_20, hw⟩ := hw
        have hE_20 : ∀ (σ_20 : SS) (y2_20 : Int32) (H : Heap) (locs : List Loc) (ls : Array Slot), we_CR_gatherSteps_89 σ_20 y1_18 (wl_CR_gatherSteps_10 (fun σ' y1 => we_CR_gatherSteps_95 σ' post) post kf_18) (fun σ' y1 => we_CR_gatherSteps_95 σ' post) post → va_P (dC, dI) clsT (wC cI cZ a σ_20) H → va_D A (wC cI cZ a σ_20) → va_S A s.heap H locs → lv_has ls 5 [(0, .ref (a 5)), (1, .int y1_18)] → W p l e { frames := 2, cells := 0, slots := 0, locals := 44 } s m ([.ref (a 5)] : List Value).toArray below meth c H locs 0 0 (MQ below (va_Qv post (bW (dC, dI) clsT (tyT cI cZ) (wC cI cZ a) A) A) ([.ref (a 5)] : List Value).toArray s 0 0 A) (F0 m 89 ls []) := by
          intro σ_20 y2_20 H locs ls hw hP hD hS hl
          rw [we_CR_gatherSteps_89] at hw
          refine lv_iinc (v := y1_18 + 1) (lv' := [(1, .int (y1_18 + 1)), (0, .ref (a 5))]) hx hb d_CR_gatherSteps_89 hl (k := 1) rfl rfl (by decide) rfl (fun ls hl => ?_)
          refine lv_goto (tgt := 10) hx hb d_CR_gatherSteps_92 (by decide) ?_
          exact ih_18 σ_20 (y1_18 + 1) _ _ _ hw hP hD hS (lv_sub hl [1, 0] rfl)
        have lp_20 : ∀ (kf_20 : Nat) (σ_20 : SS) (y2_20 : Int32) (H : Heap) (locs : List Loc) (ls : Array Slot), wl_CR_gatherSteps_23 y1_18 (fun σ' y2 => we_CR_gatherSteps_89 σ' y1_18 (wl_CR_gatherSteps_10 (fun σ' y1 => we_CR_gatherSteps_95 σ' post) post kf_18) (fun σ' y1 => we_CR_gatherSteps_95 σ' post) post) post kf_20 σ_20 y2_20 → va_P (dC, dI) clsT (wC cI cZ a σ_20) H → va_D A (wC cI cZ a σ_20) → va_S A s.heap H locs → lv_has ls 5 [(0, .ref (a 5)), (1, .int y1_18), (2, .int y2_20)] → W p l e { frames := 2, cells := 0, slots := 0, locals := 44 } s m ([.ref (a 5)] : List Value).toArray below meth c H locs 0 0 (MQ below (va_Qv post (bW (dC, dI) clsT (tyT cI cZ) (wC cI cZ a) A) A) ([.ref (a 5)] : List Value).toArray s 0 0 A) (F0 m 23 ls []) := by
          intro kf_20
          induction kf_20 with
          | zero => intro σ_20 y2_20 H locs ls hw; rw [wl_CR_gatherSteps_23] at hw; exact hw.elim
          | succ kf_20 ih_20 =>
            intro σ_20 y2_20 H locs ls hw hP hD hS hl
            rw [wl_CR_gatherSteps_23] at hw
            refine lv_iload_n hx hb d_CR_gatherSteps_23 rfl (lv_at hl 2 rfl) ?_
            refine lv_aload_n hx hb d_CR_gatherSteps_24 rfl (lv_at hl 0 rfl) ?_
            refine va_get (D := (dC, dI)) (ci := 5) (v := .ref (a 1)) (C := R_CR) (T := F_CR) (N := 7) hx hb hts in_CR hown hK hP 5 rfl rfl 0 (by decide) (hts (.fieldLink R_CR 24 R_CR "plan" "LNetRoutes$Plan;") (tm 187 rfl)) (fun _ h9 => h9) rfl d_CR_gatherSteps_25 ?_
            refine va_get (D := (dC, dI)) (ci := 1) (v := .int (σ_20 1 0)) (C := R_CP) (T := F_CP) (N := 8) hx hb hts in_CP hown hK hP 1 rfl rfl 0 (by decide) (hts (.fieldLink R_CR 53 R_CP "nodes" "I") (tm 192 rfl)) (fun _ h9 => h9) rfl d_CR_gatherSteps_28 ?_
            refine lv_icmp_ge (tgt := 89) hx hb d_CR_gatherSteps_31 (by decide) (fun c_21 => ?_) (fun c_21 => ?_)
            · have hw := hw.1 c_21
              exact hE_20 σ_20 y2_20 _ _ _ hw hP hD hS (lv_sub hl [0, 1] rfl)
            · have hw := hw.2 c_21
              refine lv_aload_n hx hb d_CR_gatherSteps_34 rfl (lv_at hl 0 rfl) ?_
              refine lv_aload_n hx hb d_CR_gatherSteps_35 rfl (lv_at hl 0 rfl) ?_
              refine va_get (D := (dC, dI)) (ci := 5) (v := .ref (a 1)) (C := R_CR) (T := F_CR) (N := 7) hx hb hts in_CR hown hK hP 5 rfl rfl 0 (by decide) (hts (.fieldLink R_CR 24 R_CR "plan" "LNetRoutes$Plan;") (tm 187 rfl)) (fun _ h9 => h9) rfl d_CR_gatherSteps_36 ?_
              refine lv_iload_n hx hb d_CR_gatherSteps_39 rfl (lv_at hl 1 rfl) ?_
              refine lv_iload_n hx hb d_CR_gatherSteps_40 rfl (lv_at hl 2 rfl) ?_
              refine cl_r (va_runV (As := [.int y1_18, .int y2_20]) (rest := [.ref (a 5)]) ⟨hx, hb, hml, hown, hts⟩ (c_CP_wayAt l dC dI cI cZ a _ σ_20 y1_18 y2_20 _ hw) (cwV 2 hts (gi_V (tm 188 rfl) (tm 80 rfl) (tm 81 rfl) (tm 4 rfl) (tm 82 rfl)) rfl rfl rfl (by decide +kernel) ⟨Nat.le_of_ble_eq_true rfl, Nat.le_of_ble_eq_true rfl⟩) (pW_V hK hP hD (ci := 1) (k := 1) rfl rfl) rfl rfl hl.1 rfl (lv_room (Nat.le_of_ble_eq_true rfl)) d_CR_gatherSteps_41 ⟨Nat.zero_le _, Nat.zero_le _⟩) hP hS hA (fun r_22 H locs hw hP hT => ?_)
              have hS := hT _ hA hS
              refine lv_iload_n hx hb d_CR_gatherSteps_44 rfl (lv_at hl 2 rfl) ?_
              refine cl_r (va_runV (As := [.int r_22, .int y2_20]) (rest := []) ⟨hx, hb, hml, hown, hts⟩ (c_CR_channelAfter l dC dI cI cZ a _ σ_20 r_22 y2_20 _ hw) (cwV 2 hts (gi_V (tm 194 rfl) (tm 195 rfl) (tm 196 rfl) (tm 197 rfl) (tm 198 rfl)) rfl rfl rfl (by decide +kernel) ⟨Nat.le_of_ble_eq_true rfl, Nat.le_of_ble_eq_true rfl⟩) (pW_V hK hP hD (ci := 5) (k := 5) rfl rfl) rfl rfl hl.1 rfl (lv_room (Nat.le_of_ble_eq_true rfl)) d_CR_gatherSteps_45 ⟨Nat.zero_le _, Nat.zero_le _⟩) hP hS hA (fun r_23 H locs hw hP hT => ?_)
              have hS := hT _ hA hS
              refine lv_istore_n (lv' := [(3, .int r_23), (0, .ref (a 5)), (1, .int y1_18), (2, .int y2_20)]) hx hb d_CR_gatherSteps_48 rfl hl (by decide) rfl (fun ls hl => ?_)
              refine lv_iload_n hx hb d_CR_gatherSteps_49 rfl (lv_at hl 0 rfl) ?_
              refine lv_iconst (v := (-1)) hx hb d_CR_gatherSteps_50 (by decide) ?_
              refine lv_icmp_eq (tgt := 83) hx hb d_CR_gatherSteps_51 (by decide) (fun c_24 => ?_) (fun c_24 => ?_)
              · have hw := hw.1 c_24
                refine lv_iinc (v := y2_20 + 1) (lv' := [(2, .int (y2_20 + 1)), (3, .int r_23), (0, .ref (a 5)), (1, .int y1_18)]) hx hb d_CR_gatherSteps_83 hl (k := 3) rfl rfl (by decide) rfl (fun ls hl => ?_)
                refine lv_goto (tgt := 23) hx hb d_CR_gatherSteps_86 (by decide) ?_
                exact ih_20 σ_20 (y2_20 + 1) _ _ _ hw hP hD hS (lv_sub hl [2, 3, 0] rfl)
              · have hw := hw.2 c_24
                refine lv_iload_n hx hb d_CR_gatherSteps_54 rfl (lv_at hl 2 rfl) ?_
                refine lv_bipush (v := 16) hx hb d_CR_gatherSteps_55 (by decide) ?_
                refine lv_imul hx hb d_CR_gatherSteps_57 ?_
                refine lv_iload_n hx hb d_CR_gatherSteps_58 rfl (lv_at hl 3 rfl) ?_
                refine lv_iadd hx hb d_CR_gatherSteps_59 ?_
                refine lv_topi (fun v_25 ev_25 => ?_)
                have hw := hw v_25 ev_25
                refine lv_istore (lv' := [(4, .int v_25), (3, .int r_23), (0, .ref (a 5)), (1, .int y1_18), (2, .int y2_20)]) hx hb d_CR_gatherSteps_60 hl (by decide) rfl (fun ls hl => ?_)
                refine lv_aload_n hx hb d_CR_gatherSteps_62 rfl (lv_at hl 2 rfl) ?_
                refine va_get (D := (dC, dI)) (ci := 5) (v := .ref (a 29)) (C := R_CR) (T := F_CR) (N := 7) hx hb hts in_CR hown hK hP 5 rfl rfl 2 (by decide) (hts (.fieldLink R_CR 15 R_CR "nextStep" "[I") (tm 193 rfl)) (fun _ h9 => h9) rfl d_CR_gatherSteps_63 ?_
                refine lv_iload hx hb d_CR_gatherSteps_66 (lv_at hl 0 rfl) ?_
                refine lv_aload_n hx hb d_CR_gatherSteps_68 rfl (lv_at hl 2 rfl) ?_
                refine va_get (D := (dC, dI)) (ci := 5) (v := .ref (a 28)) (C := R_CR) (T := F_CR) (N := 7) hx hb hts in_CR hown hK hP 5 rfl rfl 1 (by decide) (hts (.fieldLink R_CR 9 R_CR "firstStep" "[I") (tm 190 rfl)) (fun _ h9 => h9) rfl d_CR_gatherSteps_69 ?_
                refine lv_iload_n hx hb d_CR_gatherSteps_72 rfl (lv_at hl 1 rfl) ?_
                obtain ⟨hin, hw⟩ := hw
                refine va_iald hx hb hK hP 28 0 rfl rfl hin d_CR_gatherSteps_73 ?_
                obtain ⟨hin, hw⟩ := hw
                refine st_i (w := wC cI cZ a) hx hb hK hP hD hS 29 0 rfl rfl rfl hin d_CR_gatherSteps_74 (fun s_26 e_26 H locs hP hD hS => ?_)
                have hw := hw s_26 e_26
                refine lv_aload_n hx hb d_CR_gatherSteps_75 rfl (lv_at hl 2 rfl) ?_
                refine va_get (D := (dC, dI)) (ci := 5) (v := .ref (a 28)) (C := R_CR) (T := F_CR) (N := 7) hx hb hts in_CR hown hK hP 5 rfl rfl 1 (by decide) (hts (.fieldLink R_CR 9 R_CR "firstStep" "[I") (tm 190 rfl)) (fun _ h9 => h9) rfl d_CR_gatherSteps_76 ?_
                refine lv_iload_n hx hb d_CR_gatherSteps_79 rfl (lv_at hl 1 rfl) ?_
                refine lv_iload hx hb d_CR_gatherSteps_80 (lv_at hl 0 rfl) ?_
                obtain ⟨hin, hw⟩ := hw
                refine st_i (w := wC cI cZ a) hx hb hK hP hD hS 28 0 rfl rfl rfl hin d_CR_gatherSteps_82 (fun s_27 e_27 H locs hP hD hS => ?_)
                have hw := hw s_27 e_27
                refine lv_iinc (v := y2_20 + 1) (lv' := [(2, .int (y2_20 + 1)), (4, .int v_25), (3, .int r_23), (0, .ref (a 5)), (1, .int y1_18)]) hx hb d_CR_gatherSteps_83 hl (k := 4) rfl rfl (by decide) rfl (fun ls hl => ?_)
                refine lv_goto (tgt := 23) hx hb d_CR_gatherSteps_86 (by decide) ?_
                exact ih_20 s_27 (y2_20 + 1) _ _ _ hw hP hD hS (lv_sub hl [3, 4, 0] rfl)
        exact lp_20 k_20 σ_18 0 _ _ _ hw hP hD hS (lv_sub hl [1, 2, 0] rfl)
  exact lp_18 k_18 s_1 0 _ _ _ hw hP hD hS (lv_sub hl [1, 0] rfl)
set_option maxHeartbeats 4000000 in
set_option maxRecDepth 100000 in
theorem c_CR_closeAt (l : Launch) (dC : Nat → ClassId) (dI : Nat → Nat → Nat) (cI cZ : ClassId) (a : Nat → Nat) (sz : Nat) (σ : SS) (x1 : Int32) (post : Int32 → SS → Prop) (hw : wp_CR_closeAt σ x1 post) : Met l y_CR_closeAt (.code y_CR_closeAt b_CR_closeAt 8 (some .int) :: TT) { frames := 1, cells := 0, slots := 0, locals := 23 } (pW (dC, dI) clsT (tyT cI cZ) [.ref (a 5), .int x1] sz (wC cI cZ a σ)) (va_Qi post (bW (dC, dI) clsT (tyT cI cZ) (wC cI cZ a) (va_A (wC cI cZ a σ) sz)) (va_A (wC cI cZ a σ) sz)) 0 0 (va_A (wC cI cZ a σ) sz) := by
  refine hd (Qf := fun A => (va_Qi post (bW (dC, dI) clsT (tyT cI cZ) (wC cI cZ a) A) A)) (by decide) (Nat.le_of_ble_eq_true rfl) ?_
  intro p e s m below meth c A ls hx hb hr hts hown hlocks hml hK hP hD hS hA hl
  have hown : s.vm.findClass R_CR = some m.cls := hown
  have hl : lv_has ls 8 [(0, .ref (a 5)), (1, .int x1)] := hl
  rw [wp_CR_closeAt] at hw
  refine lv_aload_n hx hb d_CR_closeAt_0 rfl (lv_at hl 0 rfl) ?_
  refine va_get (D := (dC, dI)) (ci := 5) (v := .ref (a 30)) (C := R_CR) (T := F_CR) (N := 7) hx hb hts in_CR hown hK hP 5 rfl rfl 3 (by decide) (hts (.fieldLink R_CR 18 R_CR "toClose" "[I") (tm 199 rfl)) (fun _ h9 => h9) rfl d_CR_closeAt_1 ?_
  refine lv_iconst (v := 0) hx hb d_CR_closeAt_4 (by decide) ?_
  refine cl_fill (w := wC cI cZ a) (rest := []) (v := 0) ⟨hx, hb, hml, hown, hts⟩ hK hP hD hS hA 30 rfl rfl (by decide) rfl (gi_S9 (tm 191 rfl) (tm 26 rfl) (tm 27 rfl) (tm 28 rfl)) ⟨Nat.le_of_ble_eq_true rfl, Nat.le_of_ble_eq_true rfl⟩ hl.1 (lv_room (Nat.le_of_ble_eq_true rfl)) ⟨Nat.zero_le _, Nat.zero_le _⟩ d_CR_closeAt_5 (fun s_1 e_1 H locs hP hD hS => ?_)
  have hw := hw s_1 e_1
  refine lv_aload_n hx hb d_CR_closeAt_8 rfl (lv_at hl 0 rfl) ?_
  refine va_get (D := (dC, dI)) (ci := 5) (v := .ref (a 31)) (C := R_CR) (T := F_CR) (N := 7) hx hb hts in_CR hown hK hP 5 rfl rfl 4 (by decide) (hts (.fieldLink R_CR 21 R_CR "reached" "[I") (tm 200 rfl)) (fun _ h9 => h9) rfl d_CR_closeAt_9 ?_
  refine lv_iconst (v := 0) hx hb d_CR_closeAt_12 (by decide) ?_
  refine lv_iload_n hx hb d_CR_closeAt_13 rfl (lv_at hl 1 rfl) ?_
  obtain ⟨hin, hw⟩ := hw
  refine st_i (w := wC cI cZ a) hx hb hK hP hD hS 31 0 rfl rfl rfl hin d_CR_closeAt_14 (fun s_2 e_2 H locs hP hD hS => ?_)
  have hw := hw s_2 e_2
  refine lv_iconst (v := 1) hx hb d_CR_closeAt_15 (by decide) ?_
  refine lv_istore_n (lv' := [(2, .int 1), (0, .ref (a 5)), (1, .int x1)]) hx hb d_CR_closeAt_16 rfl hl (by decide) rfl (fun ls hl => ?_)
  refine lv_iconst (v := 0) hx hb d_CR_closeAt_17 (by decide) ?_
  refine lv_istore_n (lv' := [(3, .int 0), (2, .int 1), (0, .ref (a 5)), (1, .int x1)]) hx hb d_CR_closeAt_18 rfl hl (by decide) rfl (fun ls hl => ?_)
  obtain ⟨k_37, hw⟩ := hw
  have hE_37 : ∀ (σ_37 : SS) (y2_37 : Int32) (y3_37 : Int32) (H : Heap) (locs : List Loc) (ls : Array Slot), we_CR_closeAt_163 σ_37 x1 post → va_P (dC, dI) clsT (wC cI cZ a σ_37) H → va_D A (wC cI cZ a σ_37) → va_S A s.heap H locs → lv_has ls 8 [(0, .ref (a 5)), (1, .int x1)] → W p l e { frames := 1, cells := 0, slots := 0, locals := 23 } s m ([.ref (a 5), .int x1] : List Value).toArray below meth c H locs 0 0 (MQ below (va_Qi post (bW (dC, dI) clsT (tyT cI cZ) (wC cI cZ a) A) A) ([.ref (a 5), .int x1] : List Value).toArray s 0 0 A) (F0 m 163 ls []) := by
    intro σ_37 y2_37 y3_37 H locs ls hw hP hD hS hl
    rw [we_CR_closeAt_163] at hw
    refine lv_aload_n hx hb d_CR_closeAt_163 rfl (lv_at hl 0 rfl) ?_
    refine va_get (D := (dC, dI)) (ci := 5) (v := .ref (a 30)) (C := R_CR) (T := F_CR) (N := 7) hx hb hts in_CR hown hK hP 5 rfl rfl 3 (by decide) (hts (.fieldLink R_CR 18 R_CR "toClose" "[I") (tm 199 rfl)) (fun _ h9 => h9) rfl d_CR_closeAt_164 ?_
    refine lv_iload_n hx hb d_CR_closeAt_167 rfl (lv_at hl 1 rfl) ?_
    obtain ⟨hin, hw⟩ := hw
    refine va_iald hx hb hK hP 30 0 rfl rfl hin d_CR_closeAt_168 ?_
    exact rt_i (w := wC cI cZ a) hx hb hr hlocks hK hP hD hS d_CR_closeAt_169 hw
  have lp_37 : ∀ (kf_37 : Nat) (σ_37 : SS) (y2_37 : Int32) (y3_37 : Int32) (H : Heap) (locs : List Loc) (ls : Array Slot), wl_CR_closeAt_19 x1 (fun σ' y2 y3 => we_CR_closeAt_163 σ' x1 post) post kf_37 σ_37 y2_37 y3_37 → va_P (dC, dI) clsT (wC cI cZ a σ_37) H → va_D A (wC cI cZ a σ_37) → va_S A s.heap H locs → lv_has ls 8 [(0, .ref (a 5)), (1, .int x1), (2, .int y2_37), (3, .int y3_37)] → W p l e { frames := 1, cells := 0, slots := 0, locals := 23 } s m ([.ref (a 5), .int x1] : List Value).toArray below meth c H locs 0 0 (MQ below (va_Qi post (bW (dC, dI) clsT (tyT cI cZ) (wC cI cZ a) A) A) ([.ref (a 5), .int x1] : List Value).toArray s 0 0 A) (F0 m 19 ls []) := by
    intro kf_37
    induction kf_37 with
    | zero => intro σ_37 y2_37 y3_37 H locs ls hw; rw [wl_CR_closeAt_19] at hw; exact hw.elim
    | succ kf_37 ih_37 =>
      intro σ_37 y2_37 y3_37 H locs ls hw hP hD hS hl
      rw [wl_CR_closeAt_19] at hw
      refine lv_iload_n hx hb d_CR_closeAt_19 rfl (lv_at hl 3 rfl) ?_
      refine lv_iload_n hx hb d_CR_closeAt_20 rfl (lv_at hl 2 rfl) ?_
      refine lv_icmp_ge (tgt := 163) hx hb d_CR_closeAt_21 (by decide) (fun c_38 => ?_) (fun c_38 => ?_)
      · have hw := hw.1 c_38
        exact hE_37 σ_37 y2_37 y3_37 _ _ _ hw hP hD hS (lv_sub hl [0, 1] rfl)
      · have hw := hw.2 c_38
        refine lv_iload_n hx hb d_CR_closeAt_24 rfl (lv_at hl 3 rfl) ?_
        refine lv_sipush (v := 160) hx hb d_CR_closeAt_25 (by decide) ?_
        refine lv_icmp_ge (tgt := 163) hx hb d_CR_closeAt_28 (by decide) (fun c_39 => ?_) (fun c_39 => ?_)
        · have hw := hw.1 c_39
          exact hE_37 σ_37 y2_37 y3_37 _ _ _ hw hP hD hS (lv_sub hl [0, 1] rfl)
        · have hw := hw.2 c_39
          refine lv_aload_n hx hb d_CR_closeAt_31 rfl (lv_at hl 0 rfl) ?_
          refine va_get (D := (dC, dI)) (ci := 5) (v := .ref (a 30)) (C := R_CR) (T := F_CR) (N := 7) hx hb hts in_CR hown hK hP 5 rfl rfl 3 (by decide) (hts (.fieldLink R_CR 18 R_CR "toClose" "[I") (tm 199 rfl)) (fun _ h9 => h9) rfl d_CR_closeAt_32 ?_
          refine lv_iload_n hx hb d_CR_closeAt_35 rfl (lv_at hl 1 rfl) ?_
          obtain ⟨hin, hw⟩ := hw
          refine va_iald hx hb hK hP 30 0 rfl rfl hin d_CR_closeAt_36 ?_
          refine lv_if_ne (tgt := 163) hx hb d_CR_closeAt_37 (by decide) (fun c_40 => ?_) (fun c_40 => ?_)
          · have hw := hw.1 c_40
            exact hE_37 σ_37 y2_37 y3_37 _ _ _ hw hP hD hS (lv_sub hl [0, 1] rfl)
          · have hw := hw.2 c_40
            refine lv_aload_n hx hb d_CR_closeAt_40 rfl (lv_at hl 0 rfl) ?_
            refine va_get (D := (dC, dI)) (ci := 5) (v := .ref (a 31)) (C := R_CR) (T := F_CR) (N := 7) hx hb hts in_CR hown hK hP 5 rfl rfl 4 (by decide) (hts (.fieldLink R_CR 21 R_CR "reached" "[I") (tm 200 rfl)) (fun _ h9 => h9) rfl d_CR_closeAt_41 ?_
            refine lv_iload_n hx hb d_CR_closeAt_44 rfl (lv_at hl 3 rfl) ?_
            obtain ⟨hin, hw⟩ := hw
            refine va_iald hx hb hK hP 31 0 rfl rfl hin d_CR_closeAt_45 ?_
            refine lv_topi (fun v_41 ev_41 => ?_)
            have hw := hw v_41 ev_41
            refine lv_istore (lv' := [(4, .int v_41), (0, .ref (a 5)), (1, .int x1), (2, .int y2_37), (3, .int y3_37)]) hx hb d_CR_closeAt_46 hl (by decide) rfl (fun ls hl => ?_)
            refine lv_aload_n hx hb d_CR_closeAt_48 rfl (lv_at hl 1 rfl) ?_
            refine va_get (D := (dC, dI)) (ci := 5) (v := .ref (a 28)) (C := R_CR) (T := F_CR) (N := 7) hx hb hts in_CR hown hK hP 5 rfl rfl 1 (by decide) (hts (.fieldLink R_CR 9 R_CR "firstStep" "[I") (tm 190 rfl)) (fun _ h9 => h9) rfl d_CR_closeAt_49 ?_
            refine lv_iload hx hb d_CR_closeAt_52 (lv_at hl 0 rfl) ?_
            obtain ⟨hin, hw⟩ := hw
            refine va_iald hx hb hK hP 28 0 rfl rfl hin d_CR_closeAt_54 ?_
            refine lv_topi (fun v_42 ev_42 => ?_)
            have hw := hw v_42 ev_42
            refine lv_istore (lv' := [(5, .int v_42), (4, .int v_41), (0, .ref (a 5)), (1, .int x1), (2, .int y2_37), (3, .int y3_37)]) hx hb d_CR_closeAt_55 hl (by decide) rfl (fun ls hl => ?_)
            refine lv_iconst (v := 0) hx hb d_CR_closeAt_57 (by decide) ?_
            refine lv_istore (lv' := [(6, .int 0), (5, .int v_42), (4, .int v_41), (0, .ref (a 5)), (1, .int x1), (2, .int y2_37), (3, .int y3_37)]) hx hb d_CR_closeAt_58 hl (by decide) rfl (fun ls hl => ?_)
            obtain ⟨k_43, hw⟩ := hw
            have hE_43 : ∀ (σ_43 : SS) (y2_43 : Int32) (y5_43 : Int32) (y6_43 : Int32) (H : Heap) (locs : List Loc) (ls : Array Slot), we_CR_closeAt_157 σ_43 x1 y2_43 y3_37 (wl_CR_closeAt_19 x1 (fun σ' y2 y3 => we_CR_closeAt_163 σ' x1 post) post kf_37) (fun σ' y2 y3 => we_CR_closeAt_163 σ' x1 post) post → va_P (dC, dI) clsT (wC cI cZ a σ_43) H → va_D A (wC cI cZ a σ_43) → va_S A s.heap H locs → lv_has ls 8 [(0, .ref (a 5)), (1, .int x1), (2, .int y2_43), (3, .int y3_37)] → W p l e { frames := 1, cells := 0, slots := 0, locals := 23 } s m ([.ref (a 5), .int x1] : List Value).toArray below meth c H locs 0 0 (MQ below (va_Qi post (bW (dC, dI) clsT (tyT cI cZ) (wC cI cZ a) A) A) ([.ref (a 5), .int x1] : List Value).toArray s 0 0 A) (F0 m 157 ls []) := by
              intro σ_43 y2_43 y5_43 y6_43 H locs ls hw hP hD hS hl
              rw [we_CR_closeAt_157] at hw
              refine lv_iinc (v := y3_37 + 1) (lv' := [(3, .int (y3_37 + 1)), (0, .ref (a 5)), (1, .int x1), (2, .int y2_43)]) hx hb d_CR_closeAt_157 hl (k := 3) rfl rfl (by decide) rfl (fun ls hl => ?_)
              refine lv_goto (tgt := 19) hx hb d_CR_closeAt_160 (by decide) ?_
              exact ih_37 σ_43 y2_43 (y3_37 + 1) _ _ _ hw hP hD hS (lv_sub hl [1, 2, 3, 0] rfl)
            have lp_43 : ∀ (kf_43 : Nat) (σ_43 : SS) (y2_43 : Int32) (y5_43 : Int32) (y6_43 : Int32) (H : Heap) (locs : List Loc) (ls : Array Slot), wl_CR_closeAt_60 x1 y3_37 v_41 (fun σ' y2 y5 y6 => we_CR_closeAt_157 σ' x1 y2 y3_37 (wl_CR_closeAt_19 x1 (fun σ' y2 y3 => we_CR_closeAt_163 σ' x1 post) post kf_37) (fun σ' y2 y3 => we_CR_closeAt_163 σ' x1 post) post) post kf_43 σ_43 y2_43 y5_43 y6_43 → va_P (dC, dI) clsT (wC cI cZ a σ_43) H → va_D A (wC cI cZ a σ_43) → va_S A s.heap H locs → lv_has ls 8 [(0, .ref (a 5)), (1, .int x1), (2, .int y2_43), (3, .int y3_37), (4, .int v_41), (5, .int y5_43), (6, .int y6_43)] → W p l e { frames := 1, cells := 0, slots := 0, locals := 23 } s m ([.ref (a 5), .int x1] : List Value).toArray below meth c H locs 0 0 (MQ below (va_Qi post (bW (dC, dI) clsT (tyT cI cZ) (wC cI cZ a) A) A) ([.ref (a 5), .int x1] : List Value).toArray s 0 0 A) (F0 m 60 ls []) := by
              intro kf_43
              induction kf_43 with
              | zero => intro σ_43 y2_43 y5_43 y6_43 H locs ls hw; rw [wl_CR_closeAt_60] at hw; exact hw.elim
              | succ kf_43 ih_43 =>
                intro σ_43 y2_43 y5_43 y6_43 H locs ls hw hP hD hS hl
                rw [wl_CR_closeAt_60] at hw
                refine lv_iload hx hb d_CR_closeAt_60 (lv_at hl 6 rfl) ?_
                refine lv_sipush (v := 256) hx hb d_CR_closeAt_62 (by decide) ?_
                refine lv_icmp_ge (tgt := 157) hx hb d_CR_closeAt_65 (by decide) (fun c_44 => ?_) (fun c_44 => ?_)
                · have hw := hw.1 c_44
                  exact hE_43 σ_43 y2_43 y5_43 y6_43 _ _ _ hw hP hD hS (lv_sub hl [0, 1, 2, 3] rfl)
                · have hw := hw.2 c_44
                  refine lv_iload hx hb d_CR_closeAt_68 (lv_at hl 5 rfl) ?_
                  refine lv_iconst (v := (-1)) hx hb d_CR_closeAt_70 (by decide) ?_
                  refine lv_icmp_eq (tgt := 157) hx hb d_CR_closeAt_71 (by decide) (fun c_45 => ?_) (fun c_45 => ?_)
                  · have hw := hw.1 c_45
                    exact hE_43 σ_43 y2_43 y5_43 y6_43 _ _ _ hw hP hD hS (lv_sub hl [0, 1, 2, 3] rfl)
                  · have hw := hw.2 c_45
                    refine lv_aload_n hx hb d_CR_closeAt_74 rfl (lv_at hl 0 rfl) ?_
                    refine va_get (D := (dC, dI)) (ci := 5) (v := .ref (a 1)) (C := R_CR) (T := F_CR) (N := 7) hx hb hts in_CR hown hK hP 5 rfl rfl 0 (by decide) (hts (.fieldLink R_CR 24 R_CR "plan" "LNetRoutes$Plan;") (tm 187 rfl)) (fun _ h9 => h9) rfl d_CR_closeAt_75 ?_
                    refine va_get (D := (dC, dI)) (ci := 1) (v := .ref (a 10)) (C := R_CP) (T := F_CP) (N := 8) hx hb hts in_CP hown hK hP 1 rfl rfl 6 (by decide) (hts (.fieldLink R_CR 66 R_CP "ways" "[I") (tm 201 rfl)) (fun _ h9 => h9) rfl d_CR_closeAt_78 ?_
                    refine lv_iload hx hb d_CR_closeAt_81 (lv_at hl 5 rfl) ?_
                    obtain ⟨hin, hw⟩ := hw
                    refine va_iald hx hb hK hP 10 0 rfl rfl hin d_CR_closeAt_83 ?_
                    refine lv_topi (fun v_46 ev_46 => ?_)
                    have hw := hw v_46 ev_46
                    refine lv_istore (lv' := [(7, .int v_46), (0, .ref (a 5)), (1, .int x1), (2, .int y2_43), (3, .int y3_37), (4, .int v_41), (5, .int y5_43), (6, .int y6_43)]) hx hb d_CR_closeAt_84 hl (by decide) rfl (fun ls hl => ?_)
                    refine lv_iload hx hb d_CR_closeAt_86 (lv_at hl 0 rfl) ?_
                    refine lv_iconst (v := (-1)) hx hb d_CR_closeAt_88 (by decide) ?_
                    refine lv_icmp_eq (tgt := 142) hx hb d_CR_closeAt_89 (by decide) (fun c_47 => ?_) (fun c_47 => ?_)
                    · have hw := hw.1 c_47
                      refine lv_aload_n hx hb d_CR_closeAt_142 rfl (lv_at hl 1 rfl) ?_
                      refine va_get (D := (dC, dI)) (ci := 5) (v := .ref (a 29)) (C := R_CR) (T := F_CR) (N := 7) hx hb hts in_CR hown hK hP 5 rfl rfl 2 (by decide) (hts (.fieldLink R_CR 15 R_CR "nextStep" "[I") (tm 193 rfl)) (fun _ h9 => h9) rfl d_CR_closeAt_143 ?_
                      refine lv_iload hx hb d_CR_closeAt_146 (lv_at hl 6 rfl) ?_
                      obtain ⟨hin, hw⟩ := hw
                      refine va_iald hx hb hK hP 29 0 rfl rfl hin d_CR_closeAt_148 ?_
                      refine lv_topi (fun v_48 ev_48 => ?_)
                      have hw := hw v_48 ev_48
                      refine lv_istore (lv' := [(5, .int v_48), (7, .int v_46), (0, .ref (a 5)), (1, .int x1), (2, .int y2_43), (3, .int y3_37), (4, .int v_41), (6, .int y6_43)]) hx hb d_CR_closeAt_149 hl (by decide) rfl (fun ls hl => ?_)
                      refine lv_iinc (v := y6_43 + 1) (lv' := [(6, .int (y6_43 + 1)), (5, .int v_48), (7, .int v_46), (0, .ref (a 5)), (1, .int x1), (2, .int y2_43), (3, .int y3_37), (4, .int v_41)]) hx hb d_CR_closeAt_151 hl (k := 7) rfl rfl (by decide) rfl (fun ls hl => ?_)
                      refine lv_goto (tgt := 60) hx hb d_CR_closeAt_154 (by decide) ?_
                      exact ih_43 σ_43 y2_43 v_48 (y6_43 + 1) _ _ _ hw hP hD hS (lv_sub hl [3, 4, 5, 6, 7, 1, 0] rfl)
                    · have hw := hw.2 c_47
                      refine lv_aload_n hx hb d_CR_closeAt_92 rfl (lv_at hl 1 rfl) ?_
                      refine va_get (D := (dC, dI)) (ci := 5) (v := .ref (a 30)) (C := R_CR) (T := F_CR) (N := 7) hx hb hts in_CR hown hK hP 5 rfl rfl 3 (by decide) (hts (.fieldLink R_CR 18 R_CR "toClose" "[I") (tm 199 rfl)) (fun _ h9 => h9) rfl d_CR_closeAt_93 ?_
                      refine lv_iload hx hb d_CR_closeAt_96 (lv_at hl 0 rfl) ?_
                      obtain ⟨hin, hw⟩ := hw
                      refine va_iald hx hb hK hP 30 0 rfl rfl hin d_CR_closeAt_98 ?_
                      refine lv_if_ne (tgt := 142) hx hb d_CR_closeAt_99 (by decide) (fun c_49 => ?_) (fun c_49 => ?_)
                      · have hw := hw.1 c_49
                        refine lv_aload_n hx hb d_CR_closeAt_142 rfl (lv_at hl 1 rfl) ?_
                        refine va_get (D := (dC, dI)) (ci := 5) (v := .ref (a 29)) (C := R_CR) (T := F_CR) (N := 7) hx hb hts in_CR hown hK hP 5 rfl rfl 2 (by decide) (hts (.fieldLink R_CR 15 R_CR "nextStep" "[I") (tm 193 rfl)) (fun _ h9 => h9) rfl d_CR_closeAt_143 ?_
                        refine lv_iload hx hb d_CR_closeAt_146 (lv_at hl 6 rfl) ?_
                        obtain ⟨hin, hw⟩ := hw
                        refine va_iald hx hb hK hP 29 0 rfl rfl hin d_CR_closeAt_148 ?_
                        refine lv_topi (fun v_50 ev_50 => ?_)
                        have hw := hw v_50 ev_50
                        refine lv_istore (lv' := [(5, .int v_50), (7, .int v_46), (0, .ref (a 5)), (1, .int x1), (2, .int y2_43), (3, .int y3_37), (4, .int v_41), (6, .int y6_43)]) hx hb d_CR_closeAt_149 hl (by decide) rfl (fun ls hl => ?_)
                        refine lv_iinc (v := y6_43 + 1) (lv' := [(6, .int (y6_43 + 1)), (5, .int v_50), (7, .int v_46), (0, .ref (a 5)), (1, .int x1), (2, .int y2_43), (3, .int y3_37), (4, .int v_41)]) hx hb d_CR_closeAt_151 hl (k := 7) rfl rfl (by decide) rfl (fun ls hl => ?_)
                        refine lv_goto (tgt := 60) hx hb d_CR_closeAt_154 (by decide) ?_
                        exact ih_43 σ_43 y2_43 v_50 (y6_43 + 1) _ _ _ hw hP hD hS (lv_sub hl [3, 4, 5, 6, 7, 1, 0] rfl)
                      · have hw := hw.2 c_49
                        refine lv_aload_n hx hb d_CR_closeAt_102 rfl (lv_at hl 1 rfl) ?_
                        refine va_get (D := (dC, dI)) (ci := 5) (v := .ref (a 30)) (C := R_CR) (T := F_CR) (N := 7) hx hb hts in_CR hown hK hP 5 rfl rfl 3 (by decide) (hts (.fieldLink R_CR 18 R_CR "toClose" "[I") (tm 199 rfl)) (fun _ h9 => h9) rfl d_CR_closeAt_103 ?_
                        refine lv_iload hx hb d_CR_closeAt_106 (lv_at hl 0 rfl) ?_
                        refine lv_aload_n hx hb d_CR_closeAt_108 rfl (lv_at hl 1 rfl) ?_
                        refine va_get (D := (dC, dI)) (ci := 5) (v := .ref (a 30)) (C := R_CR) (T := F_CR) (N := 7) hx hb hts in_CR hown hK hP 5 rfl rfl 3 (by decide) (hts (.fieldLink R_CR 18 R_CR "toClose" "[I") (tm 199 rfl)) (fun _ h9 => h9) rfl d_CR_closeAt_109 ?_
                        refine lv_iload hx hb d_CR_closeAt_112 (lv_at hl 5 rfl) ?_
                        obtain ⟨hin, hw⟩ := hw
                        refine va_iald hx hb hK hP 30 0 rfl rfl hin d_CR_closeAt_114 ?_
                        refine lv_iconst (v := 1) hx hb d_CR_closeAt_115 (by decide) ?_
                        refine lv_iadd hx hb d_CR_closeAt_116 ?_
                        obtain ⟨hin, hw⟩ := hw
                        refine st_i (w := wC cI cZ a) hx hb hK hP hD hS 30 0 rfl rfl rfl hin d_CR_closeAt_117 (fun s_51 e_51 H locs hP hD hS => ?_)
                        have hw := hw s_51 e_51
                        refine lv_iload hx hb d_CR_closeAt_118 (lv_at hl 0 rfl) ?_
                        refine lv_iload_n hx hb d_CR_closeAt_120 rfl (lv_at hl 2 rfl) ?_
                        refine lv_icmp_eq (tgt := 142) hx hb d_CR_closeAt_121 (by decide) (fun c_52 => ?_) (fun c_52 => ?_)
                        · have hw := hw.1 c_52
                          refine lv_aload_n hx hb d_CR_closeAt_142 rfl (lv_at hl 1 rfl) ?_
                          refine va_get (D := (dC, dI)) (ci := 5) (v := .ref (a 29)) (C := R_CR) (T := F_CR) (N := 7) hx hb hts in_CR hown hK hP 5 rfl rfl 2 (by decide) (hts (.fieldLink R_CR 15 R_CR "nextStep" "[I") (tm 193 rfl)) (fun _ h9 => h9) rfl d_CR_closeAt_143 ?_
                          refine lv_iload hx hb d_CR_closeAt_146 (lv_at hl 6 rfl) ?_
                          obtain ⟨hin, hw⟩ := hw
                          refine va_iald hx hb hK hP 29 0 rfl rfl hin d_CR_closeAt_148 ?_
                          refine lv_topi (fun v_53 ev_53 => ?_)
                          have hw := hw v_53 ev_53
                          refine lv_istore (lv' := [(5, .int v_53), (7, .int v_46), (0, .ref (a 5)), (1, .int x1), (2, .int y2_43), (3, .int y3_37), (4, .int v_41), (6, .int y6_43)]) hx hb d_CR_closeAt_149 hl (by decide) rfl (fun ls hl => ?_)
                          refine lv_iinc (v := y6_43 + 1) (lv' := [(6, .int (y6_43 + 1)), (5, .int v_53), (7, .int v_46), (0, .ref (a 5)), (1, .int x1), (2, .int y2_43), (3, .int y3_37), (4, .int v_41)]) hx hb d_CR_closeAt_151 hl (k := 7) rfl rfl (by decide) rfl (fun ls hl => ?_)
                          refine lv_goto (tgt := 60) hx hb d_CR_closeAt_154 (by decide) ?_
                          exact ih_43 s_51 y2_43 v_53 (y6_43 + 1) _ _ _ hw hP hD hS (lv_sub hl [3, 4, 5, 6, 7, 1, 0] rfl)
                        · have hw := hw.2 c_52
                          refine lv_iload_n hx hb d_CR_closeAt_124 rfl (lv_at hl 3 rfl) ?_
                          refine lv_sipush (v := 160) hx hb d_CR_closeAt_125 (by decide) ?_
                          refine lv_icmp_ge (tgt := 142) hx hb d_CR_closeAt_128 (by decide) (fun c_54 => ?_) (fun c_54 => ?_)
                          · have hw := hw.1 c_54
                            refine lv_aload_n hx hb d_CR_closeAt_142 rfl (lv_at hl 1 rfl) ?_
                            refine va_get (D := (dC, dI)) (ci := 5) (v := .ref (a 29)) (C := R_CR) (T := F_CR) (N := 7) hx hb hts in_CR hown hK hP 5 rfl rfl 2 (by decide) (hts (.fieldLink R_CR 15 R_CR "nextStep" "[I") (tm 193 rfl)) (fun _ h9 => h9) rfl d_CR_closeAt_143 ?_
                            refine lv_iload hx hb d_CR_closeAt_146 (lv_at hl 6 rfl) ?_
                            obtain ⟨hin, hw⟩ := hw
                            refine va_iald hx hb hK hP 29 0 rfl rfl hin d_CR_closeAt_148 ?_
                            refine lv_topi (fun v_55 ev_55 => ?_)
                            have hw := hw v_55 ev_55
                            refine lv_istore (lv' := [(5, .int v_55), (7, .int v_46), (0, .ref (a 5)), (1, .int x1), (2, .int y2_43), (3, .int y3_37), (4, .int v_41), (6, .int y6_43)]) hx hb d_CR_closeAt_149 hl (by decide) rfl (fun ls hl => ?_)
                            refine lv_iinc (v := y6_43 + 1) (lv' := [(6, .int (y6_43 + 1)), (5, .int v_55), (7, .int v_46), (0, .ref (a 5)), (1, .int x1), (2, .int y2_43), (3, .int y3_37), (4, .int v_41)]) hx hb d_CR_closeAt_151 hl (k := 7) rfl rfl (by decide) rfl (fun ls hl => ?_)
                            refine lv_goto (tgt := 60) hx hb d_CR_closeAt_154 (by decide) ?_
                            exact ih_43 s_51 y2_43 v_55 (y6_43 + 1) _ _ _ hw hP hD hS (lv_sub hl [3, 4, 5, 6, 7, 1, 0] rfl)
                          · have hw := hw.2 c_54
                            refine lv_aload_n hx hb d_CR_closeAt_131 rfl (lv_at hl 1 rfl) ?_
                            refine va_get (D := (dC, dI)) (ci := 5) (v := .ref (a 31)) (C := R_CR) (T := F_CR) (N := 7) hx hb hts in_CR hown hK hP 5 rfl rfl 4 (by decide) (hts (.fieldLink R_CR 21 R_CR "reached" "[I") (tm 200 rfl)) (fun _ h9 => h9) rfl d_CR_closeAt_132 ?_
                            refine lv_iload_n hx hb d_CR_closeAt_135 rfl (lv_at hl 3 rfl) ?_
                            refine lv_iload hx hb d_CR_closeAt_136 (lv_at hl 0 rfl) ?_
                            obtain ⟨hin, hw⟩ := hw
                            refine st_i (w := wC cI cZ a) hx hb hK hP hD hS 31 0 rfl rfl rfl hin d_CR_closeAt_138 (fun s_56 e_56 H locs hP hD hS => ?_)
                            have hw := hw s_56 e_56
                            refine lv_iinc (v := y2_43 + 1) (lv' := [(2, .int (y2_43 + 1)), (7, .int v_46), (0, .ref (a 5)), (1, .int x1), (3, .int y3_37), (4, .int v_41), (5, .int y5_43), (6, .int y6_43)]) hx hb d_CR_closeAt_139 hl (k := 3) rfl rfl (by decide) rfl (fun ls hl => ?_)
                            refine lv_aload_n hx hb d_CR_closeAt_142 rfl (lv_at hl 2 rfl) ?_
                            refine va_get (D := (dC, dI)) (ci := 5) (v := .ref (a 29)) (C := R_CR) (T := F_CR) (N := 7) hx hb hts in_CR hown hK hP 5 rfl rfl 2 (by decide) (hts (.fieldLink R_CR 15 R_CR "nextStep" "[I") (tm 193 rfl)) (fun _ h9 => h9) rfl d_CR_closeAt_143 ?_
                            refine lv_iload hx hb d_CR_closeAt_146 (lv_at hl 6 rfl) ?_
                            obtain ⟨hin, hw⟩ := hw
                            refine va_iald hx hb hK hP 29 0 rfl rfl hin d_CR_closeAt_148 ?_
                            refine lv_topi (fun v_57 ev_57 => ?_)
                            have hw := hw v_57 ev_57
                            refine lv_istore (lv' := [(5, .int v_57), (2, .int (y2_43 + 1)), (7, .int v_46), (0, .ref (a 5)), (1, .int x1), (3, .int y3_37), (4, .int v_41), (6, .int y6_43)]) hx hb d_CR_closeAt_149 hl (by decide) rfl (fun ls hl => ?_)
                            refine lv_iinc (v := y6_43 + 1) (lv' := [(6, .int (y6_43 + 1)), (5, .int v_57), (2, .int (y2_43 + 1)), (7, .int v_46), (0, .ref (a 5)), (1, .int x1), (3, .int y3_37), (4, .int v_41)]) hx hb d_CR_closeAt_151 hl (k := 7) rfl rfl (by decide) rfl (fun ls hl => ?_)
                            refine lv_goto (tgt := 60) hx hb d_CR_closeAt_154 (by decide) ?_
                            exact ih_43 s_56 (y2_43 + 1) v_57 (y6_43 + 1) _ _ _ hw hP hD hS (lv_sub hl [4, 5, 2, 6, 7, 1, 0] rfl)
            exact lp_43 k_43 σ_37 y2_37 v_42 0 _ _ _ hw hP hD hS (lv_sub hl [3, 4, 5, 6, 2, 1, 0] rfl)
  exact lp_37 k_37 s_2 1 0 _ _ _ hw hP hD hS (lv_sub hl [2, 3, 1, 0] rfl)
set_option maxHeartbeats 4000000 in
set_option maxRecDepth 100000 in
theorem c_CR_search (l : Launch) (dC : Nat → ClassId) (dI : Nat → Nat → Nat) (cI cZ : ClassId) (a : Nat → Nat) (sz : Nat) (σ : SS) (post : SS → Prop) (hw : wp_CR_search σ post) : Met l y_CR_search (.code y_CR_search b_CR_search 3 none :: TT) { frames := 3, cells := 0, slots := 0, locals := 68 } (pW (dC, dI) clsT (tyT cI cZ) [.ref (a 5)] sz (wC cI cZ a σ)) (va_Qv post (bW (dC, dI) clsT (tyT cI cZ) (wC cI cZ a) (va_A (wC cI cZ a σ) sz)) (va_A (wC cI cZ a σ) sz)) 0 0 (va_A (wC cI cZ a σ) sz) := by
  refine hd (Qf := fun A => (va_Qv post (bW (dC, dI) clsT (tyT cI cZ) (wC cI cZ a) A) A)) (by decide) (Nat.le_of_ble_eq_true rfl) ?_
  intro p e s m below meth c A ls hx hb hr hts hown hlocks hml hK hP hD hS hA hl
  have hown : s.vm.findClass R_CR = some m.cls := hown
  have hl : lv_has ls 3 [(0, .ref (a 5))] := hl
  rw [wp_CR_search] at hw
  refine lv_aload_n hx hb d_CR_search_0 rfl (lv_at hl 0 rfl) ?_
  refine cl_v (va_runV (As := []) (rest := []) ⟨hx, hb, hml, hown, hts⟩ (c_CR_gatherSteps l dC dI cI cZ a _ σ _ hw) (cwV 0 hts (gi_V (tm 209 rfl) (tm 210 rfl) (tm 211 rfl) (tm 197 rfl) (tm 212 rfl)) rfl rfl rfl (by decide +kernel) ⟨Nat.le_of_ble_eq_true rfl, Nat.le_of_ble_eq_true rfl⟩) (pW_V hK hP hD (ci := 5) (k := 5) rfl rfl) rfl rfl hl.1 rfl (lv_room (Nat.le_of_ble_eq_true rfl)) d_CR_search_1 ⟨Nat.zero_le _, Nat.zero_le _⟩) hD hS hA (fun σ_1 H locs hw hP hD hS => ?_)
  refine lv_aload_n hx hb d_CR_search_4 rfl (lv_at hl 0 rfl) ?_
  refine lv_iconst (v := (-1)) hx hb d_CR_search_5 (by decide) ?_
  refine st_f (D := (dC, dI)) (w := wC cI cZ a) (ci := 5) (C := R_CR) (T := F_CR) (N := 7) hx hb hts in_CR t_CR t_CR_ok n_CR hown hK hP hD hS 5 rfl rfl 5 (by decide) (hts (.fieldLink R_CR 31 R_CR "start" "I") (tm 202 rfl)) (fun _ h9 => h9) rfl (by decide +kernel) (Nat.le_of_ble_eq_true rfl) rfl d_CR_search_6 (fun s_2 e_2 H locs hP hD hS => ?_)
  have hw := hw s_2 e_2
  refine lv_aload_n hx hb d_CR_search_9 rfl (lv_at hl 0 rfl) ?_
  refine lv_iconst (v := 0) hx hb d_CR_search_10 (by decide) ?_
  refine st_f (D := (dC, dI)) (w := wC cI cZ a) (ci := 5) (C := R_CR) (T := F_CR) (N := 7) hx hb hts in_CR t_CR t_CR_ok n_CR hown hK hP hD hS 5 rfl rfl 6 (by decide) (hts (.fieldLink R_CR 35 R_CR "length" "I") (tm 203 rfl)) (fun _ h9 => h9) rfl (by decide +kernel) (Nat.le_of_ble_eq_true rfl) rfl d_CR_search_11 (fun s_3 e_3 H locs hP hD hS => ?_)
  have hw := hw s_3 e_3
  refine lv_iconst (v := 0) hx hb d_CR_search_14 (by decide) ?_
  refine lv_istore_n (lv' := [(1, .int 0), (0, .ref (a 5))]) hx hb d_CR_search_15 rfl hl (by decide) rfl (fun ls hl => ?_)
  obtain ⟨k_13, hw⟩ := hw
  have hE_13 : ∀ (σ_13 : SS) (y1_13 : Int32) (H : Heap) (locs : List Loc) (ls : Array Slot), we_CR_search_70 σ_13 post → va_P (dC, dI) clsT (wC cI cZ a σ_13) H → va_D A (wC cI cZ a σ_13) → va_S A s.heap H locs → lv_has ls 3 [] → W p l e { frames := 3, cells := 0, slots := 0, locals := 68 } s m ([.ref (a 5)] : List Value).toArray below meth c H locs 0 0 (MQ below (va_Qv post (bW (dC, dI) clsT (tyT cI cZ) (wC cI cZ a) A) A) ([.ref (a 5)] : List Value).toArray s 0 0 A) (F0 m 70 ls []) := by
    intro σ_13 y1_13 H locs ls hw hP hD hS hl
    rw [we_CR_search_70] at hw
    exact rt_v (w := wC cI cZ a) hx hb hr hlocks hK hP hD hS d_CR_search_70 hw
  have lp_13 : ∀ (kf_13 : Nat) (σ_13 : SS) (y1_13 : Int32) (H : Heap) (locs : List Loc) (ls : Array Slot), wl_CR_search_16 (fun σ' y1 => we_CR_search_70 σ' post) post kf_13 σ_13 y1_13 → va_P (dC, dI) clsT (wC cI cZ a σ_13) H → va_D A (wC cI cZ a σ_13) → va_S A s.heap H locs → lv_has ls 3 [(0, .ref (a 5)), (1, .int y1_13)] → W p l e { frames := 3, cells := 0, slots := 0, locals := 68 } s m ([.ref (a 5)] : List Value).toArray below meth c H locs 0 0 (MQ below (va_Qv post (bW (dC, dI) clsT (tyT cI cZ) (wC cI cZ a) A) A) ([.ref (a 5)] : List Value).toArray s 0 0 A) (F0 m 16 ls []) := by
    intro kf_13
    induction kf_13 with
    | zero => intro σ_13 y1_13 H locs ls hw; rw [wl_CR_search_16] at hw; exact hw.elim
    | succ kf_13 ih_13 =>
      intro σ_13 y1_13 H locs ls hw hP hD hS hl
      rw [wl_CR_search_16] at hw
      refine lv_iload_n hx hb d_CR_search_16 rfl (lv_at hl 1 rfl) ?_
      refine lv_aload_n hx hb d_CR_search_17 rfl (lv_at hl 0 rfl) ?_
      refine va_get (D := (dC, dI)) (ci := 5) (v := .ref (a 1)) (C := R_CR) (T := F_CR) (N := 7) hx hb hts in_CR hown hK hP 5 rfl rfl 0 (by decide) (hts (.fieldLink R_CR 24 R_CR "plan" "LNetRoutes$Plan;") (tm 187 rfl)) (fun _ h9 => h9) rfl d_CR_search_18 ?_
      refine va_get (D := (dC, dI)) (ci := 1) (v := .int (σ_13 1 1)) (C := R_CP) (T := F_CP) (N := 8) hx hb hts in_CP hown hK hP 1 rfl rfl 1 (by decide) (hts (.fieldLink R_CR 38 R_CP "links" "I") (tm 204 rfl)) (fun _ h9 => h9) rfl d_CR_search_21 ?_
      refine lv_iconst (v := 4) hx hb d_CR_search_24 (by decide) ?_
      refine lv_imul hx hb d_CR_search_25 ?_
      refine lv_icmp_ge (tgt := 70) hx hb d_CR_search_26 (by decide) (fun c_14 => ?_) (fun c_14 => ?_)
      · have hw := hw.1 c_14
        exact hE_13 σ_13 y1_13 _ _ _ hw hP hD hS (lv_sub hl [] rfl)
      · have hw := hw.2 c_14
        refine lv_aload_n hx hb d_CR_search_29 rfl (lv_at hl 0 rfl) ?_
        refine lv_iload_n hx hb d_CR_search_30 rfl (lv_at hl 1 rfl) ?_
        refine cl_i (va_runV (As := [.int y1_13]) (rest := []) ⟨hx, hb, hml, hown, hts⟩ (c_CR_closeAt l dC dI cI cZ a _ σ_13 y1_13 _ hw) (cwV 1 hts (gi_V (tm 205 rfl) (tm 206 rfl) (tm 207 rfl) (tm 197 rfl) (tm 208 rfl)) rfl rfl rfl (by decide +kernel) ⟨Nat.le_of_ble_eq_true rfl, Nat.le_of_ble_eq_true rfl⟩) (pW_V hK hP hD (ci := 5) (k := 5) rfl rfl) rfl rfl hl.1 rfl (lv_room (Nat.le_of_ble_eq_true rfl)) d_CR_search_31 ⟨Nat.zero_le _, Nat.zero_le _⟩) hD hS hA (fun r_15 σ_15 H locs hw hP hD hS => ?_)
        refine lv_istore_n (lv' := [(2, .int r_15), (0, .ref (a 5)), (1, .int y1_13)]) hx hb d_CR_search_34 rfl hl (by decide) rfl (fun ls hl => ?_)
        refine lv_iload_n hx hb d_CR_search_35 rfl (lv_at hl 0 rfl) ?_
        refine lv_if_eq (tgt := 64) hx hb d_CR_search_36 (by decide) (fun c_16 => ?_) (fun c_16 => ?_)
        · have hw := hw.1 c_16
          refine lv_iinc (v := y1_13 + 1) (lv' := [(1, .int (y1_13 + 1)), (2, .int r_15), (0, .ref (a 5))]) hx hb d_CR_search_64 hl (k := 2) rfl rfl (by decide) rfl (fun ls hl => ?_)
          refine lv_goto (tgt := 16) hx hb d_CR_search_67 (by decide) ?_
          exact ih_13 σ_15 (y1_13 + 1) _ _ _ hw hP hD hS (lv_sub hl [2, 0] rfl)
        · have hw := hw.2 c_16
          refine lv_aload_n hx hb d_CR_search_39 rfl (lv_at hl 1 rfl) ?_
          refine va_get (D := (dC, dI)) (ci := 5) (v := .int (σ_15 5 6)) (C := R_CR) (T := F_CR) (N := 7) hx hb hts in_CR hown hK hP 5 rfl rfl 6 (by decide) (hts (.fieldLink R_CR 35 R_CR "length" "I") (tm 203 rfl)) (fun _ h9 => h9) rfl d_CR_search_40 ?_
          refine lv_if_eq (tgt := 54) hx hb d_CR_search_43 (by decide) (fun c_17 => ?_) (fun c_17 => ?_)
          · have hw := hw.1 c_17
            refine lv_aload_n hx hb d_CR_search_54 rfl (lv_at hl 1 rfl) ?_
            refine lv_iload_n hx hb d_CR_search_55 rfl (lv_at hl 2 rfl) ?_
            refine st_f (D := (dC, dI)) (w := wC cI cZ a) (ci := 5) (C := R_CR) (T := F_CR) (N := 7) hx hb hts in_CR t_CR t_CR_ok n_CR hown hK hP hD hS 5 rfl rfl 5 (by decide) (hts (.fieldLink R_CR 31 R_CR "start" "I") (tm 202 rfl)) (fun _ h9 => h9) rfl (by decide +kernel) (Nat.le_of_ble_eq_true rfl) rfl d_CR_search_56 (fun s_18 e_18 H locs hP hD hS => ?_)
            have hw := hw s_18 e_18
            refine lv_aload_n hx hb d_CR_search_59 rfl (lv_at hl 1 rfl) ?_
            refine lv_iload_n hx hb d_CR_search_60 rfl (lv_at hl 0 rfl) ?_
            refine st_f (D := (dC, dI)) (w := wC cI cZ a) (ci := 5) (C := R_CR) (T := F_CR) (N := 7) hx hb hts in_CR t_CR t_CR_ok n_CR hown hK hP hD hS 5 rfl rfl 6 (by decide) (hts (.fieldLink R_CR 35 R_CR "length" "I") (tm 203 rfl)) (fun _ h9 => h9) rfl (by decide +kernel) (Nat.le_of_ble_eq_true rfl) rfl d_CR_search_61 (fun s_19 e_19 H locs hP hD hS => ?_)
            have hw := hw s_19 e_19
            refine lv_iinc (v := y1_13 + 1) (lv' := [(1, .int (y1_13 + 1)), (2, .int r_15), (0, .ref (a 5))]) hx hb d_CR_search_64 hl (k := 2) rfl rfl (by decide) rfl (fun ls hl => ?_)
            refine lv_goto (tgt := 16) hx hb d_CR_search_67 (by decide) ?_
            exact ih_13 s_19 (y1_13 + 1) _ _ _ hw hP hD hS (lv_sub hl [2, 0] rfl)
          · have hw := hw.2 c_17
            refine lv_iload_n hx hb d_CR_search_46 rfl (lv_at hl 0 rfl) ?_
            refine lv_aload_n hx hb d_CR_search_47 rfl (lv_at hl 1 rfl) ?_
            refine va_get (D := (dC, dI)) (ci := 5) (v := .int (σ_15 5 6)) (C := R_CR) (T := F_CR) (N := 7) hx hb hts in_CR hown hK hP 5 rfl rfl 6 (by decide) (hts (.fieldLink R_CR 35 R_CR "length" "I") (tm 203 rfl)) (fun _ h9 => h9) rfl d_CR_search_48 ?_
            refine lv_icmp_ge (tgt := 64) hx hb d_CR_search_51 (by decide) (fun c_20 => ?_) (fun c_20 => ?_)
            · have hw := hw.1 c_20
              refine lv_iinc (v := y1_13 + 1) (lv' := [(1, .int (y1_13 + 1)), (2, .int r_15), (0, .ref (a 5))]) hx hb d_CR_search_64 hl (k := 2) rfl rfl (by decide) rfl (fun ls hl => ?_)
              refine lv_goto (tgt := 16) hx hb d_CR_search_67 (by decide) ?_
              exact ih_13 σ_15 (y1_13 + 1) _ _ _ hw hP hD hS (lv_sub hl [2, 0] rfl)
            · have hw := hw.2 c_20
              refine lv_aload_n hx hb d_CR_search_54 rfl (lv_at hl 1 rfl) ?_
              refine lv_iload_n hx hb d_CR_search_55 rfl (lv_at hl 2 rfl) ?_
              refine st_f (D := (dC, dI)) (w := wC cI cZ a) (ci := 5) (C := R_CR) (T := F_CR) (N := 7) hx hb hts in_CR t_CR t_CR_ok n_CR hown hK hP hD hS 5 rfl rfl 5 (by decide) (hts (.fieldLink R_CR 31 R_CR "start" "I") (tm 202 rfl)) (fun _ h9 => h9) rfl (by decide +kernel) (Nat.le_of_ble_eq_true rfl) rfl d_CR_search_56 (fun s_21 e_21 H locs hP hD hS => ?_)
              have hw := hw s_21 e_21
              refine lv_aload_n hx hb d_CR_search_59 rfl (lv_at hl 1 rfl) ?_
              refine lv_iload_n hx hb d_CR_search_60 rfl (lv_at hl 0 rfl) ?_
              refine st_f (D := (dC, dI)) (w := wC cI cZ a) (ci := 5) (C := R_CR) (T := F_CR) (N := 7) hx hb hts in_CR t_CR t_CR_ok n_CR hown hK hP hD hS 5 rfl rfl 6 (by decide) (hts (.fieldLink R_CR 35 R_CR "length" "I") (tm 203 rfl)) (fun _ h9 => h9) rfl (by decide +kernel) (Nat.le_of_ble_eq_true rfl) rfl d_CR_search_61 (fun s_22 e_22 H locs hP hD hS => ?_)
              have hw := hw s_22 e_22
              refine lv_iinc (v := y1_13 + 1) (lv' := [(1, .int (y1_13 + 1)), (2, .int r_15), (0, .ref (a 5))]) hx hb d_CR_search_64 hl (k := 2) rfl rfl (by decide) rfl (fun ls hl => ?_)
              refine lv_goto (tgt := 16) hx hb d_CR_search_67 (by decide) ?_
              exact ih_13 s_22 (y1_13 + 1) _ _ _ hw hP hD hS (lv_sub hl [2, 0] rfl)
  exact lp_13 k_13 s_3 0 _ _ _ hw hP hD hS (lv_sub hl [1, 0] rfl)
set_option maxHeartbeats 4000000 in
set_option maxRecDepth 100000 in
theorem c_CN_ring (l : Launch) (dC : Nat → ClassId) (dI : Nat → Nat → Nat) (cI cZ : ClassId) (a : Nat → Nat) (sz : Nat) (σ : SS) (post : Int32 → SS → Prop) (hw : wp_CN_ring σ post) : Met l y_CN_ring (.code y_CN_ring b_CN_ring 1 (some .int) :: TT) { frames := 4, cells := 0, slots := 0, locals := 90 } (pW (dC, dI) clsT (tyT cI cZ) [.ref (a 0)] sz (wC cI cZ a σ)) (va_Qi post (bW (dC, dI) clsT (tyT cI cZ) (wC cI cZ a) (va_A (wC cI cZ a σ) sz)) (va_A (wC cI cZ a σ) sz)) 0 0 (va_A (wC cI cZ a σ) sz) := by
  refine hd (Qf := fun A => (va_Qi post (bW (dC, dI) clsT (tyT cI cZ) (wC cI cZ a) A) A)) (by decide) (Nat.le_of_ble_eq_true rfl) ?_
  intro p e s m below meth c A ls hx hb hr hts hown hlocks hml hK hP hD hS hA hl
  have hown : s.vm.findClass R_CN = some m.cls := hown
  have hl : lv_has ls 1 [(0, .ref (a 0))] := hl
  rw [wp_CN_ring] at hw
  refine lv_aload_n hx hb d_CN_ring_0 rfl (lv_at hl 0 rfl) ?_
  refine va_get (D := (dC, dI)) (ci := 0) (v := .ref (a 5)) (C := R_CN) (T := F_CN) (N := 6) hx hb hts in_CN hown hK hP 0 rfl rfl 4 (by decide) (hts (.fieldLink R_CN 50 R_CN "rings" "LNetRoutes$Rings;") (tm 213 rfl)) (fun _ h9 => h9) rfl d_CN_ring_1 ?_
  refine cl_v (va_runV (As := []) (rest := []) ⟨hx, hb, hml, hown, hts⟩ (c_CR_search l dC dI cI cZ a _ σ _ hw) (cwV 0 hts (gi_V (tm 215 rfl) (tm 216 rfl) (tm 217 rfl) (tm 197 rfl) (tm 218 rfl)) rfl rfl rfl (by decide +kernel) ⟨Nat.le_of_ble_eq_true rfl, Nat.le_of_ble_eq_true rfl⟩) (pW_V hK hP hD (ci := 5) (k := 5) rfl rfl) rfl rfl hl.1 rfl (lv_room (Nat.le_of_ble_eq_true rfl)) d_CN_ring_4 ⟨Nat.zero_le _, Nat.zero_le _⟩) hD hS hA (fun σ_1 H locs hw hP hD hS => ?_)
  refine lv_aload_n hx hb d_CN_ring_7 rfl (lv_at hl 0 rfl) ?_
  refine va_get (D := (dC, dI)) (ci := 0) (v := .ref (a 5)) (C := R_CN) (T := F_CN) (N := 6) hx hb hts in_CN hown hK hP 0 rfl rfl 4 (by decide) (hts (.fieldLink R_CN 50 R_CN "rings" "LNetRoutes$Rings;") (tm 213 rfl)) (fun _ h9 => h9) rfl d_CN_ring_8 ?_
  refine va_get (D := (dC, dI)) (ci := 5) (v := .int (σ_1 5 6)) (C := R_CR) (T := F_CR) (N := 7) hx hb hts in_CR hown hK hP 5 rfl rfl 6 (by decide) (hts (.fieldLink R_CN 200 R_CR "length" "I") (tm 214 rfl)) (fun _ h9 => h9) rfl d_CN_ring_11 ?_
  exact rt_i (w := wC cI cZ a) hx hb hr hlocks hK hP hD hS d_CN_ring_14 hw
set_option maxHeartbeats 4000000 in
set_option maxRecDepth 100000 in
theorem c_CR_lowestThatCloses (l : Launch) (dC : Nat → ClassId) (dI : Nat → Nat → Nat) (cI cZ : ClassId) (a : Nat → Nat) (sz : Nat) (σ : SS) (x1 : Int32) (x2 : Int32) (post : Int32 → Prop) (hw : wp_CR_lowestThatCloses σ x1 x2 post) : Met l y_CR_lowestThatCloses (.code y_CR_lowestThatCloses b_CR_lowestThatCloses 7 (some .int) :: TT) { frames := 2, cells := 0, slots := 0, locals := 44 } (pW (dC, dI) clsT (tyT cI cZ) [.ref (a 5), .int x1, .int x2] sz (wC cI cZ a σ)) (va_Qi (fun r (_ : Unit) => post r) (fun _ _ => True) (fun q => sz ≤ q)) 0 0 (fun q => sz ≤ q) := by
  refine hdr (Qf := fun A => (va_Qi (fun r (_ : Unit) => post r) (fun _ _ => True) A)) (by decide) (Nat.le_of_ble_eq_true rfl) ?_
  intro p e s m below meth c A ls hx hb hr hts hown hlocks hml hK hP hD hS hA hl
  have hown : s.vm.findClass R_CR = some m.cls := hown
  have hl : lv_has ls 7 [(0, .ref (a 5)), (1, .int x1), (2, .int x2)] := hl
  rw [wp_CR_lowestThatCloses] at hw
  refine lv_aload_n hx hb d_CR_lowestThatCloses_0 rfl (lv_at hl 0 rfl) ?_
  refine va_get (D := (dC, dI)) (ci := 5) (v := .ref (a 1)) (C := R_CR) (T := F_CR) (N := 7) hx hb hts in_CR hown hK hP 5 rfl rfl 0 (by decide) (hts (.fieldLink R_CR 24 R_CR "plan" "LNetRoutes$Plan;") (tm 187 rfl)) (fun _ h9 => h9) rfl d_CR_lowestThatCloses_1 ?_
  refine lv_iload_n hx hb d_CR_lowestThatCloses_4 rfl (lv_at hl 1 rfl) ?_
  refine cl_r (va_runV (As := [.int x1]) (rest := []) ⟨hx, hb, hml, hown, hts⟩ (c_CP_beginOf l dC dI cI cZ a _ σ x1 _ hw) (cwV 1 hts (gi_V (tm 219 rfl) (tm 17 rfl) (tm 18 rfl) (tm 4 rfl) (tm 19 rfl)) rfl rfl rfl (by decide +kernel) ⟨Nat.le_of_ble_eq_true rfl, Nat.le_of_ble_eq_true rfl⟩) (pW_V hK hP hD (ci := 1) (k := 1) rfl rfl) rfl rfl hl.1 rfl (lv_room (Nat.le_of_ble_eq_true rfl)) d_CR_lowestThatCloses_5 ⟨Nat.zero_le _, Nat.zero_le _⟩) hP hS hA (fun r_1 H locs hw hP hT => ?_)
  have hS := hT _ hA hS
  refine lv_istore_n (lv' := [(3, .int r_1), (0, .ref (a 5)), (1, .int x1), (2, .int x2)]) hx hb d_CR_lowestThatCloses_8 rfl hl (by decide) rfl (fun ls hl => ?_)
  refine lv_iconst (v := (-1)) hx hb d_CR_lowestThatCloses_9 (by decide) ?_
  refine lv_istore (lv' := [(4, .int (-1)), (3, .int r_1), (0, .ref (a 5)), (1, .int x1), (2, .int x2)]) hx hb d_CR_lowestThatCloses_10 hl (by decide) rfl (fun ls hl => ?_)
  refine lv_iconst (v := 0) hx hb d_CR_lowestThatCloses_12 (by decide) ?_
  refine lv_istore (lv' := [(5, .int 0), (4, .int (-1)), (3, .int r_1), (0, .ref (a 5)), (1, .int x1), (2, .int x2)]) hx hb d_CR_lowestThatCloses_13 hl (by decide) rfl (fun ls hl => ?_)
  obtain ⟨k_10, hw⟩ := hw
  have hE_10 : ∀ (y4_10 : Int32) (y5_10 : Int32) (H : Heap) (locs : List Loc) (ls : Array Slot), we_CR_lowestThatCloses_90 σ y4_10 post → va_P (dC, dI) clsT (wC cI cZ a σ) H → va_S A s.heap H locs → lv_has ls 7 [(4, .int y4_10)] → W p l e { frames := 2, cells := 0, slots := 0, locals := 44 } s m ([.ref (a 5), .int x1, .int x2] : List Value).toArray below meth c H locs 0 0 (MQ below (va_Qi (fun r (_ : Unit) => post r) (fun _ _ => True) A) ([.ref (a 5), .int x1, .int x2] : List Value).toArray s 0 0 A) (F0 m 90 ls []) := by
    intro y4_10 y5_10 H locs ls hw hP hS hl
    rw [we_CR_lowestThatCloses_90] at hw
    refine lv_iload hx hb d_CR_lowestThatCloses_90 (lv_at hl 0 rfl) ?_
    exact rr_i hx hb hr hlocks hS d_CR_lowestThatCloses_92 hw
  have lp_10 : ∀ (kf_10 : Nat) (y4_10 : Int32) (y5_10 : Int32) (H : Heap) (locs : List Loc) (ls : Array Slot), wl_CR_lowestThatCloses_15 σ x1 x2 r_1 (fun y4 y5 => we_CR_lowestThatCloses_90 σ y4 post) post kf_10 y4_10 y5_10 → va_P (dC, dI) clsT (wC cI cZ a σ) H → va_S A s.heap H locs → lv_has ls 7 [(0, .ref (a 5)), (1, .int x1), (2, .int x2), (3, .int r_1), (4, .int y4_10), (5, .int y5_10)] → W p l e { frames := 2, cells := 0, slots := 0, locals := 44 } s m ([.ref (a 5), .int x1, .int x2] : List Value).toArray below meth c H locs 0 0 (MQ below (va_Qi (fun r (_ : Unit) => post r) (fun _ _ => True) A) ([.ref (a 5), .int x1, .int x2] : List Value).toArray s 0 0 A) (F0 m 15 ls []) := by
    intro kf_10
    induction kf_10 with
    | zero => intro y4_10 y5_10 H locs ls hw; rw [wl_CR_lowestThatCloses_15] at hw; exact hw.elim
    | succ kf_10 ih_10 =>
      intro y4_10 y5_10 H locs ls hw hP hS hl
      rw [wl_CR_lowestThatCloses_15] at hw
      refine lv_iload hx hb d_CR_lowestThatCloses_15 (lv_at hl 5 rfl) ?_
      refine lv_aload_n hx hb d_CR_lowestThatCloses_17 rfl (lv_at hl 0 rfl) ?_
      refine va_get (D := (dC, dI)) (ci := 5) (v := .ref (a 1)) (C := R_CR) (T := F_CR) (N := 7) hx hb hts in_CR hown hK hP 5 rfl rfl 0 (by decide) (hts (.fieldLink R_CR 24 R_CR "plan" "LNetRoutes$Plan;") (tm 187 rfl)) (fun _ h9 => h9) rfl d_CR_lowestThatCloses_18 ?_
      refine va_get (D := (dC, dI)) (ci := 1) (v := .int (σ 1 0)) (C := R_CP) (T := F_CP) (N := 8) hx hb hts in_CP hown hK hP 1 rfl rfl 0 (by decide) (hts (.fieldLink R_CR 53 R_CP "nodes" "I") (tm 192 rfl)) (fun _ h9 => h9) rfl d_CR_lowestThatCloses_21 ?_
      refine lv_icmp_ge (tgt := 90) hx hb d_CR_lowestThatCloses_24 (by decide) (fun c_11 => ?_) (fun c_11 => ?_)
      · have hw := hw.1 c_11
        exact hE_10 y4_10 y5_10 _ _ _ hw hP hS (lv_sub hl [4] rfl)
      · have hw := hw.2 c_11
        refine lv_aload_n hx hb d_CR_lowestThatCloses_27 rfl (lv_at hl 0 rfl) ?_
        refine va_get (D := (dC, dI)) (ci := 5) (v := .ref (a 1)) (C := R_CR) (T := F_CR) (N := 7) hx hb hts in_CR hown hK hP 5 rfl rfl 0 (by decide) (hts (.fieldLink R_CR 24 R_CR "plan" "LNetRoutes$Plan;") (tm 187 rfl)) (fun _ h9 => h9) rfl d_CR_lowestThatCloses_28 ?_
        refine lv_iload_n hx hb d_CR_lowestThatCloses_31 rfl (lv_at hl 3 rfl) ?_
        refine lv_iload hx hb d_CR_lowestThatCloses_32 (lv_at hl 5 rfl) ?_
        refine cl_r (va_runV (As := [.int r_1, .int y5_10]) (rest := []) ⟨hx, hb, hml, hown, hts⟩ (c_CP_wayAt l dC dI cI cZ a _ σ r_1 y5_10 _ hw) (cwV 2 hts (gi_V (tm 188 rfl) (tm 80 rfl) (tm 81 rfl) (tm 4 rfl) (tm 82 rfl)) rfl rfl rfl (by decide +kernel) ⟨Nat.le_of_ble_eq_true rfl, Nat.le_of_ble_eq_true rfl⟩) (pW_V hK hP hD (ci := 1) (k := 1) rfl rfl) rfl rfl hl.1 rfl (lv_room (Nat.le_of_ble_eq_true rfl)) d_CR_lowestThatCloses_34 ⟨Nat.zero_le _, Nat.zero_le _⟩) hP hS hA (fun r_12 H locs hw hP hT => ?_)
        have hS := hT _ hA hS
        refine lv_iload_n hx hb d_CR_lowestThatCloses_37 rfl (lv_at hl 1 rfl) ?_
        refine lv_icmp_ne (tgt := 84) hx hb d_CR_lowestThatCloses_38 (by decide) (fun c_13 => ?_) (fun c_13 => ?_)
        · have hw := hw.1 c_13
          refine lv_iinc (v := y5_10 + 1) (lv' := [(5, .int (y5_10 + 1)), (0, .ref (a 5)), (1, .int x1), (2, .int x2), (3, .int r_1), (4, .int y4_10)]) hx hb d_CR_lowestThatCloses_84 hl (k := 5) rfl rfl (by decide) rfl (fun ls hl => ?_)
          refine lv_goto (tgt := 15) hx hb d_CR_lowestThatCloses_87 (by decide) ?_
          exact ih_10 y4_10 (y5_10 + 1) _ _ _ hw hP hS (lv_sub hl [1, 2, 3, 4, 5, 0] rfl)
        · have hw := hw.2 c_13
          refine lv_aload_n hx hb d_CR_lowestThatCloses_41 rfl (lv_at hl 0 rfl) ?_
          refine lv_iload_n hx hb d_CR_lowestThatCloses_42 rfl (lv_at hl 1 rfl) ?_
          refine lv_iload hx hb d_CR_lowestThatCloses_43 (lv_at hl 5 rfl) ?_
          refine cl_r (va_runV (As := [.int x1, .int y5_10]) (rest := []) ⟨hx, hb, hml, hown, hts⟩ (c_CR_channelAfter l dC dI cI cZ a _ σ x1 y5_10 _ hw) (cwV 2 hts (gi_V (tm 194 rfl) (tm 195 rfl) (tm 196 rfl) (tm 197 rfl) (tm 198 rfl)) rfl rfl rfl (by decide +kernel) ⟨Nat.le_of_ble_eq_true rfl, Nat.le_of_ble_eq_true rfl⟩) (pW_V hK hP hD (ci := 5) (k := 5) rfl rfl) rfl rfl hl.1 rfl (lv_room (Nat.le_of_ble_eq_true rfl)) d_CR_lowestThatCloses_45 ⟨Nat.zero_le _, Nat.zero_le _⟩) hP hS hA (fun r_14 H locs hw hP hT => ?_)
          have hS := hT _ hA hS
          refine lv_istore (lv' := [(6, .int r_14), (0, .ref (a 5)), (1, .int x1), (2, .int x2), (3, .int r_1), (4, .int y4_10), (5, .int y5_10)]) hx hb d_CR_lowestThatCloses_48 hl (by decide) rfl (fun ls hl => ?_)
          refine lv_iload hx hb d_CR_lowestThatCloses_50 (lv_at hl 0 rfl) ?_
          refine lv_iconst (v := (-1)) hx hb d_CR_lowestThatCloses_52 (by decide) ?_
          refine lv_icmp_eq (tgt := 84) hx hb d_CR_lowestThatCloses_53 (by decide) (fun c_15 => ?_) (fun c_15 => ?_)
          · have hw := hw.1 c_15
            refine lv_iinc (v := y5_10 + 1) (lv' := [(5, .int (y5_10 + 1)), (6, .int r_14), (0, .ref (a 5)), (1, .int x1), (2, .int x2), (3, .int r_1), (4, .int y4_10)]) hx hb d_CR_lowestThatCloses_84 hl (k := 6) rfl rfl (by decide) rfl (fun ls hl => ?_)
            refine lv_goto (tgt := 15) hx hb d_CR_lowestThatCloses_87 (by decide) ?_
            exact ih_10 y4_10 (y5_10 + 1) _ _ _ hw hP hS (lv_sub hl [2, 3, 4, 5, 6, 0] rfl)
          · have hw := hw.2 c_15
            refine lv_aload_n hx hb d_CR_lowestThatCloses_56 rfl (lv_at hl 1 rfl) ?_
            refine va_get (D := (dC, dI)) (ci := 5) (v := .ref (a 30)) (C := R_CR) (T := F_CR) (N := 7) hx hb hts in_CR hown hK hP 5 rfl rfl 3 (by decide) (hts (.fieldLink R_CR 18 R_CR "toClose" "[I") (tm 199 rfl)) (fun _ h9 => h9) rfl d_CR_lowestThatCloses_57 ?_
            refine lv_iload hx hb d_CR_lowestThatCloses_60 (lv_at hl 0 rfl) ?_
            obtain ⟨hin, hw⟩ := hw
            refine va_iald hx hb hK hP 30 0 rfl rfl hin d_CR_lowestThatCloses_62 ?_
            refine lv_iload_n hx hb d_CR_lowestThatCloses_63 rfl (lv_at hl 3 rfl) ?_
            refine lv_icmp_ne (tgt := 84) hx hb d_CR_lowestThatCloses_64 (by decide) (fun c_16 => ?_) (fun c_16 => ?_)
            · have hw := hw.1 c_16
              refine lv_iinc (v := y5_10 + 1) (lv' := [(5, .int (y5_10 + 1)), (6, .int r_14), (0, .ref (a 5)), (1, .int x1), (2, .int x2), (3, .int r_1), (4, .int y4_10)]) hx hb d_CR_lowestThatCloses_84 hl (k := 6) rfl rfl (by decide) rfl (fun ls hl => ?_)
              refine lv_goto (tgt := 15) hx hb d_CR_lowestThatCloses_87 (by decide) ?_
              exact ih_10 y4_10 (y5_10 + 1) _ _ _ hw hP hS (lv_sub hl [2, 3, 4, 5, 6, 0] rfl)
            · have hw := hw.2 c_16
              refine lv_iload hx hb d_CR_lowestThatCloses_67 (lv_at hl 5 rfl) ?_
              refine lv_iconst (v := (-1)) hx hb d_CR_lowestThatCloses_69 (by decide) ?_
              refine lv_icmp_eq (tgt := 80) hx hb d_CR_lowestThatCloses_70 (by decide) (fun c_17 => ?_) (fun c_17 => ?_)
              · have hw := hw.1 c_17
                refine lv_iload hx hb d_CR_lowestThatCloses_80 (lv_at hl 0 rfl) ?_
                refine lv_istore (lv' := [(4, .int r_14), (6, .int r_14), (0, .ref (a 5)), (1, .int x1), (2, .int x2), (3, .int r_1), (5, .int y5_10)]) hx hb d_CR_lowestThatCloses_82 hl (by decide) rfl (fun ls hl => ?_)
                refine lv_iinc (v := y5_10 + 1) (lv' := [(5, .int (y5_10 + 1)), (4, .int r_14), (6, .int r_14), (0, .ref (a 5)), (1, .int x1), (2, .int x2), (3, .int r_1)]) hx hb d_CR_lowestThatCloses_84 hl (k := 6) rfl rfl (by decide) rfl (fun ls hl => ?_)
                refine lv_goto (tgt := 15) hx hb d_CR_lowestThatCloses_87 (by decide) ?_
                exact ih_10 r_14 (y5_10 + 1) _ _ _ hw hP hS (lv_sub hl [3, 4, 5, 6, 1, 0] rfl)
              · have hw := hw.2 c_17
                refine lv_iload hx hb d_CR_lowestThatCloses_73 (lv_at hl 0 rfl) ?_
                refine lv_iload hx hb d_CR_lowestThatCloses_75 (lv_at hl 5 rfl) ?_
                refine lv_icmp_ge (tgt := 84) hx hb d_CR_lowestThatCloses_77 (by decide) (fun c_18 => ?_) (fun c_18 => ?_)
                · have hw := hw.1 c_18
                  refine lv_iinc (v := y5_10 + 1) (lv' := [(5, .int (y5_10 + 1)), (6, .int r_14), (0, .ref (a 5)), (1, .int x1), (2, .int x2), (3, .int r_1), (4, .int y4_10)]) hx hb d_CR_lowestThatCloses_84 hl (k := 6) rfl rfl (by decide) rfl (fun ls hl => ?_)
                  refine lv_goto (tgt := 15) hx hb d_CR_lowestThatCloses_87 (by decide) ?_
                  exact ih_10 y4_10 (y5_10 + 1) _ _ _ hw hP hS (lv_sub hl [2, 3, 4, 5, 6, 0] rfl)
                · have hw := hw.2 c_18
                  refine lv_iload hx hb d_CR_lowestThatCloses_80 (lv_at hl 0 rfl) ?_
                  refine lv_istore (lv' := [(4, .int r_14), (6, .int r_14), (0, .ref (a 5)), (1, .int x1), (2, .int x2), (3, .int r_1), (5, .int y5_10)]) hx hb d_CR_lowestThatCloses_82 hl (by decide) rfl (fun ls hl => ?_)
                  refine lv_iinc (v := y5_10 + 1) (lv' := [(5, .int (y5_10 + 1)), (4, .int r_14), (6, .int r_14), (0, .ref (a 5)), (1, .int x1), (2, .int x2), (3, .int r_1)]) hx hb d_CR_lowestThatCloses_84 hl (k := 6) rfl rfl (by decide) rfl (fun ls hl => ?_)
                  refine lv_goto (tgt := 15) hx hb d_CR_lowestThatCloses_87 (by decide) ?_
                  exact ih_10 r_14 (y5_10 + 1) _ _ _ hw hP hS (lv_sub hl [3, 4, 5, 6, 1, 0] rfl)
  exact lp_10 k_10 (-1) 0 _ _ _ hw hP hS (lv_sub hl [3, 4, 5, 2, 1, 0] rfl)
