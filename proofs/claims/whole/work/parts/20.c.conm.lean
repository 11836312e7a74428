set_option maxHeartbeats 4000000 in
set_option maxRecDepth 100000 in
theorem c_M_isInput (l : Launch) (dC : Nat → ClassId) (dI : Nat → Nat → Nat) (cI cZ : ClassId) (a : Nat → Nat) (sz : Nat) (σ : SS) (x1 : Int32) (x2 : Int32) (post : Int32 → Prop) (hw : wp_M_isInput σ x1 x2 post) : Met l y_M_isInput (.code y_M_isInput b_M_isInput 3 (some .boolean) :: TT) { frames := 2, cells := 0, slots := 0, locals := 43 } (pW (dC, dI) clsT (tyT cI cZ) [.ref (a 0), .int x1, .int x2] sz (wM cI cZ a σ)) (va_Qi (fun r (_ : Unit) => post r) (fun _ _ => True) (fun q => sz ≤ q)) 0 0 (fun q => sz ≤ q) := by
  refine hdr (Qf := fun A => (va_Qi (fun r (_ : Unit) => post r) (fun _ _ => True) A)) (by decide) (Nat.le_of_ble_eq_true rfl) ?_
  intro p e s m below meth c A ls hx hb hr hts hown hlocks hml hK hP hD hS hA hl
  have hown : s.vm.findClass R_M = some m.cls := hown
  have hl : lv_has ls 3 [(0, .ref (a 0)), (1, .int x1), (2, .int x2)] := hl
  rw [wp_M_isInput] at hw
  refine lv_iload_n hx hb d_M_isInput_0 rfl (lv_at hl 1 rfl) ?_
  refine lv_bipush (v := 16) hx hb d_M_isInput_1 (by decide) ?_
  refine lv_icmp_ge (tgt := 19) hx hb d_M_isInput_3 (by decide) (fun c_1 => ?_) (fun c_1 => ?_)
  · have hw := hw.1 c_1
    refine lv_aload_n hx hb d_M_isInput_19 rfl (lv_at hl 0 rfl) ?_
    refine lv_iload_n hx hb d_M_isInput_20 rfl (lv_at hl 1 rfl) ?_
    refine lv_bipush (v := 16) hx hb d_M_isInput_21 (by decide) ?_
    refine lv_isub hx hb d_M_isInput_23 ?_
    refine cl_r (va_runV (As := [.int (x1 - 16)]) (rest := []) ⟨hx, hb, hml, hown, hts⟩ (c_M_isChannel l dC dI cI cZ a _ σ (x1 - 16) _ hw) (cwV 1 hts (gi_V (tm 336 rfl) (tm 337 rfl) (tm 338 rfl) (tm 320 rfl) (tm 339 rfl)) rfl rfl rfl (by decide +kernel) ⟨Nat.le_of_ble_eq_true rfl, Nat.le_of_ble_eq_true rfl⟩) (pW_V hK hP hD (ci := 6) (k := 0) rfl rfl) rfl rfl hl.1 rfl (lv_room (Nat.le_of_ble_eq_true rfl)) d_M_isInput_24 ⟨Nat.zero_le _, Nat.zero_le _⟩) hP hS hA (fun r_2 H locs hw hP hT => ?_)
    have hS := hT _ hA hS
    refine lv_if_eq (tgt := 43) hx hb d_M_isInput_27 (by decide) (fun c_3 => ?_) (fun c_3 => ?_)
    · have hw := hw.1 c_3
      refine lv_iconst (v := 0) hx hb d_M_isInput_43 (by decide) ?_
      exact rr_z hx hb hr hlocks hS d_M_isInput_44 (Or.inl rfl) hw
    · have hw := hw.2 c_3
      refine lv_aload_n hx hb d_M_isInput_30 rfl (lv_at hl 0 rfl) ?_
      refine lv_iload_n hx hb d_M_isInput_31 rfl (lv_at hl 1 rfl) ?_
      refine cl_r (va_runV (As := [.int x1]) (rest := []) ⟨hx, hb, hml, hown, hts⟩ (c_M_nodeOf l dC dI cI cZ a _ σ x1 _ hw) (cwV 1 hts (gi_V (tm 362 rfl) (tm 363 rfl) (tm 364 rfl) (tm 320 rfl) (tm 365 rfl)) rfl rfl rfl (by decide +kernel) ⟨Nat.le_of_ble_eq_true rfl, Nat.le_of_ble_eq_true rfl⟩) (pW_V hK hP hD (ci := 6) (k := 0) rfl rfl) rfl rfl hl.1 rfl (lv_room (Nat.le_of_ble_eq_true rfl)) d_M_isInput_32 ⟨Nat.zero_le _, Nat.zero_le _⟩) hP hS hA (fun r_4 H locs hw hP hT => ?_)
      have hS := hT _ hA hS
      refine lv_iload_n hx hb d_M_isInput_35 rfl (lv_at hl 2 rfl) ?_
      refine lv_icmp_ne (tgt := 43) hx hb d_M_isInput_36 (by decide) (fun c_5 => ?_) (fun c_5 => ?_)
      · have hw := hw.1 c_5
        refine lv_iconst (v := 0) hx hb d_M_isInput_43 (by decide) ?_
        exact rr_z hx hb hr hlocks hS d_M_isInput_44 (Or.inl rfl) hw
      · have hw := hw.2 c_5
        refine lv_iconst (v := 1) hx hb d_M_isInput_39 (by decide) ?_
        refine lv_goto (tgt := 44) hx hb d_M_isInput_40 (by decide) ?_
        exact rr_z hx hb hr hlocks hS d_M_isInput_44 (Or.inr rfl) hw
  · have hw := hw.2 c_1
    refine lv_iload_n hx hb d_M_isInput_6 rfl (lv_at hl 1 rfl) ?_
    refine lv_iload_n hx hb d_M_isInput_7 rfl (lv_at hl 2 rfl) ?_
    refine lv_icmp_ne (tgt := 15) hx hb d_M_isInput_8 (by decide) (fun c_6 => ?_) (fun c_6 => ?_)
    · have hw := hw.1 c_6
      refine lv_iconst (v := 0) hx hb d_M_isInput_15 (by decide) ?_
      refine lv_goto (tgt := 44) hx hb d_M_isInput_16 (by decide) ?_
      exact rr_z hx hb hr hlocks hS d_M_isInput_44 (Or.inl rfl) hw
    · have hw := hw.2 c_6
      refine lv_iconst (v := 1) hx hb d_M_isInput_11 (by decide) ?_
      refine lv_goto (tgt := 44) hx hb d_M_isInput_12 (by decide) ?_
      exact rr_z hx hb hr hlocks hS d_M_isInput_44 (Or.inr rfl) hw
set_option maxHeartbeats 4000000 in
set_option maxRecDepth 100000 in
theorem c_M_holds (l : Launch) (dC : Nat → ClassId) (dI : Nat → Nat → Nat) (cI cZ : ClassId) (a : Nat → Nat) (sz : Nat) (σ : SS) (x1 : Int32) (post : Int32 → Prop) (hw : wp_M_holds σ x1 post) : Met l y_M_holds (.code y_M_holds b_M_holds 4 (some .boolean) :: TT) { frames := 0, cells := 0, slots := 0, locals := 0 } (pW (dC, dI) clsT (tyT cI cZ) [.ref (a 0), .int x1] sz (wM cI cZ a σ)) (va_Qi (fun r (_ : Unit) => post r) (fun _ _ => True) (fun q => sz ≤ q)) 0 0 (fun q => sz ≤ q) := by
  refine hdr (Qf := fun A => (va_Qi (fun r (_ : Unit) => post r) (fun _ _ => True) A)) (by decide) (Nat.le_of_ble_eq_true rfl) ?_
  intro p e s m below meth c A ls hx hb hr hts hown hlocks hml hK hP hD hS hA hl
  have hown : s.vm.findClass R_M = some m.cls := hown
  have hl : lv_has ls 4 [(0, .ref (a 0)), (1, .int x1)] := hl
  rw [wp_M_holds] at hw
  refine lv_iconst (v := 0) hx hb d_M_holds_0 (by decide) ?_
  refine lv_istore_n (lv' := [(2, .int 0), (0, .ref (a 0)), (1, .int x1)]) hx hb d_M_holds_1 rfl hl (by decide) rfl (fun ls hl => ?_)
  refine lv_iconst (v := 0) hx hb d_M_holds_2 (by decide) ?_
  refine lv_istore_n (lv' := [(3, .int 0), (2, .int 0), (0, .ref (a 0)), (1, .int x1)]) hx hb d_M_holds_3 rfl hl (by decide) rfl (fun ls hl => ?_)
  obtain ⟨k_4, hw⟩ := hw
  have hE_4 : ∀ (y2_4 : Int32) (y3_4 : Int32) (H : Heap) (locs : List Loc) (ls : Array Slot), we_M_holds_40 σ y2_4 post → va_P (dC, dI) clsT (wM cI cZ a σ) H → va_S A s.heap H locs → lv_has ls 4 [(2, .int y2_4)] → W p l e { frames := 0, cells := 0, slots := 0, locals := 0 } s m ([.ref (a 0), .int x1] : List Value).toArray below meth c H locs 0 0 (MQ below (va_Qi (fun r (_ : Unit) => post r) (fun _ _ => True) A) ([.ref (a 0), .int x1] : List Value).toArray s 0 0 A) (F0 m 40 ls []) := by
    intro y2_4 y3_4 H locs ls hw hP hS hl
    rw [we_M_holds_40] at hw
    refine lv_iload_n hx hb d_M_holds_40 rfl (lv_at hl 0 rfl) ?_
    exact rr_z hx hb hr hlocks hS d_M_holds_41 hw.1 hw.2
  have lp_4 : ∀ (kf_4 : Nat) (y2_4 : Int32) (y3_4 : Int32) (H : Heap) (locs : List Loc) (ls : Array Slot), wl_M_holds_4 σ x1 (fun y2 y3 => we_M_holds_40 σ y2 post) post kf_4 y2_4 y3_4 → va_P (dC, dI) clsT (wM cI cZ a σ) H → va_S A s.heap H locs → lv_has ls 4 [(0, .ref (a 0)), (1, .int x1), (2, .int y2_4), (3, .int y3_4)] → W p l e { frames := 0, cells := 0, slots := 0, locals := 0 } s m ([.ref (a 0), .int x1] : List Value).toArray below meth c H locs 0 0 (MQ below (va_Qi (fun r (_ : Unit) => post r) (fun _ _ => True) A) ([.ref (a 0), .int x1] : List Value).toArray s 0 0 A) (F0 m 4 ls []) := by
    intro kf_4
    induction kf_4 with
    | zero => intro y2_4 y3_4 H locs ls hw; rw [wl_M_holds_4] at hw; exact hw.elim
    | succ kf_4 ih_4 =>
      intro y2_4 y3_4 H locs ls hw hP hS hl
      rw [wl_M_holds_4] at hw
      refine lv_iload_n hx hb d_M_holds_4 rfl (lv_at hl 3 rfl) ?_
      refine lv_iconst (v := 4) hx hb d_M_holds_5 (by decide) ?_
      refine lv_aload_n hx hb d_M_holds_6 rfl (lv_at hl 0 rfl) ?_
      refine va_get (D := (dC, dI)) (ci := 6) (v := .int (σ 0 3)) (C := R_M) (T := F_M) (N := 30) hx hb hts in_M hown hK hP 0 rfl rfl 3 (by decide) (hts (.fieldLink R_M 88 R_M "links" "I") (tm 322 rfl)) (fun _ h9 => h9) rfl d_M_holds_7 ?_
      refine lv_imul hx hb d_M_holds_10 ?_
      refine lv_icmp_ge (tgt := 40) hx hb d_M_holds_11 (by decide) (fun c_5 => ?_) (fun c_5 => ?_)
      · have hw := hw.1 c_5
        exact hE_4 y2_4 y3_4 _ _ _ hw hP hS (lv_sub hl [2] rfl)
      · have hw := hw.2 c_5
        refine lv_iload_n hx hb d_M_holds_14 rfl (lv_at hl 2 rfl) ?_
        refine lv_if_ne (tgt := 28) hx hb d_M_holds_15 (by decide) (fun c_6 => ?_) (fun c_6 => ?_)
        · have hw := hw.1 c_6
          refine lv_iconst (v := 1) hx hb d_M_holds_28 (by decide) ?_
          refine lv_goto (tgt := 33) hx hb d_M_holds_29 (by decide) ?_
          refine lv_istore_n (lv' := [(2, .int 1), (0, .ref (a 0)), (1, .int x1), (3, .int y3_4)]) hx hb d_M_holds_33 rfl hl (by decide) rfl (fun ls hl => ?_)
          refine lv_iinc (v := y3_4 + 1) (lv' := [(3, .int (y3_4 + 1)), (2, .int 1), (0, .ref (a 0)), (1, .int x1)]) hx hb d_M_holds_34 hl (k := 3) rfl rfl (by decide) rfl (fun ls hl => ?_)
          refine lv_goto (tgt := 4) hx hb d_M_holds_37 (by decide) ?_
          exact ih_4 1 (y3_4 + 1) _ _ _ hw hP hS (lv_sub hl [2, 3, 1, 0] rfl)
        · have hw := hw.2 c_6
          refine lv_aload_n hx hb d_M_holds_18 rfl (lv_at hl 0 rfl) ?_
          refine va_get (D := (dC, dI)) (ci := 6) (v := .ref (a 17)) (C := R_M) (T := F_M) (N := 30) hx hb hts in_M hown hK hP 0 rfl rfl 25 (by decide) (hts (.fieldLink R_M 59 R_M "holder" "[I") (tm 366 rfl)) (fun _ h9 => h9) rfl d_M_holds_19 ?_
          refine lv_iload_n hx hb d_M_holds_22 rfl (lv_at hl 3 rfl) ?_
          obtain ⟨hin, hw⟩ := hw
          refine va_iald hx hb hK hP 17 0 rfl rfl hin d_M_holds_23 ?_
          refine lv_iload_n hx hb d_M_holds_24 rfl (lv_at hl 1 rfl) ?_
          refine lv_icmp_ne (tgt := 32) hx hb d_M_holds_25 (by decide) (fun c_7 => ?_) (fun c_7 => ?_)
          · have hw := hw.1 c_7
            refine lv_iconst (v := 0) hx hb d_M_holds_32 (by decide) ?_
            refine lv_istore_n (lv' := [(2, .int 0), (0, .ref (a 0)), (1, .int x1), (3, .int y3_4)]) hx hb d_M_holds_33 rfl hl (by decide) rfl (fun ls hl => ?_)
            refine lv_iinc (v := y3_4 + 1) (lv' := [(3, .int (y3_4 + 1)), (2, .int 0), (0, .ref (a 0)), (1, .int x1)]) hx hb d_M_holds_34 hl (k := 3) rfl rfl (by decide) rfl (fun ls hl => ?_)
            refine lv_goto (tgt := 4) hx hb d_M_holds_37 (by decide) ?_
            exact ih_4 0 (y3_4 + 1) _ _ _ hw hP hS (lv_sub hl [2, 3, 1, 0] rfl)
          · have hw := hw.2 c_7
            refine lv_iconst (v := 1) hx hb d_M_holds_28 (by decide) ?_
            refine lv_goto (tgt := 33) hx hb d_M_holds_29 (by decide) ?_
            refine lv_istore_n (lv' := [(2, .int 1), (0, .ref (a 0)), (1, .int x1), (3, .int y3_4)]) hx hb d_M_holds_33 rfl hl (by decide) rfl (fun ls hl => ?_)
            refine lv_iinc (v := y3_4 + 1) (lv' := [(3, .int (y3_4 + 1)), (2, .int 1), (0, .ref (a 0)), (1, .int x1)]) hx hb d_M_holds_34 hl (k := 3) rfl rfl (by decide) rfl (fun ls hl => ?_)
            refine lv_goto (tgt := 4) hx hb d_M_holds_37 (by decide) ?_
            exact ih_4 1 (y3_4 + 1) _ _ _ hw hP hS (lv_sub hl [2, 3, 1, 0] rfl)
  exact lp_4 k_4 0 0 _ _ _ hw hP hS (lv_sub hl [2, 3, 1, 0] rfl)
set_option maxHeartbeats 4000000 in
set_option maxRecDepth 100000 in
theorem c_M_wanted (l : Launch) (dC : Nat → ClassId) (dI : Nat → Nat → Nat) (cI cZ : ClassId) (a : Nat → Nat) (sz : Nat) (σ : SS) (x1 : Int32) (post : Int32 → Prop) (hw : wp_M_wanted σ x1 post) : Met l y_M_wanted (.code y_M_wanted b_M_wanted 5 (some .int) :: TT) { frames := 1, cells := 0, slots := 0, locals := 23 } (pW (dC, dI) clsT (tyT cI cZ) [.ref (a 0), .int x1] sz (wM cI cZ a σ)) (va_Qi (fun r (_ : Unit) => post r) (fun _ _ => True) (fun q => sz ≤ q)) 0 0 (fun q => sz ≤ q) := by
  refine hdr (Qf := fun A => (va_Qi (fun r (_ : Unit) => post r) (fun _ _ => True) A)) (by decide) (Nat.le_of_ble_eq_true rfl) ?_
  intro p e s m below meth c A ls hx hb hr hts hown hlocks hml hK hP hD hS hA hl
  have hown : s.vm.findClass R_M = some m.cls := hown
  have hl : lv_has ls 5 [(0, .ref (a 0)), (1, .int x1)] := hl
  rw [wp_M_wanted] at hw
  refine lv_aload_n hx hb d_M_wanted_0 rfl (lv_at hl 0 rfl) ?_
  refine lv_iload_n hx hb d_M_wanted_1 rfl (lv_at hl 1 rfl) ?_
  refine cl_r (va_runV (As := [.int x1]) (rest := []) ⟨hx, hb, hml, hown, hts⟩ (c_M_front l dC dI cI cZ a _ σ x1 _ hw) (cwV 1 hts (gi_V (tm 371 rfl) (tm 372 rfl) (tm 373 rfl) (tm 320 rfl) (tm 374 rfl)) rfl rfl rfl (by decide +kernel) ⟨Nat.le_of_ble_eq_true rfl, Nat.le_of_ble_eq_true rfl⟩) (pW_V hK hP hD (ci := 6) (k := 0) rfl rfl) rfl rfl hl.1 rfl (lv_room (Nat.le_of_ble_eq_true rfl)) d_M_wanted_2 ⟨Nat.zero_le _, Nat.zero_le _⟩) hP hS hA (fun r_1 H locs hw hP hT => ?_)
  have hS := hT _ hA hS
  refine lv_istore_n (lv' := [(2, .int r_1), (0, .ref (a 0)), (1, .int x1)]) hx hb d_M_wanted_5 rfl hl (by decide) rfl (fun ls hl => ?_)
  refine lv_aload_n hx hb d_M_wanted_6 rfl (lv_at hl 1 rfl) ?_
  refine lv_iload_n hx hb d_M_wanted_7 rfl (lv_at hl 2 rfl) ?_
  refine cl_r (va_runV (As := [.int x1]) (rest := []) ⟨hx, hb, hml, hown, hts⟩ (c_M_nodeOf l dC dI cI cZ a _ σ x1 _ hw) (cwV 1 hts (gi_V (tm 362 rfl) (tm 363 rfl) (tm 364 rfl) (tm 320 rfl) (tm 365 rfl)) rfl rfl rfl (by decide +kernel) ⟨Nat.le_of_ble_eq_true rfl, Nat.le_of_ble_eq_true rfl⟩) (pW_V hK hP hD (ci := 6) (k := 0) rfl rfl) rfl rfl hl.1 rfl (lv_room (Nat.le_of_ble_eq_true rfl)) d_M_wanted_8 ⟨Nat.zero_le _, Nat.zero_le _⟩) hP hS hA (fun r_2 H locs hw hP hT => ?_)
  have hS := hT _ hA hS
  refine lv_istore_n (lv' := [(3, .int r_2), (2, .int r_1), (0, .ref (a 0)), (1, .int x1)]) hx hb d_M_wanted_11 rfl hl (by decide) rfl (fun ls hl => ?_)
  refine lv_iload_n hx hb d_M_wanted_12 rfl (lv_at hl 1 rfl) ?_
  refine lv_if_lt (tgt := 44) hx hb d_M_wanted_13 (by decide) (fun c_3 => ?_) (fun c_3 => ?_)
  · have hw := hw.1 c_3
    refine lv_iconst (v := (-1)) hx hb d_M_wanted_44 (by decide) ?_
    exact rr_i hx hb hr hlocks hS d_M_wanted_45 hw
  · have hw := hw.2 c_3
    refine lv_iload_n hx hb d_M_wanted_16 rfl (lv_at hl 1 rfl) ?_
    refine lv_bipush (v := 16) hx hb d_M_wanted_17 (by decide) ?_
    refine lv_irem hx hb d_M_wanted_19 (by decide) ?_
    refine lv_if_gt (tgt := 44) hx hb d_M_wanted_20 (by decide) (fun c_4 => ?_) (fun c_4 => ?_)
    · have hw := hw.1 c_4
      refine lv_iconst (v := (-1)) hx hb d_M_wanted_44 (by decide) ?_
      exact rr_i hx hb hr hlocks hS d_M_wanted_45 hw
    · have hw := hw.2 c_4
      refine lv_aload_n hx hb d_M_wanted_23 rfl (lv_at hl 2 rfl) ?_
      refine va_get (D := (dC, dI)) (ci := 6) (v := .ref (a 8)) (C := R_M) (T := F_M) (N := 30) hx hb hts in_M hown hK hP 0 rfl rfl 16 (by decide) (hts (.fieldLink R_M 32 R_M "end" "[I") (tm 343 rfl)) (fun _ h9 => h9) rfl d_M_wanted_24 ?_
      refine lv_iload_n hx hb d_M_wanted_27 rfl (lv_at hl 1 rfl) ?_
      refine lv_bipush (v := 16) hx hb d_M_wanted_28 (by decide) ?_
      refine lv_idiv hx hb d_M_wanted_30 (by decide) ?_
      obtain ⟨hin, hw⟩ := hw
      refine va_iald hx hb hK hP 8 0 rfl rfl hin d_M_wanted_31 ?_
      refine lv_iload_n hx hb d_M_wanted_32 rfl (lv_at hl 0 rfl) ?_
      refine lv_icmp_eq (tgt := 44) hx hb d_M_wanted_33 (by decide) (fun c_5 => ?_) (fun c_5 => ?_)
      · have hw := hw.1 c_5
        refine lv_iconst (v := (-1)) hx hb d_M_wanted_44 (by decide) ?_
        exact rr_i hx hb hr hlocks hS d_M_wanted_45 hw
      · have hw := hw.2 c_5
        refine lv_aload_n hx hb d_M_wanted_36 rfl (lv_at hl 2 rfl) ?_
        refine lv_iload_n hx hb d_M_wanted_37 rfl (lv_at hl 3 rfl) ?_
        refine cl_r (va_runV (As := [.int x1]) (rest := []) ⟨hx, hb, hml, hown, hts⟩ (c_M_holds l dC dI cI cZ a _ σ x1 _ hw) (cwV 1 hts (gi_V (tm 367 rfl) (tm 368 rfl) (tm 369 rfl) (tm 320 rfl) (tm 370 rfl)) rfl rfl rfl (by decide +kernel) ⟨Nat.le_of_ble_eq_true rfl, Nat.le_of_ble_eq_true rfl⟩) (pW_V hK hP hD (ci := 6) (k := 0) rfl rfl) rfl rfl hl.1 rfl (lv_room (Nat.le_of_ble_eq_true rfl)) d_M_wanted_38 ⟨Nat.zero_le _, Nat.zero_le _⟩) hP hS hA (fun r_6 H locs hw hP hT => ?_)
        have hS := hT _ hA hS
        refine lv_if_eq (tgt := 46) hx hb d_M_wanted_41 (by decide) (fun c_7 => ?_) (fun c_7 => ?_)
        · have hw := hw.1 c_7
          refine lv_aload_n hx hb d_M_wanted_46 rfl (lv_at hl 2 rfl) ?_
          refine va_get (D := (dC, dI)) (ci := 6) (v := .ref (a 6)) (C := R_M) (T := F_M) (N := 30) hx hb hts in_M hown hK hP 0 rfl rfl 14 (by decide) (hts (.fieldLink R_M 26 R_M "route" "[I") (tm 334 rfl)) (fun _ h9 => h9) rfl d_M_wanted_47 ?_
          refine lv_bipush (v := 16) hx hb d_M_wanted_50 (by decide) ?_
          refine lv_iload_n hx hb d_M_wanted_52 rfl (lv_at hl 0 rfl) ?_
          refine lv_imul hx hb d_M_wanted_53 ?_
          refine lv_aload_n hx hb d_M_wanted_54 rfl (lv_at hl 2 rfl) ?_
          refine va_get (D := (dC, dI)) (ci := 6) (v := .ref (a 8)) (C := R_M) (T := F_M) (N := 30) hx hb hts in_M hown hK hP 0 rfl rfl 16 (by decide) (hts (.fieldLink R_M 32 R_M "end" "[I") (tm 343 rfl)) (fun _ h9 => h9) rfl d_M_wanted_55 ?_
          refine lv_iload_n hx hb d_M_wanted_58 rfl (lv_at hl 1 rfl) ?_
          refine lv_bipush (v := 16) hx hb d_M_wanted_59 (by decide) ?_
          refine lv_idiv hx hb d_M_wanted_61 (by decide) ?_
          obtain ⟨hin, hw⟩ := hw
          refine va_iald hx hb hK hP 8 0 rfl rfl hin d_M_wanted_62 ?_
          refine lv_iadd hx hb d_M_wanted_63 ?_
          obtain ⟨hin, hw⟩ := hw
          refine va_iald hx hb hK hP 6 0 rfl rfl hin d_M_wanted_64 ?_
          refine lv_topi (fun v_8 ev_8 => ?_)
          have hw := hw v_8 ev_8
          refine lv_istore (lv' := [(4, .int v_8), (3, .int r_2), (2, .int r_1), (0, .ref (a 0)), (1, .int x1)]) hx hb d_M_wanted_65 hl (by decide) rfl (fun ls hl => ?_)
          refine lv_iload hx hb d_M_wanted_67 (lv_at hl 0 rfl) ?_
          refine lv_if_lt (tgt := 100) hx hb d_M_wanted_69 (by decide) (fun c_9 => ?_) (fun c_9 => ?_)
          · have hw := hw.1 c_9
            refine lv_iconst (v := (-1)) hx hb d_M_wanted_100 (by decide) ?_
            exact rr_i hx hb hr hlocks hS d_M_wanted_101 hw
          · have hw := hw.2 c_9
            refine lv_aload_n hx hb d_M_wanted_72 rfl (lv_at hl 3 rfl) ?_
            refine va_get (D := (dC, dI)) (ci := 6) (v := .ref (a 4)) (C := R_M) (T := F_M) (N := 30) hx hb hts in_M hown hK hP 0 rfl rfl 12 (by decide) (hts (.fieldLink R_M 19 R_M "failed" "[Z") (tm 335 rfl)) (fun _ h9 => h9) rfl d_M_wanted_73 ?_
            refine lv_iload hx hb d_M_wanted_76 (lv_at hl 0 rfl) ?_
            refine lv_iconst (v := 4) hx hb d_M_wanted_78 (by decide) ?_
            refine lv_idiv hx hb d_M_wanted_79 (by decide) ?_
            obtain ⟨hin, hw⟩ := hw
            refine va_zald hx hb hK hP 4 1 rfl rfl hin d_M_wanted_80 ?_
            refine lv_if_ne (tgt := 100) hx hb d_M_wanted_81 (by decide) (fun c_10 => ?_) (fun c_10 => ?_)
            · have hw := hw.1 c_10
              refine lv_iconst (v := (-1)) hx hb d_M_wanted_100 (by decide) ?_
              exact rr_i hx hb hr hlocks hS d_M_wanted_101 hw
            · have hw := hw.2 c_10
              refine lv_aload_n hx hb d_M_wanted_84 rfl (lv_at hl 3 rfl) ?_
              refine va_get (D := (dC, dI)) (ci := 6) (v := .ref (a 17)) (C := R_M) (T := F_M) (N := 30) hx hb hts in_M hown hK hP 0 rfl rfl 25 (by decide) (hts (.fieldLink R_M 59 R_M "holder" "[I") (tm 366 rfl)) (fun _ h9 => h9) rfl d_M_wanted_85 ?_
              refine lv_iload hx hb d_M_wanted_88 (lv_at hl 0 rfl) ?_
              obtain ⟨hin, hw⟩ := hw
              refine va_iald hx hb hK hP 17 0 rfl rfl hin d_M_wanted_90 ?_
              refine lv_iconst (v := (-1)) hx hb d_M_wanted_91 (by decide) ?_
              refine lv_icmp_ne (tgt := 100) hx hb d_M_wanted_92 (by decide) (fun c_11 => ?_) (fun c_11 => ?_)
              · have hw := hw.1 c_11
                refine lv_iconst (v := (-1)) hx hb d_M_wanted_100 (by decide) ?_
                exact rr_i hx hb hr hlocks hS d_M_wanted_101 hw
              · have hw := hw.2 c_11
                refine lv_iload hx hb d_M_wanted_95 (lv_at hl 0 rfl) ?_
                refine lv_goto (tgt := 101) hx hb d_M_wanted_97 (by decide) ?_
                exact rr_i hx hb hr hlocks hS d_M_wanted_101 hw
        · have hw := hw.2 c_7
          refine lv_iconst (v := (-1)) hx hb d_M_wanted_44 (by decide) ?_
          exact rr_i hx hb hr hlocks hS d_M_wanted_45 hw
set_option maxHeartbeats 4000000 in
set_option maxRecDepth 100000 in
theorem c_M_ask (l : Launch) (dC : Nat → ClassId) (dI : Nat → Nat → Nat) (cI cZ : ClassId) (a : Nat → Nat) (sz : Nat) (σ : SS) (post : SS → Prop) (hw : wp_M_ask σ post) : Met l y_M_ask (.code y_M_ask b_M_ask 4 none :: TT) { frames := 3, cells := 0, slots := 0, locals := 65 } (pW (dC, dI) clsT (tyT cI cZ) [.ref (a 0)] sz (wM cI cZ a σ)) (va_Qv post (bW (dC, dI) clsT (tyT cI cZ) (wM cI cZ a) (va_A (wM cI cZ a σ) sz)) (va_A (wM cI cZ a σ) sz)) 0 0 (va_A (wM cI cZ a σ) sz) := by
  refine hd (Qf := fun A => (va_Qv post (bW (dC, dI) clsT (tyT cI cZ) (wM cI cZ a) A) A)) (by decide) (Nat.le_of_ble_eq_true rfl) ?_
  intro p e s m below meth c A ls hx hb hr hts hown hlocks hml hK hP hD hS hA hl
  have hown : s.vm.findClass R_M = some m.cls := hown
  have hl : lv_has ls 4 [(0, .ref (a 0))] := hl
  rw [wp_M_ask] at hw
  refine lv_iconst (v := 0) hx hb d_M_ask_0 (by decide) ?_
  refine lv_istore_n (lv' := [(1, .int 0), (0, .ref (a 0))]) hx hb d_M_ask_1 rfl hl (by decide) rfl (fun ls hl => ?_)
  obtain ⟨k_21, hw⟩ := hw
  have hE_21 : ∀ (σ_21 : SS) (y1_21 : Int32) (H : Heap) (locs : List Loc) (ls : Array Slot), we_M_ask_81 σ_21 post → va_P (dC, dI) clsT (wM cI cZ a σ_21) H → va_D A (wM cI cZ a σ_21) → va_S A s.heap H locs → lv_has ls 4 [] → W p l e { frames := 3, cells := 0, slots := 0, locals := 65 } s m ([.ref (a 0)] : List Value).toArray below meth c H locs 0 0 (MQ below (va_Qv post (bW (dC, dI) clsT (tyT cI cZ) (wM cI cZ a) A) A) ([.ref (a 0)] : List Value).toArray s 0 0 A) (F0 m 81 ls []) := by
    intro σ_21 y1_21 H locs ls hw hP hD hS hl
    rw [we_M_ask_81] at hw
    exact rt_v (w := wM cI cZ a) hx hb hr hlocks hK hP hD hS d_M_ask_81 hw
  have lp_21 : ∀ (kf_21 : Nat) (σ_21 : SS) (y1_21 : Int32) (H : Heap) (locs : List Loc) (ls : Array Slot), wl_M_ask_2 (fun σ' y1 => we_M_ask_81 σ' post) post kf_21 σ_21 y1_21 → va_P (dC, dI) clsT (wM cI cZ a σ_21) H → va_D A (wM cI cZ a σ_21) → va_S A s.heap H locs → lv_has ls 4 [(0, .ref (a 0)), (1, .int y1_21)] → W p l e { frames := 3, cells := 0, slots := 0, locals := 65 } s m ([.ref (a 0)] : List Value).toArray below meth c H locs 0 0 (MQ below (va_Qv post (bW (dC, dI) clsT (tyT cI cZ) (wM cI cZ a) A) A) ([.ref (a 0)] : List Value).toArray s 0 0 A) (F0 m 2 ls []) := by
    intro kf_21
    induction kf_21 with
    | zero => intro σ_21 y1_21 H locs ls hw; rw [wl_M_ask_2] at hw; exact hw.elim
    | succ kf_21 ih_21 =>
      intro σ_21 y1_21 H locs ls hw hP hD hS hl
      rw [wl_M_ask_2] at hw
      refine lv_iload_n hx hb d_M_ask_2 rfl (lv_at hl 1 rfl) ?_
      refine lv_aload_n hx hb d_M_ask_3 rfl (lv_at hl 0 rfl) ?_
      refine va_get (D := (dC, dI)) (ci := 6) (v := .int (σ_21 0 2)) (C := R_M) (T := F_M) (N := 30) hx hb hts in_M hown hK hP 0 rfl rfl 2 (by decide) (hts (.fieldLink R_M 81 R_M "nodes" "I") (tm 317 rfl)) (fun _ h9 => h9) rfl d_M_ask_4 ?_
      refine lv_icmp_ge (tgt := 81) hx hb d_M_ask_7 (by decide) (fun c_22 => ?_) (fun c_22 => ?_)
      · have hw := hw.1 c_22
        exact hE_21 σ_21 y1_21 _ _ _ hw hP hD hS (lv_sub hl [] rfl)
      · have hw := hw.2 c_22
        refine lv_iconst (v := 0) hx hb d_M_ask_10 (by decide) ?_
        refine lv_istore_n (lv' := [(2, .int 0), (0, .ref (a 0)), (1, .int y1_21)]) hx hb d_M_ask_11 rfl hl (by decide) rfl (fun ls hl => ?_)
        obtain ⟨k_23, hw⟩ := hw
        have hE_23 : ∀ (σ_23 : SS) (y2_23 : Int32) (H : Heap) (locs : List Loc) (ls : Array Slot), we_M_ask_75 σ_23 y1_21 (wl_M_ask_2 (fun σ' y1 => we_M_ask_81 σ' post) post kf_21) (fun σ' y1 => we_M_ask_81 σ' post) post → va_P (dC, dI) clsT (wM cI cZ a σ_23) H → va_D A (wM cI cZ a σ_23) → va_S A s.heap H locs → lv_has ls 4 [(0, .ref (a 0)), (1, .int y1_21)] → W p l e { frames := 3, cells := 0, slots := 0, locals := 65 } s m ([.ref (a 0)] : List Value).toArray below meth c H locs 0 0 (MQ below (va_Qv post (bW (dC, dI) clsT (tyT cI cZ) (wM cI cZ a) A) A) ([.ref (a 0)] : List Value).toArray s 0 0 A) (F0 m 75 ls []) := by
          intro σ_23 y2_23 H locs ls hw hP hD hS hl
          rw [we_M_ask_75] at hw
          refine lv_iinc (v := y1_21 + 1) (lv' := [(1, .int (y1_21 + 1)), (0, .ref (a 0))]) hx hb d_M_ask_75 hl (k := 1) rfl rfl (by decide) rfl (fun ls hl => ?_)
          refine lv_goto (tgt := 2) hx hb d_M_ask_78 (by decide) ?_
          exact ih_21 σ_23 (y1_21 + 1) _ _ _ hw hP hD hS (lv_sub hl [1, 0] rfl)
        have lp_23 : ∀ (kf_23 : Nat) (σ_23 : SS) (y2_23 : Int32) (H : Heap) (locs : List Loc) (ls : Array Slot), wl_M_ask_12 y1_21 (fun σ' y2 => we_M_ask_75 σ' y1_21 (wl_M_ask_2 (fun σ' y1 => we_M_ask_81 σ' post) post kf_21) (fun σ' y1 => we_M_ask_81 σ' post) post) post kf_23 σ_23 y2_23 → va_P (dC, dI) clsT (wM cI cZ a σ_23) H → va_D A (wM cI cZ a σ_23) → va_S A s.heap H locs → lv_has ls 4 [(0, .ref (a 0)), (1, .int y1_21), (2, .int y2_23)] → W p l e { frames := 3, cells := 0, slots := 0, locals := 65 } s m ([.ref (a 0)] : List Value).toArray below meth c H locs 0 0 (MQ below (va_Qv post (bW (dC, dI) clsT (tyT cI cZ) (wM cI cZ a) A) A) ([.ref (a 0)] : List Value).toArray s 0 0 A) (F0 m 12 ls []) := by
          intro kf_23
          induction kf_23 with
          | zero => intro σ_23 y2_23 H locs ls hw; rw [wl_M_ask_12] at hw; exact hw.elim
          | succ kf_23 ih_23 =>
            intro σ_23 y2_23 H locs ls hw hP hD hS hl
            rw [wl_M_ask_12] at hw
            refine lv_iload_n hx hb d_M_ask_12 rfl (lv_at hl 2 rfl) ?_
            refine lv_bipush (v := 16) hx hb d_M_ask_13 (by decide) ?_
            refine lv_iconst (v := 4) hx hb d_M_ask_15 (by decide) ?_
            refine lv_aload_n hx hb d_M_ask_16 rfl (lv_at hl 0 rfl) ?_
            refine va_get (D := (dC, dI)) (ci := 6) (v := .int (σ_23 0 3)) (C := R_M) (T := F_M) (N := 30) hx hb hts in_M hown hK hP 0 rfl rfl 3 (by decide) (hts (.fieldLink R_M 88 R_M "links" "I") (tm 322 rfl)) (fun _ h9 => h9) rfl d_M_ask_17 ?_
            refine lv_imul hx hb d_M_ask_20 ?_
            refine lv_iadd hx hb d_M_ask_21 ?_
            refine lv_icmp_ge (tgt := 75) hx hb d_M_ask_22 (by decide) (fun c_24 => ?_) (fun c_24 => ?_)
            · have hw := hw.1 c_24
              exact hE_23 σ_23 y2_23 _ _ _ hw hP hD hS (lv_sub hl [0, 1] rfl)
            · have hw := hw.2 c_24
              refine lv_aload_n hx hb d_M_ask_25 rfl (lv_at hl 0 rfl) ?_
              refine lv_iload_n hx hb d_M_ask_26 rfl (lv_at hl 2 rfl) ?_
              refine lv_iload_n hx hb d_M_ask_27 rfl (lv_at hl 1 rfl) ?_
              refine cl_r (va_runV (As := [.int y2_23, .int y1_21]) (rest := []) ⟨hx, hb, hml, hown, hts⟩ (c_M_isInput l dC dI cI cZ a _ σ_23 y2_23 y1_21 _ hw) (cwV 2 hts (gi_V (tm 380 rfl) (tm 381 rfl) (tm 382 rfl) (tm 320 rfl) (tm 383 rfl)) rfl rfl rfl (by decide +kernel) ⟨Nat.le_of_ble_eq_true rfl, Nat.le_of_ble_eq_true rfl⟩) (pW_V hK hP hD (ci := 6) (k := 0) rfl rfl) rfl rfl hl.1 rfl (lv_room (Nat.le_of_ble_eq_true rfl)) d_M_ask_28 ⟨Nat.zero_le _, Nat.zero_le _⟩) hP hS hA (fun r_25 H locs hw hP hT => ?_)
              have hS := hT _ hA hS
              refine lv_if_eq (tgt := 42) hx hb d_M_ask_31 (by decide) (fun c_26 => ?_) (fun c_26 => ?_)
              · have hw := hw.1 c_26
                refine lv_iconst (v := (-1)) hx hb d_M_ask_42 (by decide) ?_
                refine lv_istore_n (lv' := [(3, .int (-1)), (0, .ref (a 0)), (1, .int y1_21), (2, .int y2_23)]) hx hb d_M_ask_43 rfl hl (by decide) rfl (fun ls hl => ?_)
                refine lv_iload_n hx hb d_M_ask_44 rfl (lv_at hl 0 rfl) ?_
                refine lv_if_lt (tgt := 69) hx hb d_M_ask_45 (by decide) (fun _ => ?_) (fun c9 => absurd c9 (by decide))
                refine lv_iinc (v := y2_23 + 1) (lv' := [(2, .int (y2_23 + 1)), (3, .int (-1)), (0, .ref (a 0)), (1, .int y1_21)]) hx hb d_M_ask_69 hl (k := 3) rfl rfl (by decide) rfl (fun ls hl => ?_)
                refine lv_goto (tgt := 12) hx hb d_M_ask_72 (by decide) ?_
                exact ih_23 σ_23 (y2_23 + 1) _ _ _ hw hP hD hS (lv_sub hl [2, 3, 0] rfl)
              · have hw := hw.2 c_26
                refine lv_aload_n hx hb d_M_ask_34 rfl (lv_at hl 0 rfl) ?_
                refine lv_iload_n hx hb d_M_ask_35 rfl (lv_at hl 2 rfl) ?_
                refine cl_r (va_runV (As := [.int y2_23]) (rest := []) ⟨hx, hb, hml, hown, hts⟩ (c_M_wanted l dC dI cI cZ a _ σ_23 y2_23 _ hw) (cwV 1 hts (gi_V (tm 376 rfl) (tm 377 rfl) (tm 378 rfl) (tm 320 rfl) (tm 379 rfl)) rfl rfl rfl (by decide +kernel) ⟨Nat.le_of_ble_eq_true rfl, Nat.le_of_ble_eq_true rfl⟩) (pW_V hK hP hD (ci := 6) (k := 0) rfl rfl) rfl rfl hl.1 rfl (lv_room (Nat.le_of_ble_eq_true rfl)) d_M_ask_36 ⟨Nat.zero_le _, Nat.zero_le _⟩) hP hS hA (fun r_28 H locs hw hP hT => ?_)
                have hS := hT _ hA hS
                refine lv_goto (tgt := 43) hx hb d_M_ask_39 (by decide) ?_
                refine lv_istore_n (lv' := [(3, .int r_28), (0, .ref (a 0)), (1, .int y1_21), (2, .int y2_23)]) hx hb d_M_ask_43 rfl hl (by decide) rfl (fun ls hl => ?_)
                refine lv_iload_n hx hb d_M_ask_44 rfl (lv_at hl 0 rfl) ?_
                refine lv_if_lt (tgt := 69) hx hb d_M_ask_45 (by decide) (fun c_29 => ?_) (fun c_29 => ?_)
                · have hw := hw.1 c_29
                  refine lv_iinc (v := y2_23 + 1) (lv' := [(2, .int (y2_23 + 1)), (3, .int r_28), (0, .ref (a 0)), (1, .int y1_21)]) hx hb d_M_ask_69 hl (k := 3) rfl rfl (by decide) rfl (fun ls hl => ?_)
                  refine lv_goto (tgt := 12) hx hb d_M_ask_72 (by decide) ?_
                  exact ih_23 σ_23 (y2_23 + 1) _ _ _ hw hP hD hS (lv_sub hl [2, 3, 0] rfl)
                · have hw := hw.2 c_29
                  refine lv_aload_n hx hb d_M_ask_48 rfl (lv_at hl 1 rfl) ?_
                  refine va_get (D := (dC, dI)) (ci := 6) (v := .ref (a 17)) (C := R_M) (T := F_M) (N := 30) hx hb hts in_M hown hK hP 0 rfl rfl 25 (by decide) (hts (.fieldLink R_M 59 R_M "holder" "[I") (tm 366 rfl)) (fun _ h9 => h9) rfl d_M_ask_49 ?_
                  refine lv_iload_n hx hb d_M_ask_52 rfl (lv_at hl 0 rfl) ?_
                  refine lv_iload_n hx hb d_M_ask_53 rfl (lv_at hl 3 rfl) ?_
                  obtain ⟨hin, hw⟩ := hw
                  refine st_i (w := wM cI cZ a) hx hb hK hP hD hS 17 0 rfl rfl rfl hin d_M_ask_54 (fun s_30 e_30 H locs hP hD hS => ?_)
                  have hw := hw s_30 e_30
                  refine lv_aload_n hx hb d_M_ask_55 rfl (lv_at hl 1 rfl) ?_
                  refine va_get (D := (dC, dI)) (ci := 6) (v := .ref (a 18)) (C := R_M) (T := F_M) (N := 30) hx hb hts in_M hown hK hP 0 rfl rfl 26 (by decide) (hts (.fieldLink R_M 62 R_M "holding" "[I") (tm 375 rfl)) (fun _ h9 => h9) rfl d_M_ask_56 ?_
                  refine lv_iload_n hx hb d_M_ask_59 rfl (lv_at hl 0 rfl) ?_
                  refine lv_aload_n hx hb d_M_ask_60 rfl (lv_at hl 1 rfl) ?_
                  refine lv_iload_n hx hb d_M_ask_61 rfl (lv_at hl 3 rfl) ?_
                  refine cl_r (va_runV (As := [.int y2_23]) (rest := [.int r_28, .ref (a 18)]) ⟨hx, hb, hml, hown, hts⟩ (c_M_front l dC dI cI cZ a _ s_30 y2_23 _ hw) (cwV 1 hts (gi_V (tm 371 rfl) (tm 372 rfl) (tm 373 rfl) (tm 320 rfl) (tm 374 rfl)) rfl rfl rfl (by decide +kernel) ⟨Nat.le_of_ble_eq_true rfl, Nat.le_of_ble_eq_true rfl⟩) (pW_V hK hP hD (ci := 6) (k := 0) rfl rfl) rfl rfl hl.1 rfl (lv_room (Nat.le_of_ble_eq_true rfl)) d_M_ask_62 ⟨Nat.zero_le _, Nat.zero_le _⟩) hP hS hA (fun r_31 H locs hw hP hT => ?_)
                  have hS := hT _ hA hS
                  refine lv_bipush (v := 16) hx hb d_M_ask_65 (by decide) ?_
                  refine lv_idiv hx hb d_M_ask_67 (by decide) ?_
                  obtain ⟨hin, hw⟩ := hw
                  refine st_i (w := wM cI cZ a) hx hb hK hP hD hS 18 0 rfl rfl rfl hin d_M_ask_68 (fun s_32 e_32 H locs hP hD hS => ?_)
                  have hw := hw s_32 e_32
                  refine lv_iinc (v := y2_23 + 1) (lv' := [(2, .int (y2_23 + 1)), (3, .int r_28), (0, .ref (a 0)), (1, .int y1_21)]) hx hb d_M_ask_69 hl (k := 3) rfl rfl (by decide) rfl (fun ls hl => ?_)
                  refine lv_goto (tgt := 12) hx hb d_M_ask_72 (by decide) ?_
                  exact ih_23 s_32 (y2_23 + 1) _ _ _ hw hP hD hS (lv_sub hl [2, 3, 0] rfl)
        exact lp_23 k_23 σ_21 0 _ _ _ hw hP hD hS (lv_sub hl [1, 2, 0] rfl)
  exact lp_21 k_21 σ 0 _ _ _ hw hP hD hS (lv_sub hl [1, 0] rfl)
set_option maxHeartbeats 4000000 in
set_option maxRecDepth 100000 in
theorem c_M_mover (l : Launch) (dC : Nat → ClassId) (dI : Nat → Nat → Nat) (cI cZ : ClassId) (a : Nat → Nat) (sz : Nat) (σ : SS) (x1 : Int32) (post : Int32 → Prop) (hw : wp_M_mover σ x1 post) : Met l y_M_mover (.code y_M_mover b_M_mover 4 (some .int) :: TT) { frames := 2, cells := 0, slots := 0, locals := 43 } (pW (dC, dI) clsT (tyT cI cZ) [.ref (a 0), .int x1] sz (wM cI cZ a σ)) (va_Qi (fun r (_ : Unit) => post r) (fun _ _ => True) (fun q => sz ≤ q)) 0 0 (fun q => sz ≤ q) := by
  refine hdr (Qf := fun A => (va_Qi (fun r (_ : Unit) => post r) (fun _ _ => True) A)) (by decide) (Nat.le_of_ble_eq_true rfl) ?_
  intro p e s m below meth c A ls hx hb hr hts hown hlocks hml hK hP hD hS hA hl
  have hown : s.vm.findClass R_M = some m.cls := hown
  have hl : lv_has ls 4 [(0, .ref (a 0)), (1, .int x1)] := hl
  rw [wp_M_mover] at hw
  refine lv_iconst (v := 1) hx hb d_M_mover_0 (by decide) ?_
  refine lv_istore_n (lv' := [(2, .int 1), (0, .ref (a 0)), (1, .int x1)]) hx hb d_M_mover_1 rfl hl (by decide) rfl (fun ls hl => ?_)
  obtain ⟨k_9, hw⟩ := hw
  have hE_9 : ∀ (y2_9 : Int32) (H : Heap) (locs : List Loc) (ls : Array Slot), we_M_mover_72 σ post → va_P (dC, dI) clsT (wM cI cZ a σ) H → va_S A s.heap H locs → lv_has ls 4 [] → W p l e { frames := 2, cells := 0, slots := 0, locals := 43 } s m ([.ref (a 0), .int x1] : List Value).toArray below meth c H locs 0 0 (MQ below (va_Qi (fun r (_ : Unit) => post r) (fun _ _ => True) A) ([.ref (a 0), .int x1] : List Value).toArray s 0 0 A) (F0 m 72 ls []) := by
    intro y2_9 H locs ls hw hP hS hl
    rw [we_M_mover_72] at hw
    refine lv_iconst (v := (-1)) hx hb d_M_mover_72 (by decide) ?_
    exact rr_i hx hb hr hlocks hS d_M_mover_73 hw
  have lp_9 : ∀ (kf_9 : Nat) (y2_9 : Int32) (H : Heap) (locs : List Loc) (ls : Array Slot), wl_M_mover_2 σ x1 (fun y2 => we_M_mover_72 σ post) post kf_9 y2_9 → va_P (dC, dI) clsT (wM cI cZ a σ) H → va_S A s.heap H locs → lv_has ls 4 [(0, .ref (a 0)), (1, .int x1), (2, .int y2_9)] → W p l e { frames := 2, cells := 0, slots := 0, locals := 43 } s m ([.ref (a 0), .int x1] : List Value).toArray below meth c H locs 0 0 (MQ below (va_Qi (fun r (_ : Unit) => post r) (fun _ _ => True) A) ([.ref (a 0), .int x1] : List Value).toArray s 0 0 A) (F0 m 2 ls []) := by
    intro kf_9
    induction kf_9 with
    | zero => intro y2_9 H locs ls hw; rw [wl_M_mover_2] at hw; exact hw.elim
    | succ kf_9 ih_9 =>
      intro y2_9 H locs ls hw hP hS hl
      rw [wl_M_mover_2] at hw
      refine lv_iload_n hx hb d_M_mover_2 rfl (lv_at hl 2 rfl) ?_
      refine lv_iconst (v := 4) hx hb d_M_mover_3 (by decide) ?_
      refine lv_icmp_gt (tgt := 72) hx hb d_M_mover_4 (by decide) (fun c_10 => ?_) (fun c_10 => ?_)
      · have hw := hw.1 c_10
        exact hE_9 y2_9 _ _ _ hw hP hS (lv_sub hl [] rfl)
      · have hw := hw.2 c_10
        refine lv_iconst (v := 4) hx hb d_M_mover_7 (by decide) ?_
        refine lv_iload_n hx hb d_M_mover_8 rfl (lv_at hl 1 rfl) ?_
        refine lv_imul hx hb d_M_mover_9 ?_
        refine lv_aload_n hx hb d_M_mover_10 rfl (lv_at hl 0 rfl) ?_
        refine va_get (D := (dC, dI)) (ci := 6) (v := .ref (a 5)) (C := R_M) (T := F_M) (N := 30) hx hb hts in_M hown hK hP 0 rfl rfl 13 (by decide) (hts (.fieldLink R_M 23 R_M "last" "[I") (tm 384 rfl)) (fun _ h9 => h9) rfl d_M_mover_11 ?_
        refine lv_iload_n hx hb d_M_mover_14 rfl (lv_at hl 1 rfl) ?_
        obtain ⟨hin, hw⟩ := hw
        refine va_iald hx hb hK hP 5 0 rfl rfl hin d_M_mover_15 ?_
        refine lv_iload_n hx hb d_M_mover_16 rfl (lv_at hl 2 rfl) ?_
        refine lv_iadd hx hb d_M_mover_17 ?_
        refine lv_iconst (v := 4) hx hb d_M_mover_18 (by decide) ?_
        refine lv_iadd hx hb d_M_mover_19 ?_
        refine lv_iconst (v := 4) hx hb d_M_mover_20 (by decide) ?_
        refine lv_irem hx hb d_M_mover_21 (by decide) ?_
        refine lv_iadd hx hb d_M_mover_22 ?_
        refine lv_topi (fun v_11 ev_11 => ?_)
        have hw := hw v_11 ev_11
        refine lv_istore_n (lv' := [(3, .int v_11), (0, .ref (a 0)), (1, .int x1), (2, .int y2_9)]) hx hb d_M_mover_23 rfl hl (by decide) rfl (fun ls hl => ?_)
        refine lv_aload_n hx hb d_M_mover_24 rfl (lv_at hl 1 rfl) ?_
        refine lv_iload_n hx hb d_M_mover_25 rfl (lv_at hl 0 rfl) ?_
        refine cl_r (va_runV (As := [.int v_11]) (rest := []) ⟨hx, hb, hml, hown, hts⟩ (c_M_isChannel l dC dI cI cZ a _ σ v_11 _ hw) (cwV 1 hts (gi_V (tm 336 rfl) (tm 337 rfl) (tm 338 rfl) (tm 320 rfl) (tm 339 rfl)) rfl rfl rfl (by decide +kernel) ⟨Nat.le_of_ble_eq_true rfl, Nat.le_of_ble_eq_true rfl⟩) (pW_V hK hP hD (ci := 6) (k := 0) rfl rfl) rfl rfl hl.1 rfl (lv_room (Nat.le_of_ble_eq_true rfl)) d_M_mover_26 ⟨Nat.zero_le _, Nat.zero_le _⟩) hP hS hA (fun r_12 H locs hw hP hT => ?_)
        have hS := hT _ hA hS
        refine lv_if_eq (tgt := 66) hx hb d_M_mover_29 (by decide) (fun c_13 => ?_) (fun c_13 => ?_)
        · have hw := hw.1 c_13
          refine lv_iinc (v := y2_9 + 1) (lv' := [(2, .int (y2_9 + 1)), (3, .int v_11), (0, .ref (a 0)), (1, .int x1)]) hx hb d_M_mover_66 hl (k := 3) rfl rfl (by decide) rfl (fun ls hl => ?_)
          refine lv_goto (tgt := 2) hx hb d_M_mover_69 (by decide) ?_
          exact ih_9 (y2_9 + 1) _ _ _ hw hP hS (lv_sub hl [2, 3, 0] rfl)
        · have hw := hw.2 c_13
          refine lv_aload_n hx hb d_M_mover_32 rfl (lv_at hl 1 rfl) ?_
          refine va_get (D := (dC, dI)) (ci := 6) (v := .ref (a 17)) (C := R_M) (T := F_M) (N := 30) hx hb hts in_M hown hK hP 0 rfl rfl 25 (by decide) (hts (.fieldLink R_M 59 R_M "holder" "[I") (tm 366 rfl)) (fun _ h9 => h9) rfl d_M_mover_33 ?_
          refine lv_iload_n hx hb d_M_mover_36 rfl (lv_at hl 0 rfl) ?_
          obtain ⟨hin, hw⟩ := hw
          refine va_iald hx hb hK hP 17 0 rfl rfl hin d_M_mover_37 ?_
          refine lv_if_lt (tgt := 66) hx hb d_M_mover_38 (by decide) (fun c_14 => ?_) (fun c_14 => ?_)
          · have hw := hw.1 c_14
            refine lv_iinc (v := y2_9 + 1) (lv' := [(2, .int (y2_9 + 1)), (3, .int v_11), (0, .ref (a 0)), (1, .int x1)]) hx hb d_M_mover_66 hl (k := 3) rfl rfl (by decide) rfl (fun ls hl => ?_)
            refine lv_goto (tgt := 2) hx hb d_M_mover_69 (by decide) ?_
            exact ih_9 (y2_9 + 1) _ _ _ hw hP hS (lv_sub hl [2, 3, 0] rfl)
          · have hw := hw.2 c_14
            refine lv_aload_n hx hb d_M_mover_41 rfl (lv_at hl 1 rfl) ?_
            refine lv_aload_n hx hb d_M_mover_42 rfl (lv_at hl 1 rfl) ?_
            refine va_get (D := (dC, dI)) (ci := 6) (v := .ref (a 17)) (C := R_M) (T := F_M) (N := 30) hx hb hts in_M hown hK hP 0 rfl rfl 25 (by decide) (hts (.fieldLink R_M 59 R_M "holder" "[I") (tm 366 rfl)) (fun _ h9 => h9) rfl d_M_mover_43 ?_
            refine lv_iload_n hx hb d_M_mover_46 rfl (lv_at hl 0 rfl) ?_
            obtain ⟨hin, hw⟩ := hw
            refine va_iald hx hb hK hP 17 0 rfl rfl hin d_M_mover_47 ?_
            refine cl_r (va_runV (As := [.int (σ 17 v_11.toNatClampNeg)]) (rest := []) ⟨hx, hb, hml, hown, hts⟩ (c_M_front l dC dI cI cZ a _ σ (σ 17 v_11.toNatClampNeg) _ hw) (cwV 1 hts (gi_V (tm 371 rfl) (tm 372 rfl) (tm 373 rfl) (tm 320 rfl) (tm 374 rfl)) rfl rfl rfl (by decide +kernel) ⟨Nat.le_of_ble_eq_true rfl, Nat.le_of_ble_eq_true rfl⟩) (pW_V hK hP hD (ci := 6) (k := 0) rfl rfl) rfl rfl hl.1 rfl (lv_room (Nat.le_of_ble_eq_true rfl)) d_M_mover_48 ⟨Nat.zero_le _, Nat.zero_le _⟩) hP hS hA (fun r_15 H locs hw hP hT => ?_)
            have hS := hT _ hA hS
            refine lv_if_lt (tgt := 66) hx hb d_M_mover_51 (by decide) (fun c_16 => ?_) (fun c_16 => ?_)
            · have hw := hw.1 c_16
              refine lv_iinc (v := y2_9 + 1) (lv' := [(2, .int (y2_9 + 1)), (3, .int v_11), (0, .ref (a 0)), (1, .int x1)]) hx hb d_M_mover_66 hl (k := 3) rfl rfl (by decide) rfl (fun ls hl => ?_)
              refine lv_goto (tgt := 2) hx hb d_M_mover_69 (by decide) ?_
              exact ih_9 (y2_9 + 1) _ _ _ hw hP hS (lv_sub hl [2, 3, 0] rfl)
            · have hw := hw.2 c_16
              refine lv_aload_n hx hb d_M_mover_54 rfl (lv_at hl 1 rfl) ?_
              refine va_get (D := (dC, dI)) (ci := 6) (v := .ref (a 13)) (C := R_M) (T := F_M) (N := 30) hx hb hts in_M hown hK hP 0 rfl rfl 21 (by decide) (hts (.fieldLink R_M 47 R_M "filled" "[I") (tm 358 rfl)) (fun _ h9 => h9) rfl d_M_mover_55 ?_
              refine lv_iload_n hx hb d_M_mover_58 rfl (lv_at hl 0 rfl) ?_
              obtain ⟨hin, hw⟩ := hw
              refine va_iald hx hb hK hP 13 0 rfl rfl hin d_M_mover_59 ?_
              refine lv_iconst (v := 4) hx hb d_M_mover_60 (by decide) ?_
              refine lv_icmp_ge (tgt := 66) hx hb d_M_mover_61 (by decide) (fun c_17 => ?_) (fun c_17 => ?_)
              · have hw := hw.1 c_17
                refine lv_iinc (v := y2_9 + 1) (lv' := [(2, .int (y2_9 + 1)), (3, .int v_11), (0, .ref (a 0)), (1, .int x1)]) hx hb d_M_mover_66 hl (k := 3) rfl rfl (by decide) rfl (fun ls hl => ?_)
                refine lv_goto (tgt := 2) hx hb d_M_mover_69 (by decide) ?_
                exact ih_9 (y2_9 + 1) _ _ _ hw hP hS (lv_sub hl [2, 3, 0] rfl)
              · have hw := hw.2 c_17
                refine lv_iload_n hx hb d_M_mover_64 rfl (lv_at hl 0 rfl) ?_
                exact rr_i hx hb hr hlocks hS d_M_mover_65 hw
  exact lp_9 k_9 1 _ _ _ hw hP hS (lv_sub hl [1, 2, 0] rfl)
set_option maxHeartbeats 4000000 in
set_option maxRecDepth 100000 in
theorem c_M_move (l : Launch) (dC : Nat → ClassId) (dI : Nat → Nat → Nat) (cI cZ : ClassId) (a : Nat → Nat) (sz : Nat) (σ : SS) (x1 : Int32) (post : SS → Prop) (hw : wp_M_move σ x1 post) : Met l y_M_move (.code y_M_move b_M_move 4 none :: TT) { frames := 3, cells := 0, slots := 0, locals := 66 } (pW (dC, dI) clsT (tyT cI cZ) [.ref (a 0), .int x1] sz (wM cI cZ a σ)) (va_Qv post (bW (dC, dI) clsT (tyT cI cZ) (wM cI cZ a) (va_A (wM cI cZ a σ) sz)) (va_A (wM cI cZ a σ) sz)) 0 0 (va_A (wM cI cZ a σ) sz) := by
  refine hd (Qf := fun A => (va_Qv post (bW (dC, dI) clsT (tyT cI cZ) (wM cI cZ a) A) A)) (by decide) (Nat.le_of_ble_eq_true rfl) ?_
  intro p e s m below meth c A ls hx hb hr hts hown hlocks hml hK hP hD hS hA hl
  have hown : s.vm.findClass R_M = some m.cls := hown
  have hl : lv_has ls 4 [(0, .ref (a 0)), (1, .int x1)] := hl
  rw [wp_M_move] at hw
  refine lv_aload_n hx hb d_M_move_0 rfl (lv_at hl 0 rfl) ?_
  refine lv_iload_n hx hb d_M_move_1 rfl (lv_at hl 1 rfl) ?_
  refine cl_r (va_runV (As := [.int x1]) (rest := []) ⟨hx, hb, hml, hown, hts⟩ (c_M_mover l dC dI cI cZ a _ σ x1 _ hw) (cwV 1 hts (gi_V (tm 391 rfl) (tm 392 rfl) (tm 393 rfl) (tm 320 rfl) (tm 394 rfl)) rfl rfl rfl (by decide +kernel) ⟨Nat.le_of_ble_eq_true rfl, Nat.le_of_ble_eq_true rfl⟩) (pW_V hK hP hD (ci := 6) (k := 0) rfl rfl) rfl rfl hl.1 rfl (lv_room (Nat.le_of_ble_eq_true rfl)) d_M_move_2 ⟨Nat.zero_le _, Nat.zero_le _⟩) hP hS hA (fun r_1 H locs hw hP hT => ?_)
  have hS := hT _ hA hS
  refine lv_istore_n (lv' := [(2, .int r_1), (0, .ref (a 0)), (1, .int x1)]) hx hb d_M_move_5 rfl hl (by decide) rfl (fun ls hl => ?_)
  refine lv_iload_n hx hb d_M_move_6 rfl (lv_at hl 0 rfl) ?_
  refine lv_if_ge (tgt := 11) hx hb d_M_move_7 (by decide) (fun c_2 => ?_) (fun c_2 => ?_)
  · have hw := hw.1 c_2
    refine lv_aload_n hx hb d_M_move_11 rfl (lv_at hl 1 rfl) ?_
    refine lv_aload_n hx hb d_M_move_12 rfl (lv_at hl 1 rfl) ?_
    refine va_get (D := (dC, dI)) (ci := 6) (v := .ref (a 17)) (C := R_M) (T := F_M) (N := 30) hx hb hts in_M hown hK hP 0 rfl rfl 25 (by decide) (hts (.fieldLink R_M 59 R_M "holder" "[I") (tm 366 rfl)) (fun _ h9 => h9) rfl d_M_move_13 ?_
    refine lv_iload_n hx hb d_M_move_16 rfl (lv_at hl 0 rfl) ?_
    obtain ⟨hin, hw⟩ := hw
    refine va_iald hx hb hK hP 17 0 rfl rfl hin d_M_move_17 ?_
    refine cl_r (va_runV (As := [.int (σ 17 r_1.toNatClampNeg)]) (rest := []) ⟨hx, hb, hml, hown, hts⟩ (c_M_front l dC dI cI cZ a _ σ (σ 17 r_1.toNatClampNeg) _ hw) (cwV 1 hts (gi_V (tm 371 rfl) (tm 372 rfl) (tm 373 rfl) (tm 320 rfl) (tm 374 rfl)) rfl rfl rfl (by decide +kernel) ⟨Nat.le_of_ble_eq_true rfl, Nat.le_of_ble_eq_true rfl⟩) (pW_V hK hP hD (ci := 6) (k := 0) rfl rfl) rfl rfl hl.1 rfl (lv_room (Nat.le_of_ble_eq_true rfl)) d_M_move_18 ⟨Nat.zero_le _, Nat.zero_le _⟩) hP hS hA (fun r_3 H locs hw hP hT => ?_)
    have hS := hT _ hA hS
    refine lv_istore_n (lv' := [(3, .int r_3), (2, .int r_1), (0, .ref (a 0)), (1, .int x1)]) hx hb d_M_move_21 rfl hl (by decide) rfl (fun ls hl => ?_)
    refine lv_aload_n hx hb d_M_move_22 rfl (lv_at hl 2 rfl) ?_
    refine lv_aload_n hx hb d_M_move_23 rfl (lv_at hl 2 rfl) ?_
    refine va_get (D := (dC, dI)) (ci := 6) (v := .ref (a 17)) (C := R_M) (T := F_M) (N := 30) hx hb hts in_M hown hK hP 0 rfl rfl 25 (by decide) (hts (.fieldLink R_M 59 R_M "holder" "[I") (tm 366 rfl)) (fun _ h9 => h9) rfl d_M_move_24 ?_
    refine lv_iload_n hx hb d_M_move_27 rfl (lv_at hl 1 rfl) ?_
    obtain ⟨hin, hw⟩ := hw
    refine va_iald hx hb hK hP 17 0 rfl rfl hin d_M_move_28 ?_
    refine lv_iload_n hx hb d_M_move_29 rfl (lv_at hl 0 rfl) ?_
    refine cl_v (va_runV (As := [.int (σ 17 r_1.toNatClampNeg), .int r_3]) (rest := []) ⟨hx, hb, hml, hown, hts⟩ (c_M_take l dC dI cI cZ a _ σ (σ 17 r_1.toNatClampNeg) r_3 _ hw) (cwV 2 hts (gi_V (tm 387 rfl) (tm 388 rfl) (tm 389 rfl) (tm 320 rfl) (tm 390 rfl)) rfl rfl rfl (by decide +kernel) ⟨Nat.le_of_ble_eq_true rfl, Nat.le_of_ble_eq_true rfl⟩) (pW_V hK hP hD (ci := 6) (k := 0) rfl rfl) rfl rfl hl.1 rfl (lv_room (Nat.le_of_ble_eq_true rfl)) d_M_move_30 ⟨Nat.zero_le _, Nat.zero_le _⟩) hD hS hA (fun σ_4 H locs hw hP hD hS => ?_)
    refine lv_aload_n hx hb d_M_move_33 rfl (lv_at hl 2 rfl) ?_
    refine va_get (D := (dC, dI)) (ci := 6) (v := .ref (a 14)) (C := R_M) (T := F_M) (N := 30) hx hb hts in_M hown hK hP 0 rfl rfl 22 (by decide) (hts (.fieldLink R_M 50 R_M "flit" "[I") (tm 361 rfl)) (fun _ h9 => h9) rfl d_M_move_34 ?_
    refine lv_iconst (v := 4) hx hb d_M_move_37 (by decide) ?_
    refine lv_iload_n hx hb d_M_move_38 rfl (lv_at hl 1 rfl) ?_
    refine lv_imul hx hb d_M_move_39 ?_
    refine lv_aload_n hx hb d_M_move_40 rfl (lv_at hl 2 rfl) ?_
    refine va_get (D := (dC, dI)) (ci := 6) (v := .ref (a 13)) (C := R_M) (T := F_M) (N := 30) hx hb hts in_M hown hK hP 0 rfl rfl 21 (by decide) (hts (.fieldLink R_M 47 R_M "filled" "[I") (tm 358 rfl)) (fun _ h9 => h9) rfl d_M_move_41 ?_
    refine lv_iload_n hx hb d_M_move_44 rfl (lv_at hl 1 rfl) ?_
    obtain ⟨hin, hw⟩ := hw
    refine va_iald hx hb hK hP 13 0 rfl rfl hin d_M_move_45 ?_
    refine lv_iadd hx hb d_M_move_46 ?_
    refine lv_iload_n hx hb d_M_move_47 rfl (lv_at hl 0 rfl) ?_
    obtain ⟨hin, hw⟩ := hw
    refine st_i (w := wM cI cZ a) hx hb hK hP hD hS 14 0 rfl rfl rfl hin d_M_move_48 (fun s_5 e_5 H locs hP hD hS => ?_)
    have hw := hw s_5 e_5
    refine lv_aload_n hx hb d_M_move_49 rfl (lv_at hl 2 rfl) ?_
    refine va_get (D := (dC, dI)) (ci := 6) (v := .ref (a 15)) (C := R_M) (T := F_M) (N := 30) hx hb hts in_M hown hK hP 0 rfl rfl 23 (by decide) (hts (.fieldLink R_M 53 R_M "since" "[I") (tm 359 rfl)) (fun _ h9 => h9) rfl d_M_move_50 ?_
    refine lv_iconst (v := 4) hx hb d_M_move_53 (by decide) ?_
    refine lv_iload_n hx hb d_M_move_54 rfl (lv_at hl 1 rfl) ?_
    refine lv_imul hx hb d_M_move_55 ?_
    refine lv_aload_n hx hb d_M_move_56 rfl (lv_at hl 2 rfl) ?_
    refine va_get (D := (dC, dI)) (ci := 6) (v := .ref (a 13)) (C := R_M) (T := F_M) (N := 30) hx hb hts in_M hown hK hP 0 rfl rfl 21 (by decide) (hts (.fieldLink R_M 47 R_M "filled" "[I") (tm 358 rfl)) (fun _ h9 => h9) rfl d_M_move_57 ?_
    refine lv_iload_n hx hb d_M_move_60 rfl (lv_at hl 1 rfl) ?_
    obtain ⟨hin, hw⟩ := hw
    refine va_iald hx hb hK hP 13 0 rfl rfl hin d_M_move_61 ?_
    refine lv_iadd hx hb d_M_move_62 ?_
    refine lv_aload_n hx hb d_M_move_63 rfl (lv_at hl 2 rfl) ?_
    refine va_get (D := (dC, dI)) (ci := 6) (v := .int (s_5 0 5)) (C := R_M) (T := F_M) (N := 30) hx hb hts in_M hown hK hP 0 rfl rfl 5 (by decide) (hts (.fieldLink R_M 116 R_M "cycle" "I") (tm 360 rfl)) (fun _ h9 => h9) rfl d_M_move_64 ?_
    obtain ⟨hin, hw⟩ := hw
    refine st_i (w := wM cI cZ a) hx hb hK hP hD hS 15 0 rfl rfl rfl hin d_M_move_67 (fun s_6 e_6 H locs hP hD hS => ?_)
    have hw := hw s_6 e_6
    refine lv_aload_n hx hb d_M_move_68 rfl (lv_at hl 2 rfl) ?_
    refine va_get (D := (dC, dI)) (ci := 6) (v := .ref (a 13)) (C := R_M) (T := F_M) (N := 30) hx hb hts in_M hown hK hP 0 rfl rfl 21 (by decide) (hts (.fieldLink R_M 47 R_M "filled" "[I") (tm 358 rfl)) (fun _ h9 => h9) rfl d_M_move_69 ?_
    refine lv_iload_n hx hb d_M_move_72 rfl (lv_at hl 1 rfl) ?_
    refine lv_dup2_11 hx hb d_M_move_73 rfl rfl ?_
    obtain ⟨hin, hw⟩ := hw
    refine va_iald hx hb hK hP 13 0 rfl rfl hin d_M_move_74 ?_
    refine lv_iconst (v := 1) hx hb d_M_move_75 (by decide) ?_
    refine lv_iadd hx hb d_M_move_76 ?_
    obtain ⟨hin, hw⟩ := hw
    refine st_i (w := wM cI cZ a) hx hb hK hP hD hS 13 0 rfl rfl rfl hin d_M_move_77 (fun s_7 e_7 H locs hP hD hS => ?_)
    have hw := hw s_7 e_7
    refine lv_aload_n hx hb d_M_move_78 rfl (lv_at hl 2 rfl) ?_
    refine lv_dup hx hb d_M_move_79 rfl ?_
    refine va_get (D := (dC, dI)) (ci := 6) (v := .int (s_7 0 6)) (C := R_M) (T := F_M) (N := 30) hx hb hts in_M hown hK hP 0 rfl rfl 6 (by decide) (hts (.fieldLink R_M 142 R_M "moved" "I") (tm 385 rfl)) (fun _ h9 => h9) rfl d_M_move_80 ?_
    refine lv_iconst (v := 1) hx hb d_M_move_83 (by decide) ?_
    refine lv_iadd hx hb d_M_move_84 ?_
    refine st_f (D := (dC, dI)) (w := wM cI cZ a) (ci := 6) (C := R_M) (T := F_M) (N := 30) hx hb hts in_M t_M t_M_ok n_M hown hK hP hD hS 0 rfl rfl 6 (by decide) (hts (.fieldLink R_M 142 R_M "moved" "I") (tm 385 rfl)) (fun _ h9 => h9) rfl (by decide +kernel) (Nat.le_of_ble_eq_true rfl) rfl d_M_move_85 (fun s_8 e_8 H locs hP hD hS => ?_)
    have hw := hw s_8 e_8
    refine lv_aload_n hx hb d_M_move_88 rfl (lv_at hl 2 rfl) ?_
    refine va_get (D := (dC, dI)) (ci := 6) (v := .ref (a 16)) (C := R_M) (T := F_M) (N := 30) hx hb hts in_M hown hK hP 0 rfl rfl 24 (by decide) (hts (.fieldLink R_M 56 R_M "passed" "[I") (tm 386 rfl)) (fun _ h9 => h9) rfl d_M_move_89 ?_
    refine lv_iload_n hx hb d_M_move_92 rfl (lv_at hl 1 rfl) ?_
    refine lv_dup2_11 hx hb d_M_move_93 rfl rfl ?_
    obtain ⟨hin, hw⟩ := hw
    refine va_iald hx hb hK hP 16 0 rfl rfl hin d_M_move_94 ?_
    refine lv_iconst (v := 1) hx hb d_M_move_95 (by decide) ?_
    refine lv_iadd hx hb d_M_move_96 ?_
    obtain ⟨hin, hw⟩ := hw
    refine st_i (w := wM cI cZ a) hx hb hK hP hD hS 16 0 rfl rfl rfl hin d_M_move_97 (fun s_9 e_9 H locs hP hD hS => ?_)
    have hw := hw s_9 e_9
    refine lv_aload_n hx hb d_M_move_98 rfl (lv_at hl 2 rfl) ?_
    refine va_get (D := (dC, dI)) (ci := 6) (v := .ref (a 5)) (C := R_M) (T := F_M) (N := 30) hx hb hts in_M hown hK hP 0 rfl rfl 13 (by decide) (hts (.fieldLink R_M 23 R_M "last" "[I") (tm 384 rfl)) (fun _ h9 => h9) rfl d_M_move_99 ?_
    refine lv_iload_n hx hb d_M_move_102 rfl (lv_at hl 3 rfl) ?_
    refine lv_iload_n hx hb d_M_move_103 rfl (lv_at hl 1 rfl) ?_
    refine lv_iconst (v := 4) hx hb d_M_move_104 (by decide) ?_
    refine lv_irem hx hb d_M_move_105 (by decide) ?_
    obtain ⟨hin, hw⟩ := hw
    refine st_i (w := wM cI cZ a) hx hb hK hP hD hS 5 0 rfl rfl rfl hin d_M_move_106 (fun s_10 e_10 H locs hP hD hS => ?_)
    have hw := hw s_10 e_10
    refine lv_iload_n hx hb d_M_move_107 rfl (lv_at hl 0 rfl) ?_
    refine lv_bipush (v := 16) hx hb d_M_move_108 (by decide) ?_
    refine lv_irem hx hb d_M_move_110 (by decide) ?_
    refine lv_aload_n hx hb d_M_move_111 rfl (lv_at hl 2 rfl) ?_
    refine va_get (D := (dC, dI)) (ci := 6) (v := .ref (a 9)) (C := R_M) (T := F_M) (N := 30) hx hb hts in_M hown hK hP 0 rfl rfl 17 (by decide) (hts (.fieldLink R_M 35 R_M "size" "[I") (tm 344 rfl)) (fun _ h9 => h9) rfl d_M_move_112 ?_
    refine lv_iload_n hx hb d_M_move_115 rfl (lv_at hl 0 rfl) ?_
    refine lv_bipush (v := 16) hx hb d_M_move_116 (by decide) ?_
    refine lv_idiv hx hb d_M_move_118 (by decide) ?_
    obtain ⟨hin, hw⟩ := hw
    refine va_iald hx hb hK hP 9 0 rfl rfl hin d_M_move_119 ?_
    refine lv_iconst (v := 1) hx hb d_M_move_120 (by decide) ?_
    refine lv_isub hx hb d_M_move_121 ?_
    refine lv_icmp_ne (tgt := 139) hx hb d_M_move_122 (by decide) (fun c_11 => ?_) (fun c_11 => ?_)
    · have hw := hw.1 c_11
      exact rt_v (w := wM cI cZ a) hx hb hr hlocks hK hP hD hS d_M_move_139 hw
    · have hw := hw.2 c_11
      refine lv_aload_n hx hb d_M_move_125 rfl (lv_at hl 2 rfl) ?_
      refine va_get (D := (dC, dI)) (ci := 6) (v := .ref (a 17)) (C := R_M) (T := F_M) (N := 30) hx hb hts in_M hown hK hP 0 rfl rfl 25 (by decide) (hts (.fieldLink R_M 59 R_M "holder" "[I") (tm 366 rfl)) (fun _ h9 => h9) rfl d_M_move_126 ?_
      refine lv_iload_n hx hb d_M_move_129 rfl (lv_at hl 1 rfl) ?_
      refine lv_iconst (v := (-1)) hx hb d_M_move_130 (by decide) ?_
      obtain ⟨hin, hw⟩ := hw
      refine st_i (w := wM cI cZ a) hx hb hK hP hD hS 17 0 rfl rfl rfl hin d_M_move_131 (fun s_12 e_12 H locs hP hD hS => ?_)
      have hw := hw s_12 e_12
      refine lv_aload_n hx hb d_M_move_132 rfl (lv_at hl 2 rfl) ?_
      refine va_get (D := (dC, dI)) (ci := 6) (v := .ref (a 18)) (C := R_M) (T := F_M) (N := 30) hx hb hts in_M hown hK hP 0 rfl rfl 26 (by decide) (hts (.fieldLink R_M 62 R_M "holding" "[I") (tm 375 rfl)) (fun _ h9 => h9) rfl d_M_move_133 ?_
      refine lv_iload_n hx hb d_M_move_136 rfl (lv_at hl 1 rfl) ?_
      refine lv_iconst (v := (-1)) hx hb d_M_move_137 (by decide) ?_
      obtain ⟨hin, hw⟩ := hw
      refine st_i (w := wM cI cZ a) hx hb hK hP hD hS 18 0 rfl rfl rfl hin d_M_move_138 (fun s_13 e_13 H locs hP hD hS => ?_)
      have hw := hw s_13 e_13
      exact rt_v (w := wM cI cZ a) hx hb hr hlocks hK hP hD hS d_M_move_139 hw
  · have hw := hw.2 c_2
    exact rt_v (w := wM cI cZ a) hx hb hr hlocks hK hP hD hS d_M_move_10 hw
set_option maxHeartbeats 4000000 in
set_option maxRecDepth 100000 in
theorem c_M_leave (l : Launch) (dC : Nat → ClassId) (dI : Nat → Nat → Nat) (cI cZ : ClassId) (a : Nat → Nat) (sz : Nat) (σ : SS) (x1 : Int32) (x2 : Int32) (post : SS → Prop) (hw : wp_M_leave σ x1 x2 post) : Met l y_M_leave (.code y_M_leave b_M_leave 4 none :: TT) { frames := 1, cells := 0, slots := 0, locals := 24 } (pW (dC, dI) clsT (tyT cI cZ) [.ref (a 0), .int x1, .int x2] sz (wM cI cZ a σ)) (va_Qv post (bW (dC, dI) clsT (tyT cI cZ) (wM cI cZ a) (va_A (wM cI cZ a σ) sz)) (va_A (wM cI cZ a σ) sz)) 0 0 (va_A (wM cI cZ a σ) sz) := by
  refine hd (Qf := fun A => (va_Qv post (bW (dC, dI) clsT (tyT cI cZ) (wM cI cZ a) A) A)) (by decide) (Nat.le_of_ble_eq_true rfl) ?_
  intro p e s m below meth c A ls hx hb hr hts hown hlocks hml hK hP hD hS hA hl
  have hown : s.vm.findClass R_M = some m.cls := hown
  have hl : lv_has ls 4 [(0, .ref (a 0)), (1, .int x1), (2, .int x2)] := hl
  rw [wp_M_leave] at hw
  refine lv_aload_n hx hb d_M_leave_0 rfl (lv_at hl 0 rfl) ?_
  refine lv_iload_n hx hb d_M_leave_1 rfl (lv_at hl 1 rfl) ?_
  refine cl_r (va_runV (As := [.int x1]) (rest := []) ⟨hx, hb, hml, hown, hts⟩ (c_M_front l dC dI cI cZ a _ σ x1 _ hw) (cwV 1 hts (gi_V (tm 371 rfl) (tm 372 rfl) (tm 373 rfl) (tm 320 rfl) (tm 374 rfl)) rfl rfl rfl (by decide +kernel) ⟨Nat.le_of_ble_eq_true rfl, Nat.le_of_ble_eq_true rfl⟩) (pW_V hK hP hD (ci := 6) (k := 0) rfl rfl) rfl rfl hl.1 rfl (lv_room (Nat.le_of_ble_eq_true rfl)) d_M_leave_2 ⟨Nat.zero_le _, Nat.zero_le _⟩) hP hS hA (fun r_1 H locs hw hP hT => ?_)
  have hS := hT _ hA hS
  refine lv_istore_n (lv' := [(3, .int r_1), (0, .ref (a 0)), (1, .int x1), (2, .int x2)]) hx hb d_M_leave_5 rfl hl (by decide) rfl (fun ls hl => ?_)
  refine lv_iload_n hx hb d_M_leave_6 rfl (lv_at hl 0 rfl) ?_
  refine lv_if_lt (tgt := 23) hx hb d_M_leave_7 (by decide) (fun c_2 => ?_) (fun c_2 => ?_)
  · have hw := hw.1 c_2
    exact rt_v (w := wM cI cZ a) hx hb hr hlocks hK hP hD hS d_M_leave_23 hw
  · have hw := hw.2 c_2
    refine lv_aload_n hx hb d_M_leave_10 rfl (lv_at hl 1 rfl) ?_
    refine va_get (D := (dC, dI)) (ci := 6) (v := .ref (a 8)) (C := R_M) (T := F_M) (N := 30) hx hb hts in_M hown hK hP 0 rfl rfl 16 (by decide) (hts (.fieldLink R_M 32 R_M "end" "[I") (tm 343 rfl)) (fun _ h9 => h9) rfl d_M_leave_11 ?_
    refine lv_iload_n hx hb d_M_leave_14 rfl (lv_at hl 0 rfl) ?_
    refine lv_bipush (v := 16) hx hb d_M_leave_15 (by decide) ?_
    refine lv_idiv hx hb d_M_leave_17 (by decide) ?_
    obtain ⟨hin, hw⟩ := hw
    refine va_iald hx hb hK hP 8 0 rfl rfl hin d_M_leave_18 ?_
    refine lv_iload_n hx hb d_M_leave_19 rfl (lv_at hl 3 rfl) ?_
    refine lv_icmp_eq (tgt := 24) hx hb d_M_leave_20 (by decide) (fun c_3 => ?_) (fun c_3 => ?_)
    · have hw := hw.1 c_3
      refine lv_aload_n hx hb d_M_leave_24 rfl (lv_at hl 1 rfl) ?_
      refine lv_iload_n hx hb d_M_leave_25 rfl (lv_at hl 2 rfl) ?_
      refine lv_iload_n hx hb d_M_leave_26 rfl (lv_at hl 0 rfl) ?_
      refine cl_v (va_runV (As := [.int x1, .int r_1]) (rest := []) ⟨hx, hb, hml, hown, hts⟩ (c_M_take l dC dI cI cZ a _ σ x1 r_1 _ hw) (cwV 2 hts (gi_V (tm 387 rfl) (tm 388 rfl) (tm 389 rfl) (tm 320 rfl) (tm 390 rfl)) rfl rfl rfl (by decide +kernel) ⟨Nat.le_of_ble_eq_true rfl, Nat.le_of_ble_eq_true rfl⟩) (pW_V hK hP hD (ci := 6) (k := 0) rfl rfl) rfl rfl hl.1 rfl (lv_room (Nat.le_of_ble_eq_true rfl)) d_M_leave_27 ⟨Nat.zero_le _, Nat.zero_le _⟩) hD hS hA (fun σ_4 H locs hw hP hD hS => ?_)
      refine lv_aload_n hx hb d_M_leave_30 rfl (lv_at hl 1 rfl) ?_
      refine va_get (D := (dC, dI)) (ci := 6) (v := .ref (a 11)) (C := R_M) (T := F_M) (N := 30) hx hb hts in_M hown hK hP 0 rfl rfl 19 (by decide) (hts (.fieldLink R_M 41 R_M "gone" "[I") (tm 395 rfl)) (fun _ h9 => h9) rfl d_M_leave_31 ?_
      refine lv_iload_n hx hb d_M_leave_34 rfl (lv_at hl 0 rfl) ?_
      refine lv_bipush (v := 16) hx hb d_M_leave_35 (by decide) ?_
      refine lv_idiv hx hb d_M_leave_37 (by decide) ?_
      refine lv_dup2_11 hx hb d_M_leave_38 rfl rfl ?_
      obtain ⟨hin, hw⟩ := hw
      refine va_iald hx hb hK hP 11 0 rfl rfl hin d_M_leave_39 ?_
      refine lv_iconst (v := 1) hx hb d_M_leave_40 (by decide) ?_
      refine lv_iadd hx hb d_M_leave_41 ?_
      obtain ⟨hin, hw⟩ := hw
      refine st_i (w := wM cI cZ a) hx hb hK hP hD hS 11 0 rfl rfl rfl hin d_M_leave_42 (fun s_5 e_5 H locs hP hD hS => ?_)
      have hw := hw s_5 e_5
      refine lv_aload_n hx hb d_M_leave_43 rfl (lv_at hl 1 rfl) ?_
      refine lv_dup hx hb d_M_leave_44 rfl ?_
      refine va_get (D := (dC, dI)) (ci := 6) (v := .int (s_5 0 7)) (C := R_M) (T := F_M) (N := 30) hx hb hts in_M hown hK hP 0 rfl rfl 7 (by decide) (hts (.fieldLink R_M 145 R_M "left" "I") (tm 396 rfl)) (fun _ h9 => h9) rfl d_M_leave_45 ?_
      refine lv_iconst (v := 1) hx hb d_M_leave_48 (by decide) ?_
      refine lv_iadd hx hb d_M_leave_49 ?_
      refine st_f (D := (dC, dI)) (w := wM cI cZ a) (ci := 6) (C := R_M) (T := F_M) (N := 30) hx hb hts in_M t_M t_M_ok n_M hown hK hP hD hS 0 rfl rfl 7 (by decide) (hts (.fieldLink R_M 145 R_M "left" "I") (tm 396 rfl)) (fun _ h9 => h9) rfl (by decide +kernel) (Nat.le_of_ble_eq_true rfl) rfl d_M_leave_50 (fun s_6 e_6 H locs hP hD hS => ?_)
      have hw := hw s_6 e_6
      refine lv_iload_n hx hb d_M_leave_53 rfl (lv_at hl 0 rfl) ?_
      refine lv_bipush (v := 16) hx hb d_M_leave_54 (by decide) ?_
      refine lv_irem hx hb d_M_leave_56 (by decide) ?_
      refine lv_aload_n hx hb d_M_leave_57 rfl (lv_at hl 1 rfl) ?_
      refine va_get (D := (dC, dI)) (ci := 6) (v := .ref (a 9)) (C := R_M) (T := F_M) (N := 30) hx hb hts in_M hown hK hP 0 rfl rfl 17 (by decide) (hts (.fieldLink R_M 35 R_M "size" "[I") (tm 344 rfl)) (fun _ h9 => h9) rfl d_M_leave_58 ?_
      refine lv_iload_n hx hb d_M_leave_61 rfl (lv_at hl 0 rfl) ?_
      refine lv_bipush (v := 16) hx hb d_M_leave_62 (by decide) ?_
      refine lv_idiv hx hb d_M_leave_64 (by decide) ?_
      obtain ⟨hin, hw⟩ := hw
      refine va_iald hx hb hK hP 9 0 rfl rfl hin d_M_leave_65 ?_
      refine lv_iconst (v := 1) hx hb d_M_leave_66 (by decide) ?_
      refine lv_isub hx hb d_M_leave_67 ?_
      refine lv_icmp_ne (tgt := 94) hx hb d_M_leave_68 (by decide) (fun c_7 => ?_) (fun c_7 => ?_)
      · have hw := hw.1 c_7
        exact rt_v (w := wM cI cZ a) hx hb hr hlocks hK hP hD hS d_M_leave_94 hw
      · have hw := hw.2 c_7
        refine lv_aload_n hx hb d_M_leave_71 rfl (lv_at hl 1 rfl) ?_
        refine va_get (D := (dC, dI)) (ci := 6) (v := .ref (a 12)) (C := R_M) (T := F_M) (N := 30) hx hb hts in_M hown hK hP 0 rfl rfl 20 (by decide) (hts (.fieldLink R_M 44 R_M "came" "[I") (tm 397 rfl)) (fun _ h9 => h9) rfl d_M_leave_72 ?_
        refine lv_iload_n hx hb d_M_leave_75 rfl (lv_at hl 0 rfl) ?_
        refine lv_bipush (v := 16) hx hb d_M_leave_76 (by decide) ?_
        refine lv_idiv hx hb d_M_leave_78 (by decide) ?_
        refine lv_aload_n hx hb d_M_leave_79 rfl (lv_at hl 1 rfl) ?_
        refine va_get (D := (dC, dI)) (ci := 6) (v := .int (s_6 0 5)) (C := R_M) (T := F_M) (N := 30) hx hb hts in_M hown hK hP 0 rfl rfl 5 (by decide) (hts (.fieldLink R_M 116 R_M "cycle" "I") (tm 360 rfl)) (fun _ h9 => h9) rfl d_M_leave_80 ?_
        obtain ⟨hin, hw⟩ := hw
        refine st_i (w := wM cI cZ a) hx hb hK hP hD hS 12 0 rfl rfl rfl hin d_M_leave_83 (fun s_8 e_8 H locs hP hD hS => ?_)
        have hw := hw s_8 e_8
        refine lv_aload_n hx hb d_M_leave_84 rfl (lv_at hl 1 rfl) ?_
        refine lv_dup hx hb d_M_leave_85 rfl ?_
        refine va_get (D := (dC, dI)) (ci := 6) (v := .int (s_8 0 8)) (C := R_M) (T := F_M) (N := 30) hx hb hts in_M hown hK hP 0 rfl rfl 8 (by decide) (hts (.fieldLink R_M 148 R_M "arrived" "I") (tm 398 rfl)) (fun _ h9 => h9) rfl d_M_leave_86 ?_
        refine lv_iconst (v := 1) hx hb d_M_leave_89 (by decide) ?_
        refine lv_iadd hx hb d_M_leave_90 ?_
        refine st_f (D := (dC, dI)) (w := wM cI cZ a) (ci := 6) (C := R_M) (T := F_M) (N := 30) hx hb hts in_M t_M t_M_ok n_M hown hK hP hD hS 0 rfl rfl 8 (by decide) (hts (.fieldLink R_M 148 R_M "arrived" "I") (tm 398 rfl)) (fun _ h9 => h9) rfl (by decide +kernel) (Nat.le_of_ble_eq_true rfl) rfl d_M_leave_91 (fun s_9 e_9 H locs hP hD hS => ?_)
        have hw := hw s_9 e_9
        exact rt_v (w := wM cI cZ a) hx hb hr hlocks hK hP hD hS d_M_leave_94 hw
    · have hw := hw.2 c_3
      exact rt_v (w := wM cI cZ a) hx hb hr hlocks hK hP hD hS d_M_leave_23 hw
