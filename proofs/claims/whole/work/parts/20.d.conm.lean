set_option maxHeartbeats 4000000 in
set_option maxRecDepth 100000 in
theorem c_M_step (l : Launch) (dC : Nat → ClassId) (dI : Nat → Nat → Nat) (cI cZ : ClassId) (a : Nat → Nat) (sz : Nat) (σ : SS) (post : SS → Prop) (hw : wp_M_step σ post) : Met l y_M_step (.code y_M_step b_M_step 3 none :: TT) { frames := 4, cells := 0, slots := 0, locals := 89 } (pW (dC, dI) clsT (tyT cI cZ) [.ref (a 0)] sz (wM cI cZ a σ)) (va_Qv post (bW (dC, dI) clsT (tyT cI cZ) (wM cI cZ a) (va_A (wM cI cZ a σ) sz)) (va_A (wM cI cZ a σ) sz)) 0 0 (va_A (wM cI cZ a σ) sz) := by
  refine hd (Qf := fun A => (va_Qv post (bW (dC, dI) clsT (tyT cI cZ) (wM cI cZ a) A) A)) (by decide) (Nat.le_of_ble_eq_true rfl) ?_
  intro p e s m below meth c A ls hx hb hr hts hown hlocks hml hK hP hD hS hA hl
  have hown : s.vm.findClass R_M = some m.cls := hown
  have hl : lv_has ls 3 [(0, .ref (a 0))] := hl
  rw [wp_M_step] at hw
  refine lv_aload_n hx hb d_M_step_0 rfl (lv_at hl 0 rfl) ?_
  refine lv_dup hx hb d_M_step_1 rfl ?_
  refine va_get (D := (dC, dI)) (ci := 6) (v := .int (σ 0 5)) (C := R_M) (T := F_M) (N := 30) hx hb hts in_M hown hK hP 0 rfl rfl 5 (by decide) (hts (.fieldLink R_M 116 R_M "cycle" "I") (tm 360 rfl)) (fun _ h9 => h9) rfl d_M_step_2 ?_
  refine lv_iconst (v := 1) hx hb d_M_step_5 (by decide) ?_
  refine lv_iadd hx hb d_M_step_6 ?_
  refine st_f (D := (dC, dI)) (w := wM cI cZ a) (ci := 6) (C := R_M) (T := F_M) (N := 30) hx hb hts in_M t_M t_M_ok n_M hown hK hP hD hS 0 rfl rfl 5 (by decide) (hts (.fieldLink R_M 116 R_M "cycle" "I") (tm 360 rfl)) (fun _ h9 => h9) rfl (by decide +kernel) (Nat.le_of_ble_eq_true rfl) rfl d_M_step_7 (fun s_1 e_1 H locs hP hD hS => ?_)
  have hw := hw s_1 e_1
  refine lv_aload_n hx hb d_M_step_10 rfl (lv_at hl 0 rfl) ?_
  refine cl_v (va_runV (As := []) (rest := []) ⟨hx, hb, hml, hown, hts⟩ (c_M_ask l dC dI cI cZ a _ s_1 _ hw) (cwV 0 hts (gi_V (tm 407 rfl) (tm 408 rfl) (tm 409 rfl) (tm 320 rfl) (tm 410 rfl)) rfl rfl rfl (by decide +kernel) ⟨Nat.le_of_ble_eq_true rfl, Nat.le_of_ble_eq_true rfl⟩) (pW_V hK hP hD (ci := 6) (k := 0) rfl rfl) rfl rfl hl.1 rfl (lv_room (Nat.le_of_ble_eq_true rfl)) d_M_step_11 ⟨Nat.zero_le _, Nat.zero_le _⟩) hD hS hA (fun σ_2 H locs hw hP hD hS => ?_)
  refine lv_iconst (v := 0) hx hb d_M_step_14 (by decide) ?_
  refine lv_istore_n (lv' := [(1, .int 0), (0, .ref (a 0))]) hx hb d_M_step_15 rfl hl (by decide) rfl (fun ls hl => ?_)
  obtain ⟨k_22, hw⟩ := hw
  have hE_22 : ∀ (σ_22 : SS) (y1_22 : Int32) (H : Heap) (locs : List Loc) (ls : Array Slot), we_M_step_35 σ_22 post → va_P (dC, dI) clsT (wM cI cZ a σ_22) H → va_D A (wM cI cZ a σ_22) → va_S A s.heap H locs → lv_has ls 3 [(0, .ref (a 0))] → W p l e { frames := 4, cells := 0, slots := 0, locals := 89 } s m ([.ref (a 0)] : List Value).toArray below meth c H locs 0 0 (MQ below (va_Qv post (bW (dC, dI) clsT (tyT cI cZ) (wM cI cZ a) A) A) ([.ref (a 0)] : List Value).toArray s 0 0 A) (F0 m 35 ls []) := by
    intro σ_22 y1_22 H locs ls hw hP hD hS hl
    rw [we_M_step_35] at hw
    refine lv_iconst (v := 0) hx hb d_M_step_35 (by decide) ?_
    refine lv_istore_n (lv' := [(1, .int 0), (0, .ref (a 0))]) hx hb d_M_step_36 rfl hl (by decide) rfl (fun ls hl => ?_)
    obtain ⟨k_23, hw⟩ := hw
    have hE_23 : ∀ (σ_23 : SS) (y1_23 : Int32) (H : Heap) (locs : List Loc) (ls : Array Slot), we_M_step_87 σ_23 post → va_P (dC, dI) clsT (wM cI cZ a σ_23) H → va_D A (wM cI cZ a σ_23) → va_S A s.heap H locs → lv_has ls 3 [] → W p l e { frames := 4, cells := 0, slots := 0, locals := 89 } s m ([.ref (a 0)] : List Value).toArray below meth c H locs 0 0 (MQ below (va_Qv post (bW (dC, dI) clsT (tyT cI cZ) (wM cI cZ a) A) A) ([.ref (a 0)] : List Value).toArray s 0 0 A) (F0 m 87 ls []) := by
      intro σ_23 y1_23 H locs ls hw hP hD hS hl
      rw [we_M_step_87] at hw
      exact rt_v (w := wM cI cZ a) hx hb hr hlocks hK hP hD hS d_M_step_87 hw
    have lp_23 : ∀ (kf_23 : Nat) (σ_23 : SS) (y1_23 : Int32) (H : Heap) (locs : List Loc) (ls : Array Slot), wl_M_step_37 (fun σ' y1 => we_M_step_87 σ' post) post kf_23 σ_23 y1_23 → va_P (dC, dI) clsT (wM cI cZ a σ_23) H → va_D A (wM cI cZ a σ_23) → va_S A s.heap H locs → lv_has ls 3 [(0, .ref (a 0)), (1, .int y1_23)] → W p l e { frames := 4, cells := 0, slots := 0, locals := 89 } s m ([.ref (a 0)] : List Value).toArray below meth c H locs 0 0 (MQ below (va_Qv post (bW (dC, dI) clsT (tyT cI cZ) (wM cI cZ a) A) A) ([.ref (a 0)] : List Value).toArray s 0 0 A) (F0 m 37 ls []) := by
      intro kf_23
      induction kf_23 with
      | zero => intro σ_23 y1_23 H locs ls hw; rw [wl_M_step_37] at hw; exact hw.elim
      | succ kf_23 ih_23 =>
        intro σ_23 y1_23 H locs ls hw hP hD hS hl
        rw [wl_M_step_37] at hw
        refine lv_iload_n hx hb d_M_step_37 rfl (lv_at hl 1 rfl) ?_
        refine lv_aload_n hx hb d_M_step_38 rfl (lv_at hl 0 rfl) ?_
        refine va_get (D := (dC, dI)) (ci := 6) (v := .int (σ_23 0 2)) (C := R_M) (T := F_M) (N := 30) hx hb hts in_M hown hK hP 0 rfl rfl 2 (by decide) (hts (.fieldLink R_M 81 R_M "nodes" "I") (tm 317 rfl)) (fun _ h9 => h9) rfl d_M_step_39 ?_
        refine lv_icmp_ge (tgt := 87) hx hb d_M_step_42 (by decide) (fun c_24 => ?_) (fun c_24 => ?_)
        · have hw := hw.1 c_24
          exact hE_23 σ_23 y1_23 _ _ _ hw hP hD hS (lv_sub hl [] rfl)
        · have hw := hw.2 c_24
          refine lv_iconst (v := 0) hx hb d_M_step_45 (by decide) ?_
          refine lv_istore_n (lv' := [(2, .int 0), (0, .ref (a 0)), (1, .int y1_23)]) hx hb d_M_step_46 rfl hl (by decide) rfl (fun ls hl => ?_)
          obtain ⟨k_25, hw⟩ := hw
          have hE_25 : ∀ (σ_25 : SS) (y2_25 : Int32) (H : Heap) (locs : List Loc) (ls : Array Slot), we_M_step_81 σ_25 y1_23 (wl_M_step_37 (fun σ' y1 => we_M_step_87 σ' post) post kf_23) (fun σ' y1 => we_M_step_87 σ' post) post → va_P (dC, dI) clsT (wM cI cZ a σ_25) H → va_D A (wM cI cZ a σ_25) → va_S A s.heap H locs → lv_has ls 3 [(0, .ref (a 0)), (1, .int y1_23)] → W p l e { frames := 4, cells := 0, slots := 0, locals := 89 } s m ([.ref (a 0)] : List Value).toArray below meth c H locs 0 0 (MQ below (va_Qv post (bW (dC, dI) clsT (tyT cI cZ) (wM cI cZ a) A) A) ([.ref (a 0)] : List Value).toArray s 0 0 A) (F0 m 81 ls []) := by
            intro σ_25 y2_25 H locs ls hw hP hD hS hl
            rw [we_M_step_81] at hw
            refine lv_iinc (v := y1_23 + 1) (lv' := [(1, .int (y1_23 + 1)), (0, .ref (a 0))]) hx hb d_M_step_81 hl (k := 1) rfl rfl (by decide) rfl (fun ls hl => ?_)
            refine lv_goto (tgt := 37) hx hb d_M_step_84 (by decide) ?_
            exact ih_23 σ_25 (y1_23 + 1) _ _ _ hw hP hD hS (lv_sub hl [1, 0] rfl)
          have lp_25 : ∀ (kf_25 : Nat) (σ_25 : SS) (y2_25 : Int32) (H : Heap) (locs : List Loc) (ls : Array Slot), wl_M_step_47 y1_23 (fun σ' y2 => we_M_step_81 σ' y1_23 (wl_M_step_37 (fun σ' y1 => we_M_step_87 σ' post) post kf_23) (fun σ' y1 => we_M_step_87 σ' post) post) post kf_25 σ_25 y2_25 → va_P (dC, dI) clsT (wM cI cZ a σ_25) H → va_D A (wM cI cZ a σ_25) → va_S A s.heap H locs → lv_has ls 3 [(0, .ref (a 0)), (1, .int y1_23), (2, .int y2_25)] → W p l e { frames := 4, cells := 0, slots := 0, locals := 89 } s m ([.ref (a 0)] : List Value).toArray below meth c H locs 0 0 (MQ below (va_Qv post (bW (dC, dI) clsT (tyT cI cZ) (wM cI cZ a) A) A) ([.ref (a 0)] : List Value).toArray s 0 0 A) (F0 m 47 ls []) := by
            intro kf_25
            induction kf_25 with
            | zero => intro σ_25 y2_25 H locs ls hw; rw [wl_M_step_47] at hw; exact hw.elim
            | succ kf_25 ih_25 =>
              intro σ_25 y2_25 H locs ls hw hP hD hS hl
              rw [wl_M_step_47] at hw
              refine lv_iload_n hx hb d_M_step_47 rfl (lv_at hl 2 rfl) ?_
              refine lv_bipush (v := 16) hx hb d_M_step_48 (by decide) ?_
              refine lv_iconst (v := 4) hx hb d_M_step_50 (by decide) ?_
              refine lv_aload_n hx hb d_M_step_51 rfl (lv_at hl 0 rfl) ?_
              refine va_get (D := (dC, dI)) (ci := 6) (v := .int (σ_25 0 3)) (C := R_M) (T := F_M) (N := 30) hx hb hts in_M hown hK hP 0 rfl rfl 3 (by decide) (hts (.fieldLink R_M 88 R_M "links" "I") (tm 322 rfl)) (fun _ h9 => h9) rfl d_M_step_52 ?_
              refine lv_imul hx hb d_M_step_55 ?_
              refine lv_iadd hx hb d_M_step_56 ?_
              refine lv_icmp_ge (tgt := 81) hx hb d_M_step_57 (by decide) (fun c_26 => ?_) (fun c_26 => ?_)
              · have hw := hw.1 c_26
                exact hE_25 σ_25 y2_25 _ _ _ hw hP hD hS (lv_sub hl [0, 1] rfl)
              · have hw := hw.2 c_26
                refine lv_aload_n hx hb d_M_step_60 rfl (lv_at hl 0 rfl) ?_
                refine lv_iload_n hx hb d_M_step_61 rfl (lv_at hl 2 rfl) ?_
                refine lv_iload_n hx hb d_M_step_62 rfl (lv_at hl 1 rfl) ?_
                refine cl_r (va_runV (As := [.int y2_25, .int y1_23]) (rest := []) ⟨hx, hb, hml, hown, hts⟩ (c_M_isInput l dC dI cI cZ a _ σ_25 y2_25 y1_23 _ hw) (cwV 2 hts (gi_V (tm 380 rfl) (tm 381 rfl) (tm 382 rfl) (tm 320 rfl) (tm 383 rfl)) rfl rfl rfl (by decide +kernel) ⟨Nat.le_of_ble_eq_true rfl, Nat.le_of_ble_eq_true rfl⟩) (pW_V hK hP hD (ci := 6) (k := 0) rfl rfl) rfl rfl hl.1 rfl (lv_room (Nat.le_of_ble_eq_true rfl)) d_M_step_63 ⟨Nat.zero_le _, Nat.zero_le _⟩) hP hS hA (fun r_27 H locs hw hP hT => ?_)
                have hS := hT _ hA hS
                refine lv_if_eq (tgt := 75) hx hb d_M_step_66 (by decide) (fun c_28 => ?_) (fun c_28 => ?_)
                · have hw := hw.1 c_28
                  refine lv_iinc (v := y2_25 + 1) (lv' := [(2, .int (y2_25 + 1)), (0, .ref (a 0)), (1, .int y1_23)]) hx hb d_M_step_75 hl (k := 2) rfl rfl (by decide) rfl (fun ls hl => ?_)
                  refine lv_goto (tgt := 47) hx hb d_M_step_78 (by decide) ?_
                  exact ih_25 σ_25 (y2_25 + 1) _ _ _ hw hP hD hS (lv_sub hl [1, 2, 0] rfl)
                · have hw := hw.2 c_28
                  refine lv_aload_n hx hb d_M_step_69 rfl (lv_at hl 0 rfl) ?_
                  refine lv_iload_n hx hb d_M_step_70 rfl (lv_at hl 2 rfl) ?_
                  refine lv_iload_n hx hb d_M_step_71 rfl (lv_at hl 1 rfl) ?_
                  refine cl_v (va_runV (As := [.int y2_25, .int y1_23]) (rest := []) ⟨hx, hb, hml, hown, hts⟩ (c_M_leave l dC dI cI cZ a _ σ_25 y2_25 y1_23 _ hw) (cwV 2 hts (gi_V (tm 399 rfl) (tm 400 rfl) (tm 401 rfl) (tm 320 rfl) (tm 402 rfl)) rfl rfl rfl (by decide +kernel) ⟨Nat.le_of_ble_eq_true rfl, Nat.le_of_ble_eq_true rfl⟩) (pW_V hK hP hD (ci := 6) (k := 0) rfl rfl) rfl rfl hl.1 rfl (lv_room (Nat.le_of_ble_eq_true rfl)) d_M_step_72 ⟨Nat.zero_le _, Nat.zero_le _⟩) hD hS hA (fun σ_29 H locs hw hP hD hS => ?_)
                  refine lv_iinc (v := y2_25 + 1) (lv' := [(2, .int (y2_25 + 1)), (0, .ref (a 0)), (1, .int y1_23)]) hx hb d_M_step_75 hl (k := 2) rfl rfl (by decide) rfl (fun ls hl => ?_)
                  refine lv_goto (tgt := 47) hx hb d_M_step_78 (by decide) ?_
                  exact ih_25 σ_29 (y2_25 + 1) _ _ _ hw hP hD hS (lv_sub hl [1, 2, 0] rfl)
          exact lp_25 k_25 σ_23 0 _ _ _ hw hP hD hS (lv_sub hl [1, 2, 0] rfl)
    exact lp_23 k_23 σ_22 0 _ _ _ hw hP hD hS (lv_sub hl [1, 0] rfl)
  have lp_22 : ∀ (kf_22 : Nat) (σ_22 : SS) (y1_22 : Int32) (H : Heap) (locs : List Loc) (ls : Array Slot), wl_M_step_16 (fun σ' y1 => we_M_step_35 σ' post) post kf_22 σ_22 y1_22 → va_P (dC, dI) clsT (wM cI cZ a σ_22) H → va_D A (wM cI cZ a σ_22) → va_S A s.heap H locs → lv_has ls 3 [(0, .ref (a 0)), (1, .int y1_22)] → W p l e { frames := 4, cells := 0, slots := 0, locals := 89 } s m ([.ref (a 0)] : List Value).toArray below meth c H locs 0 0 (MQ below (va_Qv post (bW (dC, dI) clsT (tyT cI cZ) (wM cI cZ a) A) A) ([.ref (a 0)] : List Value).toArray s 0 0 A) (F0 m 16 ls []) := by
    intro kf_22
    induction kf_22 with
    | zero => intro σ_22 y1_22 H locs ls hw; rw [wl_M_step_16] at hw; exact hw.elim
    | succ kf_22 ih_22 =>
      intro σ_22 y1_22 H locs ls hw hP hD hS hl
      rw [wl_M_step_16] at hw
      refine lv_iload_n hx hb d_M_step_16 rfl (lv_at hl 1 rfl) ?_
      refine lv_aload_n hx hb d_M_step_17 rfl (lv_at hl 0 rfl) ?_
      refine va_get (D := (dC, dI)) (ci := 6) (v := .int (σ_22 0 3)) (C := R_M) (T := F_M) (N := 30) hx hb hts in_M hown hK hP 0 rfl rfl 3 (by decide) (hts (.fieldLink R_M 88 R_M "links" "I") (tm 322 rfl)) (fun _ h9 => h9) rfl d_M_step_18 ?_
      refine lv_icmp_ge (tgt := 35) hx hb d_M_step_21 (by decide) (fun c_30 => ?_) (fun c_30 => ?_)
      · have hw := hw.1 c_30
        exact hE_22 σ_22 y1_22 _ _ _ hw hP hD hS (lv_sub hl [0] rfl)
      · have hw := hw.2 c_30
        refine lv_aload_n hx hb d_M_step_24 rfl (lv_at hl 0 rfl) ?_
        refine lv_iload_n hx hb d_M_step_25 rfl (lv_at hl 1 rfl) ?_
        refine cl_v (va_runV (As := [.int y1_22]) (rest := []) ⟨hx, hb, hml, hown, hts⟩ (c_M_move l dC dI cI cZ a _ σ_22 y1_22 _ hw) (cwV 1 hts (gi_V (tm 403 rfl) (tm 404 rfl) (tm 405 rfl) (tm 320 rfl) (tm 406 rfl)) rfl rfl rfl (by decide +kernel) ⟨Nat.le_of_ble_eq_true rfl, Nat.le_of_ble_eq_true rfl⟩) (pW_V hK hP hD (ci := 6) (k := 0) rfl rfl) rfl rfl hl.1 rfl (lv_room (Nat.le_of_ble_eq_true rfl)) d_M_step_26 ⟨Nat.zero_le _, Nat.zero_le _⟩) hD hS hA (fun σ_31 H locs hw hP hD hS => ?_)
        refine lv_iinc (v := y1_22 + 1) (lv' := [(1, .int (y1_22 + 1)), (0, .ref (a 0))]) hx hb d_M_step_29 hl (k := 1) rfl rfl (by decide) rfl (fun ls hl => ?_)
        refine lv_goto (tgt := 16) hx hb d_M_step_32 (by decide) ?_
        exact ih_22 σ_31 (y1_22 + 1) _ _ _ hw hP hD hS (lv_sub hl [1, 0] rfl)
  exact lp_22 k_22 σ_2 0 _ _ _ hw hP hD hS (lv_sub hl [1, 0] rfl)
set_option maxHeartbeats 4000000 in
set_option maxRecDepth 100000 in
theorem c_M_isEmpty (l : Launch) (dC : Nat → ClassId) (dI : Nat → Nat → Nat) (cI cZ : ClassId) (a : Nat → Nat) (sz : Nat) (σ : SS) (post : Int32 → Prop) (hw : wp_M_isEmpty σ post) : Met l y_M_isEmpty (.code y_M_isEmpty b_M_isEmpty 1 (some .boolean) :: TT) { frames := 0, cells := 0, slots := 0, locals := 0 } (pW (dC, dI) clsT (tyT cI cZ) [.ref (a 0)] sz (wM cI cZ a σ)) (va_Qi (fun r (_ : Unit) => post r) (fun _ _ => True) (fun q => sz ≤ q)) 0 0 (fun q => sz ≤ q) := by
  refine hdr (Qf := fun A => (va_Qi (fun r (_ : Unit) => post r) (fun _ _ => True) A)) (by decide) (Nat.le_of_ble_eq_true rfl) ?_
  intro p e s m below meth c A ls hx hb hr hts hown hlocks hml hK hP hD hS hA hl
  have hown : s.vm.findClass R_M = some m.cls := hown
  have hl : lv_has ls 1 [(0, .ref (a 0))] := hl
  rw [wp_M_isEmpty] at hw
  refine lv_aload_n hx hb d_M_isEmpty_0 rfl (lv_at hl 0 rfl) ?_
  refine va_get (D := (dC, dI)) (ci := 6) (v := .int (σ 0 8)) (C := R_M) (T := F_M) (N := 30) hx hb hts in_M hown hK hP 0 rfl rfl 8 (by decide) (hts (.fieldLink R_M 148 R_M "arrived" "I") (tm 398 rfl)) (fun _ h9 => h9) rfl d_M_isEmpty_1 ?_
  refine lv_aload_n hx hb d_M_isEmpty_4 rfl (lv_at hl 0 rfl) ?_
  refine va_get (D := (dC, dI)) (ci := 6) (v := .int (σ 0 4)) (C := R_M) (T := F_M) (N := 30) hx hb hts in_M hown hK hP 0 rfl rfl 4 (by decide) (hts (.fieldLink R_M 102 R_M "packets" "I") (tm 341 rfl)) (fun _ h9 => h9) rfl d_M_isEmpty_5 ?_
  refine lv_icmp_ne (tgt := 15) hx hb d_M_isEmpty_8 (by decide) (fun c_1 => ?_) (fun c_1 => ?_)
  · have hw := hw.1 c_1
    refine lv_iconst (v := 0) hx hb d_M_isEmpty_15 (by decide) ?_
    exact rr_z hx hb hr hlocks hS d_M_isEmpty_16 (Or.inl rfl) hw
  · have hw := hw.2 c_1
    refine lv_iconst (v := 1) hx hb d_M_isEmpty_11 (by decide) ?_
    refine lv_goto (tgt := 16) hx hb d_M_isEmpty_12 (by decide) ?_
    exact rr_z hx hb hr hlocks hS d_M_isEmpty_16 (Or.inr rfl) hw
set_option maxHeartbeats 4000000 in
set_option maxRecDepth 100000 in
theorem c_M_run (l : Launch) (dC : Nat → ClassId) (dI : Nat → Nat → Nat) (cI cZ : ClassId) (a : Nat → Nat) (sz : Nat) (σ : SS) (x1 : Int32) (post : Int32 → SS → Prop) (hw : wp_M_run σ x1 post) : Met l y_M_run (.code y_M_run b_M_run 4 (some .int) :: TT) { frames := 5, cells := 0, slots := 0, locals := 111 } (pW (dC, dI) clsT (tyT cI cZ) [.ref (a 0), .int x1] sz (wM cI cZ a σ)) (va_Qi post (bW (dC, dI) clsT (tyT cI cZ) (wM cI cZ a) (va_A (wM cI cZ a σ) sz)) (va_A (wM cI cZ a σ) sz)) 0 0 (va_A (wM cI cZ a σ) sz) := by
  refine hd (Qf := fun A => (va_Qi post (bW (dC, dI) clsT (tyT cI cZ) (wM cI cZ a) A) A)) (by decide) (Nat.le_of_ble_eq_true rfl) ?_
  intro p e s m below meth c A ls hx hb hr hts hown hlocks hml hK hP hD hS hA hl
  have hown : s.vm.findClass R_M = some m.cls := hown
  have hl : lv_has ls 4 [(0, .ref (a 0)), (1, .int x1)] := hl
  rw [wp_M_run] at hw
  refine lv_aload_n hx hb d_M_run_0 rfl (lv_at hl 0 rfl) ?_
  refine lv_iconst (v := 0) hx hb d_M_run_1 (by decide) ?_
  refine st_f (D := (dC, dI)) (w := wM cI cZ a) (ci := 6) (C := R_M) (T := F_M) (N := 30) hx hb hts in_M t_M t_M_ok n_M hown hK hP hD hS 0 rfl rfl 0 (by decide) (hts (.fieldLink R_M 78 R_M "thrown" "I") (tm 316 rfl)) (fun _ h9 => h9) rfl (by decide +kernel) (Nat.le_of_ble_eq_true rfl) rfl d_M_run_2 (fun s_1 e_1 H locs hP hD hS => ?_)
  have hw := hw s_1 e_1
  refine lv_iload_n hx hb d_M_run_5 rfl (lv_at hl 1 rfl) ?_
  refine lv_iconst (v := 1) hx hb d_M_run_6 (by decide) ?_
  refine lv_sipush (v := 2000) hx hb d_M_run_7 (by decide) ?_
  refine cl_r (va_runS (As := [.int x1, .int 1, .int 2000]) (rest := []) ⟨hx, hb, hml, hown, hts⟩ (c_M_within l dC dI cI cZ a _ s_1 x1 1 2000 _ hw) (cwS 3 hts (gi_S (tm 318 rfl) (tm 319 rfl) (tm 320 rfl) (tm 321 rfl)) rfl rfl rfl (by decide +kernel) ⟨Nat.le_of_ble_eq_true rfl, Nat.le_of_ble_eq_true rfl⟩) (pW_S hK hP hD) rfl rfl hl.1 rfl (lv_room (Nat.le_of_ble_eq_true rfl)) d_M_run_10 ⟨Nat.zero_le _, Nat.zero_le _⟩) hP hS hA (fun r_2 H locs hw hP hT => ?_)
  have hS := hT _ hA hS
  refine lv_if_ne (tgt := 22) hx hb d_M_run_13 (by decide) (fun c_3 => ?_) (fun c_3 => ?_)
  · have hw := hw.1 c_3
    refine lv_aload_n hx hb d_M_run_22 rfl (lv_at hl 0 rfl) ?_
    refine va_get (D := (dC, dI)) (ci := 6) (v := .int (s_1 0 8)) (C := R_M) (T := F_M) (N := 30) hx hb hts in_M hown hK hP 0 rfl rfl 8 (by decide) (hts (.fieldLink R_M 148 R_M "arrived" "I") (tm 398 rfl)) (fun _ h9 => h9) rfl d_M_run_23 ?_
    refine lv_topi (fun v_4 ev_4 => ?_)
    have hw := hw v_4 ev_4
    refine lv_istore_n (lv' := [(2, .int v_4), (0, .ref (a 0)), (1, .int x1)]) hx hb d_M_run_26 rfl hl (by decide) rfl (fun ls hl => ?_)
    refine lv_iconst (v := 0) hx hb d_M_run_27 (by decide) ?_
    refine lv_istore_n (lv' := [(3, .int 0), (2, .int v_4), (0, .ref (a 0)), (1, .int x1)]) hx hb d_M_run_28 rfl hl (by decide) rfl (fun ls hl => ?_)
    obtain ⟨k_10, hw⟩ := hw
    have hE_10 : ∀ (σ_10 : SS) (y3_10 : Int32) (H : Heap) (locs : List Loc) (ls : Array Slot), we_M_run_64 σ_10 v_4 post → va_P (dC, dI) clsT (wM cI cZ a σ_10) H → va_D A (wM cI cZ a σ_10) → va_S A s.heap H locs → lv_has ls 4 [(0, .ref (a 0)), (2, .int v_4)] → W p l e { frames := 5, cells := 0, slots := 0, locals := 111 } s m ([.ref (a 0), .int x1] : List Value).toArray below meth c H locs 0 0 (MQ below (va_Qi post (bW (dC, dI) clsT (tyT cI cZ) (wM cI cZ a) A) A) ([.ref (a 0), .int x1] : List Value).toArray s 0 0 A) (F0 m 64 ls []) := by
      intro σ_10 y3_10 H locs ls hw hP hD hS hl
      rw [we_M_run_64] at hw
      refine lv_aload_n hx hb d_M_run_64 rfl (lv_at hl 0 rfl) ?_
      refine va_get (D := (dC, dI)) (ci := 6) (v := .int (σ_10 0 8)) (C := R_M) (T := F_M) (N := 30) hx hb hts in_M hown hK hP 0 rfl rfl 8 (by decide) (hts (.fieldLink R_M 148 R_M "arrived" "I") (tm 398 rfl)) (fun _ h9 => h9) rfl d_M_run_65 ?_
      refine lv_iload_n hx hb d_M_run_68 rfl (lv_at hl 1 rfl) ?_
      refine lv_isub hx hb d_M_run_69 ?_
      exact rt_i (w := wM cI cZ a) hx hb hr hlocks hK hP hD hS d_M_run_70 hw
    have lp_10 : ∀ (kf_10 : Nat) (σ_10 : SS) (y3_10 : Int32) (H : Heap) (locs : List Loc) (ls : Array Slot), wl_M_run_29 x1 v_4 (fun σ' y3 => we_M_run_64 σ' v_4 post) post kf_10 σ_10 y3_10 → va_P (dC, dI) clsT (wM cI cZ a σ_10) H → va_D A (wM cI cZ a σ_10) → va_S A s.heap H locs → lv_has ls 4 [(0, .ref (a 0)), (1, .int x1), (2, .int v_4), (3, .int y3_10)] → W p l e { frames := 5, cells := 0, slots := 0, locals := 111 } s m ([.ref (a 0), .int x1] : List Value).toArray below meth c H locs 0 0 (MQ below (va_Qi post (bW (dC, dI) clsT (tyT cI cZ) (wM cI cZ a) A) A) ([.ref (a 0), .int x1] : List Value).toArray s 0 0 A) (F0 m 29 ls []) := by
      intro kf_10
      induction kf_10 with
      | zero => intro σ_10 y3_10 H locs ls hw; rw [wl_M_run_29] at hw; exact hw.elim
      | succ kf_10 ih_10 =>
        intro σ_10 y3_10 H locs ls hw hP hD hS hl
        rw [wl_M_run_29] at hw
        refine lv_iload_n hx hb d_M_run_29 rfl (lv_at hl 3 rfl) ?_
        refine lv_iload_n hx hb d_M_run_30 rfl (lv_at hl 1 rfl) ?_
        refine lv_icmp_ge (tgt := 64) hx hb d_M_run_31 (by decide) (fun c_11 => ?_) (fun c_11 => ?_)
        · have hw := hw.1 c_11
          exact hE_10 σ_10 y3_10 _ _ _ hw hP hD hS (lv_sub hl [0, 2] rfl)
        · have hw := hw.2 c_11
          refine lv_aload_n hx hb d_M_run_34 rfl (lv_at hl 0 rfl) ?_
          refine cl_r (va_runV (As := []) (rest := []) ⟨hx, hb, hml, hown, hts⟩ (c_M_isEmpty l dC dI cI cZ a _ σ_10 _ hw) (cwV 0 hts (gi_V (tm 415 rfl) (tm 416 rfl) (tm 417 rfl) (tm 320 rfl) (tm 418 rfl)) rfl rfl rfl (by decide +kernel) ⟨Nat.le_of_ble_eq_true rfl, Nat.le_of_ble_eq_true rfl⟩) (pW_V hK hP hD (ci := 6) (k := 0) rfl rfl) rfl rfl hl.1 rfl (lv_room (Nat.le_of_ble_eq_true rfl)) d_M_run_35 ⟨Nat.zero_le _, Nat.zero_le _⟩) hP hS hA (fun r_12 H locs hw hP hT => ?_)
          have hS := hT _ hA hS
          refine lv_if_eq (tgt := 54) hx hb d_M_run_38 (by decide) (fun c_13 => ?_) (fun c_13 => ?_)
          · have hw := hw.1 c_13
            refine lv_aload_n hx hb d_M_run_54 rfl (lv_at hl 0 rfl) ?_
            refine cl_v (va_runV (As := []) (rest := []) ⟨hx, hb, hml, hown, hts⟩ (c_M_step l dC dI cI cZ a _ σ_10 _ hw) (cwV 0 hts (gi_V (tm 411 rfl) (tm 412 rfl) (tm 413 rfl) (tm 320 rfl) (tm 414 rfl)) rfl rfl rfl (by decide +kernel) ⟨Nat.le_of_ble_eq_true rfl, Nat.le_of_ble_eq_true rfl⟩) (pW_V hK hP hD (ci := 6) (k := 0) rfl rfl) rfl rfl hl.1 rfl (lv_room (Nat.le_of_ble_eq_true rfl)) d_M_run_55 ⟨Nat.zero_le _, Nat.zero_le _⟩) hD hS hA (fun σ_14 H locs hw hP hD hS => ?_)
            refine lv_iinc (v := y3_10 + 1) (lv' := [(3, .int (y3_10 + 1)), (0, .ref (a 0)), (1, .int x1), (2, .int v_4)]) hx hb d_M_run_58 hl (k := 3) rfl rfl (by decide) rfl (fun ls hl => ?_)
            refine lv_goto (tgt := 29) hx hb d_M_run_61 (by decide) ?_
            exact ih_10 σ_14 (y3_10 + 1) _ _ _ hw hP hD hS (lv_sub hl [1, 2, 3, 0] rfl)
          · have hw := hw.2 c_13
            refine lv_aload_n hx hb d_M_run_41 rfl (lv_at hl 0 rfl) ?_
            refine lv_dup hx hb d_M_run_42 rfl ?_
            refine va_get (D := (dC, dI)) (ci := 6) (v := .int (σ_10 0 5)) (C := R_M) (T := F_M) (N := 30) hx hb hts in_M hown hK hP 0 rfl rfl 5 (by decide) (hts (.fieldLink R_M 116 R_M "cycle" "I") (tm 360 rfl)) (fun _ h9 => h9) rfl d_M_run_43 ?_
            refine lv_iconst (v := 1) hx hb d_M_run_46 (by decide) ?_
            refine lv_iadd hx hb d_M_run_47 ?_
            refine st_f (D := (dC, dI)) (w := wM cI cZ a) (ci := 6) (C := R_M) (T := F_M) (N := 30) hx hb hts in_M t_M t_M_ok n_M hown hK hP hD hS 0 rfl rfl 5 (by decide) (hts (.fieldLink R_M 116 R_M "cycle" "I") (tm 360 rfl)) (fun _ h9 => h9) rfl (by decide +kernel) (Nat.le_of_ble_eq_true rfl) rfl d_M_run_48 (fun s_15 e_15 H locs hP hD hS => ?_)
            have hw := hw s_15 e_15
            refine lv_goto (tgt := 58) hx hb d_M_run_51 (by decide) ?_
            refine lv_iinc (v := y3_10 + 1) (lv' := [(3, .int (y3_10 + 1)), (0, .ref (a 0)), (1, .int x1), (2, .int v_4)]) hx hb d_M_run_58 hl (k := 3) rfl rfl (by decide) rfl (fun ls hl => ?_)
            refine lv_goto (tgt := 29) hx hb d_M_run_61 (by decide) ?_
            exact ih_10 s_15 (y3_10 + 1) _ _ _ hw hP hD hS (lv_sub hl [1, 2, 3, 0] rfl)
    exact lp_10 k_10 s_1 0 _ _ _ hw hP hD hS (lv_sub hl [2, 3, 1, 0] rfl)
  · have hw := hw.2 c_3
    refine lv_aload_n hx hb d_M_run_16 rfl (lv_at hl 0 rfl) ?_
    refine lv_iconst (v := 1) hx hb d_M_run_17 (by decide) ?_
    refine cl_i (va_runV (As := [.int 1]) (rest := []) ⟨hx, hb, hml, hown, hts⟩ (c_M_wrong l dC dI cI cZ a _ s_1 1 _ hw) (cwV 1 hts (gi_V (tm 324 rfl) (tm 325 rfl) (tm 326 rfl) (tm 320 rfl) (tm 327 rfl)) rfl rfl rfl (by decide +kernel) ⟨Nat.le_of_ble_eq_true rfl, Nat.le_of_ble_eq_true rfl⟩) (pW_V hK hP hD (ci := 6) (k := 0) rfl rfl) rfl rfl hl.1 rfl (lv_room (Nat.le_of_ble_eq_true rfl)) d_M_run_18 ⟨Nat.zero_le _, Nat.zero_le _⟩) hD hS hA (fun r_16 σ_16 H locs hw hP hD hS => ?_)
    exact rt_i (w := wM cI cZ a) hx hb hr hlocks hK hP hD hS d_M_run_21 hw
set_option maxHeartbeats 4000000 in
set_option maxRecDepth 100000 in
theorem c_M_flitsIn (l : Launch) (dC : Nat → ClassId) (dI : Nat → Nat → Nat) (cI cZ : ClassId) (a : Nat → Nat) (sz : Nat) (σ : SS) (x1 : Int32) (x2 : Int32) (post : Int32 → Prop) (hw : wp_M_flitsIn σ x1 x2 post) : Met l y_M_flitsIn (.code y_M_flitsIn b_M_flitsIn 3 (some .int) :: TT) { frames := 0, cells := 0, slots := 0, locals := 0 } (pW (dC, dI) clsT (tyT cI cZ) [.ref (a 0), .int x1, .int x2] sz (wM cI cZ a σ)) (va_Qi (fun r (_ : Unit) => post r) (fun _ _ => True) (fun q => sz ≤ q)) 0 0 (fun q => sz ≤ q) := by
  refine hdr (Qf := fun A => (va_Qi (fun r (_ : Unit) => post r) (fun _ _ => True) A)) (by decide) (Nat.le_of_ble_eq_true rfl) ?_
  intro p e s m below meth c A ls hx hb hr hts hown hlocks hml hK hP hD hS hA hl
  have hown : s.vm.findClass R_M = some m.cls := hown
  have hl : lv_has ls 3 [(0, .ref (a 0)), (1, .int x1), (2, .int x2)] := hl
  rw [wp_M_flitsIn] at hw
  refine lv_iload_n hx hb d_M_flitsIn_0 rfl (lv_at hl 2 rfl) ?_
  refine lv_iconst (v := 1) hx hb d_M_flitsIn_1 (by decide) ?_
  refine lv_icmp_ne (tgt := 21) hx hb d_M_flitsIn_2 (by decide) (fun c_1 => ?_) (fun c_1 => ?_)
  · have hw := hw.1 c_1
    refine lv_iload_n hx hb d_M_flitsIn_21 rfl (lv_at hl 2 rfl) ?_
    refine lv_iconst (v := 2) hx hb d_M_flitsIn_22 (by decide) ?_
    refine lv_icmp_ne (tgt := 42) hx hb d_M_flitsIn_23 (by decide) (fun c_2 => ?_) (fun c_2 => ?_)
    · have hw := hw.1 c_2
      refine lv_aload_n hx hb d_M_flitsIn_42 rfl (lv_at hl 0 rfl) ?_
      refine va_get (D := (dC, dI)) (ci := 6) (v := .ref (a 11)) (C := R_M) (T := F_M) (N := 30) hx hb hts in_M hown hK hP 0 rfl rfl 19 (by decide) (hts (.fieldLink R_M 41 R_M "gone" "[I") (tm 395 rfl)) (fun _ h9 => h9) rfl d_M_flitsIn_43 ?_
      refine lv_iload_n hx hb d_M_flitsIn_46 rfl (lv_at hl 1 rfl) ?_
      obtain ⟨hin, hw⟩ := hw
      refine va_iald hx hb hK hP 11 0 rfl rfl hin d_M_flitsIn_47 ?_
      exact rr_i hx hb hr hlocks hS d_M_flitsIn_48 hw
    · have hw := hw.2 c_2
      refine lv_aload_n hx hb d_M_flitsIn_26 rfl (lv_at hl 0 rfl) ?_
      refine va_get (D := (dC, dI)) (ci := 6) (v := .ref (a 10)) (C := R_M) (T := F_M) (N := 30) hx hb hts in_M hown hK hP 0 rfl rfl 18 (by decide) (hts (.fieldLink R_M 38 R_M "sent" "[I") (tm 357 rfl)) (fun _ h9 => h9) rfl d_M_flitsIn_27 ?_
      refine lv_iload_n hx hb d_M_flitsIn_30 rfl (lv_at hl 1 rfl) ?_
      obtain ⟨hin, hw⟩ := hw
      refine va_iald hx hb hK hP 10 0 rfl rfl hin d_M_flitsIn_31 ?_
      refine lv_aload_n hx hb d_M_flitsIn_32 rfl (lv_at hl 0 rfl) ?_
      refine va_get (D := (dC, dI)) (ci := 6) (v := .ref (a 11)) (C := R_M) (T := F_M) (N := 30) hx hb hts in_M hown hK hP 0 rfl rfl 19 (by decide) (hts (.fieldLink R_M 41 R_M "gone" "[I") (tm 395 rfl)) (fun _ h9 => h9) rfl d_M_flitsIn_33 ?_
      refine lv_iload_n hx hb d_M_flitsIn_36 rfl (lv_at hl 1 rfl) ?_
      obtain ⟨hin, hw⟩ := hw
      refine va_iald hx hb hK hP 11 0 rfl rfl hin d_M_flitsIn_37 ?_
      refine lv_isub hx hb d_M_flitsIn_38 ?_
      refine lv_goto (tgt := 48) hx hb d_M_flitsIn_39 (by decide) ?_
      exact rr_i hx hb hr hlocks hS d_M_flitsIn_48 hw
  · have hw := hw.2 c_1
    refine lv_aload_n hx hb d_M_flitsIn_5 rfl (lv_at hl 0 rfl) ?_
    refine va_get (D := (dC, dI)) (ci := 6) (v := .ref (a 9)) (C := R_M) (T := F_M) (N := 30) hx hb hts in_M hown hK hP 0 rfl rfl 17 (by decide) (hts (.fieldLink R_M 35 R_M "size" "[I") (tm 344 rfl)) (fun _ h9 => h9) rfl d_M_flitsIn_6 ?_
    refine lv_iload_n hx hb d_M_flitsIn_9 rfl (lv_at hl 1 rfl) ?_
    obtain ⟨hin, hw⟩ := hw
    refine va_iald hx hb hK hP 9 0 rfl rfl hin d_M_flitsIn_10 ?_
    refine lv_aload_n hx hb d_M_flitsIn_11 rfl (lv_at hl 0 rfl) ?_
    refine va_get (D := (dC, dI)) (ci := 6) (v := .ref (a 10)) (C := R_M) (T := F_M) (N := 30) hx hb hts in_M hown hK hP 0 rfl rfl 18 (by decide) (hts (.fieldLink R_M 38 R_M "sent" "[I") (tm 357 rfl)) (fun _ h9 => h9) rfl d_M_flitsIn_12 ?_
    refine lv_iload_n hx hb d_M_flitsIn_15 rfl (lv_at hl 1 rfl) ?_
    obtain ⟨hin, hw⟩ := hw
    refine va_iald hx hb hK hP 10 0 rfl rfl hin d_M_flitsIn_16 ?_
    refine lv_isub hx hb d_M_flitsIn_17 ?_
    refine lv_goto (tgt := 48) hx hb d_M_flitsIn_18 (by decide) ?_
    exact rr_i hx hb hr hlocks hS d_M_flitsIn_48 hw
set_option maxHeartbeats 4000000 in
set_option maxRecDepth 100000 in
theorem c_M_packet (l : Launch) (dC : Nat → ClassId) (dI : Nat → Nat → Nat) (cI cZ : ClassId) (a : Nat → Nat) (sz : Nat) (σ : SS) (x1 : Int32) (x2 : Int32) (post : Int32 → SS → Prop) (hw : wp_M_packet σ x1 x2 post) : Met l y_M_packet (.code y_M_packet b_M_packet 3 (some .int) :: TT) { frames := 1, cells := 0, slots := 0, locals := 22 } (pW (dC, dI) clsT (tyT cI cZ) [.ref (a 0), .int x1, .int x2] sz (wM cI cZ a σ)) (va_Qi post (bW (dC, dI) clsT (tyT cI cZ) (wM cI cZ a) (va_A (wM cI cZ a σ) sz)) (va_A (wM cI cZ a σ) sz)) 0 0 (va_A (wM cI cZ a σ) sz) := by
  refine hd (Qf := fun A => (va_Qi post (bW (dC, dI) clsT (tyT cI cZ) (wM cI cZ a) A) A)) (by decide) (Nat.le_of_ble_eq_true rfl) ?_
  intro p e s m below meth c A ls hx hb hr hts hown hlocks hml hK hP hD hS hA hl
  have hown : s.vm.findClass R_M = some m.cls := hown
  have hl : lv_has ls 3 [(0, .ref (a 0)), (1, .int x1), (2, .int x2)] := hl
  rw [wp_M_packet] at hw
  refine lv_aload_n hx hb d_M_packet_0 rfl (lv_at hl 0 rfl) ?_
  refine lv_iconst (v := 0) hx hb d_M_packet_1 (by decide) ?_
  refine st_f (D := (dC, dI)) (w := wM cI cZ a) (ci := 6) (C := R_M) (T := F_M) (N := 30) hx hb hts in_M t_M t_M_ok n_M hown hK hP hD hS 0 rfl rfl 0 (by decide) (hts (.fieldLink R_M 78 R_M "thrown" "I") (tm 316 rfl)) (fun _ h9 => h9) rfl (by decide +kernel) (Nat.le_of_ble_eq_true rfl) rfl d_M_packet_2 (fun s_1 e_1 H locs hP hD hS => ?_)
  have hw := hw s_1 e_1
  refine lv_iload_n hx hb d_M_packet_5 rfl (lv_at hl 1 rfl) ?_
  refine lv_iconst (v := 0) hx hb d_M_packet_6 (by decide) ?_
  refine lv_aload_n hx hb d_M_packet_7 rfl (lv_at hl 0 rfl) ?_
  refine va_get (D := (dC, dI)) (ci := 6) (v := .int (s_1 0 4)) (C := R_M) (T := F_M) (N := 30) hx hb hts in_M hown hK hP 0 rfl rfl 4 (by decide) (hts (.fieldLink R_M 102 R_M "packets" "I") (tm 341 rfl)) (fun _ h9 => h9) rfl d_M_packet_8 ?_
  refine lv_iconst (v := 1) hx hb d_M_packet_11 (by decide) ?_
  refine lv_isub hx hb d_M_packet_12 ?_
  refine cl_r (va_runS (As := [.int x1, .int 0, .int ((s_1 0 4) - 1)]) (rest := []) ⟨hx, hb, hml, hown, hts⟩ (c_M_within l dC dI cI cZ a _ s_1 x1 0 ((s_1 0 4) - 1) _ hw) (cwS 3 hts (gi_S (tm 318 rfl) (tm 319 rfl) (tm 320 rfl) (tm 321 rfl)) rfl rfl rfl (by decide +kernel) ⟨Nat.le_of_ble_eq_true rfl, Nat.le_of_ble_eq_true rfl⟩) (pW_S hK hP hD) rfl rfl hl.1 rfl (lv_room (Nat.le_of_ble_eq_true rfl)) d_M_packet_13 ⟨Nat.zero_le _, Nat.zero_le _⟩) hP hS hA (fun r_2 H locs hw hP hT => ?_)
  have hS := hT _ hA hS
  refine lv_if_eq (tgt := 28) hx hb d_M_packet_16 (by decide) (fun c_3 => ?_) (fun c_3 => ?_)
  · have hw := hw.1 c_3
    refine lv_aload_n hx hb d_M_packet_28 rfl (lv_at hl 0 rfl) ?_
    refine lv_iconst (v := 1) hx hb d_M_packet_29 (by decide) ?_
    refine cl_i (va_runV (As := [.int 1]) (rest := []) ⟨hx, hb, hml, hown, hts⟩ (c_M_wrong l dC dI cI cZ a _ s_1 1 _ hw) (cwV 1 hts (gi_V (tm 324 rfl) (tm 325 rfl) (tm 326 rfl) (tm 320 rfl) (tm 327 rfl)) rfl rfl rfl (by decide +kernel) ⟨Nat.le_of_ble_eq_true rfl, Nat.le_of_ble_eq_true rfl⟩) (pW_V hK hP hD (ci := 6) (k := 0) rfl rfl) rfl rfl hl.1 rfl (lv_room (Nat.le_of_ble_eq_true rfl)) d_M_packet_30 ⟨Nat.zero_le _, Nat.zero_le _⟩) hD hS hA (fun r_4 σ_4 H locs hw hP hD hS => ?_)
    exact rt_i (w := wM cI cZ a) hx hb hr hlocks hK hP hD hS d_M_packet_33 hw
  · have hw := hw.2 c_3
    refine lv_iload_n hx hb d_M_packet_19 rfl (lv_at hl 2 rfl) ?_
    refine lv_iconst (v := 0) hx hb d_M_packet_20 (by decide) ?_
    refine lv_iconst (v := 3) hx hb d_M_packet_21 (by decide) ?_
    refine cl_r (va_runS (As := [.int x2, .int 0, .int 3]) (rest := []) ⟨hx, hb, hml, hown, hts⟩ (c_M_within l dC dI cI cZ a _ s_1 x2 0 3 _ hw) (cwS 3 hts (gi_S (tm 318 rfl) (tm 319 rfl) (tm 320 rfl) (tm 321 rfl)) rfl rfl rfl (by decide +kernel) ⟨Nat.le_of_ble_eq_true rfl, Nat.le_of_ble_eq_true rfl⟩) (pW_S hK hP hD) rfl rfl hl.1 rfl (lv_room (Nat.le_of_ble_eq_true rfl)) d_M_packet_22 ⟨Nat.zero_le _, Nat.zero_le _⟩) hP hS hA (fun r_5 H locs hw hP hT => ?_)
    have hS := hT _ hA hS
    refine lv_if_ne (tgt := 34) hx hb d_M_packet_25 (by decide) (fun c_6 => ?_) (fun c_6 => ?_)
    · have hw := hw.1 c_6
      refine lv_iload_n hx hb d_M_packet_34 rfl (lv_at hl 2 rfl) ?_
      refine lv_if_ne (tgt := 47) hx hb d_M_packet_35 (by decide) (fun c_7 => ?_) (fun c_7 => ?_)
      · have hw := hw.1 c_7
        refine lv_aload_n hx hb d_M_packet_47 rfl (lv_at hl 0 rfl) ?_
        refine lv_iload_n hx hb d_M_packet_48 rfl (lv_at hl 1 rfl) ?_
        refine lv_iload_n hx hb d_M_packet_49 rfl (lv_at hl 2 rfl) ?_
        refine cl_r (va_runV (As := [.int x1, .int x2]) (rest := []) ⟨hx, hb, hml, hown, hts⟩ (c_M_flitsIn l dC dI cI cZ a _ s_1 x1 x2 _ hw) (cwV 2 hts (gi_V (tm 419 rfl) (tm 420 rfl) (tm 421 rfl) (tm 320 rfl) (tm 422 rfl)) rfl rfl rfl (by decide +kernel) ⟨Nat.le_of_ble_eq_true rfl, Nat.le_of_ble_eq_true rfl⟩) (pW_V hK hP hD (ci := 6) (k := 0) rfl rfl) rfl rfl hl.1 rfl (lv_room (Nat.le_of_ble_eq_true rfl)) d_M_packet_50 ⟨Nat.zero_le _, Nat.zero_le _⟩) hP hS hA (fun r_8 H locs hw hP hT => ?_)
        have hS := hT _ hA hS
        exact rt_i (w := wM cI cZ a) hx hb hr hlocks hK hP hD hS d_M_packet_53 hw
      · have hw := hw.2 c_7
        refine lv_aload_n hx hb d_M_packet_38 rfl (lv_at hl 0 rfl) ?_
        refine va_get (D := (dC, dI)) (ci := 6) (v := .ref (a 12)) (C := R_M) (T := F_M) (N := 30) hx hb hts in_M hown hK hP 0 rfl rfl 20 (by decide) (hts (.fieldLink R_M 44 R_M "came" "[I") (tm 397 rfl)) (fun _ h9 => h9) rfl d_M_packet_39 ?_
        refine lv_iload_n hx hb d_M_packet_42 rfl (lv_at hl 1 rfl) ?_
        obtain ⟨hin, hw⟩ := hw
        refine va_iald hx hb hK hP 12 0 rfl rfl hin d_M_packet_43 ?_
        refine lv_goto (tgt := 53) hx hb d_M_packet_44 (by decide) ?_
        exact rt_i (w := wM cI cZ a) hx hb hr hlocks hK hP hD hS d_M_packet_53 hw
    · have hw := hw.2 c_6
      refine lv_aload_n hx hb d_M_packet_28 rfl (lv_at hl 0 rfl) ?_
      refine lv_iconst (v := 1) hx hb d_M_packet_29 (by decide) ?_
      refine cl_i (va_runV (As := [.int 1]) (rest := []) ⟨hx, hb, hml, hown, hts⟩ (c_M_wrong l dC dI cI cZ a _ s_1 1 _ hw) (cwV 1 hts (gi_V (tm 324 rfl) (tm 325 rfl) (tm 326 rfl) (tm 320 rfl) (tm 327 rfl)) rfl rfl rfl (by decide +kernel) ⟨Nat.le_of_ble_eq_true rfl, Nat.le_of_ble_eq_true rfl⟩) (pW_V hK hP hD (ci := 6) (k := 0) rfl rfl) rfl rfl hl.1 rfl (lv_room (Nat.le_of_ble_eq_true rfl)) d_M_packet_30 ⟨Nat.zero_le _, Nat.zero_le _⟩) hD hS hA (fun r_9 σ_9 H locs hw hP hD hS => ?_)
      exact rt_i (w := wM cI cZ a) hx hb hr hlocks hK hP hD hS d_M_packet_33 hw
set_option maxHeartbeats 4000000 in
set_option maxRecDepth 100000 in
theorem c_M_channel (l : Launch) (dC : Nat → ClassId) (dI : Nat → Nat → Nat) (cI cZ : ClassId) (a : Nat → Nat) (sz : Nat) (σ : SS) (x1 : Int32) (x2 : Int32) (post : Int32 → SS → Prop) (hw : wp_M_channel σ x1 x2 post) : Met l y_M_channel (.code y_M_channel b_M_channel 3 (some .int) :: TT) { frames := 2, cells := 0, slots := 0, locals := 43 } (pW (dC, dI) clsT (tyT cI cZ) [.ref (a 0), .int x1, .int x2] sz (wM cI cZ a σ)) (va_Qi post (bW (dC, dI) clsT (tyT cI cZ) (wM cI cZ a) (va_A (wM cI cZ a σ) sz)) (va_A (wM cI cZ a σ) sz)) 0 0 (va_A (wM cI cZ a σ) sz) := by
  refine hd (Qf := fun A => (va_Qi post (bW (dC, dI) clsT (tyT cI cZ) (wM cI cZ a) A) A)) (by decide) (Nat.le_of_ble_eq_true rfl) ?_
  intro p e s m below meth c A ls hx hb hr hts hown hlocks hml hK hP hD hS hA hl
  have hown : s.vm.findClass R_M = some m.cls := hown
  have hl : lv_has ls 3 [(0, .ref (a 0)), (1, .int x1), (2, .int x2)] := hl
  rw [wp_M_channel] at hw
  refine lv_aload_n hx hb d_M_channel_0 rfl (lv_at hl 0 rfl) ?_
  refine lv_iconst (v := 0) hx hb d_M_channel_1 (by decide) ?_
  refine st_f (D := (dC, dI)) (w := wM cI cZ a) (ci := 6) (C := R_M) (T := F_M) (N := 30) hx hb hts in_M t_M t_M_ok n_M hown hK hP hD hS 0 rfl rfl 0 (by decide) (hts (.fieldLink R_M 78 R_M "thrown" "I") (tm 316 rfl)) (fun _ h9 => h9) rfl (by decide +kernel) (Nat.le_of_ble_eq_true rfl) rfl d_M_channel_2 (fun s_1 e_1 H locs hP hD hS => ?_)
  have hw := hw s_1 e_1
  refine lv_aload_n hx hb d_M_channel_5 rfl (lv_at hl 0 rfl) ?_
  refine lv_iload_n hx hb d_M_channel_6 rfl (lv_at hl 1 rfl) ?_
  refine cl_r (va_runV (As := [.int x1]) (rest := []) ⟨hx, hb, hml, hown, hts⟩ (c_M_isChannel l dC dI cI cZ a _ s_1 x1 _ hw) (cwV 1 hts (gi_V (tm 336 rfl) (tm 337 rfl) (tm 338 rfl) (tm 320 rfl) (tm 339 rfl)) rfl rfl rfl (by decide +kernel) ⟨Nat.le_of_ble_eq_true rfl, Nat.le_of_ble_eq_true rfl⟩) (pW_V hK hP hD (ci := 6) (k := 0) rfl rfl) rfl rfl hl.1 rfl (lv_room (Nat.le_of_ble_eq_true rfl)) d_M_channel_7 ⟨Nat.zero_le _, Nat.zero_le _⟩) hP hS hA (fun r_2 H locs hw hP hT => ?_)
  have hS := hT _ hA hS
  refine lv_if_eq (tgt := 22) hx hb d_M_channel_10 (by decide) (fun c_3 => ?_) (fun c_3 => ?_)
  · have hw := hw.1 c_3
    refine lv_aload_n hx hb d_M_channel_22 rfl (lv_at hl 0 rfl) ?_
    refine lv_iconst (v := 1) hx hb d_M_channel_23 (by decide) ?_
    refine cl_i (va_runV (As := [.int 1]) (rest := []) ⟨hx, hb, hml, hown, hts⟩ (c_M_wrong l dC dI cI cZ a _ s_1 1 _ hw) (cwV 1 hts (gi_V (tm 324 rfl) (tm 325 rfl) (tm 326 rfl) (tm 320 rfl) (tm 327 rfl)) rfl rfl rfl (by decide +kernel) ⟨Nat.le_of_ble_eq_true rfl, Nat.le_of_ble_eq_true rfl⟩) (pW_V hK hP hD (ci := 6) (k := 0) rfl rfl) rfl rfl hl.1 rfl (lv_room (Nat.le_of_ble_eq_true rfl)) d_M_channel_24 ⟨Nat.zero_le _, Nat.zero_le _⟩) hD hS hA (fun r_4 σ_4 H locs hw hP hD hS => ?_)
    exact rt_i (w := wM cI cZ a) hx hb hr hlocks hK hP hD hS d_M_channel_27 hw
  · have hw := hw.2 c_3
    refine lv_iload_n hx hb d_M_channel_13 rfl (lv_at hl 2 rfl) ?_
    refine lv_iconst (v := 0) hx hb d_M_channel_14 (by decide) ?_
    refine lv_iconst (v := 3) hx hb d_M_channel_15 (by decide) ?_
    refine cl_r (va_runS (As := [.int x2, .int 0, .int 3]) (rest := []) ⟨hx, hb, hml, hown, hts⟩ (c_M_within l dC dI cI cZ a _ s_1 x2 0 3 _ hw) (cwS 3 hts (gi_S (tm 318 rfl) (tm 319 rfl) (tm 320 rfl) (tm 321 rfl)) rfl rfl rfl (by decide +kernel) ⟨Nat.le_of_ble_eq_true rfl, Nat.le_of_ble_eq_true rfl⟩) (pW_S hK hP hD) rfl rfl hl.1 rfl (lv_room (Nat.le_of_ble_eq_true rfl)) d_M_channel_16 ⟨Nat.zero_le _, Nat.zero_le _⟩) hP hS hA (fun r_5 H locs hw hP hT => ?_)
    have hS := hT _ hA hS
    refine lv_if_ne (tgt := 28) hx hb d_M_channel_19 (by decide) (fun c_6 => ?_) (fun c_6 => ?_)
    · have hw := hw.1 c_6
      refine lv_iload_n hx hb d_M_channel_28 rfl (lv_at hl 2 rfl) ?_
      refine lv_iconst (v := 2) hx hb d_M_channel_29 (by decide) ?_
      refine lv_icmp_ne (tgt := 58) hx hb d_M_channel_30 (by decide) (fun c_7 => ?_) (fun c_7 => ?_)
      · have hw := hw.1 c_7
        refine lv_iload_n hx hb d_M_channel_58 rfl (lv_at hl 2 rfl) ?_
        refine lv_if_ne (tgt := 71) hx hb d_M_channel_59 (by decide) (fun c_8 => ?_) (fun c_8 => ?_)
        · have hw := hw.1 c_8
          refine lv_iload_n hx hb d_M_channel_71 rfl (lv_at hl 2 rfl) ?_
          refine lv_iconst (v := 1) hx hb d_M_channel_72 (by decide) ?_
          refine lv_icmp_ne (tgt := 85) hx hb d_M_channel_73 (by decide) (fun c_9 => ?_) (fun c_9 => ?_)
          · have hw := hw.1 c_9
            refine lv_aload_n hx hb d_M_channel_85 rfl (lv_at hl 0 rfl) ?_
            refine va_get (D := (dC, dI)) (ci := 6) (v := .ref (a 16)) (C := R_M) (T := F_M) (N := 30) hx hb hts in_M hown hK hP 0 rfl rfl 24 (by decide) (hts (.fieldLink R_M 56 R_M "passed" "[I") (tm 386 rfl)) (fun _ h9 => h9) rfl d_M_channel_86 ?_
            refine lv_iload_n hx hb d_M_channel_89 rfl (lv_at hl 1 rfl) ?_
            obtain ⟨hin, hw⟩ := hw
            refine va_iald hx hb hK hP 16 0 rfl rfl hin d_M_channel_90 ?_
            exact rt_i (w := wM cI cZ a) hx hb hr hlocks hK hP hD hS d_M_channel_91 hw
          · have hw := hw.2 c_9
            refine lv_aload_n hx hb d_M_channel_76 rfl (lv_at hl 0 rfl) ?_
            refine va_get (D := (dC, dI)) (ci := 6) (v := .ref (a 18)) (C := R_M) (T := F_M) (N := 30) hx hb hts in_M hown hK hP 0 rfl rfl 26 (by decide) (hts (.fieldLink R_M 62 R_M "holding" "[I") (tm 375 rfl)) (fun _ h9 => h9) rfl d_M_channel_77 ?_
            refine lv_iload_n hx hb d_M_channel_80 rfl (lv_at hl 1 rfl) ?_
            obtain ⟨hin, hw⟩ := hw
            refine va_iald hx hb hK hP 18 0 rfl rfl hin d_M_channel_81 ?_
            refine lv_goto (tgt := 91) hx hb d_M_channel_82 (by decide) ?_
            exact rt_i (w := wM cI cZ a) hx hb hr hlocks hK hP hD hS d_M_channel_91 hw
        · have hw := hw.2 c_8
          refine lv_aload_n hx hb d_M_channel_62 rfl (lv_at hl 0 rfl) ?_
          refine va_get (D := (dC, dI)) (ci := 6) (v := .ref (a 13)) (C := R_M) (T := F_M) (N := 30) hx hb hts in_M hown hK hP 0 rfl rfl 21 (by decide) (hts (.fieldLink R_M 47 R_M "filled" "[I") (tm 358 rfl)) (fun _ h9 => h9) rfl d_M_channel_63 ?_
          refine lv_iload_n hx hb d_M_channel_66 rfl (lv_at hl 1 rfl) ?_
          obtain ⟨hin, hw⟩ := hw
          refine va_iald hx hb hK hP 13 0 rfl rfl hin d_M_channel_67 ?_
          refine lv_goto (tgt := 91) hx hb d_M_channel_68 (by decide) ?_
          exact rt_i (w := wM cI cZ a) hx hb hr hlocks hK hP hD hS d_M_channel_91 hw
      · have hw := hw.2 c_7
        refine lv_aload_n hx hb d_M_channel_33 rfl (lv_at hl 0 rfl) ?_
        refine va_get (D := (dC, dI)) (ci := 6) (v := .ref (a 13)) (C := R_M) (T := F_M) (N := 30) hx hb hts in_M hown hK hP 0 rfl rfl 21 (by decide) (hts (.fieldLink R_M 47 R_M "filled" "[I") (tm 358 rfl)) (fun _ h9 => h9) rfl d_M_channel_34 ?_
        refine lv_iload_n hx hb d_M_channel_37 rfl (lv_at hl 1 rfl) ?_
        obtain ⟨hin, hw⟩ := hw
        refine va_iald hx hb hK hP 13 0 rfl rfl hin d_M_channel_38 ?_
        refine lv_if_ne (tgt := 46) hx hb d_M_channel_39 (by decide) (fun c_10 => ?_) (fun c_10 => ?_)
        · have hw := hw.1 c_10
          refine lv_aload_n hx hb d_M_channel_46 rfl (lv_at hl 0 rfl) ?_
          refine va_get (D := (dC, dI)) (ci := 6) (v := .ref (a 14)) (C := R_M) (T := F_M) (N := 30) hx hb hts in_M hown hK hP 0 rfl rfl 22 (by decide) (hts (.fieldLink R_M 50 R_M "flit" "[I") (tm 361 rfl)) (fun _ h9 => h9) rfl d_M_channel_47 ?_
          refine lv_iconst (v := 4) hx hb d_M_channel_50 (by decide) ?_
          refine lv_iload_n hx hb d_M_channel_51 rfl (lv_at hl 1 rfl) ?_
          refine lv_imul hx hb d_M_channel_52 ?_
          obtain ⟨hin, hw⟩ := hw
          refine va_iald hx hb hK hP 14 0 rfl rfl hin d_M_channel_53 ?_
          refine lv_bipush (v := 16) hx hb d_M_channel_54 (by decide) ?_
          refine lv_idiv hx hb d_M_channel_56 (by decide) ?_
          exact rt_i (w := wM cI cZ a) hx hb hr hlocks hK hP hD hS d_M_channel_57 hw
        · have hw := hw.2 c_10
          refine lv_iconst (v := (-1)) hx hb d_M_channel_42 (by decide) ?_
          refine lv_goto (tgt := 57) hx hb d_M_channel_43 (by decide) ?_
          exact rt_i (w := wM cI cZ a) hx hb hr hlocks hK hP hD hS d_M_channel_57 hw
    · have hw := hw.2 c_6
      refine lv_aload_n hx hb d_M_channel_22 rfl (lv_at hl 0 rfl) ?_
      refine lv_iconst (v := 1) hx hb d_M_channel_23 (by decide) ?_
      refine cl_i (va_runV (As := [.int 1]) (rest := []) ⟨hx, hb, hml, hown, hts⟩ (c_M_wrong l dC dI cI cZ a _ s_1 1 _ hw) (cwV 1 hts (gi_V (tm 324 rfl) (tm 325 rfl) (tm 326 rfl) (tm 320 rfl) (tm 327 rfl)) rfl rfl rfl (by decide +kernel) ⟨Nat.le_of_ble_eq_true rfl, Nat.le_of_ble_eq_true rfl⟩) (pW_V hK hP hD (ci := 6) (k := 0) rfl rfl) rfl rfl hl.1 rfl (lv_room (Nat.le_of_ble_eq_true rfl)) d_M_channel_24 ⟨Nat.zero_le _, Nat.zero_le _⟩) hD hS hA (fun r_11 σ_11 H locs hw hP hD hS => ?_)
      exact rt_i (w := wM cI cZ a) hx hb hr hlocks hK hP hD hS d_M_channel_27 hw
set_option maxHeartbeats 4000000 in
set_option maxRecDepth 100000 in
theorem c_M_findLeads (l : Launch) (dC : Nat → ClassId) (dI : Nat → Nat → Nat) (cI cZ : ClassId) (a : Nat → Nat) (sz : Nat) (σ : SS) (post : SS → Prop) (hw : wp_M_findLeads σ post) : Met l y_M_findLeads (.code y_M_findLeads b_M_findLeads 6 none :: TT) { frames := 0, cells := 0, slots := 0, locals := 0 } (pW (dC, dI) clsT (tyT cI cZ) [.ref (a 0)] sz (wM cI cZ a σ)) (va_Qv post (bW (dC, dI) clsT (tyT cI cZ) (wM cI cZ a) (va_A (wM cI cZ a σ) sz)) (va_A (wM cI cZ a σ) sz)) 0 0 (va_A (wM cI cZ a σ) sz) := by
  refine hd (Qf := fun A => (va_Qv post (bW (dC, dI) clsT (tyT cI cZ) (wM cI cZ a) A) A)) (by decide) (Nat.le_of_ble_eq_true rfl) ?_
  intro p e s m below meth c A ls hx hb hr hts hown hlocks hml hK hP hD hS hA hl
  have hown : s.vm.findClass R_M = some m.cls := hown
  have hl : lv_has ls 6 [(0, .ref (a 0))] := hl
  rw [wp_M_findLeads] at hw
  refine lv_iconst (v := 0) hx hb d_M_findLeads_0 (by decide) ?_
  refine lv_istore_n (lv' := [(1, .int 0), (0, .ref (a 0))]) hx hb d_M_findLeads_1 rfl hl (by decide) rfl (fun ls hl => ?_)
  obtain ⟨k_53, hw⟩ := hw
  have hE_53 : ∀ (σ_53 : SS) (y1_53 : Int32) (H : Heap) (locs : List Loc) (ls : Array Slot), we_M_findLeads_22 σ_53 post → va_P (dC, dI) clsT (wM cI cZ a σ_53) H → va_D A (wM cI cZ a σ_53) → va_S A s.heap H locs → lv_has ls 6 [(0, .ref (a 0))] → W p l e { frames := 0, cells := 0, slots := 0, locals := 0 } s m ([.ref (a 0)] : List Value).toArray below meth c H locs 0 0 (MQ below (va_Qv post (bW (dC, dI) clsT (tyT cI cZ) (wM cI cZ a) A) A) ([.ref (a 0)] : List Value).toArray s 0 0 A) (F0 m 22 ls []) := by
    intro σ_53 y1_53 H locs ls hw hP hD hS hl
    rw [we_M_findLeads_22] at hw
    refine lv_iconst (v := 0) hx hb d_M_findLeads_22 (by decide) ?_
    refine lv_istore_n (lv' := [(1, .int 0), (0, .ref (a 0))]) hx hb d_M_findLeads_23 rfl hl (by decide) rfl (fun ls hl => ?_)
    obtain ⟨k_54, hw⟩ := hw
    have hE_54 : ∀ (σ_54 : SS) (y1_54 : Int32) (H : Heap) (locs : List Loc) (ls : Array Slot), we_M_findLeads_136 σ_54 post → va_P (dC, dI) clsT (wM cI cZ a σ_54) H → va_D A (wM cI cZ a σ_54) → va_S A s.heap H locs → lv_has ls 6 [] → W p l e { frames := 0, cells := 0, slots := 0, locals := 0 } s m ([.ref (a 0)] : List Value).toArray below meth c H locs 0 0 (MQ below (va_Qv post (bW (dC, dI) clsT (tyT cI cZ) (wM cI cZ a) A) A) ([.ref (a 0)] : List Value).toArray s 0 0 A) (F0 m 136 ls []) := by
      intro σ_54 y1_54 H locs ls hw hP hD hS hl
      rw [we_M_findLeads_136] at hw
      exact rt_v (w := wM cI cZ a) hx hb hr hlocks hK hP hD hS d_M_findLeads_136 hw
    have lp_54 : ∀ (kf_54 : Nat) (σ_54 : SS) (y1_54 : Int32) (H : Heap) (locs : List Loc) (ls : Array Slot), wl_M_findLeads_24 (fun σ' y1 => we_M_findLeads_136 σ' post) post kf_54 σ_54 y1_54 → va_P (dC, dI) clsT (wM cI cZ a σ_54) H → va_D A (wM cI cZ a σ_54) → va_S A s.heap H locs → lv_has ls 6 [(0, .ref (a 0)), (1, .int y1_54)] → W p l e { frames := 0, cells := 0, slots := 0, locals := 0 } s m ([.ref (a 0)] : List Value).toArray below meth c H locs 0 0 (MQ below (va_Qv post (bW (dC, dI) clsT (tyT cI cZ) (wM cI cZ a) A) A) ([.ref (a 0)] : List Value).toArray s 0 0 A) (F0 m 24 ls []) := by
      intro kf_54
      induction kf_54 with
      | zero => intro σ_54 y1_54 H locs ls hw; rw [wl_M_findLeads_24] at hw; exact hw.elim
      | succ kf_54 ih_54 =>
        intro σ_54 y1_54 H locs ls hw hP hD hS hl
        rw [wl_M_findLeads_24] at hw
        refine lv_iload_n hx hb d_M_findLeads_24 rfl (lv_at hl 1 rfl) ?_
        refine lv_aload_n hx hb d_M_findLeads_25 rfl (lv_at hl 0 rfl) ?_
        refine va_get (D := (dC, dI)) (ci := 6) (v := .int (σ_54 0 2)) (C := R_M) (T := F_M) (N := 30) hx hb hts in_M hown hK hP 0 rfl rfl 2 (by decide) (hts (.fieldLink R_M 81 R_M "nodes" "I") (tm 317 rfl)) (fun _ h9 => h9) rfl d_M_findLeads_26 ?_
        refine lv_icmp_ge (tgt := 136) hx hb d_M_findLeads_29 (by decide) (fun c_55 => ?_) (fun c_55 => ?_)
        · have hw := hw.1 c_55
          exact hE_54 σ_54 y1_54 _ _ _ hw hP hD hS (lv_sub hl [] rfl)
        · have hw := hw.2 c_55
          refine lv_iconst (v := 0) hx hb d_M_findLeads_32 (by decide) ?_
          refine lv_istore_n (lv' := [(2, .int 0), (0, .ref (a 0)), (1, .int y1_54)]) hx hb d_M_findLeads_33 rfl hl (by decide) rfl (fun ls hl => ?_)
          obtain ⟨k_56, hw⟩ := hw
          have hE_56 : ∀ (σ_56 : SS) (y2_56 : Int32) (H : Heap) (locs : List Loc) (ls : Array Slot), we_M_findLeads_130 σ_56 y1_54 (wl_M_findLeads_24 (fun σ' y1 => we_M_findLeads_136 σ' post) post kf_54) (fun σ' y1 => we_M_findLeads_136 σ' post) post → va_P (dC, dI) clsT (wM cI cZ a σ_56) H → va_D A (wM cI cZ a σ_56) → va_S A s.heap H locs → lv_has ls 6 [(0, .ref (a 0)), (1, .int y1_54)] → W p l e { frames := 0, cells := 0, slots := 0, locals := 0 } s m ([.ref (a 0)] : List Value).toArray below meth c H locs 0 0 (MQ below (va_Qv post (bW (dC, dI) clsT (tyT cI cZ) (wM cI cZ a) A) A) ([.ref (a 0)] : List Value).toArray s 0 0 A) (F0 m 130 ls []) := by
            intro σ_56 y2_56 H locs ls hw hP hD hS hl
            rw [we_M_findLeads_130] at hw
            refine lv_iinc (v := y1_54 + 1) (lv' := [(1, .int (y1_54 + 1)), (0, .ref (a 0))]) hx hb d_M_findLeads_130 hl (k := 1) rfl rfl (by decide) rfl (fun ls hl => ?_)
            refine lv_goto (tgt := 24) hx hb d_M_findLeads_133 (by decide) ?_
            exact ih_54 σ_56 (y1_54 + 1) _ _ _ hw hP hD hS (lv_sub hl [1, 0] rfl)
          have lp_56 : ∀ (kf_56 : Nat) (σ_56 : SS) (y2_56 : Int32) (H : Heap) (locs : List Loc) (ls : Array Slot), wl_M_findLeads_34 y1_54 (fun σ' y2 => we_M_findLeads_130 σ' y1_54 (wl_M_findLeads_24 (fun σ' y1 => we_M_findLeads_136 σ' post) post kf_54) (fun σ' y1 => we_M_findLeads_136 σ' post) post) post kf_56 σ_56 y2_56 → va_P (dC, dI) clsT (wM cI cZ a σ_56) H → va_D A (wM cI cZ a σ_56) → va_S A s.heap H locs → lv_has ls 6 [(0, .ref (a 0)), (1, .int y1_54), (2, .int y2_56)] → W p l e { frames := 0, cells := 0, slots := 0, locals := 0 } s m ([.ref (a 0)] : List Value).toArray below meth c H locs 0 0 (MQ below (va_Qv post (bW (dC, dI) clsT (tyT cI cZ) (wM cI cZ a) A) A) ([.ref (a 0)] : List Value).toArray s 0 0 A) (F0 m 34 ls []) := by
            intro kf_56
            induction kf_56 with
            | zero => intro σ_56 y2_56 H locs ls hw; rw [wl_M_findLeads_34] at hw; exact hw.elim
            | succ kf_56 ih_56 =>
              intro σ_56 y2_56 H locs ls hw hP hD hS hl
              rw [wl_M_findLeads_34] at hw
              refine lv_iload_n hx hb d_M_findLeads_34 rfl (lv_at hl 2 rfl) ?_
              refine lv_aload_n hx hb d_M_findLeads_35 rfl (lv_at hl 0 rfl) ?_
              refine va_get (D := (dC, dI)) (ci := 6) (v := .int (σ_56 0 2)) (C := R_M) (T := F_M) (N := 30) hx hb hts in_M hown hK hP 0 rfl rfl 2 (by decide) (hts (.fieldLink R_M 81 R_M "nodes" "I") (tm 317 rfl)) (fun _ h9 => h9) rfl d_M_findLeads_36 ?_
              refine lv_icmp_ge (tgt := 130) hx hb d_M_findLeads_39 (by decide) (fun c_57 => ?_) (fun c_57 => ?_)
              · have hw := hw.1 c_57
                exact hE_56 σ_56 y2_56 _ _ _ hw hP hD hS (lv_sub hl [0, 1] rfl)
              · have hw := hw.2 c_57
                refine lv_iload_n hx hb d_M_findLeads_42 rfl (lv_at hl 2 rfl) ?_
                refine lv_iload_n hx hb d_M_findLeads_43 rfl (lv_at hl 1 rfl) ?_
                refine lv_icmp_ne (tgt := 51) hx hb d_M_findLeads_44 (by decide) (fun c_58 => ?_) (fun c_58 => ?_)
                · have hw := hw.1 c_58
                  refine lv_aload_n hx hb d_M_findLeads_51 rfl (lv_at hl 0 rfl) ?_
                  refine va_get (D := (dC, dI)) (ci := 6) (v := .ref (a 6)) (C := R_M) (T := F_M) (N := 30) hx hb hts in_M hown hK hP 0 rfl rfl 14 (by decide) (hts (.fieldLink R_M 26 R_M "route" "[I") (tm 334 rfl)) (fun _ h9 => h9) rfl d_M_findLeads_52 ?_
                  refine lv_bipush (v := 16) hx hb d_M_findLeads_55 (by decide) ?_
                  refine lv_iload_n hx hb d_M_findLeads_57 rfl (lv_at hl 2 rfl) ?_
                  refine lv_imul hx hb d_M_findLeads_58 ?_
                  refine lv_iload_n hx hb d_M_findLeads_59 rfl (lv_at hl 1 rfl) ?_
                  refine lv_iadd hx hb d_M_findLeads_60 ?_
                  obtain ⟨hin, hw⟩ := hw
                  refine va_iald hx hb hK hP 6 0 rfl rfl hin d_M_findLeads_61 ?_
                  refine lv_topi (fun v_59 ev_59 => ?_)
                  have hw := hw v_59 ev_59
                  refine lv_istore_n (lv' := [(3, .int v_59), (0, .ref (a 0)), (1, .int y1_54), (2, .int y2_56)]) hx hb d_M_findLeads_62 rfl hl (by decide) rfl (fun ls hl => ?_)
                  refine lv_iload_n hx hb d_M_findLeads_63 rfl (lv_at hl 0 rfl) ?_
                  refine lv_if_ge (tgt := 71) hx hb d_M_findLeads_64 (by decide) (fun c_60 => ?_) (fun c_60 => ?_)
                  · have hw := hw.1 c_60
                    refine lv_aload_n hx hb d_M_findLeads_71 rfl (lv_at hl 1 rfl) ?_
                    refine va_get (D := (dC, dI)) (ci := 6) (v := .ref (a 2)) (C := R_M) (T := F_M) (N := 30) hx hb hts in_M hown hK hP 0 rfl rfl 10 (by decide) (hts (.fieldLink R_M 13 R_M "to" "[I") (tm 329 rfl)) (fun _ h9 => h9) rfl d_M_findLeads_72 ?_
                    refine lv_iload_n hx hb d_M_findLeads_75 rfl (lv_at hl 0 rfl) ?_
                    refine lv_iconst (v := 4) hx hb d_M_findLeads_76 (by decide) ?_
                    refine lv_idiv hx hb d_M_findLeads_77 (by decide) ?_
                    obtain ⟨hin, hw⟩ := hw
                    refine va_iald hx hb hK hP 2 0 rfl rfl hin d_M_findLeads_78 ?_
                    refine lv_topi (fun v_61 ev_61 => ?_)
                    have hw := hw v_61 ev_61
                    refine lv_istore (lv' := [(4, .int v_61), (3, .int v_59), (0, .ref (a 0)), (1, .int y1_54), (2, .int y2_56)]) hx hb d_M_findLeads_79 hl (by decide) rfl (fun ls hl => ?_)
                    refine lv_iload hx hb d_M_findLeads_81 (lv_at hl 0 rfl) ?_
                    refine lv_iload_n hx hb d_M_findLeads_83 rfl (lv_at hl 3 rfl) ?_
                    refine lv_icmp_ne (tgt := 91) hx hb d_M_findLeads_84 (by decide) (fun c_62 => ?_) (fun c_62 => ?_)
                    · have hw := hw.1 c_62
                      refine lv_aload_n hx hb d_M_findLeads_91 rfl (lv_at hl 2 rfl) ?_
                      refine va_get (D := (dC, dI)) (ci := 6) (v := .ref (a 6)) (C := R_M) (T := F_M) (N := 30) hx hb hts in_M hown hK hP 0 rfl rfl 14 (by decide) (hts (.fieldLink R_M 26 R_M "route" "[I") (tm 334 rfl)) (fun _ h9 => h9) rfl d_M_findLeads_92 ?_
                      refine lv_bipush (v := 16) hx hb d_M_findLeads_95 (by decide) ?_
                      refine lv_iload hx hb d_M_findLeads_97 (lv_at hl 0 rfl) ?_
                      refine lv_imul hx hb d_M_findLeads_99 ?_
                      refine lv_iload_n hx hb d_M_findLeads_100 rfl (lv_at hl 3 rfl) ?_
                      refine lv_iadd hx hb d_M_findLeads_101 ?_
                      obtain ⟨hin, hw⟩ := hw
                      refine va_iald hx hb hK hP 6 0 rfl rfl hin d_M_findLeads_102 ?_
                      refine lv_topi (fun v_63 ev_63 => ?_)
                      have hw := hw v_63 ev_63
                      refine lv_istore (lv' := [(5, .int v_63), (4, .int v_61), (3, .int v_59), (0, .ref (a 0)), (1, .int y1_54), (2, .int y2_56)]) hx hb d_M_findLeads_103 hl (by decide) rfl (fun ls hl => ?_)
                      refine lv_iload hx hb d_M_findLeads_105 (lv_at hl 0 rfl) ?_
                      refine lv_if_lt (tgt := 124) hx hb d_M_findLeads_107 (by decide) (fun c_64 => ?_) (fun c_64 => ?_)
                      · have hw := hw.1 c_64
                        refine lv_iinc (v := y2_56 + 1) (lv' := [(2, .int (y2_56 + 1)), (5, .int v_63), (4, .int v_61), (3, .int v_59), (0, .ref (a 0)), (1, .int y1_54)]) hx hb d_M_findLeads_124 hl (k := 5) rfl rfl (by decide) rfl (fun ls hl => ?_)
                        refine lv_goto (tgt := 34) hx hb d_M_findLeads_127 (by decide) ?_
                        exact ih_56 σ_56 (y2_56 + 1) _ _ _ hw hP hD hS (lv_sub hl [4, 5, 0] rfl)
                      · have hw := hw.2 c_64
                        refine lv_aload_n hx hb d_M_findLeads_110 rfl (lv_at hl 3 rfl) ?_
                        refine va_get (D := (dC, dI)) (ci := 6) (v := .ref (a 19)) (C := R_M) (T := F_M) (N := 30) hx hb hts in_M hown hK hP 0 rfl rfl 27 (by decide) (hts (.fieldLink R_M 65 R_M "leads" "[Z") (tm 423 rfl)) (fun _ h9 => h9) rfl d_M_findLeads_111 ?_
                        refine lv_sipush (v := 160) hx hb d_M_findLeads_114 (by decide) ?_
                        refine lv_iload_n hx hb d_M_findLeads_117 rfl (lv_at hl 2 rfl) ?_
                        refine lv_imul hx hb d_M_findLeads_118 ?_
                        refine lv_iload hx hb d_M_findLeads_119 (lv_at hl 0 rfl) ?_
                        refine lv_iadd hx hb d_M_findLeads_121 ?_
                        refine lv_iconst (v := 1) hx hb d_M_findLeads_122 (by decide) ?_
                        obtain ⟨hin, hw⟩ := hw
                        refine st_z (w := wM cI cZ a) hx hb hK hP hD hS 19 1 rfl rfl (by decide +kernel) rfl hin d_M_findLeads_123 (fun s_65 e_65 H locs hP hD hS => ?_)
                        have hw := hw s_65 e_65
                        refine lv_iinc (v := y2_56 + 1) (lv' := [(2, .int (y2_56 + 1)), (5, .int v_63), (4, .int v_61), (3, .int v_59), (0, .ref (a 0)), (1, .int y1_54)]) hx hb d_M_findLeads_124 hl (k := 5) rfl rfl (by decide) rfl (fun ls hl => ?_)
                        refine lv_goto (tgt := 34) hx hb d_M_findLeads_127 (by decide) ?_
                        exact ih_56 s_65 (y2_56 + 1) _ _ _ hw hP hD hS (lv_sub hl [4, 5, 0] rfl)
                    · have hw := hw.2 c_62
                      refine lv_iconst (v := (-1)) hx hb d_M_findLeads_87 (by decide) ?_
                      refine lv_goto (tgt := 103) hx hb d_M_findLeads_88 (by decide) ?_
                      refine lv_istore (lv' := [(5, .int (-1)), (4, .int v_61), (3, .int v_59), (0, .ref (a 0)), (1, .int y1_54), (2, .int y2_56)]) hx hb d_M_findLeads_103 hl (by decide) rfl (fun ls hl => ?_)
                      refine lv_iload hx hb d_M_findLeads_105 (lv_at hl 0 rfl) ?_
                      refine lv_if_lt (tgt := 124) hx hb d_M_findLeads_107 (by decide) (fun _ => ?_) (fun c9 => absurd c9 (by decide))
                      refine lv_iinc (v := y2_56 + 1) (lv' := [(2, .int (y2_56 + 1)), (5, .int (-1)), (4, .int v_61), (3, .int v_59), (0, .ref (a 0)), (1, .int y1_54)]) hx hb d_M_findLeads_124 hl (k := 5) rfl rfl (by decide) rfl (fun ls hl => ?_)
                      refine lv_goto (tgt := 34) hx hb d_M_findLeads_127 (by decide) ?_
                      exact ih_56 σ_56 (y2_56 + 1) _ _ _ hw hP hD hS (lv_sub hl [4, 5, 0] rfl)
                  · have hw := hw.2 c_60
                    refine lv_iload_n hx hb d_M_findLeads_67 rfl (lv_at hl 2 rfl) ?_
                    refine lv_goto (tgt := 79) hx hb d_M_findLeads_68 (by decide) ?_
                    refine lv_istore (lv' := [(4, .int y1_54), (3, .int v_59), (0, .ref (a 0)), (1, .int y1_54), (2, .int y2_56)]) hx hb d_M_findLeads_79 hl (by decide) rfl (fun ls hl => ?_)
                    refine lv_iload hx hb d_M_findLeads_81 (lv_at hl 0 rfl) ?_
                    refine lv_iload_n hx hb d_M_findLeads_83 rfl (lv_at hl 3 rfl) ?_
                    refine lv_icmp_ne (tgt := 91) hx hb d_M_findLeads_84 (by decide) (fun c9 => absurd rfl c9) (fun _ => ?_)
                    refine lv_iconst (v := (-1)) hx hb d_M_findLeads_87 (by decide) ?_
                    refine lv_goto (tgt := 103) hx hb d_M_findLeads_88 (by decide) ?_
                    refine lv_istore (lv' := [(5, .int (-1)), (4, .int y1_54), (3, .int v_59), (0, .ref (a 0)), (1, .int y1_54), (2, .int y2_56)]) hx hb d_M_findLeads_103 hl (by decide) rfl (fun ls hl => ?_)
                    refine lv_iload hx hb d_M_findLeads_105 (lv_at hl 0 rfl) ?_
                    refine lv_if_lt (tgt := 124) hx hb d_M_findLeads_107 (by decide) (fun _ => ?_) (fun c9 => absurd c9 (by decide))
                    refine lv_iinc (v := y2_56 + 1) (lv' := [(2, .int (y2_56 + 1)), (5, .int (-1)), (4, .int y1_54), (3, .int v_59), (0, .ref (a 0)), (1, .int y1_54)]) hx hb d_M_findLeads_124 hl (k := 5) rfl rfl (by decide) rfl (fun ls hl => ?_)
                    refine lv_goto (tgt := 34) hx hb d_M_findLeads_127 (by decide) ?_
                    exact ih_56 σ_56 (y2_56 + 1) _ _ _ hw hP hD hS (lv_sub hl [4, 5, 0] rfl)
                · have hw := hw.2 c_58
                  refine lv_iconst (v := (-1)) hx hb d_M_findLeads_47 (by decide) ?_
                  refine lv_goto (tgt := 62) hx hb d_M_findLeads_48 (by decide) ?_
                  refine lv_istore_n (lv' := [(3, .int (-1)), (0, .ref (a 0)), (1, .int y1_54), (2, .int y2_56)]) hx hb d_M_findLeads_62 rfl hl (by decide) rfl (fun ls hl => ?_)
                  refine lv_iload_n hx hb d_M_findLeads_63 rfl (lv_at hl 0 rfl) ?_
                  refine lv_if_ge (tgt := 71) hx hb d_M_findLeads_64 (by decide) (fun c9 => absurd c9 (by decide)) (fun _ => ?_)
                  refine lv_iload_n hx hb d_M_findLeads_67 rfl (lv_at hl 2 rfl) ?_
                  refine lv_goto (tgt := 79) hx hb d_M_findLeads_68 (by decide) ?_
                  refine lv_istore (lv' := [(4, .int y1_54), (3, .int (-1)), (0, .ref (a 0)), (1, .int y1_54), (2, .int y2_56)]) hx hb d_M_findLeads_79 hl (by decide) rfl (fun ls hl => ?_)
                  refine lv_iload hx hb d_M_findLeads_81 (lv_at hl 0 rfl) ?_
                  refine lv_iload_n hx hb d_M_findLeads_83 rfl (lv_at hl 3 rfl) ?_
                  refine lv_icmp_ne (tgt := 91) hx hb d_M_findLeads_84 (by decide) (fun c9 => absurd rfl c9) (fun _ => ?_)
                  refine lv_iconst (v := (-1)) hx hb d_M_findLeads_87 (by decide) ?_
                  refine lv_goto (tgt := 103) hx hb d_M_findLeads_88 (by decide) ?_
                  refine lv_istore (lv' := [(5, .int (-1)), (4, .int y1_54), (3, .int (-1)), (0, .ref (a 0)), (1, .int y1_54), (2, .int y2_56)]) hx hb d_M_findLeads_103 hl (by decide) rfl (fun ls hl => ?_)
                  refine lv_iload hx hb d_M_findLeads_105 (lv_at hl 0 rfl) ?_
                  refine lv_if_lt (tgt := 124) hx hb d_M_findLeads_107 (by decide) (fun _ => ?_) (fun c9 => absurd c9 (by decide))
                  refine lv_iinc (v := y2_56 + 1) (lv' := [(2, .int (y2_56 + 1)), (5, .int (-1)), (4, .int y1_54), (3, .int (-1)), (0, .ref (a 0)), (1, .int y1_54)]) hx hb d_M_findLeads_124 hl (k := 5) rfl rfl (by decide) rfl (fun ls hl => ?_)
                  refine lv_goto (tgt := 34) hx hb d_M_findLeads_127 (by decide) ?_
                  exact ih_56 σ_56 (y2_56 + 1) _ _ _ hw hP hD hS (lv_sub hl [4, 5, 0] rfl)
          exact lp_56 k_56 σ_54 0 _ _ _ hw hP hD hS (lv_sub hl [1, 2, 0] rfl)
    exact lp_54 k_54 σ_53 0 _ _ _ hw hP hD hS (lv_sub hl [1, 0] rfl)
  have lp_53 : ∀ (kf_53 : Nat) (σ_53 : SS) (y1_53 : Int32) (H : Heap) (locs : List Loc) (ls : Array Slot), wl_M_findLeads_2 (fun σ' y1 => we_M_findLeads_22 σ' post) post kf_53 σ_53 y1_53 → va_P (dC, dI) clsT (wM cI cZ a σ_53) H → va_D A (wM cI cZ a σ_53) → va_S A s.heap H locs → lv_has ls 6 [(0, .ref (a 0)), (1, .int y1_53)] → W p l e { frames := 0, cells := 0, slots := 0, locals := 0 } s m ([.ref (a 0)] : List Value).toArray below meth c H locs 0 0 (MQ below (va_Qv post (bW (dC, dI) clsT (tyT cI cZ) (wM cI cZ a) A) A) ([.ref (a 0)] : List Value).toArray s 0 0 A) (F0 m 2 ls []) := by
    intro kf_53
    induction kf_53 with
    | zero => intro σ_53 y1_53 H locs ls hw; rw [wl_M_findLeads_2] at hw; exact hw.elim
    | succ kf_53 ih_53 =>
      intro σ_53 y1_53 H locs ls hw hP hD hS hl
      rw [wl_M_findLeads_2] at hw
      refine lv_iload_n hx hb d_M_findLeads_2 rfl (lv_at hl 1 rfl) ?_
      refine lv_sipush (v := 25600) hx hb d_M_findLeads_3 (by decide) ?_
      refine lv_icmp_ge (tgt := 22) hx hb d_M_findLeads_6 (by decide) (fun c_72 => ?_) (fun c_72 => ?_)
      · have hw := hw.1 c_72
        exact hE_53 σ_53 y1_53 _ _ _ hw hP hD hS (lv_sub hl [0] rfl)
      · have hw := hw.2 c_72
        refine lv_aload_n hx hb d_M_findLeads_9 rfl (lv_at hl 0 rfl) ?_
        refine va_get (D := (dC, dI)) (ci := 6) (v := .ref (a 19)) (C := R_M) (T := F_M) (N := 30) hx hb hts in_M hown hK hP 0 rfl rfl 27 (by decide) (hts (.fieldLink R_M 65 R_M "leads" "[Z") (tm 423 rfl)) (fun _ h9 => h9) rfl d_M_findLeads_10 ?_
        refine lv_iload_n hx hb d_M_findLeads_13 rfl (lv_at hl 1 rfl) ?_
        refine lv_iconst (v := 0) hx hb d_M_findLeads_14 (by decide) ?_
        obtain ⟨hin, hw⟩ := hw
        refine st_z (w := wM cI cZ a) hx hb hK hP hD hS 19 1 rfl rfl (by decide +kernel) rfl hin d_M_findLeads_15 (fun s_73 e_73 H locs hP hD hS => ?_)
        have hw := hw s_73 e_73
        refine lv_iinc (v := y1_53 + 1) (lv' := [(1, .int (y1_53 + 1)), (0, .ref (a 0))]) hx hb d_M_findLeads_16 hl (k := 1) rfl rfl (by decide) rfl (fun ls hl => ?_)
        refine lv_goto (tgt := 2) hx hb d_M_findLeads_19 (by decide) ?_
        exact ih_53 s_73 (y1_53 + 1) _ _ _ hw hP hD hS (lv_sub hl [1, 0] rfl)
  exact lp_53 k_53 σ 0 _ _ _ hw hP hD hS (lv_sub hl [1, 0] rfl)
