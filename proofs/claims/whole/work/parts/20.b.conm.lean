set_option maxHeartbeats 4000000 in
set_option maxRecDepth 100000 in
theorem c_M_fail (l : Launch) (dC : Nat → ClassId) (dI : Nat → Nat → Nat) (cI cZ : ClassId) (a : Nat → Nat) (sz : Nat) (σ : SS) (x1 : Int32) (post : Int32 → SS → Prop) (hw : wp_M_fail σ x1 post) : Met l y_M_fail (.code y_M_fail b_M_fail 4 (some .int) :: TT) { frames := 1, cells := 0, slots := 0, locals := 22 } (pW (dC, dI) clsT (tyT cI cZ) [.ref (a 0), .int x1] sz (wM cI cZ a σ)) (va_Qi post (bW (dC, dI) clsT (tyT cI cZ) (wM cI cZ a) (va_A (wM cI cZ a σ) sz)) (va_A (wM cI cZ a σ) sz)) 0 0 (va_A (wM cI cZ a σ) sz) := by
  refine hd (Qf := fun A => (va_Qi post (bW (dC, dI) clsT (tyT cI cZ) (wM cI cZ a) A) A)) (by decide) (Nat.le_of_ble_eq_true rfl) ?_
  intro p e s m below meth c A ls hx hb hr hts hown hlocks hml hK hP hD hS hA hl
  have hown : s.vm.findClass R_M = some m.cls := hown
  have hl : lv_has ls 4 [(0, .ref (a 0)), (1, .int x1)] := hl
  rw [wp_M_fail] at hw
  refine lv_aload_n hx hb d_M_fail_0 rfl (lv_at hl 0 rfl) ?_
  refine lv_iconst (v := 0) hx hb d_M_fail_1 (by decide) ?_
  refine st_f (D := (dC, dI)) (w := wM cI cZ a) (ci := 6) (C := R_M) (T := F_M) (N := 30) hx hb hts in_M t_M t_M_ok n_M hown hK hP hD hS 0 rfl rfl 0 (by decide) (hts (.fieldLink R_M 78 R_M "thrown" "I") (tm 316 rfl)) (fun _ h9 => h9) rfl (by decide +kernel) (Nat.le_of_ble_eq_true rfl) rfl d_M_fail_2 (fun s_1 e_1 H locs hP hD hS => ?_)
  have hw := hw s_1 e_1
  refine lv_iload_n hx hb d_M_fail_5 rfl (lv_at hl 1 rfl) ?_
  refine lv_iconst (v := 0) hx hb d_M_fail_6 (by decide) ?_
  refine lv_aload_n hx hb d_M_fail_7 rfl (lv_at hl 0 rfl) ?_
  refine va_get (D := (dC, dI)) (ci := 6) (v := .int (s_1 0 3)) (C := R_M) (T := F_M) (N := 30) hx hb hts in_M hown hK hP 0 rfl rfl 3 (by decide) (hts (.fieldLink R_M 88 R_M "links" "I") (tm 322 rfl)) (fun _ h9 => h9) rfl d_M_fail_8 ?_
  refine lv_iconst (v := 1) hx hb d_M_fail_11 (by decide) ?_
  refine lv_isub hx hb d_M_fail_12 ?_
  refine cl_r (va_runS (As := [.int x1, .int 0, .int ((s_1 0 3) - 1)]) (rest := []) ⟨hx, hb, hml, hown, hts⟩ (c_M_within l dC dI cI cZ a _ s_1 x1 0 ((s_1 0 3) - 1) _ hw) (cwS 3 hts (gi_S (tm 318 rfl) (tm 319 rfl) (tm 320 rfl) (tm 321 rfl)) rfl rfl rfl (by decide +kernel) ⟨Nat.le_of_ble_eq_true rfl, Nat.le_of_ble_eq_true rfl⟩) (pW_S hK hP hD) rfl rfl hl.1 rfl (lv_room (Nat.le_of_ble_eq_true rfl)) d_M_fail_13 ⟨Nat.zero_le _, Nat.zero_le _⟩) hP hS hA (fun r_2 H locs hw hP hT => ?_)
  have hS := hT _ hA hS
  refine lv_if_eq (tgt := 28) hx hb d_M_fail_16 (by decide) (fun c_3 => ?_) (fun c_3 => ?_)
  · have hw := hw.1 c_3
    refine lv_aload_n hx hb d_M_fail_28 rfl (lv_at hl 0 rfl) ?_
    refine lv_iconst (v := 1) hx hb d_M_fail_29 (by decide) ?_
    refine cl_i (va_runV (As := [.int 1]) (rest := []) ⟨hx, hb, hml, hown, hts⟩ (c_M_wrong l dC dI cI cZ a _ s_1 1 _ hw) (cwV 1 hts (gi_V (tm 324 rfl) (tm 325 rfl) (tm 326 rfl) (tm 320 rfl) (tm 327 rfl)) rfl rfl rfl (by decide +kernel) ⟨Nat.le_of_ble_eq_true rfl, Nat.le_of_ble_eq_true rfl⟩) (pW_V hK hP hD (ci := 6) (k := 0) rfl rfl) rfl rfl hl.1 rfl (lv_room (Nat.le_of_ble_eq_true rfl)) d_M_fail_30 ⟨Nat.zero_le _, Nat.zero_le _⟩) hD hS hA (fun r_4 σ_4 H locs hw hP hD hS => ?_)
    exact rt_i (w := wM cI cZ a) hx hb hr hlocks hK hP hD hS d_M_fail_33 hw
  · have hw := hw.2 c_3
    refine lv_aload_n hx hb d_M_fail_19 rfl (lv_at hl 0 rfl) ?_
    refine va_get (D := (dC, dI)) (ci := 6) (v := .ref (a 4)) (C := R_M) (T := F_M) (N := 30) hx hb hts in_M hown hK hP 0 rfl rfl 12 (by decide) (hts (.fieldLink R_M 19 R_M "failed" "[Z") (tm 335 rfl)) (fun _ h9 => h9) rfl d_M_fail_20 ?_
    refine lv_iload_n hx hb d_M_fail_23 rfl (lv_at hl 1 rfl) ?_
    obtain ⟨hin, hw⟩ := hw
    refine va_zald hx hb hK hP 4 1 rfl rfl hin d_M_fail_24 ?_
    refine lv_if_eq (tgt := 34) hx hb d_M_fail_25 (by decide) (fun c_5 => ?_) (fun c_5 => ?_)
    · have hw := hw.1 c_5
      refine lv_aload_n hx hb d_M_fail_34 rfl (lv_at hl 0 rfl) ?_
      refine va_get (D := (dC, dI)) (ci := 6) (v := .ref (a 4)) (C := R_M) (T := F_M) (N := 30) hx hb hts in_M hown hK hP 0 rfl rfl 12 (by decide) (hts (.fieldLink R_M 19 R_M "failed" "[Z") (tm 335 rfl)) (fun _ h9 => h9) rfl d_M_fail_35 ?_
      refine lv_iload_n hx hb d_M_fail_38 rfl (lv_at hl 1 rfl) ?_
      refine lv_iconst (v := 1) hx hb d_M_fail_39 (by decide) ?_
      obtain ⟨hin, hw⟩ := hw
      refine st_z (w := wM cI cZ a) hx hb hK hP hD hS 4 1 rfl rfl (by decide +kernel) rfl hin d_M_fail_40 (fun s_6 e_6 H locs hP hD hS => ?_)
      have hw := hw s_6 e_6
      refine lv_iconst (v := 0) hx hb d_M_fail_41 (by decide) ?_
      refine lv_istore_n (lv' := [(2, .int 0), (0, .ref (a 0)), (1, .int x1)]) hx hb d_M_fail_42 rfl hl (by decide) rfl (fun ls hl => ?_)
      refine lv_iconst (v := 0) hx hb d_M_fail_43 (by decide) ?_
      refine lv_istore_n (lv' := [(3, .int 0), (2, .int 0), (0, .ref (a 0)), (1, .int x1)]) hx hb d_M_fail_44 rfl hl (by decide) rfl (fun ls hl => ?_)
      obtain ⟨k_11, hw⟩ := hw
      have hE_11 : ∀ (σ_11 : SS) (y2_11 : Int32) (y3_11 : Int32) (H : Heap) (locs : List Loc) (ls : Array Slot), we_M_fail_89 σ_11 y2_11 post → va_P (dC, dI) clsT (wM cI cZ a σ_11) H → va_D A (wM cI cZ a σ_11) → va_S A s.heap H locs → lv_has ls 4 [(2, .int y2_11)] → W p l e { frames := 1, cells := 0, slots := 0, locals := 22 } s m ([.ref (a 0), .int x1] : List Value).toArray below meth c H locs 0 0 (MQ below (va_Qi post (bW (dC, dI) clsT (tyT cI cZ) (wM cI cZ a) A) A) ([.ref (a 0), .int x1] : List Value).toArray s 0 0 A) (F0 m 89 ls []) := by
        intro σ_11 y2_11 y3_11 H locs ls hw hP hD hS hl
        rw [we_M_fail_89] at hw
        refine lv_iload_n hx hb d_M_fail_89 rfl (lv_at hl 0 rfl) ?_
        exact rt_i (w := wM cI cZ a) hx hb hr hlocks hK hP hD hS d_M_fail_90 hw
      have lp_11 : ∀ (kf_11 : Nat) (σ_11 : SS) (y2_11 : Int32) (y3_11 : Int32) (H : Heap) (locs : List Loc) (ls : Array Slot), wl_M_fail_45 x1 (fun σ' y2 y3 => we_M_fail_89 σ' y2 post) post kf_11 σ_11 y2_11 y3_11 → va_P (dC, dI) clsT (wM cI cZ a σ_11) H → va_D A (wM cI cZ a σ_11) → va_S A s.heap H locs → lv_has ls 4 [(0, .ref (a 0)), (1, .int x1), (2, .int y2_11), (3, .int y3_11)] → W p l e { frames := 1, cells := 0, slots := 0, locals := 22 } s m ([.ref (a 0), .int x1] : List Value).toArray below meth c H locs 0 0 (MQ below (va_Qi post (bW (dC, dI) clsT (tyT cI cZ) (wM cI cZ a) A) A) ([.ref (a 0), .int x1] : List Value).toArray s 0 0 A) (F0 m 45 ls []) := by
        intro kf_11
        induction kf_11 with
        | zero => intro σ_11 y2_11 y3_11 H locs ls hw; rw [wl_M_fail_45] at hw; exact hw.elim
        | succ kf_11 ih_11 =>
          intro σ_11 y2_11 y3_11 H locs ls hw hP hD hS hl
          rw [wl_M_fail_45] at hw
          refine lv_iload_n hx hb d_M_fail_45 rfl (lv_at hl 3 rfl) ?_
          refine lv_sipush (v := 256) hx hb d_M_fail_46 (by decide) ?_
          refine lv_icmp_ge (tgt := 89) hx hb d_M_fail_49 (by decide) (fun c_12 => ?_) (fun c_12 => ?_)
          · have hw := hw.1 c_12
            exact hE_11 σ_11 y2_11 y3_11 _ _ _ hw hP hD hS (lv_sub hl [2] rfl)
          · have hw := hw.2 c_12
            refine lv_aload_n hx hb d_M_fail_52 rfl (lv_at hl 0 rfl) ?_
            refine va_get (D := (dC, dI)) (ci := 6) (v := .ref (a 6)) (C := R_M) (T := F_M) (N := 30) hx hb hts in_M hown hK hP 0 rfl rfl 14 (by decide) (hts (.fieldLink R_M 26 R_M "route" "[I") (tm 334 rfl)) (fun _ h9 => h9) rfl d_M_fail_53 ?_
            refine lv_iload_n hx hb d_M_fail_56 rfl (lv_at hl 3 rfl) ?_
            obtain ⟨hin, hw⟩ := hw
            refine va_iald hx hb hK hP 6 0 rfl rfl hin d_M_fail_57 ?_
            refine lv_if_lt (tgt := 83) hx hb d_M_fail_58 (by decide) (fun c_13 => ?_) (fun c_13 => ?_)
            · have hw := hw.1 c_13
              refine lv_iinc (v := y3_11 + 1) (lv' := [(3, .int (y3_11 + 1)), (0, .ref (a 0)), (1, .int x1), (2, .int y2_11)]) hx hb d_M_fail_83 hl (k := 3) rfl rfl (by decide) rfl (fun ls hl => ?_)
              refine lv_goto (tgt := 45) hx hb d_M_fail_86 (by decide) ?_
              exact ih_11 σ_11 y2_11 (y3_11 + 1) _ _ _ hw hP hD hS (lv_sub hl [1, 2, 3, 0] rfl)
            · have hw := hw.2 c_13
              refine lv_aload_n hx hb d_M_fail_61 rfl (lv_at hl 0 rfl) ?_
              refine va_get (D := (dC, dI)) (ci := 6) (v := .ref (a 6)) (C := R_M) (T := F_M) (N := 30) hx hb hts in_M hown hK hP 0 rfl rfl 14 (by decide) (hts (.fieldLink R_M 26 R_M "route" "[I") (tm 334 rfl)) (fun _ h9 => h9) rfl d_M_fail_62 ?_
              refine lv_iload_n hx hb d_M_fail_65 rfl (lv_at hl 3 rfl) ?_
              obtain ⟨hin, hw⟩ := hw
              refine va_iald hx hb hK hP 6 0 rfl rfl hin d_M_fail_66 ?_
              refine lv_iconst (v := 4) hx hb d_M_fail_67 (by decide) ?_
              refine lv_idiv hx hb d_M_fail_68 (by decide) ?_
              refine lv_iload_n hx hb d_M_fail_69 rfl (lv_at hl 1 rfl) ?_
              refine lv_icmp_ne (tgt := 83) hx hb d_M_fail_70 (by decide) (fun c_14 => ?_) (fun c_14 => ?_)
              · have hw := hw.1 c_14
                refine lv_iinc (v := y3_11 + 1) (lv' := [(3, .int (y3_11 + 1)), (0, .ref (a 0)), (1, .int x1), (2, .int y2_11)]) hx hb d_M_fail_83 hl (k := 3) rfl rfl (by decide) rfl (fun ls hl => ?_)
                refine lv_goto (tgt := 45) hx hb d_M_fail_86 (by decide) ?_
                exact ih_11 σ_11 y2_11 (y3_11 + 1) _ _ _ hw hP hD hS (lv_sub hl [1, 2, 3, 0] rfl)
              · have hw := hw.2 c_14
                refine lv_aload_n hx hb d_M_fail_73 rfl (lv_at hl 0 rfl) ?_
                refine va_get (D := (dC, dI)) (ci := 6) (v := .ref (a 6)) (C := R_M) (T := F_M) (N := 30) hx hb hts in_M hown hK hP 0 rfl rfl 14 (by decide) (hts (.fieldLink R_M 26 R_M "route" "[I") (tm 334 rfl)) (fun _ h9 => h9) rfl d_M_fail_74 ?_
                refine lv_iload_n hx hb d_M_fail_77 rfl (lv_at hl 3 rfl) ?_
                refine lv_iconst (v := (-1)) hx hb d_M_fail_78 (by decide) ?_
                obtain ⟨hin, hw⟩ := hw
                refine st_i (w := wM cI cZ a) hx hb hK hP hD hS 6 0 rfl rfl rfl hin d_M_fail_79 (fun s_15 e_15 H locs hP hD hS => ?_)
                have hw := hw s_15 e_15
                refine lv_iinc (v := y2_11 + 1) (lv' := [(2, .int (y2_11 + 1)), (0, .ref (a 0)), (1, .int x1), (3, .int y3_11)]) hx hb d_M_fail_80 hl (k := 2) rfl rfl (by decide) rfl (fun ls hl => ?_)
                refine lv_iinc (v := y3_11 + 1) (lv' := [(3, .int (y3_11 + 1)), (2, .int (y2_11 + 1)), (0, .ref (a 0)), (1, .int x1)]) hx hb d_M_fail_83 hl (k := 3) rfl rfl (by decide) rfl (fun ls hl => ?_)
                refine lv_goto (tgt := 45) hx hb d_M_fail_86 (by decide) ?_
                exact ih_11 s_15 (y2_11 + 1) (y3_11 + 1) _ _ _ hw hP hD hS (lv_sub hl [2, 3, 1, 0] rfl)
      exact lp_11 k_11 s_6 0 0 _ _ _ hw hP hD hS (lv_sub hl [2, 3, 1, 0] rfl)
    · have hw := hw.2 c_5
      refine lv_aload_n hx hb d_M_fail_28 rfl (lv_at hl 0 rfl) ?_
      refine lv_iconst (v := 1) hx hb d_M_fail_29 (by decide) ?_
      refine cl_i (va_runV (As := [.int 1]) (rest := []) ⟨hx, hb, hml, hown, hts⟩ (c_M_wrong l dC dI cI cZ a _ s_1 1 _ hw) (cwV 1 hts (gi_V (tm 324 rfl) (tm 325 rfl) (tm 326 rfl) (tm 320 rfl) (tm 327 rfl)) rfl rfl rfl (by decide +kernel) ⟨Nat.le_of_ble_eq_true rfl, Nat.le_of_ble_eq_true rfl⟩) (pW_V hK hP hD (ci := 6) (k := 0) rfl rfl) rfl rfl hl.1 rfl (lv_room (Nat.le_of_ble_eq_true rfl)) d_M_fail_30 ⟨Nat.zero_le _, Nat.zero_le _⟩) hD hS hA (fun r_16 σ_16 H locs hw hP hD hS => ?_)
      exact rt_i (w := wM cI cZ a) hx hb hr hlocks hK hP hD hS d_M_fail_33 hw
set_option maxHeartbeats 4000000 in
set_option maxRecDepth 100000 in
theorem c_M_add (l : Launch) (dC : Nat → ClassId) (dI : Nat → Nat → Nat) (cI cZ : ClassId) (a : Nat → Nat) (sz : Nat) (σ : SS) (x1 : Int32) (x2 : Int32) (x3 : Int32) (post : Int32 → SS → Prop) (hw : wp_M_add σ x1 x2 x3 post) : Met l y_M_add (.code y_M_add b_M_add 5 (some .int) :: TT) { frames := 0, cells := 0, slots := 0, locals := 0 } (pW (dC, dI) clsT (tyT cI cZ) [.ref (a 0), .int x1, .int x2, .int x3] sz (wM cI cZ a σ)) (va_Qi post (bW (dC, dI) clsT (tyT cI cZ) (wM cI cZ a) (va_A (wM cI cZ a σ) sz)) (va_A (wM cI cZ a σ) sz)) 0 0 (va_A (wM cI cZ a σ) sz) := by
  refine hd (Qf := fun A => (va_Qi post (bW (dC, dI) clsT (tyT cI cZ) (wM cI cZ a) A) A)) (by decide) (Nat.le_of_ble_eq_true rfl) ?_
  intro p e s m below meth c A ls hx hb hr hts hown hlocks hml hK hP hD hS hA hl
  have hown : s.vm.findClass R_M = some m.cls := hown
  have hl : lv_has ls 5 [(0, .ref (a 0)), (1, .int x1), (2, .int x2), (3, .int x3)] := hl
  rw [wp_M_add] at hw
  refine lv_aload_n hx hb d_M_add_0 rfl (lv_at hl 0 rfl) ?_
  refine va_get (D := (dC, dI)) (ci := 6) (v := .int (σ 0 4)) (C := R_M) (T := F_M) (N := 30) hx hb hts in_M hown hK hP 0 rfl rfl 4 (by decide) (hts (.fieldLink R_M 102 R_M "packets" "I") (tm 341 rfl)) (fun _ h9 => h9) rfl d_M_add_1 ?_
  refine lv_topi (fun v_1 ev_1 => ?_)
  have hw := hw v_1 ev_1
  refine lv_istore (lv' := [(4, .int v_1), (0, .ref (a 0)), (1, .int x1), (2, .int x2), (3, .int x3)]) hx hb d_M_add_4 hl (by decide) rfl (fun ls hl => ?_)
  refine lv_aload_n hx hb d_M_add_6 rfl (lv_at hl 1 rfl) ?_
  refine va_get (D := (dC, dI)) (ci := 6) (v := .ref (a 7)) (C := R_M) (T := F_M) (N := 30) hx hb hts in_M hown hK hP 0 rfl rfl 15 (by decide) (hts (.fieldLink R_M 29 R_M "source" "[I") (tm 342 rfl)) (fun _ h9 => h9) rfl d_M_add_7 ?_
  refine lv_iload hx hb d_M_add_10 (lv_at hl 0 rfl) ?_
  refine lv_iload_n hx hb d_M_add_12 rfl (lv_at hl 2 rfl) ?_
  obtain ⟨hin, hw⟩ := hw
  refine st_i (w := wM cI cZ a) hx hb hK hP hD hS 7 0 rfl rfl rfl hin d_M_add_13 (fun s_2 e_2 H locs hP hD hS => ?_)
  have hw := hw s_2 e_2
  refine lv_aload_n hx hb d_M_add_14 rfl (lv_at hl 1 rfl) ?_
  refine va_get (D := (dC, dI)) (ci := 6) (v := .ref (a 8)) (C := R_M) (T := F_M) (N := 30) hx hb hts in_M hown hK hP 0 rfl rfl 16 (by decide) (hts (.fieldLink R_M 32 R_M "end" "[I") (tm 343 rfl)) (fun _ h9 => h9) rfl d_M_add_15 ?_
  refine lv_iload hx hb d_M_add_18 (lv_at hl 0 rfl) ?_
  refine lv_iload_n hx hb d_M_add_20 rfl (lv_at hl 3 rfl) ?_
  obtain ⟨hin, hw⟩ := hw
  refine st_i (w := wM cI cZ a) hx hb hK hP hD hS 8 0 rfl rfl rfl hin d_M_add_21 (fun s_3 e_3 H locs hP hD hS => ?_)
  have hw := hw s_3 e_3
  refine lv_aload_n hx hb d_M_add_22 rfl (lv_at hl 1 rfl) ?_
  refine va_get (D := (dC, dI)) (ci := 6) (v := .ref (a 9)) (C := R_M) (T := F_M) (N := 30) hx hb hts in_M hown hK hP 0 rfl rfl 17 (by decide) (hts (.fieldLink R_M 35 R_M "size" "[I") (tm 344 rfl)) (fun _ h9 => h9) rfl d_M_add_23 ?_
  refine lv_iload hx hb d_M_add_26 (lv_at hl 0 rfl) ?_
  refine lv_iload_n hx hb d_M_add_28 rfl (lv_at hl 4 rfl) ?_
  obtain ⟨hin, hw⟩ := hw
  refine st_i (w := wM cI cZ a) hx hb hK hP hD hS 9 0 rfl rfl rfl hin d_M_add_29 (fun s_4 e_4 H locs hP hD hS => ?_)
  have hw := hw s_4 e_4
  refine lv_aload_n hx hb d_M_add_30 rfl (lv_at hl 1 rfl) ?_
  refine lv_dup hx hb d_M_add_31 rfl ?_
  refine va_get (D := (dC, dI)) (ci := 6) (v := .int (s_4 0 4)) (C := R_M) (T := F_M) (N := 30) hx hb hts in_M hown hK hP 0 rfl rfl 4 (by decide) (hts (.fieldLink R_M 102 R_M "packets" "I") (tm 341 rfl)) (fun _ h9 => h9) rfl d_M_add_32 ?_
  refine lv_iconst (v := 1) hx hb d_M_add_35 (by decide) ?_
  refine lv_iadd hx hb d_M_add_36 ?_
  refine st_f (D := (dC, dI)) (w := wM cI cZ a) (ci := 6) (C := R_M) (T := F_M) (N := 30) hx hb hts in_M t_M t_M_ok n_M hown hK hP hD hS 0 rfl rfl 4 (by decide) (hts (.fieldLink R_M 102 R_M "packets" "I") (tm 341 rfl)) (fun _ h9 => h9) rfl (by decide +kernel) (Nat.le_of_ble_eq_true rfl) rfl d_M_add_37 (fun s_5 e_5 H locs hP hD hS => ?_)
  have hw := hw s_5 e_5
  refine lv_iload hx hb d_M_add_40 (lv_at hl 0 rfl) ?_
  exact rt_i (w := wM cI cZ a) hx hb hr hlocks hK hP hD hS d_M_add_42 hw
set_option maxHeartbeats 4000000 in
set_option maxRecDepth 100000 in
theorem c_M_send (l : Launch) (dC : Nat → ClassId) (dI : Nat → Nat → Nat) (cI cZ : ClassId) (a : Nat → Nat) (sz : Nat) (σ : SS) (x1 : Int32) (x2 : Int32) (x3 : Int32) (post : Int32 → SS → Prop) (hw : wp_M_send σ x1 x2 x3 post) : Met l y_M_send (.code y_M_send b_M_send 4 (some .int) :: TT) { frames := 2, cells := 0, slots := 0, locals := 43 } (pW (dC, dI) clsT (tyT cI cZ) [.ref (a 0), .int x1, .int x2, .int x3] sz (wM cI cZ a σ)) (va_Qi post (bW (dC, dI) clsT (tyT cI cZ) (wM cI cZ a) (va_A (wM cI cZ a σ) sz)) (va_A (wM cI cZ a σ) sz)) 0 0 (va_A (wM cI cZ a σ) sz) := by
  refine hd (Qf := fun A => (va_Qi post (bW (dC, dI) clsT (tyT cI cZ) (wM cI cZ a) A) A)) (by decide) (Nat.le_of_ble_eq_true rfl) ?_
  intro p e s m below meth c A ls hx hb hr hts hown hlocks hml hK hP hD hS hA hl
  have hown : s.vm.findClass R_M = some m.cls := hown
  have hl : lv_has ls 4 [(0, .ref (a 0)), (1, .int x1), (2, .int x2), (3, .int x3)] := hl
  rw [wp_M_send] at hw
  refine lv_aload_n hx hb d_M_send_0 rfl (lv_at hl 0 rfl) ?_
  refine lv_iconst (v := 0) hx hb d_M_send_1 (by decide) ?_
  refine st_f (D := (dC, dI)) (w := wM cI cZ a) (ci := 6) (C := R_M) (T := F_M) (N := 30) hx hb hts in_M t_M t_M_ok n_M hown hK hP hD hS 0 rfl rfl 0 (by decide) (hts (.fieldLink R_M 78 R_M "thrown" "I") (tm 316 rfl)) (fun _ h9 => h9) rfl (by decide +kernel) (Nat.le_of_ble_eq_true rfl) rfl d_M_send_2 (fun s_1 e_1 H locs hP hD hS => ?_)
  have hw := hw s_1 e_1
  refine lv_aload_n hx hb d_M_send_5 rfl (lv_at hl 0 rfl) ?_
  refine lv_iload_n hx hb d_M_send_6 rfl (lv_at hl 1 rfl) ?_
  refine cl_r (va_runV (As := [.int x1]) (rest := []) ⟨hx, hb, hml, hown, hts⟩ (c_M_isNode l dC dI cI cZ a _ s_1 x1 _ hw) (cwV 1 hts (gi_V (tm 330 rfl) (tm 331 rfl) (tm 332 rfl) (tm 320 rfl) (tm 333 rfl)) rfl rfl rfl (by decide +kernel) ⟨Nat.le_of_ble_eq_true rfl, Nat.le_of_ble_eq_true rfl⟩) (pW_V hK hP hD (ci := 6) (k := 0) rfl rfl) rfl rfl hl.1 rfl (lv_room (Nat.le_of_ble_eq_true rfl)) d_M_send_7 ⟨Nat.zero_le _, Nat.zero_le _⟩) hP hS hA (fun r_2 H locs hw hP hT => ?_)
  have hS := hT _ hA hS
  refine lv_if_eq (tgt := 31) hx hb d_M_send_10 (by decide) (fun c_3 => ?_) (fun c_3 => ?_)
  · have hw := hw.1 c_3
    refine lv_aload_n hx hb d_M_send_31 rfl (lv_at hl 0 rfl) ?_
    refine lv_iconst (v := 1) hx hb d_M_send_32 (by decide) ?_
    refine cl_i (va_runV (As := [.int 1]) (rest := []) ⟨hx, hb, hml, hown, hts⟩ (c_M_wrong l dC dI cI cZ a _ s_1 1 _ hw) (cwV 1 hts (gi_V (tm 324 rfl) (tm 325 rfl) (tm 326 rfl) (tm 320 rfl) (tm 327 rfl)) rfl rfl rfl (by decide +kernel) ⟨Nat.le_of_ble_eq_true rfl, Nat.le_of_ble_eq_true rfl⟩) (pW_V hK hP hD (ci := 6) (k := 0) rfl rfl) rfl rfl hl.1 rfl (lv_room (Nat.le_of_ble_eq_true rfl)) d_M_send_33 ⟨Nat.zero_le _, Nat.zero_le _⟩) hD hS hA (fun r_4 σ_4 H locs hw hP hD hS => ?_)
    exact rt_i (w := wM cI cZ a) hx hb hr hlocks hK hP hD hS d_M_send_36 hw
  · have hw := hw.2 c_3
    refine lv_aload_n hx hb d_M_send_13 rfl (lv_at hl 0 rfl) ?_
    refine lv_iload_n hx hb d_M_send_14 rfl (lv_at hl 2 rfl) ?_
    refine cl_r (va_runV (As := [.int x2]) (rest := []) ⟨hx, hb, hml, hown, hts⟩ (c_M_isNode l dC dI cI cZ a _ s_1 x2 _ hw) (cwV 1 hts (gi_V (tm 330 rfl) (tm 331 rfl) (tm 332 rfl) (tm 320 rfl) (tm 333 rfl)) rfl rfl rfl (by decide +kernel) ⟨Nat.le_of_ble_eq_true rfl, Nat.le_of_ble_eq_true rfl⟩) (pW_V hK hP hD (ci := 6) (k := 0) rfl rfl) rfl rfl hl.1 rfl (lv_room (Nat.le_of_ble_eq_true rfl)) d_M_send_15 ⟨Nat.zero_le _, Nat.zero_le _⟩) hP hS hA (fun r_5 H locs hw hP hT => ?_)
    have hS := hT _ hA hS
    refine lv_if_eq (tgt := 31) hx hb d_M_send_18 (by decide) (fun c_6 => ?_) (fun c_6 => ?_)
    · have hw := hw.1 c_6
      refine lv_aload_n hx hb d_M_send_31 rfl (lv_at hl 0 rfl) ?_
      refine lv_iconst (v := 1) hx hb d_M_send_32 (by decide) ?_
      refine cl_i (va_runV (As := [.int 1]) (rest := []) ⟨hx, hb, hml, hown, hts⟩ (c_M_wrong l dC dI cI cZ a _ s_1 1 _ hw) (cwV 1 hts (gi_V (tm 324 rfl) (tm 325 rfl) (tm 326 rfl) (tm 320 rfl) (tm 327 rfl)) rfl rfl rfl (by decide +kernel) ⟨Nat.le_of_ble_eq_true rfl, Nat.le_of_ble_eq_true rfl⟩) (pW_V hK hP hD (ci := 6) (k := 0) rfl rfl) rfl rfl hl.1 rfl (lv_room (Nat.le_of_ble_eq_true rfl)) d_M_send_33 ⟨Nat.zero_le _, Nat.zero_le _⟩) hD hS hA (fun r_7 σ_7 H locs hw hP hD hS => ?_)
      exact rt_i (w := wM cI cZ a) hx hb hr hlocks hK hP hD hS d_M_send_36 hw
    · have hw := hw.2 c_6
      refine lv_iload_n hx hb d_M_send_21 rfl (lv_at hl 3 rfl) ?_
      refine lv_iconst (v := 1) hx hb d_M_send_22 (by decide) ?_
      refine lv_bipush (v := 16) hx hb d_M_send_23 (by decide) ?_
      refine cl_r (va_runS (As := [.int x3, .int 1, .int 16]) (rest := []) ⟨hx, hb, hml, hown, hts⟩ (c_M_within l dC dI cI cZ a _ s_1 x3 1 16 _ hw) (cwS 3 hts (gi_S (tm 318 rfl) (tm 319 rfl) (tm 320 rfl) (tm 321 rfl)) rfl rfl rfl (by decide +kernel) ⟨Nat.le_of_ble_eq_true rfl, Nat.le_of_ble_eq_true rfl⟩) (pW_S hK hP hD) rfl rfl hl.1 rfl (lv_room (Nat.le_of_ble_eq_true rfl)) d_M_send_25 ⟨Nat.zero_le _, Nat.zero_le _⟩) hP hS hA (fun r_8 H locs hw hP hT => ?_)
      have hS := hT _ hA hS
      refine lv_if_ne (tgt := 37) hx hb d_M_send_28 (by decide) (fun c_9 => ?_) (fun c_9 => ?_)
      · have hw := hw.1 c_9
        refine lv_aload_n hx hb d_M_send_37 rfl (lv_at hl 0 rfl) ?_
        refine va_get (D := (dC, dI)) (ci := 6) (v := .int (s_1 0 4)) (C := R_M) (T := F_M) (N := 30) hx hb hts in_M hown hK hP 0 rfl rfl 4 (by decide) (hts (.fieldLink R_M 102 R_M "packets" "I") (tm 341 rfl)) (fun _ h9 => h9) rfl d_M_send_38 ?_
        refine lv_sipush (v := 400) hx hb d_M_send_41 (by decide) ?_
        refine lv_icmp_ne (tgt := 53) hx hb d_M_send_44 (by decide) (fun c_10 => ?_) (fun c_10 => ?_)
        · have hw := hw.1 c_10
          refine lv_aload_n hx hb d_M_send_53 rfl (lv_at hl 0 rfl) ?_
          refine lv_iload_n hx hb d_M_send_54 rfl (lv_at hl 1 rfl) ?_
          refine lv_iload_n hx hb d_M_send_55 rfl (lv_at hl 2 rfl) ?_
          refine lv_iload_n hx hb d_M_send_56 rfl (lv_at hl 3 rfl) ?_
          refine cl_i (va_runV (As := [.int x1, .int x2, .int x3]) (rest := []) ⟨hx, hb, hml, hown, hts⟩ (c_M_add l dC dI cI cZ a _ s_1 x1 x2 x3 _ hw) (cwV 3 hts (gi_V (tm 345 rfl) (tm 346 rfl) (tm 347 rfl) (tm 320 rfl) (tm 348 rfl)) rfl rfl rfl (by decide +kernel) ⟨Nat.le_of_ble_eq_true rfl, Nat.le_of_ble_eq_true rfl⟩) (pW_V hK hP hD (ci := 6) (k := 0) rfl rfl) rfl rfl hl.1 rfl (lv_room (Nat.le_of_ble_eq_true rfl)) d_M_send_57 ⟨Nat.zero_le _, Nat.zero_le _⟩) hD hS hA (fun r_11 σ_11 H locs hw hP hD hS => ?_)
          exact rt_i (w := wM cI cZ a) hx hb hr hlocks hK hP hD hS d_M_send_60 hw
        · have hw := hw.2 c_10
          refine lv_aload_n hx hb d_M_send_47 rfl (lv_at hl 0 rfl) ?_
          refine lv_iconst (v := 2) hx hb d_M_send_48 (by decide) ?_
          refine cl_i (va_runV (As := [.int 2]) (rest := []) ⟨hx, hb, hml, hown, hts⟩ (c_M_wrong l dC dI cI cZ a _ s_1 2 _ hw) (cwV 1 hts (gi_V (tm 324 rfl) (tm 325 rfl) (tm 326 rfl) (tm 320 rfl) (tm 327 rfl)) rfl rfl rfl (by decide +kernel) ⟨Nat.le_of_ble_eq_true rfl, Nat.le_of_ble_eq_true rfl⟩) (pW_V hK hP hD (ci := 6) (k := 0) rfl rfl) rfl rfl hl.1 rfl (lv_room (Nat.le_of_ble_eq_true rfl)) d_M_send_49 ⟨Nat.zero_le _, Nat.zero_le _⟩) hD hS hA (fun r_12 σ_12 H locs hw hP hD hS => ?_)
          exact rt_i (w := wM cI cZ a) hx hb hr hlocks hK hP hD hS d_M_send_52 hw
      · have hw := hw.2 c_9
        refine lv_aload_n hx hb d_M_send_31 rfl (lv_at hl 0 rfl) ?_
        refine lv_iconst (v := 1) hx hb d_M_send_32 (by decide) ?_
        refine cl_i (va_runV (As := [.int 1]) (rest := []) ⟨hx, hb, hml, hown, hts⟩ (c_M_wrong l dC dI cI cZ a _ s_1 1 _ hw) (cwV 1 hts (gi_V (tm 324 rfl) (tm 325 rfl) (tm 326 rfl) (tm 320 rfl) (tm 327 rfl)) rfl rfl rfl (by decide +kernel) ⟨Nat.le_of_ble_eq_true rfl, Nat.le_of_ble_eq_true rfl⟩) (pW_V hK hP hD (ci := 6) (k := 0) rfl rfl) rfl rfl hl.1 rfl (lv_room (Nat.le_of_ble_eq_true rfl)) d_M_send_33 ⟨Nat.zero_le _, Nat.zero_le _⟩) hD hS hA (fun r_13 σ_13 H locs hw hP hD hS => ?_)
        exact rt_i (w := wM cI cZ a) hx hb hr hlocks hK hP hD hS d_M_send_36 hw
set_option maxHeartbeats 4000000 in
set_option maxRecDepth 100000 in
theorem c_M_draw (l : Launch) (dC : Nat → ClassId) (dI : Nat → Nat → Nat) (cI cZ : ClassId) (a : Nat → Nat) (sz : Nat) (σ : SS) (post : Int32 → SS → Prop) (hw : wp_M_draw σ post) : Met l y_M_draw (.code y_M_draw b_M_draw 1 (some .int) :: TT) { frames := 0, cells := 0, slots := 0, locals := 0 } (pW (dC, dI) clsT (tyT cI cZ) [.ref (a 0)] sz (wM cI cZ a σ)) (va_Qi post (bW (dC, dI) clsT (tyT cI cZ) (wM cI cZ a) (va_A (wM cI cZ a σ) sz)) (va_A (wM cI cZ a σ) sz)) 0 0 (va_A (wM cI cZ a σ) sz) := by
  refine hd (Qf := fun A => (va_Qi post (bW (dC, dI) clsT (tyT cI cZ) (wM cI cZ a) A) A)) (by decide) (Nat.le_of_ble_eq_true rfl) ?_
  intro p e s m below meth c A ls hx hb hr hts hown hlocks hml hK hP hD hS hA hl
  have hown : s.vm.findClass R_M = some m.cls := hown
  have hl : lv_has ls 1 [(0, .ref (a 0))] := hl
  rw [wp_M_draw] at hw
  refine lv_aload_n hx hb d_M_draw_0 rfl (lv_at hl 0 rfl) ?_
  refine lv_ldc (v := 1103515245) hx hb hown (hts (.constant R_M 109 1103515245) (tm 349 rfl)) d_M_draw_1 ?_
  refine lv_aload_n hx hb d_M_draw_3 rfl (lv_at hl 0 rfl) ?_
  refine va_get (D := (dC, dI)) (ci := 6) (v := .int (σ 0 1)) (C := R_M) (T := F_M) (N := 30) hx hb hts in_M hown hK hP 0 rfl rfl 1 (by decide) (hts (.fieldLink R_M 74 R_M "x" "I") (tm 350 rfl)) (fun _ h9 => h9) rfl d_M_draw_4 ?_
  refine lv_imul hx hb d_M_draw_7 ?_
  refine lv_sipush (v := 12345) hx hb d_M_draw_8 (by decide) ?_
  refine lv_iadd hx hb d_M_draw_11 ?_
  refine lv_ldc (v := 2147483647) hx hb hown (hts (.constant R_M 110 2147483647) (tm 351 rfl)) d_M_draw_12 ?_
  refine lv_iand hx hb d_M_draw_14 ?_
  refine st_f (D := (dC, dI)) (w := wM cI cZ a) (ci := 6) (C := R_M) (T := F_M) (N := 30) hx hb hts in_M t_M t_M_ok n_M hown hK hP hD hS 0 rfl rfl 1 (by decide) (hts (.fieldLink R_M 74 R_M "x" "I") (tm 350 rfl)) (fun _ h9 => h9) rfl (by decide +kernel) (Nat.le_of_ble_eq_true rfl) rfl d_M_draw_15 (fun s_1 e_1 H locs hP hD hS => ?_)
  have hw := hw s_1 e_1
  refine lv_aload_n hx hb d_M_draw_18 rfl (lv_at hl 0 rfl) ?_
  refine va_get (D := (dC, dI)) (ci := 6) (v := .int (s_1 0 1)) (C := R_M) (T := F_M) (N := 30) hx hb hts in_M hown hK hP 0 rfl rfl 1 (by decide) (hts (.fieldLink R_M 74 R_M "x" "I") (tm 350 rfl)) (fun _ h9 => h9) rfl d_M_draw_19 ?_
  refine lv_ldc (v := 65536) hx hb hown (hts (.constant R_M 111 65536) (tm 352 rfl)) d_M_draw_22 ?_
  refine lv_idiv hx hb d_M_draw_24 (by decide) ?_
  exact rt_i (w := wM cI cZ a) hx hb hr hlocks hK hP hD hS d_M_draw_25 hw
set_option maxHeartbeats 4000000 in
set_option maxRecDepth 100000 in
theorem c_M_load (l : Launch) (dC : Nat → ClassId) (dI : Nat → Nat → Nat) (cI cZ : ClassId) (a : Nat → Nat) (sz : Nat) (σ : SS) (x1 : Int32) (post : Int32 → SS → Prop) (hw : wp_M_load σ x1 post) : Met l y_M_load (.code y_M_load b_M_load 5 (some .int) :: TT) { frames := 1, cells := 0, slots := 0, locals := 24 } (pW (dC, dI) clsT (tyT cI cZ) [.ref (a 0), .int x1] sz (wM cI cZ a σ)) (va_Qi post (bW (dC, dI) clsT (tyT cI cZ) (wM cI cZ a) (va_A (wM cI cZ a σ) sz)) (va_A (wM cI cZ a σ) sz)) 0 0 (va_A (wM cI cZ a σ) sz) := by
  refine hd (Qf := fun A => (va_Qi post (bW (dC, dI) clsT (tyT cI cZ) (wM cI cZ a) A) A)) (by decide) (Nat.le_of_ble_eq_true rfl) ?_
  intro p e s m below meth c A ls hx hb hr hts hown hlocks hml hK hP hD hS hA hl
  have hown : s.vm.findClass R_M = some m.cls := hown
  have hl : lv_has ls 5 [(0, .ref (a 0)), (1, .int x1)] := hl
  rw [wp_M_load] at hw
  refine lv_aload_n hx hb d_M_load_0 rfl (lv_at hl 0 rfl) ?_
  refine lv_iconst (v := 0) hx hb d_M_load_1 (by decide) ?_
  refine st_f (D := (dC, dI)) (w := wM cI cZ a) (ci := 6) (C := R_M) (T := F_M) (N := 30) hx hb hts in_M t_M t_M_ok n_M hown hK hP hD hS 0 rfl rfl 0 (by decide) (hts (.fieldLink R_M 78 R_M "thrown" "I") (tm 316 rfl)) (fun _ h9 => h9) rfl (by decide +kernel) (Nat.le_of_ble_eq_true rfl) rfl d_M_load_2 (fun s_1 e_1 H locs hP hD hS => ?_)
  have hw := hw s_1 e_1
  refine lv_iload_n hx hb d_M_load_5 rfl (lv_at hl 1 rfl) ?_
  refine lv_iconst (v := 1) hx hb d_M_load_6 (by decide) ?_
  refine lv_bipush (v := 50) hx hb d_M_load_7 (by decide) ?_
  refine cl_r (va_runS (As := [.int x1, .int 1, .int 50]) (rest := []) ⟨hx, hb, hml, hown, hts⟩ (c_M_within l dC dI cI cZ a _ s_1 x1 1 50 _ hw) (cwS 3 hts (gi_S (tm 318 rfl) (tm 319 rfl) (tm 320 rfl) (tm 321 rfl)) rfl rfl rfl (by decide +kernel) ⟨Nat.le_of_ble_eq_true rfl, Nat.le_of_ble_eq_true rfl⟩) (pW_S hK hP hD) rfl rfl hl.1 rfl (lv_room (Nat.le_of_ble_eq_true rfl)) d_M_load_9 ⟨Nat.zero_le _, Nat.zero_le _⟩) hP hS hA (fun r_2 H locs hw hP hT => ?_)
  have hS := hT _ hA hS
  refine lv_if_ne (tgt := 21) hx hb d_M_load_12 (by decide) (fun c_3 => ?_) (fun c_3 => ?_)
  · have hw := hw.1 c_3
    refine lv_aload_n hx hb d_M_load_21 rfl (lv_at hl 0 rfl) ?_
    refine va_get (D := (dC, dI)) (ci := 6) (v := .int (s_1 0 2)) (C := R_M) (T := F_M) (N := 30) hx hb hts in_M hown hK hP 0 rfl rfl 2 (by decide) (hts (.fieldLink R_M 81 R_M "nodes" "I") (tm 317 rfl)) (fun _ h9 => h9) rfl d_M_load_22 ?_
    refine lv_if_ne (tgt := 34) hx hb d_M_load_25 (by decide) (fun c_4 => ?_) (fun c_4 => ?_)
    · have hw := hw.1 c_4
      refine lv_aload_n hx hb d_M_load_34 rfl (lv_at hl 0 rfl) ?_
      refine va_get (D := (dC, dI)) (ci := 6) (v := .int (s_1 0 4)) (C := R_M) (T := F_M) (N := 30) hx hb hts in_M hown hK hP 0 rfl rfl 4 (by decide) (hts (.fieldLink R_M 102 R_M "packets" "I") (tm 341 rfl)) (fun _ h9 => h9) rfl d_M_load_35 ?_
      refine lv_iload_n hx hb d_M_load_38 rfl (lv_at hl 1 rfl) ?_
      refine lv_iadd hx hb d_M_load_39 ?_
      refine lv_sipush (v := 400) hx hb d_M_load_40 (by decide) ?_
      refine lv_icmp_le (tgt := 52) hx hb d_M_load_43 (by decide) (fun c_5 => ?_) (fun c_5 => ?_)
      · have hw := hw.1 c_5
        refine lv_iconst (v := 0) hx hb d_M_load_52 (by decide) ?_
        refine lv_istore_n (lv' := [(2, .int 0), (0, .ref (a 0)), (1, .int x1)]) hx hb d_M_load_53 rfl hl (by decide) rfl (fun ls hl => ?_)
        obtain ⟨k_13, hw⟩ := hw
        have hE_13 : ∀ (σ_13 : SS) (y2_13 : Int32) (H : Heap) (locs : List Loc) (ls : Array Slot), we_M_load_103 σ_13 post → va_P (dC, dI) clsT (wM cI cZ a σ_13) H → va_D A (wM cI cZ a σ_13) → va_S A s.heap H locs → lv_has ls 5 [(0, .ref (a 0))] → W p l e { frames := 1, cells := 0, slots := 0, locals := 24 } s m ([.ref (a 0), .int x1] : List Value).toArray below meth c H locs 0 0 (MQ below (va_Qi post (bW (dC, dI) clsT (tyT cI cZ) (wM cI cZ a) A) A) ([.ref (a 0), .int x1] : List Value).toArray s 0 0 A) (F0 m 103 ls []) := by
          intro σ_13 y2_13 H locs ls hw hP hD hS hl
          rw [we_M_load_103] at hw
          refine lv_aload_n hx hb d_M_load_103 rfl (lv_at hl 0 rfl) ?_
          refine va_get (D := (dC, dI)) (ci := 6) (v := .int (σ_13 0 4)) (C := R_M) (T := F_M) (N := 30) hx hb hts in_M hown hK hP 0 rfl rfl 4 (by decide) (hts (.fieldLink R_M 102 R_M "packets" "I") (tm 341 rfl)) (fun _ h9 => h9) rfl d_M_load_104 ?_
          refine lv_iconst (v := 1) hx hb d_M_load_107 (by decide) ?_
          refine lv_isub hx hb d_M_load_108 ?_
          exact rt_i (w := wM cI cZ a) hx hb hr hlocks hK hP hD hS d_M_load_109 hw
        have lp_13 : ∀ (kf_13 : Nat) (σ_13 : SS) (y2_13 : Int32) (H : Heap) (locs : List Loc) (ls : Array Slot), wl_M_load_54 x1 (fun σ' y2 => we_M_load_103 σ' post) post kf_13 σ_13 y2_13 → va_P (dC, dI) clsT (wM cI cZ a σ_13) H → va_D A (wM cI cZ a σ_13) → va_S A s.heap H locs → lv_has ls 5 [(0, .ref (a 0)), (1, .int x1), (2, .int y2_13)] → W p l e { frames := 1, cells := 0, slots := 0, locals := 24 } s m ([.ref (a 0), .int x1] : List Value).toArray below meth c H locs 0 0 (MQ below (va_Qi post (bW (dC, dI) clsT (tyT cI cZ) (wM cI cZ a) A) A) ([.ref (a 0), .int x1] : List Value).toArray s 0 0 A) (F0 m 54 ls []) := by
          intro kf_13
          induction kf_13 with
          | zero => intro σ_13 y2_13 H locs ls hw; rw [wl_M_load_54] at hw; exact hw.elim
          | succ kf_13 ih_13 =>
            intro σ_13 y2_13 H locs ls hw hP hD hS hl
            rw [wl_M_load_54] at hw
            refine lv_iload_n hx hb d_M_load_54 rfl (lv_at hl 2 rfl) ?_
            refine lv_iload_n hx hb d_M_load_55 rfl (lv_at hl 1 rfl) ?_
            refine lv_icmp_ge (tgt := 103) hx hb d_M_load_56 (by decide) (fun c_14 => ?_) (fun c_14 => ?_)
            · have hw := hw.1 c_14
              exact hE_13 σ_13 y2_13 _ _ _ hw hP hD hS (lv_sub hl [0] rfl)
            · have hw := hw.2 c_14
              refine lv_aload_n hx hb d_M_load_59 rfl (lv_at hl 0 rfl) ?_
              refine cl_i (va_runV (As := []) (rest := []) ⟨hx, hb, hml, hown, hts⟩ (c_M_draw l dC dI cI cZ a _ σ_13 _ hw) (cwV 0 hts (gi_V (tm 353 rfl) (tm 354 rfl) (tm 355 rfl) (tm 320 rfl) (tm 356 rfl)) rfl rfl rfl (by decide +kernel) ⟨Nat.le_of_ble_eq_true rfl, Nat.le_of_ble_eq_true rfl⟩) (pW_V hK hP hD (ci := 6) (k := 0) rfl rfl) rfl rfl hl.1 rfl (lv_room (Nat.le_of_ble_eq_true rfl)) d_M_load_60 ⟨Nat.zero_le _, Nat.zero_le _⟩) hD hS hA (fun r_15 σ_15 H locs hw hP hD hS => ?_)
              refine lv_aload_n hx hb d_M_load_63 rfl (lv_at hl 0 rfl) ?_
              refine va_get (D := (dC, dI)) (ci := 6) (v := .int (σ_15 0 2)) (C := R_M) (T := F_M) (N := 30) hx hb hts in_M hown hK hP 0 rfl rfl 2 (by decide) (hts (.fieldLink R_M 81 R_M "nodes" "I") (tm 317 rfl)) (fun _ h9 => h9) rfl d_M_load_64 ?_
              obtain ⟨hne, hw⟩ := hw
              refine lv_irem hx hb d_M_load_67 hne ?_
              refine lv_topi (fun v_16 ev_16 => ?_)
              have hw := hw v_16 ev_16
              refine lv_istore_n (lv' := [(3, .int v_16), (0, .ref (a 0)), (1, .int x1), (2, .int y2_13)]) hx hb d_M_load_68 rfl hl (by decide) rfl (fun ls hl => ?_)
              refine lv_aload_n hx hb d_M_load_69 rfl (lv_at hl 1 rfl) ?_
              refine cl_i (va_runV (As := []) (rest := []) ⟨hx, hb, hml, hown, hts⟩ (c_M_draw l dC dI cI cZ a _ σ_15 _ hw) (cwV 0 hts (gi_V (tm 353 rfl) (tm 354 rfl) (tm 355 rfl) (tm 320 rfl) (tm 356 rfl)) rfl rfl rfl (by decide +kernel) ⟨Nat.le_of_ble_eq_true rfl, Nat.le_of_ble_eq_true rfl⟩) (pW_V hK hP hD (ci := 6) (k := 0) rfl rfl) rfl rfl hl.1 rfl (lv_room (Nat.le_of_ble_eq_true rfl)) d_M_load_70 ⟨Nat.zero_le _, Nat.zero_le _⟩) hD hS hA (fun r_17 σ_17 H locs hw hP hD hS => ?_)
              refine lv_aload_n hx hb d_M_load_73 rfl (lv_at hl 1 rfl) ?_
              refine va_get (D := (dC, dI)) (ci := 6) (v := .int (σ_17 0 2)) (C := R_M) (T := F_M) (N := 30) hx hb hts in_M hown hK hP 0 rfl rfl 2 (by decide) (hts (.fieldLink R_M 81 R_M "nodes" "I") (tm 317 rfl)) (fun _ h9 => h9) rfl d_M_load_74 ?_
              obtain ⟨hne, hw⟩ := hw
              refine lv_irem hx hb d_M_load_77 hne ?_
              refine lv_topi (fun v_18 ev_18 => ?_)
              have hw := hw v_18 ev_18
              refine lv_istore (lv' := [(4, .int v_18), (3, .int v_16), (0, .ref (a 0)), (1, .int x1), (2, .int y2_13)]) hx hb d_M_load_78 hl (by decide) rfl (fun ls hl => ?_)
              refine lv_aload_n hx hb d_M_load_80 rfl (lv_at hl 2 rfl) ?_
              refine lv_iload_n hx hb d_M_load_81 rfl (lv_at hl 1 rfl) ?_
              refine lv_iload hx hb d_M_load_82 (lv_at hl 0 rfl) ?_
              refine lv_iconst (v := 1) hx hb d_M_load_84 (by decide) ?_
              refine lv_aload_n hx hb d_M_load_85 rfl (lv_at hl 2 rfl) ?_
              refine cl_i (va_runV (As := []) (rest := [.int 1, .int v_18, .int v_16, .ref (a 0)]) ⟨hx, hb, hml, hown, hts⟩ (c_M_draw l dC dI cI cZ a _ σ_17 _ hw) (cwV 0 hts (gi_V (tm 353 rfl) (tm 354 rfl) (tm 355 rfl) (tm 320 rfl) (tm 356 rfl)) rfl rfl rfl (by decide +kernel) ⟨Nat.le_of_ble_eq_true rfl, Nat.le_of_ble_eq_true rfl⟩) (pW_V hK hP hD (ci := 6) (k := 0) rfl rfl) rfl rfl hl.1 rfl (lv_room (Nat.le_of_ble_eq_true rfl)) d_M_load_86 ⟨Nat.zero_le _, Nat.zero_le _⟩) hD hS hA (fun r_19 σ_19 H locs hw hP hD hS => ?_)
              refine lv_bipush (v := 8) hx hb d_M_load_89 (by decide) ?_
              refine lv_irem hx hb d_M_load_91 (by decide) ?_
              refine lv_iadd hx hb d_M_load_92 ?_
              refine cl_i (va_runV (As := [.int v_16, .int v_18, .int (1 + (r_19 - r_19 / 8 * 8))]) (rest := []) ⟨hx, hb, hml, hown, hts⟩ (c_M_add l dC dI cI cZ a _ σ_19 v_16 v_18 (1 + (r_19 - r_19 / 8 * 8)) _ hw) (cwV 3 hts (gi_V (tm 345 rfl) (tm 346 rfl) (tm 347 rfl) (tm 320 rfl) (tm 348 rfl)) rfl rfl rfl (by decide +kernel) ⟨Nat.le_of_ble_eq_true rfl, Nat.le_of_ble_eq_true rfl⟩) (pW_V hK hP hD (ci := 6) (k := 0) rfl rfl) rfl rfl hl.1 rfl (lv_room (Nat.le_of_ble_eq_true rfl)) d_M_load_93 ⟨Nat.zero_le _, Nat.zero_le _⟩) hD hS hA (fun r_20 σ_20 H locs hw hP hD hS => ?_)
              refine lv_pop hx hb d_M_load_96 rfl ?_
              refine lv_iinc (v := y2_13 + 1) (lv' := [(2, .int (y2_13 + 1)), (4, .int v_18), (3, .int v_16), (0, .ref (a 0)), (1, .int x1)]) hx hb d_M_load_97 hl (k := 4) rfl rfl (by decide) rfl (fun ls hl => ?_)
              refine lv_goto (tgt := 54) hx hb d_M_load_100 (by decide) ?_
              exact ih_13 σ_20 (y2_13 + 1) _ _ _ hw hP hD hS (lv_sub hl [3, 4, 0] rfl)
        exact lp_13 k_13 s_1 0 _ _ _ hw hP hD hS (lv_sub hl [1, 2, 0] rfl)
      · have hw := hw.2 c_5
        refine lv_aload_n hx hb d_M_load_46 rfl (lv_at hl 0 rfl) ?_
        refine lv_iconst (v := 3) hx hb d_M_load_47 (by decide) ?_
        refine cl_i (va_runV (As := [.int 3]) (rest := []) ⟨hx, hb, hml, hown, hts⟩ (c_M_wrong l dC dI cI cZ a _ s_1 3 _ hw) (cwV 1 hts (gi_V (tm 324 rfl) (tm 325 rfl) (tm 326 rfl) (tm 320 rfl) (tm 327 rfl)) rfl rfl rfl (by decide +kernel) ⟨Nat.le_of_ble_eq_true rfl, Nat.le_of_ble_eq_true rfl⟩) (pW_V hK hP hD (ci := 6) (k := 0) rfl rfl) rfl rfl hl.1 rfl (lv_room (Nat.le_of_ble_eq_true rfl)) d_M_load_48 ⟨Nat.zero_le _, Nat.zero_le _⟩) hD hS hA (fun r_21 σ_21 H locs hw hP hD hS => ?_)
        exact rt_i (w := wM cI cZ a) hx hb hr hlocks hK hP hD hS d_M_load_51 hw
    · have hw := hw.2 c_4
      refine lv_aload_n hx hb d_M_load_28 rfl (lv_at hl 0 rfl) ?_
      refine lv_iconst (v := 2) hx hb d_M_load_29 (by decide) ?_
      refine cl_i (va_runV (As := [.int 2]) (rest := []) ⟨hx, hb, hml, hown, hts⟩ (c_M_wrong l dC dI cI cZ a _ s_1 2 _ hw) (cwV 1 hts (gi_V (tm 324 rfl) (tm 325 rfl) (tm 326 rfl) (tm 320 rfl) (tm 327 rfl)) rfl rfl rfl (by decide +kernel) ⟨Nat.le_of_ble_eq_true rfl, Nat.le_of_ble_eq_true rfl⟩) (pW_V hK hP hD (ci := 6) (k := 0) rfl rfl) rfl rfl hl.1 rfl (lv_room (Nat.le_of_ble_eq_true rfl)) d_M_load_30 ⟨Nat.zero_le _, Nat.zero_le _⟩) hD hS hA (fun r_22 σ_22 H locs hw hP hD hS => ?_)
      exact rt_i (w := wM cI cZ a) hx hb hr hlocks hK hP hD hS d_M_load_33 hw
  · have hw := hw.2 c_3
    refine lv_aload_n hx hb d_M_load_15 rfl (lv_at hl 0 rfl) ?_
    refine lv_iconst (v := 1) hx hb d_M_load_16 (by decide) ?_
    refine cl_i (va_runV (As := [.int 1]) (rest := []) ⟨hx, hb, hml, hown, hts⟩ (c_M_wrong l dC dI cI cZ a _ s_1 1 _ hw) (cwV 1 hts (gi_V (tm 324 rfl) (tm 325 rfl) (tm 326 rfl) (tm 320 rfl) (tm 327 rfl)) rfl rfl rfl (by decide +kernel) ⟨Nat.le_of_ble_eq_true rfl, Nat.le_of_ble_eq_true rfl⟩) (pW_V hK hP hD (ci := 6) (k := 0) rfl rfl) rfl rfl hl.1 rfl (lv_room (Nat.le_of_ble_eq_true rfl)) d_M_load_17 ⟨Nat.zero_le _, Nat.zero_le _⟩) hD hS hA (fun r_23 σ_23 H locs hw hP hD hS => ?_)
    exact rt_i (w := wM cI cZ a) hx hb hr hlocks hK hP hD hS d_M_load_20 hw
set_option maxHeartbeats 4000000 in
set_option maxRecDepth 100000 in
theorem c_M_front (l : Launch) (dC : Nat → ClassId) (dI : Nat → Nat → Nat) (cI cZ : ClassId) (a : Nat → Nat) (sz : Nat) (σ : SS) (x1 : Int32) (post : Int32 → Prop) (hw : wp_M_front σ x1 post) : Met l y_M_front (.code y_M_front b_M_front 3 (some .int) :: TT) { frames := 0, cells := 0, slots := 0, locals := 0 } (pW (dC, dI) clsT (tyT cI cZ) [.ref (a 0), .int x1] sz (wM cI cZ a σ)) (va_Qi (fun r (_ : Unit) => post r) (fun _ _ => True) (fun q => sz ≤ q)) 0 0 (fun q => sz ≤ q) := by
  refine hdr (Qf := fun A => (va_Qi (fun r (_ : Unit) => post r) (fun _ _ => True) A)) (by decide) (Nat.le_of_ble_eq_true rfl) ?_
  intro p e s m below meth c A ls hx hb hr hts hown hlocks hml hK hP hD hS hA hl
  have hown : s.vm.findClass R_M = some m.cls := hown
  have hl : lv_has ls 3 [(0, .ref (a 0)), (1, .int x1)] := hl
  rw [wp_M_front] at hw
  refine lv_iload_n hx hb d_M_front_0 rfl (lv_at hl 1 rfl) ?_
  refine lv_bipush (v := 16) hx hb d_M_front_1 (by decide) ?_
  refine lv_icmp_lt (tgt := 48) hx hb d_M_front_3 (by decide) (fun c_1 => ?_) (fun c_1 => ?_)
  · have hw := hw.1 c_1
    refine lv_iconst (v := 0) hx hb d_M_front_48 (by decide) ?_
    refine lv_istore_n (lv' := [(2, .int 0), (0, .ref (a 0)), (1, .int x1)]) hx hb d_M_front_49 rfl hl (by decide) rfl (fun ls hl => ?_)
    obtain ⟨k_6, hw⟩ := hw
    have hE_6 : ∀ (y2_6 : Int32) (H : Heap) (locs : List Loc) (ls : Array Slot), we_M_front_89 σ y2_6 post → va_P (dC, dI) clsT (wM cI cZ a σ) H → va_S A s.heap H locs → lv_has ls 3 [(0, .ref (a 0)), (2, .int y2_6)] → W p l e { frames := 0, cells := 0, slots := 0, locals := 0 } s m ([.ref (a 0), .int x1] : List Value).toArray below meth c H locs 0 0 (MQ below (va_Qi (fun r (_ : Unit) => post r) (fun _ _ => True) A) ([.ref (a 0), .int x1] : List Value).toArray s 0 0 A) (F0 m 89 ls []) := by
      intro y2_6 H locs ls hw hP hS hl
      rw [we_M_front_89] at hw
      refine lv_iload_n hx hb d_M_front_89 rfl (lv_at hl 1 rfl) ?_
      refine lv_aload_n hx hb d_M_front_90 rfl (lv_at hl 0 rfl) ?_
      refine va_get (D := (dC, dI)) (ci := 6) (v := .int (σ 0 4)) (C := R_M) (T := F_M) (N := 30) hx hb hts in_M hown hK hP 0 rfl rfl 4 (by decide) (hts (.fieldLink R_M 102 R_M "packets" "I") (tm 341 rfl)) (fun _ h9 => h9) rfl d_M_front_91 ?_
      refine lv_icmp_ge (tgt := 111) hx hb d_M_front_94 (by decide) (fun c_7 => ?_) (fun c_7 => ?_)
      · have hw := hw.1 c_7
        refine lv_iconst (v := (-1)) hx hb d_M_front_111 (by decide) ?_
        exact rr_i hx hb hr hlocks hS d_M_front_112 hw
      · have hw := hw.2 c_7
        refine lv_bipush (v := 16) hx hb d_M_front_97 (by decide) ?_
        refine lv_iload_n hx hb d_M_front_99 rfl (lv_at hl 1 rfl) ?_
        refine lv_imul hx hb d_M_front_100 ?_
        refine lv_aload_n hx hb d_M_front_101 rfl (lv_at hl 0 rfl) ?_
        refine va_get (D := (dC, dI)) (ci := 6) (v := .ref (a 10)) (C := R_M) (T := F_M) (N := 30) hx hb hts in_M hown hK hP 0 rfl rfl 18 (by decide) (hts (.fieldLink R_M 38 R_M "sent" "[I") (tm 357 rfl)) (fun _ h9 => h9) rfl d_M_front_102 ?_
        refine lv_iload_n hx hb d_M_front_105 rfl (lv_at hl 1 rfl) ?_
        obtain ⟨hin, hw⟩ := hw
        refine va_iald hx hb hK hP 10 0 rfl rfl hin d_M_front_106 ?_
        refine lv_iadd hx hb d_M_front_107 ?_
        refine lv_goto (tgt := 112) hx hb d_M_front_108 (by decide) ?_
        exact rr_i hx hb hr hlocks hS d_M_front_112 hw
    have lp_6 : ∀ (kf_6 : Nat) (y2_6 : Int32) (H : Heap) (locs : List Loc) (ls : Array Slot), wl_M_front_50 σ x1 (fun y2 => we_M_front_89 σ y2 post) post kf_6 y2_6 → va_P (dC, dI) clsT (wM cI cZ a σ) H → va_S A s.heap H locs → lv_has ls 3 [(0, .ref (a 0)), (1, .int x1), (2, .int y2_6)] → W p l e { frames := 0, cells := 0, slots := 0, locals := 0 } s m ([.ref (a 0), .int x1] : List Value).toArray below meth c H locs 0 0 (MQ below (va_Qi (fun r (_ : Unit) => post r) (fun _ _ => True) A) ([.ref (a 0), .int x1] : List Value).toArray s 0 0 A) (F0 m 50 ls []) := by
      intro kf_6
      induction kf_6 with
      | zero => intro y2_6 H locs ls hw; rw [wl_M_front_50] at hw; exact hw.elim
      | succ kf_6 ih_6 =>
        intro y2_6 H locs ls hw hP hS hl
        rw [wl_M_front_50] at hw
        refine lv_iload_n hx hb d_M_front_50 rfl (lv_at hl 2 rfl) ?_
        refine lv_aload_n hx hb d_M_front_51 rfl (lv_at hl 0 rfl) ?_
        refine va_get (D := (dC, dI)) (ci := 6) (v := .int (σ 0 4)) (C := R_M) (T := F_M) (N := 30) hx hb hts in_M hown hK hP 0 rfl rfl 4 (by decide) (hts (.fieldLink R_M 102 R_M "packets" "I") (tm 341 rfl)) (fun _ h9 => h9) rfl d_M_front_52 ?_
        refine lv_icmp_ge (tgt := 89) hx hb d_M_front_55 (by decide) (fun c_8 => ?_) (fun c_8 => ?_)
        · have hw := hw.1 c_8
          exact hE_6 y2_6 _ _ _ hw hP hS (lv_sub hl [0, 2] rfl)
        · have hw := hw.2 c_8
          refine lv_aload_n hx hb d_M_front_58 rfl (lv_at hl 0 rfl) ?_
          refine va_get (D := (dC, dI)) (ci := 6) (v := .ref (a 7)) (C := R_M) (T := F_M) (N := 30) hx hb hts in_M hown hK hP 0 rfl rfl 15 (by decide) (hts (.fieldLink R_M 29 R_M "source" "[I") (tm 342 rfl)) (fun _ h9 => h9) rfl d_M_front_59 ?_
          refine lv_iload_n hx hb d_M_front_62 rfl (lv_at hl 2 rfl) ?_
          obtain ⟨hin, hw⟩ := hw
          refine va_iald hx hb hK hP 7 0 rfl rfl hin d_M_front_63 ?_
          refine lv_iload_n hx hb d_M_front_64 rfl (lv_at hl 1 rfl) ?_
          refine lv_icmp_ne (tgt := 83) hx hb d_M_front_65 (by decide) (fun c_9 => ?_) (fun c_9 => ?_)
          · have hw := hw.1 c_9
            refine lv_iinc (v := y2_6 + 1) (lv' := [(2, .int (y2_6 + 1)), (0, .ref (a 0)), (1, .int x1)]) hx hb d_M_front_83 hl (k := 2) rfl rfl (by decide) rfl (fun ls hl => ?_)
            refine lv_goto (tgt := 50) hx hb d_M_front_86 (by decide) ?_
            exact ih_6 (y2_6 + 1) _ _ _ hw hP hS (lv_sub hl [1, 2, 0] rfl)
          · have hw := hw.2 c_9
            refine lv_aload_n hx hb d_M_front_68 rfl (lv_at hl 0 rfl) ?_
            refine va_get (D := (dC, dI)) (ci := 6) (v := .ref (a 10)) (C := R_M) (T := F_M) (N := 30) hx hb hts in_M hown hK hP 0 rfl rfl 18 (by decide) (hts (.fieldLink R_M 38 R_M "sent" "[I") (tm 357 rfl)) (fun _ h9 => h9) rfl d_M_front_69 ?_
            refine lv_iload_n hx hb d_M_front_72 rfl (lv_at hl 2 rfl) ?_
            obtain ⟨hin, hw⟩ := hw
            refine va_iald hx hb hK hP 10 0 rfl rfl hin d_M_front_73 ?_
            refine lv_aload_n hx hb d_M_front_74 rfl (lv_at hl 0 rfl) ?_
            refine va_get (D := (dC, dI)) (ci := 6) (v := .ref (a 9)) (C := R_M) (T := F_M) (N := 30) hx hb hts in_M hown hK hP 0 rfl rfl 17 (by decide) (hts (.fieldLink R_M 35 R_M "size" "[I") (tm 344 rfl)) (fun _ h9 => h9) rfl d_M_front_75 ?_
            refine lv_iload_n hx hb d_M_front_78 rfl (lv_at hl 2 rfl) ?_
            obtain ⟨hin, hw⟩ := hw
            refine va_iald hx hb hK hP 9 0 rfl rfl hin d_M_front_79 ?_
            refine lv_icmp_ne (tgt := 89) hx hb d_M_front_80 (by decide) (fun c_10 => ?_) (fun c_10 => ?_)
            · have hw := hw.1 c_10
              exact hE_6 y2_6 _ _ _ hw hP hS (lv_sub hl [0, 2] rfl)
            · have hw := hw.2 c_10
              refine lv_iinc (v := y2_6 + 1) (lv' := [(2, .int (y2_6 + 1)), (0, .ref (a 0)), (1, .int x1)]) hx hb d_M_front_83 hl (k := 2) rfl rfl (by decide) rfl (fun ls hl => ?_)
              refine lv_goto (tgt := 50) hx hb d_M_front_86 (by decide) ?_
              exact ih_6 (y2_6 + 1) _ _ _ hw hP hS (lv_sub hl [1, 2, 0] rfl)
    exact lp_6 k_6 0 _ _ _ hw hP hS (lv_sub hl [1, 2, 0] rfl)
  · have hw := hw.2 c_1
    refine lv_iload_n hx hb d_M_front_6 rfl (lv_at hl 1 rfl) ?_
    refine lv_bipush (v := 16) hx hb d_M_front_7 (by decide) ?_
    refine lv_isub hx hb d_M_front_9 ?_
    refine lv_topi (fun v_11 ev_11 => ?_)
    have hw := hw v_11 ev_11
    refine lv_istore_n (lv' := [(2, .int v_11), (0, .ref (a 0)), (1, .int x1)]) hx hb d_M_front_10 rfl hl (by decide) rfl (fun ls hl => ?_)
    refine lv_aload_n hx hb d_M_front_11 rfl (lv_at hl 1 rfl) ?_
    refine va_get (D := (dC, dI)) (ci := 6) (v := .ref (a 13)) (C := R_M) (T := F_M) (N := 30) hx hb hts in_M hown hK hP 0 rfl rfl 21 (by decide) (hts (.fieldLink R_M 47 R_M "filled" "[I") (tm 358 rfl)) (fun _ h9 => h9) rfl d_M_front_12 ?_
    refine lv_iload_n hx hb d_M_front_15 rfl (lv_at hl 0 rfl) ?_
    obtain ⟨hin, hw⟩ := hw
    refine va_iald hx hb hK hP 13 0 rfl rfl hin d_M_front_16 ?_
    refine lv_if_eq (tgt := 35) hx hb d_M_front_17 (by decide) (fun c_12 => ?_) (fun c_12 => ?_)
    · have hw := hw.1 c_12
      refine lv_iconst (v := (-1)) hx hb d_M_front_35 (by decide) ?_
      refine lv_goto (tgt := 47) hx hb d_M_front_36 (by decide) ?_
      exact rr_i hx hb hr hlocks hS d_M_front_47 hw
    · have hw := hw.2 c_12
      refine lv_aload_n hx hb d_M_front_20 rfl (lv_at hl 1 rfl) ?_
      refine va_get (D := (dC, dI)) (ci := 6) (v := .ref (a 15)) (C := R_M) (T := F_M) (N := 30) hx hb hts in_M hown hK hP 0 rfl rfl 23 (by decide) (hts (.fieldLink R_M 53 R_M "since" "[I") (tm 359 rfl)) (fun _ h9 => h9) rfl d_M_front_21 ?_
      refine lv_iconst (v := 4) hx hb d_M_front_24 (by decide) ?_
      refine lv_iload_n hx hb d_M_front_25 rfl (lv_at hl 0 rfl) ?_
      refine lv_imul hx hb d_M_front_26 ?_
      obtain ⟨hin, hw⟩ := hw
      refine va_iald hx hb hK hP 15 0 rfl rfl hin d_M_front_27 ?_
      refine lv_aload_n hx hb d_M_front_28 rfl (lv_at hl 1 rfl) ?_
      refine va_get (D := (dC, dI)) (ci := 6) (v := .int (σ 0 5)) (C := R_M) (T := F_M) (N := 30) hx hb hts in_M hown hK hP 0 rfl rfl 5 (by decide) (hts (.fieldLink R_M 116 R_M "cycle" "I") (tm 360 rfl)) (fun _ h9 => h9) rfl d_M_front_29 ?_
      refine lv_icmp_ne (tgt := 39) hx hb d_M_front_32 (by decide) (fun c_13 => ?_) (fun c_13 => ?_)
      · have hw := hw.1 c_13
        refine lv_aload_n hx hb d_M_front_39 rfl (lv_at hl 1 rfl) ?_
        refine va_get (D := (dC, dI)) (ci := 6) (v := .ref (a 14)) (C := R_M) (T := F_M) (N := 30) hx hb hts in_M hown hK hP 0 rfl rfl 22 (by decide) (hts (.fieldLink R_M 50 R_M "flit" "[I") (tm 361 rfl)) (fun _ h9 => h9) rfl d_M_front_40 ?_
        refine lv_iconst (v := 4) hx hb d_M_front_43 (by decide) ?_
        refine lv_iload_n hx hb d_M_front_44 rfl (lv_at hl 0 rfl) ?_
        refine lv_imul hx hb d_M_front_45 ?_
        obtain ⟨hin, hw⟩ := hw
        refine va_iald hx hb hK hP 14 0 rfl rfl hin d_M_front_46 ?_
        exact rr_i hx hb hr hlocks hS d_M_front_47 hw
      · have hw := hw.2 c_13
        refine lv_iconst (v := (-1)) hx hb d_M_front_35 (by decide) ?_
        refine lv_goto (tgt := 47) hx hb d_M_front_36 (by decide) ?_
        exact rr_i hx hb hr hlocks hS d_M_front_47 hw
set_option maxHeartbeats 4000000 in
set_option maxRecDepth 100000 in
theorem c_M_take (l : Launch) (dC : Nat → ClassId) (dI : Nat → Nat → Nat) (cI cZ : ClassId) (a : Nat → Nat) (sz : Nat) (σ : SS) (x1 : Int32) (x2 : Int32) (post : SS → Prop) (hw : wp_M_take σ x1 x2 post) : Met l y_M_take (.code y_M_take b_M_take 5 none :: TT) { frames := 0, cells := 0, slots := 0, locals := 0 } (pW (dC, dI) clsT (tyT cI cZ) [.ref (a 0), .int x1, .int x2] sz (wM cI cZ a σ)) (va_Qv post (bW (dC, dI) clsT (tyT cI cZ) (wM cI cZ a) (va_A (wM cI cZ a σ) sz)) (va_A (wM cI cZ a σ) sz)) 0 0 (va_A (wM cI cZ a σ) sz) := by
  refine hd (Qf := fun A => (va_Qv post (bW (dC, dI) clsT (tyT cI cZ) (wM cI cZ a) A) A)) (by decide) (Nat.le_of_ble_eq_true rfl) ?_
  intro p e s m below meth c A ls hx hb hr hts hown hlocks hml hK hP hD hS hA hl
  have hown : s.vm.findClass R_M = some m.cls := hown
  have hl : lv_has ls 5 [(0, .ref (a 0)), (1, .int x1), (2, .int x2)] := hl
  rw [wp_M_take] at hw
  refine lv_iload_n hx hb d_M_take_0 rfl (lv_at hl 1 rfl) ?_
  refine lv_bipush (v := 16) hx hb d_M_take_1 (by decide) ?_
  refine lv_icmp_ge (tgt := 20) hx hb d_M_take_3 (by decide) (fun c_1 => ?_) (fun c_1 => ?_)
  · have hw := hw.1 c_1
    refine lv_iload_n hx hb d_M_take_20 rfl (lv_at hl 1 rfl) ?_
    refine lv_bipush (v := 16) hx hb d_M_take_21 (by decide) ?_
    refine lv_isub hx hb d_M_take_23 ?_
    refine lv_topi (fun v_2 ev_2 => ?_)
    have hw := hw v_2 ev_2
    refine lv_istore_n (lv' := [(3, .int v_2), (0, .ref (a 0)), (1, .int x1), (2, .int x2)]) hx hb d_M_take_24 rfl hl (by decide) rfl (fun ls hl => ?_)
    refine lv_aload_n hx hb d_M_take_25 rfl (lv_at hl 1 rfl) ?_
    refine va_get (D := (dC, dI)) (ci := 6) (v := .ref (a 13)) (C := R_M) (T := F_M) (N := 30) hx hb hts in_M hown hK hP 0 rfl rfl 21 (by decide) (hts (.fieldLink R_M 47 R_M "filled" "[I") (tm 358 rfl)) (fun _ h9 => h9) rfl d_M_take_26 ?_
    refine lv_iload_n hx hb d_M_take_29 rfl (lv_at hl 0 rfl) ?_
    refine lv_dup2_11 hx hb d_M_take_30 rfl rfl ?_
    obtain ⟨hin, hw⟩ := hw
    refine va_iald hx hb hK hP 13 0 rfl rfl hin d_M_take_31 ?_
    refine lv_iconst (v := 1) hx hb d_M_take_32 (by decide) ?_
    refine lv_isub hx hb d_M_take_33 ?_
    obtain ⟨hin, hw⟩ := hw
    refine st_i (w := wM cI cZ a) hx hb hK hP hD hS 13 0 rfl rfl rfl hin d_M_take_34 (fun s_3 e_3 H locs hP hD hS => ?_)
    have hw := hw s_3 e_3
    refine lv_iconst (v := 0) hx hb d_M_take_35 (by decide) ?_
    refine lv_istore (lv' := [(4, .int 0), (3, .int v_2), (0, .ref (a 0)), (1, .int x1), (2, .int x2)]) hx hb d_M_take_36 hl (by decide) rfl (fun ls hl => ?_)
    obtain ⟨k_7, hw⟩ := hw
    have hE_7 : ∀ (σ_7 : SS) (y4_7 : Int32) (H : Heap) (locs : List Loc) (ls : Array Slot), we_M_take_103 σ_7 post → va_P (dC, dI) clsT (wM cI cZ a σ_7) H → va_D A (wM cI cZ a σ_7) → va_S A s.heap H locs → lv_has ls 5 [] → W p l e { frames := 0, cells := 0, slots := 0, locals := 0 } s m ([.ref (a 0), .int x1, .int x2] : List Value).toArray below meth c H locs 0 0 (MQ below (va_Qv post (bW (dC, dI) clsT (tyT cI cZ) (wM cI cZ a) A) A) ([.ref (a 0), .int x1, .int x2] : List Value).toArray s 0 0 A) (F0 m 103 ls []) := by
      intro σ_7 y4_7 H locs ls hw hP hD hS hl
      rw [we_M_take_103] at hw
      exact rt_v (w := wM cI cZ a) hx hb hr hlocks hK hP hD hS d_M_take_103 hw
    have lp_7 : ∀ (kf_7 : Nat) (σ_7 : SS) (y4_7 : Int32) (H : Heap) (locs : List Loc) (ls : Array Slot), wl_M_take_38 v_2 (fun σ' y4 => we_M_take_103 σ' post) post kf_7 σ_7 y4_7 → va_P (dC, dI) clsT (wM cI cZ a σ_7) H → va_D A (wM cI cZ a σ_7) → va_S A s.heap H locs → lv_has ls 5 [(0, .ref (a 0)), (3, .int v_2), (4, .int y4_7)] → W p l e { frames := 0, cells := 0, slots := 0, locals := 0 } s m ([.ref (a 0), .int x1, .int x2] : List Value).toArray below meth c H locs 0 0 (MQ below (va_Qv post (bW (dC, dI) clsT (tyT cI cZ) (wM cI cZ a) A) A) ([.ref (a 0), .int x1, .int x2] : List Value).toArray s 0 0 A) (F0 m 38 ls []) := by
      intro kf_7
      induction kf_7 with
      | zero => intro σ_7 y4_7 H locs ls hw; rw [wl_M_take_38] at hw; exact hw.elim
      | succ kf_7 ih_7 =>
        intro σ_7 y4_7 H locs ls hw hP hD hS hl
        rw [wl_M_take_38] at hw
        refine lv_iload hx hb d_M_take_38 (lv_at hl 2 rfl) ?_
        refine lv_aload_n hx hb d_M_take_40 rfl (lv_at hl 0 rfl) ?_
        refine va_get (D := (dC, dI)) (ci := 6) (v := .ref (a 13)) (C := R_M) (T := F_M) (N := 30) hx hb hts in_M hown hK hP 0 rfl rfl 21 (by decide) (hts (.fieldLink R_M 47 R_M "filled" "[I") (tm 358 rfl)) (fun _ h9 => h9) rfl d_M_take_41 ?_
        refine lv_iload_n hx hb d_M_take_44 rfl (lv_at hl 1 rfl) ?_
        obtain ⟨hin, hw⟩ := hw
        refine va_iald hx hb hK hP 13 0 rfl rfl hin d_M_take_45 ?_
        refine lv_icmp_ge (tgt := 103) hx hb d_M_take_46 (by decide) (fun c_8 => ?_) (fun c_8 => ?_)
        · have hw := hw.1 c_8
          exact hE_7 σ_7 y4_7 _ _ _ hw hP hD hS (lv_sub hl [] rfl)
        · have hw := hw.2 c_8
          refine lv_aload_n hx hb d_M_take_49 rfl (lv_at hl 0 rfl) ?_
          refine va_get (D := (dC, dI)) (ci := 6) (v := .ref (a 14)) (C := R_M) (T := F_M) (N := 30) hx hb hts in_M hown hK hP 0 rfl rfl 22 (by decide) (hts (.fieldLink R_M 50 R_M "flit" "[I") (tm 361 rfl)) (fun _ h9 => h9) rfl d_M_take_50 ?_
          refine lv_iconst (v := 4) hx hb d_M_take_53 (by decide) ?_
          refine lv_iload_n hx hb d_M_take_54 rfl (lv_at hl 1 rfl) ?_
          refine lv_imul hx hb d_M_take_55 ?_
          refine lv_iload hx hb d_M_take_56 (lv_at hl 2 rfl) ?_
          refine lv_iadd hx hb d_M_take_58 ?_
          refine lv_aload_n hx hb d_M_take_59 rfl (lv_at hl 0 rfl) ?_
          refine va_get (D := (dC, dI)) (ci := 6) (v := .ref (a 14)) (C := R_M) (T := F_M) (N := 30) hx hb hts in_M hown hK hP 0 rfl rfl 22 (by decide) (hts (.fieldLink R_M 50 R_M "flit" "[I") (tm 361 rfl)) (fun _ h9 => h9) rfl d_M_take_60 ?_
          refine lv_iconst (v := 4) hx hb d_M_take_63 (by decide) ?_
          refine lv_iload_n hx hb d_M_take_64 rfl (lv_at hl 1 rfl) ?_
          refine lv_imul hx hb d_M_take_65 ?_
          refine lv_iload hx hb d_M_take_66 (lv_at hl 2 rfl) ?_
          refine lv_iadd hx hb d_M_take_68 ?_
          refine lv_iconst (v := 1) hx hb d_M_take_69 (by decide) ?_
          refine lv_iadd hx hb d_M_take_70 ?_
          obtain ⟨hin, hw⟩ := hw
          refine va_iald hx hb hK hP 14 0 rfl rfl hin d_M_take_71 ?_
          obtain ⟨hin, hw⟩ := hw
          refine st_i (w := wM cI cZ a) hx hb hK hP hD hS 14 0 rfl rfl rfl hin d_M_take_72 (fun s_9 e_9 H locs hP hD hS => ?_)
          have hw := hw s_9 e_9
          refine lv_aload_n hx hb d_M_take_73 rfl (lv_at hl 0 rfl) ?_
          refine va_get (D := (dC, dI)) (ci := 6) (v := .ref (a 15)) (C := R_M) (T := F_M) (N := 30) hx hb hts in_M hown hK hP 0 rfl rfl 23 (by decide) (hts (.fieldLink R_M 53 R_M "since" "[I") (tm 359 rfl)) (fun _ h9 => h9) rfl d_M_take_74 ?_
          refine lv_iconst (v := 4) hx hb d_M_take_77 (by decide) ?_
          refine lv_iload_n hx hb d_M_take_78 rfl (lv_at hl 1 rfl) ?_
          refine lv_imul hx hb d_M_take_79 ?_
          refine lv_iload hx hb d_M_take_80 (lv_at hl 2 rfl) ?_
          refine lv_iadd hx hb d_M_take_82 ?_
          refine lv_aload_n hx hb d_M_take_83 rfl (lv_at hl 0 rfl) ?_
          refine va_get (D := (dC, dI)) (ci := 6) (v := .ref (a 15)) (C := R_M) (T := F_M) (N := 30) hx hb hts in_M hown hK hP 0 rfl rfl 23 (by decide) (hts (.fieldLink R_M 53 R_M "since" "[I") (tm 359 rfl)) (fun _ h9 => h9) rfl d_M_take_84 ?_
          refine lv_iconst (v := 4) hx hb d_M_take_87 (by decide) ?_
          refine lv_iload_n hx hb d_M_take_88 rfl (lv_at hl 1 rfl) ?_
          refine lv_imul hx hb d_M_take_89 ?_
          refine lv_iload hx hb d_M_take_90 (lv_at hl 2 rfl) ?_
          refine lv_iadd hx hb d_M_take_92 ?_
          refine lv_iconst (v := 1) hx hb d_M_take_93 (by decide) ?_
          refine lv_iadd hx hb d_M_take_94 ?_
          obtain ⟨hin, hw⟩ := hw
          refine va_iald hx hb hK hP 15 0 rfl rfl hin d_M_take_95 ?_
          obtain ⟨hin, hw⟩ := hw
          refine st_i (w := wM cI cZ a) hx hb hK hP hD hS 15 0 rfl rfl rfl hin d_M_take_96 (fun s_10 e_10 H locs hP hD hS => ?_)
          have hw := hw s_10 e_10
          refine lv_iinc (v := y4_7 + 1) (lv' := [(4, .int (y4_7 + 1)), (0, .ref (a 0)), (3, .int v_2)]) hx hb d_M_take_97 hl (k := 2) rfl rfl (by decide) rfl (fun ls hl => ?_)
          refine lv_goto (tgt := 38) hx hb d_M_take_100 (by decide) ?_
          exact ih_7 s_10 (y4_7 + 1) _ _ _ hw hP hD hS (lv_sub hl [1, 2, 0] rfl)
    exact lp_7 k_7 s_3 0 _ _ _ hw hP hD hS (lv_sub hl [2, 1, 0] rfl)
  · have hw := hw.2 c_1
    refine lv_aload_n hx hb d_M_take_6 rfl (lv_at hl 0 rfl) ?_
    refine va_get (D := (dC, dI)) (ci := 6) (v := .ref (a 10)) (C := R_M) (T := F_M) (N := 30) hx hb hts in_M hown hK hP 0 rfl rfl 18 (by decide) (hts (.fieldLink R_M 38 R_M "sent" "[I") (tm 357 rfl)) (fun _ h9 => h9) rfl d_M_take_7 ?_
    refine lv_iload_n hx hb d_M_take_10 rfl (lv_at hl 2 rfl) ?_
    refine lv_bipush (v := 16) hx hb d_M_take_11 (by decide) ?_
    refine lv_idiv hx hb d_M_take_13 (by decide) ?_
    refine lv_dup2_11 hx hb d_M_take_14 rfl rfl ?_
    obtain ⟨hin, hw⟩ := hw
    refine va_iald hx hb hK hP 10 0 rfl rfl hin d_M_take_15 ?_
    refine lv_iconst (v := 1) hx hb d_M_take_16 (by decide) ?_
    refine lv_iadd hx hb d_M_take_17 ?_
    obtain ⟨hin, hw⟩ := hw
    refine st_i (w := wM cI cZ a) hx hb hK hP hD hS 10 0 rfl rfl rfl hin d_M_take_18 (fun s_11 e_11 H locs hP hD hS => ?_)
    have hw := hw s_11 e_11
    exact rt_v (w := wM cI cZ a) hx hb hr hlocks hK hP hD hS d_M_take_19 hw
set_option maxHeartbeats 4000000 in
set_option maxRecDepth 100000 in
theorem c_M_nodeOf (l : Launch) (dC : Nat → ClassId) (dI : Nat → Nat → Nat) (cI cZ : ClassId) (a : Nat → Nat) (sz : Nat) (σ : SS) (x1 : Int32) (post : Int32 → Prop) (hw : wp_M_nodeOf σ x1 post) : Met l y_M_nodeOf (.code y_M_nodeOf b_M_nodeOf 2 (some .int) :: TT) { frames := 0, cells := 0, slots := 0, locals := 0 } (pW (dC, dI) clsT (tyT cI cZ) [.ref (a 0), .int x1] sz (wM cI cZ a σ)) (va_Qi (fun r (_ : Unit) => post r) (fun _ _ => True) (fun q => sz ≤ q)) 0 0 (fun q => sz ≤ q) := by
  refine hdr (Qf := fun A => (va_Qi (fun r (_ : Unit) => post r) (fun _ _ => True) A)) (by decide) (Nat.le_of_ble_eq_true rfl) ?_
  intro p e s m below meth c A ls hx hb hr hts hown hlocks hml hK hP hD hS hA hl
  have hown : s.vm.findClass R_M = some m.cls := hown
  have hl : lv_has ls 2 [(0, .ref (a 0)), (1, .int x1)] := hl
  rw [wp_M_nodeOf] at hw
  refine lv_iload_n hx hb d_M_nodeOf_0 rfl (lv_at hl 1 rfl) ?_
  refine lv_bipush (v := 16) hx hb d_M_nodeOf_1 (by decide) ?_
  refine lv_icmp_ge (tgt := 10) hx hb d_M_nodeOf_3 (by decide) (fun c_1 => ?_) (fun c_1 => ?_)
  · have hw := hw.1 c_1
    refine lv_aload_n hx hb d_M_nodeOf_10 rfl (lv_at hl 0 rfl) ?_
    refine va_get (D := (dC, dI)) (ci := 6) (v := .ref (a 2)) (C := R_M) (T := F_M) (N := 30) hx hb hts in_M hown hK hP 0 rfl rfl 10 (by decide) (hts (.fieldLink R_M 13 R_M "to" "[I") (tm 329 rfl)) (fun _ h9 => h9) rfl d_M_nodeOf_11 ?_
    refine lv_iload_n hx hb d_M_nodeOf_14 rfl (lv_at hl 1 rfl) ?_
    refine lv_bipush (v := 16) hx hb d_M_nodeOf_15 (by decide) ?_
    refine lv_isub hx hb d_M_nodeOf_17 ?_
    refine lv_iconst (v := 4) hx hb d_M_nodeOf_18 (by decide) ?_
    refine lv_idiv hx hb d_M_nodeOf_19 (by decide) ?_
    obtain ⟨hin, hw⟩ := hw
    refine va_iald hx hb hK hP 2 0 rfl rfl hin d_M_nodeOf_20 ?_
    exact rr_i hx hb hr hlocks hS d_M_nodeOf_21 hw
  · have hw := hw.2 c_1
    refine lv_iload_n hx hb d_M_nodeOf_6 rfl (lv_at hl 1 rfl) ?_
    refine lv_goto (tgt := 21) hx hb d_M_nodeOf_7 (by decide) ?_
    exact rr_i hx hb hr hlocks hS d_M_nodeOf_21 hw
