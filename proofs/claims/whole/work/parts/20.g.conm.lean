set_option maxHeartbeats 4000000 in
set_option maxRecDepth 100000 in
theorem c_M_hasWay (l : Launch) (dC : Nat → ClassId) (dI : Nat → Nat → Nat) (cI cZ : ClassId) (a : Nat → Nat) (sz : Nat) (σ : SS) (x1 : Int32) (x2 : Int32) (post : Int32 → Prop) (hw : wp_M_hasWay σ x1 x2 post) : Met l y_M_hasWay (.code y_M_hasWay b_M_hasWay 6 (some .boolean) :: TT) { frames := 0, cells := 0, slots := 0, locals := 0 } (pW (dC, dI) clsT (tyT cI cZ) [.ref (a 0), .int x1, .int x2] sz (wM cI cZ a σ)) (va_Qi (fun r (_ : Unit) => post r) (fun _ _ => True) (fun q => sz ≤ q)) 0 0 (fun q => sz ≤ q) := by
  refine hdr (Qf := fun A => (va_Qi (fun r (_ : Unit) => post r) (fun _ _ => True) A)) (by decide) (Nat.le_of_ble_eq_true rfl) ?_
  intro p e s m below meth c A ls hx hb hr hts hown hlocks hml hK hP hD hS hA hl
  have hown : s.vm.findClass R_M = some m.cls := hown
  have hl : lv_has ls 6 [(0, .ref (a 0)), (1, .int x1), (2, .int x2)] := hl
  rw [wp_M_hasWay] at hw
  refine lv_iload_n hx hb d_M_hasWay_0 rfl (lv_at hl 1 rfl) ?_
  refine lv_istore_n (lv' := [(3, .int x1), (0, .ref (a 0)), (1, .int x1), (2, .int x2)]) hx hb d_M_hasWay_1 rfl hl (by decide) rfl (fun ls hl => ?_)
  refine lv_iconst (v := 0) hx hb d_M_hasWay_2 (by decide) ?_
  refine lv_istore (lv' := [(4, .int 0), (3, .int x1), (0, .ref (a 0)), (1, .int x1), (2, .int x2)]) hx hb d_M_hasWay_3 hl (by decide) rfl (fun ls hl => ?_)
  obtain ⟨k_7, hw⟩ := hw
  have hE_7 : ∀ (y3_7 : Int32) (y4_7 : Int32) (H : Heap) (locs : List Loc) (ls : Array Slot), we_M_hasWay_55 σ x2 y3_7 post → va_P (dC, dI) clsT (wM cI cZ a σ) H → va_S A s.heap H locs → lv_has ls 6 [(2, .int x2), (3, .int y3_7)] → W p l e { frames := 0, cells := 0, slots := 0, locals := 0 } s m ([.ref (a 0), .int x1, .int x2] : List Value).toArray below meth c H locs 0 0 (MQ below (va_Qi (fun r (_ : Unit) => post r) (fun _ _ => True) A) ([.ref (a 0), .int x1, .int x2] : List Value).toArray s 0 0 A) (F0 m 55 ls []) := by
    intro y3_7 y4_7 H locs ls hw hP hS hl
    rw [we_M_hasWay_55] at hw
    refine lv_iload_n hx hb d_M_hasWay_55 rfl (lv_at hl 1 rfl) ?_
    refine lv_iload_n hx hb d_M_hasWay_56 rfl (lv_at hl 0 rfl) ?_
    refine lv_icmp_ne (tgt := 64) hx hb d_M_hasWay_57 (by decide) (fun c_8 => ?_) (fun c_8 => ?_)
    · have hw := hw.1 c_8
      refine lv_iconst (v := 0) hx hb d_M_hasWay_64 (by decide) ?_
      exact rr_z hx hb hr hlocks hS d_M_hasWay_65 (Or.inl rfl) hw
    · have hw := hw.2 c_8
      refine lv_iconst (v := 1) hx hb d_M_hasWay_60 (by decide) ?_
      refine lv_goto (tgt := 65) hx hb d_M_hasWay_61 (by decide) ?_
      exact rr_z hx hb hr hlocks hS d_M_hasWay_65 (Or.inr rfl) hw
  have lp_7 : ∀ (kf_7 : Nat) (y3_7 : Int32) (y4_7 : Int32) (H : Heap) (locs : List Loc) (ls : Array Slot), wl_M_hasWay_5 σ x2 (fun y3 y4 => we_M_hasWay_55 σ x2 y3 post) post kf_7 y3_7 y4_7 → va_P (dC, dI) clsT (wM cI cZ a σ) H → va_S A s.heap H locs → lv_has ls 6 [(0, .ref (a 0)), (2, .int x2), (3, .int y3_7), (4, .int y4_7)] → W p l e { frames := 0, cells := 0, slots := 0, locals := 0 } s m ([.ref (a 0), .int x1, .int x2] : List Value).toArray below meth c H locs 0 0 (MQ below (va_Qi (fun r (_ : Unit) => post r) (fun _ _ => True) A) ([.ref (a 0), .int x1, .int x2] : List Value).toArray s 0 0 A) (F0 m 5 ls []) := by
    intro kf_7
    induction kf_7 with
    | zero => intro y3_7 y4_7 H locs ls hw; rw [wl_M_hasWay_5] at hw; exact hw.elim
    | succ kf_7 ih_7 =>
      intro y3_7 y4_7 H locs ls hw hP hS hl
      rw [wl_M_hasWay_5] at hw
      refine lv_iload hx hb d_M_hasWay_5 (lv_at hl 3 rfl) ?_
      refine lv_aload_n hx hb d_M_hasWay_7 rfl (lv_at hl 0 rfl) ?_
      refine va_get (D := (dC, dI)) (ci := 6) (v := .int (σ 0 2)) (C := R_M) (T := F_M) (N := 30) hx hb hts in_M hown hK hP 0 rfl rfl 2 (by decide) (hts (.fieldLink R_M 81 R_M "nodes" "I") (tm 317 rfl)) (fun _ h9 => h9) rfl d_M_hasWay_8 ?_
      refine lv_icmp_ge (tgt := 55) hx hb d_M_hasWay_11 (by decide) (fun c_9 => ?_) (fun c_9 => ?_)
      · have hw := hw.1 c_9
        exact hE_7 y3_7 y4_7 _ _ _ hw hP hS (lv_sub hl [1, 2] rfl)
      · have hw := hw.2 c_9
        refine lv_iload_n hx hb d_M_hasWay_14 rfl (lv_at hl 2 rfl) ?_
        refine lv_iload_n hx hb d_M_hasWay_15 rfl (lv_at hl 1 rfl) ?_
        refine lv_icmp_eq (tgt := 55) hx hb d_M_hasWay_16 (by decide) (fun c_10 => ?_) (fun c_10 => ?_)
        · have hw := hw.1 c_10
          exact hE_7 y3_7 y4_7 _ _ _ hw hP hS (lv_sub hl [1, 2] rfl)
        · have hw := hw.2 c_10
          refine lv_aload_n hx hb d_M_hasWay_19 rfl (lv_at hl 0 rfl) ?_
          refine va_get (D := (dC, dI)) (ci := 6) (v := .ref (a 6)) (C := R_M) (T := F_M) (N := 30) hx hb hts in_M hown hK hP 0 rfl rfl 14 (by decide) (hts (.fieldLink R_M 26 R_M "route" "[I") (tm 334 rfl)) (fun _ h9 => h9) rfl d_M_hasWay_20 ?_
          refine lv_bipush (v := 16) hx hb d_M_hasWay_23 (by decide) ?_
          refine lv_iload_n hx hb d_M_hasWay_25 rfl (lv_at hl 2 rfl) ?_
          refine lv_imul hx hb d_M_hasWay_26 ?_
          refine lv_iload_n hx hb d_M_hasWay_27 rfl (lv_at hl 1 rfl) ?_
          refine lv_iadd hx hb d_M_hasWay_28 ?_
          obtain ⟨hin, hw⟩ := hw
          refine va_iald hx hb hK hP 6 0 rfl rfl hin d_M_hasWay_29 ?_
          refine lv_topi (fun v_11 ev_11 => ?_)
          have hw := hw v_11 ev_11
          refine lv_istore (lv' := [(5, .int v_11), (0, .ref (a 0)), (2, .int x2), (3, .int y3_7), (4, .int y4_7)]) hx hb d_M_hasWay_30 hl (by decide) rfl (fun ls hl => ?_)
          refine lv_iload hx hb d_M_hasWay_32 (lv_at hl 0 rfl) ?_
          refine lv_if_ge (tgt := 39) hx hb d_M_hasWay_34 (by decide) (fun c_12 => ?_) (fun c_12 => ?_)
          · have hw := hw.1 c_12
            refine lv_aload_n hx hb d_M_hasWay_39 rfl (lv_at hl 1 rfl) ?_
            refine va_get (D := (dC, dI)) (ci := 6) (v := .ref (a 2)) (C := R_M) (T := F_M) (N := 30) hx hb hts in_M hown hK hP 0 rfl rfl 10 (by decide) (hts (.fieldLink R_M 13 R_M "to" "[I") (tm 329 rfl)) (fun _ h9 => h9) rfl d_M_hasWay_40 ?_
            refine lv_iload hx hb d_M_hasWay_43 (lv_at hl 0 rfl) ?_
            refine lv_iconst (v := 4) hx hb d_M_hasWay_45 (by decide) ?_
            refine lv_idiv hx hb d_M_hasWay_46 (by decide) ?_
            obtain ⟨hin, hw⟩ := hw
            refine va_iald hx hb hK hP 2 0 rfl rfl hin d_M_hasWay_47 ?_
            refine lv_topi (fun v_13 ev_13 => ?_)
            have hw := hw v_13 ev_13
            refine lv_istore_n (lv' := [(3, .int v_13), (5, .int v_11), (0, .ref (a 0)), (2, .int x2), (4, .int y4_7)]) hx hb d_M_hasWay_48 rfl hl (by decide) rfl (fun ls hl => ?_)
            refine lv_iinc (v := y4_7 + 1) (lv' := [(4, .int (y4_7 + 1)), (3, .int v_13), (5, .int v_11), (0, .ref (a 0)), (2, .int x2)]) hx hb d_M_hasWay_49 hl (k := 4) rfl rfl (by decide) rfl (fun ls hl => ?_)
            refine lv_goto (tgt := 5) hx hb d_M_hasWay_52 (by decide) ?_
            exact ih_7 v_13 (y4_7 + 1) _ _ _ hw hP hS (lv_sub hl [3, 4, 1, 0] rfl)
          · have hw := hw.2 c_12
            refine lv_iconst (v := 0) hx hb d_M_hasWay_37 (by decide) ?_
            exact rr_z hx hb hr hlocks hS d_M_hasWay_38 (Or.inl rfl) hw
  exact lp_7 k_7 x1 0 _ _ _ hw hP hS (lv_sub hl [2, 4, 1, 0] rfl)
set_option maxHeartbeats 4000000 in
set_option maxRecDepth 100000 in
theorem c_M_count (l : Launch) (dC : Nat → ClassId) (dI : Nat → Nat → Nat) (cI cZ : ClassId) (a : Nat → Nat) (sz : Nat) (σ : SS) (x1 : Int32) (post : Int32 → SS → Prop) (hw : wp_M_count σ x1 post) : Met l y_M_count (.code y_M_count b_M_count 5 (some .int) :: TT) { frames := 1, cells := 0, slots := 0, locals := 25 } (pW (dC, dI) clsT (tyT cI cZ) [.ref (a 0), .int x1] sz (wM cI cZ a σ)) (va_Qi post (bW (dC, dI) clsT (tyT cI cZ) (wM cI cZ a) (va_A (wM cI cZ a σ) sz)) (va_A (wM cI cZ a σ) sz)) 0 0 (va_A (wM cI cZ a σ) sz) := by
  refine hd (Qf := fun A => (va_Qi post (bW (dC, dI) clsT (tyT cI cZ) (wM cI cZ a) A) A)) (by decide) (Nat.le_of_ble_eq_true rfl) ?_
  intro p e s m below meth c A ls hx hb hr hts hown hlocks hml hK hP hD hS hA hl
  have hown : s.vm.findClass R_M = some m.cls := hown
  have hl : lv_has ls 5 [(0, .ref (a 0)), (1, .int x1)] := hl
  rw [wp_M_count] at hw
  refine lv_aload_n hx hb d_M_count_0 rfl (lv_at hl 0 rfl) ?_
  refine lv_iconst (v := 0) hx hb d_M_count_1 (by decide) ?_
  refine st_f (D := (dC, dI)) (w := wM cI cZ a) (ci := 6) (C := R_M) (T := F_M) (N := 30) hx hb hts in_M t_M t_M_ok n_M hown hK hP hD hS 0 rfl rfl 0 (by decide) (hts (.fieldLink R_M 78 R_M "thrown" "I") (tm 316 rfl)) (fun _ h9 => h9) rfl (by decide +kernel) (Nat.le_of_ble_eq_true rfl) rfl d_M_count_2 (fun s_1 e_1 H locs hP hD hS => ?_)
  have hw := hw s_1 e_1
  refine lv_iload_n hx hb d_M_count_5 rfl (lv_at hl 1 rfl) ?_
  refine lv_iconst (v := 0) hx hb d_M_count_6 (by decide) ?_
  refine lv_bipush (v := 9) hx hb d_M_count_7 (by decide) ?_
  refine cl_r (va_runS (As := [.int x1, .int 0, .int 9]) (rest := []) ⟨hx, hb, hml, hown, hts⟩ (c_M_within l dC dI cI cZ a _ s_1 x1 0 9 _ hw) (cwS 3 hts (gi_S (tm 318 rfl) (tm 319 rfl) (tm 320 rfl) (tm 321 rfl)) rfl rfl rfl (by decide +kernel) ⟨Nat.le_of_ble_eq_true rfl, Nat.le_of_ble_eq_true rfl⟩) (pW_S hK hP hD) rfl rfl hl.1 rfl (lv_room (Nat.le_of_ble_eq_true rfl)) d_M_count_9 ⟨Nat.zero_le _, Nat.zero_le _⟩) hP hS hA (fun r_2 H locs hw hP hT => ?_)
  have hS := hT _ hA hS
  refine lv_if_ne (tgt := 17) hx hb d_M_count_12 (by decide) (fun c_3 => ?_) (fun c_3 => ?_)
  · have hw := hw.1 c_3
    refine lv_iload_n hx hb d_M_count_17 rfl (lv_at hl 1 rfl) ?_
    refine lv_iconst (v := 5) hx hb d_M_count_18 (by decide) ?_
    refine lv_icmp_ge (tgt := 74) hx hb d_M_count_19 (by decide) (fun c_4 => ?_) (fun c_4 => ?_)
    · have hw := hw.1 c_4
      refine lv_iload_n hx hb d_M_count_74 rfl (lv_at hl 1 rfl) ?_
      refine lv_bipush (v := 7) hx hb d_M_count_75 (by decide) ?_
      refine lv_icmp_eq (tgt := 86) hx hb d_M_count_77 (by decide) (fun c_5 => ?_) (fun c_5 => ?_)
      · have hw := hw.1 c_5
        refine lv_iload_n hx hb d_M_count_86 rfl (lv_at hl 1 rfl) ?_
        refine lv_bipush (v := 7) hx hb d_M_count_87 (by decide) ?_
        refine lv_icmp_ne (tgt := 99) hx hb d_M_count_89 (by decide) (fun c_6 => ?_) (fun c_6 => ?_)
        · have hw := hw.1 c_6
          refine lv_aload_n hx hb d_M_count_99 rfl (lv_at hl 0 rfl) ?_
          refine va_get (D := (dC, dI)) (ci := 6) (v := .int (s_1 0 7)) (C := R_M) (T := F_M) (N := 30) hx hb hts in_M hown hK hP 0 rfl rfl 7 (by decide) (hts (.fieldLink R_M 145 R_M "left" "I") (tm 396 rfl)) (fun _ h9 => h9) rfl d_M_count_100 ?_
          exact rt_i (w := wM cI cZ a) hx hb hr hlocks hK hP hD hS d_M_count_103 hw
        · have hw := hw.2 c_6
          refine lv_aload_n hx hb d_M_count_92 rfl (lv_at hl 0 rfl) ?_
          refine va_get (D := (dC, dI)) (ci := 6) (v := .int (s_1 0 6)) (C := R_M) (T := F_M) (N := 30) hx hb hts in_M hown hK hP 0 rfl rfl 6 (by decide) (hts (.fieldLink R_M 142 R_M "moved" "I") (tm 385 rfl)) (fun _ h9 => h9) rfl d_M_count_93 ?_
          refine lv_goto (tgt := 103) hx hb d_M_count_96 (by decide) ?_
          exact rt_i (w := wM cI cZ a) hx hb hr hlocks hK hP hD hS d_M_count_103 hw
      · have hw := hw.2 c_5
        refine lv_iload_n hx hb d_M_count_80 rfl (lv_at hl 1 rfl) ?_
        refine lv_bipush (v := 8) hx hb d_M_count_81 (by decide) ?_
        refine lv_icmp_ne (tgt := 104) hx hb d_M_count_83 (by decide) (fun c_7 => ?_) (fun c_7 => ?_)
        · have hw := hw.1 c_7
          refine lv_iconst (v := 0) hx hb d_M_count_104 (by decide) ?_
          refine lv_istore_n (lv' := [(2, .int 0), (0, .ref (a 0)), (1, .int x1)]) hx hb d_M_count_105 rfl hl (by decide) rfl (fun ls hl => ?_)
          refine lv_iload_n hx hb d_M_count_106 rfl (lv_at hl 2 rfl) ?_
          refine lv_bipush (v := 7) hx hb d_M_count_107 (by decide) ?_
          refine lv_icmp_ge (tgt := 142) hx hb d_M_count_109 (by decide) (fun c_8 => ?_) (fun c_8 => ?_)
          · have hw := hw.1 c_8
            refine lv_iconst (v := 0) hx hb d_M_count_142 (by decide) ?_
            refine lv_istore_n (lv' := [(3, .int 0), (2, .int 0), (0, .ref (a 0)), (1, .int x1)]) hx hb d_M_count_143 rfl hl (by decide) rfl (fun ls hl => ?_)
            obtain ⟨k_25, hw⟩ := hw
            have hE_25 : ∀ (y2_25 : Int32) (y3_25 : Int32) (H : Heap) (locs : List Loc) (ls : Array Slot), we_M_count_200 s_1 y2_25 post → va_P (dC, dI) clsT (wM cI cZ a s_1) H → va_D A (wM cI cZ a s_1) → va_S A s.heap H locs → lv_has ls 5 [(2, .int y2_25)] → W p l e { frames := 1, cells := 0, slots := 0, locals := 25 } s m ([.ref (a 0), .int x1] : List Value).toArray below meth c H locs 0 0 (MQ below (va_Qi post (bW (dC, dI) clsT (tyT cI cZ) (wM cI cZ a) A) A) ([.ref (a 0), .int x1] : List Value).toArray s 0 0 A) (F0 m 200 ls []) := by
              intro y2_25 y3_25 H locs ls hw hP hD hS hl
              rw [we_M_count_200] at hw
              refine lv_iload_n hx hb d_M_count_200 rfl (lv_at hl 0 rfl) ?_
              exact rt_i (w := wM cI cZ a) hx hb hr hlocks hK hP hD hS d_M_count_201 hw
            have lp_25 : ∀ (kf_25 : Nat) (y2_25 : Int32) (y3_25 : Int32) (H : Heap) (locs : List Loc) (ls : Array Slot), wl_M_count_144 s_1 (fun y2 y3 => we_M_count_200 s_1 y2 post) post kf_25 y2_25 y3_25 → va_P (dC, dI) clsT (wM cI cZ a s_1) H → va_D A (wM cI cZ a s_1) → va_S A s.heap H locs → lv_has ls 5 [(0, .ref (a 0)), (2, .int y2_25), (3, .int y3_25)] → W p l e { frames := 1, cells := 0, slots := 0, locals := 25 } s m ([.ref (a 0), .int x1] : List Value).toArray below meth c H locs 0 0 (MQ below (va_Qi post (bW (dC, dI) clsT (tyT cI cZ) (wM cI cZ a) A) A) ([.ref (a 0), .int x1] : List Value).toArray s 0 0 A) (F0 m 144 ls []) := by
              intro kf_25
              induction kf_25 with
              | zero => intro y2_25 y3_25 H locs ls hw; rw [wl_M_count_144] at hw; exact hw.elim
              | succ kf_25 ih_25 =>
                intro y2_25 y3_25 H locs ls hw hP hD hS hl
                rw [wl_M_count_144] at hw
                refine lv_iload_n hx hb d_M_count_144 rfl (lv_at hl 2 rfl) ?_
                refine lv_aload_n hx hb d_M_count_145 rfl (lv_at hl 0 rfl) ?_
                refine va_get (D := (dC, dI)) (ci := 6) (v := .int (s_1 0 2)) (C := R_M) (T := F_M) (N := 30) hx hb hts in_M hown hK hP 0 rfl rfl 2 (by decide) (hts (.fieldLink R_M 81 R_M "nodes" "I") (tm 317 rfl)) (fun _ h9 => h9) rfl d_M_count_146 ?_
                refine lv_icmp_ge (tgt := 200) hx hb d_M_count_149 (by decide) (fun c_26 => ?_) (fun c_26 => ?_)
                · have hw := hw.1 c_26
                  exact hE_25 y2_25 y3_25 _ _ _ hw hP hD hS (lv_sub hl [1] rfl)
                · have hw := hw.2 c_26
                  refine lv_iconst (v := 0) hx hb d_M_count_152 (by decide) ?_
                  refine lv_istore (lv' := [(4, .int 0), (0, .ref (a 0)), (2, .int y2_25), (3, .int y3_25)]) hx hb d_M_count_153 hl (by decide) rfl (fun ls hl => ?_)
                  obtain ⟨k_27, hw⟩ := hw
                  have hE_27 : ∀ (y2_27 : Int32) (y4_27 : Int32) (H : Heap) (locs : List Loc) (ls : Array Slot), we_M_count_194 s_1 y2_27 y3_25 (wl_M_count_144 s_1 (fun y2 y3 => we_M_count_200 s_1 y2 post) post kf_25) (fun y2 y3 => we_M_count_200 s_1 y2 post) post → va_P (dC, dI) clsT (wM cI cZ a s_1) H → va_D A (wM cI cZ a s_1) → va_S A s.heap H locs → lv_has ls 5 [(0, .ref (a 0)), (2, .int y2_27), (3, .int y3_25)] → W p l e { frames := 1, cells := 0, slots := 0, locals := 25 } s m ([.ref (a 0), .int x1] : List Value).toArray below meth c H locs 0 0 (MQ below (va_Qi post (bW (dC, dI) clsT (tyT cI cZ) (wM cI cZ a) A) A) ([.ref (a 0), .int x1] : List Value).toArray s 0 0 A) (F0 m 194 ls []) := by
                    intro y2_27 y4_27 H locs ls hw hP hD hS hl
                    rw [we_M_count_194] at hw
                    refine lv_iinc (v := y3_25 + 1) (lv' := [(3, .int (y3_25 + 1)), (0, .ref (a 0)), (2, .int y2_27)]) hx hb d_M_count_194 hl (k := 2) rfl rfl (by decide) rfl (fun ls hl => ?_)
                    refine lv_goto (tgt := 144) hx hb d_M_count_197 (by decide) ?_
                    exact ih_25 y2_27 (y3_25 + 1) _ _ _ hw hP hD hS (lv_sub hl [1, 2, 0] rfl)
                  have lp_27 : ∀ (kf_27 : Nat) (y2_27 : Int32) (y4_27 : Int32) (H : Heap) (locs : List Loc) (ls : Array Slot), wl_M_count_155 s_1 y3_25 (fun y2 y4 => we_M_count_194 s_1 y2 y3_25 (wl_M_count_144 s_1 (fun y2 y3 => we_M_count_200 s_1 y2 post) post kf_25) (fun y2 y3 => we_M_count_200 s_1 y2 post) post) post kf_27 y2_27 y4_27 → va_P (dC, dI) clsT (wM cI cZ a s_1) H → va_D A (wM cI cZ a s_1) → va_S A s.heap H locs → lv_has ls 5 [(0, .ref (a 0)), (2, .int y2_27), (3, .int y3_25), (4, .int y4_27)] → W p l e { frames := 1, cells := 0, slots := 0, locals := 25 } s m ([.ref (a 0), .int x1] : List Value).toArray below meth c H locs 0 0 (MQ below (va_Qi post (bW (dC, dI) clsT (tyT cI cZ) (wM cI cZ a) A) A) ([.ref (a 0), .int x1] : List Value).toArray s 0 0 A) (F0 m 155 ls []) := by
                    intro kf_27
                    induction kf_27 with
                    | zero => intro y2_27 y4_27 H locs ls hw; rw [wl_M_count_155] at hw; exact hw.elim
                    | succ kf_27 ih_27 =>
                      intro y2_27 y4_27 H locs ls hw hP hD hS hl
                      rw [wl_M_count_155] at hw
                      refine lv_iload hx hb d_M_count_155 (lv_at hl 3 rfl) ?_
                      refine lv_aload_n hx hb d_M_count_157 rfl (lv_at hl 0 rfl) ?_
                      refine va_get (D := (dC, dI)) (ci := 6) (v := .int (s_1 0 2)) (C := R_M) (T := F_M) (N := 30) hx hb hts in_M hown hK hP 0 rfl rfl 2 (by decide) (hts (.fieldLink R_M 81 R_M "nodes" "I") (tm 317 rfl)) (fun _ h9 => h9) rfl d_M_count_158 ?_
                      refine lv_icmp_ge (tgt := 194) hx hb d_M_count_161 (by decide) (fun c_28 => ?_) (fun c_28 => ?_)
                      · have hw := hw.1 c_28
                        exact hE_27 y2_27 y4_27 _ _ _ hw hP hD hS (lv_sub hl [0, 1, 2] rfl)
                      · have hw := hw.2 c_28
                        refine lv_iload_n hx hb d_M_count_164 rfl (lv_at hl 1 rfl) ?_
                        refine lv_iload_n hx hb d_M_count_165 rfl (lv_at hl 2 rfl) ?_
                        refine lv_iload hx hb d_M_count_166 (lv_at hl 3 rfl) ?_
                        refine lv_icmp_eq (tgt := 185) hx hb d_M_count_168 (by decide) (fun c_29 => ?_) (fun c_29 => ?_)
                        · have hw := hw.1 c_29
                          refine lv_iconst (v := 0) hx hb d_M_count_185 (by decide) ?_
                          refine lv_iadd hx hb d_M_count_186 ?_
                          refine lv_topi (fun v_30 ev_30 => ?_)
                          have hw := hw v_30 ev_30
                          refine lv_istore_n (lv' := [(2, .int v_30), (0, .ref (a 0)), (3, .int y3_25), (4, .int y4_27)]) hx hb d_M_count_187 rfl hl (by decide) rfl (fun ls hl => ?_)
                          refine lv_iinc (v := y4_27 + 1) (lv' := [(4, .int (y4_27 + 1)), (2, .int v_30), (0, .ref (a 0)), (3, .int y3_25)]) hx hb d_M_count_188 hl (k := 3) rfl rfl (by decide) rfl (fun ls hl => ?_)
                          refine lv_goto (tgt := 155) hx hb d_M_count_191 (by decide) ?_
                          exact ih_27 v_30 (y4_27 + 1) _ _ _ hw hP hD hS (lv_sub hl [2, 1, 3, 0] rfl)
                        · have hw := hw.2 c_29
                          refine lv_aload_n hx hb d_M_count_171 rfl (lv_at hl 0 rfl) ?_
                          refine lv_iload_n hx hb d_M_count_172 rfl (lv_at hl 2 rfl) ?_
                          refine lv_iload hx hb d_M_count_173 (lv_at hl 3 rfl) ?_
                          refine cl_r (va_runV (As := [.int y3_25, .int y4_27]) (rest := [.int y2_27]) ⟨hx, hb, hml, hown, hts⟩ (c_M_hasWay l dC dI cI cZ a _ s_1 y3_25 y4_27 _ hw) (cwV 2 hts (gi_V (tm 437 rfl) (tm 438 rfl) (tm 439 rfl) (tm 320 rfl) (tm 440 rfl)) rfl rfl rfl (by decide +kernel) ⟨Nat.le_of_ble_eq_true rfl, Nat.le_of_ble_eq_true rfl⟩) (pW_V hK hP hD (ci := 6) (k := 0) rfl rfl) rfl rfl hl.1 rfl (lv_room (Nat.le_of_ble_eq_true rfl)) d_M_count_175 ⟨Nat.zero_le _, Nat.zero_le _⟩) hP hS hA (fun r_31 H locs hw hP hT => ?_)
                          have hS := hT _ hA hS
                          refine lv_if_ne (tgt := 185) hx hb d_M_count_178 (by decide) (fun c_32 => ?_) (fun c_32 => ?_)
                          · have hw := hw.1 c_32
                            refine lv_iconst (v := 0) hx hb d_M_count_185 (by decide) ?_
                            refine lv_iadd hx hb d_M_count_186 ?_
                            refine lv_topi (fun v_33 ev_33 => ?_)
                            have hw := hw v_33 ev_33
                            refine lv_istore_n (lv' := [(2, .int v_33), (0, .ref (a 0)), (3, .int y3_25), (4, .int y4_27)]) hx hb d_M_count_187 rfl hl (by decide) rfl (fun ls hl => ?_)
                            refine lv_iinc (v := y4_27 + 1) (lv' := [(4, .int (y4_27 + 1)), (2, .int v_33), (0, .ref (a 0)), (3, .int y3_25)]) hx hb d_M_count_188 hl (k := 3) rfl rfl (by decide) rfl (fun ls hl => ?_)
                            refine lv_goto (tgt := 155) hx hb d_M_count_191 (by decide) ?_
                            exact ih_27 v_33 (y4_27 + 1) _ _ _ hw hP hD hS (lv_sub hl [2, 1, 3, 0] rfl)
                          · have hw := hw.2 c_32
                            refine lv_iconst (v := 1) hx hb d_M_count_181 (by decide) ?_
                            refine lv_goto (tgt := 186) hx hb d_M_count_182 (by decide) ?_
                            refine lv_iadd hx hb d_M_count_186 ?_
                            refine lv_topi (fun v_34 ev_34 => ?_)
                            have hw := hw v_34 ev_34
                            refine lv_istore_n (lv' := [(2, .int v_34), (0, .ref (a 0)), (3, .int y3_25), (4, .int y4_27)]) hx hb d_M_count_187 rfl hl (by decide) rfl (fun ls hl => ?_)
                            refine lv_iinc (v := y4_27 + 1) (lv' := [(4, .int (y4_27 + 1)), (2, .int v_34), (0, .ref (a 0)), (3, .int y3_25)]) hx hb d_M_count_188 hl (k := 3) rfl rfl (by decide) rfl (fun ls hl => ?_)
                            refine lv_goto (tgt := 155) hx hb d_M_count_191 (by decide) ?_
                            exact ih_27 v_34 (y4_27 + 1) _ _ _ hw hP hD hS (lv_sub hl [2, 1, 3, 0] rfl)
                  exact lp_27 k_27 y2_25 0 _ _ _ hw hP hD hS (lv_sub hl [1, 2, 3, 0] rfl)
            exact lp_25 k_25 0 0 _ _ _ hw hP hD hS (lv_sub hl [2, 1, 0] rfl)
          · have hw := hw.2 c_8
            refine lv_iconst (v := 0) hx hb d_M_count_112 (by decide) ?_
            refine lv_istore_n (lv' := [(3, .int 0), (2, .int 0), (0, .ref (a 0)), (1, .int x1)]) hx hb d_M_count_113 rfl hl (by decide) rfl (fun ls hl => ?_)
            obtain ⟨k_38, hw⟩ := hw
            have hE_38 : ∀ (y2_38 : Int32) (y3_38 : Int32) (H : Heap) (locs : List Loc) (ls : Array Slot), we_M_count_139 s_1 y2_38 post → va_P (dC, dI) clsT (wM cI cZ a s_1) H → va_D A (wM cI cZ a s_1) → va_S A s.heap H locs → lv_has ls 5 [(2, .int y2_38)] → W p l e { frames := 1, cells := 0, slots := 0, locals := 25 } s m ([.ref (a 0), .int x1] : List Value).toArray below meth c H locs 0 0 (MQ below (va_Qi post (bW (dC, dI) clsT (tyT cI cZ) (wM cI cZ a) A) A) ([.ref (a 0), .int x1] : List Value).toArray s 0 0 A) (F0 m 139 ls []) := by
              intro y2_38 y3_38 H locs ls hw hP hD hS hl
              rw [we_M_count_139] at hw
              refine lv_goto (tgt := 200) hx hb d_M_count_139 (by decide) ?_
              refine lv_iload_n hx hb d_M_count_200 rfl (lv_at hl 0 rfl) ?_
              exact rt_i (w := wM cI cZ a) hx hb hr hlocks hK hP hD hS d_M_count_201 hw
            have lp_38 : ∀ (kf_38 : Nat) (y2_38 : Int32) (y3_38 : Int32) (H : Heap) (locs : List Loc) (ls : Array Slot), wl_M_count_114 s_1 x1 (fun y2 y3 => we_M_count_139 s_1 y2 post) post kf_38 y2_38 y3_38 → va_P (dC, dI) clsT (wM cI cZ a s_1) H → va_D A (wM cI cZ a s_1) → va_S A s.heap H locs → lv_has ls 5 [(0, .ref (a 0)), (1, .int x1), (2, .int y2_38), (3, .int y3_38)] → W p l e { frames := 1, cells := 0, slots := 0, locals := 25 } s m ([.ref (a 0), .int x1] : List Value).toArray below meth c H locs 0 0 (MQ below (va_Qi post (bW (dC, dI) clsT (tyT cI cZ) (wM cI cZ a) A) A) ([.ref (a 0), .int x1] : List Value).toArray s 0 0 A) (F0 m 114 ls []) := by
              intro kf_38
              induction kf_38 with
              | zero => intro y2_38 y3_38 H locs ls hw; rw [wl_M_count_114] at hw; exact hw.elim
              | succ kf_38 ih_38 =>
                intro y2_38 y3_38 H locs ls hw hP hD hS hl
                rw [wl_M_count_114] at hw
                refine lv_iload_n hx hb d_M_count_114 rfl (lv_at hl 3 rfl) ?_
                refine lv_aload_n hx hb d_M_count_115 rfl (lv_at hl 0 rfl) ?_
                refine va_get (D := (dC, dI)) (ci := 6) (v := .int (s_1 0 4)) (C := R_M) (T := F_M) (N := 30) hx hb hts in_M hown hK hP 0 rfl rfl 4 (by decide) (hts (.fieldLink R_M 102 R_M "packets" "I") (tm 341 rfl)) (fun _ h9 => h9) rfl d_M_count_116 ?_
                refine lv_icmp_ge (tgt := 139) hx hb d_M_count_119 (by decide) (fun c_39 => ?_) (fun c_39 => ?_)
                · have hw := hw.1 c_39
                  exact hE_38 y2_38 y3_38 _ _ _ hw hP hD hS (lv_sub hl [2] rfl)
                · have hw := hw.2 c_39
                  refine lv_iload_n hx hb d_M_count_122 rfl (lv_at hl 2 rfl) ?_
                  refine lv_aload_n hx hb d_M_count_123 rfl (lv_at hl 0 rfl) ?_
                  refine lv_iload_n hx hb d_M_count_124 rfl (lv_at hl 3 rfl) ?_
                  refine lv_iload_n hx hb d_M_count_125 rfl (lv_at hl 1 rfl) ?_
                  refine lv_iconst (v := 4) hx hb d_M_count_126 (by decide) ?_
                  refine lv_isub hx hb d_M_count_127 ?_
                  refine cl_r (va_runV (As := [.int y3_38, .int (x1 - 4)]) (rest := [.int y2_38]) ⟨hx, hb, hml, hown, hts⟩ (c_M_flitsIn l dC dI cI cZ a _ s_1 y3_38 (x1 - 4) _ hw) (cwV 2 hts (gi_V (tm 419 rfl) (tm 420 rfl) (tm 421 rfl) (tm 320 rfl) (tm 422 rfl)) rfl rfl rfl (by decide +kernel) ⟨Nat.le_of_ble_eq_true rfl, Nat.le_of_ble_eq_true rfl⟩) (pW_V hK hP hD (ci := 6) (k := 0) rfl rfl) rfl rfl hl.1 rfl (lv_room (Nat.le_of_ble_eq_true rfl)) d_M_count_128 ⟨Nat.zero_le _, Nat.zero_le _⟩) hP hS hA (fun r_40 H locs hw hP hT => ?_)
                  have hS := hT _ hA hS
                  refine lv_iadd hx hb d_M_count_131 ?_
                  refine lv_topi (fun v_41 ev_41 => ?_)
                  have hw := hw v_41 ev_41
                  refine lv_istore_n (lv' := [(2, .int v_41), (0, .ref (a 0)), (1, .int x1), (3, .int y3_38)]) hx hb d_M_count_132 rfl hl (by decide) rfl (fun ls hl => ?_)
                  refine lv_iinc (v := y3_38 + 1) (lv' := [(3, .int (y3_38 + 1)), (2, .int v_41), (0, .ref (a 0)), (1, .int x1)]) hx hb d_M_count_133 hl (k := 3) rfl rfl (by decide) rfl (fun ls hl => ?_)
                  refine lv_goto (tgt := 114) hx hb d_M_count_136 (by decide) ?_
                  exact ih_38 v_41 (y3_38 + 1) _ _ _ hw hP hD hS (lv_sub hl [2, 3, 1, 0] rfl)
            exact lp_38 k_38 0 0 _ _ _ hw hP hD hS (lv_sub hl [2, 3, 1, 0] rfl)
        · have hw := hw.2 c_7
          refine lv_iload_n hx hb d_M_count_86 rfl (lv_at hl 1 rfl) ?_
          refine lv_bipush (v := 7) hx hb d_M_count_87 (by decide) ?_
          refine lv_icmp_ne (tgt := 99) hx hb d_M_count_89 (by decide) (fun c_42 => ?_) (fun c_42 => ?_)
          · have hw := hw.1 c_42
            refine lv_aload_n hx hb d_M_count_99 rfl (lv_at hl 0 rfl) ?_
            refine va_get (D := (dC, dI)) (ci := 6) (v := .int (s_1 0 7)) (C := R_M) (T := F_M) (N := 30) hx hb hts in_M hown hK hP 0 rfl rfl 7 (by decide) (hts (.fieldLink R_M 145 R_M "left" "I") (tm 396 rfl)) (fun _ h9 => h9) rfl d_M_count_100 ?_
            exact rt_i (w := wM cI cZ a) hx hb hr hlocks hK hP hD hS d_M_count_103 hw
          · have hw := hw.2 c_42
            refine lv_aload_n hx hb d_M_count_92 rfl (lv_at hl 0 rfl) ?_
            refine va_get (D := (dC, dI)) (ci := 6) (v := .int (s_1 0 6)) (C := R_M) (T := F_M) (N := 30) hx hb hts in_M hown hK hP 0 rfl rfl 6 (by decide) (hts (.fieldLink R_M 142 R_M "moved" "I") (tm 385 rfl)) (fun _ h9 => h9) rfl d_M_count_93 ?_
            refine lv_goto (tgt := 103) hx hb d_M_count_96 (by decide) ?_
            exact rt_i (w := wM cI cZ a) hx hb hr hlocks hK hP hD hS d_M_count_103 hw
    · have hw := hw.2 c_4
      refine lv_iload_n hx hb d_M_count_22 rfl (lv_at hl 1 rfl) ?_
      refine lv_if_ne (tgt := 33) hx hb d_M_count_23 (by decide) (fun c_43 => ?_) (fun c_43 => ?_)
      · have hw := hw.1 c_43
        refine lv_iload_n hx hb d_M_count_33 rfl (lv_at hl 1 rfl) ?_
        refine lv_iconst (v := 1) hx hb d_M_count_34 (by decide) ?_
        refine lv_icmp_ne (tgt := 45) hx hb d_M_count_35 (by decide) (fun c_44 => ?_) (fun c_44 => ?_)
        · have hw := hw.1 c_44
          refine lv_iload_n hx hb d_M_count_45 rfl (lv_at hl 1 rfl) ?_
          refine lv_iconst (v := 2) hx hb d_M_count_46 (by decide) ?_
          refine lv_icmp_ne (tgt := 57) hx hb d_M_count_47 (by decide) (fun c_45 => ?_) (fun c_45 => ?_)
          · have hw := hw.1 c_45
            refine lv_iload_n hx hb d_M_count_57 rfl (lv_at hl 1 rfl) ?_
            refine lv_iconst (v := 3) hx hb d_M_count_58 (by decide) ?_
            refine lv_icmp_ne (tgt := 69) hx hb d_M_count_59 (by decide) (fun c_46 => ?_) (fun c_46 => ?_)
            · have hw := hw.1 c_46
              refine lv_aload_n hx hb d_M_count_69 rfl (lv_at hl 0 rfl) ?_
              refine va_get (D := (dC, dI)) (ci := 6) (v := .int (s_1 0 5)) (C := R_M) (T := F_M) (N := 30) hx hb hts in_M hown hK hP 0 rfl rfl 5 (by decide) (hts (.fieldLink R_M 116 R_M "cycle" "I") (tm 360 rfl)) (fun _ h9 => h9) rfl d_M_count_70 ?_
              exact rt_i (w := wM cI cZ a) hx hb hr hlocks hK hP hD hS d_M_count_73 hw
            · have hw := hw.2 c_46
              refine lv_aload_n hx hb d_M_count_62 rfl (lv_at hl 0 rfl) ?_
              refine va_get (D := (dC, dI)) (ci := 6) (v := .int (s_1 0 8)) (C := R_M) (T := F_M) (N := 30) hx hb hts in_M hown hK hP 0 rfl rfl 8 (by decide) (hts (.fieldLink R_M 148 R_M "arrived" "I") (tm 398 rfl)) (fun _ h9 => h9) rfl d_M_count_63 ?_
              refine lv_goto (tgt := 73) hx hb d_M_count_66 (by decide) ?_
              exact rt_i (w := wM cI cZ a) hx hb hr hlocks hK hP hD hS d_M_count_73 hw
          · have hw := hw.2 c_45
            refine lv_aload_n hx hb d_M_count_50 rfl (lv_at hl 0 rfl) ?_
            refine va_get (D := (dC, dI)) (ci := 6) (v := .int (s_1 0 4)) (C := R_M) (T := F_M) (N := 30) hx hb hts in_M hown hK hP 0 rfl rfl 4 (by decide) (hts (.fieldLink R_M 102 R_M "packets" "I") (tm 341 rfl)) (fun _ h9 => h9) rfl d_M_count_51 ?_
            refine lv_goto (tgt := 73) hx hb d_M_count_54 (by decide) ?_
            exact rt_i (w := wM cI cZ a) hx hb hr hlocks hK hP hD hS d_M_count_73 hw
        · have hw := hw.2 c_44
          refine lv_aload_n hx hb d_M_count_38 rfl (lv_at hl 0 rfl) ?_
          refine va_get (D := (dC, dI)) (ci := 6) (v := .int (s_1 0 3)) (C := R_M) (T := F_M) (N := 30) hx hb hts in_M hown hK hP 0 rfl rfl 3 (by decide) (hts (.fieldLink R_M 88 R_M "links" "I") (tm 322 rfl)) (fun _ h9 => h9) rfl d_M_count_39 ?_
          refine lv_goto (tgt := 73) hx hb d_M_count_42 (by decide) ?_
          exact rt_i (w := wM cI cZ a) hx hb hr hlocks hK hP hD hS d_M_count_73 hw
      · have hw := hw.2 c_43
        refine lv_aload_n hx hb d_M_count_26 rfl (lv_at hl 0 rfl) ?_
        refine va_get (D := (dC, dI)) (ci := 6) (v := .int (s_1 0 2)) (C := R_M) (T := F_M) (N := 30) hx hb hts in_M hown hK hP 0 rfl rfl 2 (by decide) (hts (.fieldLink R_M 81 R_M "nodes" "I") (tm 317 rfl)) (fun _ h9 => h9) rfl d_M_count_27 ?_
        refine lv_goto (tgt := 73) hx hb d_M_count_30 (by decide) ?_
        exact rt_i (w := wM cI cZ a) hx hb hr hlocks hK hP hD hS d_M_count_73 hw
  · have hw := hw.2 c_3
    refine lv_iconst (v := (-1)) hx hb d_M_count_15 (by decide) ?_
    exact rt_i (w := wM cI cZ a) hx hb hr hlocks hK hP hD hS d_M_count_16 hw
