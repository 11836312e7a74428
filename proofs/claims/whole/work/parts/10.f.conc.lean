set_option maxHeartbeats 4000000 in
set_option maxRecDepth 100000 in
theorem c_CN_count (l : Launch) (dC : Nat → ClassId) (dI : Nat → Nat → Nat) (cI cZ : ClassId) (a : Nat → Nat) (sz : Nat) (σ : SS) (x1 : Int32) (post : Int32 → Prop) (hw : wp_CN_count σ x1 post) : Met l y_CN_count (.code y_CN_count b_CN_count 2 (some .int) :: TT) { frames := 3, cells := 0, slots := 0, locals := 70 } (pW (dC, dI) clsT (tyT cI cZ) [.ref (a 0), .int x1] sz (wC cI cZ a σ)) (va_Qi (fun r (_ : Unit) => post r) (fun _ _ => True) (fun q => sz ≤ q)) 0 0 (fun q => sz ≤ q) := by
  refine hdr (Qf := fun A => (va_Qi (fun r (_ : Unit) => post r) (fun _ _ => True) A)) (by decide) (Nat.le_of_ble_eq_true rfl) ?_
  intro p e s m below meth c A ls hx hb hr hts hown hlocks hml hK hP hD hS hA hl
  have hown : s.vm.findClass R_CN = some m.cls := hown
  have hl : lv_has ls 2 [(0, .ref (a 0)), (1, .int x1)] := hl
  rw [wp_CN_count] at hw
  refine lv_iload_n hx hb d_CN_count_0 rfl (lv_at hl 1 rfl) ?_
  by_cases c_1 : x1 = 0
  · have hw := hw.1 c_1
    refine lv_tableIn (tgt := 56) hx hb d_CN_count_1 (by rw [c_1]; decide) (by rw [c_1]; decide) (by rw [c_1]; rfl) (by decide) ?_
    refine lv_aload_n hx hb d_CN_count_56 rfl (lv_at hl 0 rfl) ?_
    refine va_get (D := (dC, dI)) (ci := 0) (v := .ref (a 1)) (C := R_CN) (T := F_CN) (N := 6) hx hb hts in_CN hown hK hP 0 rfl rfl 0 (by decide) (hts (.fieldLink R_CN 16 R_CN "plan" "LNetRoutes$Plan;") (tm 241 rfl)) (fun _ h9 => h9) rfl d_CN_count_57 ?_
    refine va_get (D := (dC, dI)) (ci := 1) (v := .int (σ 1 0)) (C := R_CP) (T := F_CP) (N := 8) hx hb hts in_CP hown hK hP 1 rfl rfl 0 (by decide) (hts (.fieldLink R_CN 54 R_CP "nodes" "I") (tm 242 rfl)) (fun _ h9 => h9) rfl d_CN_count_60 ?_
    exact rr_i hx hb hr hlocks hS d_CN_count_63 hw
  by_cases c_2 : x1 = 1
  · have hw := hw.2.1 c_2
    refine lv_tableIn (tgt := 64) hx hb d_CN_count_1 (by rw [c_2]; decide) (by rw [c_2]; decide) (by rw [c_2]; rfl) (by decide) ?_
    refine lv_aload_n hx hb d_CN_count_64 rfl (lv_at hl 0 rfl) ?_
    refine va_get (D := (dC, dI)) (ci := 0) (v := .ref (a 1)) (C := R_CN) (T := F_CN) (N := 6) hx hb hts in_CN hown hK hP 0 rfl rfl 0 (by decide) (hts (.fieldLink R_CN 16 R_CN "plan" "LNetRoutes$Plan;") (tm 241 rfl)) (fun _ h9 => h9) rfl d_CN_count_65 ?_
    refine va_get (D := (dC, dI)) (ci := 1) (v := .int (σ 1 1)) (C := R_CP) (T := F_CP) (N := 8) hx hb hts in_CP hown hK hP 1 rfl rfl 1 (by decide) (hts (.fieldLink R_CN 75 R_CP "links" "I") (tm 243 rfl)) (fun _ h9 => h9) rfl d_CN_count_68 ?_
    exact rr_i hx hb hr hlocks hS d_CN_count_71 hw
  by_cases c_3 : x1 = 2
  · have hw := hw.2.2.1 c_3
    refine lv_tableIn (tgt := 72) hx hb d_CN_count_1 (by rw [c_3]; decide) (by rw [c_3]; decide) (by rw [c_3]; rfl) (by decide) ?_
    refine lv_aload_n hx hb d_CN_count_72 rfl (lv_at hl 0 rfl) ?_
    refine va_get (D := (dC, dI)) (ci := 0) (v := .ref (a 2)) (C := R_CN) (T := F_CN) (N := 6) hx hb hts in_CN hown hK hP 0 rfl rfl 1 (by decide) (hts (.fieldLink R_CN 23 R_CN "packets" "LNetRoutes$Packets;") (tm 44 rfl)) (fun _ h9 => h9) rfl d_CN_count_73 ?_
    refine va_get (D := (dC, dI)) (ci := 2) (v := .int (σ 2 0)) (C := R_CK) (T := F_CK) (N := 7) hx hb hts in_CK hown hK hP 2 rfl rfl 0 (by decide) (hts (.fieldLink R_CN 125 R_CK "many" "I") (tm 225 rfl)) (fun _ h9 => h9) rfl d_CN_count_76 ?_
    exact rr_i hx hb hr hlocks hS d_CN_count_79 hw
  by_cases c_4 : x1 = 3
  · have hw := hw.2.2.2.1 c_4
    refine lv_tableIn (tgt := 80) hx hb d_CN_count_1 (by rw [c_4]; decide) (by rw [c_4]; decide) (by rw [c_4]; rfl) (by decide) ?_
    refine lv_aload_n hx hb d_CN_count_80 rfl (lv_at hl 0 rfl) ?_
    refine va_get (D := (dC, dI)) (ci := 0) (v := .ref (a 2)) (C := R_CN) (T := F_CN) (N := 6) hx hb hts in_CN hown hK hP 0 rfl rfl 1 (by decide) (hts (.fieldLink R_CN 23 R_CN "packets" "LNetRoutes$Packets;") (tm 44 rfl)) (fun _ h9 => h9) rfl d_CN_count_81 ?_
    refine va_get (D := (dC, dI)) (ci := 2) (v := .int (σ 2 1)) (C := R_CK) (T := F_CK) (N := 7) hx hb hts in_CK hown hK hP 2 rfl rfl 1 (by decide) (hts (.fieldLink R_CN 148 R_CK "arrived" "I") (tm 224 rfl)) (fun _ h9 => h9) rfl d_CN_count_84 ?_
    exact rr_i hx hb hr hlocks hS d_CN_count_87 hw
  by_cases c_5 : x1 = 4
  · have hw := hw.2.2.2.2.1 c_5
    refine lv_tableIn (tgt := 88) hx hb d_CN_count_1 (by rw [c_5]; decide) (by rw [c_5]; decide) (by rw [c_5]; rfl) (by decide) ?_
    refine lv_aload_n hx hb d_CN_count_88 rfl (lv_at hl 0 rfl) ?_
    refine va_get (D := (dC, dI)) (ci := 0) (v := .ref (a 4)) (C := R_CN) (T := F_CN) (N := 6) hx hb hts in_CN hown hK hP 0 rfl rfl 3 (by decide) (hts (.fieldLink R_CN 41 R_CN "traffic" "LNetRoutes$Traffic;") (tm 226 rfl)) (fun _ h9 => h9) rfl d_CN_count_89 ?_
    refine va_get (D := (dC, dI)) (ci := 4) (v := .int (σ 4 8)) (C := R_CT) (T := F_CT) (N := 10) hx hb hts in_CT hown hK hP 4 rfl rfl 8 (by decide) (hts (.fieldLink R_CN 155 R_CT "cycles" "I") (tm 244 rfl)) (fun _ h9 => h9) rfl d_CN_count_92 ?_
    exact rr_i hx hb hr hlocks hS d_CN_count_95 hw
  by_cases c_6 : x1 = 5
  · have hw := hw.2.2.2.2.2.1 c_6
    refine lv_tableIn (tgt := 96) hx hb d_CN_count_1 (by rw [c_6]; decide) (by rw [c_6]; decide) (by rw [c_6]; rfl) (by decide) ?_
    refine lv_aload_n hx hb d_CN_count_96 rfl (lv_at hl 0 rfl) ?_
    refine va_get (D := (dC, dI)) (ci := 0) (v := .ref (a 2)) (C := R_CN) (T := F_CN) (N := 6) hx hb hts in_CN hown hK hP 0 rfl rfl 1 (by decide) (hts (.fieldLink R_CN 23 R_CN "packets" "LNetRoutes$Packets;") (tm 44 rfl)) (fun _ h9 => h9) rfl d_CN_count_97 ?_
    refine cl_r (va_runV (As := []) (rest := []) ⟨hx, hb, hml, hown, hts⟩ (c_CK_flitsInQueues l dC dI cI cZ a _ σ _ hw) (cwV 0 hts (gi_V (tm 245 rfl) (tm 246 rfl) (tm 247 rfl) (tm 54 rfl) (tm 248 rfl)) rfl rfl rfl (by decide +kernel) ⟨Nat.le_of_ble_eq_true rfl, Nat.le_of_ble_eq_true rfl⟩) (pW_V hK hP hD (ci := 2) (k := 2) rfl rfl) rfl rfl hl.1 rfl (lv_room (Nat.le_of_ble_eq_true rfl)) d_CN_count_100 ⟨Nat.zero_le _, Nat.zero_le _⟩) hP hS hA (fun r_11 H locs hw hP hT => ?_)
    have hS := hT _ hA hS
    exact rr_i hx hb hr hlocks hS d_CN_count_103 hw
  by_cases c_7 : x1 = 6
  · have hw := hw.2.2.2.2.2.2.1 c_7
    refine lv_tableIn (tgt := 104) hx hb d_CN_count_1 (by rw [c_7]; decide) (by rw [c_7]; decide) (by rw [c_7]; rfl) (by decide) ?_
    refine lv_aload_n hx hb d_CN_count_104 rfl (lv_at hl 0 rfl) ?_
    refine va_get (D := (dC, dI)) (ci := 0) (v := .ref (a 2)) (C := R_CN) (T := F_CN) (N := 6) hx hb hts in_CN hown hK hP 0 rfl rfl 1 (by decide) (hts (.fieldLink R_CN 23 R_CN "packets" "LNetRoutes$Packets;") (tm 44 rfl)) (fun _ h9 => h9) rfl d_CN_count_105 ?_
    refine cl_r (va_runV (As := []) (rest := []) ⟨hx, hb, hml, hown, hts⟩ (c_CK_flitsInBuffers l dC dI cI cZ a _ σ _ hw) (cwV 0 hts (gi_V (tm 249 rfl) (tm 250 rfl) (tm 251 rfl) (tm 54 rfl) (tm 252 rfl)) rfl rfl rfl (by decide +kernel) ⟨Nat.le_of_ble_eq_true rfl, Nat.le_of_ble_eq_true rfl⟩) (pW_V hK hP hD (ci := 2) (k := 2) rfl rfl) rfl rfl hl.1 rfl (lv_room (Nat.le_of_ble_eq_true rfl)) d_CN_count_108 ⟨Nat.zero_le _, Nat.zero_le _⟩) hP hS hA (fun r_12 H locs hw hP hT => ?_)
    have hS := hT _ hA hS
    exact rr_i hx hb hr hlocks hS d_CN_count_111 hw
  by_cases c_8 : x1 = 7
  · have hw := hw.2.2.2.2.2.2.2.1 c_8
    refine lv_tableIn (tgt := 112) hx hb d_CN_count_1 (by rw [c_8]; decide) (by rw [c_8]; decide) (by rw [c_8]; rfl) (by decide) ?_
    refine lv_aload_n hx hb d_CN_count_112 rfl (lv_at hl 0 rfl) ?_
    refine va_get (D := (dC, dI)) (ci := 0) (v := .ref (a 4)) (C := R_CN) (T := F_CN) (N := 6) hx hb hts in_CN hown hK hP 0 rfl rfl 3 (by decide) (hts (.fieldLink R_CN 41 R_CN "traffic" "LNetRoutes$Traffic;") (tm 226 rfl)) (fun _ h9 => h9) rfl d_CN_count_113 ?_
    refine va_get (D := (dC, dI)) (ci := 4) (v := .int (σ 4 9)) (C := R_CT) (T := F_CT) (N := 10) hx hb hts in_CT hown hK hP 4 rfl rfl 9 (by decide) (hts (.fieldLink R_CN 217 R_CT "moved" "I") (tm 253 rfl)) (fun _ h9 => h9) rfl d_CN_count_116 ?_
    exact rr_i hx hb hr hlocks hS d_CN_count_119 hw
  by_cases c_9 : x1 = 8
  · have hw := hw.2.2.2.2.2.2.2.2.1 c_9
    refine lv_tableIn (tgt := 120) hx hb d_CN_count_1 (by rw [c_9]; decide) (by rw [c_9]; decide) (by rw [c_9]; rfl) (by decide) ?_
    refine lv_aload_n hx hb d_CN_count_120 rfl (lv_at hl 0 rfl) ?_
    refine va_get (D := (dC, dI)) (ci := 0) (v := .ref (a 2)) (C := R_CN) (T := F_CN) (N := 6) hx hb hts in_CN hown hK hP 0 rfl rfl 1 (by decide) (hts (.fieldLink R_CN 23 R_CN "packets" "LNetRoutes$Packets;") (tm 44 rfl)) (fun _ h9 => h9) rfl d_CN_count_121 ?_
    refine cl_r (va_runV (As := []) (rest := []) ⟨hx, hb, hml, hown, hts⟩ (c_CK_flitsLeft l dC dI cI cZ a _ σ _ hw) (cwV 0 hts (gi_V (tm 254 rfl) (tm 255 rfl) (tm 256 rfl) (tm 54 rfl) (tm 257 rfl)) rfl rfl rfl (by decide +kernel) ⟨Nat.le_of_ble_eq_true rfl, Nat.le_of_ble_eq_true rfl⟩) (pW_V hK hP hD (ci := 2) (k := 2) rfl rfl) rfl rfl hl.1 rfl (lv_room (Nat.le_of_ble_eq_true rfl)) d_CN_count_124 ⟨Nat.zero_le _, Nat.zero_le _⟩) hP hS hA (fun r_13 H locs hw hP hT => ?_)
    have hS := hT _ hA hS
    exact rr_i hx hb hr hlocks hS d_CN_count_127 hw
  by_cases c_10 : x1 = 9
  · have hw := hw.2.2.2.2.2.2.2.2.2.1 c_10
    refine lv_tableIn (tgt := 128) hx hb d_CN_count_1 (by rw [c_10]; decide) (by rw [c_10]; decide) (by rw [c_10]; rfl) (by decide) ?_
    refine lv_aload_n hx hb d_CN_count_128 rfl (lv_at hl 0 rfl) ?_
    refine va_get (D := (dC, dI)) (ci := 0) (v := .ref (a 1)) (C := R_CN) (T := F_CN) (N := 6) hx hb hts in_CN hown hK hP 0 rfl rfl 0 (by decide) (hts (.fieldLink R_CN 16 R_CN "plan" "LNetRoutes$Plan;") (tm 241 rfl)) (fun _ h9 => h9) rfl d_CN_count_129 ?_
    refine cl_r (va_runV (As := []) (rest := []) ⟨hx, hb, hml, hown, hts⟩ (c_CP_pairsWithoutWay l dC dI cI cZ a _ σ _ hw) (cwV 0 hts (gi_V (tm 258 rfl) (tm 259 rfl) (tm 260 rfl) (tm 4 rfl) (tm 261 rfl)) rfl rfl rfl (by decide +kernel) ⟨Nat.le_of_ble_eq_true rfl, Nat.le_of_ble_eq_true rfl⟩) (pW_V hK hP hD (ci := 1) (k := 1) rfl rfl) rfl rfl hl.1 rfl (lv_room (Nat.le_of_ble_eq_true rfl)) d_CN_count_132 ⟨Nat.zero_le _, Nat.zero_le _⟩) hP hS hA (fun r_14 H locs hw hP hT => ?_)
    have hS := hT _ hA hS
    exact rr_i hx hb hr hlocks hS d_CN_count_135 hw
  have hw := hw.2.2.2.2.2.2.2.2.2.2 c_1 c_2 c_3 c_4 c_5 c_6 c_7 c_8 c_9 c_10
  refine lv_tableOut (tgt := 136) hx hb d_CN_count_1 (by have g0 := lv_neT c_1 (a := 0) rfl; have g1 := lv_neT c_2 (a := 1) rfl; have g2 := lv_neT c_3 (a := 2) rfl; have g3 := lv_neT c_4 (a := 3) rfl; have g4 := lv_neT c_5 (a := 4) rfl; have g5 := lv_neT c_6 (a := 5) rfl; have g6 := lv_neT c_7 (a := 6) rfl; have g7 := lv_neT c_8 (a := 7) rfl; have g8 := lv_neT c_9 (a := 8) rfl; have g9 := lv_neT c_10 (a := 9) rfl; omega) (by decide) ?_
  refine lv_iconst (v := (-1)) hx hb d_CN_count_136 (by decide) ?_
  exact rr_i hx hb hr hlocks hS d_CN_count_137 hw
