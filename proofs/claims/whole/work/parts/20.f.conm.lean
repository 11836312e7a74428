set_option maxHeartbeats 4000000 in
set_option maxRecDepth 100000 in
theorem c_M_findRing (l : Launch) (dC : Nat → ClassId) (dI : Nat → Nat → Nat) (cI cZ : ClassId) (a : Nat → Nat) (sz : Nat) (σ : SS) (post : Int32 → SS → Prop) (hw : wp_M_findRing σ post) : Met l y_M_findRing (.code y_M_findRing b_M_findRing 6 (some .int) :: TT) { frames := 1, cells := 0, slots := 0, locals := 26 } (pW (dC, dI) clsT (tyT cI cZ) [.ref (a 0)] sz (wM cI cZ a σ)) (va_Qi post (bW (dC, dI) clsT (tyT cI cZ) (wM cI cZ a) (va_A (wM cI cZ a σ) sz)) (va_A (wM cI cZ a σ) sz)) 0 0 (va_A (wM cI cZ a σ) sz) := by
  refine hd (Qf := fun A => (va_Qi post (bW (dC, dI) clsT (tyT cI cZ) (wM cI cZ a) A) A)) (by decide) (Nat.le_of_ble_eq_true rfl) ?_
  intro p e s m below meth c A ls hx hb hr hts hown hlocks hml hK hP hD hS hA hl
  have hown : s.vm.findClass R_M = some m.cls := hown
  have hl : lv_has ls 6 [(0, .ref (a 0))] := hl
  rw [wp_M_findRing] at hw
  refine lv_aload_n hx hb d_M_findRing_0 rfl (lv_at hl 0 rfl) ?_
  refine cl_v (va_runV (As := []) (rest := []) ⟨hx, hb, hml, hown, hts⟩ (c_M_findLeads l dC dI cI cZ a _ σ _ hw) (cwV 0 hts (gi_V (tm 429 rfl) (tm 430 rfl) (tm 431 rfl) (tm 320 rfl) (tm 432 rfl)) rfl rfl rfl (by decide +kernel) ⟨Nat.le_of_ble_eq_true rfl, Nat.le_of_ble_eq_true rfl⟩) (pW_V hK hP hD (ci := 6) (k := 0) rfl rfl) rfl rfl hl.1 rfl (lv_room (Nat.le_of_ble_eq_true rfl)) d_M_findRing_1 ⟨Nat.zero_le _, Nat.zero_le _⟩) hD hS hA (fun σ_1 H locs hw hP hD hS => ?_)
  refine lv_iconst (v := 0) hx hb d_M_findRing_4 (by decide) ?_
  refine lv_istore_n (lv' := [(1, .int 0), (0, .ref (a 0))]) hx hb d_M_findRing_5 rfl hl (by decide) rfl (fun ls hl => ?_)
  refine lv_iconst (v := (-1)) hx hb d_M_findRing_6 (by decide) ?_
  refine lv_istore_n (lv' := [(2, .int (-1)), (1, .int 0), (0, .ref (a 0))]) hx hb d_M_findRing_7 rfl hl (by decide) rfl (fun ls hl => ?_)
  refine lv_iconst (v := 0) hx hb d_M_findRing_8 (by decide) ?_
  refine lv_istore_n (lv' := [(3, .int 0), (2, .int (-1)), (1, .int 0), (0, .ref (a 0))]) hx hb d_M_findRing_9 rfl hl (by decide) rfl (fun ls hl => ?_)
  obtain ⟨k_33, hw⟩ := hw
  have hE_33 : ∀ (σ_33 : SS) (y1_33 : Int32) (y2_33 : Int32) (y3_33 : Int32) (H : Heap) (locs : List Loc) (ls : Array Slot), we_M_findRing_63 σ_33 y1_33 y2_33 post → va_P (dC, dI) clsT (wM cI cZ a σ_33) H → va_D A (wM cI cZ a σ_33) → va_S A s.heap H locs → lv_has ls 6 [(0, .ref (a 0)), (1, .int y1_33), (2, .int y2_33)] → W p l e { frames := 1, cells := 0, slots := 0, locals := 26 } s m ([.ref (a 0)] : List Value).toArray below meth c H locs 0 0 (MQ below (va_Qi post (bW (dC, dI) clsT (tyT cI cZ) (wM cI cZ a) A) A) ([.ref (a 0)] : List Value).toArray s 0 0 A) (F0 m 63 ls []) := by
    intro σ_33 y1_33 y2_33 y3_33 H locs ls hw hP hD hS hl
    rw [we_M_findRing_63] at hw
    refine lv_iload_n hx hb d_M_findRing_63 rfl (lv_at hl 2 rfl) ?_
    refine lv_if_ge (tgt := 69) hx hb d_M_findRing_64 (by decide) (fun c_34 => ?_) (fun c_34 => ?_)
    · have hw := hw.1 c_34
      refine lv_aload_n hx hb d_M_findRing_69 rfl (lv_at hl 0 rfl) ?_
      refine lv_iload_n hx hb d_M_findRing_70 rfl (lv_at hl 2 rfl) ?_
      refine cl_v (va_runV (As := [.int y2_33]) (rest := []) ⟨hx, hb, hml, hown, hts⟩ (c_M_measure l dC dI cI cZ a _ σ_33 y2_33 _ hw) (cwV 1 hts (gi_V (tm 425 rfl) (tm 426 rfl) (tm 427 rfl) (tm 320 rfl) (tm 428 rfl)) rfl rfl rfl (by decide +kernel) ⟨Nat.le_of_ble_eq_true rfl, Nat.le_of_ble_eq_true rfl⟩) (pW_V hK hP hD (ci := 6) (k := 0) rfl rfl) rfl rfl hl.1 rfl (lv_room (Nat.le_of_ble_eq_true rfl)) d_M_findRing_71 ⟨Nat.zero_le _, Nat.zero_le _⟩) hD hS hA (fun σ_35 H locs hw hP hD hS => ?_)
      refine lv_iload_n hx hb d_M_findRing_74 rfl (lv_at hl 2 rfl) ?_
      refine lv_istore_n (lv' := [(3, .int y2_33), (0, .ref (a 0)), (1, .int y1_33), (2, .int y2_33)]) hx hb d_M_findRing_75 rfl hl (by decide) rfl (fun ls hl => ?_)
      refine lv_iconst (v := 0) hx hb d_M_findRing_76 (by decide) ?_
      refine lv_istore (lv' := [(4, .int 0), (3, .int y2_33), (0, .ref (a 0)), (1, .int y1_33), (2, .int y2_33)]) hx hb d_M_findRing_77 hl (by decide) rfl (fun ls hl => ?_)
      obtain ⟨k_36, hw⟩ := hw
      have hE_36 : ∀ (σ_36 : SS) (y3_36 : Int32) (y4_36 : Int32) (H : Heap) (locs : List Loc) (ls : Array Slot), we_M_findRing_168 σ_36 y1_33 post → va_P (dC, dI) clsT (wM cI cZ a σ_36) H → va_D A (wM cI cZ a σ_36) → va_S A s.heap H locs → lv_has ls 6 [(1, .int y1_33)] → W p l e { frames := 1, cells := 0, slots := 0, locals := 26 } s m ([.ref (a 0)] : List Value).toArray below meth c H locs 0 0 (MQ below (va_Qi post (bW (dC, dI) clsT (tyT cI cZ) (wM cI cZ a) A) A) ([.ref (a 0)] : List Value).toArray s 0 0 A) (F0 m 168 ls []) := by
        intro σ_36 y3_36 y4_36 H locs ls hw hP hD hS hl
        rw [we_M_findRing_168] at hw
        refine lv_iload_n hx hb d_M_findRing_168 rfl (lv_at hl 0 rfl) ?_
        exact rt_i (w := wM cI cZ a) hx hb hr hlocks hK hP hD hS d_M_findRing_169 hw
      have lp_36 : ∀ (kf_36 : Nat) (σ_36 : SS) (y3_36 : Int32) (y4_36 : Int32) (H : Heap) (locs : List Loc) (ls : Array Slot), wl_M_findRing_79 y1_33 y2_33 (fun σ' y3 y4 => we_M_findRing_168 σ' y1_33 post) post kf_36 σ_36 y3_36 y4_36 → va_P (dC, dI) clsT (wM cI cZ a σ_36) H → va_D A (wM cI cZ a σ_36) → va_S A s.heap H locs → lv_has ls 6 [(0, .ref (a 0)), (1, .int y1_33), (2, .int y2_33), (3, .int y3_36), (4, .int y4_36)] → W p l e { frames := 1, cells := 0, slots := 0, locals := 26 } s m ([.ref (a 0)] : List Value).toArray below meth c H locs 0 0 (MQ below (va_Qi post (bW (dC, dI) clsT (tyT cI cZ) (wM cI cZ a) A) A) ([.ref (a 0)] : List Value).toArray s 0 0 A) (F0 m 79 ls []) := by
        intro kf_36
        induction kf_36 with
        | zero => intro σ_36 y3_36 y4_36 H locs ls hw; rw [wl_M_findRing_79] at hw; exact hw.elim
        | succ kf_36 ih_36 =>
          intro σ_36 y3_36 y4_36 H locs ls hw hP hD hS hl
          rw [wl_M_findRing_79] at hw
          refine lv_iload hx hb d_M_findRing_79 (lv_at hl 4 rfl) ?_
          refine lv_iload_n hx hb d_M_findRing_81 rfl (lv_at hl 1 rfl) ?_
          refine lv_icmp_ge (tgt := 168) hx hb d_M_findRing_82 (by decide) (fun c_37 => ?_) (fun c_37 => ?_)
          · have hw := hw.1 c_37
            exact hE_36 σ_36 y3_36 y4_36 _ _ _ hw hP hD hS (lv_sub hl [1] rfl)
          · have hw := hw.2 c_37
            refine lv_aload_n hx hb d_M_findRing_85 rfl (lv_at hl 0 rfl) ?_
            refine va_get (D := (dC, dI)) (ci := 6) (v := .ref (a 21)) (C := R_M) (T := F_M) (N := 30) hx hb hts in_M hown hK hP 0 rfl rfl 29 (by decide) (hts (.fieldLink R_M 71 R_M "ring" "[I") (tm 424 rfl)) (fun _ h9 => h9) rfl d_M_findRing_86 ?_
            refine lv_iload hx hb d_M_findRing_89 (lv_at hl 4 rfl) ?_
            refine lv_iload_n hx hb d_M_findRing_91 rfl (lv_at hl 3 rfl) ?_
            obtain ⟨hin, hw⟩ := hw
            refine st_i (w := wM cI cZ a) hx hb hK hP hD hS 21 0 rfl rfl rfl hin d_M_findRing_92 (fun s_38 e_38 H locs hP hD hS => ?_)
            have hw := hw s_38 e_38
            refine lv_iconst (v := 0) hx hb d_M_findRing_93 (by decide) ?_
            refine lv_istore (lv' := [(5, .int 0), (0, .ref (a 0)), (1, .int y1_33), (2, .int y2_33), (3, .int y3_36), (4, .int y4_36)]) hx hb d_M_findRing_94 hl (by decide) rfl (fun ls hl => ?_)
            obtain ⟨k_39, hw⟩ := hw
            have hE_39 : ∀ (y5_39 : Int32) (H : Heap) (locs : List Loc) (ls : Array Slot), we_M_findRing_159 s_38 y1_33 y2_33 y4_36 y5_39 (wl_M_findRing_79 y1_33 y2_33 (fun σ' y3 y4 => we_M_findRing_168 σ' y1_33 post) post kf_36) (fun σ' y3 y4 => we_M_findRing_168 σ' y1_33 post) post → va_P (dC, dI) clsT (wM cI cZ a s_38) H → va_D A (wM cI cZ a s_38) → va_S A s.heap H locs → lv_has ls 6 [(0, .ref (a 0)), (1, .int y1_33), (2, .int y2_33), (4, .int y4_36), (5, .int y5_39)] → W p l e { frames := 1, cells := 0, slots := 0, locals := 26 } s m ([.ref (a 0)] : List Value).toArray below meth c H locs 0 0 (MQ below (va_Qi post (bW (dC, dI) clsT (tyT cI cZ) (wM cI cZ a) A) A) ([.ref (a 0)] : List Value).toArray s 0 0 A) (F0 m 159 ls []) := by
              intro y5_39 H locs ls hw hP hD hS hl
              rw [we_M_findRing_159] at hw
              refine lv_iload hx hb d_M_findRing_159 (lv_at hl 4 rfl) ?_
              refine lv_istore_n (lv' := [(3, .int y5_39), (0, .ref (a 0)), (1, .int y1_33), (2, .int y2_33), (4, .int y4_36), (5, .int y5_39)]) hx hb d_M_findRing_161 rfl hl (by decide) rfl (fun ls hl => ?_)
              refine lv_iinc (v := y4_36 + 1) (lv' := [(4, .int (y4_36 + 1)), (3, .int y5_39), (0, .ref (a 0)), (1, .int y1_33), (2, .int y2_33), (5, .int y5_39)]) hx hb d_M_findRing_162 hl (k := 4) rfl rfl (by decide) rfl (fun ls hl => ?_)
              refine lv_goto (tgt := 79) hx hb d_M_findRing_165 (by decide) ?_
              exact ih_36 s_38 y5_39 (y4_36 + 1) _ _ _ hw hP hD hS (lv_sub hl [2, 3, 4, 1, 0] rfl)
            have lp_39 : ∀ (kf_39 : Nat) (y5_39 : Int32) (H : Heap) (locs : List Loc) (ls : Array Slot), wl_M_findRing_96 s_38 y1_33 y2_33 y3_36 y4_36 (fun y5 => we_M_findRing_159 s_38 y1_33 y2_33 y4_36 y5 (wl_M_findRing_79 y1_33 y2_33 (fun σ' y3 y4 => we_M_findRing_168 σ' y1_33 post) post kf_36) (fun σ' y3 y4 => we_M_findRing_168 σ' y1_33 post) post) post kf_39 y5_39 → va_P (dC, dI) clsT (wM cI cZ a s_38) H → va_D A (wM cI cZ a s_38) → va_S A s.heap H locs → lv_has ls 6 [(0, .ref (a 0)), (1, .int y1_33), (2, .int y2_33), (3, .int y3_36), (4, .int y4_36), (5, .int y5_39)] → W p l e { frames := 1, cells := 0, slots := 0, locals := 26 } s m ([.ref (a 0)] : List Value).toArray below meth c H locs 0 0 (MQ below (va_Qi post (bW (dC, dI) clsT (tyT cI cZ) (wM cI cZ a) A) A) ([.ref (a 0)] : List Value).toArray s 0 0 A) (F0 m 96 ls []) := by
              intro kf_39
              induction kf_39 with
              | zero => intro y5_39 H locs ls hw; rw [wl_M_findRing_96] at hw; exact hw.elim
              | succ kf_39 ih_39 =>
                intro y5_39 H locs ls hw hP hD hS hl
                rw [wl_M_findRing_96] at hw
                refine lv_iload hx hb d_M_findRing_96 (lv_at hl 5 rfl) ?_
                refine lv_sipush (v := 160) hx hb d_M_findRing_98 (by decide) ?_
                refine lv_icmp_ge (tgt := 159) hx hb d_M_findRing_101 (by decide) (fun c_40 => ?_) (fun c_40 => ?_)
                · have hw := hw.1 c_40
                  exact hE_39 y5_39 _ _ _ hw hP hD hS (lv_sub hl [0, 1, 2, 4, 5] rfl)
                · have hw := hw.2 c_40
                  refine lv_aload_n hx hb d_M_findRing_104 rfl (lv_at hl 0 rfl) ?_
                  refine va_get (D := (dC, dI)) (ci := 6) (v := .ref (a 19)) (C := R_M) (T := F_M) (N := 30) hx hb hts in_M hown hK hP 0 rfl rfl 27 (by decide) (hts (.fieldLink R_M 65 R_M "leads" "[Z") (tm 423 rfl)) (fun _ h9 => h9) rfl d_M_findRing_105 ?_
                  refine lv_sipush (v := 160) hx hb d_M_findRing_108 (by decide) ?_
                  refine lv_iload_n hx hb d_M_findRing_111 rfl (lv_at hl 3 rfl) ?_
                  refine lv_imul hx hb d_M_findRing_112 ?_
                  refine lv_iload hx hb d_M_findRing_113 (lv_at hl 5 rfl) ?_
                  refine lv_iadd hx hb d_M_findRing_115 ?_
                  obtain ⟨hin, hw⟩ := hw
                  refine va_zald hx hb hK hP 19 1 rfl rfl hin d_M_findRing_116 ?_
                  refine lv_if_eq (tgt := 153) hx hb d_M_findRing_117 (by decide) (fun c_41 => ?_) (fun c_41 => ?_)
                  · have hw := hw.1 c_41
                    refine lv_iinc (v := y5_39 + 1) (lv' := [(5, .int (y5_39 + 1)), (0, .ref (a 0)), (1, .int y1_33), (2, .int y2_33), (3, .int y3_36), (4, .int y4_36)]) hx hb d_M_findRing_153 hl (k := 5) rfl rfl (by decide) rfl (fun ls hl => ?_)
                    refine lv_goto (tgt := 96) hx hb d_M_findRing_156 (by decide) ?_
                    exact ih_39 (y5_39 + 1) _ _ _ hw hP hD hS (lv_sub hl [1, 2, 3, 4, 5, 0] rfl)
                  · have hw := hw.2 c_41
                    refine lv_iload hx hb d_M_findRing_120 (lv_at hl 4 rfl) ?_
                    refine lv_iload_n hx hb d_M_findRing_122 rfl (lv_at hl 1 rfl) ?_
                    refine lv_iconst (v := 1) hx hb d_M_findRing_123 (by decide) ?_
                    refine lv_isub hx hb d_M_findRing_124 ?_
                    refine lv_icmp_ne (tgt := 137) hx hb d_M_findRing_125 (by decide) (fun c_42 => ?_) (fun c_42 => ?_)
                    · have hw := hw.1 c_42
                      refine lv_aload_n hx hb d_M_findRing_137 rfl (lv_at hl 0 rfl) ?_
                      refine va_get (D := (dC, dI)) (ci := 6) (v := .ref (a 20)) (C := R_M) (T := F_M) (N := 30) hx hb hts in_M hown hK hP 0 rfl rfl 28 (by decide) (hts (.fieldLink R_M 68 R_M "away" "[I") (tm 340 rfl)) (fun _ h9 => h9) rfl d_M_findRing_138 ?_
                      refine lv_iload hx hb d_M_findRing_141 (lv_at hl 5 rfl) ?_
                      obtain ⟨hin, hw⟩ := hw
                      refine va_iald hx hb hK hP 20 0 rfl rfl hin d_M_findRing_143 ?_
                      refine lv_iload_n hx hb d_M_findRing_144 rfl (lv_at hl 1 rfl) ?_
                      refine lv_iconst (v := 1) hx hb d_M_findRing_145 (by decide) ?_
                      refine lv_isub hx hb d_M_findRing_146 ?_
                      refine lv_iload hx hb d_M_findRing_147 (lv_at hl 4 rfl) ?_
                      refine lv_isub hx hb d_M_findRing_149 ?_
                      refine lv_icmp_eq (tgt := 159) hx hb d_M_findRing_150 (by decide) (fun c_43 => ?_) (fun c_43 => ?_)
                      · have hw := hw.1 c_43
                        exact hE_39 y5_39 _ _ _ hw hP hD hS (lv_sub hl [0, 1, 2, 4, 5] rfl)
                      · have hw := hw.2 c_43
                        refine lv_iinc (v := y5_39 + 1) (lv' := [(5, .int (y5_39 + 1)), (0, .ref (a 0)), (1, .int y1_33), (2, .int y2_33), (3, .int y3_36), (4, .int y4_36)]) hx hb d_M_findRing_153 hl (k := 5) rfl rfl (by decide) rfl (fun ls hl => ?_)
                        refine lv_goto (tgt := 96) hx hb d_M_findRing_156 (by decide) ?_
                        exact ih_39 (y5_39 + 1) _ _ _ hw hP hD hS (lv_sub hl [1, 2, 3, 4, 5, 0] rfl)
                    · have hw := hw.2 c_42
                      refine lv_iload hx hb d_M_findRing_128 (lv_at hl 5 rfl) ?_
                      refine lv_iload_n hx hb d_M_findRing_130 rfl (lv_at hl 2 rfl) ?_
                      refine lv_icmp_ne (tgt := 153) hx hb d_M_findRing_131 (by decide) (fun c_44 => ?_) (fun c_44 => ?_)
                      · have hw := hw.1 c_44
                        refine lv_iinc (v := y5_39 + 1) (lv' := [(5, .int (y5_39 + 1)), (0, .ref (a 0)), (1, .int y1_33), (2, .int y2_33), (3, .int y3_36), (4, .int y4_36)]) hx hb d_M_findRing_153 hl (k := 5) rfl rfl (by decide) rfl (fun ls hl => ?_)
                        refine lv_goto (tgt := 96) hx hb d_M_findRing_156 (by decide) ?_
                        exact ih_39 (y5_39 + 1) _ _ _ hw hP hD hS (lv_sub hl [1, 2, 3, 4, 5, 0] rfl)
                      · have hw := hw.2 c_44
                        refine lv_goto (tgt := 159) hx hb d_M_findRing_134 (by decide) ?_
                        exact hE_39 y5_39 _ _ _ hw hP hD hS (lv_sub hl [0, 1, 2, 4, 5] rfl)
            exact lp_39 k_39 0 _ _ _ hw hP hD hS (lv_sub hl [1, 2, 3, 4, 5, 0] rfl)
      exact lp_36 k_36 σ_35 y2_33 0 _ _ _ hw hP hD hS (lv_sub hl [2, 3, 4, 1, 0] rfl)
    · have hw := hw.2 c_34
      refine lv_iconst (v := 0) hx hb d_M_findRing_67 (by decide) ?_
      exact rt_i (w := wM cI cZ a) hx hb hr hlocks hK hP hD hS d_M_findRing_68 hw
  have lp_33 : ∀ (kf_33 : Nat) (σ_33 : SS) (y1_33 : Int32) (y2_33 : Int32) (y3_33 : Int32) (H : Heap) (locs : List Loc) (ls : Array Slot), wl_M_findRing_10 (fun σ' y1 y2 y3 => we_M_findRing_63 σ' y1 y2 post) post kf_33 σ_33 y1_33 y2_33 y3_33 → va_P (dC, dI) clsT (wM cI cZ a σ_33) H → va_D A (wM cI cZ a σ_33) → va_S A s.heap H locs → lv_has ls 6 [(0, .ref (a 0)), (1, .int y1_33), (2, .int y2_33), (3, .int y3_33)] → W p l e { frames := 1, cells := 0, slots := 0, locals := 26 } s m ([.ref (a 0)] : List Value).toArray below meth c H locs 0 0 (MQ below (va_Qi post (bW (dC, dI) clsT (tyT cI cZ) (wM cI cZ a) A) A) ([.ref (a 0)] : List Value).toArray s 0 0 A) (F0 m 10 ls []) := by
    intro kf_33
    induction kf_33 with
    | zero => intro σ_33 y1_33 y2_33 y3_33 H locs ls hw; rw [wl_M_findRing_10] at hw; exact hw.elim
    | succ kf_33 ih_33 =>
      intro σ_33 y1_33 y2_33 y3_33 H locs ls hw hP hD hS hl
      rw [wl_M_findRing_10] at hw
      refine lv_iload_n hx hb d_M_findRing_10 rfl (lv_at hl 3 rfl) ?_
      refine lv_iconst (v := 4) hx hb d_M_findRing_11 (by decide) ?_
      refine lv_aload_n hx hb d_M_findRing_12 rfl (lv_at hl 0 rfl) ?_
      refine va_get (D := (dC, dI)) (ci := 6) (v := .int (σ_33 0 3)) (C := R_M) (T := F_M) (N := 30) hx hb hts in_M hown hK hP 0 rfl rfl 3 (by decide) (hts (.fieldLink R_M 88 R_M "links" "I") (tm 322 rfl)) (fun _ h9 => h9) rfl d_M_findRing_13 ?_
      refine lv_imul hx hb d_M_findRing_16 ?_
      refine lv_icmp_ge (tgt := 63) hx hb d_M_findRing_17 (by decide) (fun c_45 => ?_) (fun c_45 => ?_)
      · have hw := hw.1 c_45
        exact hE_33 σ_33 y1_33 y2_33 y3_33 _ _ _ hw hP hD hS (lv_sub hl [0, 1, 2] rfl)
      · have hw := hw.2 c_45
        refine lv_aload_n hx hb d_M_findRing_20 rfl (lv_at hl 0 rfl) ?_
        refine lv_iload_n hx hb d_M_findRing_21 rfl (lv_at hl 3 rfl) ?_
        refine cl_v (va_runV (As := [.int y3_33]) (rest := []) ⟨hx, hb, hml, hown, hts⟩ (c_M_measure l dC dI cI cZ a _ σ_33 y3_33 _ hw) (cwV 1 hts (gi_V (tm 425 rfl) (tm 426 rfl) (tm 427 rfl) (tm 320 rfl) (tm 428 rfl)) rfl rfl rfl (by decide +kernel) ⟨Nat.le_of_ble_eq_true rfl, Nat.le_of_ble_eq_true rfl⟩) (pW_V hK hP hD (ci := 6) (k := 0) rfl rfl) rfl rfl hl.1 rfl (lv_room (Nat.le_of_ble_eq_true rfl)) d_M_findRing_22 ⟨Nat.zero_le _, Nat.zero_le _⟩) hD hS hA (fun σ_46 H locs hw hP hD hS => ?_)
        refine lv_aload_n hx hb d_M_findRing_25 rfl (lv_at hl 0 rfl) ?_
        refine va_get (D := (dC, dI)) (ci := 6) (v := .ref (a 20)) (C := R_M) (T := F_M) (N := 30) hx hb hts in_M hown hK hP 0 rfl rfl 28 (by decide) (hts (.fieldLink R_M 68 R_M "away" "[I") (tm 340 rfl)) (fun _ h9 => h9) rfl d_M_findRing_26 ?_
        refine lv_iload_n hx hb d_M_findRing_29 rfl (lv_at hl 3 rfl) ?_
        obtain ⟨hin, hw⟩ := hw
        refine va_iald hx hb hK hP 20 0 rfl rfl hin d_M_findRing_30 ?_
        refine lv_if_le (tgt := 57) hx hb d_M_findRing_31 (by decide) (fun c_47 => ?_) (fun c_47 => ?_)
        · have hw := hw.1 c_47
          refine lv_iinc (v := y3_33 + 1) (lv' := [(3, .int (y3_33 + 1)), (0, .ref (a 0)), (1, .int y1_33), (2, .int y2_33)]) hx hb d_M_findRing_57 hl (k := 3) rfl rfl (by decide) rfl (fun ls hl => ?_)
          refine lv_goto (tgt := 10) hx hb d_M_findRing_60 (by decide) ?_
          exact ih_33 σ_46 y1_33 y2_33 (y3_33 + 1) _ _ _ hw hP hD hS (lv_sub hl [1, 2, 3, 0] rfl)
        · have hw := hw.2 c_47
          refine lv_iload_n hx hb d_M_findRing_34 rfl (lv_at hl 2 rfl) ?_
          refine lv_if_lt (tgt := 48) hx hb d_M_findRing_35 (by decide) (fun c_48 => ?_) (fun c_48 => ?_)
          · have hw := hw.1 c_48
            refine lv_aload_n hx hb d_M_findRing_48 rfl (lv_at hl 0 rfl) ?_
            refine va_get (D := (dC, dI)) (ci := 6) (v := .ref (a 20)) (C := R_M) (T := F_M) (N := 30) hx hb hts in_M hown hK hP 0 rfl rfl 28 (by decide) (hts (.fieldLink R_M 68 R_M "away" "[I") (tm 340 rfl)) (fun _ h9 => h9) rfl d_M_findRing_49 ?_
            refine lv_iload_n hx hb d_M_findRing_52 rfl (lv_at hl 3 rfl) ?_
            obtain ⟨hin, hw⟩ := hw
            refine va_iald hx hb hK hP 20 0 rfl rfl hin d_M_findRing_53 ?_
            refine lv_topi (fun v_49 ev_49 => ?_)
            have hw := hw v_49 ev_49
            refine lv_istore_n (lv' := [(1, .int v_49), (0, .ref (a 0)), (2, .int y2_33), (3, .int y3_33)]) hx hb d_M_findRing_54 rfl hl (by decide) rfl (fun ls hl => ?_)
            refine lv_iload_n hx hb d_M_findRing_55 rfl (lv_at hl 3 rfl) ?_
            refine lv_istore_n (lv' := [(2, .int y3_33), (1, .int v_49), (0, .ref (a 0)), (3, .int y3_33)]) hx hb d_M_findRing_56 rfl hl (by decide) rfl (fun ls hl => ?_)
            refine lv_iinc (v := y3_33 + 1) (lv' := [(3, .int (y3_33 + 1)), (2, .int y3_33), (1, .int v_49), (0, .ref (a 0))]) hx hb d_M_findRing_57 hl (k := 3) rfl rfl (by decide) rfl (fun ls hl => ?_)
            refine lv_goto (tgt := 10) hx hb d_M_findRing_60 (by decide) ?_
            exact ih_33 σ_46 v_49 y3_33 (y3_33 + 1) _ _ _ hw hP hD hS (lv_sub hl [3, 2, 1, 0] rfl)
          · have hw := hw.2 c_48
            refine lv_aload_n hx hb d_M_findRing_38 rfl (lv_at hl 0 rfl) ?_
            refine va_get (D := (dC, dI)) (ci := 6) (v := .ref (a 20)) (C := R_M) (T := F_M) (N := 30) hx hb hts in_M hown hK hP 0 rfl rfl 28 (by decide) (hts (.fieldLink R_M 68 R_M "away" "[I") (tm 340 rfl)) (fun _ h9 => h9) rfl d_M_findRing_39 ?_
            refine lv_iload_n hx hb d_M_findRing_42 rfl (lv_at hl 3 rfl) ?_
            obtain ⟨hin, hw⟩ := hw
            refine va_iald hx hb hK hP 20 0 rfl rfl hin d_M_findRing_43 ?_
            refine lv_iload_n hx hb d_M_findRing_44 rfl (lv_at hl 1 rfl) ?_
            refine lv_icmp_ge (tgt := 57) hx hb d_M_findRing_45 (by decide) (fun c_50 => ?_) (fun c_50 => ?_)
            · have hw := hw.1 c_50
              refine lv_iinc (v := y3_33 + 1) (lv' := [(3, .int (y3_33 + 1)), (0, .ref (a 0)), (1, .int y1_33), (2, .int y2_33)]) hx hb d_M_findRing_57 hl (k := 3) rfl rfl (by decide) rfl (fun ls hl => ?_)
              refine lv_goto (tgt := 10) hx hb d_M_findRing_60 (by decide) ?_
              exact ih_33 σ_46 y1_33 y2_33 (y3_33 + 1) _ _ _ hw hP hD hS (lv_sub hl [1, 2, 3, 0] rfl)
            · have hw := hw.2 c_50
              refine lv_aload_n hx hb d_M_findRing_48 rfl (lv_at hl 0 rfl) ?_
              refine va_get (D := (dC, dI)) (ci := 6) (v := .ref (a 20)) (C := R_M) (T := F_M) (N := 30) hx hb hts in_M hown hK hP 0 rfl rfl 28 (by decide) (hts (.fieldLink R_M 68 R_M "away" "[I") (tm 340 rfl)) (fun _ h9 => h9) rfl d_M_findRing_49 ?_
              refine lv_iload_n hx hb d_M_findRing_52 rfl (lv_at hl 3 rfl) ?_
              obtain ⟨hin, hw⟩ := hw
              refine va_iald hx hb hK hP 20 0 rfl rfl hin d_M_findRing_53 ?_
              refine lv_topi (fun v_51 ev_51 => ?_)
              have hw := hw v_51 ev_51
              refine lv_istore_n (lv' := [(1, .int v_51), (0, .ref (a 0)), (2, .int y2_33), (3, .int y3_33)]) hx hb d_M_findRing_54 rfl hl (by decide) rfl (fun ls hl => ?_)
              refine lv_iload_n hx hb d_M_findRing_55 rfl (lv_at hl 3 rfl) ?_
              refine lv_istore_n (lv' := [(2, .int y3_33), (1, .int v_51), (0, .ref (a 0)), (3, .int y3_33)]) hx hb d_M_findRing_56 rfl hl (by decide) rfl (fun ls hl => ?_)
              refine lv_iinc (v := y3_33 + 1) (lv' := [(3, .int (y3_33 + 1)), (2, .int y3_33), (1, .int v_51), (0, .ref (a 0))]) hx hb d_M_findRing_57 hl (k := 3) rfl rfl (by decide) rfl (fun ls hl => ?_)
              refine lv_goto (tgt := 10) hx hb d_M_findRing_60 (by decide) ?_
              exact ih_33 σ_46 v_51 y3_33 (y3_33 + 1) _ _ _ hw hP hD hS (lv_sub hl [3, 2, 1, 0] rfl)
  exact lp_33 k_33 σ_1 0 (-1) 0 _ _ _ hw hP hD hS (lv_sub hl [3, 2, 1, 0] rfl)
set_option maxHeartbeats 4000000 in
set_option maxRecDepth 100000 in
theorem c_M_ring (l : Launch) (dC : Nat → ClassId) (dI : Nat → Nat → Nat) (cI cZ : ClassId) (a : Nat → Nat) (sz : Nat) (σ : SS) (post : Int32 → SS → Prop) (hw : wp_M_ring σ post) : Met l y_M_ring (.code y_M_ring b_M_ring 1 (some .int) :: TT) { frames := 2, cells := 0, slots := 0, locals := 51 } (pW (dC, dI) clsT (tyT cI cZ) [.ref (a 0)] sz (wM cI cZ a σ)) (va_Qi post (bW (dC, dI) clsT (tyT cI cZ) (wM cI cZ a) (va_A (wM cI cZ a σ) sz)) (va_A (wM cI cZ a σ) sz)) 0 0 (va_A (wM cI cZ a σ) sz) := by
  refine hd (Qf := fun A => (va_Qi post (bW (dC, dI) clsT (tyT cI cZ) (wM cI cZ a) A) A)) (by decide) (Nat.le_of_ble_eq_true rfl) ?_
  intro p e s m below meth c A ls hx hb hr hts hown hlocks hml hK hP hD hS hA hl
  have hown : s.vm.findClass R_M = some m.cls := hown
  have hl : lv_has ls 1 [(0, .ref (a 0))] := hl
  rw [wp_M_ring] at hw
  refine lv_aload_n hx hb d_M_ring_0 rfl (lv_at hl 0 rfl) ?_
  refine lv_iconst (v := 0) hx hb d_M_ring_1 (by decide) ?_
  refine st_f (D := (dC, dI)) (w := wM cI cZ a) (ci := 6) (C := R_M) (T := F_M) (N := 30) hx hb hts in_M t_M t_M_ok n_M hown hK hP hD hS 0 rfl rfl 0 (by decide) (hts (.fieldLink R_M 78 R_M "thrown" "I") (tm 316 rfl)) (fun _ h9 => h9) rfl (by decide +kernel) (Nat.le_of_ble_eq_true rfl) rfl d_M_ring_2 (fun s_1 e_1 H locs hP hD hS => ?_)
  have hw := hw s_1 e_1
  refine lv_aload_n hx hb d_M_ring_5 rfl (lv_at hl 0 rfl) ?_
  refine cl_i (va_runV (As := []) (rest := []) ⟨hx, hb, hml, hown, hts⟩ (c_M_findRing l dC dI cI cZ a _ s_1 _ hw) (cwV 0 hts (gi_V (tm 433 rfl) (tm 434 rfl) (tm 435 rfl) (tm 320 rfl) (tm 436 rfl)) rfl rfl rfl (by decide +kernel) ⟨Nat.le_of_ble_eq_true rfl, Nat.le_of_ble_eq_true rfl⟩) (pW_V hK hP hD (ci := 6) (k := 0) rfl rfl) rfl rfl hl.1 rfl (lv_room (Nat.le_of_ble_eq_true rfl)) d_M_ring_6 ⟨Nat.zero_le _, Nat.zero_le _⟩) hD hS hA (fun r_2 σ_2 H locs hw hP hD hS => ?_)
  exact rt_i (w := wM cI cZ a) hx hb hr hlocks hK hP hD hS d_M_ring_9 hw
set_option maxHeartbeats 4000000 in
set_option maxRecDepth 100000 in
theorem c_M_ringAt (l : Launch) (dC : Nat → ClassId) (dI : Nat → Nat → Nat) (cI cZ : ClassId) (a : Nat → Nat) (sz : Nat) (σ : SS) (x1 : Int32) (post : Int32 → SS → Prop) (hw : wp_M_ringAt σ x1 post) : Met l y_M_ringAt (.code y_M_ringAt b_M_ringAt 3 (some .int) :: TT) { frames := 2, cells := 0, slots := 0, locals := 51 } (pW (dC, dI) clsT (tyT cI cZ) [.ref (a 0), .int x1] sz (wM cI cZ a σ)) (va_Qi post (bW (dC, dI) clsT (tyT cI cZ) (wM cI cZ a) (va_A (wM cI cZ a σ) sz)) (va_A (wM cI cZ a σ) sz)) 0 0 (va_A (wM cI cZ a σ) sz) := by
  refine hd (Qf := fun A => (va_Qi post (bW (dC, dI) clsT (tyT cI cZ) (wM cI cZ a) A) A)) (by decide) (Nat.le_of_ble_eq_true rfl) ?_
  intro p e s m below meth c A ls hx hb hr hts hown hlocks hml hK hP hD hS hA hl
  have hown : s.vm.findClass R_M = some m.cls := hown
  have hl : lv_has ls 3 [(0, .ref (a 0)), (1, .int x1)] := hl
  rw [wp_M_ringAt] at hw
  refine lv_aload_n hx hb d_M_ringAt_0 rfl (lv_at hl 0 rfl) ?_
  refine lv_iconst (v := 0) hx hb d_M_ringAt_1 (by decide) ?_
  refine st_f (D := (dC, dI)) (w := wM cI cZ a) (ci := 6) (C := R_M) (T := F_M) (N := 30) hx hb hts in_M t_M t_M_ok n_M hown hK hP hD hS 0 rfl rfl 0 (by decide) (hts (.fieldLink R_M 78 R_M "thrown" "I") (tm 316 rfl)) (fun _ h9 => h9) rfl (by decide +kernel) (Nat.le_of_ble_eq_true rfl) rfl d_M_ringAt_2 (fun s_1 e_1 H locs hP hD hS => ?_)
  have hw := hw s_1 e_1
  refine lv_aload_n hx hb d_M_ringAt_5 rfl (lv_at hl 0 rfl) ?_
  refine cl_i (va_runV (As := []) (rest := []) ⟨hx, hb, hml, hown, hts⟩ (c_M_findRing l dC dI cI cZ a _ s_1 _ hw) (cwV 0 hts (gi_V (tm 433 rfl) (tm 434 rfl) (tm 435 rfl) (tm 320 rfl) (tm 436 rfl)) rfl rfl rfl (by decide +kernel) ⟨Nat.le_of_ble_eq_true rfl, Nat.le_of_ble_eq_true rfl⟩) (pW_V hK hP hD (ci := 6) (k := 0) rfl rfl) rfl rfl hl.1 rfl (lv_room (Nat.le_of_ble_eq_true rfl)) d_M_ringAt_6 ⟨Nat.zero_le _, Nat.zero_le _⟩) hD hS hA (fun r_2 σ_2 H locs hw hP hD hS => ?_)
  refine lv_istore_n (lv' := [(2, .int r_2), (0, .ref (a 0)), (1, .int x1)]) hx hb d_M_ringAt_9 rfl hl (by decide) rfl (fun ls hl => ?_)
  refine lv_iload_n hx hb d_M_ringAt_10 rfl (lv_at hl 2 rfl) ?_
  refine lv_iconst (v := 0) hx hb d_M_ringAt_11 (by decide) ?_
  refine lv_iload_n hx hb d_M_ringAt_12 rfl (lv_at hl 0 rfl) ?_
  refine lv_iconst (v := 1) hx hb d_M_ringAt_13 (by decide) ?_
  refine lv_isub hx hb d_M_ringAt_14 ?_
  refine cl_r (va_runS (As := [.int x1, .int 0, .int (r_2 - 1)]) (rest := []) ⟨hx, hb, hml, hown, hts⟩ (c_M_within l dC dI cI cZ a _ σ_2 x1 0 (r_2 - 1) _ hw) (cwS 3 hts (gi_S (tm 318 rfl) (tm 319 rfl) (tm 320 rfl) (tm 321 rfl)) rfl rfl rfl (by decide +kernel) ⟨Nat.le_of_ble_eq_true rfl, Nat.le_of_ble_eq_true rfl⟩) (pW_S hK hP hD) rfl rfl hl.1 rfl (lv_room (Nat.le_of_ble_eq_true rfl)) d_M_ringAt_15 ⟨Nat.zero_le _, Nat.zero_le _⟩) hP hS hA (fun r_3 H locs hw hP hT => ?_)
  have hS := hT _ hA hS
  refine lv_if_eq (tgt := 30) hx hb d_M_ringAt_18 (by decide) (fun c_4 => ?_) (fun c_4 => ?_)
  · have hw := hw.1 c_4
    refine lv_aload_n hx hb d_M_ringAt_30 rfl (lv_at hl 1 rfl) ?_
    refine lv_iconst (v := 1) hx hb d_M_ringAt_31 (by decide) ?_
    refine cl_i (va_runV (As := [.int 1]) (rest := []) ⟨hx, hb, hml, hown, hts⟩ (c_M_wrong l dC dI cI cZ a _ σ_2 1 _ hw) (cwV 1 hts (gi_V (tm 324 rfl) (tm 325 rfl) (tm 326 rfl) (tm 320 rfl) (tm 327 rfl)) rfl rfl rfl (by decide +kernel) ⟨Nat.le_of_ble_eq_true rfl, Nat.le_of_ble_eq_true rfl⟩) (pW_V hK hP hD (ci := 6) (k := 0) rfl rfl) rfl rfl hl.1 rfl (lv_room (Nat.le_of_ble_eq_true rfl)) d_M_ringAt_32 ⟨Nat.zero_le _, Nat.zero_le _⟩) hD hS hA (fun r_5 σ_5 H locs hw hP hD hS => ?_)
    exact rt_i (w := wM cI cZ a) hx hb hr hlocks hK hP hD hS d_M_ringAt_35 hw
  · have hw := hw.2 c_4
    refine lv_aload_n hx hb d_M_ringAt_21 rfl (lv_at hl 1 rfl) ?_
    refine va_get (D := (dC, dI)) (ci := 6) (v := .ref (a 21)) (C := R_M) (T := F_M) (N := 30) hx hb hts in_M hown hK hP 0 rfl rfl 29 (by decide) (hts (.fieldLink R_M 71 R_M "ring" "[I") (tm 424 rfl)) (fun _ h9 => h9) rfl d_M_ringAt_22 ?_
    refine lv_iload_n hx hb d_M_ringAt_25 rfl (lv_at hl 2 rfl) ?_
    obtain ⟨hin, hw⟩ := hw
    refine va_iald hx hb hK hP 21 0 rfl rfl hin d_M_ringAt_26 ?_
    refine lv_goto (tgt := 35) hx hb d_M_ringAt_27 (by decide) ?_
    exact rt_i (w := wM cI cZ a) hx hb hr hlocks hK hP hD hS d_M_ringAt_35 hw
set_option maxHeartbeats 4000000 in
set_option maxRecDepth 100000 in
theorem c_M_stuck (l : Launch) (dC : Nat → ClassId) (dI : Nat → Nat → Nat) (cI cZ : ClassId) (a : Nat → Nat) (sz : Nat) (σ : SS) (post : Int32 → SS → Prop) (hw : wp_M_stuck σ post) : Met l y_M_stuck (.code y_M_stuck b_M_stuck 5 (some .boolean) :: TT) { frames := 3, cells := 0, slots := 0, locals := 66 } (pW (dC, dI) clsT (tyT cI cZ) [.ref (a 0)] sz (wM cI cZ a σ)) (va_Qi post (bW (dC, dI) clsT (tyT cI cZ) (wM cI cZ a) (va_A (wM cI cZ a σ) sz)) (va_A (wM cI cZ a σ) sz)) 0 0 (va_A (wM cI cZ a σ) sz) := by
  refine hd (Qf := fun A => (va_Qi post (bW (dC, dI) clsT (tyT cI cZ) (wM cI cZ a) A) A)) (by decide) (Nat.le_of_ble_eq_true rfl) ?_
  intro p e s m below meth c A ls hx hb hr hts hown hlocks hml hK hP hD hS hA hl
  have hown : s.vm.findClass R_M = some m.cls := hown
  have hl : lv_has ls 5 [(0, .ref (a 0))] := hl
  rw [wp_M_stuck] at hw
  refine lv_aload_n hx hb d_M_stuck_0 rfl (lv_at hl 0 rfl) ?_
  refine lv_iconst (v := 0) hx hb d_M_stuck_1 (by decide) ?_
  refine st_f (D := (dC, dI)) (w := wM cI cZ a) (ci := 6) (C := R_M) (T := F_M) (N := 30) hx hb hts in_M t_M t_M_ok n_M hown hK hP hD hS 0 rfl rfl 0 (by decide) (hts (.fieldLink R_M 78 R_M "thrown" "I") (tm 316 rfl)) (fun _ h9 => h9) rfl (by decide +kernel) (Nat.le_of_ble_eq_true rfl) rfl d_M_stuck_2 (fun s_1 e_1 H locs hP hD hS => ?_)
  have hw := hw s_1 e_1
  refine lv_aload_n hx hb d_M_stuck_5 rfl (lv_at hl 0 rfl) ?_
  refine cl_r (va_runV (As := []) (rest := []) ⟨hx, hb, hml, hown, hts⟩ (c_M_isEmpty l dC dI cI cZ a _ s_1 _ hw) (cwV 0 hts (gi_V (tm 415 rfl) (tm 416 rfl) (tm 417 rfl) (tm 320 rfl) (tm 418 rfl)) rfl rfl rfl (by decide +kernel) ⟨Nat.le_of_ble_eq_true rfl, Nat.le_of_ble_eq_true rfl⟩) (pW_V hK hP hD (ci := 6) (k := 0) rfl rfl) rfl rfl hl.1 rfl (lv_room (Nat.le_of_ble_eq_true rfl)) d_M_stuck_6 ⟨Nat.zero_le _, Nat.zero_le _⟩) hP hS hA (fun r_2 H locs hw hP hT => ?_)
  have hS := hT _ hA hS
  refine lv_if_eq (tgt := 14) hx hb d_M_stuck_9 (by decide) (fun c_3 => ?_) (fun c_3 => ?_)
  · have hw := hw.1 c_3
    refine lv_aload_n hx hb d_M_stuck_14 rfl (lv_at hl 0 rfl) ?_
    refine lv_dup hx hb d_M_stuck_15 rfl ?_
    refine va_get (D := (dC, dI)) (ci := 6) (v := .int (s_1 0 5)) (C := R_M) (T := F_M) (N := 30) hx hb hts in_M hown hK hP 0 rfl rfl 5 (by decide) (hts (.fieldLink R_M 116 R_M "cycle" "I") (tm 360 rfl)) (fun _ h9 => h9) rfl d_M_stuck_16 ?_
    refine lv_iconst (v := 1) hx hb d_M_stuck_19 (by decide) ?_
    refine lv_iadd hx hb d_M_stuck_20 ?_
    refine st_f (D := (dC, dI)) (w := wM cI cZ a) (ci := 6) (C := R_M) (T := F_M) (N := 30) hx hb hts in_M t_M t_M_ok n_M hown hK hP hD hS 0 rfl rfl 5 (by decide) (hts (.fieldLink R_M 116 R_M "cycle" "I") (tm 360 rfl)) (fun _ h9 => h9) rfl (by decide +kernel) (Nat.le_of_ble_eq_true rfl) rfl d_M_stuck_21 (fun s_4 e_4 H locs hP hD hS => ?_)
    have hw := hw s_4 e_4
    refine lv_iconst (v := 0) hx hb d_M_stuck_24 (by decide) ?_
    refine lv_istore_n (lv' := [(1, .int 0), (0, .ref (a 0))]) hx hb d_M_stuck_25 rfl hl (by decide) rfl (fun ls hl => ?_)
    refine lv_iconst (v := 0) hx hb d_M_stuck_26 (by decide) ?_
    refine lv_istore_n (lv' := [(2, .int 0), (1, .int 0), (0, .ref (a 0))]) hx hb d_M_stuck_27 rfl hl (by decide) rfl (fun ls hl => ?_)
    obtain ⟨k_68, hw⟩ := hw
    have hE_68 : ∀ (y1_68 : Int32) (y2_68 : Int32) (H : Heap) (locs : List Loc) (ls : Array Slot), we_M_stuck_60 s_4 y1_68 post → va_P (dC, dI) clsT (wM cI cZ a s_4) H → va_D A (wM cI cZ a s_4) → va_S A s.heap H locs → lv_has ls 5 [(0, .ref (a 0)), (1, .int y1_68)] → W p l e { frames := 3, cells := 0, slots := 0, locals := 66 } s m ([.ref (a 0)] : List Value).toArray below meth c H locs 0 0 (MQ below (va_Qi post (bW (dC, dI) clsT (tyT cI cZ) (wM cI cZ a) A) A) ([.ref (a 0)] : List Value).toArray s 0 0 A) (F0 m 60 ls []) := by
      intro y1_68 y2_68 H locs ls hw hP hD hS hl
      rw [we_M_stuck_60] at hw
      refine lv_iconst (v := 0) hx hb d_M_stuck_60 (by decide) ?_
      refine lv_istore_n (lv' := [(2, .int 0), (0, .ref (a 0)), (1, .int y1_68)]) hx hb d_M_stuck_61 rfl hl (by decide) rfl (fun ls hl => ?_)
      obtain ⟨k_69, hw⟩ := hw
      have hE_69 : ∀ (y1_69 : Int32) (y2_69 : Int32) (H : Heap) (locs : List Loc) (ls : Array Slot), we_M_stuck_168 s_4 y1_69 post → va_P (dC, dI) clsT (wM cI cZ a s_4) H → va_D A (wM cI cZ a s_4) → va_S A s.heap H locs → lv_has ls 5 [(0, .ref (a 0)), (1, .int y1_69)] → W p l e { frames := 3, cells := 0, slots := 0, locals := 66 } s m ([.ref (a 0)] : List Value).toArray below meth c H locs 0 0 (MQ below (va_Qi post (bW (dC, dI) clsT (tyT cI cZ) (wM cI cZ a) A) A) ([.ref (a 0)] : List Value).toArray s 0 0 A) (F0 m 168 ls []) := by
        intro y1_69 y2_69 H locs ls hw hP hD hS hl
        rw [we_M_stuck_168] at hw
        refine lv_aload_n hx hb d_M_stuck_168 rfl (lv_at hl 0 rfl) ?_
        refine lv_dup hx hb d_M_stuck_169 rfl ?_
        refine va_get (D := (dC, dI)) (ci := 6) (v := .int (s_4 0 5)) (C := R_M) (T := F_M) (N := 30) hx hb hts in_M hown hK hP 0 rfl rfl 5 (by decide) (hts (.fieldLink R_M 116 R_M "cycle" "I") (tm 360 rfl)) (fun _ h9 => h9) rfl d_M_stuck_170 ?_
        refine lv_iconst (v := 1) hx hb d_M_stuck_173 (by decide) ?_
        refine lv_isub hx hb d_M_stuck_174 ?_
        refine st_f (D := (dC, dI)) (w := wM cI cZ a) (ci := 6) (C := R_M) (T := F_M) (N := 30) hx hb hts in_M t_M t_M_ok n_M hown hK hP hD hS 0 rfl rfl 5 (by decide) (hts (.fieldLink R_M 116 R_M "cycle" "I") (tm 360 rfl)) (fun _ h9 => h9) rfl (by decide +kernel) (Nat.le_of_ble_eq_true rfl) rfl d_M_stuck_175 (fun s_70 e_70 H locs hP hD hS => ?_)
        have hw := hw s_70 e_70
        refine lv_iload_n hx hb d_M_stuck_178 rfl (lv_at hl 1 rfl) ?_
        refine lv_if_ne (tgt := 186) hx hb d_M_stuck_179 (by decide) (fun c_71 => ?_) (fun c_71 => ?_)
        · have hw := hw.1 c_71
          refine lv_iconst (v := 0) hx hb d_M_stuck_186 (by decide) ?_
          exact rt_z (w := wM cI cZ a) hx hb hr hlocks hK hP hD hS d_M_stuck_187 (Or.inl rfl) hw
        · have hw := hw.2 c_71
          refine lv_iconst (v := 1) hx hb d_M_stuck_182 (by decide) ?_
          refine lv_goto (tgt := 187) hx hb d_M_stuck_183 (by decide) ?_
          exact rt_z (w := wM cI cZ a) hx hb hr hlocks hK hP hD hS d_M_stuck_187 (Or.inr rfl) hw
      have lp_69 : ∀ (kf_69 : Nat) (y1_69 : Int32) (y2_69 : Int32) (H : Heap) (locs : List Loc) (ls : Array Slot), wl_M_stuck_62 s_4 (fun y1 y2 => we_M_stuck_168 s_4 y1 post) post kf_69 y1_69 y2_69 → va_P (dC, dI) clsT (wM cI cZ a s_4) H → va_D A (wM cI cZ a s_4) → va_S A s.heap H locs → lv_has ls 5 [(0, .ref (a 0)), (1, .int y1_69), (2, .int y2_69)] → W p l e { frames := 3, cells := 0, slots := 0, locals := 66 } s m ([.ref (a 0)] : List Value).toArray below meth c H locs 0 0 (MQ below (va_Qi post (bW (dC, dI) clsT (tyT cI cZ) (wM cI cZ a) A) A) ([.ref (a 0)] : List Value).toArray s 0 0 A) (F0 m 62 ls []) := by
        intro kf_69
        induction kf_69 with
        | zero => intro y1_69 y2_69 H locs ls hw; rw [wl_M_stuck_62] at hw; exact hw.elim
        | succ kf_69 ih_69 =>
          intro y1_69 y2_69 H locs ls hw hP hD hS hl
          rw [wl_M_stuck_62] at hw
          refine lv_iload_n hx hb d_M_stuck_62 rfl (lv_at hl 2 rfl) ?_
          refine lv_bipush (v := 16) hx hb d_M_stuck_63 (by decide) ?_
          refine lv_iconst (v := 4) hx hb d_M_stuck_65 (by decide) ?_
          refine lv_aload_n hx hb d_M_stuck_66 rfl (lv_at hl 0 rfl) ?_
          refine va_get (D := (dC, dI)) (ci := 6) (v := .int (s_4 0 3)) (C := R_M) (T := F_M) (N := 30) hx hb hts in_M hown hK hP 0 rfl rfl 3 (by decide) (hts (.fieldLink R_M 88 R_M "links" "I") (tm 322 rfl)) (fun _ h9 => h9) rfl d_M_stuck_67 ?_
          refine lv_imul hx hb d_M_stuck_70 ?_
          refine lv_iadd hx hb d_M_stuck_71 ?_
          refine lv_icmp_ge (tgt := 168) hx hb d_M_stuck_72 (by decide) (fun c_72 => ?_) (fun c_72 => ?_)
          · have hw := hw.1 c_72
            exact hE_69 y1_69 y2_69 _ _ _ hw hP hD hS (lv_sub hl [0, 1] rfl)
          · have hw := hw.2 c_72
            refine lv_iload_n hx hb d_M_stuck_75 rfl (lv_at hl 2 rfl) ?_
            refine lv_aload_n hx hb d_M_stuck_76 rfl (lv_at hl 0 rfl) ?_
            refine va_get (D := (dC, dI)) (ci := 6) (v := .int (s_4 0 2)) (C := R_M) (T := F_M) (N := 30) hx hb hts in_M hown hK hP 0 rfl rfl 2 (by decide) (hts (.fieldLink R_M 81 R_M "nodes" "I") (tm 317 rfl)) (fun _ h9 => h9) rfl d_M_stuck_77 ?_
            refine lv_icmp_lt (tgt := 100) hx hb d_M_stuck_80 (by decide) (fun c_73 => ?_) (fun c_73 => ?_)
            · have hw := hw.1 c_73
              refine lv_iconst (v := 1) hx hb d_M_stuck_100 (by decide) ?_
              refine lv_goto (tgt := 105) hx hb d_M_stuck_101 (by decide) ?_
              refine lv_istore_n (lv' := [(3, .int 1), (0, .ref (a 0)), (1, .int y1_69), (2, .int y2_69)]) hx hb d_M_stuck_105 rfl hl (by decide) rfl (fun ls hl => ?_)
              refine lv_iload_n hx hb d_M_stuck_106 rfl (lv_at hl 0 rfl) ?_
              refine lv_if_eq (tgt := 118) hx hb d_M_stuck_107 (by decide) (fun c9 => absurd c9 (by decide)) (fun _ => ?_)
              refine lv_aload_n hx hb d_M_stuck_110 rfl (lv_at hl 1 rfl) ?_
              refine lv_iload_n hx hb d_M_stuck_111 rfl (lv_at hl 3 rfl) ?_
              refine cl_r (va_runV (As := [.int y2_69]) (rest := []) ⟨hx, hb, hml, hown, hts⟩ (c_M_front l dC dI cI cZ a _ s_4 y2_69 _ hw) (cwV 1 hts (gi_V (tm 371 rfl) (tm 372 rfl) (tm 373 rfl) (tm 320 rfl) (tm 374 rfl)) rfl rfl rfl (by decide +kernel) ⟨Nat.le_of_ble_eq_true rfl, Nat.le_of_ble_eq_true rfl⟩) (pW_V hK hP hD (ci := 6) (k := 0) rfl rfl) rfl rfl hl.1 rfl (lv_room (Nat.le_of_ble_eq_true rfl)) d_M_stuck_112 ⟨Nat.zero_le _, Nat.zero_le _⟩) hP hS hA (fun r_75 H locs hw hP hT => ?_)
              have hS := hT _ hA hS
              refine lv_goto (tgt := 119) hx hb d_M_stuck_115 (by decide) ?_
              refine lv_istore (lv' := [(4, .int r_75), (3, .int 1), (0, .ref (a 0)), (1, .int y1_69), (2, .int y2_69)]) hx hb d_M_stuck_119 hl (by decide) rfl (fun ls hl => ?_)
              refine lv_iload_n hx hb d_M_stuck_121 rfl (lv_at hl 3 rfl) ?_
              refine lv_if_ne (tgt := 156) hx hb d_M_stuck_122 (by decide) (fun c_76 => ?_) (fun c_76 => ?_)
              · have hw := hw.1 c_76
                refine lv_iconst (v := 1) hx hb d_M_stuck_156 (by decide) ?_
                refine lv_goto (tgt := 161) hx hb d_M_stuck_157 (by decide) ?_
                refine lv_istore_n (lv' := [(1, .int 1), (4, .int r_75), (3, .int 1), (0, .ref (a 0)), (2, .int y2_69)]) hx hb d_M_stuck_161 rfl hl (by decide) rfl (fun ls hl => ?_)
                refine lv_iinc (v := y2_69 + 1) (lv' := [(2, .int (y2_69 + 1)), (1, .int 1), (4, .int r_75), (3, .int 1), (0, .ref (a 0))]) hx hb d_M_stuck_162 hl (k := 4) rfl rfl (by decide) rfl (fun ls hl => ?_)
                refine lv_goto (tgt := 62) hx hb d_M_stuck_165 (by decide) ?_
                exact ih_69 1 (y2_69 + 1) _ _ _ hw hP hD hS (lv_sub hl [4, 1, 0] rfl)
              · have hw := hw.2 c_76
                refine lv_iload hx hb d_M_stuck_125 (lv_at hl 0 rfl) ?_
                refine lv_if_lt (tgt := 160) hx hb d_M_stuck_127 (by decide) (fun c_77 => ?_) (fun c_77 => ?_)
                · have hw := hw.1 c_77
                  refine lv_iconst (v := 0) hx hb d_M_stuck_160 (by decide) ?_
                  refine lv_istore_n (lv' := [(1, .int 0), (4, .int r_75), (3, .int 1), (0, .ref (a 0)), (2, .int y2_69)]) hx hb d_M_stuck_161 rfl hl (by decide) rfl (fun ls hl => ?_)
                  refine lv_iinc (v := y2_69 + 1) (lv' := [(2, .int (y2_69 + 1)), (1, .int 0), (4, .int r_75), (3, .int 1), (0, .ref (a 0))]) hx hb d_M_stuck_162 hl (k := 4) rfl rfl (by decide) rfl (fun ls hl => ?_)
                  refine lv_goto (tgt := 62) hx hb d_M_stuck_165 (by decide) ?_
                  exact ih_69 0 (y2_69 + 1) _ _ _ hw hP hD hS (lv_sub hl [4, 1, 0] rfl)
                · have hw := hw.2 c_77
                  refine lv_aload_n hx hb d_M_stuck_130 rfl (lv_at hl 2 rfl) ?_
                  refine va_get (D := (dC, dI)) (ci := 6) (v := .ref (a 8)) (C := R_M) (T := F_M) (N := 30) hx hb hts in_M hown hK hP 0 rfl rfl 16 (by decide) (hts (.fieldLink R_M 32 R_M "end" "[I") (tm 343 rfl)) (fun _ h9 => h9) rfl d_M_stuck_131 ?_
                  refine lv_iload hx hb d_M_stuck_134 (lv_at hl 0 rfl) ?_
                  refine lv_bipush (v := 16) hx hb d_M_stuck_136 (by decide) ?_
                  refine lv_idiv hx hb d_M_stuck_138 (by decide) ?_
                  obtain ⟨hin, hw⟩ := hw
                  refine va_iald hx hb hK hP 8 0 rfl rfl hin d_M_stuck_139 ?_
                  refine lv_aload_n hx hb d_M_stuck_140 rfl (lv_at hl 2 rfl) ?_
                  refine lv_iload_n hx hb d_M_stuck_141 rfl (lv_at hl 4 rfl) ?_
                  refine cl_r (va_runV (As := [.int y2_69]) (rest := [.int (s_4 8 (r_75 / 16).toNatClampNeg)]) ⟨hx, hb, hml, hown, hts⟩ (c_M_nodeOf l dC dI cI cZ a _ s_4 y2_69 _ hw) (cwV 1 hts (gi_V (tm 362 rfl) (tm 363 rfl) (tm 364 rfl) (tm 320 rfl) (tm 365 rfl)) rfl rfl rfl (by decide +kernel) ⟨Nat.le_of_ble_eq_true rfl, Nat.le_of_ble_eq_true rfl⟩) (pW_V hK hP hD (ci := 6) (k := 0) rfl rfl) rfl rfl hl.1 rfl (lv_room (Nat.le_of_ble_eq_true rfl)) d_M_stuck_142 ⟨Nat.zero_le _, Nat.zero_le _⟩) hP hS hA (fun r_78 H locs hw hP hT => ?_)
                  have hS := hT _ hA hS
                  refine lv_icmp_eq (tgt := 156) hx hb d_M_stuck_145 (by decide) (fun c_79 => ?_) (fun c_79 => ?_)
                  · have hw := hw.1 c_79
                    refine lv_iconst (v := 1) hx hb d_M_stuck_156 (by decide) ?_
                    refine lv_goto (tgt := 161) hx hb d_M_stuck_157 (by decide) ?_
                    refine lv_istore_n (lv' := [(1, .int 1), (4, .int r_75), (3, .int 1), (0, .ref (a 0)), (2, .int y2_69)]) hx hb d_M_stuck_161 rfl hl (by decide) rfl (fun ls hl => ?_)
                    refine lv_iinc (v := y2_69 + 1) (lv' := [(2, .int (y2_69 + 1)), (1, .int 1), (4, .int r_75), (3, .int 1), (0, .ref (a 0))]) hx hb d_M_stuck_162 hl (k := 4) rfl rfl (by decide) rfl (fun ls hl => ?_)
                    refine lv_goto (tgt := 62) hx hb d_M_stuck_165 (by decide) ?_
                    exact ih_69 1 (y2_69 + 1) _ _ _ hw hP hD hS (lv_sub hl [4, 1, 0] rfl)
                  · have hw := hw.2 c_79
                    refine lv_aload_n hx hb d_M_stuck_148 rfl (lv_at hl 2 rfl) ?_
                    refine lv_iload_n hx hb d_M_stuck_149 rfl (lv_at hl 4 rfl) ?_
                    refine cl_r (va_runV (As := [.int y2_69]) (rest := []) ⟨hx, hb, hml, hown, hts⟩ (c_M_wanted l dC dI cI cZ a _ s_4 y2_69 _ hw) (cwV 1 hts (gi_V (tm 376 rfl) (tm 377 rfl) (tm 378 rfl) (tm 320 rfl) (tm 379 rfl)) rfl rfl rfl (by decide +kernel) ⟨Nat.le_of_ble_eq_true rfl, Nat.le_of_ble_eq_true rfl⟩) (pW_V hK hP hD (ci := 6) (k := 0) rfl rfl) rfl rfl hl.1 rfl (lv_room (Nat.le_of_ble_eq_true rfl)) d_M_stuck_150 ⟨Nat.zero_le _, Nat.zero_le _⟩) hP hS hA (fun r_80 H locs hw hP hT => ?_)
                    have hS := hT _ hA hS
                    refine lv_if_lt (tgt := 160) hx hb d_M_stuck_153 (by decide) (fun c_81 => ?_) (fun c_81 => ?_)
                    · have hw := hw.1 c_81
                      refine lv_iconst (v := 0) hx hb d_M_stuck_160 (by decide) ?_
                      refine lv_istore_n (lv' := [(1, .int 0), (4, .int r_75), (3, .int 1), (0, .ref (a 0)), (2, .int y2_69)]) hx hb d_M_stuck_161 rfl hl (by decide) rfl (fun ls hl => ?_)
                      refine lv_iinc (v := y2_69 + 1) (lv' := [(2, .int (y2_69 + 1)), (1, .int 0), (4, .int r_75), (3, .int 1), (0, .ref (a 0))]) hx hb d_M_stuck_162 hl (k := 4) rfl rfl (by decide) rfl (fun ls hl => ?_)
                      refine lv_goto (tgt := 62) hx hb d_M_stuck_165 (by decide) ?_
                      exact ih_69 0 (y2_69 + 1) _ _ _ hw hP hD hS (lv_sub hl [4, 1, 0] rfl)
                    · have hw := hw.2 c_81
                      refine lv_iconst (v := 1) hx hb d_M_stuck_156 (by decide) ?_
                      refine lv_goto (tgt := 161) hx hb d_M_stuck_157 (by decide) ?_
                      refine lv_istore_n (lv' := [(1, .int 1), (4, .int r_75), (3, .int 1), (0, .ref (a 0)), (2, .int y2_69)]) hx hb d_M_stuck_161 rfl hl (by decide) rfl (fun ls hl => ?_)
                      refine lv_iinc (v := y2_69 + 1) (lv' := [(2, .int (y2_69 + 1)), (1, .int 1), (4, .int r_75), (3, .int 1), (0, .ref (a 0))]) hx hb d_M_stuck_162 hl (k := 4) rfl rfl (by decide) rfl (fun ls hl => ?_)
                      refine lv_goto (tgt := 62) hx hb d_M_stuck_165 (by decide) ?_
                      exact ih_69 1 (y2_69 + 1) _ _ _ hw hP hD hS (lv_sub hl [4, 1, 0] rfl)
            · have hw := hw.2 c_73
              refine lv_iload_n hx hb d_M_stuck_83 rfl (lv_at hl 2 rfl) ?_
              refine lv_bipush (v := 16) hx hb d_M_stuck_84 (by decide) ?_
              refine lv_icmp_lt (tgt := 104) hx hb d_M_stuck_86 (by decide) (fun c_82 => ?_) (fun c_82 => ?_)
              · have hw := hw.1 c_82
                refine lv_iconst (v := 0) hx hb d_M_stuck_104 (by decide) ?_
                refine lv_istore_n (lv' := [(3, .int 0), (0, .ref (a 0)), (1, .int y1_69), (2, .int y2_69)]) hx hb d_M_stuck_105 rfl hl (by decide) rfl (fun ls hl => ?_)
                refine lv_iload_n hx hb d_M_stuck_106 rfl (lv_at hl 0 rfl) ?_
                refine lv_if_eq (tgt := 118) hx hb d_M_stuck_107 (by decide) (fun _ => ?_) (fun c9 => absurd rfl c9)
                refine lv_iconst (v := (-1)) hx hb d_M_stuck_118 (by decide) ?_
                refine lv_istore (lv' := [(4, .int (-1)), (3, .int 0), (0, .ref (a 0)), (1, .int y1_69), (2, .int y2_69)]) hx hb d_M_stuck_119 hl (by decide) rfl (fun ls hl => ?_)
                refine lv_iload_n hx hb d_M_stuck_121 rfl (lv_at hl 3 rfl) ?_
                refine lv_if_ne (tgt := 156) hx hb d_M_stuck_122 (by decide) (fun c_84 => ?_) (fun c_84 => ?_)
                · have hw := hw.1 c_84
                  refine lv_iconst (v := 1) hx hb d_M_stuck_156 (by decide) ?_
                  refine lv_goto (tgt := 161) hx hb d_M_stuck_157 (by decide) ?_
                  refine lv_istore_n (lv' := [(1, .int 1), (4, .int (-1)), (3, .int 0), (0, .ref (a 0)), (2, .int y2_69)]) hx hb d_M_stuck_161 rfl hl (by decide) rfl (fun ls hl => ?_)
                  refine lv_iinc (v := y2_69 + 1) (lv' := [(2, .int (y2_69 + 1)), (1, .int 1), (4, .int (-1)), (3, .int 0), (0, .ref (a 0))]) hx hb d_M_stuck_162 hl (k := 4) rfl rfl (by decide) rfl (fun ls hl => ?_)
                  refine lv_goto (tgt := 62) hx hb d_M_stuck_165 (by decide) ?_
                  exact ih_69 1 (y2_69 + 1) _ _ _ hw hP hD hS (lv_sub hl [4, 1, 0] rfl)
                · have hw := hw.2 c_84
                  refine lv_iload hx hb d_M_stuck_125 (lv_at hl 0 rfl) ?_
                  refine lv_if_lt (tgt := 160) hx hb d_M_stuck_127 (by decide) (fun _ => ?_) (fun c9 => absurd c9 (by decide))
                  refine lv_iconst (v := 0) hx hb d_M_stuck_160 (by decide) ?_
                  refine lv_istore_n (lv' := [(1, .int 0), (4, .int (-1)), (3, .int 0), (0, .ref (a 0)), (2, .int y2_69)]) hx hb d_M_stuck_161 rfl hl (by decide) rfl (fun ls hl => ?_)
                  refine lv_iinc (v := y2_69 + 1) (lv' := [(2, .int (y2_69 + 1)), (1, .int 0), (4, .int (-1)), (3, .int 0), (0, .ref (a 0))]) hx hb d_M_stuck_162 hl (k := 4) rfl rfl (by decide) rfl (fun ls hl => ?_)
                  refine lv_goto (tgt := 62) hx hb d_M_stuck_165 (by decide) ?_
                  exact ih_69 0 (y2_69 + 1) _ _ _ hw hP hD hS (lv_sub hl [4, 1, 0] rfl)
              · have hw := hw.2 c_82
                refine lv_aload_n hx hb d_M_stuck_89 rfl (lv_at hl 0 rfl) ?_
                refine lv_iload_n hx hb d_M_stuck_90 rfl (lv_at hl 2 rfl) ?_
                refine lv_bipush (v := 16) hx hb d_M_stuck_91 (by decide) ?_
                refine lv_isub hx hb d_M_stuck_93 ?_
                refine cl_r (va_runV (As := [.int (y2_69 - 16)]) (rest := []) ⟨hx, hb, hml, hown, hts⟩ (c_M_isChannel l dC dI cI cZ a _ s_4 (y2_69 - 16) _ hw) (cwV 1 hts (gi_V (tm 336 rfl) (tm 337 rfl) (tm 338 rfl) (tm 320 rfl) (tm 339 rfl)) rfl rfl rfl (by decide +kernel) ⟨Nat.le_of_ble_eq_true rfl, Nat.le_of_ble_eq_true rfl⟩) (pW_V hK hP hD (ci := 6) (k := 0) rfl rfl) rfl rfl hl.1 rfl (lv_room (Nat.le_of_ble_eq_true rfl)) d_M_stuck_94 ⟨Nat.zero_le _, Nat.zero_le _⟩) hP hS hA (fun r_86 H locs hw hP hT => ?_)
                have hS := hT _ hA hS
                refine lv_if_eq (tgt := 104) hx hb d_M_stuck_97 (by decide) (fun c_87 => ?_) (fun c_87 => ?_)
                · have hw := hw.1 c_87
                  refine lv_iconst (v := 0) hx hb d_M_stuck_104 (by decide) ?_
                  refine lv_istore_n (lv' := [(3, .int 0), (0, .ref (a 0)), (1, .int y1_69), (2, .int y2_69)]) hx hb d_M_stuck_105 rfl hl (by decide) rfl (fun ls hl => ?_)
                  refine lv_iload_n hx hb d_M_stuck_106 rfl (lv_at hl 0 rfl) ?_
                  refine lv_if_eq (tgt := 118) hx hb d_M_stuck_107 (by decide) (fun _ => ?_) (fun c9 => absurd rfl c9)
                  refine lv_iconst (v := (-1)) hx hb d_M_stuck_118 (by decide) ?_
                  refine lv_istore (lv' := [(4, .int (-1)), (3, .int 0), (0, .ref (a 0)), (1, .int y1_69), (2, .int y2_69)]) hx hb d_M_stuck_119 hl (by decide) rfl (fun ls hl => ?_)
                  refine lv_iload_n hx hb d_M_stuck_121 rfl (lv_at hl 3 rfl) ?_
                  refine lv_if_ne (tgt := 156) hx hb d_M_stuck_122 (by decide) (fun c_89 => ?_) (fun c_89 => ?_)
                  · have hw := hw.1 c_89
                    refine lv_iconst (v := 1) hx hb d_M_stuck_156 (by decide) ?_
                    refine lv_goto (tgt := 161) hx hb d_M_stuck_157 (by decide) ?_
                    refine lv_istore_n (lv' := [(1, .int 1), (4, .int (-1)), (3, .int 0), (0, .ref (a 0)), (2, .int y2_69)]) hx hb d_M_stuck_161 rfl hl (by decide) rfl (fun ls hl => ?_)
                    refine lv_iinc (v := y2_69 + 1) (lv' := [(2, .int (y2_69 + 1)), (1, .int 1), (4, .int (-1)), (3, .int 0), (0, .ref (a 0))]) hx hb d_M_stuck_162 hl (k := 4) rfl rfl (by decide) rfl (fun ls hl => ?_)
                    refine lv_goto (tgt := 62) hx hb d_M_stuck_165 (by decide) ?_
                    exact ih_69 1 (y2_69 + 1) _ _ _ hw hP hD hS (lv_sub hl [4, 1, 0] rfl)
                  · have hw := hw.2 c_89
                    refine lv_iload hx hb d_M_stuck_125 (lv_at hl 0 rfl) ?_
                    refine lv_if_lt (tgt := 160) hx hb d_M_stuck_127 (by decide) (fun _ => ?_) (fun c9 => absurd c9 (by decide))
                    refine lv_iconst (v := 0) hx hb d_M_stuck_160 (by decide) ?_
                    refine lv_istore_n (lv' := [(1, .int 0), (4, .int (-1)), (3, .int 0), (0, .ref (a 0)), (2, .int y2_69)]) hx hb d_M_stuck_161 rfl hl (by decide) rfl (fun ls hl => ?_)
                    refine lv_iinc (v := y2_69 + 1) (lv' := [(2, .int (y2_69 + 1)), (1, .int 0), (4, .int (-1)), (3, .int 0), (0, .ref (a 0))]) hx hb d_M_stuck_162 hl (k := 4) rfl rfl (by decide) rfl (fun ls hl => ?_)
                    refine lv_goto (tgt := 62) hx hb d_M_stuck_165 (by decide) ?_
                    exact ih_69 0 (y2_69 + 1) _ _ _ hw hP hD hS (lv_sub hl [4, 1, 0] rfl)
                · have hw := hw.2 c_87
                  refine lv_iconst (v := 1) hx hb d_M_stuck_100 (by decide) ?_
                  refine lv_goto (tgt := 105) hx hb d_M_stuck_101 (by decide) ?_
                  refine lv_istore_n (lv' := [(3, .int 1), (0, .ref (a 0)), (1, .int y1_69), (2, .int y2_69)]) hx hb d_M_stuck_105 rfl hl (by decide) rfl (fun ls hl => ?_)
                  refine lv_iload_n hx hb d_M_stuck_106 rfl (lv_at hl 0 rfl) ?_
                  refine lv_if_eq (tgt := 118) hx hb d_M_stuck_107 (by decide) (fun c9 => absurd c9 (by decide)) (fun _ => ?_)
                  refine lv_aload_n hx hb d_M_stuck_110 rfl (lv_at hl 1 rfl) ?_
                  refine lv_iload_n hx hb d_M_stuck_111 rfl (lv_at hl 3 rfl) ?_
                  refine cl_r (va_runV (As := [.int y2_69]) (rest := []) ⟨hx, hb, hml, hown, hts⟩ (c_M_front l dC dI cI cZ a _ s_4 y2_69 _ hw) (cwV 1 hts (gi_V (tm 371 rfl) (tm 372 rfl) (tm 373 rfl) (tm 320 rfl) (tm 374 rfl)) rfl rfl rfl (by decide +kernel) ⟨Nat.le_of_ble_eq_true rfl, Nat.le_of_ble_eq_true rfl⟩) (pW_V hK hP hD (ci := 6) (k := 0) rfl rfl) rfl rfl hl.1 rfl (lv_room (Nat.le_of_ble_eq_true rfl)) d_M_stuck_112 ⟨Nat.zero_le _, Nat.zero_le _⟩) hP hS hA (fun r_92 H locs hw hP hT => ?_)
                  have hS := hT _ hA hS
                  refine lv_goto (tgt := 119) hx hb d_M_stuck_115 (by decide) ?_
                  refine lv_istore (lv' := [(4, .int r_92), (3, .int 1), (0, .ref (a 0)), (1, .int y1_69), (2, .int y2_69)]) hx hb d_M_stuck_119 hl (by decide) rfl (fun ls hl => ?_)
                  refine lv_iload_n hx hb d_M_stuck_121 rfl (lv_at hl 3 rfl) ?_
                  refine lv_if_ne (tgt := 156) hx hb d_M_stuck_122 (by decide) (fun c_93 => ?_) (fun c_93 => ?_)
                  · have hw := hw.1 c_93
                    refine lv_iconst (v := 1) hx hb d_M_stuck_156 (by decide) ?_
                    refine lv_goto (tgt := 161) hx hb d_M_stuck_157 (by decide) ?_
                    refine lv_istore_n (lv' := [(1, .int 1), (4, .int r_92), (3, .int 1), (0, .ref (a 0)), (2, .int y2_69)]) hx hb d_M_stuck_161 rfl hl (by decide) rfl (fun ls hl => ?_)
                    refine lv_iinc (v := y2_69 + 1) (lv' := [(2, .int (y2_69 + 1)), (1, .int 1), (4, .int r_92), (3, .int 1), (0, .ref (a 0))]) hx hb d_M_stuck_162 hl (k := 4) rfl rfl (by decide) rfl (fun ls hl => ?_)
                    refine lv_goto (tgt := 62) hx hb d_M_stuck_165 (by decide) ?_
                    exact ih_69 1 (y2_69 + 1) _ _ _ hw hP hD hS (lv_sub hl [4, 1, 0] rfl)
                  · have hw := hw.2 c_93
                    refine lv_iload hx hb d_M_stuck_125 (lv_at hl 0 rfl) ?_
                    refine lv_if_lt (tgt := 160) hx hb d_M_stuck_127 (by decide) (fun c_94 => ?_) (fun c_94 => ?_)
                    · have hw := hw.1 c_94
                      refine lv_iconst (v := 0) hx hb d_M_stuck_160 (by decide) ?_
                      refine lv_istore_n (lv' := [(1, .int 0), (4, .int r_92), (3, .int 1), (0, .ref (a 0)), (2, .int y2_69)]) hx hb d_M_stuck_161 rfl hl (by decide) rfl (fun ls hl => ?_)
                      refine lv_iinc (v := y2_69 + 1) (lv' := [(2, .int (y2_69 + 1)), (1, .int 0), (4, .int r_92), (3, .int 1), (0, .ref (a 0))]) hx hb d_M_stuck_162 hl (k := 4) rfl rfl (by decide) rfl (fun ls hl => ?_)
                      refine lv_goto (tgt := 62) hx hb d_M_stuck_165 (by decide) ?_
                      exact ih_69 0 (y2_69 + 1) _ _ _ hw hP hD hS (lv_sub hl [4, 1, 0] rfl)
                    · have hw := hw.2 c_94
                      refine lv_aload_n hx hb d_M_stuck_130 rfl (lv_at hl 2 rfl) ?_
                      refine va_get (D := (dC, dI)) (ci := 6) (v := .ref (a 8)) (C := R_M) (T := F_M) (N := 30) hx hb hts in_M hown hK hP 0 rfl rfl 16 (by decide) (hts (.fieldLink R_M 32 R_M "end" "[I") (tm 343 rfl)) (fun _ h9 => h9) rfl d_M_stuck_131 ?_
                      refine lv_iload hx hb d_M_stuck_134 (lv_at hl 0 rfl) ?_
                      refine lv_bipush (v := 16) hx hb d_M_stuck_136 (by decide) ?_
                      refine lv_idiv hx hb d_M_stuck_138 (by decide) ?_
                      obtain ⟨hin, hw⟩ := hw
                      refine va_iald hx hb hK hP 8 0 rfl rfl hin d_M_stuck_139 ?_
                      refine lv_aload_n hx hb d_M_stuck_140 rfl (lv_at hl 2 rfl) ?_
                      refine lv_iload_n hx hb d_M_stuck_141 rfl (lv_at hl 4 rfl) ?_
                      refine cl_r (va_runV (As := [.int y2_69]) (rest := [.int (s_4 8 (r_92 / 16).toNatClampNeg)]) ⟨hx, hb, hml, hown, hts⟩ (c_M_nodeOf l dC dI cI cZ a _ s_4 y2_69 _ hw) (cwV 1 hts (gi_V (tm 362 rfl) (tm 363 rfl) (tm 364 rfl) (tm 320 rfl) (tm 365 rfl)) rfl rfl rfl (by decide +kernel) ⟨Nat.le_of_ble_eq_true rfl, Nat.le_of_ble_eq_true rfl⟩) (pW_V hK hP hD (ci := 6) (k := 0) rfl rfl) rfl rfl hl.1 rfl (lv_room (Nat.le_of_ble_eq_true rfl)) d_M_stuck_142 ⟨Nat.zero_le _, Nat.zero_le _⟩) hP hS hA (fun r_95 H locs hw hP hT => ?_)
                      have hS := hT _ hA hS
                      refine lv_icmp_eq (tgt := 156) hx hb d_M_stuck_145 (by decide) (fun c_96 => ?_) (fun c_96 => ?_)
                      · have hw := hw.1 c_96
                        refine lv_iconst (v := 1) hx hb d_M_stuck_156 (by decide) ?_
                        refine lv_goto (tgt := 161) hx hb d_M_stuck_157 (by decide) ?_
                        refine lv_istore_n (lv' := [(1, .int 1), (4, .int r_92), (3, .int 1), (0, .ref (a 0)), (2, .int y2_69)]) hx hb d_M_stuck_161 rfl hl (by decide) rfl (fun ls hl => ?_)
                        refine lv_iinc (v := y2_69 + 1) (lv' := [(2, .int (y2_69 + 1)), (1, .int 1), (4, .int r_92), (3, .int 1), (0, .ref (a 0))]) hx hb d_M_stuck_162 hl (k := 4) rfl rfl (by decide) rfl (fun ls hl => ?_)
                        refine lv_goto (tgt := 62) hx hb d_M_stuck_165 (by decide) ?_
                        exact ih_69 1 (y2_69 + 1) _ _ _ hw hP hD hS (lv_sub hl [4, 1, 0] rfl)
                      · have hw := hw.2 c_96
                        refine lv_aload_n hx hb d_M_stuck_148 rfl (lv_at hl 2 rfl) ?_
                        refine lv_iload_n hx hb d_M_stuck_149 rfl (lv_at hl 4 rfl) ?_
                        refine cl_r (va_runV (As := [.int y2_69]) (rest := []) ⟨hx, hb, hml, hown, hts⟩ (c_M_wanted l dC dI cI cZ a _ s_4 y2_69 _ hw) (cwV 1 hts (gi_V (tm 376 rfl) (tm 377 rfl) (tm 378 rfl) (tm 320 rfl) (tm 379 rfl)) rfl rfl rfl (by decide +kernel) ⟨Nat.le_of_ble_eq_true rfl, Nat.le_of_ble_eq_true rfl⟩) (pW_V hK hP hD (ci := 6) (k := 0) rfl rfl) rfl rfl hl.1 rfl (lv_room (Nat.le_of_ble_eq_true rfl)) d_M_stuck_150 ⟨Nat.zero_le _, Nat.zero_le _⟩) hP hS hA (fun r_97 H locs hw hP hT => ?_)
                        have hS := hT _ hA hS
                        refine lv_if_lt (tgt := 160) hx hb d_M_stuck_153 (by decide) (fun c_98 => ?_) (fun c_98 => ?_)
                        · have hw := hw.1 c_98
                          refine lv_iconst (v := 0) hx hb d_M_stuck_160 (by decide) ?_
                          refine lv_istore_n (lv' := [(1, .int 0), (4, .int r_92), (3, .int 1), (0, .ref (a 0)), (2, .int y2_69)]) hx hb d_M_stuck_161 rfl hl (by decide) rfl (fun ls hl => ?_)
                          refine lv_iinc (v := y2_69 + 1) (lv' := [(2, .int (y2_69 + 1)), (1, .int 0), (4, .int r_92), (3, .int 1), (0, .ref (a 0))]) hx hb d_M_stuck_162 hl (k := 4) rfl rfl (by decide) rfl (fun ls hl => ?_)
                          refine lv_goto (tgt := 62) hx hb d_M_stuck_165 (by decide) ?_
                          exact ih_69 0 (y2_69 + 1) _ _ _ hw hP hD hS (lv_sub hl [4, 1, 0] rfl)
                        · have hw := hw.2 c_98
                          refine lv_iconst (v := 1) hx hb d_M_stuck_156 (by decide) ?_
                          refine lv_goto (tgt := 161) hx hb d_M_stuck_157 (by decide) ?_
                          refine lv_istore_n (lv' := [(1, .int 1), (4, .int r_92), (3, .int 1), (0, .ref (a 0)), (2, .int y2_69)]) hx hb d_M_stuck_161 rfl hl (by decide) rfl (fun ls hl => ?_)
                          refine lv_iinc (v := y2_69 + 1) (lv' := [(2, .int (y2_69 + 1)), (1, .int 1), (4, .int r_92), (3, .int 1), (0, .ref (a 0))]) hx hb d_M_stuck_162 hl (k := 4) rfl rfl (by decide) rfl (fun ls hl => ?_)
                          refine lv_goto (tgt := 62) hx hb d_M_stuck_165 (by decide) ?_
                          exact ih_69 1 (y2_69 + 1) _ _ _ hw hP hD hS (lv_sub hl [4, 1, 0] rfl)
      exact lp_69 k_69 y1_68 0 _ _ _ hw hP hD hS (lv_sub hl [1, 2, 0] rfl)
    have lp_68 : ∀ (kf_68 : Nat) (y1_68 : Int32) (y2_68 : Int32) (H : Heap) (locs : List Loc) (ls : Array Slot), wl_M_stuck_28 s_4 (fun y1 y2 => we_M_stuck_60 s_4 y1 post) post kf_68 y1_68 y2_68 → va_P (dC, dI) clsT (wM cI cZ a s_4) H → va_D A (wM cI cZ a s_4) → va_S A s.heap H locs → lv_has ls 5 [(0, .ref (a 0)), (1, .int y1_68), (2, .int y2_68)] → W p l e { frames := 3, cells := 0, slots := 0, locals := 66 } s m ([.ref (a 0)] : List Value).toArray below meth c H locs 0 0 (MQ below (va_Qi post (bW (dC, dI) clsT (tyT cI cZ) (wM cI cZ a) A) A) ([.ref (a 0)] : List Value).toArray s 0 0 A) (F0 m 28 ls []) := by
      intro kf_68
      induction kf_68 with
      | zero => intro y1_68 y2_68 H locs ls hw; rw [wl_M_stuck_28] at hw; exact hw.elim
      | succ kf_68 ih_68 =>
        intro y1_68 y2_68 H locs ls hw hP hD hS hl
        rw [wl_M_stuck_28] at hw
        refine lv_iload_n hx hb d_M_stuck_28 rfl (lv_at hl 2 rfl) ?_
        refine lv_aload_n hx hb d_M_stuck_29 rfl (lv_at hl 0 rfl) ?_
        refine va_get (D := (dC, dI)) (ci := 6) (v := .int (s_4 0 3)) (C := R_M) (T := F_M) (N := 30) hx hb hts in_M hown hK hP 0 rfl rfl 3 (by decide) (hts (.fieldLink R_M 88 R_M "links" "I") (tm 322 rfl)) (fun _ h9 => h9) rfl d_M_stuck_30 ?_
        refine lv_icmp_ge (tgt := 60) hx hb d_M_stuck_33 (by decide) (fun c_99 => ?_) (fun c_99 => ?_)
        · have hw := hw.1 c_99
          exact hE_68 y1_68 y2_68 _ _ _ hw hP hD hS (lv_sub hl [0, 1] rfl)
        · have hw := hw.2 c_99
          refine lv_iload_n hx hb d_M_stuck_36 rfl (lv_at hl 1 rfl) ?_
          refine lv_if_ne (tgt := 48) hx hb d_M_stuck_37 (by decide) (fun c_100 => ?_) (fun c_100 => ?_)
          · have hw := hw.1 c_100
            refine lv_iconst (v := 1) hx hb d_M_stuck_48 (by decide) ?_
            refine lv_goto (tgt := 53) hx hb d_M_stuck_49 (by decide) ?_
            refine lv_istore_n (lv' := [(1, .int 1), (0, .ref (a 0)), (2, .int y2_68)]) hx hb d_M_stuck_53 rfl hl (by decide) rfl (fun ls hl => ?_)
            refine lv_iinc (v := y2_68 + 1) (lv' := [(2, .int (y2_68 + 1)), (1, .int 1), (0, .ref (a 0))]) hx hb d_M_stuck_54 hl (k := 2) rfl rfl (by decide) rfl (fun ls hl => ?_)
            refine lv_goto (tgt := 28) hx hb d_M_stuck_57 (by decide) ?_
            exact ih_68 1 (y2_68 + 1) _ _ _ hw hP hD hS (lv_sub hl [2, 1, 0] rfl)
          · have hw := hw.2 c_100
            refine lv_aload_n hx hb d_M_stuck_40 rfl (lv_at hl 0 rfl) ?_
            refine lv_iload_n hx hb d_M_stuck_41 rfl (lv_at hl 2 rfl) ?_
            refine cl_r (va_runV (As := [.int y2_68]) (rest := []) ⟨hx, hb, hml, hown, hts⟩ (c_M_mover l dC dI cI cZ a _ s_4 y2_68 _ hw) (cwV 1 hts (gi_V (tm 391 rfl) (tm 392 rfl) (tm 393 rfl) (tm 320 rfl) (tm 394 rfl)) rfl rfl rfl (by decide +kernel) ⟨Nat.le_of_ble_eq_true rfl, Nat.le_of_ble_eq_true rfl⟩) (pW_V hK hP hD (ci := 6) (k := 0) rfl rfl) rfl rfl hl.1 rfl (lv_room (Nat.le_of_ble_eq_true rfl)) d_M_stuck_42 ⟨Nat.zero_le _, Nat.zero_le _⟩) hP hS hA (fun r_101 H locs hw hP hT => ?_)
            have hS := hT _ hA hS
            refine lv_if_lt (tgt := 52) hx hb d_M_stuck_45 (by decide) (fun c_102 => ?_) (fun c_102 => ?_)
            · have hw := hw.1 c_102
              refine lv_iconst (v := 0) hx hb d_M_stuck_52 (by decide) ?_
              refine lv_istore_n (lv' := [(1, .int 0), (0, .ref (a 0)), (2, .int y2_68)]) hx hb d_M_stuck_53 rfl hl (by decide) rfl (fun ls hl => ?_)
              refine lv_iinc (v := y2_68 + 1) (lv' := [(2, .int (y2_68 + 1)), (1, .int 0), (0, .ref (a 0))]) hx hb d_M_stuck_54 hl (k := 2) rfl rfl (by decide) rfl (fun ls hl => ?_)
              refine lv_goto (tgt := 28) hx hb d_M_stuck_57 (by decide) ?_
              exact ih_68 0 (y2_68 + 1) _ _ _ hw hP hD hS (lv_sub hl [2, 1, 0] rfl)
            · have hw := hw.2 c_102
              refine lv_iconst (v := 1) hx hb d_M_stuck_48 (by decide) ?_
              refine lv_goto (tgt := 53) hx hb d_M_stuck_49 (by decide) ?_
              refine lv_istore_n (lv' := [(1, .int 1), (0, .ref (a 0)), (2, .int y2_68)]) hx hb d_M_stuck_53 rfl hl (by decide) rfl (fun ls hl => ?_)
              refine lv_iinc (v := y2_68 + 1) (lv' := [(2, .int (y2_68 + 1)), (1, .int 1), (0, .ref (a 0))]) hx hb d_M_stuck_54 hl (k := 2) rfl rfl (by decide) rfl (fun ls hl => ?_)
              refine lv_goto (tgt := 28) hx hb d_M_stuck_57 (by decide) ?_
              exact ih_68 1 (y2_68 + 1) _ _ _ hw hP hD hS (lv_sub hl [2, 1, 0] rfl)
    exact lp_68 k_68 0 0 _ _ _ hw hP hD hS (lv_sub hl [2, 1, 0] rfl)
  · have hw := hw.2 c_3
    refine lv_iconst (v := 0) hx hb d_M_stuck_12 (by decide) ?_
    exact rt_z (w := wM cI cZ a) hx hb hr hlocks hK hP hD hS d_M_stuck_13 (Or.inl rfl) hw
