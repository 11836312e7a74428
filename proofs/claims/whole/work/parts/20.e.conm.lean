set_option maxHeartbeats 4000000 in
set_option maxRecDepth 100000 in
theorem c_M_measure (l : Launch) (dC : Nat → ClassId) (dI : Nat → Nat → Nat) (cI cZ : ClassId) (a : Nat → Nat) (sz : Nat) (σ : SS) (x1 : Int32) (post : SS → Prop) (hw : wp_M_measure σ x1 post) : Met l y_M_measure (.code y_M_measure b_M_measure 7 none :: TT) { frames := 0, cells := 0, slots := 0, locals := 0 } (pW (dC, dI) clsT (tyT cI cZ) [.ref (a 0), .int x1] sz (wM cI cZ a σ)) (va_Qv post (bW (dC, dI) clsT (tyT cI cZ) (wM cI cZ a) (va_A (wM cI cZ a σ) sz)) (va_A (wM cI cZ a σ) sz)) 0 0 (va_A (wM cI cZ a σ) sz) := by
  refine hd (Qf := fun A => (va_Qv post (bW (dC, dI) clsT (tyT cI cZ) (wM cI cZ a) A) A)) (by decide) (Nat.le_of_ble_eq_true rfl) ?_
  intro p e s m below meth c A ls hx hb hr hts hown hlocks hml hK hP hD hS hA hl
  have hown : s.vm.findClass R_M = some m.cls := hown
  have hl : lv_has ls 7 [(0, .ref (a 0)), (1, .int x1)] := hl
  rw [wp_M_measure] at hw
  refine lv_iconst (v := 0) hx hb d_M_measure_0 (by decide) ?_
  refine lv_istore_n (lv' := [(2, .int 0), (0, .ref (a 0)), (1, .int x1)]) hx hb d_M_measure_1 rfl hl (by decide) rfl (fun ls hl => ?_)
  obtain ⟨k_136, hw⟩ := hw
  have hE_136 : ∀ (σ_136 : SS) (y2_136 : Int32) (H : Heap) (locs : List Loc) (ls : Array Slot), we_M_measure_22 σ_136 x1 post → va_P (dC, dI) clsT (wM cI cZ a σ_136) H → va_D A (wM cI cZ a σ_136) → va_S A s.heap H locs → lv_has ls 7 [(0, .ref (a 0)), (1, .int x1)] → W p l e { frames := 0, cells := 0, slots := 0, locals := 0 } s m ([.ref (a 0), .int x1] : List Value).toArray below meth c H locs 0 0 (MQ below (va_Qv post (bW (dC, dI) clsT (tyT cI cZ) (wM cI cZ a) A) A) ([.ref (a 0), .int x1] : List Value).toArray s 0 0 A) (F0 m 22 ls []) := by
    intro σ_136 y2_136 H locs ls hw hP hD hS hl
    rw [we_M_measure_22] at hw
    refine lv_iconst (v := 1) hx hb d_M_measure_22 (by decide) ?_
    refine lv_istore_n (lv' := [(2, .int 1), (0, .ref (a 0)), (1, .int x1)]) hx hb d_M_measure_23 rfl hl (by decide) rfl (fun ls hl => ?_)
    refine lv_iconst (v := 1) hx hb d_M_measure_24 (by decide) ?_
    refine lv_istore_n (lv' := [(3, .int 1), (2, .int 1), (0, .ref (a 0)), (1, .int x1)]) hx hb d_M_measure_25 rfl hl (by decide) rfl (fun ls hl => ?_)
    obtain ⟨k_137, hw⟩ := hw
    have hE_137 : ∀ (σ_137 : SS) (y2_137 : Int32) (y3_137 : Int32) (H : Heap) (locs : List Loc) (ls : Array Slot), we_M_measure_184 σ_137 post → va_P (dC, dI) clsT (wM cI cZ a σ_137) H → va_D A (wM cI cZ a σ_137) → va_S A s.heap H locs → lv_has ls 7 [] → W p l e { frames := 0, cells := 0, slots := 0, locals := 0 } s m ([.ref (a 0), .int x1] : List Value).toArray below meth c H locs 0 0 (MQ below (va_Qv post (bW (dC, dI) clsT (tyT cI cZ) (wM cI cZ a) A) A) ([.ref (a 0), .int x1] : List Value).toArray s 0 0 A) (F0 m 184 ls []) := by
      intro σ_137 y2_137 y3_137 H locs ls hw hP hD hS hl
      rw [we_M_measure_184] at hw
      exact rt_v (w := wM cI cZ a) hx hb hr hlocks hK hP hD hS d_M_measure_184 hw
    have lp_137 : ∀ (kf_137 : Nat) (σ_137 : SS) (y2_137 : Int32) (y3_137 : Int32) (H : Heap) (locs : List Loc) (ls : Array Slot), wl_M_measure_26 x1 (fun σ' y2 y3 => we_M_measure_184 σ' post) post kf_137 σ_137 y2_137 y3_137 → va_P (dC, dI) clsT (wM cI cZ a σ_137) H → va_D A (wM cI cZ a σ_137) → va_S A s.heap H locs → lv_has ls 7 [(0, .ref (a 0)), (1, .int x1), (2, .int y2_137), (3, .int y3_137)] → W p l e { frames := 0, cells := 0, slots := 0, locals := 0 } s m ([.ref (a 0), .int x1] : List Value).toArray below meth c H locs 0 0 (MQ below (va_Qv post (bW (dC, dI) clsT (tyT cI cZ) (wM cI cZ a) A) A) ([.ref (a 0), .int x1] : List Value).toArray s 0 0 A) (F0 m 26 ls []) := by
      intro kf_137
      induction kf_137 with
      | zero => intro σ_137 y2_137 y3_137 H locs ls hw; rw [wl_M_measure_26] at hw; exact hw.elim
      | succ kf_137 ih_137 =>
        intro σ_137 y2_137 y3_137 H locs ls hw hP hD hS hl
        rw [wl_M_measure_26] at hw
        refine lv_iload_n hx hb d_M_measure_26 rfl (lv_at hl 2 rfl) ?_
        refine lv_if_eq (tgt := 184) hx hb d_M_measure_27 (by decide) (fun c_138 => ?_) (fun c_138 => ?_)
        · have hw := hw.1 c_138
          exact hE_137 σ_137 y2_137 y3_137 _ _ _ hw hP hD hS (lv_sub hl [] rfl)
        · have hw := hw.2 c_138
          refine lv_iconst (v := 0) hx hb d_M_measure_30 (by decide) ?_
          refine lv_istore_n (lv' := [(2, .int 0), (0, .ref (a 0)), (1, .int x1), (3, .int y3_137)]) hx hb d_M_measure_31 rfl hl (by decide) rfl (fun ls hl => ?_)
          refine lv_iconst (v := 0) hx hb d_M_measure_32 (by decide) ?_
          refine lv_istore (lv' := [(4, .int 0), (2, .int 0), (0, .ref (a 0)), (1, .int x1), (3, .int y3_137)]) hx hb d_M_measure_33 hl (by decide) rfl (fun ls hl => ?_)
          obtain ⟨k_139, hw⟩ := hw
          have hE_139 : ∀ (σ_139 : SS) (y2_139 : Int32) (y4_139 : Int32) (H : Heap) (locs : List Loc) (ls : Array Slot), we_M_measure_178 σ_139 x1 y2_139 y3_137 (wl_M_measure_26 x1 (fun σ' y2 y3 => we_M_measure_184 σ' post) post kf_137) (fun σ' y2 y3 => we_M_measure_184 σ' post) post → va_P (dC, dI) clsT (wM cI cZ a σ_139) H → va_D A (wM cI cZ a σ_139) → va_S A s.heap H locs → lv_has ls 7 [(0, .ref (a 0)), (1, .int x1), (2, .int y2_139), (3, .int y3_137)] → W p l e { frames := 0, cells := 0, slots := 0, locals := 0 } s m ([.ref (a 0), .int x1] : List Value).toArray below meth c H locs 0 0 (MQ below (va_Qv post (bW (dC, dI) clsT (tyT cI cZ) (wM cI cZ a) A) A) ([.ref (a 0), .int x1] : List Value).toArray s 0 0 A) (F0 m 178 ls []) := by
            intro σ_139 y2_139 y4_139 H locs ls hw hP hD hS hl
            rw [we_M_measure_178] at hw
            refine lv_iinc (v := y3_137 + 1) (lv' := [(3, .int (y3_137 + 1)), (0, .ref (a 0)), (1, .int x1), (2, .int y2_139)]) hx hb d_M_measure_178 hl (k := 3) rfl rfl (by decide) rfl (fun ls hl => ?_)
            refine lv_goto (tgt := 26) hx hb d_M_measure_181 (by decide) ?_
            exact ih_137 σ_139 y2_139 (y3_137 + 1) _ _ _ hw hP hD hS (lv_sub hl [1, 2, 3, 0] rfl)
          have lp_139 : ∀ (kf_139 : Nat) (σ_139 : SS) (y2_139 : Int32) (y4_139 : Int32) (H : Heap) (locs : List Loc) (ls : Array Slot), wl_M_measure_35 x1 y3_137 (fun σ' y2 y4 => we_M_measure_178 σ' x1 y2 y3_137 (wl_M_measure_26 x1 (fun σ' y2 y3 => we_M_measure_184 σ' post) post kf_137) (fun σ' y2 y3 => we_M_measure_184 σ' post) post) post kf_139 σ_139 y2_139 y4_139 → va_P (dC, dI) clsT (wM cI cZ a σ_139) H → va_D A (wM cI cZ a σ_139) → va_S A s.heap H locs → lv_has ls 7 [(0, .ref (a 0)), (1, .int x1), (2, .int y2_139), (3, .int y3_137), (4, .int y4_139)] → W p l e { frames := 0, cells := 0, slots := 0, locals := 0 } s m ([.ref (a 0), .int x1] : List Value).toArray below meth c H locs 0 0 (MQ below (va_Qv post (bW (dC, dI) clsT (tyT cI cZ) (wM cI cZ a) A) A) ([.ref (a 0), .int x1] : List Value).toArray s 0 0 A) (F0 m 35 ls []) := by
            intro kf_139
            induction kf_139 with
            | zero => intro σ_139 y2_139 y4_139 H locs ls hw; rw [wl_M_measure_35] at hw; exact hw.elim
            | succ kf_139 ih_139 =>
              intro σ_139 y2_139 y4_139 H locs ls hw hP hD hS hl
              rw [wl_M_measure_35] at hw
              refine lv_iload hx hb d_M_measure_35 (lv_at hl 4 rfl) ?_
              refine lv_sipush (v := 160) hx hb d_M_measure_37 (by decide) ?_
              refine lv_icmp_ge (tgt := 178) hx hb d_M_measure_40 (by decide) (fun c_140 => ?_) (fun c_140 => ?_)
              · have hw := hw.1 c_140
                exact hE_139 σ_139 y2_139 y4_139 _ _ _ hw hP hD hS (lv_sub hl [0, 1, 2, 3] rfl)
              · have hw := hw.2 c_140
                refine lv_aload_n hx hb d_M_measure_43 rfl (lv_at hl 0 rfl) ?_
                refine va_get (D := (dC, dI)) (ci := 6) (v := .ref (a 20)) (C := R_M) (T := F_M) (N := 30) hx hb hts in_M hown hK hP 0 rfl rfl 28 (by decide) (hts (.fieldLink R_M 68 R_M "away" "[I") (tm 340 rfl)) (fun _ h9 => h9) rfl d_M_measure_44 ?_
                refine lv_iload hx hb d_M_measure_47 (lv_at hl 4 rfl) ?_
                obtain ⟨hin, hw⟩ := hw
                refine va_iald hx hb hK hP 20 0 rfl rfl hin d_M_measure_49 ?_
                refine lv_iconst (v := (-1)) hx hb d_M_measure_50 (by decide) ?_
                refine lv_icmp_ne (tgt := 79) hx hb d_M_measure_51 (by decide) (fun c_141 => ?_) (fun c_141 => ?_)
                · have hw := hw.1 c_141
                  refine lv_iconst (v := 0) hx hb d_M_measure_79 (by decide) ?_
                  refine lv_istore (lv' := [(5, .int 0), (0, .ref (a 0)), (1, .int x1), (2, .int y2_139), (3, .int y3_137), (4, .int y4_139)]) hx hb d_M_measure_80 hl (by decide) rfl (fun ls hl => ?_)
                  refine lv_iconst (v := 0) hx hb d_M_measure_82 (by decide) ?_
                  refine lv_istore (lv' := [(6, .int 0), (5, .int 0), (0, .ref (a 0)), (1, .int x1), (2, .int y2_139), (3, .int y3_137), (4, .int y4_139)]) hx hb d_M_measure_83 hl (by decide) rfl (fun ls hl => ?_)
                  obtain ⟨k_142, hw⟩ := hw
                  have hE_142 : ∀ (y5_142 : Int32) (y6_142 : Int32) (H : Heap) (locs : List Loc) (ls : Array Slot), we_M_measure_157 σ_139 x1 y2_139 y3_137 y4_139 y5_142 (wl_M_measure_35 x1 y3_137 (fun σ' y2 y4 => we_M_measure_178 σ' x1 y2 y3_137 (wl_M_measure_26 x1 (fun σ' y2 y3 => we_M_measure_184 σ' post) post kf_137) (fun σ' y2 y3 => we_M_measure_184 σ' post) post) post kf_139) (fun σ' y2 y4 => we_M_measure_178 σ' x1 y2 y3_137 (wl_M_measure_26 x1 (fun σ' y2 y3 => we_M_measure_184 σ' post) post kf_137) (fun σ' y2 y3 => we_M_measure_184 σ' post) post) post → va_P (dC, dI) clsT (wM cI cZ a σ_139) H → va_D A (wM cI cZ a σ_139) → va_S A s.heap H locs → lv_has ls 7 [(0, .ref (a 0)), (1, .int x1), (2, .int y2_139), (3, .int y3_137), (4, .int y4_139), (5, .int y5_142)] → W p l e { frames := 0, cells := 0, slots := 0, locals := 0 } s m ([.ref (a 0), .int x1] : List Value).toArray below meth c H locs 0 0 (MQ below (va_Qv post (bW (dC, dI) clsT (tyT cI cZ) (wM cI cZ a) A) A) ([.ref (a 0), .int x1] : List Value).toArray s 0 0 A) (F0 m 157 ls []) := by
                    intro y5_142 y6_142 H locs ls hw hP hD hS hl
                    rw [we_M_measure_157] at hw
                    refine lv_iload hx hb d_M_measure_157 (lv_at hl 5 rfl) ?_
                    refine lv_if_eq (tgt := 172) hx hb d_M_measure_159 (by decide) (fun c_143 => ?_) (fun c_143 => ?_)
                    · have hw := hw.1 c_143
                      refine lv_iinc (v := y4_139 + 1) (lv' := [(4, .int (y4_139 + 1)), (0, .ref (a 0)), (1, .int x1), (2, .int y2_139), (3, .int y3_137), (5, .int y5_142)]) hx hb d_M_measure_172 hl (k := 4) rfl rfl (by decide) rfl (fun ls hl => ?_)
                      refine lv_goto (tgt := 35) hx hb d_M_measure_175 (by decide) ?_
                      exact ih_139 σ_139 y2_139 (y4_139 + 1) _ _ _ hw hP hD hS (lv_sub hl [1, 2, 3, 4, 0] rfl)
                    · have hw := hw.2 c_143
                      refine lv_aload_n hx hb d_M_measure_162 rfl (lv_at hl 0 rfl) ?_
                      refine va_get (D := (dC, dI)) (ci := 6) (v := .ref (a 20)) (C := R_M) (T := F_M) (N := 30) hx hb hts in_M hown hK hP 0 rfl rfl 28 (by decide) (hts (.fieldLink R_M 68 R_M "away" "[I") (tm 340 rfl)) (fun _ h9 => h9) rfl d_M_measure_163 ?_
                      refine lv_iload hx hb d_M_measure_166 (lv_at hl 4 rfl) ?_
                      refine lv_iload_n hx hb d_M_measure_168 rfl (lv_at hl 3 rfl) ?_
                      obtain ⟨hin, hw⟩ := hw
                      refine st_i (w := wM cI cZ a) hx hb hK hP hD hS 20 0 rfl rfl rfl hin d_M_measure_169 (fun s_144 e_144 H locs hP hD hS => ?_)
                      have hw := hw s_144 e_144
                      refine lv_iconst (v := 1) hx hb d_M_measure_170 (by decide) ?_
                      refine lv_istore_n (lv' := [(2, .int 1), (0, .ref (a 0)), (1, .int x1), (3, .int y3_137), (4, .int y4_139), (5, .int y5_142)]) hx hb d_M_measure_171 rfl hl (by decide) rfl (fun ls hl => ?_)
                      refine lv_iinc (v := y4_139 + 1) (lv' := [(4, .int (y4_139 + 1)), (2, .int 1), (0, .ref (a 0)), (1, .int x1), (3, .int y3_137), (5, .int y5_142)]) hx hb d_M_measure_172 hl (k := 4) rfl rfl (by decide) rfl (fun ls hl => ?_)
                      refine lv_goto (tgt := 35) hx hb d_M_measure_175 (by decide) ?_
                      exact ih_139 s_144 1 (y4_139 + 1) _ _ _ hw hP hD hS (lv_sub hl [2, 3, 1, 4, 0] rfl)
                  have lp_142 : ∀ (kf_142 : Nat) (y5_142 : Int32) (y6_142 : Int32) (H : Heap) (locs : List Loc) (ls : Array Slot), wl_M_measure_85 σ_139 x1 y2_139 y3_137 y4_139 (fun y5 y6 => we_M_measure_157 σ_139 x1 y2_139 y3_137 y4_139 y5 (wl_M_measure_35 x1 y3_137 (fun σ' y2 y4 => we_M_measure_178 σ' x1 y2 y3_137 (wl_M_measure_26 x1 (fun σ' y2 y3 => we_M_measure_184 σ' post) post kf_137) (fun σ' y2 y3 => we_M_measure_184 σ' post) post) post kf_139) (fun σ' y2 y4 => we_M_measure_178 σ' x1 y2 y3_137 (wl_M_measure_26 x1 (fun σ' y2 y3 => we_M_measure_184 σ' post) post kf_137) (fun σ' y2 y3 => we_M_measure_184 σ' post) post) post) post kf_142 y5_142 y6_142 → va_P (dC, dI) clsT (wM cI cZ a σ_139) H → va_D A (wM cI cZ a σ_139) → va_S A s.heap H locs → lv_has ls 7 [(0, .ref (a 0)), (1, .int x1), (2, .int y2_139), (3, .int y3_137), (4, .int y4_139), (5, .int y5_142), (6, .int y6_142)] → W p l e { frames := 0, cells := 0, slots := 0, locals := 0 } s m ([.ref (a 0), .int x1] : List Value).toArray below meth c H locs 0 0 (MQ below (va_Qv post (bW (dC, dI) clsT (tyT cI cZ) (wM cI cZ a) A) A) ([.ref (a 0), .int x1] : List Value).toArray s 0 0 A) (F0 m 85 ls []) := by
                    intro kf_142
                    induction kf_142 with
                    | zero => intro y5_142 y6_142 H locs ls hw; rw [wl_M_measure_85] at hw; exact hw.elim
                    | succ kf_142 ih_142 =>
                      intro y5_142 y6_142 H locs ls hw hP hD hS hl
                      rw [wl_M_measure_85] at hw
                      refine lv_iload hx hb d_M_measure_85 (lv_at hl 6 rfl) ?_
                      refine lv_sipush (v := 160) hx hb d_M_measure_87 (by decide) ?_
                      refine lv_icmp_ge (tgt := 157) hx hb d_M_measure_90 (by decide) (fun c_145 => ?_) (fun c_145 => ?_)
                      · have hw := hw.1 c_145
                        exact hE_142 y5_142 y6_142 _ _ _ hw hP hD hS (lv_sub hl [0, 1, 2, 3, 4, 5] rfl)
                      · have hw := hw.2 c_145
                        refine lv_iload hx hb d_M_measure_93 (lv_at hl 5 rfl) ?_
                        refine lv_if_ne (tgt := 157) hx hb d_M_measure_95 (by decide) (fun c_146 => ?_) (fun c_146 => ?_)
                        · have hw := hw.1 c_146
                          exact hE_142 y5_142 y6_142 _ _ _ hw hP hD hS (lv_sub hl [0, 1, 2, 3, 4, 5] rfl)
                        · have hw := hw.2 c_146
                          refine lv_aload_n hx hb d_M_measure_98 rfl (lv_at hl 0 rfl) ?_
                          refine va_get (D := (dC, dI)) (ci := 6) (v := .ref (a 20)) (C := R_M) (T := F_M) (N := 30) hx hb hts in_M hown hK hP 0 rfl rfl 28 (by decide) (hts (.fieldLink R_M 68 R_M "away" "[I") (tm 340 rfl)) (fun _ h9 => h9) rfl d_M_measure_99 ?_
                          refine lv_iload hx hb d_M_measure_102 (lv_at hl 4 rfl) ?_
                          obtain ⟨hin, hw⟩ := hw
                          refine va_iald hx hb hK hP 20 0 rfl rfl hin d_M_measure_104 ?_
                          refine lv_iconst (v := (-1)) hx hb d_M_measure_105 (by decide) ?_
                          refine lv_icmp_ne (tgt := 157) hx hb d_M_measure_106 (by decide) (fun c_147 => ?_) (fun c_147 => ?_)
                          · have hw := hw.1 c_147
                            exact hE_142 y5_142 y6_142 _ _ _ hw hP hD hS (lv_sub hl [0, 1, 2, 3, 4, 5] rfl)
                          · have hw := hw.2 c_147
                            refine lv_iload_n hx hb d_M_measure_109 rfl (lv_at hl 3 rfl) ?_
                            refine lv_iconst (v := 1) hx hb d_M_measure_110 (by decide) ?_
                            refine lv_icmp_le (tgt := 157) hx hb d_M_measure_111 (by decide) (fun c_148 => ?_) (fun c_148 => ?_)
                            · have hw := hw.1 c_148
                              exact hE_142 y5_142 y6_142 _ _ _ hw hP hD hS (lv_sub hl [0, 1, 2, 3, 4, 5] rfl)
                            · have hw := hw.2 c_148
                              refine lv_aload_n hx hb d_M_measure_114 rfl (lv_at hl 0 rfl) ?_
                              refine va_get (D := (dC, dI)) (ci := 6) (v := .ref (a 19)) (C := R_M) (T := F_M) (N := 30) hx hb hts in_M hown hK hP 0 rfl rfl 27 (by decide) (hts (.fieldLink R_M 65 R_M "leads" "[Z") (tm 423 rfl)) (fun _ h9 => h9) rfl d_M_measure_115 ?_
                              refine lv_sipush (v := 160) hx hb d_M_measure_118 (by decide) ?_
                              refine lv_iload hx hb d_M_measure_121 (lv_at hl 4 rfl) ?_
                              refine lv_imul hx hb d_M_measure_123 ?_
                              refine lv_iload hx hb d_M_measure_124 (lv_at hl 6 rfl) ?_
                              refine lv_iadd hx hb d_M_measure_126 ?_
                              obtain ⟨hin, hw⟩ := hw
                              refine va_zald hx hb hK hP 19 1 rfl rfl hin d_M_measure_127 ?_
                              refine lv_if_eq (tgt := 148) hx hb d_M_measure_128 (by decide) (fun c_149 => ?_) (fun c_149 => ?_)
                              · have hw := hw.1 c_149
                                refine lv_iconst (v := 0) hx hb d_M_measure_148 (by decide) ?_
                                refine lv_istore (lv' := [(5, .int 0), (0, .ref (a 0)), (1, .int x1), (2, .int y2_139), (3, .int y3_137), (4, .int y4_139), (6, .int y6_142)]) hx hb d_M_measure_149 hl (by decide) rfl (fun ls hl => ?_)
                                refine lv_iinc (v := y6_142 + 1) (lv' := [(6, .int (y6_142 + 1)), (5, .int 0), (0, .ref (a 0)), (1, .int x1), (2, .int y2_139), (3, .int y3_137), (4, .int y4_139)]) hx hb d_M_measure_151 hl (k := 6) rfl rfl (by decide) rfl (fun ls hl => ?_)
                                refine lv_goto (tgt := 85) hx hb d_M_measure_154 (by decide) ?_
                                exact ih_142 0 (y6_142 + 1) _ _ _ hw hP hD hS (lv_sub hl [2, 3, 4, 5, 6, 1, 0] rfl)
                              · have hw := hw.2 c_149
                                refine lv_aload_n hx hb d_M_measure_131 rfl (lv_at hl 0 rfl) ?_
                                refine va_get (D := (dC, dI)) (ci := 6) (v := .ref (a 20)) (C := R_M) (T := F_M) (N := 30) hx hb hts in_M hown hK hP 0 rfl rfl 28 (by decide) (hts (.fieldLink R_M 68 R_M "away" "[I") (tm 340 rfl)) (fun _ h9 => h9) rfl d_M_measure_132 ?_
                                refine lv_iload hx hb d_M_measure_135 (lv_at hl 6 rfl) ?_
                                obtain ⟨hin, hw⟩ := hw
                                refine va_iald hx hb hK hP 20 0 rfl rfl hin d_M_measure_137 ?_
                                refine lv_iload_n hx hb d_M_measure_138 rfl (lv_at hl 3 rfl) ?_
                                refine lv_iconst (v := 1) hx hb d_M_measure_139 (by decide) ?_
                                refine lv_isub hx hb d_M_measure_140 ?_
                                refine lv_icmp_ne (tgt := 148) hx hb d_M_measure_141 (by decide) (fun c_150 => ?_) (fun c_150 => ?_)
                                · have hw := hw.1 c_150
                                  refine lv_iconst (v := 0) hx hb d_M_measure_148 (by decide) ?_
                                  refine lv_istore (lv' := [(5, .int 0), (0, .ref (a 0)), (1, .int x1), (2, .int y2_139), (3, .int y3_137), (4, .int y4_139), (6, .int y6_142)]) hx hb d_M_measure_149 hl (by decide) rfl (fun ls hl => ?_)
                                  refine lv_iinc (v := y6_142 + 1) (lv' := [(6, .int (y6_142 + 1)), (5, .int 0), (0, .ref (a 0)), (1, .int x1), (2, .int y2_139), (3, .int y3_137), (4, .int y4_139)]) hx hb d_M_measure_151 hl (k := 6) rfl rfl (by decide) rfl (fun ls hl => ?_)
                                  refine lv_goto (tgt := 85) hx hb d_M_measure_154 (by decide) ?_
                                  exact ih_142 0 (y6_142 + 1) _ _ _ hw hP hD hS (lv_sub hl [2, 3, 4, 5, 6, 1, 0] rfl)
                                · have hw := hw.2 c_150
                                  refine lv_iconst (v := 1) hx hb d_M_measure_144 (by decide) ?_
                                  refine lv_goto (tgt := 149) hx hb d_M_measure_145 (by decide) ?_
                                  refine lv_istore (lv' := [(5, .int 1), (0, .ref (a 0)), (1, .int x1), (2, .int y2_139), (3, .int y3_137), (4, .int y4_139), (6, .int y6_142)]) hx hb d_M_measure_149 hl (by decide) rfl (fun ls hl => ?_)
                                  refine lv_iinc (v := y6_142 + 1) (lv' := [(6, .int (y6_142 + 1)), (5, .int 1), (0, .ref (a 0)), (1, .int x1), (2, .int y2_139), (3, .int y3_137), (4, .int y4_139)]) hx hb d_M_measure_151 hl (k := 6) rfl rfl (by decide) rfl (fun ls hl => ?_)
                                  refine lv_goto (tgt := 85) hx hb d_M_measure_154 (by decide) ?_
                                  exact ih_142 1 (y6_142 + 1) _ _ _ hw hP hD hS (lv_sub hl [2, 3, 4, 5, 6, 1, 0] rfl)
                  exact lp_142 k_142 0 0 _ _ _ hw hP hD hS (lv_sub hl [2, 3, 4, 5, 6, 1, 0] rfl)
                · have hw := hw.2 c_141
                  refine lv_iload_n hx hb d_M_measure_54 rfl (lv_at hl 3 rfl) ?_
                  refine lv_iconst (v := 1) hx hb d_M_measure_55 (by decide) ?_
                  refine lv_icmp_ne (tgt := 79) hx hb d_M_measure_56 (by decide) (fun c_151 => ?_) (fun c_151 => ?_)
                  · have hw := hw.1 c_151
                    refine lv_iconst (v := 0) hx hb d_M_measure_79 (by decide) ?_
                    refine lv_istore (lv' := [(5, .int 0), (0, .ref (a 0)), (1, .int x1), (2, .int y2_139), (3, .int y3_137), (4, .int y4_139)]) hx hb d_M_measure_80 hl (by decide) rfl (fun ls hl => ?_)
                    refine lv_iconst (v := 0) hx hb d_M_measure_82 (by decide) ?_
                    refine lv_istore (lv' := [(6, .int 0), (5, .int 0), (0, .ref (a 0)), (1, .int x1), (2, .int y2_139), (3, .int y3_137), (4, .int y4_139)]) hx hb d_M_measure_83 hl (by decide) rfl (fun ls hl => ?_)
                    obtain ⟨k_152, hw⟩ := hw
                    have hE_152 : ∀ (y5_152 : Int32) (y6_152 : Int32) (H : Heap) (locs : List Loc) (ls : Array Slot), we_M_measure_157 σ_139 x1 y2_139 y3_137 y4_139 y5_152 (wl_M_measure_35 x1 y3_137 (fun σ' y2 y4 => we_M_measure_178 σ' x1 y2 y3_137 (wl_M_measure_26 x1 (fun σ' y2 y3 => we_M_measure_184 σ' post) post kf_137) (fun σ' y2 y3 => we_M_measure_184 σ' post) post) post kf_139) (fun σ' y2 y4 => we_M_measure_178 σ' x1 y2 y3_137 (wl_M_measure_26 x1 (fun σ' y2 y3 => we_M_measure_184 σ' post) post kf_137) (fun σ' y2 y3 => we_M_measure_184 σ' post) post) post → va_P (dC, dI) clsT (wM cI cZ a σ_139) H → va_D A (wM cI cZ a σ_139) → va_S A s.heap H locs → lv_has ls 7 [(0, .ref (a 0)), (1, .int x1), (2, .int y2_139), (3, .int y3_137), (4, .int y4_139), (5, .int y5_152)] → W p l e { frames := 0, cells := 0, slots := 0, locals := 0 } s m ([.ref (a 0), .int x1] : List Value).toArray below meth c H locs 0 0 (MQ below (va_Qv post (bW (dC, dI) clsT (tyT cI cZ) (wM cI cZ a) A) A) ([.ref (a 0), .int x1] : List Value).toArray s 0 0 A) (F0 m 157 ls []) := by
                      intro y5_152 y6_152 H locs ls hw hP hD hS hl
                      rw [we_M_measure_157] at hw
                      refine lv_iload hx hb d_M_measure_157 (lv_at hl 5 rfl) ?_
                      refine lv_if_eq (tgt := 172) hx hb d_M_measure_159 (by decide) (fun c_153 => ?_) (fun c_153 => ?_)
                      · have hw := hw.1 c_153
                        refine lv_iinc (v := y4_139 + 1) (lv' := [(4, .int (y4_139 + 1)), (0, .ref (a 0)), (1, .int x1), (2, .int y2_139), (3, .int y3_137), (5, .int y5_152)]) hx hb d_M_measure_172 hl (k := 4) rfl rfl (by decide) rfl (fun ls hl => ?_)
                        refine lv_goto (tgt := 35) hx hb d_M_measure_175 (by decide) ?_
                        exact ih_139 σ_139 y2_139 (y4_139 + 1) _ _ _ hw hP hD hS (lv_sub hl [1, 2, 3, 4, 0] rfl)
                      · have hw := hw.2 c_153
                        refine lv_aload_n hx hb d_M_measure_162 rfl (lv_at hl 0 rfl) ?_
                        refine va_get (D := (dC, dI)) (ci := 6) (v := .ref (a 20)) (C := R_M) (T := F_M) (N := 30) hx hb hts in_M hown hK hP 0 rfl rfl 28 (by decide) (hts (.fieldLink R_M 68 R_M "away" "[I") (tm 340 rfl)) (fun _ h9 => h9) rfl d_M_measure_163 ?_
                        refine lv_iload hx hb d_M_measure_166 (lv_at hl 4 rfl) ?_
                        refine lv_iload_n hx hb d_M_measure_168 rfl (lv_at hl 3 rfl) ?_
                        obtain ⟨hin, hw⟩ := hw
                        refine st_i (w := wM cI cZ a) hx hb hK hP hD hS 20 0 rfl rfl rfl hin d_M_measure_169 (fun s_154 e_154 H locs hP hD hS => ?_)
                        have hw := hw s_154 e_154
                        refine lv_iconst (v := 1) hx hb d_M_measure_170 (by decide) ?_
                        refine lv_istore_n (lv' := [(2, .int 1), (0, .ref (a 0)), (1, .int x1), (3, .int y3_137), (4, .int y4_139), (5, .int y5_152)]) hx hb d_M_measure_171 rfl hl (by decide) rfl (fun ls hl => ?_)
                        refine lv_iinc (v := y4_139 + 1) (lv' := [(4, .int (y4_139 + 1)), (2, .int 1), (0, .ref (a 0)), (1, .int x1), (3, .int y3_137), (5, .int y5_152)]) hx hb d_M_measure_172 hl (k := 4) rfl rfl (by decide) rfl (fun ls hl => ?_)
                        refine lv_goto (tgt := 35) hx hb d_M_measure_175 (by decide) ?_
                        exact ih_139 s_154 1 (y4_139 + 1) _ _ _ hw hP hD hS (lv_sub hl [2, 3, 1, 4, 0] rfl)
                    have lp_152 : ∀ (kf_152 : Nat) (y5_152 : Int32) (y6_152 : Int32) (H : Heap) (locs : List Loc) (ls : Array Slot), wl_M_measure_85 σ_139 x1 y2_139 y3_137 y4_139 (fun y5 y6 => we_M_measure_157 σ_139 x1 y2_139 y3_137 y4_139 y5 (wl_M_measure_35 x1 y3_137 (fun σ' y2 y4 => we_M_measure_178 σ' x1 y2 y3_137 (wl_M_measure_26 x1 (fun σ' y2 y3 => we_M_measure_184 σ' post) post kf_137) (fun σ' y2 y3 => we_M_measure_184 σ' post) post) post kf_139) (fun σ' y2 y4 => we_M_measure_178 σ' x1 y2 y3_137 (wl_M_measure_26 x1 (fun σ' y2 y3 => we_M_measure_184 σ' post) post kf_137) (fun σ' y2 y3 => we_M_measure_184 σ' post) post) post) post kf_152 y5_152 y6_152 → va_P (dC, dI) clsT (wM cI cZ a σ_139) H → va_D A (wM cI cZ a σ_139) → va_S A s.heap H locs → lv_has ls 7 [(0, .ref (a 0)), (1, .int x1), (2, .int y2_139), (3, .int y3_137), (4, .int y4_139), (5, .int y5_152), (6, .int y6_152)] → W p l e { frames := 0, cells := 0, slots := 0, locals := 0 } s m ([.ref (a 0), .int x1] : List Value).toArray below meth c H locs 0 0 (MQ below (va_Qv post (bW (dC, dI) clsT (tyT cI cZ) (wM cI cZ a) A) A) ([.ref (a 0), .int x1] : List Value).toArray s 0 0 A) (F0 m 85 ls []) := by
                      intro kf_152
                      induction kf_152 with
                      | zero => intro y5_152 y6_152 H locs ls hw; rw [wl_M_measure_85] at hw; exact hw.elim
                      | succ kf_152 ih_152 =>
                        intro y5_152 y6_152 H locs ls hw hP hD hS hl
                        rw [wl_M_measure_85] at hw
                        refine lv_iload hx hb d_M_measure_85 (lv_at hl 6 rfl) ?_
                        refine lv_sipush (v := 160) hx hb d_M_measure_87 (by decide) ?_
                        refine lv_icmp_ge (tgt := 157) hx hb d_M_measure_90 (by decide) (fun c_155 => ?_) (fun c_155 => ?_)
                        · have hw := hw.1 c_155
                          exact hE_152 y5_152 y6_152 _ _ _ hw hP hD hS (lv_sub hl [0, 1, 2, 3, 4, 5] rfl)
                        · have hw := hw.2 c_155
                          refine lv_iload hx hb d_M_measure_93 (lv_at hl 5 rfl) ?_
                          refine lv_if_ne (tgt := 157) hx hb d_M_measure_95 (by decide) (fun c_156 => ?_) (fun c_156 => ?_)
                          · have hw := hw.1 c_156
                            exact hE_152 y5_152 y6_152 _ _ _ hw hP hD hS (lv_sub hl [0, 1, 2, 3, 4, 5] rfl)
                          · have hw := hw.2 c_156
                            refine lv_aload_n hx hb d_M_measure_98 rfl (lv_at hl 0 rfl) ?_
                            refine va_get (D := (dC, dI)) (ci := 6) (v := .ref (a 20)) (C := R_M) (T := F_M) (N := 30) hx hb hts in_M hown hK hP 0 rfl rfl 28 (by decide) (hts (.fieldLink R_M 68 R_M "away" "[I") (tm 340 rfl)) (fun _ h9 => h9) rfl d_M_measure_99 ?_
                            refine lv_iload hx hb d_M_measure_102 (lv_at hl 4 rfl) ?_
                            obtain ⟨hin, hw⟩ := hw
                            refine va_iald hx hb hK hP 20 0 rfl rfl hin d_M_measure_104 ?_
                            refine lv_iconst (v := (-1)) hx hb d_M_measure_105 (by decide) ?_
                            refine lv_icmp_ne (tgt := 157) hx hb d_M_measure_106 (by decide) (fun c_157 => ?_) (fun c_157 => ?_)
                            · have hw := hw.1 c_157
                              exact hE_152 y5_152 y6_152 _ _ _ hw hP hD hS (lv_sub hl [0, 1, 2, 3, 4, 5] rfl)
                            · have hw := hw.2 c_157
                              refine lv_iload_n hx hb d_M_measure_109 rfl (lv_at hl 3 rfl) ?_
                              refine lv_iconst (v := 1) hx hb d_M_measure_110 (by decide) ?_
                              refine lv_icmp_le (tgt := 157) hx hb d_M_measure_111 (by decide) (fun c_158 => ?_) (fun c_158 => ?_)
                              · have hw := hw.1 c_158
                                exact hE_152 y5_152 y6_152 _ _ _ hw hP hD hS (lv_sub hl [0, 1, 2, 3, 4, 5] rfl)
                              · have hw := hw.2 c_158
                                refine lv_aload_n hx hb d_M_measure_114 rfl (lv_at hl 0 rfl) ?_
                                refine va_get (D := (dC, dI)) (ci := 6) (v := .ref (a 19)) (C := R_M) (T := F_M) (N := 30) hx hb hts in_M hown hK hP 0 rfl rfl 27 (by decide) (hts (.fieldLink R_M 65 R_M "leads" "[Z") (tm 423 rfl)) (fun _ h9 => h9) rfl d_M_measure_115 ?_
                                refine lv_sipush (v := 160) hx hb d_M_measure_118 (by decide) ?_
                                refine lv_iload hx hb d_M_measure_121 (lv_at hl 4 rfl) ?_
                                refine lv_imul hx hb d_M_measure_123 ?_
                                refine lv_iload hx hb d_M_measure_124 (lv_at hl 6 rfl) ?_
                                refine lv_iadd hx hb d_M_measure_126 ?_
                                obtain ⟨hin, hw⟩ := hw
                                refine va_zald hx hb hK hP 19 1 rfl rfl hin d_M_measure_127 ?_
                                refine lv_if_eq (tgt := 148) hx hb d_M_measure_128 (by decide) (fun c_159 => ?_) (fun c_159 => ?_)
                                · have hw := hw.1 c_159
                                  refine lv_iconst (v := 0) hx hb d_M_measure_148 (by decide) ?_
                                  refine lv_istore (lv' := [(5, .int 0), (0, .ref (a 0)), (1, .int x1), (2, .int y2_139), (3, .int y3_137), (4, .int y4_139), (6, .int y6_152)]) hx hb d_M_measure_149 hl (by decide) rfl (fun ls hl => ?_)
                                  refine lv_iinc (v := y6_152 + 1) (lv' := [(6, .int (y6_152 + 1)), (5, .int 0), (0, .ref (a 0)), (1, .int x1), (2, .int y2_139), (3, .int y3_137), (4, .int y4_139)]) hx hb d_M_measure_151 hl (k := 6) rfl rfl (by decide) rfl (fun ls hl => ?_)
                                  refine lv_goto (tgt := 85) hx hb d_M_measure_154 (by decide) ?_
                                  exact ih_152 0 (y6_152 + 1) _ _ _ hw hP hD hS (lv_sub hl [2, 3, 4, 5, 6, 1, 0] rfl)
                                · have hw := hw.2 c_159
                                  refine lv_aload_n hx hb d_M_measure_131 rfl (lv_at hl 0 rfl) ?_
                                  refine va_get (D := (dC, dI)) (ci := 6) (v := .ref (a 20)) (C := R_M) (T := F_M) (N := 30) hx hb hts in_M hown hK hP 0 rfl rfl 28 (by decide) (hts (.fieldLink R_M 68 R_M "away" "[I") (tm 340 rfl)) (fun _ h9 => h9) rfl d_M_measure_132 ?_
                                  refine lv_iload hx hb d_M_measure_135 (lv_at hl 6 rfl) ?_
                                  obtain ⟨hin, hw⟩ := hw
                                  refine va_iald hx hb hK hP 20 0 rfl rfl hin d_M_measure_137 ?_
                                  refine lv_iload_n hx hb d_M_measure_138 rfl (lv_at hl 3 rfl) ?_
                                  refine lv_iconst (v := 1) hx hb d_M_measure_139 (by decide) ?_
                                  refine lv_isub hx hb d_M_measure_140 ?_
                                  refine lv_icmp_ne (tgt := 148) hx hb d_M_measure_141 (by decide) (fun c_160 => ?_) (fun c_160 => ?_)
                                  · have hw := hw.1 c_160
                                    refine lv_iconst (v := 0) hx hb d_M_measure_148 (by decide) ?_
                                    refine lv_istore (lv' := [(5, .int 0), (0, .ref (a 0)), (1, .int x1), (2, .int y2_139), (3, .int y3_137), (4, .int y4_139), (6, .int y6_152)]) hx hb d_M_measure_149 hl (by decide) rfl (fun ls hl => ?_)
                                    refine lv_iinc (v := y6_152 + 1) (lv' := [(6, .int (y6_152 + 1)), (5, .int 0), (0, .ref (a 0)), (1, .int x1), (2, .int y2_139), (3, .int y3_137), (4, .int y4_139)]) hx hb d_M_measure_151 hl (k := 6) rfl rfl (by decide) rfl (fun ls hl => ?_)
                                    refine lv_goto (tgt := 85) hx hb d_M_measure_154 (by decide) ?_
                                    exact ih_152 0 (y6_152 + 1) _ _ _ hw hP hD hS (lv_sub hl [2, 3, 4, 5, 6, 1, 0] rfl)
                                  · have hw := hw.2 c_160
                                    refine lv_iconst (v := 1) hx hb d_M_measure_144 (by decide) ?_
                                    refine lv_goto (tgt := 149) hx hb d_M_measure_145 (by decide) ?_
                                    refine lv_istore (lv' := [(5, .int 1), (0, .ref (a 0)), (1, .int x1), (2, .int y2_139), (3, .int y3_137), (4, .int y4_139), (6, .int y6_152)]) hx hb d_M_measure_149 hl (by decide) rfl (fun ls hl => ?_)
                                    refine lv_iinc (v := y6_152 + 1) (lv' := [(6, .int (y6_152 + 1)), (5, .int 1), (0, .ref (a 0)), (1, .int x1), (2, .int y2_139), (3, .int y3_137), (4, .int y4_139)]) hx hb d_M_measure_151 hl (k := 6) rfl rfl (by decide) rfl (fun ls hl => ?_)
                                    refine lv_goto (tgt := 85) hx hb d_M_measure_154 (by decide) ?_
                                    exact ih_152 1 (y6_152 + 1) _ _ _ hw hP hD hS (lv_sub hl [2, 3, 4, 5, 6, 1, 0] rfl)
                    exact lp_152 k_152 0 0 _ _ _ hw hP hD hS (lv_sub hl [2, 3, 4, 5, 6, 1, 0] rfl)
                  · have hw := hw.2 c_151
                    refine lv_aload_n hx hb d_M_measure_59 rfl (lv_at hl 0 rfl) ?_
                    refine va_get (D := (dC, dI)) (ci := 6) (v := .ref (a 19)) (C := R_M) (T := F_M) (N := 30) hx hb hts in_M hown hK hP 0 rfl rfl 27 (by decide) (hts (.fieldLink R_M 65 R_M "leads" "[Z") (tm 423 rfl)) (fun _ h9 => h9) rfl d_M_measure_60 ?_
                    refine lv_sipush (v := 160) hx hb d_M_measure_63 (by decide) ?_
                    refine lv_iload hx hb d_M_measure_66 (lv_at hl 4 rfl) ?_
                    refine lv_imul hx hb d_M_measure_68 ?_
                    refine lv_iload_n hx hb d_M_measure_69 rfl (lv_at hl 1 rfl) ?_
                    refine lv_iadd hx hb d_M_measure_70 ?_
                    obtain ⟨hin, hw⟩ := hw
                    refine va_zald hx hb hK hP 19 1 rfl rfl hin d_M_measure_71 ?_
                    refine lv_if_eq (tgt := 79) hx hb d_M_measure_72 (by decide) (fun c_161 => ?_) (fun c_161 => ?_)
                    · have hw := hw.1 c_161
                      refine lv_iconst (v := 0) hx hb d_M_measure_79 (by decide) ?_
                      refine lv_istore (lv' := [(5, .int 0), (0, .ref (a 0)), (1, .int x1), (2, .int y2_139), (3, .int y3_137), (4, .int y4_139)]) hx hb d_M_measure_80 hl (by decide) rfl (fun ls hl => ?_)
                      refine lv_iconst (v := 0) hx hb d_M_measure_82 (by decide) ?_
                      refine lv_istore (lv' := [(6, .int 0), (5, .int 0), (0, .ref (a 0)), (1, .int x1), (2, .int y2_139), (3, .int y3_137), (4, .int y4_139)]) hx hb d_M_measure_83 hl (by decide) rfl (fun ls hl => ?_)
                      obtain ⟨k_162, hw⟩ := hw
                      have hE_162 : ∀ (y5_162 : Int32) (y6_162 : Int32) (H : Heap) (locs : List Loc) (ls : Array Slot), we_M_measure_157 σ_139 x1 y2_139 y3_137 y4_139 y5_162 (wl_M_measure_35 x1 y3_137 (fun σ' y2 y4 => we_M_measure_178 σ' x1 y2 y3_137 (wl_M_measure_26 x1 (fun σ' y2 y3 => we_M_measure_184 σ' post) post kf_137) (fun σ' y2 y3 => we_M_measure_184 σ' post) post) post kf_139) (fun σ' y2 y4 => we_M_measure_178 σ' x1 y2 y3_137 (wl_M_measure_26 x1 (fun σ' y2 y3 => we_M_measure_184 σ' post) post kf_137) (fun σ' y2 y3 => we_M_measure_184 σ' post) post) post → va_P (dC, dI) clsT (wM cI cZ a σ_139) H → va_D A (wM cI cZ a σ_139) → va_S A s.heap H locs → lv_has ls 7 [(0, .ref (a 0)), (1, .int x1), (2, .int y2_139), (3, .int y3_137), (4, .int y4_139), (5, .int y5_162)] → W p l e { frames := 0, cells := 0, slots := 0, locals := 0 } s m ([.ref (a 0), .int x1] : List Value).toArray below meth c H locs 0 0 (MQ below (va_Qv post (bW (dC, dI) clsT (tyT cI cZ) (wM cI cZ a) A) A) ([.ref (a 0), .int x1] : List Value).toArray s 0 0 A) (F0 m 157 ls []) := by
                        intro y5_162 y6_162 H locs ls hw hP hD hS hl
                        rw [we_M_measure_157] at hw
                        refine lv_iload hx hb d_M_measure_157 (lv_at hl 5 rfl) ?_
                        refine lv_if_eq (tgt := 172) hx hb d_M_measure_159 (by decide) (fun c_163 => ?_) (fun c_163 => ?_)
                        · have hw := hw.1 c_163
                          refine lv_iinc (v := y4_139 + 1) (lv' := [(4, .int (y4_139 + 1)), (0, .ref (a 0)), (1, .int x1), (2, .int y2_139), (3, .int y3_137), (5, .int y5_162)]) hx hb d_M_measure_172 hl (k := 4) rfl rfl (by decide) rfl (fun ls hl => ?_)
                          refine lv_goto (tgt := 35) hx hb d_M_measure_175 (by decide) ?_
                          exact ih_139 σ_139 y2_139 (y4_139 + 1) _ _ _ hw hP hD hS (lv_sub hl [1, 2, 3, 4, 0] rfl)
                        · have hw := hw.2 c_163
                          refine lv_aload_n hx hb d_M_measure_162 rfl (lv_at hl 0 rfl) ?_
                          refine va_get (D := (dC, dI)) (ci := 6) (v := .ref (a 20)) (C := R_M) (T := F_M) (N := 30) hx hb hts in_M hown hK hP 0 rfl rfl 28 (by decide) (hts (.fieldLink R_M 68 R_M "away" "[I") (tm 340 rfl)) (fun _ h9 => h9) rfl d_M_measure_163 ?_
                          refine lv_iload hx hb d_M_measure_166 (lv_at hl 4 rfl) ?_
                          refine lv_iload_n hx hb d_M_measure_168 rfl (lv_at hl 3 rfl) ?_
                          obtain ⟨hin, hw⟩ := hw
                          refine st_i (w := wM cI cZ a) hx hb hK hP hD hS 20 0 rfl rfl rfl hin d_M_measure_169 (fun s_164 e_164 H locs hP hD hS => ?_)
                          have hw := hw s_164 e_164
                          refine lv_iconst (v := 1) hx hb d_M_measure_170 (by decide) ?_
                          refine lv_istore_n (lv' := [(2, .int 1), (0, .ref (a 0)), (1, .int x1), (3, .int y3_137), (4, .int y4_139), (5, .int y5_162)]) hx hb d_M_measure_171 rfl hl (by decide) rfl (fun ls hl => ?_)
                          refine lv_iinc (v := y4_139 + 1) (lv' := [(4, .int (y4_139 + 1)), (2, .int 1), (0, .ref (a 0)), (1, .int x1), (3, .int y3_137), (5, .int y5_162)]) hx hb d_M_measure_172 hl (k := 4) rfl rfl (by decide) rfl (fun ls hl => ?_)
                          refine lv_goto (tgt := 35) hx hb d_M_measure_175 (by decide) ?_
                          exact ih_139 s_164 1 (y4_139 + 1) _ _ _ hw hP hD hS (lv_sub hl [2, 3, 1, 4, 0] rfl)
                      have lp_162 : ∀ (kf_162 : Nat) (y5_162 : Int32) (y6_162 : Int32) (H : Heap) (locs : List Loc) (ls : Array Slot), wl_M_measure_85 σ_139 x1 y2_139 y3_137 y4_139 (fun y5 y6 => we_M_measure_157 σ_139 x1 y2_139 y3_137 y4_139 y5 (wl_M_measure_35 x1 y3_137 (fun σ' y2 y4 => we_M_measure_178 σ' x1 y2 y3_137 (wl_M_measure_26 x1 (fun σ' y2 y3 => we_M_measure_184 σ' post) post kf_137) (fun σ' y2 y3 => we_M_measure_184 σ' post) post) post kf_139) (fun σ' y2 y4 => we_M_measure_178 σ' x1 y2 y3_137 (wl_M_measure_26 x1 (fun σ' y2 y3 => we_M_measure_184 σ' post) post kf_137) (fun σ' y2 y3 => we_M_measure_184 σ' post) post) post) post kf_162 y5_162 y6_162 → va_P (dC, dI) clsT (wM cI cZ a σ_139) H → va_D A (wM cI cZ a σ_139) → va_S A s.heap H locs → lv_has ls 7 [(0, .ref (a 0)), (1, .int x1), (2, .int y2_139), (3, .int y3_137), (4, .int y4_139), (5, .int y5_162), (6, .int y6_162)] → W p l e { frames := 0, cells := 0, slots := 0, locals := 0 } s m ([.ref (a 0), .int x1] : List Value).toArray below meth c H locs 0 0 (MQ below (va_Qv post (bW (dC, dI) clsT (tyT cI cZ) (wM cI cZ a) A) A) ([.ref (a 0), .int x1] : List Value).toArray s 0 0 A) (F0 m 85 ls []) := by
                        intro kf_162
                        induction kf_162 with
                        | zero => intro y5_162 y6_162 H locs ls hw; rw [wl_M_measure_85] at hw; exact hw.elim
                        | succ kf_162 ih_162 =>
                          intro y5_162 y6_162 H locs ls hw hP hD hS hl
                          rw [wl_M_measure_85] at hw
                          refine lv_iload hx hb d_M_measure_85 (lv_at hl 6 rfl) ?_
                          refine lv_sipush (v := 160) hx hb d_M_measure_87 (by decide) ?_
                          refine lv_icmp_ge (tgt := 157) hx hb d_M_measure_90 (by decide) (fun c_165 => ?_) (fun c_165 => ?_)
                          · have hw := hw.1 c_165
                            exact hE_162 y5_162 y6_162 _ _ _ hw hP hD hS (lv_sub hl [0, 1, 2, 3, 4, 5] rfl)
                          · have hw := hw.2 c_165
                            refine lv_iload hx hb d_M_measure_93 (lv_at hl 5 rfl) ?_
                            refine lv_if_ne (tgt := 157) hx hb d_M_measure_95 (by decide) (fun c_166 => ?_) (fun c_166 => ?_)
                            · have hw := hw.1 c_166
                              exact hE_162 y5_162 y6_162 _ _ _ hw hP hD hS (lv_sub hl [0, 1, 2, 3, 4, 5] rfl)
                            · have hw := hw.2 c_166
                              refine lv_aload_n hx hb d_M_measure_98 rfl (lv_at hl 0 rfl) ?_
                              refine va_get (D := (dC, dI)) (ci := 6) (v := .ref (a 20)) (C := R_M) (T := F_M) (N := 30) hx hb hts in_M hown hK hP 0 rfl rfl 28 (by decide) (hts (.fieldLink R_M 68 R_M "away" "[I") (tm 340 rfl)) (fun _ h9 => h9) rfl d_M_measure_99 ?_
                              refine lv_iload hx hb d_M_measure_102 (lv_at hl 4 rfl) ?_
                              obtain ⟨hin, hw⟩ := hw
                              refine va_iald hx hb hK hP 20 0 rfl rfl hin d_M_measure_104 ?_
                              refine lv_iconst (v := (-1)) hx hb d_M_measure_105 (by decide) ?_
                              refine lv_icmp_ne (tgt := 157) hx hb d_M_measure_106 (by decide) (fun c_167 => ?_) (fun c_167 => ?_)
                              · have hw := hw.1 c_167
                                exact hE_162 y5_162 y6_162 _ _ _ hw hP hD hS (lv_sub hl [0, 1, 2, 3, 4, 5] rfl)
                              · have hw := hw.2 c_167
                                refine lv_iload_n hx hb d_M_measure_109 rfl (lv_at hl 3 rfl) ?_
                                refine lv_iconst (v := 1) hx hb d_M_measure_110 (by decide) ?_
                                refine lv_icmp_le (tgt := 157) hx hb d_M_measure_111 (by decide) (fun c_168 => ?_) (fun c_168 => ?_)
                                · have hw := hw.1 c_168
                                  exact hE_162 y5_162 y6_162 _ _ _ hw hP hD hS (lv_sub hl [0, 1, 2, 3, 4, 5] rfl)
                                · have hw := hw.2 c_168
                                  refine lv_aload_n hx hb d_M_measure_114 rfl (lv_at hl 0 rfl) ?_
                                  refine va_get (D := (dC, dI)) (ci := 6) (v := .ref (a 19)) (C := R_M) (T := F_M) (N := 30) hx hb hts in_M hown hK hP 0 rfl rfl 27 (by decide) (hts (.fieldLink R_M 65 R_M "leads" "[Z") (tm 423 rfl)) (fun _ h9 => h9) rfl d_M_measure_115 ?_
                                  refine lv_sipush (v := 160) hx hb d_M_measure_118 (by decide) ?_
                                  refine lv_iload hx hb d_M_measure_121 (lv_at hl 4 rfl) ?_
                                  refine lv_imul hx hb d_M_measure_123 ?_
                                  refine lv_iload hx hb d_M_measure_124 (lv_at hl 6 rfl) ?_
                                  refine lv_iadd hx hb d_M_measure_126 ?_
                                  obtain ⟨hin, hw⟩ := hw
                                  refine va_zald hx hb hK hP 19 1 rfl rfl hin d_M_measure_127 ?_
                                  refine lv_if_eq (tgt := 148) hx hb d_M_measure_128 (by decide) (fun c_169 => ?_) (fun c_169 => ?_)
                                  · have hw := hw.1 c_169
                                    refine lv_iconst (v := 0) hx hb d_M_measure_148 (by decide) ?_
                                    refine lv_istore (lv' := [(5, .int 0), (0, .ref (a 0)), (1, .int x1), (2, .int y2_139), (3, .int y3_137), (4, .int y4_139), (6, .int y6_162)]) hx hb d_M_measure_149 hl (by decide) rfl (fun ls hl => ?_)
                                    refine lv_iinc (v := y6_162 + 1) (lv' := [(6, .int (y6_162 + 1)), (5, .int 0), (0, .ref (a 0)), (1, .int x1), (2, .int y2_139), (3, .int y3_137), (4, .int y4_139)]) hx hb d_M_measure_151 hl (k := 6) rfl rfl (by decide) rfl (fun ls hl => ?_)
                                    refine lv_goto (tgt := 85) hx hb d_M_measure_154 (by decide) ?_
                                    exact ih_162 0 (y6_162 + 1) _ _ _ hw hP hD hS (lv_sub hl [2, 3, 4, 5, 6, 1, 0] rfl)
                                  · have hw := hw.2 c_169
                                    refine lv_aload_n hx hb d_M_measure_131 rfl (lv_at hl 0 rfl) ?_
                                    refine va_get (D := (dC, dI)) (ci := 6) (v := .ref (a 20)) (C := R_M) (T := F_M) (N := 30) hx hb hts in_M hown hK hP 0 rfl rfl 28 (by decide) (hts (.fieldLink R_M 68 R_M "away" "[I") (tm 340 rfl)) (fun _ h9 => h9) rfl d_M_measure_132 ?_
                                    refine lv_iload hx hb d_M_measure_135 (lv_at hl 6 rfl) ?_
                                    obtain ⟨hin, hw⟩ := hw
                                    refine va_iald hx hb hK hP 20 0 rfl rfl hin d_M_measure_137 ?_
                                    refine lv_iload_n hx hb d_M_measure_138 rfl (lv_at hl 3 rfl) ?_
                                    refine lv_iconst (v := 1) hx hb d_M_measure_139 (by decide) ?_
                                    refine lv_isub hx hb d_M_measure_140 ?_
                                    refine lv_icmp_ne (tgt := 148) hx hb d_M_measure_141 (by decide) (fun c_170 => ?_) (fun c_170 => ?_)
                                    · have hw := hw.1 c_170
                                      refine lv_iconst (v := 0) hx hb d_M_measure_148 (by decide) ?_
                                      refine lv_istore (lv' := [(5, .int 0), (0, .ref (a 0)), (1, .int x1), (2, .int y2_139), (3, .int y3_137), (4, .int y4_139), (6, .int y6_162)]) hx hb d_M_measure_149 hl (by decide) rfl (fun ls hl => ?_)
                                      refine lv_iinc (v := y6_162 + 1) (lv' := [(6, .int (y6_162 + 1)), (5, .int 0), (0, .ref (a 0)), (1, .int x1), (2, .int y2_139), (3, .int y3_137), (4, .int y4_139)]) hx hb d_M_measure_151 hl (k := 6) rfl rfl (by decide) rfl (fun ls hl => ?_)
                                      refine lv_goto (tgt := 85) hx hb d_M_measure_154 (by decide) ?_
                                      exact ih_162 0 (y6_162 + 1) _ _ _ hw hP hD hS (lv_sub hl [2, 3, 4, 5, 6, 1, 0] rfl)
                                    · have hw := hw.2 c_170
                                      refine lv_iconst (v := 1) hx hb d_M_measure_144 (by decide) ?_
                                      refine lv_goto (tgt := 149) hx hb d_M_measure_145 (by decide) ?_
                                      refine lv_istore (lv' := [(5, .int 1), (0, .ref (a 0)), (1, .int x1), (2, .int y2_139), (3, .int y3_137), (4, .int y4_139), (6, .int y6_162)]) hx hb d_M_measure_149 hl (by decide) rfl (fun ls hl => ?_)
                                      refine lv_iinc (v := y6_162 + 1) (lv' := [(6, .int (y6_162 + 1)), (5, .int 1), (0, .ref (a 0)), (1, .int x1), (2, .int y2_139), (3, .int y3_137), (4, .int y4_139)]) hx hb d_M_measure_151 hl (k := 6) rfl rfl (by decide) rfl (fun ls hl => ?_)
                                      refine lv_goto (tgt := 85) hx hb d_M_measure_154 (by decide) ?_
                                      exact ih_162 1 (y6_162 + 1) _ _ _ hw hP hD hS (lv_sub hl [2, 3, 4, 5, 6, 1, 0] rfl)
                      exact lp_162 k_162 0 0 _ _ _ hw hP hD hS (lv_sub hl [2, 3, 4, 5, 6, 1, 0] rfl)
                    · have hw := hw.2 c_161
                      refine lv_iconst (v := 1) hx hb d_M_measure_75 (by decide) ?_
                      refine lv_goto (tgt := 80) hx hb d_M_measure_76 (by decide) ?_
                      refine lv_istore (lv' := [(5, .int 1), (0, .ref (a 0)), (1, .int x1), (2, .int y2_139), (3, .int y3_137), (4, .int y4_139)]) hx hb d_M_measure_80 hl (by decide) rfl (fun ls hl => ?_)
                      refine lv_iconst (v := 0) hx hb d_M_measure_82 (by decide) ?_
                      refine lv_istore (lv' := [(6, .int 0), (5, .int 1), (0, .ref (a 0)), (1, .int x1), (2, .int y2_139), (3, .int y3_137), (4, .int y4_139)]) hx hb d_M_measure_83 hl (by decide) rfl (fun ls hl => ?_)
                      obtain ⟨k_171, hw⟩ := hw
                      have hE_171 : ∀ (y5_171 : Int32) (y6_171 : Int32) (H : Heap) (locs : List Loc) (ls : Array Slot), we_M_measure_157 σ_139 x1 y2_139 y3_137 y4_139 y5_171 (wl_M_measure_35 x1 y3_137 (fun σ' y2 y4 => we_M_measure_178 σ' x1 y2 y3_137 (wl_M_measure_26 x1 (fun σ' y2 y3 => we_M_measure_184 σ' post) post kf_137) (fun σ' y2 y3 => we_M_measure_184 σ' post) post) post kf_139) (fun σ' y2 y4 => we_M_measure_178 σ' x1 y2 y3_137 (wl_M_measure_26 x1 (fun σ' y2 y3 => we_M_measure_184 σ' post) post kf_137) (fun σ' y2 y3 => we_M_measure_184 σ' post) post) post → va_P (dC, dI) clsT (wM cI cZ a σ_139) H → va_D A (wM cI cZ a σ_139) → va_S A s.heap H locs → lv_has ls 7 [(0, .ref (a 0)), (1, .int x1), (2, .int y2_139), (3, .int y3_137), (4, .int y4_139), (5, .int y5_171)] → W p l e { frames := 0, cells := 0, slots := 0, locals := 0 } s m ([.ref (a 0), .int x1] : List Value).toArray below meth c H locs 0 0 (MQ below (va_Qv post (bW (dC, dI) clsT (tyT cI cZ) (wM cI cZ a) A) A) ([.ref (a 0), .int x1] : List Value).toArray s 0 0 A) (F0 m 157 ls []) := by
                        intro y5_171 y6_171 H locs ls hw hP hD hS hl
                        rw [we_M_measure_157] at hw
                        refine lv_iload hx hb d_M_measure_157 (lv_at hl 5 rfl) ?_
                        refine lv_if_eq (tgt := 172) hx hb d_M_measure_159 (by decide) (fun c_172 => ?_) (fun c_172 => ?_)
                        · have hw := hw.1 c_172
                          refine lv_iinc (v := y4_139 + 1) (lv' := [(4, .int (y4_139 + 1)), (0, .ref (a 0)), (1, .int x1), (2, .int y2_139), (3, .int y3_137), (5, .int y5_171)]) hx hb d_M_measure_172 hl (k := 4) rfl rfl (by decide) rfl (fun ls hl => ?_)
                          refine lv_goto (tgt := 35) hx hb d_M_measure_175 (by decide) ?_
                          exact ih_139 σ_139 y2_139 (y4_139 + 1) _ _ _ hw hP hD hS (lv_sub hl [1, 2, 3, 4, 0] rfl)
                        · have hw := hw.2 c_172
                          refine lv_aload_n hx hb d_M_measure_162 rfl (lv_at hl 0 rfl) ?_
                          refine va_get (D := (dC, dI)) (ci := 6) (v := .ref (a 20)) (C := R_M) (T := F_M) (N := 30) hx hb hts in_M hown hK hP 0 rfl rfl 28 (by decide) (hts (.fieldLink R_M 68 R_M "away" "[I") (tm 340 rfl)) (fun _ h9 => h9) rfl d_M_measure_163 ?_
                          refine lv_iload hx hb d_M_measure_166 (lv_at hl 4 rfl) ?_
                          refine lv_iload_n hx hb d_M_measure_168 rfl (lv_at hl 3 rfl) ?_
                          obtain ⟨hin, hw⟩ := hw
                          refine st_i (w := wM cI cZ a) hx hb hK hP hD hS 20 0 rfl rfl rfl hin d_M_measure_169 (fun s_173 e_173 H locs hP hD hS => ?_)
                          have hw := hw s_173 e_173
                          refine lv_iconst (v := 1) hx hb d_M_measure_170 (by decide) ?_
                          refine lv_istore_n (lv' := [(2, .int 1), (0, .ref (a 0)), (1, .int x1), (3, .int y3_137), (4, .int y4_139), (5, .int y5_171)]) hx hb d_M_measure_171 rfl hl (by decide) rfl (fun ls hl => ?_)
                          refine lv_iinc (v := y4_139 + 1) (lv' := [(4, .int (y4_139 + 1)), (2, .int 1), (0, .ref (a 0)), (1, .int x1), (3, .int y3_137), (5, .int y5_171)]) hx hb d_M_measure_172 hl (k := 4) rfl rfl (by decide) rfl (fun ls hl => ?_)
                          refine lv_goto (tgt := 35) hx hb d_M_measure_175 (by decide) ?_
                          exact ih_139 s_173 1 (y4_139 + 1) _ _ _ hw hP hD hS (lv_sub hl [2, 3, 1, 4, 0] rfl)
                      have lp_171 : ∀ (kf_171 : Nat) (y5_171 : Int32) (y6_171 : Int32) (H : Heap) (locs : List Loc) (ls : Array Slot), wl_M_measure_85 σ_139 x1 y2_139 y3_137 y4_139 (fun y5 y6 => we_M_measure_157 σ_139 x1 y2_139 y3_137 y4_139 y5 (wl_M_measure_35 x1 y3_137 (fun σ' y2 y4 => we_M_measure_178 σ' x1 y2 y3_137 (wl_M_measure_26 x1 (fun σ' y2 y3 => we_M_measure_184 σ' post) post kf_137) (fun σ' y2 y3 => we_M_measure_184 σ' post) post) post kf_139) (fun σ' y2 y4 => we_M_measure_178 σ' x1 y2 y3_137 (wl_M_measure_26 x1 (fun σ' y2 y3 => we_M_measure_184 σ' post) post kf_137) (fun σ' y2 y3 => we_M_measure_184 σ' post) post) post) post kf_171 y5_171 y6_171 → va_P (dC, dI) clsT (wM cI cZ a σ_139) H → va_D A (wM cI cZ a σ_139) → va_S A s.heap H locs → lv_has ls 7 [(0, .ref (a 0)), (1, .int x1), (2, .int y2_139), (3, .int y3_137), (4, .int y4_139), (5, .int y5_171), (6, .int y6_171)] → W p l e { frames := 0, cells := 0, slots := 0, locals := 0 } s m ([.ref (a 0), .int x1] : List Value).toArray below meth c H locs 0 0 (MQ below (va_Qv post (bW (dC, dI) clsT (tyT cI cZ) (wM cI cZ a) A) A) ([.ref (a 0), .int x1] : List Value).toArray s 0 0 A) (F0 m 85 ls []) := by
                        intro kf_171
                        induction kf_171 with
                        | zero => intro y5_171 y6_171 H locs ls hw; rw [wl_M_measure_85] at hw; exact hw.elim
                        | succ kf_171 ih_171 =>
                          intro y5_171 y6_171 H locs ls hw hP hD hS hl
                          rw [wl_M_measure_85] at hw
                          refine lv_iload hx hb d_M_measure_85 (lv_at hl 6 rfl) ?_
                          refine lv_sipush (v := 160) hx hb d_M_measure_87 (by decide) ?_
                          refine lv_icmp_ge (tgt := 157) hx hb d_M_measure_90 (by decide) (fun c_174 => ?_) (fun c_174 => ?_)
                          · have hw := hw.1 c_174
                            exact hE_171 y5_171 y6_171 _ _ _ hw hP hD hS (lv_sub hl [0, 1, 2, 3, 4, 5] rfl)
                          · have hw := hw.2 c_174
                            refine lv_iload hx hb d_M_measure_93 (lv_at hl 5 rfl) ?_
                            refine lv_if_ne (tgt := 157) hx hb d_M_measure_95 (by decide) (fun c_175 => ?_) (fun c_175 => ?_)
                            · have hw := hw.1 c_175
                              exact hE_171 y5_171 y6_171 _ _ _ hw hP hD hS (lv_sub hl [0, 1, 2, 3, 4, 5] rfl)
                            · have hw := hw.2 c_175
                              refine lv_aload_n hx hb d_M_measure_98 rfl (lv_at hl 0 rfl) ?_
                              refine va_get (D := (dC, dI)) (ci := 6) (v := .ref (a 20)) (C := R_M) (T := F_M) (N := 30) hx hb hts in_M hown hK hP 0 rfl rfl 28 (by decide) (hts (.fieldLink R_M 68 R_M "away" "[I") (tm 340 rfl)) (fun _ h9 => h9) rfl d_M_measure_99 ?_
                              refine lv_iload hx hb d_M_measure_102 (lv_at hl 4 rfl) ?_
                              obtain ⟨hin, hw⟩ := hw
                              refine va_iald hx hb hK hP 20 0 rfl rfl hin d_M_measure_104 ?_
                              refine lv_iconst (v := (-1)) hx hb d_M_measure_105 (by decide) ?_
                              refine lv_icmp_ne (tgt := 157) hx hb d_M_measure_106 (by decide) (fun c_176 => ?_) (fun c_176 => ?_)
                              · have hw := hw.1 c_176
                                exact hE_171 y5_171 y6_171 _ _ _ hw hP hD hS (lv_sub hl [0, 1, 2, 3, 4, 5] rfl)
                              · have hw := hw.2 c_176
                                refine lv_iload_n hx hb d_M_measure_109 rfl (lv_at hl 3 rfl) ?_
                                refine lv_iconst (v := 1) hx hb d_M_measure_110 (by decide) ?_
                                refine lv_icmp_le (tgt := 157) hx hb d_M_measure_111 (by decide) (fun c_177 => ?_) (fun c_177 => ?_)
                                · have hw := hw.1 c_177
                                  exact hE_171 y5_171 y6_171 _ _ _ hw hP hD hS (lv_sub hl [0, 1, 2, 3, 4, 5] rfl)
                                · have hw := hw.2 c_177
                                  refine lv_aload_n hx hb d_M_measure_114 rfl (lv_at hl 0 rfl) ?_
                                  refine va_get (D := (dC, dI)) (ci := 6) (v := .ref (a 19)) (C := R_M) (T := F_M) (N := 30) hx hb hts in_M hown hK hP 0 rfl rfl 27 (by decide) (hts (.fieldLink R_M 65 R_M "leads" "[Z") (tm 423 rfl)) (fun _ h9 => h9) rfl d_M_measure_115 ?_
                                  refine lv_sipush (v := 160) hx hb d_M_measure_118 (by decide) ?_
                                  refine lv_iload hx hb d_M_measure_121 (lv_at hl 4 rfl) ?_
                                  refine lv_imul hx hb d_M_measure_123 ?_
                                  refine lv_iload hx hb d_M_measure_124 (lv_at hl 6 rfl) ?_
                                  refine lv_iadd hx hb d_M_measure_126 ?_
                                  obtain ⟨hin, hw⟩ := hw
                                  refine va_zald hx hb hK hP 19 1 rfl rfl hin d_M_measure_127 ?_
                                  refine lv_if_eq (tgt := 148) hx hb d_M_measure_128 (by decide) (fun c_178 => ?_) (fun c_178 => ?_)
                                  · have hw := hw.1 c_178
                                    refine lv_iconst (v := 0) hx hb d_M_measure_148 (by decide) ?_
                                    refine lv_istore (lv' := [(5, .int 0), (0, .ref (a 0)), (1, .int x1), (2, .int y2_139), (3, .int y3_137), (4, .int y4_139), (6, .int y6_171)]) hx hb d_M_measure_149 hl (by decide) rfl (fun ls hl => ?_)
                                    refine lv_iinc (v := y6_171 + 1) (lv' := [(6, .int (y6_171 + 1)), (5, .int 0), (0, .ref (a 0)), (1, .int x1), (2, .int y2_139), (3, .int y3_137), (4, .int y4_139)]) hx hb d_M_measure_151 hl (k := 6) rfl rfl (by decide) rfl (fun ls hl => ?_)
                                    refine lv_goto (tgt := 85) hx hb d_M_measure_154 (by decide) ?_
                                    exact ih_171 0 (y6_171 + 1) _ _ _ hw hP hD hS (lv_sub hl [2, 3, 4, 5, 6, 1, 0] rfl)
                                  · have hw := hw.2 c_178
                                    refine lv_aload_n hx hb d_M_measure_131 rfl (lv_at hl 0 rfl) ?_
                                    refine va_get (D := (dC, dI)) (ci := 6) (v := .ref (a 20)) (C := R_M) (T := F_M) (N := 30) hx hb hts in_M hown hK hP 0 rfl rfl 28 (by decide) (hts (.fieldLink R_M 68 R_M "away" "[I") (tm 340 rfl)) (fun _ h9 => h9) rfl d_M_measure_132 ?_
                                    refine lv_iload hx hb d_M_measure_135 (lv_at hl 6 rfl) ?_
                                    obtain ⟨hin, hw⟩ := hw
                                    refine va_iald hx hb hK hP 20 0 rfl rfl hin d_M_measure_137 ?_
                                    refine lv_iload_n hx hb d_M_measure_138 rfl (lv_at hl 3 rfl) ?_
                                    refine lv_iconst (v := 1) hx hb d_M_measure_139 (by decide) ?_
                                    refine lv_isub hx hb d_M_measure_140 ?_
                                    refine lv_icmp_ne (tgt := 148) hx hb d_M_measure_141 (by decide) (fun c_179 => ?_) (fun c_179 => ?_)
                                    · have hw := hw.1 c_179
                                      refine lv_iconst (v := 0) hx hb d_M_measure_148 (by decide) ?_
                                      refine lv_istore (lv' := [(5, .int 0), (0, .ref (a 0)), (1, .int x1), (2, .int y2_139), (3, .int y3_137), (4, .int y4_139), (6, .int y6_171)]) hx hb d_M_measure_149 hl (by decide) rfl (fun ls hl => ?_)
                                      refine lv_iinc (v := y6_171 + 1) (lv' := [(6, .int (y6_171 + 1)), (5, .int 0), (0, .ref (a 0)), (1, .int x1), (2, .int y2_139), (3, .int y3_137), (4, .int y4_139)]) hx hb d_M_measure_151 hl (k := 6) rfl rfl (by decide) rfl (fun ls hl => ?_)
                                      refine lv_goto (tgt := 85) hx hb d_M_measure_154 (by decide) ?_
                                      exact ih_171 0 (y6_171 + 1) _ _ _ hw hP hD hS (lv_sub hl [2, 3, 4, 5, 6, 1, 0] rfl)
                                    · have hw := hw.2 c_179
                                      refine lv_iconst (v := 1) hx hb d_M_measure_144 (by decide) ?_
                                      refine lv_goto (tgt := 149) hx hb d_M_measure_145 (by decide) ?_
                                      refine lv_istore (lv' := [(5, .int 1), (0, .ref (a 0)), (1, .int x1), (2, .int y2_139), (3, .int y3_137), (4, .int y4_139), (6, .int y6_171)]) hx hb d_M_measure_149 hl (by decide) rfl (fun ls hl => ?_)
                                      refine lv_iinc (v := y6_171 + 1) (lv' := [(6, .int (y6_171 + 1)), (5, .int 1), (0, .ref (a 0)), (1, .int x1), (2, .int y2_139), (3, .int y3_137), (4, .int y4_139)]) hx hb d_M_measure_151 hl (k := 6) rfl rfl (by decide) rfl (fun ls hl => ?_)
                                      refine lv_goto (tgt := 85) hx hb d_M_measure_154 (by decide) ?_
                                      exact ih_171 1 (y6_171 + 1) _ _ _ hw hP hD hS (lv_sub hl [2, 3, 4, 5, 6, 1, 0] rfl)
                      exact lp_171 k_171 1 0 _ _ _ hw hP hD hS (lv_sub hl [2, 3, 4, 5, 6, 1, 0] rfl)
          exact lp_139 k_139 σ_137 0 0 _ _ _ hw hP hD hS (lv_sub hl [2, 3, 1, 4, 0] rfl)
    exact lp_137 k_137 σ_136 1 1 _ _ _ hw hP hD hS (lv_sub hl [2, 3, 1, 0] rfl)
  have lp_136 : ∀ (kf_136 : Nat) (σ_136 : SS) (y2_136 : Int32) (H : Heap) (locs : List Loc) (ls : Array Slot), wl_M_measure_2 x1 (fun σ' y2 => we_M_measure_22 σ' x1 post) post kf_136 σ_136 y2_136 → va_P (dC, dI) clsT (wM cI cZ a σ_136) H → va_D A (wM cI cZ a σ_136) → va_S A s.heap H locs → lv_has ls 7 [(0, .ref (a 0)), (1, .int x1), (2, .int y2_136)] → W p l e { frames := 0, cells := 0, slots := 0, locals := 0 } s m ([.ref (a 0), .int x1] : List Value).toArray below meth c H locs 0 0 (MQ below (va_Qv post (bW (dC, dI) clsT (tyT cI cZ) (wM cI cZ a) A) A) ([.ref (a 0), .int x1] : List Value).toArray s 0 0 A) (F0 m 2 ls []) := by
    intro kf_136
    induction kf_136 with
    | zero => intro σ_136 y2_136 H locs ls hw; rw [wl_M_measure_2] at hw; exact hw.elim
    | succ kf_136 ih_136 =>
      intro σ_136 y2_136 H locs ls hw hP hD hS hl
      rw [wl_M_measure_2] at hw
      refine lv_iload_n hx hb d_M_measure_2 rfl (lv_at hl 2 rfl) ?_
      refine lv_sipush (v := 160) hx hb d_M_measure_3 (by decide) ?_
      refine lv_icmp_ge (tgt := 22) hx hb d_M_measure_6 (by decide) (fun c_180 => ?_) (fun c_180 => ?_)
      · have hw := hw.1 c_180
        exact hE_136 σ_136 y2_136 _ _ _ hw hP hD hS (lv_sub hl [0, 1] rfl)
      · have hw := hw.2 c_180
        refine lv_aload_n hx hb d_M_measure_9 rfl (lv_at hl 0 rfl) ?_
        refine va_get (D := (dC, dI)) (ci := 6) (v := .ref (a 20)) (C := R_M) (T := F_M) (N := 30) hx hb hts in_M hown hK hP 0 rfl rfl 28 (by decide) (hts (.fieldLink R_M 68 R_M "away" "[I") (tm 340 rfl)) (fun _ h9 => h9) rfl d_M_measure_10 ?_
        refine lv_iload_n hx hb d_M_measure_13 rfl (lv_at hl 2 rfl) ?_
        refine lv_iconst (v := (-1)) hx hb d_M_measure_14 (by decide) ?_
        obtain ⟨hin, hw⟩ := hw
        refine st_i (w := wM cI cZ a) hx hb hK hP hD hS 20 0 rfl rfl rfl hin d_M_measure_15 (fun s_181 e_181 H locs hP hD hS => ?_)
        have hw := hw s_181 e_181
        refine lv_iinc (v := y2_136 + 1) (lv' := [(2, .int (y2_136 + 1)), (0, .ref (a 0)), (1, .int x1)]) hx hb d_M_measure_16 hl (k := 2) rfl rfl (by decide) rfl (fun ls hl => ?_)
        refine lv_goto (tgt := 2) hx hb d_M_measure_19 (by decide) ?_
        exact ih_136 s_181 (y2_136 + 1) _ _ _ hw hP hD hS (lv_sub hl [1, 2, 0] rfl)
  exact lp_136 k_136 σ 0 _ _ _ hw hP hD hS (lv_sub hl [1, 2, 0] rfl)
