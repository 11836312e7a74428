def R_L : String := "NetRoutesLaw"
def lo (cJ : ClassId) (o : Nat) (f : Nat → Int64) : va_W := [(o, .inl (cJ, 1, .inr (.inl f)))]
def bL (D : va_G) (cI cZ cJ : ClassId) (a : Nat → Nat) (o : Nat) (A : Nat → Prop) : (Nat → Int64) × SS → State → Prop := fun u t => va_P D clsT (lo cJ o u.1 ++ wC cI cZ a u.2) t.heap ∧ va_K D clsT (tyL cI cZ cJ) t ∧ va_D A (lo cJ o u.1 ++ wC cI cZ a u.2)
abbrev b_L_node : ByteArray := method_3_code
def y_L_node : MethodName := ⟨R_L, "node", "(LNetRoutes;[J)I"⟩
theorem d_L_node_0 : decode b_L_node 0 = .ok (.aload_n 1, 1) := by decide +kernel
theorem d_L_node_1 : decode b_L_node 1 = .ok (.iconst 0, 1) := by decide +kernel
theorem d_L_node_2 : decode b_L_node 2 = .ok (.aload_n 0, 1) := by decide +kernel
theorem d_L_node_3 : decode b_L_node 3 = .ok (.invokevirtual 7, 3) := by decide +kernel
theorem d_L_node_6 : decode b_L_node 6 = .ok (.i2l, 1) := by decide +kernel
theorem d_L_node_7 : decode b_L_node 7 = .ok (.lastore, 1) := by decide +kernel
theorem d_L_node_8 : decode b_L_node 8 = .ok (.goto 6, 3) := by decide +kernel
theorem d_L_node_11 : decode b_L_node 11 = .ok (.astore_n 2, 1) := by decide +kernel
theorem d_L_node_12 : decode b_L_node 12 = .ok (.iconst 1, 1) := by decide +kernel
theorem d_L_node_13 : decode b_L_node 13 = .ok (.ireturn, 1) := by decide +kernel
theorem d_L_node_14 : decode b_L_node 14 = .ok (.iconst 0, 1) := by decide +kernel
theorem d_L_node_15 : decode b_L_node 15 = .ok (.ireturn, 1) := by decide +kernel
set_option maxHeartbeats 4000000 in
set_option maxRecDepth 100000 in
theorem c_L_node (l : Launch) (hst : l.stackTraces = false) (dC : Nat → ClassId) (dI : Nat → Nat → Nat) (cI cZ cJ : ClassId) (a : Nat → Nat) (o sz : Nat) (σ : SS) (f : Nat → Int64) (P : Int32 → Int64 → SS → Prop) (hw : wp_CN_node σ (fun r σ1 => P 0 r.toInt64 σ1) (fun E σ1 => (E = "java/lang/UnsupportedOperationException" ∧ P 1 (f 0) σ1))) : Met l y_L_node (.codeWith y_L_node b_L_node 3 (some .int) [(0, 8, 11, 13)] :: TT) { frames := 7, cells := 1, slots := 6, locals := 103 } (pL (dC, dI) clsT (tyL cI cZ cJ) [.ref (a 0), .ref o] sz (lo cJ o f ++ wC cI cZ a σ)) (va_Qi (fun k (u : (Nat → Int64) × SS) => P k (u.1 0) u.2) (bL (dC, dI) cI cZ cJ a o (va_A (lo cJ o f ++ wC cI cZ a σ) sz)) (va_A (lo cJ o f ++ wC cI cZ a σ) sz)) 1 6 (va_A (lo cJ o f ++ wC cI cZ a σ) sz) := by
  refine hdl (Qf := fun A => (va_Qi (fun k (u : (Nat → Int64) × SS) => P k (u.1 0) u.2) (bL (dC, dI) cI cZ cJ a o A) A)) (by decide) (Nat.le_of_ble_eq_true rfl) ?_
  intro p e s m below meth c A ls hx hb hr hts hown hlocks hml hK hP hD hS hA hl hX hO hE
  have hown : s.vm.findClass R_L = some m.cls := hown
  have hl : lv_has ls 3 [(0, .ref (a 0)), (1, .ref o)] := hl
  refine lv_aload_n hx hb d_L_node_0 rfl (lv_at hl 1 rfl) ?_
  refine lv_iconst (v := 0) hx hb d_L_node_1 (by decide) ?_
  refine lv_aload_n hx hb d_L_node_2 rfl (lv_at hl 0 rfl) ?_
  refine x_callR (X := lo cJ o f) (w := wC cI cZ a) (As := []) (rest := [.int 0, .ref o]) (k := 0) (ci := 0) ⟨hx, hb, hml, hown, hts⟩ (c_CN_node l hst dC dI cI cZ a _ σ _ _ hw) (cwV 0 hts (gi_V (tm 616 rfl) (tm 617 rfl) (tm 618 rfl) (tm 290 rfl) (tm 517 rfl)) rfl rfl rfl (by decide +kernel) ⟨Nat.le_of_ble_eq_true rfl, Nat.le_of_ble_eq_true rfl⟩) rfl rfl hK hP hD hS hA hO rfl hl.1 rfl (lv_room (Nat.le_of_ble_eq_true rfl)) d_L_node_3 ⟨Nat.le_of_ble_eq_true rfl, Nat.le_of_ble_eq_true rfl⟩ ?_ ?_
  · intro r σ1 H locs hw hP hD hS
    refine lv_i2l (v := r.toInt64) hx hb d_L_node_6 rfl ?_
    refine va_last hx hb hK hP hD hS 0 2 rfl rfl (by rw [vp_in_iff]; decide) d_L_node_7 (fun H locs hP hD hS => ?_)
    refine lv_goto (tgt := 14) hx hb d_L_node_8 (by decide) ?_
    refine lv_iconst (v := 0) hx hb d_L_node_14 (by decide) ?_
    exact W.iret (v := 0) hx hb hr (fun t ht hW => ⟨⟨0, (vp_updL f 0 r.toInt64, σ1), rfl, by show P 0 (vp_updL f 0 r.toInt64 0) σ1; rw [pk_uLs]; exact hw, by rw [ht]; exact hP, va_K.moved hW.alike hK, hD⟩, hS.F ht⟩) hS.2.2 d_L_node_15 hlocks
  · intro E ce q9 σ1 H locs hw hP hD hS h1 h2 h3
    obtain ⟨rfl, hw⟩ := hw
    refine x_take hown [] ⟨0, 8, 11, 13⟩ [] (hX.trans rfl) (fun z hz => absurd hz List.not_mem_nil) (by decide) (by decide) (hts _ (tm 615 rfl)) (va_Nw.use rfl (hO.1 (.castable "java/lang/UnsupportedOperationException" "java/lang/UnsupportedOperationException") (by decide +kernel))) h1 h2 h3 ?_
    refine lv_astore_n (lv' := [(2, .ref q9), (0, .ref (a 0)), (1, .ref o)]) hx hb d_L_node_11 rfl hl (by decide) rfl (fun ls hl => ?_)
    refine lv_iconst (v := 1) hx hb d_L_node_12 (by decide) ?_
    exact W.iret (v := 1) hx hb hr (fun t ht hW => ⟨⟨1, (f, σ1), rfl, hw, by rw [ht]; exact hP, va_K.moved hW.alike hK, hD⟩, hS.F ht⟩) hS.2.2 d_L_node_13 hlocks
abbrev b_L_link : ByteArray := method_4_code
def y_L_link : MethodName := ⟨R_L, "link", "(LNetRoutes;III[J)I"⟩
theorem d_L_link_0 : decode b_L_link 0 = .ok (.aload 4, 2) := by decide +kernel
theorem d_L_link_2 : decode b_L_link 2 = .ok (.iconst 0, 1) := by decide +kernel
theorem d_L_link_3 : decode b_L_link 3 = .ok (.aload_n 0, 1) := by decide +kernel
theorem d_L_link_4 : decode b_L_link 4 = .ok (.iload_n 1, 1) := by decide +kernel
theorem d_L_link_5 : decode b_L_link 5 = .ok (.iload_n 2, 1) := by decide +kernel
theorem d_L_link_6 : decode b_L_link 6 = .ok (.iload_n 3, 1) := by decide +kernel
theorem d_L_link_7 : decode b_L_link 7 = .ok (.invokevirtual 15, 3) := by decide +kernel
theorem d_L_link_10 : decode b_L_link 10 = .ok (.i2l, 1) := by decide +kernel
theorem d_L_link_11 : decode b_L_link 11 = .ok (.lastore, 1) := by decide +kernel
theorem d_L_link_12 : decode b_L_link 12 = .ok (.goto 11, 3) := by decide +kernel
theorem d_L_link_15 : decode b_L_link 15 = .ok (.astore 5, 2) := by decide +kernel
theorem d_L_link_17 : decode b_L_link 17 = .ok (.iconst 1, 1) := by decide +kernel
theorem d_L_link_18 : decode b_L_link 18 = .ok (.ireturn, 1) := by decide +kernel
theorem d_L_link_19 : decode b_L_link 19 = .ok (.astore 5, 2) := by decide +kernel
theorem d_L_link_21 : decode b_L_link 21 = .ok (.iconst 2, 1) := by decide +kernel
theorem d_L_link_22 : decode b_L_link 22 = .ok (.ireturn, 1) := by decide +kernel
theorem d_L_link_23 : decode b_L_link 23 = .ok (.iconst 0, 1) := by decide +kernel
theorem d_L_link_24 : decode b_L_link 24 = .ok (.ireturn, 1) := by decide +kernel
set_option maxHeartbeats 4000000 in
set_option maxRecDepth 100000 in
theorem c_L_link (l : Launch) (hst : l.stackTraces = false) (dC : Nat → ClassId) (dI : Nat → Nat → Nat) (cI cZ cJ : ClassId) (a : Nat → Nat) (o sz : Nat) (σ : SS) (f : Nat → Int64) (x1 : Int32) (x2 : Int32) (x3 : Int32) (P : Int32 → Int64 → SS → Prop) (hw : wp_CN_link σ x1 x2 x3 (fun r σ1 => P 0 r.toInt64 σ1) (fun E σ1 => (E = "java/lang/IllegalArgumentException" ∧ P 1 (f 0) σ1) ∨ (E = "java/lang/UnsupportedOperationException" ∧ P 2 (f 0) σ1))) : Met l y_L_link (.codeWith y_L_link b_L_link 6 (some .int) [(0, 12, 15, 19), (0, 12, 19, 13)] :: TT) { frames := 7, cells := 1, slots := 6, locals := 106 } (pL (dC, dI) clsT (tyL cI cZ cJ) [.ref (a 0), .int x1, .int x2, .int x3, .ref o] sz (lo cJ o f ++ wC cI cZ a σ)) (va_Qi (fun k (u : (Nat → Int64) × SS) => P k (u.1 0) u.2) (bL (dC, dI) cI cZ cJ a o (va_A (lo cJ o f ++ wC cI cZ a σ) sz)) (va_A (lo cJ o f ++ wC cI cZ a σ) sz)) 1 6 (va_A (lo cJ o f ++ wC cI cZ a σ) sz) := by
  refine hdl (Qf := fun A => (va_Qi (fun k (u : (Nat → Int64) × SS) => P k (u.1 0) u.2) (bL (dC, dI) cI cZ cJ a o A) A)) (by decide) (Nat.le_of_ble_eq_true rfl) ?_
  intro p e s m below meth c A ls hx hb hr hts hown hlocks hml hK hP hD hS hA hl hX hO hE
  have hown : s.vm.findClass R_L = some m.cls := hown
  have hl : lv_has ls 6 [(0, .ref (a 0)), (1, .int x1), (2, .int x2), (3, .int x3), (4, .ref o)] := hl
  refine lv_aload hx hb d_L_link_0 (lv_at hl 4 rfl) ?_
  refine lv_iconst (v := 0) hx hb d_L_link_2 (by decide) ?_
  refine lv_aload_n hx hb d_L_link_3 rfl (lv_at hl 0 rfl) ?_
  refine lv_iload_n hx hb d_L_link_4 rfl (lv_at hl 1 rfl) ?_
  refine lv_iload_n hx hb d_L_link_5 rfl (lv_at hl 2 rfl) ?_
  refine lv_iload_n hx hb d_L_link_6 rfl (lv_at hl 3 rfl) ?_
  refine x_callR (X := lo cJ o f) (w := wC cI cZ a) (As := [.int x1, .int x2, .int x3]) (rest := [.int 0, .ref o]) (k := 0) (ci := 0) ⟨hx, hb, hml, hown, hts⟩ (c_CN_link l hst dC dI cI cZ a _ σ x1 x2 x3 _ _ hw) (cwV 3 hts (gi_V (tm 674 rfl) (tm 675 rfl) (tm 676 rfl) (tm 290 rfl) (tm 518 rfl)) rfl rfl rfl (by decide +kernel) ⟨Nat.le_of_ble_eq_true rfl, Nat.le_of_ble_eq_true rfl⟩) rfl rfl hK hP hD hS hA hO rfl hl.1 rfl (lv_room (Nat.le_of_ble_eq_true rfl)) d_L_link_7 ⟨Nat.le_of_ble_eq_true rfl, Nat.le_of_ble_eq_true rfl⟩ ?_ ?_
  · intro r σ1 H locs hw hP hD hS
    refine lv_i2l (v := r.toInt64) hx hb d_L_link_10 rfl ?_
    refine va_last hx hb hK hP hD hS 0 2 rfl rfl (by rw [vp_in_iff]; decide) d_L_link_11 (fun H locs hP hD hS => ?_)
    refine lv_goto (tgt := 23) hx hb d_L_link_12 (by decide) ?_
    refine lv_iconst (v := 0) hx hb d_L_link_23 (by decide) ?_
    exact W.iret (v := 0) hx hb hr (fun t ht hW => ⟨⟨0, (vp_updL f 0 r.toInt64, σ1), rfl, by show P 0 (vp_updL f 0 r.toInt64 0) σ1; rw [pk_uLs]; exact hw, by rw [ht]; exact hP, va_K.moved hW.alike hK, hD⟩, hS.F ht⟩) hS.2.2 d_L_link_24 hlocks
  · intro E ce q9 σ1 H locs hw hP hD hS h1 h2 h3
    rcases hw with ⟨rfl, hw⟩ | ⟨rfl, hw⟩
    · refine x_take hown [] ⟨0, 12, 15, 19⟩ [⟨0, 12, 19, 13⟩] (hX.trans rfl) (fun z hz => absurd hz List.not_mem_nil) (by decide) (by decide) (hts _ (tm 673 rfl)) (va_Nw.use rfl (hO.1 (.castable "java/lang/IllegalArgumentException" "java/lang/IllegalArgumentException") (by decide +kernel))) h1 h2 h3 ?_
      refine lv_astore (lv' := [(5, .ref q9), (0, .ref (a 0)), (1, .int x1), (2, .int x2), (3, .int x3), (4, .ref o)]) hx hb d_L_link_15 hl (by decide) rfl (fun ls hl => ?_)
      refine lv_iconst (v := 1) hx hb d_L_link_17 (by decide) ?_
      exact W.iret (v := 1) hx hb hr (fun t ht hW => ⟨⟨1, (f, σ1), rfl, hw, by rw [ht]; exact hP, va_K.moved hW.alike hK, hD⟩, hS.F ht⟩) hS.2.2 d_L_link_18 hlocks
    · refine x_take hown [⟨0, 12, 15, 19⟩] ⟨0, 12, 19, 13⟩ [] (hX.trans rfl) (fun z hz => by cases List.mem_singleton.mp hz; exact Or.inr ⟨by decide, "java/lang/IllegalArgumentException", hts _ (tm 673 rfl), hE.1⟩) (by decide) (by decide) (hts _ (tm 615 rfl)) (va_Nw.use rfl (hO.1 (.castable "java/lang/UnsupportedOperationException" "java/lang/UnsupportedOperationException") (by decide +kernel))) h1 h2 h3 ?_
      refine lv_astore (lv' := [(5, .ref q9), (0, .ref (a 0)), (1, .int x1), (2, .int x2), (3, .int x3), (4, .ref o)]) hx hb d_L_link_19 hl (by decide) rfl (fun ls hl => ?_)
      refine lv_iconst (v := 2) hx hb d_L_link_21 (by decide) ?_
      exact W.iret (v := 2) hx hb hr (fun t ht hW => ⟨⟨2, (f, σ1), rfl, hw, by rw [ht]; exact hP, va_K.moved hW.alike hK, hD⟩, hS.F ht⟩) hS.2.2 d_L_link_22 hlocks
abbrev b_L_route : ByteArray := method_5_code
def y_L_route : MethodName := ⟨R_L, "route", "(LNetRoutes;III[J)I"⟩
theorem d_L_route_0 : decode b_L_route 0 = .ok (.aload 4, 2) := by decide +kernel
theorem d_L_route_2 : decode b_L_route 2 = .ok (.iconst 0, 1) := by decide +kernel
theorem d_L_route_3 : decode b_L_route 3 = .ok (.aload_n 0, 1) := by decide +kernel
theorem d_L_route_4 : decode b_L_route 4 = .ok (.iload_n 1, 1) := by decide +kernel
theorem d_L_route_5 : decode b_L_route 5 = .ok (.iload_n 2, 1) := by decide +kernel
theorem d_L_route_6 : decode b_L_route 6 = .ok (.iload_n 3, 1) := by decide +kernel
theorem d_L_route_7 : decode b_L_route 7 = .ok (.invokevirtual 21, 3) := by decide +kernel
theorem d_L_route_10 : decode b_L_route 10 = .ok (.i2l, 1) := by decide +kernel
theorem d_L_route_11 : decode b_L_route 11 = .ok (.lastore, 1) := by decide +kernel
theorem d_L_route_12 : decode b_L_route 12 = .ok (.goto 7, 3) := by decide +kernel
theorem d_L_route_15 : decode b_L_route 15 = .ok (.astore 5, 2) := by decide +kernel
theorem d_L_route_17 : decode b_L_route 17 = .ok (.iconst 1, 1) := by decide +kernel
theorem d_L_route_18 : decode b_L_route 18 = .ok (.ireturn, 1) := by decide +kernel
theorem d_L_route_19 : decode b_L_route 19 = .ok (.iconst 0, 1) := by decide +kernel
theorem d_L_route_20 : decode b_L_route 20 = .ok (.ireturn, 1) := by decide +kernel
set_option maxHeartbeats 4000000 in
set_option maxRecDepth 100000 in
theorem c_L_route (l : Launch) (hst : l.stackTraces = false) (dC : Nat → ClassId) (dI : Nat → Nat → Nat) (cI cZ cJ : ClassId) (a : Nat → Nat) (o sz : Nat) (σ : SS) (f : Nat → Int64) (x1 : Int32) (x2 : Int32) (x3 : Int32) (P : Int32 → Int64 → SS → Prop) (hw : wp_CN_route σ x1 x2 x3 (fun r σ1 => P 0 r.toInt64 σ1) (fun E σ1 => (E = "java/lang/IllegalArgumentException" ∧ P 1 (f 0) σ1))) : Met l y_L_route (.codeWith y_L_route b_L_route 6 (some .int) [(0, 12, 15, 19)] :: TT) { frames := 7, cells := 1, slots := 6, locals := 107 } (pL (dC, dI) clsT (tyL cI cZ cJ) [.ref (a 0), .int x1, .int x2, .int x3, .ref o] sz (lo cJ o f ++ wC cI cZ a σ)) (va_Qi (fun k (u : (Nat → Int64) × SS) => P k (u.1 0) u.2) (bL (dC, dI) cI cZ cJ a o (va_A (lo cJ o f ++ wC cI cZ a σ) sz)) (va_A (lo cJ o f ++ wC cI cZ a σ) sz)) 1 6 (va_A (lo cJ o f ++ wC cI cZ a σ) sz) := by
  refine hdl (Qf := fun A => (va_Qi (fun k (u : (Nat → Int64) × SS) => P k (u.1 0) u.2) (bL (dC, dI) cI cZ cJ a o A) A)) (by decide) (Nat.le_of_ble_eq_true rfl) ?_
  intro p e s m below meth c A ls hx hb hr hts hown hlocks hml hK hP hD hS hA hl hX hO hE
  have hown : s.vm.findClass R_L = some m.cls := hown
  have hl : lv_has ls 6 [(0, .ref (a 0)), (1, .int x1), (2, .int x2), (3, .int x3), (4, .ref o)] := hl
  refine lv_aload hx hb d_L_route_0 (lv_at hl 4 rfl) ?_
  refine lv_iconst (v := 0) hx hb d_L_route_2 (by decide) ?_
  refine lv_aload_n hx hb d_L_route_3 rfl (lv_at hl 0 rfl) ?_
  refine lv_iload_n hx hb d_L_route_4 rfl (lv_at hl 1 rfl) ?_
  refine lv_iload_n hx hb d_L_route_5 rfl (lv_at hl 2 rfl) ?_
  refine lv_iload_n hx hb d_L_route_6 rfl (lv_at hl 3 rfl) ?_
  refine x_callR (X := lo cJ o f) (w := wC cI cZ a) (As := [.int x1, .int x2, .int x3]) (rest := [.int 0, .ref o]) (k := 0) (ci := 0) ⟨hx, hb, hml, hown, hts⟩ (c_CN_route l hst dC dI cI cZ a _ σ x1 x2 x3 _ _ hw) (cwV 3 hts (gi_V (tm 694 rfl) (tm 695 rfl) (tm 696 rfl) (tm 290 rfl) (tm 519 rfl)) rfl rfl rfl (by decide +kernel) ⟨Nat.le_of_ble_eq_true rfl, Nat.le_of_ble_eq_true rfl⟩) rfl rfl hK hP hD hS hA hO rfl hl.1 rfl (lv_room (Nat.le_of_ble_eq_true rfl)) d_L_route_7 ⟨Nat.le_of_ble_eq_true rfl, Nat.le_of_ble_eq_true rfl⟩ ?_ ?_
  · intro r σ1 H locs hw hP hD hS
    refine lv_i2l (v := r.toInt64) hx hb d_L_route_10 rfl ?_
    refine va_last hx hb hK hP hD hS 0 2 rfl rfl (by rw [vp_in_iff]; decide) d_L_route_11 (fun H locs hP hD hS => ?_)
    refine lv_goto (tgt := 19) hx hb d_L_route_12 (by decide) ?_
    refine lv_iconst (v := 0) hx hb d_L_route_19 (by decide) ?_
    exact W.iret (v := 0) hx hb hr (fun t ht hW => ⟨⟨0, (vp_updL f 0 r.toInt64, σ1), rfl, by show P 0 (vp_updL f 0 r.toInt64 0) σ1; rw [pk_uLs]; exact hw, by rw [ht]; exact hP, va_K.moved hW.alike hK, hD⟩, hS.F ht⟩) hS.2.2 d_L_route_20 hlocks
  · intro E ce q9 σ1 H locs hw hP hD hS h1 h2 h3
    obtain ⟨rfl, hw⟩ := hw
    refine x_take hown [] ⟨0, 12, 15, 19⟩ [] (hX.trans rfl) (fun z hz => absurd hz List.not_mem_nil) (by decide) (by decide) (hts _ (tm 673 rfl)) (va_Nw.use rfl (hO.1 (.castable "java/lang/IllegalArgumentException" "java/lang/IllegalArgumentException") (by decide +kernel))) h1 h2 h3 ?_
    refine lv_astore (lv' := [(5, .ref q9), (0, .ref (a 0)), (1, .int x1), (2, .int x2), (3, .int x3), (4, .ref o)]) hx hb d_L_route_15 hl (by decide) rfl (fun ls hl => ?_)
    refine lv_iconst (v := 1) hx hb d_L_route_17 (by decide) ?_
    exact W.iret (v := 1) hx hb hr (fun t ht hW => ⟨⟨1, (f, σ1), rfl, hw, by rw [ht]; exact hP, va_K.moved hW.alike hK, hD⟩, hS.F ht⟩) hS.2.2 d_L_route_18 hlocks
abbrev b_L_routes : ByteArray := method_6_code
def y_L_routes : MethodName := ⟨R_L, "routes", "(LNetRoutes;I[J)I"⟩
theorem d_L_routes_0 : decode b_L_routes 0 = .ok (.aload_n 2, 1) := by decide +kernel
theorem d_L_routes_1 : decode b_L_routes 1 = .ok (.iconst 0, 1) := by decide +kernel
theorem d_L_routes_2 : decode b_L_routes 2 = .ok (.aload_n 0, 1) := by decide +kernel
theorem d_L_routes_3 : decode b_L_routes 3 = .ok (.iload_n 1, 1) := by decide +kernel
theorem d_L_routes_4 : decode b_L_routes 4 = .ok (.invokevirtual 24, 3) := by decide +kernel
theorem d_L_routes_7 : decode b_L_routes 7 = .ok (.i2l, 1) := by decide +kernel
theorem d_L_routes_8 : decode b_L_routes 8 = .ok (.lastore, 1) := by decide +kernel
theorem d_L_routes_9 : decode b_L_routes 9 = .ok (.goto 6, 3) := by decide +kernel
theorem d_L_routes_12 : decode b_L_routes 12 = .ok (.astore_n 3, 1) := by decide +kernel
theorem d_L_routes_13 : decode b_L_routes 13 = .ok (.iconst 1, 1) := by decide +kernel
theorem d_L_routes_14 : decode b_L_routes 14 = .ok (.ireturn, 1) := by decide +kernel
theorem d_L_routes_15 : decode b_L_routes 15 = .ok (.iconst 0, 1) := by decide +kernel
theorem d_L_routes_16 : decode b_L_routes 16 = .ok (.ireturn, 1) := by decide +kernel
set_option maxHeartbeats 4000000 in
set_option maxRecDepth 100000 in
theorem c_L_routes (l : Launch) (hst : l.stackTraces = false) (dC : Nat → ClassId) (dI : Nat → Nat → Nat) (cI cZ cJ : ClassId) (a : Nat → Nat) (o sz : Nat) (σ : SS) (f : Nat → Int64) (x1 : Int32) (P : Int32 → Int64 → SS → Prop) (hw : wp_CN_routes σ x1 (fun r σ1 => P 0 r.toInt64 σ1) (fun E σ1 => (E = "java/lang/IllegalArgumentException" ∧ P 1 (f 0) σ1))) : Met l y_L_routes (.codeWith y_L_routes b_L_routes 4 (some .int) [(0, 9, 12, 19)] :: TT) { frames := 7, cells := 1, slots := 6, locals := 104 } (pL (dC, dI) clsT (tyL cI cZ cJ) [.ref (a 0), .int x1, .ref o] sz (lo cJ o f ++ wC cI cZ a σ)) (va_Qi (fun k (u : (Nat → Int64) × SS) => P k (u.1 0) u.2) (bL (dC, dI) cI cZ cJ a o (va_A (lo cJ o f ++ wC cI cZ a σ) sz)) (va_A (lo cJ o f ++ wC cI cZ a σ) sz)) 1 6 (va_A (lo cJ o f ++ wC cI cZ a σ) sz) := by
  refine hdl (Qf := fun A => (va_Qi (fun k (u : (Nat → Int64) × SS) => P k (u.1 0) u.2) (bL (dC, dI) cI cZ cJ a o A) A)) (by decide) (Nat.le_of_ble_eq_true rfl) ?_
  intro p e s m below meth c A ls hx hb hr hts hown hlocks hml hK hP hD hS hA hl hX hO hE
  have hown : s.vm.findClass R_L = some m.cls := hown
  have hl : lv_has ls 4 [(0, .ref (a 0)), (1, .int x1), (2, .ref o)] := hl
  refine lv_aload_n hx hb d_L_routes_0 rfl (lv_at hl 2 rfl) ?_
  refine lv_iconst (v := 0) hx hb d_L_routes_1 (by decide) ?_
  refine lv_aload_n hx hb d_L_routes_2 rfl (lv_at hl 0 rfl) ?_
  refine lv_iload_n hx hb d_L_routes_3 rfl (lv_at hl 1 rfl) ?_
  refine x_callR (X := lo cJ o f) (w := wC cI cZ a) (As := [.int x1]) (rest := [.int 0, .ref o]) (k := 0) (ci := 0) ⟨hx, hb, hml, hown, hts⟩ (c_CN_routes l hst dC dI cI cZ a _ σ x1 _ _ hw) (cwV 1 hts (gi_V (tm 700 rfl) (tm 701 rfl) (tm 702 rfl) (tm 290 rfl) (tm 520 rfl)) rfl rfl rfl (by decide +kernel) ⟨Nat.le_of_ble_eq_true rfl, Nat.le_of_ble_eq_true rfl⟩) rfl rfl hK hP hD hS hA hO rfl hl.1 rfl (lv_room (Nat.le_of_ble_eq_true rfl)) d_L_routes_4 ⟨Nat.le_of_ble_eq_true rfl, Nat.le_of_ble_eq_true rfl⟩ ?_ ?_
  · intro r σ1 H locs hw hP hD hS
    refine lv_i2l (v := r.toInt64) hx hb d_L_routes_7 rfl ?_
    refine va_last hx hb hK hP hD hS 0 2 rfl rfl (by rw [vp_in_iff]; decide) d_L_routes_8 (fun H locs hP hD hS => ?_)
    refine lv_goto (tgt := 15) hx hb d_L_routes_9 (by decide) ?_
    refine lv_iconst (v := 0) hx hb d_L_routes_15 (by decide) ?_
    exact W.iret (v := 0) hx hb hr (fun t ht hW => ⟨⟨0, (vp_updL f 0 r.toInt64, σ1), rfl, by show P 0 (vp_updL f 0 r.toInt64 0) σ1; rw [pk_uLs]; exact hw, by rw [ht]; exact hP, va_K.moved hW.alike hK, hD⟩, hS.F ht⟩) hS.2.2 d_L_routes_16 hlocks
  · intro E ce q9 σ1 H locs hw hP hD hS h1 h2 h3
    obtain ⟨rfl, hw⟩ := hw
    refine x_take hown [] ⟨0, 9, 12, 19⟩ [] (hX.trans rfl) (fun z hz => absurd hz List.not_mem_nil) (by decide) (by decide) (hts _ (tm 673 rfl)) (va_Nw.use rfl (hO.1 (.castable "java/lang/IllegalArgumentException" "java/lang/IllegalArgumentException") (by decide +kernel))) h1 h2 h3 ?_
    refine lv_astore_n (lv' := [(3, .ref q9), (0, .ref (a 0)), (1, .int x1), (2, .ref o)]) hx hb d_L_routes_12 rfl hl (by decide) rfl (fun ls hl => ?_)
    refine lv_iconst (v := 1) hx hb d_L_routes_13 (by decide) ?_
    exact W.iret (v := 1) hx hb hr (fun t ht hW => ⟨⟨1, (f, σ1), rfl, hw, by rw [ht]; exact hP, va_K.moved hW.alike hK, hD⟩, hS.F ht⟩) hS.2.2 d_L_routes_14 hlocks
abbrev b_L_fail : ByteArray := method_7_code
def y_L_fail : MethodName := ⟨R_L, "fail", "(LNetRoutes;I[J)I"⟩
theorem d_L_fail_0 : decode b_L_fail 0 = .ok (.aload_n 2, 1) := by decide +kernel
theorem d_L_fail_1 : decode b_L_fail 1 = .ok (.iconst 0, 1) := by decide +kernel
theorem d_L_fail_2 : decode b_L_fail 2 = .ok (.aload_n 0, 1) := by decide +kernel
theorem d_L_fail_3 : decode b_L_fail 3 = .ok (.iload_n 1, 1) := by decide +kernel
theorem d_L_fail_4 : decode b_L_fail 4 = .ok (.invokevirtual 28, 3) := by decide +kernel
theorem d_L_fail_7 : decode b_L_fail 7 = .ok (.i2l, 1) := by decide +kernel
theorem d_L_fail_8 : decode b_L_fail 8 = .ok (.lastore, 1) := by decide +kernel
theorem d_L_fail_9 : decode b_L_fail 9 = .ok (.goto 6, 3) := by decide +kernel
theorem d_L_fail_12 : decode b_L_fail 12 = .ok (.astore_n 3, 1) := by decide +kernel
theorem d_L_fail_13 : decode b_L_fail 13 = .ok (.iconst 1, 1) := by decide +kernel
theorem d_L_fail_14 : decode b_L_fail 14 = .ok (.ireturn, 1) := by decide +kernel
theorem d_L_fail_15 : decode b_L_fail 15 = .ok (.iconst 0, 1) := by decide +kernel
theorem d_L_fail_16 : decode b_L_fail 16 = .ok (.ireturn, 1) := by decide +kernel
set_option maxHeartbeats 4000000 in
set_option maxRecDepth 100000 in
theorem c_L_fail (l : Launch) (hst : l.stackTraces = false) (dC : Nat → ClassId) (dI : Nat → Nat → Nat) (cI cZ cJ : ClassId) (a : Nat → Nat) (o sz : Nat) (σ : SS) (f : Nat → Int64) (x1 : Int32) (P : Int32 → Int64 → SS → Prop) (hw : wp_CN_fail σ x1 (fun r σ1 => P 0 r.toInt64 σ1) (fun E σ1 => (E = "java/lang/IllegalArgumentException" ∧ P 1 (f 0) σ1))) : Met l y_L_fail (.codeWith y_L_fail b_L_fail 4 (some .int) [(0, 9, 12, 19)] :: TT) { frames := 7, cells := 1, slots := 6, locals := 104 } (pL (dC, dI) clsT (tyL cI cZ cJ) [.ref (a 0), .int x1, .ref o] sz (lo cJ o f ++ wC cI cZ a σ)) (va_Qi (fun k (u : (Nat → Int64) × SS) => P k (u.1 0) u.2) (bL (dC, dI) cI cZ cJ a o (va_A (lo cJ o f ++ wC cI cZ a σ) sz)) (va_A (lo cJ o f ++ wC cI cZ a σ) sz)) 1 6 (va_A (lo cJ o f ++ wC cI cZ a σ) sz) := by
  refine hdl (Qf := fun A => (va_Qi (fun k (u : (Nat → Int64) × SS) => P k (u.1 0) u.2) (bL (dC, dI) cI cZ cJ a o A) A)) (by decide) (Nat.le_of_ble_eq_true rfl) ?_
  intro p e s m below meth c A ls hx hb hr hts hown hlocks hml hK hP hD hS hA hl hX hO hE
  have hown : s.vm.findClass R_L = some m.cls := hown
  have hl : lv_has ls 4 [(0, .ref (a 0)), (1, .int x1), (2, .ref o)] := hl
  refine lv_aload_n hx hb d_L_fail_0 rfl (lv_at hl 2 rfl) ?_
  refine lv_iconst (v := 0) hx hb d_L_fail_1 (by decide) ?_
  refine lv_aload_n hx hb d_L_fail_2 rfl (lv_at hl 0 rfl) ?_
  refine lv_iload_n hx hb d_L_fail_3 rfl (lv_at hl 1 rfl) ?_
  refine x_callR (X := lo cJ o f) (w := wC cI cZ a) (As := [.int x1]) (rest := [.int 0, .ref o]) (k := 0) (ci := 0) ⟨hx, hb, hml, hown, hts⟩ (c_CN_fail l hst dC dI cI cZ a _ σ x1 _ _ hw) (cwV 1 hts (gi_V (tm 706 rfl) (tm 707 rfl) (tm 708 rfl) (tm 290 rfl) (tm 521 rfl)) rfl rfl rfl (by decide +kernel) ⟨Nat.le_of_ble_eq_true rfl, Nat.le_of_ble_eq_true rfl⟩) rfl rfl hK hP hD hS hA hO rfl hl.1 rfl (lv_room (Nat.le_of_ble_eq_true rfl)) d_L_fail_4 ⟨Nat.le_of_ble_eq_true rfl, Nat.le_of_ble_eq_true rfl⟩ ?_ ?_
  · intro r σ1 H locs hw hP hD hS
    refine lv_i2l (v := r.toInt64) hx hb d_L_fail_7 rfl ?_
    refine va_last hx hb hK hP hD hS 0 2 rfl rfl (by rw [vp_in_iff]; decide) d_L_fail_8 (fun H locs hP hD hS => ?_)
    refine lv_goto (tgt := 15) hx hb d_L_fail_9 (by decide) ?_
    refine lv_iconst (v := 0) hx hb d_L_fail_15 (by decide) ?_
    exact W.iret (v := 0) hx hb hr (fun t ht hW => ⟨⟨0, (vp_updL f 0 r.toInt64, σ1), rfl, by show P 0 (vp_updL f 0 r.toInt64 0) σ1; rw [pk_uLs]; exact hw, by rw [ht]; exact hP, va_K.moved hW.alike hK, hD⟩, hS.F ht⟩) hS.2.2 d_L_fail_16 hlocks
  · intro E ce q9 σ1 H locs hw hP hD hS h1 h2 h3
    obtain ⟨rfl, hw⟩ := hw
    refine x_take hown [] ⟨0, 9, 12, 19⟩ [] (hX.trans rfl) (fun z hz => absurd hz List.not_mem_nil) (by decide) (by decide) (hts _ (tm 673 rfl)) (va_Nw.use rfl (hO.1 (.castable "java/lang/IllegalArgumentException" "java/lang/IllegalArgumentException") (by decide +kernel))) h1 h2 h3 ?_
    refine lv_astore_n (lv' := [(3, .ref q9), (0, .ref (a 0)), (1, .int x1), (2, .ref o)]) hx hb d_L_fail_12 rfl hl (by decide) rfl (fun ls hl => ?_)
    refine lv_iconst (v := 1) hx hb d_L_fail_13 (by decide) ?_
    exact W.iret (v := 1) hx hb hr (fun t ht hW => ⟨⟨1, (f, σ1), rfl, hw, by rw [ht]; exact hP, va_K.moved hW.alike hK, hD⟩, hS.F ht⟩) hS.2.2 d_L_fail_14 hlocks
abbrev b_L_send : ByteArray := method_8_code
def y_L_send : MethodName := ⟨R_L, "send", "(LNetRoutes;III[J)I"⟩
theorem d_L_send_0 : decode b_L_send 0 = .ok (.aload 4, 2) := by decide +kernel
theorem d_L_send_2 : decode b_L_send 2 = .ok (.iconst 0, 1) := by decide +kernel
theorem d_L_send_3 : decode b_L_send 3 = .ok (.aload_n 0, 1) := by decide +kernel
theorem d_L_send_4 : decode b_L_send 4 = .ok (.iload_n 1, 1) := by decide +kernel
theorem d_L_send_5 : decode b_L_send 5 = .ok (.iload_n 2, 1) := by decide +kernel
theorem d_L_send_6 : decode b_L_send 6 = .ok (.iload_n 3, 1) := by decide +kernel
theorem d_L_send_7 : decode b_L_send 7 = .ok (.invokevirtual 31, 3) := by decide +kernel
theorem d_L_send_10 : decode b_L_send 10 = .ok (.i2l, 1) := by decide +kernel
theorem d_L_send_11 : decode b_L_send 11 = .ok (.lastore, 1) := by decide +kernel
theorem d_L_send_12 : decode b_L_send 12 = .ok (.goto 11, 3) := by decide +kernel
theorem d_L_send_15 : decode b_L_send 15 = .ok (.astore 5, 2) := by decide +kernel
theorem d_L_send_17 : decode b_L_send 17 = .ok (.iconst 1, 1) := by decide +kernel
theorem d_L_send_18 : decode b_L_send 18 = .ok (.ireturn, 1) := by decide +kernel
theorem d_L_send_19 : decode b_L_send 19 = .ok (.astore 5, 2) := by decide +kernel
theorem d_L_send_21 : decode b_L_send 21 = .ok (.iconst 2, 1) := by decide +kernel
theorem d_L_send_22 : decode b_L_send 22 = .ok (.ireturn, 1) := by decide +kernel
theorem d_L_send_23 : decode b_L_send 23 = .ok (.iconst 0, 1) := by decide +kernel
theorem d_L_send_24 : decode b_L_send 24 = .ok (.ireturn, 1) := by decide +kernel
set_option maxHeartbeats 4000000 in
set_option maxRecDepth 100000 in
theorem c_L_send (l : Launch) (hst : l.stackTraces = false) (dC : Nat → ClassId) (dI : Nat → Nat → Nat) (cI cZ cJ : ClassId) (a : Nat → Nat) (o sz : Nat) (σ : SS) (f : Nat → Int64) (x1 : Int32) (x2 : Int32) (x3 : Int32) (P : Int32 → Int64 → SS → Prop) (hw : wp_CN_send σ x1 x2 x3 (fun r σ1 => P 0 r.toInt64 σ1) (fun E σ1 => (E = "java/lang/IllegalArgumentException" ∧ P 1 (f 0) σ1) ∨ (E = "java/lang/UnsupportedOperationException" ∧ P 2 (f 0) σ1))) : Met l y_L_send (.codeWith y_L_send b_L_send 6 (some .int) [(0, 12, 15, 19), (0, 12, 19, 13)] :: TT) { frames := 7, cells := 1, slots := 6, locals := 106 } (pL (dC, dI) clsT (tyL cI cZ cJ) [.ref (a 0), .int x1, .int x2, .int x3, .ref o] sz (lo cJ o f ++ wC cI cZ a σ)) (va_Qi (fun k (u : (Nat → Int64) × SS) => P k (u.1 0) u.2) (bL (dC, dI) cI cZ cJ a o (va_A (lo cJ o f ++ wC cI cZ a σ) sz)) (va_A (lo cJ o f ++ wC cI cZ a σ) sz)) 1 6 (va_A (lo cJ o f ++ wC cI cZ a σ) sz) := by
  refine hdl (Qf := fun A => (va_Qi (fun k (u : (Nat → Int64) × SS) => P k (u.1 0) u.2) (bL (dC, dI) cI cZ cJ a o A) A)) (by decide) (Nat.le_of_ble_eq_true rfl) ?_
  intro p e s m below meth c A ls hx hb hr hts hown hlocks hml hK hP hD hS hA hl hX hO hE
  have hown : s.vm.findClass R_L = some m.cls := hown
  have hl : lv_has ls 6 [(0, .ref (a 0)), (1, .int x1), (2, .int x2), (3, .int x3), (4, .ref o)] := hl
  refine lv_aload hx hb d_L_send_0 (lv_at hl 4 rfl) ?_
  refine lv_iconst (v := 0) hx hb d_L_send_2 (by decide) ?_
  refine lv_aload_n hx hb d_L_send_3 rfl (lv_at hl 0 rfl) ?_
  refine lv_iload_n hx hb d_L_send_4 rfl (lv_at hl 1 rfl) ?_
  refine lv_iload_n hx hb d_L_send_5 rfl (lv_at hl 2 rfl) ?_
  refine lv_iload_n hx hb d_L_send_6 rfl (lv_at hl 3 rfl) ?_
  refine x_callR (X := lo cJ o f) (w := wC cI cZ a) (As := [.int x1, .int x2, .int x3]) (rest := [.int 0, .ref o]) (k := 0) (ci := 0) ⟨hx, hb, hml, hown, hts⟩ (c_CN_send l hst dC dI cI cZ a _ σ x1 x2 x3 _ _ hw) (cwV 3 hts (gi_V (tm 712 rfl) (tm 713 rfl) (tm 714 rfl) (tm 290 rfl) (tm 522 rfl)) rfl rfl rfl (by decide +kernel) ⟨Nat.le_of_ble_eq_true rfl, Nat.le_of_ble_eq_true rfl⟩) rfl rfl hK hP hD hS hA hO rfl hl.1 rfl (lv_room (Nat.le_of_ble_eq_true rfl)) d_L_send_7 ⟨Nat.le_of_ble_eq_true rfl, Nat.le_of_ble_eq_true rfl⟩ ?_ ?_
  · intro r σ1 H locs hw hP hD hS
    refine lv_i2l (v := r.toInt64) hx hb d_L_send_10 rfl ?_
    refine va_last hx hb hK hP hD hS 0 2 rfl rfl (by rw [vp_in_iff]; decide) d_L_send_11 (fun H locs hP hD hS => ?_)
    refine lv_goto (tgt := 23) hx hb d_L_send_12 (by decide) ?_
    refine lv_iconst (v := 0) hx hb d_L_send_23 (by decide) ?_
    exact W.iret (v := 0) hx hb hr (fun t ht hW => ⟨⟨0, (vp_updL f 0 r.toInt64, σ1), rfl, by show P 0 (vp_updL f 0 r.toInt64 0) σ1; rw [pk_uLs]; exact hw, by rw [ht]; exact hP, va_K.moved hW.alike hK, hD⟩, hS.F ht⟩) hS.2.2 d_L_send_24 hlocks
  · intro E ce q9 σ1 H locs hw hP hD hS h1 h2 h3
    rcases hw with ⟨rfl, hw⟩ | ⟨rfl, hw⟩
    · refine x_take hown [] ⟨0, 12, 15, 19⟩ [⟨0, 12, 19, 13⟩] (hX.trans rfl) (fun z hz => absurd hz List.not_mem_nil) (by decide) (by decide) (hts _ (tm 673 rfl)) (va_Nw.use rfl (hO.1 (.castable "java/lang/IllegalArgumentException" "java/lang/IllegalArgumentException") (by decide +kernel))) h1 h2 h3 ?_
      refine lv_astore (lv' := [(5, .ref q9), (0, .ref (a 0)), (1, .int x1), (2, .int x2), (3, .int x3), (4, .ref o)]) hx hb d_L_send_15 hl (by decide) rfl (fun ls hl => ?_)
      refine lv_iconst (v := 1) hx hb d_L_send_17 (by decide) ?_
      exact W.iret (v := 1) hx hb hr (fun t ht hW => ⟨⟨1, (f, σ1), rfl, hw, by rw [ht]; exact hP, va_K.moved hW.alike hK, hD⟩, hS.F ht⟩) hS.2.2 d_L_send_18 hlocks
    · refine x_take hown [⟨0, 12, 15, 19⟩] ⟨0, 12, 19, 13⟩ [] (hX.trans rfl) (fun z hz => by cases List.mem_singleton.mp hz; exact Or.inr ⟨by decide, "java/lang/IllegalArgumentException", hts _ (tm 673 rfl), hE.1⟩) (by decide) (by decide) (hts _ (tm 615 rfl)) (va_Nw.use rfl (hO.1 (.castable "java/lang/UnsupportedOperationException" "java/lang/UnsupportedOperationException") (by decide +kernel))) h1 h2 h3 ?_
      refine lv_astore (lv' := [(5, .ref q9), (0, .ref (a 0)), (1, .int x1), (2, .int x2), (3, .int x3), (4, .ref o)]) hx hb d_L_send_19 hl (by decide) rfl (fun ls hl => ?_)
      refine lv_iconst (v := 2) hx hb d_L_send_21 (by decide) ?_
      exact W.iret (v := 2) hx hb hr (fun t ht hW => ⟨⟨2, (f, σ1), rfl, hw, by rw [ht]; exact hP, va_K.moved hW.alike hK, hD⟩, hS.F ht⟩) hS.2.2 d_L_send_22 hlocks
abbrev b_L_load : ByteArray := method_9_code
def y_L_load : MethodName := ⟨R_L, "load", "(LNetRoutes;I[J)I"⟩
theorem d_L_load_0 : decode b_L_load 0 = .ok (.aload_n 2, 1) := by decide +kernel
theorem d_L_load_1 : decode b_L_load 1 = .ok (.iconst 0, 1) := by decide +kernel
theorem d_L_load_2 : decode b_L_load 2 = .ok (.aload_n 0, 1) := by decide +kernel
theorem d_L_load_3 : decode b_L_load 3 = .ok (.iload_n 1, 1) := by decide +kernel
theorem d_L_load_4 : decode b_L_load 4 = .ok (.invokevirtual 34, 3) := by decide +kernel
theorem d_L_load_7 : decode b_L_load 7 = .ok (.i2l, 1) := by decide +kernel
theorem d_L_load_8 : decode b_L_load 8 = .ok (.lastore, 1) := by decide +kernel
theorem d_L_load_9 : decode b_L_load 9 = .ok (.goto 12, 3) := by decide +kernel
theorem d_L_load_12 : decode b_L_load 12 = .ok (.astore_n 3, 1) := by decide +kernel
theorem d_L_load_13 : decode b_L_load 13 = .ok (.iconst 1, 1) := by decide +kernel
theorem d_L_load_14 : decode b_L_load 14 = .ok (.ireturn, 1) := by decide +kernel
theorem d_L_load_15 : decode b_L_load 15 = .ok (.astore_n 3, 1) := by decide +kernel
theorem d_L_load_16 : decode b_L_load 16 = .ok (.iconst 2, 1) := by decide +kernel
theorem d_L_load_17 : decode b_L_load 17 = .ok (.ireturn, 1) := by decide +kernel
theorem d_L_load_18 : decode b_L_load 18 = .ok (.astore_n 3, 1) := by decide +kernel
theorem d_L_load_19 : decode b_L_load 19 = .ok (.iconst 3, 1) := by decide +kernel
theorem d_L_load_20 : decode b_L_load 20 = .ok (.ireturn, 1) := by decide +kernel
theorem d_L_load_21 : decode b_L_load 21 = .ok (.iconst 0, 1) := by decide +kernel
theorem d_L_load_22 : decode b_L_load 22 = .ok (.ireturn, 1) := by decide +kernel
set_option maxHeartbeats 4000000 in
set_option maxRecDepth 100000 in
theorem c_L_load (l : Launch) (hst : l.stackTraces = false) (dC : Nat → ClassId) (dI : Nat → Nat → Nat) (cI cZ cJ : ClassId) (a : Nat → Nat) (o sz : Nat) (σ : SS) (f : Nat → Int64) (x1 : Int32) (P : Int32 → Int64 → SS → Prop) (hw : wp_CN_load σ x1 (fun r σ1 => P 0 r.toInt64 σ1) (fun E σ1 => (E = "java/lang/IllegalArgumentException" ∧ P 1 (f 0) σ1) ∨ (E = "java/lang/IllegalStateException" ∧ P 2 (f 0) σ1) ∨ (E = "java/lang/UnsupportedOperationException" ∧ P 3 (f 0) σ1))) : Met l y_L_load (.codeWith y_L_load b_L_load 4 (some .int) [(0, 9, 12, 19), (0, 9, 15, 37), (0, 9, 18, 13)] :: TT) { frames := 7, cells := 1, slots := 6, locals := 108 } (pL (dC, dI) clsT (tyL cI cZ cJ) [.ref (a 0), .int x1, .ref o] sz (lo cJ o f ++ wC cI cZ a σ)) (va_Qi (fun k (u : (Nat → Int64) × SS) => P k (u.1 0) u.2) (bL (dC, dI) cI cZ cJ a o (va_A (lo cJ o f ++ wC cI cZ a σ) sz)) (va_A (lo cJ o f ++ wC cI cZ a σ) sz)) 1 6 (va_A (lo cJ o f ++ wC cI cZ a σ) sz) := by
  refine hdl (Qf := fun A => (va_Qi (fun k (u : (Nat → Int64) × SS) => P k (u.1 0) u.2) (bL (dC, dI) cI cZ cJ a o A) A)) (by decide) (Nat.le_of_ble_eq_true rfl) ?_
  intro p e s m below meth c A ls hx hb hr hts hown hlocks hml hK hP hD hS hA hl hX hO hE
  have hown : s.vm.findClass R_L = some m.cls := hown
  have hl : lv_has ls 4 [(0, .ref (a 0)), (1, .int x1), (2, .ref o)] := hl
  refine lv_aload_n hx hb d_L_load_0 rfl (lv_at hl 2 rfl) ?_
  refine lv_iconst (v := 0) hx hb d_L_load_1 (by decide) ?_
  refine lv_aload_n hx hb d_L_load_2 rfl (lv_at hl 0 rfl) ?_
  refine lv_iload_n hx hb d_L_load_3 rfl (lv_at hl 1 rfl) ?_
  refine x_callR (X := lo cJ o f) (w := wC cI cZ a) (As := [.int x1]) (rest := [.int 0, .ref o]) (k := 0) (ci := 0) ⟨hx, hb, hml, hown, hts⟩ (c_CN_load l hst dC dI cI cZ a _ σ x1 _ _ hw) (cwV 1 hts (gi_V (tm 719 rfl) (tm 720 rfl) (tm 721 rfl) (tm 290 rfl) (tm 523 rfl)) rfl rfl rfl (by decide +kernel) ⟨Nat.le_of_ble_eq_true rfl, Nat.le_of_ble_eq_true rfl⟩) rfl rfl hK hP hD hS hA hO rfl hl.1 rfl (lv_room (Nat.le_of_ble_eq_true rfl)) d_L_load_4 ⟨Nat.le_of_ble_eq_true rfl, Nat.le_of_ble_eq_true rfl⟩ ?_ ?_
  · intro r σ1 H locs hw hP hD hS
    refine lv_i2l (v := r.toInt64) hx hb d_L_load_7 rfl ?_
    refine va_last hx hb hK hP hD hS 0 2 rfl rfl (by rw [vp_in_iff]; decide) d_L_load_8 (fun H locs hP hD hS => ?_)
    refine lv_goto (tgt := 21) hx hb d_L_load_9 (by decide) ?_
    refine lv_iconst (v := 0) hx hb d_L_load_21 (by decide) ?_
    exact W.iret (v := 0) hx hb hr (fun t ht hW => ⟨⟨0, (vp_updL f 0 r.toInt64, σ1), rfl, by show P 0 (vp_updL f 0 r.toInt64 0) σ1; rw [pk_uLs]; exact hw, by rw [ht]; exact hP, va_K.moved hW.alike hK, hD⟩, hS.F ht⟩) hS.2.2 d_L_load_22 hlocks
  · intro E ce q9 σ1 H locs hw hP hD hS h1 h2 h3
    rcases hw with ⟨rfl, hw⟩ | ⟨rfl, hw⟩ | ⟨rfl, hw⟩
    · refine x_take hown [] ⟨0, 9, 12, 19⟩ [⟨0, 9, 15, 37⟩, ⟨0, 9, 18, 13⟩] (hX.trans rfl) (fun z hz => absurd hz List.not_mem_nil) (by decide) (by decide) (hts _ (tm 673 rfl)) (va_Nw.use rfl (hO.1 (.castable "java/lang/IllegalArgumentException" "java/lang/IllegalArgumentException") (by decide +kernel))) h1 h2 h3 ?_
      refine lv_astore_n (lv' := [(3, .ref q9), (0, .ref (a 0)), (1, .int x1), (2, .ref o)]) hx hb d_L_load_12 rfl hl (by decide) rfl (fun ls hl => ?_)
      refine lv_iconst (v := 1) hx hb d_L_load_13 (by decide) ?_
      exact W.iret (v := 1) hx hb hr (fun t ht hW => ⟨⟨1, (f, σ1), rfl, hw, by rw [ht]; exact hP, va_K.moved hW.alike hK, hD⟩, hS.F ht⟩) hS.2.2 d_L_load_14 hlocks
    · refine x_take hown [⟨0, 9, 12, 19⟩] ⟨0, 9, 15, 37⟩ [⟨0, 9, 18, 13⟩] (hX.trans rfl) (fun z hz => by cases List.mem_singleton.mp hz; exact Or.inr ⟨by decide, "java/lang/IllegalArgumentException", hts _ (tm 673 rfl), hE.2.1⟩) (by decide) (by decide) (hts _ (tm 718 rfl)) (va_Nw.use rfl (hO.1 (.castable "java/lang/IllegalStateException" "java/lang/IllegalStateException") (by decide +kernel))) h1 h2 h3 ?_
      refine lv_astore_n (lv' := [(3, .ref q9), (0, .ref (a 0)), (1, .int x1), (2, .ref o)]) hx hb d_L_load_15 rfl hl (by decide) rfl (fun ls hl => ?_)
      refine lv_iconst (v := 2) hx hb d_L_load_16 (by decide) ?_
      exact W.iret (v := 2) hx hb hr (fun t ht hW => ⟨⟨2, (f, σ1), rfl, hw, by rw [ht]; exact hP, va_K.moved hW.alike hK, hD⟩, hS.F ht⟩) hS.2.2 d_L_load_17 hlocks
    · refine x_take hown [⟨0, 9, 12, 19⟩, ⟨0, 9, 15, 37⟩] ⟨0, 9, 18, 13⟩ [] (hX.trans rfl) (fun z hz => by rcases List.mem_cons.mp hz with rfl | hz; exact Or.inr ⟨by decide, "java/lang/IllegalArgumentException", hts _ (tm 673 rfl), hE.1⟩; cases List.mem_singleton.mp hz; exact Or.inr ⟨by decide, "java/lang/IllegalStateException", hts _ (tm 718 rfl), hE.2.2⟩) (by decide) (by decide) (hts _ (tm 615 rfl)) (va_Nw.use rfl (hO.1 (.castable "java/lang/UnsupportedOperationException" "java/lang/UnsupportedOperationException") (by decide +kernel))) h1 h2 h3 ?_
      refine lv_astore_n (lv' := [(3, .ref q9), (0, .ref (a 0)), (1, .int x1), (2, .ref o)]) hx hb d_L_load_18 rfl hl (by decide) rfl (fun ls hl => ?_)
      refine lv_iconst (v := 3) hx hb d_L_load_19 (by decide) ?_
      exact W.iret (v := 3) hx hb hr (fun t ht hW => ⟨⟨3, (f, σ1), rfl, hw, by rw [ht]; exact hP, va_K.moved hW.alike hK, hD⟩, hS.F ht⟩) hS.2.2 d_L_load_20 hlocks
abbrev b_L_run : ByteArray := method_10_code
def y_L_run : MethodName := ⟨R_L, "run", "(LNetRoutes;I[J)I"⟩
theorem d_L_run_0 : decode b_L_run 0 = .ok (.aload_n 2, 1) := by decide +kernel
theorem d_L_run_1 : decode b_L_run 1 = .ok (.iconst 0, 1) := by decide +kernel
theorem d_L_run_2 : decode b_L_run 2 = .ok (.aload_n 0, 1) := by decide +kernel
theorem d_L_run_3 : decode b_L_run 3 = .ok (.iload_n 1, 1) := by decide +kernel
theorem d_L_run_4 : decode b_L_run 4 = .ok (.invokevirtual 39, 3) := by decide +kernel
theorem d_L_run_7 : decode b_L_run 7 = .ok (.i2l, 1) := by decide +kernel
theorem d_L_run_8 : decode b_L_run 8 = .ok (.lastore, 1) := by decide +kernel
theorem d_L_run_9 : decode b_L_run 9 = .ok (.goto 6, 3) := by decide +kernel
theorem d_L_run_12 : decode b_L_run 12 = .ok (.astore_n 3, 1) := by decide +kernel
theorem d_L_run_13 : decode b_L_run 13 = .ok (.iconst 1, 1) := by decide +kernel
theorem d_L_run_14 : decode b_L_run 14 = .ok (.ireturn, 1) := by decide +kernel
theorem d_L_run_15 : decode b_L_run 15 = .ok (.iconst 0, 1) := by decide +kernel
theorem d_L_run_16 : decode b_L_run 16 = .ok (.ireturn, 1) := by decide +kernel
set_option maxHeartbeats 4000000 in
set_option maxRecDepth 100000 in
theorem c_L_run (l : Launch) (hst : l.stackTraces = false) (dC : Nat → ClassId) (dI : Nat → Nat → Nat) (cI cZ cJ : ClassId) (a : Nat → Nat) (o sz : Nat) (σ : SS) (f : Nat → Int64) (x1 : Int32) (P : Int32 → Int64 → SS → Prop) (hw : wp_CN_run σ x1 (fun r σ1 => P 0 r.toInt64 σ1) (fun E σ1 => (E = "java/lang/IllegalArgumentException" ∧ P 1 (f 0) σ1))) : Met l y_L_run (.codeWith y_L_run b_L_run 4 (some .int) [(0, 9, 12, 19)] :: TT) { frames := 7, cells := 1, slots := 6, locals := 158 } (pL (dC, dI) clsT (tyL cI cZ cJ) [.ref (a 0), .int x1, .ref o] sz (lo cJ o f ++ wC cI cZ a σ)) (va_Qi (fun k (u : (Nat → Int64) × SS) => P k (u.1 0) u.2) (bL (dC, dI) cI cZ cJ a o (va_A (lo cJ o f ++ wC cI cZ a σ) sz)) (va_A (lo cJ o f ++ wC cI cZ a σ) sz)) 1 6 (va_A (lo cJ o f ++ wC cI cZ a σ) sz) := by
  refine hdl (Qf := fun A => (va_Qi (fun k (u : (Nat → Int64) × SS) => P k (u.1 0) u.2) (bL (dC, dI) cI cZ cJ a o A) A)) (by decide) (Nat.le_of_ble_eq_true rfl) ?_
  intro p e s m below meth c A ls hx hb hr hts hown hlocks hml hK hP hD hS hA hl hX hO hE
  have hown : s.vm.findClass R_L = some m.cls := hown
  have hl : lv_has ls 4 [(0, .ref (a 0)), (1, .int x1), (2, .ref o)] := hl
  refine lv_aload_n hx hb d_L_run_0 rfl (lv_at hl 2 rfl) ?_
  refine lv_iconst (v := 0) hx hb d_L_run_1 (by decide) ?_
  refine lv_aload_n hx hb d_L_run_2 rfl (lv_at hl 0 rfl) ?_
  refine lv_iload_n hx hb d_L_run_3 rfl (lv_at hl 1 rfl) ?_
  refine x_callR (X := lo cJ o f) (w := wC cI cZ a) (As := [.int x1]) (rest := [.int 0, .ref o]) (k := 0) (ci := 0) ⟨hx, hb, hml, hown, hts⟩ (c_CN_run l hst dC dI cI cZ a _ σ x1 _ _ hw) (cwV 1 hts (gi_V (tm 739 rfl) (tm 740 rfl) (tm 741 rfl) (tm 290 rfl) (tm 524 rfl)) rfl rfl rfl (by decide +kernel) ⟨Nat.le_of_ble_eq_true rfl, Nat.le_of_ble_eq_true rfl⟩) rfl rfl hK hP hD hS hA hO rfl hl.1 rfl (lv_room (Nat.le_of_ble_eq_true rfl)) d_L_run_4 ⟨Nat.le_of_ble_eq_true rfl, Nat.le_of_ble_eq_true rfl⟩ ?_ ?_
  · intro r σ1 H locs hw hP hD hS
    refine lv_i2l (v := r.toInt64) hx hb d_L_run_7 rfl ?_
    refine va_last hx hb hK hP hD hS 0 2 rfl rfl (by rw [vp_in_iff]; decide) d_L_run_8 (fun H locs hP hD hS => ?_)
    refine lv_goto (tgt := 15) hx hb d_L_run_9 (by decide) ?_
    refine lv_iconst (v := 0) hx hb d_L_run_15 (by decide) ?_
    exact W.iret (v := 0) hx hb hr (fun t ht hW => ⟨⟨0, (vp_updL f 0 r.toInt64, σ1), rfl, by show P 0 (vp_updL f 0 r.toInt64 0) σ1; rw [pk_uLs]; exact hw, by rw [ht]; exact hP, va_K.moved hW.alike hK, hD⟩, hS.F ht⟩) hS.2.2 d_L_run_16 hlocks
  · intro E ce q9 σ1 H locs hw hP hD hS h1 h2 h3
    obtain ⟨rfl, hw⟩ := hw
    refine x_take hown [] ⟨0, 9, 12, 19⟩ [] (hX.trans rfl) (fun z hz => absurd hz List.not_mem_nil) (by decide) (by decide) (hts _ (tm 673 rfl)) (va_Nw.use rfl (hO.1 (.castable "java/lang/IllegalArgumentException" "java/lang/IllegalArgumentException") (by decide +kernel))) h1 h2 h3 ?_
    refine lv_astore_n (lv' := [(3, .ref q9), (0, .ref (a 0)), (1, .int x1), (2, .ref o)]) hx hb d_L_run_12 rfl hl (by decide) rfl (fun ls hl => ?_)
    refine lv_iconst (v := 1) hx hb d_L_run_13 (by decide) ?_
    exact W.iret (v := 1) hx hb hr (fun t ht hW => ⟨⟨1, (f, σ1), rfl, hw, by rw [ht]; exact hP, va_K.moved hW.alike hK, hD⟩, hS.F ht⟩) hS.2.2 d_L_run_14 hlocks
abbrev b_L_packet : ByteArray := method_11_code
def y_L_packet : MethodName := ⟨R_L, "packet", "(LNetRoutes;II[J)I"⟩
theorem d_L_packet_0 : decode b_L_packet 0 = .ok (.aload_n 3, 1) := by decide +kernel
theorem d_L_packet_1 : decode b_L_packet 1 = .ok (.iconst 0, 1) := by decide +kernel
theorem d_L_packet_2 : decode b_L_packet 2 = .ok (.aload_n 0, 1) := by decide +kernel
theorem d_L_packet_3 : decode b_L_packet 3 = .ok (.iload_n 1, 1) := by decide +kernel
theorem d_L_packet_4 : decode b_L_packet 4 = .ok (.iload_n 2, 1) := by decide +kernel
theorem d_L_packet_5 : decode b_L_packet 5 = .ok (.invokevirtual 42, 3) := by decide +kernel
theorem d_L_packet_8 : decode b_L_packet 8 = .ok (.i2l, 1) := by decide +kernel
theorem d_L_packet_9 : decode b_L_packet 9 = .ok (.lastore, 1) := by decide +kernel
theorem d_L_packet_10 : decode b_L_packet 10 = .ok (.goto 7, 3) := by decide +kernel
theorem d_L_packet_13 : decode b_L_packet 13 = .ok (.astore 4, 2) := by decide +kernel
theorem d_L_packet_15 : decode b_L_packet 15 = .ok (.iconst 1, 1) := by decide +kernel
theorem d_L_packet_16 : decode b_L_packet 16 = .ok (.ireturn, 1) := by decide +kernel
theorem d_L_packet_17 : decode b_L_packet 17 = .ok (.iconst 0, 1) := by decide +kernel
theorem d_L_packet_18 : decode b_L_packet 18 = .ok (.ireturn, 1) := by decide +kernel
set_option maxHeartbeats 4000000 in
set_option maxRecDepth 100000 in
theorem c_L_packet (l : Launch) (hst : l.stackTraces = false) (dC : Nat → ClassId) (dI : Nat → Nat → Nat) (cI cZ cJ : ClassId) (a : Nat → Nat) (o sz : Nat) (σ : SS) (f : Nat → Int64) (x1 : Int32) (x2 : Int32) (P : Int32 → Int64 → SS → Prop) (hw : wp_CN_packet σ x1 x2 (fun r => P 0 r.toInt64 σ) (fun E σ1 => (E = "java/lang/IndexOutOfBoundsException" ∧ P 1 (f 0) σ1))) : Met l y_L_packet (.codeWith y_L_packet b_L_packet 5 (some .int) [(0, 10, 13, 46)] :: TT) { frames := 7, cells := 1, slots := 6, locals := 105 } (pL (dC, dI) clsT (tyL cI cZ cJ) [.ref (a 0), .int x1, .int x2, .ref o] sz (lo cJ o f ++ wC cI cZ a σ)) (va_Qi (fun k (u : (Nat → Int64) × SS) => P k (u.1 0) u.2) (bL (dC, dI) cI cZ cJ a o (va_A (lo cJ o f ++ wC cI cZ a σ) sz)) (va_A (lo cJ o f ++ wC cI cZ a σ) sz)) 1 6 (va_A (lo cJ o f ++ wC cI cZ a σ) sz) := by
  refine hdl (Qf := fun A => (va_Qi (fun k (u : (Nat → Int64) × SS) => P k (u.1 0) u.2) (bL (dC, dI) cI cZ cJ a o A) A)) (by decide) (Nat.le_of_ble_eq_true rfl) ?_
  intro p e s m below meth c A ls hx hb hr hts hown hlocks hml hK hP hD hS hA hl hX hO hE
  have hown : s.vm.findClass R_L = some m.cls := hown
  have hl : lv_has ls 5 [(0, .ref (a 0)), (1, .int x1), (2, .int x2), (3, .ref o)] := hl
  refine lv_aload_n hx hb d_L_packet_0 rfl (lv_at hl 3 rfl) ?_
  refine lv_iconst (v := 0) hx hb d_L_packet_1 (by decide) ?_
  refine lv_aload_n hx hb d_L_packet_2 rfl (lv_at hl 0 rfl) ?_
  refine lv_iload_n hx hb d_L_packet_3 rfl (lv_at hl 1 rfl) ?_
  refine lv_iload_n hx hb d_L_packet_4 rfl (lv_at hl 2 rfl) ?_
  refine x_callR (X := lo cJ o f) (w := wC cI cZ a) (As := [.int x1, .int x2]) (rest := [.int 0, .ref o]) (k := 0) (ci := 0) ⟨hx, hb, hml, hown, hts⟩ (c_CN_packet l hst dC dI cI cZ a _ σ x1 x2 _ _ hw) (cwV 2 hts (gi_V (tm 746 rfl) (tm 747 rfl) (tm 748 rfl) (tm 290 rfl) (tm 525 rfl)) rfl rfl rfl (by decide +kernel) ⟨Nat.le_of_ble_eq_true rfl, Nat.le_of_ble_eq_true rfl⟩) rfl rfl hK hP hD hS hA hO rfl hl.1 rfl (lv_room (Nat.le_of_ble_eq_true rfl)) d_L_packet_5 ⟨Nat.le_of_ble_eq_true rfl, Nat.le_of_ble_eq_true rfl⟩ ?_ ?_
  · intro r σ1 H locs hw hP hD hS
    obtain ⟨h9, hw⟩ := hw
    rw [h9] at hP hD
    refine lv_i2l (v := r.toInt64) hx hb d_L_packet_8 rfl ?_
    refine va_last hx hb hK hP hD hS 0 2 rfl rfl (by rw [vp_in_iff]; decide) d_L_packet_9 (fun H locs hP hD hS => ?_)
    refine lv_goto (tgt := 17) hx hb d_L_packet_10 (by decide) ?_
    refine lv_iconst (v := 0) hx hb d_L_packet_17 (by decide) ?_
    exact W.iret (v := 0) hx hb hr (fun t ht hW => ⟨⟨0, (vp_updL f 0 r.toInt64, σ), rfl, by show P 0 (vp_updL f 0 r.toInt64 0) σ; rw [pk_uLs]; exact hw, by rw [ht]; exact hP, va_K.moved hW.alike hK, hD⟩, hS.F ht⟩) hS.2.2 d_L_packet_18 hlocks
  · intro E ce q9 σ1 H locs hw hP hD hS h1 h2 h3
    obtain ⟨rfl, hw⟩ := hw
    refine x_take hown [] ⟨0, 10, 13, 46⟩ [] (hX.trans rfl) (fun z hz => absurd hz List.not_mem_nil) (by decide) (by decide) (hts _ (tm 745 rfl)) (va_Nw.use rfl (hO.1 (.castable "java/lang/IndexOutOfBoundsException" "java/lang/IndexOutOfBoundsException") (by decide +kernel))) h1 h2 h3 ?_
    refine lv_astore (lv' := [(4, .ref q9), (0, .ref (a 0)), (1, .int x1), (2, .int x2), (3, .ref o)]) hx hb d_L_packet_13 hl (by decide) rfl (fun ls hl => ?_)
    refine lv_iconst (v := 1) hx hb d_L_packet_15 (by decide) ?_
    exact W.iret (v := 1) hx hb hr (fun t ht hW => ⟨⟨1, (f, σ1), rfl, hw, by rw [ht]; exact hP, va_K.moved hW.alike hK, hD⟩, hS.F ht⟩) hS.2.2 d_L_packet_16 hlocks
abbrev b_L_channel : ByteArray := method_12_code
def y_L_channel : MethodName := ⟨R_L, "channel", "(LNetRoutes;II[J)I"⟩
theorem d_L_channel_0 : decode b_L_channel 0 = .ok (.aload_n 3, 1) := by decide +kernel
theorem d_L_channel_1 : decode b_L_channel 1 = .ok (.iconst 0, 1) := by decide +kernel
theorem d_L_channel_2 : decode b_L_channel 2 = .ok (.aload_n 0, 1) := by decide +kernel
theorem d_L_channel_3 : decode b_L_channel 3 = .ok (.iload_n 1, 1) := by decide +kernel
theorem d_L_channel_4 : decode b_L_channel 4 = .ok (.iload_n 2, 1) := by decide +kernel
theorem d_L_channel_5 : decode b_L_channel 5 = .ok (.invokevirtual 48, 3) := by decide +kernel
theorem d_L_channel_8 : decode b_L_channel 8 = .ok (.i2l, 1) := by decide +kernel
theorem d_L_channel_9 : decode b_L_channel 9 = .ok (.lastore, 1) := by decide +kernel
theorem d_L_channel_10 : decode b_L_channel 10 = .ok (.goto 7, 3) := by decide +kernel
theorem d_L_channel_13 : decode b_L_channel 13 = .ok (.astore 4, 2) := by decide +kernel
theorem d_L_channel_15 : decode b_L_channel 15 = .ok (.iconst 1, 1) := by decide +kernel
theorem d_L_channel_16 : decode b_L_channel 16 = .ok (.ireturn, 1) := by decide +kernel
theorem d_L_channel_17 : decode b_L_channel 17 = .ok (.iconst 0, 1) := by decide +kernel
theorem d_L_channel_18 : decode b_L_channel 18 = .ok (.ireturn, 1) := by decide +kernel
set_option maxHeartbeats 4000000 in
set_option maxRecDepth 100000 in
theorem c_L_channel (l : Launch) (hst : l.stackTraces = false) (dC : Nat → ClassId) (dI : Nat → Nat → Nat) (cI cZ cJ : ClassId) (a : Nat → Nat) (o sz : Nat) (σ : SS) (f : Nat → Int64) (x1 : Int32) (x2 : Int32) (P : Int32 → Int64 → SS → Prop) (hw : wp_CN_channel σ x1 x2 (fun r => P 0 r.toInt64 σ) (fun E σ1 => (E = "java/lang/IndexOutOfBoundsException" ∧ P 1 (f 0) σ1))) : Met l y_L_channel (.codeWith y_L_channel b_L_channel 5 (some .int) [(0, 10, 13, 46)] :: TT) { frames := 7, cells := 1, slots := 6, locals := 105 } (pL (dC, dI) clsT (tyL cI cZ cJ) [.ref (a 0), .int x1, .int x2, .ref o] sz (lo cJ o f ++ wC cI cZ a σ)) (va_Qi (fun k (u : (Nat → Int64) × SS) => P k (u.1 0) u.2) (bL (dC, dI) cI cZ cJ a o (va_A (lo cJ o f ++ wC cI cZ a σ) sz)) (va_A (lo cJ o f ++ wC cI cZ a σ) sz)) 1 6 (va_A (lo cJ o f ++ wC cI cZ a σ) sz) := by
  refine hdl (Qf := fun A => (va_Qi (fun k (u : (Nat → Int64) × SS) => P k (u.1 0) u.2) (bL (dC, dI) cI cZ cJ a o A) A)) (by decide) (Nat.le_of_ble_eq_true rfl) ?_
  intro p e s m below meth c A ls hx hb hr hts hown hlocks hml hK hP hD hS hA hl hX hO hE
  have hown : s.vm.findClass R_L = some m.cls := hown
  have hl : lv_has ls 5 [(0, .ref (a 0)), (1, .int x1), (2, .int x2), (3, .ref o)] := hl
  refine lv_aload_n hx hb d_L_channel_0 rfl (lv_at hl 3 rfl) ?_
  refine lv_iconst (v := 0) hx hb d_L_channel_1 (by decide) ?_
  refine lv_aload_n hx hb d_L_channel_2 rfl (lv_at hl 0 rfl) ?_
  refine lv_iload_n hx hb d_L_channel_3 rfl (lv_at hl 1 rfl) ?_
  refine lv_iload_n hx hb d_L_channel_4 rfl (lv_at hl 2 rfl) ?_
  refine x_callR (X := lo cJ o f) (w := wC cI cZ a) (As := [.int x1, .int x2]) (rest := [.int 0, .ref o]) (k := 0) (ci := 0) ⟨hx, hb, hml, hown, hts⟩ (c_CN_channel l hst dC dI cI cZ a _ σ x1 x2 _ _ hw) (cwV 2 hts (gi_V (tm 766 rfl) (tm 767 rfl) (tm 768 rfl) (tm 290 rfl) (tm 526 rfl)) rfl rfl rfl (by decide +kernel) ⟨Nat.le_of_ble_eq_true rfl, Nat.le_of_ble_eq_true rfl⟩) rfl rfl hK hP hD hS hA hO rfl hl.1 rfl (lv_room (Nat.le_of_ble_eq_true rfl)) d_L_channel_5 ⟨Nat.le_of_ble_eq_true rfl, Nat.le_of_ble_eq_true rfl⟩ ?_ ?_
  · intro r σ1 H locs hw hP hD hS
    obtain ⟨h9, hw⟩ := hw
    rw [h9] at hP hD
    refine lv_i2l (v := r.toInt64) hx hb d_L_channel_8 rfl ?_
    refine va_last hx hb hK hP hD hS 0 2 rfl rfl (by rw [vp_in_iff]; decide) d_L_channel_9 (fun H locs hP hD hS => ?_)
    refine lv_goto (tgt := 17) hx hb d_L_channel_10 (by decide) ?_
    refine lv_iconst (v := 0) hx hb d_L_channel_17 (by decide) ?_
    exact W.iret (v := 0) hx hb hr (fun t ht hW => ⟨⟨0, (vp_updL f 0 r.toInt64, σ), rfl, by show P 0 (vp_updL f 0 r.toInt64 0) σ; rw [pk_uLs]; exact hw, by rw [ht]; exact hP, va_K.moved hW.alike hK, hD⟩, hS.F ht⟩) hS.2.2 d_L_channel_18 hlocks
  · intro E ce q9 σ1 H locs hw hP hD hS h1 h2 h3
    obtain ⟨rfl, hw⟩ := hw
    refine x_take hown [] ⟨0, 10, 13, 46⟩ [] (hX.trans rfl) (fun z hz => absurd hz List.not_mem_nil) (by decide) (by decide) (hts _ (tm 745 rfl)) (va_Nw.use rfl (hO.1 (.castable "java/lang/IndexOutOfBoundsException" "java/lang/IndexOutOfBoundsException") (by decide +kernel))) h1 h2 h3 ?_
    refine lv_astore (lv' := [(4, .ref q9), (0, .ref (a 0)), (1, .int x1), (2, .int x2), (3, .ref o)]) hx hb d_L_channel_13 hl (by decide) rfl (fun ls hl => ?_)
    refine lv_iconst (v := 1) hx hb d_L_channel_15 (by decide) ?_
    exact W.iret (v := 1) hx hb hr (fun t ht hW => ⟨⟨1, (f, σ1), rfl, hw, by rw [ht]; exact hP, va_K.moved hW.alike hK, hD⟩, hS.F ht⟩) hS.2.2 d_L_channel_16 hlocks
abbrev b_L_ringAt : ByteArray := method_13_code
def y_L_ringAt : MethodName := ⟨R_L, "ringAt", "(LNetRoutes;I[J)I"⟩
theorem d_L_ringAt_0 : decode b_L_ringAt 0 = .ok (.aload_n 2, 1) := by decide +kernel
theorem d_L_ringAt_1 : decode b_L_ringAt 1 = .ok (.iconst 0, 1) := by decide +kernel
theorem d_L_ringAt_2 : decode b_L_ringAt 2 = .ok (.aload_n 0, 1) := by decide +kernel
theorem d_L_ringAt_3 : decode b_L_ringAt 3 = .ok (.iload_n 1, 1) := by decide +kernel
theorem d_L_ringAt_4 : decode b_L_ringAt 4 = .ok (.invokevirtual 51, 3) := by decide +kernel
theorem d_L_ringAt_7 : decode b_L_ringAt 7 = .ok (.i2l, 1) := by decide +kernel
theorem d_L_ringAt_8 : decode b_L_ringAt 8 = .ok (.lastore, 1) := by decide +kernel
theorem d_L_ringAt_9 : decode b_L_ringAt 9 = .ok (.goto 6, 3) := by decide +kernel
theorem d_L_ringAt_12 : decode b_L_ringAt 12 = .ok (.astore_n 3, 1) := by decide +kernel
theorem d_L_ringAt_13 : decode b_L_ringAt 13 = .ok (.iconst 1, 1) := by decide +kernel
theorem d_L_ringAt_14 : decode b_L_ringAt 14 = .ok (.ireturn, 1) := by decide +kernel
theorem d_L_ringAt_15 : decode b_L_ringAt 15 = .ok (.iconst 0, 1) := by decide +kernel
theorem d_L_ringAt_16 : decode b_L_ringAt 16 = .ok (.ireturn, 1) := by decide +kernel
set_option maxHeartbeats 4000000 in
set_option maxRecDepth 100000 in
theorem c_L_ringAt (l : Launch) (hst : l.stackTraces = false) (dC : Nat → ClassId) (dI : Nat → Nat → Nat) (cI cZ cJ : ClassId) (a : Nat → Nat) (o sz : Nat) (σ : SS) (f : Nat → Int64) (x1 : Int32) (P : Int32 → Int64 → SS → Prop) (hw : wp_CN_ringAt σ x1 (fun r σ1 => P 0 r.toInt64 σ1) (fun E σ1 => (E = "java/lang/IndexOutOfBoundsException" ∧ P 1 (f 0) σ1))) : Met l y_L_ringAt (.codeWith y_L_ringAt b_L_ringAt 4 (some .int) [(0, 9, 12, 46)] :: TT) { frames := 7, cells := 1, slots := 6, locals := 114 } (pL (dC, dI) clsT (tyL cI cZ cJ) [.ref (a 0), .int x1, .ref o] sz (lo cJ o f ++ wC cI cZ a σ)) (va_Qi (fun k (u : (Nat → Int64) × SS) => P k (u.1 0) u.2) (bL (dC, dI) cI cZ cJ a o (va_A (lo cJ o f ++ wC cI cZ a σ) sz)) (va_A (lo cJ o f ++ wC cI cZ a σ) sz)) 1 6 (va_A (lo cJ o f ++ wC cI cZ a σ) sz) := by
  refine hdl (Qf := fun A => (va_Qi (fun k (u : (Nat → Int64) × SS) => P k (u.1 0) u.2) (bL (dC, dI) cI cZ cJ a o A) A)) (by decide) (Nat.le_of_ble_eq_true rfl) ?_
  intro p e s m below meth c A ls hx hb hr hts hown hlocks hml hK hP hD hS hA hl hX hO hE
  have hown : s.vm.findClass R_L = some m.cls := hown
  have hl : lv_has ls 4 [(0, .ref (a 0)), (1, .int x1), (2, .ref o)] := hl
  refine lv_aload_n hx hb d_L_ringAt_0 rfl (lv_at hl 2 rfl) ?_
  refine lv_iconst (v := 0) hx hb d_L_ringAt_1 (by decide) ?_
  refine lv_aload_n hx hb d_L_ringAt_2 rfl (lv_at hl 0 rfl) ?_
  refine lv_iload_n hx hb d_L_ringAt_3 rfl (lv_at hl 1 rfl) ?_
  refine x_callR (X := lo cJ o f) (w := wC cI cZ a) (As := [.int x1]) (rest := [.int 0, .ref o]) (k := 0) (ci := 0) ⟨hx, hb, hml, hown, hts⟩ (c_CN_ringAt l hst dC dI cI cZ a _ σ x1 _ _ hw) (cwV 1 hts (gi_V (tm 772 rfl) (tm 773 rfl) (tm 774 rfl) (tm 290 rfl) (tm 528 rfl)) rfl rfl rfl (by decide +kernel) ⟨Nat.le_of_ble_eq_true rfl, Nat.le_of_ble_eq_true rfl⟩) rfl rfl hK hP hD hS hA hO rfl hl.1 rfl (lv_room (Nat.le_of_ble_eq_true rfl)) d_L_ringAt_4 ⟨Nat.le_of_ble_eq_true rfl, Nat.le_of_ble_eq_true rfl⟩ ?_ ?_
  · intro r σ1 H locs hw hP hD hS
    refine lv_i2l (v := r.toInt64) hx hb d_L_ringAt_7 rfl ?_
    refine va_last hx hb hK hP hD hS 0 2 rfl rfl (by rw [vp_in_iff]; decide) d_L_ringAt_8 (fun H locs hP hD hS => ?_)
    refine lv_goto (tgt := 15) hx hb d_L_ringAt_9 (by decide) ?_
    refine lv_iconst (v := 0) hx hb d_L_ringAt_15 (by decide) ?_
    exact W.iret (v := 0) hx hb hr (fun t ht hW => ⟨⟨0, (vp_updL f 0 r.toInt64, σ1), rfl, by show P 0 (vp_updL f 0 r.toInt64 0) σ1; rw [pk_uLs]; exact hw, by rw [ht]; exact hP, va_K.moved hW.alike hK, hD⟩, hS.F ht⟩) hS.2.2 d_L_ringAt_16 hlocks
  · intro E ce q9 σ1 H locs hw hP hD hS h1 h2 h3
    obtain ⟨rfl, hw⟩ := hw
    refine x_take hown [] ⟨0, 9, 12, 46⟩ [] (hX.trans rfl) (fun z hz => absurd hz List.not_mem_nil) (by decide) (by decide) (hts _ (tm 745 rfl)) (va_Nw.use rfl (hO.1 (.castable "java/lang/IndexOutOfBoundsException" "java/lang/IndexOutOfBoundsException") (by decide +kernel))) h1 h2 h3 ?_
    refine lv_astore_n (lv' := [(3, .ref q9), (0, .ref (a 0)), (1, .int x1), (2, .ref o)]) hx hb d_L_ringAt_12 rfl hl (by decide) rfl (fun ls hl => ?_)
    refine lv_iconst (v := 1) hx hb d_L_ringAt_13 (by decide) ?_
    exact W.iret (v := 1) hx hb hr (fun t ht hW => ⟨⟨1, (f, σ1), rfl, hw, by rw [ht]; exact hP, va_K.moved hW.alike hK, hD⟩, hS.F ht⟩) hS.2.2 d_L_ringAt_14 hlocks
