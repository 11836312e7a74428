/-! new int[n], new boolean[n] where the array classes are known -/
section NWA
variable {p : Program} {l : Launch} {e : Env} {R : Room} {s : State} {m : MethodId} {args : Array Value} {below : List Frame} {meth : Method} {c : Code} {H : Heap} {locs : List Loc} {cells slots : Nat} {Q : State → Prop}
variable {cc : ByteArray} {pc : Nat} {ls : Array Slot} {rest : List Value} {D : va_G} {cl : List vw_C} {A : Nat → Prop} {ws : va_W} {H0 : Heap} {cI cZ : ClassId}
set_option maxRecDepth 100000 in
theorem nw_i (hexec : p.tables.exec = Jvm.exec) (hb : c.code = cc) (hts : ∀ w ∈ TT, w.before args s = true) (hK : va_K D cl (tyT cI cZ) s) (hP : va_P D cl ws H) (hD : va_D A ws) (hS : va_S A H0 H locs) (hA : ∀ q, H0.size ≤ q → A q) {n : Int32} (hn : ¬ n < 0) {N : Nat} (hN : n.toNatClampNeg = N) (hby : N * componentBytes .int ≤ 536870912) (hcells : cells + 1 ≤ R.cells) (hslots : slots + N ≤ R.slots) (hdg : decode cc pc = .ok (.newarray .int, 2))
    (kk : ∀ (q : Nat) (H1 : Heap), va_P D cl (ws ++ [(q, .inl (cI, N, .inl (fun _ => 0)))]) H1 → va_D A (ws ++ [(q, .inl (cI, N, .inl (fun _ => 0)))]) → va_S A H0 H1 locs → W p l e R s m args below meth c H1 locs (cells + 1) (slots + N) Q (F0 m (pc + 2) ls (.ref q :: rest))) : W p l e R s m args below meth c H locs cells slots Q (F0 m pc ls (.int n :: rest)) := by
  have h9 : (Cond.arrayClass .int).before args s = true := hts _ (tm 569 rfl)
  refine va_newa (atype := .int) (ty := .int) hexec hb h9 rfl hK hP hD hS hA (a0 := (N, .inl (fun _ => 0))) (fun _ => rfl) hn hN hby hcells hslots hdg (fun q cA H1 hK1 hP1 hD1 hS1 => ?_)
  have e9 : cA = cI := by
    have h1 := (hK1.2 2 _ rfl).2
    have h2 := (hK1.2 0 _ rfl).2
    exact Option.some.inj (h1.symm.trans h2)
  subst e9
  exact kk q H1 hP1 hD1 hS1
set_option maxRecDepth 100000 in
theorem nw_z (hexec : p.tables.exec = Jvm.exec) (hb : c.code = cc) (hts : ∀ w ∈ TT, w.before args s = true) (hK : va_K D cl (tyT cI cZ) s) (hP : va_P D cl ws H) (hD : va_D A ws) (hS : va_S A H0 H locs) (hA : ∀ q, H0.size ≤ q → A q) {n : Int32} (hn : ¬ n < 0) {N : Nat} (hN : n.toNatClampNeg = N) (hby : N * componentBytes .boolean ≤ 536870912) (hcells : cells + 1 ≤ R.cells) (hslots : slots + N ≤ R.slots) (hdg : decode cc pc = .ok (.newarray .boolean, 2))
    (kk : ∀ (q : Nat) (H1 : Heap), va_P D cl (ws ++ [(q, .inl (cZ, N, .inl (fun _ => 0)))]) H1 → va_D A (ws ++ [(q, .inl (cZ, N, .inl (fun _ => 0)))]) → va_S A H0 H1 locs → W p l e R s m args below meth c H1 locs (cells + 1) (slots + N) Q (F0 m (pc + 2) ls (.ref q :: rest))) : W p l e R s m args below meth c H locs cells slots Q (F0 m pc ls (.int n :: rest)) := by
  have h9 : (Cond.arrayClass .boolean).before args s = true := hts _ (tm 570 rfl)
  refine va_newa (atype := .boolean) (ty := .boolean) hexec hb h9 rfl hK hP hD hS hA (a0 := (N, .inl (fun _ => 0))) (fun _ => rfl) hn hN hby hcells hslots hdg (fun q cA H1 hK1 hP1 hD1 hS1 => ?_)
  have e9 : cA = cZ := by
    have h1 := (hK1.2 2 _ rfl).2
    have h2 := (hK1.2 1 _ rfl).2
    exact Option.some.inj (h1.symm.trans h2)
  subst e9
  exact kk q H1 hP1 hD1 hS1
end NWA
/-- the head of a constructor -/
theorem hdi {l : Launch} {y : MethodName} {rm : Room} {D : va_G} {cl : List vw_C} {tys : List (ClassId × FieldType)} {av : List Value} {sz : Nat} {w0 : va_W} {Qf : (Nat → Prop) → Array Value → State → Outcome → State → Prop} {mc ms : Nat} {cc : ByteArray} {maxL : Nat} {ret : Option FieldType}
    (hy : plainName y.cls = true) (hi : y.name = "<init>") (hn : (lg_sl av).length ≤ maxL)
    (body : ∀ (p : Program) (e : Env) (s : State) (m : MethodId) (below : List Frame) (meth : Method) (c : Code) (A : Nat → Prop) (ls : Array Slot), p.tables.exec = Jvm.exec → c.code = cc → meth.sig.returnType = ret → (∀ w ∈ TT, w.before av.toArray s = true) → s.vm.findClass y.cls = some m.cls → meth.locks = false → c.maxLocals = maxL → va_K D cl tys s → va_P D cl w0 s.heap → va_D A w0 → va_S A s.heap s.heap [] → (∀ q, s.heap.size ≤ q → A q) → lv_has ls maxL (lv_args 0 av) → meth.name = "<init>" →
      W p l e rm s m av.toArray below meth c s.heap [] 0 0 (MQ below (Qf A) av.toArray s mc ms A) (F0 m 0 ls [])) : Met l y (.code y cc maxL ret :: TT) rm (pW D cl tys av sz w0) (Qf (va_A w0 sz)) mc ms (va_A w0 sz) := by
  refine Met.ofW (cc := cc) (maxL := maxL) (ret := ret) hy rfl ?_
  intro p e s m args below meth c s₁ B hml hv
  obtain ⟨rfl, hsz, hP, hK, hD0⟩ := hv
  subst hsz
  have hl := lv_entry av (n := maxL) hn
  rw [lg_entry_eq]
  exact body p e s m below meth c _ _ B.exec B.bytes B.returns (fun w h => atoms_spec (ws := .code y cc maxL ret :: TT) B.pre w (List.mem_cons_of_mem _ h)) (findClass_of_methodNamed B.named) B.notSynchronized hml hK hP (hD0.self (sz := s.heap.size)) va_S.rf (fun q h => Or.inr h) hl ((name_of_methodNamed B.named B.method).1.trans hi)
abbrev b_CP_init : ByteArray := prog_4_method_1_code
def y_CP_init : MethodName := ⟨R_CP, "<init>", "()V"⟩
theorem d_CP_init_0 : decode b_CP_init 0 = .ok (.aload_n 0, 1) := by decide +kernel
theorem d_CP_init_1 : decode b_CP_init 1 = .ok (.invokespecial 3, 3) := by decide +kernel
theorem d_CP_init_4 : decode b_CP_init 4 = .ok (.aload_n 0, 1) := by decide +kernel
theorem d_CP_init_5 : decode b_CP_init 5 = .ok (.bipush 40, 2) := by decide +kernel
theorem d_CP_init_7 : decode b_CP_init 7 = .ok (.newarray .int, 2) := by decide +kernel
theorem d_CP_init_9 : decode b_CP_init 9 = .ok (.putfield 9, 3) := by decide +kernel
theorem d_CP_init_12 : decode b_CP_init 12 = .ok (.aload_n 0, 1) := by decide +kernel
theorem d_CP_init_13 : decode b_CP_init 13 = .ok (.bipush 40, 2) := by decide +kernel
theorem d_CP_init_15 : decode b_CP_init 15 = .ok (.newarray .int, 2) := by decide +kernel
theorem d_CP_init_17 : decode b_CP_init 17 = .ok (.putfield 15, 3) := by decide +kernel
theorem d_CP_init_20 : decode b_CP_init 20 = .ok (.aload_n 0, 1) := by decide +kernel
theorem d_CP_init_21 : decode b_CP_init 21 = .ok (.bipush 40, 2) := by decide +kernel
theorem d_CP_init_23 : decode b_CP_init 23 = .ok (.newarray .int, 2) := by decide +kernel
theorem d_CP_init_25 : decode b_CP_init 25 = .ok (.putfield 18, 3) := by decide +kernel
theorem d_CP_init_28 : decode b_CP_init 28 = .ok (.aload_n 0, 1) := by decide +kernel
theorem d_CP_init_29 : decode b_CP_init 29 = .ok (.bipush 40, 2) := by decide +kernel
theorem d_CP_init_31 : decode b_CP_init 31 = .ok (.newarray .boolean, 2) := by decide +kernel
theorem d_CP_init_33 : decode b_CP_init 33 = .ok (.putfield 21, 3) := by decide +kernel
theorem d_CP_init_36 : decode b_CP_init 36 = .ok (.aload_n 0, 1) := by decide +kernel
theorem d_CP_init_37 : decode b_CP_init 37 = .ok (.sipush 256, 3) := by decide +kernel
theorem d_CP_init_40 : decode b_CP_init 40 = .ok (.newarray .int, 2) := by decide +kernel
theorem d_CP_init_42 : decode b_CP_init 42 = .ok (.putfield 25, 3) := by decide +kernel
theorem d_CP_init_45 : decode b_CP_init 45 = .ok (.aload_n 0, 1) := by decide +kernel
theorem d_CP_init_46 : decode b_CP_init 46 = .ok (.bipush 16, 2) := by decide +kernel
theorem d_CP_init_48 : decode b_CP_init 48 = .ok (.newarray .int, 2) := by decide +kernel
theorem d_CP_init_50 : decode b_CP_init 50 = .ok (.putfield 28, 3) := by decide +kernel
theorem d_CP_init_53 : decode b_CP_init 53 = .ok (.aload_n 0, 1) := by decide +kernel
theorem d_CP_init_54 : decode b_CP_init 54 = .ok (.getfield 25, 3) := by decide +kernel
theorem d_CP_init_57 : decode b_CP_init 57 = .ok (.iconst (-1), 1) := by decide +kernel
theorem d_CP_init_58 : decode b_CP_init 58 = .ok (.invokestatic 31, 3) := by decide +kernel
theorem d_CP_init_61 : decode b_CP_init 61 = .ok (.return_, 1) := by decide +kernel
def i_CP (cI cZ : ClassId) (h0 : Nat) (q : Nat → Nat) : va_W :=
  [(h0, .inr (1, [.int 0, .int 0, .ref (q 6), .ref (q 7), .ref (q 8), .ref (q 9), .ref (q 10), .ref (q 11)])), ((q 6), .inl (cI, 40, .inl (fun _ => 0))), ((q 7), .inl (cI, 40, .inl (fun _ => 0))), ((q 8), .inl (cI, 40, .inl (fun _ => 0))), ((q 9), .inl (cZ, 40, .inl (fun _ => 0))), ((q 10), .inl (cI, 256, .inl (fz (fun _ => 0) 256 (-1)))), ((q 11), .inl (cI, 16, .inl (fun _ => 0)))]
set_option maxHeartbeats 4000000 in
set_option maxRecDepth 100000 in
theorem c_CP_init (l : Launch) (dC : Nat → ClassId) (dI : Nat → Nat → Nat) (cI cZ : ClassId) (h0 sz : Nat) : Met l y_CP_init (.code y_CP_init b_CP_init 1 none :: TT) { frames := 1, cells := 6, slots := 432, locals := 23 } (pW (dC, dI) clsT (tyT cI cZ) [.ref h0] sz [(h0, .inr (1, [.int 0, .int 0, .null, .null, .null, .null, .null, .null]))]) (va_Qv (fun _ : Nat → Nat => True) (fun q t => va_P (dC, dI) clsT (i_CP cI cZ h0 q) t.heap ∧ va_K (dC, dI) clsT (tyT cI cZ) t ∧ va_D (va_A [(h0, .inr (1, [.int 0, .int 0, .null, .null, .null, .null, .null, .null]))] sz) (i_CP cI cZ h0 q)) (va_A [(h0, .inr (1, [.int 0, .int 0, .null, .null, .null, .null, .null, .null]))] sz)) 6 432 (va_A [(h0, .inr (1, [.int 0, .int 0, .null, .null, .null, .null, .null, .null]))] sz) := by
  refine hdi (Qf := fun A => (va_Qv (fun _ : Nat → Nat => True) (fun q t => va_P (dC, dI) clsT (i_CP cI cZ h0 q) t.heap ∧ va_K (dC, dI) clsT (tyT cI cZ) t ∧ va_D A (i_CP cI cZ h0 q)) A)) (by decide) rfl (Nat.le_of_ble_eq_true rfl) ?_
  intro p e s m below meth c A ls hx hb hr hts hown hlocks hml hK hP hD hS hA hl hin
  have hown : s.vm.findClass R_CP = some m.cls := hown
  have hl : lv_has ls 1 [(0, .ref h0)] := hl
  refine lv_aload_n hx hb d_CP_init_0 rfl (lv_at hl 0 rfl) ?_
  refine W.objInit hx hb hown (hts _ (tm 567 rfl)) (hts _ (tm 560 rfl)) (hts _ (tm 561 rfl)) rfl (by rw [hml]; exact hl.1) rfl d_CP_init_1 (Nat.le_of_ble_eq_true rfl) (Nat.le_of_ble_eq_true rfl) ?_
  refine W.eq (g2 := F0 m 4 ls []) rfl ?_
  refine lv_aload_n hx hb d_CP_init_4 rfl (lv_at hl 0 rfl) ?_
  refine lv_bipush (v := 40) hx hb d_CP_init_5 (by decide) ?_
  refine nw_i hx hb hts hK hP hD hS hA (by decide) (N := 40) (by decide) (by decide) (Nat.le_of_ble_eq_true rfl) (Nat.le_of_ble_eq_true rfl) d_CP_init_7 (fun q6 H hP hD hS => ?_)
  have hP : va_P (dC, dI) clsT [(h0, .inr (1, [.int 0, .int 0, .null, .null, .null, .null, .null, .null])), (q6, .inl (cI, 40, .inl (fun _ => 0)))] H := hP
  have hD : va_D A [(h0, .inr (1, [.int 0, .int 0, .null, .null, .null, .null, .null, .null])), (q6, .inl (cI, 40, .inl (fun _ => 0)))] := hD
  refine W.widen (k := 1) (n := 40) (Nat.le_of_ble_eq_true rfl) (Nat.le_of_ble_eq_true rfl) ?_
  refine va_putF (D := (dC, dI)) (ci := 1) (v := .ref q6) (ty := .array .int) (C := R_CP) (T := F_CP) (N := 8) hx hb hts in_CP t_CP t_CP_ok n_CP hown hK hP hD hS 0 rfl rfl 2 (by decide) (hts _ (tm 7 rfl)) (fun _ h9 => h9) rfl hin rfl (by decide +kernel) rfl rfl (Nat.le_of_ble_eq_true rfl) d_CP_init_9 (fun H locs hP hD hS => ?_)
  have hP : va_P (dC, dI) clsT [(h0, .inr (1, [.int 0, .int 0, .ref q6, .null, .null, .null, .null, .null])), (q6, .inl (cI, 40, .inl (fun _ => 0)))] H := hP
  have hD : va_D A [(h0, .inr (1, [.int 0, .int 0, .ref q6, .null, .null, .null, .null, .null])), (q6, .inl (cI, 40, .inl (fun _ => 0)))] := hD
  refine lv_aload_n hx hb d_CP_init_12 rfl (lv_at hl 0 rfl) ?_
  refine lv_bipush (v := 40) hx hb d_CP_init_13 (by decide) ?_
  refine nw_i hx hb hts hK hP hD hS hA (by decide) (N := 40) (by decide) (by decide) (Nat.le_of_ble_eq_true rfl) (Nat.le_of_ble_eq_true rfl) d_CP_init_15 (fun q7 H hP hD hS => ?_)
  have hP : va_P (dC, dI) clsT [(h0, .inr (1, [.int 0, .int 0, .ref q6, .null, .null, .null, .null, .null])), (q6, .inl (cI, 40, .inl (fun _ => 0))), (q7, .inl (cI, 40, .inl (fun _ => 0)))] H := hP
  have hD : va_D A [(h0, .inr (1, [.int 0, .int 0, .ref q6, .null, .null, .null, .null, .null])), (q6, .inl (cI, 40, .inl (fun _ => 0))), (q7, .inl (cI, 40, .inl (fun _ => 0)))] := hD
  refine W.widen (k := 2) (n := 80) (Nat.le_of_ble_eq_true rfl) (Nat.le_of_ble_eq_true rfl) ?_
  refine va_putF (D := (dC, dI)) (ci := 1) (v := .ref q7) (ty := .array .int) (C := R_CP) (T := F_CP) (N := 8) hx hb hts in_CP t_CP t_CP_ok n_CP hown hK hP hD hS 0 rfl rfl 3 (by decide) (hts _ (tm 8 rfl)) (fun _ h9 => h9) rfl hin rfl (by decide +kernel) rfl rfl (Nat.le_of_ble_eq_true rfl) d_CP_init_17 (fun H locs hP hD hS => ?_)
  have hP : va_P (dC, dI) clsT [(h0, .inr (1, [.int 0, .int 0, .ref q6, .ref q7, .null, .null, .null, .null])), (q6, .inl (cI, 40, .inl (fun _ => 0))), (q7, .inl (cI, 40, .inl (fun _ => 0)))] H := hP
  have hD : va_D A [(h0, .inr (1, [.int 0, .int 0, .ref q6, .ref q7, .null, .null, .null, .null])), (q6, .inl (cI, 40, .inl (fun _ => 0))), (q7, .inl (cI, 40, .inl (fun _ => 0)))] := hD
  refine lv_aload_n hx hb d_CP_init_20 rfl (lv_at hl 0 rfl) ?_
  refine lv_bipush (v := 40) hx hb d_CP_init_21 (by decide) ?_
  refine nw_i hx hb hts hK hP hD hS hA (by decide) (N := 40) (by decide) (by decide) (Nat.le_of_ble_eq_true rfl) (Nat.le_of_ble_eq_true rfl) d_CP_init_23 (fun q8 H hP hD hS => ?_)
  have hP : va_P (dC, dI) clsT [(h0, .inr (1, [.int 0, .int 0, .ref q6, .ref q7, .null, .null, .null, .null])), (q6, .inl (cI, 40, .inl (fun _ => 0))), (q7, .inl (cI, 40, .inl (fun _ => 0))), (q8, .inl (cI, 40, .inl (fun _ => 0)))] H := hP
  have hD : va_D A [(h0, .inr (1, [.int 0, .int 0, .ref q6, .ref q7, .null, .null, .null, .null])), (q6, .inl (cI, 40, .inl (fun _ => 0))), (q7, .inl (cI, 40, .inl (fun _ => 0))), (q8, .inl (cI, 40, .inl (fun _ => 0)))] := hD
  refine W.widen (k := 3) (n := 120) (Nat.le_of_ble_eq_true rfl) (Nat.le_of_ble_eq_true rfl) ?_
  refine va_putF (D := (dC, dI)) (ci := 1) (v := .ref q8) (ty := .array .int) (C := R_CP) (T := F_CP) (N := 8) hx hb hts in_CP t_CP t_CP_ok n_CP hown hK hP hD hS 0 rfl rfl 4 (by decide) (hts _ (tm 9 rfl)) (fun _ h9 => h9) rfl hin rfl (by decide +kernel) rfl rfl (Nat.le_of_ble_eq_true rfl) d_CP_init_25 (fun H locs hP hD hS => ?_)
  have hP : va_P (dC, dI) clsT [(h0, .inr (1, [.int 0, .int 0, .ref q6, .ref q7, .ref q8, .null, .null, .null])), (q6, .inl (cI, 40, .inl (fun _ => 0))), (q7, .inl (cI, 40, .inl (fun _ => 0))), (q8, .inl (cI, 40, .inl (fun _ => 0)))] H := hP
  have hD : va_D A [(h0, .inr (1, [.int 0, .int 0, .ref q6, .ref q7, .ref q8, .null, .null, .null])), (q6, .inl (cI, 40, .inl (fun _ => 0))), (q7, .inl (cI, 40, .inl (fun _ => 0))), (q8, .inl (cI, 40, .inl (fun _ => 0)))] := hD
  refine lv_aload_n hx hb d_CP_init_28 rfl (lv_at hl 0 rfl) ?_
  refine lv_bipush (v := 40) hx hb d_CP_init_29 (by decide) ?_
  refine nw_z hx hb hts hK hP hD hS hA (by decide) (N := 40) (by decide) (by decide) (Nat.le_of_ble_eq_true rfl) (Nat.le_of_ble_eq_true rfl) d_CP_init_31 (fun q9 H hP hD hS => ?_)
  have hP : va_P (dC, dI) clsT [(h0, .inr (1, [.int 0, .int 0, .ref q6, .ref q7, .ref q8, .null, .null, .null])), (q6, .inl (cI, 40, .inl (fun _ => 0))), (q7, .inl (cI, 40, .inl (fun _ => 0))), (q8, .inl (cI, 40, .inl (fun _ => 0))), (q9, .inl (cZ, 40, .inl (fun _ => 0)))] H := hP
  have hD : va_D A [(h0, .inr (1, [.int 0, .int 0, .ref q6, .ref q7, .ref q8, .null, .null, .null])), (q6, .inl (cI, 40, .inl (fun _ => 0))), (q7, .inl (cI, 40, .inl (fun _ => 0))), (q8, .inl (cI, 40, .inl (fun _ => 0))), (q9, .inl (cZ, 40, .inl (fun _ => 0)))] := hD
  refine W.widen (k := 4) (n := 160) (Nat.le_of_ble_eq_true rfl) (Nat.le_of_ble_eq_true rfl) ?_
  refine va_putF (D := (dC, dI)) (ci := 1) (v := .ref q9) (ty := .array .boolean) (C := R_CP) (T := F_CP) (N := 8) hx hb hts in_CP t_CP t_CP_ok n_CP hown hK hP hD hS 0 rfl rfl 5 (by decide) (hts _ (tm 15 rfl)) (fun _ h9 => h9) rfl hin rfl (by decide +kernel) rfl rfl (Nat.le_of_ble_eq_true rfl) d_CP_init_33 (fun H locs hP hD hS => ?_)
  have hP : va_P (dC, dI) clsT [(h0, .inr (1, [.int 0, .int 0, .ref q6, .ref q7, .ref q8, .ref q9, .null, .null])), (q6, .inl (cI, 40, .inl (fun _ => 0))), (q7, .inl (cI, 40, .inl (fun _ => 0))), (q8, .inl (cI, 40, .inl (fun _ => 0))), (q9, .inl (cZ, 40, .inl (fun _ => 0)))] H := hP
  have hD : va_D A [(h0, .inr (1, [.int 0, .int 0, .ref q6, .ref q7, .ref q8, .ref q9, .null, .null])), (q6, .inl (cI, 40, .inl (fun _ => 0))), (q7, .inl (cI, 40, .inl (fun _ => 0))), (q8, .inl (cI, 40, .inl (fun _ => 0))), (q9, .inl (cZ, 40, .inl (fun _ => 0)))] := hD
  refine lv_aload_n hx hb d_CP_init_36 rfl (lv_at hl 0 rfl) ?_
  refine lv_sipush (v := 256) hx hb d_CP_init_37 (by decide) ?_
  refine nw_i hx hb hts hK hP hD hS hA (by decide) (N := 256) (by decide) (by decide) (Nat.le_of_ble_eq_true rfl) (Nat.le_of_ble_eq_true rfl) d_CP_init_40 (fun q10 H hP hD hS => ?_)
  have hP : va_P (dC, dI) clsT [(h0, .inr (1, [.int 0, .int 0, .ref q6, .ref q7, .ref q8, .ref q9, .null, .null])), (q6, .inl (cI, 40, .inl (fun _ => 0))), (q7, .inl (cI, 40, .inl (fun _ => 0))), (q8, .inl (cI, 40, .inl (fun _ => 0))), (q9, .inl (cZ, 40, .inl (fun _ => 0))), (q10, .inl (cI, 256, .inl (fun _ => 0)))] H := hP
  have hD : va_D A [(h0, .inr (1, [.int 0, .int 0, .ref q6, .ref q7, .ref q8, .ref q9, .null, .null])), (q6, .inl (cI, 40, .inl (fun _ => 0))), (q7, .inl (cI, 40, .inl (fun _ => 0))), (q8, .inl (cI, 40, .inl (fun _ => 0))), (q9, .inl (cZ, 40, .inl (fun _ => 0))), (q10, .inl (cI, 256, .inl (fun _ => 0)))] := hD
  refine W.widen (k := 5) (n := 416) (Nat.le_of_ble_eq_true rfl) (Nat.le_of_ble_eq_true rfl) ?_
  refine va_putF (D := (dC, dI)) (ci := 1) (v := .ref q10) (ty := .array .int) (C := R_CP) (T := F_CP) (N := 8) hx hb hts in_CP t_CP t_CP_ok n_CP hown hK hP hD hS 0 rfl rfl 6 (by decide) (hts _ (tm 10 rfl)) (fun _ h9 => h9) rfl hin rfl (by decide +kernel) rfl rfl (Nat.le_of_ble_eq_true rfl) d_CP_init_42 (fun H locs hP hD hS => ?_)
  have hP : va_P (dC, dI) clsT [(h0, .inr (1, [.int 0, .int 0, .ref q6, .ref q7, .ref q8, .ref q9, .ref q10, .null])), (q6, .inl (cI, 40, .inl (fun _ => 0))), (q7, .inl (cI, 40, .inl (fun _ => 0))), (q8, .inl (cI, 40, .inl (fun _ => 0))), (q9, .inl (cZ, 40, .inl (fun _ => 0))), (q10, .inl (cI, 256, .inl (fun _ => 0)))] H := hP
  have hD : va_D A [(h0, .inr (1, [.int 0, .int 0, .ref q6, .ref q7, .ref q8, .ref q9, .ref q10, .null])), (q6, .inl (cI, 40, .inl (fun _ => 0))), (q7, .inl (cI, 40, .inl (fun _ => 0))), (q8, .inl (cI, 40, .inl (fun _ => 0))), (q9, .inl (cZ, 40, .inl (fun _ => 0))), (q10, .inl (cI, 256, .inl (fun _ => 0)))] := hD
  refine lv_aload_n hx hb d_CP_init_45 rfl (lv_at hl 0 rfl) ?_
  refine lv_bipush (v := 16) hx hb d_CP_init_46 (by decide) ?_
  refine nw_i hx hb hts hK hP hD hS hA (by decide) (N := 16) (by decide) (by decide) (Nat.le_of_ble_eq_true rfl) (Nat.le_of_ble_eq_true rfl) d_CP_init_48 (fun q11 H hP hD hS => ?_)
  have hP : va_P (dC, dI) clsT [(h0, .inr (1, [.int 0, .int 0, .ref q6, .ref q7, .ref q8, .ref q9, .ref q10, .null])), (q6, .inl (cI, 40, .inl (fun _ => 0))), (q7, .inl (cI, 40, .inl (fun _ => 0))), (q8, .inl (cI, 40, .inl (fun _ => 0))), (q9, .inl (cZ, 40, .inl (fun _ => 0))), (q10, .inl (cI, 256, .inl (fun _ => 0))), (q11, .inl (cI, 16, .inl (fun _ => 0)))] H := hP
  have hD : va_D A [(h0, .inr (1, [.int 0, .int 0, .ref q6, .ref q7, .ref q8, .ref q9, .ref q10, .null])), (q6, .inl (cI, 40, .inl (fun _ => 0))), (q7, .inl (cI, 40, .inl (fun _ => 0))), (q8, .inl (cI, 40, .inl (fun _ => 0))), (q9, .inl (cZ, 40, .inl (fun _ => 0))), (q10, .inl (cI, 256, .inl (fun _ => 0))), (q11, .inl (cI, 16, .inl (fun _ => 0)))] := hD
  refine W.widen (k := 6) (n := 432) (Nat.le_of_ble_eq_true rfl) (Nat.le_of_ble_eq_true rfl) ?_
  refine va_putF (D := (dC, dI)) (ci := 1) (v := .ref q11) (ty := .array .int) (C := R_CP) (T := F_CP) (N := 8) hx hb hts in_CP t_CP t_CP_ok n_CP hown hK hP hD hS 0 rfl rfl 7 (by decide) (hts _ (tm 24 rfl)) (fun _ h9 => h9) rfl hin rfl (by decide +kernel) rfl rfl (Nat.le_of_ble_eq_true rfl) d_CP_init_50 (fun H locs hP hD hS => ?_)
  have hP : va_P (dC, dI) clsT [(h0, .inr (1, [.int 0, .int 0, .ref q6, .ref q7, .ref q8, .ref q9, .ref q10, .ref q11])), (q6, .inl (cI, 40, .inl (fun _ => 0))), (q7, .inl (cI, 40, .inl (fun _ => 0))), (q8, .inl (cI, 40, .inl (fun _ => 0))), (q9, .inl (cZ, 40, .inl (fun _ => 0))), (q10, .inl (cI, 256, .inl (fun _ => 0))), (q11, .inl (cI, 16, .inl (fun _ => 0)))] H := hP
  have hD : va_D A [(h0, .inr (1, [.int 0, .int 0, .ref q6, .ref q7, .ref q8, .ref q9, .ref q10, .ref q11])), (q6, .inl (cI, 40, .inl (fun _ => 0))), (q7, .inl (cI, 40, .inl (fun _ => 0))), (q8, .inl (cI, 40, .inl (fun _ => 0))), (q9, .inl (cZ, 40, .inl (fun _ => 0))), (q10, .inl (cI, 256, .inl (fun _ => 0))), (q11, .inl (cI, 16, .inl (fun _ => 0)))] := hD
  refine lv_aload_n hx hb d_CP_init_53 rfl (lv_at hl 0 rfl) ?_
  refine va_get (D := (dC, dI)) (ci := 1) (v := .ref q10) (C := R_CP) (T := F_CP) (N := 8) hx hb hts in_CP hown hK hP 0 rfl rfl 6 (by decide) (hts _ (tm 10 rfl)) (fun _ h9 => h9) rfl d_CP_init_54 ?_
  refine lv_iconst (v := (-1)) hx hb d_CP_init_57 (by decide) ?_
  refine cl_fillG (rest := []) (v := (-1)) ⟨hx, hb, hml, hown, hts⟩ hK hP hD hS hA 5 rfl rfl (by decide) (gi_S9 (tm 25 rfl) (tm 26 rfl) (tm 27 rfl) (tm 28 rfl)) ⟨Nat.le_of_ble_eq_true rfl, Nat.le_of_ble_eq_true rfl⟩ hl.1 (lv_room (Nat.le_of_ble_eq_true rfl)) ⟨Nat.le_of_ble_eq_true rfl, Nat.le_of_ble_eq_true rfl⟩ d_CP_init_58 (fun H locs hP hD hS => ?_)
  have hP : va_P (dC, dI) clsT [(h0, .inr (1, [.int 0, .int 0, .ref q6, .ref q7, .ref q8, .ref q9, .ref q10, .ref q11])), (q6, .inl (cI, 40, .inl (fun _ => 0))), (q7, .inl (cI, 40, .inl (fun _ => 0))), (q8, .inl (cI, 40, .inl (fun _ => 0))), (q9, .inl (cZ, 40, .inl (fun _ => 0))), (q10, .inl (cI, 256, .inl (fz (fun _ => 0) 256 (-1)))), (q11, .inl (cI, 16, .inl (fun _ => 0)))] H := hP
  have hD : va_D A [(h0, .inr (1, [.int 0, .int 0, .ref q6, .ref q7, .ref q8, .ref q9, .ref q10, .ref q11])), (q6, .inl (cI, 40, .inl (fun _ => 0))), (q7, .inl (cI, 40, .inl (fun _ => 0))), (q8, .inl (cI, 40, .inl (fun _ => 0))), (q9, .inl (cZ, 40, .inl (fun _ => 0))), (q10, .inl (cI, 256, .inl (fz (fun _ => 0) 256 (-1)))), (q11, .inl (cI, 16, .inl (fun _ => 0)))] := hD
  exact W.vret hx hb hr (fun t ht hW => ⟨⟨(fun k => if k = 6 then q6 else if k = 7 then q7 else if k = 8 then q8 else if k = 9 then q9 else if k = 10 then q10 else if k = 11 then q11 else 0), rfl, trivial, by rw [ht]; exact hP, va_K.moved hW.alike hK, hD⟩, hS.F ht⟩) hS.2.2 d_CP_init_61 hlocks
abbrev b_CK_init : ByteArray := prog_3_method_1_code
def y_CK_init : MethodName := ⟨R_CK, "<init>", "()V"⟩
theorem d_CK_init_0 : decode b_CK_init 0 = .ok (.aload_n 0, 1) := by decide +kernel
theorem d_CK_init_1 : decode b_CK_init 1 = .ok (.invokespecial 3, 3) := by decide +kernel
theorem d_CK_init_4 : decode b_CK_init 4 = .ok (.aload_n 0, 1) := by decide +kernel
theorem d_CK_init_5 : decode b_CK_init 5 = .ok (.sipush 400, 3) := by decide +kernel
theorem d_CK_init_8 : decode b_CK_init 8 = .ok (.newarray .int, 2) := by decide +kernel
theorem d_CK_init_10 : decode b_CK_init 10 = .ok (.putfield 9, 3) := by decide +kernel
theorem d_CK_init_13 : decode b_CK_init 13 = .ok (.aload_n 0, 1) := by decide +kernel
theorem d_CK_init_14 : decode b_CK_init 14 = .ok (.sipush 400, 3) := by decide +kernel
theorem d_CK_init_17 : decode b_CK_init 17 = .ok (.newarray .int, 2) := by decide +kernel
theorem d_CK_init_19 : decode b_CK_init 19 = .ok (.putfield 15, 3) := by decide +kernel
theorem d_CK_init_22 : decode b_CK_init 22 = .ok (.aload_n 0, 1) := by decide +kernel
theorem d_CK_init_23 : decode b_CK_init 23 = .ok (.sipush 400, 3) := by decide +kernel
theorem d_CK_init_26 : decode b_CK_init 26 = .ok (.newarray .int, 2) := by decide +kernel
theorem d_CK_init_28 : decode b_CK_init 28 = .ok (.putfield 18, 3) := by decide +kernel
theorem d_CK_init_31 : decode b_CK_init 31 = .ok (.aload_n 0, 1) := by decide +kernel
theorem d_CK_init_32 : decode b_CK_init 32 = .ok (.sipush 400, 3) := by decide +kernel
theorem d_CK_init_35 : decode b_CK_init 35 = .ok (.newarray .int, 2) := by decide +kernel
theorem d_CK_init_37 : decode b_CK_init 37 = .ok (.putfield 21, 3) := by decide +kernel
theorem d_CK_init_40 : decode b_CK_init 40 = .ok (.aload_n 0, 1) := by decide +kernel
theorem d_CK_init_41 : decode b_CK_init 41 = .ok (.sipush 400, 3) := by decide +kernel
theorem d_CK_init_44 : decode b_CK_init 44 = .ok (.newarray .int, 2) := by decide +kernel
theorem d_CK_init_46 : decode b_CK_init 46 = .ok (.putfield 24, 3) := by decide +kernel
theorem d_CK_init_49 : decode b_CK_init 49 = .ok (.return_, 1) := by decide +kernel
def i_CK (cI cZ : ClassId) (h0 : Nat) (q : Nat → Nat) : va_W :=
  [(h0, .inr (2, [.int 0, .int 0, .ref (q 12), .ref (q 13), .ref (q 14), .ref (q 15), .ref (q 16)])), ((q 12), .inl (cI, 400, .inl (fun _ => 0))), ((q 13), .inl (cI, 400, .inl (fun _ => 0))), ((q 14), .inl (cI, 400, .inl (fun _ => 0))), ((q 15), .inl (cI, 400, .inl (fun _ => 0))), ((q 16), .inl (cI, 400, .inl (fun _ => 0)))]
set_option maxHeartbeats 4000000 in
set_option maxRecDepth 100000 in
theorem c_CK_init (l : Launch) (dC : Nat → ClassId) (dI : Nat → Nat → Nat) (cI cZ : ClassId) (h0 sz : Nat) : Met l y_CK_init (.code y_CK_init b_CK_init 1 none :: TT) { frames := 1, cells := 5, slots := 2000, locals := 23 } (pW (dC, dI) clsT (tyT cI cZ) [.ref h0] sz [(h0, .inr (2, [.int 0, .int 0, .null, .null, .null, .null, .null]))]) (va_Qv (fun _ : Nat → Nat => True) (fun q t => va_P (dC, dI) clsT (i_CK cI cZ h0 q) t.heap ∧ va_K (dC, dI) clsT (tyT cI cZ) t ∧ va_D (va_A [(h0, .inr (2, [.int 0, .int 0, .null, .null, .null, .null, .null]))] sz) (i_CK cI cZ h0 q)) (va_A [(h0, .inr (2, [.int 0, .int 0, .null, .null, .null, .null, .null]))] sz)) 5 2000 (va_A [(h0, .inr (2, [.int 0, .int 0, .null, .null, .null, .null, .null]))] sz) := by
  refine hdi (Qf := fun A => (va_Qv (fun _ : Nat → Nat => True) (fun q t => va_P (dC, dI) clsT (i_CK cI cZ h0 q) t.heap ∧ va_K (dC, dI) clsT (tyT cI cZ) t ∧ va_D A (i_CK cI cZ h0 q)) A)) (by decide) rfl (Nat.le_of_ble_eq_true rfl) ?_
  intro p e s m below meth c A ls hx hb hr hts hown hlocks hml hK hP hD hS hA hl hin
  have hown : s.vm.findClass R_CK = some m.cls := hown
  have hl : lv_has ls 1 [(0, .ref h0)] := hl
  refine lv_aload_n hx hb d_CK_init_0 rfl (lv_at hl 0 rfl) ?_
  refine W.objInit hx hb hown (hts _ (tm 575 rfl)) (hts _ (tm 560 rfl)) (hts _ (tm 561 rfl)) rfl (by rw [hml]; exact hl.1) rfl d_CK_init_1 (Nat.le_of_ble_eq_true rfl) (Nat.le_of_ble_eq_true rfl) ?_
  refine W.eq (g2 := F0 m 4 ls []) rfl ?_
  refine lv_aload_n hx hb d_CK_init_4 rfl (lv_at hl 0 rfl) ?_
  refine lv_sipush (v := 400) hx hb d_CK_init_5 (by decide) ?_
  refine nw_i hx hb hts hK hP hD hS hA (by decide) (N := 400) (by decide) (by decide) (Nat.le_of_ble_eq_true rfl) (Nat.le_of_ble_eq_true rfl) d_CK_init_8 (fun q12 H hP hD hS => ?_)
  have hP : va_P (dC, dI) clsT [(h0, .inr (2, [.int 0, .int 0, .null, .null, .null, .null, .null])), (q12, .inl (cI, 400, .inl (fun _ => 0)))] H := hP
  have hD : va_D A [(h0, .inr (2, [.int 0, .int 0, .null, .null, .null, .null, .null])), (q12, .inl (cI, 400, .inl (fun _ => 0)))] := hD
  refine W.widen (k := 1) (n := 400) (Nat.le_of_ble_eq_true rfl) (Nat.le_of_ble_eq_true rfl) ?_
  refine va_putF (D := (dC, dI)) (ci := 2) (v := .ref q12) (ty := .array .int) (C := R_CK) (T := F_CK) (N := 7) hx hb hts in_CK t_CK t_CK_ok n_CK hown hK hP hD hS 0 rfl rfl 2 (by decide) (hts _ (tm 38 rfl)) (fun _ h9 => h9) rfl hin rfl (by decide +kernel) rfl rfl (Nat.le_of_ble_eq_true rfl) d_CK_init_10 (fun H locs hP hD hS => ?_)
  have hP : va_P (dC, dI) clsT [(h0, .inr (2, [.int 0, .int 0, .ref q12, .null, .null, .null, .null])), (q12, .inl (cI, 400, .inl (fun _ => 0)))] H := hP
  have hD : va_D A [(h0, .inr (2, [.int 0, .int 0, .ref q12, .null, .null, .null, .null])), (q12, .inl (cI, 400, .inl (fun _ => 0)))] := hD
  refine lv_aload_n hx hb d_CK_init_13 rfl (lv_at hl 0 rfl) ?_
  refine lv_sipush (v := 400) hx hb d_CK_init_14 (by decide) ?_
  refine nw_i hx hb hts hK hP hD hS hA (by decide) (N := 400) (by decide) (by decide) (Nat.le_of_ble_eq_true rfl) (Nat.le_of_ble_eq_true rfl) d_CK_init_17 (fun q13 H hP hD hS => ?_)
  have hP : va_P (dC, dI) clsT [(h0, .inr (2, [.int 0, .int 0, .ref q12, .null, .null, .null, .null])), (q12, .inl (cI, 400, .inl (fun _ => 0))), (q13, .inl (cI, 400, .inl (fun _ => 0)))] H := hP
  have hD : va_D A [(h0, .inr (2, [.int 0, .int 0, .ref q12, .null, .null, .null, .null])), (q12, .inl (cI, 400, .inl (fun _ => 0))), (q13, .inl (cI, 400, .inl (fun _ => 0)))] := hD
  refine W.widen (k := 2) (n := 800) (Nat.le_of_ble_eq_true rfl) (Nat.le_of_ble_eq_true rfl) ?_
  refine va_putF (D := (dC, dI)) (ci := 2) (v := .ref q13) (ty := .array .int) (C := R_CK) (T := F_CK) (N := 7) hx hb hts in_CK t_CK t_CK_ok n_CK hown hK hP hD hS 0 rfl rfl 3 (by decide) (hts _ (tm 39 rfl)) (fun _ h9 => h9) rfl hin rfl (by decide +kernel) rfl rfl (Nat.le_of_ble_eq_true rfl) d_CK_init_19 (fun H locs hP hD hS => ?_)
  have hP : va_P (dC, dI) clsT [(h0, .inr (2, [.int 0, .int 0, .ref q12, .ref q13, .null, .null, .null])), (q12, .inl (cI, 400, .inl (fun _ => 0))), (q13, .inl (cI, 400, .inl (fun _ => 0)))] H := hP
  have hD : va_D A [(h0, .inr (2, [.int 0, .int 0, .ref q12, .ref q13, .null, .null, .null])), (q12, .inl (cI, 400, .inl (fun _ => 0))), (q13, .inl (cI, 400, .inl (fun _ => 0)))] := hD
  refine lv_aload_n hx hb d_CK_init_22 rfl (lv_at hl 0 rfl) ?_
  refine lv_sipush (v := 400) hx hb d_CK_init_23 (by decide) ?_
  refine nw_i hx hb hts hK hP hD hS hA (by decide) (N := 400) (by decide) (by decide) (Nat.le_of_ble_eq_true rfl) (Nat.le_of_ble_eq_true rfl) d_CK_init_26 (fun q14 H hP hD hS => ?_)
  have hP : va_P (dC, dI) clsT [(h0, .inr (2, [.int 0, .int 0, .ref q12, .ref q13, .null, .null, .null])), (q12, .inl (cI, 400, .inl (fun _ => 0))), (q13, .inl (cI, 400, .inl (fun _ => 0))), (q14, .inl (cI, 400, .inl (fun _ => 0)))] H := hP
  have hD : va_D A [(h0, .inr (2, [.int 0, .int 0, .ref q12, .ref q13, .null, .null, .null])), (q12, .inl (cI, 400, .inl (fun _ => 0))), (q13, .inl (cI, 400, .inl (fun _ => 0))), (q14, .inl (cI, 400, .inl (fun _ => 0)))] := hD
  refine W.widen (k := 3) (n := 1200) (Nat.le_of_ble_eq_true rfl) (Nat.le_of_ble_eq_true rfl) ?_
  refine va_putF (D := (dC, dI)) (ci := 2) (v := .ref q14) (ty := .array .int) (C := R_CK) (T := F_CK) (N := 7) hx hb hts in_CK t_CK t_CK_ok n_CK hown hK hP hD hS 0 rfl rfl 4 (by decide) (hts _ (tm 40 rfl)) (fun _ h9 => h9) rfl hin rfl (by decide +kernel) rfl rfl (Nat.le_of_ble_eq_true rfl) d_CK_init_28 (fun H locs hP hD hS => ?_)
  have hP : va_P (dC, dI) clsT [(h0, .inr (2, [.int 0, .int 0, .ref q12, .ref q13, .ref q14, .null, .null])), (q12, .inl (cI, 400, .inl (fun _ => 0))), (q13, .inl (cI, 400, .inl (fun _ => 0))), (q14, .inl (cI, 400, .inl (fun _ => 0)))] H := hP
  have hD : va_D A [(h0, .inr (2, [.int 0, .int 0, .ref q12, .ref q13, .ref q14, .null, .null])), (q12, .inl (cI, 400, .inl (fun _ => 0))), (q13, .inl (cI, 400, .inl (fun _ => 0))), (q14, .inl (cI, 400, .inl (fun _ => 0)))] := hD
  refine lv_aload_n hx hb d_CK_init_31 rfl (lv_at hl 0 rfl) ?_
  refine lv_sipush (v := 400) hx hb d_CK_init_32 (by decide) ?_
  refine nw_i hx hb hts hK hP hD hS hA (by decide) (N := 400) (by decide) (by decide) (Nat.le_of_ble_eq_true rfl) (Nat.le_of_ble_eq_true rfl) d_CK_init_35 (fun q15 H hP hD hS => ?_)
  have hP : va_P (dC, dI) clsT [(h0, .inr (2, [.int 0, .int 0, .ref q12, .ref q13, .ref q14, .null, .null])), (q12, .inl (cI, 400, .inl (fun _ => 0))), (q13, .inl (cI, 400, .inl (fun _ => 0))), (q14, .inl (cI, 400, .inl (fun _ => 0))), (q15, .inl (cI, 400, .inl (fun _ => 0)))] H := hP
  have hD : va_D A [(h0, .inr (2, [.int 0, .int 0, .ref q12, .ref q13, .ref q14, .null, .null])), (q12, .inl (cI, 400, .inl (fun _ => 0))), (q13, .inl (cI, 400, .inl (fun _ => 0))), (q14, .inl (cI, 400, .inl (fun _ => 0))), (q15, .inl (cI, 400, .inl (fun _ => 0)))] := hD
  refine W.widen (k := 4) (n := 1600) (Nat.le_of_ble_eq_true rfl) (Nat.le_of_ble_eq_true rfl) ?_
  refine va_putF (D := (dC, dI)) (ci := 2) (v := .ref q15) (ty := .array .int) (C := R_CK) (T := F_CK) (N := 7) hx hb hts in_CK t_CK t_CK_ok n_CK hown hK hP hD hS 0 rfl rfl 5 (by decide) (hts _ (tm 155 rfl)) (fun _ h9 => h9) rfl hin rfl (by decide +kernel) rfl rfl (Nat.le_of_ble_eq_true rfl) d_CK_init_37 (fun H locs hP hD hS => ?_)
  have hP : va_P (dC, dI) clsT [(h0, .inr (2, [.int 0, .int 0, .ref q12, .ref q13, .ref q14, .ref q15, .null])), (q12, .inl (cI, 400, .inl (fun _ => 0))), (q13, .inl (cI, 400, .inl (fun _ => 0))), (q14, .inl (cI, 400, .inl (fun _ => 0))), (q15, .inl (cI, 400, .inl (fun _ => 0)))] H := hP
  have hD : va_D A [(h0, .inr (2, [.int 0, .int 0, .ref q12, .ref q13, .ref q14, .ref q15, .null])), (q12, .inl (cI, 400, .inl (fun _ => 0))), (q13, .inl (cI, 400, .inl (fun _ => 0))), (q14, .inl (cI, 400, .inl (fun _ => 0))), (q15, .inl (cI, 400, .inl (fun _ => 0)))] := hD
  refine lv_aload_n hx hb d_CK_init_40 rfl (lv_at hl 0 rfl) ?_
  refine lv_sipush (v := 400) hx hb d_CK_init_41 (by decide) ?_
  refine nw_i hx hb hts hK hP hD hS hA (by decide) (N := 400) (by decide) (by decide) (Nat.le_of_ble_eq_true rfl) (Nat.le_of_ble_eq_true rfl) d_CK_init_44 (fun q16 H hP hD hS => ?_)
  have hP : va_P (dC, dI) clsT [(h0, .inr (2, [.int 0, .int 0, .ref q12, .ref q13, .ref q14, .ref q15, .null])), (q12, .inl (cI, 400, .inl (fun _ => 0))), (q13, .inl (cI, 400, .inl (fun _ => 0))), (q14, .inl (cI, 400, .inl (fun _ => 0))), (q15, .inl (cI, 400, .inl (fun _ => 0))), (q16, .inl (cI, 400, .inl (fun _ => 0)))] H := hP
  have hD : va_D A [(h0, .inr (2, [.int 0, .int 0, .ref q12, .ref q13, .ref q14, .ref q15, .null])), (q12, .inl (cI, 400, .inl (fun _ => 0))), (q13, .inl (cI, 400, .inl (fun _ => 0))), (q14, .inl (cI, 400, .inl (fun _ => 0))), (q15, .inl (cI, 400, .inl (fun _ => 0))), (q16, .inl (cI, 400, .inl (fun _ => 0)))] := hD
  refine W.widen (k := 5) (n := 2000) (Nat.le_of_ble_eq_true rfl) (Nat.le_of_ble_eq_true rfl) ?_
  refine va_putF (D := (dC, dI)) (ci := 2) (v := .ref q16) (ty := .array .int) (C := R_CK) (T := F_CK) (N := 7) hx hb hts in_CK t_CK t_CK_ok n_CK hown hK hP hD hS 0 rfl rfl 6 (by decide) (hts _ (tm 156 rfl)) (fun _ h9 => h9) rfl hin rfl (by decide +kernel) rfl rfl (Nat.le_of_ble_eq_true rfl) d_CK_init_46 (fun H locs hP hD hS => ?_)
  have hP : va_P (dC, dI) clsT [(h0, .inr (2, [.int 0, .int 0, .ref q12, .ref q13, .ref q14, .ref q15, .ref q16])), (q12, .inl (cI, 400, .inl (fun _ => 0))), (q13, .inl (cI, 400, .inl (fun _ => 0))), (q14, .inl (cI, 400, .inl (fun _ => 0))), (q15, .inl (cI, 400, .inl (fun _ => 0))), (q16, .inl (cI, 400, .inl (fun _ => 0)))] H := hP
  have hD : va_D A [(h0, .inr (2, [.int 0, .int 0, .ref q12, .ref q13, .ref q14, .ref q15, .ref q16])), (q12, .inl (cI, 400, .inl (fun _ => 0))), (q13, .inl (cI, 400, .inl (fun _ => 0))), (q14, .inl (cI, 400, .inl (fun _ => 0))), (q15, .inl (cI, 400, .inl (fun _ => 0))), (q16, .inl (cI, 400, .inl (fun _ => 0)))] := hD
  exact W.vret hx hb hr (fun t ht hW => ⟨⟨(fun k => if k = 12 then q12 else if k = 13 then q13 else if k = 14 then q14 else if k = 15 then q15 else if k = 16 then q16 else 0), rfl, trivial, by rw [ht]; exact hP, va_K.moved hW.alike hK, hD⟩, hS.F ht⟩) hS.2.2 d_CK_init_49 hlocks
abbrev b_CI_init : ByteArray := prog_2_method_1_code
def y_CI_init : MethodName := ⟨R_CI, "<init>", "(LNetRoutes$Plan;LNetRoutes$Packets;)V"⟩
theorem d_CI_init_0 : decode b_CI_init 0 = .ok (.aload_n 0, 1) := by decide +kernel
theorem d_CI_init_1 : decode b_CI_init 1 = .ok (.invokespecial 3, 3) := by decide +kernel
theorem d_CI_init_4 : decode b_CI_init 4 = .ok (.aload_n 0, 1) := by decide +kernel
theorem d_CI_init_5 : decode b_CI_init 5 = .ok (.bipush 16, 2) := by decide +kernel
theorem d_CI_init_7 : decode b_CI_init 7 = .ok (.newarray .int, 2) := by decide +kernel
theorem d_CI_init_9 : decode b_CI_init 9 = .ok (.putfield 9, 3) := by decide +kernel
theorem d_CI_init_12 : decode b_CI_init 12 = .ok (.aload_n 0, 1) := by decide +kernel
theorem d_CI_init_13 : decode b_CI_init 13 = .ok (.bipush 16, 2) := by decide +kernel
theorem d_CI_init_15 : decode b_CI_init 15 = .ok (.newarray .int, 2) := by decide +kernel
theorem d_CI_init_17 : decode b_CI_init 17 = .ok (.putfield 15, 3) := by decide +kernel
theorem d_CI_init_20 : decode b_CI_init 20 = .ok (.aload_n 0, 1) := by decide +kernel
theorem d_CI_init_21 : decode b_CI_init 21 = .ok (.sipush 400, 3) := by decide +kernel
theorem d_CI_init_24 : decode b_CI_init 24 = .ok (.newarray .int, 2) := by decide +kernel
theorem d_CI_init_26 : decode b_CI_init 26 = .ok (.putfield 18, 3) := by decide +kernel
theorem d_CI_init_29 : decode b_CI_init 29 = .ok (.aload_n 0, 1) := by decide +kernel
theorem d_CI_init_30 : decode b_CI_init 30 = .ok (.sipush 640, 3) := by decide +kernel
theorem d_CI_init_33 : decode b_CI_init 33 = .ok (.newarray .int, 2) := by decide +kernel
theorem d_CI_init_35 : decode b_CI_init 35 = .ok (.putfield 21, 3) := by decide +kernel
theorem d_CI_init_38 : decode b_CI_init 38 = .ok (.aload_n 0, 1) := by decide +kernel
theorem d_CI_init_39 : decode b_CI_init 39 = .ok (.sipush 160, 3) := by decide +kernel
theorem d_CI_init_42 : decode b_CI_init 42 = .ok (.newarray .int, 2) := by decide +kernel
theorem d_CI_init_44 : decode b_CI_init 44 = .ok (.putfield 24, 3) := by decide +kernel
theorem d_CI_init_47 : decode b_CI_init 47 = .ok (.aload_n 0, 1) := by decide +kernel
theorem d_CI_init_48 : decode b_CI_init 48 = .ok (.sipush 160, 3) := by decide +kernel
theorem d_CI_init_51 : decode b_CI_init 51 = .ok (.newarray .int, 2) := by decide +kernel
theorem d_CI_init_53 : decode b_CI_init 53 = .ok (.putfield 27, 3) := by decide +kernel
theorem d_CI_init_56 : decode b_CI_init 56 = .ok (.aload_n 0, 1) := by decide +kernel
theorem d_CI_init_57 : decode b_CI_init 57 = .ok (.aload_n 1, 1) := by decide +kernel
theorem d_CI_init_58 : decode b_CI_init 58 = .ok (.putfield 30, 3) := by decide +kernel
theorem d_CI_init_61 : decode b_CI_init 61 = .ok (.aload_n 0, 1) := by decide +kernel
theorem d_CI_init_62 : decode b_CI_init 62 = .ok (.aload_n 2, 1) := by decide +kernel
theorem d_CI_init_63 : decode b_CI_init 63 = .ok (.putfield 34, 3) := by decide +kernel
theorem d_CI_init_66 : decode b_CI_init 66 = .ok (.aload_n 0, 1) := by decide +kernel
theorem d_CI_init_67 : decode b_CI_init 67 = .ok (.getfield 9, 3) := by decide +kernel
theorem d_CI_init_70 : decode b_CI_init 70 = .ok (.iconst (-1), 1) := by decide +kernel
theorem d_CI_init_71 : decode b_CI_init 71 = .ok (.invokestatic 38, 3) := by decide +kernel
theorem d_CI_init_74 : decode b_CI_init 74 = .ok (.aload_n 0, 1) := by decide +kernel
theorem d_CI_init_75 : decode b_CI_init 75 = .ok (.getfield 15, 3) := by decide +kernel
theorem d_CI_init_78 : decode b_CI_init 78 = .ok (.iconst (-1), 1) := by decide +kernel
theorem d_CI_init_79 : decode b_CI_init 79 = .ok (.invokestatic 38, 3) := by decide +kernel
theorem d_CI_init_82 : decode b_CI_init 82 = .ok (.aload_n 0, 1) := by decide +kernel
theorem d_CI_init_83 : decode b_CI_init 83 = .ok (.getfield 18, 3) := by decide +kernel
theorem d_CI_init_86 : decode b_CI_init 86 = .ok (.iconst (-1), 1) := by decide +kernel
theorem d_CI_init_87 : decode b_CI_init 87 = .ok (.invokestatic 38, 3) := by decide +kernel
theorem d_CI_init_90 : decode b_CI_init 90 = .ok (.return_, 1) := by decide +kernel
def i_CI (cI cZ : ClassId) (h0 : Nat) (g0 : Nat) (g1 : Nat) (q : Nat → Nat) : va_W :=
  [(h0, .inr (3, [.ref g0, .ref g1, .ref (q 17), .ref (q 18), .ref (q 19), .ref (q 20), .ref (q 21), .ref (q 22)])), ((q 17), .inl (cI, 16, .inl (fz (fun _ => 0) 16 (-1)))), ((q 18), .inl (cI, 16, .inl (fz (fun _ => 0) 16 (-1)))), ((q 19), .inl (cI, 400, .inl (fz (fun _ => 0) 400 (-1)))), ((q 20), .inl (cI, 640, .inl (fun _ => 0))), ((q 21), .inl (cI, 160, .inl (fun _ => 0))), ((q 22), .inl (cI, 160, .inl (fun _ => 0)))]
set_option maxHeartbeats 4000000 in
set_option maxRecDepth 100000 in
theorem c_CI_init (l : Launch) (dC : Nat → ClassId) (dI : Nat → Nat → Nat) (cI cZ : ClassId) (h0 g0 g1 sz : Nat) : Met l y_CI_init (.code y_CI_init b_CI_init 3 none :: TT) { frames := 1, cells := 6, slots := 1392, locals := 23 } (pW (dC, dI) clsT (tyT cI cZ) [.ref h0, .ref g0, .ref g1] sz [(h0, .inr (3, [.null, .null, .null, .null, .null, .null, .null, .null]))]) (va_Qv (fun _ : Nat → Nat => True) (fun q t => va_P (dC, dI) clsT (i_CI cI cZ h0 g0 g1 q) t.heap ∧ va_K (dC, dI) clsT (tyT cI cZ) t ∧ va_D (va_A [(h0, .inr (3, [.null, .null, .null, .null, .null, .null, .null, .null]))] sz) (i_CI cI cZ h0 g0 g1 q)) (va_A [(h0, .inr (3, [.null, .null, .null, .null, .null, .null, .null, .null]))] sz)) 6 1392 (va_A [(h0, .inr (3, [.null, .null, .null, .null, .null, .null, .null, .null]))] sz) := by
  refine hdi (Qf := fun A => (va_Qv (fun _ : Nat → Nat => True) (fun q t => va_P (dC, dI) clsT (i_CI cI cZ h0 g0 g1 q) t.heap ∧ va_K (dC, dI) clsT (tyT cI cZ) t ∧ va_D A (i_CI cI cZ h0 g0 g1 q)) A)) (by decide) rfl (Nat.le_of_ble_eq_true rfl) ?_
  intro p e s m below meth c A ls hx hb hr hts hown hlocks hml hK hP hD hS hA hl hin
  have hown : s.vm.findClass R_CI = some m.cls := hown
  have hl : lv_has ls 3 [(0, .ref h0), (1, .ref g0), (2, .ref g1)] := hl
  refine lv_aload_n hx hb d_CI_init_0 rfl (lv_at hl 0 rfl) ?_
  refine W.objInit hx hb hown (hts _ (tm 582 rfl)) (hts _ (tm 560 rfl)) (hts _ (tm 561 rfl)) rfl (by rw [hml]; exact hl.1) rfl d_CI_init_1 (Nat.le_of_ble_eq_true rfl) (Nat.le_of_ble_eq_true rfl) ?_
  refine W.eq (g2 := F0 m 4 ls []) rfl ?_
  refine lv_aload_n hx hb d_CI_init_4 rfl (lv_at hl 0 rfl) ?_
  refine lv_bipush (v := 16) hx hb d_CI_init_5 (by decide) ?_
  refine nw_i hx hb hts hK hP hD hS hA (by decide) (N := 16) (by decide) (by decide) (Nat.le_of_ble_eq_true rfl) (Nat.le_of_ble_eq_true rfl) d_CI_init_7 (fun q17 H hP hD hS => ?_)
  have hP : va_P (dC, dI) clsT [(h0, .inr (3, [.null, .null, .null, .null, .null, .null, .null, .null])), (q17, .inl (cI, 16, .inl (fun _ => 0)))] H := hP
  have hD : va_D A [(h0, .inr (3, [.null, .null, .null, .null, .null, .null, .null, .null])), (q17, .inl (cI, 16, .inl (fun _ => 0)))] := hD
  refine W.widen (k := 1) (n := 16) (Nat.le_of_ble_eq_true rfl) (Nat.le_of_ble_eq_true rfl) ?_
  refine va_putF (D := (dC, dI)) (ci := 3) (v := .ref q17) (ty := .array .int) (C := R_CI) (T := F_CI) (N := 8) hx hb hts in_CI t_CI t_CI_ok n_CI hown hK hP hD hS 0 rfl rfl 2 (by decide) (hts _ (tm 42 rfl)) (fun _ h9 => h9) rfl hin rfl (by decide +kernel) rfl rfl (Nat.le_of_ble_eq_true rfl) d_CI_init_9 (fun H locs hP hD hS => ?_)
  have hP : va_P (dC, dI) clsT [(h0, .inr (3, [.null, .null, .ref q17, .null, .null, .null, .null, .null])), (q17, .inl (cI, 16, .inl (fun _ => 0)))] H := hP
  have hD : va_D A [(h0, .inr (3, [.null, .null, .ref q17, .null, .null, .null, .null, .null])), (q17, .inl (cI, 16, .inl (fun _ => 0)))] := hD
  refine lv_aload_n hx hb d_CI_init_12 rfl (lv_at hl 0 rfl) ?_
  refine lv_bipush (v := 16) hx hb d_CI_init_13 (by decide) ?_
  refine nw_i hx hb hts hK hP hD hS hA (by decide) (N := 16) (by decide) (by decide) (Nat.le_of_ble_eq_true rfl) (Nat.le_of_ble_eq_true rfl) d_CI_init_15 (fun q18 H hP hD hS => ?_)
  have hP : va_P (dC, dI) clsT [(h0, .inr (3, [.null, .null, .ref q17, .null, .null, .null, .null, .null])), (q17, .inl (cI, 16, .inl (fun _ => 0))), (q18, .inl (cI, 16, .inl (fun _ => 0)))] H := hP
  have hD : va_D A [(h0, .inr (3, [.null, .null, .ref q17, .null, .null, .null, .null, .null])), (q17, .inl (cI, 16, .inl (fun _ => 0))), (q18, .inl (cI, 16, .inl (fun _ => 0)))] := hD
  refine W.widen (k := 2) (n := 32) (Nat.le_of_ble_eq_true rfl) (Nat.le_of_ble_eq_true rfl) ?_
  refine va_putF (D := (dC, dI)) (ci := 3) (v := .ref q18) (ty := .array .int) (C := R_CI) (T := F_CI) (N := 8) hx hb hts in_CI t_CI t_CI_ok n_CI hown hK hP hD hS 0 rfl rfl 3 (by decide) (hts _ (tm 41 rfl)) (fun _ h9 => h9) rfl hin rfl (by decide +kernel) rfl rfl (Nat.le_of_ble_eq_true rfl) d_CI_init_17 (fun H locs hP hD hS => ?_)
  have hP : va_P (dC, dI) clsT [(h0, .inr (3, [.null, .null, .ref q17, .ref q18, .null, .null, .null, .null])), (q17, .inl (cI, 16, .inl (fun _ => 0))), (q18, .inl (cI, 16, .inl (fun _ => 0)))] H := hP
  have hD : va_D A [(h0, .inr (3, [.null, .null, .ref q17, .ref q18, .null, .null, .null, .null])), (q17, .inl (cI, 16, .inl (fun _ => 0))), (q18, .inl (cI, 16, .inl (fun _ => 0)))] := hD
  refine lv_aload_n hx hb d_CI_init_20 rfl (lv_at hl 0 rfl) ?_
  refine lv_sipush (v := 400) hx hb d_CI_init_21 (by decide) ?_
  refine nw_i hx hb hts hK hP hD hS hA (by decide) (N := 400) (by decide) (by decide) (Nat.le_of_ble_eq_true rfl) (Nat.le_of_ble_eq_true rfl) d_CI_init_24 (fun q19 H hP hD hS => ?_)
  have hP : va_P (dC, dI) clsT [(h0, .inr (3, [.null, .null, .ref q17, .ref q18, .null, .null, .null, .null])), (q17, .inl (cI, 16, .inl (fun _ => 0))), (q18, .inl (cI, 16, .inl (fun _ => 0))), (q19, .inl (cI, 400, .inl (fun _ => 0)))] H := hP
  have hD : va_D A [(h0, .inr (3, [.null, .null, .ref q17, .ref q18, .null, .null, .null, .null])), (q17, .inl (cI, 16, .inl (fun _ => 0))), (q18, .inl (cI, 16, .inl (fun _ => 0))), (q19, .inl (cI, 400, .inl (fun _ => 0)))] := hD
  refine W.widen (k := 3) (n := 432) (Nat.le_of_ble_eq_true rfl) (Nat.le_of_ble_eq_true rfl) ?_
  refine va_putF (D := (dC, dI)) (ci := 3) (v := .ref q19) (ty := .array .int) (C := R_CI) (T := F_CI) (N := 8) hx hb hts in_CI t_CI t_CI_ok n_CI hown hK hP hD hS 0 rfl rfl 4 (by decide) (hts _ (tm 43 rfl)) (fun _ h9 => h9) rfl hin rfl (by decide +kernel) rfl rfl (Nat.le_of_ble_eq_true rfl) d_CI_init_26 (fun H locs hP hD hS => ?_)
  have hP : va_P (dC, dI) clsT [(h0, .inr (3, [.null, .null, .ref q17, .ref q18, .ref q19, .null, .null, .null])), (q17, .inl (cI, 16, .inl (fun _ => 0))), (q18, .inl (cI, 16, .inl (fun _ => 0))), (q19, .inl (cI, 400, .inl (fun _ => 0)))] H := hP
  have hD : va_D A [(h0, .inr (3, [.null, .null, .ref q17, .ref q18, .ref q19, .null, .null, .null])), (q17, .inl (cI, 16, .inl (fun _ => 0))), (q18, .inl (cI, 16, .inl (fun _ => 0))), (q19, .inl (cI, 400, .inl (fun _ => 0)))] := hD
  refine lv_aload_n hx hb d_CI_init_29 rfl (lv_at hl 0 rfl) ?_
  refine lv_sipush (v := 640) hx hb d_CI_init_30 (by decide) ?_
  refine nw_i hx hb hts hK hP hD hS hA (by decide) (N := 640) (by decide) (by decide) (Nat.le_of_ble_eq_true rfl) (Nat.le_of_ble_eq_true rfl) d_CI_init_33 (fun q20 H hP hD hS => ?_)
  have hP : va_P (dC, dI) clsT [(h0, .inr (3, [.null, .null, .ref q17, .ref q18, .ref q19, .null, .null, .null])), (q17, .inl (cI, 16, .inl (fun _ => 0))), (q18, .inl (cI, 16, .inl (fun _ => 0))), (q19, .inl (cI, 400, .inl (fun _ => 0))), (q20, .inl (cI, 640, .inl (fun _ => 0)))] H := hP
  have hD : va_D A [(h0, .inr (3, [.null, .null, .ref q17, .ref q18, .ref q19, .null, .null, .null])), (q17, .inl (cI, 16, .inl (fun _ => 0))), (q18, .inl (cI, 16, .inl (fun _ => 0))), (q19, .inl (cI, 400, .inl (fun _ => 0))), (q20, .inl (cI, 640, .inl (fun _ => 0)))] := hD
  refine W.widen (k := 4) (n := 1072) (Nat.le_of_ble_eq_true rfl) (Nat.le_of_ble_eq_true rfl) ?_
  refine va_putF (D := (dC, dI)) (ci := 3) (v := .ref q20) (ty := .array .int) (C := R_CI) (T := F_CI) (N := 8) hx hb hts in_CI t_CI t_CI_ok n_CI hown hK hP hD hS 0 rfl rfl 5 (by decide) (hts _ (tm 69 rfl)) (fun _ h9 => h9) rfl hin rfl (by decide +kernel) rfl rfl (Nat.le_of_ble_eq_true rfl) d_CI_init_35 (fun H locs hP hD hS => ?_)
  have hP : va_P (dC, dI) clsT [(h0, .inr (3, [.null, .null, .ref q17, .ref q18, .ref q19, .ref q20, .null, .null])), (q17, .inl (cI, 16, .inl (fun _ => 0))), (q18, .inl (cI, 16, .inl (fun _ => 0))), (q19, .inl (cI, 400, .inl (fun _ => 0))), (q20, .inl (cI, 640, .inl (fun _ => 0)))] H := hP
  have hD : va_D A [(h0, .inr (3, [.null, .null, .ref q17, .ref q18, .ref q19, .ref q20, .null, .null])), (q17, .inl (cI, 16, .inl (fun _ => 0))), (q18, .inl (cI, 16, .inl (fun _ => 0))), (q19, .inl (cI, 400, .inl (fun _ => 0))), (q20, .inl (cI, 640, .inl (fun _ => 0)))] := hD
  refine lv_aload_n hx hb d_CI_init_38 rfl (lv_at hl 0 rfl) ?_
  refine lv_sipush (v := 160) hx hb d_CI_init_39 (by decide) ?_
  refine nw_i hx hb hts hK hP hD hS hA (by decide) (N := 160) (by decide) (by decide) (Nat.le_of_ble_eq_true rfl) (Nat.le_of_ble_eq_true rfl) d_CI_init_42 (fun q21 H hP hD hS => ?_)
  have hP : va_P (dC, dI) clsT [(h0, .inr (3, [.null, .null, .ref q17, .ref q18, .ref q19, .ref q20, .null, .null])), (q17, .inl (cI, 16, .inl (fun _ => 0))), (q18, .inl (cI, 16, .inl (fun _ => 0))), (q19, .inl (cI, 400, .inl (fun _ => 0))), (q20, .inl (cI, 640, .inl (fun _ => 0))), (q21, .inl (cI, 160, .inl (fun _ => 0)))] H := hP
  have hD : va_D A [(h0, .inr (3, [.null, .null, .ref q17, .ref q18, .ref q19, .ref q20, .null, .null])), (q17, .inl (cI, 16, .inl (fun _ => 0))), (q18, .inl (cI, 16, .inl (fun _ => 0))), (q19, .inl (cI, 400, .inl (fun _ => 0))), (q20, .inl (cI, 640, .inl (fun _ => 0))), (q21, .inl (cI, 160, .inl (fun _ => 0)))] := hD
  refine W.widen (k := 5) (n := 1232) (Nat.le_of_ble_eq_true rfl) (Nat.le_of_ble_eq_true rfl) ?_
  refine va_putF (D := (dC, dI)) (ci := 3) (v := .ref q21) (ty := .array .int) (C := R_CI) (T := F_CI) (N := 8) hx hb hts in_CI t_CI t_CI_ok n_CI hown hK hP hD hS 0 rfl rfl 6 (by decide) (hts _ (tm 67 rfl)) (fun _ h9 => h9) rfl hin rfl (by decide +kernel) rfl rfl (Nat.le_of_ble_eq_true rfl) d_CI_init_44 (fun H locs hP hD hS => ?_)
  have hP : va_P (dC, dI) clsT [(h0, .inr (3, [.null, .null, .ref q17, .ref q18, .ref q19, .ref q20, .ref q21, .null])), (q17, .inl (cI, 16, .inl (fun _ => 0))), (q18, .inl (cI, 16, .inl (fun _ => 0))), (q19, .inl (cI, 400, .inl (fun _ => 0))), (q20, .inl (cI, 640, .inl (fun _ => 0))), (q21, .inl (cI, 160, .inl (fun _ => 0)))] H := hP
  have hD : va_D A [(h0, .inr (3, [.null, .null, .ref q17, .ref q18, .ref q19, .ref q20, .ref q21, .null])), (q17, .inl (cI, 16, .inl (fun _ => 0))), (q18, .inl (cI, 16, .inl (fun _ => 0))), (q19, .inl (cI, 400, .inl (fun _ => 0))), (q20, .inl (cI, 640, .inl (fun _ => 0))), (q21, .inl (cI, 160, .inl (fun _ => 0)))] := hD
  refine lv_aload_n hx hb d_CI_init_47 rfl (lv_at hl 0 rfl) ?_
  refine lv_sipush (v := 160) hx hb d_CI_init_48 (by decide) ?_
  refine nw_i hx hb hts hK hP hD hS hA (by decide) (N := 160) (by decide) (by decide) (Nat.le_of_ble_eq_true rfl) (Nat.le_of_ble_eq_true rfl) d_CI_init_51 (fun q22 H hP hD hS => ?_)
  have hP : va_P (dC, dI) clsT [(h0, .inr (3, [.null, .null, .ref q17, .ref q18, .ref q19, .ref q20, .ref q21, .null])), (q17, .inl (cI, 16, .inl (fun _ => 0))), (q18, .inl (cI, 16, .inl (fun _ => 0))), (q19, .inl (cI, 400, .inl (fun _ => 0))), (q20, .inl (cI, 640, .inl (fun _ => 0))), (q21, .inl (cI, 160, .inl (fun _ => 0))), (q22, .inl (cI, 160, .inl (fun _ => 0)))] H := hP
  have hD : va_D A [(h0, .inr (3, [.null, .null, .ref q17, .ref q18, .ref q19, .ref q20, .ref q21, .null])), (q17, .inl (cI, 16, .inl (fun _ => 0))), (q18, .inl (cI, 16, .inl (fun _ => 0))), (q19, .inl (cI, 400, .inl (fun _ => 0))), (q20, .inl (cI, 640, .inl (fun _ => 0))), (q21, .inl (cI, 160, .inl (fun _ => 0))), (q22, .inl (cI, 160, .inl (fun _ => 0)))] := hD
  refine W.widen (k := 6) (n := 1392) (Nat.le_of_ble_eq_true rfl) (Nat.le_of_ble_eq_true rfl) ?_
  refine va_putF (D := (dC, dI)) (ci := 3) (v := .ref q22) (ty := .array .int) (C := R_CI) (T := F_CI) (N := 8) hx hb hts in_CI t_CI t_CI_ok n_CI hown hK hP hD hS 0 rfl rfl 7 (by decide) (hts _ (tm 68 rfl)) (fun _ h9 => h9) rfl hin rfl (by decide +kernel) rfl rfl (Nat.le_of_ble_eq_true rfl) d_CI_init_53 (fun H locs hP hD hS => ?_)
  have hP : va_P (dC, dI) clsT [(h0, .inr (3, [.null, .null, .ref q17, .ref q18, .ref q19, .ref q20, .ref q21, .ref q22])), (q17, .inl (cI, 16, .inl (fun _ => 0))), (q18, .inl (cI, 16, .inl (fun _ => 0))), (q19, .inl (cI, 400, .inl (fun _ => 0))), (q20, .inl (cI, 640, .inl (fun _ => 0))), (q21, .inl (cI, 160, .inl (fun _ => 0))), (q22, .inl (cI, 160, .inl (fun _ => 0)))] H := hP
  have hD : va_D A [(h0, .inr (3, [.null, .null, .ref q17, .ref q18, .ref q19, .ref q20, .ref q21, .ref q22])), (q17, .inl (cI, 16, .inl (fun _ => 0))), (q18, .inl (cI, 16, .inl (fun _ => 0))), (q19, .inl (cI, 400, .inl (fun _ => 0))), (q20, .inl (cI, 640, .inl (fun _ => 0))), (q21, .inl (cI, 160, .inl (fun _ => 0))), (q22, .inl (cI, 160, .inl (fun _ => 0)))] := hD
  refine lv_aload_n hx hb d_CI_init_56 rfl (lv_at hl 0 rfl) ?_
  refine lv_aload_n hx hb d_CI_init_57 rfl (lv_at hl 1 rfl) ?_
  refine va_putF (D := (dC, dI)) (ci := 3) (v := .ref g0) (ty := .object "NetRoutes$Plan") (C := R_CI) (T := F_CI) (N := 8) hx hb hts in_CI t_CI t_CI_ok n_CI hown hK hP hD hS 0 rfl rfl 0 (by decide) (hts _ (tm 60 rfl)) (fun _ h9 => h9) rfl hin rfl (by decide +kernel) rfl rfl (Nat.le_of_ble_eq_true rfl) d_CI_init_58 (fun H locs hP hD hS => ?_)
  have hP : va_P (dC, dI) clsT [(h0, .inr (3, [.ref g0, .null, .ref q17, .ref q18, .ref q19, .ref q20, .ref q21, .ref q22])), (q17, .inl (cI, 16, .inl (fun _ => 0))), (q18, .inl (cI, 16, .inl (fun _ => 0))), (q19, .inl (cI, 400, .inl (fun _ => 0))), (q20, .inl (cI, 640, .inl (fun _ => 0))), (q21, .inl (cI, 160, .inl (fun _ => 0))), (q22, .inl (cI, 160, .inl (fun _ => 0)))] H := hP
  have hD : va_D A [(h0, .inr (3, [.ref g0, .null, .ref q17, .ref q18, .ref q19, .ref q20, .ref q21, .ref q22])), (q17, .inl (cI, 16, .inl (fun _ => 0))), (q18, .inl (cI, 16, .inl (fun _ => 0))), (q19, .inl (cI, 400, .inl (fun _ => 0))), (q20, .inl (cI, 640, .inl (fun _ => 0))), (q21, .inl (cI, 160, .inl (fun _ => 0))), (q22, .inl (cI, 160, .inl (fun _ => 0)))] := hD
  refine lv_aload_n hx hb d_CI_init_61 rfl (lv_at hl 0 rfl) ?_
  refine lv_aload_n hx hb d_CI_init_62 rfl (lv_at hl 2 rfl) ?_
  refine va_putF (D := (dC, dI)) (ci := 3) (v := .ref g1) (ty := .object "NetRoutes$Packets") (C := R_CI) (T := F_CI) (N := 8) hx hb hts in_CI t_CI t_CI_ok n_CI hown hK hP hD hS 0 rfl rfl 1 (by decide) (hts _ (tm 62 rfl)) (fun _ h9 => h9) rfl hin rfl (by decide +kernel) rfl rfl (Nat.le_of_ble_eq_true rfl) d_CI_init_63 (fun H locs hP hD hS => ?_)
  have hP : va_P (dC, dI) clsT [(h0, .inr (3, [.ref g0, .ref g1, .ref q17, .ref q18, .ref q19, .ref q20, .ref q21, .ref q22])), (q17, .inl (cI, 16, .inl (fun _ => 0))), (q18, .inl (cI, 16, .inl (fun _ => 0))), (q19, .inl (cI, 400, .inl (fun _ => 0))), (q20, .inl (cI, 640, .inl (fun _ => 0))), (q21, .inl (cI, 160, .inl (fun _ => 0))), (q22, .inl (cI, 160, .inl (fun _ => 0)))] H := hP
  have hD : va_D A [(h0, .inr (3, [.ref g0, .ref g1, .ref q17, .ref q18, .ref q19, .ref q20, .ref q21, .ref q22])), (q17, .inl (cI, 16, .inl (fun _ => 0))), (q18, .inl (cI, 16, .inl (fun _ => 0))), (q19, .inl (cI, 400, .inl (fun _ => 0))), (q20, .inl (cI, 640, .inl (fun _ => 0))), (q21, .inl (cI, 160, .inl (fun _ => 0))), (q22, .inl (cI, 160, .inl (fun _ => 0)))] := hD
  refine lv_aload_n hx hb d_CI_init_66 rfl (lv_at hl 0 rfl) ?_
  refine va_get (D := (dC, dI)) (ci := 3) (v := .ref q17) (C := R_CI) (T := F_CI) (N := 8) hx hb hts in_CI hown hK hP 0 rfl rfl 2 (by decide) (hts _ (tm 42 rfl)) (fun _ h9 => h9) rfl d_CI_init_67 ?_
  refine lv_iconst (v := (-1)) hx hb d_CI_init_70 (by decide) ?_
  refine cl_fillG (rest := []) (v := (-1)) ⟨hx, hb, hml, hown, hts⟩ hK hP hD hS hA 1 rfl rfl (by decide) (gi_S9 (tm 169 rfl) (tm 26 rfl) (tm 27 rfl) (tm 28 rfl)) ⟨Nat.le_of_ble_eq_true rfl, Nat.le_of_ble_eq_true rfl⟩ hl.1 (lv_room (Nat.le_of_ble_eq_true rfl)) ⟨Nat.le_of_ble_eq_true rfl, Nat.le_of_ble_eq_true rfl⟩ d_CI_init_71 (fun H locs hP hD hS => ?_)
  have hP : va_P (dC, dI) clsT [(h0, .inr (3, [.ref g0, .ref g1, .ref q17, .ref q18, .ref q19, .ref q20, .ref q21, .ref q22])), (q17, .inl (cI, 16, .inl (fz (fun _ => 0) 16 (-1)))), (q18, .inl (cI, 16, .inl (fun _ => 0))), (q19, .inl (cI, 400, .inl (fun _ => 0))), (q20, .inl (cI, 640, .inl (fun _ => 0))), (q21, .inl (cI, 160, .inl (fun _ => 0))), (q22, .inl (cI, 160, .inl (fun _ => 0)))] H := hP
  have hD : va_D A [(h0, .inr (3, [.ref g0, .ref g1, .ref q17, .ref q18, .ref q19, .ref q20, .ref q21, .ref q22])), (q17, .inl (cI, 16, .inl (fz (fun _ => 0) 16 (-1)))), (q18, .inl (cI, 16, .inl (fun _ => 0))), (q19, .inl (cI, 400, .inl (fun _ => 0))), (q20, .inl (cI, 640, .inl (fun _ => 0))), (q21, .inl (cI, 160, .inl (fun _ => 0))), (q22, .inl (cI, 160, .inl (fun _ => 0)))] := hD
  refine lv_aload_n hx hb d_CI_init_74 rfl (lv_at hl 0 rfl) ?_
  refine va_get (D := (dC, dI)) (ci := 3) (v := .ref q18) (C := R_CI) (T := F_CI) (N := 8) hx hb hts in_CI hown hK hP 0 rfl rfl 3 (by decide) (hts _ (tm 41 rfl)) (fun _ h9 => h9) rfl d_CI_init_75 ?_
  refine lv_iconst (v := (-1)) hx hb d_CI_init_78 (by decide) ?_
  refine cl_fillG (rest := []) (v := (-1)) ⟨hx, hb, hml, hown, hts⟩ hK hP hD hS hA 2 rfl rfl (by decide) (gi_S9 (tm 169 rfl) (tm 26 rfl) (tm 27 rfl) (tm 28 rfl)) ⟨Nat.le_of_ble_eq_true rfl, Nat.le_of_ble_eq_true rfl⟩ hl.1 (lv_room (Nat.le_of_ble_eq_true rfl)) ⟨Nat.le_of_ble_eq_true rfl, Nat.le_of_ble_eq_true rfl⟩ d_CI_init_79 (fun H locs hP hD hS => ?_)
  have hP : va_P (dC, dI) clsT [(h0, .inr (3, [.ref g0, .ref g1, .ref q17, .ref q18, .ref q19, .ref q20, .ref q21, .ref q22])), (q17, .inl (cI, 16, .inl (fz (fun _ => 0) 16 (-1)))), (q18, .inl (cI, 16, .inl (fz (fun _ => 0) 16 (-1)))), (q19, .inl (cI, 400, .inl (fun _ => 0))), (q20, .inl (cI, 640, .inl (fun _ => 0))), (q21, .inl (cI, 160, .inl (fun _ => 0))), (q22, .inl (cI, 160, .inl (fun _ => 0)))] H := hP
  have hD : va_D A [(h0, .inr (3, [.ref g0, .ref g1, .ref q17, .ref q18, .ref q19, .ref q20, .ref q21, .ref q22])), (q17, .inl (cI, 16, .inl (fz (fun _ => 0) 16 (-1)))), (q18, .inl (cI, 16, .inl (fz (fun _ => 0) 16 (-1)))), (q19, .inl (cI, 400, .inl (fun _ => 0))), (q20, .inl (cI, 640, .inl (fun _ => 0))), (q21, .inl (cI, 160, .inl (fun _ => 0))), (q22, .inl (cI, 160, .inl (fun _ => 0)))] := hD
  refine lv_aload_n hx hb d_CI_init_82 rfl (lv_at hl 0 rfl) ?_
  refine va_get (D := (dC, dI)) (ci := 3) (v := .ref q19) (C := R_CI) (T := F_CI) (N := 8) hx hb hts in_CI hown hK hP 0 rfl rfl 4 (by decide) (hts _ (tm 43 rfl)) (fun _ h9 => h9) rfl d_CI_init_83 ?_
  refine lv_iconst (v := (-1)) hx hb d_CI_init_86 (by decide) ?_
  refine cl_fillG (rest := []) (v := (-1)) ⟨hx, hb, hml, hown, hts⟩ hK hP hD hS hA 3 rfl rfl (by decide) (gi_S9 (tm 169 rfl) (tm 26 rfl) (tm 27 rfl) (tm 28 rfl)) ⟨Nat.le_of_ble_eq_true rfl, Nat.le_of_ble_eq_true rfl⟩ hl.1 (lv_room (Nat.le_of_ble_eq_true rfl)) ⟨Nat.le_of_ble_eq_true rfl, Nat.le_of_ble_eq_true rfl⟩ d_CI_init_87 (fun H locs hP hD hS => ?_)
  have hP : va_P (dC, dI) clsT [(h0, .inr (3, [.ref g0, .ref g1, .ref q17, .ref q18, .ref q19, .ref q20, .ref q21, .ref q22])), (q17, .inl (cI, 16, .inl (fz (fun _ => 0) 16 (-1)))), (q18, .inl (cI, 16, .inl (fz (fun _ => 0) 16 (-1)))), (q19, .inl (cI, 400, .inl (fz (fun _ => 0) 400 (-1)))), (q20, .inl (cI, 640, .inl (fun _ => 0))), (q21, .inl (cI, 160, .inl (fun _ => 0))), (q22, .inl (cI, 160, .inl (fun _ => 0)))] H := hP
  have hD : va_D A [(h0, .inr (3, [.ref g0, .ref g1, .ref q17, .ref q18, .ref q19, .ref q20, .ref q21, .ref q22])), (q17, .inl (cI, 16, .inl (fz (fun _ => 0) 16 (-1)))), (q18, .inl (cI, 16, .inl (fz (fun _ => 0) 16 (-1)))), (q19, .inl (cI, 400, .inl (fz (fun _ => 0) 400 (-1)))), (q20, .inl (cI, 640, .inl (fun _ => 0))), (q21, .inl (cI, 160, .inl (fun _ => 0))), (q22, .inl (cI, 160, .inl (fun _ => 0)))] := hD
  exact W.vret hx hb hr (fun t ht hW => ⟨⟨(fun k => if k = 17 then q17 else if k = 18 then q18 else if k = 19 then q19 else if k = 20 then q20 else if k = 21 then q21 else if k = 22 then q22 else 0), rfl, trivial, by rw [ht]; exact hP, va_K.moved hW.alike hK, hD⟩, hS.F ht⟩) hS.2.2 d_CI_init_90 hlocks
abbrev b_CT_init : ByteArray := prog_6_method_1_code
def y_CT_init : MethodName := ⟨R_CT, "<init>", "(LNetRoutes$Plan;LNetRoutes$Packets;LNetRoutes$Inputs;)V"⟩
theorem d_CT_init_0 : decode b_CT_init 0 = .ok (.aload_n 0, 1) := by decide +kernel
theorem d_CT_init_1 : decode b_CT_init 1 = .ok (.invokespecial 3, 3) := by decide +kernel
theorem d_CT_init_4 : decode b_CT_init 4 = .ok (.aload_n 0, 1) := by decide +kernel
theorem d_CT_init_5 : decode b_CT_init 5 = .ok (.sipush 176, 3) := by decide +kernel
theorem d_CT_init_8 : decode b_CT_init 8 = .ok (.newarray .int, 2) := by decide +kernel
theorem d_CT_init_10 : decode b_CT_init 10 = .ok (.putfield 9, 3) := by decide +kernel
theorem d_CT_init_13 : decode b_CT_init 13 = .ok (.aload_n 0, 1) := by decide +kernel
theorem d_CT_init_14 : decode b_CT_init 14 = .ok (.sipush 160, 3) := by decide +kernel
theorem d_CT_init_17 : decode b_CT_init 17 = .ok (.newarray .int, 2) := by decide +kernel
theorem d_CT_init_19 : decode b_CT_init 19 = .ok (.putfield 15, 3) := by decide +kernel
theorem d_CT_init_22 : decode b_CT_init 22 = .ok (.aload_n 0, 1) := by decide +kernel
theorem d_CT_init_23 : decode b_CT_init 23 = .ok (.sipush 160, 3) := by decide +kernel
theorem d_CT_init_26 : decode b_CT_init 26 = .ok (.newarray .int, 2) := by decide +kernel
theorem d_CT_init_28 : decode b_CT_init 28 = .ok (.putfield 18, 3) := by decide +kernel
theorem d_CT_init_31 : decode b_CT_init 31 = .ok (.aload_n 0, 1) := by decide +kernel
theorem d_CT_init_32 : decode b_CT_init 32 = .ok (.sipush 160, 3) := by decide +kernel
theorem d_CT_init_35 : decode b_CT_init 35 = .ok (.newarray .int, 2) := by decide +kernel
theorem d_CT_init_37 : decode b_CT_init 37 = .ok (.putfield 21, 3) := by decide +kernel
theorem d_CT_init_40 : decode b_CT_init 40 = .ok (.aload_n 0, 1) := by decide +kernel
theorem d_CT_init_41 : decode b_CT_init 41 = .ok (.bipush 40, 2) := by decide +kernel
theorem d_CT_init_43 : decode b_CT_init 43 = .ok (.newarray .int, 2) := by decide +kernel
theorem d_CT_init_45 : decode b_CT_init 45 = .ok (.putfield 24, 3) := by decide +kernel
theorem d_CT_init_48 : decode b_CT_init 48 = .ok (.aload_n 0, 1) := by decide +kernel
theorem d_CT_init_49 : decode b_CT_init 49 = .ok (.aload_n 1, 1) := by decide +kernel
theorem d_CT_init_50 : decode b_CT_init 50 = .ok (.putfield 27, 3) := by decide +kernel
theorem d_CT_init_53 : decode b_CT_init 53 = .ok (.aload_n 0, 1) := by decide +kernel
theorem d_CT_init_54 : decode b_CT_init 54 = .ok (.aload_n 2, 1) := by decide +kernel
theorem d_CT_init_55 : decode b_CT_init 55 = .ok (.putfield 31, 3) := by decide +kernel
theorem d_CT_init_58 : decode b_CT_init 58 = .ok (.aload_n 0, 1) := by decide +kernel
theorem d_CT_init_59 : decode b_CT_init 59 = .ok (.aload_n 3, 1) := by decide +kernel
theorem d_CT_init_60 : decode b_CT_init 60 = .ok (.putfield 35, 3) := by decide +kernel
theorem d_CT_init_63 : decode b_CT_init 63 = .ok (.aload_n 0, 1) := by decide +kernel
theorem d_CT_init_64 : decode b_CT_init 64 = .ok (.getfield 9, 3) := by decide +kernel
theorem d_CT_init_67 : decode b_CT_init 67 = .ok (.iconst (-1), 1) := by decide +kernel
theorem d_CT_init_68 : decode b_CT_init 68 = .ok (.invokestatic 39, 3) := by decide +kernel
theorem d_CT_init_71 : decode b_CT_init 71 = .ok (.aload_n 0, 1) := by decide +kernel
theorem d_CT_init_72 : decode b_CT_init 72 = .ok (.getfield 15, 3) := by decide +kernel
theorem d_CT_init_75 : decode b_CT_init 75 = .ok (.iconst (-1), 1) := by decide +kernel
theorem d_CT_init_76 : decode b_CT_init 76 = .ok (.invokestatic 39, 3) := by decide +kernel
theorem d_CT_init_79 : decode b_CT_init 79 = .ok (.aload_n 0, 1) := by decide +kernel
theorem d_CT_init_80 : decode b_CT_init 80 = .ok (.getfield 18, 3) := by decide +kernel
theorem d_CT_init_83 : decode b_CT_init 83 = .ok (.iconst (-1), 1) := by decide +kernel
theorem d_CT_init_84 : decode b_CT_init 84 = .ok (.invokestatic 39, 3) := by decide +kernel
theorem d_CT_init_87 : decode b_CT_init 87 = .ok (.aload_n 0, 1) := by decide +kernel
theorem d_CT_init_88 : decode b_CT_init 88 = .ok (.getfield 24, 3) := by decide +kernel
theorem d_CT_init_91 : decode b_CT_init 91 = .ok (.iconst (-1), 1) := by decide +kernel
theorem d_CT_init_92 : decode b_CT_init 92 = .ok (.invokestatic 39, 3) := by decide +kernel
theorem d_CT_init_95 : decode b_CT_init 95 = .ok (.return_, 1) := by decide +kernel
def i_CT (cI cZ : ClassId) (h0 : Nat) (g0 : Nat) (g1 : Nat) (g2 : Nat) (q : Nat → Nat) : va_W :=
  [(h0, .inr (4, [.ref g0, .ref g1, .ref g2, .ref (q 23), .ref (q 24), .ref (q 25), .ref (q 26), .ref (q 27), .int 0, .int 0])), ((q 23), .inl (cI, 176, .inl (fz (fun _ => 0) 176 (-1)))), ((q 24), .inl (cI, 160, .inl (fz (fun _ => 0) 160 (-1)))), ((q 25), .inl (cI, 160, .inl (fz (fun _ => 0) 160 (-1)))), ((q 26), .inl (cI, 160, .inl (fun _ => 0))), ((q 27), .inl (cI, 40, .inl (fz (fun _ => 0) 40 (-1))))]
set_option maxHeartbeats 4000000 in
set_option maxRecDepth 100000 in
theorem c_CT_init (l : Launch) (dC : Nat → ClassId) (dI : Nat → Nat → Nat) (cI cZ : ClassId) (h0 g0 g1 g2 sz : Nat) : Met l y_CT_init (.code y_CT_init b_CT_init 4 none :: TT) { frames := 1, cells := 5, slots := 696, locals := 23 } (pW (dC, dI) clsT (tyT cI cZ) [.ref h0, .ref g0, .ref g1, .ref g2] sz [(h0, .inr (4, [.null, .null, .null, .null, .null, .null, .null, .null, .int 0, .int 0]))]) (va_Qv (fun _ : Nat → Nat => True) (fun q t => va_P (dC, dI) clsT (i_CT cI cZ h0 g0 g1 g2 q) t.heap ∧ va_K (dC, dI) clsT (tyT cI cZ) t ∧ va_D (va_A [(h0, .inr (4, [.null, .null, .null, .null, .null, .null, .null, .null, .int 0, .int 0]))] sz) (i_CT cI cZ h0 g0 g1 g2 q)) (va_A [(h0, .inr (4, [.null, .null, .null, .null, .null, .null, .null, .null, .int 0, .int 0]))] sz)) 5 696 (va_A [(h0, .inr (4, [.null, .null, .null, .null, .null, .null, .null, .null, .int 0, .int 0]))] sz) := by
  refine hdi (Qf := fun A => (va_Qv (fun _ : Nat → Nat => True) (fun q t => va_P (dC, dI) clsT (i_CT cI cZ h0 g0 g1 g2 q) t.heap ∧ va_K (dC, dI) clsT (tyT cI cZ) t ∧ va_D A (i_CT cI cZ h0 g0 g1 g2 q)) A)) (by decide) rfl (Nat.le_of_ble_eq_true rfl) ?_
  intro p e s m below meth c A ls hx hb hr hts hown hlocks hml hK hP hD hS hA hl hin
  have hown : s.vm.findClass R_CT = some m.cls := hown
  have hl : lv_has ls 4 [(0, .ref h0), (1, .ref g0), (2, .ref g1), (3, .ref g2)] := hl
  refine lv_aload_n hx hb d_CT_init_0 rfl (lv_at hl 0 rfl) ?_
  refine W.objInit hx hb hown (hts _ (tm 589 rfl)) (hts _ (tm 560 rfl)) (hts _ (tm 561 rfl)) rfl (by rw [hml]; exact hl.1) rfl d_CT_init_1 (Nat.le_of_ble_eq_true rfl) (Nat.le_of_ble_eq_true rfl) ?_
  refine W.eq (g2 := F0 m 4 ls []) rfl ?_
  refine lv_aload_n hx hb d_CT_init_4 rfl (lv_at hl 0 rfl) ?_
  refine lv_sipush (v := 176) hx hb d_CT_init_5 (by decide) ?_
  refine nw_i hx hb hts hK hP hD hS hA (by decide) (N := 176) (by decide) (by decide) (Nat.le_of_ble_eq_true rfl) (Nat.le_of_ble_eq_true rfl) d_CT_init_8 (fun q23 H hP hD hS => ?_)
  have hP : va_P (dC, dI) clsT [(h0, .inr (4, [.null, .null, .null, .null, .null, .null, .null, .null, .int 0, .int 0])), (q23, .inl (cI, 176, .inl (fun _ => 0)))] H := hP
  have hD : va_D A [(h0, .inr (4, [.null, .null, .null, .null, .null, .null, .null, .null, .int 0, .int 0])), (q23, .inl (cI, 176, .inl (fun _ => 0)))] := hD
  refine W.widen (k := 1) (n := 176) (Nat.le_of_ble_eq_true rfl) (Nat.le_of_ble_eq_true rfl) ?_
  refine va_putF (D := (dC, dI)) (ci := 4) (v := .ref q23) (ty := .array .int) (C := R_CT) (T := F_CT) (N := 10) hx hb hts in_CT t_CT t_CT_ok n_CT hown hK hP hD hS 0 rfl rfl 3 (by decide) (hts _ (tm 76 rfl)) (fun _ h9 => h9) rfl hin rfl (by decide +kernel) rfl rfl (Nat.le_of_ble_eq_true rfl) d_CT_init_10 (fun H locs hP hD hS => ?_)
  have hP : va_P (dC, dI) clsT [(h0, .inr (4, [.null, .null, .null, .ref q23, .null, .null, .null, .null, .int 0, .int 0])), (q23, .inl (cI, 176, .inl (fun _ => 0)))] H := hP
  have hD : va_D A [(h0, .inr (4, [.null, .null, .null, .ref q23, .null, .null, .null, .null, .int 0, .int 0])), (q23, .inl (cI, 176, .inl (fun _ => 0)))] := hD
  refine lv_aload_n hx hb d_CT_init_13 rfl (lv_at hl 0 rfl) ?_
  refine lv_sipush (v := 160) hx hb d_CT_init_14 (by decide) ?_
  refine nw_i hx hb hts hK hP hD hS hA (by decide) (N := 160) (by decide) (by decide) (Nat.le_of_ble_eq_true rfl) (Nat.le_of_ble_eq_true rfl) d_CT_init_17 (fun q24 H hP hD hS => ?_)
  have hP : va_P (dC, dI) clsT [(h0, .inr (4, [.null, .null, .null, .ref q23, .null, .null, .null, .null, .int 0, .int 0])), (q23, .inl (cI, 176, .inl (fun _ => 0))), (q24, .inl (cI, 160, .inl (fun _ => 0)))] H := hP
  have hD : va_D A [(h0, .inr (4, [.null, .null, .null, .ref q23, .null, .null, .null, .null, .int 0, .int 0])), (q23, .inl (cI, 176, .inl (fun _ => 0))), (q24, .inl (cI, 160, .inl (fun _ => 0)))] := hD
  refine W.widen (k := 2) (n := 336) (Nat.le_of_ble_eq_true rfl) (Nat.le_of_ble_eq_true rfl) ?_
  refine va_putF (D := (dC, dI)) (ci := 4) (v := .ref q24) (ty := .array .int) (C := R_CT) (T := F_CT) (N := 10) hx hb hts in_CT t_CT t_CT_ok n_CT hown hK hP hD hS 0 rfl rfl 4 (by decide) (hts _ (tm 78 rfl)) (fun _ h9 => h9) rfl hin rfl (by decide +kernel) rfl rfl (Nat.le_of_ble_eq_true rfl) d_CT_init_19 (fun H locs hP hD hS => ?_)
  have hP : va_P (dC, dI) clsT [(h0, .inr (4, [.null, .null, .null, .ref q23, .ref q24, .null, .null, .null, .int 0, .int 0])), (q23, .inl (cI, 176, .inl (fun _ => 0))), (q24, .inl (cI, 160, .inl (fun _ => 0)))] H := hP
  have hD : va_D A [(h0, .inr (4, [.null, .null, .null, .ref q23, .ref q24, .null, .null, .null, .int 0, .int 0])), (q23, .inl (cI, 176, .inl (fun _ => 0))), (q24, .inl (cI, 160, .inl (fun _ => 0)))] := hD
  refine lv_aload_n hx hb d_CT_init_22 rfl (lv_at hl 0 rfl) ?_
  refine lv_sipush (v := 160) hx hb d_CT_init_23 (by decide) ?_
  refine nw_i hx hb hts hK hP hD hS hA (by decide) (N := 160) (by decide) (by decide) (Nat.le_of_ble_eq_true rfl) (Nat.le_of_ble_eq_true rfl) d_CT_init_26 (fun q25 H hP hD hS => ?_)
  have hP : va_P (dC, dI) clsT [(h0, .inr (4, [.null, .null, .null, .ref q23, .ref q24, .null, .null, .null, .int 0, .int 0])), (q23, .inl (cI, 176, .inl (fun _ => 0))), (q24, .inl (cI, 160, .inl (fun _ => 0))), (q25, .inl (cI, 160, .inl (fun _ => 0)))] H := hP
  have hD : va_D A [(h0, .inr (4, [.null, .null, .null, .ref q23, .ref q24, .null, .null, .null, .int 0, .int 0])), (q23, .inl (cI, 176, .inl (fun _ => 0))), (q24, .inl (cI, 160, .inl (fun _ => 0))), (q25, .inl (cI, 160, .inl (fun _ => 0)))] := hD
  refine W.widen (k := 3) (n := 496) (Nat.le_of_ble_eq_true rfl) (Nat.le_of_ble_eq_true rfl) ?_
  refine va_putF (D := (dC, dI)) (ci := 4) (v := .ref q25) (ty := .array .int) (C := R_CT) (T := F_CT) (N := 10) hx hb hts in_CT t_CT t_CT_ok n_CT hown hK hP hD hS 0 rfl rfl 5 (by decide) (hts _ (tm 99 rfl)) (fun _ h9 => h9) rfl hin rfl (by decide +kernel) rfl rfl (Nat.le_of_ble_eq_true rfl) d_CT_init_28 (fun H locs hP hD hS => ?_)
  have hP : va_P (dC, dI) clsT [(h0, .inr (4, [.null, .null, .null, .ref q23, .ref q24, .ref q25, .null, .null, .int 0, .int 0])), (q23, .inl (cI, 176, .inl (fun _ => 0))), (q24, .inl (cI, 160, .inl (fun _ => 0))), (q25, .inl (cI, 160, .inl (fun _ => 0)))] H := hP
  have hD : va_D A [(h0, .inr (4, [.null, .null, .null, .ref q23, .ref q24, .ref q25, .null, .null, .int 0, .int 0])), (q23, .inl (cI, 176, .inl (fun _ => 0))), (q24, .inl (cI, 160, .inl (fun _ => 0))), (q25, .inl (cI, 160, .inl (fun _ => 0)))] := hD
  refine lv_aload_n hx hb d_CT_init_31 rfl (lv_at hl 0 rfl) ?_
  refine lv_sipush (v := 160) hx hb d_CT_init_32 (by decide) ?_
  refine nw_i hx hb hts hK hP hD hS hA (by decide) (N := 160) (by decide) (by decide) (Nat.le_of_ble_eq_true rfl) (Nat.le_of_ble_eq_true rfl) d_CT_init_35 (fun q26 H hP hD hS => ?_)
  have hP : va_P (dC, dI) clsT [(h0, .inr (4, [.null, .null, .null, .ref q23, .ref q24, .ref q25, .null, .null, .int 0, .int 0])), (q23, .inl (cI, 176, .inl (fun _ => 0))), (q24, .inl (cI, 160, .inl (fun _ => 0))), (q25, .inl (cI, 160, .inl (fun _ => 0))), (q26, .inl (cI, 160, .inl (fun _ => 0)))] H := hP
  have hD : va_D A [(h0, .inr (4, [.null, .null, .null, .ref q23, .ref q24, .ref q25, .null, .null, .int 0, .int 0])), (q23, .inl (cI, 176, .inl (fun _ => 0))), (q24, .inl (cI, 160, .inl (fun _ => 0))), (q25, .inl (cI, 160, .inl (fun _ => 0))), (q26, .inl (cI, 160, .inl (fun _ => 0)))] := hD
  refine W.widen (k := 4) (n := 656) (Nat.le_of_ble_eq_true rfl) (Nat.le_of_ble_eq_true rfl) ?_
  refine va_putF (D := (dC, dI)) (ci := 4) (v := .ref q26) (ty := .array .int) (C := R_CT) (T := F_CT) (N := 10) hx hb hts in_CT t_CT t_CT_ok n_CT hown hK hP hD hS 0 rfl rfl 6 (by decide) (hts _ (tm 132 rfl)) (fun _ h9 => h9) rfl hin rfl (by decide +kernel) rfl rfl (Nat.le_of_ble_eq_true rfl) d_CT_init_37 (fun H locs hP hD hS => ?_)
  have hP : va_P (dC, dI) clsT [(h0, .inr (4, [.null, .null, .null, .ref q23, .ref q24, .ref q25, .ref q26, .null, .int 0, .int 0])), (q23, .inl (cI, 176, .inl (fun _ => 0))), (q24, .inl (cI, 160, .inl (fun _ => 0))), (q25, .inl (cI, 160, .inl (fun _ => 0))), (q26, .inl (cI, 160, .inl (fun _ => 0)))] H := hP
  have hD : va_D A [(h0, .inr (4, [.null, .null, .null, .ref q23, .ref q24, .ref q25, .ref q26, .null, .int 0, .int 0])), (q23, .inl (cI, 176, .inl (fun _ => 0))), (q24, .inl (cI, 160, .inl (fun _ => 0))), (q25, .inl (cI, 160, .inl (fun _ => 0))), (q26, .inl (cI, 160, .inl (fun _ => 0)))] := hD
  refine lv_aload_n hx hb d_CT_init_40 rfl (lv_at hl 0 rfl) ?_
  refine lv_bipush (v := 40) hx hb d_CT_init_41 (by decide) ?_
  refine nw_i hx hb hts hK hP hD hS hA (by decide) (N := 40) (by decide) (by decide) (Nat.le_of_ble_eq_true rfl) (Nat.le_of_ble_eq_true rfl) d_CT_init_43 (fun q27 H hP hD hS => ?_)
  have hP : va_P (dC, dI) clsT [(h0, .inr (4, [.null, .null, .null, .ref q23, .ref q24, .ref q25, .ref q26, .null, .int 0, .int 0])), (q23, .inl (cI, 176, .inl (fun _ => 0))), (q24, .inl (cI, 160, .inl (fun _ => 0))), (q25, .inl (cI, 160, .inl (fun _ => 0))), (q26, .inl (cI, 160, .inl (fun _ => 0))), (q27, .inl (cI, 40, .inl (fun _ => 0)))] H := hP
  have hD : va_D A [(h0, .inr (4, [.null, .null, .null, .ref q23, .ref q24, .ref q25, .ref q26, .null, .int 0, .int 0])), (q23, .inl (cI, 176, .inl (fun _ => 0))), (q24, .inl (cI, 160, .inl (fun _ => 0))), (q25, .inl (cI, 160, .inl (fun _ => 0))), (q26, .inl (cI, 160, .inl (fun _ => 0))), (q27, .inl (cI, 40, .inl (fun _ => 0)))] := hD
  refine W.widen (k := 5) (n := 696) (Nat.le_of_ble_eq_true rfl) (Nat.le_of_ble_eq_true rfl) ?_
  refine va_putF (D := (dC, dI)) (ci := 4) (v := .ref q27) (ty := .array .int) (C := R_CT) (T := F_CT) (N := 10) hx hb hts in_CT t_CT t_CT_ok n_CT hown hK hP hD hS 0 rfl rfl 7 (by decide) (hts _ (tm 117 rfl)) (fun _ h9 => h9) rfl hin rfl (by decide +kernel) rfl rfl (Nat.le_of_ble_eq_true rfl) d_CT_init_45 (fun H locs hP hD hS => ?_)
  have hP : va_P (dC, dI) clsT [(h0, .inr (4, [.null, .null, .null, .ref q23, .ref q24, .ref q25, .ref q26, .ref q27, .int 0, .int 0])), (q23, .inl (cI, 176, .inl (fun _ => 0))), (q24, .inl (cI, 160, .inl (fun _ => 0))), (q25, .inl (cI, 160, .inl (fun _ => 0))), (q26, .inl (cI, 160, .inl (fun _ => 0))), (q27, .inl (cI, 40, .inl (fun _ => 0)))] H := hP
  have hD : va_D A [(h0, .inr (4, [.null, .null, .null, .ref q23, .ref q24, .ref q25, .ref q26, .ref q27, .int 0, .int 0])), (q23, .inl (cI, 176, .inl (fun _ => 0))), (q24, .inl (cI, 160, .inl (fun _ => 0))), (q25, .inl (cI, 160, .inl (fun _ => 0))), (q26, .inl (cI, 160, .inl (fun _ => 0))), (q27, .inl (cI, 40, .inl (fun _ => 0)))] := hD
  refine lv_aload_n hx hb d_CT_init_48 rfl (lv_at hl 0 rfl) ?_
  refine lv_aload_n hx hb d_CT_init_49 rfl (lv_at hl 1 rfl) ?_
  refine va_putF (D := (dC, dI)) (ci := 4) (v := .ref g0) (ty := .object "NetRoutes$Plan") (C := R_CT) (T := F_CT) (N := 10) hx hb hts in_CT t_CT t_CT_ok n_CT hown hK hP hD hS 0 rfl rfl 0 (by decide) (hts _ (tm 77 rfl)) (fun _ h9 => h9) rfl hin rfl (by decide +kernel) rfl rfl (Nat.le_of_ble_eq_true rfl) d_CT_init_50 (fun H locs hP hD hS => ?_)
  have hP : va_P (dC, dI) clsT [(h0, .inr (4, [.ref g0, .null, .null, .ref q23, .ref q24, .ref q25, .ref q26, .ref q27, .int 0, .int 0])), (q23, .inl (cI, 176, .inl (fun _ => 0))), (q24, .inl (cI, 160, .inl (fun _ => 0))), (q25, .inl (cI, 160, .inl (fun _ => 0))), (q26, .inl (cI, 160, .inl (fun _ => 0))), (q27, .inl (cI, 40, .inl (fun _ => 0)))] H := hP
  have hD : va_D A [(h0, .inr (4, [.ref g0, .null, .null, .ref q23, .ref q24, .ref q25, .ref q26, .ref q27, .int 0, .int 0])), (q23, .inl (cI, 176, .inl (fun _ => 0))), (q24, .inl (cI, 160, .inl (fun _ => 0))), (q25, .inl (cI, 160, .inl (fun _ => 0))), (q26, .inl (cI, 160, .inl (fun _ => 0))), (q27, .inl (cI, 40, .inl (fun _ => 0)))] := hD
  refine lv_aload_n hx hb d_CT_init_53 rfl (lv_at hl 0 rfl) ?_
  refine lv_aload_n hx hb d_CT_init_54 rfl (lv_at hl 2 rfl) ?_
  refine va_putF (D := (dC, dI)) (ci := 4) (v := .ref g1) (ty := .object "NetRoutes$Packets") (C := R_CT) (T := F_CT) (N := 10) hx hb hts in_CT t_CT t_CT_ok n_CT hown hK hP hD hS 0 rfl rfl 1 (by decide) (hts _ (tm 75 rfl)) (fun _ h9 => h9) rfl hin rfl (by decide +kernel) rfl rfl (Nat.le_of_ble_eq_true rfl) d_CT_init_55 (fun H locs hP hD hS => ?_)
  have hP : va_P (dC, dI) clsT [(h0, .inr (4, [.ref g0, .ref g1, .null, .ref q23, .ref q24, .ref q25, .ref q26, .ref q27, .int 0, .int 0])), (q23, .inl (cI, 176, .inl (fun _ => 0))), (q24, .inl (cI, 160, .inl (fun _ => 0))), (q25, .inl (cI, 160, .inl (fun _ => 0))), (q26, .inl (cI, 160, .inl (fun _ => 0))), (q27, .inl (cI, 40, .inl (fun _ => 0)))] H := hP
  have hD : va_D A [(h0, .inr (4, [.ref g0, .ref g1, .null, .ref q23, .ref q24, .ref q25, .ref q26, .ref q27, .int 0, .int 0])), (q23, .inl (cI, 176, .inl (fun _ => 0))), (q24, .inl (cI, 160, .inl (fun _ => 0))), (q25, .inl (cI, 160, .inl (fun _ => 0))), (q26, .inl (cI, 160, .inl (fun _ => 0))), (q27, .inl (cI, 40, .inl (fun _ => 0)))] := hD
  refine lv_aload_n hx hb d_CT_init_58 rfl (lv_at hl 0 rfl) ?_
  refine lv_aload_n hx hb d_CT_init_59 rfl (lv_at hl 3 rfl) ?_
  refine va_putF (D := (dC, dI)) (ci := 4) (v := .ref g2) (ty := .object "NetRoutes$Inputs") (C := R_CT) (T := F_CT) (N := 10) hx hb hts in_CT t_CT t_CT_ok n_CT hown hK hP hD hS 0 rfl rfl 2 (by decide) (hts _ (tm 74 rfl)) (fun _ h9 => h9) rfl hin rfl (by decide +kernel) rfl rfl (Nat.le_of_ble_eq_true rfl) d_CT_init_60 (fun H locs hP hD hS => ?_)
  have hP : va_P (dC, dI) clsT [(h0, .inr (4, [.ref g0, .ref g1, .ref g2, .ref q23, .ref q24, .ref q25, .ref q26, .ref q27, .int 0, .int 0])), (q23, .inl (cI, 176, .inl (fun _ => 0))), (q24, .inl (cI, 160, .inl (fun _ => 0))), (q25, .inl (cI, 160, .inl (fun _ => 0))), (q26, .inl (cI, 160, .inl (fun _ => 0))), (q27, .inl (cI, 40, .inl (fun _ => 0)))] H := hP
  have hD : va_D A [(h0, .inr (4, [.ref g0, .ref g1, .ref g2, .ref q23, .ref q24, .ref q25, .ref q26, .ref q27, .int 0, .int 0])), (q23, .inl (cI, 176, .inl (fun _ => 0))), (q24, .inl (cI, 160, .inl (fun _ => 0))), (q25, .inl (cI, 160, .inl (fun _ => 0))), (q26, .inl (cI, 160, .inl (fun _ => 0))), (q27, .inl (cI, 40, .inl (fun _ => 0)))] := hD
  refine lv_aload_n hx hb d_CT_init_63 rfl (lv_at hl 0 rfl) ?_
  refine va_get (D := (dC, dI)) (ci := 4) (v := .ref q23) (C := R_CT) (T := F_CT) (N := 10) hx hb hts in_CT hown hK hP 0 rfl rfl 3 (by decide) (hts _ (tm 76 rfl)) (fun _ h9 => h9) rfl d_CT_init_64 ?_
  refine lv_iconst (v := (-1)) hx hb d_CT_init_67 (by decide) ?_
  refine cl_fillG (rest := []) (v := (-1)) ⟨hx, hb, hml, hown, hts⟩ hK hP hD hS hA 1 rfl rfl (by decide) (gi_S9 (tm 590 rfl) (tm 26 rfl) (tm 27 rfl) (tm 28 rfl)) ⟨Nat.le_of_ble_eq_true rfl, Nat.le_of_ble_eq_true rfl⟩ hl.1 (lv_room (Nat.le_of_ble_eq_true rfl)) ⟨Nat.le_of_ble_eq_true rfl, Nat.le_of_ble_eq_true rfl⟩ d_CT_init_68 (fun H locs hP hD hS => ?_)
  have hP : va_P (dC, dI) clsT [(h0, .inr (4, [.ref g0, .ref g1, .ref g2, .ref q23, .ref q24, .ref q25, .ref q26, .ref q27, .int 0, .int 0])), (q23, .inl (cI, 176, .inl (fz (fun _ => 0) 176 (-1)))), (q24, .inl (cI, 160, .inl (fun _ => 0))), (q25, .inl (cI, 160, .inl (fun _ => 0))), (q26, .inl (cI, 160, .inl (fun _ => 0))), (q27, .inl (cI, 40, .inl (fun _ => 0)))] H := hP
  have hD : va_D A [(h0, .inr (4, [.ref g0, .ref g1, .ref g2, .ref q23, .ref q24, .ref q25, .ref q26, .ref q27, .int 0, .int 0])), (q23, .inl (cI, 176, .inl (fz (fun _ => 0) 176 (-1)))), (q24, .inl (cI, 160, .inl (fun _ => 0))), (q25, .inl (cI, 160, .inl (fun _ => 0))), (q26, .inl (cI, 160, .inl (fun _ => 0))), (q27, .inl (cI, 40, .inl (fun _ => 0)))] := hD
  refine lv_aload_n hx hb d_CT_init_71 rfl (lv_at hl 0 rfl) ?_
  refine va_get (D := (dC, dI)) (ci := 4) (v := .ref q24) (C := R_CT) (T := F_CT) (N := 10) hx hb hts in_CT hown hK hP 0 rfl rfl 4 (by decide) (hts _ (tm 78 rfl)) (fun _ h9 => h9) rfl d_CT_init_72 ?_
  refine lv_iconst (v := (-1)) hx hb d_CT_init_75 (by decide) ?_
  refine cl_fillG (rest := []) (v := (-1)) ⟨hx, hb, hml, hown, hts⟩ hK hP hD hS hA 2 rfl rfl (by decide) (gi_S9 (tm 590 rfl) (tm 26 rfl) (tm 27 rfl) (tm 28 rfl)) ⟨Nat.le_of_ble_eq_true rfl, Nat.le_of_ble_eq_true rfl⟩ hl.1 (lv_room (Nat.le_of_ble_eq_true rfl)) ⟨Nat.le_of_ble_eq_true rfl, Nat.le_of_ble_eq_true rfl⟩ d_CT_init_76 (fun H locs hP hD hS => ?_)
  have hP : va_P (dC, dI) clsT [(h0, .inr (4, [.ref g0, .ref g1, .ref g2, .ref q23, .ref q24, .ref q25, .ref q26, .ref q27, .int 0, .int 0])), (q23, .inl (cI, 176, .inl (fz (fun _ => 0) 176 (-1)))), (q24, .inl (cI, 160, .inl (fz (fun _ => 0) 160 (-1)))), (q25, .inl (cI, 160, .inl (fun _ => 0))), (q26, .inl (cI, 160, .inl (fun _ => 0))), (q27, .inl (cI, 40, .inl (fun _ => 0)))] H := hP
  have hD : va_D A [(h0, .inr (4, [.ref g0, .ref g1, .ref g2, .ref q23, .ref q24, .ref q25, .ref q26, .ref q27, .int 0, .int 0])), (q23, .inl (cI, 176, .inl (fz (fun _ => 0) 176 (-1)))), (q24, .inl (cI, 160, .inl (fz (fun _ => 0) 160 (-1)))), (q25, .inl (cI, 160, .inl (fun _ => 0))), (q26, .inl (cI, 160, .inl (fun _ => 0))), (q27, .inl (cI, 40, .inl (fun _ => 0)))] := hD
  refine lv_aload_n hx hb d_CT_init_79 rfl (lv_at hl 0 rfl) ?_
  refine va_get (D := (dC, dI)) (ci := 4) (v := .ref q25) (C := R_CT) (T := F_CT) (N := 10) hx hb hts in_CT hown hK hP 0 rfl rfl 5 (by decide) (hts _ (tm 99 rfl)) (fun _ h9 => h9) rfl d_CT_init_80 ?_
  refine lv_iconst (v := (-1)) hx hb d_CT_init_83 (by decide) ?_
  refine cl_fillG (rest := []) (v := (-1)) ⟨hx, hb, hml, hown, hts⟩ hK hP hD hS hA 3 rfl rfl (by decide) (gi_S9 (tm 590 rfl) (tm 26 rfl) (tm 27 rfl) (tm 28 rfl)) ⟨Nat.le_of_ble_eq_true rfl, Nat.le_of_ble_eq_true rfl⟩ hl.1 (lv_room (Nat.le_of_ble_eq_true rfl)) ⟨Nat.le_of_ble_eq_true rfl, Nat.le_of_ble_eq_true rfl⟩ d_CT_init_84 (fun H locs hP hD hS => ?_)
  have hP : va_P (dC, dI) clsT [(h0, .inr (4, [.ref g0, .ref g1, .ref g2, .ref q23, .ref q24, .ref q25, .ref q26, .ref q27, .int 0, .int 0])), (q23, .inl (cI, 176, .inl (fz (fun _ => 0) 176 (-1)))), (q24, .inl (cI, 160, .inl (fz (fun _ => 0) 160 (-1)))), (q25, .inl (cI, 160, .inl (fz (fun _ => 0) 160 (-1)))), (q26, .inl (cI, 160, .inl (fun _ => 0))), (q27, .inl (cI, 40, .inl (fun _ => 0)))] H := hP
  have hD : va_D A [(h0, .inr (4, [.ref g0, .ref g1, .ref g2, .ref q23, .ref q24, .ref q25, .ref q26, .ref q27, .int 0, .int 0])), (q23, .inl (cI, 176, .inl (fz (fun _ => 0) 176 (-1)))), (q24, .inl (cI, 160, .inl (fz (fun _ => 0) 160 (-1)))), (q25, .inl (cI, 160, .inl (fz (fun _ => 0) 160 (-1)))), (q26, .inl (cI, 160, .inl (fun _ => 0))), (q27, .inl (cI, 40, .inl (fun _ => 0)))] := hD
  refine lv_aload_n hx hb d_CT_init_87 rfl (lv_at hl 0 rfl) ?_
  refine va_get (D := (dC, dI)) (ci := 4) (v := .ref q27) (C := R_CT) (T := F_CT) (N := 10) hx hb hts in_CT hown hK hP 0 rfl rfl 7 (by decide) (hts _ (tm 117 rfl)) (fun _ h9 => h9) rfl d_CT_init_88 ?_
  refine lv_iconst (v := (-1)) hx hb d_CT_init_91 (by decide) ?_
  refine cl_fillG (rest := []) (v := (-1)) ⟨hx, hb, hml, hown, hts⟩ hK hP hD hS hA 5 rfl rfl (by decide) (gi_S9 (tm 590 rfl) (tm 26 rfl) (tm 27 rfl) (tm 28 rfl)) ⟨Nat.le_of_ble_eq_true rfl, Nat.le_of_ble_eq_true rfl⟩ hl.1 (lv_room (Nat.le_of_ble_eq_true rfl)) ⟨Nat.le_of_ble_eq_true rfl, Nat.le_of_ble_eq_true rfl⟩ d_CT_init_92 (fun H locs hP hD hS => ?_)
  have hP : va_P (dC, dI) clsT [(h0, .inr (4, [.ref g0, .ref g1, .ref g2, .ref q23, .ref q24, .ref q25, .ref q26, .ref q27, .int 0, .int 0])), (q23, .inl (cI, 176, .inl (fz (fun _ => 0) 176 (-1)))), (q24, .inl (cI, 160, .inl (fz (fun _ => 0) 160 (-1)))), (q25, .inl (cI, 160, .inl (fz (fun _ => 0) 160 (-1)))), (q26, .inl (cI, 160, .inl (fun _ => 0))), (q27, .inl (cI, 40, .inl (fz (fun _ => 0) 40 (-1))))] H := hP
  have hD : va_D A [(h0, .inr (4, [.ref g0, .ref g1, .ref g2, .ref q23, .ref q24, .ref q25, .ref q26, .ref q27, .int 0, .int 0])), (q23, .inl (cI, 176, .inl (fz (fun _ => 0) 176 (-1)))), (q24, .inl (cI, 160, .inl (fz (fun _ => 0) 160 (-1)))), (q25, .inl (cI, 160, .inl (fz (fun _ => 0) 160 (-1)))), (q26, .inl (cI, 160, .inl (fun _ => 0))), (q27, .inl (cI, 40, .inl (fz (fun _ => 0) 40 (-1))))] := hD
  exact W.vret hx hb hr (fun t ht hW => ⟨⟨(fun k => if k = 23 then q23 else if k = 24 then q24 else if k = 25 then q25 else if k = 26 then q26 else if k = 27 then q27 else 0), rfl, trivial, by rw [ht]; exact hP, va_K.moved hW.alike hK, hD⟩, hS.F ht⟩) hS.2.2 d_CT_init_95 hlocks
abbrev b_CR_init : ByteArray := prog_5_method_1_code
def y_CR_init : MethodName := ⟨R_CR, "<init>", "(LNetRoutes$Plan;)V"⟩
theorem d_CR_init_0 : decode b_CR_init 0 = .ok (.aload_n 0, 1) := by decide +kernel
theorem d_CR_init_1 : decode b_CR_init 1 = .ok (.invokespecial 3, 3) := by decide +kernel
theorem d_CR_init_4 : decode b_CR_init 4 = .ok (.aload_n 0, 1) := by decide +kernel
theorem d_CR_init_5 : decode b_CR_init 5 = .ok (.sipush 160, 3) := by decide +kernel
theorem d_CR_init_8 : decode b_CR_init 8 = .ok (.newarray .int, 2) := by decide +kernel
theorem d_CR_init_10 : decode b_CR_init 10 = .ok (.putfield 9, 3) := by decide +kernel
theorem d_CR_init_13 : decode b_CR_init 13 = .ok (.aload_n 0, 1) := by decide +kernel
theorem d_CR_init_14 : decode b_CR_init 14 = .ok (.sipush 256, 3) := by decide +kernel
theorem d_CR_init_17 : decode b_CR_init 17 = .ok (.newarray .int, 2) := by decide +kernel
theorem d_CR_init_19 : decode b_CR_init 19 = .ok (.putfield 15, 3) := by decide +kernel
theorem d_CR_init_22 : decode b_CR_init 22 = .ok (.aload_n 0, 1) := by decide +kernel
theorem d_CR_init_23 : decode b_CR_init 23 = .ok (.sipush 160, 3) := by decide +kernel
theorem d_CR_init_26 : decode b_CR_init 26 = .ok (.newarray .int, 2) := by decide +kernel
theorem d_CR_init_28 : decode b_CR_init 28 = .ok (.putfield 18, 3) := by decide +kernel
theorem d_CR_init_31 : decode b_CR_init 31 = .ok (.aload_n 0, 1) := by decide +kernel
theorem d_CR_init_32 : decode b_CR_init 32 = .ok (.sipush 160, 3) := by decide +kernel
theorem d_CR_init_35 : decode b_CR_init 35 = .ok (.newarray .int, 2) := by decide +kernel
theorem d_CR_init_37 : decode b_CR_init 37 = .ok (.putfield 21, 3) := by decide +kernel
theorem d_CR_init_40 : decode b_CR_init 40 = .ok (.aload_n 0, 1) := by decide +kernel
theorem d_CR_init_41 : decode b_CR_init 41 = .ok (.aload_n 1, 1) := by decide +kernel
theorem d_CR_init_42 : decode b_CR_init 42 = .ok (.putfield 24, 3) := by decide +kernel
theorem d_CR_init_45 : decode b_CR_init 45 = .ok (.return_, 1) := by decide +kernel
def i_CR (cI cZ : ClassId) (h0 : Nat) (g0 : Nat) (q : Nat → Nat) : va_W :=
  [(h0, .inr (5, [.ref g0, .ref (q 28), .ref (q 29), .ref (q 30), .ref (q 31), .int 0, .int 0])), ((q 28), .inl (cI, 160, .inl (fun _ => 0))), ((q 29), .inl (cI, 256, .inl (fun _ => 0))), ((q 30), .inl (cI, 160, .inl (fun _ => 0))), ((q 31), .inl (cI, 160, .inl (fun _ => 0)))]
set_option maxHeartbeats 4000000 in
set_option maxRecDepth 100000 in
theorem c_CR_init (l : Launch) (dC : Nat → ClassId) (dI : Nat → Nat → Nat) (cI cZ : ClassId) (h0 g0 sz : Nat) : Met l y_CR_init (.code y_CR_init b_CR_init 2 none :: TT) { frames := 1, cells := 4, slots := 736, locals := 23 } (pW (dC, dI) clsT (tyT cI cZ) [.ref h0, .ref g0] sz [(h0, .inr (5, [.null, .null, .null, .null, .null, .int 0, .int 0]))]) (va_Qv (fun _ : Nat → Nat => True) (fun q t => va_P (dC, dI) clsT (i_CR cI cZ h0 g0 q) t.heap ∧ va_K (dC, dI) clsT (tyT cI cZ) t ∧ va_D (va_A [(h0, .inr (5, [.null, .null, .null, .null, .null, .int 0, .int 0]))] sz) (i_CR cI cZ h0 g0 q)) (va_A [(h0, .inr (5, [.null, .null, .null, .null, .null, .int 0, .int 0]))] sz)) 4 736 (va_A [(h0, .inr (5, [.null, .null, .null, .null, .null, .int 0, .int 0]))] sz) := by
  refine hdi (Qf := fun A => (va_Qv (fun _ : Nat → Nat => True) (fun q t => va_P (dC, dI) clsT (i_CR cI cZ h0 g0 q) t.heap ∧ va_K (dC, dI) clsT (tyT cI cZ) t ∧ va_D A (i_CR cI cZ h0 g0 q)) A)) (by decide) rfl (Nat.le_of_ble_eq_true rfl) ?_
  intro p e s m below meth c A ls hx hb hr hts hown hlocks hml hK hP hD hS hA hl hin
  have hown : s.vm.findClass R_CR = some m.cls := hown
  have hl : lv_has ls 2 [(0, .ref h0), (1, .ref g0)] := hl
  refine lv_aload_n hx hb d_CR_init_0 rfl (lv_at hl 0 rfl) ?_
  refine W.objInit hx hb hown (hts _ (tm 597 rfl)) (hts _ (tm 560 rfl)) (hts _ (tm 561 rfl)) rfl (by rw [hml]; exact hl.1) rfl d_CR_init_1 (Nat.le_of_ble_eq_true rfl) (Nat.le_of_ble_eq_true rfl) ?_
  refine W.eq (g2 := F0 m 4 ls []) rfl ?_
  refine lv_aload_n hx hb d_CR_init_4 rfl (lv_at hl 0 rfl) ?_
  refine lv_sipush (v := 160) hx hb d_CR_init_5 (by decide) ?_
  refine nw_i hx hb hts hK hP hD hS hA (by decide) (N := 160) (by decide) (by decide) (Nat.le_of_ble_eq_true rfl) (Nat.le_of_ble_eq_true rfl) d_CR_init_8 (fun q28 H hP hD hS => ?_)
  have hP : va_P (dC, dI) clsT [(h0, .inr (5, [.null, .null, .null, .null, .null, .int 0, .int 0])), (q28, .inl (cI, 160, .inl (fun _ => 0)))] H := hP
  have hD : va_D A [(h0, .inr (5, [.null, .null, .null, .null, .null, .int 0, .int 0])), (q28, .inl (cI, 160, .inl (fun _ => 0)))] := hD
  refine W.widen (k := 1) (n := 160) (Nat.le_of_ble_eq_true rfl) (Nat.le_of_ble_eq_true rfl) ?_
  refine va_putF (D := (dC, dI)) (ci := 5) (v := .ref q28) (ty := .array .int) (C := R_CR) (T := F_CR) (N := 7) hx hb hts in_CR t_CR t_CR_ok n_CR hown hK hP hD hS 0 rfl rfl 1 (by decide) (hts _ (tm 190 rfl)) (fun _ h9 => h9) rfl hin rfl (by decide +kernel) rfl rfl (Nat.le_of_ble_eq_true rfl) d_CR_init_10 (fun H locs hP hD hS => ?_)
  have hP : va_P (dC, dI) clsT [(h0, .inr (5, [.null, .ref q28, .null, .null, .null, .int 0, .int 0])), (q28, .inl (cI, 160, .inl (fun _ => 0)))] H := hP
  have hD : va_D A [(h0, .inr (5, [.null, .ref q28, .null, .null, .null, .int 0, .int 0])), (q28, .inl (cI, 160, .inl (fun _ => 0)))] := hD
  refine lv_aload_n hx hb d_CR_init_13 rfl (lv_at hl 0 rfl) ?_
  refine lv_sipush (v := 256) hx hb d_CR_init_14 (by decide) ?_
  refine nw_i hx hb hts hK hP hD hS hA (by decide) (N := 256) (by decide) (by decide) (Nat.le_of_ble_eq_true rfl) (Nat.le_of_ble_eq_true rfl) d_CR_init_17 (fun q29 H hP hD hS => ?_)
  have hP : va_P (dC, dI) clsT [(h0, .inr (5, [.null, .ref q28, .null, .null, .null, .int 0, .int 0])), (q28, .inl (cI, 160, .inl (fun _ => 0))), (q29, .inl (cI, 256, .inl (fun _ => 0)))] H := hP
  have hD : va_D A [(h0, .inr (5, [.null, .ref q28, .null, .null, .null, .int 0, .int 0])), (q28, .inl (cI, 160, .inl (fun _ => 0))), (q29, .inl (cI, 256, .inl (fun _ => 0)))] := hD
  refine W.widen (k := 2) (n := 416) (Nat.le_of_ble_eq_true rfl) (Nat.le_of_ble_eq_true rfl) ?_
  refine va_putF (D := (dC, dI)) (ci := 5) (v := .ref q29) (ty := .array .int) (C := R_CR) (T := F_CR) (N := 7) hx hb hts in_CR t_CR t_CR_ok n_CR hown hK hP hD hS 0 rfl rfl 2 (by decide) (hts _ (tm 193 rfl)) (fun _ h9 => h9) rfl hin rfl (by decide +kernel) rfl rfl (Nat.le_of_ble_eq_true rfl) d_CR_init_19 (fun H locs hP hD hS => ?_)
  have hP : va_P (dC, dI) clsT [(h0, .inr (5, [.null, .ref q28, .ref q29, .null, .null, .int 0, .int 0])), (q28, .inl (cI, 160, .inl (fun _ => 0))), (q29, .inl (cI, 256, .inl (fun _ => 0)))] H := hP
  have hD : va_D A [(h0, .inr (5, [.null, .ref q28, .ref q29, .null, .null, .int 0, .int 0])), (q28, .inl (cI, 160, .inl (fun _ => 0))), (q29, .inl (cI, 256, .inl (fun _ => 0)))] := hD
  refine lv_aload_n hx hb d_CR_init_22 rfl (lv_at hl 0 rfl) ?_
  refine lv_sipush (v := 160) hx hb d_CR_init_23 (by decide) ?_
  refine nw_i hx hb hts hK hP hD hS hA (by decide) (N := 160) (by decide) (by decide) (Nat.le_of_ble_eq_true rfl) (Nat.le_of_ble_eq_true rfl) d_CR_init_26 (fun q30 H hP hD hS => ?_)
  have hP : va_P (dC, dI) clsT [(h0, .inr (5, [.null, .ref q28, .ref q29, .null, .null, .int 0, .int 0])), (q28, .inl (cI, 160, .inl (fun _ => 0))), (q29, .inl (cI, 256, .inl (fun _ => 0))), (q30, .inl (cI, 160, .inl (fun _ => 0)))] H := hP
  have hD : va_D A [(h0, .inr (5, [.null, .ref q28, .ref q29, .null, .null, .int 0, .int 0])), (q28, .inl (cI, 160, .inl (fun _ => 0))), (q29, .inl (cI, 256, .inl (fun _ => 0))), (q30, .inl (cI, 160, .inl (fun _ => 0)))] := hD
  refine W.widen (k := 3) (n := 576) (Nat.le_of_ble_eq_true rfl) (Nat.le_of_ble_eq_true rfl) ?_
  refine va_putF (D := (dC, dI)) (ci := 5) (v := .ref q30) (ty := .array .int) (C := R_CR) (T := F_CR) (N := 7) hx hb hts in_CR t_CR t_CR_ok n_CR hown hK hP hD hS 0 rfl rfl 3 (by decide) (hts _ (tm 199 rfl)) (fun _ h9 => h9) rfl hin rfl (by decide +kernel) rfl rfl (Nat.le_of_ble_eq_true rfl) d_CR_init_28 (fun H locs hP hD hS => ?_)
  have hP : va_P (dC, dI) clsT [(h0, .inr (5, [.null, .ref q28, .ref q29, .ref q30, .null, .int 0, .int 0])), (q28, .inl (cI, 160, .inl (fun _ => 0))), (q29, .inl (cI, 256, .inl (fun _ => 0))), (q30, .inl (cI, 160, .inl (fun _ => 0)))] H := hP
  have hD : va_D A [(h0, .inr (5, [.null, .ref q28, .ref q29, .ref q30, .null, .int 0, .int 0])), (q28, .inl (cI, 160, .inl (fun _ => 0))), (q29, .inl (cI, 256, .inl (fun _ => 0))), (q30, .inl (cI, 160, .inl (fun _ => 0)))] := hD
  refine lv_aload_n hx hb d_CR_init_31 rfl (lv_at hl 0 rfl) ?_
  refine lv_sipush (v := 160) hx hb d_CR_init_32 (by decide) ?_
  refine nw_i hx hb hts hK hP hD hS hA (by decide) (N := 160) (by decide) (by decide) (Nat.le_of_ble_eq_true rfl) (Nat.le_of_ble_eq_true rfl) d_CR_init_35 (fun q31 H hP hD hS => ?_)
  have hP : va_P (dC, dI) clsT [(h0, .inr (5, [.null, .ref q28, .ref q29, .ref q30, .null, .int 0, .int 0])), (q28, .inl (cI, 160, .inl (fun _ => 0))), (q29, .inl (cI, 256, .inl (fun _ => 0))), (q30, .inl (cI, 160, .inl (fun _ => 0))), (q31, .inl (cI, 160, .inl (fun _ => 0)))] H := hP
  have hD : va_D A [(h0, .inr (5, [.null, .ref q28, .ref q29, .ref q30, .null, .int 0, .int 0])), (q28, .inl (cI, 160, .inl (fun _ => 0))), (q29, .inl (cI, 256, .inl (fun _ => 0))), (q30, .inl (cI, 160, .inl (fun _ => 0))), (q31, .inl (cI, 160, .inl (fun _ => 0)))] := hD
  refine W.widen (k := 4) (n := 736) (Nat.le_of_ble_eq_true rfl) (Nat.le_of_ble_eq_true rfl) ?_
  refine va_putF (D := (dC, dI)) (ci := 5) (v := .ref q31) (ty := .array .int) (C := R_CR) (T := F_CR) (N := 7) hx hb hts in_CR t_CR t_CR_ok n_CR hown hK hP hD hS 0 rfl rfl 4 (by decide) (hts _ (tm 200 rfl)) (fun _ h9 => h9) rfl hin rfl (by decide +kernel) rfl rfl (Nat.le_of_ble_eq_true rfl) d_CR_init_37 (fun H locs hP hD hS => ?_)
  have hP : va_P (dC, dI) clsT [(h0, .inr (5, [.null, .ref q28, .ref q29, .ref q30, .ref q31, .int 0, .int 0])), (q28, .inl (cI, 160, .inl (fun _ => 0))), (q29, .inl (cI, 256, .inl (fun _ => 0))), (q30, .inl (cI, 160, .inl (fun _ => 0))), (q31, .inl (cI, 160, .inl (fun _ => 0)))] H := hP
  have hD : va_D A [(h0, .inr (5, [.null, .ref q28, .ref q29, .ref q30, .ref q31, .int 0, .int 0])), (q28, .inl (cI, 160, .inl (fun _ => 0))), (q29, .inl (cI, 256, .inl (fun _ => 0))), (q30, .inl (cI, 160, .inl (fun _ => 0))), (q31, .inl (cI, 160, .inl (fun _ => 0)))] := hD
  refine lv_aload_n hx hb d_CR_init_40 rfl (lv_at hl 0 rfl) ?_
  refine lv_aload_n hx hb d_CR_init_41 rfl (lv_at hl 1 rfl) ?_
  refine va_putF (D := (dC, dI)) (ci := 5) (v := .ref g0) (ty := .object "NetRoutes$Plan") (C := R_CR) (T := F_CR) (N := 7) hx hb hts in_CR t_CR t_CR_ok n_CR hown hK hP hD hS 0 rfl rfl 0 (by decide) (hts _ (tm 187 rfl)) (fun _ h9 => h9) rfl hin rfl (by decide +kernel) rfl rfl (Nat.le_of_ble_eq_true rfl) d_CR_init_42 (fun H locs hP hD hS => ?_)
  have hP : va_P (dC, dI) clsT [(h0, .inr (5, [.ref g0, .ref q28, .ref q29, .ref q30, .ref q31, .int 0, .int 0])), (q28, .inl (cI, 160, .inl (fun _ => 0))), (q29, .inl (cI, 256, .inl (fun _ => 0))), (q30, .inl (cI, 160, .inl (fun _ => 0))), (q31, .inl (cI, 160, .inl (fun _ => 0)))] H := hP
  have hD : va_D A [(h0, .inr (5, [.ref g0, .ref q28, .ref q29, .ref q30, .ref q31, .int 0, .int 0])), (q28, .inl (cI, 160, .inl (fun _ => 0))), (q29, .inl (cI, 256, .inl (fun _ => 0))), (q30, .inl (cI, 160, .inl (fun _ => 0))), (q31, .inl (cI, 160, .inl (fun _ => 0)))] := hD
  exact W.vret hx hb hr (fun t ht hW => ⟨⟨(fun k => if k = 28 then q28 else if k = 29 then q29 else if k = 30 then q30 else if k = 31 then q31 else 0), rfl, trivial, by rw [ht]; exact hP, va_K.moved hW.alike hK, hD⟩, hS.F ht⟩) hS.2.2 d_CR_init_45 hlocks
