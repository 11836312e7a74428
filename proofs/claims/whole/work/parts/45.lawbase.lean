/-! the law: calls of its static methods that have a table, calls of the reference, of the class; a comparison of equal longs -/
section LWB
variable {p : Program} {l : Launch} {e : Env} {R : Room} {s : State} {m : MethodId} {args : Array Value} {below : List Frame} {meth : Method} {c : Code} {H : Heap} {locs : List Loc} {cells slots : Nat} {Q : State → Prop}
variable {y : MethodName} {bytes cc : ByteArray} {maxL nL mc ms n index : Nat} {ret9 : Option FieldType} {rm : Room} {A : Nat → Prop} {own C : String} {As rest : List Value} {pc : Nat} {ls : Array Slot} {st0 : List Value}
variable {D : va_G} {cI cZ cJ : ClassId}
theorem lw_lcmp (hexec : p.tables.exec = Jvm.exec) (hb : c.code = cc) {x y : Int64} (hxy : x = y) (hdg : decode cc pc = .ok (.lcmp, 1))
    (k : W p l e R s m args below meth c H locs cells slots Q (F0 m (pc + 1) ls (.int 0 :: rest))) : W p l e R s m args below meth c H locs cells slots Q (F0 m pc ls (.long y :: .long x :: rest)) := by
  intro T hT X
  obtain ⟨t, a, b⟩ := k T hT X
  refine ⟨t, ?_, b⟩
  subst hxy
  have h1 : ¬ x > x := Int64.lt_irrefl
  jvm_step X.here [X.here.top, hexec, hb, hdg, h1]
  exact a
theorem gi_W {y : MethodName} {b : ByteArray} {n : Nat} {r : Option FieldType} {hh : List (Nat × Nat × Nat × Nat)} (h5 : Cond.codeWith y b n r hh ∈ TT) : GoodIn TT (.codeWith y b n r hh :: TT) := by
  intro w hw
  rcases List.mem_cons.mp hw with rfl | hw
  · exact gt h5
  · exact gt hw
theorem lw_runS {hh : List (Nat × Nat × Nat × Nat)} {Pc : Array Value → State → Prop} {Qc : Array Value → State → Outcome → State → Prop} {free : Addr → Prop} {g : JFrame} (S : CallFix p m c cc nL s args TT own) (hM : Met l y (.codeWith y bytes maxL ret9 hh :: TT) rm Pc Qc mc ms free)
    (w1 : Cond.methodLink own index y ∈ TT) (w2 : Cond.static y ∈ TT) (w3 : Cond.initialized y.cls ∈ TT) (w4 : Cond.codeWith y bytes maxL ret9 hh ∈ TT) (hrc : rm.cells = mc) (hrs : rm.slots = ms) (hfr : rm.frames + 1 ≤ R.frames) (hlo : 8 + (maxL + 11) + rm.locals ≤ R.locals)
    (hd : y.cls ≠ "java/lang/invoke/MethodHandle" ∧ y.cls ≠ "java/lang/invoke/VarHandle" ∧ (parseMethodDescriptor y.desc).map (fun d => d.parameters.length) = some n) (hp : PreS s H Pc As)
    (hg : g.method = m) (hn : As.length = n) (hsize : g.locals.size = nL) (hstack : g.stack = As.reverse ++ rest) (hW : 2 * g.monitorRoom + (rest.map fun v => v.category).sum ≤ 8) (hdg : decode cc g.pc = .ok (.invokestatic index, 3)) (hf : cells + mc ≤ R.cells ∧ slots + ms ≤ R.slots) :
    va_Run p l e R s m args below meth c H locs cells slots mc ms g rest (Qc As.toArray) (free) := by
  obtain ⟨hx, hb, hml, ho, hts⟩ := S
  have hws := pay_in hts (gi_W w4)
  have hini := hts _ w3
  have hK : Back l R p e below s args y 3 8 (PreOf R mc ms Pc) (PostOf Qc mc ms free) := va_backW (hh := hh) (bytes := bytes) (maxL := maxL) (ret := ret9) hM hp.1 hrc hrs hfr hlo hws List.mem_cons_self (fun a' U hW => word_at hW (Or.inl (by first | rfl | simp [Cond.onTables, Cond.keeps, Cond.steady])) hini)
  have hPc := hp.2
  intro T hT X
  obtain ⟨mk, methM, cM, hnamed, hmethM, -, -, -, -, -, -, hsigM⟩ := Cond.codeWith_spec (hts _ w4)
  have hstatic : methM.isStatic = true := Cond.static_spec hnamed hmethM (hts _ w2)
  obtain ⟨kP, hkP, -⟩ := className_of_methodNamed hnamed
  have hinitP : kP.init = .initialized := Cond.initialized_spec (findClass_of_methodNamed hnamed) hkP hini
  have hlen : As.length = methM.sig.parameters.length := by
    have h2 := hd.2.2
    rw [hsigM] at h2
    exact hn.trans (Option.some.inj h2).symm
  obtain ⟨vm₁, X₁, hstep₁⟩ := X.invokestatic hx ho (hts _ w1) hnamed hmethM hstatic hkP hinitP ⟨hd.1, hd.2.1⟩ (g := g) hg (argsL := As) (rest := rest) hlen hstack (by rw [hb]; exact hdg)
  obtain ⟨v, ⟨U', l2, c2, s2⟩, X', hpost, hsteps⟩ := hK m meth c ⟨T.setVm vm₁, locs, cells, slots⟩ { g with stack := rest } (.invokestatic index) mk As.toArray X₁ hg (hsize.trans hml.symm) (by show decode c.code g.pc = _; rw [hb]; exact hdg) hW (X₁.named hnamed) ⟨hf.1, hf.2, hPc (T.setVm vm₁) hT X₁.warmed⟩
  obtain ⟨g', mk', t, L, e1, e2, hq, h1, hL, h2, h3⟩ := hpost
  dsimp only [Pt.U, Pt.locs, Pt.cells, Pt.slots] at X' e1 e2 h1 h2 h3 hsteps
  subst h1; subst h2; subst h3
  exact ⟨v, (T.setVm vm₁).calling g' mk' As.toArray, t, U', L, hT, X', hL, e1, e2, hq, fun target h => hstep₁ _ fun acts => by rw [doInvoke_state]; exact hsteps.trans h⟩
/-- a method of the law that calls the class -/
theorem lw_wrap {a : Nat → Nat} {o : Nat} {σ : SS} {f : Nat → Int64} {Z : va_W} {P : Int32 → Int64 → SS → Prop}
    (hr : va_Run p l e R s m args below meth c H locs cells slots 1 6 (F0 m pc ls st0) rest (va_Qi (fun k (u : (Nat → Int64) × SS) => P k (u.1 0) u.2) (bL D cI cZ cJ a o (va_A (lo cJ o f ++ wC cI cZ a σ) H.size)) (va_A (lo cJ o f ++ wC cI cZ a σ) H.size) As.toArray) (va_A (lo cJ o f ++ wC cI cZ a σ) H.size))
    (hP : va_P D clsT ((lo cJ o f ++ wC cI cZ a σ) ++ Z) H) (hD : va_D A ((lo cJ o f ++ wC cI cZ a σ) ++ Z)) (hS : va_S A s.heap H locs) (hA : ∀ q, s.heap.size ≤ q → A q)
    (kk : ∀ (k : Int32) (f1 : Nat → Int64) (σ1 : SS) (H : Heap) (locs : List Loc), P k (f1 0) σ1 → va_P D clsT ((lo cJ o f1 ++ wC cI cZ a σ1) ++ Z) H → va_D A ((lo cJ o f1 ++ wC cI cZ a σ1) ++ Z) → va_S A s.heap H locs → W p l e R s m args below meth c H locs (cells + 1) (slots + 6) Q (F0 m (pc + 3) ls (.int k :: rest))) :
    W p l e R s m args below meth c H locs cells slots Q (F0 m pc ls st0) := by
  have hF := wA (jo_DL hD) hS hA
  refine va_calli hr hS (fun q _ h => hF q h) hF (fun r u t H1 locs1 ht _ hp hB _ hk hS1 => ?_)
  obtain ⟨h1, -, h3⟩ := hB
  rw [ht] at h1
  obtain ⟨g1, g2⟩ := jo_L hP hD hk hF h1 h3
  exact kk r u.1 u.2 H1 locs1 hp g1 g2 hS1
theorem lw_pL {s : State} {ws Z : va_W} (hK : va_K D clsT (tyL cI cZ cJ) s) (hP : va_P D clsT (ws ++ Z) H) (hD : va_D A (ws ++ Z)) (hS : va_S A s.heap H locs) (hA : ∀ q, s.heap.size ≤ q → A q) (hO : ex_O A s) (hE : ex_P s) : PreS s H (pL D clsT (tyL cI cZ cJ) As H.size ws) As :=
  ⟨pL_blind, fun U hU hW => ⟨rfl, by rw [hU], by rw [hU]; exact jo_PL hP, va_K.moved hW.alike hK, (jo_DL hD).weaken (fun _ _ _ _ => trivial), hO.go hW (fun a h1 h2 => by rw [hU]; exact hS.2.1 a h1 h2) (fun q _ h => wA (jo_DL hD) hS hA q h), hE.moved hW.alike⟩⟩
/-- a method of the reference -/
theorem lw_ref {w : SS → va_W} {τ : SS} {Y : va_W} {post : Int32 → SS → Prop} {a9 : Array Value}
    (hr : va_Run p l e R s m args below meth c H locs cells slots 0 0 (F0 m pc ls st0) rest (va_Qi post (bW D clsT (tyT cI cZ) w (va_A (w τ) H.size)) (va_A (w τ) H.size) a9) (va_A (w τ) H.size))
    (hP : va_P D clsT (Y ++ w τ) H) (hD : va_D A (Y ++ w τ)) (hS : va_S A s.heap H locs) (hA : ∀ q, s.heap.size ≤ q → A q)
    (kk : ∀ (r : Int32) (τ1 : SS) (H : Heap) (locs : List Loc), post r τ1 → va_P D clsT (Y ++ w τ1) H → va_D A (Y ++ w τ1) → va_S A s.heap H locs → W p l e R s m args below meth c H locs cells slots Q (F0 m (pc + 3) ls (.int r :: rest))) :
    W p l e R s m args below meth c H locs cells slots Q (F0 m pc ls st0) := by
  have hF := wA (jo_DR hD) hS hA
  refine va_calli hr hS (fun q _ h => hF q h) hF (fun r u t H1 locs1 ht _ hp hB _ hk hS1 => ?_)
  obtain ⟨h1, -, h3⟩ := hB
  rw [ht] at h1
  obtain ⟨g1, g2⟩ := jo_R hP hD hk hF h1 h3
  exact kk r u H1 locs1 hp g1 g2 hS1
/-- a method of the class that throws nothing -/
theorem lw_mid {w : SS → va_W} {σ : SS} {X Z : va_W} {post : Int32 → SS → Prop} {a9 : Array Value}
    (hr : va_Run p l e R s m args below meth c H locs cells slots 0 0 (F0 m pc ls st0) rest (va_Qi post (bW D clsT (tyT cI cZ) w (va_A (w σ) H.size)) (va_A (w σ) H.size) a9) (va_A (w σ) H.size))
    (hP : va_P D clsT ((X ++ w σ) ++ Z) H) (hD : va_D A ((X ++ w σ) ++ Z)) (hS : va_S A s.heap H locs) (hA : ∀ q, s.heap.size ≤ q → A q)
    (kk : ∀ (r : Int32) (σ1 : SS) (H : Heap) (locs : List Loc), post r σ1 → va_P D clsT ((X ++ w σ1) ++ Z) H → va_D A ((X ++ w σ1) ++ Z) → va_S A s.heap H locs → W p l e R s m args below meth c H locs cells slots Q (F0 m (pc + 3) ls (.int r :: rest))) :
    W p l e R s m args below meth c H locs cells slots Q (F0 m pc ls st0) := by
  have hF := wA (jo_DR (jo_DL hD)) hS hA
  have hF2 := wA (jo_DL hD) hS hA
  have hin : ∀ q, va_A (w σ) H.size q → va_A (X ++ w σ) H.size q := fun q h => by
    rcases h with ⟨k, e, h⟩ | h
    · exact Or.inl ⟨X.length + k, e, by rw [List.getElem?_append_right (by omega)]; simpa using h⟩
    · exact Or.inr h
  refine va_calli hr hS (fun q _ h => hF q h) hF (fun r u t H1 locs1 ht _ hp hB _ hk hS1 => ?_)
  obtain ⟨h1, -, h3⟩ := hB
  rw [ht] at h1
  obtain ⟨g1, g2⟩ := jo_R (jo_PL hP) ((jo_DL hD).self (sz := H.size)) hk hin h1 h3
  obtain ⟨g3, g4⟩ := jo_L hP hD (fun q h1 h2 => hk q h1 (fun z => h2 (hin q z))) hF2 g1 g2
  exact kk r u H1 locs1 hp g3 g4 hS1
end LWB
/-! the method cell of the law -/
def lw_Xc (b L : Nat) (xs : Nat → Int32) (sz : Nat) : Array Value → State → Prop := va_Pc [.ref b, .int 0] (fun U => U.heap.size = sz ∧ va_X b L xs U U.heap ∧ b < U.heap.size)
theorem lw_Xc_blind {b L sz : Nat} {xs : Nat → Int32} : FrameBlind (lw_Xc b L xs sz) := fun a U g mk q => by
  obtain ⟨q0, q1, qX, qb⟩ := q
  exact ⟨q0, q1, va_X.moved (u := U) (U := U.calling g mk a) (Vm.Alike.refl U.vm) qX, qb⟩

abbrev b_L_cell : ByteArray := method_2_code
def y_L_cell : MethodName := ⟨R_L, "cell", "([II)I"⟩
theorem d_L_cell_0 : decode b_L_cell 0 = .ok (.iload_n 1, 1) := by decide +kernel
theorem d_L_cell_1 : decode b_L_cell 1 = .ok (.aload_n 0, 1) := by decide +kernel
theorem d_L_cell_2 : decode b_L_cell 2 = .ok (.arraylength, 1) := by decide +kernel
theorem d_L_cell_3 : decode b_L_cell 3 = .ok (.if_icmp .ge 9, 3) := by decide +kernel
theorem d_L_cell_6 : decode b_L_cell 6 = .ok (.aload_n 0, 1) := by decide +kernel
theorem d_L_cell_7 : decode b_L_cell 7 = .ok (.iload_n 1, 1) := by decide +kernel
theorem d_L_cell_8 : decode b_L_cell 8 = .ok (.iaload, 1) := by decide +kernel
theorem d_L_cell_9 : decode b_L_cell 9 = .ok (.goto 4, 3) := by decide +kernel
theorem d_L_cell_12 : decode b_L_cell 12 = .ok (.iconst 0, 1) := by decide +kernel
theorem d_L_cell_13 : decode b_L_cell 13 = .ok (.ireturn, 1) := by decide +kernel
theorem c_L_cell (l : Launch) (b L sz : Nat) (xs : Nat → Int32) (hL : L ≤ 2049) : Met l y_L_cell (.code y_L_cell b_L_cell 2 (some .int) :: TT) { frames := 0, cells := 0, slots := 0, locals := 0 } (lw_Xc b L xs sz) (va_Qi (fun r (_ : Unit) => r = if 0 < L then xs 0 else 0) (fun _ _ => True) (fun q => sz ≤ q)) 0 0 (fun q => sz ≤ q) := by
  refine Met.ofW (cc := b_L_cell) (maxL := 2) (ret := some .int) (by decide) rfl ?_
  intro p e s m args below meth c s₁ B hml hv
  obtain ⟨rfl, hsz, hX, hbl⟩ := hv
  subst hsz
  have hl0 := lv_entry [.ref b, .int 0] (n := 2) (Nat.le_of_ble_eq_true rfl)
  rw [lg_entry_eq]
  revert hl0
  generalize (lg_sl [Value.ref b, Value.int 0]) = z9
  intro hl0
  have hx := B.exec
  have hb := B.bytes
  have hr := B.returns
  have hlocks := B.notSynchronized
  have hS : va_S (fun q => s.heap.size ≤ q) s.heap s.heap [] := va_S.rf
  have hbA : ¬ s.heap.size ≤ b := by omega
  have eL : (Int32.ofNat L).toInt = L := Int32.toInt_ofNat_of_lt (by omega)
  refine lv_iload_n hx hb d_L_cell_0 rfl (lv_at hl0 1 rfl) ?_
  refine lv_aload_n hx hb d_L_cell_1 rfl (lv_at hl0 0 rfl) ?_
  refine va_slen hx hb hX hbl hbA hS d_L_cell_2 ?_
  refine lv_icmp_ge (tgt := 12) hx hb d_L_cell_3 (by decide) (fun c1 => ?_) (fun c1 => ?_)
  · refine lv_iconst (v := 0) hx hb d_L_cell_12 (by decide) ?_
    refine rr_i (A := fun q => s.heap.size ≤ q) hx hb hr hlocks hS d_L_cell_13 ?_
    have h1 : ¬ 0 < L := by rw [Int32.le_iff_toInt_le, eL] at c1; simp at c1; omega
    rw [if_neg h1]
  · have h1 : 0 < L := by rw [Int32.le_iff_toInt_le, eL] at c1; simp at c1; omega
    refine lv_aload_n hx hb d_L_cell_6 rfl (lv_at hl0 0 rfl) ?_
    refine lv_iload_n hx hb d_L_cell_7 rfl (lv_at hl0 1 rfl) ?_
    refine va_sld hx hb hX hbl hbA hS (by rw [vp_in_iff]; simp; omega) d_L_cell_8 ?_
    refine lv_goto (tgt := 13) hx hb d_L_cell_9 (by decide) ?_
    refine rr_i (A := fun q => s.heap.size ≤ q) hx hb hr hlocks hS d_L_cell_13 ?_
    rw [if_pos h1]; rfl
