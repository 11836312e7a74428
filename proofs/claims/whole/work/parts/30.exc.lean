/-! Exceptions: what a 'throw new E("text")' of NetRoutes needs, said so that it can be carried from a caller to its callee; the contract of a method that returns or throws; the throw itself. -/
def ex_N : List String := ["java/lang/RuntimeException", "java/lang/Exception"]
def ex_T : List Cond := [.declares (Bundle.initS "java/lang/RuntimeException"), .declares (Bundle.initS "java/lang/Exception"), .declares (Bundle.initS Bundle.tN), .castable "java/lang/UnsupportedOperationException" "java/lang/UnsupportedOperationException", .castable "java/lang/IllegalArgumentException" "java/lang/IllegalArgumentException", .castable "java/lang/IllegalStateException" "java/lang/IllegalStateException", .castable "java/lang/IndexOutOfBoundsException" "java/lang/IndexOutOfBoundsException"]
/-- a static of Throwable that holds a reference or null, in a cell that A leaves alone -/
def ex_L (n d : String) (A : Nat → Prop) (U : State) (H : Heap) : Prop := ∃ (c : ClassId) (k : Class) (i : Nat) (f : Field) (a : Nat) (cell : Cell) (v : Value), U.vm.findClass Bundle.tN = some c ∧ U.fieldFound? Bundle.tN n d = some (c, k, i, f) ∧ f.isStatic = true ∧ k.statics = some a ∧ k.staticTypes[f.slot]? = some f.type ∧ H[a]? = some cell ∧ cell.vm.isStatics = true ∧ cell.cls = c ∧ f.slot < cell.slots.size ∧ cell.slots[f.slot]? = some v ∧ v.isRef = true ∧ ¬ A a
theorem ex_L.moved {n d : String} {A : Nat → Prop} {u U : State} {H : Heap} (hvm : u.vm.Alike U.vm) (h : ex_L n d A u H) : ex_L n d A U H := by
  obtain ⟨c, k, i, f, a, cell, v, h1, h2, h3, h4, h5, h6⟩ := h
  obtain ⟨k', hi', he⟩ := State.fieldFound?_setVm hvm h2
  exact ⟨c, k', i, f, a, cell, v, by rw [hvm.findClass]; exact h1, hi', h3, by rw [he]; exact h4, by rw [he]; exact h5, h6⟩
theorem ex_L.kept {n d : String} {A B : Nat → Prop} {U : State} {H H1 : Heap} (h : ex_L n d A U H) (hq : ∀ a : Nat, a < H.size → ¬ A a → H1[a]? = H[a]?) (hAB : ∀ q, q < H.size → B q → A q) : ex_L n d B U H1 := by
  obtain ⟨c, k, i, f, a, cell, v, h1, h2, h3, h4, h5, h6, h7, h8, h9, h10, h11, h12⟩ := h
  have hlt := (Array.getElem?_eq_some_iff.mp h6).1
  exact ⟨c, k, i, f, a, cell, v, h1, h2, h3, h4, h5, by rw [hq a hlt h12]; exact h6, h7, h8, h9, h10, h11, fun z => h12 (hAB a hlt z)⟩
theorem ex_L.lays {n d : String} {A : Nat → Prop} {s : State} {args : Array Value} (h : ex_L n d A s s.heap) : (Cond.laysStatic Bundle.tN n d).before args s = true := by
  obtain ⟨c, k, i, f, a, cell, v, h1, h2, h3, h4, h5, h6, h7, h8, h9, h10, h11, h12⟩ := h
  simp [Cond.before, Cond.holds, Cond.value, h1, h2, h3, h4, h5, h6, h7, h8, h9]
theorem ex_L.ref {n d : String} {A : Nat → Prop} {s : State} {args : Array Value} (h : ex_L n d A s s.heap) : (Cond.isRef (.static Bundle.tN n d)).before args s = true := by
  obtain ⟨c, k, i, f, a, cell, v, h1, h2, h3, h4, h5, h6, h7, h8, h9, h10, h11, h12⟩ := h
  have hv : (Term.static Bundle.tN n d).eval args s none [] s = some v := by
    simp [Term.eval, State.fieldNamed?, h2, h3, h4, h6, h7, h10]
  simp only [Cond.before, Cond.holds, Cond.value, hv]
  cases v <;> simp [Value.isRef] at h11 ⊢
theorem ex_L.of {n d : String} {A : Nat → Prop} {s : State} {args : Array Value} (hl : (Cond.laysStatic Bundle.tN n d).before args s = true) (hr : (Cond.isRef (.static Bundle.tN n d)).before args s = true) (hA : ∀ a : Nat, a < s.heap.size → ¬ A a) : ex_L n d A s s.heap := by
  obtain ⟨c, k, i, f, a, cell, hc, hi, hst, ha, hcell, hs, hcls, hlt, hty⟩ := Cond.laysStatic_spec hl
  cases hv : (Term.static Bundle.tN n d).eval args s none [] s with
  | none => simp [Cond.before, Cond.holds, Cond.value, hv] at hr
  | some v =>
    obtain ⟨hst', a', cell', ha', hcell', -, hslot⟩ := Term.static_spec hi hv
    cases ha.symm.trans ha'
    cases hcell.symm.trans hcell'
    refine ⟨c, k, i, f, a, cell, v, hc, hi, hst, ha, hty, hcell, hs, hcls, hlt, hslot, ?_, hA a (Array.getElem?_eq_some_iff.mp hcell).1⟩
    simp only [Cond.before, Cond.holds, Cond.value, hv] at hr
    cases v <;> simp [Value.isRef] at hr ⊢
def ex_S : List (Nat × String) := [(59, "there are sixteen nodes"), (70, "a link goes from a node to another one"), (73, "a link has 1 to 4 channels"), (78, "there are forty links"), (84, "a route goes from a node to another one"), (89, "no channel that can be taken at this node"), (103, "no such node"), (116, "no such link, or it has failed"), (121, "no such nodes"), (123, "a packet has 1 to 16 flits"), (128, "there are 400 packets"), (133, "1 to 50 packets at once"), (137, "there are no nodes"), (140, "there would be more than 400 packets"), (146, "1 to 2000 cycles"), (160, "no such packet"), (176, "no such number of a packet"), (181, "no such channel"), (195, "no such number of a channel"), (203, "no such channel of a ring")]
/-- what was there, and is named by none of the written places, is as it was -/
theorem sb_keep {s t : State} {locs : List Loc} {k n : Nat} (h : s.sameButNew t locs k n) (q : Nat) (hq : q < s.heap.size) (hl : ∀ z ∈ locs, z.base ≠ q) : t.heap[q]? = s.heap[q]? := by
  have hc : s.heap[q]? = some s.heap[q] := Array.getElem?_eq_getElem hq
  obtain ⟨c', h1, h2, h3, h4⟩ := h.2.2.2.2.2 q _ hc
  have e : c'.slots = s.heap[q].slots := by
    apply Array.ext_getElem?
    intro i
    exact h4 i (fun hm => hl _ hm rfl)
  rw [h1, hc, h2, e]
/-- all that a throw of ours needs beside the one table -/
def ex_O (A : Nat → Prop) (U : State) : Prop := (∀ w ∈ ex_T, va_Nw w U) ∧ (∀ q ∈ ex_S, ∃ sa, vk_R R_CN q.1 q.2 sa U) ∧ ex_L "UNASSIGNED_STACK" Bundle.steD A U U.heap ∧ ex_L "SUPPRESSED_SENTINEL" Bundle.listD A U U.heap
theorem ex_T_warm {s U : State} (hW : s.WarmedH U.vm) : ∀ w ∈ ex_T, va_Nw w s → va_Nw w U := by
  intro w hw
  simp only [ex_T, List.mem_cons, List.not_mem_nil, or_false] at hw
  rcases hw with rfl | rfl | rfl | rfl | rfl | rfl | rfl
  · exact va_Nw.warmD hW
  · exact va_Nw.warmD hW
  · exact va_Nw.warmD hW
  · exact va_Nw.warmC hW
  · exact va_Nw.warmC hW
  · exact va_Nw.warmC hW
  · exact va_Nw.warmC hW
theorem ex_T_tab : ∀ w ∈ ex_T, w.onTables = true := by decide +kernel
theorem ex_O.go {A B : Nat → Prop} {s U : State} (h : ex_O A s) (hW : s.WarmedH U.vm) (hq : ∀ a : Nat, a < s.heap.size → ¬ A a → U.heap[a]? = s.heap[a]?) (hAB : ∀ q, q < s.heap.size → B q → A q) : ex_O B U :=
  ⟨fun w hw => ex_T_warm hW w hw (h.1 w hw), fun q hq => (h.2.1 q hq).imp fun _ hz => vk_R.warm hW hz, (ex_L.moved hW.alike h.2.2.1).kept hq hAB, (ex_L.moved hW.alike h.2.2.2).kept hq hAB⟩
theorem ex_O.calling {A : Nat → Prop} {U : State} (h : ex_O A U) (g : JFrame) (mk : MethodId) (a : Array Value) : ex_O A (U.calling g mk a) :=
  ⟨fun w hw => va_Nw.same (ex_T_tab w hw) (u := U) rfl (h.1 w hw), fun q hq => (h.2.1 q hq).imp fun _ hz => vk_R.same (u := U) rfl hz, ex_L.moved (u := U) (Vm.Alike.refl U.vm) h.2.2.1, ex_L.moved (u := U) (Vm.Alike.refl U.vm) h.2.2.2⟩
/-- a method that returns or throws: its end -/
def xQ (Qc : Array Value → State → Outcome → State → Prop) (XC : String → State → State → Prop) (mc ms : Nat) (free : Addr → Prop) : Array Value → State → Outcome → State → Prop := fun a st o t =>
  (Qc a st o t ∧ ∃ L, FrameEnd st o t L mc ms ∧ ∀ q ∈ L, free q.base) ∨
  ∃ (q : Addr) (E : String) (ce : Cell) (L : List Loc), o = .threw q ∧ XC E st t ∧ t.heap[q]? = some ce ∧ ce.vm = .none ∧ st.vm.findClass E = some ce.cls ∧ st.WarmedH t.vm ∧ st.sameButNew ({ t with vm := st.vm } : State) L mc ms ∧ ∀ z ∈ L, free z.base
def xMet (l : Launch) (y : MethodName) (ws : List Cond) (rm : Room) (Pc : Array Value → State → Prop) (Qc : Array Value → State → Outcome → State → Prop) (XC : String → State → State → Prop) (mc ms : Nat) (free : Addr → Prop) : Prop :=
  MetFree l y (headSpec ws rm) Pc (fun _ _ _ _ _ => True) (xQ Qc XC mc ms free)
def xMQ (below : List Frame) (Qc : Array Value → State → Outcome → State → Prop) (XC : String → State → State → Prop) (a : Array Value) (s : State) (mc ms : Nat) (free : Addr → Prop) : State → Prop := fun t =>
  ∃ o, t.status = .running ∧ Ended t below o ∧ xQ Qc XC mc ms free a s o t
/-- its world where it has thrown -/
def xC (D : va_G) (cl : List vw_C) (tys : List (ClassId × FieldType)) (w : SS → va_W) (A : Nat → Prop) (xp : String → SS → Prop) : String → State → State → Prop := fun E st t =>
  ∃ u : SS, xp E u ∧ bW D cl tys w A u t ∧ va_F A st t
/-- its start -/
def pX (D : va_G) (cl : List vw_C) (tys : List (ClassId × FieldType)) (av : List Value) (sz : Nat) (ws : va_W) : Array Value → State → Prop :=
  va_Pc av (fun U => U.heap.size = sz ∧ va_P D cl ws U.heap ∧ va_K D cl tys U ∧ va_D (fun _ => True) ws ∧ ex_O (va_A ws sz) U)
theorem pX_blind {D : va_G} {cl : List vw_C} {tys : List (ClassId × FieldType)} {av : List Value} {sz : Nat} {ws : va_W} : FrameBlind (pX D cl tys av sz ws) := fun a U g mk q => by
  obtain ⟨q0, q1, qP, qK, qD, qO⟩ := q
  exact ⟨q0, q1, qP, va_K.moved (u := U) (U := U.calling g mk a) (Vm.Alike.refl U.vm) qK, qD, qO.calling g mk a⟩
section EXC
variable {p : Program} {l : Launch} {e : Env} {R : Room} {s : State} {m : MethodId} {args : Array Value} {below : List Frame} {meth : Method} {c : Code} {H : Heap} {locs : List Loc} {cells slots : Nat} {Q : State → Prop}
variable {cc : ByteArray} {pc : Nat} {ls : Array Slot} {rest st0 : List Value} {D : va_G} {cl : List vw_C} {A : Nat → Prop} {tys : List (ClassId × FieldType)} {w : SS → va_W} {free : Addr → Prop} {mc ms : Nat}
variable {Qc : Array Value → State → Outcome → State → Prop} {XC : String → State → State → Prop}
theorem x_ret {g : JFrame} (k : W p l e R s m args below meth c H locs cells slots (MQ below Qc args s mc ms free) g) : W p l e R s m args below meth c H locs cells slots (xMQ below Qc XC args s mc ms free) g := by
  intro T hT X
  obtain ⟨t, a1, o, b1, b2, b3, b4⟩ := k T hT X
  exact ⟨t, a1, o, b1, b2, Or.inl ⟨b3, b4⟩⟩
/-- 'throw new E("text")', where nothing that was there has been written so far -/
theorem x_throw {cls text : String} {ik is ic : Nat} {xp : String → SS → Prop} {u : SS} (hexec : p.tables.exec = Jvm.exec) (hb : c.code = cc) (hl : l.stackTraces = false) (hts : ∀ w ∈ TT, w.before args s = true) (hown : s.vm.findClass R_CN = some m.cls)
    (hcls : Bundle.fit cls = true) (hk : Cond.classLink R_CN ik cls ∈ TT) (hini : Cond.initialized cls ∈ TT) (hins : Cond.instantiable cls 6 ∈ TT) (hat : ∀ w ∈ (Bundle.ownAtoms R_CN ic cls ex_N).filter goodWord, w ∈ TT)
    (hno : ∀ w ∈ (Bundle.ownAtoms R_CN ic cls ex_N).filter (fun w => !goodWord w), w ∈ ex_T ++ [.laysStatic Bundle.tN "UNASSIGNED_STACK" Bundle.steD, .laysStatic Bundle.tN "SUPPRESSED_SENTINEL" Bundle.listD, .isRef (.static Bundle.tN "UNASSIGNED_STACK" Bundle.steD), .isRef (.static Bundle.tN "SUPPRESSED_SENTINEL" Bundle.listD)])
    (hO : ex_O A s) (hstr : (is, text) ∈ ex_S) (hK : va_K D cl tys s) (hP : va_P D cl (w u) H) (hold9 : ∀ (k : Nat) (q : Nat × va_E), (w u)[k]? = some q → q.1 < s.heap.size) (hD : va_D A (w u)) (hS : va_S (fun q => s.heap.size ≤ q) s.heap H locs) (hA : ∀ q, s.heap.size ≤ q → A q)
    (hsize : ls.size = c.maxLocals) (d0 : decode cc pc = .ok (.new ik, 3)) (d3 : decode cc (pc + 3) = .ok (.dup, 1)) (d4 : decode cc (pc + 3 + 1) = .ok (.ldc is, 2)) (d6 : decode cc (pc + 3 + 1 + 2) = .ok (.invokespecial ic, 3)) (d9 : decode cc (pc + 3 + 1 + 2 + 3) = .ok (.athrow, 1))
    (hout : ∀ x ∈ c.exceptionTable.toList, False) (hRf : 5 < R.frames) (hRl : (rest.map fun v => v.category).sum + 83 ≤ R.locals) (hRc : cells + 1 ≤ R.cells) (hRs : slots + 6 ≤ R.slots) (hlocks : meth.locks = false) (hc : cells + 1 ≤ mc) (hs : slots + 6 ≤ ms) (hw : xp cls u) :
    W p l e R s m args below meth c H locs cells slots (xMQ below Qc (xC D cl tys w A xp) args s mc ms A) (F0 m pc ls rest) := by
  intro T hT X
  have htr : e.platform.stackTraces = false := (show e.platform.stackTraces = l.stackTraces by rw [X.admits.platform]).trans hl
  obtain ⟨vm₁, cX, kX, hfX, hkX, -, -, X₁, st1⟩ := X.newCold hexec hown (hts _ hk) (hts _ hins) (hts _ hini) (g := F0 m pc ls rest) rfl (by rw [hb]; exact d0) hRc hRs
  obtain ⟨T1, hT1⟩ : ∃ z, z = (T.setVm vm₁).pushCell { cls := cX, slots := kX.instanceTypes.map defaultValue, vm := .none } := ⟨_, rfl⟩
  rw [← hT1] at X₁ st1
  have hcellA : T1.heap[T.heap.size]? = some (freshCell cX kX) := by rw [hT1]; exact State.heap_pushCell_size _ _
  have hold : ∀ q, q < T.heap.size → T1.heap[q]? = T.heap[q]? := fun q h => by rw [hT1]; exact State.heap_pushCell_of_lt _ _ h
  have hnew : s.heap.size ≤ T.heap.size := by rw [hT]; exact hS.1
  have hall : ∀ a ∈ Bundle.ownAtoms R_CN ic cls ex_N, a.before args s = true := by
    intro a ha
    by_cases hg : goodWord a = true
    · exact hts a (hat a (List.mem_filter.mpr ⟨ha, hg⟩))
    · have h1 := hno a (List.mem_filter.mpr ⟨ha, by simp [hg]⟩)
      rcases List.mem_append.mp h1 with h2 | h2
      · exact va_Nw.use (ex_T_tab a h2) (hO.1 a h2)
      · simp only [List.mem_cons, List.not_mem_nil, or_false] at h2
        rcases h2 with rfl | rfl | rfl | rfl
        · exact hO.2.2.1.lays
        · exact hO.2.2.2.lays
        · exact hO.2.2.1.ref
        · exact hO.2.2.2.ref
  have K : W p l e R s m args below meth c T1.heap locs (cells + 1) (slots + 6) (xMQ below Qc (xC D cl tys w A xp) args s mc ms A) (F0 m (pc + 3) ls (.ref T.heap.size :: rest)) := by
    refine lv_dup hexec hb d3 rfl ?_
    obtain ⟨sa, hsa⟩ := hO.2.1 _ hstr
    refine va_ldcS hexec hb hown hsa d4 ?_
    intro T2 hT2 X2
    obtain ⟨U, u1, u2, u3, u4, u5, ce, u6, u7⟩ := X2.ctorThrowS hexec htr hown hcls (names := ex_N) (by decide +kernel) hall (fun x hx cell hcell => absurd (hS.2.2 x hx) (by have := (Array.getElem?_eq_some_iff.mp hcell).1; simp only; omega)) hfX hkX (a := T.heap.size) (by rw [hT2]; exact hcellA) hnew (msg := .ref sa) rfl
      (g := F0 m (pc + 3 + 1 + 2) ls (.ref sa :: .ref T.heap.size :: .ref T.heap.size :: rest)) rfl hsize rfl rfl (rest := rest) rfl (by rw [hb]; exact d6) (by rw [hb]; exact d9) (fun x hx => absurd (hout x hx) id) hRf (by rw [List.map_cons, List.sum_cons, show (Value.ref T.heap.size).category = 1 from rfl, show (F0 m (pc + 3 + 1 + 2) ls (.ref sa :: .ref T.heap.size :: .ref T.heap.size :: rest)).monitorRoom = 0 from rfl, show ex_N.length = 2 from rfl]; omega) hlocks
    have hkeep : ∀ q, q < s.heap.size → U.heap[q]? = s.heap[q]? := fun q hq => sb_keep u5 q hq (fun z hz e9 => absurd (hS.2.2 z hz) (by rw [e9]; simp only; omega))
    have hH : ∀ q, q < s.heap.size → H[q]? = s.heap[q]? := fun q hq => hS.2.1 q hq (by simp only; omega)
    refine ⟨U, u1, .threw _, u2, u3, Or.inr ⟨T.heap.size, cls, ce, locs, rfl, ⟨u, hw, ⟨fun k q hq => (hP k q hq).kept ?_, va_K.moved u4.alike hK, hD⟩, u5.2.1, fun q h1 _ => hkeep q h1⟩, u6, u7.vm, u7.cls, u4, u5.mono hc hs, fun z hz => hA _ (hS.2.2 z hz)⟩⟩
    rw [hkeep q.1 (hold9 k q hq), hH q.1 (hold9 k q hq)]
  obtain ⟨t, a1, b1⟩ := K T1 rfl X₁
  exact ⟨t, st1 _ a1, b1⟩
end EXC

/-- the head of a method that may throw -/
theorem hdx {l : Launch} {y : MethodName} {rm : Room} {D : va_G} {cl : List vw_C} {tys : List (ClassId × FieldType)} {av : List Value} {sz : Nat} {w0 : va_W} {Qf : (Nat → Prop) → Array Value → State → Outcome → State → Prop} {Xf : (Nat → Prop) → String → State → State → Prop} {mc ms : Nat} {cc : ByteArray} {maxL : Nat} {ret : Option FieldType}
    (hy : plainName y.cls = true) (hn : (lg_sl av).length ≤ maxL)
    (body : ∀ (p : Program) (e : Env) (s : State) (m : MethodId) (below : List Frame) (meth : Method) (c : Code) (A : Nat → Prop) (ls : Array Slot), p.tables.exec = Jvm.exec → c.code = cc → meth.sig.returnType = ret → (∀ w ∈ TT, w.before av.toArray s = true) → s.vm.findClass y.cls = some m.cls → meth.locks = false → c.maxLocals = maxL → va_K D cl tys s → va_P D cl w0 s.heap → va_D A w0 → va_S A s.heap s.heap [] → (∀ q, s.heap.size ≤ q → A q) → lv_has ls maxL (lv_args 0 av) → (∀ x ∈ c.exceptionTable.toList, False) → ex_O A s → va_S (fun q => s.heap.size ≤ q) s.heap s.heap [] →
      W p l e rm s m av.toArray below meth c s.heap [] 0 0 (xMQ below (Qf A) (Xf A) av.toArray s mc ms A) (F0 m 0 ls [])) : xMet l y (.code y cc maxL ret :: TT) rm (pX D cl tys av sz w0) (Qf (va_A w0 sz)) (Xf (va_A w0 sz)) mc ms (va_A w0 sz) := by
  refine MetFree.of_bodyS (code := cc) (maxLocals := maxL) (ret := ret) hy ?_ ?_
  · intro args s m h hn
    obtain ⟨meth, c, h1, h2, h3, h4, h5, h6, -, -⟩ := Cond.code_spec hn (atoms_spec (ws := .code y cc maxL ret :: TT) h _ List.mem_cons_self)
    exact ⟨meth, c, h1, h2, h3, h4, h5, h6⟩
  · intro p e s m args below meth c s₁ B hml hv _
    obtain ⟨rfl, hsz, hP, hK, hD0, hO⟩ := hv
    subst hsz
    have hh0 : s₁.heap = s.heap := by rw [B.state]; rfl
    have hX : ∀ x ∈ c.exceptionTable.toList, False := by
      obtain ⟨meth9, c9, h1, h2, -, -, -, -, h7, -⟩ := Cond.code_spec B.named (atoms_spec (ws := .code y cc maxL ret :: TT) B.pre _ List.mem_cons_self)
      cases Option.some.inj (h1.symm.trans B.method)
      cases Option.some.inj (h2.symm.trans (Stand.of_body B).code)
      intro x hx
      rw [Array.isEmpty_iff.mp h7] at hx
      cases hx
    have hl := lv_entry av (n := maxL) hn
    have K := body p e s m below meth c _ _ B.exec B.bytes B.returns (fun w h => atoms_spec (ws := .code y cc maxL ret :: TT) B.pre w (List.mem_cons_of_mem _ h)) (findClass_of_methodNamed B.named) B.notSynchronized hml hK hP (hD0.self (sz := s.heap.size)) va_S.rf (fun q h => Or.inr h) hl hX hO va_S.rf
    rw [← lg_entry_eq] at K
    obtain ⟨t, a1, o, b1, b2, b3⟩ := K s₁ hh0 (Stand.of_body B)
    exact ⟨t, o, a1, b1, b2, b3⟩
/-- the walk seen from here: as if the method had been called in this heap -/
theorem x_base {p : Program} {l : Launch} {e : Env} {R R' : Room} {s : State} {m : MethodId} {args : Array Value} {below : List Frame} {meth : Method} {c : Code} {T : State} {locs : List Loc} {cells slots : Nat} (X : Stand p l e R s m args below meth c T locs cells slots) (hf : R'.frames ≤ R.frames) (hl : R'.locals ≤ R.locals) (hc : cells + R'.cells ≤ R.cells) (hs : slots + R'.slots ≤ R.slots) :
    Stand p l e R' ({ s with heap := T.heap, slotsUsed := T.slotsUsed } : State) m args below meth c T [] 0 0 := by
  have z1 := X.heapSize
  have z2 := X.used
  refine ⟨X.admits, X.cas, X.clock, X.frames, ?_, X.hears, X.method, X.code, X.here, X.tail, X.warmed, X.limits, X.bytes, ?_⟩
  · have hr := X.room
    have hb := X.book
    simp only [State.hasRoom, Bool.and_eq_true, decide_eq_true_eq] at hr ⊢
    obtain ⟨⟨⟨⟨a1, a2, a3, a4, a5, a6⟩, a7⟩, a8⟩, a9⟩ := hr
    refine ⟨⟨⟨⟨?_, ?_, ?_, ?_, ?_, a6⟩, ?_⟩, ?_⟩, hb⟩
    · show s.localsInUse + R'.locals + stackMargin ≤ _
      omega
    · show s.frames.length + R'.frames ≤ _
      omega
    · show s.frames.length + R'.frames ≤ (e.platform.stackLimits s.me).1
      omega
    · show s.localsInUse + R'.locals ≤ _
      omega
    · show s.localsInUse + R'.locals ≤ (e.platform.stackLimits s.me).2
      omega
    · show T.heap.size + R'.cells ≤ _
      omega
    · show T.slotsUsed + R'.slots ≤ _
      omega
  · refine ⟨X.same.1.trans ?_, Nat.le_refl _, Nat.le_refl _, ?_, ?_, fun a c h => ⟨c, h, rfl, rfl, fun _ _ => rfl⟩⟩
    · rfl
    · show T.slotsUsed = T.slotsUsed + ((T.heap.toList.drop T.heap.size).map (·.slots.size)).sum
      rw [List.drop_of_length_le (by simp)]
      rfl
    · show ((T.heap.toList.drop T.heap.size).map (·.slots.size)).sum ≤ 0
      rw [List.drop_of_length_le (by simp)]
      exact Nat.le_refl _
section EXW
variable {p : Program} {l : Launch} {e : Env} {R : Room} {s : State} {m : MethodId} {args : Array Value} {below : List Frame} {meth : Method} {c : Code} {H : Heap} {locs : List Loc} {cells slots : Nat} {Q : State → Prop}
variable {cc : ByteArray} {pc : Nat} {ls : Array Slot} {rest st0 : List Value} {D : va_G} {cl : List vw_C} {A : Nat → Prop} {tys : List (ClassId × FieldType)} {w : SS → va_W} {mc ms : Nat}
variable {Qc : Array Value → State → Outcome → State → Prop}
/-- 'throw new E("text")', whatever has been written -/
theorem x_thrown {cls text : String} {ik is ic : Nat} {xp : String → SS → Prop} {u : SS} (hexec : p.tables.exec = Jvm.exec) (hb : c.code = cc) (hl : l.stackTraces = false) (hts : ∀ w ∈ TT, w.before args s = true) (hown : s.vm.findClass R_CN = some m.cls)
    (hcls : Bundle.fit cls = true) (hk : Cond.classLink R_CN ik cls ∈ TT) (hini : Cond.initialized cls ∈ TT) (hins : Cond.instantiable cls 6 ∈ TT) (hat : ∀ w ∈ (Bundle.ownAtoms R_CN ic cls ex_N).filter goodWord, w ∈ TT)
    (hno : ∀ w ∈ (Bundle.ownAtoms R_CN ic cls ex_N).filter (fun w => !goodWord w), w ∈ ex_T ++ [.laysStatic Bundle.tN "UNASSIGNED_STACK" Bundle.steD, .laysStatic Bundle.tN "SUPPRESSED_SENTINEL" Bundle.listD, .isRef (.static Bundle.tN "UNASSIGNED_STACK" Bundle.steD), .isRef (.static Bundle.tN "SUPPRESSED_SENTINEL" Bundle.listD)])
    (hO : ex_O A s) (hstr : (is, text) ∈ ex_S) (hK : va_K D cl tys s) (hP : va_P D cl (w u) H) (hD : va_D A (w u)) (hS : va_S A s.heap H locs) (hA : ∀ q, s.heap.size ≤ q → A q)
    (hsize : ls.size = c.maxLocals) (d0 : decode cc pc = .ok (.new ik, 3)) (d3 : decode cc (pc + 3) = .ok (.dup, 1)) (d4 : decode cc (pc + 3 + 1) = .ok (.ldc is, 2)) (d6 : decode cc (pc + 3 + 1 + 2) = .ok (.invokespecial ic, 3)) (d9 : decode cc (pc + 3 + 1 + 2 + 3) = .ok (.athrow, 1))
    (hout : ∀ x ∈ c.exceptionTable.toList, False) (hRf : 5 < R.frames) (hRl : (rest.map fun v => v.category).sum + 83 ≤ R.locals) (hRc : cells + 1 ≤ R.cells) (hRs : slots + 6 ≤ R.slots) (hlocks : meth.locks = false) (hc : cells + 1 ≤ mc) (hs : slots + 6 ≤ ms) (hw : xp cls u) :
    W p l e R s m args below meth c H locs cells slots (xMQ below Qc (xC D cl tys w A xp) args s mc ms A) (F0 m pc ls rest) := by
  intro T hT X
  have X' := x_base X (R' := { frames := R.frames, locals := R.locals, cells := 1, slots := 6 }) (Nat.le_refl _) (Nat.le_refl _) hRc hRs
  have hsz : s.heap.size ≤ T.heap.size := by rw [hT]; exact hS.1
  have hts' : ∀ w ∈ TT, w.before args ({ s with heap := T.heap, slotsUsed := T.slotsUsed } : State) = true := fun w hw9 => by
    rcases (gt hw9).2 with h9 | ⟨ty, rfl⟩
    · exact va_tabs (Bool.and_eq_true_iff.mp h9).1 (u := s) rfl (hts w hw9)
    · exact hts _ hw9
  have hO' : ex_O A ({ s with heap := T.heap, slotsUsed := T.slotsUsed } : State) := hO.go (State.WarmedH.refl s) (fun a h1 h2 => by show T.heap[a]? = _; rw [hT]; exact hS.2.1 a h1 h2) (fun _ _ h => h)
  have hw' := x_throw (s := ({ s with heap := T.heap, slotsUsed := T.slotsUsed } : State)) (H := T.heap) (locs := []) (cells := 0) (slots := 0) (R := { frames := R.frames, locals := R.locals, cells := 1, slots := 6 }) (mc := 1) (ms := 6) (Qc := fun _ _ _ _ => False) (A := A) (w := w) (below := below) (m := m) (meth := meth) (c := c) (e := e) (p := p) (args := args) hexec hb hl hts' hown hcls hk hini hins hat hno hO' hstr
    (va_K.moved (u := s) (Vm.Alike.refl s.vm) hK) (by rw [hT]; exact hP) (fun k q hq => by show q.1 < T.heap.size; rw [hT]; exact (hP k q hq).lt) hD va_S.rf (fun q h => hA q (Nat.le_trans hsz h)) hsize d0 d3 d4 d6 d9 hout hRf hRl (Nat.le_refl _) (Nat.le_refl _) hlocks (Nat.le_refl _) (Nat.le_refl _) hw
  obtain ⟨t, a1, o, b1, b2, b3⟩ := hw' T rfl X'
  rcases b3 with ⟨hF, -⟩ | ⟨q, E, ce, L, rfl, ⟨u9, hxp, hB, hF⟩, h1, h2, h3, h4, h5, h6⟩
  · exact hF.elim
  · refine ⟨t, a1, .threw q, b1, b2, Or.inr ⟨q, E, ce, locs ++ L, rfl, ⟨u9, hxp, hB, Nat.le_trans hsz hF.1, fun q9 g1 g2 => ?_⟩, h1, h2, h3, h4, ?_, fun z hz => ?_⟩⟩
    · rw [hF.2 q9 (Nat.lt_of_lt_of_le g1 hsz) g2]
      show T.heap[q9]? = _
      rw [hT]; exact hS.2.1 q9 g1 g2
    · refine (X.same.trans (u := ({ t with vm := s.vm } : State)) (l2 := L) (c2 := 1) (n2 := 6) ⟨h5.1.trans ?_, h5.2⟩).mono hc hs
      rw [X.same.1]
      have h9 := congrArg (fun z : State => ({ z with heap := t.heap, slotsUsed := t.slotsUsed } : State)) (State.setFrames_setFrames s (T.setVm s.vm).frames ({ t with vm := s.vm } : State).frames).symm
      exact h9
    · rcases List.mem_append.mp hz with h | h
      · exact hS.2.2 z h
      · exact h6 z h
end EXW

set_option maxRecDepth 100000 in
theorem ex_at_72 : ∀ w ∈ (Bundle.ownAtoms R_CN 72 "java/lang/IllegalArgumentException" ex_N).filter goodWord, w ∈ TT := by decide +kernel
set_option maxRecDepth 100000 in
theorem ex_no_72 : ∀ w ∈ (Bundle.ownAtoms R_CN 72 "java/lang/IllegalArgumentException" ex_N).filter (fun w => !goodWord w), w ∈ ex_T ++ [.laysStatic Bundle.tN "UNASSIGNED_STACK" Bundle.steD, .laysStatic Bundle.tN "SUPPRESSED_SENTINEL" Bundle.listD, .isRef (.static Bundle.tN "UNASSIGNED_STACK" Bundle.steD), .isRef (.static Bundle.tN "SUPPRESSED_SENTINEL" Bundle.listD)] := by decide +kernel
set_option maxRecDepth 100000 in
theorem ex_at_139 : ∀ w ∈ (Bundle.ownAtoms R_CN 139 "java/lang/IllegalStateException" ex_N).filter goodWord, w ∈ TT := by decide +kernel
set_option maxRecDepth 100000 in
theorem ex_no_139 : ∀ w ∈ (Bundle.ownAtoms R_CN 139 "java/lang/IllegalStateException" ex_N).filter (fun w => !goodWord w), w ∈ ex_T ++ [.laysStatic Bundle.tN "UNASSIGNED_STACK" Bundle.steD, .laysStatic Bundle.tN "SUPPRESSED_SENTINEL" Bundle.listD, .isRef (.static Bundle.tN "UNASSIGNED_STACK" Bundle.steD), .isRef (.static Bundle.tN "SUPPRESSED_SENTINEL" Bundle.listD)] := by decide +kernel
set_option maxRecDepth 100000 in
theorem ex_at_162 : ∀ w ∈ (Bundle.ownAtoms R_CN 162 "java/lang/IndexOutOfBoundsException" ex_N).filter goodWord, w ∈ TT := by decide +kernel
set_option maxRecDepth 100000 in
theorem ex_no_162 : ∀ w ∈ (Bundle.ownAtoms R_CN 162 "java/lang/IndexOutOfBoundsException" ex_N).filter (fun w => !goodWord w), w ∈ ex_T ++ [.laysStatic Bundle.tN "UNASSIGNED_STACK" Bundle.steD, .laysStatic Bundle.tN "SUPPRESSED_SENTINEL" Bundle.listD, .isRef (.static Bundle.tN "UNASSIGNED_STACK" Bundle.steD), .isRef (.static Bundle.tN "SUPPRESSED_SENTINEL" Bundle.listD)] := by decide +kernel
set_option maxRecDepth 100000 in
theorem ex_at_61 : ∀ w ∈ (Bundle.ownAtoms R_CN 61 "java/lang/UnsupportedOperationException" ex_N).filter goodWord, w ∈ TT := by decide +kernel
set_option maxRecDepth 100000 in
theorem ex_no_61 : ∀ w ∈ (Bundle.ownAtoms R_CN 61 "java/lang/UnsupportedOperationException" ex_N).filter (fun w => !goodWord w), w ∈ ex_T ++ [.laysStatic Bundle.tN "UNASSIGNED_STACK" Bundle.steD, .laysStatic Bundle.tN "SUPPRESSED_SENTINEL" Bundle.listD, .isRef (.static Bundle.tN "UNASSIGNED_STACK" Bundle.steD), .isRef (.static Bundle.tN "SUPPRESSED_SENTINEL" Bundle.listD)] := by decide +kernel
