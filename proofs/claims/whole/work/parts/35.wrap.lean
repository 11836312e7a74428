/-! calls within a method that has a table: the world goes on behind the return, or at the handler -/
def xW (p : Program) (l : Launch) (e : Env) (R : Room) (s : State) (m : MethodId) (args : Array Value) (below : List Frame) (meth : Method) (c : Code) (H : Heap) (locs : List Loc) (cells slots : Nat) (Q : State → Prop) (g : JFrame) (q : Addr) : Prop :=
  ∀ T : State, T.heap = H → Stand p l e R s m args below meth c T locs cells slots → ∃ t, Steps p.tables e below ((T.setTop g).pushFrame (.throwing q)) t ∧ Q t
section XWR
variable {p : Program} {l : Launch} {e : Env} {R : Room} {s : State} {m : MethodId} {args : Array Value} {below : List Frame} {meth : Method} {c : Code} {H : Heap} {locs : List Loc} {cells slots : Nat} {Q : State → Prop}
variable {y : MethodName} {bytes cc : ByteArray} {maxL nL mc ms n index : Nat} {ret : Option FieldType} {ws : List Cond} {rm : Room} {Pc : Array Value → State → Prop} {A A1 : Nat → Prop} {Ts : List Cond} {own C : String} {b : Addr} {As rest : List Value} {pc : Nat} {ls : Array Slot} {st0 : List Value}
variable {D : va_G} {cl : List vw_C} {tys : List (ClassId × FieldType)} {w : SS → va_W} {H0 : Heap}
theorem x_call {post : Int32 → SS → Prop} {xp : String → SS → Prop} (S : CallFix p m c cc nL s args Ts own) (hM : xMet l y ws rm Pc (va_Qi post (bW D cl tys w A1) A1) (xC D cl tys w A1 xp) mc ms A1) (cw : CallW R s args own C index y bytes maxL ret ws rm mc ms n) (hp : PreV s H C b Pc As)
    (hn : As.length = n) (hsize : ls.size = nL) (hstack : st0 = As.reverse ++ .ref b :: rest) (hW : 2 * (F0 m pc ls st0).monitorRoom + (rest.map fun v => v.category).sum ≤ 8) (hdg : decode cc pc = .ok (.invokevirtual index, 3)) (hf : cells + mc ≤ R.cells ∧ slots + ms ≤ R.slots)
    (hS : va_S A H0 H locs) (hF : ∀ q, A1 q → A q)
    (kk : ∀ (r : Int32) (u : SS) (t : State) (H1 : Heap) (locs1 : List Loc), post r u → s.vm.Alike t.vm → t.heap = H1 → bW D cl tys w A1 u t → (∀ q : Nat, q < H.size → ¬ A1 q → H1[q]? = H[q]?) → va_S A H0 H1 locs1 → W p l e R s m args below meth c H1 locs1 (cells + mc) (slots + ms) Q (F0 m (pc + 3) ls (.int r :: rest)))
    (kx : ∀ (E : String) (ce : Cell) (q9 : Addr) (u : SS) (t : State) (H1 : Heap) (locs1 : List Loc), xp E u → s.vm.Alike t.vm → t.heap = H1 → bW D cl tys w A1 u t → (∀ q : Nat, q < H.size → ¬ A1 q → H1[q]? = H[q]?) → va_S A H0 H1 locs1 → H1[q9]? = some ce → ce.vm = .none → s.vm.findClass E = some ce.cls → xW p l e R s m args below meth c H1 locs1 (cells + mc) (slots + ms) Q (F0 m pc ls rest) q9) :
    W p l e R s m args below meth c H locs cells slots Q (F0 m pc ls st0) := by
  intro T hT X
  have frame : ∀ {st₀ t T' : State} {L : List Loc}, st₀.heap = H → T'.heap = t.heap → (∀ q ∈ L, A1 q.base) → va_F A1 st₀ t → (∀ q : Nat, q < H.size → ¬ A1 q → T'.heap[q]? = H[q]?) ∧ va_S A H0 T'.heap (locs ++ L) := by
    intro st₀ t T' L h0 e1 hL hFr
    obtain ⟨hz, hk⟩ := hFr
    rw [h0] at hz hk
    refine ⟨fun q h1 h2 => by rw [e1]; exact hk q h1 h2, Nat.le_trans hS.1 (by rw [e1]; exact hz), fun q h1 h2 => ?_, fun q hq => ?_⟩
    · rw [e1, hk q (Nat.lt_of_lt_of_le h1 hS.1) (fun z => h2 (hF q z))]; exact hS.2.1 q h1 h2
    · rcases List.mem_append.mp hq with h | h
      · exact hS.2.2 q h
      · exact hF _ (hL q h)
  rcases x_goV (g := F0 m pc ls st0) S hM cw hp rfl hn hsize hstack hW hdg hf hT X with ⟨v, st₀, t, T', L, h0, hW0, X', hL, e1, e2, ⟨⟨r, u, hv, hpo, hB⟩, hFr⟩, st⟩ | ⟨q, st₀, t, T', L, E, ce, h0, hW0, X', hL, e1, e2, ⟨u, hxp, hB, hFr⟩, hce, hcv, hcl, st⟩
  · cases hv
    obtain ⟨k1, k2⟩ := frame h0 e1 hL hFr
    obtain ⟨t2, a1, b1⟩ := kk r u t T'.heap (locs ++ L) hpo (by rw [← e2]; exact X'.warmed.alike) e1.symm hB k1 k2 T' rfl X'
    exact ⟨t2, st.trans a1, b1⟩
  · obtain ⟨k1, k2⟩ := frame h0 e1 hL hFr
    have hcl9 : s.vm.findClass E = some ce.cls := by rw [← hW0.alike.findClass]; exact hcl
    obtain ⟨t2, a1, b1⟩ := kx E ce q u t T'.heap (locs ++ L) hxp (by rw [← e2]; exact X'.warmed.alike) e1.symm hB k1 k2 (by rw [e1]; exact hce) hcv hcl9 T' rfl X'
    exact ⟨t2, st.trans a1, b1⟩
/-- a row of the table takes the exception -/
theorem x_take {E nm : String} {ce : Cell} {q : Addr} (hown : s.vm.findClass own = some m.cls) (pre : List ExceptionTableEntry) (x : ExceptionTableEntry) (suf : List ExceptionTableEntry) (hsplit : c.exceptionTable.toList = pre ++ x :: suf)
    (hpass : ∀ z ∈ pre, covers z pc = false ∨ (z.catchType ≠ 0 ∧ ∃ k : String, (Cond.classLink own z.catchType k).before args s = true ∧ va_Nc E k s)) (hx : covers x pc = true) (hx0 : x.catchType ≠ 0)
    (hlink : (Cond.classLink own x.catchType nm).before args s = true) (hcast : (Cond.castable E nm).before args s = true) (hcell : H[q]? = some ce) (hv : ce.vm = .none) (hcl : s.vm.findClass E = some ce.cls)
    (kk : W p l e R s m args below meth c H locs cells slots Q (F0 m x.handlerPc ls [.ref q])) : xW p l e R s m args below meth c H locs cells slots Q (F0 m pc ls rest) q := by
  intro T hT X
  have hpl : e.platform.magicAccessors = ({} : Platform).magicAccessors := by rw [X.admits.platform]
  obtain ⟨c3, c4, hc3, hc4, hasg⟩ := Cond.castable_spec hcast
  cases Option.some.inj (hc3.symm.trans hcl)
  obtain ⟨c5, hc5, hcl5⟩ := Cond.classLink_spec hown hlink e.platform hpl
  cases Option.some.inj (hc4.symm.trans hc5)
  obtain ⟨vm', X', st⟩ := x_caught X (g := F0 m pc ls rest) rfl (q := q) (cell := ce) (by rw [hT]; exact hcell) hv (Vm.classAt_of_findClass hcl) pre x suf hsplit
    (fun z hz => by
      rcases hpass z hz with h | ⟨hz0, k, hl1, hn1⟩
      · exact Or.inl h
      · obtain ⟨c6, hc6, hcl6⟩ := Cond.classLink_spec hown hl1 e.platform hpl
        obtain ⟨a8, b8, h1, h2, h3⟩ := hn1
        cases Option.some.inj (h1.symm.trans hcl)
        cases Option.some.inj (h2.symm.trans hc6)
        exact Or.inr ⟨hz0, _, hcl6, h3⟩) hx hx0 hcl5 hasg
  obtain ⟨t, a1, b1⟩ := kk (T.setVm vm') hT X'
  exact ⟨t, st t a1, b1⟩
end XWR
/-- the pairs of exceptions of which one is no kind of the other -/
def ex_P (U : State) : Prop := va_Nc "java/lang/UnsupportedOperationException" "java/lang/IllegalArgumentException" U ∧ va_Nc "java/lang/IllegalStateException" "java/lang/IllegalArgumentException" U ∧ va_Nc "java/lang/UnsupportedOperationException" "java/lang/IllegalStateException" U
theorem ex_P.moved {u U : State} (hvm : u.vm.Alike U.vm) (h : ex_P u) : ex_P U := ⟨h.1.moved hvm, h.2.1.moved hvm, h.2.2.moved hvm⟩
/-- the start of a method of the law that calls the class -/
def pL (D : va_G) (cl : List vw_C) (tys : List (ClassId × FieldType)) (av : List Value) (sz : Nat) (ws : va_W) : Array Value → State → Prop :=
  va_Pc av (fun U => U.heap.size = sz ∧ va_P D cl ws U.heap ∧ va_K D cl tys U ∧ va_D (fun _ => True) ws ∧ ex_O (va_A ws sz) U ∧ ex_P U)
theorem pL_blind {D : va_G} {cl : List vw_C} {tys : List (ClassId × FieldType)} {av : List Value} {sz : Nat} {ws : va_W} : FrameBlind (pL D cl tys av sz ws) := fun a U g mk q => by
  obtain ⟨q0, q1, qP, qK, qD, qO, qE⟩ := q
  exact ⟨q0, q1, qP, va_K.moved (u := U) (U := U.calling g mk a) (Vm.Alike.refl U.vm) qK, qD, qO.calling g mk a, ex_P.moved (u := U) (Vm.Alike.refl U.vm) qE⟩
theorem hdl {l : Launch} {y : MethodName} {rm : Room} {D : va_G} {cl : List vw_C} {tys : List (ClassId × FieldType)} {av : List Value} {sz : Nat} {w0 : va_W} {Qf : (Nat → Prop) → Array Value → State → Outcome → State → Prop} {mc ms : Nat} {cc : ByteArray} {maxL : Nat} {ret : Option FieldType} {hh : List (Nat × Nat × Nat × Nat)}
    (hy : plainName y.cls = true) (hn : (lg_sl av).length ≤ maxL)
    (body : ∀ (p : Program) (e : Env) (s : State) (m : MethodId) (below : List Frame) (meth : Method) (c : Code) (A : Nat → Prop) (ls : Array Slot), p.tables.exec = Jvm.exec → c.code = cc → meth.sig.returnType = ret → (∀ w ∈ TT, w.before av.toArray s = true) → s.vm.findClass y.cls = some m.cls → meth.locks = false → c.maxLocals = maxL → va_K D cl tys s → va_P D cl w0 s.heap → va_D A w0 → va_S A s.heap s.heap [] → (∀ q, s.heap.size ≤ q → A q) → lv_has ls maxL (lv_args 0 av) → c.exceptionTable.toList = tableOf hh → ex_O A s → ex_P s →
      W p l e rm s m av.toArray below meth c s.heap [] 0 0 (MQ below (Qf A) av.toArray s mc ms A) (F0 m 0 ls [])) : Met l y (.codeWith y cc maxL ret hh :: TT) rm (pL D cl tys av sz w0) (Qf (va_A w0 sz)) mc ms (va_A w0 sz) := by
  refine va_MetW (cc := cc) (maxL := maxL) (ret := ret) (hh := hh) hy rfl ?_
  intro p e s m args below meth c s₁ B hml hv
  obtain ⟨rfl, hsz, hP, hK, hD0, hO, hE⟩ := hv
  subst hsz
  have hl := lv_entry av (n := maxL) hn
  have hX : c.exceptionTable.toList = tableOf hh := by
    obtain ⟨m9, meth9, c9, hn9, h1, h2, -, -, h6, -⟩ := Cond.codeWith_spec (atoms_spec (ws := .codeWith y cc maxL ret hh :: TT) B.pre _ List.mem_cons_self)
    cases Option.some.inj (hn9.symm.trans B.named)
    cases Option.some.inj (h1.symm.trans B.method)
    cases Option.some.inj (h2.symm.trans (Stand.of_body B).code)
    rw [← h6, table_eq]
  rw [lg_entry_eq]
  exact body p e s m below meth c _ _ B.exec B.bytes B.returns (fun w h => atoms_spec (ws := .codeWith y cc maxL ret hh :: TT) B.pre w (List.mem_cons_of_mem _ h)) (findClass_of_methodNamed B.named) B.notSynchronized hml hK hP (hD0.self (sz := s.heap.size)) va_S.rf (fun q h => Or.inr h) hl hX hO hE
