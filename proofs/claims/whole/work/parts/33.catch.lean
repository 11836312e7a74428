/-! calls of methods that may throw, and their catching -/
section XCALL
variable {p : Program} {l : Launch} {e : Env} {R : Room} {s : State} {m : MethodId} {args : Array Value} {below : List Frame} {meth : Method} {c : Code} {H : Heap} {locs : List Loc} {cells slots : Nat} {Q : State → Prop}
variable {y : MethodName} {bytes cc : ByteArray} {maxL nL mc ms n index : Nat} {ret : Option FieldType} {ws : List Cond} {rm : Room} {Pc : Array Value → State → Prop} {Qc : Array Value → State → Outcome → State → Prop} {XC : String → State → State → Prop} {free : Addr → Prop} {Ts : List Cond} {own C : String} {b : Addr} {As rest : List Value} {g : JFrame}
/-- behind a call by invokevirtual: it has returned, or q is being thrown over the caller's frame -/
theorem x_goV (S : CallFix p m c cc nL s args Ts own) (hM : xMet l y ws rm Pc Qc XC mc ms free) (cw : CallW R s args own C index y bytes maxL ret ws rm mc ms n) (hp : PreV s H C b Pc As)
    (hg : g.method = m) (hn : As.length = n) (hsize : g.locals.size = nL) (hstack : g.stack = As.reverse ++ .ref b :: rest) (hW : 2 * g.monitorRoom + (rest.map fun v => v.category).sum ≤ 8) (hdg : decode cc g.pc = .ok (.invokevirtual index, 3)) (hf : cells + mc ≤ R.cells ∧ slots + ms ≤ R.slots)
    {T : State} (hT : T.heap = H) (X : Stand p l e R s m args below meth c T locs cells slots) :
    (∃ (v : Option Value) (st₀ t T' : State) (L : List Loc), st₀.heap = H ∧ s.WarmedH st₀.vm ∧ Stand p l e R s m args below meth c T' (locs ++ L) (cells + mc) (slots + ms) ∧ (∀ q ∈ L, free q.base) ∧ T'.heap = t.heap ∧ T'.vm = t.vm ∧ Qc (Value.ref b :: As).toArray st₀ (.returned v) t ∧
      Steps p.tables e below (T.setTop g) (T'.setTop { g with pc := g.pc + 3, stack := v.toList ++ rest })) ∨
    (∃ (q : Addr) (st₀ t T' : State) (L : List Loc) (E : String) (ce : Cell), st₀.heap = H ∧ s.WarmedH st₀.vm ∧ Stand p l e R s m args below meth c T' (locs ++ L) (cells + mc) (slots + ms) ∧ (∀ z ∈ L, free z.base) ∧ T'.heap = t.heap ∧ T'.vm = t.vm ∧ XC E st₀ t ∧ t.heap[q]? = some ce ∧ ce.vm = .none ∧ st₀.vm.findClass E = some ce.cls ∧
      Steps p.tables e below (T.setTop g) ((T'.setTop { g with stack := rest }).pushFrame (.throwing q))) := by
  obtain ⟨⟨hrc, hrs, hfr, hlo, hws, hcw, hcode, hini, hy, hlen, hlink⟩, hinst, hsel⟩ := cw
  obtain ⟨hx, hb, hml, ho, -⟩ := S
  obtain ⟨hbl, ⟨cellB, hcB, hoB, hclB⟩, hPc⟩ := hp
  obtain ⟨mk, methM, hnamed, hmethM, hstM, habM⟩ := Cond.instanceMethod_spec hinst
  obtain ⟨methM', cM, hmethM', hcM, -, hlM, -, -, -, hsigM⟩ := Cond.code_spec hnamed hcode
  cases hmethM.symm.trans hmethM'
  obtain ⟨c2, r2, m2, q1, q2, q3, q4, kP, hkP, hkPi⟩ := Cond.selects_spec hsel
  cases hclB.symm.trans q1
  cases (State.methodFound?_of_named hnamed hy).symm.trans q2
  cases hnamed.symm.trans q3
  have hselP : selectMethod e.platform s.vm cellB.cls mk = .method mk := by rw [Launch.admits_selectMethod X.admits]; exact q4
  obtain ⟨vm₁, X₁, hstep₁⟩ := X.invokevirtual hx ho hlink hnamed hmethM hstM hkP hkPi hy (a := b) (cell := cellB) (by rw [hT]; exact hcB)
    (fun z h => by rw [h] at hoB; cases hoB) hselP hmethM habM hkP hkPi (g := g) hg (argsL := As) (rest := rest) (hn.trans (hlen _ hsigM)) hstack (by rw [hb]; exact hdg)
  obtain ⟨U, hU⟩ : ∃ z, z = T.setVm vm₁ := ⟨_, rfl⟩
  rw [← hU] at X₁ hstep₁
  have hUh : U.heap = H := by rw [hU]; exact hT
  have hWU : s.WarmedH U.vm := X₁.warmed
  obtain ⟨g1, hg1⟩ : ∃ z : JFrame, z = { g with stack := rest } := ⟨_, rfl⟩
  have hgm : g1.method = m := by rw [hg1]; exact hg
  have hnU : U.methodNamed? y = some mk := X₁.named hnamed
  have hat : At U g1.method c below := by rw [hgm]; exact X₁.here
  obtain ⟨kY, hkY, -⟩ := className_of_methodNamed hnU
  have hiniU : (Cond.initialized y.cls).before args U = true := word_at hWU (Or.inl (by first | rfl | simp [Cond.onTables, Cond.keeps, Cond.steady])) hini
  have hinitY : kY.init = .initialized := Cond.initialized_spec (findClass_of_methodNamed hnU) hkY hiniU
  have hmU : U.vm.method? mk = some methM := by rw [hWU.alike.method?]; exact hmethM
  have hpre : (headSpec ws rm).pre.before (Value.ref b :: As).toArray U = true := atoms_intro fun w hw => hws w hw _ _ hWU
  have hdg1 : decode c.code g1.pc = .ok (.invokevirtual index, 3) := by rw [hg1, hb]; exact hdg
  have happ : (headSpec ws rm).appliesLoose y e.platform (U.calling g1 mk (Value.ref b :: As).toArray) = true :=
    Spec.appliesLoose_calling (g := g1) hat hdg1 hnU hkY hinitY
      (X₁.room_calling (g := g1) (R' := (headSpec ws rm).room) (by rw [hg1, hml]; exact hsize) hmU hcM hfr (by
        rw [hlM, hg1]
        show _ + rm.locals ≤ _
        have h9 : 2 * ({ g with stack := rest } : JFrame).monitorRoom + (({ g with stack := rest } : JFrame).stack.map fun v => v.category).sum ≤ 8 := hW
        omega) (by show cells + rm.cells ≤ _; omega) (by show slots + rm.slots ≤ _; omega)) hpre
  obtain ⟨mid, hmid⟩ := hat.above
  have hfs : (U.setTop g1).frames = (.java g1 :: mid) ++ below := by rw [State.frames_setTop' g1 hat.top, hmid]; rfl
  obtain ⟨o, s₂, hsteps, -, hend, hq⟩ := Steps.callFree (show MetFree l y (headSpec ws rm) Pc (fun _ _ _ _ _ => True) (xQ Qc XC mc ms free) from hM) p X₁.admits X₁.cas X₁.clock (acts := []) hfs happ (hbl _ _ _ _ (hPc U hUh hWU)) trivial
  rw [State.frames_setTop' g1 hat.top] at hend
  obtain ⟨g₀, hg0⟩ := Option.isSome_iff_exists.mp hat.top
  obtain ⟨r, hr⟩ := State.topJava?_eq_some.mp hg0
  have hsteps' : Steps p.tables e below (T.setTop g) s₂ := hstep₁ _ (fun acts => by rw [doInvoke_state, ← hg1]; exact hsteps)
  have key : ∀ (L : List Loc), U.WarmedH s₂.vm → (U.calling g1 mk (Value.ref b :: As).toArray).sameButNew ({ s₂ with vm := (U.calling g1 mk (Value.ref b :: As).toArray).vm } : State) L mc ms →
      Stand p l e R s m args below meth c (({ U with heap := s₂.heap, slotsUsed := s₂.slotsUsed } : State).setVm s₂.vm) (locs ++ L) (cells + mc) (slots + ms) ∧
      s₂ = ({ (U.calling g1 mk (Value.ref b :: As).toArray).setFrames s₂.frames with heap := s₂.heap, slotsUsed := s₂.slotsUsed } : State).setVm s₂.vm := by
    intro L hW₂ hsm
    obtain ⟨e2, q2, q3, q4, q5, q6⟩ := hsm
    have e3 : s₂ = ({ (U.calling g1 mk (Value.ref b :: As).toArray).setFrames s₂.frames with heap := s₂.heap, slotsUsed := s₂.slotsUsed } : State).setVm s₂.vm := by
      have h9 : s₂ = ({ s₂ with vm := (U.calling g1 mk (Value.ref b :: As).toArray).vm } : State).setVm s₂.vm := rfl
      rw [e2] at h9
      exact h9
    have hsame : U.sameButNew ({ U with heap := s₂.heap, slotsUsed := s₂.slotsUsed } : State) L mc ms := by
      refine ⟨?_, q2, q3, q4, q5, q6⟩
      obtain ⟨t9, ht9, -⟩ := State.frames_cons hr
      show ({ U with heap := s₂.heap, slotsUsed := s₂.slotsUsed } : State) = { U.setFrames U.frames with heap := s₂.heap, slotsUsed := s₂.slotsUsed }
      rw [State.setFrames_self ht9]
    exact ⟨⟨X₁.admits, X₁.cas, X₁.clock, X₁.frames, X₁.room, X₁.hears, X₁.method, X₁.code, (X₁.here.setHeapUsed s₂.heap s₂.slotsUsed).setVm hW₂.alike, X₁.tail, State.WarmedH.trans X₁.warmed hW₂, X₁.limits, X₁.bytes, X₁.same.trans (hsame.setVm s.vm)⟩, e3⟩
  have hr' : (({ U with heap := s₂.heap, slotsUsed := s₂.slotsUsed } : State).setVm s₂.vm).frames = .java g₀ :: r := hr
  rcases hq with ⟨hQ, L, ⟨⟨v, rfl⟩, hW₂, hsm⟩, hL⟩ | ⟨q, E, ce, L, rfl, hXC, h1, h2, h3, h4, h5, h6⟩
  · obtain ⟨X2, e3⟩ := key L hW₂ hsm
    obtain ⟨c₂, i₂, len₂, hc₂, hd₂, hf₂⟩ := hend
    have hcc : c₂ = c := by
      have h9 : s₂.code? g1.method = U.code? g1.method := by
        rw [State.code?_eq, State.code?_eq, (show U.WarmedH s₂.vm from hW₂).alike.method?]
      exact Option.some.inj (hc₂.symm.trans (h9.trans hat.code))
    subst hcc
    have hl3 : len₂ = 3 := by rw [hdg1] at hd₂; cases hd₂; rfl
    subst hl3
    refine Or.inl ⟨v, U.calling g1 mk (Value.ref b :: As).toArray, s₂, _, L, hUh, hWU, X2, hL, rfl, rfl, hQ, ?_⟩
    have hs₂ : s₂ = (({ U with heap := s₂.heap, slotsUsed := s₂.slotsUsed } : State).setVm s₂.vm).setTop { g with pc := g.pc + 3, stack := v.toList ++ rest } := by
      refine e3.trans ?_
      rw [hf₂, State.calling_eq hat.top, State.setFrames_setFrames, State.setTop_of_frames _ hr', hr, hg1]
      rfl
    rw [← hs₂]
    exact hsteps'
  · obtain ⟨X2, e3⟩ := key L h4 h5
    refine Or.inr ⟨q, U.calling g1 mk (Value.ref b :: As).toArray, s₂, _, L, E, ce, hUh, hWU, X2, h6, rfl, rfl, hXC, h1, h2, h3, ?_⟩
    have hf₂ : s₂.frames = .throwing q :: .java g1 :: U.frames.tail := hend
    have hs₂ : s₂ = ((({ U with heap := s₂.heap, slotsUsed := s₂.slotsUsed } : State).setVm s₂.vm).setTop { g with stack := rest }).pushFrame (.throwing q) := by
      refine e3.trans ?_
      rw [hf₂, State.calling_eq hat.top, State.setFrames_setFrames, State.pushFrame, State.frames_setTop _ hr', State.setTop_of_frames _ hr', State.setFrames_setFrames, hr, hg1]
      rfl
    rw [← hs₂]
    exact hsteps'
end XCALL
