/-! worlds of two parts, and a callee that has one of them -/
theorem jo_PL {D : va_G} {cl : List vw_C} {X Y : va_W} {H : Heap} (h : va_P D cl (X ++ Y) H) : va_P D cl X H := fun k q hk => h k q (by rw [List.getElem?_append_left (List.getElem?_eq_some_iff.mp hk).1]; exact hk)
theorem jo_PR {D : va_G} {cl : List vw_C} {X Y : va_W} {H : Heap} (h : va_P D cl (X ++ Y) H) : va_P D cl Y H := fun k q hk => h (X.length + k) q (by rw [List.getElem?_append_right (by omega)]; simpa using hk)
theorem jo_DL {A : Nat → Prop} {X Y : va_W} (h : va_D A (X ++ Y)) : va_D A X := by
  have g : ∀ {k : Nat} {q : Nat × va_E}, X[k]? = some q → (X ++ Y)[k]? = some q := fun hk => by rw [List.getElem?_append_left (List.getElem?_eq_some_iff.mp hk).1]; exact hk
  exact ⟨fun i j p q h1 h2 e => h.1 i j p q (g h1) (g h2) e, fun k q hk => h.2 k q (g hk)⟩
theorem jo_DR {A : Nat → Prop} {X Y : va_W} (h : va_D A (X ++ Y)) : va_D A Y := by
  have g : ∀ {k : Nat} {q : Nat × va_E}, Y[k]? = some q → (X ++ Y)[X.length + k]? = some q := fun hk => by rw [List.getElem?_append_right (by omega)]; simpa using hk
  exact ⟨fun i j p q h1 h2 e => by have := h.1 _ _ p q (g h1) (g h2) e; omega, fun k q hk => h.2 _ q (g hk)⟩
/-- no cell of the one part is a cell of the other -/
theorem jo_ne {A : Nat → Prop} {X Y : va_W} (h : va_D A (X ++ Y)) {i j : Nat} {p q : Nat × va_E} (hi : X[i]? = some p) (hj : Y[j]? = some q) : p.1 ≠ q.1 := fun e => by
  have hl := (List.getElem?_eq_some_iff.mp hi).1
  have h9 := h.1 i (X.length + j) p q (by rw [List.getElem?_append_left hl]; exact hi) (by rw [List.getElem?_append_right (by omega)]; simpa using hj) e
  omega
theorem jo_R {D : va_G} {cl : List vw_C} {A : Nat → Prop} {X Y Y1 : va_W} {H H1 : Heap} (hP : va_P D cl (X ++ Y) H) (hD : va_D A (X ++ Y)) (hk : ∀ q : Nat, q < H.size → ¬ va_A Y H.size q → H1[q]? = H[q]?) (hF : ∀ q, va_A Y H.size q → A q) (hP1 : va_P D cl Y1 H1) (hD1 : va_D (va_A Y H.size) Y1) : va_P D cl (X ++ Y1) H1 ∧ va_D A (X ++ Y1) := by
  have apart : ∀ (k : Nat) (q : Nat × va_E), X[k]? = some q → q.1 < H.size ∧ ¬ va_A Y H.size q.1 := fun k q hq => by
    have hl := (jo_PL hP k q hq).lt
    refine ⟨hl, ?_⟩
    rintro (⟨j, e, h⟩ | h)
    · exact jo_ne hD hq h rfl
    · omega
  exact ⟨va_P.app (fun k q hq => (jo_PL hP k q hq).kept (hk q.1 (apart k q hq).1 (apart k q hq).2)) hP1, va_D.app (jo_DL hD) (hD1.weaken (fun k q _ h => hF q.1 h)) (fun i j x y hx hy hxy => (apart i x hx).2 (by rw [hxy]; exact hD1.2 j y hy))⟩
theorem jo_L {D : va_G} {cl : List vw_C} {A : Nat → Prop} {X Y X1 : va_W} {H H1 : Heap} (hP : va_P D cl (X ++ Y) H) (hD : va_D A (X ++ Y)) (hk : ∀ q : Nat, q < H.size → ¬ va_A X H.size q → H1[q]? = H[q]?) (hF : ∀ q, va_A X H.size q → A q) (hP1 : va_P D cl X1 H1) (hD1 : va_D (va_A X H.size) X1) : va_P D cl (X1 ++ Y) H1 ∧ va_D A (X1 ++ Y) := by
  have apart : ∀ (k : Nat) (q : Nat × va_E), Y[k]? = some q → q.1 < H.size ∧ ¬ va_A X H.size q.1 := fun k q hq => by
    have hl := (jo_PR hP k q hq).lt
    refine ⟨hl, ?_⟩
    rintro (⟨j, e, h⟩ | h)
    · exact jo_ne hD h hq rfl
    · omega
  exact ⟨va_P.app hP1 (fun k q hq => (jo_PR hP k q hq).kept (hk q.1 (apart k q hq).1 (apart k q hq).2)), va_D.app (hD1.weaken (fun k q _ h => hF q.1 h)) (jo_DR hD) (fun i j x y hx hy hxy => (apart j y hy).2 (by rw [← hxy]; exact hD1.2 i x hx))⟩
abbrev tyL (cI cZ cJ : ClassId) : List (ClassId × FieldType) := [(cI, .int), (cZ, .boolean), (cJ, .long)]
section JOW
variable {p : Program} {l : Launch} {e : Env} {R : Room} {s : State} {m : MethodId} {args : Array Value} {below : List Frame} {meth : Method} {c : Code} {H : Heap} {locs : List Loc} {cells slots : Nat} {Q : State → Prop}
variable {y : MethodName} {bytes cc : ByteArray} {maxL nL mc ms n index : Nat} {ret : Option FieldType} {rm : Room} {A : Nat → Prop} {own : String} {b : Addr} {As rest : List Value} {pc : Nat} {ls : Array Slot} {st0 : List Value}
variable {D : va_G} {cl : List vw_C} {cI cZ cJ : ClassId} {w : SS → va_W} {X : va_W}
/-- the class is called with its own part of the world -/
theorem x_callR {σ : SS} {C : String} {Tt : u_T} {N k ci : Nat} {fs : List Value} {post : Int32 → SS → Prop} {xp : String → SS → Prop} (S : CallFix p m c cc nL s args TT own)
    (hM : xMet l y (.code y bytes maxL ret :: TT) rm (pX D cl (tyT cI cZ) (.ref b :: As) H.size (w σ)) (va_Qi post (bW D cl (tyT cI cZ) w (va_A (w σ) H.size)) (va_A (w σ) H.size)) (xC D cl (tyT cI cZ) w (va_A (w σ) H.size) xp) mc ms (va_A (w σ) H.size)) (cw : CallW R s args own C index y bytes maxL ret (.code y bytes maxL ret :: TT) rm mc ms n)
    (hc : cl[ci]? = some (C, Tt, N)) (he : (w σ)[k]? = some (b, .inr (ci, fs))) (hK : va_K D cl (tyL cI cZ cJ) s) (hP : va_P D cl (X ++ w σ) H) (hD : va_D A (X ++ w σ)) (hS : va_S A s.heap H locs) (hA : ∀ q, s.heap.size ≤ q → A q) (hO : ex_O A s)
    (hn : As.length = n) (hsize : ls.size = nL) (hstack : st0 = As.reverse ++ .ref b :: rest) (hW : 2 * (F0 m pc ls st0).monitorRoom + (rest.map fun v => v.category).sum ≤ 8) (hdg : decode cc pc = .ok (.invokevirtual index, 3)) (hf : cells + mc ≤ R.cells ∧ slots + ms ≤ R.slots)
    (kk : ∀ (r : Int32) (u : SS) (H1 : Heap) (locs1 : List Loc), post r u → va_P D cl (X ++ w u) H1 → va_D A (X ++ w u) → va_S A s.heap H1 locs1 → W p l e R s m args below meth c H1 locs1 (cells + mc) (slots + ms) Q (F0 m (pc + 3) ls (.int r :: rest)))
    (kx : ∀ (E : String) (ce : Cell) (q9 : Addr) (u : SS) (H1 : Heap) (locs1 : List Loc), xp E u → va_P D cl (X ++ w u) H1 → va_D A (X ++ w u) → va_S A s.heap H1 locs1 → H1[q9]? = some ce → ce.vm = .none → s.vm.findClass E = some ce.cls → xW p l e R s m args below meth c H1 locs1 (cells + mc) (slots + ms) Q (F0 m pc ls rest) q9) :
    W p l e R s m args below meth c H locs cells slots Q (F0 m pc ls st0) := by
  have hPc := jo_PR hP
  have hDc := jo_DR hD
  have hKc : va_K D cl (tyT cI cZ) s := hK.sub [0, 1] rfl
  have hF := wA hDc hS hA
  refine x_call (As := As) (rest := rest) S hM cw ⟨pX_blind, va_recv hKc hPc hc he, fun U hU hW9 => ⟨rfl, by rw [hU], by rw [hU]; exact hPc, va_K.moved hW9.alike hKc, hDc.weaken (fun _ _ _ _ => trivial), hO.go hW9 (fun a h1 h2 => by rw [hU]; exact hS.2.1 a h1 h2) (fun q _ h => hF q h)⟩⟩ hn hsize hstack hW hdg hf hS hF ?_ ?_
  · intro r u t H1 locs1 hp hvm ht hB hk hS1
    obtain ⟨g1, g2⟩ := jo_R hP hD hk hF (by rw [← ht]; exact hB.1) hB.2.2
    exact kk r u H1 locs1 hp g1 g2 hS1
  · intro E ce q9 u t H1 locs1 hp hvm ht hB hk hS1 h1 h2 h3
    obtain ⟨g1, g2⟩ := jo_R hP hD hk hF (by rw [← ht]; exact hB.1) hB.2.2
    exact kx E ce q9 u H1 locs1 hp g1 g2 hS1 h1 h2 h3
end JOW
