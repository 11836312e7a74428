theorem d_fill_0 : decode b_fill 0 = .ok (.iconst 0, 1) := by decide +kernel
theorem d_fill_1 : decode b_fill 1 = .ok (.istore_n 2, 1) := by decide +kernel
theorem d_fill_2 : decode b_fill 2 = .ok (.aload_n 0, 1) := by decide +kernel
theorem d_fill_3 : decode b_fill 3 = .ok (.arraylength, 1) := by decide +kernel
theorem d_fill_4 : decode b_fill 4 = .ok (.istore_n 3, 1) := by decide +kernel
theorem d_fill_5 : decode b_fill 5 = .ok (.iload_n 2, 1) := by decide +kernel
theorem d_fill_6 : decode b_fill 6 = .ok (.iload_n 3, 1) := by decide +kernel
theorem d_fill_7 : decode b_fill 7 = .ok (.if_icmp .ge 13, 3) := by decide +kernel
theorem d_fill_10 : decode b_fill 10 = .ok (.aload_n 0, 1) := by decide +kernel
theorem d_fill_11 : decode b_fill 11 = .ok (.iload_n 2, 1) := by decide +kernel
theorem d_fill_12 : decode b_fill 12 = .ok (.iload_n 1, 1) := by decide +kernel
theorem d_fill_13 : decode b_fill 13 = .ok (.iastore, 1) := by decide +kernel
theorem d_fill_14 : decode b_fill 14 = .ok (.iinc 2 1, 3) := by decide +kernel
theorem d_fill_17 : decode b_fill 17 = .ok (.goto (-12), 3) := by decide +kernel
theorem d_fill_20 : decode b_fill 20 = .ok (.return_, 1) := by decide +kernel
/-! Arrays.fill(int[], int): over the world of its one array; and its call out of a larger world -/
def fz (f : Nat → Int32) (n : Nat) (v : Int32) : Nat → Int32 := fun j => if j < n then v else f j
theorem fz_0 (f : Nat → Int32) (v : Int32) : fz f 0 v = f := by funext j; simp [fz]
theorem fz_s (f : Nat → Int32) (k : Nat) (v : Int32) : upd (fz f k v) k v = fz f (k + 1) v := by
  funext j
  simp only [upd, fz]
  by_cases h : j = k
  · subst h; simp
  · by_cases h2 : j < k
    · simp [h, h2, Nat.lt_succ_of_lt h2]
    · have h3 : ¬ j < k + 1 := by omega
      simp [h, h2, h3]
set_option maxHeartbeats 4000000 in
set_option maxRecDepth 100000 in
theorem c_fill (l : Launch) (D : va_G) (cl : List vw_C) (tys : List (ClassId × FieldType)) (cI : ClassId) (ht : tys[0]? = some (cI, .int)) (b n sz : Nat) (hn : n < 2 ^ 31) (f : Nat → Int32) (v : Int32) : Met l y_fill (.code y_fill b_fill 4 none :: TT) { frames := 0, cells := 0, slots := 0, locals := 0 } (pW D cl tys [.ref b, .int v] sz [(b, .inl (cI, n, .inl f))])
    (va_Qv (fun g : Nat → Int32 => g = fz f n v) (fun g t => va_P D cl [(b, .inl (cI, n, .inl g))] t.heap ∧ va_K D cl tys t ∧ va_D (va_A [(b, .inl (cI, n, .inl f))] sz) [(b, .inl (cI, n, .inl g))]) (va_A [(b, .inl (cI, n, .inl f))] sz)) 0 0 (va_A [(b, .inl (cI, n, .inl f))] sz) := by
  refine hd (Qf := fun A => va_Qv (fun g : Nat → Int32 => g = fz f n v) (fun g t => va_P D cl [(b, .inl (cI, n, .inl g))] t.heap ∧ va_K D cl tys t ∧ va_D A [(b, .inl (cI, n, .inl g))]) A) (by decide) (Nat.le_of_ble_eq_true rfl) ?_
  intro p e s m below meth c A ls hx hb hr hts hown hlocks hml hK hP hD hS hA hl
  have hl : lv_has ls 4 [(0, .ref b), (1, .int v)] := hl
  refine lv_iconst (v := 0) hx hb d_fill_0 (by decide) ?_
  refine lv_istore_n (lv' := [(2, .int 0), (0, .ref b), (1, .int v)]) hx hb d_fill_1 rfl hl (by decide) rfl (fun ls hl => ?_)
  refine lv_aload_n hx hb d_fill_2 rfl (lv_at hl 1 rfl) ?_
  refine va_alen hx hb hK hP 0 0 rfl ht (v := nI n) rfl d_fill_3 ?_
  refine lv_istore_n (lv' := [(3, .int (nI n)), (2, .int 0), (0, .ref b), (1, .int v)]) hx hb d_fill_4 rfl hl (by decide) rfl (fun ls hl => ?_)
  have loop : ∀ (k i : Nat) (H : Heap) (locs : List Loc) (ls : Array Slot), i ≤ n → n ≤ i + k → va_P D cl [(b, .inl (cI, n, .inl (fz f i v)))] H → va_D A [(b, .inl (cI, n, .inl (fz f i v)))] → va_S A s.heap H locs → lv_has ls 4 [(3, .int (nI n)), (2, .int (nI i)), (0, .ref b), (1, .int v)] →
      W p l e { frames := 0, cells := 0, slots := 0, locals := 0 } s m ([.ref b, .int v] : List Value).toArray below meth c H locs 0 0 (MQ below (va_Qv (fun g : Nat → Int32 => g = fz f n v) (fun g t => va_P D cl [(b, .inl (cI, n, .inl g))] t.heap ∧ va_K D cl tys t ∧ va_D A [(b, .inl (cI, n, .inl g))]) A) ([.ref b, .int v] : List Value).toArray s 0 0 A) (F0 m 5 ls []) := by
    intro k
    induction k with
    | zero =>
      intro i H locs ls h1 h2 hP hD hS hl
      have hi : i = n := by omega
      subst hi
      refine lv_iload_n hx hb d_fill_5 rfl (lv_at hl 1 rfl) ?_
      refine lv_iload_n hx hb d_fill_6 rfl (lv_at hl 0 rfl) ?_
      refine lv_icmp_ge (tgt := 20) hx hb d_fill_7 (by decide) (fun _ => ?_) (fun c9 => absurd (nI_le (Nat.le_refl _) hn) c9)
      exact W.vret hx hb hr (fun t ht9 hW => ⟨⟨_, rfl, rfl, by rw [ht9]; exact hP, va_K.moved hW.alike hK, hD⟩, hS.F ht9⟩) hS.2.2 d_fill_20 hlocks
    | succ k ih =>
      intro i H locs ls h1 h2 hP hD hS hl
      refine lv_iload_n hx hb d_fill_5 rfl (lv_at hl 1 rfl) ?_
      refine lv_iload_n hx hb d_fill_6 rfl (lv_at hl 0 rfl) ?_
      refine lv_icmp_ge (tgt := 20) hx hb d_fill_7 (by decide) (fun c9 => ?_) (fun c9 => ?_)
      · have hi : i = n := by
          rcases Nat.lt_or_ge i n with q | q
          · exact absurd c9 (nI_ge q hn)
          · omega
        subst hi
        exact W.vret hx hb hr (fun t ht9 hW => ⟨⟨_, rfl, rfl, by rw [ht9]; exact hP, va_K.moved hW.alike hK, hD⟩, hS.F ht9⟩) hS.2.2 d_fill_20 hlocks
      · have hi : i < n := by
          rcases Nat.lt_or_ge i n with q | q
          · exact q
          · exact absurd (nI_le q (by omega)) c9
        refine lv_aload_n hx hb d_fill_10 rfl (lv_at hl 2 rfl) ?_
        refine lv_iload_n hx hb d_fill_11 rfl (lv_at hl 1 rfl) ?_
        refine lv_iload_n hx hb d_fill_12 rfl (lv_at hl 3 rfl) ?_
        refine va_iast hx hb hK hP hD hS 0 0 rfl ht (vp_in_nI hi hn) d_fill_13 (fun H locs hP hD hS => ?_)
        rw [nI_clamp (by omega), fz_s] at hP hD
        refine lv_iinc (v := nI (i + 1)) (lv' := [(2, .int (nI (i + 1))), (3, .int (nI n)), (0, .ref b), (1, .int v)]) hx hb d_fill_14 hl (k := 1) rfl (by rw [← nI_1 i]; rfl) (by decide) rfl (fun ls hl => ?_)
        refine lv_goto (tgt := 5) hx hb d_fill_17 (by decide) ?_
        exact ih (i + 1) H locs ls (by omega) (by omega) hP hD hS (lv_sub hl [1, 0, 2, 3] rfl)
  exact loop n 0 s.heap [] ls (Nat.zero_le _) (by omega) (by rw [fz_0]; exact hP) (by rw [fz_0]; exact hD) hS (lv_sub hl [0, 1, 2, 3] rfl)
/-- one cell of a world changed by a callee that had it alone -/
theorem one_P {D : va_G} {cl : List vw_C} {A : Nat → Prop} {ws : va_W} {H H1 : Heap} {k b : Nat} {e0 e1 : va_E} (hP : va_P D cl ws H) (hD : va_D A ws) (hk : ws[k]? = some (b, e0)) (hq : ∀ q : Nat, q < H.size → ¬ va_A [(b, e0)] H.size q → H1[q]? = H[q]?) (h1 : va_P D cl [(b, e1)] H1) : va_P D cl (ws.set k (b, e1)) H1 := by
  intro j q hj
  rw [List.getElem?_set] at hj
  by_cases h : k = j
  · subst h
    have hlt : k < ws.length := (List.getElem?_eq_some_iff.mp hk).1
    simp only [hlt, if_true] at hj
    cases Option.some.inj hj
    exact h1 0 _ rfl
  · rw [if_neg h] at hj
    refine (hP j q hj).kept (hq q.1 (hP j q hj).lt ?_)
    rintro (⟨k2, e, h2⟩ | h2)
    · match k2, h2 with
      | 0, h2 =>
        have e2 : b = q.1 := congrArg Prod.fst (Option.some.inj h2)
        exact h (hD.1 k j _ _ hk hj e2)
      | k2 + 1, h2 => simp at h2
    · exact absurd (hP j q hj).lt (by omega)
section FILL
variable {p : Program} {l : Launch} {e : Env} {R : Room} {s : State} {m : MethodId} {args : Array Value} {below : List Frame} {meth : Method} {c : Code} {H : Heap} {locs : List Loc} {cells slots : Nat} {Q : State → Prop}
variable {cc : ByteArray} {pc : Nat} {ls : Array Slot} {rest : List Value} {D : va_G} {cl : List vw_C} {A : Nat → Prop} {tys : List (ClassId × FieldType)} {w : SS → va_W} {H0 : Heap} {own : String} {nL index : Nat}
theorem gi_S9 (h1 : Cond.methodLink own index y_fill ∈ TT) (h2 : Cond.static y_fill ∈ TT) (h4 : Cond.initialized R_Arrays ∈ TT) (h5 : Cond.code y_fill b_fill 4 none ∈ TT) : GoodIn TT (va_wsS own index y_fill (.code y_fill b_fill 4 none :: TT)) := by
  intro w hw
  unfold va_wsS at hw
  simp only [List.cons_append, List.nil_append, List.mem_cons] at hw
  rcases hw with rfl | rfl | rfl | rfl | hw
  · exact gt h1
  · exact gt h2
  · exact gt h4
  · exact gt h5
  · exact gt hw
/-- Arrays.fill of the array at place k of a world, whatever else is in it -/
theorem cl_fillG {ws : va_W} {n b : Nat} {f : Nat → Int32} {cI : ClassId} {v : Int32} (S : CallFix p m c cc nL s args TT own) (hK : va_K D cl tys s) (hP : va_P D cl ws H) (hD : va_D A ws) (hS : va_S A H0 H locs) (hA : ∀ q, H0.size ≤ q → A q) (k : Nat) (ht : tys[0]? = some (cI, .int)) (hk : ws[k]? = some (b, .inl (cI, n, .inl f))) (hn : n < 2 ^ 31)
    (gi : GoodIn TT (va_wsS own index y_fill (.code y_fill b_fill 4 none :: TT))) (hR : 0 + 1 ≤ R.frames ∧ 8 + (4 + 11) + 0 ≤ R.locals) (hsz : ls.size = nL) (hW : 2 * (F0 m pc ls (.int v :: .ref b :: rest)).monitorRoom + (rest.map fun v => v.category).sum ≤ 8) (hcf : cells + 0 ≤ R.cells ∧ slots + 0 ≤ R.slots) (hdg : decode cc pc = .ok (.invokestatic index, 3))
    (kk : ∀ (H : Heap) (locs : List Loc), va_P D cl (ws.set k (b, .inl (cI, n, .inl (fz f n v)))) H → va_D A (ws.set k (b, .inl (cI, n, .inl (fz f n v)))) → va_S A H0 H locs → W p l e R s m args below meth c H locs cells slots Q (F0 m (pc + 3) ls rest)) : W p l e R s m args below meth c H locs cells slots Q (F0 m pc ls (.int v :: .ref b :: rest)) := by
  have hPc : va_P D cl [(b, .inl (cI, n, .inl f))] H := fun j q hj => by
    match j, hj with
    | 0, hj => cases Option.some.inj hj; exact hP k _ hk
    | j + 1, hj => simp at hj
  have hDc : va_D A [(b, .inl (cI, n, .inl f))] := ⟨fun i j x y h1 h2 _ => by
    match i, j, h1, h2 with
    | 0, 0, _, _ => rfl
    | i + 1, _, h1, _ => simp at h1
    | 0, j + 1, _, h2 => simp at h2, fun j q hj => by
    match j, hj with
    | 0, hj => cases Option.some.inj hj; exact hD.2 k _ hk
    | j + 1, hj => simp at hj⟩
  refine va_callv (va_runS (As := [.ref b, .int v]) (rest := rest) S (c_fill l D cl tys cI ht b n H.size hn f v) (va_cwS 2 S.2.2.2.2 gi rfl rfl rfl (by decide +kernel) hR) (pW_S hK hPc hDc) rfl rfl hsz rfl hW hdg hcf) hS (fun q _ h => wA hDc hS hA q h) (wA hDc hS hA) (fun u t H1 locs1 ht1 _ hp hB _ hk1 hS1 => ?_)
  subst hp
  refine kk H1 locs1 (one_P hP hD hk hk1 (by rw [← ht1]; exact hB.1)) (hD.set hk) hS1
theorem cl_fill {σ : SS} {n b : Nat} {cI : ClassId} {v : Int32} (S : CallFix p m c cc nL s args TT own) (hK : va_K D cl tys s) (hP : va_P D cl (w σ) H) (hD : va_D A (w σ)) (hS : va_S A H0 H locs) (hA : ∀ q, H0.size ≤ q → A q) (k : Nat) (ht : tys[0]? = some (cI, .int)) (hk : (w σ)[k]? = some (b, .inl (cI, n, .inl (σ k)))) (hn : n < 2 ^ 31) (hset : (w σ).set k (b, .inl (cI, n, .inl (fz (σ k) n v))) = w (fl σ k n v))
    (gi : GoodIn TT (va_wsS own index y_fill (.code y_fill b_fill 4 none :: TT))) (hR : 0 + 1 ≤ R.frames ∧ 8 + (4 + 11) + 0 ≤ R.locals) (hsz : ls.size = nL) (hW : 2 * (F0 m pc ls (.int v :: .ref b :: rest)).monitorRoom + (rest.map fun v => v.category).sum ≤ 8) (hcf : cells + 0 ≤ R.cells ∧ slots + 0 ≤ R.slots) (hdg : decode cc pc = .ok (.invokestatic index, 3))
    (kk : ∀ (u : SS), u = fl σ k n v → ∀ (H : Heap) (locs : List Loc), va_P D cl (w u) H → va_D A (w u) → va_S A H0 H locs → W p l e R s m args below meth c H locs cells slots Q (F0 m (pc + 3) ls rest)) : W p l e R s m args below meth c H locs cells slots Q (F0 m pc ls (.int v :: .ref b :: rest)) :=
  cl_fillG S hK hP hD hS hA k ht hk hn gi hR hsz hW hcf hdg (fun H1 l1 hP hD hS => kk _ rfl H1 l1 (by rw [← hset]; exact hP) (by rw [← hset]; exact hD) hS)
end FILL

