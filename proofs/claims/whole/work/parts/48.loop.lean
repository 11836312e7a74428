def lw_P (b : Addr) (xs : List Int32) (args : Array Value) (s : State) : Prop := args = #[.ref b] ∧ s.IntsAt b xs ∧ xs.length ≤ 2049 ∧ (Jvm.Cond.and given_1 narrow_1).before args s = true
def lw_Q (_ : Array Value) (s : State) (o : Outcome) (t : State) : Prop := o = .returned (some (.int 1)) ∧ Framed s o t [] 1099 44341
def lw_Z (below : List Frame) (a : Array Value) (s : State) : State → Prop := fun t => ∃ o, t.status = .running ∧ Ended t below o ∧ lw_Q a s o t
/-- the law's own end, with 1 on the stack, nothing written that was there before, its room as the claim has it -/
theorem lw_ret {p : Program} {l : Launch} {e : Env} {s : State} {m : MethodId} {below : List Frame} {meth : Method} {c : Code} {b : Nat} (hx : p.tables.exec = Jvm.exec) (hb : c.code = code) (hr : meth.sig.returnType = ret) (hlocks : meth.locks = false) {pc : Nat} {H : Heap} {ls : Array Slot} (hdg : decode code pc = .ok (.ireturn, 1)) : W p l e room_1 s m #[Value.ref b] below meth c H [] 1099 44341 (lw_Z below #[Value.ref b] s) (F0 m pc ls [.int 1]) := by
  intro T hT X
  obtain ⟨fs, hret, hrun, hended, hW, hframe⟩ := X.leave (v := some (.int 1)) (hlocks := hlocks) (fun h => by rw [hr] at h; cases h)
  have hmeth' : T.vm.method? m = some meth := X.method'
  refine ⟨T.setFrames fs, ?_, .returned (some (.int 1)), hrun, hended, rfl, ⟨_, rfl⟩, hW, hframe⟩
  jvm_step X.here [X.here.top, hx, hb, hdg, hmeth', hr, ret, narrow_b1]
  (try refine ⟨rfl, ?_⟩); (try refine ⟨rfl, ?_⟩)
  first | (intro acts; rw [hret _ acts rfl rfl rfl]) | rw [hret _ _ rfl rfl rfl]
  exact Steps.refl _

def so_all (R9 : Nat → SS → SS → Prop) : Prop := (∀ x, wp_M_init (fun _ _ => 0) x (fun τ => R9 0 (s0C x) τ)) ∧ ∀ n, n < 512 → (∀ σ τ, R9 n σ τ → R9 (n + 1) σ τ) ∧ so_node (R9 n) (R9 (n + 1)) ∧ so_link (R9 n) (R9 (n + 1)) ∧ so_route (R9 n) (R9 (n + 1)) ∧ so_routes (R9 n) (R9 (n + 1)) ∧ so_fail (R9 n) (R9 (n + 1)) ∧ so_send (R9 n) (R9 (n + 1)) ∧ so_load (R9 n) (R9 (n + 1)) ∧ so_run (R9 n) (R9 (n + 1)) ∧ so_packet (R9 n) (R9 (n + 1)) ∧ so_channel (R9 n) (R9 (n + 1)) ∧ so_ring (R9 n) (R9 (n + 1)) ∧ so_ringAt (R9 n) (R9 (n + 1)) ∧ so_stuck (R9 n) (R9 (n + 1)) ∧ so_count (R9 n) (R9 (n + 1))
set_option maxHeartbeats 4000000 in
set_option maxRecDepth 100000 in
theorem lw_loop {p : Program} {l : Launch} {e : Env} {s : State} {m : MethodId} {below : List Frame} {meth : Method} {c : Code} {dC : Nat → ClassId} {dI : Nat → Nat → Nat} {cI cZ cJ : ClassId} {b L : Nat} {xs : Nat → Int32} {R9 : Nat → SS → SS → Prop} (hC : lcx p l s m meth c dC dI cI cZ cJ b L xs) (hsim : so_all R9) (hL : L ≤ 2049) {a a2 : Nat → Nat} {o : Nat} : ∀ (n k : Nat), n + k = 513 → ∀ (σ τ : SS) (f : Nat → Int64) (H : Heap) (locs : List Loc) (ls : Array Slot), R9 k σ τ → va_P (dC, dI) clsT ((lo cJ o f ++ wC cI cZ a σ) ++ wM cI cZ a2 τ) H → va_D (fun q => s.heap.size ≤ q) ((lo cJ o f ++ wC cI cZ a σ) ++ wM cI cZ a2 τ) → va_S (fun q => s.heap.size ≤ q) s.heap H locs → lv_has ls 7 [(4, .int (Int32.ofNat (1 + 4 * k))), (0, .ref b), (1, .ref (a 0)), (2, .ref (a2 0)), (3, .ref o)] → W p l e room_1 s m #[Value.ref b] below meth c H locs (55 + k) (36029 + 6 * k) (lw_Z below #[Value.ref b] s) (F0 m 33 ls []) := by
  obtain ⟨hx, hb, hr, hlocks, hml, hown, hts, hX, hbl, hO, hE, hK, hst, hN⟩ := id hC
  have hbA : ¬ (fun q => s.heap.size ≤ q) b := by show ¬ s.heap.size ≤ b; omega
  have hA : ∀ q, s.heap.size ≤ q → (fun q => s.heap.size ≤ q) q := fun _ h => h
  intro n
  induction n with
  | zero =>
    intro k hk σ τ f H locs ls hR hP hD hS hl
    have eL : (Int32.ofNat L - 4).toInt = (L : Int) - 4 := by
      have h1 : (Int32.ofNat L).toInt = L := Int32.toInt_ofNat_of_lt (by omega)
      rw [← zI_of (Int32.ofNat L), h1, zI_4, zI_sub, zI_t (by omega) (by omega)]
    have ek : ∀ j : Nat, j ≤ 3 → (Int32.ofNat (1 + 4 * k) + Int32.ofNat j).toInt = 1 + 4 * k + j := fun j hj => by rw [← Int32.ofNat_add, Int32.toInt_ofNat_of_lt (by omega)]; omega
    have e0 : (Int32.ofNat (1 + 4 * k)).toInt = 1 + 4 * k := by rw [Int32.toInt_ofNat_of_lt (by omega)]; omega
    refine lv_iload hx hb d_W_33 (lv_at hl 0 rfl) ?_
    refine lv_aload_n hx hb d_W_35 rfl (lv_at hl 1 rfl) ?_
    refine va_slen hx hb hX hbl hbA hS d_W_36 ?_
    refine lv_iconst (v := 4) hx hb d_W_37 (by decide) ?_
    refine lv_isub hx hb d_W_38 ?_
    refine lv_icmp_gt (tgt := 877) hx hb d_W_39 (by decide) (fun c1 => ?_) (fun c1 => ?_)
    · refine lv_iconst (v := 1) hx hb d_W_877 (by decide) ?_
      refine va_forget hS.2.2 ?_
      refine W.widen (k := 1099) (n := 44341) (by omega) (by omega) ?_
      exact lw_ret hx hb hr hlocks d_W_878
    · rw [Int32.lt_iff_toInt_lt, eL, e0] at c1
      exact absurd c1 (by omega)
  | succ n ih =>
    intro k hk σ τ f H locs ls hR hP hD hS hl
    have eL : (Int32.ofNat L - 4).toInt = (L : Int) - 4 := by
      have h1 : (Int32.ofNat L).toInt = L := Int32.toInt_ofNat_of_lt (by omega)
      rw [← zI_of (Int32.ofNat L), h1, zI_4, zI_sub, zI_t (by omega) (by omega)]
    have ek : ∀ j : Nat, j ≤ 3 → (Int32.ofNat (1 + 4 * k) + Int32.ofNat j).toInt = 1 + 4 * k + j := fun j hj => by rw [← Int32.ofNat_add, Int32.toInt_ofNat_of_lt (by omega)]; omega
    have e0 : (Int32.ofNat (1 + 4 * k)).toInt = 1 + 4 * k := by rw [Int32.toInt_ofNat_of_lt (by omega)]; omega
    refine lv_iload hx hb d_W_33 (lv_at hl 0 rfl) ?_
    refine lv_aload_n hx hb d_W_35 rfl (lv_at hl 1 rfl) ?_
    refine va_slen hx hb hX hbl hbA hS d_W_36 ?_
    refine lv_iconst (v := 4) hx hb d_W_37 (by decide) ?_
    refine lv_isub hx hb d_W_38 ?_
    refine lv_icmp_gt (tgt := 877) hx hb d_W_39 (by decide) (fun c1 => ?_) (fun c1 => ?_)
    · refine lv_iconst (v := 1) hx hb d_W_877 (by decide) ?_
      refine va_forget hS.2.2 ?_
      refine W.widen (k := 1099) (n := 44341) (by omega) (by omega) ?_
      exact lw_ret hx hb hr hlocks d_W_878
    · rw [Int32.lt_iff_toInt_lt, eL, e0] at c1
      obtain ⟨h_mono, h_node, h_link, h_route, h_routes, h_fail, h_send, h_load, h_run, h_packet, h_channel, h_ring, h_ringAt, h_stuck, h_count⟩ := hsim.2 k (by omega)
      have hi : lwi (Int32.ofNat (1 + 4 * k)) L := by
        refine ⟨?_, ?_, ?_, ?_⟩
        · rw [vp_in_iff, e0]; omega
        · rw [vp_in_iff, show (1 : Int32) = Int32.ofNat 1 from rfl, ek 1 (by omega)]; omega
        · rw [vp_in_iff, show (2 : Int32) = Int32.ofNat 2 from rfl, ek 2 (by omega)]; omega
        · rw [vp_in_iff, show (3 : Int32) = Int32.ofNat 3 from rfl, ek 3 (by omega)]; omega
      have back : ∀ (σ τ : SS) (f : Nat → Int64) (H : Heap) (locs : List Loc) (ls : Array Slot), R9 (k + 1) σ τ → va_P (dC, dI) clsT ((lo cJ o f ++ wC cI cZ a σ) ++ wM cI cZ a2 τ) H → va_D (fun q => s.heap.size ≤ q) ((lo cJ o f ++ wC cI cZ a σ) ++ wM cI cZ a2 τ) → va_S (fun q => s.heap.size ≤ q) s.heap H locs → lv_has ls 7 [(4, .int (Int32.ofNat (1 + 4 * k))), (0, .ref b), (1, .ref (a 0)), (2, .ref (a2 0)), (3, .ref o)] → W p l e room_1 s m #[Value.ref b] below meth c H locs (55 + k + 1) (36029 + 6 * k + 6) (lw_Z below #[Value.ref b] s) (F0 m 871 ls []) := by
        intro σ τ f H locs ls hR hP hD hS hl
        refine lv_iinc (v := Int32.ofNat (1 + 4 * (k + 1))) (lv' := [(4, .int (Int32.ofNat (1 + 4 * (k + 1)))), (0, .ref b), (1, .ref (a 0)), (2, .ref (a2 0)), (3, .ref o)]) hx hb d_W_871 hl (k := 0) rfl (by rw [show 1 + 4 * (k + 1) = (1 + 4 * k) + 4 by omega, Int32.ofNat_add (1 + 4 * k) 4]; rfl) (by decide) rfl (fun ls hl => ?_)
        refine lv_goto (tgt := 33) hx hb d_W_874 (by decide) ?_
        exact W.widen (by omega) (by omega) (ih (k + 1) (by omega) σ τ f H locs ls hR hP hD hS hl)
      refine lv_aload_n hx hb d_W_42 rfl (lv_at hl 1 rfl) ?_
      refine lv_iload hx hb d_W_43 (lv_at hl 0 rfl) ?_
      refine va_sld hx hb hX hbl hbA hS hi.1 d_W_45 ?_
      refine lv_bipush (v := 15) hx hb d_W_46 (by decide) ?_
      refine lv_iand hx hb d_W_48 ?_
      generalize xs (Int32.ofNat (1 + 4 * k)).toNatClampNeg &&& 15 = z
      by_cases c_0 : z = 0
      · refine lv_tableIn (tgt := 120) hx hb d_W_49 (by rw [c_0]; decide) (by rw [c_0]; decide) (by rw [c_0]; rfl) (by decide) ?_
        exact lw_c_node hC h_node hi hR hP hD hS hl (by omega) (by omega) back
      by_cases c_1 : z = 1
      · refine lv_tableIn (tgt := 164) hx hb d_W_49 (by rw [c_1]; decide) (by rw [c_1]; decide) (by rw [c_1]; rfl) (by decide) ?_
        exact lw_c_link hC h_link hi hR hP hD hS hl (by omega) (by omega) back
      by_cases c_2 : z = 2
      · refine lv_tableIn (tgt := 244) hx hb d_W_49 (by rw [c_2]; decide) (by rw [c_2]; decide) (by rw [c_2]; rfl) (by decide) ?_
        exact lw_c_route hC h_route hi hR hP hD hS hl (by omega) (by omega) back
      by_cases c_3 : z = 3
      · refine lv_tableIn (tgt := 324) hx hb d_W_49 (by rw [c_3]; decide) (by rw [c_3]; decide) (by rw [c_3]; rfl) (by decide) ?_
        exact lw_c_routes hC h_routes hi hR hP hD hS hl (by omega) (by omega) back
      by_cases c_4 : z = 4
      · refine lv_tableIn (tgt := 380) hx hb d_W_49 (by rw [c_4]; decide) (by rw [c_4]; decide) (by rw [c_4]; rfl) (by decide) ?_
        exact lw_c_fail hC h_fail hi hR hP hD hS hl (by omega) (by omega) back
      by_cases c_5 : z = 5
      · refine lv_tableIn (tgt := 436) hx hb d_W_49 (by rw [c_5]; decide) (by rw [c_5]; decide) (by rw [c_5]; rfl) (by decide) ?_
        exact lw_c_send hC h_send hi hR hP hD hS hl (by omega) (by omega) back
      by_cases c_6 : z = 6
      · refine lv_tableIn (tgt := 516) hx hb d_W_49 (by rw [c_6]; decide) (by rw [c_6]; decide) (by rw [c_6]; rfl) (by decide) ?_
        exact lw_c_load hC h_load hi hR hP hD hS hl (by omega) (by omega) back
      by_cases c_7 : z = 7
      · refine lv_tableIn (tgt := 572) hx hb d_W_49 (by rw [c_7]; decide) (by rw [c_7]; decide) (by rw [c_7]; rfl) (by decide) ?_
        exact lw_c_run hC h_run hi hR hP hD hS hl (by omega) (by omega) back
      by_cases c_8 : z = 8
      · refine lv_tableIn (tgt := 628) hx hb d_W_49 (by rw [c_8]; decide) (by rw [c_8]; decide) (by rw [c_8]; rfl) (by decide) ?_
        exact lw_c_packet hC h_packet hi hR hP hD hS hl (by omega) (by omega) back
      by_cases c_9 : z = 9
      · refine lv_tableIn (tgt := 696) hx hb d_W_49 (by rw [c_9]; decide) (by rw [c_9]; decide) (by rw [c_9]; rfl) (by decide) ?_
        exact lw_c_channel hC h_channel hi hR hP hD hS hl (by omega) (by omega) back
      by_cases c_10 : z = 10
      · refine lv_tableIn (tgt := 764) hx hb d_W_49 (by rw [c_10]; decide) (by rw [c_10]; decide) (by rw [c_10]; rfl) (by decide) ?_
        exact lw_c_ring hC h_ring hi hR hP hD hS hl (by omega) (by omega) back
      by_cases c_11 : z = 11
      · refine lv_tableIn (tgt := 777) hx hb d_W_49 (by rw [c_11]; decide) (by rw [c_11]; decide) (by rw [c_11]; rfl) (by decide) ?_
        exact lw_c_ringAt hC h_ringAt hi hR hP hD hS hl (by omega) (by omega) back
      by_cases c_12 : z = 12
      · refine lv_tableIn (tgt := 833) hx hb d_W_49 (by rw [c_12]; decide) (by rw [c_12]; decide) (by rw [c_12]; rfl) (by decide) ?_
        exact lw_c_stuck hC h_stuck hi hR hP hD hS hl (by omega) (by omega) back
      by_cases c_13 : z = 13
      · refine lv_tableIn (tgt := 846) hx hb d_W_49 (by rw [c_13]; decide) (by rw [c_13]; decide) (by rw [c_13]; rfl) (by decide) ?_
        exact lw_c_count hC h_count hi hR hP hD hS hl (by omega) (by omega) back
      refine lv_tableOut (tgt := 871) hx hb d_W_49 (by have g0 := lv_neT c_0 (a := 0) rfl; have g1 := lv_neT c_1 (a := 1) rfl; have g2 := lv_neT c_2 (a := 2) rfl; have g3 := lv_neT c_3 (a := 3) rfl; have g4 := lv_neT c_4 (a := 4) rfl; have g5 := lv_neT c_5 (a := 5) rfl; have g6 := lv_neT c_6 (a := 6) rfl; have g7 := lv_neT c_7 (a := 7) rfl; have g8 := lv_neT c_8 (a := 8) rfl; have g9 := lv_neT c_9 (a := 9) rfl; have g10 := lv_neT c_10 (a := 10) rfl; have g11 := lv_neT c_11 (a := 11) rfl; have g12 := lv_neT c_12 (a := 12) rfl; have g13 := lv_neT c_13 (a := 13) rfl; omega) (by decide) ?_
      exact W.widen (by omega) (by omega) (back σ τ f H locs ls (h_mono σ τ hR) hP hD hS hl)
