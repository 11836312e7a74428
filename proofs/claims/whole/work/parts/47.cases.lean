/-- what stands at the law's entry and goes on through all of it -/
def lcx (p : Program) (l : Launch) (s : State) (m : MethodId) (meth : Method) (c : Code) (dC : Nat → ClassId) (dI : Nat → Nat → Nat) (cI cZ cJ : ClassId) (b L : Nat) (xs : Nat → Int32) : Prop :=
  p.tables.exec = Jvm.exec ∧ c.code = code ∧ meth.sig.returnType = ret ∧ meth.locks = false ∧ c.maxLocals = 7 ∧ s.vm.findClass R_L = some m.cls ∧ (∀ w ∈ TT, w.before #[Value.ref b] s = true) ∧ va_X b L xs s s.heap ∧ b < s.heap.size ∧ ex_O (fun q => s.heap.size ≤ q) s ∧ ex_P s ∧ va_K (dC, dI) clsT (tyL cI cZ cJ) s ∧ l.stackTraces = false ∧ va_Nw (.methodLinkNest "NetRoutes" 22 ⟨"NetRoutes$Packets", "<init>", "()V"⟩ "NetRoutes") s
def lwi (i : Int32) (L : Nat) : Prop := vp_in i L ∧ vp_in (i + 1) L ∧ vp_in (i + 2) L ∧ vp_in (i + 3) L
def pp_node (R9 : SS → SS → Prop) (τ : SS) (k : Int32) (v : Int64) (σ1 : SS) : Prop := wp_M_node τ (fun r τ1 => wp_M_thrown τ1 (fun t => t = k ∧ (k = 0 → v = r.toInt64) ∧ R9 σ1 τ1))
def so_node (R9 Q9 : SS → SS → Prop) : Prop := ∀ (σ τ : SS) (v0 : Int64), R9 σ τ → wp_CN_node σ (fun r σ1 => pp_node Q9 τ 0 r.toInt64 σ1) (fun E σ1 => (E = "java/lang/UnsupportedOperationException" ∧ pp_node Q9 τ 1 v0 σ1))
set_option maxHeartbeats 4000000 in
set_option maxRecDepth 100000 in
theorem lw_c_node {p : Program} {l : Launch} {e : Env} {s : State} {m : MethodId} {below : List Frame} {meth : Method} {c : Code} {dC : Nat → ClassId} {dI : Nat → Nat → Nat} {cI cZ cJ : ClassId} {b L : Nat} {xs : Nat → Int32} {Q : State → Prop} {R9 Q9 : SS → SS → Prop} (hC : lcx p l s m meth c dC dI cI cZ cJ b L xs) (hsim : so_node R9 Q9) {a a2 : Nat → Nat} {o : Nat} {σ τ : SS} {f : Nat → Int64} {i : Int32} {H : Heap} {locs : List Loc} {cells slots : Nat} {ls : Array Slot} (hi : lwi i L) (hR : R9 σ τ)
    (hP : va_P (dC, dI) clsT ((lo cJ o f ++ wC cI cZ a σ) ++ wM cI cZ a2 τ) H) (hD : va_D (fun q => s.heap.size ≤ q) ((lo cJ o f ++ wC cI cZ a σ) ++ wM cI cZ a2 τ)) (hS : va_S (fun q => s.heap.size ≤ q) s.heap H locs) (hl : lv_has ls 7 [(4, .int i), (0, .ref b), (1, .ref (a 0)), (2, .ref (a2 0)), (3, .ref o)]) (hc : cells + 1 ≤ 1099) (hs : slots + 6 ≤ 44341)
    (kk : ∀ (σ τ : SS) (f : Nat → Int64) (H : Heap) (locs : List Loc) (ls : Array Slot), Q9 σ τ → va_P (dC, dI) clsT ((lo cJ o f ++ wC cI cZ a σ) ++ wM cI cZ a2 τ) H → va_D (fun q => s.heap.size ≤ q) ((lo cJ o f ++ wC cI cZ a σ) ++ wM cI cZ a2 τ) → va_S (fun q => s.heap.size ≤ q) s.heap H locs → lv_has ls 7 [(4, .int i), (0, .ref b), (1, .ref (a 0)), (2, .ref (a2 0)), (3, .ref o)] → W p l e room_1 s m #[Value.ref b] below meth c H locs (cells + 1) (slots + 6) Q (F0 m 871 ls [])) : W p l e room_1 s m #[Value.ref b] below meth c H locs cells slots Q (F0 m 120 ls []) := by
  obtain ⟨hx, hb, hr, hlocks, hml, hown, hts, hX, hbl, hO, hE, hK, hst, hN⟩ := hC
  have hbA : ¬ (fun q => s.heap.size ≤ q) b := by show ¬ s.heap.size ≤ b; omega
  have hA : ∀ q, s.heap.size ≤ q → (fun q => s.heap.size ≤ q) q := fun _ h => h
  have hK2 : va_K (dC, dI) clsT (tyT cI cZ) s := hK.sub [0, 1] rfl
  refine lv_aload_n hx hb d_W_120 rfl (lv_at hl 2 rfl) ?_
  refine lv_aload_n hx hb d_W_121 rfl (lv_at hl 4 rfl) ?_
  refine lw_wrap (P := pp_node Q9 τ) (lw_runS (n := 2) (As := [.ref (a 0), .ref o]) (rest := []) ⟨hx, hb, hml, hown, hts⟩ (c_L_node l hst dC dI cI cZ cJ a o _ σ f (pp_node Q9 τ) (hsim σ τ (f 0) hR)) (tm 612 rfl) (tm 613 rfl) (tm 546 rfl) (tm 614 rfl) rfl rfl (Nat.le_of_ble_eq_true rfl) (Nat.le_of_ble_eq_true rfl) (by decide +kernel) (lw_pL hK hP hD hS hA hO hE) rfl rfl hl.1 rfl (lv_room (Nat.le_of_ble_eq_true rfl)) d_W_122 ⟨hc, hs⟩) hP hD hS hA (fun k f1 σ1 H locs hw hP hD hS => ?_)
  refine lv_istore (lv' := [(5, .int k), (4, .int i), (0, .ref b), (1, .ref (a 0)), (2, .ref (a2 0)), (3, .ref o)]) hx hb d_W_125 hl (by decide) rfl (fun ls hl => ?_)
  refine lv_aload_n hx hb d_W_127 rfl (lv_at hl 4 rfl) ?_
  unfold pp_node at hw
  refine lw_ref (w := wM cI cZ a2) (va_runV (As := []) (rest := []) ⟨hx, hb, hml, hown, hts⟩ (c_M_node l dC dI cI cZ a2 _ τ _ hw) (cwV 0 hts (gi_V (tm 785 rfl) (tm 786 rfl) (tm 787 rfl) (tm 320 rfl) (tm 532 rfl)) rfl rfl rfl (by decide +kernel) ⟨Nat.le_of_ble_eq_true rfl, Nat.le_of_ble_eq_true rfl⟩) (pW_V hK2 (jo_PR hP) (jo_DR hD) (ci := 6) (k := 0) rfl rfl) rfl rfl hl.1 rfl (lv_room (Nat.le_of_ble_eq_true rfl)) d_W_128 ⟨hc, hs⟩) hP hD hS hA (fun r τ1 H locs hw hP hD hS => ?_)
  refine lv_istore (lv' := [(6, .int r), (5, .int k), (4, .int i), (0, .ref b), (1, .ref (a 0)), (2, .ref (a2 0)), (3, .ref o)]) hx hb d_W_131 hl (by decide) rfl (fun ls hl => ?_)
  refine lv_aload_n hx hb d_W_133 rfl (lv_at hl 5 rfl) ?_
  refine cl_r (va_runV (As := []) (rest := []) ⟨hx, hb, hml, hown, hts⟩ (c_M_thrown l dC dI cI cZ a2 _ τ1 _ hw) (cwV 0 hts (gi_V (tm 782 rfl) (tm 783 rfl) (tm 784 rfl) (tm 320 rfl) (tm 531 rfl)) rfl rfl rfl (by decide +kernel) ⟨Nat.le_of_ble_eq_true rfl, Nat.le_of_ble_eq_true rfl⟩) (pW_V hK2 (jo_PR hP) (jo_DR hD) (ci := 6) (k := 0) rfl rfl) rfl rfl hl.1 rfl (lv_room (Nat.le_of_ble_eq_true rfl)) d_W_134 ⟨hc, hs⟩) hP hS hA (fun t H locs hw hP hT => ?_)
  have hS := hT _ hA hS
  obtain ⟨e1, e2, hR⟩ := hw
  refine lv_iload hx hb d_W_137 (lv_at hl 1 rfl) ?_
  refine lv_icmp_eq (tgt := 144) hx hb d_W_139 (by decide) (fun _ => ?_) (fun c9 => absurd e1 c9)
  have fin : W p l e room_1 s m #[Value.ref b] below meth c H locs (cells + 1) (slots + 6) Q (F0 m 161 ls []) := by
    refine lv_goto (tgt := 871) hx hb d_W_161 (by decide) ?_
    exact kk σ1 τ1 f1 H locs ls hR hP hD hS (lv_sub hl [2, 3, 4, 5, 6] rfl)
  refine lv_iload hx hb d_W_144 (lv_at hl 1 rfl) ?_
  refine lv_if_ne (tgt := 161) hx hb d_W_146 (by decide) (fun _ => fin) (fun c9 => ?_)
  refine lv_aload_n hx hb d_W_149 rfl (lv_at hl 6 rfl) ?_
  refine lv_iconst (v := 0) hx hb d_W_150 (by decide) ?_
  refine va_lald hx hb hK hP 0 2 rfl rfl (by rw [vp_in_iff]; decide) d_W_151 ?_
  refine lv_iload hx hb d_W_152 (lv_at hl 0 rfl) ?_
  refine lv_i2l (v := r.toInt64) hx hb d_W_154 rfl ?_
  refine lw_lcmp hx hb (e2 c9) d_W_155 ?_
  exact lv_if_eq (tgt := 161) hx hb d_W_156 (by decide) (fun _ => fin) (fun c9 => absurd rfl c9)
def pp_link (R9 : SS → SS → Prop) (τ : SS) (x1 : Int32) (x2 : Int32) (x3 : Int32) (k : Int32) (v : Int64) (σ1 : SS) : Prop := wp_M_link τ x1 x2 x3 (fun r τ1 => wp_M_thrown τ1 (fun t => t = k ∧ (k = 0 → v = r.toInt64) ∧ R9 σ1 τ1))
def so_link (R9 Q9 : SS → SS → Prop) : Prop := ∀ (σ τ : SS) (v0 : Int64) (x1 : Int32) (x2 : Int32) (x3 : Int32), R9 σ τ → wp_CN_link σ x1 x2 x3 (fun r σ1 => pp_link Q9 τ x1 x2 x3 0 r.toInt64 σ1) (fun E σ1 => (E = "java/lang/IllegalArgumentException" ∧ pp_link Q9 τ x1 x2 x3 1 v0 σ1) ∨ (E = "java/lang/UnsupportedOperationException" ∧ pp_link Q9 τ x1 x2 x3 2 v0 σ1))
set_option maxHeartbeats 4000000 in
set_option maxRecDepth 100000 in
theorem lw_c_link {p : Program} {l : Launch} {e : Env} {s : State} {m : MethodId} {below : List Frame} {meth : Method} {c : Code} {dC : Nat → ClassId} {dI : Nat → Nat → Nat} {cI cZ cJ : ClassId} {b L : Nat} {xs : Nat → Int32} {Q : State → Prop} {R9 Q9 : SS → SS → Prop} (hC : lcx p l s m meth c dC dI cI cZ cJ b L xs) (hsim : so_link R9 Q9) {a a2 : Nat → Nat} {o : Nat} {σ τ : SS} {f : Nat → Int64} {i : Int32} {H : Heap} {locs : List Loc} {cells slots : Nat} {ls : Array Slot} (hi : lwi i L) (hR : R9 σ τ)
    (hP : va_P (dC, dI) clsT ((lo cJ o f ++ wC cI cZ a σ) ++ wM cI cZ a2 τ) H) (hD : va_D (fun q => s.heap.size ≤ q) ((lo cJ o f ++ wC cI cZ a σ) ++ wM cI cZ a2 τ)) (hS : va_S (fun q => s.heap.size ≤ q) s.heap H locs) (hl : lv_has ls 7 [(4, .int i), (0, .ref b), (1, .ref (a 0)), (2, .ref (a2 0)), (3, .ref o)]) (hc : cells + 1 ≤ 1099) (hs : slots + 6 ≤ 44341)
    (kk : ∀ (σ τ : SS) (f : Nat → Int64) (H : Heap) (locs : List Loc) (ls : Array Slot), Q9 σ τ → va_P (dC, dI) clsT ((lo cJ o f ++ wC cI cZ a σ) ++ wM cI cZ a2 τ) H → va_D (fun q => s.heap.size ≤ q) ((lo cJ o f ++ wC cI cZ a σ) ++ wM cI cZ a2 τ) → va_S (fun q => s.heap.size ≤ q) s.heap H locs → lv_has ls 7 [(4, .int i), (0, .ref b), (1, .ref (a 0)), (2, .ref (a2 0)), (3, .ref o)] → W p l e room_1 s m #[Value.ref b] below meth c H locs (cells + 1) (slots + 6) Q (F0 m 871 ls [])) : W p l e room_1 s m #[Value.ref b] below meth c H locs cells slots Q (F0 m 164 ls []) := by
  obtain ⟨hx, hb, hr, hlocks, hml, hown, hts, hX, hbl, hO, hE, hK, hst, hN⟩ := hC
  have hbA : ¬ (fun q => s.heap.size ≤ q) b := by show ¬ s.heap.size ≤ b; omega
  have hA : ∀ q, s.heap.size ≤ q → (fun q => s.heap.size ≤ q) q := fun _ h => h
  have hK2 : va_K (dC, dI) clsT (tyT cI cZ) s := hK.sub [0, 1] rfl
  refine lv_aload_n hx hb d_W_164 rfl (lv_at hl 2 rfl) ?_
  refine lv_aload_n hx hb d_W_165 rfl (lv_at hl 1 rfl) ?_
  refine lv_iload hx hb d_W_166 (lv_at hl 0 rfl) ?_
  refine lv_iconst (v := 1) hx hb d_W_168 (by decide) ?_
  refine lv_iadd hx hb d_W_169 ?_
  refine va_sld hx hb hX hbl hbA hS hi.2.1 d_W_170 ?_
  refine lv_aload_n hx hb d_W_171 rfl (lv_at hl 1 rfl) ?_
  refine lv_iload hx hb d_W_172 (lv_at hl 0 rfl) ?_
  refine lv_iconst (v := 2) hx hb d_W_174 (by decide) ?_
  refine lv_iadd hx hb d_W_175 ?_
  refine va_sld hx hb hX hbl hbA hS hi.2.2.1 d_W_176 ?_
  refine lv_aload_n hx hb d_W_177 rfl (lv_at hl 1 rfl) ?_
  refine lv_iload hx hb d_W_178 (lv_at hl 0 rfl) ?_
  refine lv_iconst (v := 3) hx hb d_W_180 (by decide) ?_
  refine lv_iadd hx hb d_W_181 ?_
  refine va_sld hx hb hX hbl hbA hS hi.2.2.2 d_W_182 ?_
  refine lv_aload_n hx hb d_W_183 rfl (lv_at hl 4 rfl) ?_
  refine lw_wrap (P := pp_link Q9 τ (xs (i + 1).toNatClampNeg) (xs (i + 2).toNatClampNeg) (xs (i + 3).toNatClampNeg)) (lw_runS (n := 5) (As := [.ref (a 0), .int (xs (i + 1).toNatClampNeg), .int (xs (i + 2).toNatClampNeg), .int (xs (i + 3).toNatClampNeg), .ref o]) (rest := []) ⟨hx, hb, hml, hown, hts⟩ (c_L_link l hst dC dI cI cZ cJ a o _ σ f (xs (i + 1).toNatClampNeg) (xs (i + 2).toNatClampNeg) (xs (i + 3).toNatClampNeg) (pp_link Q9 τ (xs (i + 1).toNatClampNeg) (xs (i + 2).toNatClampNeg) (xs (i + 3).toNatClampNeg)) (hsim σ τ (f 0) (xs (i + 1).toNatClampNeg) (xs (i + 2).toNatClampNeg) (xs (i + 3).toNatClampNeg) hR)) (tm 670 rfl) (tm 671 rfl) (tm 546 rfl) (tm 672 rfl) rfl rfl (Nat.le_of_ble_eq_true rfl) (Nat.le_of_ble_eq_true rfl) (by decide +kernel) (lw_pL hK hP hD hS hA hO hE) rfl rfl hl.1 rfl (lv_room (Nat.le_of_ble_eq_true rfl)) d_W_184 ⟨hc, hs⟩) hP hD hS hA (fun k f1 σ1 H locs hw hP hD hS => ?_)
  refine lv_istore (lv' := [(5, .int k), (4, .int i), (0, .ref b), (1, .ref (a 0)), (2, .ref (a2 0)), (3, .ref o)]) hx hb d_W_187 hl (by decide) rfl (fun ls hl => ?_)
  refine lv_aload_n hx hb d_W_189 rfl (lv_at hl 4 rfl) ?_
  refine lv_aload_n hx hb d_W_190 rfl (lv_at hl 2 rfl) ?_
  refine lv_iload hx hb d_W_191 (lv_at hl 1 rfl) ?_
  refine lv_iconst (v := 1) hx hb d_W_193 (by decide) ?_
  refine lv_iadd hx hb d_W_194 ?_
  refine va_sld hx hb hX hbl hbA hS hi.2.1 d_W_195 ?_
  refine lv_aload_n hx hb d_W_196 rfl (lv_at hl 2 rfl) ?_
  refine lv_iload hx hb d_W_197 (lv_at hl 1 rfl) ?_
  refine lv_iconst (v := 2) hx hb d_W_199 (by decide) ?_
  refine lv_iadd hx hb d_W_200 ?_
  refine va_sld hx hb hX hbl hbA hS hi.2.2.1 d_W_201 ?_
  refine lv_aload_n hx hb d_W_202 rfl (lv_at hl 2 rfl) ?_
  refine lv_iload hx hb d_W_203 (lv_at hl 1 rfl) ?_
  refine lv_iconst (v := 3) hx hb d_W_205 (by decide) ?_
  refine lv_iadd hx hb d_W_206 ?_
  refine va_sld hx hb hX hbl hbA hS hi.2.2.2 d_W_207 ?_
  unfold pp_link at hw
  refine lw_ref (w := wM cI cZ a2) (va_runV (As := [.int (xs (i + 1).toNatClampNeg), .int (xs (i + 2).toNatClampNeg), .int (xs (i + 3).toNatClampNeg)]) (rest := []) ⟨hx, hb, hml, hown, hts⟩ (c_M_link l dC dI cI cZ a2 _ τ (xs (i + 1).toNatClampNeg) (xs (i + 2).toNatClampNeg) (xs (i + 3).toNatClampNeg) _ hw) (cwV 3 hts (gi_V (tm 788 rfl) (tm 789 rfl) (tm 790 rfl) (tm 320 rfl) (tm 533 rfl)) rfl rfl rfl (by decide +kernel) ⟨Nat.le_of_ble_eq_true rfl, Nat.le_of_ble_eq_true rfl⟩) (pW_V hK2 (jo_PR hP) (jo_DR hD) (ci := 6) (k := 0) rfl rfl) rfl rfl hl.1 rfl (lv_room (Nat.le_of_ble_eq_true rfl)) d_W_208 ⟨hc, hs⟩) hP hD hS hA (fun r τ1 H locs hw hP hD hS => ?_)
  refine lv_istore (lv' := [(6, .int r), (5, .int k), (4, .int i), (0, .ref b), (1, .ref (a 0)), (2, .ref (a2 0)), (3, .ref o)]) hx hb d_W_211 hl (by decide) rfl (fun ls hl => ?_)
  refine lv_aload_n hx hb d_W_213 rfl (lv_at hl 5 rfl) ?_
  refine cl_r (va_runV (As := []) (rest := []) ⟨hx, hb, hml, hown, hts⟩ (c_M_thrown l dC dI cI cZ a2 _ τ1 _ hw) (cwV 0 hts (gi_V (tm 782 rfl) (tm 783 rfl) (tm 784 rfl) (tm 320 rfl) (tm 531 rfl)) rfl rfl rfl (by decide +kernel) ⟨Nat.le_of_ble_eq_true rfl, Nat.le_of_ble_eq_true rfl⟩) (pW_V hK2 (jo_PR hP) (jo_DR hD) (ci := 6) (k := 0) rfl rfl) rfl rfl hl.1 rfl (lv_room (Nat.le_of_ble_eq_true rfl)) d_W_214 ⟨hc, hs⟩) hP hS hA (fun t H locs hw hP hT => ?_)
  have hS := hT _ hA hS
  obtain ⟨e1, e2, hR⟩ := hw
  refine lv_iload hx hb d_W_217 (lv_at hl 1 rfl) ?_
  refine lv_icmp_eq (tgt := 224) hx hb d_W_219 (by decide) (fun _ => ?_) (fun c9 => absurd e1 c9)
  have fin : W p l e room_1 s m #[Value.ref b] below meth c H locs (cells + 1) (slots + 6) Q (F0 m 241 ls []) := by
    refine lv_goto (tgt := 871) hx hb d_W_241 (by decide) ?_
    exact kk σ1 τ1 f1 H locs ls hR hP hD hS (lv_sub hl [2, 3, 4, 5, 6] rfl)
  refine lv_iload hx hb d_W_224 (lv_at hl 1 rfl) ?_
  refine lv_if_ne (tgt := 241) hx hb d_W_226 (by decide) (fun _ => fin) (fun c9 => ?_)
  refine lv_aload_n hx hb d_W_229 rfl (lv_at hl 6 rfl) ?_
  refine lv_iconst (v := 0) hx hb d_W_230 (by decide) ?_
  refine va_lald hx hb hK hP 0 2 rfl rfl (by rw [vp_in_iff]; decide) d_W_231 ?_
  refine lv_iload hx hb d_W_232 (lv_at hl 0 rfl) ?_
  refine lv_i2l (v := r.toInt64) hx hb d_W_234 rfl ?_
  refine lw_lcmp hx hb (e2 c9) d_W_235 ?_
  exact lv_if_eq (tgt := 241) hx hb d_W_236 (by decide) (fun _ => fin) (fun c9 => absurd rfl c9)
def pp_route (R9 : SS → SS → Prop) (τ : SS) (x1 : Int32) (x2 : Int32) (x3 : Int32) (k : Int32) (v : Int64) (σ1 : SS) : Prop := wp_M_route τ x1 x2 x3 (fun r τ1 => wp_M_thrown τ1 (fun t => t = k ∧ (k = 0 → v = r.toInt64) ∧ R9 σ1 τ1))
def so_route (R9 Q9 : SS → SS → Prop) : Prop := ∀ (σ τ : SS) (v0 : Int64) (x1 : Int32) (x2 : Int32) (x3 : Int32), R9 σ τ → wp_CN_route σ x1 x2 x3 (fun r σ1 => pp_route Q9 τ x1 x2 x3 0 r.toInt64 σ1) (fun E σ1 => (E = "java/lang/IllegalArgumentException" ∧ pp_route Q9 τ x1 x2 x3 1 v0 σ1))
set_option maxHeartbeats 4000000 in
set_option maxRecDepth 100000 in
theorem lw_c_route {p : Program} {l : Launch} {e : Env} {s : State} {m : MethodId} {below : List Frame} {meth : Method} {c : Code} {dC : Nat → ClassId} {dI : Nat → Nat → Nat} {cI cZ cJ : ClassId} {b L : Nat} {xs : Nat → Int32} {Q : State → Prop} {R9 Q9 : SS → SS → Prop} (hC : lcx p l s m meth c dC dI cI cZ cJ b L xs) (hsim : so_route R9 Q9) {a a2 : Nat → Nat} {o : Nat} {σ τ : SS} {f : Nat → Int64} {i : Int32} {H : Heap} {locs : List Loc} {cells slots : Nat} {ls : Array Slot} (hi : lwi i L) (hR : R9 σ τ)
    (hP : va_P (dC, dI) clsT ((lo cJ o f ++ wC cI cZ a σ) ++ wM cI cZ a2 τ) H) (hD : va_D (fun q => s.heap.size ≤ q) ((lo cJ o f ++ wC cI cZ a σ) ++ wM cI cZ a2 τ)) (hS : va_S (fun q => s.heap.size ≤ q) s.heap H locs) (hl : lv_has ls 7 [(4, .int i), (0, .ref b), (1, .ref (a 0)), (2, .ref (a2 0)), (3, .ref o)]) (hc : cells + 1 ≤ 1099) (hs : slots + 6 ≤ 44341)
    (kk : ∀ (σ τ : SS) (f : Nat → Int64) (H : Heap) (locs : List Loc) (ls : Array Slot), Q9 σ τ → va_P (dC, dI) clsT ((lo cJ o f ++ wC cI cZ a σ) ++ wM cI cZ a2 τ) H → va_D (fun q => s.heap.size ≤ q) ((lo cJ o f ++ wC cI cZ a σ) ++ wM cI cZ a2 τ) → va_S (fun q => s.heap.size ≤ q) s.heap H locs → lv_has ls 7 [(4, .int i), (0, .ref b), (1, .ref (a 0)), (2, .ref (a2 0)), (3, .ref o)] → W p l e room_1 s m #[Value.ref b] below meth c H locs (cells + 1) (slots + 6) Q (F0 m 871 ls [])) : W p l e room_1 s m #[Value.ref b] below meth c H locs cells slots Q (F0 m 244 ls []) := by
  obtain ⟨hx, hb, hr, hlocks, hml, hown, hts, hX, hbl, hO, hE, hK, hst, hN⟩ := hC
  have hbA : ¬ (fun q => s.heap.size ≤ q) b := by show ¬ s.heap.size ≤ b; omega
  have hA : ∀ q, s.heap.size ≤ q → (fun q => s.heap.size ≤ q) q := fun _ h => h
  have hK2 : va_K (dC, dI) clsT (tyT cI cZ) s := hK.sub [0, 1] rfl
  refine lv_aload_n hx hb d_W_244 rfl (lv_at hl 2 rfl) ?_
  refine lv_aload_n hx hb d_W_245 rfl (lv_at hl 1 rfl) ?_
  refine lv_iload hx hb d_W_246 (lv_at hl 0 rfl) ?_
  refine lv_iconst (v := 1) hx hb d_W_248 (by decide) ?_
  refine lv_iadd hx hb d_W_249 ?_
  refine va_sld hx hb hX hbl hbA hS hi.2.1 d_W_250 ?_
  refine lv_aload_n hx hb d_W_251 rfl (lv_at hl 1 rfl) ?_
  refine lv_iload hx hb d_W_252 (lv_at hl 0 rfl) ?_
  refine lv_iconst (v := 2) hx hb d_W_254 (by decide) ?_
  refine lv_iadd hx hb d_W_255 ?_
  refine va_sld hx hb hX hbl hbA hS hi.2.2.1 d_W_256 ?_
  refine lv_aload_n hx hb d_W_257 rfl (lv_at hl 1 rfl) ?_
  refine lv_iload hx hb d_W_258 (lv_at hl 0 rfl) ?_
  refine lv_iconst (v := 3) hx hb d_W_260 (by decide) ?_
  refine lv_iadd hx hb d_W_261 ?_
  refine va_sld hx hb hX hbl hbA hS hi.2.2.2 d_W_262 ?_
  refine lv_aload_n hx hb d_W_263 rfl (lv_at hl 4 rfl) ?_
  refine lw_wrap (P := pp_route Q9 τ (xs (i + 1).toNatClampNeg) (xs (i + 2).toNatClampNeg) (xs (i + 3).toNatClampNeg)) (lw_runS (n := 5) (As := [.ref (a 0), .int (xs (i + 1).toNatClampNeg), .int (xs (i + 2).toNatClampNeg), .int (xs (i + 3).toNatClampNeg), .ref o]) (rest := []) ⟨hx, hb, hml, hown, hts⟩ (c_L_route l hst dC dI cI cZ cJ a o _ σ f (xs (i + 1).toNatClampNeg) (xs (i + 2).toNatClampNeg) (xs (i + 3).toNatClampNeg) (pp_route Q9 τ (xs (i + 1).toNatClampNeg) (xs (i + 2).toNatClampNeg) (xs (i + 3).toNatClampNeg)) (hsim σ τ (f 0) (xs (i + 1).toNatClampNeg) (xs (i + 2).toNatClampNeg) (xs (i + 3).toNatClampNeg) hR)) (tm 691 rfl) (tm 692 rfl) (tm 546 rfl) (tm 693 rfl) rfl rfl (Nat.le_of_ble_eq_true rfl) (Nat.le_of_ble_eq_true rfl) (by decide +kernel) (lw_pL hK hP hD hS hA hO hE) rfl rfl hl.1 rfl (lv_room (Nat.le_of_ble_eq_true rfl)) d_W_264 ⟨hc, hs⟩) hP hD hS hA (fun k f1 σ1 H locs hw hP hD hS => ?_)
  refine lv_istore (lv' := [(5, .int k), (4, .int i), (0, .ref b), (1, .ref (a 0)), (2, .ref (a2 0)), (3, .ref o)]) hx hb d_W_267 hl (by decide) rfl (fun ls hl => ?_)
  refine lv_aload_n hx hb d_W_269 rfl (lv_at hl 4 rfl) ?_
  refine lv_aload_n hx hb d_W_270 rfl (lv_at hl 2 rfl) ?_
  refine lv_iload hx hb d_W_271 (lv_at hl 1 rfl) ?_
  refine lv_iconst (v := 1) hx hb d_W_273 (by decide) ?_
  refine lv_iadd hx hb d_W_274 ?_
  refine va_sld hx hb hX hbl hbA hS hi.2.1 d_W_275 ?_
  refine lv_aload_n hx hb d_W_276 rfl (lv_at hl 2 rfl) ?_
  refine lv_iload hx hb d_W_277 (lv_at hl 1 rfl) ?_
  refine lv_iconst (v := 2) hx hb d_W_279 (by decide) ?_
  refine lv_iadd hx hb d_W_280 ?_
  refine va_sld hx hb hX hbl hbA hS hi.2.2.1 d_W_281 ?_
  refine lv_aload_n hx hb d_W_282 rfl (lv_at hl 2 rfl) ?_
  refine lv_iload hx hb d_W_283 (lv_at hl 1 rfl) ?_
  refine lv_iconst (v := 3) hx hb d_W_285 (by decide) ?_
  refine lv_iadd hx hb d_W_286 ?_
  refine va_sld hx hb hX hbl hbA hS hi.2.2.2 d_W_287 ?_
  unfold pp_route at hw
  refine lw_ref (w := wM cI cZ a2) (va_runV (As := [.int (xs (i + 1).toNatClampNeg), .int (xs (i + 2).toNatClampNeg), .int (xs (i + 3).toNatClampNeg)]) (rest := []) ⟨hx, hb, hml, hown, hts⟩ (c_M_route l dC dI cI cZ a2 _ τ (xs (i + 1).toNatClampNeg) (xs (i + 2).toNatClampNeg) (xs (i + 3).toNatClampNeg) _ hw) (cwV 3 hts (gi_V (tm 791 rfl) (tm 792 rfl) (tm 793 rfl) (tm 320 rfl) (tm 534 rfl)) rfl rfl rfl (by decide +kernel) ⟨Nat.le_of_ble_eq_true rfl, Nat.le_of_ble_eq_true rfl⟩) (pW_V hK2 (jo_PR hP) (jo_DR hD) (ci := 6) (k := 0) rfl rfl) rfl rfl hl.1 rfl (lv_room (Nat.le_of_ble_eq_true rfl)) d_W_288 ⟨hc, hs⟩) hP hD hS hA (fun r τ1 H locs hw hP hD hS => ?_)
  refine lv_istore (lv' := [(6, .int r), (5, .int k), (4, .int i), (0, .ref b), (1, .ref (a 0)), (2, .ref (a2 0)), (3, .ref o)]) hx hb d_W_291 hl (by decide) rfl (fun ls hl => ?_)
  refine lv_aload_n hx hb d_W_293 rfl (lv_at hl 5 rfl) ?_
  refine cl_r (va_runV (As := []) (rest := []) ⟨hx, hb, hml, hown, hts⟩ (c_M_thrown l dC dI cI cZ a2 _ τ1 _ hw) (cwV 0 hts (gi_V (tm 782 rfl) (tm 783 rfl) (tm 784 rfl) (tm 320 rfl) (tm 531 rfl)) rfl rfl rfl (by decide +kernel) ⟨Nat.le_of_ble_eq_true rfl, Nat.le_of_ble_eq_true rfl⟩) (pW_V hK2 (jo_PR hP) (jo_DR hD) (ci := 6) (k := 0) rfl rfl) rfl rfl hl.1 rfl (lv_room (Nat.le_of_ble_eq_true rfl)) d_W_294 ⟨hc, hs⟩) hP hS hA (fun t H locs hw hP hT => ?_)
  have hS := hT _ hA hS
  obtain ⟨e1, e2, hR⟩ := hw
  refine lv_iload hx hb d_W_297 (lv_at hl 1 rfl) ?_
  refine lv_icmp_eq (tgt := 304) hx hb d_W_299 (by decide) (fun _ => ?_) (fun c9 => absurd e1 c9)
  have fin : W p l e room_1 s m #[Value.ref b] below meth c H locs (cells + 1) (slots + 6) Q (F0 m 321 ls []) := by
    refine lv_goto (tgt := 871) hx hb d_W_321 (by decide) ?_
    exact kk σ1 τ1 f1 H locs ls hR hP hD hS (lv_sub hl [2, 3, 4, 5, 6] rfl)
  refine lv_iload hx hb d_W_304 (lv_at hl 1 rfl) ?_
  refine lv_if_ne (tgt := 321) hx hb d_W_306 (by decide) (fun _ => fin) (fun c9 => ?_)
  refine lv_aload_n hx hb d_W_309 rfl (lv_at hl 6 rfl) ?_
  refine lv_iconst (v := 0) hx hb d_W_310 (by decide) ?_
  refine va_lald hx hb hK hP 0 2 rfl rfl (by rw [vp_in_iff]; decide) d_W_311 ?_
  refine lv_iload hx hb d_W_312 (lv_at hl 0 rfl) ?_
  refine lv_i2l (v := r.toInt64) hx hb d_W_314 rfl ?_
  refine lw_lcmp hx hb (e2 c9) d_W_315 ?_
  exact lv_if_eq (tgt := 321) hx hb d_W_316 (by decide) (fun _ => fin) (fun c9 => absurd rfl c9)
def pp_routes (R9 : SS → SS → Prop) (τ : SS) (x1 : Int32) (k : Int32) (v : Int64) (σ1 : SS) : Prop := wp_M_routes τ x1 (fun r τ1 => wp_M_thrown τ1 (fun t => t = k ∧ (k = 0 → v = r.toInt64) ∧ R9 σ1 τ1))
def so_routes (R9 Q9 : SS → SS → Prop) : Prop := ∀ (σ τ : SS) (v0 : Int64) (x1 : Int32), R9 σ τ → wp_CN_routes σ x1 (fun r σ1 => pp_routes Q9 τ x1 0 r.toInt64 σ1) (fun E σ1 => (E = "java/lang/IllegalArgumentException" ∧ pp_routes Q9 τ x1 1 v0 σ1))
set_option maxHeartbeats 4000000 in
set_option maxRecDepth 100000 in
theorem lw_c_routes {p : Program} {l : Launch} {e : Env} {s : State} {m : MethodId} {below : List Frame} {meth : Method} {c : Code} {dC : Nat → ClassId} {dI : Nat → Nat → Nat} {cI cZ cJ : ClassId} {b L : Nat} {xs : Nat → Int32} {Q : State → Prop} {R9 Q9 : SS → SS → Prop} (hC : lcx p l s m meth c dC dI cI cZ cJ b L xs) (hsim : so_routes R9 Q9) {a a2 : Nat → Nat} {o : Nat} {σ τ : SS} {f : Nat → Int64} {i : Int32} {H : Heap} {locs : List Loc} {cells slots : Nat} {ls : Array Slot} (hi : lwi i L) (hR : R9 σ τ)
    (hP : va_P (dC, dI) clsT ((lo cJ o f ++ wC cI cZ a σ) ++ wM cI cZ a2 τ) H) (hD : va_D (fun q => s.heap.size ≤ q) ((lo cJ o f ++ wC cI cZ a σ) ++ wM cI cZ a2 τ)) (hS : va_S (fun q => s.heap.size ≤ q) s.heap H locs) (hl : lv_has ls 7 [(4, .int i), (0, .ref b), (1, .ref (a 0)), (2, .ref (a2 0)), (3, .ref o)]) (hc : cells + 1 ≤ 1099) (hs : slots + 6 ≤ 44341)
    (kk : ∀ (σ τ : SS) (f : Nat → Int64) (H : Heap) (locs : List Loc) (ls : Array Slot), Q9 σ τ → va_P (dC, dI) clsT ((lo cJ o f ++ wC cI cZ a σ) ++ wM cI cZ a2 τ) H → va_D (fun q => s.heap.size ≤ q) ((lo cJ o f ++ wC cI cZ a σ) ++ wM cI cZ a2 τ) → va_S (fun q => s.heap.size ≤ q) s.heap H locs → lv_has ls 7 [(4, .int i), (0, .ref b), (1, .ref (a 0)), (2, .ref (a2 0)), (3, .ref o)] → W p l e room_1 s m #[Value.ref b] below meth c H locs (cells + 1) (slots + 6) Q (F0 m 871 ls [])) : W p l e room_1 s m #[Value.ref b] below meth c H locs cells slots Q (F0 m 324 ls []) := by
  obtain ⟨hx, hb, hr, hlocks, hml, hown, hts, hX, hbl, hO, hE, hK, hst, hN⟩ := hC
  have hbA : ¬ (fun q => s.heap.size ≤ q) b := by show ¬ s.heap.size ≤ b; omega
  have hA : ∀ q, s.heap.size ≤ q → (fun q => s.heap.size ≤ q) q := fun _ h => h
  have hK2 : va_K (dC, dI) clsT (tyT cI cZ) s := hK.sub [0, 1] rfl
  refine lv_aload_n hx hb d_W_324 rfl (lv_at hl 2 rfl) ?_
  refine lv_aload_n hx hb d_W_325 rfl (lv_at hl 1 rfl) ?_
  refine lv_iload hx hb d_W_326 (lv_at hl 0 rfl) ?_
  refine lv_iconst (v := 1) hx hb d_W_328 (by decide) ?_
  refine lv_iadd hx hb d_W_329 ?_
  refine va_sld hx hb hX hbl hbA hS hi.2.1 d_W_330 ?_
  refine lv_aload_n hx hb d_W_331 rfl (lv_at hl 4 rfl) ?_
  refine lw_wrap (P := pp_routes Q9 τ (xs (i + 1).toNatClampNeg)) (lw_runS (n := 3) (As := [.ref (a 0), .int (xs (i + 1).toNatClampNeg), .ref o]) (rest := []) ⟨hx, hb, hml, hown, hts⟩ (c_L_routes l hst dC dI cI cZ cJ a o _ σ f (xs (i + 1).toNatClampNeg) (pp_routes Q9 τ (xs (i + 1).toNatClampNeg)) (hsim σ τ (f 0) (xs (i + 1).toNatClampNeg) hR)) (tm 697 rfl) (tm 698 rfl) (tm 546 rfl) (tm 699 rfl) rfl rfl (Nat.le_of_ble_eq_true rfl) (Nat.le_of_ble_eq_true rfl) (by decide +kernel) (lw_pL hK hP hD hS hA hO hE) rfl rfl hl.1 rfl (lv_room (Nat.le_of_ble_eq_true rfl)) d_W_332 ⟨hc, hs⟩) hP hD hS hA (fun k f1 σ1 H locs hw hP hD hS => ?_)
  refine lv_istore (lv' := [(5, .int k), (4, .int i), (0, .ref b), (1, .ref (a 0)), (2, .ref (a2 0)), (3, .ref o)]) hx hb d_W_335 hl (by decide) rfl (fun ls hl => ?_)
  refine lv_aload_n hx hb d_W_337 rfl (lv_at hl 4 rfl) ?_
  refine lv_aload_n hx hb d_W_338 rfl (lv_at hl 2 rfl) ?_
  refine lv_iload hx hb d_W_339 (lv_at hl 1 rfl) ?_
  refine lv_iconst (v := 1) hx hb d_W_341 (by decide) ?_
  refine lv_iadd hx hb d_W_342 ?_
  refine va_sld hx hb hX hbl hbA hS hi.2.1 d_W_343 ?_
  unfold pp_routes at hw
  refine lw_ref (w := wM cI cZ a2) (va_runV (As := [.int (xs (i + 1).toNatClampNeg)]) (rest := []) ⟨hx, hb, hml, hown, hts⟩ (c_M_routes l dC dI cI cZ a2 _ τ (xs (i + 1).toNatClampNeg) _ hw) (cwV 1 hts (gi_V (tm 794 rfl) (tm 795 rfl) (tm 796 rfl) (tm 320 rfl) (tm 535 rfl)) rfl rfl rfl (by decide +kernel) ⟨Nat.le_of_ble_eq_true rfl, Nat.le_of_ble_eq_true rfl⟩) (pW_V hK2 (jo_PR hP) (jo_DR hD) (ci := 6) (k := 0) rfl rfl) rfl rfl hl.1 rfl (lv_room (Nat.le_of_ble_eq_true rfl)) d_W_344 ⟨hc, hs⟩) hP hD hS hA (fun r τ1 H locs hw hP hD hS => ?_)
  refine lv_istore (lv' := [(6, .int r), (5, .int k), (4, .int i), (0, .ref b), (1, .ref (a 0)), (2, .ref (a2 0)), (3, .ref o)]) hx hb d_W_347 hl (by decide) rfl (fun ls hl => ?_)
  refine lv_aload_n hx hb d_W_349 rfl (lv_at hl 5 rfl) ?_
  refine cl_r (va_runV (As := []) (rest := []) ⟨hx, hb, hml, hown, hts⟩ (c_M_thrown l dC dI cI cZ a2 _ τ1 _ hw) (cwV 0 hts (gi_V (tm 782 rfl) (tm 783 rfl) (tm 784 rfl) (tm 320 rfl) (tm 531 rfl)) rfl rfl rfl (by decide +kernel) ⟨Nat.le_of_ble_eq_true rfl, Nat.le_of_ble_eq_true rfl⟩) (pW_V hK2 (jo_PR hP) (jo_DR hD) (ci := 6) (k := 0) rfl rfl) rfl rfl hl.1 rfl (lv_room (Nat.le_of_ble_eq_true rfl)) d_W_350 ⟨hc, hs⟩) hP hS hA (fun t H locs hw hP hT => ?_)
  have hS := hT _ hA hS
  obtain ⟨e1, e2, hR⟩ := hw
  refine lv_iload hx hb d_W_353 (lv_at hl 1 rfl) ?_
  refine lv_icmp_eq (tgt := 360) hx hb d_W_355 (by decide) (fun _ => ?_) (fun c9 => absurd e1 c9)
  have fin : W p l e room_1 s m #[Value.ref b] below meth c H locs (cells + 1) (slots + 6) Q (F0 m 377 ls []) := by
    refine lv_goto (tgt := 871) hx hb d_W_377 (by decide) ?_
    exact kk σ1 τ1 f1 H locs ls hR hP hD hS (lv_sub hl [2, 3, 4, 5, 6] rfl)
  refine lv_iload hx hb d_W_360 (lv_at hl 1 rfl) ?_
  refine lv_if_ne (tgt := 377) hx hb d_W_362 (by decide) (fun _ => fin) (fun c9 => ?_)
  refine lv_aload_n hx hb d_W_365 rfl (lv_at hl 6 rfl) ?_
  refine lv_iconst (v := 0) hx hb d_W_366 (by decide) ?_
  refine va_lald hx hb hK hP 0 2 rfl rfl (by rw [vp_in_iff]; decide) d_W_367 ?_
  refine lv_iload hx hb d_W_368 (lv_at hl 0 rfl) ?_
  refine lv_i2l (v := r.toInt64) hx hb d_W_370 rfl ?_
  refine lw_lcmp hx hb (e2 c9) d_W_371 ?_
  exact lv_if_eq (tgt := 377) hx hb d_W_372 (by decide) (fun _ => fin) (fun c9 => absurd rfl c9)
def pp_fail (R9 : SS → SS → Prop) (τ : SS) (x1 : Int32) (k : Int32) (v : Int64) (σ1 : SS) : Prop := wp_M_fail τ x1 (fun r τ1 => wp_M_thrown τ1 (fun t => t = k ∧ (k = 0 → v = r.toInt64) ∧ R9 σ1 τ1))
def so_fail (R9 Q9 : SS → SS → Prop) : Prop := ∀ (σ τ : SS) (v0 : Int64) (x1 : Int32), R9 σ τ → wp_CN_fail σ x1 (fun r σ1 => pp_fail Q9 τ x1 0 r.toInt64 σ1) (fun E σ1 => (E = "java/lang/IllegalArgumentException" ∧ pp_fail Q9 τ x1 1 v0 σ1))
set_option maxHeartbeats 4000000 in
set_option maxRecDepth 100000 in
theorem lw_c_fail {p : Program} {l : Launch} {e : Env} {s : State} {m : MethodId} {below : List Frame} {meth : Method} {c : Code} {dC : Nat → ClassId} {dI : Nat → Nat → Nat} {cI cZ cJ : ClassId} {b L : Nat} {xs : Nat → Int32} {Q : State → Prop} {R9 Q9 : SS → SS → Prop} (hC : lcx p l s m meth c dC dI cI cZ cJ b L xs) (hsim : so_fail R9 Q9) {a a2 : Nat → Nat} {o : Nat} {σ τ : SS} {f : Nat → Int64} {i : Int32} {H : Heap} {locs : List Loc} {cells slots : Nat} {ls : Array Slot} (hi : lwi i L) (hR : R9 σ τ)
    (hP : va_P (dC, dI) clsT ((lo cJ o f ++ wC cI cZ a σ) ++ wM cI cZ a2 τ) H) (hD : va_D (fun q => s.heap.size ≤ q) ((lo cJ o f ++ wC cI cZ a σ) ++ wM cI cZ a2 τ)) (hS : va_S (fun q => s.heap.size ≤ q) s.heap H locs) (hl : lv_has ls 7 [(4, .int i), (0, .ref b), (1, .ref (a 0)), (2, .ref (a2 0)), (3, .ref o)]) (hc : cells + 1 ≤ 1099) (hs : slots + 6 ≤ 44341)
    (kk : ∀ (σ τ : SS) (f : Nat → Int64) (H : Heap) (locs : List Loc) (ls : Array Slot), Q9 σ τ → va_P (dC, dI) clsT ((lo cJ o f ++ wC cI cZ a σ) ++ wM cI cZ a2 τ) H → va_D (fun q => s.heap.size ≤ q) ((lo cJ o f ++ wC cI cZ a σ) ++ wM cI cZ a2 τ) → va_S (fun q => s.heap.size ≤ q) s.heap H locs → lv_has ls 7 [(4, .int i), (0, .ref b), (1, .ref (a 0)), (2, .ref (a2 0)), (3, .ref o)] → W p l e room_1 s m #[Value.ref b] below meth c H locs (cells + 1) (slots + 6) Q (F0 m 871 ls [])) : W p l e room_1 s m #[Value.ref b] below meth c H locs cells slots Q (F0 m 380 ls []) := by
  obtain ⟨hx, hb, hr, hlocks, hml, hown, hts, hX, hbl, hO, hE, hK, hst, hN⟩ := hC
  have hbA : ¬ (fun q => s.heap.size ≤ q) b := by show ¬ s.heap.size ≤ b; omega
  have hA : ∀ q, s.heap.size ≤ q → (fun q => s.heap.size ≤ q) q := fun _ h => h
  have hK2 : va_K (dC, dI) clsT (tyT cI cZ) s := hK.sub [0, 1] rfl
  refine lv_aload_n hx hb d_W_380 rfl (lv_at hl 2 rfl) ?_
  refine lv_aload_n hx hb d_W_381 rfl (lv_at hl 1 rfl) ?_
  refine lv_iload hx hb d_W_382 (lv_at hl 0 rfl) ?_
  refine lv_iconst (v := 1) hx hb d_W_384 (by decide) ?_
  refine lv_iadd hx hb d_W_385 ?_
  refine va_sld hx hb hX hbl hbA hS hi.2.1 d_W_386 ?_
  refine lv_aload_n hx hb d_W_387 rfl (lv_at hl 4 rfl) ?_
  refine lw_wrap (P := pp_fail Q9 τ (xs (i + 1).toNatClampNeg)) (lw_runS (n := 3) (As := [.ref (a 0), .int (xs (i + 1).toNatClampNeg), .ref o]) (rest := []) ⟨hx, hb, hml, hown, hts⟩ (c_L_fail l hst dC dI cI cZ cJ a o _ σ f (xs (i + 1).toNatClampNeg) (pp_fail Q9 τ (xs (i + 1).toNatClampNeg)) (hsim σ τ (f 0) (xs (i + 1).toNatClampNeg) hR)) (tm 703 rfl) (tm 704 rfl) (tm 546 rfl) (tm 705 rfl) rfl rfl (Nat.le_of_ble_eq_true rfl) (Nat.le_of_ble_eq_true rfl) (by decide +kernel) (lw_pL hK hP hD hS hA hO hE) rfl rfl hl.1 rfl (lv_room (Nat.le_of_ble_eq_true rfl)) d_W_388 ⟨hc, hs⟩) hP hD hS hA (fun k f1 σ1 H locs hw hP hD hS => ?_)
  refine lv_istore (lv' := [(5, .int k), (4, .int i), (0, .ref b), (1, .ref (a 0)), (2, .ref (a2 0)), (3, .ref o)]) hx hb d_W_391 hl (by decide) rfl (fun ls hl => ?_)
  refine lv_aload_n hx hb d_W_393 rfl (lv_at hl 4 rfl) ?_
  refine lv_aload_n hx hb d_W_394 rfl (lv_at hl 2 rfl) ?_
  refine lv_iload hx hb d_W_395 (lv_at hl 1 rfl) ?_
  refine lv_iconst (v := 1) hx hb d_W_397 (by decide) ?_
  refine lv_iadd hx hb d_W_398 ?_
  refine va_sld hx hb hX hbl hbA hS hi.2.1 d_W_399 ?_
  unfold pp_fail at hw
  refine lw_ref (w := wM cI cZ a2) (va_runV (As := [.int (xs (i + 1).toNatClampNeg)]) (rest := []) ⟨hx, hb, hml, hown, hts⟩ (c_M_fail l dC dI cI cZ a2 _ τ (xs (i + 1).toNatClampNeg) _ hw) (cwV 1 hts (gi_V (tm 797 rfl) (tm 798 rfl) (tm 799 rfl) (tm 320 rfl) (tm 536 rfl)) rfl rfl rfl (by decide +kernel) ⟨Nat.le_of_ble_eq_true rfl, Nat.le_of_ble_eq_true rfl⟩) (pW_V hK2 (jo_PR hP) (jo_DR hD) (ci := 6) (k := 0) rfl rfl) rfl rfl hl.1 rfl (lv_room (Nat.le_of_ble_eq_true rfl)) d_W_400 ⟨hc, hs⟩) hP hD hS hA (fun r τ1 H locs hw hP hD hS => ?_)
  refine lv_istore (lv' := [(6, .int r), (5, .int k), (4, .int i), (0, .ref b), (1, .ref (a 0)), (2, .ref (a2 0)), (3, .ref o)]) hx hb d_W_403 hl (by decide) rfl (fun ls hl => ?_)
  refine lv_aload_n hx hb d_W_405 rfl (lv_at hl 5 rfl) ?_
  refine cl_r (va_runV (As := []) (rest := []) ⟨hx, hb, hml, hown, hts⟩ (c_M_thrown l dC dI cI cZ a2 _ τ1 _ hw) (cwV 0 hts (gi_V (tm 782 rfl) (tm 783 rfl) (tm 784 rfl) (tm 320 rfl) (tm 531 rfl)) rfl rfl rfl (by decide +kernel) ⟨Nat.le_of_ble_eq_true rfl, Nat.le_of_ble_eq_true rfl⟩) (pW_V hK2 (jo_PR hP) (jo_DR hD) (ci := 6) (k := 0) rfl rfl) rfl rfl hl.1 rfl (lv_room (Nat.le_of_ble_eq_true rfl)) d_W_406 ⟨hc, hs⟩) hP hS hA (fun t H locs hw hP hT => ?_)
  have hS := hT _ hA hS
  obtain ⟨e1, e2, hR⟩ := hw
  refine lv_iload hx hb d_W_409 (lv_at hl 1 rfl) ?_
  refine lv_icmp_eq (tgt := 416) hx hb d_W_411 (by decide) (fun _ => ?_) (fun c9 => absurd e1 c9)
  have fin : W p l e room_1 s m #[Value.ref b] below meth c H locs (cells + 1) (slots + 6) Q (F0 m 433 ls []) := by
    refine lv_goto (tgt := 871) hx hb d_W_433 (by decide) ?_
    exact kk σ1 τ1 f1 H locs ls hR hP hD hS (lv_sub hl [2, 3, 4, 5, 6] rfl)
  refine lv_iload hx hb d_W_416 (lv_at hl 1 rfl) ?_
  refine lv_if_ne (tgt := 433) hx hb d_W_418 (by decide) (fun _ => fin) (fun c9 => ?_)
  refine lv_aload_n hx hb d_W_421 rfl (lv_at hl 6 rfl) ?_
  refine lv_iconst (v := 0) hx hb d_W_422 (by decide) ?_
  refine va_lald hx hb hK hP 0 2 rfl rfl (by rw [vp_in_iff]; decide) d_W_423 ?_
  refine lv_iload hx hb d_W_424 (lv_at hl 0 rfl) ?_
  refine lv_i2l (v := r.toInt64) hx hb d_W_426 rfl ?_
  refine lw_lcmp hx hb (e2 c9) d_W_427 ?_
  exact lv_if_eq (tgt := 433) hx hb d_W_428 (by decide) (fun _ => fin) (fun c9 => absurd rfl c9)
def pp_send (R9 : SS → SS → Prop) (τ : SS) (x1 : Int32) (x2 : Int32) (x3 : Int32) (k : Int32) (v : Int64) (σ1 : SS) : Prop := wp_M_send τ x1 x2 x3 (fun r τ1 => wp_M_thrown τ1 (fun t => t = k ∧ (k = 0 → v = r.toInt64) ∧ R9 σ1 τ1))
def so_send (R9 Q9 : SS → SS → Prop) : Prop := ∀ (σ τ : SS) (v0 : Int64) (x1 : Int32) (x2 : Int32) (x3 : Int32), R9 σ τ → wp_CN_send σ x1 x2 x3 (fun r σ1 => pp_send Q9 τ x1 x2 x3 0 r.toInt64 σ1) (fun E σ1 => (E = "java/lang/IllegalArgumentException" ∧ pp_send Q9 τ x1 x2 x3 1 v0 σ1) ∨ (E = "java/lang/UnsupportedOperationException" ∧ pp_send Q9 τ x1 x2 x3 2 v0 σ1))
set_option maxHeartbeats 4000000 in
set_option maxRecDepth 100000 in
theorem lw_c_send {p : Program} {l : Launch} {e : Env} {s : State} {m : MethodId} {below : List Frame} {meth : Method} {c : Code} {dC : Nat → ClassId} {dI : Nat → Nat → Nat} {cI cZ cJ : ClassId} {b L : Nat} {xs : Nat → Int32} {Q : State → Prop} {R9 Q9 : SS → SS → Prop} (hC : lcx p l s m meth c dC dI cI cZ cJ b L xs) (hsim : so_send R9 Q9) {a a2 : Nat → Nat} {o : Nat} {σ τ : SS} {f : Nat → Int64} {i : Int32} {H : Heap} {locs : List Loc} {cells slots : Nat} {ls : Array Slot} (hi : lwi i L) (hR : R9 σ τ)
    (hP : va_P (dC, dI) clsT ((lo cJ o f ++ wC cI cZ a σ) ++ wM cI cZ a2 τ) H) (hD : va_D (fun q => s.heap.size ≤ q) ((lo cJ o f ++ wC cI cZ a σ) ++ wM cI cZ a2 τ)) (hS : va_S (fun q => s.heap.size ≤ q) s.heap H locs) (hl : lv_has ls 7 [(4, .int i), (0, .ref b), (1, .ref (a 0)), (2, .ref (a2 0)), (3, .ref o)]) (hc : cells + 1 ≤ 1099) (hs : slots + 6 ≤ 44341)
    (kk : ∀ (σ τ : SS) (f : Nat → Int64) (H : Heap) (locs : List Loc) (ls : Array Slot), Q9 σ τ → va_P (dC, dI) clsT ((lo cJ o f ++ wC cI cZ a σ) ++ wM cI cZ a2 τ) H → va_D (fun q => s.heap.size ≤ q) ((lo cJ o f ++ wC cI cZ a σ) ++ wM cI cZ a2 τ) → va_S (fun q => s.heap.size ≤ q) s.heap H locs → lv_has ls 7 [(4, .int i), (0, .ref b), (1, .ref (a 0)), (2, .ref (a2 0)), (3, .ref o)] → W p l e room_1 s m #[Value.ref b] below meth c H locs (cells + 1) (slots + 6) Q (F0 m 871 ls [])) : W p l e room_1 s m #[Value.ref b] below meth c H locs cells slots Q (F0 m 436 ls []) := by
  obtain ⟨hx, hb, hr, hlocks, hml, hown, hts, hX, hbl, hO, hE, hK, hst, hN⟩ := hC
  have hbA : ¬ (fun q => s.heap.size ≤ q) b := by show ¬ s.heap.size ≤ b; omega
  have hA : ∀ q, s.heap.size ≤ q → (fun q => s.heap.size ≤ q) q := fun _ h => h
  have hK2 : va_K (dC, dI) clsT (tyT cI cZ) s := hK.sub [0, 1] rfl
  refine lv_aload_n hx hb d_W_436 rfl (lv_at hl 2 rfl) ?_
  refine lv_aload_n hx hb d_W_437 rfl (lv_at hl 1 rfl) ?_
  refine lv_iload hx hb d_W_438 (lv_at hl 0 rfl) ?_
  refine lv_iconst (v := 1) hx hb d_W_440 (by decide) ?_
  refine lv_iadd hx hb d_W_441 ?_
  refine va_sld hx hb hX hbl hbA hS hi.2.1 d_W_442 ?_
  refine lv_aload_n hx hb d_W_443 rfl (lv_at hl 1 rfl) ?_
  refine lv_iload hx hb d_W_444 (lv_at hl 0 rfl) ?_
  refine lv_iconst (v := 2) hx hb d_W_446 (by decide) ?_
  refine lv_iadd hx hb d_W_447 ?_
  refine va_sld hx hb hX hbl hbA hS hi.2.2.1 d_W_448 ?_
  refine lv_aload_n hx hb d_W_449 rfl (lv_at hl 1 rfl) ?_
  refine lv_iload hx hb d_W_450 (lv_at hl 0 rfl) ?_
  refine lv_iconst (v := 3) hx hb d_W_452 (by decide) ?_
  refine lv_iadd hx hb d_W_453 ?_
  refine va_sld hx hb hX hbl hbA hS hi.2.2.2 d_W_454 ?_
  refine lv_aload_n hx hb d_W_455 rfl (lv_at hl 4 rfl) ?_
  refine lw_wrap (P := pp_send Q9 τ (xs (i + 1).toNatClampNeg) (xs (i + 2).toNatClampNeg) (xs (i + 3).toNatClampNeg)) (lw_runS (n := 5) (As := [.ref (a 0), .int (xs (i + 1).toNatClampNeg), .int (xs (i + 2).toNatClampNeg), .int (xs (i + 3).toNatClampNeg), .ref o]) (rest := []) ⟨hx, hb, hml, hown, hts⟩ (c_L_send l hst dC dI cI cZ cJ a o _ σ f (xs (i + 1).toNatClampNeg) (xs (i + 2).toNatClampNeg) (xs (i + 3).toNatClampNeg) (pp_send Q9 τ (xs (i + 1).toNatClampNeg) (xs (i + 2).toNatClampNeg) (xs (i + 3).toNatClampNeg)) (hsim σ τ (f 0) (xs (i + 1).toNatClampNeg) (xs (i + 2).toNatClampNeg) (xs (i + 3).toNatClampNeg) hR)) (tm 709 rfl) (tm 710 rfl) (tm 546 rfl) (tm 711 rfl) rfl rfl (Nat.le_of_ble_eq_true rfl) (Nat.le_of_ble_eq_true rfl) (by decide +kernel) (lw_pL hK hP hD hS hA hO hE) rfl rfl hl.1 rfl (lv_room (Nat.le_of_ble_eq_true rfl)) d_W_456 ⟨hc, hs⟩) hP hD hS hA (fun k f1 σ1 H locs hw hP hD hS => ?_)
  refine lv_istore (lv' := [(5, .int k), (4, .int i), (0, .ref b), (1, .ref (a 0)), (2, .ref (a2 0)), (3, .ref o)]) hx hb d_W_459 hl (by decide) rfl (fun ls hl => ?_)
  refine lv_aload_n hx hb d_W_461 rfl (lv_at hl 4 rfl) ?_
  refine lv_aload_n hx hb d_W_462 rfl (lv_at hl 2 rfl) ?_
  refine lv_iload hx hb d_W_463 (lv_at hl 1 rfl) ?_
  refine lv_iconst (v := 1) hx hb d_W_465 (by decide) ?_
  refine lv_iadd hx hb d_W_466 ?_
  refine va_sld hx hb hX hbl hbA hS hi.2.1 d_W_467 ?_
  refine lv_aload_n hx hb d_W_468 rfl (lv_at hl 2 rfl) ?_
  refine lv_iload hx hb d_W_469 (lv_at hl 1 rfl) ?_
  refine lv_iconst (v := 2) hx hb d_W_471 (by decide) ?_
  refine lv_iadd hx hb d_W_472 ?_
  refine va_sld hx hb hX hbl hbA hS hi.2.2.1 d_W_473 ?_
  refine lv_aload_n hx hb d_W_474 rfl (lv_at hl 2 rfl) ?_
  refine lv_iload hx hb d_W_475 (lv_at hl 1 rfl) ?_
  refine lv_iconst (v := 3) hx hb d_W_477 (by decide) ?_
  refine lv_iadd hx hb d_W_478 ?_
  refine va_sld hx hb hX hbl hbA hS hi.2.2.2 d_W_479 ?_
  unfold pp_send at hw
  refine lw_ref (w := wM cI cZ a2) (va_runV (As := [.int (xs (i + 1).toNatClampNeg), .int (xs (i + 2).toNatClampNeg), .int (xs (i + 3).toNatClampNeg)]) (rest := []) ⟨hx, hb, hml, hown, hts⟩ (c_M_send l dC dI cI cZ a2 _ τ (xs (i + 1).toNatClampNeg) (xs (i + 2).toNatClampNeg) (xs (i + 3).toNatClampNeg) _ hw) (cwV 3 hts (gi_V (tm 800 rfl) (tm 801 rfl) (tm 802 rfl) (tm 320 rfl) (tm 537 rfl)) rfl rfl rfl (by decide +kernel) ⟨Nat.le_of_ble_eq_true rfl, Nat.le_of_ble_eq_true rfl⟩) (pW_V hK2 (jo_PR hP) (jo_DR hD) (ci := 6) (k := 0) rfl rfl) rfl rfl hl.1 rfl (lv_room (Nat.le_of_ble_eq_true rfl)) d_W_480 ⟨hc, hs⟩) hP hD hS hA (fun r τ1 H locs hw hP hD hS => ?_)
  refine lv_istore (lv' := [(6, .int r), (5, .int k), (4, .int i), (0, .ref b), (1, .ref (a 0)), (2, .ref (a2 0)), (3, .ref o)]) hx hb d_W_483 hl (by decide) rfl (fun ls hl => ?_)
  refine lv_aload_n hx hb d_W_485 rfl (lv_at hl 5 rfl) ?_
  refine cl_r (va_runV (As := []) (rest := []) ⟨hx, hb, hml, hown, hts⟩ (c_M_thrown l dC dI cI cZ a2 _ τ1 _ hw) (cwV 0 hts (gi_V (tm 782 rfl) (tm 783 rfl) (tm 784 rfl) (tm 320 rfl) (tm 531 rfl)) rfl rfl rfl (by decide +kernel) ⟨Nat.le_of_ble_eq_true rfl, Nat.le_of_ble_eq_true rfl⟩) (pW_V hK2 (jo_PR hP) (jo_DR hD) (ci := 6) (k := 0) rfl rfl) rfl rfl hl.1 rfl (lv_room (Nat.le_of_ble_eq_true rfl)) d_W_486 ⟨hc, hs⟩) hP hS hA (fun t H locs hw hP hT => ?_)
  have hS := hT _ hA hS
  obtain ⟨e1, e2, hR⟩ := hw
  refine lv_iload hx hb d_W_489 (lv_at hl 1 rfl) ?_
  refine lv_icmp_eq (tgt := 496) hx hb d_W_491 (by decide) (fun _ => ?_) (fun c9 => absurd e1 c9)
  have fin : W p l e room_1 s m #[Value.ref b] below meth c H locs (cells + 1) (slots + 6) Q (F0 m 513 ls []) := by
    refine lv_goto (tgt := 871) hx hb d_W_513 (by decide) ?_
    exact kk σ1 τ1 f1 H locs ls hR hP hD hS (lv_sub hl [2, 3, 4, 5, 6] rfl)
  refine lv_iload hx hb d_W_496 (lv_at hl 1 rfl) ?_
  refine lv_if_ne (tgt := 513) hx hb d_W_498 (by decide) (fun _ => fin) (fun c9 => ?_)
  refine lv_aload_n hx hb d_W_501 rfl (lv_at hl 6 rfl) ?_
  refine lv_iconst (v := 0) hx hb d_W_502 (by decide) ?_
  refine va_lald hx hb hK hP 0 2 rfl rfl (by rw [vp_in_iff]; decide) d_W_503 ?_
  refine lv_iload hx hb d_W_504 (lv_at hl 0 rfl) ?_
  refine lv_i2l (v := r.toInt64) hx hb d_W_506 rfl ?_
  refine lw_lcmp hx hb (e2 c9) d_W_507 ?_
  exact lv_if_eq (tgt := 513) hx hb d_W_508 (by decide) (fun _ => fin) (fun c9 => absurd rfl c9)
def pp_load (R9 : SS → SS → Prop) (τ : SS) (x1 : Int32) (k : Int32) (v : Int64) (σ1 : SS) : Prop := wp_M_load τ x1 (fun r τ1 => wp_M_thrown τ1 (fun t => t = k ∧ (k = 0 → v = r.toInt64) ∧ R9 σ1 τ1))
def so_load (R9 Q9 : SS → SS → Prop) : Prop := ∀ (σ τ : SS) (v0 : Int64) (x1 : Int32), R9 σ τ → wp_CN_load σ x1 (fun r σ1 => pp_load Q9 τ x1 0 r.toInt64 σ1) (fun E σ1 => (E = "java/lang/IllegalArgumentException" ∧ pp_load Q9 τ x1 1 v0 σ1) ∨ (E = "java/lang/IllegalStateException" ∧ pp_load Q9 τ x1 2 v0 σ1) ∨ (E = "java/lang/UnsupportedOperationException" ∧ pp_load Q9 τ x1 3 v0 σ1))
set_option maxHeartbeats 4000000 in
set_option maxRecDepth 100000 in
theorem lw_c_load {p : Program} {l : Launch} {e : Env} {s : State} {m : MethodId} {below : List Frame} {meth : Method} {c : Code} {dC : Nat → ClassId} {dI : Nat → Nat → Nat} {cI cZ cJ : ClassId} {b L : Nat} {xs : Nat → Int32} {Q : State → Prop} {R9 Q9 : SS → SS → Prop} (hC : lcx p l s m meth c dC dI cI cZ cJ b L xs) (hsim : so_load R9 Q9) {a a2 : Nat → Nat} {o : Nat} {σ τ : SS} {f : Nat → Int64} {i : Int32} {H : Heap} {locs : List Loc} {cells slots : Nat} {ls : Array Slot} (hi : lwi i L) (hR : R9 σ τ)
    (hP : va_P (dC, dI) clsT ((lo cJ o f ++ wC cI cZ a σ) ++ wM cI cZ a2 τ) H) (hD : va_D (fun q => s.heap.size ≤ q) ((lo cJ o f ++ wC cI cZ a σ) ++ wM cI cZ a2 τ)) (hS : va_S (fun q => s.heap.size ≤ q) s.heap H locs) (hl : lv_has ls 7 [(4, .int i), (0, .ref b), (1, .ref (a 0)), (2, .ref (a2 0)), (3, .ref o)]) (hc : cells + 1 ≤ 1099) (hs : slots + 6 ≤ 44341)
    (kk : ∀ (σ τ : SS) (f : Nat → Int64) (H : Heap) (locs : List Loc) (ls : Array Slot), Q9 σ τ → va_P (dC, dI) clsT ((lo cJ o f ++ wC cI cZ a σ) ++ wM cI cZ a2 τ) H → va_D (fun q => s.heap.size ≤ q) ((lo cJ o f ++ wC cI cZ a σ) ++ wM cI cZ a2 τ) → va_S (fun q => s.heap.size ≤ q) s.heap H locs → lv_has ls 7 [(4, .int i), (0, .ref b), (1, .ref (a 0)), (2, .ref (a2 0)), (3, .ref o)] → W p l e room_1 s m #[Value.ref b] below meth c H locs (cells + 1) (slots + 6) Q (F0 m 871 ls [])) : W p l e room_1 s m #[Value.ref b] below meth c H locs cells slots Q (F0 m 516 ls []) := by
  obtain ⟨hx, hb, hr, hlocks, hml, hown, hts, hX, hbl, hO, hE, hK, hst, hN⟩ := hC
  have hbA : ¬ (fun q => s.heap.size ≤ q) b := by show ¬ s.heap.size ≤ b; omega
  have hA : ∀ q, s.heap.size ≤ q → (fun q => s.heap.size ≤ q) q := fun _ h => h
  have hK2 : va_K (dC, dI) clsT (tyT cI cZ) s := hK.sub [0, 1] rfl
  refine lv_aload_n hx hb d_W_516 rfl (lv_at hl 2 rfl) ?_
  refine lv_aload_n hx hb d_W_517 rfl (lv_at hl 1 rfl) ?_
  refine lv_iload hx hb d_W_518 (lv_at hl 0 rfl) ?_
  refine lv_iconst (v := 1) hx hb d_W_520 (by decide) ?_
  refine lv_iadd hx hb d_W_521 ?_
  refine va_sld hx hb hX hbl hbA hS hi.2.1 d_W_522 ?_
  refine lv_aload_n hx hb d_W_523 rfl (lv_at hl 4 rfl) ?_
  refine lw_wrap (P := pp_load Q9 τ (xs (i + 1).toNatClampNeg)) (lw_runS (n := 3) (As := [.ref (a 0), .int (xs (i + 1).toNatClampNeg), .ref o]) (rest := []) ⟨hx, hb, hml, hown, hts⟩ (c_L_load l hst dC dI cI cZ cJ a o _ σ f (xs (i + 1).toNatClampNeg) (pp_load Q9 τ (xs (i + 1).toNatClampNeg)) (hsim σ τ (f 0) (xs (i + 1).toNatClampNeg) hR)) (tm 715 rfl) (tm 716 rfl) (tm 546 rfl) (tm 717 rfl) rfl rfl (Nat.le_of_ble_eq_true rfl) (Nat.le_of_ble_eq_true rfl) (by decide +kernel) (lw_pL hK hP hD hS hA hO hE) rfl rfl hl.1 rfl (lv_room (Nat.le_of_ble_eq_true rfl)) d_W_524 ⟨hc, hs⟩) hP hD hS hA (fun k f1 σ1 H locs hw hP hD hS => ?_)
  refine lv_istore (lv' := [(5, .int k), (4, .int i), (0, .ref b), (1, .ref (a 0)), (2, .ref (a2 0)), (3, .ref o)]) hx hb d_W_527 hl (by decide) rfl (fun ls hl => ?_)
  refine lv_aload_n hx hb d_W_529 rfl (lv_at hl 4 rfl) ?_
  refine lv_aload_n hx hb d_W_530 rfl (lv_at hl 2 rfl) ?_
  refine lv_iload hx hb d_W_531 (lv_at hl 1 rfl) ?_
  refine lv_iconst (v := 1) hx hb d_W_533 (by decide) ?_
  refine lv_iadd hx hb d_W_534 ?_
  refine va_sld hx hb hX hbl hbA hS hi.2.1 d_W_535 ?_
  unfold pp_load at hw
  refine lw_ref (w := wM cI cZ a2) (va_runV (As := [.int (xs (i + 1).toNatClampNeg)]) (rest := []) ⟨hx, hb, hml, hown, hts⟩ (c_M_load l dC dI cI cZ a2 _ τ (xs (i + 1).toNatClampNeg) _ hw) (cwV 1 hts (gi_V (tm 803 rfl) (tm 804 rfl) (tm 805 rfl) (tm 320 rfl) (tm 538 rfl)) rfl rfl rfl (by decide +kernel) ⟨Nat.le_of_ble_eq_true rfl, Nat.le_of_ble_eq_true rfl⟩) (pW_V hK2 (jo_PR hP) (jo_DR hD) (ci := 6) (k := 0) rfl rfl) rfl rfl hl.1 rfl (lv_room (Nat.le_of_ble_eq_true rfl)) d_W_536 ⟨hc, hs⟩) hP hD hS hA (fun r τ1 H locs hw hP hD hS => ?_)
  refine lv_istore (lv' := [(6, .int r), (5, .int k), (4, .int i), (0, .ref b), (1, .ref (a 0)), (2, .ref (a2 0)), (3, .ref o)]) hx hb d_W_539 hl (by decide) rfl (fun ls hl => ?_)
  refine lv_aload_n hx hb d_W_541 rfl (lv_at hl 5 rfl) ?_
  refine cl_r (va_runV (As := []) (rest := []) ⟨hx, hb, hml, hown, hts⟩ (c_M_thrown l dC dI cI cZ a2 _ τ1 _ hw) (cwV 0 hts (gi_V (tm 782 rfl) (tm 783 rfl) (tm 784 rfl) (tm 320 rfl) (tm 531 rfl)) rfl rfl rfl (by decide +kernel) ⟨Nat.le_of_ble_eq_true rfl, Nat.le_of_ble_eq_true rfl⟩) (pW_V hK2 (jo_PR hP) (jo_DR hD) (ci := 6) (k := 0) rfl rfl) rfl rfl hl.1 rfl (lv_room (Nat.le_of_ble_eq_true rfl)) d_W_542 ⟨hc, hs⟩) hP hS hA (fun t H locs hw hP hT => ?_)
  have hS := hT _ hA hS
  obtain ⟨e1, e2, hR⟩ := hw
  refine lv_iload hx hb d_W_545 (lv_at hl 1 rfl) ?_
  refine lv_icmp_eq (tgt := 552) hx hb d_W_547 (by decide) (fun _ => ?_) (fun c9 => absurd e1 c9)
  have fin : W p l e room_1 s m #[Value.ref b] below meth c H locs (cells + 1) (slots + 6) Q (F0 m 569 ls []) := by
    refine lv_goto (tgt := 871) hx hb d_W_569 (by decide) ?_
    exact kk σ1 τ1 f1 H locs ls hR hP hD hS (lv_sub hl [2, 3, 4, 5, 6] rfl)
  refine lv_iload hx hb d_W_552 (lv_at hl 1 rfl) ?_
  refine lv_if_ne (tgt := 569) hx hb d_W_554 (by decide) (fun _ => fin) (fun c9 => ?_)
  refine lv_aload_n hx hb d_W_557 rfl (lv_at hl 6 rfl) ?_
  refine lv_iconst (v := 0) hx hb d_W_558 (by decide) ?_
  refine va_lald hx hb hK hP 0 2 rfl rfl (by rw [vp_in_iff]; decide) d_W_559 ?_
  refine lv_iload hx hb d_W_560 (lv_at hl 0 rfl) ?_
  refine lv_i2l (v := r.toInt64) hx hb d_W_562 rfl ?_
  refine lw_lcmp hx hb (e2 c9) d_W_563 ?_
  exact lv_if_eq (tgt := 569) hx hb d_W_564 (by decide) (fun _ => fin) (fun c9 => absurd rfl c9)
def pp_run (R9 : SS → SS → Prop) (τ : SS) (x1 : Int32) (k : Int32) (v : Int64) (σ1 : SS) : Prop := wp_M_run τ x1 (fun r τ1 => wp_M_thrown τ1 (fun t => t = k ∧ (k = 0 → v = r.toInt64) ∧ R9 σ1 τ1))
def so_run (R9 Q9 : SS → SS → Prop) : Prop := ∀ (σ τ : SS) (v0 : Int64) (x1 : Int32), R9 σ τ → wp_CN_run σ x1 (fun r σ1 => pp_run Q9 τ x1 0 r.toInt64 σ1) (fun E σ1 => (E = "java/lang/IllegalArgumentException" ∧ pp_run Q9 τ x1 1 v0 σ1))
set_option maxHeartbeats 4000000 in
set_option maxRecDepth 100000 in
theorem lw_c_run {p : Program} {l : Launch} {e : Env} {s : State} {m : MethodId} {below : List Frame} {meth : Method} {c : Code} {dC : Nat → ClassId} {dI : Nat → Nat → Nat} {cI cZ cJ : ClassId} {b L : Nat} {xs : Nat → Int32} {Q : State → Prop} {R9 Q9 : SS → SS → Prop} (hC : lcx p l s m meth c dC dI cI cZ cJ b L xs) (hsim : so_run R9 Q9) {a a2 : Nat → Nat} {o : Nat} {σ τ : SS} {f : Nat → Int64} {i : Int32} {H : Heap} {locs : List Loc} {cells slots : Nat} {ls : Array Slot} (hi : lwi i L) (hR : R9 σ τ)
    (hP : va_P (dC, dI) clsT ((lo cJ o f ++ wC cI cZ a σ) ++ wM cI cZ a2 τ) H) (hD : va_D (fun q => s.heap.size ≤ q) ((lo cJ o f ++ wC cI cZ a σ) ++ wM cI cZ a2 τ)) (hS : va_S (fun q => s.heap.size ≤ q) s.heap H locs) (hl : lv_has ls 7 [(4, .int i), (0, .ref b), (1, .ref (a 0)), (2, .ref (a2 0)), (3, .ref o)]) (hc : cells + 1 ≤ 1099) (hs : slots + 6 ≤ 44341)
    (kk : ∀ (σ τ : SS) (f : Nat → Int64) (H : Heap) (locs : List Loc) (ls : Array Slot), Q9 σ τ → va_P (dC, dI) clsT ((lo cJ o f ++ wC cI cZ a σ) ++ wM cI cZ a2 τ) H → va_D (fun q => s.heap.size ≤ q) ((lo cJ o f ++ wC cI cZ a σ) ++ wM cI cZ a2 τ) → va_S (fun q => s.heap.size ≤ q) s.heap H locs → lv_has ls 7 [(4, .int i), (0, .ref b), (1, .ref (a 0)), (2, .ref (a2 0)), (3, .ref o)] → W p l e room_1 s m #[Value.ref b] below meth c H locs (cells + 1) (slots + 6) Q (F0 m 871 ls [])) : W p l e room_1 s m #[Value.ref b] below meth c H locs cells slots Q (F0 m 572 ls []) := by
  obtain ⟨hx, hb, hr, hlocks, hml, hown, hts, hX, hbl, hO, hE, hK, hst, hN⟩ := hC
  have hbA : ¬ (fun q => s.heap.size ≤ q) b := by show ¬ s.heap.size ≤ b; omega
  have hA : ∀ q, s.heap.size ≤ q → (fun q => s.heap.size ≤ q) q := fun _ h => h
  have hK2 : va_K (dC, dI) clsT (tyT cI cZ) s := hK.sub [0, 1] rfl
  refine lv_aload_n hx hb d_W_572 rfl (lv_at hl 2 rfl) ?_
  refine lv_aload_n hx hb d_W_573 rfl (lv_at hl 1 rfl) ?_
  refine lv_iload hx hb d_W_574 (lv_at hl 0 rfl) ?_
  refine lv_iconst (v := 1) hx hb d_W_576 (by decide) ?_
  refine lv_iadd hx hb d_W_577 ?_
  refine va_sld hx hb hX hbl hbA hS hi.2.1 d_W_578 ?_
  refine lv_aload_n hx hb d_W_579 rfl (lv_at hl 4 rfl) ?_
  refine lw_wrap (P := pp_run Q9 τ (xs (i + 1).toNatClampNeg)) (lw_runS (n := 3) (As := [.ref (a 0), .int (xs (i + 1).toNatClampNeg), .ref o]) (rest := []) ⟨hx, hb, hml, hown, hts⟩ (c_L_run l hst dC dI cI cZ cJ a o _ σ f (xs (i + 1).toNatClampNeg) (pp_run Q9 τ (xs (i + 1).toNatClampNeg)) (hsim σ τ (f 0) (xs (i + 1).toNatClampNeg) hR)) (tm 736 rfl) (tm 737 rfl) (tm 546 rfl) (tm 738 rfl) rfl rfl (Nat.le_of_ble_eq_true rfl) (Nat.le_of_ble_eq_true rfl) (by decide +kernel) (lw_pL hK hP hD hS hA hO hE) rfl rfl hl.1 rfl (lv_room (Nat.le_of_ble_eq_true rfl)) d_W_580 ⟨hc, hs⟩) hP hD hS hA (fun k f1 σ1 H locs hw hP hD hS => ?_)
  refine lv_istore (lv' := [(5, .int k), (4, .int i), (0, .ref b), (1, .ref (a 0)), (2, .ref (a2 0)), (3, .ref o)]) hx hb d_W_583 hl (by decide) rfl (fun ls hl => ?_)
  refine lv_aload_n hx hb d_W_585 rfl (lv_at hl 4 rfl) ?_
  refine lv_aload_n hx hb d_W_586 rfl (lv_at hl 2 rfl) ?_
  refine lv_iload hx hb d_W_587 (lv_at hl 1 rfl) ?_
  refine lv_iconst (v := 1) hx hb d_W_589 (by decide) ?_
  refine lv_iadd hx hb d_W_590 ?_
  refine va_sld hx hb hX hbl hbA hS hi.2.1 d_W_591 ?_
  unfold pp_run at hw
  refine lw_ref (w := wM cI cZ a2) (va_runV (As := [.int (xs (i + 1).toNatClampNeg)]) (rest := []) ⟨hx, hb, hml, hown, hts⟩ (c_M_run l dC dI cI cZ a2 _ τ (xs (i + 1).toNatClampNeg) _ hw) (cwV 1 hts (gi_V (tm 806 rfl) (tm 807 rfl) (tm 808 rfl) (tm 320 rfl) (tm 539 rfl)) rfl rfl rfl (by decide +kernel) ⟨Nat.le_of_ble_eq_true rfl, Nat.le_of_ble_eq_true rfl⟩) (pW_V hK2 (jo_PR hP) (jo_DR hD) (ci := 6) (k := 0) rfl rfl) rfl rfl hl.1 rfl (lv_room (Nat.le_of_ble_eq_true rfl)) d_W_592 ⟨hc, hs⟩) hP hD hS hA (fun r τ1 H locs hw hP hD hS => ?_)
  refine lv_istore (lv' := [(6, .int r), (5, .int k), (4, .int i), (0, .ref b), (1, .ref (a 0)), (2, .ref (a2 0)), (3, .ref o)]) hx hb d_W_595 hl (by decide) rfl (fun ls hl => ?_)
  refine lv_aload_n hx hb d_W_597 rfl (lv_at hl 5 rfl) ?_
  refine cl_r (va_runV (As := []) (rest := []) ⟨hx, hb, hml, hown, hts⟩ (c_M_thrown l dC dI cI cZ a2 _ τ1 _ hw) (cwV 0 hts (gi_V (tm 782 rfl) (tm 783 rfl) (tm 784 rfl) (tm 320 rfl) (tm 531 rfl)) rfl rfl rfl (by decide +kernel) ⟨Nat.le_of_ble_eq_true rfl, Nat.le_of_ble_eq_true rfl⟩) (pW_V hK2 (jo_PR hP) (jo_DR hD) (ci := 6) (k := 0) rfl rfl) rfl rfl hl.1 rfl (lv_room (Nat.le_of_ble_eq_true rfl)) d_W_598 ⟨hc, hs⟩) hP hS hA (fun t H locs hw hP hT => ?_)
  have hS := hT _ hA hS
  obtain ⟨e1, e2, hR⟩ := hw
  refine lv_iload hx hb d_W_601 (lv_at hl 1 rfl) ?_
  refine lv_icmp_eq (tgt := 608) hx hb d_W_603 (by decide) (fun _ => ?_) (fun c9 => absurd e1 c9)
  have fin : W p l e room_1 s m #[Value.ref b] below meth c H locs (cells + 1) (slots + 6) Q (F0 m 625 ls []) := by
    refine lv_goto (tgt := 871) hx hb d_W_625 (by decide) ?_
    exact kk σ1 τ1 f1 H locs ls hR hP hD hS (lv_sub hl [2, 3, 4, 5, 6] rfl)
  refine lv_iload hx hb d_W_608 (lv_at hl 1 rfl) ?_
  refine lv_if_ne (tgt := 625) hx hb d_W_610 (by decide) (fun _ => fin) (fun c9 => ?_)
  refine lv_aload_n hx hb d_W_613 rfl (lv_at hl 6 rfl) ?_
  refine lv_iconst (v := 0) hx hb d_W_614 (by decide) ?_
  refine va_lald hx hb hK hP 0 2 rfl rfl (by rw [vp_in_iff]; decide) d_W_615 ?_
  refine lv_iload hx hb d_W_616 (lv_at hl 0 rfl) ?_
  refine lv_i2l (v := r.toInt64) hx hb d_W_618 rfl ?_
  refine lw_lcmp hx hb (e2 c9) d_W_619 ?_
  exact lv_if_eq (tgt := 625) hx hb d_W_620 (by decide) (fun _ => fin) (fun c9 => absurd rfl c9)
def pp_packet (R9 : SS → SS → Prop) (τ : SS) (x1 : Int32) (x2 : Int32) (k : Int32) (v : Int64) (σ1 : SS) : Prop := wp_M_packet τ x1 x2 (fun r τ1 => wp_M_thrown τ1 (fun t => t = k ∧ (k = 0 → v = r.toInt64) ∧ R9 σ1 τ1))
def so_packet (R9 Q9 : SS → SS → Prop) : Prop := ∀ (σ τ : SS) (v0 : Int64) (x1 : Int32) (x2 : Int32), R9 σ τ → wp_CN_packet σ x1 x2 (fun r => pp_packet Q9 τ x1 x2 0 r.toInt64 σ) (fun E σ1 => (E = "java/lang/IndexOutOfBoundsException" ∧ pp_packet Q9 τ x1 x2 1 v0 σ1))
set_option maxHeartbeats 4000000 in
set_option maxRecDepth 100000 in
theorem lw_c_packet {p : Program} {l : Launch} {e : Env} {s : State} {m : MethodId} {below : List Frame} {meth : Method} {c : Code} {dC : Nat → ClassId} {dI : Nat → Nat → Nat} {cI cZ cJ : ClassId} {b L : Nat} {xs : Nat → Int32} {Q : State → Prop} {R9 Q9 : SS → SS → Prop} (hC : lcx p l s m meth c dC dI cI cZ cJ b L xs) (hsim : so_packet R9 Q9) {a a2 : Nat → Nat} {o : Nat} {σ τ : SS} {f : Nat → Int64} {i : Int32} {H : Heap} {locs : List Loc} {cells slots : Nat} {ls : Array Slot} (hi : lwi i L) (hR : R9 σ τ)
    (hP : va_P (dC, dI) clsT ((lo cJ o f ++ wC cI cZ a σ) ++ wM cI cZ a2 τ) H) (hD : va_D (fun q => s.heap.size ≤ q) ((lo cJ o f ++ wC cI cZ a σ) ++ wM cI cZ a2 τ)) (hS : va_S (fun q => s.heap.size ≤ q) s.heap H locs) (hl : lv_has ls 7 [(4, .int i), (0, .ref b), (1, .ref (a 0)), (2, .ref (a2 0)), (3, .ref o)]) (hc : cells + 1 ≤ 1099) (hs : slots + 6 ≤ 44341)
    (kk : ∀ (σ τ : SS) (f : Nat → Int64) (H : Heap) (locs : List Loc) (ls : Array Slot), Q9 σ τ → va_P (dC, dI) clsT ((lo cJ o f ++ wC cI cZ a σ) ++ wM cI cZ a2 τ) H → va_D (fun q => s.heap.size ≤ q) ((lo cJ o f ++ wC cI cZ a σ) ++ wM cI cZ a2 τ) → va_S (fun q => s.heap.size ≤ q) s.heap H locs → lv_has ls 7 [(4, .int i), (0, .ref b), (1, .ref (a 0)), (2, .ref (a2 0)), (3, .ref o)] → W p l e room_1 s m #[Value.ref b] below meth c H locs (cells + 1) (slots + 6) Q (F0 m 871 ls [])) : W p l e room_1 s m #[Value.ref b] below meth c H locs cells slots Q (F0 m 628 ls []) := by
  obtain ⟨hx, hb, hr, hlocks, hml, hown, hts, hX, hbl, hO, hE, hK, hst, hN⟩ := hC
  have hbA : ¬ (fun q => s.heap.size ≤ q) b := by show ¬ s.heap.size ≤ b; omega
  have hA : ∀ q, s.heap.size ≤ q → (fun q => s.heap.size ≤ q) q := fun _ h => h
  have hK2 : va_K (dC, dI) clsT (tyT cI cZ) s := hK.sub [0, 1] rfl
  refine lv_aload_n hx hb d_W_628 rfl (lv_at hl 2 rfl) ?_
  refine lv_aload_n hx hb d_W_629 rfl (lv_at hl 1 rfl) ?_
  refine lv_iload hx hb d_W_630 (lv_at hl 0 rfl) ?_
  refine lv_iconst (v := 1) hx hb d_W_632 (by decide) ?_
  refine lv_iadd hx hb d_W_633 ?_
  refine va_sld hx hb hX hbl hbA hS hi.2.1 d_W_634 ?_
  refine lv_aload_n hx hb d_W_635 rfl (lv_at hl 1 rfl) ?_
  refine lv_iload hx hb d_W_636 (lv_at hl 0 rfl) ?_
  refine lv_iconst (v := 2) hx hb d_W_638 (by decide) ?_
  refine lv_iadd hx hb d_W_639 ?_
  refine va_sld hx hb hX hbl hbA hS hi.2.2.1 d_W_640 ?_
  refine lv_aload_n hx hb d_W_641 rfl (lv_at hl 4 rfl) ?_
  refine lw_wrap (P := pp_packet Q9 τ (xs (i + 1).toNatClampNeg) (xs (i + 2).toNatClampNeg)) (lw_runS (n := 4) (As := [.ref (a 0), .int (xs (i + 1).toNatClampNeg), .int (xs (i + 2).toNatClampNeg), .ref o]) (rest := []) ⟨hx, hb, hml, hown, hts⟩ (c_L_packet l hst dC dI cI cZ cJ a o _ σ f (xs (i + 1).toNatClampNeg) (xs (i + 2).toNatClampNeg) (pp_packet Q9 τ (xs (i + 1).toNatClampNeg) (xs (i + 2).toNatClampNeg)) (hsim σ τ (f 0) (xs (i + 1).toNatClampNeg) (xs (i + 2).toNatClampNeg) hR)) (tm 742 rfl) (tm 743 rfl) (tm 546 rfl) (tm 744 rfl) rfl rfl (Nat.le_of_ble_eq_true rfl) (Nat.le_of_ble_eq_true rfl) (by decide +kernel) (lw_pL hK hP hD hS hA hO hE) rfl rfl hl.1 rfl (lv_room (Nat.le_of_ble_eq_true rfl)) d_W_642 ⟨hc, hs⟩) hP hD hS hA (fun k f1 σ1 H locs hw hP hD hS => ?_)
  refine lv_istore (lv' := [(5, .int k), (4, .int i), (0, .ref b), (1, .ref (a 0)), (2, .ref (a2 0)), (3, .ref o)]) hx hb d_W_645 hl (by decide) rfl (fun ls hl => ?_)
  refine lv_aload_n hx hb d_W_647 rfl (lv_at hl 4 rfl) ?_
  refine lv_aload_n hx hb d_W_648 rfl (lv_at hl 2 rfl) ?_
  refine lv_iload hx hb d_W_649 (lv_at hl 1 rfl) ?_
  refine lv_iconst (v := 1) hx hb d_W_651 (by decide) ?_
  refine lv_iadd hx hb d_W_652 ?_
  refine va_sld hx hb hX hbl hbA hS hi.2.1 d_W_653 ?_
  refine lv_aload_n hx hb d_W_654 rfl (lv_at hl 2 rfl) ?_
  refine lv_iload hx hb d_W_655 (lv_at hl 1 rfl) ?_
  refine lv_iconst (v := 2) hx hb d_W_657 (by decide) ?_
  refine lv_iadd hx hb d_W_658 ?_
  refine va_sld hx hb hX hbl hbA hS hi.2.2.1 d_W_659 ?_
  unfold pp_packet at hw
  refine lw_ref (w := wM cI cZ a2) (va_runV (As := [.int (xs (i + 1).toNatClampNeg), .int (xs (i + 2).toNatClampNeg)]) (rest := []) ⟨hx, hb, hml, hown, hts⟩ (c_M_packet l dC dI cI cZ a2 _ τ (xs (i + 1).toNatClampNeg) (xs (i + 2).toNatClampNeg) _ hw) (cwV 2 hts (gi_V (tm 809 rfl) (tm 810 rfl) (tm 811 rfl) (tm 320 rfl) (tm 540 rfl)) rfl rfl rfl (by decide +kernel) ⟨Nat.le_of_ble_eq_true rfl, Nat.le_of_ble_eq_true rfl⟩) (pW_V hK2 (jo_PR hP) (jo_DR hD) (ci := 6) (k := 0) rfl rfl) rfl rfl hl.1 rfl (lv_room (Nat.le_of_ble_eq_true rfl)) d_W_660 ⟨hc, hs⟩) hP hD hS hA (fun r τ1 H locs hw hP hD hS => ?_)
  refine lv_istore (lv' := [(6, .int r), (5, .int k), (4, .int i), (0, .ref b), (1, .ref (a 0)), (2, .ref (a2 0)), (3, .ref o)]) hx hb d_W_663 hl (by decide) rfl (fun ls hl => ?_)
  refine lv_aload_n hx hb d_W_665 rfl (lv_at hl 5 rfl) ?_
  refine cl_r (va_runV (As := []) (rest := []) ⟨hx, hb, hml, hown, hts⟩ (c_M_thrown l dC dI cI cZ a2 _ τ1 _ hw) (cwV 0 hts (gi_V (tm 782 rfl) (tm 783 rfl) (tm 784 rfl) (tm 320 rfl) (tm 531 rfl)) rfl rfl rfl (by decide +kernel) ⟨Nat.le_of_ble_eq_true rfl, Nat.le_of_ble_eq_true rfl⟩) (pW_V hK2 (jo_PR hP) (jo_DR hD) (ci := 6) (k := 0) rfl rfl) rfl rfl hl.1 rfl (lv_room (Nat.le_of_ble_eq_true rfl)) d_W_666 ⟨hc, hs⟩) hP hS hA (fun t H locs hw hP hT => ?_)
  have hS := hT _ hA hS
  obtain ⟨e1, e2, hR⟩ := hw
  refine lv_iload hx hb d_W_669 (lv_at hl 1 rfl) ?_
  refine lv_icmp_eq (tgt := 676) hx hb d_W_671 (by decide) (fun _ => ?_) (fun c9 => absurd e1 c9)
  have fin : W p l e room_1 s m #[Value.ref b] below meth c H locs (cells + 1) (slots + 6) Q (F0 m 693 ls []) := by
    refine lv_goto (tgt := 871) hx hb d_W_693 (by decide) ?_
    exact kk σ1 τ1 f1 H locs ls hR hP hD hS (lv_sub hl [2, 3, 4, 5, 6] rfl)
  refine lv_iload hx hb d_W_676 (lv_at hl 1 rfl) ?_
  refine lv_if_ne (tgt := 693) hx hb d_W_678 (by decide) (fun _ => fin) (fun c9 => ?_)
  refine lv_aload_n hx hb d_W_681 rfl (lv_at hl 6 rfl) ?_
  refine lv_iconst (v := 0) hx hb d_W_682 (by decide) ?_
  refine va_lald hx hb hK hP 0 2 rfl rfl (by rw [vp_in_iff]; decide) d_W_683 ?_
  refine lv_iload hx hb d_W_684 (lv_at hl 0 rfl) ?_
  refine lv_i2l (v := r.toInt64) hx hb d_W_686 rfl ?_
  refine lw_lcmp hx hb (e2 c9) d_W_687 ?_
  exact lv_if_eq (tgt := 693) hx hb d_W_688 (by decide) (fun _ => fin) (fun c9 => absurd rfl c9)
def pp_channel (R9 : SS → SS → Prop) (τ : SS) (x1 : Int32) (x2 : Int32) (k : Int32) (v : Int64) (σ1 : SS) : Prop := wp_M_channel τ x1 x2 (fun r τ1 => wp_M_thrown τ1 (fun t => t = k ∧ (k = 0 → v = r.toInt64) ∧ R9 σ1 τ1))
def so_channel (R9 Q9 : SS → SS → Prop) : Prop := ∀ (σ τ : SS) (v0 : Int64) (x1 : Int32) (x2 : Int32), R9 σ τ → wp_CN_channel σ x1 x2 (fun r => pp_channel Q9 τ x1 x2 0 r.toInt64 σ) (fun E σ1 => (E = "java/lang/IndexOutOfBoundsException" ∧ pp_channel Q9 τ x1 x2 1 v0 σ1))
set_option maxHeartbeats 4000000 in
set_option maxRecDepth 100000 in
theorem lw_c_channel {p : Program} {l : Launch} {e : Env} {s : State} {m : MethodId} {below : List Frame} {meth : Method} {c : Code} {dC : Nat → ClassId} {dI : Nat → Nat → Nat} {cI cZ cJ : ClassId} {b L : Nat} {xs : Nat → Int32} {Q : State → Prop} {R9 Q9 : SS → SS → Prop} (hC : lcx p l s m meth c dC dI cI cZ cJ b L xs) (hsim : so_channel R9 Q9) {a a2 : Nat → Nat} {o : Nat} {σ τ : SS} {f : Nat → Int64} {i : Int32} {H : Heap} {locs : List Loc} {cells slots : Nat} {ls : Array Slot} (hi : lwi i L) (hR : R9 σ τ)
    (hP : va_P (dC, dI) clsT ((lo cJ o f ++ wC cI cZ a σ) ++ wM cI cZ a2 τ) H) (hD : va_D (fun q => s.heap.size ≤ q) ((lo cJ o f ++ wC cI cZ a σ) ++ wM cI cZ a2 τ)) (hS : va_S (fun q => s.heap.size ≤ q) s.heap H locs) (hl : lv_has ls 7 [(4, .int i), (0, .ref b), (1, .ref (a 0)), (2, .ref (a2 0)), (3, .ref o)]) (hc : cells + 1 ≤ 1099) (hs : slots + 6 ≤ 44341)
    (kk : ∀ (σ τ : SS) (f : Nat → Int64) (H : Heap) (locs : List Loc) (ls : Array Slot), Q9 σ τ → va_P (dC, dI) clsT ((lo cJ o f ++ wC cI cZ a σ) ++ wM cI cZ a2 τ) H → va_D (fun q => s.heap.size ≤ q) ((lo cJ o f ++ wC cI cZ a σ) ++ wM cI cZ a2 τ) → va_S (fun q => s.heap.size ≤ q) s.heap H locs → lv_has ls 7 [(4, .int i), (0, .ref b), (1, .ref (a 0)), (2, .ref (a2 0)), (3, .ref o)] → W p l e room_1 s m #[Value.ref b] below meth c H locs (cells + 1) (slots + 6) Q (F0 m 871 ls [])) : W p l e room_1 s m #[Value.ref b] below meth c H locs cells slots Q (F0 m 696 ls []) := by
  obtain ⟨hx, hb, hr, hlocks, hml, hown, hts, hX, hbl, hO, hE, hK, hst, hN⟩ := hC
  have hbA : ¬ (fun q => s.heap.size ≤ q) b := by show ¬ s.heap.size ≤ b; omega
  have hA : ∀ q, s.heap.size ≤ q → (fun q => s.heap.size ≤ q) q := fun _ h => h
  have hK2 : va_K (dC, dI) clsT (tyT cI cZ) s := hK.sub [0, 1] rfl
  refine lv_aload_n hx hb d_W_696 rfl (lv_at hl 2 rfl) ?_
  refine lv_aload_n hx hb d_W_697 rfl (lv_at hl 1 rfl) ?_
  refine lv_iload hx hb d_W_698 (lv_at hl 0 rfl) ?_
  refine lv_iconst (v := 1) hx hb d_W_700 (by decide) ?_
  refine lv_iadd hx hb d_W_701 ?_
  refine va_sld hx hb hX hbl hbA hS hi.2.1 d_W_702 ?_
  refine lv_aload_n hx hb d_W_703 rfl (lv_at hl 1 rfl) ?_
  refine lv_iload hx hb d_W_704 (lv_at hl 0 rfl) ?_
  refine lv_iconst (v := 2) hx hb d_W_706 (by decide) ?_
  refine lv_iadd hx hb d_W_707 ?_
  refine va_sld hx hb hX hbl hbA hS hi.2.2.1 d_W_708 ?_
  refine lv_aload_n hx hb d_W_709 rfl (lv_at hl 4 rfl) ?_
  refine lw_wrap (P := pp_channel Q9 τ (xs (i + 1).toNatClampNeg) (xs (i + 2).toNatClampNeg)) (lw_runS (n := 4) (As := [.ref (a 0), .int (xs (i + 1).toNatClampNeg), .int (xs (i + 2).toNatClampNeg), .ref o]) (rest := []) ⟨hx, hb, hml, hown, hts⟩ (c_L_channel l hst dC dI cI cZ cJ a o _ σ f (xs (i + 1).toNatClampNeg) (xs (i + 2).toNatClampNeg) (pp_channel Q9 τ (xs (i + 1).toNatClampNeg) (xs (i + 2).toNatClampNeg)) (hsim σ τ (f 0) (xs (i + 1).toNatClampNeg) (xs (i + 2).toNatClampNeg) hR)) (tm 763 rfl) (tm 764 rfl) (tm 546 rfl) (tm 765 rfl) rfl rfl (Nat.le_of_ble_eq_true rfl) (Nat.le_of_ble_eq_true rfl) (by decide +kernel) (lw_pL hK hP hD hS hA hO hE) rfl rfl hl.1 rfl (lv_room (Nat.le_of_ble_eq_true rfl)) d_W_710 ⟨hc, hs⟩) hP hD hS hA (fun k f1 σ1 H locs hw hP hD hS => ?_)
  refine lv_istore (lv' := [(5, .int k), (4, .int i), (0, .ref b), (1, .ref (a 0)), (2, .ref (a2 0)), (3, .ref o)]) hx hb d_W_713 hl (by decide) rfl (fun ls hl => ?_)
  refine lv_aload_n hx hb d_W_715 rfl (lv_at hl 4 rfl) ?_
  refine lv_aload_n hx hb d_W_716 rfl (lv_at hl 2 rfl) ?_
  refine lv_iload hx hb d_W_717 (lv_at hl 1 rfl) ?_
  refine lv_iconst (v := 1) hx hb d_W_719 (by decide) ?_
  refine lv_iadd hx hb d_W_720 ?_
  refine va_sld hx hb hX hbl hbA hS hi.2.1 d_W_721 ?_
  refine lv_aload_n hx hb d_W_722 rfl (lv_at hl 2 rfl) ?_
  refine lv_iload hx hb d_W_723 (lv_at hl 1 rfl) ?_
  refine lv_iconst (v := 2) hx hb d_W_725 (by decide) ?_
  refine lv_iadd hx hb d_W_726 ?_
  refine va_sld hx hb hX hbl hbA hS hi.2.2.1 d_W_727 ?_
  unfold pp_channel at hw
  refine lw_ref (w := wM cI cZ a2) (va_runV (As := [.int (xs (i + 1).toNatClampNeg), .int (xs (i + 2).toNatClampNeg)]) (rest := []) ⟨hx, hb, hml, hown, hts⟩ (c_M_channel l dC dI cI cZ a2 _ τ (xs (i + 1).toNatClampNeg) (xs (i + 2).toNatClampNeg) _ hw) (cwV 2 hts (gi_V (tm 812 rfl) (tm 813 rfl) (tm 814 rfl) (tm 320 rfl) (tm 541 rfl)) rfl rfl rfl (by decide +kernel) ⟨Nat.le_of_ble_eq_true rfl, Nat.le_of_ble_eq_true rfl⟩) (pW_V hK2 (jo_PR hP) (jo_DR hD) (ci := 6) (k := 0) rfl rfl) rfl rfl hl.1 rfl (lv_room (Nat.le_of_ble_eq_true rfl)) d_W_728 ⟨hc, hs⟩) hP hD hS hA (fun r τ1 H locs hw hP hD hS => ?_)
  refine lv_istore (lv' := [(6, .int r), (5, .int k), (4, .int i), (0, .ref b), (1, .ref (a 0)), (2, .ref (a2 0)), (3, .ref o)]) hx hb d_W_731 hl (by decide) rfl (fun ls hl => ?_)
  refine lv_aload_n hx hb d_W_733 rfl (lv_at hl 5 rfl) ?_
  refine cl_r (va_runV (As := []) (rest := []) ⟨hx, hb, hml, hown, hts⟩ (c_M_thrown l dC dI cI cZ a2 _ τ1 _ hw) (cwV 0 hts (gi_V (tm 782 rfl) (tm 783 rfl) (tm 784 rfl) (tm 320 rfl) (tm 531 rfl)) rfl rfl rfl (by decide +kernel) ⟨Nat.le_of_ble_eq_true rfl, Nat.le_of_ble_eq_true rfl⟩) (pW_V hK2 (jo_PR hP) (jo_DR hD) (ci := 6) (k := 0) rfl rfl) rfl rfl hl.1 rfl (lv_room (Nat.le_of_ble_eq_true rfl)) d_W_734 ⟨hc, hs⟩) hP hS hA (fun t H locs hw hP hT => ?_)
  have hS := hT _ hA hS
  obtain ⟨e1, e2, hR⟩ := hw
  refine lv_iload hx hb d_W_737 (lv_at hl 1 rfl) ?_
  refine lv_icmp_eq (tgt := 744) hx hb d_W_739 (by decide) (fun _ => ?_) (fun c9 => absurd e1 c9)
  have fin : W p l e room_1 s m #[Value.ref b] below meth c H locs (cells + 1) (slots + 6) Q (F0 m 761 ls []) := by
    refine lv_goto (tgt := 871) hx hb d_W_761 (by decide) ?_
    exact kk σ1 τ1 f1 H locs ls hR hP hD hS (lv_sub hl [2, 3, 4, 5, 6] rfl)
  refine lv_iload hx hb d_W_744 (lv_at hl 1 rfl) ?_
  refine lv_if_ne (tgt := 761) hx hb d_W_746 (by decide) (fun _ => fin) (fun c9 => ?_)
  refine lv_aload_n hx hb d_W_749 rfl (lv_at hl 6 rfl) ?_
  refine lv_iconst (v := 0) hx hb d_W_750 (by decide) ?_
  refine va_lald hx hb hK hP 0 2 rfl rfl (by rw [vp_in_iff]; decide) d_W_751 ?_
  refine lv_iload hx hb d_W_752 (lv_at hl 0 rfl) ?_
  refine lv_i2l (v := r.toInt64) hx hb d_W_754 rfl ?_
  refine lw_lcmp hx hb (e2 c9) d_W_755 ?_
  exact lv_if_eq (tgt := 761) hx hb d_W_756 (by decide) (fun _ => fin) (fun c9 => absurd rfl c9)
def so_ring (R9 Q9 : SS → SS → Prop) : Prop := ∀ (σ τ : SS), R9 σ τ → wp_CN_ring σ (fun r σ1 => wp_M_ring τ (fun t τ1 => r = t ∧ Q9 σ1 τ1))
set_option maxHeartbeats 4000000 in
set_option maxRecDepth 100000 in
theorem lw_c_ring {p : Program} {l : Launch} {e : Env} {s : State} {m : MethodId} {below : List Frame} {meth : Method} {c : Code} {dC : Nat → ClassId} {dI : Nat → Nat → Nat} {cI cZ cJ : ClassId} {b L : Nat} {xs : Nat → Int32} {Q : State → Prop} {R9 Q9 : SS → SS → Prop} (hC : lcx p l s m meth c dC dI cI cZ cJ b L xs) (hsim : so_ring R9 Q9) {a a2 : Nat → Nat} {o : Nat} {σ τ : SS} {f : Nat → Int64} {i : Int32} {H : Heap} {locs : List Loc} {cells slots : Nat} {ls : Array Slot} (hi : lwi i L) (hR : R9 σ τ)
    (hP : va_P (dC, dI) clsT ((lo cJ o f ++ wC cI cZ a σ) ++ wM cI cZ a2 τ) H) (hD : va_D (fun q => s.heap.size ≤ q) ((lo cJ o f ++ wC cI cZ a σ) ++ wM cI cZ a2 τ)) (hS : va_S (fun q => s.heap.size ≤ q) s.heap H locs) (hl : lv_has ls 7 [(4, .int i), (0, .ref b), (1, .ref (a 0)), (2, .ref (a2 0)), (3, .ref o)]) (hc : cells + 1 ≤ 1099) (hs : slots + 6 ≤ 44341)
    (kk : ∀ (σ τ : SS) (f : Nat → Int64) (H : Heap) (locs : List Loc) (ls : Array Slot), Q9 σ τ → va_P (dC, dI) clsT ((lo cJ o f ++ wC cI cZ a σ) ++ wM cI cZ a2 τ) H → va_D (fun q => s.heap.size ≤ q) ((lo cJ o f ++ wC cI cZ a σ) ++ wM cI cZ a2 τ) → va_S (fun q => s.heap.size ≤ q) s.heap H locs → lv_has ls 7 [(4, .int i), (0, .ref b), (1, .ref (a 0)), (2, .ref (a2 0)), (3, .ref o)] → W p l e room_1 s m #[Value.ref b] below meth c H locs (cells + 1) (slots + 6) Q (F0 m 871 ls [])) : W p l e room_1 s m #[Value.ref b] below meth c H locs cells slots Q (F0 m 764 ls []) := by
  obtain ⟨hx, hb, hr, hlocks, hml, hown, hts, hX, hbl, hO, hE, hK, hst, hN⟩ := hC
  have hbA : ¬ (fun q => s.heap.size ≤ q) b := by show ¬ s.heap.size ≤ b; omega
  have hA : ∀ q, s.heap.size ≤ q → (fun q => s.heap.size ≤ q) q := fun _ h => h
  have hK2 : va_K (dC, dI) clsT (tyT cI cZ) s := hK.sub [0, 1] rfl
  have hc : cells ≤ 1099 := by omega
  have hs : slots ≤ 44341 := by omega
  refine lv_aload_n hx hb d_W_764 rfl (lv_at hl 2 rfl) ?_
  refine lw_mid (w := wC cI cZ a) (va_runV (As := []) (rest := []) ⟨hx, hb, hml, hown, hts⟩ (c_CN_ring l dC dI cI cZ a _ σ _ (hsim σ τ hR)) (cwV 0 hts (gi_V (tm 600 rfl) (tm 601 rfl) (tm 602 rfl) (tm 290 rfl) (tm 527 rfl)) rfl rfl rfl (by decide +kernel) ⟨Nat.le_of_ble_eq_true rfl, Nat.le_of_ble_eq_true rfl⟩) (pW_V hK2 (jo_PR (jo_PL hP)) (jo_DR (jo_DL hD)) (ci := 0) (k := 0) rfl rfl) rfl rfl hl.1 rfl (lv_room (Nat.le_of_ble_eq_true rfl)) d_W_765 ⟨hc, hs⟩) hP hD hS hA (fun r σ1 H locs hw hP hD hS => ?_)
  refine lv_aload_n hx hb d_W_768 rfl (lv_at hl 3 rfl) ?_
  refine lw_ref (w := wM cI cZ a2) (va_runV (As := []) (rest := [.int r]) ⟨hx, hb, hml, hown, hts⟩ (c_M_ring l dC dI cI cZ a2 _ τ _ hw) (cwV 0 hts (gi_V (tm 815 rfl) (tm 816 rfl) (tm 817 rfl) (tm 320 rfl) (tm 542 rfl)) rfl rfl rfl (by decide +kernel) ⟨Nat.le_of_ble_eq_true rfl, Nat.le_of_ble_eq_true rfl⟩) (pW_V hK2 (jo_PR hP) (jo_DR hD) (ci := 6) (k := 0) rfl rfl) rfl rfl hl.1 rfl (lv_room (Nat.le_of_ble_eq_true rfl)) d_W_769 ⟨hc, hs⟩) hP hD hS hA (fun t τ1 H locs hw hP hD hS => ?_)
  obtain ⟨e1, hR⟩ := hw
  refine lv_icmp_eq (tgt := 871) hx hb d_W_772 (by decide) (fun _ => ?_) (fun c9 => absurd e1 c9)
  exact W.widen (by omega) (by omega) (kk σ1 τ1 f H locs ls hR hP hD hS hl)
def pp_ringAt (R9 : SS → SS → Prop) (τ : SS) (x1 : Int32) (k : Int32) (v : Int64) (σ1 : SS) : Prop := wp_M_ringAt τ x1 (fun r τ1 => wp_M_thrown τ1 (fun t => t = k ∧ (k = 0 → v = r.toInt64) ∧ R9 σ1 τ1))
def so_ringAt (R9 Q9 : SS → SS → Prop) : Prop := ∀ (σ τ : SS) (v0 : Int64) (x1 : Int32), R9 σ τ → wp_CN_ringAt σ x1 (fun r σ1 => pp_ringAt Q9 τ x1 0 r.toInt64 σ1) (fun E σ1 => (E = "java/lang/IndexOutOfBoundsException" ∧ pp_ringAt Q9 τ x1 1 v0 σ1))
set_option maxHeartbeats 4000000 in
set_option maxRecDepth 100000 in
theorem lw_c_ringAt {p : Program} {l : Launch} {e : Env} {s : State} {m : MethodId} {below : List Frame} {meth : Method} {c : Code} {dC : Nat → ClassId} {dI : Nat → Nat → Nat} {cI cZ cJ : ClassId} {b L : Nat} {xs : Nat → Int32} {Q : State → Prop} {R9 Q9 : SS → SS → Prop} (hC : lcx p l s m meth c dC dI cI cZ cJ b L xs) (hsim : so_ringAt R9 Q9) {a a2 : Nat → Nat} {o : Nat} {σ τ : SS} {f : Nat → Int64} {i : Int32} {H : Heap} {locs : List Loc} {cells slots : Nat} {ls : Array Slot} (hi : lwi i L) (hR : R9 σ τ)
    (hP : va_P (dC, dI) clsT ((lo cJ o f ++ wC cI cZ a σ) ++ wM cI cZ a2 τ) H) (hD : va_D (fun q => s.heap.size ≤ q) ((lo cJ o f ++ wC cI cZ a σ) ++ wM cI cZ a2 τ)) (hS : va_S (fun q => s.heap.size ≤ q) s.heap H locs) (hl : lv_has ls 7 [(4, .int i), (0, .ref b), (1, .ref (a 0)), (2, .ref (a2 0)), (3, .ref o)]) (hc : cells + 1 ≤ 1099) (hs : slots + 6 ≤ 44341)
    (kk : ∀ (σ τ : SS) (f : Nat → Int64) (H : Heap) (locs : List Loc) (ls : Array Slot), Q9 σ τ → va_P (dC, dI) clsT ((lo cJ o f ++ wC cI cZ a σ) ++ wM cI cZ a2 τ) H → va_D (fun q => s.heap.size ≤ q) ((lo cJ o f ++ wC cI cZ a σ) ++ wM cI cZ a2 τ) → va_S (fun q => s.heap.size ≤ q) s.heap H locs → lv_has ls 7 [(4, .int i), (0, .ref b), (1, .ref (a 0)), (2, .ref (a2 0)), (3, .ref o)] → W p l e room_1 s m #[Value.ref b] below meth c H locs (cells + 1) (slots + 6) Q (F0 m 871 ls [])) : W p l e room_1 s m #[Value.ref b] below meth c H locs cells slots Q (F0 m 777 ls []) := by
  obtain ⟨hx, hb, hr, hlocks, hml, hown, hts, hX, hbl, hO, hE, hK, hst, hN⟩ := hC
  have hbA : ¬ (fun q => s.heap.size ≤ q) b := by show ¬ s.heap.size ≤ b; omega
  have hA : ∀ q, s.heap.size ≤ q → (fun q => s.heap.size ≤ q) q := fun _ h => h
  have hK2 : va_K (dC, dI) clsT (tyT cI cZ) s := hK.sub [0, 1] rfl
  refine lv_aload_n hx hb d_W_777 rfl (lv_at hl 2 rfl) ?_
  refine lv_aload_n hx hb d_W_778 rfl (lv_at hl 1 rfl) ?_
  refine lv_iload hx hb d_W_779 (lv_at hl 0 rfl) ?_
  refine lv_iconst (v := 1) hx hb d_W_781 (by decide) ?_
  refine lv_iadd hx hb d_W_782 ?_
  refine va_sld hx hb hX hbl hbA hS hi.2.1 d_W_783 ?_
  refine lv_aload_n hx hb d_W_784 rfl (lv_at hl 4 rfl) ?_
  refine lw_wrap (P := pp_ringAt Q9 τ (xs (i + 1).toNatClampNeg)) (lw_runS (n := 3) (As := [.ref (a 0), .int (xs (i + 1).toNatClampNeg), .ref o]) (rest := []) ⟨hx, hb, hml, hown, hts⟩ (c_L_ringAt l hst dC dI cI cZ cJ a o _ σ f (xs (i + 1).toNatClampNeg) (pp_ringAt Q9 τ (xs (i + 1).toNatClampNeg)) (hsim σ τ (f 0) (xs (i + 1).toNatClampNeg) hR)) (tm 769 rfl) (tm 770 rfl) (tm 546 rfl) (tm 771 rfl) rfl rfl (Nat.le_of_ble_eq_true rfl) (Nat.le_of_ble_eq_true rfl) (by decide +kernel) (lw_pL hK hP hD hS hA hO hE) rfl rfl hl.1 rfl (lv_room (Nat.le_of_ble_eq_true rfl)) d_W_785 ⟨hc, hs⟩) hP hD hS hA (fun k f1 σ1 H locs hw hP hD hS => ?_)
  refine lv_istore (lv' := [(5, .int k), (4, .int i), (0, .ref b), (1, .ref (a 0)), (2, .ref (a2 0)), (3, .ref o)]) hx hb d_W_788 hl (by decide) rfl (fun ls hl => ?_)
  refine lv_aload_n hx hb d_W_790 rfl (lv_at hl 4 rfl) ?_
  refine lv_aload_n hx hb d_W_791 rfl (lv_at hl 2 rfl) ?_
  refine lv_iload hx hb d_W_792 (lv_at hl 1 rfl) ?_
  refine lv_iconst (v := 1) hx hb d_W_794 (by decide) ?_
  refine lv_iadd hx hb d_W_795 ?_
  refine va_sld hx hb hX hbl hbA hS hi.2.1 d_W_796 ?_
  unfold pp_ringAt at hw
  refine lw_ref (w := wM cI cZ a2) (va_runV (As := [.int (xs (i + 1).toNatClampNeg)]) (rest := []) ⟨hx, hb, hml, hown, hts⟩ (c_M_ringAt l dC dI cI cZ a2 _ τ (xs (i + 1).toNatClampNeg) _ hw) (cwV 1 hts (gi_V (tm 818 rfl) (tm 819 rfl) (tm 820 rfl) (tm 320 rfl) (tm 543 rfl)) rfl rfl rfl (by decide +kernel) ⟨Nat.le_of_ble_eq_true rfl, Nat.le_of_ble_eq_true rfl⟩) (pW_V hK2 (jo_PR hP) (jo_DR hD) (ci := 6) (k := 0) rfl rfl) rfl rfl hl.1 rfl (lv_room (Nat.le_of_ble_eq_true rfl)) d_W_797 ⟨hc, hs⟩) hP hD hS hA (fun r τ1 H locs hw hP hD hS => ?_)
  refine lv_istore (lv' := [(6, .int r), (5, .int k), (4, .int i), (0, .ref b), (1, .ref (a 0)), (2, .ref (a2 0)), (3, .ref o)]) hx hb d_W_800 hl (by decide) rfl (fun ls hl => ?_)
  refine lv_aload_n hx hb d_W_802 rfl (lv_at hl 5 rfl) ?_
  refine cl_r (va_runV (As := []) (rest := []) ⟨hx, hb, hml, hown, hts⟩ (c_M_thrown l dC dI cI cZ a2 _ τ1 _ hw) (cwV 0 hts (gi_V (tm 782 rfl) (tm 783 rfl) (tm 784 rfl) (tm 320 rfl) (tm 531 rfl)) rfl rfl rfl (by decide +kernel) ⟨Nat.le_of_ble_eq_true rfl, Nat.le_of_ble_eq_true rfl⟩) (pW_V hK2 (jo_PR hP) (jo_DR hD) (ci := 6) (k := 0) rfl rfl) rfl rfl hl.1 rfl (lv_room (Nat.le_of_ble_eq_true rfl)) d_W_803 ⟨hc, hs⟩) hP hS hA (fun t H locs hw hP hT => ?_)
  have hS := hT _ hA hS
  obtain ⟨e1, e2, hR⟩ := hw
  refine lv_iload hx hb d_W_806 (lv_at hl 1 rfl) ?_
  refine lv_icmp_eq (tgt := 813) hx hb d_W_808 (by decide) (fun _ => ?_) (fun c9 => absurd e1 c9)
  have fin : W p l e room_1 s m #[Value.ref b] below meth c H locs (cells + 1) (slots + 6) Q (F0 m 830 ls []) := by
    refine lv_goto (tgt := 871) hx hb d_W_830 (by decide) ?_
    exact kk σ1 τ1 f1 H locs ls hR hP hD hS (lv_sub hl [2, 3, 4, 5, 6] rfl)
  refine lv_iload hx hb d_W_813 (lv_at hl 1 rfl) ?_
  refine lv_if_ne (tgt := 830) hx hb d_W_815 (by decide) (fun _ => fin) (fun c9 => ?_)
  refine lv_aload_n hx hb d_W_818 rfl (lv_at hl 6 rfl) ?_
  refine lv_iconst (v := 0) hx hb d_W_819 (by decide) ?_
  refine va_lald hx hb hK hP 0 2 rfl rfl (by rw [vp_in_iff]; decide) d_W_820 ?_
  refine lv_iload hx hb d_W_821 (lv_at hl 0 rfl) ?_
  refine lv_i2l (v := r.toInt64) hx hb d_W_823 rfl ?_
  refine lw_lcmp hx hb (e2 c9) d_W_824 ?_
  exact lv_if_eq (tgt := 830) hx hb d_W_825 (by decide) (fun _ => fin) (fun c9 => absurd rfl c9)
def so_stuck (R9 Q9 : SS → SS → Prop) : Prop := ∀ (σ τ : SS), R9 σ τ → wp_CN_stuck σ (fun r => wp_M_stuck τ (fun t τ1 => r = t ∧ Q9 σ τ1))
set_option maxHeartbeats 4000000 in
set_option maxRecDepth 100000 in
theorem lw_c_stuck {p : Program} {l : Launch} {e : Env} {s : State} {m : MethodId} {below : List Frame} {meth : Method} {c : Code} {dC : Nat → ClassId} {dI : Nat → Nat → Nat} {cI cZ cJ : ClassId} {b L : Nat} {xs : Nat → Int32} {Q : State → Prop} {R9 Q9 : SS → SS → Prop} (hC : lcx p l s m meth c dC dI cI cZ cJ b L xs) (hsim : so_stuck R9 Q9) {a a2 : Nat → Nat} {o : Nat} {σ τ : SS} {f : Nat → Int64} {i : Int32} {H : Heap} {locs : List Loc} {cells slots : Nat} {ls : Array Slot} (hi : lwi i L) (hR : R9 σ τ)
    (hP : va_P (dC, dI) clsT ((lo cJ o f ++ wC cI cZ a σ) ++ wM cI cZ a2 τ) H) (hD : va_D (fun q => s.heap.size ≤ q) ((lo cJ o f ++ wC cI cZ a σ) ++ wM cI cZ a2 τ)) (hS : va_S (fun q => s.heap.size ≤ q) s.heap H locs) (hl : lv_has ls 7 [(4, .int i), (0, .ref b), (1, .ref (a 0)), (2, .ref (a2 0)), (3, .ref o)]) (hc : cells + 1 ≤ 1099) (hs : slots + 6 ≤ 44341)
    (kk : ∀ (σ τ : SS) (f : Nat → Int64) (H : Heap) (locs : List Loc) (ls : Array Slot), Q9 σ τ → va_P (dC, dI) clsT ((lo cJ o f ++ wC cI cZ a σ) ++ wM cI cZ a2 τ) H → va_D (fun q => s.heap.size ≤ q) ((lo cJ o f ++ wC cI cZ a σ) ++ wM cI cZ a2 τ) → va_S (fun q => s.heap.size ≤ q) s.heap H locs → lv_has ls 7 [(4, .int i), (0, .ref b), (1, .ref (a 0)), (2, .ref (a2 0)), (3, .ref o)] → W p l e room_1 s m #[Value.ref b] below meth c H locs (cells + 1) (slots + 6) Q (F0 m 871 ls [])) : W p l e room_1 s m #[Value.ref b] below meth c H locs cells slots Q (F0 m 833 ls []) := by
  obtain ⟨hx, hb, hr, hlocks, hml, hown, hts, hX, hbl, hO, hE, hK, hst, hN⟩ := hC
  have hbA : ¬ (fun q => s.heap.size ≤ q) b := by show ¬ s.heap.size ≤ b; omega
  have hA : ∀ q, s.heap.size ≤ q → (fun q => s.heap.size ≤ q) q := fun _ h => h
  have hK2 : va_K (dC, dI) clsT (tyT cI cZ) s := hK.sub [0, 1] rfl
  have hc : cells ≤ 1099 := by omega
  have hs : slots ≤ 44341 := by omega
  refine lv_aload_n hx hb d_W_833 rfl (lv_at hl 2 rfl) ?_
  refine cl_r (va_runV (As := []) (rest := []) ⟨hx, hb, hml, hown, hts⟩ (c_CN_stuck l dC dI cI cZ a _ σ _ (hsim σ τ hR)) (cwV 0 hts (gi_V (tm 603 rfl) (tm 604 rfl) (tm 605 rfl) (tm 290 rfl) (tm 529 rfl)) rfl rfl rfl (by decide +kernel) ⟨Nat.le_of_ble_eq_true rfl, Nat.le_of_ble_eq_true rfl⟩) (pW_V hK2 (jo_PR (jo_PL hP)) (jo_DR (jo_DL hD)) (ci := 0) (k := 0) rfl rfl) rfl rfl hl.1 rfl (lv_room (Nat.le_of_ble_eq_true rfl)) d_W_834 ⟨hc, hs⟩) hP hS hA (fun r H locs hw hP hT => ?_)
  have hS := hT _ hA hS
  refine lv_aload_n hx hb d_W_837 rfl (lv_at hl 3 rfl) ?_
  refine lw_ref (w := wM cI cZ a2) (va_runV (As := []) (rest := [.int r]) ⟨hx, hb, hml, hown, hts⟩ (c_M_stuck l dC dI cI cZ a2 _ τ _ hw) (cwV 0 hts (gi_V (tm 821 rfl) (tm 822 rfl) (tm 823 rfl) (tm 320 rfl) (tm 544 rfl)) rfl rfl rfl (by decide +kernel) ⟨Nat.le_of_ble_eq_true rfl, Nat.le_of_ble_eq_true rfl⟩) (pW_V hK2 (jo_PR hP) (jo_DR hD) (ci := 6) (k := 0) rfl rfl) rfl rfl hl.1 rfl (lv_room (Nat.le_of_ble_eq_true rfl)) d_W_838 ⟨hc, hs⟩) hP hD hS hA (fun t τ1 H locs hw hP hD hS => ?_)
  obtain ⟨e1, hR⟩ := hw
  refine lv_icmp_eq (tgt := 871) hx hb d_W_841 (by decide) (fun _ => ?_) (fun c9 => absurd e1 c9)
  exact W.widen (by omega) (by omega) (kk σ τ1 f H locs ls hR hP hD hS hl)
def so_count (R9 Q9 : SS → SS → Prop) : Prop := ∀ (σ τ : SS) (x1 : Int32), R9 σ τ → wp_CN_count σ x1 (fun r => wp_M_count τ x1 (fun t τ1 => r = t ∧ Q9 σ τ1))
set_option maxHeartbeats 4000000 in
set_option maxRecDepth 100000 in
theorem lw_c_count {p : Program} {l : Launch} {e : Env} {s : State} {m : MethodId} {below : List Frame} {meth : Method} {c : Code} {dC : Nat → ClassId} {dI : Nat → Nat → Nat} {cI cZ cJ : ClassId} {b L : Nat} {xs : Nat → Int32} {Q : State → Prop} {R9 Q9 : SS → SS → Prop} (hC : lcx p l s m meth c dC dI cI cZ cJ b L xs) (hsim : so_count R9 Q9) {a a2 : Nat → Nat} {o : Nat} {σ τ : SS} {f : Nat → Int64} {i : Int32} {H : Heap} {locs : List Loc} {cells slots : Nat} {ls : Array Slot} (hi : lwi i L) (hR : R9 σ τ)
    (hP : va_P (dC, dI) clsT ((lo cJ o f ++ wC cI cZ a σ) ++ wM cI cZ a2 τ) H) (hD : va_D (fun q => s.heap.size ≤ q) ((lo cJ o f ++ wC cI cZ a σ) ++ wM cI cZ a2 τ)) (hS : va_S (fun q => s.heap.size ≤ q) s.heap H locs) (hl : lv_has ls 7 [(4, .int i), (0, .ref b), (1, .ref (a 0)), (2, .ref (a2 0)), (3, .ref o)]) (hc : cells + 1 ≤ 1099) (hs : slots + 6 ≤ 44341)
    (kk : ∀ (σ τ : SS) (f : Nat → Int64) (H : Heap) (locs : List Loc) (ls : Array Slot), Q9 σ τ → va_P (dC, dI) clsT ((lo cJ o f ++ wC cI cZ a σ) ++ wM cI cZ a2 τ) H → va_D (fun q => s.heap.size ≤ q) ((lo cJ o f ++ wC cI cZ a σ) ++ wM cI cZ a2 τ) → va_S (fun q => s.heap.size ≤ q) s.heap H locs → lv_has ls 7 [(4, .int i), (0, .ref b), (1, .ref (a 0)), (2, .ref (a2 0)), (3, .ref o)] → W p l e room_1 s m #[Value.ref b] below meth c H locs (cells + 1) (slots + 6) Q (F0 m 871 ls [])) : W p l e room_1 s m #[Value.ref b] below meth c H locs cells slots Q (F0 m 846 ls []) := by
  obtain ⟨hx, hb, hr, hlocks, hml, hown, hts, hX, hbl, hO, hE, hK, hst, hN⟩ := hC
  have hbA : ¬ (fun q => s.heap.size ≤ q) b := by show ¬ s.heap.size ≤ b; omega
  have hA : ∀ q, s.heap.size ≤ q → (fun q => s.heap.size ≤ q) q := fun _ h => h
  have hK2 : va_K (dC, dI) clsT (tyT cI cZ) s := hK.sub [0, 1] rfl
  have hc : cells ≤ 1099 := by omega
  have hs : slots ≤ 44341 := by omega
  refine lv_aload_n hx hb d_W_846 rfl (lv_at hl 2 rfl) ?_
  refine lv_aload_n hx hb d_W_847 rfl (lv_at hl 1 rfl) ?_
  refine lv_iload hx hb d_W_848 (lv_at hl 0 rfl) ?_
  refine lv_iconst (v := 1) hx hb d_W_850 (by decide) ?_
  refine lv_iadd hx hb d_W_851 ?_
  refine va_sld hx hb hX hbl hbA hS hi.2.1 d_W_852 ?_
  refine cl_r (va_runV (As := [.int (xs (i + 1).toNatClampNeg)]) (rest := []) ⟨hx, hb, hml, hown, hts⟩ (c_CN_count l dC dI cI cZ a _ σ (xs (i + 1).toNatClampNeg) _ (hsim σ τ (xs (i + 1).toNatClampNeg) hR)) (cwV 1 hts (gi_V (tm 606 rfl) (tm 607 rfl) (tm 608 rfl) (tm 290 rfl) (tm 530 rfl)) rfl rfl rfl (by decide +kernel) ⟨Nat.le_of_ble_eq_true rfl, Nat.le_of_ble_eq_true rfl⟩) (pW_V hK2 (jo_PR (jo_PL hP)) (jo_DR (jo_DL hD)) (ci := 0) (k := 0) rfl rfl) rfl rfl hl.1 rfl (lv_room (Nat.le_of_ble_eq_true rfl)) d_W_853 ⟨hc, hs⟩) hP hS hA (fun r H locs hw hP hT => ?_)
  have hS := hT _ hA hS
  refine lv_aload_n hx hb d_W_856 rfl (lv_at hl 3 rfl) ?_
  refine lv_aload_n hx hb d_W_857 rfl (lv_at hl 1 rfl) ?_
  refine lv_iload hx hb d_W_858 (lv_at hl 0 rfl) ?_
  refine lv_iconst (v := 1) hx hb d_W_860 (by decide) ?_
  refine lv_iadd hx hb d_W_861 ?_
  refine va_sld hx hb hX hbl hbA hS hi.2.1 d_W_862 ?_
  refine lw_ref (w := wM cI cZ a2) (va_runV (As := [.int (xs (i + 1).toNatClampNeg)]) (rest := [.int r]) ⟨hx, hb, hml, hown, hts⟩ (c_M_count l dC dI cI cZ a2 _ τ (xs (i + 1).toNatClampNeg) _ hw) (cwV 1 hts (gi_V (tm 824 rfl) (tm 825 rfl) (tm 826 rfl) (tm 320 rfl) (tm 545 rfl)) rfl rfl rfl (by decide +kernel) ⟨Nat.le_of_ble_eq_true rfl, Nat.le_of_ble_eq_true rfl⟩) (pW_V hK2 (jo_PR hP) (jo_DR hD) (ci := 6) (k := 0) rfl rfl) rfl rfl hl.1 rfl (lv_room (Nat.le_of_ble_eq_true rfl)) d_W_863 ⟨hc, hs⟩) hP hD hS hA (fun t τ1 H locs hw hP hD hS => ?_)
  obtain ⟨e1, hR⟩ := hw
  refine lv_icmp_eq (tgt := 871) hx hb d_W_866 (by decide) (fun _ => ?_) (fun c9 => absurd e1 c9)
  exact W.widen (by omega) (by omega) (kk σ τ1 f H locs ls hR hP hD hS hl)
