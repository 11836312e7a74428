def R9 (n : Nat) (σ τ : SS) : Prop := ∃ A B : AA, σ = zS A ∧ τ = zS B ∧ RR n A B
theorem up_node {n : Nat} (hn : n < 512) : so_node (R9 n) (R9 (n + 1)) := by
  rintro σ τ v0 ⟨A, B, rfl, rfl, h⟩
  have q := op_node h
  refine zw_CN_node rfl (fun r S hS => ?_) (fun E S hS => ?_) q
  · refine zw_M_node rfl (fun t T hT => ?_) hS
    obtain ⟨t0, e, hR⟩ := hT
    refine zw_M_thrown rfl (pz := fun v => v = T 0 0) (fun v hv => ?_) rfl
    subst hv; rw [t0]
    exact ⟨rfl, fun _ => by rw [e], S, T, rfl, rfl, hR⟩
  · obtain ⟨rfl, hS⟩ := hS
    refine ⟨rfl, ?_⟩
    refine zw_M_node rfl (fun t T hT => ?_) hS
    obtain ⟨t0, hR⟩ := hT
    refine zw_M_thrown rfl (pz := fun v => v = T 0 0) (fun v hv => ?_) rfl
    subst hv; rw [t0]
    exact ⟨rfl, fun z => absurd z (by decide), S, T, rfl, rfl, hR⟩
theorem up_link {n : Nat} (hn : n < 512) : so_link (R9 n) (R9 (n + 1)) := by
  rintro σ τ v0 x1 x2 x3 ⟨A, B, rfl, rfl, h⟩
  obtain ⟨z1, a1, b1, rfl⟩ := zI_ex x1
  obtain ⟨z2, a2, b2, rfl⟩ := zI_ex x2
  obtain ⟨z3, a3, b3, rfl⟩ := zI_ex x3
  have q := op_link h (show rg z1 from ⟨a1, b1⟩) (show rg z2 from ⟨a2, b2⟩) (show rg z3 from ⟨a3, b3⟩)
  refine zw_CN_link rfl rfl rfl rfl (fun r S hS => ?_) (fun E S hS => ?_) q
  · refine zw_M_link rfl rfl rfl rfl (fun t T hT => ?_) hS
    obtain ⟨t0, e, hR⟩ := hT
    refine zw_M_thrown rfl (pz := fun v => v = T 0 0) (fun v hv => ?_) rfl
    subst hv; rw [t0]
    exact ⟨rfl, fun _ => by rw [e], S, T, rfl, rfl, hR⟩
  · rcases hS with ⟨rfl, hS⟩ | ⟨rfl, hS⟩
    · refine .inl ⟨rfl, ?_⟩
      refine zw_M_link rfl rfl rfl rfl (fun t T hT => ?_) hS
      obtain ⟨t0, hR⟩ := hT
      refine zw_M_thrown rfl (pz := fun v => v = T 0 0) (fun v hv => ?_) rfl
      subst hv; rw [t0]
      exact ⟨rfl, fun z => absurd z (by decide), S, T, rfl, rfl, hR⟩
    · refine .inr ⟨rfl, ?_⟩
      refine zw_M_link rfl rfl rfl rfl (fun t T hT => ?_) hS
      obtain ⟨t0, hR⟩ := hT
      refine zw_M_thrown rfl (pz := fun v => v = T 0 0) (fun v hv => ?_) rfl
      subst hv; rw [t0]
      exact ⟨rfl, fun z => absurd z (by decide), S, T, rfl, rfl, hR⟩
theorem up_route {n : Nat} (hn : n < 512) : so_route (R9 n) (R9 (n + 1)) := by
  rintro σ τ v0 x1 x2 x3 ⟨A, B, rfl, rfl, h⟩
  obtain ⟨z1, a1, b1, rfl⟩ := zI_ex x1
  obtain ⟨z2, a2, b2, rfl⟩ := zI_ex x2
  obtain ⟨z3, a3, b3, rfl⟩ := zI_ex x3
  have q := op_route h (show rg z1 from ⟨a1, b1⟩) (show rg z2 from ⟨a2, b2⟩) (show rg z3 from ⟨a3, b3⟩)
  refine zw_CN_route rfl rfl rfl rfl (fun r S hS => ?_) (fun E S hS => ?_) q
  · refine zw_M_route rfl rfl rfl rfl (fun t T hT => ?_) hS
    obtain ⟨t0, e, hR⟩ := hT
    refine zw_M_thrown rfl (pz := fun v => v = T 0 0) (fun v hv => ?_) rfl
    subst hv; rw [t0]
    exact ⟨rfl, fun _ => by rw [e], S, T, rfl, rfl, hR⟩
  · obtain ⟨rfl, hS⟩ := hS
    refine ⟨rfl, ?_⟩
    refine zw_M_route rfl rfl rfl rfl (fun t T hT => ?_) hS
    obtain ⟨t0, hR⟩ := hT
    refine zw_M_thrown rfl (pz := fun v => v = T 0 0) (fun v hv => ?_) rfl
    subst hv; rw [t0]
    exact ⟨rfl, fun z => absurd z (by decide), S, T, rfl, rfl, hR⟩
theorem up_routes {n : Nat} (hn : n < 512) : so_routes (R9 n) (R9 (n + 1)) := by
  rintro σ τ v0 x1 ⟨A, B, rfl, rfl, h⟩
  obtain ⟨z1, a1, b1, rfl⟩ := zI_ex x1
  have q := op_routes h (show rg z1 from ⟨a1, b1⟩)
  refine zw_CN_routes rfl rfl (fun r S hS => ?_) (fun E S hS => ?_) q
  · refine zw_M_routes rfl rfl (fun t T hT => ?_) hS
    obtain ⟨t0, e, hR⟩ := hT
    refine zw_M_thrown rfl (pz := fun v => v = T 0 0) (fun v hv => ?_) rfl
    subst hv; rw [t0]
    exact ⟨rfl, fun _ => by rw [e], S, T, rfl, rfl, hR⟩
  · obtain ⟨rfl, hS⟩ := hS
    refine ⟨rfl, ?_⟩
    refine zw_M_routes rfl rfl (fun t T hT => ?_) hS
    obtain ⟨t0, hR⟩ := hT
    refine zw_M_thrown rfl (pz := fun v => v = T 0 0) (fun v hv => ?_) rfl
    subst hv; rw [t0]
    exact ⟨rfl, fun z => absurd z (by decide), S, T, rfl, rfl, hR⟩
theorem up_fail {n : Nat} (hn : n < 512) : so_fail (R9 n) (R9 (n + 1)) := by
  rintro σ τ v0 x1 ⟨A, B, rfl, rfl, h⟩
  obtain ⟨z1, a1, b1, rfl⟩ := zI_ex x1
  have q := op_fail h (show rg z1 from ⟨a1, b1⟩)
  refine zw_CN_fail rfl rfl (fun r S hS => ?_) (fun E S hS => ?_) q
  · refine zw_M_fail rfl rfl (fun t T hT => ?_) hS
    obtain ⟨t0, e, hR⟩ := hT
    refine zw_M_thrown rfl (pz := fun v => v = T 0 0) (fun v hv => ?_) rfl
    subst hv; rw [t0]
    exact ⟨rfl, fun _ => by rw [e], S, T, rfl, rfl, hR⟩
  · obtain ⟨rfl, hS⟩ := hS
    refine ⟨rfl, ?_⟩
    refine zw_M_fail rfl rfl (fun t T hT => ?_) hS
    obtain ⟨t0, hR⟩ := hT
    refine zw_M_thrown rfl (pz := fun v => v = T 0 0) (fun v hv => ?_) rfl
    subst hv; rw [t0]
    exact ⟨rfl, fun z => absurd z (by decide), S, T, rfl, rfl, hR⟩
theorem up_send {n : Nat} (hn : n < 512) : so_send (R9 n) (R9 (n + 1)) := by
  rintro σ τ v0 x1 x2 x3 ⟨A, B, rfl, rfl, h⟩
  obtain ⟨z1, a1, b1, rfl⟩ := zI_ex x1
  obtain ⟨z2, a2, b2, rfl⟩ := zI_ex x2
  obtain ⟨z3, a3, b3, rfl⟩ := zI_ex x3
  have q := op_send h (show rg z1 from ⟨a1, b1⟩) (show rg z2 from ⟨a2, b2⟩) (show rg z3 from ⟨a3, b3⟩)
  refine zw_CN_send rfl rfl rfl rfl (fun r S hS => ?_) (fun E S hS => ?_) q
  · refine zw_M_send rfl rfl rfl rfl (fun t T hT => ?_) hS
    obtain ⟨t0, e, hR⟩ := hT
    refine zw_M_thrown rfl (pz := fun v => v = T 0 0) (fun v hv => ?_) rfl
    subst hv; rw [t0]
    exact ⟨rfl, fun _ => by rw [e], S, T, rfl, rfl, hR⟩
  · rcases hS with ⟨rfl, hS⟩ | ⟨rfl, hS⟩
    · refine .inl ⟨rfl, ?_⟩
      refine zw_M_send rfl rfl rfl rfl (fun t T hT => ?_) hS
      obtain ⟨t0, hR⟩ := hT
      refine zw_M_thrown rfl (pz := fun v => v = T 0 0) (fun v hv => ?_) rfl
      subst hv; rw [t0]
      exact ⟨rfl, fun z => absurd z (by decide), S, T, rfl, rfl, hR⟩
    · refine .inr ⟨rfl, ?_⟩
      refine zw_M_send rfl rfl rfl rfl (fun t T hT => ?_) hS
      obtain ⟨t0, hR⟩ := hT
      refine zw_M_thrown rfl (pz := fun v => v = T 0 0) (fun v hv => ?_) rfl
      subst hv; rw [t0]
      exact ⟨rfl, fun z => absurd z (by decide), S, T, rfl, rfl, hR⟩
theorem up_load {n : Nat} (hn : n < 512) : so_load (R9 n) (R9 (n + 1)) := by
  rintro σ τ v0 x1 ⟨A, B, rfl, rfl, h⟩
  obtain ⟨z1, a1, b1, rfl⟩ := zI_ex x1
  have q := op_load h (show rg z1 from ⟨a1, b1⟩)
  refine zw_CN_load rfl rfl (fun r S hS => ?_) (fun E S hS => ?_) q
  · refine zw_M_load rfl rfl (fun t T hT => ?_) hS
    obtain ⟨t0, e, hR⟩ := hT
    refine zw_M_thrown rfl (pz := fun v => v = T 0 0) (fun v hv => ?_) rfl
    subst hv; rw [t0]
    exact ⟨rfl, fun _ => by rw [e], S, T, rfl, rfl, hR⟩
  · rcases hS with ⟨rfl, hS⟩ | ⟨rfl, hS⟩ | ⟨rfl, hS⟩
    · refine .inl ⟨rfl, ?_⟩
      refine zw_M_load rfl rfl (fun t T hT => ?_) hS
      obtain ⟨t0, hR⟩ := hT
      refine zw_M_thrown rfl (pz := fun v => v = T 0 0) (fun v hv => ?_) rfl
      subst hv; rw [t0]
      exact ⟨rfl, fun z => absurd z (by decide), S, T, rfl, rfl, hR⟩
    · refine .inr (.inl ⟨rfl, ?_⟩)
      refine zw_M_load rfl rfl (fun t T hT => ?_) hS
      obtain ⟨t0, hR⟩ := hT
      refine zw_M_thrown rfl (pz := fun v => v = T 0 0) (fun v hv => ?_) rfl
      subst hv; rw [t0]
      exact ⟨rfl, fun z => absurd z (by decide), S, T, rfl, rfl, hR⟩
    · refine .inr (.inr ⟨rfl, ?_⟩)
      refine zw_M_load rfl rfl (fun t T hT => ?_) hS
      obtain ⟨t0, hR⟩ := hT
      refine zw_M_thrown rfl (pz := fun v => v = T 0 0) (fun v hv => ?_) rfl
      subst hv; rw [t0]
      exact ⟨rfl, fun z => absurd z (by decide), S, T, rfl, rfl, hR⟩
theorem up_run {n : Nat} (hn : n < 512) : so_run (R9 n) (R9 (n + 1)) := by
  rintro σ τ v0 x1 ⟨A, B, rfl, rfl, h⟩
  obtain ⟨z1, a1, b1, rfl⟩ := zI_ex x1
  have q := op_run hn h (show rg z1 from ⟨a1, b1⟩)
  refine zw_CN_run rfl rfl (fun r S hS => ?_) (fun E S hS => ?_) q
  · refine zw_M_run rfl rfl (fun t T hT => ?_) hS
    obtain ⟨t0, e, hR⟩ := hT
    refine zw_M_thrown rfl (pz := fun v => v = T 0 0) (fun v hv => ?_) rfl
    subst hv; rw [t0]
    exact ⟨rfl, fun _ => by rw [e], S, T, rfl, rfl, hR⟩
  · obtain ⟨rfl, hS⟩ := hS
    refine ⟨rfl, ?_⟩
    refine zw_M_run rfl rfl (fun t T hT => ?_) hS
    obtain ⟨t0, hR⟩ := hT
    refine zw_M_thrown rfl (pz := fun v => v = T 0 0) (fun v hv => ?_) rfl
    subst hv; rw [t0]
    exact ⟨rfl, fun z => absurd z (by decide), S, T, rfl, rfl, hR⟩
theorem up_packet {n : Nat} (hn : n < 512) : so_packet (R9 n) (R9 (n + 1)) := by
  rintro σ τ v0 x1 x2 ⟨A, B, rfl, rfl, h⟩
  obtain ⟨z1, a1, b1, rfl⟩ := zI_ex x1
  obtain ⟨z2, a2, b2, rfl⟩ := zI_ex x2
  have q := op_packet h (show rg z1 from ⟨a1, b1⟩) (show rg z2 from ⟨a2, b2⟩)
  refine zw_CN_packet rfl rfl rfl (fun r hS => ?_) (fun E S hS => ?_) q
  · refine zw_M_packet rfl rfl rfl (fun t T hT => ?_) hS
    obtain ⟨t0, e, hR⟩ := hT
    refine zw_M_thrown rfl (pz := fun v => v = T 0 0) (fun v hv => ?_) rfl
    subst hv; rw [t0]
    exact ⟨rfl, fun _ => by rw [e], A, T, rfl, rfl, hR⟩
  · obtain ⟨rfl, hS⟩ := hS
    refine ⟨rfl, ?_⟩
    refine zw_M_packet rfl rfl rfl (fun t T hT => ?_) hS
    obtain ⟨t0, hR⟩ := hT
    refine zw_M_thrown rfl (pz := fun v => v = T 0 0) (fun v hv => ?_) rfl
    subst hv; rw [t0]
    exact ⟨rfl, fun z => absurd z (by decide), S, T, rfl, rfl, hR⟩
theorem up_channel {n : Nat} (hn : n < 512) : so_channel (R9 n) (R9 (n + 1)) := by
  rintro σ τ v0 x1 x2 ⟨A, B, rfl, rfl, h⟩
  obtain ⟨z1, a1, b1, rfl⟩ := zI_ex x1
  obtain ⟨z2, a2, b2, rfl⟩ := zI_ex x2
  have q := op_channel h (show rg z1 from ⟨a1, b1⟩) (show rg z2 from ⟨a2, b2⟩)
  refine zw_CN_channel rfl rfl rfl (fun r hS => ?_) (fun E S hS => ?_) q
  · refine zw_M_channel rfl rfl rfl (fun t T hT => ?_) hS
    obtain ⟨t0, e, hR⟩ := hT
    refine zw_M_thrown rfl (pz := fun v => v = T 0 0) (fun v hv => ?_) rfl
    subst hv; rw [t0]
    exact ⟨rfl, fun _ => by rw [e], A, T, rfl, rfl, hR⟩
  · obtain ⟨rfl, hS⟩ := hS
    refine ⟨rfl, ?_⟩
    refine zw_M_channel rfl rfl rfl (fun t T hT => ?_) hS
    obtain ⟨t0, hR⟩ := hT
    refine zw_M_thrown rfl (pz := fun v => v = T 0 0) (fun v hv => ?_) rfl
    subst hv; rw [t0]
    exact ⟨rfl, fun z => absurd z (by decide), S, T, rfl, rfl, hR⟩
theorem up_ringAt {n : Nat} (hn : n < 512) : so_ringAt (R9 n) (R9 (n + 1)) := by
  rintro σ τ v0 x1 ⟨A, B, rfl, rfl, h⟩
  obtain ⟨z1, a1, b1, rfl⟩ := zI_ex x1
  have q := op_ringAt h (show rg z1 from ⟨a1, b1⟩)
  refine zw_CN_ringAt rfl rfl (fun r S hS => ?_) (fun E S hS => ?_) q
  · refine zw_M_ringAt rfl rfl (fun t T hT => ?_) hS
    obtain ⟨t0, e, hR⟩ := hT
    refine zw_M_thrown rfl (pz := fun v => v = T 0 0) (fun v hv => ?_) rfl
    subst hv; rw [t0]
    exact ⟨rfl, fun _ => by rw [e], S, T, rfl, rfl, hR⟩
  · obtain ⟨rfl, hS⟩ := hS
    refine ⟨rfl, ?_⟩
    refine zw_M_ringAt rfl rfl (fun t T hT => ?_) hS
    obtain ⟨t0, hR⟩ := hT
    refine zw_M_thrown rfl (pz := fun v => v = T 0 0) (fun v hv => ?_) rfl
    subst hv; rw [t0]
    exact ⟨rfl, fun z => absurd z (by decide), S, T, rfl, rfl, hR⟩
theorem up_ring {n : Nat} (hn : n < 512) : so_ring (R9 n) (R9 (n + 1)) := by
  rintro σ τ ⟨A, B, rfl, rfl, h⟩
  have q := op_ring h
  refine zw_CN_ring rfl (fun r S hS => ?_) q
  refine zw_M_ring rfl (fun t T hT => ?_) hS
  obtain ⟨e, hR⟩ := hT
  exact ⟨by rw [e], S, T, rfl, rfl, hR⟩
theorem up_stuck {n : Nat} (hn : n < 512) : so_stuck (R9 n) (R9 (n + 1)) := by
  rintro σ τ ⟨A, B, rfl, rfl, h⟩
  have q := op_stuck hn h
  refine zw_CN_stuck rfl (fun r hS => ?_) q
  refine zw_M_stuck rfl (fun t T hT => ?_) hS
  obtain ⟨e, hR⟩ := hT
  exact ⟨by rw [e], A, T, rfl, rfl, hR⟩
theorem up_count {n : Nat} (hn : n < 512) : so_count (R9 n) (R9 (n + 1)) := by
  rintro σ τ x1 ⟨A, B, rfl, rfl, h⟩
  obtain ⟨z1, a1, b1, rfl⟩ := zI_ex x1
  have q := op_count h (show rg z1 from ⟨a1, b1⟩)
  refine zw_CN_count rfl rfl (fun r hS => ?_) q
  refine zw_M_count rfl rfl (fun t T hT => ?_) hS
  obtain ⟨e, hR⟩ := hT
  exact ⟨by rw [e], A, T, rfl, rfl, hR⟩
theorem zF_s (B : AA) (k j : Nat) (v : Int) : zU (zF B k j v) k j v = zF B k (j + 1) v := by
  funext a i
  by_cases e : a = k
  · subst e
    rw [zU_e]
    by_cases q : i = j
    · subst q; simp [zF]
    · by_cases r : i < j
      · have : i < j + 1 := by omega
        simp [zF, q, r, this]
      · have : ¬ i < j + 1 := by omega
        simp [zF, q, r, this]
  · rw [zU_n _ _ e]; simp [zF, e]
theorem zF_0 (B : AA) (k : Nat) (v : Int) : zF B k 0 v = B := by
  funext a i; by_cases e : a = k
  · subst e; simp [zF]
  · simp [zF, e]
theorem zF_n (B : AA) {k q : Nat} (n : Nat) (v : Int) (h : q ≠ k) : zF B k n v q = B q := by simp [zF, h]
theorem zF_cm (B : AA) {k k' : Nat} (h : k ≠ k') (n i : Nat) (x y : Int) : zU (zF B k n x) k' i y = zF (zU B k' i y) k n x := by
  funext a j
  by_cases e : a = k
  · subst e; rw [zU_n _ _ h]; simp [zF, zU_n _ _ h]
  · rw [zF_n (zU B k' i y) _ _ e, zU_e, zU_e, zF_n B _ _ e]
theorem in_195 (B : AA) {ex : SS → Int32 → Prop} {post : SS → Prop} (h : ∀ y, ex (zS (zF B 6 256 (-1))) y) : ∃ k, wl_M_init_195 ex post k (zS B) 0 := by
  have := sq (fun k (j : Nat) => wl_M_init_195 ex post k (zS (zF B 6 j (-1))) (zI j)) (fun j => j) 256 (fun k => ?_) (fun j hj k hk => ?_)
  · simp only [zF_0] at this; exact this
  · refine ⟨fun _ => h _, fun g => ?_⟩
    rw [zI_256, zI_le (by omega) (by omega) (by omega) (by omega)] at g; omega
  · refine ⟨fun g => ?_, fun _ => ⟨?_, ?_⟩⟩
    · rw [zI_256, zI_le (by omega) (by omega) (by omega) (by omega)] at g; omega
    · rw [zI_in (by omega) (by omega)]; omega
    · rintro _ rfl
      rw [zI_ix (by omega) (by omega), zI_m1, zU_S, show (j : Int).toNat = j from by omega, zF_s]
      rw [zI_1, zI_add]
      have e : ((j + 1 : Nat) : Int) = (j : Int) + 1 := by omega
      rw [← e]; exact hk
theorem in_217 (B : AA) {ex : SS → Int32 → Prop} {post : SS → Prop} (h : ∀ y, ex (zS (zF (zF B 17 160 (-1)) 18 160 (-1))) y) : ∃ k, wl_M_init_217 ex post k (zS B) 0 := by
  have := sq (fun k (j : Nat) => wl_M_init_217 ex post k (zS (zF (zF B 17 j (-1)) 18 j (-1))) (zI j)) (fun j => j) 160 (fun k => ?_) (fun j hj k hk => ?_)
  · simp only [zF_0] at this; exact this
  · refine ⟨fun _ => h _, fun g => ?_⟩
    rw [zI_160, zI_le (by omega) (by omega) (by omega) (by omega)] at g; omega
  · refine ⟨fun g => ?_, fun _ => ⟨?_, ?_⟩⟩
    · rw [zI_160, zI_le (by omega) (by omega) (by omega) (by omega)] at g; omega
    · rw [zI_in (by omega) (by omega)]; omega
    · rintro _ rfl
      refine ⟨by rw [zI_in (by omega) (by omega)]; omega, ?_⟩
      rintro _ rfl
      rw [zI_ix (by omega) (by omega), zI_m1, zU_S, zU_S, show (j : Int).toNat = j from by omega, zF_cm _ (by omega), zF_s, zF_s]
      rw [zI_1, zI_add]
      have e : ((j + 1 : Nat) : Int) = (j : Int) + 1 := by omega
      rw [← e]; exact hk
theorem in_246 (B : AA) {ex : SS → Int32 → Prop} {post : SS → Prop} (h : ∀ y, ex (zS (zF B 5 40 (-1))) y) : ∃ k, wl_M_init_246 ex post k (zS B) 0 := by
  have := sq (fun k (j : Nat) => wl_M_init_246 ex post k (zS (zF B 5 j (-1))) (zI j)) (fun j => j) 40 (fun k => ?_) (fun j hj k hk => ?_)
  · simp only [zF_0] at this; exact this
  · refine ⟨fun _ => h _, fun g => ?_⟩
    rw [zI_40, zI_le (by omega) (by omega) (by omega) (by omega)] at g; omega
  · refine ⟨fun g => ?_, fun _ => ⟨?_, ?_⟩⟩
    · rw [zI_40, zI_le (by omega) (by omega) (by omega) (by omega)] at g; omega
    · rw [zI_in (by omega) (by omega)]; omega
    · rintro _ rfl
      rw [zI_ix (by omega) (by omega), zI_m1, zU_S, show (j : Int).toNat = j from by omega, zF_s]
      rw [zI_1, zI_add]
      have e : ((j + 1 : Nat) : Int) = (j : Int) + 1 := by omega
      rw [← e]; exact hk
theorem s0C_z (z : Int) : s0C (zI z) = zS (A00 z) := by
  have hf : ∀ (n : Nat) (i : Nat), (if i < n then (-1 : Int32) else 0) = zI (if i < n then -1 else 0) := fun n i => by split <;> rfl
  funext k i
  unfold s0C
  split
  · dsimp only
    split
    · simp [zS, A00, zU, zF]
    · rename_i q
      have q' : ¬ i = 5 := fun z => q z
      simp [zS, A00, zU, zF, q']; rfl
  · simp only [fz, zS]; rw [hf]; simp [A00, zU, zF]
  · simp only [fz, zS]; rw [hf]; simp [A00, zU, zF]
  · simp only [fz, zS]; rw [hf]; simp [A00, zU, zF]
  · simp only [fz, zS]; rw [hf]; simp [A00, zU, zF]
  · simp only [fz, zS]; rw [hf]; simp [A00, zU, zF]
  · simp only [fz, zS]; rw [hf]; simp [A00, zU, zF]
  · simp only [fz, zS]; rw [hf]; simp [A00, zU, zF]
  · simp only [fz, zS]; rw [hf]; simp [A00, zU, zF]
  · rename_i h0 h10 h17 h18 h19 h23 h24 h25 h27
    have : A00 z k i = 0 := by
      unfold A00
      rw [zU_n _ _ (by intro q; exact h0 q), zF_n _ _ _ (by intro q; exact h27 q), zF_n _ _ _ (by intro q; exact h25 q), zF_n _ _ _ (by intro q; exact h24 q), zF_n _ _ _ (by intro q; exact h23 q), zF_n _ _ _ (by intro q; exact h19 q), zF_n _ _ _ (by intro q; exact h18 q), zF_n _ _ _ (by intro q; exact h17 q), zF_n _ _ _ (by intro q; exact h10 q)]
    show (0 : Int32) = zI (A00 z k i)
    rw [this]; rfl
theorem up_init (x : Int32) : wp_M_init (fun _ _ => 0) x (fun τ => R9 0 (s0C x) τ) := by
  obtain ⟨z, -, -, rfl⟩ := zI_ex x
  rintro _ rfl
  have e : u2 (fun _ _ => (0 : Int32)) 0 1 (zI z) = zS (zU (fun _ _ => 0) 0 1 z) := by
    rw [← zU_S]; rfl
  rw [e]
  refine in_195 _ (fun _ => in_217 _ (fun _ => in_246 _ (fun _ => ?_)))
  exact ⟨A00 z, B00 z, s0C_z z, rfl, RR_init z⟩
theorem sim : ∃ R : Nat → SS → SS → Prop, so_all R := ⟨R9, up_init, fun n hn => ⟨fun σ τ ⟨A, B, h1, h2, h3⟩ => ⟨A, B, h1, h2, RR_s h3⟩, up_node hn, up_link hn, up_route hn, up_routes hn, up_fail hn, up_send hn, up_load hn, up_run hn, up_packet hn, up_channel hn, up_ring hn, up_ringAt hn, up_stuck hn, up_count hn⟩⟩
