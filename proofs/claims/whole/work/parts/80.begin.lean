/-! the beginning -/
def A00 (z : Int) : AA := zU (zF (zF (zF (zF (zF (zF (zF (zF (fun _ _ => 0) 10 256 (-1)) 17 16 (-1)) 18 16 (-1)) 19 400 (-1)) 23 176 (-1)) 24 160 (-1)) 25 160 (-1)) 27 40 (-1)) 0 5 z
def B00 (z : Int) : AA := zF (zF (zF (zF (zU (fun _ _ => 0) 0 1 z) 6 256 (-1)) 17 160 (-1)) 18 160 (-1)) 5 40 (-1)
theorem RR_init (z : Int) : RR 0 (A00 z) (B00 z) := by
  have e0 : ∀ j, j ≠ 1 → B00 z 0 j = 0 := fun j hj => by simp [B00, zF, zU, hj]
  have ez : ∀ k, k ≠ 0 ∧ k ≠ 5 ∧ k ≠ 6 ∧ k ≠ 17 ∧ k ≠ 18 → B00 z k = fun _ => 0 := fun k hk => by
    simp [B00, zF, zU, hk.1, hk.2.1, hk.2.2.1, hk.2.2.2.1, hk.2.2.2.2]
  have e5 : ∀ j, B00 z 5 j = if j < 40 then -1 else 0 := fun j => by simp [B00, zF, zU]
  have e6 : ∀ j, B00 z 6 j = if j < 256 then -1 else 0 := fun j => by simp [B00, zF, zU]
  have e17 : ∀ j, B00 z 17 j = if j < 160 then -1 else 0 := fun j => by simp [B00, zF, zU]
  have h17 : ∀ c, c < 160 → B00 z 17 c = -1 := fun c hc => by rw [e17, if_pos hc]
  have e2 := e0 2 (by omega); have e3 := e0 3 (by omega); have e4 := e0 4 (by omega); have e05 := e0 5 (by omega); have e7 := e0 7 (by omega); have e8 := e0 8 (by omega)
  have z13 := ez 13 (by omega)
  have hE : Eqs (A00 z) (B00 z) := by
    refine ⟨fun x hx => ?_, fun x hx => ?_⟩
    · simp only [LL, List.mem_cons, List.not_mem_nil, or_false] at hx
      rcases hx with rfl | rfl | rfl | rfl | rfl | rfl | rfl | rfl | rfl | rfl | rfl | rfl | rfl | rfl | rfl <;> (funext j; simp [A00, B00, zF, zU])
    · simp only [LLs, List.mem_cons, List.not_mem_nil, or_false] at hx
      rcases hx with rfl | rfl | rfl | rfl | rfl | rfl | rfl <;> simp [A00, B00, zF, zU]
  have q : ∀ i, q0 (B00 z) i = -1 := fun i => by show qf _ _ _ _ = _; rw [e4]; rfl
  refine ⟨⟨⟨hE, fun p hp => by rw [e4] at hp; omega, ⟨fun i hi => ?_, fun p hp => by rw [e4] at hp; omega, fun i hi hne => ?_, fun p _ hp => ?_⟩, fun c hc hne => absurd (h17 c hc) hne, fun i hi hne => ?_⟩, fun c hc => ?_⟩, ⟨⟨?_, ⟨fun l hl => by rw [e3] at hl; omega, fun l _ hl => by rw [e5, if_pos hl]⟩, fun k hk hne => absurd (by rw [e6, if_pos hk]) hne, ⟨fun p hp => by rw [e4] at hp; omega, fun p _ => ⟨by rw [ez 10 (by omega)], by rw [ez 11 (by omega)]⟩, fun p q _ hq => by rw [e4] at hq; omega⟩, fun c k _ hk => by rw [z13] at hk; dsimp only at hk; omega, fun c hc hne => absurd (h17 c hc) hne, ?_⟩, ?_, ?_⟩, by rw [e05]; omega⟩
  · rw [q]; simp [A00, zF, zU, hi]
  · exact absurd (by simp [A00, zF, zU, hi]) hne
  · simp [A00, zF, zU, hp]
  · exact absurd (by simp [A00, zF, zU, hi]) hne
  · simp [A00, zF, zU]
  · unfold wf
    rw [e2, e3, e4, e05, ez 1 (by omega), ez 2 (by omega), ez 3 (by omega), ez 4 (by omega), ez 7 (by omega), ez 8 (by omega), ez 9 (by omega), ez 10 (by omega), z13, ez 14 (by omega), ez 15 (by omega)]
    dsimp only
    refine ⟨by omega, by omega, by omega, by omega, fun j => ⟨by omega, by omega, by omega, .inl rfl, ?_⟩, fun j => ?_, fun j => by omega, fun j => ⟨by omega, by omega, by omega, ?_⟩⟩
    · rw [e5]; split <;> omega
    · rw [e6]; split <;> omega
    · rw [e17]; split <;> omega
  · unfold iG; rw [e7, e4]; rfl
  · exact ⟨fun c hc hne => absurd (h17 c hc) hne, fun c hc hne => absurd (h17 c hc) hne, fun c hc k hk => by rw [z13] at hk; dsimp only at hk; omega, fun c hc k hk => by rw [z13] at hk; dsimp only at hk; omega, fun c d hc hd hne => absurd (h17 c hc) hne, fun _ => 0, fun c hc hne => absurd (h17 c hc) hne⟩
  · unfold iN NN nq
    have tz : tb (B00 z) = fun _ => 0 := by funext c; unfold tb; rw [z13]; rfl
    have s0 : ∀ m, sm m (fun _ => (0 : Int)) = 0 := by
      intro m
      induction m with
      | zero => rfl
      | succ m ih => rw [sm, ih]; rfl
    rw [tz, s0, e4, e8]
    simp [sm]
