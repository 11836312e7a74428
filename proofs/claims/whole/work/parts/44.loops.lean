/-! loops by fuel: a row of states; a measure -/
theorem sq {α : Type} (Wf : Nat → α → Prop) (S : Nat → α) (n : Nat) (hx : ∀ k, Wf (k + 1) (S n)) (hs : ∀ i, i < n → ∀ k, Wf k (S (i + 1)) → Wf (k + 1) (S i)) : ∃ k, Wf k (S 0) := by
  have h : ∀ j, j ≤ n → ∃ k, Wf k (S (n - j)) := by
    intro j
    induction j with
    | zero => intro _; exact ⟨1, hx 0⟩
    | succ j ih =>
      intro h
      obtain ⟨k, hk⟩ := ih (by omega)
      refine ⟨k + 1, hs (n - (j + 1)) (by omega) k ?_⟩
      have e : n - (j + 1) + 1 = n - j := by omega
      rw [e]; exact hk
  have h9 := h n (Nat.le_refl n)
  rwa [Nat.sub_self] at h9
theorem ms {α : Type} (Wf : Nat → α → Prop) (J : α → Prop) (μ : α → Nat) (hs : ∀ a, J a → ∀ k, (∀ b, J b → μ b < μ a → Wf k b) → Wf (k + 1) a) : ∀ a, J a → ∃ k, Wf k a := by
  have h : ∀ m a, J a → μ a < m → Wf m a := by
    intro m
    induction m with
    | zero => intro a _ h; exact absurd h (by omega)
    | succ m ih => intro a ha h; exact hs a ha m (fun b hb hl => ih b hb (by omega))
  exact fun a ha => ⟨μ a + 1, h _ a ha (by omega)⟩
