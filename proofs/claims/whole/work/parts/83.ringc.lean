/-! the program: rows of steps to each channel -/
def kl (B : AA) (x : Nat) : Nat → List Nat
  | 0 => []
  | j + 1 => if tg B j = (x : Int) then j :: kl B x j else kl B x j
def ch (N : Nat → Int) : Int → List Nat → Prop
  | v, [] => v = -1
  | v, k :: ks => v = (k : Int) ∧ ch N (N k) ks
theorem kl_mem {B : AA} {x : Nat} : ∀ j k, k ∈ kl B x j ↔ k < j ∧ tg B k = (x : Int) := by
  intro j
  induction j with
  | zero => intro k; simp [kl]
  | succ j ih =>
    intro k
    rw [kl]
    by_cases g : tg B j = (x : Int)
    · rw [if_pos g, List.mem_cons, ih]
      constructor
      · rintro (rfl | z)
        · exact ⟨by omega, g⟩
        · exact ⟨by omega, z.2⟩
      · rintro ⟨z1, z2⟩
        by_cases e : k = j
        · exact .inl e
        · exact .inr ⟨by omega, z2⟩
    · rw [if_neg g, ih]
      constructor
      · rintro ⟨z1, z2⟩; exact ⟨by omega, z2⟩
      · rintro ⟨z1, z2⟩
        refine ⟨?_, z2⟩
        by_cases e : k = j
        · subst e; exact absurd z2 g
        · omega
theorem kl_len {B : AA} {x : Nat} : ∀ j, (kl B x j).length ≤ j := by
  intro j
  induction j with
  | zero => simp [kl]
  | succ j ih =>
    rw [kl]; split
    · simp; omega
    · omega
theorem kl_skip {B : AA} {x a : Nat} : ∀ b, a ≤ b → (∀ j, a ≤ j → j < b → tg B j ≠ (x : Int)) → kl B x b = kl B x a := by
  intro b
  induction b with
  | zero => intro h _; have : a = 0 := by omega
            subst this; rfl
  | succ b ih =>
    intro h hn
    by_cases e : a = b + 1
    · subst e; rfl
    · rw [kl, if_neg (hn b (by omega) (by omega))]; exact ih (by omega) (fun j h1 h2 => hn j h1 (by omega))
theorem ch_up {N : Nat → Int} {i : Nat} {w : Int} : ∀ (ks : List Nat) (v : Int), (∀ k, k ∈ ks → k ≠ i) → ch N v ks → ch (fun j => if j = i then w else N j) v ks := by
  intro ks
  induction ks with
  | nil => intro v _ h; exact h
  | cons k ks ih =>
    intro v hk h
    refine ⟨h.1, ?_⟩
    dsimp only
    rw [if_neg (hk k List.mem_cons_self)]
    exact ih _ (fun k' hk' => hk k' (List.mem_cons_of_mem _ hk')) h.2
def Gs (B : AA) (F N : Nat → Int) (j : Nat) : Prop := (∀ x, x < 160 → ch N (F x) (kl B x j)) ∧ (∀ x, x < 160 → -1 ≤ F x ∧ F x < 256)
abbrev X2 (A : AA) (F N : Nat → Int) : AA := zR (zR A 28 F) 29 N
theorem X2_r (A : AA) (F N : Nat → Int) {k : Nat} (h : k ≠ 28 ∧ k ≠ 29) : X2 A F N k = A k := by show zR (zR A 28 F) 29 N k = A k; rw [zR_n _ _ h.2, zR_n _ _ h.1]
theorem X2_u (A : AA) (F N : Nat → Int) (i x : Nat) (a b : Int) : zU (zU (X2 A F N) 29 i a) 28 x b = X2 A (fun j => if j = x then b else F j) (fun j => if j = i then a else N j) := by
  show zU (zU (zR (zR A 28 F) 29 N) 29 i a) 28 x b = zR (zR A 28 _) 29 _
  rw [zU_zR, ← zR_cm _ (by omega : (28 : Nat) ≠ 29), zU_zR]
theorem c_gather {A B : AA} (h : iv B) (E : Eqs A B) {post : AA → Prop} (hp : ∀ F N, Gs B F N 256 → post (X2 A F N)) : zp_CR_gatherSteps A post := by
  have w := h.1
  have n0 := w.n
  have tno : ∀ j, j < 256 → ¬ (((j / 16 : Nat) : Int) < B 0 2 ∧ ((j % 16 : Nat) : Int) < B 0 2) → tg B j = -1 := fun j hj hn => by
    have : B 6 j = -1 := Classical.byContradiction fun z => by
      have := h.2.2.1 j hj z
      exact hn ⟨this.1, this.2.1⟩
    unfold tg; rw [if_pos (by omega)]
  unfold zp_CR_gatherSteps
  rintro _ rfl
  have e0 : zF A 28 160 (-1) = X2 A (fun k => if k < 160 then -1 else A 28 k) (A 29) := by
    show _ = zR (zR A 28 _) 29 _
    funext a b
    by_cases e : a = 29
    · subst e; rw [zR_s]; simp [zF]
    · rw [zR_n _ _ e]
      by_cases e2 : a = 28
      · subst e2; rw [zR_s]; simp [zF]
      · rw [zR_n _ _ e2]; simp [zF, e2]
  rw [e0]
  refine sq5 (zl_CR_gatherSteps_10 (fun B' y1 => ze_CR_gatherSteps_95 B' post) post) (fun a X => ∃ F N, X = X2 A F N ∧ Gs B F N (16 * a)) (B 0 2).toNat (fun X k hX => ?_) (fun a ha X hX k hk => ?_) _ ⟨_, _, rfl, fun x hx => ?_, fun x hx => ?_⟩
  · obtain ⟨F, N, rfl, hG⟩ := hX
    have e : X2 A F N 1 0 = B 0 2 := by rw [X2_r _ _ _ (by omega), E.s2]
    refine ⟨by omega, by omega, fun _ => hp F N ⟨fun x hx => ?_, hG.2⟩, fun g => by omega⟩
    have := hG.1 x hx
    rw [← kl_skip (B := B) (x := x) 256 (by omega) (fun j h1 h2 => by rw [tno j h2 (by omega)]; omega)] at this
    exact this
  · obtain ⟨F, N, rfl, hG⟩ := hX
    have e : X2 A F N 1 0 = B 0 2 := by rw [X2_r _ _ _ (by omega), E.s2]
    refine ⟨by omega, by omega, fun g => by omega, fun _ => ?_⟩
    refine sq5 (zl_CR_gatherSteps_23 a (fun B' y2 => ze_CR_gatherSteps_89 B' a (zl_CR_gatherSteps_10 (fun B' y1 => ze_CR_gatherSteps_95 B' post) post k) (fun B' y1 => ze_CR_gatherSteps_95 B' post) post) post) (fun t X => ∃ F N, X = X2 A F N ∧ Gs B F N (16 * a + t)) (B 0 2).toNat (fun X k2 hX => ?_) (fun t ht X hX k2 hk2 => ?_) _ ⟨F, N, rfl, hG⟩
    · obtain ⟨F, N, rfl, hG⟩ := hX
      have e : X2 A F N 1 0 = B 0 2 := by rw [X2_r _ _ _ (by omega), E.s2]
      refine ⟨by omega, by omega, fun _ => ?_, fun g => by omega⟩
      refine hk _ ⟨F, N, rfl, fun x hx => ?_, hG.2⟩
      have := hG.1 x hx
      rw [← kl_skip (B := B) (x := x) (16 * (a + 1)) (by omega) (fun j h1 h2 => by rw [tno j (by omega) (by omega)]; omega)] at this
      exact this
    · obtain ⟨F, N, rfl, hG⟩ := hX
      have e : X2 A F N 1 0 = B 0 2 := by rw [X2_r _ _ _ (by omega), E.s2]
      have e10 : X2 A F N 10 = B 6 := by rw [X2_r _ _ _ (by omega), E.c10]
      have e7 : X2 A F N 7 = B 2 := by rw [X2_r _ _ _ (by omega), E.c7]
      have e28 : X2 A F N 28 = F := by show zR (zR A 28 F) 29 N 28 = F; rw [zR_n _ _ (by omega), zR_s]
      have ek : ((a : Int) * 16 + t).toNat = 16 * a + t := by omega
      have a6 := w.a6 (16 * a + t)
      have no : tg B (16 * a + t) = -1 → zl_CR_gatherSteps_23 a (fun B' y2 => ze_CR_gatherSteps_89 B' a (zl_CR_gatherSteps_10 (fun B' y1 => ze_CR_gatherSteps_95 B' post) post k) (fun B' y1 => ze_CR_gatherSteps_95 B' post) post) post k2 (X2 A F N) ((t : Int) + 1) := fun q => by
        refine hk2 _ ⟨F, N, rfl, fun x hx => ?_, hG.2⟩
        rw [show 16 * a + (t + 1) = (16 * a + t) + 1 by omega, kl, if_neg (by omega)]
        exact hG.1 x hx
      refine ⟨by omega, by omega, fun g => by omega, fun _ => ⟨by omega, ?_⟩⟩
      unfold zp_CR_channelAfter zp_CP_endOf zp_CP_wayAt
      rw [e10, ek]
      refine ⟨by omega, fun g => ⟨by omega, by omega, ?_⟩, fun g => ⟨by omega, fun _ => no (by unfold tg; rw [if_pos (by omega)]), fun z => absurd rfl z⟩⟩
      rw [e7]
      have a2 := w.a2 (B 6 (16 * a + t) / 4).toNat
      have et : tg B (16 * a + t) = B 6 (B 2 (B 6 (16 * a + t) / 4).toNat * 16 + t).toNat := by
        unfold tg; rw [if_neg (by omega)]; congr 2; omega
      dsimp only
      rw [← et]
      have t1 := tg_rg w (16 * a + t)
      refine ⟨by omega, by omega, fun q => no q, fun q => ?_⟩
      rintro v rfl
      obtain ⟨y, ey⟩ : ∃ y : Nat, tg B (16 * a + t) = y := ⟨(tg B (16 * a + t)).toNat, by omega⟩
      rw [ey]
      simp only [Int.toNat_natCast]
      refine ⟨by omega, by omega, ?_⟩
      rintro _ rfl
      refine ⟨by omega, ?_⟩
      rintro _ rfl
      rw [ek, e28, X2_u]
      refine hk2 _ ⟨_, _, rfl, fun x hx => ?_, fun x hx => ?_⟩
      · rw [show 16 * a + (t + 1) = (16 * a + t) + 1 by omega, kl]
        have old := ch_up (i := 16 * a + t) (w := F y) (kl B x (16 * a + t)) (F x) (fun k hk => by have := (kl_mem _ _).mp hk; omega) (hG.1 x hx)
        dsimp only
        by_cases exy : x = y
        · subst exy
          rw [if_pos rfl, if_pos ey]
          refine ⟨by omega, ?_⟩
          dsimp only
          rw [if_pos rfl]
          exact old
        · rw [if_neg exy, if_neg (by omega)]; exact old
      · have := hG.2 x hx
        dsimp only
        by_cases exy : x = y
        · rw [if_pos exy]; omega
        · rw [if_neg exy]; exact this
  · dsimp only; rw [if_pos hx]; rfl
  · dsimp only; rw [if_pos hx]; omega
