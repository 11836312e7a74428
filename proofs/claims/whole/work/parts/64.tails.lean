/-! rows of flits: a held channel's packet has its tail behind -/
def tl (B : AA) (f : Int) : Prop := f % 16 = B 9 (f / 16).toNat - 1
def bt (B : AA) (i p : Int) : Prop := (i < 16 ∧ B 7 p.toNat = i ∧ B 10 p.toNat < B 9 p.toNat) ∨ (16 ≤ i ∧ ∃ k : Nat, (k : Int) < B 13 (i - 16).toNat ∧ B 14 (4 * (i - 16).toNat + k) / 16 = p ∧ tl B (B 14 (4 * (i - 16).toNat + k)))
def wB (B : AA) : Prop := ∀ c, c < 160 → B 17 c ≠ -1 → B 8 (B 18 c).toNat ≠ nd B (B 17 c)
def wCc (B : AA) : Prop := ∀ c, c < 160 → B 17 c ≠ -1 → (B 17 c < 16 → q0 B (B 17 c) = B 18 c) ∧ (16 ≤ B 17 c → 0 < B 13 (B 17 c - 16).toNat → B 14 (4 * (B 17 c - 16).toNat) / 16 = B 18 c)
def wJ (B : AA) : Prop := ∀ c, c < 160 → ∀ k : Nat, (k : Int) + 1 = B 13 c → tl B (B 14 (4 * c + k)) ∨ (B 17 c ≠ -1 ∧ B 14 (4 * c + k) / 16 = B 18 c)
def wK (B : AA) : Prop := ∀ c, c < 160 → ∀ k : Nat, (k : Int) + 1 < B 13 c → tl B (B 14 (4 * c + k)) ∨ B 14 (4 * c + k + 1) / 16 = B 14 (4 * c + k) / 16
def wI (B : AA) : Prop := ∀ c d, c < 160 → d < 160 → B 17 c ≠ -1 → B 17 c = B 17 d → c = d
def wH (B : AA) (T : Nat → Nat) : Prop := ∀ c, c < 160 → B 17 c ≠ -1 → bt B (B 17 c) (B 18 c) ∨ (16 ≤ B 17 c ∧ B 17 (B 17 c - 16).toNat ≠ -1 ∧ B 18 (B 17 c - 16).toNat = B 18 c ∧ T (B 17 c - 16).toNat < T c)
def iW (B : AA) : Prop := wB B ∧ wCc B ∧ wJ B ∧ wK B ∧ wI B ∧ ∃ T, wH B T
def Ts (T : Nat → Nat) : Nat → Nat
  | 0 => 0
  | n + 1 => Ts T n + T n
theorem Ts_le (T : Nat → Nat) : ∀ n d, d < n → T d ≤ Ts T n := by
  intro n
  induction n with
  | zero => intro d h; omega
  | succ n ih => intro d h; rw [Ts]; by_cases e : d = n
                 · subst e; omega
                 · have := ih d (by omega); omega
/-- along a buffer from its front: the tail is there, or the back is of the same packet -/
theorem run_on {B : AA} (hK : wK B) {d : Nat} (hd : d < 160) {p : Int} (h0 : B 14 (4 * d) / 16 = p) : ∀ k : Nat, (k : Int) < B 13 d → (∃ j : Nat, (j : Int) < k ∧ B 14 (4 * d + j) / 16 = p ∧ tl B (B 14 (4 * d + j))) ∨ B 14 (4 * d + k) / 16 = p := by
  intro k
  induction k with
  | zero => intro _; exact .inr h0
  | succ k ih =>
    intro hk
    rcases ih (by omega) with ⟨j, a, b, c⟩ | e
    · exact .inl ⟨j, by omega, b, c⟩
    · rcases hK d hd k (by omega) with g | g
      · exact .inl ⟨k, by omega, e, g⟩
      · right; rw [← e, ← g]; rfl
theorem asI_17 {B : AA} {i : Int} (g : wt B i (wc B i)) (c : Nat) : asI B i 17 c = if c = (wc B i).toNat then i else B 17 c := by
  unfold asI; rw [cs_t g, zU_n _ _ (by omega), zU_e]; simp
theorem asI_18 {B : AA} {i : Int} (g : wt B i (wc B i)) (c : Nat) : asI B i 18 c = if c = (wc B i).toNat then fr B i / 16 else B 18 c := by
  unfold asI; rw [cs_t g, zU_e, zU_n _ _ (by omega)]; simp
theorem iW_as {B : AA} (h : iv B) (hw : iW B) {i : Int} (h0 : 0 ≤ i) (hi : i < 176) : iW (asI B i) := by
  by_cases g : wt B i (wc B i)
  case neg =>
    have : asI B i = B := by unfold asI; rw [cs_f g]
    rw [this]; exact hw
  obtain ⟨b1, b2, b3, b4, b5, T, b6⟩ := hw
  have w := h.1
  obtain ⟨o1, o2, -, o4⟩ := wt_ok h h0 hi g
  obtain ⟨f0, f1, f2, f3, -, f5, f6, f7⟩ := g
  have f2 := f2; have g : wt B i (wc B i) := ⟨f0, f1, f2, f3, rfl, f5, f6, f7⟩
  have hfr := fr_ok h h0 hi f0
  have hc := o1.lt w
  have hl := w.l
  generalize hcc : (wc B i).toNat = cc at *
  have e17 := asI_17 g; have e18 := asI_18 g
  rw [hcc] at e17 e18
  have e : ∀ k, k ≠ 17 ∧ k ≠ 18 → asI B i k = B k := fun k => asI_r B i
  have en : ∀ x, nd (asI B i) x = nd B x := asI_nd B i
  have eq : ∀ x, q0 (asI B i) x = q0 B x := fun x => by
    show qf _ _ _ _ = qf _ _ _ _
    rw [e 0 (by omega)]; exact qf_c (fun q => by rw [e 7 (by omega), e 9 (by omega), e 10 (by omega)]) _ _
  have et : ∀ x, tl (asI B i) x = tl B x := fun x => by unfold tl; rw [e 9 (by omega)]
  have eb : ∀ x p, bt (asI B i) x p = bt B x p := fun x p => by
    unfold bt; simp only [et]; rw [e 7 (by omega), e 10 (by omega), e 9 (by omega), e 13 (by omega), e 14 (by omega)]
  have own : ∀ c, c < 160 → B 17 c ≠ i := fun c hc e => f3 ⟨c, by have := (h.2.2.2.2.2.1 c hc (by omega)).1; unfold isC at this; omega, e⟩
  refine ⟨fun c hc2 hne => ?_, fun c hc2 hne => ?_, fun c hc2 k hk => ?_, fun c hc2 k hk => ?_, fun c d hc2 hd hne heq => ?_, fun x => if x = cc then 1 + Ts T 160 else T x, fun c hc2 hne => ?_⟩
  · rw [e17] at hne ⊢; rw [e18, e 8 (by omega), en]
    by_cases ec : c = cc
    · rw [if_pos ec, if_pos ec]; exact f2
    · rw [if_neg ec] at hne ⊢; rw [if_neg ec]; exact b1 c hc2 hne
  · rw [e17] at hne ⊢; rw [e18, e 13 (by omega), e 14 (by omega), eq]
    by_cases ec : c = cc
    · rw [if_pos ec, if_pos ec]
      refine ⟨fun q => ?_, fun q _ => ?_⟩
      · obtain ⟨p, e0, -, -, -, -, e1, -⟩ := fr_q w q f0
        rw [e0, e1]
      · rw [(fr_b q f0).2.2]
    · rw [if_neg ec] at hne ⊢; rw [if_neg ec]; exact b2 c hc2 hne
  · rw [e 13 (by omega)] at hk
    rw [e17, e18, e 14 (by omega), et]
    rcases b3 c hc2 k hk with q | q
    · exact .inl q
    · by_cases ec : c = cc
      · subst ec; exact absurd f7 q.1
      · rw [if_neg ec, if_neg ec]; exact .inr q
  · rw [e 13 (by omega)] at hk
    rw [e 14 (by omega), et]
    exact b4 c hc2 k hk
  · rw [e17] at hne; rw [e17, e17] at heq
    by_cases ec : c = cc
    · by_cases ed : d = cc
      · omega
      · rw [if_pos ec, if_neg ed] at heq; exact absurd heq.symm (own d hd)
    · by_cases ed : d = cc
      · rw [if_neg ec, if_pos ed] at heq; exact absurd heq (own c hc2)
      · rw [if_neg ec, if_neg ed] at heq; rw [if_neg ec] at hne; exact b5 c d hc2 hd hne heq
  · have cne : B 17 cc = -1 := f7
    rw [e17] at hne ⊢
    rw [e18, eb]
    by_cases ec : c = cc
    · rw [if_pos ec, if_pos ec]
      by_cases q : i < 16
      · obtain ⟨p, e0, -, e7, e10, -, e1, -⟩ := fr_q w q f0
        left; left
        rw [e1]; exact ⟨q, e7, e10⟩
      · obtain ⟨n0, -, n1⟩ := fr_b (by omega) f0
        have a13 := w.a13 (i - 16).toNat
        have hd : (i - 16).toNat < 160 := by omega
        have hp : B 14 (4 * (i - 16).toNat) / 16 = fr B i / 16 := by rw [n1]
        have fin : ∀ k : Nat, (k : Int) + 1 = B 13 (i - 16).toNat → bt B i (fr B i / 16) ∨ (B 17 (i - 16).toNat ≠ -1 ∧ B 18 (i - 16).toNat = fr B i / 16) := fun k hk => by
          rcases run_on b4 hd hp k (by omega) with ⟨j, j1, j2, j3⟩ | j
          · exact .inl (.inr ⟨by omega, j, by omega, j2, j3⟩)
          · rcases b3 _ hd k hk with m | m
            · exact .inl (.inr ⟨by omega, k, by omega, j, m⟩)
            · exact .inr ⟨m.1, by rw [← m.2, j]⟩
        rcases fin (B 13 (i - 16).toNat - 1).toNat (by omega) with m | m
        · exact .inl m
        · right
          have ed : (i - 16).toNat ≠ cc := fun q => m.1 (by rw [q]; exact cne)
          rw [e17, e18, if_neg ed, if_neg ed]
          have := Ts_le T 160 _ hd
          refine ⟨by omega, m.1, m.2, ?_⟩
          simp only [if_neg ed, if_pos ec]; omega
    · rw [if_neg ec] at hne ⊢
      rw [if_neg ec]
      rcases b6 c hc2 hne with m | ⟨m1, m2, m3, m4⟩
      · exact .inl m
      · have ed : (B 17 c - 16).toNat ≠ cc := fun q => m2 (by rw [q]; exact cne)
        right
        rw [e17, e18, if_neg ed, if_neg ed]
        refine ⟨m1, m2, m3, ?_⟩
        simp only [if_neg ed, if_neg ec]; exact m4
