/-! tails: how many are on their way -/
noncomputable def tb (B : AA) (c : Nat) : Int := sm (B 13 c).toNat (fun k => cs (tl B (B 14 (4 * c + k))) 1 0)
def nq (B : AA) : Int := sm (B 0 4).toNat (fun p => if B 10 p < B 9 p then 1 else 0)
noncomputable def NN (B : AA) : Int := nq B + sm 160 (tb B)
def iN (B : AA) : Prop := 0 ≤ B 0 8 ∧ B 0 8 + NN B = B 0 4
theorem sm_sh (g : Nat → Int) : ∀ n, sm (n + 1) g = g 0 + sm n (fun k => g (k + 1)) := by
  intro n
  induction n with
  | zero => simp [sm]
  | succ n ih => rw [sm, ih, sm]; omega
theorem sm_0 {g : Nat → Int} : ∀ n, (∀ k, k < n → 0 ≤ g k) → 0 ≤ sm n g := by
  intro n
  induction n with
  | zero => intro _; simp [sm]
  | succ n ih => intro h; have := ih (fun k hk => h k (by omega)); have := h n (by omega); rw [sm]; omega
theorem sm_z {g : Nat → Int} : ∀ n, (∀ k, k < n → 0 ≤ g k) → sm n g = 0 → ∀ k, k < n → g k = 0 := by
  intro n
  induction n with
  | zero => intro _ _ k hk; omega
  | succ n ih =>
    intro h hz k hk
    have h1 := sm_0 n (fun k hk => h k (by omega))
    have h2 := h n (by omega)
    rw [sm] at hz
    by_cases e : k = n
    · subst e; omega
    · exact ih (fun k hk => h k (by omega)) (by omega) k (by omega)
theorem cs01 (P : Prop) : cs P (1 : Int) 0 = 0 ∨ cs P (1 : Int) 0 = 1 := by
  by_cases h : P
  · rw [cs_t h]; exact .inr rfl
  · rw [cs_f h]; exact .inl rfl
theorem tbz (B : AA) (c : Nat) : 0 ≤ tb B c := sm_0 _ (fun k _ => by rcases cs01 (tl B (B 14 (4 * c + k))) with h | h <;> rw [h] <;> omega)
theorem nq_0 (B : AA) : 0 ≤ nq B := sm_0 _ (fun k _ => by split <;> omega)
theorem NN_c {B B' : AA} (e4 : B' 0 4 = B 0 4) (e9 : B' 9 = B 9) (e10 : B' 10 = B 10) (e13 : B' 13 = B 13) (e14 : B' 14 = B 14) : NN B' = NN B := by
  have : tb B' = tb B := by funext c; unfold tb tl; rw [e9, e13, e14]
  unfold NN nq; rw [this, e4, e9, e10]
theorem tl_c {B B' : AA} (e9 : B' 9 = B 9) (f : Int) : tl B' f = tl B f := by unfold tl; rw [e9]
theorem NN_tk {B : AA} (h : iv B) {i : Int} (h0 : 0 ≤ i) (hi : i < 176) (hf : 0 ≤ fr B i) : NN (tk B i (fr B i)) = NN B - cs (tl B (fr B i)) 1 0 := by
  have w := h.1
  have pk := w.p
  have e : ∀ k, k ≠ 10 ∧ k ≠ 13 ∧ k ≠ 14 ∧ k ≠ 15 → tk B i (fr B i) k = B k := fun k => tk_r B _ _
  by_cases g : i < 16
  · obtain ⟨p, p0, p4, p7, p10, p1, p2, p3, -⟩ := fr_q w g hf
    have e10 := tk10 B i (fr B i)
    have etb : tb (tk B i (fr B i)) = tb B := by
      funext c; unfold tb tl
      rw [e 9 (by omega)]
      have e13 : tk B i (fr B i) 13 = B 13 := by rw [tk_lo _ _ g]; exact zU_n _ _ (by omega)
      have e14 : tk B i (fr B i) 14 = B 14 := by rw [tk_lo _ _ g]; exact zU_n _ _ (by omega)
      rw [e13, e14]
    unfold NN
    rw [etb]
    have e5 : nq (tk B i (fr B i)) = nq B - cs (tl B (fr B i)) 1 0 := by
      unfold nq
      rw [e 0 (by omega), e 9 (by omega)]
      have := sm_u (f := fun q => if tk B i (fr B i) 10 q < B 9 q then (1 : Int) else 0) (g := fun q => if B 10 q < B 9 q then (1 : Int) else 0) (j := p) (d := - cs (tl B (fr B i)) 1 0) (B 0 4).toNat (fun k hk => ?_) ?_
      · rw [this, if_pos (by omega)]; omega
      · have ek : tk B i (fr B i) 10 k = B 10 k := by
          rw [e10, if_neg]
          rintro ⟨-, z⟩; rw [p2] at z; exact hk (by simpa using z)
        show (if _ then _ else _) = (if _ then _ else _)
        rw [ek]
      · have ep : tk B i (fr B i) 10 p = B 10 p + 1 := by
          rw [e10, if_pos ⟨g, by rw [p2]; simp⟩]
        show (if _ then _ else _) = (if _ then _ else _) + _
        rw [ep]
        rw [if_pos (c := B 10 p < B 9 p) p10]
        by_cases t : tl B (fr B i)
        · rw [cs_t t]; unfold tl at t; rw [p2, p3] at t; simp only [Int.toNat_natCast] at t
          rw [if_neg (by omega)]; omega
        · rw [cs_f t]; unfold tl at t; rw [p2, p3] at t; simp only [Int.toNat_natCast] at t
          rw [if_pos (by omega)]; omega
    rw [e5]; omega
  · obtain ⟨n0, -, n1⟩ := fr_b (by omega) hf
    have hp := fr_pos w (by omega) hf
    rw [tk_hi _ _ (by omega)]
    generalize hd : (i - 16).toNat = d at *
    have hd160 : d < 160 := by omega
    have e : ∀ k, k ≠ 13 ∧ k ≠ 14 ∧ k ≠ 15 → dr B d k = B k := fun k => dr_r B _
    have enq : nq (dr B d) = nq B := by unfold nq; rw [e 0 (by omega), e 9 (by omega), e 10 (by omega)]
    have et : ∀ x, tl (dr B d) x = tl B x := tl_c (e 9 (by omega))
    unfold NN
    rw [enq]
    have := sm_u (f := tb (dr B d)) (g := tb B) (j := d) (d := - cs (tl B (fr B i)) 1 0) 160 (fun k hk => ?_) ?_
    · rw [this, if_pos hd160]; omega
    · unfold tb
      rw [dr13, if_neg hk]
      refine sm_c _ (fun x hx => ?_)
      have := w.a13 k
      rw [et, dr14 _ _ hp.2 _ _ (by omega), if_neg (fun z => hk z.1)]
    · unfold tb
      rw [dr13, if_pos rfl]
      obtain ⟨m, hm⟩ : ∃ m : Nat, (B 13 d).toNat = m + 1 := ⟨(B 13 d).toNat - 1, by omega⟩
      have hm2 : (B 13 d - 1).toNat = m := by omega
      rw [hm, hm2, sm_sh, Nat.add_zero, ← n1]
      have : sm m (fun k => cs (tl (dr B d) (dr B d 14 (4 * d + k))) (1 : Int) 0) = sm m (fun k => cs (tl B (B 14 (4 * d + (k + 1)))) 1 0) := by
        refine sm_c _ (fun x hx => ?_)
        rw [et, dr14 _ _ hp.2 _ _ (by omega), if_pos ⟨rfl, by omega⟩]; rfl
      rw [this]; omega
theorem NN_pt {B : AA} {c : Nat} (hc : c < 160) (h4 : 0 ≤ B 13 c ∧ B 13 c < 4) (h13 : ∀ j, 0 ≤ B 13 j ∧ B 13 j ≤ 4) (f : Int) : NN (pt B c f) = NN B + cs (tl B f) 1 0 := by
  have e : ∀ k, k ≠ 13 ∧ k ≠ 14 ∧ k ≠ 15 → pt B c f k = B k := fun k => pt_r B c f
  have enq : nq (pt B c f) = nq B := by unfold nq; rw [e 0 (by omega), e 9 (by omega), e 10 (by omega)]
  have et : ∀ x, tl (pt B c f) x = tl B x := tl_c (e 9 (by omega))
  unfold NN
  rw [enq]
  have := sm_u (f := tb (pt B c f)) (g := tb B) (j := c) (d := cs (tl B f) 1 0) 160 (fun k hk => ?_) ?_
  · rw [this, if_pos hc]; omega
  · unfold tb
    rw [pt13, if_neg hk]
    refine sm_c _ (fun x hx => ?_)
    have := h13 k
    rw [et, pt14 _ _ _ h4 _ _ (by omega), if_neg (fun z => hk z.1)]
  · unfold tb
    rw [pt13, if_pos rfl]
    have hm : (B 13 c + 1).toNat = (B 13 c).toNat + 1 := by omega
    rw [hm, sm]
    have : sm (B 13 c).toNat (fun k => cs (tl (pt B c f) (pt B c f 14 (4 * c + k))) (1 : Int) 0) = sm (B 13 c).toNat (fun k => cs (tl B (B 14 (4 * c + k))) 1 0) := by
      refine sm_c _ (fun x hx => ?_)
      rw [et, pt14 _ _ _ h4 _ _ (by omega), if_neg (by omega)]
    rw [this, et, pt14 _ _ _ h4 _ _ (by omega), if_pos ⟨rfl, by omega⟩]
theorem iN_as {B : AA} (h : iN B) (i : Int) : iN (asI B i) := by
  have e : ∀ k, k ≠ 17 ∧ k ≠ 18 → asI B i k = B k := fun k => asI_r B i
  unfold iN at *
  rw [NN_c (by rw [e 0 (by omega)]) (e 9 (by omega)) (e 10 (by omega)) (e 13 (by omega)) (e 14 (by omega)), e 0 (by omega)]; exact h
theorem iN_mo {B : AA} (h : iv B) (hn : iN B) {l c : Nat} (hcm : cm B c) : iN (mo1 B l c) := by
  obtain ⟨c0, c1, c2, c3, c4, c5, c6, c7⟩ := cm_ok h hcm
  have hi := iv_tk h c2 c3 c4
  have e : ∀ k, k ≠ 10 ∧ k ≠ 13 ∧ k ≠ 14 ∧ k ≠ 15 → tk B (B 17 c) (fr B (B 17 c)) k = B k := fun k => tk_r B _ _
  have e13 : tk B (B 17 c) (fr B (B 17 c)) 13 c = B 13 c := by rw [tk13, if_neg (fun z => (c7 z.1).1 z.2.symm)]
  have n1 := NN_tk h c2 c3 c4
  have n2 := NN_pt (B := tk B (B 17 c) (fr B (B 17 c))) c0 (by rw [e13]; omega) hi.1.a13 (fr B (B 17 c))
  have n3 : NN (mo1 B l c) = NN (pt (tk B (B 17 c) (fr B (B 17 c))) c (fr B (B 17 c))) := by
    unfold mo1
    refine NN_c ?_ ?_ ?_ ?_ ?_
    · rw [rl_r _ _ _ (by omega), ms0 _ _ _ (by omega)]
    all_goals rw [rl_r _ _ _ (by omega), ms_r _ _ _ (by omega)]
  rw [tl_c (e 9 (by omega))] at n2
  unfold iN at *
  rw [mo_0 _ _ _ (by omega), mo_0 _ _ _ (by omega), n3, n2, n1]; omega
theorem lv08 (B : AA) (p : Nat) (f : Int) : lv1 B p f 0 8 = B 0 8 + cs (f % 16 = B 9 p - 1) 1 0 := by
  unfold lv1
  by_cases g : f % 16 = B 9 p - 1
  · rw [cs_t g, zU_s, cs_t g]
  · rw [cs_f g, zU_j _ _ (by omega), zU_n _ _ (by omega), cs_f g]; omega
theorem iN_le {B : AA} (h : iv B) (hn : iN B) {i : Int} (h0 : 0 ≤ i) (hi : i < 176) : iN (leI B i) := by
  by_cases g : cl B i
  case neg =>
    have : leI B i = B := by unfold leI; rw [cs_f g]
    rw [this]; exact hn
  rw [le_t g]
  have n1 := NN_tk h h0 hi g.1
  have e : ∀ k, k ≠ 10 ∧ k ≠ 13 ∧ k ≠ 14 ∧ k ≠ 15 → tk B i (fr B i) k = B k := fun k => tk_r B _ _
  have n3 : NN (lv1 (tk B i (fr B i)) (fr B i / 16).toNat (fr B i)) = NN (tk B i (fr B i)) := by
    refine NN_c ?_ ?_ ?_ ?_ ?_
    · rw [lv0 _ _ _ (by omega)]
    all_goals rw [lv_r _ _ _ (by omega)]
  have n4 := lv08 (tk B i (fr B i)) (fr B i / 16).toNat (fr B i)
  rw [e 9 (by omega), e 0 (by omega)] at n4
  have n5 : cs (fr B i % 16 = B 9 (fr B i / 16).toNat - 1) (1 : Int) 0 = cs (tl B (fr B i)) 1 0 := rfl
  rw [n5] at n4
  have := cs01 (tl B (fr B i))
  unfold iN at *
  rw [n3, n1, n4, lv0 _ _ _ (by omega), e 0 (by omega)]; omega
/-- where all have arrived nothing is on its way -/
theorem all_in {B : AA} (h : iv B) (hw : iW B) (hn : iN B) (he : B 0 8 = B 0 4) (i : Int) (h0 : 0 ≤ i) (hi : i < 176) : fr B i < 0 := by
  obtain ⟨b1, b2, b3, b4, b5, T, b6⟩ := hw
  have w := h.1
  have pk := w.p
  unfold iN NN at hn
  have z1 := nq_0 B; have z2 := sm_0 160 (fun c _ => tbz B c)
  have q1 : ∀ p : Nat, (p : Int) < B 0 4 → ¬ B 10 p < B 9 p := fun p hp hs => by
    have := sm_z (B 0 4).toNat (g := fun p => if B 10 p < B 9 p then 1 else 0) (fun k _ => by show 0 ≤ (if B 10 k < B 9 k then (1 : Int) else 0); split <;> omega) (by show nq B = 0; omega) p (by omega)
    simp only [if_pos hs] at this; omega
  have q2 : ∀ c k : Nat, c < 160 → (k : Int) < B 13 c → ¬ tl B (B 14 (4 * c + k)) := fun c k hc hk ht => by
    have e := sm_z 160 (fun c _ => tbz B c) (by omega) c hc
    have := sm_z (B 13 c).toNat (g := fun k => cs (tl B (B 14 (4 * c + k))) (1 : Int) 0) (fun k _ => by rcases cs01 (tl B (B 14 (4 * c + k))) with h | h <;> rw [h] <;> omega) e k (by omega)
    simp only [cs_t ht] at this; omega
  have nobt : ∀ x p, 0 ≤ x → x < 176 → 0 ≤ p → p < B 0 4 → ¬ bt B x p := fun x p x0 x1 p0 p1 hb => by
    rcases hb with ⟨-, -, a3⟩ | ⟨a1, k, a2, -, a4⟩
    · exact q1 p.toNat (by omega) a3
    · exact q2 _ k (by omega) a2 a4
  have free : ∀ n c, c < 160 → T c < n → B 17 c = -1 := by
    intro n
    induction n with
    | zero => intro c _ h; omega
    | succ n ih =>
      intro c hc hT
      refine Classical.byContradiction fun hne => ?_
      have a := w.a17 c
      have hh := h.2.2.2.2.2.1 c hc hne
      rcases b6 c hc hne with m | ⟨m1, m2, -, m4⟩
      · exact nobt _ _ (by omega) (by omega) hh.2.2.1 hh.2.2.2.1 m
      · exact m2 (ih _ (by omega) (by omega))
  have empty : ∀ c, c < 160 → B 13 c = 0 := fun c hc => by
    refine Classical.byContradiction fun hne => ?_
    have a := w.a13 c
    rcases b3 c hc (B 13 c - 1).toNat (by omega) with m | m
    · exact q2 c _ hc (by omega) m
    · exact m.1 (free _ c hc (Nat.lt_succ_self _))
  refine Classical.byContradiction fun hf => ?_
  by_cases g : i < 16
  · obtain ⟨p, p0, p4, p7, p10, -⟩ := fr_q w g (by omega)
    exact q1 p p4 p10
  · exact (fr_b (i := i) (by omega) (by omega)).1 (empty _ (by omega))
