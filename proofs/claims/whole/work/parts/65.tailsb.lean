/-! rows of flits through moving and leaving -/
theorem tk10 (B : AA) (i f : Int) (q : Nat) : tk B i f 10 q = if i < 16 ∧ q = (f / 16).toNat then B 10 q + 1 else B 10 q := by
  by_cases g : i < 16
  · rw [tk_lo _ _ g, zU_e]
    by_cases e : q = (f / 16).toNat
    · rw [if_pos ⟨rfl, e⟩, if_pos ⟨g, e⟩, e]
    · rw [if_neg (fun z => e z.2), if_neg (fun z => e z.2)]
  · rw [tk_hi _ _ (by omega), dr_r _ _ (by omega), if_neg (by omega)]
theorem tk14 (B : AA) (i f : Int) (h : 16 ≤ i → B 13 (i - 16).toNat ≤ 4) (c k : Nat) (hk : k < 4) : tk B i f 14 (4 * c + k) = if 16 ≤ i ∧ c = (i - 16).toNat ∧ (k : Int) < B 13 c - 1 then B 14 (4 * c + k + 1) else B 14 (4 * c + k) := by
  by_cases g : i < 16
  · rw [tk_lo _ _ g, zU_n _ _ (by omega), if_neg (by omega)]
  · rw [tk_hi _ _ (by omega), dr14 _ _ (h (by omega)) _ _ hk]
    by_cases e : c = (i - 16).toNat ∧ (k : Int) < B 13 (i - 16).toNat - 1
    · rw [if_pos e, if_pos ⟨by omega, e.1, by rw [e.1]; exact e.2⟩]
    · rw [if_neg e, if_neg (fun z => e ⟨z.2.1, by rw [← z.2.1]; exact z.2.2⟩)]
theorem tk15 (B : AA) (i f : Int) (h : 16 ≤ i → B 13 (i - 16).toNat ≤ 4) (c k : Nat) (hk : k < 4) : tk B i f 15 (4 * c + k) = if 16 ≤ i ∧ c = (i - 16).toNat ∧ (k : Int) < B 13 c - 1 then B 15 (4 * c + k + 1) else B 15 (4 * c + k) := by
  by_cases g : i < 16
  · rw [tk_lo _ _ g, zU_n _ _ (by omega), if_neg (by omega)]
  · rw [tk_hi _ _ (by omega), dr15 _ _ (h (by omega)) _ _ hk]
    by_cases e : c = (i - 16).toNat ∧ (k : Int) < B 13 (i - 16).toNat - 1
    · rw [if_pos e, if_pos ⟨by omega, e.1, by rw [e.1]; exact e.2⟩]
    · rw [if_neg e, if_neg (fun z => e ⟨z.2.1, by rw [← z.2.1]; exact z.2.2⟩)]
theorem mo_r (B : AA) (l c : Nat) {k : Nat} (h : k ≠ 0 ∧ k ≠ 5 ∧ k ≠ 10 ∧ k ≠ 13 ∧ k ≠ 14 ∧ k ≠ 15 ∧ k ≠ 16 ∧ k ≠ 17 ∧ k ≠ 18) : mo1 B l c k = B k := by
  unfold mo1; rw [rl_r _ _ _ (by omega), ms_r _ _ _ (by omega), pt_r _ _ _ (by omega), tk_r _ _ _ (by omega)]
theorem mo_0 (B : AA) (l c : Nat) {j : Nat} (h : j ≠ 6) : mo1 B l c 0 j = B 0 j := by
  unfold mo1; rw [rl_r _ _ _ (by omega), ms0 _ _ _ h, pt_r _ _ _ (by omega), tk_r _ _ _ (by omega)]
theorem mo_10 (B : AA) (l c q : Nat) : mo1 B l c 10 q = if B 17 c < 16 ∧ q = (fr B (B 17 c) / 16).toNat then B 10 q + 1 else B 10 q := by
  unfold mo1; rw [rl_r _ _ _ (by omega), ms_r _ _ _ (by omega), pt_r _ _ _ (by omega), tk10]
/-- a channel from which a flit can move into: what that says of its input -/
theorem cm_ok {B : AA} (h : iv B) {c : Nat} (hcm : cm B c) : c < 160 ∧ B 17 c ≠ -1 ∧ 0 ≤ B 17 c ∧ B 17 c < 176 ∧ 0 ≤ fr B (B 17 c) ∧ B 13 c < 4 ∧ 0 ≤ B 13 c ∧ (16 ≤ B 17 c → (B 17 c - 16).toNat ≠ c ∧ 0 < B 13 (B 17 c - 16).toNat ∧ B 13 (B 17 c - 16).toNat ≤ 4) := by
  obtain ⟨g1, g2, g3, g4⟩ := hcm
  simp only [Int.toNat_natCast] at g2 g3 g4
  have hc := g1.lt h.1
  have a := h.1.a17 c; have b := h.1.a13 c
  refine ⟨by omega, by omega, g2, by omega, g3, g4, b.1, fun q => ⟨fun e => ?_, fr_pos h.1 q g3⟩⟩
  have hH := h.2.2.2.2.2.1 c (by omega) (by omega)
  have hn := hH.2.2.2.2
  have e2 : nd B (B 17 c) = B 2 (c / 4) := by unfold nd; rw [if_neg (by omega)]; congr 1; omega
  rw [e2] at hn
  unfold isC at g1
  exact (h.2.1.1 (c / 4) (by omega)).2.2.1 hn
theorem mo_13 {B : AA} (h : iv B) {l c : Nat} (hcm : cm B c) (e : Nat) : mo1 B l c 13 e = if e = c then B 13 c + 1 else if 16 ≤ B 17 c ∧ e = (B 17 c - 16).toNat then B 13 e - 1 else B 13 e := by
  have hc := cm_ok h hcm
  unfold mo1; rw [rl_r _ _ _ (by omega), ms_r _ _ _ (by omega), pt13, tk13, tk13]
  by_cases q : e = c
  · rw [if_pos q, if_pos q, if_neg (fun z => (hc.2.2.2.2.2.2.2 z.1).1 z.2.symm)]
  · rw [if_neg q, if_neg q]
theorem mo_14 {B : AA} (h : iv B) {l c : Nat} (hcm : cm B c) (e k : Nat) (hk : k < 4) : mo1 B l c 14 (4 * e + k) = if e = c ∧ (k : Int) = B 13 c then fr B (B 17 c) else if 16 ≤ B 17 c ∧ e = (B 17 c - 16).toNat ∧ (k : Int) < B 13 e - 1 then B 14 (4 * e + k + 1) else B 14 (4 * e + k) := by
  have hc := cm_ok h hcm
  have e13 : tk B (B 17 c) (fr B (B 17 c)) 13 c = B 13 c := by rw [tk13, if_neg (fun z => (hc.2.2.2.2.2.2.2 z.1).1 z.2.symm)]
  unfold mo1; rw [rl_r _ _ _ (by omega), ms_r _ _ _ (by omega), pt14 _ _ _ (by rw [e13]; omega) _ _ hk, e13, tk14 _ _ _ (fun q => (hc.2.2.2.2.2.2.2 q).2.2) _ _ hk]
theorem mo_15 {B : AA} (h : iv B) {l c : Nat} (hcm : cm B c) (e k : Nat) (hk : k < 4) : mo1 B l c 15 (4 * e + k) = if e = c ∧ (k : Int) = B 13 c then B 0 5 else if 16 ≤ B 17 c ∧ e = (B 17 c - 16).toNat ∧ (k : Int) < B 13 e - 1 then B 15 (4 * e + k + 1) else B 15 (4 * e + k) := by
  have hc := cm_ok h hcm
  have e13 : tk B (B 17 c) (fr B (B 17 c)) 13 c = B 13 c := by rw [tk13, if_neg (fun z => (hc.2.2.2.2.2.2.2 z.1).1 z.2.symm)]
  unfold mo1; rw [rl_r _ _ _ (by omega), ms_r _ _ _ (by omega), pt15 _ _ _ (by rw [e13]; omega) _ _ hk, e13, tk15 _ _ _ (fun q => (hc.2.2.2.2.2.2.2 q).2.2) _ _ hk, tk_r _ _ _ (by omega)]
theorem mo_tl (B : AA) (l c : Nat) (f : Int) : (f % 16 = ms3 (pt (tk B (B 17 c) (fr B (B 17 c))) c (fr B (B 17 c))) c l 9 (f / 16).toNat - 1) = tl B f := by
  unfold tl; rw [ms_r _ _ _ (by omega), pt_r _ _ _ (by omega), tk_r _ _ _ (by omega)]
theorem mo_17 (B : AA) (l c e : Nat) : mo1 B l c 17 e = cs (tl B (fr B (B 17 c)) ∧ e = c) (-1) (B 17 e) := by
  unfold mo1 rl
  rw [mo_tl]
  by_cases g : tl B (fr B (B 17 c))
  · rw [cs_t g, zU_n _ _ (by omega), zU_e]
    by_cases q : e = c
    · rw [if_pos ⟨rfl, q⟩, cs_t ⟨g, q⟩]
    · rw [if_neg (fun z => q z.2), cs_f (fun z => q z.2), ms_r _ _ _ (by omega), pt_r _ _ _ (by omega), tk_r _ _ _ (by omega)]
  · rw [cs_f g, cs_f (fun z => g z.1), ms_r _ _ _ (by omega), pt_r _ _ _ (by omega), tk_r _ _ _ (by omega)]
theorem mo_18 (B : AA) (l c e : Nat) : mo1 B l c 18 e = cs (tl B (fr B (B 17 c)) ∧ e = c) (-1) (B 18 e) := by
  unfold mo1 rl
  rw [mo_tl]
  by_cases g : tl B (fr B (B 17 c))
  · rw [cs_t g, zU_e]
    by_cases q : e = c
    · rw [if_pos ⟨rfl, q⟩, cs_t ⟨g, q⟩]
    · rw [if_neg (fun z => q z.2), cs_f (fun z => q z.2), zU_n _ _ (by omega), ms_r _ _ _ (by omega), pt_r _ _ _ (by omega), tk_r _ _ _ (by omega)]
  · rw [cs_f g, cs_f (fun z => g z.1), ms_r _ _ _ (by omega), pt_r _ _ _ (by omega), tk_r _ _ _ (by omega)]
/-- a queue whose front packet goes on stays at it -/
theorem q_stay {B B' : AA} (w : wf B) {i : Int} {p : Nat} (e4 : B' 0 4 = B 0 4) (e7 : B' 7 = B 7) (e9 : B' 9 = B 9) (hp : q0 B i = p) (e10 : ∀ q, q ≠ p → B' 10 q = B 10 q) (hs : B' 10 p ≠ B 9 p) : q0 B' i = p := by
  rcases qf_np w i with z | ⟨p', z, a, b, c, d⟩
  · omega
  have : p' = p := by omega
  subst this
  have hpk := w.p
  show qf _ _ _ _ = _
  refine qf_of _ _ p' (by omega) (by rw [e4]; omega) (by rw [e7]; exact b) (by rw [e9]; exact hs) (fun q _ hq h7 => ?_)
  rw [e7] at h7
  rw [e9, e10 q (by omega)]; exact d q hq h7
theorem q_same {B B' : AA} {i : Int} (e4 : B' 0 4 = B 0 4) (e7 : B' 7 = B 7) (e9 : B' 9 = B 9) (e10 : ∀ q : Nat, B 7 q = i → B' 10 q = B 10 q) : q0 B' i = q0 B i := by
  show qf _ _ _ _ = qf _ _ _ _
  rw [e4]
  refine qf_c (fun q => ?_) _ _
  rw [e7, e9]
  exact ⟨fun z => ⟨z.1, by rw [← e10 q z.1]; exact z.2⟩, fun z => ⟨z.1, by rw [e10 q z.1]; exact z.2⟩⟩
theorem iW_mo {B : AA} (h : iv B) (hw : iW B) {l c : Nat} (hcm : cm B c) : iW (mo1 B l c) := by
  obtain ⟨b1, b2, b3, b4, b5, T, b6⟩ := hw
  have w := h.1
  obtain ⟨c0, c1, c2, c3, c4, c5, c6, c7⟩ := cm_ok h hcm
  have hfr := fr_ok h c2 c3 c4
  have pk := w.p
  have hp : fr B (B 17 c) / 16 = B 18 c := by
    obtain ⟨q1, q2⟩ := b2 c c0 c1
    by_cases g : B 17 c < 16
    · obtain ⟨p, e0, -, -, -, -, e1, -⟩ := fr_q w g c4
      rw [e1, ← e0, q1 g]
    · rw [(fr_b (by omega) c4).2.2]; exact q2 (by omega) (c7 (by omega)).2.1
  have e0 : ∀ j, j ≠ 6 → mo1 B l c 0 j = B 0 j := fun j => mo_0 B l c
  have e : ∀ k, k ≠ 0 ∧ k ≠ 5 ∧ k ≠ 10 ∧ k ≠ 13 ∧ k ≠ 14 ∧ k ≠ 15 ∧ k ≠ 16 ∧ k ≠ 17 ∧ k ≠ 18 → mo1 B l c k = B k := fun k => mo_r B l c
  have e10 := mo_10 B l c; have e13 := mo_13 (l := l) h hcm; have e14 := mo_14 (l := l) h hcm; have e17 := mo_17 B l c; have e18 := mo_18 B l c
  have en : ∀ x, nd (mo1 B l c) x = nd B x := nd_c (e 2 (by omega))
  have et : ∀ x, tl (mo1 B l c) x = tl B x := fun x => by unfold tl; rw [e 9 (by omega)]
  generalize hB' : mo1 B l c = B' at *
  generalize hf : fr B (B 17 c) = f at *
  -- what is held behind is what was held before, but the released one
  have hold : ∀ x, x < 160 → B' 17 x ≠ -1 → B' 17 x = B 17 x ∧ B' 18 x = B 18 x ∧ B 17 x ≠ -1 ∧ (x = c → ¬ tl B f) := fun x hx hne => by
    by_cases q : tl B f ∧ x = c
    · rw [e17, cs_t q] at hne; exact absurd rfl hne
    · rw [e17, cs_f q] at hne ⊢; rw [e18, cs_f q]; exact ⟨rfl, rfl, hne, fun z y => q ⟨y, z⟩⟩
  -- the queue of another input
  have eq : ∀ x, x < 16 → x ≠ B 17 c → q0 B' x = q0 B x := fun x hx hne => q_same (e0 4 (by omega)) (e 7 (by omega)) (e 9 (by omega)) (fun q h7 => by
    rw [e10, if_neg]
    rintro ⟨z1, z2⟩
    have z1' := z1
    obtain ⟨p, p0, -, p7, -, -, p1, -⟩ := fr_q w z1' (by rw [hf]; exact c4)
    rw [hf] at p1; rw [p1] at z2
    simp only [Int.toNat_natCast] at z2
    subst z2; exact hne (by rw [← h7, p7]))
  -- a tail in another input stays there
  have ebt : ∀ x p, x ≠ B 17 c → bt B x p → bt B' x p := fun x p hne hb => by
    rcases hb with ⟨q1, q2, q3⟩ | ⟨q1, k, q2, q3, q4⟩
    · left
      refine ⟨q1, by rw [e 7 (by omega)]; exact q2, ?_⟩
      rw [e 9 (by omega), e10, if_neg]
      · exact q3
      · rintro ⟨z1, z2⟩
        obtain ⟨p', p0, -, p7, -, -, p1, -⟩ := fr_q w z1 (by rw [hf]; exact c4)
        rw [hf] at p1; rw [p1] at z2
        simp only [Int.toNat_natCast] at z2
        rw [z2] at q2; exact hne (by rw [← q2, p7])
    · right
      have a13 := w.a13 (x - 16).toNat
      have k4 : k < 4 := by omega
      have nd2 : ¬ (16 ≤ B 17 c ∧ (x - 16).toNat = (B 17 c - 16).toNat) := by omega
      have e14k : B' 14 (4 * (x - 16).toNat + k) = B 14 (4 * (x - 16).toNat + k) := by
        rw [e14 _ _ k4, if_neg (by intro z; rw [z.1] at q2; omega), if_neg (fun z => nd2 ⟨z.1, z.2.1⟩)]
      refine ⟨q1, k, ?_, by rw [e14k]; exact q3, by rw [et, e14k]; exact q4⟩
      rw [e13]; split
      · rename_i z; rw [z] at q2; omega
      · exact q2
  have back : tl B f ∨ (B' 17 c ≠ -1 ∧ f / 16 = B' 18 c) := by
    by_cases q : tl B f
    · exact .inl q
    · right; rw [e17, e18, cs_f (fun z => q z.1), cs_f (fun z => q z.1)]; exact ⟨c1, hp⟩
  refine ⟨fun x hx hne => ?_, fun x hx hne => ?_, fun x hx k hk => ?_, fun x hx k hk => ?_, fun x y hx hy hne heq => ?_, T, fun x hx hne => ?_⟩
  · obtain ⟨a1, a2, a3, -⟩ := hold x hx hne
    rw [a1, a2, e 8 (by omega), en]; exact b1 x hx a3
  · obtain ⟨a1, a2, a3, a4⟩ := hold x hx hne
    rw [a1, a2]
    obtain ⟨q1, q2⟩ := b2 x hx a3
    by_cases exc : x = c
    · subst exc
      have ntl := a4 rfl
      refine ⟨fun g => ?_, fun g g13 => ?_⟩
      · obtain ⟨p, p0, p4, p7, p10, p1, p2, p3, -⟩ := fr_q w g (by rw [hf]; exact c4)
        rw [hf] at p1 p2 p3
        have := w.a9 p
        rw [← q1 g, p0]
        refine q_stay w (e0 4 (by omega)) (e 7 (by omega)) (e 9 (by omega)) p0 (fun q hq => ?_) ?_
        · rw [e10, if_neg]; rintro ⟨-, z⟩; rw [p2] at z; exact hq (by simpa using z)
        · rw [e10, if_pos ⟨g, by rw [p2]; simp⟩]
          intro z
          apply ntl; unfold tl; rw [p2, p3]; simp only [Int.toNat_natCast]; omega
      · have hd := c7 g
        rw [e13, if_neg hd.1, if_pos ⟨g, rfl⟩] at g13
        have e2 := e14 (B 17 x - 16).toNat 0 (by omega)
        rw [if_neg (fun z => hd.1 z.1), if_pos ⟨g, rfl, by omega⟩] at e2
        rw [Nat.add_zero] at e2
        rw [e2]
        have k0 := b4 (B 17 x - 16).toNat (by omega) 0 (by omega)
        have hfd : f = B 14 (4 * (B 17 x - 16).toNat) := by rw [← hf]; exact (fr_b g (by rw [hf]; exact c4)).2.2
        rw [Nat.add_zero, ← hfd] at k0
        rcases k0 with z | z
        · exact absurd z ntl
        · rw [z]; exact hp
    · have ine : B 17 x ≠ B 17 c := fun z => exc (b5 x c hx c0 a3 z)
      refine ⟨fun g => by rw [eq _ g ine]; exact q1 g, fun g g13 => ?_⟩
      have nd2 : ¬ (16 ≤ B 17 c ∧ (B 17 x - 16).toNat = (B 17 c - 16).toNat) := by omega
      have ax := w.a17 x
      have e2 := e14 (B 17 x - 16).toNat 0 (by omega)
      rw [Nat.add_zero] at e2
      by_cases ec : (B 17 x - 16).toNat = c
      · by_cases z0 : B 13 c = 0
        · rw [if_pos ⟨ec, by omega⟩] at e2
          rw [e2]
          rcases b6 x hx a3 with z | ⟨z1, z2, z3, z4⟩
          · rcases z with ⟨y, -⟩ | ⟨-, k, y, -⟩
            · omega
            · rw [ec] at y; omega
          · rw [ec] at z3; rw [hp, z3]
        · rw [if_neg (by omega), if_neg (fun z => nd2 ⟨z.1, z.2.1⟩)] at e2
          rw [e2]
          refine q2 g ?_
          rw [ec]; omega
      · rw [if_neg (fun z => ec z.1), if_neg (fun z => nd2 ⟨z.1, z.2.1⟩)] at e2
        rw [e2]
        rw [e13, if_neg ec, if_neg nd2] at g13
        exact q2 g g13
  · have a13 := w.a13 x
    rw [e13] at hk
    by_cases ex : x = c
    · subst ex
      rw [if_pos rfl] at hk
      rw [e14 _ _ (by omega), if_pos ⟨rfl, by omega⟩, et]
      exact back
    · rw [if_neg ex] at hk
      have e17x : B' 17 x = B 17 x := by rw [e17, cs_f (fun z => ex z.2)]
      have e18x : B' 18 x = B 18 x := by rw [e18, cs_f (fun z => ex z.2)]
      rw [e17x, e18x, et]
      by_cases g : 16 ≤ B 17 c ∧ x = (B 17 c - 16).toNat
      · rw [if_pos g] at hk
        rw [e14 _ _ (by omega), if_neg (fun z => ex z.1), if_pos ⟨g.1, g.2, by omega⟩]
        exact b3 x hx (k + 1) (by omega)
      · rw [if_neg g] at hk
        rw [e14 _ _ (by omega), if_neg (fun z => ex z.1), if_neg (fun z => g ⟨z.1, z.2.1⟩)]
        exact b3 x hx k hk
  · have a13 := w.a13 x
    rw [e13] at hk
    by_cases ex : x = c
    · subst ex
      rw [if_pos rfl] at hk
      have nd2 : ¬ (16 ≤ B 17 x ∧ x = (B 17 x - 16).toNat) := fun z => (c7 z.1).1 z.2.symm
      rw [e14 _ _ (by omega), if_neg (by omega), if_neg (fun z => nd2 ⟨z.1, z.2.1⟩), et]
      have e2 := e14 x (k + 1) (by omega)
      rw [← Nat.add_assoc] at e2
      by_cases ek : (k : Int) + 1 = B 13 x
      · rw [if_pos ⟨rfl, by omega⟩] at e2
        rw [e2]
        rcases b3 x hx k ek with z | z
        · exact .inl z
        · right; rw [z.2, hp]
      · rw [if_neg (by omega), if_neg (fun z => nd2 ⟨z.1, z.2.1⟩)] at e2
        rw [e2]
        exact b4 x hx k (by omega)
    · rw [if_neg ex] at hk
      rw [et]
      by_cases g : 16 ≤ B 17 c ∧ x = (B 17 c - 16).toNat
      · rw [if_pos g] at hk
        have e2 := e14 x (k + 1) (by omega)
        rw [← Nat.add_assoc, if_neg (fun z => ex z.1), if_pos ⟨g.1, g.2, by omega⟩] at e2
        rw [e14 _ _ (by omega), if_neg (fun z => ex z.1), if_pos ⟨g.1, g.2, by omega⟩, e2]
        exact b4 x hx (k + 1) (by omega)
      · rw [if_neg g] at hk
        have e2 := e14 x (k + 1) (by omega)
        rw [← Nat.add_assoc, if_neg (fun z => ex z.1), if_neg (fun z => g ⟨z.1, z.2.1⟩)] at e2
        rw [e14 _ _ (by omega), if_neg (fun z => ex z.1), if_neg (fun z => g ⟨z.1, z.2.1⟩), e2]
        exact b4 x hx k hk
  · obtain ⟨a1, -, a3, -⟩ := hold x hx hne
    obtain ⟨a1', -, a3', -⟩ := hold y hy (by rw [← heq]; exact hne)
    rw [a1, a1'] at heq
    exact b5 x y hx hy a3 heq
  · obtain ⟨a1, a2, a3, a4⟩ := hold x hx hne
    rw [a1, a2]
    by_cases exc : x = c
    · subst exc
      have ntl := a4 rfl
      rcases b6 x hx a3 with z | ⟨z1, z2, z3, z4⟩
      · left
        rcases z with ⟨y1, y2, y3⟩ | ⟨y1, k, y2, y3, y4⟩
        · left
          refine ⟨y1, by rw [e 7 (by omega)]; exact y2, ?_⟩
          rw [e 9 (by omega), e10]
          obtain ⟨p, p0, p4, p7, p10, p1, p2, p3, -⟩ := fr_q w y1 (by rw [hf]; exact c4)
          rw [hf] at p1 p2 p3
          split
          · have : B 10 p + 1 ≠ B 9 p := fun z => by apply ntl; unfold tl; rw [p2, p3]; simp only [Int.toNat_natCast]; omega
            have e5 : (B 18 x).toNat = p := by rw [← hp, p2]; simp
            rw [e5]; omega
          · exact y3
        · right
          have hd := c7 y1
          have hfd : f = B 14 (4 * (B 17 x - 16).toNat) := by rw [← hf]; exact (fr_b y1 (by rw [hf]; exact c4)).2.2
          have k0 : k ≠ 0 := by intro z; rw [z, Nat.add_zero, ← hfd] at y4; exact ntl y4
          obtain ⟨k', rfl⟩ : ∃ k', k = k' + 1 := ⟨k - 1, by omega⟩
          have e2 : B' 14 (4 * (B 17 x - 16).toNat + k') = B 14 (4 * (B 17 x - 16).toNat + (k' + 1)) := by
            rw [e14 _ _ (by omega), if_neg (fun z => hd.1 z.1), if_pos ⟨y1, rfl, by omega⟩]; rfl
          refine ⟨y1, k', ?_, by rw [e2]; exact y3, by rw [et, e2]; exact y4⟩
          rw [e13, if_neg hd.1, if_pos ⟨y1, rfl⟩]; omega
      · right
        have hd := c7 z1
        rw [e17, e18, cs_f (fun z => hd.1 z.2), cs_f (fun z => hd.1 z.2)]
        exact ⟨z1, z2, z3, z4⟩
    · have ine : B 17 x ≠ B 17 c := fun z => exc (b5 x c hx c0 a3 z)
      rcases b6 x hx a3 with z | ⟨z1, z2, z3, z4⟩
      · exact .inl (ebt _ _ ine z)
      · by_cases g : tl B f ∧ (B 17 x - 16).toNat = c
        · left; right
          have k0 : (((B 13 c).toNat : Nat) : Int) = B 13 c := by omega
          have e2 : B' 14 (4 * (B 17 x - 16).toNat + (B 13 c).toNat) = f := by rw [e14 _ _ (by omega), if_pos ⟨g.2, k0⟩]
          refine ⟨z1, (B 13 c).toNat, ?_, by rw [e2, hp, ← z3, g.2], by rw [et, e2]; exact g.1⟩
          rw [e13, if_pos g.2]; omega
        · right
          rw [e17, e18, cs_f g, cs_f g]; exact ⟨z1, z2, z3, z4⟩
theorem le_ok {B : AA} (h : iv B) (hw : iW B) {i : Int} (h0 : 0 ≤ i) (hi : i < 176) (hc : cl B i) : ∀ c, c < 160 → B 17 c ≠ i := fun c hc2 e => by
  obtain ⟨b1, b2, -⟩ := hw
  obtain ⟨g1, g2⟩ := hc
  have hne : B 17 c ≠ -1 := by omega
  have q1 := b1 c hc2 hne
  obtain ⟨q2, q3⟩ := b2 c hc2 hne
  rw [e] at q1 q2 q3
  by_cases g : i < 16
  · obtain ⟨p, p0, p4, p7, p10, p1, p2, p3, -⟩ := fr_q h.1 g g1
    rw [p2, ← p0, q2 g] at g2; exact q1 g2
  · obtain ⟨a, -, b⟩ := fr_b (by omega) g1
    have := h.1.a13 (i - 16).toNat
    rw [b, q3 (by omega) (by omega)] at g2; exact q1 g2
theorem le_t {B : AA} {i : Int} (g : cl B i) : leI B i = lv1 (tk B i (fr B i)) (fr B i / 16).toNat (fr B i) := by unfold leI; rw [cs_t g]
theorem iW_le {B : AA} (h : iv B) (hw : iW B) {i : Int} (h0 : 0 ≤ i) (hi : i < 176) : iW (leI B i) := by
  by_cases g : cl B i
  case neg =>
    have : leI B i = B := by unfold leI; rw [cs_f g]
    rw [this]; exact hw
  have own := le_ok h hw h0 hi g
  have g1 := g.1
  obtain ⟨b1, b2, b3, b4, b5, T, b6⟩ := hw
  have w := h.1
  rw [le_t g]
  have hfp : 16 ≤ i → 0 < B 13 (i - 16).toNat ∧ B 13 (i - 16).toNat ≤ 4 := fun q => fr_pos w q g1
  have e : ∀ k, k ≠ 0 ∧ k ≠ 11 ∧ k ≠ 12 ∧ k ≠ 10 ∧ k ≠ 13 ∧ k ≠ 14 ∧ k ≠ 15 → lv1 (tk B i (fr B i)) (fr B i / 16).toNat (fr B i) k = B k := fun k hk => by
    rw [lv_r _ _ _ (by omega), tk_r _ _ _ (by omega)]
  have e4 : lv1 (tk B i (fr B i)) (fr B i / 16).toNat (fr B i) 0 4 = B 0 4 := by rw [lv0 _ _ _ (by omega), tk_r _ _ _ (by omega)]
  have e10 : ∀ q, lv1 (tk B i (fr B i)) (fr B i / 16).toNat (fr B i) 10 q = if i < 16 ∧ q = (fr B i / 16).toNat then B 10 q + 1 else B 10 q := fun q => by
    rw [lv_r _ _ _ (by omega), tk10]
  have e13 : ∀ c, lv1 (tk B i (fr B i)) (fr B i / 16).toNat (fr B i) 13 c = if 16 ≤ i ∧ c = (i - 16).toNat then B 13 c - 1 else B 13 c := fun c => by
    rw [lv_r _ _ _ (by omega), tk13]
  have e14 : ∀ c k, k < 4 → lv1 (tk B i (fr B i)) (fr B i / 16).toNat (fr B i) 14 (4 * c + k) = if 16 ≤ i ∧ c = (i - 16).toNat ∧ (k : Int) < B 13 c - 1 then B 14 (4 * c + k + 1) else B 14 (4 * c + k) := fun c k hk => by
    rw [lv_r _ _ _ (by omega), tk14 _ _ _ (fun q => (hfp q).2) _ _ hk]
  generalize hB' : lv1 (tk B i (fr B i)) (fr B i / 16).toNat (fr B i) = B' at *
  have en : ∀ x, nd B' x = nd B x := nd_c (e 2 (by omega))
  have et : ∀ x, tl B' x = tl B x := fun x => by unfold tl; rw [e 9 (by omega)]
  have e17 : B' 17 = B 17 := e 17 (by omega)
  have e18 : B' 18 = B 18 := e 18 (by omega)
  have eq : ∀ x, x < 16 → x ≠ i → q0 B' x = q0 B x := fun x hx hne => q_same e4 (e 7 (by omega)) (e 9 (by omega)) (fun q h7 => by
    rw [e10, if_neg]
    rintro ⟨z1, z2⟩
    obtain ⟨p, p0, -, p7, -, -, p1, -⟩ := fr_q w z1 g1
    rw [p1] at z2
    simp only [Int.toNat_natCast] at z2
    subst z2; exact hne (by rw [← h7, p7]))
  have ebt : ∀ x p, x ≠ i → bt B x p → bt B' x p := fun x p hne hb => by
    rcases hb with ⟨q1, q2, q3⟩ | ⟨q1, k, q2, q3, q4⟩
    · left
      refine ⟨q1, by rw [e 7 (by omega)]; exact q2, ?_⟩
      rw [e 9 (by omega), e10, if_neg]
      · exact q3
      · rintro ⟨z1, z2⟩
        obtain ⟨p', p0, -, p7, -, -, p1, -⟩ := fr_q w z1 g1
        rw [p1] at z2
        simp only [Int.toNat_natCast] at z2
        rw [z2] at q2; exact hne (by rw [← q2, p7])
    · right
      have a13 := w.a13 (x - 16).toNat
      have nd2 : ¬ (16 ≤ i ∧ (x - 16).toNat = (i - 16).toNat) := by omega
      have e14k : B' 14 (4 * (x - 16).toNat + k) = B 14 (4 * (x - 16).toNat + k) := by
        rw [e14 _ _ (by omega), if_neg (fun z => nd2 ⟨z.1, z.2.1⟩)]
      refine ⟨q1, k, ?_, by rw [e14k]; exact q3, by rw [et, e14k]; exact q4⟩
      rw [e13, if_neg nd2]; exact q2
  refine ⟨fun x hx hne => ?_, fun x hx hne => ?_, fun x hx k hk => ?_, fun x hx k hk => ?_, fun x y hx hy hne heq => ?_, T, fun x hx hne => ?_⟩
  · rw [e17] at hne ⊢; rw [e18, e 8 (by omega), en]; exact b1 x hx hne
  · rw [e17] at hne ⊢; rw [e18]
    obtain ⟨q1, q2⟩ := b2 x hx hne
    have ine := own x hx
    have ax := w.a17 x
    refine ⟨fun g => by rw [eq _ g ine]; exact q1 g, fun g g13 => ?_⟩
    have nd2 : ¬ (16 ≤ i ∧ (B 17 x - 16).toNat = (i - 16).toNat) := by omega
    rw [e13, if_neg nd2] at g13
    have e2 := e14 (B 17 x - 16).toNat 0 (by omega)
    rw [Nat.add_zero, if_neg (fun z => nd2 ⟨z.1, z.2.1⟩)] at e2
    rw [e2]; exact q2 g g13
  · have a13 := w.a13 x
    rw [e13] at hk
    rw [e17, e18, et]
    by_cases q : 16 ≤ i ∧ x = (i - 16).toNat
    · rw [if_pos q] at hk
      rw [e14 _ _ (by omega), if_pos ⟨q.1, q.2, by omega⟩]
      exact b3 x hx (k + 1) (by omega)
    · rw [if_neg q] at hk
      rw [e14 _ _ (by omega), if_neg (fun z => q ⟨z.1, z.2.1⟩)]
      exact b3 x hx k hk
  · have a13 := w.a13 x
    rw [e13] at hk
    rw [et]
    have e2 := e14 x (k + 1) (by split at hk <;> omega)
    rw [← Nat.add_assoc] at e2
    by_cases q : 16 ≤ i ∧ x = (i - 16).toNat
    · rw [if_pos q] at hk
      rw [if_pos ⟨q.1, q.2, by omega⟩] at e2
      rw [e14 _ _ (by omega), if_pos ⟨q.1, q.2, by omega⟩, e2]
      exact b4 x hx (k + 1) (by omega)
    · rw [if_neg q] at hk
      rw [if_neg (fun z => q ⟨z.1, z.2.1⟩)] at e2
      rw [e14 _ _ (by omega), if_neg (fun z => q ⟨z.1, z.2.1⟩), e2]
      exact b4 x hx k hk
  · rw [e17] at hne heq; exact b5 x y hx hy hne heq
  · rw [e17] at hne ⊢; rw [e18]
    rcases b6 x hx hne with z | ⟨z1, z2, z3, z4⟩
    · exact .inl (ebt _ _ (own x hx) z)
    · exact .inr ⟨z1, z2, z3, z4⟩
