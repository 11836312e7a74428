theorem Rg_u {B : AA} {st L : Nat} {q q' : Nat → Int} {n n' : Nat} (h : Rg B st L q n) (h' : Rg B st L q' n') : ∀ i, i < n → i < n' → q i = q' i := by
  intro i
  induction i with
  | zero => intro a b; rw [h.1 a, h'.1 b]
  | succ i ih =>
    intro a b
    have e := ih (by omega) (by omega)
    obtain ⟨x, y, h1, h2, h3⟩ := h.2 i a
    obtain ⟨x', y', g1, g2, g3⟩ := h'.2 i b
    have : x = x' := by omega
    subst this
    have := lw_u h3 g3
    subst this
    rw [h2, g2]
theorem c_behind {A B X : AA} {F N : Nat → Int} (hb : iv B) (E : Eqs A B) (hG : Gs B F N 256) (hX : Ag A F N X) {st L : Nat} (hst : st < 160) (h55 : X 5 5 = (st : Int)) (h56 : X 5 6 = (L : Int)) (hL : L ≤ 1000) (hd : ds B st L st) {k : Nat} (hk : k < L) {post : Int → AA → Prop} (hp : ∀ q X', Rg B st L q (k + 1) → Ag A F N X' → post (q k) X') : zp_CR_channelBehind X k post := by
  have w := hb.1
  unfold zp_CR_channelBehind
  rw [h55]
  refine ⟨by omega, fun _ => ?_, fun z => by omega⟩
  refine c_close hb hG (by rw [hX.1 10 (by omega), E.c10]) hX.2.1 hX.2.2 hst (fun C Q hF => ?_)
  have hA := Ag_3 hX C Q
  have e5 : X3 X C Q 5 = X 5 := X3_r _ _ _ (by omega)
  have hCr := hF.2
  have lev : ∀ y, y < 160 → ∀ j : Nat, 1 ≤ j → j < L → (C y = (j : Int) ↔ ds B st j y) := by
    rcases hF.1 with ⟨-, f⟩ | ⟨L', f1, f2, f3⟩
    · exact absurd hd (f L)
    · have := ds_u hd f2
      subst this; exact f3
  rintro v rfl
  rw [e5, h55]
  have loop : ∀ (m n : Nat) (x : Nat) (q : Nat → Int), n + m = k + 1 → 1 ≤ n → x < 160 → Rg B st L q n → q (n - 1) = (x : Int) → ds B st (L - n + 1) x → zl_CR_channelBehind_26 (X3 X C Q) k (fun y2 y3 => ze_CR_channelBehind_54 (X3 X C Q) y2 post) post (m + 1) x n := by
    intro m
    induction m with
    | zero =>
      intro n x q e n1 hx hq hqx hdx
      refine ⟨by omega, by omega, fun _ => ?_, fun g => by omega⟩
      have en : n = k + 1 := by omega
      subst en
      unfold ze_CR_channelBehind_54
      rw [← hqx]; exact hp q _ hq hA
    | succ m ih =>
      intro n x q e n1 hx hq hqx hdx
      refine ⟨by omega, by omega, fun g => by omega, fun _ => ⟨by omega, fun z => by omega, fun _ => ?_⟩⟩
      rw [e5, h56]
      have ej : (L : Int) - n = ((L - n : Nat) : Int) := by omega
      rw [ej]
      refine c_lowest hb (by rw [hA.1 6 (by omega), E.c6]) (by rw [hA.1 7 (by omega), E.c7]) (by rw [hA.1 10 (by omega), E.c10]) (by rw [hA.1 1 (by omega), E.s2]) (X3_30 X C Q) hCr hx (by omega) (fun y y1 y2 y3 => ?_) (fun hno => ?_)
      · have hy := (Le_rg w y1).2
        have dy := (lev y hy (L - n) (by omega) (by omega)).mp y2
        have hlw : lw B st x (L - n) y := ⟨y1, dy, fun z hz u => y3 z hz ⟨u.1, (lev z (Le_rg w u.1).2 (L - n) (by omega) (by omega)).mpr u.2⟩⟩
        have := ih (n + 1) y (fun i => if i = n then (y : Int) else q i) (by omega) (by omega) hy ⟨fun _ => ?_, fun i hi => ?_⟩ ?_ ?_
        · rw [show ((n + 1 : Nat) : Int) = (n : Int) + 1 by omega] at this; exact this
        · dsimp only; rw [if_neg (by omega)]; exact hq.1 (by omega)
        · dsimp only
          by_cases en : i + 1 = n
          · refine ⟨x, y, ?_, by rw [if_pos en], ?_⟩
            · rw [if_neg (by omega), show i = n - 1 by omega]; exact hqx
            · rw [show L - 1 - i = L - n by omega]; exact hlw
          · obtain ⟨x', y', p1, p2, p3⟩ := hq.2 i (by omega)
            exact ⟨x', y', by rw [if_neg (by omega)]; exact p1, by rw [if_neg en]; exact p2, p3⟩
        · rw [if_pos (by omega)]
        · rw [show L - (n + 1) + 1 = L - n by omega]; exact dy
      · exfalso
        obtain ⟨b, b1, b2⟩ := ds_dn (by omega) hdx
        exact hno b ⟨b1, (lev b (Le_rg w b1).2 (L - n) (by omega) (by omega)).mpr b2⟩
  have := loop k 1 st (fun _ => (st : Int)) (by omega) (by omega) hst ⟨fun _ => rfl, fun i hi => by omega⟩ rfl (by rw [show L - 1 + 1 = L by omega]; exact hd)
  exact ⟨_, this⟩
theorem op_ringAt {n : Nat} {A B : AA} (h : RR n A B) {k : Int} (hk : rg k) : zp_CN_ringAt A k (fun r S => zp_M_ringAt B k (fun t T => T 0 0 = 0 ∧ r = t ∧ RR (n + 1) S T)) (fun E S => E = "java/lang/IndexOutOfBoundsException" ∧ zp_M_ringAt B k (fun t T => T 0 0 = 1 ∧ RR (n + 1) S T)) := by
  obtain ⟨⟨hr, h22⟩, hg, h5⟩ := id h
  have R1 : RR (n + 1) A (zU B 0 0 0) := RR_s (RR_0 h 0)
  have g0 := gd_same (same_00 B 0) hg
  have l0 := g0.1.1.l
  unfold zp_CN_ringAt
  refine c_search g0.1 R1.1.1.1 (fun F N X hG hX hB hle => ?_)
  have bs := Bs_s hB
  have bad : ¬ (0 ≤ k ∧ k < X 5 6) → zp_M_ringAt B k (fun t T => T 0 0 = 1 ∧ RR (n + 1) X T) := fun q => by
    unfold zp_M_ringAt
    rintro _ rfl
    refine r_findRing g0.1 (fun G T best start hT hB2 hb160 _ => ?_)
    have eb := (Bs_u hB hB2).1
    refine r_within hk (by omega) (by omega) (fun a1 a2 => by omega) (fun _ => ⟨by omega, fun _ => ?_, fun z => absurd rfl z⟩)
    rintro _ rfl
    exact ⟨zU_s _ _ _ _, RR_0 (RR_Ag R1 hX hT) 1⟩
  refine ⟨hk, fun g => ⟨rfl, bad (by omega)⟩, fun g => ⟨hk, by omega, fun g1 => ?_, fun g1 => ⟨rfl, bad (by omega)⟩⟩⟩
  obtain ⟨k', rfl⟩ : ∃ k' : Nat, k = (k' : Int) := ⟨k.toNat, by omega⟩
  rcases id hB with ⟨-, q, -⟩ | ⟨st, L, q1, q2, q3, q4, -⟩
  · omega
  · refine c_behind g0.1 R1.1.1.1 hG hX (by omega) q1 q2 (by omega) q4 (by omega) (fun qq X' hq hX' => ?_)
    unfold zp_M_ringAt
    rintro _ rfl
    refine r_findRing g0.1 (fun G T best start hT hB2 hb160 hR => ?_)
    obtain ⟨e1, e2⟩ := Bs_u hB hB2
    have hRg := hR st L (by omega) (by omega)
    refine r_within hk (by omega) (by omega) (fun a1 a2 => ⟨by omega, fun z => by omega, fun _ => ⟨by omega, ?_, ?_, RR_Ag R1 hX' hT⟩⟩) (fun z => by omega)
    · rw [hT.1 0 (by omega), zU_s]
    · simp only [Int.toNat_natCast]
      exact Rg_u hq hRg k' (by omega) (by omega)
