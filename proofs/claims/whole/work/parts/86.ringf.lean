/-! the shortest rings -/
def Bs (B : AA) (n : Nat) (best start : Int) : Prop := (start = -1 ∧ best = 0 ∧ ∀ c, c < n → ∀ j, ¬ ds B c j c) ∨ (∃ st L : Nat, start = (st : Int) ∧ best = (L : Int) ∧ st < n ∧ ds B st L st ∧ ∀ c, c < n → ∀ j, ds B c j c → L ≤ j ∧ (c < st → L < j))
theorem Bs_u {B : AA} {n : Nat} {b s b' s' : Int} (h : Bs B n b s) (h' : Bs B n b' s') : b = b' ∧ s = s' := by
  rcases h with ⟨h1, h2, h3⟩ | ⟨st, L, h1, h2, h3, h4, h5⟩
  · rcases h' with ⟨g1, g2, g3⟩ | ⟨st', L', g1, g2, g3, g4, g5⟩
    · omega
    · exact absurd g4 (h3 _ g3 _)
  · rcases h' with ⟨g1, g2, g3⟩ | ⟨st', L', g1, g2, g3, g4, g5⟩
    · exact absurd h4 (g3 _ h3 _)
    · have a := h5 st' g3 L' g4; have b := g5 st h3 L h4
      by_cases lt : st < st'
      · have := b.2 lt; omega
      · by_cases gt : st' < st
        · have := a.2 gt; omega
        · omega
theorem Bs_no {B : AA} {n : Nat} {b s : Int} (h : Bs B n b s) (hn : ∀ j, ¬ ds B n j n) : Bs B (n + 1) b s := by
  rcases h with ⟨h1, h2, h3⟩ | ⟨st, L, h1, h2, h3, h4, h5⟩
  · refine .inl ⟨h1, h2, fun c hc => ?_⟩
    by_cases e : c = n
    · subst e; exact hn
    · exact h3 c (by omega)
  · refine .inr ⟨st, L, h1, h2, by omega, h4, fun c hc j hj => ?_⟩
    by_cases e : c = n
    · subst e; exact absurd hj (hn j)
    · exact h5 c (by omega) j hj
theorem Bs_keep {B : AA} {n j : Nat} {b s : Int} (h : Bs B n b s) (hs : s ≠ -1) (hj : ds B n j n) (hb : b ≤ j) : Bs B (n + 1) b s := by
  rcases h with ⟨h1, -⟩ | ⟨st, L, h1, h2, h3, h4, h5⟩
  · exact absurd h1 hs
  · refine .inr ⟨st, L, h1, h2, by omega, h4, fun c hc i hi => ?_⟩
    by_cases e : c = n
    · subst e; have := ds_u hi hj; omega
    · exact h5 c (by omega) i hi
theorem Bs_new {B : AA} {n j : Nat} {b s : Int} (h : Bs B n b s) (hj : ds B n j n) (hb : s ≠ -1 → (j : Int) < b) : Bs B (n + 1) j n := by
  refine .inr ⟨n, j, rfl, rfl, by omega, hj, fun c hc i hi => ?_⟩
  by_cases e : c = n
  · subst e; have := ds_u hi hj; omega
  · rcases h with ⟨h1, h2, h3⟩ | ⟨st, L, h1, h2, h3, h4, h5⟩
    · exact absurd hi (h3 c (by omega) i)
    · have := h5 c (by omega) i hi; have := hb (by omega); omega
theorem Bs_s {B : AA} {n : Nat} {b s : Int} (h : Bs B n b s) : (s = -1 ↔ b = 0) ∧ -1 ≤ s ∧ s < (n : Int) ∧ 0 ≤ b := by
  rcases h with ⟨h1, h2, h3⟩ | ⟨st, L, h1, h2, h3, h4, h5⟩
  · omega
  · have := h4.1; omega
/-! the program -/
def Ag (A : AA) (F N : Nat → Int) (X : AA) : Prop := (∀ k, k ≠ 5 ∧ k ≠ 28 ∧ k ≠ 29 ∧ k ≠ 30 ∧ k ≠ 31 → X k = A k) ∧ X 28 = F ∧ X 29 = N
theorem Ag_3 {A : AA} {F N : Nat → Int} {X : AA} (h : Ag A F N X) (C Q : Nat → Int) : Ag A F N (X3 X C Q) := by
  refine ⟨fun k hk => ?_, ?_, ?_⟩
  · rw [X3_r _ _ _ (by omega)]; exact h.1 k hk
  · rw [X3_r _ _ _ (by omega)]; exact h.2.1
  · rw [X3_r _ _ _ (by omega)]; exact h.2.2
theorem Ag_5 {A : AA} {F N : Nat → Int} {X : AA} (h : Ag A F N X) (i : Nat) (v : Int) : Ag A F N (zU X 5 i v) := by
  refine ⟨fun k hk => ?_, ?_, ?_⟩
  · rw [zU_n _ _ (by omega)]; exact h.1 k hk
  · rw [zU_n _ _ (by omega)]; exact h.2.1
  · rw [zU_n _ _ (by omega)]; exact h.2.2
/-- a ring is at most as long as there are channels -/
theorem c_search {A B : AA} (hb : iv B) (E : Eqs A B) {post : AA → Prop} (hp : ∀ F N X, Gs B F N 256 → Ag A F N X → Bs B (4 * B 0 3).toNat (X 5 6) (X 5 5) → X 5 6 ≤ 1000 → post X) : zp_CR_search A post := by
  have w := hb.1
  have l0 := w.l
  unfold zp_CR_search
  refine c_gather hb E (fun F N hG => ?_)
  rintro _ rfl
  rintro _ rfl
  have a00 : Ag A F N (X2 A F N) := ⟨fun k hk => X2_r A F N ⟨hk.2.1, hk.2.2.1⟩, by show zR (zR A 28 F) 29 N 28 = F; rw [zR_n _ _ (by omega), zR_s], zR_s _ _ _⟩
  have a0 : Ag A F N (zU (zU (X2 A F N) 5 5 (-1)) 5 6 0) := Ag_5 (Ag_5 a00 _ _) _ _
  refine sq5 (zl_CR_search_16 (fun B' y1 => ze_CR_search_70 B' post) post) (fun c X => Ag A F N X ∧ Bs B c (X 5 6) (X 5 5) ∧ X 5 6 ≤ 1000) (4 * B 0 3).toNat (fun X k hX => ?_) (fun c hc X hX k hk => ?_) _ ⟨a0, .inl ⟨by rw [zU_j _ _ (by omega), zU_s], by rw [zU_s], fun c hc => by omega⟩, by rw [zU_s]; omega⟩
  · obtain ⟨h1, h2, h3⟩ := hX
    have e : X 1 1 = B 0 3 := by rw [h1.1 1 (by omega), E.s3]
    exact ⟨by omega, by omega, fun _ => hp F N X hG h1 h2 h3, fun g => by omega⟩
  · obtain ⟨h1, h2, h3⟩ := hX
    have e : X 1 1 = B 0 3 := by rw [h1.1 1 (by omega), E.s3]
    refine ⟨by omega, by omega, fun g => by omega, fun _ => ?_⟩
    refine c_close hb hG (by rw [h1.1 10 (by omega), E.c10]) h1.2.1 h1.2.2 (by omega) (fun C Q hF => ?_)
    have hA := Ag_3 h1 C Q
    have e5 : X3 X C Q 5 = X 5 := X3_r _ _ _ (by omega)
    have rC := hF.2 c (by omega)
    have bs := Bs_s h2
    rw [e5]
    rcases hF.1 with ⟨f1, f2⟩ | ⟨L, f1, f2, -⟩
    · refine ⟨by omega, fun _ => hk _ ⟨hA, ?_, by rw [e5]; exact h3⟩, fun z => absurd f1 z⟩
      rw [e5]; exact Bs_no h2 f2
    · have L1 := f2.1
      refine ⟨by omega, fun z => by omega, fun _ => ⟨by omega, fun z => ?_, fun z => ⟨by omega, by omega, fun q => ?_, fun q => ?_⟩⟩⟩
      · rintro _ rfl
        rintro _ rfl
        refine hk _ ⟨Ag_5 (Ag_5 hA _ _) _ _, ?_, by rw [zU_s]; omega⟩
        rw [zU_s, zU_j _ _ (by omega), zU_s, f1]
        exact Bs_new h2 f2 (fun y => absurd (bs.1.mpr z) y)
      · refine hk _ ⟨hA, ?_, by rw [e5]; exact h3⟩
        rw [e5]; exact Bs_keep h2 (fun y => z (bs.1.mp y)) f2 (by omega)
      · rintro _ rfl
        rintro _ rfl
        refine hk _ ⟨Ag_5 (Ag_5 hA _ _) _ _, ?_, by rw [zU_s]; omega⟩
        rw [zU_s, zU_j _ _ (by omega), zU_s, f1]
        exact Bs_new h2 f2 (fun _ => by omega)
/-! the reference -/
def lw (B : AA) (st x j y : Nat) : Prop := Le B x y ∧ ds B st j y ∧ ∀ z, z < y → ¬ (Le B x z ∧ ds B st j z)
def Rg (B : AA) (st L : Nat) (q : Nat → Int) (n : Nat) : Prop := (0 < n → q 0 = (st : Int)) ∧ ∀ k, k + 1 < n → ∃ x y : Nat, q k = (x : Int) ∧ q (k + 1) = (y : Int) ∧ lw B st x (L - 1 - k) y
theorem lw_u {B : AA} {st x j y z : Nat} (h : lw B st x j y) (h' : lw B st x j z) : y = z := by
  by_cases a : y < z
  · exact absurd ⟨h.1, h.2.1⟩ (h'.2.2 y a)
  · by_cases b : z < y
    · exact absurd ⟨h'.1, h'.2.1⟩ (h.2.2 z b)
    · omega
def Al (B : AA) (G : Nat → Int) (X : AA) : Prop := (∀ k, k ≠ 19 ∧ k ≠ 20 ∧ k ≠ 21 → X k = B k) ∧ X 19 = G
theorem Al_20 {B : AA} {G : Nat → Int} {X : AA} (h : Al B G X) (W : Nat → Int) : Al B G (zR X 20 W) := ⟨fun k hk => by rw [zR_n _ _ (by omega)]; exact h.1 k hk, by rw [zR_n _ _ (by omega)]; exact h.2⟩
theorem Al_21 {B : AA} {G : Nat → Int} {X : AA} (h : Al B G X) (i : Nat) (v : Int) : Al B G (zU X 21 i v) := ⟨fun k hk => by rw [zU_n _ _ (by omega)]; exact h.1 k hk, by rw [zU_n _ _ (by omega)]; exact h.2⟩
theorem r_next {B X : AA} {W : Nat → Int} (w : wf B) (hG : Gl B (fun _ => True) (X 19)) (h20 : X 20 = W) {st L x k : Nat} (hx : x < 160) (hM : Ms B st W) (hWr : ∀ c, c < 160 → -1 ≤ W c ∧ W c ≤ 1000) (hL : L ≤ 1000) (hk : k < L) {ex : Int → Prop} {post : Int → AA → Prop} (hex : ∀ y : Nat, y < 160 → (k + 1 = L → y = st) → (k + 1 < L → lw B st x (L - 1 - k) y) → ex y) (hst : st < 160) (hd : ds B st (L - k) x) : ∃ j, zl_M_findRing_96 X L st x k ex post j 0 := by
  have lev : ∀ c j : Nat, c < 160 → 1 ≤ j → (W c = (j : Int) ↔ ds B st j c) := fun c j hc hj => by
    rcases hM c hc with ⟨i, i1, i2⟩ | ⟨i1, i2⟩
    · constructor
      · intro z
        have : i = j := by omega
        subst this; exact i2
      · intro z
        have := ds_u i2 z; omega
    · exact ⟨fun z => by omega, fun z => absurd z (i2 j)⟩
  -- the search ends at the first that fits
  let good : Nat → Prop := fun y => Le B x y ∧ (if k + 1 = L then y = st else ds B st (L - 1 - k) y)
  have exi : ∃ y, y < 160 ∧ good y := by
    by_cases e : k + 1 = L
    · have e1 : L - k = 1 := by omega
      rw [e1] at hd
      exact ⟨st, hst, ds_1.mp hd, by rw [if_pos e]⟩
    · have e1 : L - k = (L - 1 - k) + 1 := by omega
      rw [e1] at hd
      obtain ⟨b, b1, b2⟩ := ds_dn (by omega) hd
      exact ⟨b, (Le_rg w b1).2, b1, by rw [if_neg e]; exact b2⟩
  have fin : ∀ y : Nat, y < 160 → good y → (∀ z, z < y → ¬ good z) → ex y := fun y hy hg hl => by
    refine hex y hy (fun e => ?_) (fun e => ?_)
    · have := hg.2; rw [if_pos e] at this; exact this
    · have h2 := hg.2; rw [if_neg (by omega)] at h2
      exact ⟨hg.1, h2, fun z hz q => hl z hz ⟨q.1, by rw [if_neg (by omega)]; exact q.2⟩⟩
  have loop : ∀ n y : Nat, y + n = 160 → (∀ z, z < y → ¬ good z) → zl_M_findRing_96 X L st x k ex post (n + 1) y := by
    intro n
    induction n with
    | zero =>
      intro y e hl
      obtain ⟨z, z1, z2⟩ := exi
      exact absurd z2 (hl z (by omega))
    | succ n ih =>
      intro y e hl
      have nxt : ¬ good y → zl_M_findRing_96 X L st x k ex post (n + 1) ((y : Int) + 1) := fun g => by
        have := ih (y + 1) (by omega) (fun z hz => by
          by_cases ez : z = y
          · subst ez; exact g
          · exact hl z (by omega))
        simpa using this
      obtain ⟨g1, g2⟩ := hG x y hx (by omega)
      have wy := hWr y (by omega)
      have ei : (160 * (x : Int) + y).toNat = 160 * x + y := by omega
      rw [zl_M_findRing_96, h20, ei]
      simp only [Int.toNat_natCast]
      refine ⟨by omega, fun g => by omega, fun _ => ⟨by omega, by omega, fun q => nxt (fun z => absurd q (g2.mpr z.1)), fun q => ⟨by omega, by omega, fun q1 => ⟨by omega, by omega, by omega, fun q2 => ?_, fun q2 => ?_⟩, fun q1 => ⟨by omega, by omega, fun q2 => ?_, fun q2 => ?_⟩⟩⟩⟩
      · refine fin y (by omega) ⟨g2.mp q, ?_⟩ hl
        rw [if_neg (by omega)]
        exact (lev y (L - 1 - k) (by omega) (by omega)).mp (by omega)
      · refine nxt (fun z => q2 ?_)
        have h2 := z.2; rw [if_neg (by omega)] at h2
        have := (lev y (L - 1 - k) (by omega) (by omega)).mpr h2
        omega
      · refine nxt (fun z => q2 ?_)
        have h2 := z.2; rw [if_pos (by omega)] at h2
        omega
      · exact fin y (by omega) ⟨g2.mp q, by rw [if_pos (by omega)]; omega⟩ hl
  exact ⟨161, by simpa using loop 160 0 (by omega) (fun z hz => by omega)⟩
