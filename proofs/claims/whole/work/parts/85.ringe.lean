/-! the program: the length of the shortest ring with a channel -/
def Fi (B : AA) (s : Nat) (C : Nat → Int) : Prop := ((C s = 0 ∧ ∀ j, ¬ ds B s j s) ∨ (∃ L : Nat, C s = (L : Int) ∧ ds B s L s ∧ ∀ x, x < 160 → ∀ j : Nat, 1 ≤ j → j < L → (C x = (j : Int) ↔ ds B s j x))) ∧ ∀ x, x < 160 → 0 ≤ C x ∧ C x ≤ 1000
def Ly (B : AA) (s d i0 i1 : Nat) (Q : Nat → Int) : Prop := (d = 0 ∧ i0 = 0 ∧ i1 = 1 ∧ Q 0 = (s : Int)) ∨ (1 ≤ d ∧ ∀ x : Nat, x < 160 → ((∃ i, i0 ≤ i ∧ i < i1 ∧ Q i = (x : Int)) ↔ ds B s d x ∧ x ≠ s))
def Sx (B : AA) (i0 at' : Nat) (Q : Nat → Int) (x : Nat) : Prop := ∃ i b : Nat, i0 ≤ i ∧ i < at' ∧ Q i = (b : Int) ∧ Le B x b
theorem Ly_up {B : AA} (w : wf B) {s d i0 i1 at' x : Nat} {Q : Nat → Int} (h : Ly B s d i0 i1 Q) (ha : at' ≤ i1) (hn : na B s d x) (hS : Sx B i0 at' Q x) : ds B s (d + 1) x := by
  obtain ⟨i, b, h1, h2, h3, h4⟩ := hS
  rcases h with ⟨rfl, e0, e1, e2⟩ | ⟨hd, h⟩
  · have : i = 0 := by omega
    subst this
    have : b = s := by omega
    subst this; exact ds_1.mpr h4
  · have := (h b (Le_rg w h4).2).mp ⟨i, h1, by omega, h3⟩
    exact ds_up hn h4 this.1
theorem Ly_dn {B : AA} (w : wf B) {s d i0 i1 x : Nat} {Q : Nat → Int} (h : Ly B s d i0 i1 Q) (hs : d = 0 ∨ ¬ ds B s d s) (hx : ds B s (d + 1) x) : Sx B i0 i1 Q x := by
  rcases h with ⟨rfl, e0, e1, e2⟩ | ⟨hd, h⟩
  · exact ⟨0, s, by omega, by omega, e2, ds_1.mp hx⟩
  · obtain ⟨b, b1, b2⟩ := ds_dn hd hx
    have bs : b ≠ s := fun z => by subst z; rcases hs with hs | hs; omega; exact hs b2
    obtain ⟨i, i1, i2, i3⟩ := (h b (Le_rg w b1).2).mpr ⟨b2, bs⟩
    exact ⟨i, b, i1, i2, i3, b1⟩
theorem fi_C {B : AA} (w : wf B) {s d i0 i1 at' m : Nat} {C Q : Nat → Int} (hs : s < 160) (hd : d ≤ 900) (hK : K0 B s d (Sx B i0 at' Q) i1 m C Q) (hL : Ly B s d i0 i1 Q) (ha : at' ≤ i1) (hC : C s ≠ 0) : Fi B s C := by
  obtain ⟨a, b, c, -⟩ := hK
  have as := a s hs
  refine ⟨.inr ?_, fun x hx => by have := a x hx; omega⟩
  obtain ⟨L, eL⟩ : ∃ L : Nat, C s = (L : Int) := ⟨(C s).toNat, by omega⟩
  refine ⟨L, eL, ?_, fun x hx j j1 j2 => b x hx j j1 (by omega)⟩
  by_cases e : L ≤ d
  · exact (b s hs L (by omega) e).mp eL
  · have e2 : L = d + 1 := by omega
    subst e2
    have := (c s hs).mp (by omega)
    exact Ly_up w hL ha this.1 this.2
theorem fi_E {B : AA} (w : wf B) {s d i0 i1 m : Nat} {C Q : Nat → Int} (hs : s < 160) (hd : d ≤ 900) (hK : K0 B s d (Sx B i0 i1 Q) i1 m C Q) (hL : Ly B s d i0 i1 Q) (hm : m ≤ i1) (hC : C s = 0) : Fi B s C := by
  obtain ⟨a, b, c, e, -⟩ := hK
  refine ⟨.inl ⟨hC, ?_⟩, fun x hx => by have := a x hx; omega⟩
  have low : ∀ j, 1 ≤ j → j ≤ d → ¬ ds B s j s := fun j j1 j2 z => by have := (b s hs j j1 j2).mpr z; omega
  have none : ∀ x, ¬ ds B s (d + 1) x := fun x hx => by
    have hx160 : x < 160 := by obtain ⟨-, ⟨y, hy, -⟩, -⟩ := hx; exact (Le_rg w hy).1
    have hS := Ly_dn w hL (by by_cases z : d = 0; exact .inl z; exact .inr (low d (by omega) (Nat.le_refl _))) hx
    have cx := (c x hx160).mpr ⟨hx.2.2, hS⟩
    by_cases xs : x = s
    · subst xs; omega
    · obtain ⟨i, i1', i2, -⟩ := (e x hx160).mpr ⟨cx, xs⟩
      omega
  intro j hj
  by_cases le : j ≤ d
  · exact low j hj.1 le hj
  · exact ds_stop (by omega) none j (by omega) s hj
theorem K0_S {B : AA} {s d i1 m : Nat} {S S' : Nat → Prop} {C Q : Nat → Int} (h : K0 B s d S i1 m C Q) (hS : ∀ x, x < 160 → (S x ↔ S' x)) : K0 B s d S' i1 m C Q := by
  obtain ⟨a, b, c, r⟩ := h
  refine ⟨a, b, fun x hx => ?_, r⟩
  rw [c x hx, hS x hx]
theorem c_close1 {B X : AA} (hb : iv B) {F N : Nat → Int} (hG : Gs B F N 256) (h10 : X 10 = B 6) (h28 : X 28 = F) (h29 : X 29 = N) {s : Nat} (hs : s < 160) {post : Int → AA → Prop} (hp : ∀ C Q, Fi B s C → post (C s) (X3 X C Q)) : ∀ (n at' m d i0 i1 : Nat) (C Q : Nat → Int), at' + n = 160 → d ≤ i0 → i0 < i1 → i0 ≤ at' → at' ≤ i1 → i1 ≤ m → K0 B s d (Sx B i0 at' Q) i1 m C Q → Ly B s d i0 i1 Q → zl_CR_closeAt_19 s (fun B' y2 y3 => ze_CR_closeAt_163 B' s post) post (n + 1) (X3 X C Q) m at' := by
  have w := hb.1
  have fin : ∀ C Q, Fi B s C → ze_CR_closeAt_163 (X3 X C Q) s post := fun C Q hF => by
    unfold ze_CR_closeAt_163
    rw [X3_30]
    simp only [Int.toNat_natCast]
    exact ⟨by omega, hp C Q hF⟩
  intro n
  induction n with
  | zero =>
    intro at' m d i0 i1 C Q e hd h01 h0a ha1 h1m hK hL
    have m160 := (K0_m hK hs).1
    have e1 : at' = i1 := by omega
    subst e1
    refine ⟨by omega, by omega, fun _ => fin C Q ?_, fun g => by omega⟩
    by_cases hC : C s = 0
    · exact fi_E w hs (by omega) hK hL (by omega) hC
    · exact fi_C w hs (by omega) hK hL ha1 hC
  | succ n ih =>
    intro at' m d i0 i1 C Q e hd h01 h0a ha1 h1m hK hL
    have m160 := (K0_m hK hs).1
    refine ⟨by omega, by omega, fun g => fin C Q ?_, fun g => ⟨by omega, fun z => by omega, fun _ => ⟨by omega, ?_⟩⟩⟩
    · have e1 : at' = i1 := by omega
      subst e1
      by_cases hC : C s = 0
      · exact fi_E w hs (by omega) hK hL (by omega) hC
      · exact fi_C w hs (by omega) hK hL ha1 hC
    · rw [X3_30, X3_31, X3_r _ _ _ (by omega : (28 : Nat) ≠ 30 ∧ (28 : Nat) ≠ 31), h28]
      simp only [Int.toNat_natCast]
      have rs := hK.1 s hs
      refine ⟨by omega, fun hC => fin C Q (fi_C w hs (by omega) hK hL ha1 hC), fun hC => ⟨by omega, ?_⟩⟩
      -- the layer in which we stand
      have lay : ∃ d' i0' i1', d' ≤ i0' ∧ i0' ≤ at' ∧ at' < i1' ∧ i1' ≤ m ∧ K0 B s d' (Sx B i0' at' Q) i1' m C Q ∧ Ly B s d' i0' i1' Q := by
        by_cases lt : at' < i1
        · exact ⟨d, i0, i1, hd, h0a, lt, h1m, hK, hL⟩
        · have e1 : at' = i1 := by omega
          subst e1
          obtain ⟨a, b, c, e', f, g'⟩ := id hK
          have low : d = 0 ∨ ¬ ds B s d s := by
            by_cases z : d = 0
            · exact .inl z
            · refine .inr (fun q => ?_)
              have := (b s hs d (by omega) (Nat.le_refl _)).mpr q; omega
          have top : ∀ x, x < 160 → (C x = (d : Int) + 1 ↔ ds B s (d + 1) x) := fun x hx => by
            rw [c x hx]
            exact ⟨fun z => Ly_up w hL (Nat.le_refl _) z.1 z.2, fun z => ⟨z.2.2, Ly_dn w hL low z⟩⟩
          refine ⟨d + 1, at', m, by omega, by omega, by omega, Nat.le_refl _, ⟨fun x hx => ?_, fun x hx j j1 j2 => ?_, fun x hx => ?_, fun x hx => ?_, f, g'⟩, .inr ⟨by omega, fun x hx => ?_⟩⟩
          · have := a x hx; omega
          · by_cases ej : j = d + 1
            · subst ej; have := top x hx; rw [show ((d + 1 : Nat) : Int) = (d : Int) + 1 by omega]; exact this
            · exact b x hx j j1 (by omega)
          · have := a x hx
            exact ⟨fun z => by omega, fun z => by obtain ⟨-, i, _, q1, q2, _⟩ := z; omega⟩
          · have := a x hx
            exact ⟨fun ⟨i, q1, q2, _⟩ => by omega, fun z => by omega⟩
          · rw [e' x hx, top x hx]
      obtain ⟨d', i0', i1', l1, l2, l3, l4, hK', hL'⟩ := lay
      have hqa := hK'.2.2.2.2.2 at' (by omega)
      obtain ⟨y, ey⟩ : ∃ y : Nat, Q at' = (y : Int) := ⟨(Q at').toNat, by omega⟩
      have hy : y < 160 := by omega
      have Cy : C y = (d' : Int) := by
        rcases hL' with ⟨z0, z1, z2, z3⟩ | ⟨z0, z1⟩
        · have : at' = 0 := by omega
          subst this
          have : y = s := by omega
          subst this; omega
        · have := (z1 y hy).mp ⟨at', l2, l3, ey⟩
          exact (hK'.2.1 y hy d' z0 (Nat.le_refl _)).mpr this.1
      rintro v ev
      rw [ey] at ev
      subst ev
      refine ⟨by omega, ?_⟩
      simp only [Int.toNat_natCast]
      rintro u rfl
      refine ⟨_, c_back (at' := at') w h10 h29 hs hy (by omega) (fun x hx => Le_ne hb hx) (kl B y 256) (Sx B i0' at' Q) C Q m (F y) 0 (hG.1 y hy) (by have := kl_len (B := B) (x := y) 256; omega) (fun k hk => by have := (kl_mem _ _).mp hk; exact ⟨this.1, this.2⟩) hK' (by omega) Cy (fun C' Q' m' v' c' hK2 hm2 hQ2 => ?_)⟩
      show zl_CR_closeAt_19 s (fun B' y2 y3 => ze_CR_closeAt_163 B' s post) post (n + 1) (X3 X C' Q') m' ((at' : Int) + 1)
      have := ih (at' + 1) m' d' i0' i1' C' Q' (by omega) l1 (by omega) (by omega) (by omega) (by omega) (K0_S hK2 (fun x hx => ?_)) ?_
      · rw [show ((at' + 1 : Nat) : Int) = (at' : Int) + 1 by omega] at this; exact this
      · constructor
        · rintro (⟨i, b, q1, q2, q3, q4⟩ | ⟨k, q1, q2⟩)
          · exact ⟨i, b, q1, by omega, by rw [hQ2 i (by omega)]; exact q3, q4⟩
          · have := (kl_mem _ _).mp q1
            exact ⟨at', y, l2, by omega, by rw [hQ2 at' (by omega)]; exact ey, k, this.1, trivial, q2, this.2⟩
        · rintro ⟨i, b, q1, q2, q3, q4⟩
          by_cases ei : i = at'
          · subst ei
            rw [hQ2 i (by omega), ey] at q3
            have : b = y := by omega
            subst this
            obtain ⟨k, k1, -, k3, k4⟩ := q4
            exact .inr ⟨k, (kl_mem _ _).mpr ⟨k1, k4⟩, k3⟩
          · exact .inl ⟨i, b, q1, by omega, by rw [← hQ2 i (by omega)]; exact q3, q4⟩
      · rcases hL' with ⟨z0, z1, z2, z3⟩ | ⟨z0, z1⟩
        · exact .inl ⟨z0, z1, z2, by rw [hQ2 0 (by omega)]; exact z3⟩
        · refine .inr ⟨z0, fun x hx => ?_⟩
          rw [← z1 x hx]
          constructor
          · rintro ⟨i, q1, q2, q3⟩; exact ⟨i, q1, q2, by rw [← hQ2 i (by omega)]; exact q3⟩
          · rintro ⟨i, q1, q2, q3⟩; exact ⟨i, q1, q2, by rw [hQ2 i (by omega)]; exact q3⟩
theorem c_close {B X : AA} (hb : iv B) {F N : Nat → Int} (hG : Gs B F N 256) (h10 : X 10 = B 6) (h28 : X 28 = F) (h29 : X 29 = N) {s : Nat} (hs : s < 160) {post : Int → AA → Prop} (hp : ∀ C Q, Fi B s C → post (C s) (X3 X C Q)) : zp_CR_closeAt X s post := by
  unfold zp_CR_closeAt
  rintro _ rfl
  refine ⟨by omega, ?_⟩
  rintro _ rfl
  have e0 : zU (zF X 30 160 0) 31 (0 : Int).toNat s = X3 X (fun k => if k < 160 then 0 else X 30 k) (fun k => if k = 0 then (s : Int) else X 31 k) := by
    show _ = zR (zR X 30 _) 31 _
    funext a b
    by_cases e : a = 31
    · subst e; rw [zU_e, zR_s]; simp [zF]
    · rw [zU_n _ _ e, zR_n _ _ e]
      by_cases e2 : a = 30
      · subst e2; rw [zR_s]; simp [zF]
      · rw [zR_n _ _ e2]; simp [zF, e2]
  rw [e0]
  refine ⟨161, ?_⟩
  have := c_close1 hb hG h10 h28 h29 hs hp 160 0 1 0 0 1 (fun k => if k < 160 then 0 else X 30 k) (fun k => if k = 0 then (s : Int) else X 31 k) (by omega) (by omega) (by omega) (by omega) (by omega) (by omega) ⟨fun x hx => ?_, fun x hx j j1 j2 => by omega, fun x hx => ?_, fun x hx => ?_, ?_, fun i hi => ?_⟩ (.inl ⟨rfl, rfl, rfl, by dsimp only; rw [if_pos rfl]⟩)
  · exact this
  · dsimp only; rw [if_pos hx]; exact .inl rfl
  · dsimp only; rw [if_pos hx]
    exact ⟨fun z => by omega, fun z => by obtain ⟨-, i, _, q1, q2, _⟩ := z; omega⟩
  · dsimp only; rw [if_pos hx]
    exact ⟨fun ⟨i, q1, q2, _⟩ => by omega, fun z => by omega⟩
  · have z : ∀ m, sm m (fun _ => (0 : Int)) = 0 := by
      intro m
      induction m with
      | zero => rfl
      | succ m ih => rw [sm, ih]; rfl
    have : sm 160 (fun x => if x = s ∨ (if x < 160 then (0 : Int) else X 30 x) = 0 then (0 : Int) else 1) = sm 160 (fun _ => 0) := sm_c _ (fun k hk => by rw [if_pos (c := k = s ∨ _) (.inr (by rw [if_pos hk]))])
    rw [this, z]; rfl
  · dsimp only
    have : i = 0 := by omega
    rw [if_pos this]; omega
