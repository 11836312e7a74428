/-! the program: the shortest way round, going back -/
abbrev X3 (X : AA) (C Q : Nat → Int) : AA := zR (zR X 30 C) 31 Q
theorem X3_r (X : AA) (C Q : Nat → Int) {k : Nat} (h : k ≠ 30 ∧ k ≠ 31) : X3 X C Q k = X k := by show zR (zR X 30 C) 31 Q k = X k; rw [zR_n _ _ h.2, zR_n _ _ h.1]
theorem X3_30 (X : AA) (C Q : Nat → Int) : X3 X C Q 30 = C := by show zR (zR X 30 C) 31 Q 30 = C; rw [zR_n _ _ (by omega), zR_s]
theorem X3_31 (X : AA) (C Q : Nat → Int) : X3 X C Q 31 = Q := zR_s _ _ _
theorem X3_u (X : AA) (C Q : Nat → Int) (i : Nat) (a : Int) : zU (X3 X C Q) 30 i a = X3 X (fun j => if j = i then a else C j) Q := by
  show zU (zR (zR X 30 C) 31 Q) 30 i a = zR (zR X 30 _) 31 Q
  rw [← zR_cm _ (by omega : (30 : Nat) ≠ 31), zU_zR]
theorem X3_v (X : AA) (C Q : Nat → Int) (i : Nat) (a : Int) : zU (X3 X C Q) 31 i a = X3 X C (fun j => if j = i then a else Q j) := zU_zR _ _ _ _ _
def K0 (B : AA) (s d : Nat) (S : Nat → Prop) (i1 m : Nat) (C Q : Nat → Int) : Prop :=
  (∀ x, x < 160 → C x = 0 ∨ 1 ≤ C x ∧ C x ≤ (d : Int) + 1) ∧ (∀ x, x < 160 → ∀ j : Nat, 1 ≤ j → j ≤ d → (C x = (j : Int) ↔ ds B s j x)) ∧ (∀ x, x < 160 → (C x = (d : Int) + 1 ↔ na B s d x ∧ S x)) ∧ (∀ x : Nat, x < 160 → ((∃ i, i1 ≤ i ∧ i < m ∧ Q i = (x : Int)) ↔ C x = (d : Int) + 1 ∧ x ≠ s)) ∧ ((m : Int) = 1 + sm 160 (fun x => if x = s ∨ C x = 0 then 0 else 1)) ∧ (∀ i, i < m → 0 ≤ Q i ∧ Q i < 160)
theorem K0_m {B : AA} {s d : Nat} {S : Nat → Prop} {i1 m : Nat} {C Q : Nat → Int} (h : K0 B s d S i1 m C Q) (hs : s < 160) : m ≤ 160 ∧ (∀ x, x < 160 → x ≠ s → C x = 0 → m ≤ 159) := by
  obtain ⟨-, -, -, -, h5, -⟩ := h
  have le : ∀ n : Nat, n ≤ 160 → sm n (fun x => if x = s ∨ C x = 0 then (0 : Int) else 1) ≤ n - (if s < n then 1 else 0) ∧ ∀ x, x < n → x ≠ s → C x = 0 → sm n (fun x => if x = s ∨ C x = 0 then (0 : Int) else 1) ≤ n - 1 - (if s < n then 1 else 0) := by
    intro n
    induction n with
    | zero => intro _; refine ⟨by simp [sm], fun x hx => by omega⟩
    | succ n ih =>
      intro hn
      obtain ⟨a, b⟩ := ih (by omega)
      rw [sm]
      by_cases es : s = n
      · subst es
        rw [if_neg (by omega)] at a
        rw [if_pos (.inl rfl), if_pos (by omega)]
        refine ⟨by omega, fun x hx hne h0 => ?_⟩
        have := b x (by omega) hne h0
        rw [if_neg (by omega)] at this
        omega
      · have e1 : (if s < n + 1 then (1 : Int) else 0) = if s < n then 1 else 0 := by
          by_cases q : s < n
          · rw [if_pos q, if_pos (by omega)]
          · rw [if_neg q, if_neg (by omega)]
        rw [e1]
        have c : (if n = s ∨ C n = 0 then (0 : Int) else 1) ≤ 1 := by split <;> omega
        refine ⟨by omega, fun x hx hne h0 => ?_⟩
        by_cases ex : x = n
        · subst ex; rw [if_pos (.inr h0)]; omega
        · have := b x (by omega) hne h0
          omega
  obtain ⟨a, b⟩ := le 160 (Nat.le_refl _)
  rw [if_pos hs] at a
  refine ⟨by omega, fun x hx hne h0 => ?_⟩
  have := b x hx hne h0
  rw [if_pos hs] at this
  omega
theorem c_back {B X : AA} (w : wf B) {N : Nat → Int} (h10 : X 10 = B 6) (h29 : X 29 = N) {s d at' y i1 : Nat} (hs : s < 160) (hy : y < 160) (hd : d ≤ 900) (hne : ∀ x, Le B x y → x ≠ y) {ex : AA → Int → Int → Int → Prop} {post : Int → AA → Prop} : ∀ (ks : List Nat) (S : Nat → Prop) (C Q : Nat → Int) (m : Nat) (v : Int) (cnt : Nat), ch N v ks → ks.length + cnt ≤ 256 → (∀ k, k ∈ ks → k < 256 ∧ tg B k = (y : Int)) → K0 B s d S i1 m C Q → i1 ≤ m → C y = (d : Int) → (∀ C' Q' m' v' c', K0 B s d (fun x => S x ∨ ∃ k, k ∈ ks ∧ B 6 k = (x : Int)) i1 m' C' Q' → m ≤ m' → (∀ i, i < m → Q' i = Q i) → ex (X3 X C' Q') m' v' c') → zl_CR_closeAt_60 s at' y ex post (ks.length + 1) (X3 X C Q) m v cnt := by
  intro ks
  induction ks with
  | nil =>
    intro S C Q m v cnt hch hl hks hK hm hC hex
    have hv : v = -1 := hch
    have fin := hex C Q m v cnt (by
      obtain ⟨a, b, c, e, f, g⟩ := hK
      refine ⟨a, b, fun x hx => ?_, e, f, g⟩
      rw [c x hx]
      exact ⟨fun z => ⟨z.1, .inl z.2⟩, fun z => ⟨z.1, z.2.elim id (fun ⟨k, q, _⟩ => absurd q List.not_mem_nil)⟩⟩) (Nat.le_refl _) (fun _ _ => rfl)
    refine ⟨by omega, fun _ => fin, fun _ => ⟨by omega, fun _ => fin, fun z => absurd hv z⟩⟩
  | cons k ks ih =>
    intro S C Q m v cnt hch hl hks hK hm hC hex
    obtain ⟨hv, hch2⟩ := hch
    obtain ⟨k256, hkt⟩ := hks k List.mem_cons_self
    have hb6 : 0 ≤ B 6 k := by
      refine Int.not_lt.mp fun z => ?_
      unfold tg at hkt; rw [if_pos z] at hkt; omega
    have a6 := w.a6 k
    obtain ⟨x, ex6⟩ : ∃ x : Nat, B 6 k = (x : Int) := ⟨(B 6 k).toNat, by omega⟩
    have hx : x < 160 := by omega
    have hle : Le B x y := ⟨k, k256, trivial, ex6, hkt⟩
    have hxy := hne x hle
    obtain ⟨a, b, c, e, f, g⟩ := id hK
    have cl : (k :: ks).length = ks.length + 1 := rfl
    subst hv
    have e10 : X3 X C Q 10 = B 6 := by rw [X3_r _ _ _ (by omega), h10]
    have e29 : X3 X C Q 29 = N := by rw [X3_r _ _ _ (by omega), h29]
    have ax := a x hx
    -- the set grows by x
    have grow : ∀ (C' Q' : Nat → Int) (m' : Nat), K0 B s d (fun z => S z ∨ z = x) i1 m' C' Q' → m ≤ m' → (∀ i, i < m → Q' i = Q i) → C' y = (d : Int) → zl_CR_closeAt_60 s at' y ex post (ks.length + 1) (X3 X C' Q') m' (N k) (cnt + 1 : Nat) := fun C' Q' m' hK' hm' hQ' hC' => by
      refine ih (fun z => S z ∨ z = x) C' Q' m' (N k) (cnt + 1) hch2 (by omega) (fun k' hk' => hks k' (List.mem_cons_of_mem _ hk')) hK' (by omega) hC' (fun C2 Q2 m2 v2 c2 hK2 hm2 hQ2 => ?_)
      refine hex C2 Q2 m2 v2 c2 ?_ (by omega) (fun i hi => by rw [hQ2 i (by omega), hQ' i hi])
      obtain ⟨a2, b2, c2', e2, f2, g2⟩ := hK2
      refine ⟨a2, b2, fun z hz => ?_, e2, f2, g2⟩
      rw [c2' z hz]
      constructor
      · rintro ⟨q1, (q | q) | ⟨k', q2, q3⟩⟩
        · exact ⟨q1, .inl q⟩
        · exact ⟨q1, .inr ⟨k, List.mem_cons_self, by rw [ex6, q]⟩⟩
        · exact ⟨q1, .inr ⟨k', List.mem_cons_of_mem _ q2, q3⟩⟩
      · rintro ⟨q1, q | ⟨k', q2, q3⟩⟩
        · exact ⟨q1, .inl (.inl q)⟩
        · rcases List.mem_cons.mp q2 with q2 | q2
          · subst q2; exact ⟨q1, .inl (.inr (by omega))⟩
          · exact ⟨q1, .inr ⟨k', q2, q3⟩⟩
    have cc : ((cnt + 1 : Nat) : Int) = (cnt : Int) + 1 := by omega
    rw [cc] at grow
    refine ⟨by omega, fun z => by omega, fun _ => ⟨by omega, fun z => by omega, fun _ => ⟨by omega, ?_⟩⟩⟩
    simp only [Int.toNat_natCast]
    rw [e10, e29, X3_30]
    rintro v ev
    rw [ex6] at ev
    subst ev
    simp only [Int.toNat_natCast]
    refine ⟨by omega, fun z => by omega, fun _ => ⟨by omega, by omega, fun q => ⟨by omega, ?_⟩, fun q => ⟨by omega, by omega, ?_⟩⟩⟩
    · rintro u rfl
      refine grow C Q m ⟨a, b, fun z hz => ?_, e, f, g⟩ (Nat.le_refl _) (fun _ _ => rfl) hC
      rw [c z hz]
      refine ⟨fun t => ⟨t.1, .inl t.2⟩, fun t => ⟨t.1, ?_⟩⟩
      rcases t.2 with t2 | t2
      · exact t2
      · subst t2
        -- it has its number: it is that of this distance
        have : C z = (d : Int) + 1 := by
          refine Classical.byContradiction fun ne => ?_
          obtain ⟨j, ej⟩ : ∃ j : Nat, C z = (j : Int) := ⟨(C z).toNat, by omega⟩
          have := (b z hz j (by omega) (by omega)).mp ej
          exact na_iff.mp t.1 j (by omega) (by omega) this
        exact ((c z hz).mp this).2
    · have nax : na B s d x := na_iff.mpr (fun j j1 j2 hj => by have := (b x hx j j1 j2).mpr hj; omega)
      rintro _ rfl
      rw [hC, X3_u]
      have K1 : ∀ z, z < 160 → ((if z = x then (d : Int) + 1 else C z) = (d : Int) + 1 ↔ na B s d z ∧ (S z ∨ z = x)) := fun z hz => by
        by_cases ez : z = x
        · subst ez; rw [if_pos rfl]; exact ⟨fun _ => ⟨nax, .inr rfl⟩, fun _ => rfl⟩
        · rw [if_neg ez, c z hz]; exact ⟨fun t => ⟨t.1, .inl t.2⟩, fun t => ⟨t.1, t.2.elim id (fun u => absurd u ez)⟩⟩
      have Ka : ∀ z, z < 160 → (if z = x then (d : Int) + 1 else C z) = 0 ∨ 1 ≤ (if z = x then (d : Int) + 1 else C z) ∧ (if z = x then (d : Int) + 1 else C z) ≤ (d : Int) + 1 := fun z hz => by
        by_cases ez : z = x
        · rw [if_pos ez]; omega
        · rw [if_neg ez]; exact a z hz
      have Kb : ∀ z, z < 160 → ∀ j : Nat, 1 ≤ j → j ≤ d → ((if z = x then (d : Int) + 1 else C z) = (j : Int) ↔ ds B s j z) := fun z hz j j1 j2 => by
        by_cases ez : z = x
        · subst ez; rw [if_pos rfl]; exact ⟨fun t => by omega, fun t => absurd t (na_iff.mp nax j j1 j2)⟩
        · rw [if_neg ez]; exact b z hz j j1 j2
      have Cy : (if y = x then (d : Int) + 1 else C y) = (d : Int) := by rw [if_neg (fun z => hxy z.symm)]; exact hC
      have e29' : X3 X (fun j => if j = x then (d : Int) + 1 else C j) Q 29 = N := by rw [X3_r _ _ _ (by omega), h29]
      refine ⟨by omega, by omega, fun qs => ⟨by omega, ?_⟩, fun qs => ?_⟩
      · have xs : x = s := by omega
        rw [e29']
        rintro u rfl
        refine grow _ Q m ⟨Ka, Kb, K1, fun z hz => ?_, ?_, g⟩ (Nat.le_refl _) (fun _ _ => rfl) Cy
        · rw [e z hz]
          by_cases ez : z = x
          · subst ez; exact ⟨fun t => absurd xs t.2, fun t => absurd xs t.2⟩
          · dsimp only; rw [if_neg ez]
        · have e1 : sm 160 (fun z => if z = s ∨ (if z = x then (d : Int) + 1 else C z) = 0 then (0 : Int) else 1) = sm 160 (fun z => if z = s ∨ C z = 0 then (0 : Int) else 1) := sm_c _ (fun z hz => by
            by_cases ez : z = s
            · rw [if_pos (.inl ez), if_pos (.inl ez)]
            · rw [if_neg (c := z = x) (by omega)])
          rw [e1]; exact f
      · have xs : x ≠ s := by omega
        have m159 := (K0_m hK hs).2 x hx xs q
        refine ⟨by omega, fun z => by omega, fun _ => ⟨by omega, ?_⟩⟩
        rintro _ rfl
        rw [X3_v]
        have e29'' : X3 X (fun j => if j = x then (d : Int) + 1 else C j) (fun j => if j = m then (x : Int) else Q j) 29 = N := by rw [X3_r _ _ _ (by omega), h29]
        refine ⟨by omega, ?_⟩
        rw [e29'']
        rintro u rfl
        have := grow (fun j => if j = x then (d : Int) + 1 else C j) (fun j => if j = m then (x : Int) else Q j) (m + 1) ⟨Ka, Kb, K1, fun z hz => ?_, ?_, fun i hi => ?_⟩ (by omega) (fun i hi => by rw [if_neg (by omega)]) Cy
        · rw [show ((m + 1 : Nat) : Int) = (m : Int) + 1 by omega] at this; exact this
        · dsimp only
          have ez' := e z hz
          constructor
          · rintro ⟨i, p1, p2, p3⟩
            by_cases em : i = m
            · rw [if_pos em] at p3
              have : z = x := by omega
              subst this; rw [if_pos rfl]; exact ⟨rfl, xs⟩
            · rw [if_neg em] at p3
              have t := ez'.mp ⟨i, p1, by omega, p3⟩
              refine ⟨?_, t.2⟩
              by_cases ezx : z = x
              · rw [if_pos ezx]
              · rw [if_neg ezx]; exact t.1
          · rintro ⟨p1, p2⟩
            by_cases ezx : z = x
            · exact ⟨m, hm, by omega, by rw [if_pos rfl, ezx]⟩
            · rw [if_neg ezx] at p1
              obtain ⟨i, t1, t2, t3⟩ := ez'.mpr ⟨p1, p2⟩
              exact ⟨i, t1, by omega, by rw [if_neg (by omega)]; exact t3⟩
        · have := sm_u (f := fun z => if z = s ∨ (if z = x then (d : Int) + 1 else C z) = 0 then (0 : Int) else 1) (g := fun z => if z = s ∨ C z = 0 then (0 : Int) else 1) (j := x) (d := 1) 160 (fun z hz => by simp only [if_neg hz]) (by
            show (if x = s ∨ (if x = x then (d : Int) + 1 else C x) = 0 then (0 : Int) else 1) = (if x = s ∨ C x = 0 then (0 : Int) else 1) + 1
            rw [if_pos (c := x = s ∨ C x = 0) (.inr q), if_pos (c := x = x) rfl, if_neg (by omega)]; omega)
          rw [this, if_pos hx]; omega
        · dsimp only
          by_cases em : i = m
          · rw [if_pos em]; omega
          · rw [if_neg em]; exact g i (by omega)
