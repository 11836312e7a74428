/-! the graph of channels -/
def tg (B : AA) (k : Nat) : Int := if B 6 k < 0 then -1 else B 6 (16 * B 2 (B 6 k / 4).toNat + ((k % 16 : Nat) : Int)).toNat
def Lp (B : AA) (p : Nat → Prop) (c d : Nat) : Prop := ∃ k : Nat, k < 256 ∧ p k ∧ B 6 k = (c : Int) ∧ tg B k = (d : Int)
abbrev Le (B : AA) (c d : Nat) : Prop := Lp B (fun _ => True) c d
theorem tg_rg {B : AA} (w : wf B) (k : Nat) : -1 ≤ tg B k ∧ tg B k < 160 := by
  unfold tg; have := w.a6 (16 * B 2 (B 6 k / 4).toNat + ((k % 16 : Nat) : Int)).toNat; split <;> omega
theorem Le_rg {B : AA} (w : wf B) {c d : Nat} (h : Le B c d) : c < 160 ∧ d < 160 := by
  obtain ⟨k, -, -, e1, e2⟩ := h
  have := w.a6 k; have := tg_rg w k; omega
theorem Le_ne {B : AA} (h : iv B) {c d : Nat} (hl : Le B c d) : c ≠ d := by
  obtain ⟨k, hk, -, e1, e2⟩ := hl
  have w := h.1
  intro e
  subst e
  obtain ⟨-, -, -, a4, a5, -⟩ := h.2.2.1 k hk (by omega)
  rw [e1] at a4 a5
  unfold tg at e2
  rw [if_neg (by omega), e1] at e2
  have a2 := w.a2 ((c : Int) / 4).toNat
  obtain ⟨-, -, -, -, b5, -⟩ := h.2.2.1 (16 * B 2 ((c : Int) / 4).toNat + ((k % 16 : Nat) : Int)).toNat (by omega) (by omega)
  rw [e2] at b5
  unfold isC at a4
  have := (h.2.1.1 ((c : Int) / 4).toNat (by omega)).2.2.1
  omega
def Pt (B : AA) (s : Nat) : Nat → Nat → Prop
  | 0, x => x = s
  | d + 1, x => ∃ b, Le B x b ∧ Pt B s d b
def na (B : AA) (s d x : Nat) : Prop := ∀ j, 1 ≤ j → j ≤ d → ¬ Pt B s j x
def ds (B : AA) (s d x : Nat) : Prop := 1 ≤ d ∧ Pt B s d x ∧ na B s (d - 1) x
theorem ds_1 {B : AA} {s x : Nat} : ds B s 1 x ↔ Le B x s := by
  constructor
  · rintro ⟨-, ⟨b, h1, h2⟩, -⟩
    have h2 : b = s := h2
    subst h2; exact h1
  · intro h; exact ⟨by omega, ⟨s, h, rfl⟩, fun j h1 h2 => by omega⟩
theorem ds_least {B : AA} {s : Nat} : ∀ (d x : Nat), 1 ≤ d → Pt B s d x → ∃ j, 1 ≤ j ∧ j ≤ d ∧ ds B s j x := by
  intro d
  induction d using Nat.strongRecOn with
  | _ d ih =>
    intro x hd hp
    by_cases g : na B s (d - 1) x
    · exact ⟨d, hd, Nat.le_refl d, hd, hp, g⟩
    · unfold na at g
      have : ∃ j, 1 ≤ j ∧ j ≤ d - 1 ∧ Pt B s j x := Classical.byContradiction fun z => g (fun j h1 h2 h3 => z ⟨j, h1, h2, h3⟩)
      obtain ⟨j, h1, h2, h3⟩ := this
      obtain ⟨i, i1, i2, i3⟩ := ih j (by omega) x h1 h3
      exact ⟨i, i1, by omega, i3⟩
theorem ds_up {B : AA} {s d x b : Nat} (hn : na B s d x) (h : Le B x b) (hb : ds B s d b) : ds B s (d + 1) x := ⟨by omega, ⟨b, h, hb.2.1⟩, hn⟩
theorem ds_dn {B : AA} {s d x : Nat} (hd : 1 ≤ d) (h : ds B s (d + 1) x) : ∃ b, Le B x b ∧ ds B s d b := by
  obtain ⟨-, ⟨b, h1, h2⟩, hn⟩ := h
  obtain ⟨j, j1, j2, j3⟩ := ds_least d b hd h2
  by_cases e : j = d
  · subst e; exact ⟨b, h1, j3⟩
  · exact absurd ⟨b, h1, j3.2.1⟩ (hn (j + 1) (by omega) (by show j + 1 ≤ d + 1 - 1; omega))
theorem ds_u {B : AA} {s i j x : Nat} (h1 : ds B s i x) (h2 : ds B s j x) : i = j := by
  by_cases a : i < j
  · exact absurd h1.2.1 (h2.2.2 i h1.1 (by omega))
  · by_cases b : j < i
    · exact absurd h2.2.1 (h1.2.2 j h2.1 (by omega))
    · omega
theorem ds_stop {B : AA} {s d : Nat} (hd : 1 ≤ d) (h : ∀ x, ¬ ds B s d x) : ∀ j, d ≤ j → ∀ x, ¬ ds B s j x := by
  intro j
  induction j with
  | zero => intro hj; omega
  | succ j ih =>
    intro hj x hx
    by_cases e : d = j + 1
    · subst e; exact h x hx
    · obtain ⟨b, -, hb⟩ := ds_dn (by omega) hx
      exact ih (by omega) b hb
theorem na_iff {B : AA} {s d x : Nat} : na B s d x ↔ ∀ j, 1 ≤ j → j ≤ d → ¬ ds B s j x := by
  constructor
  · intro h j h1 h2 h3; exact h j h1 h2 h3.2.1
  · intro h j h1 h2 h3
    obtain ⟨i, i1, i2, i3⟩ := ds_least j x h1 h3
    exact h i i1 (by omega) i3
/-! loops with what holds at each turn -/
theorem sq5 (Wf : Nat → AA → Int → Prop) (R : Nat → AA → Prop) (n : Nat) (hx : ∀ X k, R n X → Wf (k + 1) X n) (hs : ∀ i : Nat, i < n → ∀ X, R i X → ∀ k, (∀ X', R (i + 1) X' → Wf k X' ((i : Int) + 1)) → Wf (k + 1) X i) (X0 : AA) (h0 : R 0 X0) : ∃ k, Wf k X0 0 := by
  have : ∀ m j : Nat, j + m = n → ∀ X, R j X → Wf (m + 1) X j := by
    intro m
    induction m with
    | zero => intro j e X hX; have : j = n := by omega
              subst this; exact hx X 0 hX
    | succ m ih =>
      intro j e X hX
      refine hs j (by omega) X hX (m + 1) (fun X' hX' => ?_)
      have := ih (j + 1) (by omega) X' hX'
      simpa using this
  exact ⟨n + 1, by simpa using this n 0 (by omega) X0 h0⟩
theorem sq6 (Wf : Nat → AA → Int → Int → Prop) (R : Nat → AA → Int → Prop) (n : Nat) (hx : ∀ X v k, R n X v → Wf (k + 1) X v n) (hs : ∀ i : Nat, i < n → ∀ X v, R i X v → ∀ k, (∀ X' v', R (i + 1) X' v' → Wf k X' v' ((i : Int) + 1)) → Wf (k + 1) X v i) (X0 : AA) (v0 : Int) (h0 : R 0 X0 v0) : ∃ k, Wf k X0 v0 0 := by
  have : ∀ m j : Nat, j + m = n → ∀ X v, R j X v → Wf (m + 1) X v j := by
    intro m
    induction m with
    | zero => intro j e X v hX; have : j = n := by omega
              subst this; exact hx X v 0 hX
    | succ m ih =>
      intro j e X v hX
      refine hs j (by omega) X v hX (m + 1) (fun X' v' hX' => ?_)
      have := ih (j + 1) (by omega) X' v' hX'
      simpa using this
  exact ⟨n + 1, by simpa using this n 0 (by omega) X0 v0 h0⟩
/-! the reference: which channel leads to which -/
def Gl (B : AA) (p : Nat → Prop) (G : Nat → Int) : Prop := ∀ c d : Nat, c < 160 → d < 160 → (G (160 * c + d) = 0 ∨ G (160 * c + d) = 1) ∧ (G (160 * c + d) ≠ 0 ↔ Lp B p c d)
theorem zU_zR (B : AA) (k i : Nat) (g : Nat → Int) (v : Int) : zU (zR B k g) k i v = zR B k (fun j => if j = i then v else g j) := by
  funext a b
  by_cases e : a = k
  · subst e; rw [zU_e, zR_s, zR_s]; simp
  · rw [zU_n _ _ e, zR_n _ _ e, zR_n _ _ e]
theorem zR_zR (B : AA) (k : Nat) (g g' : Nat → Int) : zR (zR B k g) k g' = zR B k g' := by
  funext a
  by_cases e : a = k
  · subst e; rw [zR_s, zR_s]
  · rw [zR_n _ _ e, zR_n _ _ e, zR_n _ _ e]
theorem Gl_same {B : AA} {p q : Nat → Prop} {G : Nat → Int} (h : Gl B p G) (hpq : ∀ c d, Lp B p c d ↔ Lp B q c d) : Gl B q G := fun c d hc hd => ⟨(h c d hc hd).1, by rw [(h c d hc hd).2, hpq]⟩
theorem Lp_ext {B : AA} {p q : Nat → Prop} (h : ∀ k, k < 256 → 0 ≤ B 6 k → 0 ≤ tg B k → (p k ↔ q k)) (c d : Nat) : Lp B p c d ↔ Lp B q c d := by
  constructor
  · rintro ⟨k, a, b, e1, e2⟩; exact ⟨k, a, (h k a (by omega) (by omega)).mp b, e1, e2⟩
  · rintro ⟨k, a, b, e1, e2⟩; exact ⟨k, a, (h k a (by omega) (by omega)).mpr b, e1, e2⟩
theorem r_leads {B : AA} (h : iv B) {post : AA → Prop} (hp : ∀ G, Gl B (fun _ => True) G → post (zR B 19 G)) : zp_M_findLeads B post := by
  have w := h.1
  have n0 := w.n
  unfold zp_M_findLeads
  refine sq5 (zl_M_findLeads_2 (fun B' y1 => ze_M_findLeads_22 B' post) post) (fun j X => ∃ G, X = zR B 19 G ∧ ∀ i, i < j → G i = 0) 25600 (fun X k hX => ?_) (fun j hj X hX k hk => ?_) B ⟨B 19, (zR_id B 19).symm, fun i hi => by omega⟩
  · refine ⟨by omega, fun _ => ?_, fun g => by omega⟩
    obtain ⟨G, rfl, hG⟩ := hX
    unfold ze_M_findLeads_22
    refine sq5 (zl_M_findLeads_24 (fun B' y1 => ze_M_findLeads_136 B' post) post) (fun j X => ∃ G, X = zR B 19 G ∧ Gl B (fun k => k % 16 < j) G) (B 0 2).toNat (fun X k hX => ?_) (fun e he X hX k hk => ?_) _ ⟨G, rfl, fun c d hc hd => ?_⟩
    · obtain ⟨G, rfl, hG⟩ := hX
      have e : zR B 19 G 0 2 = B 0 2 := by rw [zR_n _ _ (by omega)]
      refine ⟨by omega, by omega, fun _ => ?_, fun g => by omega⟩
      refine hp G (Gl_same hG (Lp_ext (fun k hk h6 _ => ⟨fun _ => trivial, fun _ => ?_⟩)))
      have := (h.2.2.1 k hk (by omega)).2.1
      omega
    · obtain ⟨G, rfl, hG⟩ := hX
      have e2 : zR B 19 G 0 2 = B 0 2 := by rw [zR_n _ _ (by omega)]
      refine ⟨by omega, by omega, fun g => by omega, fun _ => ?_⟩
      refine sq5 (zl_M_findLeads_34 e (fun B' y2 => ze_M_findLeads_130 B' e (zl_M_findLeads_24 (fun B' y1 => ze_M_findLeads_136 B' post) post k) (fun B' y1 => ze_M_findLeads_136 B' post) post) post) (fun j X => ∃ G, X = zR B 19 G ∧ Gl B (fun k => k % 16 < e ∨ k % 16 = e ∧ k / 16 < j) G) (B 0 2).toNat (fun X k2 hX => ?_) (fun a ha X hX k2 hk2 => ?_) _ ⟨G, rfl, Gl_same hG (Lp_ext (fun k hk _ _ => by omega))⟩
      · obtain ⟨G, rfl, hG⟩ := hX
        have e2 : zR B 19 G 0 2 = B 0 2 := by rw [zR_n _ _ (by omega)]
        refine ⟨by omega, by omega, fun _ => ?_, fun g => by omega⟩
        refine hk _ ⟨G, rfl, Gl_same hG (Lp_ext (fun k hk h6 _ => ?_))⟩
        have := (h.2.2.1 k hk (by omega)).1
        omega
      · obtain ⟨G, rfl, hG⟩ := hX
        have e2 : zR B 19 G 0 2 = B 0 2 := by rw [zR_n _ _ (by omega)]
        have e6 : zR B 19 G 6 = B 6 := zR_n _ _ (by omega)
        have e22 : zR B 19 G 2 = B 2 := zR_n _ _ (by omega)
        have ek : (16 * (a : Int) + e).toNat = 16 * a + e := by omega
        have no : ¬ (0 ≤ B 6 (16 * a + e) ∧ 0 ≤ tg B (16 * a + e)) → zl_M_findLeads_34 e (fun B' y2 => ze_M_findLeads_130 B' e (zl_M_findLeads_24 (fun B' y1 => ze_M_findLeads_136 B' post) post k) (fun B' y1 => ze_M_findLeads_136 B' post) post) post k2 (zR B 19 G) ((a : Int) + 1) := fun q => by
          refine hk2 _ ⟨G, rfl, Gl_same hG (Lp_ext (fun k hk h6 ht => ?_))⟩
          by_cases z : k = 16 * a + e
          · subst z; exact absurd ⟨h6, ht⟩ q
          · omega
        have a6 := w.a6 (16 * a + e)
        refine ⟨by omega, by omega, fun g => by omega, fun _ => ⟨by omega, by omega, fun g => ⟨by omega, ?_⟩, fun g => ?_⟩⟩
        · rw [e6, ek]
          rintro v rfl
          refine ⟨by omega, fun g1 => ⟨by omega, by omega, ?_⟩, fun g1 => no (fun z => g1 z.1)⟩
          rw [e22]
          rintro u eu
          have a2 := w.a2 (B 6 (16 * a + e) / 4).toNat
          have et : tg B (16 * a + e) = B 6 (16 * u + e).toNat := by
            unfold tg; rw [if_neg (by omega), eu]; congr 2; omega
          refine ⟨by omega, by omega, fun g2 => ⟨by omega, ?_⟩, fun g2 => ?_⟩
          · rw [← et]
            rintro t rfl
            have t1 := tg_rg w (16 * a + e)
            refine ⟨by omega, fun g3 => no (fun z => by have := z.2; omega), fun g3 => ⟨by omega, ?_⟩⟩
            rintro _ rfl
            rw [zU_zR]
            refine hk2 _ ⟨_, rfl, fun c d hc hd => ?_⟩
            obtain ⟨h1, h2⟩ := hG c d hc hd
            by_cases q : 160 * c + d = (160 * B 6 (16 * a + e) + tg B (16 * a + e)).toNat
            · rw [if_pos q]
              have qc : (c : Int) = B 6 (16 * a + e) := by omega
              have qd : (d : Int) = tg B (16 * a + e) := by omega
              exact ⟨.inr rfl, fun _ => ⟨16 * a + e, by omega, by omega, qc.symm, qd.symm⟩, fun _ => by omega⟩
            · rw [if_neg q]
              refine ⟨h1, fun z => ?_, fun z => ?_⟩
              · obtain ⟨k, k1, k2, k3, k4⟩ := h2.mp z
                exact ⟨k, k1, by omega, k3, k4⟩
              · obtain ⟨k, k1, k2, k3, k4⟩ := z
                refine h2.mpr ⟨k, k1, ?_, k3, k4⟩
                by_cases z2 : k = 16 * a + e
                · subst z2; exfalso; apply q; rw [k3, k4]; omega
                · omega
          · refine no (fun z => ?_)
            have z2 := z.2
            rw [et, g2] at z2
            have := h.2.2.1 (16 * (e : Int) + e).toNat (by omega) (by omega)
            omega
        · refine no (fun z => ?_)
          have := h.2.2.1 (16 * a + e) (by omega) (by omega)
          omega
    · have : G (160 * c + d) = 0 := hG _ (by omega)
      rw [this]
      exact ⟨.inl rfl, fun z => absurd rfl z, fun ⟨k, _, z, _⟩ => by omega⟩
  · obtain ⟨G, rfl, hG⟩ := hX
    refine ⟨by omega, fun g => by omega, fun _ => ⟨by omega, ?_⟩⟩
    rintro _ rfl
    rw [zU_zR]
    refine hk _ ⟨_, rfl, fun i hi => ?_⟩
    simp only [Int.toNat_natCast]
    by_cases q : i = j
    · rw [if_pos q]
    · rw [if_neg q]; exact hG i (by omega)
