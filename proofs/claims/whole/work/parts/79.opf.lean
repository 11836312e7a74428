/-! routes -/
abbrev DS : Type := (Nat → Int) × (Nat → Int) × Int
noncomputable def q1 (B : AA) (t d : Int) (l : Nat) (s : DS) : DS := cs (B 4 l = 0 ∧ s.1 (B 2 l).toNat = d - 1 ∧ s.1 (B 1 l).toNat = -1) (fun k => if k = (B 1 l).toNat then d else s.1 k, fun k => if k = (16 * B 1 l + t).toNat then 4 * (l : Int) else s.2.1 k, s.2.2 + 1) s
noncomputable def qr (B : AA) (t d : Int) : Nat → DS → DS
  | 0, s => s
  | n + 1, s => q1 B t d n (qr B t d n s)
noncomputable def qs (B : AA) (t : Int) (L : Nat) : Nat → DS → DS
  | 0, s => s
  | n + 1, s => qr B t ((n : Int) + 1) L (qs B t L n s)
def es (s s' : DS) : Prop := (∀ k, k < 16 → s.1 k = s'.1 k) ∧ s.2.1 = s'.2.1 ∧ s.2.2 = s'.2.2
theorem es_q1 {B : AA} (w : wf B) {t d : Int} {l : Nat} {s s' : DS} (h : es s s') : es (q1 B t d l s) (q1 B t d l s') := by
  obtain ⟨h1, h2, h3⟩ := h
  have a1 := w.a1 l; have a2 := w.a2 l
  have e1 := h1 (B 1 l).toNat (by omega); have e2 := h1 (B 2 l).toNat (by omega)
  unfold q1
  by_cases g : B 4 l = 0 ∧ s.1 (B 2 l).toNat = d - 1 ∧ s.1 (B 1 l).toNat = -1
  · rw [cs_t g, cs_t (by rw [← e1, ← e2]; exact g)]
    refine ⟨fun k hk => ?_, ?_, ?_⟩
    · show (if _ then _ else _) = (if _ then _ else _)
      rw [h1 k hk]
    · show (fun _ => _) = (fun _ => _)
      rw [h2]
    · show _ + 1 = _ + 1
      rw [h3]
  · rw [cs_f g, cs_f (by rw [← e1, ← e2]; exact g)]; exact ⟨h1, h2, h3⟩
theorem es_qr {B : AA} (w : wf B) {t d : Int} {s s' : DS} (h : es s s') : ∀ n, es (qr B t d n s) (qr B t d n s') := by
  intro n
  induction n with
  | zero => exact h
  | succ n ih => exact es_q1 w ih
theorem es_qs {B : AA} (w : wf B) {t : Int} {L : Nat} {s s' : DS} (h : es s s') : ∀ n, es (qs B t L n s) (qs B t L n s') := by
  intro n
  induction n with
  | zero => exact h
  | succ n ih => exact es_qr w ih L
/-- what holds while links are tried for one distance -/
def qi (B : AA) (t : Int) (d : Int) (s : DS) : Prop :=
  (∀ k, k < 16 → -1 ≤ s.1 k ∧ s.1 k ≤ d) ∧ s.1 t.toNat = 0 ∧ (sm (B 0 2).toNat (fun k => if s.1 k = -1 then 0 else 1) = s.2.2 + 1) ∧ (∀ k, k < 16 → s.1 k = d → d ≤ s.2.2) ∧
  (∀ k, -1 ≤ s.2.1 k ∧ s.2.1 k < 160) ∧ (∀ k, k < 256 → s.2.1 k ≠ -1 → ((k % 16 : Nat) : Int) = t → ∃ l : Nat, (l : Int) < B 0 3 ∧ s.2.1 k = 4 * (l : Int) ∧ B 1 l = ((k / 16 : Nat) : Int) ∧ B 4 l = 0 ∧ ((k / 16 : Nat) : Int) ≠ t) ∧ (∀ k, (k < 256 → ((k % 16 : Nat) : Int) ≠ t) → s.2.1 k = B 6 k)
theorem qi_up {B : AA} {t d : Int} {s : DS} (h : qi B t (d - 1) s) (hd : 1 ≤ d) : qi B t d s ∧ (∀ k, k < 16 → s.1 k = d - 1 → d - 1 ≤ s.2.2) := by
  obtain ⟨h1, h2, h3, h4, h5⟩ := h
  refine ⟨⟨fun k hk => ?_, h2, h3, fun k hk e => ?_, h5⟩, h4⟩
  · have := h1 k hk; omega
  · have := h1 k hk; omega
theorem qi_q1 {B : AA} (hb : iv B) {t d : Int} (ht : 0 ≤ t ∧ t < B 0 2) {l : Nat} (hl : (l : Int) < B 0 3) (hd : 1 ≤ d) {s : DS} (h : qi B t d s) (h' : ∀ k, k < 16 → s.1 k = d - 1 → d - 1 ≤ s.2.2) : qi B t d (q1 B t d l s) ∧ (∀ k, k < 16 → (q1 B t d l s).1 k = d - 1 → d - 1 ≤ (q1 B t d l s).2.2) ∧ (B 0 2 ≤ d → q1 B t d l s = s) := by
  have w := hb.1
  have a1 := w.a1 l; have a2 := w.a2 l
  have n0 := w.n; have l0 := w.l
  have hL := hb.2.1.1 l hl
  obtain ⟨h1, h2, h3, h4, h5, h6, h7⟩ := id h
  unfold q1
  by_cases g : B 4 l = 0 ∧ s.1 (B 2 l).toNat = d - 1 ∧ s.1 (B 1 l).toNat = -1
  case neg => rw [cs_f g]; exact ⟨h, h', fun _ => rfl⟩
  rw [cs_t g]
  have v1 := h' _ (by omega) g.2.1
  have ne : (B 1 l).toNat ≠ t.toNat := fun z => by rw [z, h2] at g; omega
  have sums : sm (B 0 2).toNat (fun k => if (if k = (B 1 l).toNat then d else s.1 k) = -1 then (0 : Int) else 1) = s.2.2 + 1 + 1 := by
    have := sm_u (f := fun k => if (if k = (B 1 l).toNat then d else s.1 k) = -1 then (0 : Int) else 1) (g := fun k => if s.1 k = -1 then (0 : Int) else 1) (j := (B 1 l).toNat) (d := 1) (B 0 2).toNat (fun k hk => by simp only [if_neg hk]) (by
      show (if (if (B 1 l).toNat = (B 1 l).toNat then d else s.1 (B 1 l).toNat) = -1 then (0 : Int) else 1) = (if s.1 (B 1 l).toNat = -1 then (0 : Int) else 1) + 1
      rw [if_pos g.2.2, if_pos rfl, if_neg (by omega)]; omega)
    rw [this, h3, if_pos (by omega)]
  refine ⟨⟨fun k hk => ?_, ?_, sums, fun k hk e => ?_, fun k => ?_, fun k hk hne ek => ?_, fun k hk => ?_⟩, fun k hk e => ?_, fun hn => ?_⟩
  · show -1 ≤ (if _ then _ else _) ∧ (if _ then _ else _) ≤ d
    have := h1 k hk
    split <;> omega
  · show (if _ then _ else _) = (0 : Int)
    rw [if_neg (fun z => ne z.symm)]; exact h2
  · show d ≤ s.2.2 + 1
    omega
  · dsimp only
    have := h5 k
    split <;> omega
  · have hne : (if k = (16 * B 1 l + t).toNat then 4 * (l : Int) else s.2.1 k) ≠ -1 := hne
    show ∃ l' : Nat, (l' : Int) < B 0 3 ∧ (if k = (16 * B 1 l + t).toNat then 4 * (l : Int) else s.2.1 k) = 4 * (l' : Int) ∧ _
    by_cases e : k = (16 * B 1 l + t).toNat
    · rw [if_pos e]; exact ⟨l, hl, rfl, by omega, g.1, by omega⟩
    · rw [if_neg e] at hne ⊢; exact h6 k hk hne ek
  · show (if _ then _ else _) = B 6 k
    rw [if_neg]
    · exact h7 k hk
    · intro z; exact hk (by omega) (by omega)
  · show d - 1 ≤ s.2.2 + 1
    omega
  · exfalso
    have le : ∀ n : Nat, sm n (fun k => if s.1 k = -1 then (0 : Int) else 1) ≤ n ∧ ((B 1 l).toNat < n → sm n (fun k => if s.1 k = -1 then (0 : Int) else 1) ≤ (n : Int) - 1) := by
      intro n
      induction n with
      | zero => exact ⟨by simp [sm], fun z => by omega⟩
      | succ n ih =>
        rw [sm]
        have c : (if s.1 n = -1 then (0 : Int) else 1) ≤ 1 := by split <;> omega
        refine ⟨by omega, fun z => ?_⟩
        by_cases en : (B 1 l).toNat = n
        · rw [← en, if_pos g.2.2, en]; omega
        · have := ih.2 (by omega); omega
    have := (le (B 0 2).toNat).2 (by omega)
    omega
theorem qi_qr {B : AA} (hb : iv B) {t d : Int} (ht : 0 ≤ t ∧ t < B 0 2) (hd : 1 ≤ d) {s : DS} (h : qi B t (d - 1) s) : ∀ n : Nat, (n : Int) ≤ B 0 3 → qi B t d (qr B t d n s) ∧ (∀ k, k < 16 → (qr B t d n s).1 k = d - 1 → d - 1 ≤ (qr B t d n s).2.2) ∧ (B 0 2 ≤ d → qr B t d n s = s) := by
  intro n
  induction n with
  | zero => intro _; have := qi_up h hd; exact ⟨this.1, this.2, fun _ => rfl⟩
  | succ n ih =>
    intro hn
    obtain ⟨a, b, c⟩ := ih (by omega)
    obtain ⟨a', b', c'⟩ := qi_q1 hb ht (l := n) (by omega) hd a b
    rw [qr]
    exact ⟨a', b', fun z => by rw [c' z, c z]⟩
theorem qi_qs {B : AA} (hb : iv B) {t : Int} (ht : 0 ≤ t ∧ t < B 0 2) {L : Nat} (hL : (L : Int) = B 0 3) {s : DS} (h : qi B t 0 s) : ∀ n : Nat, qi B t n (qs B t L n s) ∧ (B 0 2 ≤ (n : Int) + 1 → qs B t L (n + 1) s = qs B t L n s) := by
  intro n
  induction n with
  | zero =>
    have := qi_qr hb ht (d := 1) (by omega) (s := s) (by simpa using h) L (by omega)
    exact ⟨h, fun z => this.2.2 (by omega)⟩
  | succ n ih =>
    have h1 := qi_qr hb ht (d := (n : Int) + 1) (by omega) (s := qs B t L n s) (by simpa using ih.1) L (by omega)
    have e1 : qi B t ((n + 1 : Nat) : Int) (qs B t L (n + 1) s) := by rw [qs]; simpa using h1.1
    refine ⟨e1, fun z => ?_⟩
    have h2 := qi_qr hb ht (d := ((n + 1 : Nat) : Int) + 1) (by omega) (s := qs B t L (n + 1) s) (by simpa using e1) L (by omega)
    exact h2.2.2 (by omega)
theorem qs_end {B : AA} (hb : iv B) {t : Int} (ht : 0 ≤ t ∧ t < B 0 2) {L : Nat} (hL : (L : Int) = B 0 3) {s : DS} (h : qi B t 0 s) : ∀ m : Nat, qs B t L ((B 0 2).toNat - 1 + m) s = qs B t L ((B 0 2).toNat - 1) s := by
  intro m
  induction m with
  | zero => rfl
  | succ m ih => rw [← ih]; exact (qi_qs hb ht hL h ((B 0 2).toNat - 1 + m)).2 (by omega)
/-! the two programs' loops -/
def XC (A : AA) (s : DS) : AA := zR (zR A 11 s.1) 10 s.2.1
def XM (B : AA) (s : DS) : AA := zR (zR B 20 s.1) 6 s.2.1
theorem XC_r (A : AA) (s : DS) {k : Nat} (h : k ≠ 10 ∧ k ≠ 11) : XC A s k = A k := by unfold XC; rw [zR_n _ _ h.1, zR_n _ _ h.2]
theorem XC_11 (A : AA) (s : DS) : XC A s 11 = s.1 := by unfold XC; rw [zR_n _ _ (by omega), zR_s]
theorem XM_r (B : AA) (s : DS) {k : Nat} (h : k ≠ 6 ∧ k ≠ 20) : XM B s k = B k := by unfold XM; rw [zR_n _ _ h.1, zR_n _ _ h.2]
theorem XM_20 (B : AA) (s : DS) : XM B s 20 = s.1 := by unfold XM; rw [zR_n _ _ (by omega), zR_s]
theorem XC_10 (A : AA) (s : DS) : XC A s 10 = s.2.1 := zR_s _ _ _
theorem XM_6 (B : AA) (s : DS) : XM B s 6 = s.2.1 := zR_s _ _ _
theorem XC_u (A : AA) (s : DS) (i k : Nat) (x y : Int) : zU (zU (XC A s) 11 i x) 10 k y = XC A (fun j => if j = i then x else s.1 j, fun j => if j = k then y else s.2.1 j, s.2.2 + 1) := by
  funext a b
  by_cases h10 : a = 10
  · subst h10; rw [zU_e, zU_n _ _ (by omega), XC_10, XC_10]; simp
  · by_cases h11 : a = 11
    · subst h11; rw [zU_n _ _ (by omega), zU_e, XC_11, XC_11]; simp
    · rw [zU_n _ _ h10, zU_n _ _ h11, XC_r _ _ ⟨h10, h11⟩, XC_r _ _ ⟨h10, h11⟩]
theorem XM_u (B : AA) (s : DS) (i k : Nat) (x y : Int) : zU (zU (XM B s) 20 i x) 6 k y = XM B (fun j => if j = i then x else s.1 j, fun j => if j = k then y else s.2.1 j, s.2.2 + 1) := by
  funext a b
  by_cases h10 : a = 6
  · subst h10; rw [zU_e, zU_n _ _ (by omega), XM_6, XM_6]; simp
  · by_cases h11 : a = 20
    · subst h11; rw [zU_n _ _ (by omega), zU_e, XM_20, XM_20]; simp
    · rw [zU_n _ _ h10, zU_n _ _ h11, XM_r _ _ ⟨h10, h11⟩, XM_r _ _ ⟨h10, h11⟩]
def bd (s : DS) : Prop := ∀ k, k < 16 → -1 ≤ s.1 k ∧ s.1 k ≤ 100
theorem bd_q1 {B : AA} {t d : Int} (hd : 0 ≤ d ∧ d ≤ 100) {l : Nat} {s : DS} (h : bd s) : bd (q1 B t d l s) := by
  unfold q1
  by_cases g : B 4 l = 0 ∧ s.1 (B 2 l).toNat = d - 1 ∧ s.1 (B 1 l).toNat = -1
  · rw [cs_t g]; intro k hk; have := h k hk; dsimp only; split <;> omega
  · rw [cs_f g]; exact h
theorem bd_qr {B : AA} {t d : Int} (hd : 0 ≤ d ∧ d ≤ 100) {s : DS} (h : bd s) : ∀ n, bd (qr B t d n s) := by
  intro n
  induction n with
  | zero => exact h
  | succ n ih => exact bd_q1 hd ih
theorem bd_qs {B : AA} {t : Int} {L : Nat} {s : DS} (h : bd s) : ∀ n, n ≤ 100 → bd (qs B t L n s) := by
  intro n
  induction n with
  | zero => intro _; exact h
  | succ n ih => intro hn; exact bd_qr (by omega) (ih (by omega)) L
theorem c_link1 {A B : AA} (E : Eqs A B) (w : wf B) {t d : Int} (ht : 0 ≤ t ∧ t < 16) (hd : 1 ≤ d ∧ d ≤ 100) {s : DS} (hb : bd s) {L : Nat} (hL : B 0 3 = L) {ex : AA → Int → Int → Prop} {post : Int → AA → Prop} (hex : ex (XC A (qr B t d L s)) (qr B t d L s).2.2 L) : ∃ k, zl_CP_makeWaysTo_53 t d ex post k (XC A s) s.2.2 0 := by
  have l0 := w.l
  refine sq3 (zl_CP_makeWaysTo_53 t d ex post) (fun j => XC A (qr B t d j s)) (fun j => (qr B t d j s).2.2) L (fun k => ?_) (fun j hj k hk => ?_)
  · have e : XC A (qr B t d L s) 1 1 = B 0 3 := by rw [XC_r _ _ (by omega), E.s3]
    exact ⟨by omega, by omega, fun _ => hex, fun g => by omega⟩
  · have hbj := bd_qr (B := B) (t := t) (d := d) (by omega) hb j
    rw [qr] at hk
    generalize qr B t d j s = X at *
    have e : XC A X 1 1 = B 0 3 := by rw [XC_r _ _ (by omega), E.s3]
    have a1 := w.a1 j; have a2 := w.a2 j; have a4 := w.a4 j
    have b1 := hbj (B 1 j).toNat (by omega); have b2 := hbj (B 2 j).toNat (by omega)
    refine ⟨by omega, by omega, fun g => by omega, fun _ => ?_⟩
    unfold zp_CP_bringsNearer
    simp only [Int.toNat_natCast]
    rw [XC_r _ _ (by omega : (9 : Nat) ≠ 10 ∧ (9 : Nat) ≠ 11), XC_r _ _ (by omega : (6 : Nat) ≠ 10 ∧ (6 : Nat) ≠ 11), XC_r _ _ (by omega : (7 : Nat) ≠ 10 ∧ (7 : Nat) ≠ 11), XC_11, E.c9, E.c6, E.c7]
    have no : ¬ (B 4 j = 0 ∧ X.1 (B 2 j).toNat = d - 1 ∧ X.1 (B 1 j).toNat = -1) → zl_CP_makeWaysTo_53 t d ex post k (XC A X) X.2.2 ((j : Int) + 1) := fun q => by
      unfold q1 at hk; rw [cs_f q] at hk; exact hk
    refine ⟨by omega, by omega, fun g => ⟨by omega, fun _ => no (fun z => g z.1), fun z => absurd trivial z⟩, fun g => ⟨by omega, by omega, by omega, fun g1 => ⟨by omega, fun _ => no (fun z => g1 z.2.2), fun z => absurd trivial z⟩, fun g1 => ⟨by omega, by omega, by omega, by omega, fun g2 => ⟨by omega, fun _ => no (fun z => g2 z.2.1), fun z => absurd trivial z⟩, fun g2 => ⟨by omega, fun z => by omega, fun _ => ⟨by omega, by omega, ?_⟩⟩⟩⟩⟩
    rintro _ rfl
    refine ⟨by omega, ?_⟩
    unfold zp_CP_changeWay
    have e6 : zU (XC A X) 11 (B 1 j).toNat d 6 j = B 1 j := by rw [zU_n _ _ (by omega), XC_r _ _ (by omega), E.c6]
    rw [e6]
    refine ⟨by omega, ?_⟩
    rintro _ rfl
    unfold q1 at hk
    rw [cs_t ⟨g, g2, g1⟩] at hk
    rw [XC_u, show (B 1 j * 16 + t).toNat = (16 * B 1 j + t).toNat by omega, show (j : Int) * 4 = 4 * (j : Int) by omega]
    exact hk
theorem r_link1 {B0 B : AA} (w : wf B) {t d : Int} (ht : 0 ≤ t ∧ t < 16) (hd : 1 ≤ d ∧ d ≤ 100) {s : DS} (hb : bd s) {L : Nat} (hL : B 0 3 = L) {ex : AA → Int → Int → Prop} {post : Int → AA → Prop} (hex : ex (XM B (qr B t d L s)) (qr B t d L s).2.2 L) : ∃ k, zl_M_routes_74 t d ex post k (XM B s) s.2.2 0 := by
  have l0 := w.l
  refine sq3 (zl_M_routes_74 t d ex post) (fun j => XM B (qr B t d j s)) (fun j => (qr B t d j s).2.2) L (fun k => ?_) (fun j hj k hk => ?_)
  · have e : XM B (qr B t d L s) 0 3 = B 0 3 := by rw [XM_r _ _ (by omega)]
    exact ⟨by omega, by omega, fun _ => hex, fun g => by omega⟩
  · have hbj := bd_qr (B := B) (t := t) (d := d) (by omega) hb j
    rw [qr] at hk
    generalize qr B t d j s = X at *
    have e : XM B X 0 3 = B 0 3 := by rw [XM_r _ _ (by omega)]
    have a1 := w.a1 j; have a2 := w.a2 j; have a4 := w.a4 j
    have b1 := hbj (B 1 j).toNat (by omega); have b2 := hbj (B 2 j).toNat (by omega)
    refine ⟨by omega, by omega, fun g => by omega, fun _ => ⟨by omega, ?_⟩⟩
    simp only [Int.toNat_natCast]
    rw [XM_r _ _ (by omega : (1 : Nat) ≠ 6 ∧ (1 : Nat) ≠ 20), XM_r _ _ (by omega : (4 : Nat) ≠ 6 ∧ (4 : Nat) ≠ 20), XM_r _ _ (by omega : (2 : Nat) ≠ 6 ∧ (2 : Nat) ≠ 20), XM_20]
    have no : ¬ (B 4 j = 0 ∧ X.1 (B 2 j).toNat = d - 1 ∧ X.1 (B 1 j).toNat = -1) → zl_M_routes_74 t d ex post k (XM B X) X.2.2 ((j : Int) + 1) := fun q => by
      unfold q1 at hk; rw [cs_f q] at hk; exact hk
    rintro v rfl
    refine ⟨by omega, by omega, fun g => no (fun z => g z.1), fun g => ⟨by omega, by omega, by omega, by omega, fun g1 => no (fun z => g1 z.2.1), fun g1 => ⟨by omega, by omega, fun g2 => no (fun z => g2 z.2.2), fun g2 => ⟨by omega, ?_⟩⟩⟩⟩
    rintro _ rfl
    refine ⟨by omega, ?_⟩
    rintro _ rfl
    unfold q1 at hk
    rw [cs_t ⟨g, g1, g2⟩] at hk
    rw [XM_u]
    exact hk
/-! clearing -/
def W0 (g : Nat → Int) (t j : Nat) : Nat → Int := fun k => if k / 16 < j ∧ k % 16 = t then -1 else g k
theorem W0_s (X : AA) (c : Nat) (g : Nat → Int) {t : Nat} (ht : t < 16) (j : Nat) : zU (zR X c (W0 g t j)) c (16 * j + t) (-1) = zR X c (W0 g t (j + 1)) := by
  funext a k
  by_cases e : a = c
  · subst e
    rw [zU_e, zR_s, zR_s]
    unfold W0
    by_cases q : k = 16 * j + t
    · rw [if_pos ⟨rfl, q⟩, if_pos (by omega)]
    · rw [if_neg (fun z => q z.2)]
      by_cases r : k / 16 < j ∧ k % 16 = t
      · rw [if_pos r, if_pos (by omega)]
      · rw [if_neg r, if_neg (by omega)]
  · rw [zU_n _ _ e, zR_n _ _ e, zR_n _ _ e]
theorem W0_0 (g : Nat → Int) (t : Nat) : W0 g t 0 = g := by funext k; unfold W0; rw [if_neg (by omega)]
def D0 (g : Nat → Int) (t j : Nat) : Nat → Int := fun k => if k < j then (if k = t then 0 else -1) else g k
theorem D0_s (X : AA) (g : Nat → Int) (t j : Nat) (v : Int) (hv : v = if j = t then 0 else -1) : zU (zR X 20 (D0 g t j)) 20 j v = zR X 20 (D0 g t (j + 1)) := by
  funext a k
  by_cases e : a = 20
  · subst e
    rw [zU_e, zR_s, zR_s]
    unfold D0
    by_cases q : k = j
    · rw [if_pos ⟨rfl, q⟩, if_pos (by omega), hv, q]
    · rw [if_neg (fun z => q z.2)]
      by_cases r : k < j
      · rw [if_pos r, if_pos (c := k < j + 1) (by omega)]
      · rw [if_neg r, if_neg (c := k < j + 1) (by omega)]
  · rw [zU_n _ _ e, zR_n _ _ e, zR_n _ _ e]
theorem D0_0 (g : Nat → Int) (t : Nat) : D0 g t 0 = g := by funext k; unfold D0; rw [if_neg (by omega)]
theorem zR_sw (X : AA) {a b : Nat} (h : a ≠ b) (g g' : Nat → Int) : zR (zR X a g) b g' = zR (zR X b g') a g := by
  funext k
  by_cases e : k = b
  · subst e; rw [zR_s, zR_n _ _ (Ne.symm h), zR_s]
  · by_cases e2 : k = a
    · subst e2; rw [zR_n _ _ e, zR_s, zR_s]
    · rw [zR_n _ _ e, zR_n _ _ e2, zR_n _ _ e2, zR_n _ _ e]
theorem r_clear {B : AA} {t : Nat} (ht : t < 16) {ex : AA → Int → Prop} {post : Int → AA → Prop} (hex : ∀ y, ex (XM B (D0 (B 20) t 16, W0 (B 6) t 16, 0)) y) : ∃ k, zl_M_routes_21 t ex post k B 0 := by
  have := sq2 (zl_M_routes_21 t ex post) (fun j => zR (zR B 20 (D0 (B 20) t j)) 6 (W0 (B 6) t j)) 16 (fun k => ?_) (fun j hj k hk => ?_)
  · simp only [D0_0, W0_0, zR_id] at this
    exact this
  · exact ⟨by omega, fun _ => hex _, fun g => by omega⟩
  · have st : ∀ v : Int, v = (if j = t then 0 else -1) → (0 ≤ (j : Int) ∧ (j : Int) < 160) ∧ ∀ S, S = zU (zR (zR B 20 (D0 (B 20) t j)) 6 (W0 (B 6) t j)) 20 (j : Int).toNat v → (0 ≤ (16 * (j : Int) + t) ∧ (16 * (j : Int) + t) < 256) ∧ ∀ S', S' = zU S 6 (16 * (j : Int) + t).toNat (-1) → zl_M_routes_21 t ex post k S' ((j : Int) + 1) := fun v hv => by
      refine ⟨by omega, ?_⟩
      rintro _ rfl
      refine ⟨by omega, ?_⟩
      rintro _ rfl
      simp only [Int.toNat_natCast]
      rw [zR_sw B (by omega : (20 : Nat) ≠ 6), D0_s _ _ _ _ _ hv, zR_sw _ (by omega : (6 : Nat) ≠ 20), show (16 * (j : Int) + t).toNat = 16 * j + t by omega, W0_s _ _ _ ht]
      exact hk
    refine ⟨by omega, fun g => by omega, fun _ => ⟨by omega, by omega, fun e => st (-1) (by rw [if_neg (by omega)]), fun e => st 0 (by rw [if_pos (by omega)])⟩⟩
theorem r_routes {B : AA} (h : wf B) {t : Int} (ht : rg t) {post : Int → AA → Prop} (h1 : ¬ (0 ≤ t ∧ t < B 0 2) → post 0 (zU (zU B 0 0 0) 0 0 1)) (h2 : 0 ≤ t ∧ t < B 0 2 → post (qs B t (B 0 3).toNat 16 (D0 (B 20) t.toNat 16, W0 (B 6) t.toNat 16, 0)).2.2 (XM (zU B 0 0 0) (qs B t (B 0 3).toNat 16 (D0 (B 20) t.toNat 16, W0 (B 6) t.toNat 16, 0)))) : zp_M_routes B t post := by
  unfold zp_M_routes
  rintro _ rfl
  have w0 := wf_00 h 0
  have n0 := h.n; have l0 := h.l
  have x2 : zU B 0 0 0 0 2 = B 0 2 := zU_j _ _ (by omega)
  have x3 : zU B 0 0 0 0 3 = B 0 3 := zU_j _ _ (by omega)
  have xk : ∀ k, k ≠ 0 → zU B 0 0 0 k = B k := fun k hk => zU_n _ _ hk
  refine r_isNode w0 ht (fun a1 a2 => ⟨by omega, fun _ => ?_, fun z => by omega⟩) (fun q => ⟨by omega, fun z => absurd rfl z, fun _ => by rintro _ rfl; exact h1 (by omega)⟩)
  obtain ⟨t', rfl⟩ : ∃ t' : Nat, t = (t' : Int) := ⟨t.toNat, by omega⟩
  have h2 := h2 (by omega)
  simp only [Int.toNat_natCast] at h2
  refine r_clear (by omega) (fun y => ?_)
  rw [xk 20 (by omega), xk 6 (by omega)]
  generalize hs : (D0 (B 20) t' 16, W0 (B 6) t' 16, (0 : Int)) = s at *
  have hbd : bd s := by
    subst hs; intro k hk; unfold D0; dsimp only; rw [if_pos hk]; split <;> omega
  have v0 : s.2.2 = 0 := by subst hs; rfl
  have qe : ∀ d n (s : DS), qr (zU B 0 0 0) t' d n s = qr B t' d n s := fun d n s => by
    induction n with
    | zero => rfl
    | succ n ih => rw [qr, qr, ih]; unfold q1; rw [xk 4 (by omega), xk 2 (by omega), xk 1 (by omega)]
  unfold ze_M_routes_61
  have := sq3 (fun k B v x => zl_M_routes_65 t' (fun B' y2 y3 => ze_M_routes_182 B' y2 post) post k B v (x + 1)) (fun j => XM (zU B 0 0 0) (qs B t' (B 0 3).toNat j s)) (fun j => (qs B t' (B 0 3).toNat j s).2.2) 16 (fun k => ?_) (fun j hj k hk => ?_)
  · obtain ⟨k, hk⟩ := this
    refine ⟨k, ?_⟩
    have e0 : (qs B t' (B 0 3).toNat 0 s).2.2 = 0 := v0
    rw [e0] at hk
    simpa [qs] using hk
  · exact ⟨by omega, fun _ => h2, fun g => by omega⟩
  · refine ⟨by omega, fun g => by omega, fun _ => ?_⟩
    have hb := bd_qs (B := B) (t := t') (L := (B 0 3).toNat) hbd j (by omega)
    rw [qs] at hk
    generalize qs B t' (B 0 3).toNat j s = X at *
    have := r_link1 (B0 := B) (B := zU B 0 0 0) w0 (t := t') (d := (j : Int) + 1) (by omega) (by omega) (s := X) hb (L := (B 0 3).toNat) (by rw [x3]; omega) (ex := fun B' y2 y4 => ze_M_routes_176 B' t' y2 ((j : Int) + 1) (zl_M_routes_65 t' (fun B' y2 y3 => ze_M_routes_182 B' y2 post) post k) (fun B' y2 y3 => ze_M_routes_182 B' y2 post) post) (post := post) (by
      rw [qe]; exact hk)
    exact this
theorem c_routes {A B : AA} (E : Eqs A B) (w : wf B) {t : Nat} (ht : (t : Int) < B 0 2) {post : Int → AA → Prop} (h : post (qs B t (B 0 3).toNat ((B 0 2).toNat - 1) (fun k => if k = t then 0 else if k < 16 then -1 else A 11 k, W0 (B 6) t (B 0 2).toNat, 0)).2.2 (XC A (qs B t (B 0 3).toNat ((B 0 2).toNat - 1) (fun k => if k = t then 0 else if k < 16 then -1 else A 11 k, W0 (B 6) t (B 0 2).toNat, 0)))) : zp_CP_makeWaysTo A t post := by
  have n0 := w.n; have l0 := w.l
  unfold zp_CP_makeWaysTo
  rintro _ rfl
  refine ⟨by omega, ?_⟩
  rintro _ rfl
  simp only [Int.toNat_natCast]
  have e1 : zU (zF A 11 16 (-1)) 11 t 0 = zR A 11 (fun k => if k = t then 0 else if k < 16 then -1 else A 11 k) := by
    funext a k
    by_cases e : a = 11
    · subst e; rw [zU_e, zR_s]; simp [zF]
    · rw [zU_n _ _ e, zR_n _ _ e]; simp [zF, e]
  rw [e1]
  generalize hD : (fun k => if k = t then (0 : Int) else if k < 16 then -1 else A 11 k) = D at *
  have e10 : zR A 11 D 10 = B 6 := by rw [zR_n _ _ (by omega), E.c10]
  have cl := sq2 (zl_CP_makeWaysTo_17 t (fun B' y2 => ze_CP_makeWaysTo_38 B' t post) post) (fun j => zR (zR A 11 D) 10 (W0 (B 6) t j)) (B 0 2).toNat (fun k => ?_) (fun j hj k hk => ?_)
  · simp only [W0_0] at cl
    rw [← e10, zR_id] at cl
    exact cl
  · have e : zR (zR A 11 D) 10 (W0 (B 6) t (B 0 2).toNat) 1 0 = B 0 2 := by rw [zR_n _ _ (by omega), zR_n _ _ (by omega), E.s2]
    refine ⟨by omega, by omega, fun _ => ?_, fun g => by omega⟩
    generalize hs : (D, W0 (B 6) t (B 0 2).toNat, (0 : Int)) = s at *
    have hX : zR (zR A 11 D) 10 (W0 (B 6) t (B 0 2).toNat) = XC A s := by subst hs; rfl
    rw [hX]
    have hbd : bd s := by
      subst hs; intro k hk; subst hD; dsimp only; split
      · omega
      · omega
    have v0 : s.2.2 = 0 := by subst hs; rfl
    unfold ze_CP_makeWaysTo_38
    have := sq3 (fun k B v x => zl_CP_makeWaysTo_42 t (fun B' y2 y3 => ze_CP_makeWaysTo_116 B' y2 post) post k B v (x + 1)) (fun j => XC A (qs B t (B 0 3).toNat j s)) (fun j => (qs B t (B 0 3).toNat j s).2.2) ((B 0 2).toNat - 1) (fun k => ?_) (fun j hj k hk => ?_)
    · obtain ⟨k, hk⟩ := this
      refine ⟨k, ?_⟩
      have e0 : (qs B t (B 0 3).toNat 0 s).2.2 = 0 := v0
      rw [e0] at hk
      simpa [qs] using hk
    · have e : XC A (qs B t (B 0 3).toNat ((B 0 2).toNat - 1) s) 1 0 = B 0 2 := by rw [XC_r _ _ (by omega), E.s2]
      exact ⟨by omega, by omega, fun _ => h, fun g => by omega⟩
    · have e : XC A (qs B t (B 0 3).toNat j s) 1 0 = B 0 2 := by rw [XC_r _ _ (by omega), E.s2]
      refine ⟨by omega, by omega, fun g => by omega, fun _ => ?_⟩
      have hb := bd_qs (B := B) (t := t) (L := (B 0 3).toNat) hbd j (by omega)
      rw [qs] at hk
      generalize qs B t (B 0 3).toNat j s = X at *
      exact c_link1 E w (t := t) (d := (j : Int) + 1) (by omega) (by omega) (s := X) hb (L := (B 0 3).toNat) (by omega) hk
  · have e : zR (zR A 11 D) 10 (W0 (B 6) t j) 1 0 = B 0 2 := by rw [zR_n _ _ (by omega), zR_n _ _ (by omega), E.s2]
    refine ⟨by omega, by omega, fun g => by omega, fun _ => ⟨by omega, ?_⟩⟩
    rintro _ rfl
    rw [show ((j : Int) * 16 + t).toNat = 16 * j + t by omega, W0_s _ _ _ (by omega)]
    exact hk
theorem Eqs.rl {A B : AA} (h : Eqs A B) (k : Nat) (g : Nat → Int) (h1 : ∀ x ∈ LL, x.1 ≠ k) (h2 : ∀ x ∈ LLs, x.1.1 ≠ k) : Eqs (zR A k g) B :=
  ⟨fun x hx => by rw [zR_n _ _ (h1 x hx)]; exact h.1 x hx, fun x hx => by rw [zR_n _ _ (h2 x hx)]; exact h.2 x hx⟩
theorem op_routes {n : Nat} {A B : AA} (h : RR n A B) {t : Int} (ht : rg t) : zp_CN_routes A t (fun r S => zp_M_routes B t (fun u T => T 0 0 = 0 ∧ r = u ∧ RR (n + 1) S T)) (fun E S => E = "java/lang/IllegalArgumentException" ∧ zp_M_routes B t (fun u T => T 0 0 = 1 ∧ RR (n + 1) S T)) := by
  obtain ⟨⟨hr, h22⟩, hg, h5⟩ := id h
  have w0 := hg.1.1
  have n0 := w0.n; have l0 := w0.l
  have E := hr.1
  have bad : ¬ (0 ≤ t ∧ t < B 0 2) → zp_M_routes B t (fun u T => T 0 0 = 1 ∧ RR (n + 1) A T) := fun q =>
    r_routes w0 ht (fun _ => ⟨x00 _ _, RR_x h 1⟩) (fun z => absurd z q)
  unfold zp_CN_routes
  refine c_hasNode E w0 ht (fun a1 a2 => ⟨by omega, fun _ => ?_, fun z => by omega⟩) (fun q => ⟨by omega, fun z => absurd rfl z, fun _ => ⟨rfl, bad q⟩⟩)
  obtain ⟨t', rfl⟩ : ∃ t' : Nat, t = (t' : Int) := ⟨t.toNat, by omega⟩
  refine c_routes E w0 a2 ?_
  refine r_routes w0 ht (fun z => absurd ⟨a1, a2⟩ z) (fun _ => ?_)
  simp only [Int.toNat_natCast]
  -- the two starts agree
  have eW : W0 (B 6) t' (B 0 2).toNat = W0 (B 6) t' 16 := by
    funext k
    unfold W0
    by_cases q : k / 16 < 16 ∧ k % 16 = t'
    · rw [if_pos q]
      by_cases r : k / 16 < (B 0 2).toNat
      · rw [if_pos ⟨r, q.2⟩]
      · rw [if_neg (fun z => r z.1)]
        refine Classical.byContradiction fun ne => ?_
        have := (hg.1.2.2.1 k (by omega) ne).1
        omega
    · rw [if_neg q, if_neg (fun z => q ⟨by omega, z.2⟩)]
  have hes : es (fun k => if k = t' then (0 : Int) else if k < 16 then -1 else A 11 k, W0 (B 6) t' (B 0 2).toNat, 0) (D0 (B 20) t' 16, W0 (B 6) t' 16, 0) := by
    refine ⟨fun k hk => ?_, eW, rfl⟩
    unfold D0
    dsimp only
    rw [if_pos hk, if_pos hk]
  have hqi : qi B t' 0 (D0 (B 20) t' 16, W0 (B 6) t' 16, 0) := by
    have d0 : ∀ k, k < 16 → D0 (B 20) t' 16 k = if k = t' then 0 else -1 := fun k hk => by unfold D0; rw [if_pos hk]
    refine ⟨fun k hk => ?_, ?_, ?_, fun k hk e => by dsimp only; omega, fun k => ?_, fun k hk hne ek => ?_, fun k hk => ?_⟩
    · dsimp only; rw [d0 k hk]; split <;> omega
    · dsimp only; simp only [Int.toNat_natCast]; rw [d0 t' (by omega), if_pos rfl]
    · dsimp only
      have e1 : sm (B 0 2).toNat (fun k => if D0 (B 20) t' 16 k = -1 then (0 : Int) else 1) = sm (B 0 2).toNat (fun k => if k = t' then (1 : Int) else 0) := sm_c _ (fun k hk => by
        rw [d0 k (by omega)]
        by_cases e : k = t'
        · rw [if_pos e, if_neg (by omega), if_pos e]
        · rw [if_neg e, if_pos rfl, if_neg e])
      rw [e1]
      have z : ∀ m, sm m (fun _ => (0 : Int)) = 0 := by
        intro m
        induction m with
        | zero => rfl
        | succ m ih => rw [sm, ih]; rfl
      have := sm_u (f := fun k => if k = t' then (1 : Int) else 0) (g := fun _ => (0 : Int)) (j := t') (d := 1) (B 0 2).toNat (fun k hk => by simp only [if_neg hk]) (by simp)
      rw [this, z, if_pos (by omega)]
    · have := w0.a6 k
      unfold W0; dsimp only; split <;> omega
    · have hne : W0 (B 6) t' 16 k ≠ -1 := hne
      unfold W0 at hne
      rw [if_pos (by omega)] at hne; exact absurd rfl hne
    · unfold W0; dsimp only
      rw [if_neg]
      rintro ⟨z1, z2⟩
      exact hk (by omega) (by omega)
  have hL : (((B 0 3).toNat : Nat) : Int) = B 0 3 := by omega
  have e16 : qs B t' (B 0 3).toNat 16 (D0 (B 20) t' 16, W0 (B 6) t' 16, 0) = qs B t' (B 0 3).toNat ((B 0 2).toNat - 1) (D0 (B 20) t' 16, W0 (B 6) t' 16, 0) := by
    have := qs_end hg.1 (t := t') ⟨by omega, a2⟩ hL hqi (16 - ((B 0 2).toNat - 1))
    rw [show (B 0 2).toNat - 1 + (16 - ((B 0 2).toNat - 1)) = 16 by omega] at this
    exact this
  rw [e16]
  have hes2 := es_qs w0 (t := t') (L := (B 0 3).toNat) hes ((B 0 2).toNat - 1)
  have hqi2 := (qi_qs hg.1 (t := t') ⟨by omega, a2⟩ hL hqi ((B 0 2).toNat - 1)).1
  generalize qs B t' (B 0 3).toNat ((B 0 2).toNat - 1) (D0 (B 20) t' 16, W0 (B 6) t' 16, 0) = s2 at *
  generalize qs B t' (B 0 3).toNat ((B 0 2).toNat - 1) (fun k => if k = t' then (0 : Int) else if k < 16 then -1 else A 11 k, W0 (B 6) t' (B 0 2).toNat, 0) = s1 at *
  refine ⟨by rw [XM_r _ _ (by omega), zU_s], hes2.2.2, ⟨Rel_c hr ?_ (fun k hk => XC_r _ _ (by omega)) (fun k hk => by rw [XM_r _ _ (by omega), zU_n _ _ (by omega)]) (by rw [XM_r _ _ (by omega), zU_j _ _ (by omega)]), fun c hc => by rw [XC_r _ _ (by omega)]; exact h22 c hc⟩, ?_, by rw [XM_r _ _ (by omega), zU_j _ _ (by omega)]; omega⟩
  · unfold XC XM
    exact (((E.ur 0 0 0 (by decide) (by decide)).rl 11 _ (by decide) (by decide)).rr 20 _ (by decide) (by decide)).r2 10 6 hes2.2.1 (by decide) (by decide)
  · have s0 : same B (zR (zU B 0 0 0) 20 s2.1) := ⟨fun k h1 h2 => by rw [zR_n _ _ (by omega), zU_n _ _ (by omega)], fun j h1 h2 => by rw [zR_n _ _ (by omega), zU_j _ _ (by omega)]⟩
    obtain ⟨-, -, -, -, i5, i6, i7⟩ := hqi2
    refine gd_6 (gd_same s0 hg) (fun k hk hne => ?_) i5
    have e1 := s0.1 1 (by omega) (by omega); have e3 := s0.1 3 (by omega) (by omega); have e4 := s0.1 4 (by omega) (by omega)
    have f2 := s0.2 2 (by omega) (by omega); have f3 := s0.2 3 (by omega) (by omega)
    unfold isC
    rw [e1, e3, e4, f2, f3]
    by_cases ek : ((k % 16 : Nat) : Int) = t'
    · obtain ⟨l, l1, l2, l3, l4, l5⟩ := i6 k hk hne ek
      have q : (s2.2.1 k / 4).toNat = l := by omega
      have hl := hg.1.2.1.1 l l1
      rw [q, l3, l4]
      exact ⟨by omega, by omega, by omega, by omega, rfl, rfl⟩
    · have e6 := i7 k (fun _ => ek)
      rw [e6] at hne ⊢
      exact hg.1.2.2.1 k hk hne
