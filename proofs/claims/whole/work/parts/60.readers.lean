/-! the pure side: ranges, invariants, readers -/
abbrev isC (B : AA) (c : Int) : Prop := 0 ≤ c ∧ c < 4 * B 0 3 ∧ c % 4 < B 3 (c / 4).toNat
def wf (B : AA) : Prop :=
  (0 ≤ B 0 2 ∧ B 0 2 ≤ 16) ∧ (0 ≤ B 0 3 ∧ B 0 3 ≤ 40) ∧ (0 ≤ B 0 4 ∧ B 0 4 ≤ 400) ∧ (0 ≤ B 0 5 ∧ B 0 5 ≤ 2000000) ∧
  (∀ j, (0 ≤ B 1 j ∧ B 1 j < 16) ∧ (0 ≤ B 2 j ∧ B 2 j < 16) ∧ (0 ≤ B 3 j ∧ B 3 j ≤ 4) ∧ (B 4 j = 0 ∨ B 4 j = 1) ∧ (-1 ≤ B 5 j ∧ B 5 j < 4)) ∧
  (∀ j, (-1 ≤ B 6 j ∧ B 6 j < 160)) ∧
  (∀ j, (0 ≤ B 7 j ∧ B 7 j < 16) ∧ (0 ≤ B 8 j ∧ B 8 j < 16) ∧ (0 ≤ B 9 j ∧ B 9 j ≤ 16) ∧ (0 ≤ B 10 j ∧ B 10 j ≤ B 9 j)) ∧
  (∀ j, (0 ≤ B 13 j ∧ B 13 j ≤ 4) ∧ (0 ≤ B 14 j ∧ B 14 j < 6400) ∧ (0 ≤ B 15 j ∧ B 15 j ≤ 2000000) ∧ (-1 ≤ B 17 j ∧ B 17 j < 176))
theorem wf.n {B : AA} (h : wf B) : 0 ≤ B 0 2 ∧ B 0 2 ≤ 16 := h.1
theorem wf.l {B : AA} (h : wf B) : 0 ≤ B 0 3 ∧ B 0 3 ≤ 40 := h.2.1
theorem wf.p {B : AA} (h : wf B) : 0 ≤ B 0 4 ∧ B 0 4 ≤ 400 := h.2.2.1
theorem wf.t {B : AA} (h : wf B) : 0 ≤ B 0 5 ∧ B 0 5 ≤ 2000000 := h.2.2.2.1
theorem wf.a1 {B : AA} (h : wf B) (j : Nat) : 0 ≤ B 1 j ∧ B 1 j < 16 := (h.2.2.2.2.1 j).1
theorem wf.a2 {B : AA} (h : wf B) (j : Nat) : 0 ≤ B 2 j ∧ B 2 j < 16 := (h.2.2.2.2.1 j).2.1
theorem wf.a3 {B : AA} (h : wf B) (j : Nat) : 0 ≤ B 3 j ∧ B 3 j ≤ 4 := (h.2.2.2.2.1 j).2.2.1
theorem wf.a4 {B : AA} (h : wf B) (j : Nat) : B 4 j = 0 ∨ B 4 j = 1 := (h.2.2.2.2.1 j).2.2.2.1
theorem wf.a5 {B : AA} (h : wf B) (j : Nat) : -1 ≤ B 5 j ∧ B 5 j < 4 := (h.2.2.2.2.1 j).2.2.2.2
theorem wf.a6 {B : AA} (h : wf B) (j : Nat) : -1 ≤ B 6 j ∧ B 6 j < 160 := h.2.2.2.2.2.1 j
theorem wf.a7 {B : AA} (h : wf B) (j : Nat) : 0 ≤ B 7 j ∧ B 7 j < 16 := (h.2.2.2.2.2.2.1 j).1
theorem wf.a8 {B : AA} (h : wf B) (j : Nat) : 0 ≤ B 8 j ∧ B 8 j < 16 := (h.2.2.2.2.2.2.1 j).2.1
theorem wf.a9 {B : AA} (h : wf B) (j : Nat) : 0 ≤ B 9 j ∧ B 9 j ≤ 16 := (h.2.2.2.2.2.2.1 j).2.2.1
theorem wf.a10 {B : AA} (h : wf B) (j : Nat) : 0 ≤ B 10 j ∧ B 10 j ≤ B 9 j := (h.2.2.2.2.2.2.1 j).2.2.2
theorem wf.a13 {B : AA} (h : wf B) (j : Nat) : 0 ≤ B 13 j ∧ B 13 j ≤ 4 := (h.2.2.2.2.2.2.2 j).1
theorem wf.a14 {B : AA} (h : wf B) (j : Nat) : 0 ≤ B 14 j ∧ B 14 j < 6400 := (h.2.2.2.2.2.2.2 j).2.1
theorem wf.a15 {B : AA} (h : wf B) (j : Nat) : 0 ≤ B 15 j ∧ B 15 j ≤ 2000000 := (h.2.2.2.2.2.2.2 j).2.2.1
theorem wf.a17 {B : AA} (h : wf B) (j : Nat) : -1 ≤ B 17 j ∧ B 17 j < 176 := (h.2.2.2.2.2.2.2 j).2.2.2
theorem isC.lt {B : AA} (h : wf B) {c : Int} (hc : isC B c) : 0 ≤ c ∧ c < 160 := by have := h.l; unfold isC at hc; omega

/-- a net's invariants apart from the flits on their way -/
def iL (B : AA) : Prop := (∀ l : Nat, (l : Int) < B 0 3 → B 1 l < B 0 2 ∧ B 2 l < B 0 2 ∧ B 1 l ≠ B 2 l ∧ 1 ≤ B 3 l ∧ B 5 l < B 3 l) ∧ (∀ l : Nat, B 0 3 ≤ l → l < 40 → B 5 l = -1)
def iR (B : AA) : Prop := ∀ k : Nat, k < 256 → B 6 k ≠ -1 → ((k / 16 : Nat) : Int) < B 0 2 ∧ ((k % 16 : Nat) : Int) < B 0 2 ∧ k / 16 ≠ k % 16 ∧ isC B (B 6 k) ∧ B 1 (B 6 k / 4).toNat = ((k / 16 : Nat) : Int) ∧ B 4 (B 6 k / 4).toNat = 0
def iP (B : AA) : Prop := (∀ p : Nat, (p : Int) < B 0 4 → B 7 p < B 0 2 ∧ B 8 p < B 0 2 ∧ 1 ≤ B 9 p) ∧ (∀ p : Nat, B 0 4 ≤ p → B 10 p = 0 ∧ B 11 p = 0) ∧ (∀ p q : Nat, p < q → (q : Int) < B 0 4 → B 7 p = B 7 q → B 10 p < B 9 p → B 10 q = 0)
def iB (B : AA) : Prop := ∀ c k : Nat, c < 160 → (k : Int) < B 13 c → isC B c ∧ B 14 (4 * c + k) / 16 < B 0 4 ∧ B 14 (4 * c + k) % 16 < B 9 (B 14 (4 * c + k) / 16).toNat ∧ B 15 (4 * c + k) ≤ B 0 5
abbrev inp (B : AA) (i : Int) : Prop := 0 ≤ i ∧ (i < 16 ∧ i < B 0 2 ∨ 16 ≤ i ∧ isC B (i - 16))
def iH (B : AA) : Prop := ∀ c : Nat, c < 160 → B 17 c ≠ -1 → isC B c ∧ inp B (B 17 c) ∧ 0 ≤ B 18 c ∧ B 18 c < B 0 4
def sm : Nat → (Nat → Int) → Int
  | 0, _ => 0
  | n + 1, f => sm n f + f n
def iG (B : AA) : Prop := B 0 7 = sm (B 0 4).toNat (B 11)

/-! readers of the reference -/
theorem r_within {B : AA} {x a b : Int} {post : Int → Prop} (hx : rg x) (ha : rg a) (hb : rg b) (h1 : a ≤ x → x ≤ b → post 1) (h0 : ¬ (a ≤ x ∧ x ≤ b) → post 0) : zp_M_within B x a b post := by
  unfold zp_M_within
  exact ⟨hx, ha, fun h => h0 (by omega), fun h => ⟨hx, hb, fun g => h0 (by omega), fun g => h1 (by omega) (by omega)⟩⟩
theorem r_isNode {B : AA} {x : Int} {post : Int → Prop} (h : wf B) (hx : rg x) (h1 : 0 ≤ x → x < B 0 2 → post 1) (h0 : ¬ (0 ≤ x ∧ x < B 0 2) → post 0) : zp_M_isNode B x post := by
  have := h.n
  unfold zp_M_isNode
  exact r_within hx (by omega) (by omega) (fun a b => ⟨.inr rfl, h1 a (by omega)⟩) (fun a => ⟨.inl rfl, h0 (by omega)⟩)
theorem r_isChannel {B : AA} {x : Int} {post : Int → Prop} (h : wf B) (hx : rg x) (h1 : isC B x → post 1) (h0 : ¬ isC B x → post 0) : zp_M_isChannel B x post := by
  have := h.l
  unfold zp_M_isChannel
  refine r_within hx (by omega) (by omega) (fun a b => ⟨by omega, fun g => by omega, fun _ => ?_⟩) (fun a => ⟨by omega, fun _ => h0 (by unfold isC; omega), fun g => by omega⟩)
  have := h.a3 (x / 4).toNat
  exact ⟨by omega, by omega, by omega, by omega, by omega, fun g => h0 (by unfold isC; omega), fun g => h1 (by unfold isC; omega)⟩
def qf (B : AA) (i : Int) : Nat → Nat → Int
  | 0, _ => -1
  | n + 1, p => if B 7 p = i ∧ B 10 p ≠ B 9 p then (p : Int) else qf B i n (p + 1)
abbrev q0 (B : AA) (i : Int) : Int := qf B i (B 0 4).toNat 0
def fr (B : AA) (i : Int) : Int := if i < 16 then (if q0 B i < 0 then -1 else 16 * q0 B i + B 10 (q0 B i).toNat) else if B 13 (i - 16).toNat = 0 ∨ B 15 (4 * (i - 16)).toNat = B 0 5 then -1 else B 14 (4 * (i - 16)).toNat
theorem qf_ge (B : AA) (i : Int) : ∀ n p, qf B i n p = -1 ∨ ((p : Int) ≤ qf B i n p ∧ qf B i n p < p + n) := by
  intro n
  induction n with
  | zero => intro p; exact .inl rfl
  | succ n ih =>
    intro p
    unfold qf
    split
    · right; omega
    · rcases ih (p + 1) with h | h <;> omega
theorem ll_front {B : AA} (h : wf B) {i : Int} (hi : rg i) {ex post : Int → Prop} : ∀ (n p : Nat), (p : Int) + n = B 0 4 → (qf B i n p = -1 → ex (B 0 4)) → (∀ q : Nat, (q : Int) < B 0 4 → qf B i n p = q → ex q) → zl_M_front_50 B i ex post (n + 1) p := by
  intro n
  have hp := h.p
  induction n with
  | zero =>
    intro p e h0 h1
    refine ⟨by omega, by omega, fun _ => ?_, fun g => by omega⟩
    have : (p : Int) = B 0 4 := by omega
    rw [this]; exact h0 rfl
  | succ n ih =>
    intro p e h0 h1
    have a7 := h.a7 p; have a9 := h.a9 p; have a10 := h.a10 p
    have hq := qf_ge B i n (p + 1)
    have nx : ¬ (B 7 p = i ∧ B 10 p ≠ B 9 p) → zl_M_front_50 B i ex post (n + 1) ((p : Int) + 1) := fun g => by
      have := ih (p + 1) (by omega) (fun e => h0 (by unfold qf; rw [if_neg g]; exact e)) (fun q hq e => h1 q hq (by unfold qf; rw [if_neg g]; exact e))
      simpa using this
    refine ⟨by omega, by omega, fun _ => by omega, fun g => ⟨by omega, ?_⟩⟩
    simp only [Int.toNat_natCast]
    refine ⟨by omega, hi, fun g1 => nx (fun g2 => g1 g2.1), fun g1 => ⟨by omega, by omega, by omega, by omega, fun g2 => ?_, fun g2 => nx (fun g3 => g3.2 g2)⟩⟩
    exact h1 p (by omega) (by unfold qf; rw [if_pos ⟨g1, g2⟩])
theorem r_front {B : AA} (h : wf B) {i : Int} (hi : 0 ≤ i ∧ i < 176) {post : Int → Prop} (hp : post (fr B i)) : zp_M_front B i post := by
  have p4 := h.p; have p5 := h.t
  unfold zp_M_front
  refine ⟨by omega, fun g => ⟨(B 0 4).toNat + 1, ?_⟩, fun g => ?_⟩
  · have hf : fr B i = if q0 B i < 0 then -1 else 16 * q0 B i + B 10 (q0 B i).toNat := by unfold fr; rw [if_pos g]
    have := ll_front (i := i) (B := B) h (by omega) (ex := (fun y2 => ze_M_front_89 B y2 post)) (post := post) (B 0 4).toNat 0 (by omega) (fun e => ?_) (fun q hq e => ?_)
    · simpa using this
    · unfold ze_M_front_89
      rw [hf, if_pos (by show qf _ _ _ _ < 0; omega)] at hp
      exact ⟨by omega, by omega, fun _ => hp, fun g => by omega⟩
    · unfold ze_M_front_89
      have e : q0 B i = q := e
      rw [hf, e, if_neg (by omega)] at hp
      exact ⟨by omega, by omega, fun _ => by omega, fun _ => ⟨by omega, hp⟩⟩
  · have hf : fr B i = if B 13 (i - 16).toNat = 0 ∨ B 15 (4 * (i - 16)).toNat = B 0 5 then -1 else B 14 (4 * (i - 16)).toNat := by unfold fr; rw [if_neg g]
    rintro _ rfl
    have := h.a13 (i - 16).toNat; have := h.a15 (4 * (i - 16)).toNat
    refine ⟨by omega, by omega, fun e => ?_, fun e => ⟨by omega, by omega, by omega, fun e2 => ⟨by omega, ?_⟩, fun e2 => ?_⟩⟩
    · rw [hf, if_pos (.inl e)] at hp; exact hp
    · rw [hf, if_neg (by omega)] at hp; exact hp
    · rw [hf, if_pos (.inr e2)] at hp; exact hp
theorem fr_rg {B : AA} (h : wf B) (i : Int) : -1 ≤ fr B i ∧ fr B i < 6416 := by
  unfold fr
  have p4 := h.p
  split
  · have : q0 B i = -1 ∨ (((0 : Nat) : Int) ≤ q0 B i ∧ q0 B i < ((0 : Nat) : Int) + (B 0 4).toNat) := qf_ge B i (B 0 4).toNat 0
    have := h.a10 (q0 B i).toNat; have := h.a9 (q0 B i).toNat
    split <;> omega
  · have := h.a14 (4 * (i - 16)).toNat
    split <;> omega
def nd (B : AA) (i : Int) : Int := if i < 16 then i else B 2 ((i - 16) / 4).toNat
theorem r_nodeOf {B : AA} {i : Int} (hi : 0 ≤ i ∧ i < 176) {post : Int → Prop} (hp : post (nd B i)) : zp_M_nodeOf B i post := by
  unfold zp_M_nodeOf
  unfold nd at hp
  refine ⟨by omega, fun g => ⟨by omega, by omega, ?_⟩, fun g => ?_⟩
  · rw [if_neg (by omega)] at hp; exact hp
  · rw [if_pos (by omega)] at hp; exact hp
theorem r_isInput {B : AA} (h : wf B) {i n : Int} (hi : 0 ≤ i ∧ i < 176) (hn : 0 ≤ n ∧ n < B 0 2) {post : Int → Prop} (h1 : inp B i → nd B i = n → post 1) (h0 : ¬ (inp B i ∧ nd B i = n) → post 0) : zp_M_isInput B i n post := by
  have hb := h.n
  unfold zp_M_isInput
  refine ⟨by omega, fun g => ?_, fun g => ?_⟩
  · refine r_isChannel h (by omega) (fun c => ⟨by omega, fun _ => by omega, fun _ => ?_⟩) (fun c => ⟨by omega, fun _ => h0 (fun q => ?_), fun _ => by omega⟩)
    · have := h.a2 ((i - 16) / 4).toNat
      have e : nd B i = B 2 ((i - 16) / 4).toNat := by unfold nd; rw [if_neg (by omega)]
      refine r_nodeOf hi ⟨by omega, by omega, fun q => h0 (fun w => q w.2), fun q => h1 ⟨by omega, .inr ⟨g, c⟩⟩ q⟩
    · exact (q.1.2.elim (fun w => by omega) (fun w => c w.2))
  · have e : nd B i = i := by unfold nd; rw [if_pos (by omega)]
    exact ⟨by omega, by omega, fun q => h0 (fun w => by omega), fun q => h1 ⟨by omega, .inl (by omega)⟩ (by omega)⟩
def hb (B : AA) (i c : Int) : Prop := ∃ d : Nat, (d : Int) < c ∧ B 17 d = i
abbrev hh (B : AA) (i : Int) : Prop := hb B i (4 * B 0 3)
theorem hb_s {B : AA} {i : Int} {c : Nat} (g : B 17 c ≠ i) : hb B i ((c : Int) + 1) → hb B i c := fun ⟨d, hd, e⟩ => by
  by_cases q : d = c
  · subst q; exact absurd e g
  · exact ⟨d, by omega, e⟩
theorem hb_m {B : AA} {i c : Int} : hb B i c → hb B i (c + 1) := fun ⟨d, hd, e⟩ => ⟨d, by omega, e⟩
theorem ll_holds {B : AA} (h : wf B) {i : Int} (hi : rg i) {ex : Int → Int → Prop} {post : Int → Prop} : ∀ (n c : Nat) (x : Int), (c : Int) + n = 4 * B 0 3 → (x = 0 ∧ ¬ hb B i c ∨ x = 1 ∧ hb B i c) → ((hh B i → ex 1 (4 * B 0 3)) ∧ (¬ hh B i → ex 0 (4 * B 0 3))) → zl_M_holds_4 B i ex post (n + 1) x c := by
  intro n
  have hp := h.l
  induction n with
  | zero =>
    intro c x e hc hh2
    refine ⟨by omega, by omega, fun _ => ?_, fun g => by omega⟩
    have e2 : (c : Int) = 4 * B 0 3 := by omega
    rw [e2] at hc ⊢
    rcases hc with ⟨rfl, g⟩ | ⟨rfl, g⟩
    · exact hh2.2 g
    · exact hh2.1 g
  | succ n ih =>
    intro c x e hc hh2
    have a := h.a17 c
    refine ⟨by omega, by omega, fun _ => by omega, fun g => ⟨by omega, fun g1 => ?_, fun g1 => ⟨by omega, ?_⟩⟩⟩
    · have := ih (c + 1) 1 (by omega) (.inr ⟨rfl, by rcases hc with q | q; exact absurd q.1 g1; exact hb_m q.2⟩) hh2
      simpa using this
    · have hc : ¬ hb B i c := by rcases hc with q | q; exact q.2; omega
      simp only [Int.toNat_natCast]
      refine ⟨by omega, hi, fun g2 => ?_, fun g2 => ?_⟩
      · have := ih (c + 1) 0 (by omega) (.inl ⟨rfl, fun q => hc (hb_s g2 q)⟩) hh2
        simpa using this
      · have := ih (c + 1) 1 (by omega) (.inr ⟨rfl, c, by omega, g2⟩) hh2
        simpa using this
theorem r_holds {B : AA} (h : wf B) {i : Int} (hi : rg i) {post : Int → Prop} (h1 : hh B i → post 1) (h0 : ¬ hh B i → post 0) : zp_M_holds B i post := by
  have hp := h.l
  refine ⟨(4 * B 0 3).toNat + 1, ?_⟩
  have := ll_holds h hi (ex := fun y2 y3 => ze_M_holds_40 B y2 post) (post := post) (4 * B 0 3).toNat 0 0 (by omega) (.inl ⟨rfl, fun ⟨d, hd, _⟩ => by omega⟩) ⟨fun g => ⟨.inr rfl, h1 g⟩, fun g => ⟨.inl rfl, h0 g⟩⟩
  simpa using this
/-- what an input may get now, if the channel on its way is free -/
def wt (B : AA) (i c : Int) : Prop := 0 ≤ fr B i ∧ fr B i % 16 = 0 ∧ B 8 (fr B i / 16).toNat ≠ nd B i ∧ ¬ hh B i ∧ c = B 6 (16 * nd B i + B 8 (fr B i / 16).toNat).toNat ∧ 0 ≤ c ∧ B 4 (c / 4).toNat = 0 ∧ B 17 c.toNat = -1
theorem nd_rg {B : AA} (h : wf B) {i : Int} (hi : 0 ≤ i) : 0 ≤ nd B i ∧ nd B i < 16 := by
  unfold nd; have := h.a2 ((i - 16) / 4).toNat; split <;> omega
/-- a front's packet is one -/
def fo (B : AA) (i : Int) : Prop := 0 ≤ fr B i → fr B i / 16 < B 0 4
theorem r_wanted {B : AA} (h : wf B) {i : Int} (hi : 0 ≤ i ∧ i < 176) (hf : fo B i) {post : Int → Prop} (h1 : ∀ c, wt B i c → post c) (h0 : (∀ c, ¬ wt B i c) → post (-1)) : zp_M_wanted B i post := by
  have f1 := fr_rg h i; have hp := h.p
  unfold zp_M_wanted
  refine r_front h hi (r_nodeOf hi ⟨by omega, fun g => h0 (fun c w => by have := w.1; omega), fun g => ?_⟩)
  have hf := hf (by omega)
  have f2 := h.a8 (fr B i / 16).toNat; have f3 := nd_rg h hi.1
  refine ⟨by omega, by omega, fun g1 => h0 (fun c w => by have := w.2.1; omega), fun g1 => ⟨by omega, by omega, by omega, by omega, fun g2 => h0 (fun c w => w.2.2.1 g2), fun g2 => ?_⟩⟩
  refine r_holds h (by omega) (fun g3 => ⟨by omega, fun _ => by omega, fun _ => h0 (fun c w => w.2.2.2.1 g3)⟩) (fun g3 => ⟨by omega, fun _ => ?_, fun _ => by omega⟩)
  refine ⟨by omega, by omega, by omega, fun v ev => ?_⟩
  have f4 := h.a6 (16 * nd B i + B 8 (fr B i / 16).toNat).toNat
  refine ⟨by omega, fun g4 => h0 (fun c w => by have := w.2.2.2.2.1; have := w.2.2.2.2.2.1; omega), fun g4 => ?_⟩
  have f5 := h.a4 (v / 4).toNat; have f6 := h.a17 v.toNat
  refine ⟨by omega, by omega, by omega, fun g5 => h0 (fun c w => ?_), fun g5 => ⟨by omega, by omega, fun g6 => h0 (fun c w => ?_), fun g6 => h1 v ⟨by omega, by omega, g2, g3, ev, by omega, g5, g6⟩⟩⟩
  · have e := w.2.2.2.2.1; rw [← ev] at e; subst e; exact g5 w.2.2.2.2.2.2.1
  · have e := w.2.2.2.2.1; rw [← ev] at e; subst e; exact g6 w.2.2.2.2.2.2.2
