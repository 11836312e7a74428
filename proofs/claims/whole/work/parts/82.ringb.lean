/-! the reference: how far to a channel -/
def Ms (B : AA) (s : Nat) (W : Nat → Int) : Prop := ∀ c, c < 160 → (∃ j : Nat, W c = (j : Int) ∧ ds B s j c) ∨ (W c = -1 ∧ ∀ j, ¬ ds B s j c)
def L1 (B : AA) (s d : Nat) (W : Nat → Int) (c : Nat) : Prop := (∃ j : Nat, j ≤ d ∧ W c = (j : Int) ∧ ds B s j c) ∨ (W c = -1 ∧ na B s d c)
theorem L1_v {B : AA} {s d : Nat} {W : Nat → Int} {c : Nat} (h : L1 B s d W c) : (W c = -1 ∨ 1 ≤ W c ∧ W c ≤ d) := by
  rcases h with ⟨j, a, b, c⟩ | h
  · have := c.1; omega
  · exact .inl h.1
theorem L1_eq {B : AA} {s d : Nat} {W : Nat → Int} {c j : Nat} (h : L1 B s d W c) (hj : 1 ≤ j ∧ j ≤ d) : W c = (j : Int) ↔ ds B s j c := by
  rcases h with ⟨i, a, b, e⟩ | ⟨a, b⟩
  · constructor
    · intro z; have : i = j := by omega
      subst this; exact e
    · intro z; have := ds_u e z; subst this; exact b
  · constructor
    · intro z; omega
    · intro z; exact absurd z.2.1 (b j hj.1 hj.2)
theorem r_now {B X : AA} {W : Nat → Int} (hG : Gl B (fun _ => True) (X 19)) (h20 : X 20 = W) (hW : ∀ c, c < 160 → -1 ≤ W c ∧ W c ≤ 1000) {s v : Int} {e c : Nat} (hc : c < 160) (he : 1 ≤ e ∧ e ≤ 1000) {ex : Int → Int → Prop} {post : AA → Prop} {x0 : Int} (hx0 : x0 = 0 ∨ x0 = 1) (h1 : (x0 = 1 ∨ (W c = -1 ∧ 1 < e ∧ ∃ b, b < 160 ∧ Le B c b ∧ W b = (e : Int) - 1)) → ∀ z, ex 1 z) (h0 : ¬ (x0 = 1 ∨ (W c = -1 ∧ 1 < e ∧ ∃ b, b < 160 ∧ Le B c b ∧ W b = (e : Int) - 1)) → ∀ z, ex 0 z) : ∃ k, zl_M_measure_85 X s v e c ex post k x0 0 := by
  have wc := hW c hc
  refine sq4 (zl_M_measure_85 X s v e c ex post) (fun j u => (u = 1 ∧ (x0 = 1 ∨ (W c = -1 ∧ 1 < e ∧ ∃ b, b < 160 ∧ Le B c b ∧ W b = (e : Int) - 1))) ∨ (u = 0 ∧ x0 = 0 ∧ ∀ b, b < j → ¬ (W c = -1 ∧ 1 < e ∧ Le B c b ∧ W b = (e : Int) - 1))) 160 (fun u k hu => ?_) (fun j hj u hu k hk => ?_) x0 (by rcases hx0 with z | z; exact .inr ⟨z, z, fun b hb => by omega⟩; exact .inl ⟨z, .inl z⟩)
  · refine ⟨by omega, fun _ => ?_, fun g => by omega⟩
    rcases hu with ⟨rfl, q⟩ | ⟨rfl, q0, q⟩
    · exact h1 q _
    · refine h0 (fun z => ?_) _
      rcases z with z | ⟨z1, z2, b, z3, z4, z5⟩
      · omega
      · exact q b z3 ⟨z1, z2, z4, z5⟩
  · refine ⟨by omega, fun g => by omega, fun _ => ?_⟩
    rcases hu with ⟨rfl, q⟩ | ⟨rfl, q0, q⟩
    · exact ⟨by omega, fun _ => h1 q _, fun z => by omega⟩
    · have stop : (¬ (W c = -1 ∧ 1 < e)) → ∀ z, ex 0 z := fun g => h0 (fun z => by
        rcases z with z | ⟨z1, z2, -⟩
        · omega
        · exact g ⟨z1, z2⟩)
      have next : ¬ (Le B c j ∧ W j = (e : Int) - 1) → zl_M_measure_85 X s v e c ex post k 0 ((j : Int) + 1) := fun g => hk 0 (.inr ⟨rfl, q0, fun b hb z => by
        by_cases eb : b = j
        · rw [eb] at z; exact g ⟨z.2.2.1, z.2.2.2⟩
        · exact q b (by omega) z⟩)
      obtain ⟨g1, g2⟩ := hG c j hc hj
      have wj := hW j hj
      rw [h20]
      have ei : (160 * (c : Int) + j).toNat = 160 * c + j := by omega
      rw [ei]
      simp only [Int.toNat_natCast]
      refine ⟨by omega, fun z => absurd trivial z, fun _ => ⟨by omega, by omega, fun z => stop (fun y => z y.1) _, fun z => ⟨by omega, fun y => stop (fun t => by omega) _, fun y => ⟨by omega, by omega, fun t => ?_, fun t => ⟨by omega, by omega, by omega, fun t2 => ?_, fun t2 => ?_⟩⟩⟩⟩⟩
      · exact next (fun r => absurd t (g2.mpr r.1))
      · exact next (fun r => t2 r.2)
      · exact hk 1 (.inl ⟨rfl, .inr ⟨z, by omega, j, hj, g2.mp t, t2⟩⟩)
theorem sm_lt {f g : Nat → Int} : ∀ n, (∀ k, k < n → f k ≤ g k) → sm n f ≤ sm n g ∧ (∀ j, j < n → f j < g j → sm n f < sm n g) := by
  intro n
  induction n with
  | zero => intro _; exact ⟨Int.le_refl _, fun j hj => by omega⟩
  | succ n ih =>
    intro h
    obtain ⟨a, b⟩ := ih (fun k hk => h k (by omega))
    have := h n (by omega)
    rw [sm, sm]
    refine ⟨by omega, fun j hj hl => ?_⟩
    by_cases e : j = n
    · subst e; omega
    · have := b j (by omega) hl; omega
def un (W : Nat → Int) : Int := sm 160 (fun c => if W c = -1 then 1 else 0)
theorem un_0 (W : Nat → Int) : 0 ≤ un W := sm_0 _ (fun k _ => by split <;> omega)
/-- one distance -/
theorem r_round {B X : AA} (w : wf B) {s d : Nat} (hs : s < 160) (hd : d ≤ 900) (hG : Gl B (fun _ => True) (X 19)) {W : Nat → Int} (hL : ∀ c, c < 160 → L1 B s d W c) {ex : AA → Int → Int → Prop} {post : AA → Prop} (hex : ∀ W' v, (∀ c, c < 160 → L1 B s (d + 1) W' c) → (v = 0 ∧ (∀ c, c < 160 → ¬ ds B s (d + 1) c) ∨ v = 1 ∧ un W' < un W) → ex (zR X 20 W') v 160) : ∃ k, zl_M_measure_35 s ((d : Int) + 1) ex post k (zR X 20 W) 0 0 := by
  refine sq6 (zl_M_measure_35 s ((d : Int) + 1) ex post) (fun j Y v => ∃ W', Y = zR X 20 W' ∧ (∀ c, c < 160 → if c < j then L1 B s (d + 1) W' c else L1 B s d W' c) ∧ (∀ c, c < 160 → W' c = -1 → W c = -1) ∧ (v = 0 ∧ (∀ c, c < j → ¬ ds B s (d + 1) c) ∨ v = 1 ∧ ∃ c, c < 160 ∧ W c = -1 ∧ W' c ≠ -1)) 160 (fun Y v k hY => ?_) (fun c hc Y v hY k hk => ?_) _ 0 ⟨W, rfl, fun c hc => by rw [if_neg (by omega)]; exact hL c hc, fun _ _ h => h, .inl ⟨rfl, fun c hc => by omega⟩⟩
  · obtain ⟨W', rfl, h1, h2, h3⟩ := hY
    refine ⟨by omega, fun _ => ?_, fun g => by omega⟩
    refine hex W' v (fun c hc => by have := h1 c hc; rw [if_pos hc] at this; exact this) ?_
    rcases h3 with h3 | ⟨h3, c, c1, c2, c3⟩
    · exact .inl h3
    · refine .inr ⟨h3, ?_⟩
      refine (sm_lt 160 (fun k hk => ?_)).2 c c1 ?_
      · have := h2 k hk
        by_cases z : W' k = -1
        · rw [if_pos z, if_pos (this z)]; omega
        · rw [if_neg z]; split <;> omega
      · rw [if_neg c3, if_pos c2]; omega
  · obtain ⟨W', rfl, h1, h2, h3⟩ := hY
    have hc1 := h1 c hc
    rw [if_neg (by omega)] at hc1
    have wv : ∀ x, x < 160 → -1 ≤ W' x ∧ W' x ≤ 1000 := fun x hx => by
      have := h1 x hx
      split at this
      · have := L1_v this; omega
      · have := L1_v this; omega
    have wcv := wv c hc
    have vr : v = 0 ∨ v = 1 := by rcases h3 with z | z; exact .inl z.1; exact .inr z.1
    have h19 : zR X 20 W' 19 = X 19 := zR_n _ _ (by omega)
    have e20 : zR X 20 W' 20 = W' := zR_s _ _ _
    -- the two ends
    have yes : ds B s (d + 1) c → W' c = -1 → ∀ z : Int, ze_M_measure_157 (zR X 20 W') s v ((d : Int) + 1) c 1 (zl_M_measure_35 s ((d : Int) + 1) ex post k) ex post := fun g gw z => by
      refine ⟨by omega, fun z => by omega, fun _ => ⟨by omega, ?_⟩⟩
      rintro _ rfl
      simp only [Int.toNat_natCast]
      rw [zU_zR]
      refine hk _ 1 ⟨_, rfl, fun x hx => ?_, fun x hx z => ?_, .inr ⟨rfl, c, hc, h2 c hc gw, ?_⟩⟩
      · by_cases ex : x = c
        · subst ex; rw [if_pos (by omega)]
          left; refine ⟨d + 1, Nat.le_refl _, ?_, g⟩
          dsimp only; rw [if_pos rfl]; omega
        · have := h1 x hx
          by_cases lt : x < c
          · rw [if_pos lt] at this; rw [if_pos (by omega)]
            unfold L1 at *; dsimp only; rw [if_neg ex]; exact this
          · rw [if_neg lt] at this; rw [if_neg (by omega)]
            unfold L1 at *; dsimp only; rw [if_neg ex]; exact this
      · by_cases ex : x = c
        · rw [if_pos ex] at z; omega
        · rw [if_neg ex] at z; exact h2 x hx z
      · rw [if_pos rfl]; omega
    have no : ¬ ds B s (d + 1) c → ∀ z : Int, ze_M_measure_157 (zR X 20 W') s v ((d : Int) + 1) c 0 (zl_M_measure_35 s ((d : Int) + 1) ex post k) ex post := fun g z => by
      refine ⟨by omega, fun _ => hk _ v ⟨W', rfl, fun x hx => ?_, h2, ?_⟩, fun z => absurd rfl z⟩
      · have := h1 x hx
        by_cases ex : x = c
        · subst ex; rw [if_pos (by omega)]
          rcases hc1 with ⟨j, j1, j2, j3⟩ | ⟨j1, j2⟩
          · exact .inl ⟨j, by omega, j2, j3⟩
          · refine .inr ⟨j1, na_iff.mpr (fun j a b q => ?_)⟩
            by_cases ej : j = d + 1
            · subst ej; exact g q
            · exact j2 j a (by omega) q.2.1
        · by_cases lt : x < c
          · rw [if_pos lt] at this; rw [if_pos (by omega)]; exact this
          · rw [if_neg lt] at this; rw [if_neg (by omega)]; exact this
      · rcases h3 with z | z
        · refine .inl ⟨z.1, fun x hx => ?_⟩
          by_cases ex : x = c
          · subst ex; exact g
          · exact z.2 x (by omega)
        · exact .inr z
    have e1 : ((d : Int) + 1) = ((d + 1 : Nat) : Int) := by omega
    -- the loop over the channels that it leads to
    have lev : ∀ b, b < 160 → (W' b = (d : Int) ↔ (1 ≤ d ∧ ds B s d b)) := fun b hb => by
      have := h1 b hb
      by_cases d1 : 1 ≤ d
      · by_cases lt : b < c
        · rw [if_pos lt] at this; rw [L1_eq this (by omega)]; exact ⟨fun z => ⟨d1, z⟩, fun z => z.2⟩
        · rw [if_neg lt] at this; rw [L1_eq this (by omega)]; exact ⟨fun z => ⟨d1, z⟩, fun z => z.2⟩
      · constructor
        · intro z
          by_cases lt : b < c
          · rw [if_pos lt] at this; have := L1_v this; omega
          · rw [if_neg lt] at this; have := L1_v this; omega
        · intro z; omega
    have loop : ∀ x0 : Int, (x0 = 0 ∨ x0 = 1) → (x0 = 1 → ds B s (d + 1) c ∧ W' c = -1) → (d = 0 → x0 = 0 → W' c = -1 → ¬ Le B c s) → ∃ j, zl_M_measure_85 (zR X 20 W') s v ((d : Int) + 1) c (fun y5 y6 => ze_M_measure_157 (zR X 20 W') s v ((d : Int) + 1) c y5 (zl_M_measure_35 s ((d : Int) + 1) ex post k) ex post) post j x0 0 := fun x0 hx0 hx1 hx2 => by
      have := r_now (B := B) (X := zR X 20 W') (W := W') (by rw [h19]; exact hG) e20 wv (s := s) (v := v) (e := d + 1) hc (by omega) (ex := fun y5 y6 => ze_M_measure_157 (zR X 20 W') s v ((d : Int) + 1) c y5 (zl_M_measure_35 s ((d : Int) + 1) ex post k) ex post) (post := post) hx0 (fun q z => ?_) (fun q z => ?_)
      · rw [← e1] at this; exact this
      · rcases q with q | ⟨q1, q2, b, q3, q4, q5⟩
        · exact yes (hx1 q).1 (hx1 q).2 z
        · have hb := (lev b q3).mp (by omega)
          rcases hc1 with ⟨j, j1, j2, j3⟩ | ⟨j1, j2⟩
          · have := j3.1; omega
          · exact yes (ds_up j2 q4 hb.2) q1 z
      · refine no (fun g => q ?_) z
        rcases hx0 with hx0 | hx0
        · right
          have wc1 : W' c = -1 := by
            rcases hc1 with ⟨j, j1, j2, j3⟩ | ⟨j1, -⟩
            · have := ds_u j3 g; omega
            · exact j1
          by_cases d0 : d = 0
          · subst d0
            exact absurd (ds_1.mp g) (hx2 rfl hx0 wc1)
          · obtain ⟨b, b1, b2⟩ := ds_dn (by omega) g
            refine ⟨wc1, by omega, b, ?_, b1, ?_⟩
            · exact (Le_rg w b1).2
            · have := (lev b (Le_rg w b1).2).mpr ⟨by omega, b2⟩
              omega
        · exact .inl hx0
    obtain ⟨g1, g2⟩ := hG c s hc hs
    have ei : (160 * (c : Int) + s).toNat = 160 * c + s := by omega
    rw [zl_M_measure_35, e20, h19, ei]
    simp only [Int.toNat_natCast]
    refine ⟨by omega, fun g => by omega, fun _ => ⟨by omega, by omega, fun g => ?_, fun g => ⟨by omega, fun q => ?_, fun q => ⟨by omega, by omega, fun t => ?_, fun t => ?_⟩⟩⟩⟩
    · exact loop 0 (.inl rfl) (fun z => by omega) (fun _ _ z => absurd z g)
    · exact loop 0 (.inl rfl) (fun z => by omega) (fun z => by omega)
    · exact loop 0 (.inl rfl) (fun z => by omega) (fun _ _ _ z => absurd t (g2.mpr z))
    · have d0 : d = 0 := by omega
      refine loop 1 (.inr rfl) (fun _ => ⟨?_, g⟩) (fun _ z => by omega)
      rw [d0]; exact ds_1.mpr (g2.mp t)
theorem r_measure {B X : AA} (w : wf B) {s : Nat} (hs : s < 160) (hG : Gl B (fun _ => True) (X 19)) {post : AA → Prop} (hp : ∀ W, Ms B s W → (∀ c, c < 160 → -1 ≤ W c ∧ W c ≤ 160) → post (zR X 20 W)) : zp_M_measure X s post := by
  -- rounds, by what is left
  have rounds : ∀ (n d : Nat) (W : Nat → Int), (∀ c, c < 160 → L1 B s d W c) → un W + d ≤ 160 → un W < n → zl_M_measure_26 s (fun B' y2 y3 => ze_M_measure_184 B' post) post (n + 1) (zR X 20 W) 1 ((d : Int) + 1) := by
    intro n
    induction n with
    | zero => intro d W _ _ h; have := un_0 W; omega
    | succ n ih =>
      intro d W hL hu hn
      have u0 := un_0 W
      refine ⟨by omega, fun z => by omega, fun _ => ?_⟩
      refine r_round w hs (by omega) hG hL (fun W' v hL' hv => ?_)
      show zl_M_measure_26 s (fun B' y2 y3 => ze_M_measure_184 B' post) post (n + 1) (zR X 20 W') v ((d : Int) + 1 + 1)
      rcases hv with ⟨rfl, hv⟩ | ⟨rfl, hv⟩
      · refine ⟨by omega, fun _ => hp W' (fun c hc => ?_) (fun c hc => ?_), fun z => absurd rfl z⟩
        · have hno := ds_stop (B := B) (s := s) (d := d + 1) (by omega) (fun x hx => by
            by_cases lt : x < 160
            · exact hv x lt hx
            · obtain ⟨-, ⟨b, hb, -⟩, -⟩ := hx
              exact lt (Le_rg w hb).1)
          rcases hL' c hc with ⟨j, j1, j2, j3⟩ | ⟨j1, j2⟩
          · exact .inl ⟨j, j2, j3⟩
          · refine .inr ⟨j1, fun j q => ?_⟩
            by_cases le : j ≤ d + 1
            · exact na_iff.mp j2 j q.1 le q
            · exact hno j (by omega) c q
        · rcases hL' c hc with ⟨j, j1, j2, j3⟩ | ⟨j1, j2⟩
          · have : j ≠ d + 1 := fun z => by rw [z] at j3; exact hv c hc j3
            omega
          · omega
      · have := ih (d + 1) W' hL' (by omega) (by omega)
        rw [show ((d + 1 : Nat) : Int) = (d : Int) + 1 by omega] at this
        exact this
  unfold zp_M_measure
  refine sq5 (zl_M_measure_2 s (fun B' y2 => ze_M_measure_22 B' s post) post) (fun j Y => ∃ W, Y = zR X 20 W ∧ ∀ i, i < j → W i = -1) 160 (fun Y k hY => ?_) (fun j hj Y hY k hk => ?_) X ⟨X 20, (zR_id X 20).symm, fun i hi => by omega⟩
  · obtain ⟨W, rfl, hW⟩ := hY
    refine ⟨by omega, fun _ => ?_, fun g => by omega⟩
    have ul : un W ≤ 160 := by
      have : ∀ n : Nat, sm n (fun c => if W c = -1 then (1 : Int) else 0) ≤ n := by
        intro n
        induction n with
        | zero => simp [sm]
        | succ n ih => rw [sm]; split <;> omega
      exact this 160
    have u0 := un_0 W
    refine ⟨162, ?_⟩
    have := rounds 161 0 W (fun c hc => .inr ⟨hW c hc, fun j h1 h2 => by omega⟩) (by omega) (by omega)
    simpa using this
  · obtain ⟨W, rfl, hW⟩ := hY
    refine ⟨by omega, fun g => by omega, fun _ => ⟨by omega, ?_⟩⟩
    rintro _ rfl
    rw [zU_zR]
    refine hk _ ⟨_, rfl, fun i hi => ?_⟩
    simp only [Int.toNat_natCast]
    by_cases q : i = j
    · rw [if_pos q]
    · rw [if_neg q]; exact hW i (by omega)
