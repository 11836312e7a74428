/-! count -/
theorem sm_add (f g : Nat → Int) : ∀ n, sm n (fun k => f k + g k) = sm n f + sm n g := by
  intro n
  induction n with
  | zero => rfl
  | succ n ih => rw [sm, sm, sm, ih]; omega
theorem sm_sub (f g : Nat → Int) : ∀ n, sm n (fun k => f k - g k) = sm n f - sm n g := by
  intro n
  induction n with
  | zero => rfl
  | succ n ih => rw [sm, sm, sm, ih]; omega
theorem c_sum14 {A : AA} {m : Nat} (hm : A 2 0 = m) (h4 : m ≤ 400) {post : Int → Prop} (hp : post (sm m (A 14))) : zp_CK_sumOf_14 A post := by
  refine sq4 (zl_CK_sumOf_14_4 A (fun y2 y3 => ze_CK_sumOf_14_30 A y2 post) post) (fun j v => v = sm j (A 14)) m (fun v k hv => ?_) (fun j hj v hv k hk => ?_) 0 rfl
  · exact ⟨by omega, by omega, fun _ => by rw [hv]; exact hp, fun g => by omega⟩
  · refine ⟨by omega, by omega, fun g => by omega, fun _ => ⟨by omega, fun g => by omega, fun _ => ⟨by omega, ?_⟩⟩⟩
    rintro v' rfl
    exact hk _ (by rw [sm, hv]; simp)
theorem c_sum13 {A : AA} {m : Nat} (hm : A 2 0 = m) (h4 : m ≤ 400) {post : Int → Prop} (hp : post (sm m (A 13))) : zp_CK_sumOf_13 A post := by
  refine sq4 (zl_CK_sumOf_13_4 A (fun y2 y3 => ze_CK_sumOf_13_30 A y2 post) post) (fun j v => v = sm j (A 13)) m (fun v k hv => ?_) (fun j hj v hv k hk => ?_) 0 rfl
  · exact ⟨by omega, by omega, fun _ => by rw [hv]; exact hp, fun g => by omega⟩
  · refine ⟨by omega, by omega, fun g => by omega, fun _ => ⟨by omega, fun g => by omega, fun _ => ⟨by omega, ?_⟩⟩⟩
    rintro v' rfl
    exact hk _ (by rw [sm, hv]; simp)
theorem c_sum15 {A : AA} {m : Nat} (hm : A 2 0 = m) (h4 : m ≤ 400) {post : Int → Prop} (hp : post (sm m (A 15))) : zp_CK_sumOf_15 A post := by
  refine sq4 (zl_CK_sumOf_15_4 A (fun y2 y3 => ze_CK_sumOf_15_30 A y2 post) post) (fun j v => v = sm j (A 15)) m (fun v k hv => ?_) (fun j hj v hv k hk => ?_) 0 rfl
  · exact ⟨by omega, by omega, fun _ => by rw [hv]; exact hp, fun g => by omega⟩
  · refine ⟨by omega, by omega, fun g => by omega, fun _ => ⟨by omega, fun g => by omega, fun _ => ⟨by omega, ?_⟩⟩⟩
    rintro v' rfl
    exact hk _ (by rw [sm, hv]; simp)
def fi (B : AA) (x : Int) (p : Nat) : Int := if x = 1 then B 9 p - B 10 p else if x = 2 then B 10 p - B 11 p else B 11 p
theorem r_flitsIn {B : AA} {p x : Int} (hp : 0 ≤ p ∧ p < 400) (hx : rg x) {post : Int → Prop} (h : post (fi B x p.toNat)) : zp_M_flitsIn B p x post := by
  unfold zp_M_flitsIn
  unfold fi at h
  refine ⟨hx, fun g => ⟨hx, fun g2 => ⟨by omega, ?_⟩, fun g2 => ⟨by omega, by omega, ?_⟩⟩, fun g => ⟨by omega, by omega, ?_⟩⟩
  · rw [if_neg g, if_neg g2] at h; exact h
  · rw [if_neg g, if_pos g2] at h; exact h
  · rw [if_pos g] at h; exact h
theorem r_sum {B : AA} {m : Nat} (hm : B 0 4 = m) (h4 : m ≤ 400) {x : Int} (hx : 5 ≤ x ∧ x ≤ 6) {post : Int → AA → Prop} (hp : post (sm m (fi B (x - 4))) B) : ∃ j, zl_M_count_114 B x (fun y2 y3 => ze_M_count_139 B y2 post) post j 0 0 := by
  refine sq4 (zl_M_count_114 B x (fun y2 y3 => ze_M_count_139 B y2 post) post) (fun j v => v = sm j (fi B (x - 4))) m (fun v k hv => ?_) (fun j hj v hv k hk => ?_) 0 rfl
  · exact ⟨by omega, by omega, fun _ => by rw [hv]; exact hp, fun g => by omega⟩
  · refine ⟨by omega, by omega, fun g => by omega, fun _ => r_flitsIn (by omega) (by omega) ?_⟩
    rintro v' rfl
    exact hk _ (by rw [sm, hv]; simp)
/-- ways by the tables -/
def wy (B : AA) (b : Int) : Nat → Int → Prop
  | 0, x => x = b
  | n + 1, x => x = b ∨ (0 ≤ B 6 (16 * x + b).toNat ∧ wy B b n (B 2 (B 6 (16 * x + b).toNat / 4).toNat))
theorem r_hasWay {B : AA} (w : wf B) {a b : Int} (ha : 0 ≤ a ∧ a < 16) (hb : 0 ≤ b ∧ b < 16) {m : Nat} (hm : B 0 2 = m) {post : Int → Prop} (h1 : wy B b m a → post 1) (h0 : ¬ wy B b m a → post 0) : zp_M_hasWay B a b post := by
  have n0 := w.n
  have : ∀ (n j : Nat) (x : Int), j + n = m → 0 ≤ x → x < 16 → (wy B b n x → post 1) → (¬ wy B b n x → post 0) → zl_M_hasWay_5 B b (fun y3 y4 => ze_M_hasWay_55 B b y3 post) post (n + 1) x j := by
    intro n
    induction n with
    | zero =>
      intro j x e x0 x1 q1 q0
      exact ⟨by omega, by omega, fun _ => ⟨by omega, by omega, q0, q1⟩, fun g => by omega⟩
    | succ n ih =>
      intro j x e x0 x1 q1 q0
      refine ⟨by omega, by omega, fun g => by omega, fun _ => ⟨by omega, by omega, fun e => ⟨by omega, by omega, fun z => absurd e z, fun _ => q1 (.inl e)⟩, fun e => ⟨by omega, ?_⟩⟩⟩
      rintro v ev
      have a6 := w.a6 (16 * x + b).toNat
      refine ⟨by omega, fun g => ⟨by omega, by omega, ?_⟩, fun g => q0 (fun z => z.elim e (fun y => by have := y.1; omega))⟩
      rintro u eu
      have a2 := w.a2 (v / 4).toNat
      have := ih (j + 1) u (by omega) (by omega) (by omega) (fun z => q1 (.inr ⟨by omega, by rw [← ev, ← eu]; exact z⟩)) (fun z => q0 (fun y => y.elim e (fun t => z (by rw [eu, ev]; exact t.2))))
      simpa using this
  exact ⟨m + 1, by simpa using this m 0 a (by omega) ha.1 ha.2 h1 h0⟩
theorem c_comesTo {A B : AA} (E : Eqs A B) (w : wf B) {a b : Int} (ha : 0 ≤ a ∧ a < 16) (hb : 0 ≤ b ∧ b < 16) {m : Nat} (hm : B 0 2 = m) {post : Int → Prop} (h1 : wy B b m a → post 1) (h0 : ¬ wy B b m a → post 0) : zp_CP_comesTo A a b post := by
  have n0 := w.n
  have s2 := E.s2
  have : ∀ (n j : Nat) (x : Int), j + n = m → 0 ≤ x → x < 16 → (wy B b n x → post 1) → (¬ wy B b n x → post 0) → zl_CP_comesTo_5 A b (fun y3 y4 => ze_CP_comesTo_48 A b y3 post) post (n + 1) x j := by
    intro n
    induction n with
    | zero =>
      intro j x e x0 x1 q1 q0
      exact ⟨by omega, by omega, fun _ => ⟨by omega, by omega, q0, q1⟩, fun g => by omega⟩
    | succ n ih =>
      intro j x e x0 x1 q1 q0
      refine ⟨by omega, by omega, fun g => by omega, fun _ => ⟨by omega, by omega, fun e => ⟨by omega, by omega, fun z => absurd e z, fun _ => q1 (.inl e)⟩, fun e => ⟨by omega, ?_⟩⟩⟩
      rw [E.c10, show (x * 16 + b).toNat = (16 * x + b).toNat by omega]
      have a6 := w.a6 (16 * x + b).toNat
      refine ⟨by omega, fun g => ⟨by omega, by omega, ?_⟩, fun g => q0 (fun z => z.elim e (fun y => by have := y.1; omega))⟩
      rw [E.c7]
      have a2 := w.a2 (B 6 (16 * x + b).toNat / 4).toNat
      have := ih (j + 1) _ (by omega) a2.1 a2.2 (fun z => q1 (.inr ⟨by omega, z⟩)) (fun z => q0 (fun y => y.elim e (fun t => z t.2)))
      simpa using this
  exact ⟨m + 1, by simpa using this m 0 a (by omega) ha.1 ha.2 h1 h0⟩
noncomputable def pw (B : AA) (m a b : Nat) : Int := cs ((a : Int) ≠ b ∧ ¬ wy B b m a) 1 0
theorem r_pairs {B : AA} (w : wf B) {m : Nat} (hm : B 0 2 = m) {post : Int → AA → Prop} (hp : post (sm m (fun a => sm m (pw B m a))) B) : ∃ j, zl_M_count_144 B (fun y2 y3 => ze_M_count_200 B y2 post) post j 0 0 := by
  have n0 := w.n
  refine sq4 (zl_M_count_144 B (fun y2 y3 => ze_M_count_200 B y2 post) post) (fun j v => v = sm j (fun a => sm m (pw B m a))) m (fun v k hv => ?_) (fun a ha v hv k hk => ?_) 0 rfl
  · exact ⟨by omega, by omega, fun _ => by rw [hv]; exact hp, fun g => by omega⟩
  · refine ⟨by omega, by omega, fun g => by omega, fun _ => ?_⟩
    have : ∃ j, zl_M_count_155 B a (fun y2 y4 => ze_M_count_194 B y2 a (zl_M_count_144 B (fun y2 y3 => ze_M_count_200 B y2 post) post k) (fun y2 y3 => ze_M_count_200 B y2 post) post) post j (v + 0) 0 := by
      refine sq4 (zl_M_count_155 B a (fun y2 y4 => ze_M_count_194 B y2 a (zl_M_count_144 B (fun y2 y3 => ze_M_count_200 B y2 post) post k) (fun y2 y3 => ze_M_count_200 B y2 post) post) post) (fun j u => u = v + sm j (pw B m a)) m (fun u k2 hu => ?_) (fun b hb u hu k2 hk2 => ?_) (v + 0) rfl
      · refine ⟨by omega, by omega, fun _ => ?_, fun g => by omega⟩
        exact hk _ (by rw [hu, sm, hv])
      · refine ⟨by omega, by omega, fun g => by omega, fun _ => ⟨by omega, by omega, fun e => ?_, fun e => ?_⟩⟩
        · rintro u' rfl
          exact hk2 _ (by rw [sm, pw, cs_f (fun z => z.1 e), hu]; omega)
        · refine r_hasWay w (by omega) (by omega) hm (fun q => ⟨by omega, fun _ => ?_, fun z => by omega⟩) (fun q => ⟨by omega, fun z => absurd rfl z, fun _ => ?_⟩)
          · rintro u' rfl
            exact hk2 _ (by rw [sm, pw, cs_f (fun z => z.2 q), hu]; omega)
          · rintro u' rfl
            exact hk2 _ (by rw [sm, pw, cs_t ⟨e, q⟩, hu]; omega)
    simpa using this
theorem c_pairs {A B : AA} (E : Eqs A B) (w : wf B) {m : Nat} (hm : B 0 2 = m) {post : Int → Prop} (hp : post (sm m (fun a => sm m (pw B m a)))) : zp_CP_pairsWithoutWay A post := by
  have n0 := w.n
  have s2 := E.s2
  refine sq4 (zl_CP_pairsWithoutWay_4 A (fun y1 y2 => ze_CP_pairsWithoutWay_51 A y1 post) post) (fun j v => v = sm j (fun a => sm m (pw B m a))) m (fun v k hv => ?_) (fun a ha v hv k hk => ?_) 0 rfl
  · exact ⟨by omega, by omega, fun _ => by rw [hv]; exact hp, fun g => by omega⟩
  · refine ⟨by omega, by omega, fun g => by omega, fun _ => ?_⟩
    have : ∃ j, zl_CP_pairsWithoutWay_14 A a (fun y1 y3 => ze_CP_pairsWithoutWay_45 A y1 a (zl_CP_pairsWithoutWay_4 A (fun y1 y2 => ze_CP_pairsWithoutWay_51 A y1 post) post k) (fun y1 y2 => ze_CP_pairsWithoutWay_51 A y1 post) post) post j (v + 0) 0 := by
      refine sq4 (zl_CP_pairsWithoutWay_14 A a (fun y1 y3 => ze_CP_pairsWithoutWay_45 A y1 a (zl_CP_pairsWithoutWay_4 A (fun y1 y2 => ze_CP_pairsWithoutWay_51 A y1 post) post k) (fun y1 y2 => ze_CP_pairsWithoutWay_51 A y1 post) post) post) (fun j u => u = v + sm j (pw B m a)) m (fun u k2 hu => ?_) (fun b hb u hu k2 hk2 => ?_) (v + 0) rfl
      · refine ⟨by omega, by omega, fun _ => ?_, fun g => by omega⟩
        exact hk _ (by rw [hu, sm, hv])
      · refine ⟨by omega, by omega, fun g => by omega, fun _ => ⟨by omega, by omega, fun e => ?_, fun e => ?_⟩⟩
        · exact hk2 _ (by rw [sm, pw, cs_f (fun z => z.1 e), hu]; omega)
        · refine c_comesTo E w (by omega) (by omega) hm (fun q => ⟨by omega, fun _ => ?_, fun z => by omega⟩) (fun q => ⟨by omega, fun z => absurd rfl z, fun _ => ?_⟩)
          · exact hk2 _ (by rw [sm, pw, cs_f (fun z => z.2 q), hu]; omega)
          · exact hk2 _ (by rw [sm, pw, cs_t ⟨e, q⟩, hu]; omega)
    simpa using this
theorem op_count {n : Nat} {A B : AA} (h : RR n A B) {x : Int} (hx : rg x) : zp_CN_count A x (fun r => zp_M_count B x (fun t T => r = t ∧ RR (n + 1) A T)) := by
  obtain ⟨⟨hr, h22⟩, hg, h5⟩ := id h
  have E := hr.1
  have w := hg.1.1
  have p0 := w.p; have n0 := w.n
  have R1 : RR (n + 1) A (zU B 0 0 0) := RR_s (RR_0 h 0)
  have g0 := gd_same (same_00 B 0) hg
  have w1 := g0.1.1
  have xj : ∀ j, j ≠ 0 → zU B 0 0 0 0 j = B 0 j := fun j hj => zU_j _ _ hj
  have xk : ∀ k, k ≠ 0 → zU B 0 0 0 k = B k := fun k hk => zU_n _ _ hk
  obtain ⟨pm, hpm⟩ : ∃ m : Nat, B 0 4 = m := ⟨(B 0 4).toNat, by omega⟩
  obtain ⟨nm, hnm⟩ : ∃ m : Nat, B 0 2 = m := ⟨(B 0 2).toNat, by omega⟩
  have s4 : A 2 0 = pm := by rw [E.s4, hpm]
  have E0 : Eqs A (zU B 0 0 0) := Eqs_same (same_00 B 0) (xj 1 (by omega)) E
  have e14 : sm pm (A 14) = sm pm (fun p => B 9 p - B 10 p) := sm_c _ (fun k hk => hr.2.1 k (by omega))
  have ref : ∀ r : Int, (x = 0 → r = B 0 2) → (x = 1 → r = B 0 3) → (x = 2 → r = B 0 4) → (x = 3 → r = B 0 8) → (x = 4 → r = B 0 5) → (x = 5 → r = sm pm (fun p => B 9 p - B 10 p)) → (x = 6 → r = sm pm (fun p => B 10 p - B 11 p)) → (x = 7 → r = B 0 6) → (x = 8 → r = B 0 7) → (x = 9 → r = sm nm (fun a => sm nm (pw (zU B 0 0 0) nm a))) → (¬ (0 ≤ x ∧ x ≤ 9) → r = -1) → zp_M_count B x (fun t T => r = t ∧ RR (n + 1) A T) := fun r r0 r1 r2 r3 r4 r5 r6 r7 r8 r9 rx => by
    unfold zp_M_count
    rintro _ rfl
    refine r_within hx (by omega) (by omega) (fun a1 a2 => ⟨by omega, fun _ => ⟨hx, fun g => ⟨hx, fun g7 => ⟨hx, fun z => absurd g7 z, fun _ => ?_⟩, fun g7 => ⟨hx, fun g8 => ⟨hx, fun g9 => ?_, fun g9 => ?_⟩, fun g8 => ⟨hx, fun _ => ?_, fun z => absurd z g7⟩⟩⟩, fun g => ⟨hx, fun z0 => ⟨hx, fun z1 => ⟨hx, fun z2 => ⟨hx, fun z3 => ?_, fun z3 => ?_⟩, fun z2 => ?_⟩, fun z1 => ?_⟩, fun z0 => ?_⟩⟩, fun z => by omega⟩) (fun q => ⟨by omega, fun z => absurd rfl z, fun _ => ⟨rx q, R1⟩⟩)
    · rw [xj 6 (by omega)]; exact ⟨r7 g7, R1⟩
    · exact r_pairs w1 (m := nm) (by rw [xj 2 (by omega), hnm]) ⟨r9 (by omega), R1⟩
    · refine r_sum (m := pm) (by rw [xj 4 (by omega), hpm]) (by omega) (by omega) ⟨?_, R1⟩
      by_cases e5 : x = 5
      · rw [r5 e5]; refine sm_c _ (fun k hk => ?_)
        unfold fi; rw [if_pos (by omega), xk 9 (by omega), xk 10 (by omega)]
      · rw [r6 (by omega)]; refine sm_c _ (fun k hk => ?_)
        unfold fi; rw [if_neg (by omega), if_pos (by omega), xk 11 (by omega), xk 10 (by omega)]
    · rw [xj 7 (by omega)]; exact ⟨r8 g8, R1⟩
    · rw [xj 5 (by omega)]; exact ⟨r4 (by omega), R1⟩
    · rw [xj 8 (by omega)]; exact ⟨r3 z3, R1⟩
    · rw [xj 4 (by omega)]; exact ⟨r2 z2, R1⟩
    · rw [xj 3 (by omega)]; exact ⟨r1 z1, R1⟩
    · rw [xj 2 (by omega)]; exact ⟨r0 z0, R1⟩
  unfold zp_CN_count
  refine ⟨hx, fun e => ?_, fun e => ?_, fun e => ?_, fun e => ?_, fun e => ?_, fun e => ?_, fun e => ?_, fun e => ?_, fun e => ?_, fun e => ?_, fun e0 e1 e2 e3 e4 e5 e6 e7 e8 e9 => ?_⟩
  · apply ref <;> intro z <;> first | (exfalso; omega) | skip
    exact E.s2
  · apply ref <;> intro z <;> first | (exfalso; omega) | skip
    exact E.s3
  · apply ref <;> intro z <;> first | (exfalso; omega) | skip
    exact E.s4
  · apply ref <;> intro z <;> first | (exfalso; omega) | skip
    exact E.s8
  · apply ref <;> intro z <;> first | (exfalso; omega) | skip
    exact E.s5
  · refine c_sum14 s4 (by omega) ?_
    apply ref <;> intro z <;> first | (exfalso; omega) | skip
    exact e14
  · refine c_sum13 s4 (by omega) (c_sum14 s4 (by omega) (c_sum15 s4 (by omega) ?_))
    apply ref <;> intro z <;> first | (exfalso; omega) | skip
    rw [e14, E.c13, E.c15, sm_sub, sm_sub]; omega
  · apply ref <;> intro z <;> first | (exfalso; omega) | skip
    exact E.s6
  · refine c_sum15 s4 (by omega) ?_
    apply ref <;> intro z <;> first | (exfalso; omega) | skip
    have := hg.1.2.2.2.2.2.2
    unfold iG at this
    rw [E.c15, this, hpm]; simp
  · refine c_pairs E0 w1 (m := nm) (by rw [xj 2 (by omega), hnm]) ?_
    apply ref <;> intro z <;> first | (exfalso; omega) | skip
    rfl
  · apply ref <;> intro z <;> first | (exfalso; omega) | skip
    rfl
