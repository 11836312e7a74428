/-! the program's asking, moving, leaving beside the reference's -/
noncomputable def pick (B : AA) (l : Int) : List Int → Int
  | [] => -1
  | r :: rs => cs (cm B (4 * l + r)) (4 * l + r) (pick B l rs)
def cyc (w : Int) : Nat → Int → List Int
  | 0, _ => []
  | n + 1, x => (if x + 1 < w then x + 1 else 0) :: cyc w n (if x + 1 < w then x + 1 else 0)
theorem cm_no {B : AA} {l r : Int} (hr : 0 ≤ r ∧ r < 4) (hw : B 3 l.toNat ≤ r) : ¬ cm B (4 * l + r) := by
  rintro ⟨⟨-, -, z⟩, -⟩
  have : ((4 * l + r) / 4).toNat = l.toNat := by congr 1; omega
  rw [this] at z; omega
theorem mv_pick {B : AA} (l : Int) : mv B l = pick B l [(B 5 l.toNat + 1 + 4) % 4, (B 5 l.toNat + 2 + 4) % 4, (B 5 l.toNat + 3 + 4) % 4, (B 5 l.toNat + 4 + 4) % 4] := rfl
theorem mv_cyc {B : AA} (l : Int) (h3 : 1 ≤ B 3 l.toNat ∧ B 3 l.toNat ≤ 4) (h5 : -1 ≤ B 5 l.toNat ∧ B 5 l.toNat < B 3 l.toNat) : mv B l = pick B l (cyc (B 3 l.toNat) (B 3 l.toNat).toNat (B 5 l.toNat)) := by
  rw [mv_pick]
  have hno := fun r hr hw => cm_no (B := B) (l := l) (r := r) hr hw
  generalize B 3 l.toNat = w at *
  generalize B 5 l.toNat = a at *
  have hw : w = 1 ∨ w = 2 ∨ w = 3 ∨ w = 4 := by omega
  have ha : a = -1 ∨ a = 0 ∨ a = 1 ∨ a = 2 ∨ a = 3 := by omega
  rcases hw with rfl | rfl | rfl | rfl <;> rcases ha with rfl | rfl | rfl | rfl | rfl <;> first | (exfalso; omega) | skip
  all_goals simp only [cyc, Int.reduceNeg, Int.reduceAdd, Int.reduceMod, Int.reduceLT, Int.reduceToNat, if_true, if_false, ite_true, ite_false]
  all_goals first | rfl | skip
  all_goals simp only [pick]
  all_goals repeat first | rw [cs_f (hno 3 (by omega) (by omega))] | rw [cs_f (hno 2 (by omega) (by omega))] | rw [cs_f (hno 1 (by omega) (by omega))]
theorem c_lane1 {A B : AA} (h : iv B) (hr : Rel A B) (hf : Rf A B) {l : Int} (hl : 0 ≤ l ∧ l < B 0 3) {ex : Int → Int → Prop} {post : Int → Prop} : ∀ (n : Nat) (x x3 : Int), x3 + n = B 3 l.toNat → 0 ≤ x3 → -1 ≤ x → x < B 3 l.toNat → (pick B l (cyc (B 3 l.toNat) n x) = -1 → ∀ y z, ex y z) → (∀ r, 0 ≤ r → r < 4 → pick B l (cyc (B 3 l.toNat) n x) = 4 * l + r → post r) → zl_CT_laneToMove_9 A l ex post (n + 1) x x3 := by
  have w := h.1
  have E := hr.1
  have l40 := w.l; have a3 := w.a3 l.toNat
  have hl3 := (h.2.1.1 l.toNat (by omega)).2.2.2.1
  intro n
  induction n with
  | zero =>
    intro x x3 e e0 _ _ hno _
    refine ⟨by omega, by omega, by rw [E.c8]; omega, fun _ => hno rfl _ _, fun g => by rw [E.c8] at g; omega⟩
  | succ n ih =>
    intro x x3 e e0 x0 x1 hno hyes
    rw [zl_CT_laneToMove_9, E.c8]
    rw [cyc] at hno hyes
    have hC : ∀ r, 0 ≤ r → r < B 3 l.toNat → isC B (l * 4 + r) := fun r r0 r1 => by
      unfold isC
      have e1 : ((l * 4 + r) / 4).toNat = l.toNat := by congr 1; omega
      rw [e1]; omega
    have gen : ∀ r, 0 ≤ r → r < B 3 l.toNat → (if x + 1 < B 3 l.toNat then x + 1 else 0) = r → zp_CT_canMoveInto A ((l * 4) + r) (fun r_11 => rg r_11 ∧ ((r_11 = 0 → zl_CT_laneToMove_9 A l ex post (n + 1) r (x3 + 1)) ∧ (¬ r_11 = 0 → post r))) := fun r r0 r1 er => by
      rw [er] at hno hyes
      have e4 : l * 4 + r = 4 * l + r := by omega
      have hc := hC r r0 r1
      refine c_canMove h hr hf hc (fun q => ⟨by omega, fun z => by omega, fun _ => ?_⟩) (fun q => ⟨by omega, fun _ => ?_, fun z => absurd rfl z⟩)
      · rw [e4] at q
        exact hyes r r0 (by omega) (by rw [pick, cs_t q])
      · rw [e4] at q
        rw [pick, cs_f q] at hno hyes
        exact ih r (x3 + 1) (by omega) (by omega) (by omega) r1 hno hyes
    refine ⟨by omega, by omega, by omega, fun g => by omega, fun g => ⟨by omega, by omega, by omega, fun q => ?_, fun q => ?_⟩⟩
    · exact gen 0 (by omega) (by omega) (by rw [if_neg (by omega)])
    · rintro v rfl
      exact gen (x + 1) (by omega) (by omega) (by rw [if_pos (by omega)])
theorem c_lane {A B : AA} (h : iv B) (hr : Rel A B) (hf : Rf A B) {l : Int} (hl : 0 ≤ l ∧ l < B 0 3) {post : Int → Prop} (hno : mv B l = -1 → post (-1)) (hyes : ∀ r, 0 ≤ r → r < 4 → mv B l = 4 * l + r → post r) : zp_CT_laneToMove A l post := by
  have w := h.1
  have l40 := w.l; have a3 := w.a3 l.toNat; have a5 := w.a5 l.toNat
  have hl3 := h.2.1.1 l.toNat (by omega)
  refine ⟨by omega, fun v ev => ⟨(B 3 l.toNat).toNat + 1, ?_⟩⟩
  rw [hr.1.c27] at ev
  rw [mv_cyc l ⟨hl3.2.2.2.1, a3.2⟩ ⟨a5.1, hl3.2.2.2.2⟩, ← ev] at hno hyes
  exact c_lane1 h hr hf hl _ _ _ (by omega) (by omega) (by omega) (by omega) (fun e y z => hno e) hyes
/-! asking -/
theorem Rf_c {A A' B B' : AA} (e22 : A' 22 = A 22) (e5 : B' 0 5 = B 0 5) (e13 : B' 13 = B 13) (e15 : B' 15 = B 15) (h : Rf A B) : Rf A' B' := by unfold Rf at *; rw [e22, e5, e13, e15]; exact h
theorem Rw_c {A A' B B' : AA} (e14 : A' 14 = A 14) (e4 : B' 0 4 = B 0 4) (e9 : B' 9 = B 9) (e10 : B' 10 = B 10) (h : Rw A B) : Rw A' B' := by unfold Rw at *; rw [e14, e4, e9, e10]; exact h
theorem q0_c {B B' : AA} (e4 : B' 0 4 = B 0 4) (e7 : B' 7 = B 7) (e9 : B' 9 = B 9) (e10 : B' 10 = B 10) (i : Int) : q0 B' i = q0 B i := q_same e4 e7 e9 (fun q _ => by rw [e10])
theorem Rq_c {A A' B B' : AA} (e17 : A' 17 = A 17) (e18 : A' 18 = A 18) (e19 : A' 19 = A 19) (e4 : B' 0 4 = B 0 4) (e7 : B' 7 = B 7) (e9 : B' 9 = B 9) (e10 : B' 10 = B 10) (h : Rq A B) : Rq A' B' := by
  obtain ⟨h1, h2, h3, h4⟩ := h
  refine ⟨fun i hi => by rw [e17, q0_c e4 e7 e9 e10]; exact h1 i hi, fun p hp hs => ?_, fun i hi hs => ?_, fun p hp h400 => by rw [e19]; rw [e4] at hp; exact h4 p hp h400⟩
  · rw [e4] at hp; rw [e9, e10] at hs; unfold nx; rw [e19, e4, e7]; exact h2 p hp hs
  · rw [e17] at hs; unfold la; rw [e18, e4, e7]; exact h3 i hi hs
theorem Rh_c {A A' B B' : AA} (e23 : A' 23 = A 23) (e17 : B' 17 = B 17) (h : Rh A B) : Rh A' B' := by unfold Rh at *; rw [e23, e17]; exact h
theorem c_ask1 {A B : AA} (h : iv B) (hr : Rel A B) (hf : Rf A B) {i : Int} (h0 : 0 ≤ i) (hi : i < 176) (g : wt B i (wc B i)) : Rel (zU (zU (zU A 23 i.toNat (wc B i)) 24 (wc B i).toNat i) 25 (wc B i).toNat (fr B i / 16)) (asI B i) ∧ Rf (zU (zU (zU A 23 i.toNat (wc B i)) 24 (wc B i).toNat i) 25 (wc B i).toNat (fr B i / 16)) (asI B i) := by
  obtain ⟨E, hw, hq, hH⟩ := hr
  obtain ⟨o1, o2, -, -⟩ := wt_ok h h0 hi g
  have c1 := o1.lt h.1
  have hl := h.1.l
  have f7 := g.2.2.2.2.2.2.2
  have f3 := g.2.2.2.1
  have eB : ∀ k, k ≠ 17 ∧ k ≠ 18 → asI B i k = B k := fun k => asI_r B i
  have e17 := asI_17 g
  have eA : ∀ k, k ≠ 23 ∧ k ≠ 24 ∧ k ≠ 25 → zU (zU (zU A 23 i.toNat (wc B i)) 24 (wc B i).toNat i) 25 (wc B i).toNat (fr B i / 16) k = A k := fun k hk => by rw [zU_n _ _ hk.2.2, zU_n _ _ hk.2.1, zU_n _ _ hk.1]
  have e23 : ∀ j, zU (zU (zU A 23 i.toNat (wc B i)) 24 (wc B i).toNat i) 25 (wc B i).toNat (fr B i / 16) 23 j = if j = i.toNat then wc B i else A 23 j := fun j => by
    rw [zU_n _ _ (by omega), zU_n _ _ (by omega), zU_e]; simp
  refine ⟨⟨?_, Rw_c (eA _ (by omega)) (by rw [eB _ (by omega)]) (eB _ (by omega)) (eB _ (by omega)) hw, Rq_c (eA _ (by omega)) (eA _ (by omega)) (eA _ (by omega)) (by rw [eB _ (by omega)]) (eB _ (by omega)) (eB _ (by omega)) (eB _ (by omega)) hq, ?_⟩, Rf_c (eA _ (by omega)) (by rw [eB _ (by omega)]) (eB _ (by omega)) (eB _ (by omega)) hf⟩
  · rw [as_t g]
    exact ((E.cl 23 _ _ (by decide) (by decide)).u2 24 17 _ _ (by decide) (by decide)).u2 25 18 _ _ (by decide) (by decide)
  · have own : ∀ c, c < 160 → B 17 c ≠ i := fun c hc e => f3 ⟨c, by have := (h.2.2.2.2.2.1 c hc (by omega)).1; unfold isC at this; omega, e⟩
    refine ⟨fun c hc hne => ?_, fun j hj hne => ?_⟩
    · rw [e17] at hne ⊢
      rw [e23]
      by_cases ec : c = (wc B i).toNat
      · rw [if_pos ec, if_pos rfl]; omega
      · rw [if_neg ec] at hne ⊢
        have a17 := h.1.a17 c
        have := own c hc
        rw [if_neg (by omega)]; exact hH.1 c hc hne
    · rw [e23] at hne ⊢
      by_cases ej : j = i.toNat
      · rw [if_pos ej, e17, if_pos rfl]; omega
      · rw [if_neg ej] at hne ⊢
        obtain ⟨a, b, c⟩ := hH.2 j hj hne
        refine ⟨a, b, ?_⟩
        rw [e17, if_neg]
        · exact c
        · intro z; rw [z, f7] at c; omega
theorem fs_qa {B : AA} : ∀ j : Nat, (∀ j' : Nat, j' < j → ∀ c, ¬ wt B j' c) → fs asI j B = B := by
  intro j
  induction j with
  | zero => intro _; rfl
  | succ j ih => intro h; rw [fs, ih (fun j' hj' => h j' (by omega)), as_f (h j (by omega) _)]
theorem c_askL {A0 B : AA} (h : iv B) {ex : AA → Int → Int → Prop} {post : Int → AA → Prop} (hex : ∀ A' y z, (y = 0 ∨ y = 1) → Rel A' (asF B) → Rf A' (asF B) → (y = 0 → ∀ j' : Nat, j' < (16 + 4 * B 0 3).toNat → ∀ c, ¬ wt B j' c) → ex A' y z) : ∀ (n j : Nat) (A : AA) (x : Int), j + n = (16 + 4 * B 0 3).toNat → Rel A (fs asI j B) → Rf A (fs asI j B) → (x = 0 ∨ x = 1) → (x = 0 → ∀ j' : Nat, j' < j → ∀ c, ¬ wt B j' c) → zl_CT_askAll_4 ex post (n + 1) A x j := by
  have hl := h.1.l
  intro n
  induction n with
  | zero =>
    intro j A x e hr hf hx hB
    have ej : j = (16 + 4 * B 0 3).toNat := by omega
    have e3 := (fs_as h j (by omega)).2.2.1
    have s3 := hr.1.s3
    subst ej
    exact ⟨by omega, by omega, fun _ => hex A x _ hx hr hf hB, fun g => by omega⟩
  | succ n ih =>
    intro j A x e hr hf hx hB
    obtain ⟨hi, hp⟩ := fs_as h j (by omega)
    have e3 := hp.2.1
    have s3 := hr.1.s3
    have cj : ((j + 1 : Nat) : Int) = (j : Int) + 1 := by omega
    have nxt := fun A x => ih (j + 1) A x (by omega)
    have hq := fs_qa (B := B) j
    rw [cj] at nxt
    simp only [fs] at nxt
    generalize fs asI j B = X at *
    refine ⟨by omega, by omega, fun g => by omega, fun _ => ?_⟩
    refine c_toGet hi hr hf (by omega) (by omega) (fun c hc => ?_) (fun hno => ⟨by omega, fun _ => ?_, fun z => absurd rfl z⟩)
    · obtain ⟨o1, -, o3, -⟩ := wt_ok hi (by omega) (by omega) hc
      have c1 := o1.lt hi.1
      have f0 := hc.1
      have f1 := fr_rg hi.1 j
      rw [o3] at hc
      obtain ⟨r1, r2⟩ := c_ask1 hi hr hf (by omega) (by omega) hc
      rw [← o3] at r1 r2
      refine ⟨by omega, fun z => by omega, fun _ => ⟨by omega, ?_⟩⟩
      rintro _ rfl
      refine ⟨by omega, ?_⟩
      rintro _ rfl
      -- the front is read once more, in a state that holds already
      have hfr : ∀ post : Int → Prop, post (fr X j) → zp_CI_frontOf (zU (zU A 23 (j : Int).toNat c) 24 c.toNat j) j post := fun post hp => by
        have hs : ∀ k, k ≠ 23 ∧ k ≠ 24 → zU (zU A 23 (j : Int).toNat c) 24 c.toNat j k = A k := fun k hk => by rw [zU_n _ _ hk.2, zU_n _ _ hk.1]
        have := c_frontOf hi hr hf (i := j) (by omega) (by omega) hp
        unfold zp_CI_frontOf zp_CK_firstWaiting at *
        rw [hs 17 (by omega), hs 13 (by omega), hs 14 (by omega), hs 21 (by omega), hs 22 (by omega), hs 20 (by omega)]
        exact this
      refine hfr _ ⟨by omega, by omega, ?_⟩
      rintro _ rfl
      exact nxt _ 1 r1 r2 (.inr rfl) (fun z => by omega)
    · have e1 : asI X j = X := as_f (hno _)
      rw [e1] at nxt
      refine nxt A x hr hf hx (fun z j' hj' c => ?_)
      by_cases ej : j' = j
      · subst ej
        have hno2 := hno c
        rw [hq (hB z)] at hno2
        exact hno2
      · exact hB z j' (by omega) c
theorem c_ask {A B : AA} (h : iv B) (hr : Rel A B) (hf : Rf A B) {post : Int → AA → Prop} (hp : ∀ A' y, (y = 0 ∨ y = 1) → Rel A' (asF B) → Rf A' (asF B) → (y = 0 → ∀ j' : Nat, j' < (16 + 4 * B 0 3).toNat → ∀ c, ¬ wt B j' c) → post y A') : zp_CT_askAll A post :=
  ⟨_, c_askL (A0 := A) h (ex := fun B' y1 y2 => ze_CT_askAll_69 B' y1 post) (fun A' y z hy h1 h2 h3 => ⟨hy, hp A' y hy h1 h2 h3⟩) (16 + 4 * B 0 3).toNat 0 A 0 (by omega) hr hf (.inl rfl) (fun _ j' hj' => by omega)⟩
