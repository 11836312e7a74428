theorem r_ringL {B : AA} {G : Nat → Int} (w : wf B) (hG : Gl B (fun _ => True) G) {W : Nat → Int} {st L : Nat} (hst : st < 160) (hM : Ms B st W) (hWr : ∀ c, c < 160 → -1 ≤ W c ∧ W c ≤ 160) (hL : L ≤ 160) (hL1 : ds B st L st) {ex : AA → Int → Int → Prop} {post : Int → AA → Prop} (hex : ∀ X c z, Al B G X → Rg B st L (X 21) L → ex X c z) (X0 : AA) (hX0 : Al B G X0) (h20 : X0 20 = W) : ∃ k, zl_M_findRing_79 L st ex post k X0 st 0 := by
  refine sq6 (zl_M_findRing_79 L st ex post) (fun k X c => Al B G X ∧ X 20 = W ∧ (∃ x : Nat, c = (x : Int) ∧ x < 160 ∧ (k < L → ds B st (L - k) x) ∧ (k = 0 → x = st) ∧ (∀ k', k = k' + 1 → k < L → ∃ x' : Nat, X 21 k' = (x' : Int) ∧ lw B st x' (L - 1 - k') x)) ∧ Rg B st L (X 21) k) L (fun X c k hX => ?_) (fun k hk X c hX f hf => ?_) X0 st ⟨hX0, h20, ⟨st, rfl, hst, fun _ => hL1, fun _ => rfl, fun k' e => by omega⟩, fun z => by omega, fun k hk => by omega⟩
  · obtain ⟨h1, h2, ⟨x, h3, h4, -⟩, h5⟩ := hX
    exact ⟨by omega, by omega, fun _ => hex X c _ h1 h5, fun g => by omega⟩
  · obtain ⟨h1, h2, ⟨x, h3, h4, h6, h7, h8⟩, h5⟩ := hX
    subst h3
    refine ⟨by omega, by omega, fun g => by omega, fun _ => ⟨by omega, ?_⟩⟩
    rintro _ rfl
    simp only [Int.toNat_natCast]
    have a1 := Al_21 h1 k (x : Int)
    have e21 : ∀ j, zU X 21 k (x : Int) 21 j = if j = k then (x : Int) else X 21 j := fun j => by rw [zU_e]; simp
    have e20 : zU X 21 k (x : Int) 20 = W := by rw [zU_n _ _ (by omega)]; exact h2
    have rg1 : Rg B st L (zU X 21 k (x : Int) 21) (k + 1) := by
      refine ⟨fun _ => ?_, fun i hi => ?_⟩
      · rw [e21]
        by_cases e : k = 0
        · rw [if_pos e.symm, h7 e]
        · rw [if_neg (fun z => e z.symm)]; exact h5.1 (by omega)
      · by_cases e : i + 1 = k
        · obtain ⟨x', q1, q2⟩ := h8 i e.symm hk
          refine ⟨x', x, ?_, ?_, q2⟩
          · rw [e21, if_neg (by omega)]; exact q1
          · rw [e21, if_pos e]
        · obtain ⟨x', y', q1, q2, q3⟩ := h5.2 i (by omega)
          refine ⟨x', y', ?_, ?_, q3⟩
          · rw [e21, if_neg (by omega)]; exact q1
          · rw [e21, if_neg (by omega)]; exact q2
    refine r_next w (by rw [a1.2]; exact hG) e20 h4 hM (fun c hc => by have := hWr c hc; omega) (by omega) hk (fun y hy y1 y2 => ?_) hst (h6 hk)
    refine hf _ _ ⟨a1, e20, ⟨y, rfl, hy, fun q => ?_, fun q => by omega, fun k' e q => ⟨x, ?_, ?_⟩⟩, rg1⟩
    · have := (y2 q).2.1
      rw [show L - (k + 1) = L - 1 - k by omega]; exact this
    · have : k' = k := by omega
      subst this; rw [e21, if_pos rfl]
    · have : k' = k := by omega
      subst this; exact y2 q
theorem r_findRing {B : AA} (hb : iv B) {post : Int → AA → Prop} (hp : ∀ G X best start, Al B G X → Bs B (4 * B 0 3).toNat best start → best ≤ 160 → (∀ st L : Nat, start = (st : Int) → best = (L : Int) → Rg B st L (X 21) L) → post best X) : zp_M_findRing B post := by
  have w := hb.1
  have l0 := w.l
  unfold zp_M_findRing
  refine r_leads hb (fun G hG => ?_)
  have a0 : Al B G (zR B 19 G) := ⟨fun k hk => zR_n _ _ hk.1, zR_s _ _ _⟩
  have loop : ∀ (n c : Nat) (X : AA) (best start : Int), c + n = (4 * B 0 3).toNat → Al B G X → Bs B c best start → best ≤ 160 → zl_M_findRing_10 (fun B' y1 y2 y3 => ze_M_findRing_63 B' y1 y2 post) post (n + 1) X best start c := by
    intro n
    induction n with
    | zero =>
      intro c X best start e hX hB h160
      have e3 : X 0 3 = B 0 3 := by rw [hX.1 0 (by omega)]
      have bs := Bs_s hB
      have ec : c = (4 * B 0 3).toNat := by omega
      refine ⟨by omega, by omega, fun _ => ⟨by omega, fun g => ?_, fun g => ?_⟩, fun g => by omega⟩
      · obtain ⟨st, est⟩ : ∃ st : Nat, start = (st : Int) := ⟨start.toNat, by omega⟩
        subst est
        refine r_measure w (by omega) (by rw [hX.2]; exact hG) (fun W hM hW => ?_)
        rcases id hB with ⟨q, -⟩ | ⟨st', L, q1, q2, q3, q4, q5⟩
        · omega
        · have : st' = st := by omega
          subst this
          rw [q2]
          refine r_ringL w hG (by omega) hM hW (by omega) q4 (fun X' c' z hX' hR => ?_) _ (Al_20 hX W) (zR_s _ _ _)
          unfold ze_M_findRing_168
          rw [← q2]
          refine hp G X' best st' hX' (by rw [← ec]; exact hB) h160 (fun s2 L2 e1 e2 => ?_)
          have : s2 = st' := by omega
          subst this
          have : L2 = L := by omega
          subst this; exact hR
      · have z := bs.1.mp (by omega)
        have z2 : start = -1 := by omega
        have := hp G X best start hX (by rw [← ec]; exact hB) h160 (fun st L e1 => by omega)
        rw [z] at this; exact this
    | succ n ih =>
      intro c X best start e hX hB h160
      have e3 : X 0 3 = B 0 3 := by rw [hX.1 0 (by omega)]
      have bs := Bs_s hB
      have cc : ((c + 1 : Nat) : Int) = (c : Int) + 1 := by omega
      have nxt := fun X best start => ih (c + 1) X best start (by omega)
      rw [cc] at nxt
      refine ⟨by omega, by omega, fun g => by omega, fun _ => ?_⟩
      refine r_measure w (by omega) (by rw [hX.2]; exact hG) (fun W hM hW => ?_)
      have wc := hW c (by omega)
      have hX' := Al_20 hX W
      rw [zR_s]
      simp only [Int.toNat_natCast]
      rcases hM c (by omega) with ⟨j, j1, j2⟩ | ⟨j1, j2⟩
      · have := j2.1
        refine ⟨by omega, by omega, fun g => by omega, fun _ => ⟨by omega, fun g => ⟨by omega, ?_⟩, fun g => ⟨by omega, by omega, by omega, fun q => ?_, fun q => ⟨by omega, ?_⟩⟩⟩⟩
        · rintro v rfl
          rw [j1]
          exact nxt _ _ _ hX' (Bs_new hB j2 (fun y => by omega)) (by omega)
        · exact nxt _ _ _ hX' (Bs_keep hB (by omega) j2 (by omega)) h160
        · rintro v rfl
          rw [j1]
          exact nxt _ _ _ hX' (Bs_new hB j2 (fun y => by omega)) (by omega)
      · exact ⟨by omega, by omega, fun _ => nxt _ _ _ hX' (Bs_no hB j2) h160, fun g => by omega⟩
  exact ⟨_, loop (4 * B 0 3).toNat 0 (zR B 19 G) 0 (-1) (by omega) a0 (.inl ⟨rfl, rfl, fun c hc => by omega⟩) (by omega)⟩
theorem Eqs_Ag {A B X : AA} {F N : Nat → Int} (E : Eqs A B) (h : Ag A F N X) : Eqs X B := by
  refine ⟨fun x hx => ?_, fun x hx => ?_⟩
  · have : x.1 ≠ 5 ∧ x.1 ≠ 28 ∧ x.1 ≠ 29 ∧ x.1 ≠ 30 ∧ x.1 ≠ 31 := by revert x; decide
    rw [h.1 _ this]; exact E.1 x hx
  · have : x.1.1 ≠ 5 ∧ x.1.1 ≠ 28 ∧ x.1.1 ≠ 29 ∧ x.1.1 ≠ 30 ∧ x.1.1 ≠ 31 := by revert x; decide
    rw [h.1 _ this]; exact E.2 x hx
theorem RR_Ag {n : Nat} {A B X T : AA} {F N G : Nat → Int} (h : RR n A B) (hX : Ag A F N X) (hT : Al B G T) : RR n X T := by
  obtain ⟨⟨hr, h22⟩, hg, h5⟩ := id h
  have s : same B T := ⟨fun k _ _ => hT.1 k (by omega), fun j _ _ => by rw [hT.1 0 (by omega)]⟩
  have h1 : RO X B := ⟨Rel_c hr (Eqs_Ag hr.1 hX) (fun k hk => hX.1 k (by omega)) (fun _ _ => rfl) rfl, fun c hc => by rw [hX.1 22 (by omega)]; exact h22 c hc⟩
  exact ⟨RO_same s (by rw [hT.1 0 (by omega)]) h1, gd_same s hg, by rw [hT.1 0 (by omega)]; exact h5⟩
theorem op_ring {n : Nat} {A B : AA} (h : RR n A B) : zp_CN_ring A (fun r S => zp_M_ring B (fun t T => r = t ∧ RR (n + 1) S T)) := by
  obtain ⟨⟨hr, h22⟩, hg, h5⟩ := id h
  have R1 : RR (n + 1) A (zU B 0 0 0) := RR_s (RR_0 h 0)
  have g0 := gd_same (same_00 B 0) hg
  unfold zp_CN_ring
  refine c_search g0.1 R1.1.1.1 (fun F N X hG hX hB _ => ?_)
  unfold zp_M_ring
  rintro _ rfl
  refine r_findRing g0.1 (fun G T best start hT hB2 _ _ => ?_)
  exact ⟨(Bs_u hB hB2).1, RR_Ag R1 hX hT⟩
/-! the program: the channels of a ring -/
def cnd (B : AA) (C : Nat → Int) (c j t y : Nat) : Prop := ∃ e : Nat, e < t ∧ B 6 (16 * B 1 ((c : Int) / 4).toNat + e).toNat = (c : Int) ∧ tg B (16 * B 1 ((c : Int) / 4).toNat + e).toNat = (y : Int) ∧ C y = (j : Int)
def Lo (B : AA) (C : Nat → Int) (c j t : Nat) (v : Int) : Prop := (v = -1 ∧ ∀ y, ¬ cnd B C c j t y) ∨ (∃ y : Nat, v = (y : Int) ∧ y < 160 ∧ cnd B C c j t y ∧ ∀ z, z < y → ¬ cnd B C c j t z)
theorem Lo_v {B : AA} {C : Nat → Int} {c j t : Nat} {v : Int} (h : Lo B C c j t v) : -1 ≤ v ∧ v < 160 := by
  rcases h with ⟨q, -⟩ | ⟨y, q, q0, -⟩ <;> omega
theorem c_lowest {B X : AA} (hb : iv B) (h6 : X 6 = B 1) (h7 : X 7 = B 2) (h10 : X 10 = B 6) (h2 : X 1 0 = B 0 2) {C : Nat → Int} (h30 : X 30 = C) (hC : ∀ x, x < 160 → 0 ≤ C x ∧ C x ≤ 1000) {c j : Nat} (hc : c < 160) (hj : j ≤ 1000) {post : Int → Prop} (h1 : ∀ y : Nat, Le B c y → C y = (j : Int) → (∀ z, z < y → ¬ (Le B c z ∧ C z = (j : Int))) → post y) (h0 : (∀ y, ¬ (Le B c y ∧ C y = (j : Int))) → post (-1)) : zp_CR_lowestThatCloses X c j post := by
  have w := hb.1
  have n0 := w.n
  unfold zp_CR_lowestThatCloses zp_CP_beginOf
  rw [h6]
  have a1 := w.a1 ((c : Int) / 4).toNat
  refine ⟨by omega, by omega, ?_⟩
  -- what is found among the first ends
  have all : ∀ y, cnd B C c j (B 0 2).toNat y ↔ Le B c y ∧ C y = (j : Int) := fun y => by
    constructor
    · rintro ⟨e, e1, e2, e3, e4⟩
      exact ⟨⟨_, by omega, trivial, e2, e3⟩, e4⟩
    · rintro ⟨⟨k, k1, -, k3, k4⟩, q⟩
      obtain ⟨b1, b2, -, -, b5, -⟩ := hb.2.2.1 k k1 (by omega)
      rw [k3] at b5
      have ek : (16 * B 1 ((c : Int) / 4).toNat + ((k % 16 : Nat) : Int)).toNat = k := by omega
      exact ⟨k % 16, by omega, by rw [ek]; exact k3, by rw [ek]; exact k4, q⟩
  refine sq4 (zl_CR_lowestThatCloses_15 X c j (B 1 ((c : Int) / 4).toNat) (fun y4 y5 => ze_CR_lowestThatCloses_90 X y4 post) post) (Lo B C c j) (B 0 2).toNat (fun v k hv => ?_) (fun t ht v hv k hk => ?_) (-1) (.inl ⟨rfl, fun y ⟨e, e1, _⟩ => by omega⟩)
  · refine ⟨by omega, by omega, fun _ => ?_, fun g => by omega⟩
    unfold ze_CR_lowestThatCloses_90
    rcases hv with ⟨rfl, q⟩ | ⟨y, rfl, q0, q1, q2⟩
    · exact h0 (fun y z => q y ((all y).mpr z))
    · have := (all y).mp q1
      exact h1 y this.1 this.2 (fun z hz t => q2 z hz ((all z).mpr t))
  · have vr := Lo_v hv
    have ek : (B 1 ((c : Int) / 4).toNat * 16 + t).toNat = (16 * B 1 ((c : Int) / 4).toNat + t).toNat := by omega
    have a6 := w.a6 (16 * B 1 ((c : Int) / 4).toNat + t).toNat
    have same' : (∀ y : Nat, ¬ (B 6 (16 * B 1 ((c : Int) / 4).toNat + t).toNat = (c : Int) ∧ tg B (16 * B 1 ((c : Int) / 4).toNat + t).toNat = (y : Int) ∧ C y = (j : Int))) → zl_CR_lowestThatCloses_15 X c j (B 1 ((c : Int) / 4).toNat) (fun y4 y5 => ze_CR_lowestThatCloses_90 X y4 post) post k v ((t : Int) + 1) := fun q => by
      have eq : ∀ y, cnd B C c j (t + 1) y ↔ cnd B C c j t y := fun y => by
        constructor
        · rintro ⟨e, e1, e2⟩
          by_cases et : e = t
          · subst et; exact absurd e2 (q y)
          · exact ⟨e, by omega, e2⟩
        · rintro ⟨e, e1, e2⟩; exact ⟨e, by omega, e2⟩
      refine hk v ?_
      rcases hv with ⟨q1, q2⟩ | ⟨y, q1, q0, q2, q3⟩
      · exact .inl ⟨q1, fun y z => q2 y ((eq y).mp z)⟩
      · exact .inr ⟨y, q1, q0, (eq y).mpr q2, fun z hz u => q3 z hz ((eq z).mp u)⟩
    refine ⟨by omega, by omega, fun g => by omega, fun _ => ⟨by omega, ?_⟩⟩
    rw [h10, ek]
    refine ⟨by omega, by omega, fun g => same' (fun y z => g z.1), fun g => ?_⟩
    unfold zp_CR_channelAfter zp_CP_endOf zp_CP_wayAt
    rw [h7, h10, h30]
    refine ⟨by omega, fun _ => ⟨by omega, by omega, ?_⟩, fun z => by omega⟩
    have a2 := w.a2 ((c : Int) / 4).toNat
    have et : tg B (16 * B 1 ((c : Int) / 4).toNat + t).toNat = B 6 (B 2 ((c : Int) / 4).toNat * 16 + t).toNat := by
      unfold tg; rw [if_neg (by omega), g]; congr 2; omega
    dsimp only
    rw [← et]
    have t1 := tg_rg w (16 * B 1 ((c : Int) / 4).toNat + t).toNat
    refine ⟨by omega, by omega, fun q => same' (fun y z => by have := z.2.1; omega), fun q => ?_⟩
    obtain ⟨y, ey⟩ : ∃ y : Nat, tg B (16 * B 1 ((c : Int) / 4).toNat + t).toNat = (y : Int) := ⟨(tg B (16 * B 1 ((c : Int) / 4).toNat + t).toNat).toNat, by omega⟩
    rw [ey]
    simp only [Int.toNat_natCast]
    have cy := hC y (by omega)
    refine ⟨by omega, by omega, by omega, fun q2 => same' (fun z u => ?_), fun q2 => ?_⟩
    · have : z = y := by have := u.2.1; omega
      subst this; exact q2 u.2.2
    · have new : cnd B C c j (t + 1) y := ⟨t, by omega, g, ey, q2⟩
      have old : ∀ z, cnd B C c j t z → cnd B C c j (t + 1) z := fun z ⟨e, e1, e2⟩ => ⟨e, by omega, e2⟩
      have inv : ∀ z, cnd B C c j (t + 1) z → cnd B C c j t z ∨ z = y := fun z ⟨e, e1, e2, e3, e4⟩ => by
        by_cases et2 : e = t
        · subst et2; right; omega
        · exact .inl ⟨e, by omega, e2, e3, e4⟩
      rcases hv with ⟨q1, q3⟩ | ⟨y', q1, q0, q3, q4⟩
      · refine ⟨by omega, fun _ => hk _ (.inr ⟨y, rfl, by omega, new, fun z hz u => ?_⟩), fun z => absurd q1 z⟩
        rcases inv z u with p | p
        · exact q3 z p
        · omega
      · refine ⟨by omega, fun z => by omega, fun _ => ⟨by omega, by omega, fun le => hk _ (.inr ⟨y', q1, q0, old y' q3, fun z hz u => ?_⟩), fun le => hk _ (.inr ⟨y, rfl, by omega, new, fun z hz u => ?_⟩)⟩⟩
        · rcases inv z u with p | p
          · exact q4 z hz p
          · omega
        · rcases inv z u with p | p
          · exact q4 z (by omega) p
          · omega
