/-! the reference's cycle -/
noncomputable def asF (B : AA) : AA := fs asI (16 + 4 * B 0 3).toNat B
noncomputable def moF (B : AA) : AA := fs moL (B 0 3).toNat B
noncomputable def leF (B : AA) : AA := fs leI (16 + 4 * B 0 3).toNat B
def tck (B : AA) : AA := zU B 0 5 (B 0 5 + 1)
noncomputable def stF (B : AA) : AA := leF (moF (asF (tck B)))
theorem sq2 (Wf : Nat → AA → Int → Prop) (S : Nat → AA) (n : Nat) (hx : ∀ k, Wf (k + 1) (S n) n) (hs : ∀ i : Nat, i < n → ∀ k, Wf k (S (i + 1)) ((i : Int) + 1) → Wf (k + 1) (S i) i) : ∃ k, Wf k (S 0) 0 := by
  have := sq (fun k (s : AA × Int) => Wf k s.1 s.2) (fun j => (S j, (j : Int))) n hx (fun i hi k hk => hs i hi k (by simpa using hk))
  simpa using this
def pl (B0 B : AA) : Prop := B 0 2 = B0 0 2 ∧ B 0 3 = B0 0 3 ∧ B 2 = B0 2 ∧ B 3 = B0 3
theorem inp_pl {B0 B : AA} (h : pl B0 B) (i : Int) : inp B i ↔ inp B0 i := by
  obtain ⟨e2, e3, a2, a3⟩ := h
  unfold inp isC; rw [e2, e3, a3]
theorem nd_pl {B0 B : AA} (h : pl B0 B) (i : Int) : nd B i = nd B0 i := nd_c h.2.2.1 i
theorem pl_as {B0 B : AA} (h : pl B0 B) (i : Int) : pl B0 (asI B i) := by
  have e : ∀ k, k ≠ 17 ∧ k ≠ 18 → asI B i k = B k := fun k => asI_r B i
  unfold pl at *; rw [e 0 (by omega), e 2 (by omega), e 3 (by omega)]; exact h
theorem pl_le {B0 B : AA} (h : pl B0 B) (i : Int) : pl B0 (leI B i) := by
  unfold pl at *; rw [le_0 _ _ (by omega), le_0 _ _ (by omega), le_r _ _ (by omega), le_r _ _ (by omega)]; exact h
theorem wf17 {B : AA} (w : wf B) {c : Nat} {v : Int} (hv : -1 ≤ v ∧ v < 176) : wf (zU B 17 c v) := by
  obtain ⟨w1, w2, w3, w4, w5, w6, w7, w8⟩ := w
  have e : ∀ k, k ≠ 17 → zU B 17 c v k = B k := fun k hk => zU_n _ _ hk
  unfold wf
  simp only [e 0 (by omega), e 1 (by omega), e 2 (by omega), e 3 (by omega), e 4 (by omega), e 5 (by omega), e 6 (by omega), e 7 (by omega), e 8 (by omega), e 9 (by omega), e 10 (by omega), e 13 (by omega), e 14 (by omega), e 15 (by omega)]
  refine ⟨w1, w2, w3, w4, w5, w6, w7, fun j => ⟨(w8 j).1, (w8 j).2.1, (w8 j).2.2.1, ?_⟩⟩
  rw [zU_e]; split
  · exact hv
  · exact (w8 j).2.2.2
theorem not_inp {B : AA} (h : iv B) {i : Int} (h0 : 0 ≤ i) (hi : i < 176) (hn : ¬ inp B i) : fr B i < 0 := Int.not_le.mp fun z => hn (fr_ok h h0 hi z).1
theorem as_no {B : AA} {i : Int} (hf : fr B i < 0) : asI B i = B := as_f (fun z => by have := z.1; omega)
theorem le_no {B : AA} {i : Int} (hf : fr B i < 0) : leI B i = B := le_f (fun z => by have := z.1; omega)
abbrev GG (B0 : AA) (n i : Nat) : Prop := inp B0 i ∧ nd B0 i = n
theorem fs_ref {B : AA} (h : iv B) {f : AA → Int → AA} (hf : ∀ B i, iv B → 0 ≤ i → i < 176 → iv (f B i)) (hp : ∀ B0 B i, pl B0 B → pl B0 (f B i)) (hno : ∀ B i, fr B i < 0 → f B i = B) (hc : ∀ B i j, iv B → 0 ≤ i → i < 176 → 0 ≤ j → j < 176 → i ≠ j → nd B i ≠ nd B j → f (f B i) j = f (f B j) i) : fs (fun B' n => gs (GG B n.toNat) f (16 + 4 * B 0 3).toNat B') (B 0 2).toNat B = fs f (16 + 4 * B 0 3).toNat B := by
  have hl := h.1.l; have hn := h.1.n
  have hJ : ∀ B' (i : Nat), (iv B' ∧ pl B B') → i < (16 + 4 * B 0 3).toNat → iv (f B' i) ∧ pl B (f B' i) := fun B' i ⟨a, b⟩ hi => ⟨hf _ _ a (by omega) (by omega), hp _ _ _ b⟩
  have hB : iv B ∧ pl B B := ⟨h, rfl, rfl, rfl, rfl⟩
  rw [gs_nodes (J := fun B' => iv B' ∧ pl B B') hJ (fun a b i ga gb => by have := ga.2; have := gb.2; omega) (fun a b i j hab hi hj ga gb B' hB' => ?_) _ _ hB]
  · refine gs_all (J := fun B' => iv B' ∧ pl B B') hJ (fun B' i hB' hi hno2 => ?_) _ (Nat.le_refl _) _ hB
    refine hno _ _ (not_inp hB'.1 (by omega) (by omega) (fun z => hno2 ?_))
    have z2 := (inp_pl hB'.2 _).mp z
    have w := nd_rg h.1 (i := i) (by omega)
    refine ⟨(nd B i).toNat, ?_, z2, by omega⟩
    obtain ⟨-, q | q⟩ := z2
    · have : nd B i = i := by unfold nd; rw [if_pos q.1]
      omega
    · have : nd B i = B 2 ((i - 16 : Int) / 4).toNat := by unfold nd; rw [if_neg (by omega)]
      have q2 := q.2
      unfold isC at q2
      have := (h.2.1.1 ((i - 16 : Int) / 4).toNat (by omega)).2.1
      omega
  · have e1 := ga.2; have e2 := gb.2
    refine hc _ _ _ hB'.1 (by omega) (by omega) (by omega) (by omega) (fun z => ?_) ?_
    · rw [z] at e1; omega
    · rw [nd_pl hB'.2, nd_pl hB'.2]; omega
theorem gs_iv {B : AA} (h : iv B) {P : Nat → Prop} {f : AA → Int → AA} (hf : ∀ B i, iv B → 0 ≤ i → i < 176 → iv (f B i)) (hp : ∀ B0 B i, pl B0 B → pl B0 (f B i)) {n : Nat} (hn : n ≤ (16 + 4 * B 0 3).toNat) {B0 : AA} (hb : pl B0 B) : iv (gs P f n B) ∧ pl B0 (gs P f n B) := by
  have hl := h.1.l
  exact gs_J (J := fun B' => iv B' ∧ pl B0 B') (M := (16 + 4 * B 0 3).toNat) (fun B' i ⟨a, b⟩ hi => ⟨hf _ _ a (by omega) (by omega), hp _ _ _ b⟩) n hn B ⟨h, hb⟩
theorem r_ask1 {B0 B : AA} (h : iv B) (hb : pl B0 B) {n : Nat} (hn : (n : Int) < B 0 2) {ex : AA → Int → Prop} {post : AA → Prop} (hex : ex (gs (GG B0 n) asI (16 + 4 * B 0 3).toNat B) (16 + 4 * B 0 3)) : ∃ k, zl_M_ask_12 n ex post k B 0 := by
  have hl := h.1.l; have hn16 := h.1.n
  have key := fun j (hj : j ≤ (16 + 4 * B 0 3).toNat) => gs_iv (f := asI) h (P := GG B0 n) (fun B i a b c => iv_as a b c) (fun B0 B i q => pl_as q i) hj hb
  refine sq2 (zl_M_ask_12 n ex post) (fun j => gs (GG B0 n) asI j B) (16 + 4 * B 0 3).toNat (fun k => ?_) (fun j hj k hk => ?_)
  · obtain ⟨-, e2, e3, -, -⟩ := key _ (Nat.le_refl _)
    obtain ⟨b2, b3, -, -⟩ := hb
    have e4 : ((((16 + 4 * B 0 3).toNat : Nat)) : Int) = 16 + 4 * B 0 3 := by omega
    refine ⟨by omega, by omega, fun _ => ?_, fun g => by omega⟩
    rw [e4]; exact hex
  · obtain ⟨a1, a2⟩ := key j (by omega)
    rw [gs] at hk
    generalize gs (GG B0 n) asI j B = X at *
    have w := a1.1
    have ex3 : X 0 3 = B 0 3 := by rw [a2.2.1, hb.2.1]
    have ex2 : X 0 2 = B 0 2 := by rw [a2.1, hb.1]
    refine ⟨by omega, by omega, fun g => by omega, fun _ => ?_⟩
    refine r_isInput w (by omega) (by omega) (fun g1 g2 => ⟨by omega, fun _ => by omega, fun _ => ?_⟩) (fun g => ⟨by omega, fun _ => ?_, fun _ => by omega⟩)
    · rw [cs_t ⟨(inp_pl a2 _).mp g1, by rw [← nd_pl a2]; exact g2⟩] at hk
      refine r_wanted w (by omega) (fo_iv a1 _ (by omega) (by omega)) (fun c hc => ?_) (fun hno => ⟨by omega, fun _ => ?_, fun g => by omega⟩)
      · obtain ⟨o1, -, o3, -⟩ := wt_ok a1 (by omega) (by omega) hc
        have c1 := o1.lt w
        have f0 := hc.1
        have f1 := fr_rg w j
        rw [o3] at hc
        rw [as_t hc, ← o3] at hk
        refine ⟨by omega, fun _ => by omega, fun _ => ⟨by omega, ?_⟩⟩
        rintro _ rfl
        have ef : fr (zU X 17 c.toNat j) j = fr X j := fr_c (by rw [zU_n _ _ (by omega)]) (by rw [zU_n _ _ (by omega)]) (zU_n _ _ (by omega)) (zU_n _ _ (by omega)) (zU_n _ _ (by omega)) (zU_n _ _ (by omega)) (zU_n _ _ (by omega)) (zU_n _ _ (by omega)) _
        refine r_front (wf17 w (by omega)) (by omega) ?_
        rw [ef]
        refine ⟨by omega, by omega, ?_⟩
        rintro _ rfl
        exact hk
      · rw [as_f (hno _)] at hk; exact hk
    · rw [cs_f (fun z => g ⟨(inp_pl a2 _).mpr z.1, by rw [nd_pl a2]; exact z.2⟩)] at hk; exact hk
theorem fs_iv {B : AA} (h : iv B) {P : Nat → Nat → Prop} {f : AA → Int → AA} (hf : ∀ B i, iv B → 0 ≤ i → i < 176 → iv (f B i)) (hp : ∀ B0 B i, pl B0 B → pl B0 (f B i)) : ∀ n, iv (fs (fun B' n => gs (P n.toNat) f (16 + 4 * B 0 3).toNat B') n B) ∧ pl B (fs (fun B' n => gs (P n.toNat) f (16 + 4 * B 0 3).toNat B') n B) := by
  intro n
  induction n with
  | zero => exact ⟨h, rfl, rfl, rfl, rfl⟩
  | succ n ih =>
    rw [fs]
    have := gs_iv ih.1 (P := P (n : Int).toNat) hf hp (n := (16 + 4 * B 0 3).toNat) (by rw [ih.2.2.1]; exact Nat.le_refl _) ih.2
    exact this
theorem r_ask {B : AA} (h : iv B) {post : AA → Prop} (hp : post (asF B)) : zp_M_ask B post := by
  have hn16 := h.1.n
  unfold asF at hp
  rw [← fs_ref (f := asI) h (fun B i a b c => iv_as a b c) (fun B0 B i q => pl_as q i) (fun B i q => as_no q) (fun B i j a b c d e f g => com_as a b c d e f g)] at hp
  have key := fs_iv (f := asI) h (P := GG B) (fun B i a b c => iv_as a b c) (fun B0 B i q => pl_as q i)
  refine sq2 (zl_M_ask_2 (fun B' y1 => ze_M_ask_81 B' post) post) (fun j => fs (fun B' n => gs (GG B n.toNat) asI (16 + 4 * B 0 3).toNat B') j B) (B 0 2).toNat (fun k => ?_) (fun j hj k hk => ?_)
  · obtain ⟨a1, a2⟩ := key (B 0 2).toNat
    have e2 := a2.1
    exact ⟨by omega, by omega, fun _ => hp, fun g => by omega⟩
  · obtain ⟨a1, a2⟩ := key j
    have e2 := a2.1; have e3 := a2.2.1
    rw [fs] at hk
    generalize fs (fun B' n => gs (GG B n.toNat) asI (16 + 4 * B 0 3).toNat B') j B = X at *
    simp only [Int.toNat_natCast] at hk
    refine ⟨by omega, by omega, fun g => by omega, fun _ => ?_⟩
    refine r_ask1 a1 a2 (by omega) ?_
    show zl_M_ask_2 _ _ _ _ _
    rw [e3]; simpa using hk
theorem r_lea1 {B0 B : AA} (h : iv B) (hb : pl B0 B) {n : Nat} (hn : (n : Int) < B 0 2) {ex : AA → Int → Prop} {post : AA → Prop} (hex : ex (gs (GG B0 n) leI (16 + 4 * B 0 3).toNat B) (16 + 4 * B 0 3)) : ∃ k, zl_M_step_47 n ex post k B 0 := by
  have hl := h.1.l; have hn16 := h.1.n
  have key := fun j (hj : j ≤ (16 + 4 * B 0 3).toNat) => gs_iv (f := leI) h (P := GG B0 n) (fun B i a b c => iv_le a b c) (fun B0 B i q => pl_le q i) hj hb
  refine sq2 (zl_M_step_47 n ex post) (fun j => gs (GG B0 n) leI j B) (16 + 4 * B 0 3).toNat (fun k => ?_) (fun j hj k hk => ?_)
  · obtain ⟨-, e2, e3, -, -⟩ := key _ (Nat.le_refl _)
    obtain ⟨b2, b3, -, -⟩ := hb
    have e4 : ((((16 + 4 * B 0 3).toNat : Nat)) : Int) = 16 + 4 * B 0 3 := by omega
    refine ⟨by omega, by omega, fun _ => ?_, fun g => by omega⟩
    rw [e4]; exact hex
  · obtain ⟨a1, a2⟩ := key j (by omega)
    rw [gs] at hk
    generalize gs (GG B0 n) leI j B = X at *
    have w := a1.1
    have ex3 : X 0 3 = B 0 3 := by rw [a2.2.1, hb.2.1]
    have ex2 : X 0 2 = B 0 2 := by rw [a2.1, hb.1]
    refine ⟨by omega, by omega, fun g => by omega, fun _ => ?_⟩
    refine r_isInput w (by omega) (by omega) (fun g1 g2 => ⟨by omega, fun _ => by omega, fun _ => ?_⟩) (fun g => ⟨by omega, fun _ => ?_, fun _ => by omega⟩)
    · rw [cs_t ⟨(inp_pl a2 _).mp g1, by rw [← nd_pl a2]; exact g2⟩] at hk
      rw [← g2]
      exact r_leave w (fo_iv a1 _ (by omega) (by omega)) (by omega) (by rw [g2]; exact hk)
    · rw [cs_f (fun z => g ⟨(inp_pl a2 _).mpr z.1, by rw [nd_pl a2]; exact z.2⟩)] at hk; exact hk
theorem r_lea {B : AA} (h : iv B) {post : AA → Prop} (hp : post (leF B)) : ze_M_step_35 B post := by
  have hn16 := h.1.n
  unfold leF at hp
  rw [← fs_ref (f := leI) h (fun B i a b c => iv_le a b c) (fun B0 B i q => pl_le q i) (fun B i q => le_no q) (fun B i j a b c d e f g => com_le a b c d e f)] at hp
  have key := fs_iv (f := leI) h (P := GG B) (fun B i a b c => iv_le a b c) (fun B0 B i q => pl_le q i)
  refine sq2 (zl_M_step_37 (fun B' y1 => ze_M_step_87 B' post) post) (fun j => fs (fun B' n => gs (GG B n.toNat) leI (16 + 4 * B 0 3).toNat B') j B) (B 0 2).toNat (fun k => ?_) (fun j hj k hk => ?_)
  · obtain ⟨a1, a2⟩ := key (B 0 2).toNat
    have e2 := a2.1
    exact ⟨by omega, by omega, fun _ => hp, fun g => by omega⟩
  · obtain ⟨a1, a2⟩ := key j
    have e2 := a2.1; have e3 := a2.2.1
    rw [fs] at hk
    generalize fs (fun B' n => gs (GG B n.toNat) leI (16 + 4 * B 0 3).toNat B') j B = X at *
    simp only [Int.toNat_natCast] at hk
    refine ⟨by omega, by omega, fun g => by omega, fun _ => ?_⟩
    refine r_lea1 a1 a2 (by omega) ?_
    show zl_M_step_37 _ _ _ _ _
    rw [e3]; simpa using hk
theorem mo_03 (B : AA) {l : Int} (hl : 0 ≤ l) (w : wf B) : moL B l 0 3 = B 0 3 := by
  unfold moL; split
  · rfl
  · exact mo_0 _ _ _ (by omega)
theorem fs_mo {B : AA} (h : iv B) : ∀ n, iv (fs moL n B) ∧ fs moL n B 0 3 = B 0 3 := by
  intro n
  induction n with
  | zero => exact ⟨h, rfl⟩
  | succ n ih => rw [fs]; exact ⟨iv_mo ih.1 (by omega), by rw [mo_03 _ (by omega) ih.1.1, ih.2]⟩
theorem r_mov {B : AA} (h : iv B) {ex : AA → Int → Prop} {post : AA → Prop} (hex : ∀ y, ex (moF B) y) : ∃ k, zl_M_step_16 ex post k B 0 := by
  have hl := h.1.l
  refine sq2 (zl_M_step_16 ex post) (fun j => fs moL j B) (B 0 3).toNat (fun k => ?_) (fun j hj k hk => ?_)
  · have a := (fs_mo h (B 0 3).toNat).2
    exact ⟨by omega, by omega, fun _ => hex _, fun g => by omega⟩
  · obtain ⟨a1, a2⟩ := fs_mo h j
    rw [fs] at hk
    generalize fs moL j B = X at *
    refine ⟨by omega, by omega, fun g => by omega, fun _ => ?_⟩
    exact r_move a1.1 (fun i => fo_iv a1 i) (by omega) (by simpa using hk)
theorem fs_as {B : AA} (h : iv B) : ∀ n, n ≤ 176 → iv (fs asI n B) ∧ pl B (fs asI n B) := by
  intro n
  induction n with
  | zero => intro _; exact ⟨h, rfl, rfl, rfl, rfl⟩
  | succ n ih => intro hn; rw [fs]; have := ih (by omega); exact ⟨iv_as this.1 (by omega) (by omega), pl_as this.2 _⟩
theorem iv_asF {B : AA} (h : iv B) : iv (asF B) := by have := h.1.l; exact (fs_as h _ (by omega)).1
theorem iv_moF {B : AA} (h : iv B) : iv (moF B) := (fs_mo h _).1
theorem r_step {B : AA} (h : iv (tck B)) {post : AA → Prop} (hp : post (stF B)) : zp_M_step B post := by
  unfold zp_M_step
  rintro _ rfl
  exact r_ask h (r_mov (iv_asF h) (fun y => r_lea (iv_moF (iv_asF h)) hp))
