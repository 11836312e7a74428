/-! fail -/
def fw (g : Nat → Int) (l : Int) (j : Nat) : Nat → Int := fun k => if k < j ∧ 0 ≤ g k ∧ g k / 4 = l then -1 else g k
def fc (g : Nat → Int) (l : Int) : Nat → Int
  | 0 => 0
  | j + 1 => if 0 ≤ g j ∧ g j / 4 = l then fc g l j + 1 else fc g l j
theorem fw_s (g : Nat → Int) (l : Int) (j k : Nat) : fw g l (j + 1) k = if k = j then (if 0 ≤ g j ∧ g j / 4 = l then -1 else g j) else fw g l j k := by
  unfold fw
  by_cases e : k = j
  · subst e
    rw [if_pos rfl]
    by_cases q : 0 ≤ g k ∧ g k / 4 = l
    · rw [if_pos ⟨by omega, q⟩, if_pos q]
    · rw [if_neg (fun z => q z.2), if_neg q]
  · rw [if_neg e]
    by_cases q : k < j ∧ 0 ≤ g k ∧ g k / 4 = l
    · rw [if_pos q, if_pos ⟨by omega, q.2⟩]
    · rw [if_neg q, if_neg (fun z => q ⟨by omega, z.2⟩)]
theorem fw_j (g : Nat → Int) (l : Int) (j : Nat) : fw g l j j = g j := by unfold fw; rw [if_neg (by omega)]
theorem zR_up (X : AA) (c : Nat) (g : Nat → Int) (l : Int) (j : Nat) : (0 ≤ g j ∧ g j / 4 = l → zU (zR X c (fw g l j)) c j (-1) = zR X c (fw g l (j + 1))) ∧ (¬ (0 ≤ g j ∧ g j / 4 = l) → zR X c (fw g l j) = zR X c (fw g l (j + 1))) := by
  constructor
  · intro q
    funext k r
    by_cases e : k = c
    · subst e
      rw [zU_e, zR_s, zR_s, fw_s]
      by_cases er : r = j
      · rw [if_pos ⟨rfl, er⟩, if_pos er, if_pos q]
      · rw [if_neg (fun z => er z.2), if_neg er]
    · rw [zU_n _ _ e, zR_n _ _ e, zR_n _ _ e]
  · intro q
    have : fw g l j = fw g l (j + 1) := by
      funext k; rw [fw_s]; split
      · subst_vars; exact fw_j _ _ _
      · rfl
    rw [this]
theorem zR_id (X : AA) (c : Nat) : zR X c (X c) = X := by
  funext k; by_cases e : k = c
  · subst e; rw [zR_s]
  · rw [zR_n _ _ e]
theorem fw_0 (g : Nat → Int) (l : Int) : fw g l 0 = g := by funext k; unfold fw; rw [if_neg (by omega)]
/-- loops with a running value -/
theorem sq3 (Wf : Nat → AA → Int → Int → Prop) (S : Nat → AA) (V : Nat → Int) (n : Nat) (hx : ∀ k, Wf (k + 1) (S n) (V n) n) (hs : ∀ i : Nat, i < n → ∀ k, Wf k (S (i + 1)) (V (i + 1)) ((i : Int) + 1) → Wf (k + 1) (S i) (V i) i) : ∃ k, Wf k (S 0) (V 0) 0 := by
  have := sq (fun k (s : AA × Int × Int) => Wf k s.1 s.2.1 s.2.2) (fun j => (S j, V j, (j : Int))) n hx (fun i hi k hk => hs i hi k (by simpa using hk))
  simpa using this
theorem r_failL {X : AA} (hr : ∀ k, -1 ≤ X 6 k ∧ X 6 k < 160) {l : Int} (hl : rg l) {ex : AA → Int → Int → Prop} {post : Int → AA → Prop} (hex : ex (zR X 6 (fw (X 6) l 256)) (fc (X 6) l 256) 256) : ∃ k, zl_M_fail_45 l ex post k X 0 0 := by
  have := sq3 (zl_M_fail_45 l ex post) (fun j => zR X 6 (fw (X 6) l j)) (fc (X 6) l) 256 (fun k => ?_) (fun j hj k hk => ?_)
  · simp only [fw_0, zR_id] at this; exact this
  · exact ⟨by omega, fun _ => hex, fun g => by omega⟩
  · have h1 := hr j
    refine ⟨by omega, fun g => by omega, fun _ => ⟨by omega, ?_⟩⟩
    rw [zR_s]
    simp only [Int.toNat_natCast]
    rw [fw_j]
    obtain ⟨u1, u2⟩ := zR_up X 6 (X 6) l j
    rw [fc] at hk
    refine ⟨by omega, fun g => ?_, fun g => ⟨by omega, by omega, by omega, hl, fun g2 => ?_, fun g2 => ⟨by omega, ?_⟩⟩⟩
    · rw [if_neg (by omega), ← u2 (by omega)] at hk; exact hk
    · rw [if_neg (fun z => g2 z.2), ← u2 (fun z => g2 z.2)] at hk; exact hk
    · rintro _ rfl
      rw [if_pos ⟨by omega, g2⟩, ← u1 ⟨by omega, g2⟩] at hk; exact hk
theorem c_failL {X : AA} (hr : ∀ k, -1 ≤ X 10 k ∧ X 10 k < 160) {l : Int} (hl : rg l) {ex : AA → Int → Int → Prop} {post : Int → AA → Prop} (hex : ex (zR X 10 (fw (X 10) l 256)) (fc (X 10) l 256) 256) : ∃ k, zl_CP_breakLink_11 l ex post k X 0 0 := by
  have := sq3 (zl_CP_breakLink_11 l ex post) (fun j => zR X 10 (fw (X 10) l j)) (fc (X 10) l) 256 (fun k => ?_) (fun j hj k hk => ?_)
  · simp only [fw_0, zR_id] at this; exact this
  · exact ⟨by omega, fun _ => hex, fun g => by omega⟩
  · have h1 := hr j
    refine ⟨by omega, fun g => by omega, fun _ => ⟨by omega, ?_⟩⟩
    rw [zR_s]
    simp only [Int.toNat_natCast]
    rw [fw_j]
    obtain ⟨u1, u2⟩ := zR_up X 10 (X 10) l j
    rw [fc] at hk
    refine ⟨by omega, fun g => ?_, fun g => ⟨by omega, by omega, by omega, hl, fun g2 => ?_, fun g2 => ⟨by omega, ?_⟩⟩⟩
    · rw [if_neg (by omega), ← u2 (by omega)] at hk; exact hk
    · rw [if_neg (fun z => g2 z.2), ← u2 (fun z => g2 z.2)] at hk; exact hk
    · rintro _ rfl
      rw [if_pos ⟨by omega, g2⟩, ← u1 ⟨by omega, g2⟩] at hk; exact hk
theorem gd_4 {B : AA} (h : gd B) {l : Nat} (hl : ∀ k, k < 256 → B 6 k ≠ -1 → (B 6 k / 4).toNat ≠ l) : gd (zU B 4 l 1) := by
  obtain ⟨⟨w, hL, hR, hP, hB, hH, hG⟩, hW, hN⟩ := h
  have e : ∀ k, k ≠ 4 → zU B 4 l 1 k = B k := fun k hk => zU_n _ _ hk
  have e4 : ∀ j, zU B 4 l 1 4 j = if j = l then 1 else B 4 j := fun j => by rw [zU_e]; simp
  refine ⟨⟨?_, iL_c (by rw [e _ (by omega)]) (by rw [e _ (by omega)]) (e _ (by omega)) (e _ (by omega)) (e _ (by omega)) (e _ (by omega)) hL, ?_, iP_c (by rw [e _ (by omega)]) (by rw [e _ (by omega)]) (e _ (by omega)) (e _ (by omega)) (e _ (by omega)) (e _ (by omega)) (e _ (by omega)) hP, iB_c (by rw [e _ (by omega)]) (by rw [e _ (by omega)]) (by rw [e _ (by omega)]) (e _ (by omega)) (e _ (by omega)) (e _ (by omega)) (e _ (by omega)) (e _ (by omega)) hB, iH_c (by rw [e _ (by omega)]) (by rw [e _ (by omega)]) (by rw [e _ (by omega)]) (e _ (by omega)) (e _ (by omega)) (e _ (by omega)) (e _ (by omega)) (e _ (by omega)) hH, iG_c (by rw [e _ (by omega)]) (by rw [e _ (by omega)]) (e _ (by omega)) hG⟩, ?_, ?_⟩
  · obtain ⟨w1, w2, w3, w4, w5, w6, w7, w8⟩ := w
    unfold wf
    rw [e 0 (by omega), e 1 (by omega), e 2 (by omega), e 3 (by omega), e 5 (by omega), e 6 (by omega), e 7 (by omega), e 8 (by omega), e 9 (by omega), e 10 (by omega), e 13 (by omega), e 14 (by omega), e 15 (by omega), e 17 (by omega)]
    refine ⟨w1, w2, w3, w4, fun j => ⟨(w5 j).1, (w5 j).2.1, (w5 j).2.2.1, ?_, (w5 j).2.2.2.2⟩, w6, w7, w8⟩
    rw [e4]; split
    · exact .inr rfl
    · exact (w5 j).2.2.2.1
  · intro k hk hne
    rw [e 6 (by omega)] at hne ⊢
    obtain ⟨a1, a2, a3, a4, a5, a6⟩ := hR k hk hne
    unfold isC at *
    rw [e 0 (by omega), e 1 (by omega), e 3 (by omega), e4, if_neg (hl k hk hne)]
    exact ⟨a1, a2, a3, a4, a5, a6⟩
  · have en : ∀ x, nd (zU B 4 l 1) x = nd B x := nd_c (e 2 (by omega))
    have et : ∀ x, tl (zU B 4 l 1) x = tl B x := tl_c (e 9 (by omega))
    have eq : ∀ x, q0 (zU B 4 l 1) x = q0 B x := q0_c (by rw [e _ (by omega)]) (e _ (by omega)) (e _ (by omega)) (e _ (by omega))
    obtain ⟨b1, b2, b3, b4, b5, T, b6⟩ := hW
    unfold iW wB wCc wJ wK wI wH bt at *
    simp only [en, et, eq]
    rw [e 17 (by omega), e 18 (by omega), e 8 (by omega), e 13 (by omega), e 14 (by omega), e 7 (by omega), e 9 (by omega), e 10 (by omega)]
    exact ⟨b1, b2, b3, b4, b5, T, b6⟩
  · unfold iN at *
    rw [NN_c (by rw [e _ (by omega)]) (e _ (by omega)) (e _ (by omega)) (e _ (by omega)) (e _ (by omega)), e _ (by omega)]; exact hN
theorem gd_fail {B : AA} (h : gd B) {l : Nat} : gd (zR (zU B 4 l 1) 6 (fw (B 6) l 256)) := by
  have w := h.1.1
  rw [zR_cm _ (by omega)]
  refine gd_4 (gd_6 h (fun k hk hne => ?_) (fun k => ?_)) (fun k hk hne => ?_)
  · unfold fw at hne ⊢
    by_cases q : k < 256 ∧ 0 ≤ B 6 k ∧ B 6 k / 4 = l
    · rw [if_pos q] at hne; exact absurd rfl hne
    · rw [if_neg q] at hne ⊢; exact h.1.2.2.1 k hk hne
  · unfold fw; have := w.a6 k; split <;> omega
  · rw [zR_s] at hne ⊢
    unfold fw at hne ⊢
    have := w.a6 k
    by_cases q : k < 256 ∧ 0 ≤ B 6 k ∧ B 6 k / 4 = l
    · rw [if_pos q] at hne; exact absurd rfl hne
    · rw [if_neg q] at hne ⊢; omega
theorem r_fail {B : AA} (h : wf B) {l : Int} (hl : rg l) {post : Int → AA → Prop} (h1 : ¬ (0 ≤ l ∧ l < B 0 3 ∧ B 4 l.toNat = 0) → post 0 (zU (zU B 0 0 0) 0 0 1)) (h2 : 0 ≤ l ∧ l < B 0 3 ∧ B 4 l.toNat = 0 → post (fc (B 6) l 256) (zR (zU (zU B 0 0 0) 4 l.toNat 1) 6 (fw (B 6) l 256))) : zp_M_fail B l post := by
  unfold zp_M_fail
  rintro _ rfl
  have l0 := h.l
  have x3 : zU B 0 0 0 0 3 = B 0 3 := zU_j _ _ (by omega)
  have x : ∀ k, k ≠ 0 → zU B 0 0 0 k = B k := fun k hk => zU_n _ _ hk
  have bad : ¬ (0 ≤ l ∧ l < B 0 3 ∧ B 4 l.toNat = 0) → zp_M_wrong (zU B 0 0 0) 1 (fun r S => post r S) := fun q => by rintro _ rfl; exact h1 q
  have a4 := h.a4 l.toNat
  rw [x3, x 4 (by omega)]
  refine r_within hl (by omega) (by omega) (fun a1 a2 => ⟨by omega, fun z => by omega, fun _ => ⟨by omega, by omega, fun g => ⟨by omega, ?_⟩, fun g => bad (fun z => g z.2.2)⟩⟩) (fun q => ⟨by omega, fun _ => bad (fun z => by omega), fun z => absurd rfl z⟩)
  rintro _ rfl
  have e6 : zU (zU B 0 0 0) 4 l.toNat 1 6 = B 6 := by rw [zU_n _ _ (by omega), zU_n _ _ (by omega)]
  refine r_failL (by rw [e6]; exact h.a6) hl ?_
  rw [e6]; exact h2 ⟨by omega, by omega, g⟩
theorem op_fail {n : Nat} {A B : AA} (h : RR n A B) {l : Int} (hl : rg l) : zp_CN_fail A l (fun r S => zp_M_fail B l (fun t T => T 0 0 = 0 ∧ r = t ∧ RR (n + 1) S T)) (fun E S => E = "java/lang/IllegalArgumentException" ∧ zp_M_fail B l (fun t T => T 0 0 = 1 ∧ RR (n + 1) S T)) := by
  obtain ⟨⟨hr, h22⟩, hg, h5⟩ := id h
  have w0 := hg.1.1
  have l0 := w0.l
  have E := hr.1
  have bad : ¬ (0 ≤ l ∧ l < B 0 3 ∧ B 4 l.toNat = 0) → zp_M_fail B l (fun t T => T 0 0 = 1 ∧ RR (n + 1) A T) := fun q =>
    r_fail w0 hl (fun _ => ⟨x00 _ _, RR_x h 1⟩) (fun z => absurd z q)
  have a4 := w0.a4 l.toNat
  unfold zp_CN_fail
  rw [E.c9]
  refine c_hasLink E w0 hl (fun a1 a2 => ⟨by omega, fun z => by omega, fun _ => ⟨by omega, by omega, fun g => ⟨by omega, ?_⟩, fun g => ⟨rfl, bad (fun z => g z.2.2)⟩⟩⟩) (fun q => ⟨by omega, fun _ => ⟨rfl, bad (fun z => by omega)⟩, fun z => absurd rfl z⟩)
  rintro _ rfl
  have e10 : zU A 9 l.toNat 1 10 = B 6 := by rw [zU_n _ _ (by omega), E.c10]
  refine c_failL (by rw [e10]; exact w0.a6) hl ?_
  rw [e10]
  refine r_fail w0 hl (fun z => by omega) (fun _ => ⟨by rw [zR_n _ _ (by omega), zU_n _ _ (by omega), zU_s], rfl, ⟨Rel_c hr (((E.ur 0 0 0 (by decide) (by decide)).u2 9 4 _ _ (by decide) (by decide)).r2 10 6 rfl (by decide) (by decide)) (fun k hk => by rw [zR_n _ _ (by omega), zU_n _ _ (by omega)]) (fun k hk => by rw [zR_n _ _ (by omega), zU_n _ _ (by omega), zU_n _ _ (by omega)]) (by rw [zR_n _ _ (by omega), zU_n _ _ (by omega), zU_j _ _ (by omega)]), fun c hc => by rw [zR_n _ _ (by omega), zU_n _ _ (by omega)]; exact h22 c hc⟩, ?_, by rw [zR_n _ _ (by omega), zU_n _ _ (by omega), zU_j _ _ (by omega)]; omega⟩)
  have := gd_fail (gd_same (same_00 B 0) hg) (l := l.toNat)
  rw [zU_n (k := 0) _ _ (by omega), show ((l.toNat : Nat) : Int) = l by omega] at this
  exact this
/-! packets that come -/
def ad (B : AA) (a b f : Int) : AA := zU (zU (zU (zU B 7 (B 0 4).toNat a) 8 (B 0 4).toNat b) 9 (B 0 4).toNat f) 0 4 (B 0 4 + 1)
theorem ad_r (B : AA) (a b f : Int) {k : Nat} (h : k ≠ 0 ∧ k ≠ 7 ∧ k ≠ 8 ∧ k ≠ 9) : ad B a b f k = B k := by unfold ad; rw [zU_n _ _ (by omega), zU_n _ _ (by omega), zU_n _ _ (by omega), zU_n _ _ (by omega)]
theorem ad_0 (B : AA) (a b f : Int) {j : Nat} (h : j ≠ 4) : ad B a b f 0 j = B 0 j := by unfold ad; rw [zU_j _ _ h, zU_n _ _ (by omega), zU_n _ _ (by omega), zU_n _ _ (by omega)]
theorem ad_04 (B : AA) (a b f : Int) : ad B a b f 0 4 = B 0 4 + 1 := zU_s _ _ _ _
theorem ad_7 (B : AA) (a b f : Int) (j : Nat) : ad B a b f 7 j = if j = (B 0 4).toNat then a else B 7 j := by unfold ad; rw [zU_n _ _ (by omega), zU_n _ _ (by omega), zU_n _ _ (by omega), zU_e]; simp
theorem ad_8 (B : AA) (a b f : Int) (j : Nat) : ad B a b f 8 j = if j = (B 0 4).toNat then b else B 8 j := by unfold ad; rw [zU_n _ _ (by omega), zU_n _ _ (by omega), zU_e, zU_n _ _ (by omega)]; simp
theorem ad_9 (B : AA) (a b f : Int) (j : Nat) : ad B a b f 9 j = if j = (B 0 4).toNat then f else B 9 j := by unfold ad; rw [zU_n _ _ (by omega), zU_e, zU_n _ _ (by omega), zU_n _ _ (by omega)]; simp
theorem ad_tl {B : AA} (a b f : Int) {x : Int} (h : x / 16 < B 0 4) (h0 : 0 ≤ x) : tl (ad B a b f) x = tl B x := by unfold tl; rw [ad_9, if_neg (by omega)]
/-- the front of a queue when a packet comes -/
theorem ad_q {B : AA} (w : wf B) (hP : iP B) {a b f : Int} (hf : 1 ≤ f) (i : Int) : (q0 B i ≠ -1 → q0 (ad B a b f) i = q0 B i) ∧ (q0 B i = -1 → a ≠ i → q0 (ad B a b f) i = -1) ∧ (q0 B i = -1 → a = i → q0 (ad B a b f) i = B 0 4) := by
  have pk := w.p
  have e10 : ad B a b f 10 = B 10 := ad_r _ _ _ _ (by omega)
  have old : ∀ q : Nat, (q : Int) < B 0 4 → ((ad B a b f 7 q = i ∧ ad B a b f 10 q ≠ ad B a b f 9 q) ↔ (B 7 q = i ∧ B 10 q ≠ B 9 q)) := fun q hq => by
    rw [ad_7, ad_9, e10, if_neg (by omega), if_neg (by omega)]
  have hnew := (hP.2.1 (B 0 4).toNat (by omega)).1
  refine ⟨fun g => ?_, fun g ne => ?_, fun g e => ?_⟩
  · rcases qf_np w i with z | ⟨p, z, p4, p7, p10, hq⟩
    · exact absurd z g
    · rw [z]
      show qf _ _ _ _ = _
      have o := (old p p4).mpr ⟨p7, by omega⟩
      refine qf_of _ _ p (by omega) (by rw [ad_04]; omega) o.1 o.2 (fun q _ hqp h7 => ?_)
      have o2 := old q (by omega)
      exact Classical.byContradiction fun ne => by
        have := o2.mp ⟨h7, ne⟩
        exact this.2 (hq q hqp this.1)
  · rcases qf_ge (ad B a b f) i (ad B a b f 0 4).toNat 0 with y | ⟨y1, y2⟩
    · exact y
    · exfalso
      have h1 : (0 : Int) ≤ q0 (ad B a b f) i := by simpa using y1
      obtain ⟨q, eq⟩ : ∃ q : Nat, q0 (ad B a b f) i = q := ⟨(q0 (ad B a b f) i).toNat, by omega⟩
      obtain ⟨u1, u2, u3, u4, -⟩ := qf_is _ _ q eq
      rw [ad_04] at u2
      by_cases eqp : q = (B 0 4).toNat
      · rw [ad_7, if_pos eqp] at u3; exact ne u3
      · have := (old q (by omega)).mp ⟨u3, u4⟩
        exact this.2 (qf_no _ _ g q (by omega) (by omega) this.1)
  · have : ((B 0 4).toNat : Int) = B 0 4 := by omega
    rw [← this]
    show qf _ _ _ _ = _
    refine qf_of _ _ (B 0 4).toNat (by omega) (by rw [ad_04]; omega) (by rw [ad_7, if_pos rfl, e]) (by rw [ad_9, if_pos rfl, e10, hnew]; omega) (fun q _ hq h7 => ?_)
    have o2 := old q (by omega)
    exact Classical.byContradiction fun ne => by
      have := o2.mp ⟨h7, ne⟩
      exact this.2 (qf_no _ _ g q (by omega) (by omega) this.1)
theorem gd_ad {B : AA} (h : gd B) {a b f : Int} (hp : B 0 4 < 400) (ha : 0 ≤ a ∧ a < B 0 2) (hb : 0 ≤ b ∧ b < B 0 2) (hf : 1 ≤ f ∧ f ≤ 16) : gd (ad B a b f) := by
  obtain ⟨⟨w, hL, hR, hP, hB, hH, hG⟩, hW, hN⟩ := h
  have e : ∀ k, k ≠ 0 ∧ k ≠ 7 ∧ k ≠ 8 ∧ k ≠ 9 → ad B a b f k = B k := fun k => ad_r B a b f
  have e0 : ∀ j, j ≠ 4 → ad B a b f 0 j = B 0 j := fun j => ad_0 B a b f
  have p0 := w.p; have n0 := w.n
  have hnew := hP.2.1 (B 0 4).toNat (by omega)
  have hsz : ∀ x : Int, 0 ≤ x → x / 16 < B 0 4 → ad B a b f 9 (x / 16).toNat = B 9 (x / 16).toNat := fun x x0 hx => by rw [ad_9, if_neg (by omega)]
  refine ⟨⟨?_, iL_c (e0 _ (by omega)) (e0 _ (by omega)) (e _ (by omega)) (e _ (by omega)) (e _ (by omega)) (e _ (by omega)) hL, iR_c (e0 _ (by omega)) (e0 _ (by omega)) (e _ (by omega)) (e _ (by omega)) (e _ (by omega)) (e _ (by omega)) hR, ?_, ?_, ?_, ?_⟩, ?_, ?_⟩
  · obtain ⟨w1, w2, w3, w4, w5, w6, w7, w8⟩ := w
    unfold wf
    rw [e0 2 (by omega), e0 3 (by omega), ad_04, e0 5 (by omega), e 1 (by omega), e 2 (by omega), e 3 (by omega), e 4 (by omega), e 5 (by omega), e 6 (by omega), e 10 (by omega), e 13 (by omega), e 14 (by omega), e 15 (by omega), e 17 (by omega)]
    refine ⟨w1, w2, by omega, w4, w5, w6, fun j => ?_, w8⟩
    rw [ad_7, ad_8, ad_9]
    by_cases q : j = (B 0 4).toNat
    · rw [if_pos q, if_pos q, if_pos q, q, hnew.1]; omega
    · rw [if_neg q, if_neg q, if_neg q]; exact w7 j
  · unfold iP
    rw [e0 2 (by omega), ad_04, e 10 (by omega), e 11 (by omega)]
    refine ⟨fun p hp => ?_, fun p hp => hP.2.1 p (by omega), fun p q hpq hq h7 hs => ?_⟩
    · rw [ad_7, ad_8, ad_9]
      by_cases q : p = (B 0 4).toNat
      · rw [if_pos q, if_pos q, if_pos q]; omega
      · rw [if_neg q, if_neg q, if_neg q]; exact hP.1 p (by omega)
    · by_cases eq : q = (B 0 4).toNat
      · rw [eq]; exact hnew.1
      · rw [ad_7, ad_7, if_neg (by omega), if_neg eq] at h7
        rw [ad_9, if_neg (by omega)] at hs
        exact hP.2.2 p q hpq (by omega) h7 hs
  · intro c k hc hk
    rw [e 13 (by omega)] at hk
    obtain ⟨a1, a2, a3, a4⟩ := hB c k hc hk
    have a14 := w.a14 (4 * c + k)
    unfold isC at *
    rw [e0 3 (by omega), ad_04, e0 5 (by omega), e 3 (by omega), e 14 (by omega), e 15 (by omega), hsz _ a14.1 a2]
    exact ⟨a1, by omega, a3, a4⟩
  · unfold iH2 inp isC nd at *
    rw [e0 2 (by omega), e0 3 (by omega), ad_04, e 1 (by omega), e 2 (by omega), e 3 (by omega), e 17 (by omega), e 18 (by omega)]
    intro c hc hne
    obtain ⟨a1, a2, a3, a4, a5⟩ := hH c hc hne
    exact ⟨a1, a2, a3, by omega, a5⟩
  · unfold iG at *
    rw [e0 7 (by omega), ad_04, e 11 (by omega), show (B 0 4 + 1).toNat = (B 0 4).toNat + 1 by omega, sm, hnew.2, hG]; omega
  · obtain ⟨b1, b2, b3, b4, b5, T, b6⟩ := hW
    have et : ∀ c k : Nat, c < 160 → (k : Int) < B 13 c → tl (ad B a b f) (B 14 (4 * c + k)) = tl B (B 14 (4 * c + k)) := fun c k hc hk => ad_tl _ _ _ (hB c k hc hk).2.1 (w.a14 _).1
    have en : ∀ x, nd (ad B a b f) x = nd B x := nd_c (e 2 (by omega))
    refine ⟨fun c hc hne => ?_, fun c hc hne => ?_, fun c hc k hk => ?_, fun c hc k hk => ?_, fun c d hc hd hne heq => ?_, T, fun c hc hne => ?_⟩
    · rw [e 17 (by omega)] at hne ⊢
      have := hH c hc hne
      rw [e 18 (by omega), en, ad_8, if_neg (by omega)]; exact b1 c hc hne
    · rw [e 17 (by omega)] at hne ⊢
      have hh := hH c hc hne
      rw [e 18 (by omega), e 13 (by omega), e 14 (by omega)]
      obtain ⟨q1, q2⟩ := b2 c hc hne
      refine ⟨fun g => ?_, q2⟩
      have q1 := q1 g
      rw [(ad_q w hP hf.1 _).1 (by omega)]; exact q1
    · rw [e 13 (by omega)] at hk
      rw [e 17 (by omega), e 18 (by omega), e 14 (by omega), et c k hc (by omega)]; exact b3 c hc k hk
    · rw [e 13 (by omega)] at hk
      rw [e 14 (by omega), et c k hc (by omega)]; exact b4 c hc k hk
    · rw [e 17 (by omega)] at hne heq; exact b5 c d hc hd hne heq
    · rw [e 17 (by omega)] at hne ⊢
      have hh := hH c hc hne
      have a17 := w.a17 c
      rw [e 18 (by omega)]
      rcases b6 c hc hne with z | z
      · left
        rcases z with ⟨z1, z2, z3⟩ | ⟨z1, k, z2, z3, z4⟩
        · left
          rw [ad_7, ad_9, if_neg (by omega), if_neg (by omega), e 10 (by omega)]; exact ⟨z1, z2, z3⟩
        · right
          rw [e 13 (by omega), e 14 (by omega)]
          refine ⟨z1, k, z2, z3, ?_⟩
          rw [et _ k (by omega) z2]; exact z4
      · exact .inr z
  · have e1 : nq (ad B a b f) = nq B + 1 := by
      unfold nq
      rw [ad_04, show (B 0 4 + 1).toNat = (B 0 4).toNat + 1 by omega, sm]
      have c1 : sm (B 0 4).toNat (fun p => if ad B a b f 10 p < ad B a b f 9 p then (1 : Int) else 0) = sm (B 0 4).toNat (fun p => if B 10 p < B 9 p then 1 else 0) := sm_c _ (fun k hk => by
        rw [e 10 (by omega), ad_9, if_neg (c := k = (B 0 4).toNat) (by omega)])
      rw [c1]
      have c2 : ad B a b f 10 (B 0 4).toNat < ad B a b f 9 (B 0 4).toNat := by rw [e 10 (by omega), ad_9, if_pos rfl, hnew.1]; omega
      rw [if_pos c2]
    have e2 : sm 160 (tb (ad B a b f)) = sm 160 (tb B) := sm_c _ (fun c hc => by
      unfold tb
      rw [e 13 (by omega)]
      have a13 := w.a13 c
      refine sm_c _ (fun k hk => ?_)
      rw [e 14 (by omega), ad_tl _ _ _ (hB c k hc (by omega)).2.1 (w.a14 _).1])
    unfold iN NN at *
    rw [e1, e2, ad_04, e0 8 (by omega)]; omega
