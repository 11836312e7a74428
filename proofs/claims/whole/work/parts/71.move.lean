/-! dropping, putting, moving, leaving in the program -/
theorem q_next {B : AA} (w : wf B) (hP : iP B) {i : Int} {p : Nat} {v : Int} (hp : q0 B i = p) (hv : nx B p v) (hs : B 10 p + 1 = B 9 p) : q0 (zU B 10 p (B 10 p + 1)) i = v := by
  have pk := w.p
  rcases qf_np w i with z | ⟨p', z, a, b, c, d⟩
  · omega
  have : p' = p := by omega
  subst this
  have e10 : ∀ q, zU B 10 p' (B 10 p' + 1) 10 q = if q = p' then B 10 p' + 1 else B 10 q := fun q => by rw [zU_e]; simp
  have e : ∀ k, k ≠ 10 → zU B 10 p' (B 10 p' + 1) k = B k := fun k hk => zU_n _ _ hk
  rcases hv with ⟨hv1, hv2⟩ | ⟨q, hv0, hv1, hv2, hv3, hv4⟩
  · rcases qf_ge (zU B 10 p' (B 10 p' + 1)) i (zU B 10 p' (B 10 p' + 1) 0 4).toNat 0 with y | ⟨y1, y2⟩
    · rw [hv1]; exact y
    · exfalso
      have h1 : (0 : Int) ≤ q0 (zU B 10 p' (B 10 p' + 1)) i := by simpa using y1
      obtain ⟨q, eq⟩ : ∃ q : Nat, q0 (zU B 10 p' (B 10 p' + 1)) i = q := ⟨(q0 (zU B 10 p' (B 10 p' + 1)) i).toNat, by omega⟩
      obtain ⟨u1, u2, u3, u4, -⟩ := qf_is _ _ q eq
      rw [e 0 (by omega)] at u2; rw [e 7 (by omega)] at u3; rw [e10, e 9 (by omega)] at u4
      by_cases eqp : q = p'
      · subst eqp; rw [if_pos rfl] at u4; omega
      · rw [if_neg eqp] at u4
        by_cases lt : q < p'
        · exact u4 (d q lt u3)
        · exact hv2 q (by omega) (by omega) (by rw [u3, b])
  · have f0 := hP.2.2 p' q hv1 hv2 (by rw [hv3]) c
    have s1 := (hP.1 q hv2).2.2
    rw [hv0]
    show qf _ _ _ _ = _
    refine qf_of _ _ q (by omega) (by rw [e 0 (by omega)]; omega) (by rw [e 7 (by omega), hv3, b]) (by rw [e10, if_neg (by omega), e 9 (by omega)]; omega) (fun r _ hr h7 => ?_)
    rw [e 7 (by omega)] at h7
    rw [e10, e 9 (by omega)]
    by_cases er : r = p'
    · subst er; rw [if_pos rfl]; omega
    · rw [if_neg er]
      by_cases lt : r < p'
      · exact d r lt h7
      · exact absurd (by rw [h7, b]) (hv4 r (by omega) hr)
theorem zU_cm (B : AA) {k k' : Nat} (h : k ≠ k') (i j : Nat) (x y : Int) : zU (zU B k i x) k' j y = zU (zU B k' j y) k i x := by
  funext q r
  simp only [zU_e]
  by_cases g : q = k' ∧ r = j
  · rw [if_pos g, if_neg (by omega), if_pos g]
  · rw [if_neg g, if_neg g]
theorem zR_cm (B : AA) {k k' : Nat} (h : k ≠ k') (i : Nat) (x : Int) (g : Nat → Int) : zR (zU B k i x) k' g = zU (zR B k' g) k i x := by
  funext q r
  by_cases e : q = k'
  · subst e; rw [zR_s, zU_n _ _ (Ne.symm h), zR_s]
  · rw [zR_n _ _ e, zU_e, zU_e, zR_n _ _ e]
theorem shs1 (A : AA) (c j : Nat) : zU (zR A 20 (shf (A 20) c j)) 20 (4 * c + j) (A 20 (4 * c + j + 1)) = zR A 20 (shf (A 20) c (j + 1)) := by
  funext k q
  by_cases h20 : k = 20
  · subst h20
    rw [zU_e, zR_s, zR_s, shf_e, shf_e]
    by_cases e : q = 4 * c + j
    · subst e; simp
    · rw [if_neg (fun z => e z.2)]
      by_cases g : 4 * c ≤ q ∧ q < 4 * c + j
      · rw [if_pos g, if_pos (by omega)]
      · rw [if_neg g, if_neg (by omega)]
  · rw [zU_n _ _ h20, zR_n _ _ h20, zR_n _ _ h20]
theorem c_dropB {A : AA} {c : Nat} (hc : c < 160) (h21 : 0 < A 21 c ∧ A 21 c ≤ 4) {post : AA → Prop} (hp : post (zU (zR A 20 (shf (A 20) c (A 21 c - 1).toNat)) 21 c (A 21 c - 1))) : zp_CI_dropFromBuffer A c post := by
  unfold zp_CI_dropFromBuffer
  rintro v rfl
  have r21 : ∀ j, zR A 20 (shf (A 20) c j) 21 c = A 21 c := fun j => by rw [zR_n _ _ (by omega)]
  have := sq2 (fun k B x => zl_CI_dropFromBuffer_6 c (c * 4) (fun B' y3 => ze_CI_dropFromBuffer_40 B' c post) post k B (x + 1)) (fun j => zR A 20 (shf (A 20) c j)) (A 21 c - 1).toNat (fun k => ?_) (fun j hj k hk => ?_)
  · obtain ⟨k, hk⟩ := this
    refine ⟨k, ?_⟩
    simp only [shf_0] at hk
    have e0 : zR A 20 (A 20) = A := by funext k; by_cases e : k = 20
                                       · subst e; rw [zR_s]
                                       · rw [zR_n _ _ e]
    rw [e0] at hk
    simpa using hk
  · refine ⟨by omega, by omega, by simp only [Int.toNat_natCast, r21]; omega, fun _ => ⟨by omega, by omega, ?_⟩, fun g => ?_⟩
    · rintro _ rfl
      simp only [Int.toNat_natCast, r21]
      exact hp
    · simp only [Int.toNat_natCast, r21] at g; omega
  · refine ⟨by omega, by omega, by simp only [Int.toNat_natCast, r21]; omega, fun g => ?_, fun _ => ⟨by omega, by omega, ?_⟩⟩
    · simp only [Int.toNat_natCast, r21] at g; omega
    · rintro _ rfl
      have e1 : ((c : Int) * 4 + (j + 1) - 1).toNat = 4 * c + j := by omega
      have e2 : ((c : Int) * 4 + (j + 1)).toNat = 4 * c + j + 1 := by omega
      rw [e1, e2]
      have e3 : zR A 20 (shf (A 20) c j) 20 (4 * c + j + 1) = A 20 (4 * c + j + 1) := by rw [zR_s, shf_e, if_neg (by omega)]
      rw [e3, shs1]
      exact hk
theorem Rf_tk {A A' B : AA} (w : wf B) (hf : Rf A B) (e22 : A' 22 = A 22) {i : Int} (h0 : 0 ≤ i) (hi : i < 176) (hfr : 0 ≤ fr B i) : Rf A' (tk B i (fr B i)) := by
  intro c hc
  have e0 := tk_r B i (fr B i) (k := 0) (by omega)
  obtain ⟨f1, f2, f3⟩ := hf c hc
  rw [e22, tk13, e0]
  by_cases g : 16 ≤ i ∧ c = (i - 16).toNat
  · rw [if_pos g]
    have hp := fr_pos w g.1 hfr
    have nf := (fr_b g.1 hfr).2.1
    rw [show (4 * (i - 16)).toNat = 4 * (i - 16).toNat + 0 by omega] at nf
    rw [← g.2] at nf hp
    have f0 := f3 0 (by omega)
    refine ⟨f1, ?_, fun k hk => ?_⟩
    · apply Int.not_lt.mp; intro z; exact nf (f0.mpr (by omega))
    · rw [tk15 _ _ _ (fun _ => (w.a13 _).2) _ _ (by omega), if_pos ⟨g.1, g.2, hk⟩, Nat.add_assoc, f3 (k + 1) (by omega)]
      omega
  · rw [if_neg g]
    have a13 := w.a13 c
    refine ⟨f1, f2, fun k hk => ?_⟩
    rw [tk15 _ _ _ (fun _ => (w.a13 _).2) _ _ (by omega), if_neg (fun z => g ⟨z.1, z.2.1⟩)]
    exact f3 k hk
theorem c_drop {A B : AA} (w : wf B) (hP : iP B) (hr : Rel A B) {i : Int} (h0 : 0 ≤ i) (hi : i < 176) (hfr : 0 ≤ fr B i) {post : AA → Prop} (hp : ∀ A', Rel A' (tk B i (fr B i)) → A' 22 = A 22 → A' 23 = A 23 → post A') : zp_CI_dropFront A i post := by
  obtain ⟨E, hw, hq, hH⟩ := hr
  have pk := w.p
  unfold zp_CI_dropFront
  refine ⟨by omega, fun g => ?_, fun g => ?_⟩
  · have h13 := fr_pos w g hfr
    have e16 : i - 16 = (((i - 16).toNat : Nat) : Int) := by omega
    rw [e16]
    have e21 := E.c21
    refine c_dropB (by omega) (by rw [e21]; exact h13) ?_
    rw [tk_hi _ _ g] at hp
    generalize (i - 16).toNat = d at *
    have eA : ∀ k, k ≠ 20 ∧ k ≠ 21 → zU (zR A 20 (shf (A 20) d (A 21 d - 1).toNat)) 21 d (A 21 d - 1) k = A k := fun k hk => by rw [zU_n _ _ hk.2, zR_n _ _ hk.1]
    have eB : ∀ k, k ≠ 13 ∧ k ≠ 14 ∧ k ≠ 15 → dr B d k = B k := fun k => dr_r B d
    refine hp _ ⟨?_, Rw_c (eA _ (by omega)) (by rw [eB _ (by omega)]) (eB _ (by omega)) (eB _ (by omega)) hw, Rq_c (eA _ (by omega)) (eA _ (by omega)) (eA _ (by omega)) (by rw [eB _ (by omega)]) (eB _ (by omega)) (eB _ (by omega)) (eB _ (by omega)) hq, Rh_c (eA _ (by omega)) (eB _ (by omega)) hH⟩ (eA _ (by omega)) (eA _ (by omega))
    unfold dr
    rw [zR_cm B (by omega : (13 : Nat) ≠ 14)]
    refine Eqs.rr ?_ 15 _ (by decide) (by decide)
    rw [e21]
    exact (E.r2 20 14 (by rw [E.c20]) (by decide) (by decide)).u2 21 13 _ _ (by decide) (by decide)
  · obtain ⟨p, p0, p4, p7, p10, p1, p2, p3, p5⟩ := fr_q w (by omega) hfr
    rw [tk_lo _ _ (by omega), p2] at hp
    simp only [Int.toNat_natCast] at hp
    have e1 := hq.1 i.toNat (by omega)
    rw [show ((i.toNat : Nat) : Int) = i by omega, p0] at e1
    unfold zp_CI_dropFromQueue
    refine ⟨by omega, fun v ev => ?_⟩
    rw [e1] at ev
    have a9 := w.a9 p; have a10 := w.a10 p
    have hwp := hw p p4
    have e14 : ∀ q, zU A 14 p (A 14 p - 1) 14 q = if q = p then A 14 p - 1 else A 14 q := fun q => by rw [zU_e]; simp
    have e10 : ∀ q, zU B 10 p (B 10 p + 1) 10 q = if q = p then B 10 p + 1 else B 10 q := fun q => by rw [zU_e]; simp
    have eB : ∀ k, k ≠ 10 → zU B 10 p (B 10 p + 1) k = B k := fun k hk => zU_n _ _ hk
    have Rw' : ∀ A' : AA, A' 14 = zU A 14 p (A 14 p - 1) 14 → Rw A' (zU B 10 p (B 10 p + 1)) := fun A' e q hq => by
      rw [eB 0 (by omega)] at hq
      rw [e, e14, e10, eB 9 (by omega)]
      by_cases eq : q = p
      · subst eq; rw [if_pos rfl, if_pos rfl]; omega
      · rw [if_neg eq, if_neg eq]; exact hw q hq
    have nx' : ∀ A' : AA, A' 19 = A 19 → ∀ q : Nat, (q : Int) < zU B 10 p (B 10 p + 1) 0 4 → zU B 10 p (B 10 p + 1) 10 q ≠ zU B 10 p (B 10 p + 1) 9 q → nx (zU B 10 p (B 10 p + 1)) q (A' 19 q) := fun A' e q hq4 hs => by
      rw [eB 0 (by omega)] at hq4; rw [e10, eB 9 (by omega)] at hs
      unfold nx; rw [e, eB 0 (by omega), eB 7 (by omega)]
      refine hq.2.1 q hq4 ?_
      by_cases eq : q = p
      · subst eq; omega
      · rw [if_neg eq] at hs; exact hs
    have qo : ∀ x : Int, x ≠ i → q0 (zU B 10 p (B 10 p + 1)) x = q0 B x := fun x hx => q_same (by rw [eB 0 (by omega)]) (eB _ (by omega)) (eB _ (by omega)) (fun q h7 => by
      rw [e10, if_neg]; intro z; subst z; exact hx (by rw [← h7, p7]))
    have la' : ∀ x (v : Int), la B x v → la (zU B 10 p (B 10 p + 1)) x v := fun x v hl => by
      unfold la at *; rw [eB 0 (by omega), eB 7 (by omega)]; exact hl
    subst ev
    simp only [Int.toNat_natCast]
    refine ⟨by omega, fun _ => ⟨by omega, by omega, ?_⟩, fun z => by omega⟩
    rintro _ rfl
    rw [e14, if_pos rfl]
    refine ⟨by omega, by omega, fun g1 => ?_, fun g1 => ⟨by omega, by omega, ?_⟩⟩
    · have eA : ∀ k, k ≠ 14 → zU A 14 p (A 14 p - 1) k = A k := fun k hk => zU_n _ _ hk
      refine hp _ ⟨(E.cl 14 _ _ (by decide) (by decide)).cr 10 _ _ (by decide) (by decide), Rw' _ rfl, ⟨fun j hj => ?_, nx' _ (eA _ (by omega)), fun j hj hne => ?_, fun q h4 h400 => by rw [eA _ (by omega)]; rw [eB _ (by omega)] at h4; exact hq.2.2.2 q h4 h400⟩, Rh_c (eA _ (by omega)) (eB _ (by omega)) hH⟩ (eA _ (by omega)) (eA _ (by omega))
      · rw [eA _ (by omega), hq.1 j hj]
        by_cases ej : (j : Int) = i
        · rw [ej, p0]
          exact (q_stay w (by rw [eB 0 (by omega)]) (eB _ (by omega)) (eB _ (by omega)) p0 (fun q hq => by rw [e10, if_neg hq]) (by rw [e10, if_pos rfl]; omega)).symm
        · exact (qo _ ej).symm
      · rw [eA _ (by omega)] at hne; rw [eA _ (by omega)]
        exact la' _ _ (hq.2.2.1 j hj hne)
    · rintro _ rfl
      have eA : ∀ k, k ≠ 14 ∧ k ≠ 17 → zU (zU A 14 p (A 14 p - 1)) 17 i.toNat (zU A 14 p (A 14 p - 1) 19 p) k = A k := fun k hk => by rw [zU_n _ _ hk.2, zU_n _ _ hk.1]
      have e19 : zU A 14 p (A 14 p - 1) 19 p = A 19 p := by rw [zU_n _ _ (by omega)]
      have e17 : ∀ j, zU (zU A 14 p (A 14 p - 1)) 17 i.toNat (zU A 14 p (A 14 p - 1) 19 p) 17 j = if j = i.toNat then A 19 p else A 17 j := fun j => by
        rw [zU_e, e19, zU_n _ _ (by omega)]; simp
      refine hp _ ⟨((E.cl 14 _ _ (by decide) (by decide)).cl 17 _ _ (by decide) (by decide)).cr 10 _ _ (by decide) (by decide), Rw' _ (by rw [zU_n _ _ (by omega)]), ⟨fun j hj => ?_, nx' _ (eA _ (by omega)), fun j hj hne => ?_, fun q h4 h400 => by rw [eA _ (by omega)]; rw [eB _ (by omega)] at h4; exact hq.2.2.2 q h4 h400⟩, Rh_c (eA _ (by omega)) (eB _ (by omega)) hH⟩ (eA _ (by omega)) (eA _ (by omega))
      · rw [e17]
        by_cases ej : j = i.toNat
        · rw [if_pos ej, show ((j : Nat) : Int) = i by omega]
          exact (q_next w hP p0 (hq.2.1 p p4 (by omega)) (by omega)).symm
        · rw [if_neg ej, hq.1 j hj]
          exact (qo _ (by omega)).symm
      · rw [e17] at hne; rw [eA _ (by omega)]
        refine la' _ _ (hq.2.2.1 j hj ?_)
        by_cases ej : j = i.toNat
        · rw [ej, e1]; omega
        · rw [if_neg ej] at hne; exact hne
theorem iv_5 {B : AA} (h : iv B) {c l : Nat} (hc : isC B c) (hl : l = c / 4) : iv (zU B 5 l ((c : Int) % 4)) := by
  obtain ⟨w, hL, hR, hP, hB, hH, hG⟩ := h
  have e : ∀ k, k ≠ 5 → zU B 5 l ((c : Int) % 4) k = B k := fun k hk => zU_n _ _ hk
  have e5 : ∀ j, zU B 5 l ((c : Int) % 4) 5 j = if j = l then (c : Int) % 4 else B 5 j := fun j => by rw [zU_e]; simp
  have e4 : ((c : Int) / 4).toNat = l := by omega
  refine ⟨?_, ?_, iR_c (by rw [e _ (by omega)]) (by rw [e _ (by omega)]) (e _ (by omega)) (e _ (by omega)) (e _ (by omega)) (e _ (by omega)) hR, iP_c (by rw [e _ (by omega)]) (by rw [e _ (by omega)]) (e _ (by omega)) (e _ (by omega)) (e _ (by omega)) (e _ (by omega)) (e _ (by omega)) hP, iB_c (by rw [e _ (by omega)]) (by rw [e _ (by omega)]) (by rw [e _ (by omega)]) (e _ (by omega)) (e _ (by omega)) (e _ (by omega)) (e _ (by omega)) (e _ (by omega)) hB, iH_c (by rw [e _ (by omega)]) (by rw [e _ (by omega)]) (by rw [e _ (by omega)]) (e _ (by omega)) (e _ (by omega)) (e _ (by omega)) (e _ (by omega)) (e _ (by omega)) hH, iG_c (by rw [e _ (by omega)]) (by rw [e _ (by omega)]) (e _ (by omega)) hG⟩
  · obtain ⟨w1, w2, w3, w4, w5, w6, w7, w8⟩ := w
    unfold wf
    simp only [e 0 (by omega), e 1 (by omega), e 2 (by omega), e 3 (by omega), e 4 (by omega), e 6 (by omega), e 7 (by omega), e 8 (by omega), e 9 (by omega), e 10 (by omega), e 13 (by omega), e 14 (by omega), e 15 (by omega), e 17 (by omega)]
    refine ⟨w1, w2, w3, w4, fun j => ⟨(w5 j).1, (w5 j).2.1, (w5 j).2.2.1, (w5 j).2.2.2.1, ?_⟩, w6, w7, w8⟩
    rw [e5]; split
    · omega
    · exact (w5 j).2.2.2.2
  · unfold iL
    rw [e 0 (by omega), e 1 (by omega), e 2 (by omega), e 3 (by omega)]
    unfold isC at hc
    rw [e4] at hc
    refine ⟨fun j hj => ⟨(hL.1 j hj).1, (hL.1 j hj).2.1, (hL.1 j hj).2.2.1, (hL.1 j hj).2.2.2.1, ?_⟩, fun j h1 h2 => ?_⟩
    · rw [e5]; split
      · subst_vars; omega
      · exact (hL.1 j hj).2.2.2.2
    · rw [e5, if_neg (by omega)]; exact hL.2 j h1 h2
theorem tk_5 (B : AA) (l : Nat) (v i f : Int) : tk (zU B 5 l v) i f = zU (tk B i f) 5 l v := by
  by_cases g : i < 16
  · rw [tk_lo _ _ g, tk_lo _ _ g, zU_n _ _ (by omega), zU_cm _ (by omega)]
  · rw [tk_hi _ _ (by omega), tk_hi _ _ (by omega)]
    unfold dr
    rw [zU_n (k := 5) _ _ (by omega), zU_n (k := 5) _ _ (by omega), zU_n (k := 5) _ _ (by omega), zU_cm _ (by omega), zR_cm _ (by omega), zR_cm _ (by omega)]
theorem pt_5 (B : AA) (l : Nat) (v : Int) (c : Nat) (f : Int) : pt (zU B 5 l v) c f = zU (pt B c f) 5 l v := by
  unfold pt
  rw [zU_n (k := 5) _ _ (by omega), zU_n (k := 5) _ _ (by omega), zU_cm _ (by omega : (5 : Nat) ≠ 14), zU_cm _ (by omega : (5 : Nat) ≠ 15), zU_cm _ (by omega : (5 : Nat) ≠ 13)]
theorem ms_5 (B : AA) (c l : Nat) : ms3 B c l = zU (zU (zU B 5 l ((c : Int) % 4)) 16 c (B 16 c + 1)) 0 6 (B 0 6 + 1) := by
  unfold ms3
  rw [zU_cm _ (by omega : (16 : Nat) ≠ 5), zU_cm _ (by omega : (0 : Nat) ≠ 5), zU_cm _ (by omega : (0 : Nat) ≠ 16)]
theorem c_tail {A B : AA} (E : Eqs A B) (w : wf B) {f : Int} (f0 : 0 ≤ f ∧ f < 6400) {post : Int → Prop} (h1 : tl B f → post 1) (hn : ¬ tl B f → post 0) : zp_CK_isTail A f post := by
  have a9 := w.a9 (f / 16).toNat
  unfold zp_CK_isTail
  rw [E.c13]
  exact ⟨by omega, by omega, by omega, by omega, by omega, hn, h1⟩
theorem c_moveInto {A B : AA} (h : iv B) (hr : Rel A B) (hf : Rf A B) {l c : Nat} (hcm : cm B c) (hl : l = c / 4) {post : AA → Prop} (hp : ∀ A', Rel A' (mo1 B l c) → Rf A' (mo1 B l c) → post A') : zp_CT_moveInto (zU A 27 l ((c : Int) % 4)) c post := by
  obtain ⟨c0, c1, c2, c3, c4, c5, c6, c7⟩ := cm_ok h hcm
  have hfo := fr_ok h c2 c3 c4
  have h1 := iv_5 h hcm.1 hl
  have eB1 : ∀ k, k ≠ 5 → zU B 5 l ((c : Int) % 4) k = B k := fun k hk => zU_n _ _ hk
  have eA1 : ∀ k, k ≠ 27 → zU A 27 l ((c : Int) % 4) k = A k := fun k hk => zU_n _ _ hk
  have ef : ∀ x, fr (zU B 5 l ((c : Int) % 4)) x = fr B x := fr_c (by rw [eB1 _ (by omega)]) (by rw [eB1 _ (by omega)]) (eB1 _ (by omega)) (eB1 _ (by omega)) (eB1 _ (by omega)) (eB1 _ (by omega)) (eB1 _ (by omega)) (eB1 _ (by omega))
  have hr1 : Rel (zU A 27 l ((c : Int) % 4)) (zU B 5 l ((c : Int) % 4)) := by
    obtain ⟨E, hw, hq, hH⟩ := hr
    exact ⟨E.u2 27 5 _ _ (by decide) (by decide), Rw_c (eA1 _ (by omega)) (by rw [eB1 _ (by omega)]) (eB1 _ (by omega)) (eB1 _ (by omega)) hw, Rq_c (eA1 _ (by omega)) (eA1 _ (by omega)) (eA1 _ (by omega)) (by rw [eB1 _ (by omega)]) (eB1 _ (by omega)) (eB1 _ (by omega)) (eB1 _ (by omega)) hq, Rh_c (eA1 _ (by omega)) (eB1 _ (by omega)) hH⟩
  have hf1 : Rf (zU A 27 l ((c : Int) % 4)) (zU B 5 l ((c : Int) % 4)) := Rf_c (eA1 _ (by omega)) (by rw [eB1 _ (by omega)]) (eB1 _ (by omega)) (eB1 _ (by omega)) hf
  have em : mo1 B l c = rl (zU (zU (pt (tk (zU B 5 l ((c : Int) % 4)) (B 17 c) (fr B (B 17 c))) c (fr B (B 17 c))) 16 c (B 16 c + 1)) 0 6 (B 0 6 + 1)) c (fr B (B 17 c)) := by
    unfold mo1
    rw [ms_5, tk_5, pt_5, pt_r _ _ _ (by omega), pt_r _ _ _ (by omega), tk_r _ _ _ (by omega), tk_r _ _ _ (by omega)]
  have h24 := hr1.1.c24
  unfold zp_CT_moveInto
  refine ⟨by omega, fun v ev => ?_⟩
  rw [h24, eB1 17 (by omega)] at ev
  simp only [Int.toNat_natCast] at ev
  subst ev
  have fg := fr_rg h.1 (B 17 c)
  refine ⟨by omega, fun _ => ?_, fun z => by omega⟩
  refine c_frontOf h1 hr1 hf1 c2 c3 ?_
  rw [ef]
  refine ⟨by omega, fun _ => ?_, fun z => by omega⟩
  refine c_drop h1.1 h1.2.2.2.1 hr1 c2 c3 (by rw [ef]; exact c4) (fun A2 hr2 e22 e23 => ?_)
  have hf2 := Rf_tk h1.1 hf1 e22 c2 c3 (by rw [ef]; exact c4)
  have w2 := (iv_tk h1 c2 c3 (by rw [ef]; exact c4)).1
  have b2 := fun k hk => tk_r (zU B 5 l ((c : Int) % 4)) (B 17 c) (fr (zU B 5 l ((c : Int) % 4)) (B 17 c)) (k := k) hk
  have b13 : tk (zU B 5 l ((c : Int) % 4)) (B 17 c) (fr (zU B 5 l ((c : Int) % 4)) (B 17 c)) 13 c = B 13 c := by
    rw [tk13, if_neg (fun z => (c7 z.1).1 z.2.symm), eB1 _ (by omega)]
  rw [ef] at hr2 hf2 w2 b2 b13
  generalize hB2 : tk (zU B 5 l ((c : Int) % 4)) (B 17 c) (fr B (B 17 c)) = B2 at *
  have b2k : ∀ k, k ≠ 5 ∧ k ≠ 10 ∧ k ≠ 13 ∧ k ≠ 14 ∧ k ≠ 15 → B2 k = B k := fun k hk => by rw [b2 k (by omega), eB1 _ (by omega)]
  generalize hff : fr B (B 17 c) = f at *
  obtain ⟨E, hw, hq, hH⟩ := hr2
  have e21 := E.c21
  have x21 : A2 21 c = B 13 c := by rw [e21, b13]
  unfold zp_CI_put
  simp only [Int.toNat_natCast]
  refine ⟨by omega, by omega, ?_⟩
  rintro _ rfl
  refine ⟨by omega, by omega, ?_⟩
  rintro _ rfl
  refine ⟨by omega, by omega, ?_⟩
  rintro _ rfl
  have y21 : zU A2 20 ((c : Int) * 4 + A2 21 c).toNat f 21 c = A2 21 c := by rw [zU_n _ _ (by omega)]
  have y22 : zU (zU A2 20 ((c : Int) * 4 + A2 21 c).toNat f) 21 c (A2 21 c + 1) 22 c = A2 22 c := by rw [zU_n _ _ (by omega), zU_n _ _ (by omega)]
  rw [y21, y22]
  refine ⟨by omega, by omega, ?_⟩
  rintro _ rfl
  rintro _ rfl
  -- the state now
  have z26 : zU (zU (zU A2 20 ((c : Int) * 4 + A2 21 c).toNat f) 21 c (A2 21 c + 1)) 22 c (A2 22 c + 1) 26 c = B 16 c := by
    rw [zU_n _ _ (by omega), zU_n _ _ (by omega), zU_n _ _ (by omega), E.c26, b2k _ (by omega)]
  rw [z26]
  have z49 : zU (zU (zU (zU A2 20 ((c : Int) * 4 + A2 21 c).toNat f) 21 c (A2 21 c + 1)) 22 c (A2 22 c + 1)) 26 c (B 16 c + 1) 4 9 = B 0 6 := by
    rw [zU_n _ _ (by omega), zU_n _ _ (by omega), zU_n _ _ (by omega), zU_n _ _ (by omega), E.s6, b2k _ (by omega)]
  rw [z49]
  have E3 : Eqs (zU (zU (zU (zU (zU A2 20 ((c : Int) * 4 + A2 21 c).toNat f) 21 c (A2 21 c + 1)) 22 c (A2 22 c + 1)) 26 c (B 16 c + 1)) 4 9 (B 0 6 + 1)) (zU (zU (pt B2 c f) 16 c (B 16 c + 1)) 0 6 (B 0 6 + 1)) := by
    unfold pt
    rw [x21, b13, show ((c : Int) * 4 + B 13 c).toNat = (4 * (c : Int) + B 13 c).toNat by omega]
    exact (((((E.u2 20 14 _ _ (by decide) (by decide)).cr 15 _ _ (by decide) (by decide)).u2 21 13 _ _ (by decide) (by decide)).cl 22 _ _ (by decide) (by decide)).u2 26 16 _ _ (by decide) (by decide)).us 4 9 0 6 _ (by decide) (by decide)
  have eA3 : ∀ k, k ≠ 20 ∧ k ≠ 21 ∧ k ≠ 22 ∧ k ≠ 26 ∧ k ≠ 4 → zU (zU (zU (zU (zU A2 20 ((c : Int) * 4 + A2 21 c).toNat f) 21 c (A2 21 c + 1)) 22 c (A2 22 c + 1)) 26 c (B 16 c + 1)) 4 9 (B 0 6 + 1) k = A2 k := fun k hk => by
    rw [zU_n _ _ (by omega), zU_n _ _ (by omega), zU_n _ _ (by omega), zU_n _ _ (by omega), zU_n _ _ (by omega)]
  have a22 : ∀ x, zU (zU (zU (zU (zU A2 20 ((c : Int) * 4 + A2 21 c).toNat f) 21 c (A2 21 c + 1)) 22 c (A2 22 c + 1)) 26 c (B 16 c + 1)) 4 9 (B 0 6 + 1) 22 x = if x = c then A2 22 c + 1 else A2 22 x := fun x => by
    rw [zU_n _ _ (by omega), zU_n _ _ (by omega), zU_e, zU_n _ _ (by omega), zU_n _ _ (by omega)]; simp
  have eB3 : ∀ k, k ≠ 13 ∧ k ≠ 14 ∧ k ≠ 15 ∧ k ≠ 16 ∧ k ≠ 0 → zU (zU (pt B2 c f) 16 c (B 16 c + 1)) 0 6 (B 0 6 + 1) k = B2 k := fun k hk => by
    rw [zU_n _ _ (by omega), zU_n _ _ (by omega), pt_r _ _ _ (by omega)]
  have e30 : ∀ j, j ≠ 6 → zU (zU (pt B2 c f) 16 c (B 16 c + 1)) 0 6 (B 0 6 + 1) 0 j = B2 0 j := fun j hj => by
    rw [zU_j _ _ hj, zU_n _ _ (by omega), pt_r _ _ _ (by omega)]
  have f13 : ∀ x, zU (zU (pt B2 c f) 16 c (B 16 c + 1)) 0 6 (B 0 6 + 1) 13 x = if x = c then B2 13 c + 1 else B2 13 x := fun x => by
    rw [zU_n _ _ (by omega), zU_n _ _ (by omega), pt13]
  have f15 : ∀ x k, k < 4 → zU (zU (pt B2 c f) 16 c (B 16 c + 1)) 0 6 (B 0 6 + 1) 15 (4 * x + k) = if x = c ∧ (k : Int) = B2 13 c then B2 0 5 else B2 15 (4 * x + k) := fun x k hk => by
    rw [zU_n _ _ (by omega), zU_n _ _ (by omega), pt15 _ _ _ (by omega) _ _ hk]
  have R3 : Rf (zU (zU (zU (zU (zU A2 20 ((c : Int) * 4 + A2 21 c).toNat f) 21 c (A2 21 c + 1)) 22 c (A2 22 c + 1)) 26 c (B 16 c + 1)) 4 9 (B 0 6 + 1)) (zU (zU (pt B2 c f) 16 c (B 16 c + 1)) 0 6 (B 0 6 + 1)) := by
    intro x hx
    obtain ⟨g1, g2, g3⟩ := hf2 x hx
    have w13 := w2.a13 x
    rw [a22, f13, e30 5 (by omega)]
    by_cases ex : x = c
    · subst ex
      rw [if_pos rfl, if_pos rfl]
      refine ⟨by omega, by omega, fun k hk => ?_⟩
      rw [f15 _ _ (by omega)]
      by_cases ek : (k : Int) = B2 13 x
      · rw [if_pos ⟨rfl, ek⟩]; exact ⟨fun _ => by omega, fun _ => rfl⟩
      · rw [if_neg (fun z => ek z.2), g3 k (by omega)]; omega
    · rw [if_neg ex, if_neg ex]
      refine ⟨g1, g2, fun k hk => ?_⟩
      rw [f15 _ _ (by omega), if_neg (fun z => ex z.1)]; exact g3 k hk
  have Rel3 : Rel (zU (zU (zU (zU (zU A2 20 ((c : Int) * 4 + A2 21 c).toNat f) 21 c (A2 21 c + 1)) 22 c (A2 22 c + 1)) 26 c (B 16 c + 1)) 4 9 (B 0 6 + 1)) (zU (zU (pt B2 c f) 16 c (B 16 c + 1)) 0 6 (B 0 6 + 1)) :=
    ⟨E3, Rw_c (eA3 _ (by omega)) (e30 _ (by omega)) (eB3 _ (by omega)) (eB3 _ (by omega)) hw, Rq_c (eA3 _ (by omega)) (eA3 _ (by omega)) (eA3 _ (by omega)) (e30 _ (by omega)) (eB3 _ (by omega)) (eB3 _ (by omega)) (eB3 _ (by omega)) hq, Rh_c (eA3 _ (by omega)) (eB3 _ (by omega)) hH⟩
  have t9 : zU (zU (pt B2 c f) 16 c (B 16 c + 1)) 0 6 (B 0 6 + 1) 9 = B 9 := by rw [eB3 _ (by omega), b2k _ (by omega)]
  have t17 : zU (zU (pt B2 c f) 16 c (B 16 c + 1)) 0 6 (B 0 6 + 1) 17 = B 17 := by rw [eB3 _ (by omega), b2k _ (by omega)]
  have tt : tl (zU (zU (pt B2 c f) 16 c (B 16 c + 1)) 0 6 (B 0 6 + 1)) f = tl B f := tl_c t9 f
  rw [em] at hp
  unfold rl at hp
  have hpp : (f % 16 = zU (zU (pt B2 c f) 16 c (B 16 c + 1)) 0 6 (B 0 6 + 1) 9 (f / 16).toNat - 1) = tl B f := tt
  rw [hpp] at hp
  have E3' := E3
  have E9 : ∀ post : Int → Prop, (tl B f → post 1) → (¬ tl B f → post 0) → zp_CK_isTail (zU (zU (zU (zU (zU A2 20 ((c : Int) * 4 + A2 21 c).toNat f) 21 c (A2 21 c + 1)) 22 c (A2 22 c + 1)) 26 c (B 16 c + 1)) 4 9 (B 0 6 + 1)) f post := fun post q1 q2 => by
    have a9 := h.1.a9 (f / 16).toNat
    have := hfo.2.2.2
    unfold zp_CK_isTail
    rw [E3.c13, t9]
    exact ⟨by omega, by omega, by omega, by omega, by omega, q2, q1⟩
  generalize zU (zU (zU (zU (zU A2 20 ((c : Int) * 4 + A2 21 c).toNat f) 21 c (A2 21 c + 1)) 22 c (A2 22 c + 1)) 26 c (B 16 c + 1)) 4 9 (B 0 6 + 1) = A3 at *
  generalize zU (zU (pt B2 c f) 16 c (B 16 c + 1)) 0 6 (B 0 6 + 1) = B3 at *
  refine E9 _ (fun t => ⟨by omega, fun z => by omega, fun _ => ⟨by omega, ?_⟩⟩) (fun t => ⟨by omega, fun _ => ?_, fun z => absurd rfl z⟩)
  · rintro _ rfl
    refine ⟨by omega, ?_⟩
    rintro _ rfl
    refine ⟨by omega, ?_⟩
    rintro _ rfl
    rw [cs_t t] at hp
    obtain ⟨E4, hw4, hq4, hH4⟩ := Rel3
    have eA : ∀ k, k ≠ 23 ∧ k ≠ 24 ∧ k ≠ 25 → zU (zU (zU A3 23 (B 17 c).toNat (-1)) 24 c (-1)) 25 c (-1) k = A3 k := fun k hk => by rw [zU_n _ _ hk.2.2, zU_n _ _ hk.2.1, zU_n _ _ hk.1]
    have eB : ∀ k, k ≠ 17 ∧ k ≠ 18 → zU (zU B3 17 c (-1)) 18 c (-1) k = B3 k := fun k hk => by rw [zU_n _ _ hk.2, zU_n _ _ hk.1]
    have s23 : ∀ j, zU (zU (zU A3 23 (B 17 c).toNat (-1)) 24 c (-1)) 25 c (-1) 23 j = if j = (B 17 c).toNat then -1 else A3 23 j := fun j => by rw [zU_n _ _ (by omega), zU_n _ _ (by omega), zU_e]; simp
    have s17 : ∀ j, zU (zU B3 17 c (-1)) 18 c (-1) 17 j = if j = c then -1 else B 17 j := fun j => by rw [zU_n _ _ (by omega), zU_e, t17]; simp
    refine hp _ ⟨((E4.cl 23 _ _ (by decide) (by decide)).u2 24 17 _ _ (by decide) (by decide)).u2 25 18 _ _ (by decide) (by decide), Rw_c (eA _ (by omega)) (by rw [eB _ (by omega)]) (eB _ (by omega)) (eB _ (by omega)) hw4, Rq_c (eA _ (by omega)) (eA _ (by omega)) (eA _ (by omega)) (by rw [eB _ (by omega)]) (eB _ (by omega)) (eB _ (by omega)) (eB _ (by omega)) hq4, ?_⟩ (Rf_c (eA _ (by omega)) (by rw [eB _ (by omega)]) (eB _ (by omega)) (eB _ (by omega)) R3)
    have hc23 := hH4.1 c c0 (by rw [t17]; exact c1)
    rw [t17] at hc23
    refine ⟨fun x hx hne => ?_, fun j hj hne => ?_⟩
    · rw [s17] at hne ⊢
      by_cases ex : x = c
      · rw [if_pos ex] at hne; exact absurd rfl hne
      · rw [if_neg ex] at hne ⊢
        have a17 := h.1.a17 x
        have hx23 := hH4.1 x hx (by rw [t17]; exact hne)
        rw [t17] at hx23
        rw [s23, if_neg]
        · exact hx23
        · intro z; rw [z, hc23] at hx23; omega
    · rw [s23] at hne ⊢
      by_cases ej : j = (B 17 c).toNat
      · rw [if_pos ej] at hne; exact absurd rfl hne
      · rw [if_neg ej] at hne ⊢
        obtain ⟨a, b, d⟩ := hH4.2 j hj hne
        rw [t17] at d
        refine ⟨a, b, ?_⟩
        rw [s17, if_neg]
        · exact d
        · intro z; rw [z] at d; omega
  · rw [cs_f t] at hp
    exact hp _ Rel3 R3
