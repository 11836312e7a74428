/-! send, load -/
theorem c_add {A B : AA} (h : gd B) (hr : Rel A B) {a b f : Int} (hp4 : B 0 4 < 400) (ha : 0 ≤ a ∧ a < B 0 2) (hf : 1 ≤ f) {post : Int → AA → Prop} (hp : ∀ A', Rel A' (ad B a b f) → A' 22 = A 22 → post (B 0 4) A') : zp_CN_addPacket A a b f post := by
  obtain ⟨⟨w, hL, hR, hP, hB, hH, hG⟩, hW, hN⟩ := h
  obtain ⟨E, hw, hq, hRh⟩ := hr
  have pk := w.p; have n0 := w.n
  obtain ⟨p, ep⟩ : ∃ p : Nat, B 0 4 = p := ⟨(B 0 4).toNat, by omega⟩
  have hnew := hP.2.1 p (by omega)
  unfold zp_CN_addPacket zp_CK_add
  rw [E.s4]
  rintro v rfl
  have et : (B 0 4).toNat = p := by omega
  rw [et]
  refine ⟨by omega, ?_⟩
  rintro _ rfl
  refine ⟨by omega, ?_⟩
  rintro _ rfl
  refine ⟨by omega, ?_⟩
  rintro _ rfl
  rintro _ rfl
  have y20 : zU (zU (zU A 12 p b) 13 p f) 14 p f 2 0 = B 0 4 := by rw [zU_n _ _ (by omega), zU_n _ _ (by omega), zU_n _ _ (by omega), E.s4]
  rw [y20]
  have eA : ∀ k, k ≠ 12 ∧ k ≠ 13 ∧ k ≠ 14 ∧ k ≠ 2 → zU (zU (zU (zU A 12 p b) 13 p f) 14 p f) 2 0 (B 0 4 + 1) k = A k := fun k hk => by rw [zU_n _ _ (by omega), zU_n _ _ (by omega), zU_n _ _ (by omega), zU_n _ _ (by omega)]
  have e14 : ∀ q, zU (zU (zU (zU A 12 p b) 13 p f) 14 p f) 2 0 (B 0 4 + 1) 14 q = if q = p then f else A 14 q := fun q => by rw [zU_n _ _ (by omega), zU_e, zU_n _ _ (by omega), zU_n _ _ (by omega)]; simp
  have E1 : Eqs (zU (zU (zU (zU A 12 p b) 13 p f) 14 p f) 2 0 (B 0 4 + 1)) (ad B a b f) := by
    unfold ad
    rw [et]
    exact ((((E.cr 7 _ _ (by decide) (by decide)).u2 12 8 _ _ (by decide) (by decide)).u2 13 9 _ _ (by decide) (by decide)).cl 14 _ _ (by decide) (by decide)).us 2 0 0 4 _ (by decide) (by decide)
  have eB : ∀ k, k ≠ 0 ∧ k ≠ 7 ∧ k ≠ 8 ∧ k ≠ 9 → ad B a b f k = B k := fun k => ad_r B a b f
  have w1 : ∀ A' : AA, A' 14 = zU (zU (zU (zU A 12 p b) 13 p f) 14 p f) 2 0 (B 0 4 + 1) 14 → Rw A' (ad B a b f) := fun A' e q hq4 => by
    rw [ad_04] at hq4
    rw [e, e14, ad_9, eB 10 (by omega), et]
    by_cases eq : q = p
    · rw [if_pos eq, if_pos eq, eq, hnew.1]; omega
    · rw [if_neg eq, if_neg eq]; exact hw q (by omega)
  generalize hA1 : zU (zU (zU (zU A 12 p b) 13 p f) 14 p f) 2 0 (B 0 4 + 1) = A1 at *
  have e7 : ∀ j, ad B a b f 7 j = if j = p then a else B 7 j := fun j => by rw [ad_7, et]
  have i16 : a.toNat < 16 := by omega
  have q1 := hq.1 a.toNat i16
  have ea : ((a.toNat : Nat) : Int) = a := by omega
  rw [ea] at q1
  have hqa := fun i => ad_q w hP (a := a) (b := b) hf i
  rw [show B 0 4 = (p : Int) from ep] at hqa
  -- the packets before: what comes behind them
  have nx_other : ∀ q : Nat, (q : Int) < B 0 4 → ∀ v, nx B q v → B 7 q ≠ a → nx (ad B a b f) q v := fun q hq4 v hn hne => by
    rcases hn with ⟨z1, z2⟩ | ⟨r, z0, z1, z2, z3, z4⟩
    · left
      refine ⟨z1, fun r hr hr4 => ?_⟩
      rw [ad_04] at hr4
      rw [e7, e7, if_neg (c := q = p) (by omega)]
      by_cases er : r = p
      · rw [if_pos er]; exact fun z => hne z.symm
      · rw [if_neg er]; exact z2 r hr (by omega)
    · right
      refine ⟨r, z0, z1, by rw [ad_04]; omega, ?_, fun s hs hs2 => ?_⟩
      · rw [e7, e7, if_neg (by omega), if_neg (by omega)]; exact z3
      · rw [e7, e7, if_neg (by omega), if_neg (by omega)]; exact z4 s hs hs2
  have nx_some : ∀ q : Nat, (q : Int) < B 0 4 → ∀ v : Int, v ≠ -1 → nx B q v → nx (ad B a b f) q v := fun q hq4 v hv hn => by
    rcases hn with ⟨z1, z2⟩ | ⟨r, z0, z1, z2, z3, z4⟩
    · exact absurd z1 hv
    · right
      refine ⟨r, z0, z1, by rw [ad_04]; omega, ?_, fun s hs hs2 => ?_⟩
      · rw [e7, e7, if_neg (by omega), if_neg (by omega)]; exact z3
      · rw [e7, e7, if_neg (by omega), if_neg (by omega)]; exact z4 s hs hs2
  have nx_new : nx (ad B a b f) p (-1) := .inl ⟨rfl, fun r hr hr4 => by rw [ad_04] at hr4; omega⟩
  have la_other : ∀ (i : Nat) (v : Int), la B i v → (i : Int) ≠ a → la (ad B a b f) i v := fun i v hl hne => by
    obtain ⟨r, z0, z1, z2, z3⟩ := hl
    refine ⟨r, z0, by rw [ad_04]; omega, by rw [e7, if_neg (by omega)]; exact z2, fun s hs hs4 => ?_⟩
    rw [ad_04] at hs4
    rw [e7]
    by_cases es : s = p
    · rw [if_pos es]; exact fun z => hne z.symm
    · rw [if_neg es]; exact z3 s hs (by omega)
  have la_new : la (ad B a b f) a.toNat p := ⟨p, rfl, by rw [ad_04]; omega, by rw [e7, if_pos rfl, ea], fun s hs hs4 => by rw [ad_04] at hs4; omega⟩
  have a19 := eA 19 (by omega); have a17 := eA 17 (by omega); have a18 := eA 18 (by omega)
  unfold zp_CI_lineUp
  rw [a17, a18, q1]
  have rgq : -1 ≤ q0 B a ∧ q0 B a < 400 := by
    rcases qf_np w a with z | ⟨r, z, z4, -⟩ <;> omega
  refine ⟨by omega, fun v ev => ⟨by omega, by omega, fun g => ⟨by omega, ?_⟩, fun g => ?_⟩⟩
  rotate_left
  · have hla := hq.2.2.1 a.toNat i16 (by rw [q1]; exact g)
    obtain ⟨m, m0, m4, m7, mlast⟩ := id hla
    rw [ea] at m7 mlast
    rw [m0] at ev
    subst ev
    simp only [Int.toNat_natCast]
    refine ⟨by omega, fun _ => ⟨by omega, ?_⟩, fun z => by omega⟩
    rintro _ rfl
    refine ⟨by omega, ?_⟩
    rintro _ rfl
    have x : ∀ k, k ≠ 18 ∧ k ≠ 19 → zU (zU A1 19 m (B 0 4)) 18 a.toNat (B 0 4) k = A1 k := fun k hk => by rw [zU_n _ _ hk.1, zU_n _ _ hk.2]
    have x19 : ∀ j, zU (zU A1 19 m (B 0 4)) 18 a.toNat (B 0 4) 19 j = if j = m then B 0 4 else A 19 j := fun j => by rw [zU_n _ _ (by omega), zU_e, a19]; simp
    have x18 : ∀ j, zU (zU A1 19 m (B 0 4)) 18 a.toNat (B 0 4) 18 j = if j = a.toNat then B 0 4 else A 18 j := fun j => by rw [zU_e, zU_n _ _ (by omega), a18]; simp
    refine hp _ ⟨(E1.cl 19 _ _ (by decide) (by decide)).cl 18 _ _ (by decide) (by decide), w1 _ (x 14 (by omega)), ⟨fun i hi => ?_, fun q hq4 hs => ?_, fun i hi hne => ?_, fun q hq4 h400 => ?_⟩, Rh_c (by rw [x 23 (by omega), eA 23 (by omega)]) (eB 17 (by omega)) hRh⟩ (by rw [x 22 (by omega), eA 22 (by omega)])
    · rw [x 17 (by omega), a17, hq.1 i hi]
      by_cases z : q0 B i = -1
      · by_cases ei : a = i
        · exfalso; rw [← ei] at z; exact g z
        · rw [(hqa _).2.1 z ei, z]
      · rw [(hqa _).1 z]
    · rw [ad_04] at hq4
      rw [ad_9, eB 10 (by omega), et] at hs
      rw [x19]
      by_cases eq : q = p
      · rw [eq, if_neg (by omega), hq.2.2.2 p (by omega) (by omega)]; exact nx_new
      · rw [if_neg eq] at hs
        have hn := hq.2.1 q (by omega) hs
        by_cases em : q = m
        · rw [if_pos em]
          right
          refine ⟨p, ep, by omega, by rw [ad_04]; omega, ?_, fun s hs2 hs3 => ?_⟩
          · rw [e7, e7, if_pos rfl, if_neg eq, em, m7]
          · rw [e7, e7, if_neg (by omega), if_neg eq, em, m7]; exact mlast s (by omega) (by omega)
        · rw [if_neg em]
          by_cases e7q : B 7 q = a
          · refine nx_some q (by omega) _ (fun z => ?_) hn
            rcases hn with ⟨-, z2⟩ | ⟨r, z0, -⟩
            · -- then q would be the last
              by_cases lt : q < m
              · exact z2 m lt m4 (by rw [m7, e7q])
              · exact mlast q (by omega) (by omega) e7q
            · omega
          · exact nx_other q (by omega) _ hn e7q
    · rw [x 17 (by omega), a17] at hne
      rw [x18]
      by_cases ei : i = a.toNat
      · rw [if_pos ei, ei, ep]; exact la_new
      · rw [if_neg ei]; exact la_other i _ (hq.2.2.1 i hi hne) (by omega)
    · rw [ad_04] at hq4
      rw [x19, if_neg (by omega)]; exact hq.2.2.2 q (by omega) h400
  · rintro _ rfl
    refine ⟨by omega, ?_⟩
    rintro _ rfl
    have x : ∀ k, k ≠ 18 ∧ k ≠ 17 → zU (zU A1 17 a.toNat (B 0 4)) 18 a.toNat (B 0 4) k = A1 k := fun k hk => by rw [zU_n _ _ hk.1, zU_n _ _ hk.2]
    have x17 : ∀ j, zU (zU A1 17 a.toNat (B 0 4)) 18 a.toNat (B 0 4) 17 j = if j = a.toNat then B 0 4 else A 17 j := fun j => by rw [zU_n _ _ (by omega), zU_e, a17]; simp
    have x18 : ∀ j, zU (zU A1 17 a.toNat (B 0 4)) 18 a.toNat (B 0 4) 18 j = if j = a.toNat then B 0 4 else A 18 j := fun j => by rw [zU_e, zU_n _ _ (by omega), a18]; simp
    refine hp _ ⟨(E1.cl 17 _ _ (by decide) (by decide)).cl 18 _ _ (by decide) (by decide), w1 _ (x 14 (by omega)), ⟨fun i hi => ?_, fun q hq4 hs => ?_, fun i hi hne => ?_, fun q hq4 h400 => ?_⟩, Rh_c (by rw [x 23 (by omega), eA 23 (by omega)]) (eB 17 (by omega)) hRh⟩ (by rw [x 22 (by omega), eA 22 (by omega)])
    · rw [x17]
      by_cases ei : i = a.toNat
      · rw [if_pos ei, show ((i : Nat) : Int) = a by omega, (hqa _).2.2 g rfl, ep]
      · rw [if_neg ei, hq.1 i hi]
        by_cases z : q0 B i = -1
        · rw [(hqa _).2.1 z (by omega), z]
        · rw [(hqa _).1 z]
    · rw [ad_04] at hq4
      rw [ad_9, eB 10 (by omega), et] at hs
      rw [x 19 (by omega), a19]
      by_cases eq : q = p
      · rw [eq, hq.2.2.2 p (by omega) (by omega)]; exact nx_new
      · rw [if_neg eq] at hs
        refine nx_other q (by omega) _ (hq.2.1 q (by omega) hs) (fun e7q => ?_)
        exact hs (qf_no _ _ g q (by omega) (by omega) e7q)
    · rw [x17] at hne
      rw [x18]
      by_cases ei : i = a.toNat
      · rw [if_pos ei, ei, ep]; exact la_new
      · rw [if_neg ei] at hne ⊢; exact la_other i _ (hq.2.2.1 i hi hne) (by omega)
    · rw [ad_04] at hq4
      rw [x 19 (by omega), a19]; exact hq.2.2.2 q (by omega) h400
theorem r_add {B : AA} {a b f : Int} (hp : 0 ≤ B 0 4 ∧ B 0 4 < 400) {post : Int → AA → Prop} (h : post (B 0 4) (ad B a b f)) : zp_M_add B a b f post := by
  unfold zp_M_add
  rintro v rfl
  refine ⟨by omega, ?_⟩
  rintro _ rfl
  refine ⟨by omega, ?_⟩
  rintro _ rfl
  refine ⟨by omega, ?_⟩
  rintro _ rfl
  rintro _ rfl
  have y : zU (zU (zU B 7 (B 0 4).toNat a) 8 (B 0 4).toNat b) 9 (B 0 4).toNat f 0 4 = B 0 4 := by rw [zU_n _ _ (by omega), zU_n _ _ (by omega), zU_n _ _ (by omega)]
  rw [y]; exact h
def oks (B : AA) (a b f : Int) : Prop := 0 ≤ a ∧ a < B 0 2 ∧ 0 ≤ b ∧ b < B 0 2 ∧ 1 ≤ f ∧ f ≤ 16
theorem r_send {B : AA} (h : wf B) {a b f : Int} (ha : rg a) (hb : rg b) (hf : rg f) {post : Int → AA → Prop} (h1 : ¬ oks B a b f → post 0 (zU (zU B 0 0 0) 0 0 1)) (h2 : oks B a b f → B 0 4 = 400 → post 0 (zU (zU B 0 0 0) 0 0 2)) (h3 : oks B a b f → B 0 4 < 400 → post (B 0 4) (ad (zU B 0 0 0) a b f)) : zp_M_send B a b f post := by
  unfold zp_M_send
  rintro _ rfl
  have w0 := wf_00 h 0
  have p0 := h.p
  have x2 : zU B 0 0 0 0 2 = B 0 2 := zU_j _ _ (by omega)
  have x4 : zU B 0 0 0 0 4 = B 0 4 := zU_j _ _ (by omega)
  have bad : ¬ oks B a b f → zp_M_wrong (zU B 0 0 0) 1 (fun r S => post r S) := fun q => by rintro _ rfl; exact h1 q
  unfold oks at *
  refine r_isNode w0 ha (fun a1 a2 => ⟨by omega, fun z => by omega, fun _ => ?_⟩) (fun q => ⟨by omega, fun _ => bad (by omega), fun z => absurd rfl z⟩)
  refine r_isNode w0 hb (fun b1 b2 => ⟨by omega, fun z => by omega, fun _ => ?_⟩) (fun q => ⟨by omega, fun _ => bad (by omega), fun z => absurd rfl z⟩)
  refine r_within hf (by omega) (by omega) (fun w1 w2 => ⟨by omega, fun _ => ?_, fun z => by omega⟩) (fun q => ⟨by omega, fun z => absurd rfl z, fun _ => bad (by omega)⟩)
  rw [x4]
  refine ⟨by omega, fun g => ?_, fun g => ?_⟩
  · refine r_add (by rw [x4]; omega) ?_
    rw [x4]; exact h3 (by omega) (by omega)
  · rintro _ rfl
    exact h2 (by omega) g
theorem RO_ad {A A' B : AA} (h22 : ∀ c : Nat, c < 160 → A 22 c = 0) (h : Rel A' B) (e : A' 22 = A 22) : RO A' B := ⟨h, fun c hc => by rw [e]; exact h22 c hc⟩
theorem op_send {n : Nat} {A B : AA} (h : RR n A B) {a b f : Int} (ha : rg a) (hb : rg b) (hf : rg f) : zp_CN_send A a b f (fun r S => zp_M_send B a b f (fun t T => T 0 0 = 0 ∧ r = t ∧ RR (n + 1) S T)) (fun E S => (E = "java/lang/IllegalArgumentException" ∧ zp_M_send B a b f (fun t T => T 0 0 = 1 ∧ RR (n + 1) S T)) ∨ (E = "java/lang/UnsupportedOperationException" ∧ zp_M_send B a b f (fun t T => T 0 0 = 2 ∧ RR (n + 1) S T))) := by
  obtain ⟨⟨hr, h22⟩, hg, h5⟩ := id h
  have w0 := hg.1.1
  have p0 := w0.p
  have E := hr.1
  have bad : ¬ oks B a b f → zp_M_send B a b f (fun t T => T 0 0 = 1 ∧ RR (n + 1) A T) := fun q =>
    r_send w0 ha hb hf (fun _ => ⟨x00 _ _, RR_x h 1⟩) (fun z => absurd z q) (fun z => absurd z q)
  unfold zp_CN_send
  refine c_hasNode E w0 ha (fun a1 a2 => ⟨by omega, fun z => by omega, fun _ => ?_⟩) (fun q => ⟨by omega, fun _ => .inl ⟨rfl, bad (fun z => q ⟨z.1, z.2.1⟩)⟩, fun z => absurd rfl z⟩)
  refine c_hasNode E w0 hb (fun b1 b2 => ⟨by omega, fun _ => ⟨hf, fun q => .inl ⟨rfl, bad (fun z => by unfold oks at z; omega)⟩, fun q => ⟨hf, fun q2 => ?_, fun q2 => .inl ⟨rfl, bad (fun z => by unfold oks at z; omega)⟩⟩⟩, fun z => by omega⟩) (fun q => ⟨by omega, fun z => absurd rfl z, fun _ => .inl ⟨rfl, bad (fun z => by unfold oks at z; omega)⟩⟩)
  rw [E.s4]
  have ok : oks B a b f := ⟨a1, a2, b1, b2, by omega, by omega⟩
  refine ⟨by omega, fun g => ?_, fun g => .inr ⟨rfl, ?_⟩⟩
  · have x2 : zU B 0 0 0 0 2 = B 0 2 := zU_j _ _ (by omega)
    have x4 : zU B 0 0 0 0 4 = B 0 4 := zU_j _ _ (by omega)
    have r0 := RO_same (same_00 B 0) (zU_j _ _ (by omega)) h.1
    have g0 := gd_same (same_00 B 0) hg
    refine c_add (B := zU B 0 0 0) (b := b) g0 r0.1 (by rw [x4]; omega) (by rw [x2]; omega) (by omega) (fun A' hA' e22 => ?_)
    rw [x4]
    refine r_send w0 ha hb hf (fun z => absurd ok z) (fun _ z => by omega) (fun _ _ => ⟨by rw [ad_0 _ _ _ _ (by omega), zU_s], rfl, RO_ad h22 hA' e22, gd_ad g0 (by rw [x4]; omega) (by rw [x2]; omega) (by rw [x2]; omega) (by omega), ?_⟩)
    rw [ad_0 _ _ _ _ (by omega), zU_j _ _ (by omega)]; omega
  · exact r_send w0 ha hb hf (fun z => absurd ok z) (fun _ _ => ⟨x00 _ _, RR_x h 2⟩) (fun _ z => by omega)
/-! load -/
def dw (B : AA) : AA := zU B 0 1 ((1103515245 * B 0 1 + 12345) % 2147483648)
theorem dw_same (B : AA) : same B (dw B) := ⟨fun k h1 _ => zU_n _ _ (by omega), fun j h1 _ => zU_j _ _ (by omega)⟩
theorem dw_1 (B : AA) : 0 ≤ dw B 0 1 ∧ dw B 0 1 < 2147483648 := by
  have : dw B 0 1 = (1103515245 * B 0 1 + 12345) % 2147483648 := zU_s _ _ _ _
  rw [this]; omega
def ld1 (B : AA) : AA := ad (dw (dw (dw B))) (dw B 0 1 / 65536 % B 0 2) (dw (dw B) 0 1 / 65536 % B 0 2) (1 + dw (dw (dw B)) 0 1 / 65536 % 8)
def ld : Nat → AA → AA
  | 0, B => B
  | n + 1, B => ld1 (ld n B)
theorem dw3_same (B : AA) : same B (dw (dw (dw B))) := same_t (same_t (dw_same B) (dw_same _)) (dw_same _)
theorem dw3_00 (B : AA) : dw (dw (dw B)) 0 0 = B 0 0 := by unfold dw; rw [zU_j _ _ (by omega), zU_j _ _ (by omega), zU_j _ _ (by omega)]
theorem gd_ld1 {B : AA} (h : gd B) (hp : B 0 4 < 400) (hn : 0 < B 0 2) : gd (ld1 B) ∧ ld1 B 0 4 = B 0 4 + 1 ∧ ld1 B 0 2 = B 0 2 ∧ ld1 B 0 5 = B 0 5 ∧ ld1 B 0 0 = B 0 0 := by
  have s := dw3_same B
  have g := gd_same s h
  have e4 := s.2 4 (by omega) (by omega); have e2 := s.2 2 (by omega) (by omega); have e5 := s.2 5 (by omega) (by omega)
  have m1 := Int.emod_nonneg (dw B 0 1 / 65536) (b := B 0 2) (by omega)
  have m2 := Int.emod_lt_of_pos (dw B 0 1 / 65536) hn
  have m3 := Int.emod_nonneg (dw (dw B) 0 1 / 65536) (b := B 0 2) (by omega)
  have m4 := Int.emod_lt_of_pos (dw (dw B) 0 1 / 65536) hn
  refine ⟨gd_ad g (by omega) (by omega) (by omega) (by omega), ?_, ?_, ?_, ?_⟩
  · unfold ld1; rw [ad_04, e4]
  · unfold ld1; rw [ad_0 _ _ _ _ (by omega), e2]
  · unfold ld1; rw [ad_0 _ _ _ _ (by omega), e5]
  · unfold ld1; rw [ad_0 _ _ _ _ (by omega), dw3_00]
theorem gd_ld {B : AA} (h : gd B) (hn : 0 < B 0 2) : ∀ m : Nat, B 0 4 + m ≤ 400 → gd (ld m B) ∧ ld m B 0 4 = B 0 4 + m ∧ ld m B 0 2 = B 0 2 ∧ ld m B 0 5 = B 0 5 ∧ ld m B 0 0 = B 0 0 := by
  intro m
  induction m with
  | zero => intro _; exact ⟨h, by simp [ld], rfl, rfl, rfl⟩
  | succ m ih =>
    intro hm
    obtain ⟨a, b, c, d, e⟩ := ih (by omega)
    obtain ⟨a', b', c', d', e'⟩ := gd_ld1 a (by omega) (by omega)
    rw [ld]
    exact ⟨a', by rw [b', b]; omega, by rw [c', c], by rw [d', d], by rw [e', e]⟩
theorem r_draw {B : AA} {post : Int → AA → Prop} (h : post (dw B 0 1 / 65536) (dw B)) : zp_M_draw B post := by
  unfold zp_M_draw
  rintro _ rfl
  have := dw_1 B
  exact ⟨this, h⟩
theorem r_loadL {B : AA} (h : gd B) (hn : 0 < B 0 2) {m : Nat} (hm : B 0 4 + m ≤ 400) {ex : AA → Int → Prop} {post : Int → AA → Prop} (hex : ex (ld m B) m) : ∃ k, zl_M_load_54 m ex post k B 0 := by
  refine sq2 (zl_M_load_54 m ex post) (fun j => ld j B) m (fun k => ?_) (fun j hj k hk => ?_)
  · have := h.1.1.p
    exact ⟨by omega, by omega, fun _ => hex, fun g => by omega⟩
  · obtain ⟨a, b, c, d, e⟩ := gd_ld h hn j (by omega)
    have p0 := h.1.1.p; have n0 := h.1.1.n
    rw [ld] at hk
    generalize ld j B = X at *
    refine ⟨by omega, by omega, fun g => by omega, fun _ => ?_⟩
    have d1 := dw_1 X; have d2 := dw_1 (dw X); have d3 := dw_1 (dw (dw X))
    have s1 := (dw_same X).2 2 (by omega) (by omega)
    have s2 := (dw_same (dw X)).2 2 (by omega) (by omega)
    have s4 := (dw3_same X).2 4 (by omega) (by omega)
    refine r_draw ⟨by omega, by omega, fun v1 e1 => r_draw ⟨by omega, by omega, fun v2 e2 => r_draw ⟨by omega, r_add (by omega) ?_⟩⟩⟩
    rw [e1, e2, s2, s1]
    exact hk
theorem r_load {B : AA} (h : gd B) {m : Int} (hm : rg m) {post : Int → AA → Prop} (h1 : ¬ (1 ≤ m ∧ m ≤ 50) → post 0 (zU (zU B 0 0 0) 0 0 1)) (h2 : 1 ≤ m ∧ m ≤ 50 → B 0 2 = 0 → post 0 (zU (zU B 0 0 0) 0 0 2)) (h3 : 1 ≤ m ∧ m ≤ 50 → B 0 2 ≠ 0 → 400 < B 0 4 + m → post 0 (zU (zU B 0 0 0) 0 0 3)) (h4 : 1 ≤ m ∧ m ≤ 50 → B 0 2 ≠ 0 → B 0 4 + m ≤ 400 → post (B 0 4 + m - 1) (ld m.toNat (zU B 0 0 0))) : zp_M_load B m post := by
  unfold zp_M_load
  rintro _ rfl
  have p0 := h.1.1.p; have n0 := h.1.1.n
  have g0 := gd_same (same_00 B 0) h
  have x2 : zU B 0 0 0 0 2 = B 0 2 := zU_j _ _ (by omega)
  have x4 : zU B 0 0 0 0 4 = B 0 4 := zU_j _ _ (by omega)
  refine r_within hm (by omega) (by omega) (fun w1 w2 => ⟨by omega, fun _ => ?_, fun z => by omega⟩) (fun q => ⟨by omega, fun z => absurd rfl z, fun _ => by rintro _ rfl; exact h1 q⟩)
  rw [x2, x4]
  refine ⟨by omega, fun g => ⟨by omega, fun g2 => ?_, fun g2 => by rintro _ rfl; exact h3 ⟨w1, w2⟩ g (by omega)⟩, fun g => by rintro _ rfl; exact h2 ⟨w1, w2⟩ g⟩
  have em : m = ((m.toNat : Nat) : Int) := by omega
  obtain ⟨q1, q2, -⟩ := gd_ld g0 (by rw [x2]; omega) m.toNat (by rw [x4]; omega)
  rw [em]
  refine r_loadL g0 (by rw [x2]; omega) (by rw [x4]; omega) ?_
  unfold ze_M_load_103
  rw [q2, x4, ← em]
  exact h4 ⟨w1, w2⟩ g g2
theorem Rel_dw {A B : AA} (h : Rel A B) : Rel (zU A 0 5 ((1103515245 * A 0 5 + 12345) % 2147483648)) (dw B) := by
  rw [h.1.s1]
  exact Rel_c h (h.1.us 0 5 0 1 _ (by decide) (by decide)) (fun k hk => zU_n _ _ (by omega)) (fun k hk => zU_n _ _ (by omega)) (zU_j _ _ (by omega))
theorem c_draw {A B : AA} (h : Rel A B) {post : Int → AA → Prop} (hp : ∀ A', Rel A' (dw B) → A' 22 = A 22 → post (dw B 0 1 / 65536) A') : zp_CN_drawn A post := by
  unfold zp_CN_drawn
  rintro _ rfl
  have r := Rel_dw h
  have d := dw_1 B
  have e := r.1.s1
  rw [e]
  exact ⟨d, hp _ r (zU_n _ _ (by omega))⟩
theorem c_loadL {B : AA} (h : gd B) (hn : 0 < B 0 2) {m : Nat} (hm : B 0 4 + m ≤ 400) {ex : AA → Int → Prop} {post : Int → AA → Prop} {xp : String → AA → Prop} {A0 : AA} (hex : ∀ A', Rel A' (ld m B) → A' 22 = A0 22 → ex A' m) : ∀ (r j : Nat) (A : AA), j + r = m → Rel A (ld j B) → A 22 = A0 22 → zl_CN_load_68 m ex post xp (r + 1) A j := by
  intro r
  have p0 := h.1.1.p; have n0 := h.1.1.n
  induction r with
  | zero =>
    intro j A e hr e22
    have : j = m := by omega
    subst this
    exact ⟨by omega, by omega, fun _ => hex A hr e22, fun g => by omega⟩
  | succ r ih =>
    intro j A e hr e22
    obtain ⟨a, b, c, d, -⟩ := gd_ld h hn j (by omega)
    have nxt := fun A => ih (j + 1) A (by omega)
    rw [ld, show ((j + 1 : Nat) : Int) = (j : Int) + 1 by omega] at nxt
    generalize ld j B = X at *
    refine ⟨by omega, by omega, fun g => by omega, fun _ => ?_⟩
    have d1 := dw_1 X; have d2 := dw_1 (dw X); have d3 := dw_1 (dw (dw X))
    have s1 := (dw_same X).2 2 (by omega) (by omega)
    have s2 := (dw_same (dw X)).2 2 (by omega) (by omega)
    have s3 := (dw3_same X).2 2 (by omega) (by omega)
    have s4 := (dw3_same X).2 4 (by omega) (by omega)
    have m1 := Int.emod_nonneg (dw X 0 1 / 65536) (b := X 0 2) (by omega)
    have m2 := Int.emod_lt_of_pos (dw X 0 1 / 65536) (b := X 0 2) (by omega)
    refine c_draw hr (fun A1 r1 e1 => ?_)
    have t1 := r1.1.s2
    refine ⟨by omega, by omega, fun v1 ev1 => c_draw r1 (fun A2 r2 e2 => ?_)⟩
    have t2 := r2.1.s2
    refine ⟨by omega, by omega, fun v2 ev2 => c_draw r2 (fun A3 r3 e3 => ?_)⟩
    refine ⟨by omega, fun v3 ev3 => ?_⟩
    rw [t1, s1] at ev1; rw [t2, s2, s1] at ev2
    refine c_add (gd_same (dw3_same X) a) r3 (by omega) (by rw [ev1, s3]; exact ⟨m1, m2⟩) (by omega) (fun A4 r4 e4 => ?_)
    rw [ev1, ev2, ev3] at r4
    exact nxt A4 r4 (by rw [e4, e3, e2, e1, e22])
theorem op_load {n : Nat} {A B : AA} (h : RR n A B) {m : Int} (hm : rg m) : zp_CN_load A m (fun r S => zp_M_load B m (fun t T => T 0 0 = 0 ∧ r = t ∧ RR (n + 1) S T)) (fun E S => (E = "java/lang/IllegalArgumentException" ∧ zp_M_load B m (fun t T => T 0 0 = 1 ∧ RR (n + 1) S T)) ∨ (E = "java/lang/IllegalStateException" ∧ zp_M_load B m (fun t T => T 0 0 = 2 ∧ RR (n + 1) S T)) ∨ (E = "java/lang/UnsupportedOperationException" ∧ zp_M_load B m (fun t T => T 0 0 = 3 ∧ RR (n + 1) S T))) := by
  obtain ⟨⟨hr, h22⟩, hg, h5⟩ := id h
  have w0 := hg.1.1
  have p0 := w0.p; have n0 := w0.n
  have E := hr.1
  have bad : ¬ (1 ≤ m ∧ m ≤ 50) → zp_M_load B m (fun t T => T 0 0 = 1 ∧ RR (n + 1) A T) := fun q =>
    r_load hg hm (fun _ => ⟨x00 _ _, RR_x h 1⟩) (fun z => absurd z q) (fun z => absurd z q) (fun z => absurd z q)
  unfold zp_CN_load
  rw [E.s2, E.s4]
  refine ⟨hm, fun g => .inl ⟨rfl, bad (by omega)⟩, fun g => ⟨hm, fun g2 => ⟨by omega, fun g3 => ⟨by omega, fun g4 => ?_, fun g4 => .inr (.inr ⟨rfl, ?_⟩)⟩, fun g3 => .inr (.inl ⟨rfl, ?_⟩)⟩, fun g2 => .inl ⟨rfl, bad (by omega)⟩⟩⟩
  · have em : m = ((m.toNat : Nat) : Int) := by omega
    have x2 : zU B 0 0 0 0 2 = B 0 2 := zU_j _ _ (by omega)
    have x4 : zU B 0 0 0 0 4 = B 0 4 := zU_j _ _ (by omega)
    have r0 := RO_same (same_00 B 0) (zU_j _ _ (by omega)) h.1
    have g0 := gd_same (same_00 B 0) hg
    obtain ⟨q1, q2, q3, q4, q5⟩ := gd_ld g0 (by rw [x2]; omega) m.toNat (by rw [x4]; omega)
    refine ⟨m.toNat + 1, ?_⟩
    have := c_loadL (B := zU B 0 0 0) (A0 := A) g0 (by rw [x2]; omega) (m := m.toNat) (by rw [x4]; omega) (ex := fun B' y2 => ze_CN_load_127 B' (fun r S => zp_M_load B m (fun t T => T 0 0 = 0 ∧ r = t ∧ RR (n + 1) S T)) (fun E S => (E = "java/lang/IllegalArgumentException" ∧ zp_M_load B m (fun t T => T 0 0 = 1 ∧ RR (n + 1) S T)) ∨ (E = "java/lang/IllegalStateException" ∧ zp_M_load B m (fun t T => T 0 0 = 2 ∧ RR (n + 1) S T)) ∨ (E = "java/lang/UnsupportedOperationException" ∧ zp_M_load B m (fun t T => T 0 0 = 3 ∧ RR (n + 1) S T)))) (post := (fun r S => zp_M_load B m (fun t T => T 0 0 = 0 ∧ r = t ∧ RR (n + 1) S T))) (xp := (fun E S => (E = "java/lang/IllegalArgumentException" ∧ zp_M_load B m (fun t T => T 0 0 = 1 ∧ RR (n + 1) S T)) ∨ (E = "java/lang/IllegalStateException" ∧ zp_M_load B m (fun t T => T 0 0 = 2 ∧ RR (n + 1) S T)) ∨ (E = "java/lang/UnsupportedOperationException" ∧ zp_M_load B m (fun t T => T 0 0 = 3 ∧ RR (n + 1) S T)))) (fun A' hA' e22 => ?_) m.toNat 0 A (by omega) r0.1 rfl
    · rw [← em] at this; exact this
    · unfold ze_CN_load_127
      have t4 := hA'.1.s4
      rw [t4, q2, x4]
      refine r_load hg hm (fun z => by omega) (fun _ z => absurd z g3) (fun _ _ z => by omega) (fun _ _ _ => ⟨by rw [q5, zU_s], by omega, RO_ad h22 hA' e22, q1, ?_⟩)
      rw [q4, zU_j _ _ (by omega)]; omega
  · exact r_load hg hm (fun z => by omega) (fun _ z => absurd z g3) (fun _ _ _ => ⟨x00 _ _, RR_x h 3⟩) (fun _ _ z => by omega)
  · exact r_load hg hm (fun z => by omega) (fun _ _ => ⟨x00 _ _, RR_x h 2⟩) (fun _ z => absurd g3 z) (fun _ z => absurd g3 z)
