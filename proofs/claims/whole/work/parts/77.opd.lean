/-! packet, channel, run, stuck -/
theorem op_packet {n : Nat} {A B : AA} (h : RR n A B) {p x : Int} (hp : rg p) (hx : rg x) : zp_CN_packet A p x (fun r => zp_M_packet B p x (fun t T => T 0 0 = 0 ∧ r = t ∧ RR (n + 1) A T)) (fun E S => E = "java/lang/IndexOutOfBoundsException" ∧ zp_M_packet B p x (fun t T => T 0 0 = 1 ∧ RR (n + 1) S T)) := by
  obtain ⟨⟨hr, h22⟩, hg, h5⟩ := id h
  have w0 := hg.1.1
  have p0 := w0.p
  have E := hr.1
  have x4 : zU B 0 0 0 0 4 = B 0 4 := zU_j _ _ (by omega)
  have xk : ∀ k, k ≠ 0 → zU B 0 0 0 k = B k := fun k hk => zU_n _ _ hk
  have R1 : RR (n + 1) A (zU B 0 0 0) := RR_s (RR_0 h 0)
  have bad : ¬ ((0 ≤ p ∧ p < B 0 4) ∧ (0 ≤ x ∧ x ≤ 3)) → zp_M_packet B p x (fun t T => T 0 0 = 1 ∧ RR (n + 1) A T) := fun q => by
    unfold zp_M_packet
    rintro _ rfl
    rw [x4]
    refine r_within hp (by omega) (by omega) (fun a1 a2 => ⟨by omega, fun z => by omega, fun _ => ?_⟩) (fun _ => ⟨by omega, fun _ => by rintro _ rfl; exact ⟨x00 _ _, RR_x h 1⟩, fun z => absurd rfl z⟩)
    exact r_within hx (by omega) (by omega) (fun b1 b2 => by omega) (fun _ => ⟨by omega, fun z => absurd rfl z, fun _ => by rintro _ rfl; exact ⟨x00 _ _, RR_x h 1⟩⟩)
  have good : (0 ≤ p ∧ p < B 0 4) → (0 ≤ x ∧ x ≤ 3) → ∀ r : Int, (x = 0 → r = B 12 p.toNat) → (x = 1 → r = B 9 p.toNat - B 10 p.toNat) → (x = 2 → r = B 10 p.toNat - B 11 p.toNat) → (x = 3 → r = B 11 p.toNat) → zp_M_packet B p x (fun t T => T 0 0 = 0 ∧ r = t ∧ RR (n + 1) A T) := fun q1 q2 r r0 r1 r2 r3 => by
    unfold zp_M_packet
    rintro _ rfl
    rw [x4]
    refine r_within hp (by omega) (by omega) (fun a1 a2 => ⟨by omega, fun z => by omega, fun _ => ?_⟩) (fun z => by omega)
    refine r_within hx (by omega) (by omega) (fun b1 b2 => ⟨by omega, fun _ => ?_, fun z => by omega⟩) (fun z => by omega)
    unfold zp_M_flitsIn
    rw [xk 12 (by omega), xk 11 (by omega), xk 10 (by omega), xk 9 (by omega)]
    refine ⟨hx, fun g => ⟨hx, fun g1 => ⟨hx, fun g2 => ⟨by omega, zU_s _ _ _ _, r3 (by omega), R1⟩, fun g2 => ⟨by omega, by omega, zU_s _ _ _ _, r2 g2, R1⟩⟩, fun g1 => ⟨by omega, by omega, zU_s _ _ _ _, r1 g1, R1⟩⟩, fun g => ⟨by omega, zU_s _ _ _ _, r0 g, R1⟩⟩
  unfold zp_CN_packet
  rw [E.s4]
  refine ⟨hp, fun g => ⟨rfl, bad (by omega)⟩, fun g => ⟨hp, by omega, fun g1 => ⟨hx, fun e => ⟨by omega, ?_⟩, fun e => ⟨by omega, ?_⟩, fun e => ⟨by omega, by omega, by omega, ?_⟩, fun e => ⟨by omega, ?_⟩, fun e0 e1 e2 e3 => ⟨rfl, bad (by omega)⟩⟩, fun g1 => ⟨rfl, bad (by omega)⟩⟩⟩
  · rw [E.c16]; exact good (by omega) (by omega) _ (fun _ => rfl) (fun z => by omega) (fun z => by omega) (fun z => by omega)
  · have := hr.2.1 p.toNat (by omega)
    rw [this]; exact good (by omega) (by omega) _ (fun z => by omega) (fun _ => rfl) (fun z => by omega) (fun z => by omega)
  · have := hr.2.1 p.toNat (by omega)
    rw [this, E.c13, E.c15]; exact good (by omega) (by omega) _ (fun z => by omega) (fun z => by omega) (fun _ => by omega) (fun z => by omega)
  · rw [E.c15]; exact good (by omega) (by omega) _ (fun z => by omega) (fun z => by omega) (fun z => by omega) (fun _ => rfl)
theorem op_channel {n : Nat} {A B : AA} (h : RR n A B) {c x : Int} (hc : rg c) (hx : rg x) : zp_CN_channel A c x (fun r => zp_M_channel B c x (fun t T => T 0 0 = 0 ∧ r = t ∧ RR (n + 1) A T)) (fun E S => E = "java/lang/IndexOutOfBoundsException" ∧ zp_M_channel B c x (fun t T => T 0 0 = 1 ∧ RR (n + 1) S T)) := by
  obtain ⟨⟨hr, h22⟩, hg, h5⟩ := id h
  have w0 := hg.1.1
  have l0 := w0.l
  have E := hr.1
  have x3 : zU B 0 0 0 0 3 = B 0 3 := zU_j _ _ (by omega)
  have xk : ∀ k, k ≠ 0 → zU B 0 0 0 k = B k := fun k hk => zU_n _ _ hk
  have xc : isC (zU B 0 0 0) c ↔ isC B c := by unfold isC; rw [x3, xk 3 (by omega)]
  have R1 : RR (n + 1) A (zU B 0 0 0) := RR_s (RR_0 h 0)
  have bad : ¬ (isC B c ∧ (0 ≤ x ∧ x ≤ 3)) → zp_M_channel B c x (fun t T => T 0 0 = 1 ∧ RR (n + 1) A T) := fun q => by
    unfold zp_M_channel
    rintro _ rfl
    refine r_isChannel (wf_00 w0 0) hc (fun a1 => ⟨by omega, fun z => by omega, fun _ => ?_⟩) (fun _ => ⟨by omega, fun _ => by rintro _ rfl; exact ⟨x00 _ _, RR_x h 1⟩, fun z => absurd rfl z⟩)
    exact r_within hx (by omega) (by omega) (fun b1 b2 => absurd ⟨xc.mp a1, b1, b2⟩ q) (fun _ => ⟨by omega, fun z => absurd rfl z, fun _ => by rintro _ rfl; exact ⟨x00 _ _, RR_x h 1⟩⟩)
  have good : isC B c → (0 ≤ x ∧ x ≤ 3) → ∀ r : Int, (x = 0 → r = B 13 c.toNat) → (x = 1 → r = B 18 c.toNat) → (x = 2 → B 13 c.toNat = 0 → r = -1) → (x = 2 → B 13 c.toNat ≠ 0 → r = B 14 (4 * c).toNat / 16) → (x = 3 → r = B 16 c.toNat) → zp_M_channel B c x (fun t T => T 0 0 = 0 ∧ r = t ∧ RR (n + 1) A T) := fun q1 q2 r r0 r1 r2 r2' r3 => by
    have c1 := q1.lt w0
    unfold zp_M_channel
    rintro _ rfl
    refine r_isChannel (wf_00 w0 0) hc (fun a1 => ⟨by omega, fun z => by omega, fun _ => ?_⟩) (fun z => absurd (xc.mpr q1) z)
    refine r_within hx (by omega) (by omega) (fun b1 b2 => ⟨by omega, fun _ => ?_, fun z => by omega⟩) (fun z => by omega)
    rw [xk 16 (by omega), xk 18 (by omega), xk 13 (by omega), xk 14 (by omega)]
    have a13 := w0.a13 c.toNat; have a14 := w0.a14 (4 * c).toNat
    exact ⟨hx, fun g => ⟨hx, fun g1 => ⟨hx, fun g2 => ⟨by omega, zU_s _ _ _ _, r3 (by omega), R1⟩, fun g2 => ⟨by omega, zU_s _ _ _ _, r1 g2, R1⟩⟩, fun g1 => ⟨by omega, zU_s _ _ _ _, r0 g1, R1⟩⟩, fun g => ⟨by omega, by omega, fun z => ⟨by omega, by omega, zU_s _ _ _ _, r2' g z, R1⟩, fun z => ⟨zU_s _ _ _ _, r2 g z, R1⟩⟩⟩
  unfold zp_CN_channel
  refine c_hasChannel E w0 hc (fun q => ⟨by omega, fun _ => ?_, fun z => by omega⟩) (fun q => ⟨by omega, fun z => absurd rfl z, fun _ => ⟨rfl, bad (fun z => q z.1)⟩⟩)
  have c1 := q.lt w0
  have a13 := w0.a13 c.toNat; have a14 := w0.a14 (4 * c).toNat
  refine ⟨hx, fun e => ⟨by omega, ?_⟩, fun e => ⟨by omega, ?_⟩, fun e => ?_, fun e => ⟨by omega, ?_⟩, fun e0 e1 e2 e3 => ⟨rfl, bad (fun z => by omega)⟩⟩
  · rw [E.c21]; exact good q (by omega) _ (fun _ => rfl) (fun z => by omega) (fun z => by omega) (fun z => by omega) (fun z => by omega)
  · rw [E.c25]; exact good q (by omega) _ (fun z => by omega) (fun _ => rfl) (fun z => by omega) (fun z => by omega) (fun z => by omega)
  · unfold zp_CI_frontPacketIn zp_CK_packetOf
    rw [E.c21, E.c20, show (c * 4).toNat = (4 * c).toNat by omega]
    refine ⟨by omega, by omega, fun g => ?_, fun g => ⟨by omega, by omega, ?_⟩⟩
    · exact good q (by omega) _ (fun z => by omega) (fun z => by omega) (fun _ _ => rfl) (fun _ z => by omega) (fun z => by omega)
    · exact good q (by omega) _ (fun z => by omega) (fun z => by omega) (fun _ z => by omega) (fun _ _ => rfl) (fun z => by omega)
  · rw [E.c26]; exact good q (by omega) _ (fun z => by omega) (fun z => by omega) (fun z => by omega) (fun z => by omega) (fun _ => rfl)
theorem r_run {B : AA} (h : gd B) {m : Int} (hm : rg m) {post : Int → AA → Prop} (h1 : ¬ (1 ≤ m ∧ m ≤ 2000) → post 0 (zU (zU B 0 0 0) 0 0 1)) (h2 : 1 ≤ m ∧ m ≤ 2000 → B 0 5 + m ≤ 2000000 ∧ post (it m.toNat (zU B 0 0 0) 0 8 - B 0 8) (it m.toNat (zU B 0 0 0))) : zp_M_run B m post := by
  unfold zp_M_run
  rintro _ rfl
  have g0 := gd_same (same_00 B 0) h
  have x8 : zU B 0 0 0 0 8 = B 0 8 := zU_j _ _ (by omega)
  have x5 : zU B 0 0 0 0 5 = B 0 5 := zU_j _ _ (by omega)
  refine r_within hm (by omega) (by omega) (fun w1 w2 => ⟨by omega, fun _ => ?_, fun z => by omega⟩) (fun q => ⟨by omega, fun z => absurd rfl z, fun _ => by rintro _ rfl; exact h1 q⟩)
  rintro v rfl
  obtain ⟨q1, q2⟩ := h2 ⟨w1, w2⟩
  have em : m = ((m.toNat : Nat) : Int) := by omega
  rw [em]
  refine r_run1 g0 (by rw [x5]; omega) (by omega) ?_
  unfold ze_M_run_64
  rw [x8]; exact q2
theorem it_00 (B : AA) : ∀ n, it n B 0 0 = B 0 0 := by
  intro n
  induction n with
  | zero => rfl
  | succ n ih => rw [it, st_0 _ (by omega), ih]
theorem op_run {n : Nat} (hn : n < 512) {A B : AA} (h : RR n A B) {m : Int} (hm : rg m) : zp_CN_run A m (fun r S => zp_M_run B m (fun t T => T 0 0 = 0 ∧ r = t ∧ RR (n + 1) S T)) (fun E S => E = "java/lang/IllegalArgumentException" ∧ zp_M_run B m (fun t T => T 0 0 = 1 ∧ RR (n + 1) S T)) := by
  obtain ⟨⟨hr, h22⟩, hg, h5⟩ := id h
  have E := hr.1
  have bad : ¬ (1 ≤ m ∧ m ≤ 2000) → zp_M_run B m (fun t T => T 0 0 = 1 ∧ RR (n + 1) A T) := fun q =>
    r_run hg hm (fun _ => ⟨x00 _ _, RR_x h 1⟩) (fun z => absurd z q)
  unfold zp_CN_run
  refine ⟨hm, fun g => ⟨rfl, bad (by omega)⟩, fun g => ⟨hm, fun g2 => ?_, fun g2 => ⟨rfl, bad (by omega)⟩⟩⟩
  rintro v rfl
  rw [E.s8]
  obtain ⟨k, rfl⟩ : ∃ k : Nat, m = (k : Int) := ⟨m.toNat, by omega⟩
  have x5 : zU B 0 0 0 0 5 = B 0 5 := zU_j _ _ (by omega)
  have r0 := RO_same (same_00 B 0) (zU_j _ _ (by omega)) h.1
  have g0 := gd_same (same_00 B 0) hg
  obtain ⟨q1, q2, q3⟩ := it_gd g0 k (by rw [x5]; omega)
  have fin : ∀ A' : AA, RO A' (it k (zU B 0 0 0)) → zp_M_run B k (fun t T => T 0 0 = 0 ∧ A' 2 1 - B 0 8 = t ∧ RR (n + 1) A' T) := fun A' hA' => by
    refine r_run hg hm (fun z => by omega) (fun _ => ⟨by omega, ?_, ?_, ?_⟩)
    · simp only [Int.toNat_natCast]; rw [it_00, zU_s]
    · simp only [Int.toNat_natCast]; rw [hA'.1.1.s8]
    · simp only [Int.toNat_natCast]; exact ⟨hA', q1, by rw [q2, x5]; omega⟩
  exact ⟨_, c_run1 (B := zU B 0 0 0) g0 (n := k) (by rw [x5]; omega) (by omega) (v := B 0 8) (fun A' y z hA' => fin A' hA') k 0 A (by omega) r0⟩
/-! stuck -/
theorem lane_eq (A : AA) (t l : Int) (ex : Int → Int → Prop) (post : Int → Prop) : ∀ k, zl_CT_laneToMove_9 (zU A 4 8 t) l ex post k = zl_CT_laneToMove_9 A l ex post k := by
  intro k
  induction k with
  | zero => rfl
  | succ k ih =>
    funext x y
    rw [zl_CT_laneToMove_9, zl_CT_laneToMove_9, ih]
    rfl
theorem lane_eq2 (A : AA) (t l : Int) (post : Int → Prop) : zp_CT_laneToMove (zU A 4 8 t) l post → zp_CT_laneToMove A l post := by
  unfold zp_CT_laneToMove
  rintro ⟨h1, h2⟩
  refine ⟨h1, fun v ev => ?_⟩
  obtain ⟨j, hj⟩ := h2 v (by rw [zU_n _ _ (by omega)]; exact ev)
  rw [lane_eq] at hj
  exact ⟨j, hj⟩
theorem c_restL {A B : AA} (h : iv B) {t : Int} (ht : B 0 5 < t) (h2 : t ≤ 2000000) (hr : RO A B) {ex post : Int → Prop} (hex : Qt (cyT B t) → ∀ y, ex y) (hno : ¬ Qt (cyT B t) → post 0) (ha : ∀ j : Nat, j < (16 + 4 * B 0 3).toNat → (∀ c, ¬ wt (cyT B t) j c) ∧ ¬ cl (cyT B t) j) : ∀ (n j : Nat), j + n = (B 0 3).toNat → (∀ j' : Nat, j' < j → mv (cyT B t) j' = -1) → zl_CT_isAtRest_41 A ex post (n + 1) j := by
  have e3 : cyT B t 0 3 = B 0 3 := cy_0 _ _ (by omega)
  have hl := h.1.l
  have s3 := hr.1.1.s3
  have iv1 := iv_cy h (t := t) (by omega) h2
  have rl1 : Rel (zU A 4 8 t) (cyT B t) := Rel_cy hr.1 t
  have rf1 : Rf (zU A 4 8 t) (cyT B t) := Rf_tck h hr.2 (zU_n _ _ (by omega)) ht
  intro n
  induction n with
  | zero =>
    intro j e hj
    refine ⟨by omega, by omega, fun _ => hex ⟨fun k hk => ?_, fun k hk => ?_, fun k hk => ?_⟩ _, fun g => by omega⟩
    · rw [e3] at hk; exact (ha k hk).1
    · rw [e3] at hk; exact hj k (by omega)
    · rw [e3] at hk; exact (ha k hk).2
  | succ n ih =>
    intro j e hj
    refine ⟨by omega, by omega, fun g => by omega, fun _ => ?_⟩
    have key : ∀ post, zp_CT_laneToMove (zU A 4 8 t) j post → zp_CT_laneToMove A j post := fun post q => lane_eq2 A t j post q
    refine key _ (c_lane iv1 rl1 rf1 (by rw [e3]; omega) (fun q => ⟨by omega, fun _ => ?_, fun z => absurd rfl z⟩) (fun r r0 r4 er => ⟨by omega, fun z => by omega, fun _ => hno (fun z => ?_)⟩))
    · have := ih (j + 1) (by omega) (fun j' hj' => by
        by_cases ej : j' = j
        · rw [ej]; exact q
        · exact hj j' (by omega))
      simpa using this
    · have := z.2.1 j (by rw [e3]; omega); omega
theorem c_restI {A B : AA} (h : iv B) {t : Int} (ht : B 0 5 < t) (h2 : t ≤ 2000000) (hr : RO A B) {post : Int → Prop} (hyes : Qt (cyT B t) → post 1) (hno : ¬ Qt (cyT B t) → post 0) : ∀ (n j : Nat), j + n = (16 + 4 * B 0 3).toNat → (∀ j' : Nat, j' < j → (∀ c, ¬ wt (cyT B t) j' c) ∧ ¬ cl (cyT B t) j') → zl_CT_isAtRest_2 A (fun y1 => ze_CT_isAtRest_39 A post) post (n + 1) j := by
  have e3 : cyT B t 0 3 = B 0 3 := cy_0 _ _ (by omega)
  have hl := h.1.l
  have s3 := hr.1.1.s3
  have iv1 := iv_cy h (t := t) (by omega) h2
  have rl1 : Rel (zU A 4 8 t) (cyT B t) := Rel_cy hr.1 t
  have rf1 : Rf (zU A 4 8 t) (cyT B t) := Rf_tck h hr.2 (zU_n _ _ (by omega)) ht
  intro n
  induction n with
  | zero =>
    intro j e hj
    refine ⟨by omega, by omega, fun _ => ⟨_, c_restL h ht h2 hr (fun q y => hyes q) hno (fun k hk => hj k (by omega)) (B 0 3).toNat 0 (by omega) (fun _ z => by omega)⟩, fun g => by omega⟩
  | succ n ih =>
    intro j e hj
    refine ⟨by omega, by omega, fun g => by omega, fun _ => ?_⟩
    have key : ∀ post, zp_CT_channelToGet (zU A 4 8 t) j post → zp_CT_channelToGet A j post := fun post q => q
    have key2 : ∀ post, zp_CT_flitToLeave (zU A 4 8 t) j post → zp_CT_flitToLeave A j post := fun post q => q
    have fg := fr_rg iv1.1 (j : Int)
    refine key _ (c_toGet iv1 rl1 rf1 (by omega) (by omega) (fun c hc => ⟨?_, fun _ => hno (fun z => z.1 j (by rw [e3]; omega) c hc), fun z => ?_⟩) (fun hn => ⟨by omega, fun z => absurd rfl z, fun _ => ?_⟩))
    · have := (wt_ok iv1 (by omega) (by omega) hc).1.lt iv1.1; omega
    · have := hc.2.2.2.2.2.1; omega
    · refine key2 _ (c_flitToLeave iv1 rl1 rf1 (by omega) (by omega) (fun hc => ⟨by omega, fun z => by have := hc.1; omega, fun _ => hno (fun z => z.2.2 j (by rw [e3]; omega) hc)⟩) (fun hc => ⟨by omega, fun _ => ?_, fun z => absurd rfl z⟩))
      have := ih (j + 1) (by omega) (fun j' hj' => by
        by_cases ej : j' = j
        · rw [ej]; exact ⟨hn, hc⟩
        · exact hj j' (by omega))
      simpa using this
/-- loops over a running value in one state -/
theorem sq4 (Wf : Nat → Int → Int → Prop) (R : Nat → Int → Prop) (n : Nat) (hx : ∀ v k, R n v → Wf (k + 1) v n) (hs : ∀ i : Nat, i < n → ∀ v, R i v → ∀ k, (∀ v', R (i + 1) v' → Wf k v' ((i : Int) + 1)) → Wf (k + 1) v i) (v0 : Int) (h0 : R 0 v0) : ∃ k, Wf k v0 0 := by
  have : ∀ m j : Nat, j + m = n → ∀ v, R j v → Wf (m + 1) v j := by
    intro m
    induction m with
    | zero => intro j e v hv; have : j = n := by omega
              subst this; exact hx v 0 hv
    | succ m ih =>
      intro j e v hv
      refine hs j (by omega) v hv (m + 1) (fun v' hv' => ?_)
      have := ih (j + 1) (by omega) v' hv'
      simpa using this
  exact ⟨n + 1, by simpa using this n 0 (by omega) v0 h0⟩
theorem r_stuckL {X : AA} (h : iv X) {ex : Int → Int → Prop} {post : Int → AA → Prop} (hex : ∀ v, ((v = 0 ∧ ∀ j : Nat, j < (X 0 3).toNat → mv X j = -1) ∨ (v = 1 ∧ ¬ Qt X)) → ex v (X 0 3)) : ∃ k, zl_M_stuck_28 X ex post k 0 0 := by
  have w := h.1
  have hl := w.l
  refine sq4 (zl_M_stuck_28 X ex post) (fun j v => (v = 0 ∧ ∀ j' : Nat, j' < j → mv X j' = -1) ∨ (v = 1 ∧ ¬ Qt X)) (X 0 3).toNat (fun v k hv => ?_) (fun j hj v hv k hk => ?_) 0 (.inl ⟨rfl, fun _ z => by omega⟩)
  · have e : (((X 0 3).toNat : Nat) : Int) = X 0 3 := by omega
    refine ⟨by omega, by omega, fun _ => ?_, fun g => by omega⟩
    rw [e]; exact hex v hv
  · refine ⟨by omega, by omega, fun g => by omega, fun _ => ⟨by omega, fun g => ?_, fun g => ?_⟩⟩
    · rcases hv with hv | hv
      · exact absurd hv.1 g
      · exact hk 1 (.inr ⟨rfl, hv.2⟩)
    · have hv : ∀ j' : Nat, j' < j → mv X j' = -1 := by rcases hv with hv | hv; exact hv.2; omega
      refine r_mover w (by omega) ?_
      rcases mk_spec (B := X) (l := j) 4 1 with e | ⟨e, r, r0, r4, er⟩
      · have e : mv X j = -1 := e
        refine ⟨by omega, fun _ => hk 0 (.inl ⟨rfl, fun j' hj' => ?_⟩), fun z => by omega⟩
        by_cases ej : j' = j
        · rw [ej]; exact e
        · exact hv j' (by omega)
      · have er : mv X j = 4 * (j : Int) + r := er
        refine ⟨by omega, fun z => by omega, fun _ => hk 1 (.inr ⟨rfl, fun z => ?_⟩)⟩
        have := z.2.1 j hj; omega
theorem r_stuckI {X : AA} (h : iv X) {ex : Int → Int → Prop} {post : Int → AA → Prop} (v0 : Int) (hv0 : (v0 = 0 ∧ ∀ j : Nat, j < (X 0 3).toNat → mv X j = -1) ∨ (v0 = 1 ∧ ¬ Qt X)) (hex : ∀ v y, ((v = 0 ∧ Qt X) ∨ (v = 1 ∧ ¬ Qt X)) → ex v y) : ∃ k, zl_M_stuck_62 X ex post k v0 0 := by
  have w := h.1
  have hl := w.l; have hn := w.n; have hpk := w.p
  refine sq4 (zl_M_stuck_62 X ex post) (fun j v => (v = 0 ∧ (∀ j : Nat, j < (X 0 3).toNat → mv X j = -1) ∧ ∀ j' : Nat, j' < j → (∀ c, ¬ wt X j' c) ∧ ¬ cl X j') ∨ (v = 1 ∧ ¬ Qt X)) (16 + 4 * X 0 3).toNat (fun v k hv => ?_) (fun j hj v hv k hk => ?_) v0 (by rcases hv0 with q | q; exact .inl ⟨q.1, q.2, fun _ z => by omega⟩; exact .inr q)
  · refine ⟨by omega, by omega, fun _ => hex v _ ?_, fun g => by omega⟩
    rcases hv with ⟨q1, q2, q3⟩ | q
    · exact .inl ⟨q1, fun j hj => (q3 j hj).1, q2, fun j hj => (q3 j hj).2⟩
    · exact .inr q
  · have one : ¬ v = 0 → zl_M_stuck_62 X ex post k 1 ((j : Int) + 1) := fun g => by
      rcases hv with hv | hv
      · exact absurd hv.1 g
      · exact hk 1 (.inr ⟨rfl, hv.2⟩)
    have zero : v = 0 → (∀ c, ¬ wt X j c) → ¬ cl X j → zl_M_stuck_62 X ex post k 0 ((j : Int) + 1) := fun g g1 g2 => by
      rcases hv with ⟨q1, q2, q3⟩ | q
      · refine hk 0 (.inl ⟨rfl, q2, fun j' hj' => ?_⟩)
        by_cases ej : j' = j
        · rw [ej]; exact ⟨g1, g2⟩
        · exact q3 j' (by omega)
      · omega
    have found : ¬ Qt X → zl_M_stuck_62 X ex post k 1 ((j : Int) + 1) := fun g => hk 1 (.inr ⟨rfl, g⟩)
    have vr : rg v := by rcases hv with hv | hv <;> omega
    have none : fr X j < 0 → v = 0 → zl_M_stuck_62 X ex post k 0 ((j : Int) + 1) := fun g e => zero e (fun c z => by have := z.1; omega) (fun z => by have := z.1; omega)
    have f1 := fr_rg w j
    have test : zp_M_front X j (fun r_15 => rg v ∧ ((¬ v = 0 → zl_M_stuck_62 X ex post k 1 ((j : Int) + 1)) ∧ (v = 0 → rg r_15 ∧ ((r_15 < 0 → zl_M_stuck_62 X ex post k 0 ((j : Int) + 1)) ∧ (¬ r_15 < 0 → rn r_15 ∧ (0 ≤ (r_15 / 16) ∧ (r_15 / 16) < 400) ∧ zp_M_nodeOf X j (fun r_22 => rg (X 8 (r_15 / 16).toNat) ∧ rg r_22 ∧ (((X 8 (r_15 / 16).toNat) = r_22 → zl_M_stuck_62 X ex post k 1 ((j : Int) + 1)) ∧ (¬ (X 8 (r_15 / 16).toNat) = r_22 → zp_M_wanted X j (fun r_26 => rg r_26 ∧ ((r_26 < 0 → zl_M_stuck_62 X ex post k 0 ((j : Int) + 1)) ∧ (¬ r_26 < 0 → zl_M_stuck_62 X ex post k 1 ((j : Int) + 1)))))))))))) := by
      refine r_front w (by omega) ⟨vr, one, fun e => ⟨by omega, fun g => none g e, fun g => ?_⟩⟩
      have hfo := fr_ok h (i := j) (by omega) (by omega) (by omega)
      have a8 := w.a8 (fr X j / 16).toNat; have nn := nd_rg w (i := j) (by omega)
      refine ⟨by omega, by omega, r_nodeOf (by omega) ⟨by omega, by omega, fun g1 => found (fun z => z.2.2 j hj ⟨by omega, g1⟩), fun g1 => ?_⟩⟩
      refine r_wanted w (by omega) (fo_iv h _ (by omega) (by omega)) (fun c hc => ?_) (fun hno => ⟨by omega, fun _ => zero e hno (fun z => g1 z.2), fun z => by omega⟩)
      have c0 := hc.2.2.2.2.2.1
      have c1 := (wt_ok h (by omega) (by omega) hc).1.lt w
      exact ⟨by omega, fun z => by omega, fun _ => found (fun z => z.1 j hj c hc)⟩
    refine ⟨by omega, by omega, fun g => by omega, fun _ => ⟨by omega, by omega, fun _ => test, fun g => ⟨by omega, fun g1 => ⟨vr, one, fun e => ?_⟩, fun g1 => ?_⟩⟩⟩
    · exact none (not_inp h (by omega) (by omega) (fun z => by rcases z.2 with y | y <;> omega)) e
    · refine r_isChannel w (by omega) (fun q => ⟨by omega, fun z => by omega, fun _ => test⟩) (fun q => ⟨by omega, fun _ => ⟨vr, one, fun e => ?_⟩, fun z => absurd rfl z⟩)
      exact none (not_inp h (by omega) (by omega) (fun z => by rcases z.2 with y | y; omega; exact q y.2)) e
theorem op_stuck {n : Nat} (hn : n < 512) {A B : AA} (h : RR n A B) : zp_CN_stuck A (fun r => zp_M_stuck B (fun t T => r = t ∧ RR (n + 1) A T)) := by
  obtain ⟨⟨hr, h22⟩, hg, h5⟩ := id h
  have E := hr.1
  have w := hg.1.1
  have pk := w.p
  have nn := hg.2.2
  have n1 := nq_0 B; have n2 := sm_0 160 (fun c _ => tbz B c)
  unfold iN NN at nn
  have x8 : zU B 0 0 0 0 8 = B 0 8 := zU_j _ _ (by omega)
  have x4 : zU B 0 0 0 0 4 = B 0 4 := zU_j _ _ (by omega)
  have x5 : zU B 0 0 0 0 5 = B 0 5 := zU_j _ _ (by omega)
  have g0 := gd_same (same_00 B 0) hg
  have r0 := RO_same (same_00 B 0) (zU_j _ _ (by omega)) h.1
  have R1 : RR (n + 1) A (zU B 0 0 0) := RR_s (RR_0 h 0)
  have i1 := iv_cy g0.1 (t := B 0 5 + 1) (by rw [x5]; omega) (by omega)
  unfold zp_CN_stuck
  rw [E.s8, E.s4]
  refine ⟨by omega, by omega, fun g => ?_, fun g => ?_⟩
  · unfold zp_M_stuck zp_M_isEmpty
    rintro _ rfl
    rw [x8, x4]
    exact ⟨by omega, by omega, fun z => by omega, fun _ => ⟨by omega, fun z => by omega, fun _ => ⟨rfl, R1⟩⟩⟩
  · have ref : ∀ r : Int, (Qt (cyT (zU B 0 0 0) (B 0 5 + 1)) → r = 1) → (¬ Qt (cyT (zU B 0 0 0) (B 0 5 + 1)) → r = 0) → zp_M_stuck B (fun t T => r = t ∧ RR (n + 1) A T) := fun r r1 r2 => by
      unfold zp_M_stuck zp_M_isEmpty
      rintro _ rfl
      rw [x8, x4]
      refine ⟨by omega, by omega, fun _ => ⟨by omega, fun _ => ?_, fun z => absurd rfl z⟩, fun z => by omega⟩
      rintro _ rfl
      rw [x5]
      refine r_stuckL (X := cyT (zU B 0 0 0) (B 0 5 + 1)) i1 (fun v hv => ?_)
      refine r_stuckI (X := cyT (zU B 0 0 0) (B 0 5 + 1)) i1 v hv (fun v2 y hv2 => ?_)
      unfold ze_M_stuck_168
      rintro _ rfl
      have RS : RR (n + 1) A (zU (cyT (zU B 0 0 0) (B 0 5 + 1)) 0 5 (cyT (zU B 0 0 0) (B 0 5 + 1) 0 5 - 1)) := by
        refine RR_same (B := zU B 0 0 0) ⟨fun k h1 _ => by rw [zU_n _ _ (by omega), cy_r _ _ (by omega)], fun j h1 _ => ?_⟩ (by rw [zU_j _ _ (by omega), cy_0 _ _ (by omega)]) R1
        by_cases ej : j = 5
        · rw [ej, zU_s, cy_5, x5]; omega
        · rw [zU_j _ _ ej, cy_0 _ _ ej]
      rcases hv2 with ⟨e, q⟩ | ⟨e, q⟩
      · exact ⟨by omega, fun z => absurd e z, fun _ => ⟨r1 q, RS⟩⟩
      · exact ⟨by omega, fun _ => ⟨r2 q, RS⟩, fun z => by omega⟩
    have rest := c_restI (A := A) (B := zU B 0 0 0) g0.1 (t := B 0 5 + 1) (by rw [x5]; omega) (by omega) r0 (post := fun r_4 => rg r_4 ∧ ((r_4 = 0 → zp_M_stuck B (fun t T => 0 = t ∧ RR (n + 1) A T)) ∧ (¬ r_4 = 0 → zp_M_stuck B (fun t T => 1 = t ∧ RR (n + 1) A T)))) (fun q => ⟨by omega, fun z => by omega, fun _ => ref 1 (fun _ => rfl) (fun z => absurd q z)⟩) (fun q => ⟨by omega, fun _ => ref 0 (fun z => absurd z q) (fun _ => rfl), fun z => absurd rfl z⟩) (16 + 4 * zU B 0 0 0 0 3).toNat 0 (by omega) (fun _ z => by omega)
    exact ⟨_, rest⟩
