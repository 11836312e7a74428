/-! what the reference's methods do to a state -/
noncomputable def cs {α : Type} (P : Prop) (a b : α) : α := @ite α P (Classical.propDecidable P) a b
theorem cs_t {α : Type} {P : Prop} {a b : α} (h : P) : cs P a b = a := by unfold cs; exact if_pos h
theorem cs_f {α : Type} {P : Prop} {a b : α} (h : ¬ P) : cs P a b = b := by unfold cs; exact if_neg h
def zR (B : AA) (k : Nat) (g : Nat → Int) : AA := fun q => if q = k then g else B q
theorem zR_s (B : AA) (k : Nat) (g : Nat → Int) : zR B k g k = g := by simp [zR]
theorem zR_n (B : AA) {k q : Nat} (g : Nat → Int) (h : q ≠ k) : zR B k g q = B q := by simp [zR, h]
def shf (g : Nat → Int) (c n : Nat) : Nat → Int := fun q => if 4 * c ≤ q ∧ q < 4 * c + n then g (q + 1) else g q
theorem shf_e (g : Nat → Int) (c n q : Nat) : shf g c n q = if 4 * c ≤ q ∧ q < 4 * c + n then g (q + 1) else g q := rfl
theorem shf_0 (g : Nat → Int) (c : Nat) : shf g c 0 = g := by funext q; unfold shf; rw [if_neg (by omega)]
/-- a buffer without its first flit -/
def dr (B : AA) (c : Nat) : AA := zR (zR (zU B 13 c (B 13 c - 1)) 14 (shf (B 14) c (B 13 c - 1).toNat)) 15 (shf (B 15) c (B 13 c - 1).toNat)
def tk (B : AA) (i f : Int) : AA := if i < 16 then zU B 10 (f / 16).toNat (B 10 (f / 16).toNat + 1) else dr B (i - 16).toNat
abbrev shs (S : AA) (c j : Nat) : AA := zR (zR S 14 (shf (S 14) c j)) 15 (shf (S 15) c j)
theorem shs_s (S : AA) (c j : Nat) : zU (zU (shs S c j) 14 (4 * c + j) (S 14 (4 * c + j + 1))) 15 (4 * c + j) (S 15 (4 * c + j + 1)) = shs S c (j + 1) := by
  funext k q
  by_cases h15 : k = 15
  · subst h15
    simp only [zU_e, zR]
    by_cases e : q = 4 * c + j
    · subst e; simp [shf_e]
    · simp only [e, and_false, if_false]; simp [shf_e]
      by_cases g : 4 * c ≤ q ∧ q < 4 * c + j
      · rw [if_pos g, if_pos (by omega)]
      · rw [if_neg g, if_neg (by omega)]
  · by_cases h14 : k = 14
    · subst h14
      simp only [zU_e, zR]
      by_cases e : q = 4 * c + j
      · subst e; simp [shf_e]
      · simp only [e, and_false, if_false]; simp [shf_e]
        by_cases g : 4 * c ≤ q ∧ q < 4 * c + j
        · rw [if_pos g, if_pos (by omega)]
        · rw [if_neg g, if_neg (by omega)]
    · simp [zU_e, zR, h14, h15]
theorem ll_take {S : AA} {c : Nat} (hc : c < 160) {ex : AA → Int → Prop} {post : AA → Prop} (h13 : 0 ≤ S 13 c ∧ S 13 c < 4) (hex : ex (shs S c (S 13 c).toNat) (S 13 c)) : ∀ (n j : Nat), (j : Int) + n = S 13 c → zl_M_take_38 c ex post (n + 1) (shs S c j) j := by
  intro n
  have r13 : ∀ j, shs S c j 13 c = S 13 c := fun j => by simp [shs, zR]
  induction n with
  | zero =>
    intro j e
    have ej : (j : Int) = S 13 c := by omega
    have ej2 : j = (S 13 c).toNat := by omega
    refine ⟨by omega, by omega, by simp only [Int.toNat_natCast, r13]; omega, fun _ => ?_, fun g => ?_⟩
    · rw [ej]; subst ej2; exact hex
    · simp only [Int.toNat_natCast, r13] at g; omega
  | succ n ih =>
    intro j e
    refine ⟨by omega, by omega, by simp only [Int.toNat_natCast, r13]; omega, fun g => ?_, fun _ => ?_⟩
    · simp only [Int.toNat_natCast, r13] at g; omega
    · refine ⟨by omega, by omega, ?_⟩
      rintro _ rfl
      refine ⟨by omega, by omega, ?_⟩
      rintro _ rfl
      have e1 : (4 * (c : Int) + j).toNat = 4 * c + j := by omega
      have e2 : (4 * (c : Int) + j + 1).toNat = 4 * c + j + 1 := by omega
      rw [e1, e2]
      have e3 : shs S c j 14 (4 * c + j + 1) = S 14 (4 * c + j + 1) := by simp [shs, zR, shf_e]; omega
      have e4 : zU (shs S c j) 14 (4 * c + j) (shs S c j 14 (4 * c + j + 1)) 15 (4 * c + j + 1) = S 15 (4 * c + j + 1) := by simp [shs, zR, shf_e, zU_e]; omega
      rw [e4, e3, shs_s]
      have := ih (j + 1) (by omega)
      simpa using this
theorem r_take {B : AA} {i f : Int} (hi : 0 ≤ i ∧ i < 176) (hf : i < 16 → 0 ≤ f ∧ f < 6400) (h13 : 16 ≤ i → 0 < B 13 (i - 16).toNat ∧ B 13 (i - 16).toNat ≤ 4) {post : AA → Prop} (hp : post (tk B i f)) : zp_M_take B i f post := by
  unfold zp_M_take
  unfold tk at hp
  refine ⟨by omega, fun g => ?_, fun g => ?_⟩
  · rw [if_neg (by omega)] at hp
    have h13 := h13 g
    rintro v rfl
    refine ⟨by omega, by omega, ?_⟩
    rintro _ rfl
    generalize hc : (i - 16).toNat = c at hp h13
    have ec : i - 16 = c := by omega
    rw [ec]
    have eS : zU B 13 c (B 13 c - 1) 13 c = B 13 c - 1 := by simp [zU_e]
    refine ⟨(B 13 c - 1).toNat + 1, ?_⟩
    have := ll_take (S := zU B 13 c (B 13 c - 1)) (c := c) (by omega) (ex := fun B' y4 => ze_M_take_103 B' post) (post := post) (by rw [eS]; omega) ?_ (B 13 c - 1).toNat 0 (by rw [eS]; omega)
    · have e0 : shs (zU B 13 c (B 13 c - 1)) c 0 = zU B 13 c (B 13 c - 1) := by
        funext k q; simp only [shs, shf_0, zR]; split
        · subst_vars; rfl
        · split
          · subst_vars; rfl
          · rfl
      rw [e0] at this
      exact this
    · rw [eS]
      unfold ze_M_take_103
      have e9 : shs (zU B 13 c (B 13 c - 1)) c (B 13 c - 1).toNat = dr B c := by
        unfold dr
        have e14 : (zU B 13 c (B 13 c - 1)) 14 = B 14 := by simp [zU]
        have e15 : (zU B 13 c (B 13 c - 1)) 15 = B 15 := by simp [zU]
        rw [shs, e14, e15]
      rw [e9]; exact hp
  · rw [if_pos (by omega)] at hp
    have := hf (by omega)
    refine ⟨by omega, by omega, by omega, ?_⟩
    rintro _ rfl
    exact hp
/-- whether a flit can move into a channel -/
def cm (B : AA) (c : Int) : Prop := isC B c ∧ 0 ≤ B 17 c.toNat ∧ 0 ≤ fr B (B 17 c.toNat) ∧ B 13 c.toNat < 4
noncomputable def mk (B : AA) (l : Int) : Nat → Int → Int
  | 0, _ => -1
  | n + 1, k => cs (cm B (4 * l + (B 5 l.toNat + k + 4) % 4)) (4 * l + (B 5 l.toNat + k + 4) % 4) (mk B l n (k + 1))
noncomputable abbrev mv (B : AA) (l : Int) : Int := mk B l 4 1
theorem ll_mover {B : AA} (h : wf B) {l : Int} (hl : 0 ≤ l ∧ l < 40) {ex post : Int → Prop} (hex : ∀ y, mv B l = -1 → ex y) (hpo : ∀ c, 0 ≤ c → mv B l = c → post c) : ∀ (n : Nat) (k : Int), k + n = 5 → 1 ≤ k → mk B l n k = mv B l → zl_M_mover_2 B l ex post (n + 1) k := by
  intro n
  induction n with
  | zero =>
    intro k e e1 hm
    exact ⟨by omega, fun _ => hex _ hm.symm, fun g => by omega⟩
  | succ n ih =>
    intro k e e1 hm
    have a5 := h.a5 l.toNat
    refine ⟨by omega, fun _ => by omega, fun _ => ⟨by omega, by omega, fun v ev => ?_⟩⟩
    have nx : ¬ cm B v → zl_M_mover_2 B l ex post (n + 1) (k + 1) := fun g => by
      refine ih (k + 1) (by omega) (by omega) ?_
      rw [← hm, mk, cs_f (by rw [← ev]; exact g)]
    have a17 := h.a17 v.toNat; have a13 := h.a13 v.toNat
    refine r_isChannel h (by omega) (fun c => ⟨by omega, fun _ => by omega, fun _ => ⟨by omega, by omega, fun g => nx (fun q => by have := q.2.1; omega), fun g => ⟨by omega, ?_⟩⟩⟩) (fun c => ⟨by omega, fun _ => nx (fun q => c q.1), fun _ => by omega⟩)
    have f := fr_rg h (B 17 v.toNat)
    refine r_front h (by omega) ⟨by omega, fun g => nx (fun q => by have := q.2.2.1; omega), fun g2 => ⟨by omega, by omega, fun g => nx (fun q => by have := q.2.2.2; omega), fun g3 => ?_⟩⟩
    refine hpo v (by omega) ?_
    rw [← hm, mk, cs_t (by rw [← ev]; exact ⟨c, by omega, by omega, by omega⟩), ← ev]
theorem r_mover {B : AA} (h : wf B) {l : Int} (hl : 0 ≤ l ∧ l < 40) {post : Int → Prop} (hp : post (mv B l)) : zp_M_mover B l post := by
  refine ⟨5, ?_⟩
  exact ll_mover h hl (fun y e => by unfold ze_M_mover_72; rw [e] at hp; exact hp) (fun c _ e => by rw [e] at hp; exact hp) 4 1 (by omega) (by omega) rfl
theorem mk_spec {B : AA} {l : Int} : ∀ n k, mk B l n k = -1 ∨ cm B (mk B l n k) ∧ ∃ r : Int, 0 ≤ r ∧ r < 4 ∧ mk B l n k = 4 * l + r := by
  intro n
  induction n with
  | zero => intro k; exact .inl rfl
  | succ n ih =>
    intro k
    by_cases g : cm B (4 * l + (B 5 l.toNat + k + 4) % 4)
    · rw [mk, cs_t g]; exact .inr ⟨g, _, by omega, by omega, rfl⟩
    · rw [mk, cs_f g]; exact ih (k + 1)
def pt (B : AA) (c : Nat) (f : Int) : AA := zU (zU (zU B 14 (4 * (c : Int) + B 13 c).toNat f) 15 (4 * (c : Int) + B 13 c).toNat (B 0 5)) 13 c (B 13 c + 1)
noncomputable def rl (B : AA) (c : Nat) (f : Int) : AA := cs (f % 16 = B 9 (f / 16).toNat - 1) (zU (zU B 17 c (-1)) 18 c (-1)) B
def ms3 (B : AA) (c l : Nat) : AA := zU (zU (zU B 0 6 (B 0 6 + 1)) 16 c (B 16 c + 1)) 5 l ((c : Int) % 4)
noncomputable def mo1 (B : AA) (l c : Nat) : AA := rl (ms3 (pt (tk B (B 17 c) (fr B (B 17 c))) c (fr B (B 17 c))) c l) c (fr B (B 17 c))
noncomputable def moL (B : AA) (l : Int) : AA := if mv B l < 0 then B else mo1 B l.toNat (mv B l).toNat
noncomputable def lv1 (B : AA) (p : Nat) (f : Int) : AA := cs (f % 16 = B 9 p - 1) (zU (zU (zU (zU B 11 p (B 11 p + 1)) 0 7 (B 0 7 + 1)) 12 p (B 0 5)) 0 8 (B 0 8 + 1)) (zU (zU B 11 p (B 11 p + 1)) 0 7 (B 0 7 + 1))
def cl (B : AA) (i : Int) : Prop := 0 ≤ fr B i ∧ B 8 (fr B i / 16).toNat = nd B i
noncomputable def leI (B : AA) (i : Int) : AA := cs (cl B i) (lv1 (tk B i (fr B i)) (fr B i / 16).toNat (fr B i)) B
noncomputable abbrev wc (B : AA) (i : Int) : Int := B 6 (16 * nd B i + B 8 (fr B i / 16).toNat).toNat
noncomputable def asI (B : AA) (i : Int) : AA := cs (wt B i (wc B i)) (zU (zU B 17 (wc B i).toNat i) 18 (wc B i).toNat (fr B i / 16)) B
theorem fr_pos {B : AA} {i : Int} (h : wf B) (hi : 16 ≤ i) (hf : 0 ≤ fr B i) : 0 < B 13 (i - 16).toNat ∧ B 13 (i - 16).toNat ≤ 4 := by
  unfold fr at hf
  rw [if_neg (by omega)] at hf
  have := h.a13 (i - 16).toNat
  split at hf <;> omega
theorem tk_r (B : AA) (i f : Int) {k : Nat} (h : k ≠ 10 ∧ k ≠ 13 ∧ k ≠ 14 ∧ k ≠ 15) : tk B i f k = B k := by
  unfold tk dr; split
  · rw [zU_n _ _ h.1]
  · rw [zR_n _ _ h.2.2.2, zR_n _ _ h.2.2.1, zU_n _ _ h.2.1]
theorem tk13 (B : AA) (i f : Int) (c : Nat) : tk B i f 13 c = if 16 ≤ i ∧ c = (i - 16).toNat then B 13 c - 1 else B 13 c := by
  unfold tk dr; split
  · rw [zU_n _ _ (by omega), if_neg (by omega)]
  · rw [zR_n _ _ (by omega), zR_n _ _ (by omega), zU_e]
    by_cases e : c = (i - 16).toNat
    · rw [if_pos ⟨rfl, e⟩, if_pos ⟨by omega, e⟩, e]
    · rw [if_neg (fun q => e q.2), if_neg (fun q => e q.2)]
theorem r_move {B : AA} (h : wf B) (ho : ∀ i, 0 ≤ i → i < 176 → fo B i) {l : Int} (hl : 0 ≤ l ∧ l < 40) {post : AA → Prop} (hp : post (moL B l)) : zp_M_move B l post := by
  unfold zp_M_move
  refine r_mover h hl ?_
  have hl3 := h.l
  rcases mk_spec (B := B) (l := l) 4 1 with e | ⟨⟨g1, g2, g3, g4⟩, r, hr1, hr2, er⟩
  · have e : mv B l = -1 := e
    refine ⟨by omega, fun g => by omega, fun _ => ?_⟩
    unfold moL at hp; rw [if_pos (by omega)] at hp; exact hp
  · have hm : mk B l 4 1 = mv B l := rfl
    rw [hm] at g1 g2 g3 g4 er
    have c0 : 0 ≤ mv B l ∧ mv B l < 160 := g1.lt h
    unfold moL at hp; rw [if_neg (by omega)] at hp
    generalize hc : mv B l = cc at *
    obtain ⟨c, rfl⟩ : ∃ c : Nat, cc = c := ⟨cc.toNat, by omega⟩
    simp only [Int.toNat_natCast] at *
    have a17 := h.a17 c; have a13 := h.a13 c; have hpk := h.p
    have f1 := fr_rg h (B 17 c); have f2 := ho (B 17 c) (by omega) (by omega) g3
    refine ⟨by omega, fun _ => ⟨by omega, ?_⟩, fun g => by omega⟩
    refine r_front h (by omega) ⟨by omega, ?_⟩
    refine r_take (by omega) (fun _ => by omega) (fun g => fr_pos h g g3) ⟨by omega, ?_⟩
    have b13 := tk13 B (B 17 c) (fr B (B 17 c)) c
    have b13' : 0 ≤ tk B (B 17 c) (fr B (B 17 c)) 13 c ∧ tk B (B 17 c) (fr B (B 17 c)) 13 c < 4 := by
      rw [b13]; split
      · rename_i g; have := fr_pos h g.1 g3; rw [← g.2] at this; omega
      · omega
    refine ⟨by omega, ?_⟩
    rintro _ rfl
    refine ⟨by omega, by simp only [zU_e]; simp; omega, ?_⟩
    rintro _ rfl
    refine ⟨by omega, by omega, ?_⟩
    rintro _ rfl
    rintro _ rfl
    refine ⟨by omega, by omega, ?_⟩
    rintro _ rfl
    refine ⟨by omega, by omega, ?_⟩
    rintro _ rfl
    have r9 : tk B (B 17 c) (fr B (B 17 c)) 9 = B 9 := tk_r _ _ _ (by omega)
    have a9 := h.a9 (fr B (B 17 c) / 16).toNat
    unfold mo1 rl ms3 pt at hp
    simp only [zU_e, r9] at hp ⊢
    simp at hp ⊢
    refine ⟨by omega, by omega, by omega, by omega, fun g => ?_, fun g => ?_⟩
    · rw [cs_f g] at hp; exact hp
    · rw [cs_t g] at hp; exact ⟨by omega, hp⟩
theorem r_leave {B : AA} (h : wf B) {i : Int} (ho : fo B i) (hi : 0 ≤ i ∧ i < 176) {post : AA → Prop} (hp : post (leI B i)) : zp_M_leave B i (nd B i) post := by
  unfold zp_M_leave
  have f1 := fr_rg h i; have hpk := h.p; have hn := nd_rg h hi.1
  refine r_front h hi ⟨by omega, fun g => ?_, fun g => ?_⟩
  · unfold leI at hp; rw [cs_f (fun q => by have := q.1; omega)] at hp; exact hp
  · have f2 := ho (by omega)
    have a8 := h.a8 (fr B i / 16).toNat; have a9 := h.a9 (fr B i / 16).toNat
    refine ⟨by omega, by omega, by omega, by omega, fun g1 => ?_, fun g1 => ?_⟩
    · unfold leI at hp; rw [cs_t ⟨by omega, g1⟩] at hp
      refine r_take hi (fun _ => by omega) (fun q => fr_pos h q (by omega)) ⟨by omega, by omega, by omega, ?_⟩
      rintro _ rfl
      rintro _ rfl
      have r9 : tk B i (fr B i) 9 = B 9 := tk_r _ _ _ (by omega)
      unfold lv1 at hp
      simp only [zU_e, r9] at hp ⊢
      simp at hp ⊢
      refine ⟨by omega, by omega, by omega, by omega, fun g => ?_, fun g => ?_⟩
      · rw [cs_f g] at hp; exact hp
      · rw [cs_t g] at hp
        refine ⟨by omega, by omega, ?_⟩
        simp only [zU_e]; simp; exact hp
    · unfold leI at hp; rw [cs_f (fun q => g1 q.2)] at hp; exact hp
