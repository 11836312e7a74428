/-! integers behind ints -/
abbrev rg (x : Int) : Prop := -2147483648 ≤ x ∧ x < 2147483648
abbrev rn (x : Int) : Prop := 0 ≤ x ∧ x < 2147483648
theorem z_v (x : Int) : zI x = zI x := rfl
theorem z_f (B : AA) (k j : Nat) : zS B k j = zI (B k j) := rfl
theorem z_rg {x : Int} {n : Nat} (h : 0 ≤ x ∧ x < (n : Int)) (hn : n ≤ 2147483648) : rg x := by unfold rg; omega
theorem z_add {a b : Int32} {x y : Int} (pa : a = zI x) (pb : b = zI y) : a + b = zI (x + y) := by rw [pa, pb, zI_add]
theorem z_sub {a b : Int32} {x y : Int} (pa : a = zI x) (pb : b = zI y) : a - b = zI (x - y) := by rw [pa, pb, zI_sub]
theorem z_mul {a b : Int32} {x y : Int} (pa : a = zI x) (pb : b = zI y) : a * b = zI (x * y) := by rw [pa, pb, zI_mul]
theorem z_div {a b : Int32} {x y : Int} (pa : a = zI x) (pb : b = zI y) (hn : rn x) (hm : 0 < y ∧ y < 2147483648) : a / b = zI (x / y) := by rw [pa, pb, zI_div hn.1 hn.2 hm.1 hm.2]
theorem z_rem {a b : Int32} {x y : Int} (pa : a = zI x) (pb : b = zI y) (hn : rn x) (hm : 0 < y ∧ y < 2147483648) : a - a / b * b = zI (x % y) := by rw [pa, pb, zI_rem hn.1 hn.2 hm.1 hm.2]
theorem z_ne {a : Int32} {y : Int} (pa : a = zI y) (hm : 0 < y ∧ y < 2147483648) : ¬ a = 0 := by
  rw [pa, zI_0, zI_eq (by omega) hm.2 (by omega) (by omega)]; omega
theorem z_and {a : Int32} {x : Int} (pa : a = zI x) : a &&& 2147483647 = zI (x % 2147483648) := by
  rw [pa]
  apply Int32.toBitVec_inj.mp
  apply BitVec.eq_of_toNat_eq
  have h1 : (zI x).toBitVec = BitVec.ofInt 32 x := rfl
  have h2 : (zI (x % 2147483648)).toBitVec = BitVec.ofInt 32 (x % 2147483648) := rfl
  have h3 : (2147483647 : Int32).toBitVec = BitVec.ofNat 32 (2 ^ 31 - 1) := rfl
  rw [Int32.toBitVec_and, h1, h2, h3, BitVec.toNat_and, BitVec.toNat_ofInt, BitVec.toNat_ofInt, BitVec.toNat_ofNat]
  rw [show (2 ^ 31 - 1) % 2 ^ 32 = 2 ^ 31 - 1 from rfl, Nat.and_two_pow_sub_one_eq_mod]
  omega
theorem z_in {a : Int32} {x : Int} {n : Nat} (pa : a = zI x) (h : 0 ≤ x ∧ x < (n : Int)) (hn : n ≤ 2147483648) : vp_in a n := by
  rw [pa, zI_in (by omega) (by omega)]; exact h
theorem z_a (B : AA) (k : Nat) {a : Int32} {x : Int} (pa : a = zI x) (h : rg x) : zS B k a.toNatClampNeg = zI (B k x.toNat) := by rw [pa, zI_ix h.1 h.2]; rfl
theorem z_uf (B : AA) (k j : Nat) {a : Int32} {x : Int} (pa : a = zI x) : u2 (zS B) k j a = zS (zU B k j x) := by rw [pa, zU_S]
theorem z_ua (B : AA) (k : Nat) {i a : Int32} {x y : Int} (pi : i = zI y) (h : rg y) (pa : a = zI x) : u2 (zS B) k i.toNatClampNeg a = zS (zU B k y.toNat x) := by rw [pa, pi, zI_ix h.1 h.2, zU_S]
theorem z_fl (B : AA) (k n : Nat) {a : Int32} {x : Int} (pa : a = zI x) : fl (zS B) k n a = zS (zF B k n x) := by rw [pa, zF_S]
theorem z_lt {a b : Int32} {x y : Int} (pa : a = zI x) (pb : b = zI y) (ha : rg x) (hb : rg y) : a < b ↔ x < y := by rw [pa, pb, zI_lt ha.1 ha.2 hb.1 hb.2]
theorem z_le {a b : Int32} {x y : Int} (pa : a = zI x) (pb : b = zI y) (ha : rg x) (hb : rg y) : a ≤ b ↔ x ≤ y := by rw [pa, pb, zI_le ha.1 ha.2 hb.1 hb.2]
theorem z_eq {a b : Int32} {x y : Int} (pa : a = zI x) (pb : b = zI y) (ha : rg x) (hb : rg y) : a = b ↔ x = y := by rw [pa, pb, zI_eq ha.1 ha.2 hb.1 hb.2]
theorem z_01 {a : Int32} {x : Int} (pa : a = zI x) (h : x = 0 ∨ x = 1) : a = 0 ∨ a = 1 := by rcases h with rfl | rfl <;> simp [pa] <;> decide
theorem z_r {P : Int32 → Prop} {a : Int32} {x : Int} (pa : a = zI x) (h : P (zI x)) : P a := by rw [pa]; exact h
theorem zk_m1 : (-1 : Int32) = zI (-1) := rfl
theorem zk_0 : (0 : Int32) = zI (0) := rfl
theorem zk_1 : (1 : Int32) = zI (1) := rfl
theorem zk_2 : (2 : Int32) = zI (2) := rfl
theorem zk_3 : (3 : Int32) = zI (3) := rfl
theorem zk_4 : (4 : Int32) = zI (4) := rfl
theorem zk_5 : (5 : Int32) = zI (5) := rfl
theorem zk_6 : (6 : Int32) = zI (6) := rfl
theorem zk_7 : (7 : Int32) = zI (7) := rfl
theorem zk_8 : (8 : Int32) = zI (8) := rfl
theorem zk_9 : (9 : Int32) = zI (9) := rfl
theorem zk_16 : (16 : Int32) = zI (16) := rfl
theorem zk_40 : (40 : Int32) = zI (40) := rfl
theorem zk_50 : (50 : Int32) = zI (50) := rfl
theorem zk_160 : (160 : Int32) = zI (160) := rfl
theorem zk_256 : (256 : Int32) = zI (256) := rfl
theorem zk_400 : (400 : Int32) = zI (400) := rfl
theorem zk_2000 : (2000 : Int32) = zI (2000) := rfl
theorem zk_12345 : (12345 : Int32) = zI (12345) := rfl
theorem zk_25600 : (25600 : Int32) = zI (25600) := rfl
theorem zk_65536 : (65536 : Int32) = zI (65536) := rfl
theorem zk_1103515245 : (1103515245 : Int32) = zI (1103515245) := rfl
theorem zk_2147483647 : (2147483647 : Int32) = zI (2147483647) := rfl
