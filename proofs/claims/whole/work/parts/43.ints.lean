/-! States as integers: every int is zI of an integer in range; predicates over zS A are about integers -/
abbrev AA : Type := Nat → Nat → Int
def zI (x : Int) : Int32 := Int32.ofInt x
def zS (A : AA) : SS := fun k i => zI (A k i)
def zU (A : AA) (k i : Nat) (v : Int) : AA := fun q => if q = k then (fun j => if j = i then v else A k j) else A q
def zF (A : AA) (k n : Nat) (v : Int) : AA := fun q => if q = k then (fun j => if j < n then v else A k j) else A q
theorem zI_t {x : Int} (h1 : -2147483648 ≤ x) (h2 : x < 2147483648) : (zI x).toInt = x := Int32.toInt_ofInt_of_le (by omega) (by omega)
theorem zI_of (x : Int32) : zI x.toInt = x := Int32.ofInt_toInt x
theorem zI_ex (x : Int32) : ∃ z : Int, -2147483648 ≤ z ∧ z < 2147483648 ∧ x = zI z := ⟨x.toInt, by have := x.le_toInt; omega, by have := x.toInt_lt; omega, (zI_of x).symm⟩
theorem zS_at (A : AA) (k i : Nat) : zS A k i = zI (A k i) := rfl
theorem zS_ex (σ : SS) : ∃ A : AA, σ = zS A := ⟨fun k i => (σ k i).toInt, by funext k i; exact (zI_of _).symm⟩
theorem zU_S (A : AA) (k i : Nat) (v : Int) : u2 (zS A) k i (zI v) = zS (zU A k i v) := by
  funext q j
  by_cases h : q = k
  · subst h
    by_cases h2 : j = i
    · subst h2; simp [u2, upd, zS, zU]
    · simp [u2, upd, zS, zU, h2]
  · simp [u2, zS, zU, h]
theorem zF_S (A : AA) (k n : Nat) (v : Int) : fl (zS A) k n (zI v) = zS (zF A k n v) := by
  funext q j
  by_cases h : q = k
  · subst h
    by_cases h2 : j < n
    · simp [fl, zS, zF, h2]
    · simp [fl, zS, zF, h2]
  · simp [fl, zS, zF, h]
theorem zI_eq {x y : Int} (a : -2147483648 ≤ x) (b : x < 2147483648) (c : -2147483648 ≤ y) (d : y < 2147483648) : zI x = zI y ↔ x = y := by
  rw [← Int32.toInt_inj, zI_t a b, zI_t c d]
theorem zI_lt {x y : Int} (a : -2147483648 ≤ x) (b : x < 2147483648) (c : -2147483648 ≤ y) (d : y < 2147483648) : zI x < zI y ↔ x < y := by
  rw [Int32.lt_iff_toInt_lt, zI_t a b, zI_t c d]
theorem zI_le {x y : Int} (a : -2147483648 ≤ x) (b : x < 2147483648) (c : -2147483648 ≤ y) (d : y < 2147483648) : zI x ≤ zI y ↔ x ≤ y := by
  rw [Int32.le_iff_toInt_le, zI_t a b, zI_t c d]
theorem zI_add (x y : Int) : zI x + zI y = zI (x + y) := (Int32.ofInt_add x y).symm
theorem zI_sub (x y : Int) : zI x - zI y = zI (x - y) := (Int32.ofInt_sub x y).symm
theorem zI_mul (x y : Int) : zI x * zI y = zI (x * y) := (Int32.ofInt_mul x y).symm
theorem zI_ix {x : Int} (a : -2147483648 ≤ x) (b : x < 2147483648) : (zI x).toNatClampNeg = x.toNat := Int32.toNatClampNeg_ofInt_of_le (by omega) (by omega)
theorem zI_in {x : Int} {n : Nat} (a : -2147483648 ≤ x) (b : x < 2147483648) : vp_in (zI x) n ↔ 0 ≤ x ∧ x < n := by
  rw [vp_in_iff, zI_t a b]
theorem zI_div {x d : Int} (a : 0 ≤ x) (b : x < 2147483648) (c : 0 < d) (e : d < 2147483648) : zI x / zI d = zI (x / d) := by
  apply Int32.toInt_inj.mp
  have h1 : x / d ≤ x := Int.ediv_le_self _ a
  have h2 : 0 ≤ x / d := Int.ediv_nonneg a (by omega)
  rw [Int32.toInt_div_of_ne_right _ _ (by intro h; have := congrArg Int32.toInt h; rw [zI_t (by omega) (by omega)] at this; simp at this; omega), zI_t (by omega) (by omega), zI_t (by omega) (by omega), zI_t (by omega) (by omega), Int.tdiv_eq_ediv_of_nonneg a]
theorem zI_rem {x d : Int} (a : 0 ≤ x) (b : x < 2147483648) (c : 0 < d) (e : d < 2147483648) : zI x - zI x / zI d * zI d = zI (x % d) := by
  rw [zI_div a b c e, zI_mul, zI_sub]
  congr 1
  have := Int.mul_ediv_add_emod x d
  rw [Int.mul_comm] at this
  omega
theorem zI_0 : (0 : Int32) = zI 0 := rfl
theorem zI_1 : (1 : Int32) = zI 1 := rfl
theorem zI_2 : (2 : Int32) = zI 2 := rfl
theorem zI_3 : (3 : Int32) = zI 3 := rfl
theorem zI_4 : (4 : Int32) = zI 4 := rfl
theorem zI_5 : (5 : Int32) = zI 5 := rfl
theorem zI_7 : (7 : Int32) = zI 7 := rfl
theorem zI_8 : (8 : Int32) = zI 8 := rfl
theorem zI_9 : (9 : Int32) = zI 9 := rfl
theorem zI_16 : (16 : Int32) = zI 16 := rfl
theorem zI_40 : (40 : Int32) = zI 40 := rfl
theorem zI_50 : (50 : Int32) = zI 50 := rfl
theorem zI_160 : (160 : Int32) = zI 160 := rfl
theorem zI_256 : (256 : Int32) = zI 256 := rfl
theorem zI_400 : (400 : Int32) = zI 400 := rfl
theorem zI_2000 : (2000 : Int32) = zI 2000 := rfl
theorem zI_25600 : (25600 : Int32) = zI 25600 := rfl
theorem zI_65536 : (65536 : Int32) = zI 65536 := rfl
theorem zI_m1 : (-1 : Int32) = zI (-1) := rfl
theorem zU_s (A : AA) (k i : Nat) (v : Int) : zU A k i v k i = v := by simp [zU]
theorem zU_n (A : AA) {k i q : Nat} (v : Int) (h : q ≠ k) : zU A k i v q = A q := by simp [zU, h]
theorem zU_j (A : AA) {k i j : Nat} (v : Int) (h : j ≠ i) : zU A k i v k j = A k j := by simp [zU, h]
theorem zU_e (A : AA) (k i q j : Nat) (v : Int) : zU A k i v q j = if q = k ∧ j = i then v else A q j := by
  by_cases h : q = k
  · subst h; by_cases h2 : j = i <;> simp [zU, h2]
  · simp [zU, h]
