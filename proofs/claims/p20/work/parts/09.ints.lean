/-! Int32 and Int64 as whole numbers; one limb changed -/
def iZ (z : Int) : Int32 := Int32.ofInt z
def lZ (z : Int) : Int64 := Int64.ofInt z
theorem nI_iZ (n : Nat) : nI n = iZ (n : Int) := (Int32.ofInt_eq_ofNat (n := n)).symm
theorem lN_lZ (n : Nat) : lN n = lZ (n : Int) := (Int64.ofInt_eq_ofNat (n := n)).symm
theorem iZ_add (a b : Int) : iZ a + iZ b = iZ (a + b) := (Int32.ofInt_add a b).symm
theorem iZ_sub (a b : Int) : iZ a - iZ b = iZ (a - b) := (Int32.ofInt_sub a b).symm
theorem iZ_mul (a b : Int) : iZ a * iZ b = iZ (a * b) := (Int32.ofInt_mul a b).symm
theorem iZ_neg (a : Int) : -iZ a = iZ (-a) := (Int32.ofInt_neg a).symm
theorem lZ_add (a b : Int) : lZ a + lZ b = lZ (a + b) := (Int64.ofInt_add a b).symm
theorem lZ_sub (a b : Int) : lZ a - lZ b = lZ (a - b) := (Int64.ofInt_sub a b).symm
theorem lZ_mul (a b : Int) : lZ a * lZ b = lZ (a * b) := (Int64.ofInt_mul a b).symm
theorem lZ_neg (a : Int) : -lZ a = lZ (-a) := (Int64.ofInt_neg a).symm
theorem iZ_to {z : Int} (h : -2147483648 ≤ z) (h2 : z < 2147483648) : (iZ z).toInt = z := Int32.toInt_ofInt_of_le (by exact h) (by exact h2)
theorem lZ_to {z : Int} (h : -9223372036854775808 ≤ z) (h2 : z < 9223372036854775808) : (lZ z).toInt = z := Int64.toInt_ofInt_of_le (by exact h) (by exact h2)
theorem iZ_lt {a b : Int} (h1 : -2147483648 ≤ a) (h2 : a < 2147483648) (h3 : -2147483648 ≤ b) (h4 : b < 2147483648) : iZ a < iZ b ↔ a < b := by
  rw [Int32.lt_iff_toInt_lt, iZ_to h1 h2, iZ_to h3 h4]
theorem iZ_le {a b : Int} (h1 : -2147483648 ≤ a) (h2 : a < 2147483648) (h3 : -2147483648 ≤ b) (h4 : b < 2147483648) : iZ a ≤ iZ b ↔ a ≤ b := by
  rw [Int32.le_iff_toInt_le, iZ_to h1 h2, iZ_to h3 h4]
theorem iZ_eq {a b : Int} (h1 : -2147483648 ≤ a) (h2 : a < 2147483648) (h3 : -2147483648 ≤ b) (h4 : b < 2147483648) : iZ a = iZ b ↔ a = b := by
  rw [← Int32.toInt_inj, iZ_to h1 h2, iZ_to h3 h4]
theorem lZ_lt {a b : Int} (h1 : -9223372036854775808 ≤ a) (h2 : a < 9223372036854775808) (h3 : -9223372036854775808 ≤ b) (h4 : b < 9223372036854775808) : lZ a < lZ b ↔ a < b := by
  rw [Int64.lt_iff_toInt_lt, lZ_to h1 h2, lZ_to h3 h4]
theorem lZ_le {a b : Int} (h1 : -9223372036854775808 ≤ a) (h2 : a < 9223372036854775808) (h3 : -9223372036854775808 ≤ b) (h4 : b < 9223372036854775808) : lZ a ≤ lZ b ↔ a ≤ b := by
  rw [Int64.le_iff_toInt_le, lZ_to h1 h2, lZ_to h3 h4]
theorem lZ_eq {a b : Int} (h1 : -9223372036854775808 ≤ a) (h2 : a < 9223372036854775808) (h3 : -9223372036854775808 ≤ b) (h4 : b < 9223372036854775808) : lZ a = lZ b ↔ a = b := by
  rw [← Int64.toInt_inj, lZ_to h1 h2, lZ_to h3 h4]
theorem iZ_0 : (0 : Int32) = iZ 0 := by decide
theorem iZ_1 : (1 : Int32) = iZ 1 := by decide
theorem iZ_m1 : (-1 : Int32) = iZ (-1) := by decide
theorem lZ_div {a b : Int} (h1 : -9223372036854775808 ≤ a) (h2 : a < 9223372036854775808) (h3 : 0 < b) (h4 : b < 9223372036854775808) : lZ a / lZ b = lZ (a.tdiv b) := by
  rw [← Int64.toInt_inj, Int64.toInt_div, lZ_to h1 h2, lZ_to (by omega) h4]
  have h5 : -9223372036854775808 ≤ a.tdiv b ∧ a.tdiv b < 9223372036854775808 := by
    rcases Int.lt_or_le a 0 with h | h
    · obtain ⟨m, rfl⟩ : ∃ m : Int, a = -m := ⟨-a, by omega⟩
      rw [Int.neg_tdiv]
      have e := Int.tdiv_nonneg (a := m) (b := b) (by omega) (by omega)
      have e2 := Int.tdiv_le_self (a := m) b (by omega)
      omega
    · have e := Int.tdiv_nonneg (a := a) (b := b) h (by omega)
      have e2 := Int.tdiv_le_self (a := a) b h
      omega
  rw [lZ_to h5.1 h5.2, Int.bmod_eq_of_le (by omega) (by omega)]
theorem lZ_i (z : Int) : (lZ z).toInt32 = iZ z := by
  show (Int64.ofInt z).toInt32 = Int32.ofInt z
  simp [Int64.toInt32_ofInt]
theorem iZ_l {z : Int} (h : -2147483648 ≤ z) (h2 : z < 2147483648) : (iZ z).toInt64 = lZ z := by
  rw [← Int64.toInt_inj, Int32.toInt_toInt64, iZ_to h h2, lZ_to (by omega) (by omega)]
theorem vl_un {d : Nat → Nat} {n i x : Nat} (h : i < n) : vl (un d i x) n + d i * BB ^ i = vl d n + x * BB ^ i := by
  induction n with
  | zero => exact absurd h (by omega)
  | succ n ih =>
    show vl (un d i x) n + un d i x n * BB ^ n + d i * BB ^ i = vl d n + d n * BB ^ n + x * BB ^ i
    by_cases e : i = n
    · subst e
      rw [un_s, vl_congr (d := un d i x) (e := d) (fun j hj => un_n (by omega))]
      omega
    · rw [un_n (fun z => e z.symm)]
      have := ih (by omega)
      omega
theorem un_lt {d : Nat → Nat} {n i x k : Nat} (h : ∀ j, j < n → d j < k) (hx : x < k) : ∀ j, j < n → un d i x j < k := by
  intro j hj
  by_cases e : j = i
  · rw [e, un_s]; exact hx
  · rw [un_n e]; exact h j hj
