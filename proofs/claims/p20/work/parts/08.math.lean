/-! Numbers of limbs below 10^9. -/
def BB : Nat := 1000000000
theorem BB_pos : 0 < BB := by decide
/-- the number that the lowest n limbs are -/
def vl (d : Nat → Nat) : Nat → Nat
  | 0 => 0
  | n + 1 => vl d n + d n * BB ^ n
/-- the place above the highest limb that is not 0, at most sz -/
def tp (d : Nat → Nat) : Nat → Nat
  | 0 => 0
  | n + 1 => if d n = 0 then tp d n else n + 1
theorem tp_le (d : Nat → Nat) (n : Nat) : tp d n ≤ n := by
  induction n with
  | zero => exact Nat.le_refl _
  | succ n ih => unfold tp; split <;> omega
theorem tp_top (d : Nat → Nat) (n : Nat) : tp d n = 0 ∨ d (tp d n - 1) ≠ 0 := by
  induction n with
  | zero => exact Or.inl rfl
  | succ n ih =>
    unfold tp
    split
    · exact ih
    · exact Or.inr (by assumption)
theorem vl_tp (d : Nat → Nat) (n : Nat) : vl d (tp d n) = vl d n := by
  induction n with
  | zero => rfl
  | succ n ih =>
    unfold tp
    split
    · rename_i h
      rw [ih]
      conv => rhs; unfold vl
      rw [h, Nat.zero_mul, Nat.add_zero]
    · rfl
theorem vl_congr {d e : Nat → Nat} {n : Nat} (h : ∀ i, i < n → d i = e i) : vl d n = vl e n := by
  induction n with
  | zero => rfl
  | succ n ih =>
    unfold vl
    rw [ih (fun i hi => h i (by omega)), h n (by omega)]
theorem vl_lt {d : Nat → Nat} {n : Nat} (h : ∀ i, i < n → d i < BB) : vl d n < BB ^ n := by
  induction n with
  | zero => exact Nat.zero_lt_one
  | succ n ih =>
    unfold vl
    have h1 := ih (fun i hi => h i (by omega))
    have h2 := h n (by omega)
    have h3 : (d n + 1) * BB ^ n ≤ BB * BB ^ n := Nat.mul_le_mul_right _ h2
    rw [Nat.add_mul, Nat.one_mul] at h3
    rw [Nat.pow_succ, Nat.mul_comm (BB ^ n) BB]
    omega
theorem vl_ge {d : Nat → Nat} {n : Nat} (h : d n ≠ 0) : BB ^ n ≤ vl d (n + 1) := by
  unfold vl
  have h1 : 1 * BB ^ n ≤ d n * BB ^ n := Nat.mul_le_mul_right _ (Nat.pos_of_ne_zero h)
  omega
theorem vl_pad {d : Nat → Nat} {n m : Nat} (hnm : n ≤ m) (h : ∀ i, n ≤ i → i < m → d i = 0) : vl d m = vl d n := by
  induction m with
  | zero => rw [Nat.le_zero.mp hnm]
  | succ m ih =>
    by_cases e : n = m + 1
    · rw [e]
    · show vl d m + d m * BB ^ m = vl d n
      rw [h m (by omega) (by omega), Nat.zero_mul, Nat.add_zero]
      exact ih (by omega) (fun i h1 h2 => h i h1 (by omega))
theorem vl_zero {d : Nat → Nat} {n : Nat} (h : ∀ i, i < n → d i = 0) : vl d n = 0 := by
  rw [vl_pad (Nat.zero_le n) (fun i _ hi => h i hi)]; rfl
theorem pw_pos (n : Nat) : 0 < BB ^ n := Nat.pow_pos BB_pos
theorem pw_mono {a b : Nat} (h : a ≤ b) : BB ^ a ≤ BB ^ b := Nat.pow_le_pow_right BB_pos h
/-- the number by its lowest limb -/
theorem vl_low (d : Nat → Nat) (n : Nat) : vl d (n + 1) = d 0 + BB * vl (fun i => d (i + 1)) n := by
  induction n with
  | zero => show 0 + d 0 * BB ^ 0 = d 0 + BB * 0; simp
  | succ n ih =>
    have e : vl d (n + 1 + 1) = vl d (n + 1) + d (n + 1) * BB ^ (n + 1) := rfl
    have e2 : vl (fun i => d (i + 1)) (n + 1) = vl (fun i => d (i + 1)) n + d (n + 1) * BB ^ n := rfl
    rw [e, ih, e2, Nat.mul_add, Nat.pow_succ, Nat.add_assoc]
    congr 2
    rw [Nat.mul_comm (BB ^ n) BB, ← Nat.mul_assoc, ← Nat.mul_assoc, Nat.mul_comm BB]
theorem vl_add (d : Nat → Nat) (k n : Nat) : vl d (k + n) = vl d k + BB ^ k * vl (fun i => d (k + i)) n := by
  induction n with
  | zero => simp [vl]
  | succ n ih =>
    have e : vl d (k + (n + 1)) = vl d (k + n) + d (k + n) * BB ^ (k + n) := rfl
    have e2 : vl (fun i => d (k + i)) (n + 1) = vl (fun i => d (k + i)) n + d (k + n) * BB ^ n := rfl
    rw [e, ih, e2, Nat.mul_add, Nat.pow_add, Nat.add_assoc]
    congr 2
    rw [← Nat.mul_assoc, ← Nat.mul_assoc, Nat.mul_comm (BB ^ k)]
/-- sizes of numbers whose highest limb is not 0 -/
def nrm (d : Nat → Nat) (n : Nat) : Prop := (∀ i, i < n → d i < BB) ∧ (n = 0 ∨ d (n - 1) ≠ 0)
theorem nrm_lt {d e : Nat → Nat} {n m : Nat} (hd : nrm d n) (he : nrm e m) (h : n < m) : vl d n < vl e m := by
  have h1 := vl_lt hd.1
  have h2 : BB ^ (m - 1) ≤ vl e m := by
    have := vl_ge (d := e) (n := m - 1) (he.2.resolve_left (by omega))
    rw [Nat.sub_add_cancel (by omega)] at this
    exact this
  have h3 := pw_mono (a := n) (b := m - 1) (by omega)
  omega
theorem nrm_le {d : Nat → Nat} {n k : Nat} (hd : nrm d n) (h : vl d n < BB ^ k) : n ≤ k := by
  rcases Nat.lt_or_ge k n with h1 | h1
  · have h2 := vl_ge (d := d) (n := n - 1) (hd.2.resolve_left (by omega))
    rw [Nat.sub_add_cancel (by omega)] at h2
    have h3 := pw_mono (a := k) (b := n - 1) (by omega)
    omega
  · exact h1
theorem nrm_zero {d : Nat → Nat} {n : Nat} (hd : nrm d n) : vl d n = 0 ↔ n = 0 := by
  constructor
  · intro h
    have := nrm_le (k := 0) hd (by rw [h]; decide)
    omega
  · intro h; rw [h]; rfl
theorem vl_cmp {d e : Nat → Nat} {n k : Nat} (hk : k < n) (hd : ∀ i, i < n → d i < BB) (he : ∀ i, i < n → e i < BB) (hs : ∀ i, k < i → i < n → d i = e i) (h : d k < e k) : vl d n < vl e n := by
  induction n with
  | zero => exact absurd hk (by omega)
  | succ n ih =>
    unfold vl
    by_cases e1 : k = n
    · subst e1
      have h1 := vl_lt (d := d) (n := k) (fun i hi => hd i (by omega))
      have h2 : (d k + 1) * BB ^ k ≤ e k * BB ^ k := Nat.mul_le_mul_right _ h
      rw [Nat.add_mul, Nat.one_mul] at h2
      omega
    · have := ih (by omega) (fun i hi => hd i (by omega)) (fun i hi => he i (by omega)) (fun i h1 h2 => hs i h1 (by omega))
      rw [hs n (by omega) (by omega)]
      omega
def sgI (v : Int) : Int32 := if v < 0 then -1 else if v = 0 then 0 else 1
theorem sgI_neg (v : Int) : sgI (-v) = -sgI v := by
  unfold sgI
  rcases Int.lt_trichotomy v 0 with h | h | h
  · rw [if_neg (by omega), if_neg (by omega), if_pos h]; decide
  · subst h; decide
  · rw [if_pos (by omega), if_neg (by omega), if_neg (by omega)]
theorem sgI_mul (v w : Int) : sgI (v * w) = sgI v * sgI w := by
  unfold sgI
  rcases Int.lt_trichotomy v 0 with h | h | h <;> rcases Int.lt_trichotomy w 0 with g | g | g
  · have := Int.mul_pos_of_neg_of_neg h g
    rw [if_neg (by omega), if_neg (by omega), if_pos h, if_pos g]; decide
  · subst g; rw [Int.mul_zero, if_pos h]; decide
  · have := Int.mul_neg_of_neg_of_pos h g
    rw [if_pos (by omega), if_pos h, if_neg (by omega), if_neg (by omega)]; decide
  · subst h; rw [Int.zero_mul, if_neg (by omega), if_pos rfl]; simp
  · subst h; subst g; decide
  · subst h; rw [Int.zero_mul]; rw [if_neg (by omega), if_pos rfl]; simp
  · have := Int.mul_neg_of_pos_of_neg h g
    rw [if_pos (by omega), if_neg (by omega), if_neg (by omega), if_pos g]; decide
  · subst g; rw [Int.mul_zero]; simp
  · have := Int.mul_pos h g
    rw [if_neg (by omega), if_neg (by omega), if_neg (by omega), if_neg (by omega), if_neg (by omega), if_neg (by omega)]; decide
