/-! Long division by limbs: the guess of a limb -/
theorem kn_norm {t s : Nat} (h1 : 1 ≤ t) (h2 : t < BB) (hs : s = BB / (t + 1)) : 500000000 ≤ s * t ∧ s * (t + 1) ≤ BB ∧ 1 ≤ s := by
  have hB : BB = 1000000000 := rfl
  have hq := Nat.div_add_mod BB (t + 1)
  have hm := Nat.mod_lt BB (show 0 < t + 1 by omega)
  have hs1 : 1 ≤ BB / (t + 1) := (Nat.one_le_div_iff (by omega)).mpr (by omega)
  rw [← hs] at hq hs1
  have e1 : (t + 1) * s = s * t + s := by rw [Nat.add_mul, Nat.one_mul, Nat.mul_comm]
  obtain ⟨s', rfl⟩ : ∃ s', s = s' + 1 := ⟨s - 1, by omega⟩
  obtain ⟨t', rfl⟩ : ∃ t', t = t' + 1 := ⟨t - 1, by omega⟩
  have e2 : (s' + 1) * (t' + 1) = s' * t' + s' + t' + 1 := by grind
  have e3 : (s' + 1) * (t' + 1 + 1) = (s' + 1) * (t' + 1) + (s' + 1) := by grind
  omega
/-- the guess goes not too far, where it stays -/
theorem kn_A {g b v1 v2 rh un un1 un2 P Vl Ul : Nat} (h1 : g * v1 + rh = un * b + un1) (h2 : g * v2 ≤ rh * b + un2) (hg : g < b) (hv : 1 ≤ v1) (hVl : Vl < P) : g * ((v1 * b + v2) * P + Vl) ≤ ((un * b + un1) * b + un2) * P + Ul + ((v1 * b + v2) * P + Vl) := by
  have e1 : g * (v1 * b + v2) ≤ (un * b + un1) * b + un2 := by
    rw [← h1]
    have : g * (v1 * b + v2) = g * v1 * b + g * v2 := by grind
    have : (g * v1 + rh) * b = g * v1 * b + rh * b := Nat.add_mul _ _ _
    omega
  have e2 : g * (v1 * b + v2) * P ≤ ((un * b + un1) * b + un2) * P := Nat.mul_le_mul_right _ e1
  have e3 : g ≤ v1 * b + v2 := by
    have : 1 * b ≤ v1 * b := Nat.mul_le_mul_right _ hv
    omega
  have e4 : g * P ≤ (v1 * b + v2) * P := Nat.mul_le_mul_right _ e3
  have e5 : g * Vl ≤ g * P := Nat.mul_le_mul_left _ (by omega)
  have e6 : g * ((v1 * b + v2) * P + Vl) = g * (v1 * b + v2) * P + g * Vl := by rw [Nat.mul_add, Nat.mul_assoc]
  omega
/-- a guess that is put one lower was too great -/
theorem kn_B1 {g b U V : Nat} (hU : U < V * b) (hg : b ≤ g) : U < g * V := by
  have : V * b ≤ g * V := by rw [Nat.mul_comm]; exact Nat.mul_le_mul_right _ hg
  omega
theorem kn_B2 {g b v1 v2 rh un un1 un2 P Vl Ul : Nat} (h1 : g * v1 + rh = un * b + un1) (h2 : rh * b + un2 < g * v2) (hUl : Ul < P) : ((un * b + un1) * b + un2) * P + Ul < g * ((v1 * b + v2) * P + Vl) := by
  have e1 : (un * b + un1) * b + un2 + 1 ≤ g * (v1 * b + v2) := by
    rw [← h1]
    have : g * (v1 * b + v2) = g * v1 * b + g * v2 := by grind
    have : (g * v1 + rh) * b = g * v1 * b + rh * b := Nat.add_mul _ _ _
    omega
  have e2 : ((un * b + un1) * b + un2 + 1) * P ≤ g * (v1 * b + v2) * P := Nat.mul_le_mul_right _ e1
  have e3 : ((un * b + un1) * b + un2 + 1) * P = ((un * b + un1) * b + un2) * P + P := by rw [Nat.add_mul, Nat.one_mul]
  have e6 : g * ((v1 * b + v2) * P + Vl) = g * (v1 * b + v2) * P + g * Vl := by rw [Nat.mul_add, Nat.mul_assoc]
  have : 0 ≤ g * Vl := Nat.zero_le _
  omega
/-- the first guess isn't too small -/
theorem kn_C {b v1 v2 un un1 un2 P Vl Ul : Nat} (hv : 0 < v1) (h2 : un2 < b) (hUl : Ul < P) : ((un * b + un1) * b + un2) * P + Ul < ((un * b + un1) / v1 + 1) * ((v1 * b + v2) * P + Vl) := by
  have hq := Nat.div_add_mod (un * b + un1) v1
  have hm := Nat.mod_lt (un * b + un1) hv
  generalize (un * b + un1) / v1 = g at *
  generalize (un * b + un1) % v1 = m at *
  generalize un * b + un1 = top at *
  have e1 : top + 1 ≤ (g + 1) * v1 := by rw [Nat.add_mul, Nat.one_mul, Nat.mul_comm g]; omega
  have e2 : (top + 1) * b ≤ (g + 1) * v1 * b := Nat.mul_le_mul_right _ e1
  have e3 : (top + 1) * b = top * b + b := by rw [Nat.add_mul, Nat.one_mul]
  have e4 : (top * b + un2 + 1) * P ≤ (g + 1) * v1 * b * P := Nat.mul_le_mul_right _ (by omega)
  have e5 : (top * b + un2 + 1) * P = (top * b + un2) * P + P := by rw [Nat.add_mul, Nat.one_mul]
  have e6 : (g + 1) * ((v1 * b + v2) * P + Vl) = (g + 1) * v1 * b * P + ((g + 1) * v2 * P + (g + 1) * Vl) := by grind
  omega
/-- the highest limb of the window isn't above the divisor's -/
theorem kn_D {b v1 v2 un un1 un2 P Vl Ul : Nat} (h2 : v2 < b) (hVl : Vl < P) (hU : ((un * b + un1) * b + un2) * P + Ul < ((v1 * b + v2) * P + Vl) * b) : un ≤ v1 := by
  rcases Nat.lt_or_ge v1 un with h | h
  · exfalso
    have e1 : ((v1 + 1) * b * b) * P ≤ (un * b * b) * P := Nat.mul_le_mul_right _ (Nat.mul_le_mul_right _ (Nat.mul_le_mul_right _ h))
    have e2 : (v2 + 1) * P * b ≤ b * P * b := Nat.mul_le_mul_right _ (Nat.mul_le_mul_right _ h2)
    have e3 : (Vl + 1) * b ≤ P * b := Nat.mul_le_mul_right _ hVl
    have e4 : ((un * b + un1) * b + un2) * P + Ul = un * b * b * P + (un1 * b * P + un2 * P + Ul) := by grind
    have e5 : ((v1 * b + v2) * P + Vl) * b = v1 * b * b * P + v2 * P * b + Vl * b := by grind
    have e6 : (v1 + 1) * b * b * P = v1 * b * b * P + b * P * b := by grind
    have e7 : (v2 + 1) * P * b = v2 * P * b + P * b := by grind
    have e8 : (Vl + 1) * b = Vl * b + b := by grind
    omega
  · exact h
