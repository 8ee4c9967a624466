/-! Newton's rounds for roots of whole numbers: they come down, and soon -/
def isq (N r : Nat) : Prop := r * r ≤ N ∧ N < (r + 1) * (r + 1)
theorem amgm {x y r : Nat} (h : x + y ≤ 2 * r) : x * y ≤ r * r := by
  rcases Nat.le_total x r with q | q
  · obtain ⟨a, rfl⟩ : ∃ a, r = x + a := ⟨r - x, by omega⟩
    have h1 : x * y ≤ x * (x + 2 * a) := Nat.mul_le_mul_left _ (by omega)
    have h2 : (x + a) * (x + a) = x * (x + 2 * a) + a * a := by grind
    omega
  · obtain ⟨a, rfl⟩ : ∃ a, x = r + a := ⟨x - r, by omega⟩
    have h0 : y + a ≤ r := by omega
    obtain ⟨c, rfl⟩ : ∃ c, r = y + a + c := ⟨r - (y + a), by omega⟩
    have h1 : (y + a + c) * (y + a + c) = (y + a + c + a) * y + (a * a + a * c + c * (y + a + c)) := by grind
    omega
theorem isq_u {N r s : Nat} (h : isq N r) (g : isq N s) : r = s := by
  have a1 : ∀ {r s : Nat}, isq N r → isq N s → r ≤ s := by
    intro r s h g
    rcases Nat.lt_or_ge s r with q | q
    · have : (s + 1) * (s + 1) ≤ r * r := Nat.mul_le_mul q q
      have := h.1; have := g.2
      omega
    · exact q
  exact Nat.le_antisymm (a1 h g) (a1 g h)
theorem nw_ge {N r R : Nat} (h : isq N r) (hR : 0 < R) : r ≤ (N / R + R) / 2 := by
  rcases Nat.lt_or_ge ((N / R + R) / 2) r with q | q
  · exfalso
    have h1 : R + (N / R + 1) ≤ 2 * r := by omega
    have h2 := amgm h1
    have h3 := Nat.lt_mul_div_succ N hR
    have h4 := h.1
    omega
  · exact q
theorem nw_lt {N r R : Nat} (h : isq N r) (hR : r < R) : (N / R + R) / 2 < R := by
  have h1 : N < R * R := Nat.lt_of_lt_of_le h.2 (Nat.mul_le_mul hR hR)
  have h2 : N / R < R := Nat.div_lt_of_lt_mul h1
  omega
theorem nw_err {N r E t : Nat} (h : isq N r) (hr : 0 < r) (ht : E * E < 2 * r * t) : (N / (r + E) + (r + E)) / 2 ≤ r + t := by
  rcases Nat.lt_or_ge (r + t) ((N / (r + E) + (r + E)) / 2) with q | q
  · exfalso
    have h1 : r + 2 * t + 2 ≤ N / (r + E) + E := by omega
    have h2 : (r + E) * (N / (r + E)) ≤ N := Nat.mul_div_le N (r + E)
    generalize N / (r + E) = x at *
    have h3 : (r + E) * (r + 2 * t + 2) ≤ (r + E) * (x + E) := Nat.mul_le_mul_left _ h1
    have h4 : (r + E) * (x + E) = (r + E) * x + r * E + E * E := by grind
    have h5 : (r + E) * (r + 2 * t + 2) = r * r + 2 * r * t + 2 * r + r * E + 2 * (E * t) + 2 * E := by grind
    have h6 : N < r * r + 2 * r + 1 := by have := h.2; have e : (r + 1) * (r + 1) = r * r + 2 * r + 1 := by grind
                                          omega
    omega
  · exact q
/-- how near the root is behind k rounds, from M above it on -/
def nwP (k E M : Nat) : Prop := (k = 0 ∧ E ≤ M) ∨ (k = 1 ∧ 2 * E ≤ M + 2) ∨ (∃ j, k = 2 + j ∧ j ≤ 9 ∧ E * 2 ^ (2 ^ (j + 1)) ≤ M) ∨ (E ≤ 1 ∧ k ≤ 12) ∨ (E = 0 ∧ k ≤ 13)
theorem nw_step {N r E M k : Nat} (h : isq N r) (hM : M ≤ r) (h16 : 32 ≤ M) (hM2 : M < 2 ^ 1920) (hE : 0 < E) (hP : nwP k E M) : ∃ E', (N / (r + E) + (r + E)) / 2 = r + E' ∧ E' < E ∧ nwP (k + 1) E' M := by
  have a1 := nw_ge h (show 0 < r + E by omega)
  have a2 := nw_lt h (show r < r + E by omega)
  obtain ⟨E', hE'⟩ : ∃ E', (N / (r + E) + (r + E)) / 2 = r + E' := ⟨(N / (r + E) + (r + E)) / 2 - r, by omega⟩
  refine ⟨E', hE', by omega, ?_⟩
  have hb : ∀ t, E * E < 2 * r * t → E' ≤ t := fun t ht => by
    have := nw_err h (by omega) ht
    omega
  rcases hP with ⟨rfl, h1⟩ | ⟨rfl, h1⟩ | ⟨j, rfl, hj, h1⟩ | ⟨h1, h2⟩ | ⟨h1, h2⟩
  · -- E ≤ M: E' ≤ M / 2 + 1
    refine Or.inr (Or.inl ⟨rfl, ?_⟩)
    have : E' ≤ M / 2 + 1 := hb _ (by
      have q1 : E * E ≤ M * M := Nat.mul_le_mul h1 h1
      have q2 : 2 * M * (M / 2 + 1) ≤ 2 * r * (M / 2 + 1) := Nat.mul_le_mul_right _ (by omega)
      have q3 : M * M < 2 * M * (M / 2 + 1) := by
        have : M < 2 * (M / 2 + 1) := by omega
        have := Nat.mul_lt_mul_of_pos_left this (show 0 < M by omega)
        have e : M * (2 * (M / 2 + 1)) = 2 * M * (M / 2 + 1) := by grind
        omega
      omega)
    omega
  · -- 2 E ≤ M + 2: 4 E' ≤ M
    refine Or.inr (Or.inr (Or.inl ⟨0, rfl, by omega, ?_⟩))
    show E' * 4 ≤ M
    have : E' ≤ M / 4 := hb _ (by
      have q1 : (2 * E) * (2 * E) ≤ (M + 2) * (M + 2) := Nat.mul_le_mul h1 h1
      have q2 : 2 * M * (M / 4) ≤ 2 * r * (M / 4) := Nat.mul_le_mul_right _ (by omega)
      have q3 : (2 * E) * (2 * E) = 4 * (E * E) := by grind
      have q4 : (M + 2) * (M + 2) = M * M + 4 * M + 4 := by grind
      have q5 : M ≤ 4 * (M / 4) + 3 := by omega
      have q6 : M * M ≤ M * (4 * (M / 4) + 3) := Nat.mul_le_mul_left _ q5
      have q7 : M * (4 * (M / 4) + 3) = 4 * (M * (M / 4)) + 3 * M := by grind
      have q8 : 2 * M * (M / 4) = 2 * (M * (M / 4)) := by grind
      have q9 : M * 8 ≤ M * (M / 4) := Nat.mul_le_mul_left _ (by omega)
      omega)
    omega
  · -- E 2^g ≤ M
    have hE2 : E * E * (2 ^ (2 ^ (j + 1)) * 2 ^ (2 ^ (j + 1))) ≤ M * M := by
      have := Nat.mul_le_mul h1 h1
      have e : E * 2 ^ (2 ^ (j + 1)) * (E * 2 ^ (2 ^ (j + 1))) = E * E * (2 ^ (2 ^ (j + 1)) * 2 ^ (2 ^ (j + 1))) := by grind
      omega
    have hgg : 2 ^ (2 ^ (j + 1)) * 2 ^ (2 ^ (j + 1)) = 2 ^ (2 ^ (j + 1 + 1)) := by rw [← Nat.pow_add]; congr 1; rw [Nat.pow_succ 2 (j + 1)]; omega
    rw [hgg] at hE2
    have hGp : 0 < 2 ^ (2 ^ (j + 1 + 1)) := Nat.pow_pos (by decide)
    generalize hG : 2 ^ (2 ^ (j + 1 + 1)) = G at *
    by_cases hlast : j ≤ 8 ∧ 2 * G ≤ M
    · refine Or.inr (Or.inr (Or.inl ⟨j + 1, by omega, by omega, ?_⟩))
      rw [hG]
      have q : E' ≤ M / G := hb _ (by
        -- E E G ≤ M M, so E E < 2 M (M / G)
        have q1 : M < G * (M / G + 1) := Nat.lt_mul_div_succ M hGp
        have q2 : 2 ≤ M / G := (Nat.le_div_iff_mul_le hGp).mpr hlast.2
        have q3 : M * M < M * (G * (M / G + 1)) := Nat.mul_lt_mul_of_pos_left q1 (by omega)
        have q4 : E * E * G < M * (M / G + 1) * G := by
          have : M * (G * (M / G + 1)) = M * (M / G + 1) * G := by grind
          omega
        have q5 := Nat.lt_of_mul_lt_mul_right q4
        have q6 : M * (M / G + 1) ≤ M * (2 * (M / G)) := Nat.mul_le_mul_left _ (by omega)
        have q7 : M * (2 * (M / G)) = 2 * M * (M / G) := by grind
        have q8 : 2 * M * (M / G) ≤ 2 * r * (M / G) := Nat.mul_le_mul_right _ (by omega)
        omega)
      exact Nat.le_trans (Nat.mul_le_mul_right _ q) (Nat.div_mul_le_self _ _)
    · refine Or.inr (Or.inr (Or.inr (Or.inl ⟨?_, by omega⟩)))
      have hMG : M < 2 * G := by
        rcases Nat.lt_or_ge M (2 * G) with z | z
        · exact z
        · have : j = 9 := by omega
          subst this
          have e : G = 2 ^ 2048 := by rw [← hG]
          have : 2 ^ 1920 ≤ 2 ^ 2048 := Nat.pow_le_pow_right (by decide) (by decide)
          rw [e] at z
          omega
      exact hb 1 (by
        have q1 : M * M < M * (2 * G) := Nat.mul_lt_mul_of_pos_left hMG (by omega)
        have q2 : M * (2 * G) = 2 * M * G := by grind
        have q3 : E * E * G < 2 * M * G := by omega
        have q4 := Nat.lt_of_mul_lt_mul_right q3
        have q5 : 2 * M ≤ 2 * r := by omega
        omega)
  · have : E' = 0 := by omega
    exact Or.inr (Or.inr (Or.inr (Or.inr ⟨this, by omega⟩)))
  · omega
