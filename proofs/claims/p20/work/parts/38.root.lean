/-! EnclosedDigits$Bench: startAbove, squareRoot -/
theorem isq_ex (N : Nat) : ∃ r, isq N r := by
  induction N with
  | zero => exact ⟨0, by decide, by decide⟩
  | succ N ih =>
    obtain ⟨r, h1, h2⟩ := ih
    by_cases h : (r + 1) * (r + 1) ≤ N + 1
    · refine ⟨r + 1, h, ?_⟩
      have : (r + 1 + 1) * (r + 1 + 1) = (r + 1) * (r + 1) + 2 * r + 3 := by grind
      omega
    · exact ⟨r, by omega, by omega⟩
theorem shl_1 : ∀ b : Fin 30, lN 1 <<< ((nI b.val).toInt64 &&& 63) = lN (2 ^ b.val) := by decide +kernel
def gd (k E r : Nat) : Prop := (E ≤ 1 ∧ k ≤ 12) ∨ (E = 0 ∧ k ≤ 13) ∨ ∃ M, M ≤ r ∧ 32 ≤ M ∧ M < 2 ^ 1920 ∧ nwP k E M
theorem gd_step {N r E k : Nat} (h : isq N r) (hE : 0 < E) (hG : gd k E r) : k ≤ 12 ∧ ∃ E', (N / (r + E) + (r + E)) / 2 = r + E' ∧ E' < E ∧ gd (k + 1) E' r := by
  rcases hG with ⟨h1, h2⟩ | ⟨h1, h2⟩ | ⟨M, h1, h2, h3, h4⟩
  · have a1 := nw_ge h (show 0 < r + E by omega)
    have a2 := nw_lt h (show r < r + E by omega)
    exact ⟨h2, 0, by omega, by omega, Or.inr (Or.inl ⟨rfl, by omega⟩)⟩
  · omega
  · refine ⟨?_, ?_⟩
    · rcases h4 with ⟨rfl, -⟩ | ⟨rfl, -⟩ | ⟨j, rfl, hj, -⟩ | ⟨-, q⟩ | ⟨q, -⟩ <;> omega
    · obtain ⟨E', e1, e2, e3⟩ := nw_step h h1 h2 h3 hE h4
      exact ⟨E', e1, e2, Or.inr (Or.inr ⟨M, h1, h2, h3, e3⟩)⟩
theorem gd_k {k E r : Nat} (h : gd k E r) : k ≤ 13 := by
  rcases h with ⟨h1, h2⟩ | ⟨h1, h2⟩ | ⟨M, h1, h2, h3, h4⟩
  · omega
  · exact h2
  · rcases h4 with ⟨rfl, -⟩ | ⟨rfl, -⟩ | ⟨j, rfl, hj, -⟩ | ⟨-, q⟩ | ⟨-, q⟩ <;> omega
/-- the next level: from one more than the root of fewer pairs -/
theorem lev {N u m r : Nat} (hm : m ≤ u) (hm1 : 1 ≤ m) (hm2 : m ≤ 64) (h : isq (N / BB ^ (2 * u)) r) (hr : 1 ≤ r) : ∃ r' E, isq (N / BB ^ (2 * (u - m))) r' ∧ (r + 1) * BB ^ m = r' + E ∧ 1 ≤ r' ∧ gd 0 E r' := by
  obtain ⟨r', h'⟩ := isq_ex (N / BB ^ (2 * (u - m)))
  have hP := pw_pos m
  have e1 : N / BB ^ (2 * u) = N / BB ^ (2 * (u - m)) / (BB ^ m * BB ^ m) := by
    rw [Nat.div_div_eq_div_mul, ← Nat.pow_add, ← Nat.pow_add]; congr 2; omega
  generalize N / BB ^ (2 * (u - m)) = N' at *
  rw [e1] at h
  have hPP : 0 < BB ^ m * BB ^ m := Nat.mul_pos hP hP
  have hd := Nat.div_add_mod N' (BB ^ m * BB ^ m)
  have hml := Nat.mod_lt N' hPP
  generalize N' / (BB ^ m * BB ^ m) = A at *
  have hM : BB ^ m < 2 ^ 1920 := Nat.lt_of_le_of_lt (pw_mono hm2) (by decide +kernel)
  have hM2 : BB ^ 1 ≤ BB ^ m := pw_mono hm1
  generalize BB ^ m = P at *
  -- r P ≤ r'
  have h1 : r * P ≤ r' := by
    rcases Nat.lt_or_ge r' (r * P) with q | q
    · have q1 : (r' + 1) * (r' + 1) ≤ r * P * (r * P) := Nat.mul_le_mul q q
      have q2 : r * P * (r * P) = r * r * (P * P) := by grind
      have q3 : r * r * (P * P) ≤ A * (P * P) := Nat.mul_le_mul_right _ h.1
      have q4 : A * (P * P) = P * P * A := Nat.mul_comm _ _
      have := h'.2
      omega
    · exact q
  -- r' < (r + 1) P
  have h2 : r' < (r + 1) * P := by
    rcases Nat.lt_or_ge r' ((r + 1) * P) with q | q
    · exact q
    · have q1 : (r + 1) * P * ((r + 1) * P) ≤ r' * r' := Nat.mul_le_mul q q
      have q2 : (r + 1) * P * ((r + 1) * P) = (r + 1) * (r + 1) * (P * P) := by grind
      have q3 : (A + 1) * (P * P) ≤ (r + 1) * (r + 1) * (P * P) := Nat.mul_le_mul_right _ h.2
      have q4 : (A + 1) * (P * P) = P * P * A + P * P := by grind
      have := h'.1
      omega
  have h3 : (r + 1) * P = r * P + P := by rw [Nat.add_mul, Nat.one_mul]
  have h4 : 1 * P ≤ r * P := Nat.mul_le_mul_right _ hr
  have hBv : BB ^ 1 = 1000000000 := rfl
  exact ⟨r', (r + 1) * P - r', h', by omega, by omega, Or.inr (Or.inr ⟨P, by omega, by omega, hM, Or.inl ⟨rfl, by omega⟩⟩)⟩
section root
variable {X : en_X} {σ : en_S} {D : List Nat} {S : Nat → en_B} {V : Nat → Int}
theorem C_start_loop {ρ : en_S} {top : Nat} {Q : Option Value → en_S → Prop} (ht : top < 1000000000000000000) (k : ∀ s, isq top s → s < 2 ^ 30 → Q (some (.long (lN (s + 1)))) σ) :
    ∀ (t s : Nat), t ≤ 30 → s * s ≤ top → top < (s + 2 ^ t) * (s + 2 ^ t) → s + 2 ^ t ≤ 2 ^ 30 → WA X M_X0_startAbove ρ 31 [(6, .int (iZ ((t : Int) - 1))), (4, .long (lN s)), (2, .long (lN top))] [] σ Q := by
  intro t
  induction t with
  | zero =>
    intro s h0 h1 h2 h3
    refine wa_iload q_X0_startAbove_31 rfl ?_
    refine wa_if_lt q_X0_startAbove_33 (fun hc => ?_) (fun hc => absurd (by decide) hc)
    refine wa_lload q_X0_startAbove_65 rfl ?_
    refine wa_lconst q_X0_startAbove_67 (v := lN 1) (by decide) ?_
    refine wn_ladd q_X0_startAbove_68 ?_
    refine wa_lret q_X0_startAbove_69 rfl ?_
    exact k s ⟨h1, h2⟩ (by omega)
  | succ t ih =>
    intro s h0 h1 h2 h3
    have e0 : iZ (((t + 1 : Nat) : Int) - 1) = nI t := by rw [nI_iZ]; congr 1; omega
    rw [e0]
    have hp : 2 ^ (t + 1) = 2 * 2 ^ t := by rw [Nat.pow_succ]; omega
    rw [hp] at h2 h3
    have h30 : s + 2 ^ t < 2 ^ 30 := by have : 0 < 2 ^ t := Nat.pow_pos (by decide); omega
    refine wa_iload q_X0_startAbove_31 rfl ?_
    refine wn_if_lt q_X0_startAbove_33 (by omega) (fun hc => ?_) (fun hc => ?_)
    · exact absurd hc id
    · refine wa_lload q_X0_startAbove_36 rfl ?_
      refine wa_lconst q_X0_startAbove_38 (v := lN 1) (by decide) ?_
      refine wa_iload q_X0_startAbove_39 rfl ?_
      refine wa_lshl q_X0_startAbove_41 (shl_1 ⟨t, by omega⟩) ?_
      show WA X M_X0_startAbove ρ 42 _ (.long (lN (2 ^ t)) :: .long (lN s) :: []) σ Q
      have hsq : (s + 2 ^ t) * (s + 2 ^ t) < 2 ^ 63 := Nat.lt_of_lt_of_le (Nat.mul_lt_mul'' h30 h30) (by decide)
      refine wn_ladd q_X0_startAbove_42 ?_
      refine wa_lstore q_X0_startAbove_43 (by decide) ?_
      refine wa_lload q_X0_startAbove_45 rfl ?_
      refine wa_lload q_X0_startAbove_47 rfl ?_
      refine wn_lmul q_X0_startAbove_49 ?_
      refine wa_lload_n q_X0_startAbove_50 rfl ?_
      refine wn_lcmp_gt q_X0_startAbove_51 q_X0_startAbove_52 (by omega) (by omega) (fun hd => ?_) (fun hd => ?_)
      · refine wa_iinc q_X0_startAbove_59 rfl (v := iZ ((t : Int) - 1)) (by rw [nI_iZ]; exact iZ_add _ _) (by decide) ?_
        refine wa_goto q_X0_startAbove_62 ?_
        exact wa_lv (ih s (by omega) h1 hd (by omega)) rfl
      · refine wa_lload q_X0_startAbove_55 rfl ?_
        refine wa_lstore q_X0_startAbove_57 (by decide) ?_
        refine wa_iinc q_X0_startAbove_59 rfl (v := iZ ((t : Int) - 1)) (by rw [nI_iZ]; exact iZ_add _ _) (by decide) ?_
        refine wa_goto q_X0_startAbove_62 ?_
        refine wa_lv (ih (s + 2 ^ t) (by omega) hd ?_ (by omega)) rfl
        rw [show s + 2 ^ t + 2 ^ t = s + 2 * 2 ^ t by omega]; exact h2
theorem V_start {a u : Nat} (h : bw_V X D σ S V) (ha : a ∈ D) (hu : u ≤ 100) (hz : (V a).natAbs < BB ^ (2 * u + 2)) : Calls X M_X0_startAbove [.ref a, .int (nI u)] σ (fun res τ => (∃ s, res = some (.long (lN (s + 1))) ∧ isq ((V a).natAbs / BB ^ (2 * u)) s ∧ s < 2 ^ 30) ∧ τ = σ) := by
  obtain ⟨a1, -, -, -, -, -, -⟩ := h.1.1 a ha
  obtain ⟨va, wa, na⟩ := h.2 a ha
  have hB : BB = 1000000000 := rfl
  refine Calls.of rfl (lk rfl) ?_
  refine wa_aload_n q_X0_startAbove_0 rfl ?_
  refine wa_iconst q_X0_startAbove_1 (v := nI 2) (by decide) ?_
  refine wa_iload_n q_X0_startAbove_2 rfl ?_
  refine wn_imul q_X0_startAbove_3 ?_
  refine wa_iconst q_X0_startAbove_4 (v := nI 1) (by decide) ?_
  refine wn_iadd q_X0_startAbove_5 ?_
  refine wa_callV q_X0_startAbove_6 g_X0_startAbove_6 w_X1_limbAt (by assumption) rfl (av := [_]) rfl rfl (lk rfl) (Calls.mono (C_limbAt h.1 ha (by omega)) ?_)
  rintro _ _ ⟨rfl, rfl⟩
  rw [vl_dig na.1, wa]
  have m1 := Nat.mod_lt ((V a).natAbs / BB ^ (2 * u + 1)) BB_pos
  have m0 := Nat.mod_lt ((V a).natAbs / BB ^ (2 * u)) BB_pos
  refine wn_i2l q_X0_startAbove_9 (by omega) ?_
  refine wa_ldc2 q_X0_startAbove_10 k_RX0_83 ?_
  refine wn_lmul q_X0_startAbove_13 ?_
  refine wa_aload_n q_X0_startAbove_14 rfl ?_
  refine wa_iconst q_X0_startAbove_15 (v := nI 2) (by decide) ?_
  refine wa_iload_n q_X0_startAbove_16 rfl ?_
  refine wn_imul q_X0_startAbove_17 ?_
  refine wa_callV q_X0_startAbove_18 g_X0_startAbove_18 w_X1_limbAt (by assumption) rfl (av := [_]) rfl rfl (lk rfl) (Calls.mono (C_limbAt h.1 ha (by omega)) ?_)
  rintro _ _ ⟨rfl, rfl⟩
  rw [vl_dig na.1, wa]
  refine wn_i2l q_X0_startAbove_21 (by omega) ?_
  refine wn_ladd q_X0_startAbove_22 ?_
  have ht : (V a).natAbs / BB ^ (2 * u + 1) % BB * 1000000000 + (V a).natAbs / BB ^ (2 * u) % BB = (V a).natAbs / BB ^ (2 * u) := by
    have e1 : (V a).natAbs / BB ^ (2 * u + 1) = (V a).natAbs / BB ^ (2 * u) / BB := by rw [Nat.pow_succ, Nat.div_div_eq_div_mul]
    have e2 : (V a).natAbs / BB ^ (2 * u) < BB * BB := Nat.div_lt_of_lt_mul (by rw [← Nat.mul_assoc, ← Nat.pow_succ, ← Nat.pow_succ]; exact hz)
    rw [e1]
    generalize (V a).natAbs / BB ^ (2 * u) = x at *
    have e3 : x / BB < BB := Nat.div_lt_of_lt_mul e2
    rw [Nat.mod_eq_of_lt e3]
    have := Nat.div_add_mod x BB
    rw [hB] at this ⊢
    omega
  rw [ht]
  have hlt : (V a).natAbs / BB ^ (2 * u) < 1000000000000000000 := Nat.div_lt_of_lt_mul (by
    have : BB ^ (2 * u) * 1000000000000000000 = BB ^ (2 * u + 2) := by rw [Nat.pow_succ, Nat.pow_succ, Nat.mul_assoc]; rfl
    rw [this]; exact hz)
  refine wa_lstore_n q_X0_startAbove_23 (by decide) ?_
  refine wa_lconst q_X0_startAbove_24 (v := lN 0) (by decide) ?_
  refine wa_lstore q_X0_startAbove_25 (by decide) ?_
  refine wa_bipush q_X0_startAbove_27 (v := nI 29) (by decide) ?_
  refine wa_istore q_X0_startAbove_29 (by decide) ?_
  refine wa_lv (C_start_loop hlt ?_ 30 0 (Nat.le_refl _) (Nat.zero_le _) ?_ (by decide)) rfl
  · intro s s1 s2
    exact ⟨⟨s, rfl, s1, s2⟩, rfl⟩
  · refine Nat.lt_of_lt_of_le hlt (by decide)
end root
