/-! EnclosedDigits$Big: digitAt, digitCount, clamped -/
theorem vl_dig {d : Nat → Nat} {n q : Nat} (h : ∀ i, i < n → d i < BB) : (if q < n then d q else 0) = vl d n / BB ^ q % BB := by
  rcases Nat.lt_or_ge q n with g | g
  · rw [if_pos g]
    have e := vl_add d q (n - q)
    rw [Nat.add_sub_cancel' (by omega)] at e
    rw [e, Nat.add_comm, Nat.mul_add_div (pw_pos q), Nat.div_eq_of_lt (vl_lt (fun i hi => h i (by omega))), Nat.add_zero]
    rw [show n - q = n - q - 1 + 1 by omega, vl_low]
    show d q = (d (q + 0) + BB * _) % BB
    rw [Nat.add_zero, Nat.add_mul_mod_self_left, Nat.mod_eq_of_lt (h q g)]
  · rw [if_neg (by omega), Nat.div_eq_of_lt (Nat.lt_of_lt_of_le (vl_lt h) (pw_mono g)), Nat.zero_mod]
theorem dig_low {x s : Nat} (hs : s < 9) : x % BB / 10 ^ s % 10 = x / 10 ^ s % 10 := by
  have e : BB = 10 ^ s * (10 * 10 ^ (8 - s)) := by
    rw [← Nat.mul_assoc, ← Nat.pow_succ, ← Nat.pow_add, show s + 1 + (8 - s) = 9 by omega]; rfl
  rw [e, Nat.mod_mul_right_div_self, Nat.mod_mul_right_mod]
/-- c digits -/
def isD (m c : Nat) : Prop := m < 10 ^ c ∧ (c = 0 ∨ 10 ^ (c - 1) ≤ m)
theorem isD_u {m c e : Nat} (h : isD m c) (g : isD m e) : c = e := by
  have a1 : ∀ {c e : Nat}, isD m c → isD m e → c ≤ e := by
    intro c e h g
    rcases Nat.lt_or_ge e c with q | q
    · have h2 := h.2.resolve_left (by omega)
      have h3 : 10 ^ e ≤ 10 ^ (c - 1) := Nat.pow_le_pow_right (by decide) (by omega)
      have h4 := g.1
      omega
    · exact q
  exact Nat.le_antisymm (a1 h g) (a1 g h)
section bigA
variable {X : en_X} {σ : en_S} {D : List Nat} {S : Nat → en_B} {V : Nat → Int}
theorem V_digitAt {a i : Nat} (h : bw_V X D σ S V) (ha : a ∈ D) (hi : i < 2 ^ 31) : Calls X M_X1_digitAt [.ref a, .int (nI i)] σ (fun res τ => res = some (.int (nI ((V a).natAbs / 10 ^ i % 10))) ∧ τ = σ) := by
  obtain ⟨a1, a2, a3, a4, a5, a6, a7⟩ := h.1.1 a ha
  obtain ⟨va, wa, na⟩ := h.2 a ha
  have hB : BB = 1000000000 := rfl
  refine Calls.of rfl (lk rfl) ?_
  refine wa_iload_n q_X1_digitAt_0 rfl ?_
  refine wn_if_ge q_X1_digitAt_1 (by omega) (fun hc => ?_) (fun hc => ?_)
  · refine wa_aload_n q_X1_digitAt_8 rfl ?_
    refine wa_iload_n q_X1_digitAt_9 rfl ?_
    refine wa_bipush q_X1_digitAt_10 (v := nI 9) (by decide) ?_
    refine wn_idiv q_X1_digitAt_12 (by omega) (by omega) (by omega) ?_
    refine wa_callV q_X1_digitAt_13 g_X1_digitAt_13 w_X1_limbAt (by assumption) rfl (av := [_]) rfl rfl (lk rfl) (Calls.mono (C_limbAt h.1 ha (by omega)) ?_)
    rintro _ _ ⟨rfl, rfl⟩
    rw [vl_dig na.1, wa]
    have hl := Nat.mod_lt ((V a).natAbs / BB ^ (i / 9)) BB_pos
    refine wa_tensN q_X1_digitAt_16 s_RX1_66 ?_
    refine wa_iload_n q_X1_digitAt_19 rfl ?_
    refine wa_bipush q_X1_digitAt_20 (v := nI 9) (by decide) ?_
    refine wn_irem q_X1_digitAt_22 (by omega) (by omega) (by omega) ?_
    refine wn_tald q_X1_digitAt_23 (by omega) ?_
    have h9 : 10 ^ (i % 9) ≤ 10 ^ 8 := Nat.pow_le_pow_right (by decide) (by omega)
    have h9' : (10 : Nat) ^ 8 = 100000000 := by decide
    have h9p : 0 < 10 ^ (i % 9) := Nat.pow_pos (by decide)
    have hle : (V a).natAbs / BB ^ (i / 9) % BB / 10 ^ (i % 9) ≤ (V a).natAbs / BB ^ (i / 9) % BB := Nat.div_le_self _ _
    refine wn_idiv q_X1_digitAt_24 (by omega) h9p (by omega) ?_
    refine wa_bipush q_X1_digitAt_25 (v := nI 10) (by decide) ?_
    refine wn_irem q_X1_digitAt_27 (by omega) (by omega) (by omega) ?_
    refine wa_iret q_X1_digitAt_28 rfl ?_
    refine ⟨?_, rfl⟩
    rw [dig_low (by omega), pw_ten, Nat.div_div_eq_div_mul, ← Nat.pow_add, show 9 * (i / 9) + i % 9 = i by omega]
  · exact absurd hc id
theorem C_dC_loop {ρ : en_S} {a x : Nat} {Q : Option Value → en_S → Prop} (hx : x < BB) (k : ∀ c, isD x c → c ≤ 9 → WA X M_X1_digitCount ρ 36 [(2, .int (nI c)), (0, .ref a)] [] σ Q) :
    ∀ (t i : Nat), 9 - i = t → i ≤ 9 → (i = 0 ∨ 10 ^ (i - 1) ≤ x) → WA X M_X1_digitCount ρ 13 [(2, .int (nI i)), (1, .int (nI x)), (0, .ref a)] [] σ Q := by
  have hB : BB = 1000000000 := rfl
  intro t
  induction t with
  | zero =>
    intro i ht hi h1
    have e : i = 9 := by omega
    subst e
    refine wa_iload_n q_X1_digitCount_13 rfl ?_
    refine wa_tensN q_X1_digitCount_14 s_RX1_66 ?_
    refine wa_talen q_X1_digitCount_17 ?_
    rw [show (9 : Int32) = nI 9 by decide]
    refine wn_icmp_ge q_X1_digitCount_18 (by omega) (by omega) (fun hc => ?_) (fun hc => ?_)
    · exact wa_lv (k 9 ⟨hx, h1⟩ (by omega)) rfl
    · exact absurd hc (by omega)
  | succ t ih =>
    intro i ht hi h1
    refine wa_iload_n q_X1_digitCount_13 rfl ?_
    refine wa_tensN q_X1_digitCount_14 s_RX1_66 ?_
    refine wa_talen q_X1_digitCount_17 ?_
    rw [show (9 : Int32) = nI 9 by decide]
    refine wn_icmp_ge q_X1_digitCount_18 (by omega) (by omega) (fun hc => ?_) (fun hc => ?_)
    · exact absurd hc (by omega)
    · refine wa_iload_n q_X1_digitCount_21 rfl ?_
      refine wa_tensN q_X1_digitCount_22 s_RX1_66 ?_
      refine wa_iload_n q_X1_digitCount_25 rfl ?_
      refine wn_tald q_X1_digitCount_26 (by omega) ?_
      have h9 : 10 ^ i ≤ 10 ^ 8 := Nat.pow_le_pow_right (by decide) (by omega)
      have h9' : (10 : Nat) ^ 8 = 100000000 := by decide
      refine wn_icmp_lt q_X1_digitCount_27 (by omega) (by omega) (fun hd => ?_) (fun hd => ?_)
      · exact wa_lv (k i ⟨hd, h1⟩ (by omega)) rfl
      · refine wn_iinc q_X1_digitCount_30 rfl (by decide) ?_
        refine wa_goto q_X1_digitCount_33 ?_
        exact wa_lv (ih (i + 1) (by omega) (by omega) (Or.inr hd)) rfl
theorem V_dC {a : Nat} (h : bw_V X D σ S V) (ha : a ∈ D) : Calls X M_X1_digitCount [.ref a] σ (fun res τ => (∃ c, c ≤ 5000 ∧ res = some (.int (nI c)) ∧ isD (V a).natAbs c) ∧ τ = σ) := by
  obtain ⟨a1, a2, a3, a4, a5, a6, a7⟩ := h.1.1 a ha
  obtain ⟨va, wa, na⟩ := h.2 a ha
  have hB : BB = 1000000000 := rfl
  refine Calls.of rfl (lk rfl) ?_
  by_cases hz : (S a).2.2.1 = 0
  · have hv0 : V a = 0 := (isV_sz (h.2 a ha)).mp hz
    rw [hz] at a1
    refine wa_aload_n q_X1_digitCount_0 rfl ?_
    refine wa_aload_n q_X1_digitCount_1 rfl ?_
    refine wa_getf q_X1_digitCount_2 f_RX1_15 (by assumption) rfl ?_
    refine wa_iconst q_X1_digitCount_5 (v := nI 1) (by decide) ?_
    refine wa_isub q_X1_digitCount_6 ?_
    rw [show nI 0 - nI 1 = (-1 : Int32) by decide]
    refine wa_callV q_X1_digitCount_7 g_X1_digitCount_7 w_X1_limbAt (by assumption) rfl (av := [_]) rfl rfl (lk rfl) (Calls.mono C_limbAtN ?_)
    rintro _ _ ⟨rfl, rfl⟩
    refine wa_istore_n q_X1_digitCount_10 (by decide) ?_
    refine wa_iconst q_X1_digitCount_11 (v := nI 0) (by decide) ?_
    refine wa_istore_n q_X1_digitCount_12 (by decide) ?_
    refine wa_lv (C_dC_loop (x := 0) BB_pos ?_ _ 0 rfl (Nat.zero_le _) (Or.inl rfl)) rfl
    intro c _ hc
    refine wa_aload_n q_X1_digitCount_36 rfl ?_
    refine wa_getf q_X1_digitCount_37 f_RX1_15 (by assumption) rfl ?_
    refine wn_if_gt q_X1_digitCount_40 (by omega) (fun hd => ?_) (fun hd => ?_)
    · exact absurd hd (by omega)
    · refine wa_iconst q_X1_digitCount_43 (v := nI 0) (by decide) ?_
      refine wa_goto q_X1_digitCount_44 ?_
      refine wa_iret q_X1_digitCount_58 rfl ?_
      exact ⟨⟨0, by omega, rfl, by rw [hv0]; exact ⟨by decide, Or.inl rfl⟩⟩, rfl⟩
  · refine wa_aload_n q_X1_digitCount_0 rfl ?_
    refine wa_aload_n q_X1_digitCount_1 rfl ?_
    refine wa_getf q_X1_digitCount_2 f_RX1_15 (by assumption) rfl ?_
    refine wa_iconst q_X1_digitCount_5 (v := nI 1) (by decide) ?_
    refine wn_isub q_X1_digitCount_6 (by omega) ?_
    refine wa_callV q_X1_digitCount_7 g_X1_digitCount_7 w_X1_limbAt (by assumption) rfl (av := [_]) rfl rfl (lk rfl) (Calls.mono (C_limbAt h.1 ha (by omega)) ?_)
    rintro _ _ ⟨rfl, rfl⟩
    rw [if_pos (by omega)]
    have htop : (S a).2.2.2.1 ((S a).2.2.1 - 1) ≠ 0 := na.2.resolve_left hz
    have hlt := na.1 ((S a).2.2.1 - 1) (by omega)
    refine wa_istore_n q_X1_digitCount_10 (by decide) ?_
    refine wa_iconst q_X1_digitCount_11 (v := nI 0) (by decide) ?_
    refine wa_istore_n q_X1_digitCount_12 (by decide) ?_
    refine wa_lv (C_dC_loop hlt ?_ _ 0 rfl (Nat.zero_le _) (Or.inl rfl)) rfl
    intro c hc hc9
    have hc0 : c ≠ 0 := fun z => by have := hc.1; rw [z] at this; simp at this; exact htop this
    refine wa_aload_n q_X1_digitCount_36 rfl ?_
    refine wa_getf q_X1_digitCount_37 f_RX1_15 (by assumption) rfl ?_
    refine wn_if_gt q_X1_digitCount_40 (by omega) (fun hd => ?_) (fun hd => ?_)
    · refine wa_aload_n q_X1_digitCount_47 rfl ?_
      refine wa_getf q_X1_digitCount_48 f_RX1_15 (by assumption) rfl ?_
      refine wa_iconst q_X1_digitCount_51 (v := nI 1) (by decide) ?_
      refine wn_isub q_X1_digitCount_52 (by omega) ?_
      refine wa_bipush q_X1_digitCount_53 (v := nI 9) (by decide) ?_
      refine wn_imul q_X1_digitCount_55 ?_
      refine wa_iload_n q_X1_digitCount_56 rfl ?_
      refine wn_iadd q_X1_digitCount_57 ?_
      refine wa_iret q_X1_digitCount_58 rfl ?_
      refine ⟨⟨_, by omega, rfl, ?_⟩, rfl⟩
      rw [← wa]
      have e : vl (S a).2.2.2.1 (S a).2.2.1 = vl (S a).2.2.2.1 ((S a).2.2.1 - 1) + (S a).2.2.2.1 ((S a).2.2.1 - 1) * BB ^ ((S a).2.2.1 - 1) := by
        conv => lhs; rw [show (S a).2.2.1 = (S a).2.2.1 - 1 + 1 by omega]
        rfl
      have hl := vl_lt (d := (S a).2.2.2.1) (n := (S a).2.2.1 - 1) (fun i hi => na.1 i (by omega))
      rw [e]
      have ep : BB ^ ((S a).2.2.1 - 1) = 10 ^ (((S a).2.2.1 - 1) * 9) := by rw [pw_ten, Nat.mul_comm]
      constructor
      · have q1 : ((S a).2.2.2.1 ((S a).2.2.1 - 1) + 1) * BB ^ ((S a).2.2.1 - 1) ≤ 10 ^ c * BB ^ ((S a).2.2.1 - 1) := Nat.mul_le_mul_right _ hc.1
        rw [Nat.add_mul, Nat.one_mul] at q1
        have q2 : 10 ^ c * BB ^ ((S a).2.2.1 - 1) = 10 ^ (((S a).2.2.1 - 1) * 9 + c) := by rw [ep, ← Nat.pow_add, Nat.add_comm]
        omega
      · refine Or.inr ?_
        have q1 : 10 ^ (c - 1) * BB ^ ((S a).2.2.1 - 1) ≤ (S a).2.2.2.1 ((S a).2.2.1 - 1) * BB ^ ((S a).2.2.1 - 1) := Nat.mul_le_mul_right _ (hc.2.resolve_left hc0)
        have q2 : 10 ^ (c - 1) * BB ^ ((S a).2.2.1 - 1) = 10 ^ (((S a).2.2.1 - 1) * 9 + c - 1) := by rw [ep, ← Nat.pow_add]; congr 1; omega
        omega
    · exact absurd hd (by omega)
/-- what quotient() can show of v -/
def clp (v : Int) : Int := if v < 0 then -((min v.natAbs 4611686018427387904 : Nat) : Int) else ((min v.natAbs 4611686018427387904 : Nat) : Int)
theorem clp_big {v : Int} (h : 4611686018427387904 ≤ v.natAbs) : clp v = if v < 0 then -4611686018427387904 else 4611686018427387904 := by
  unfold clp
  rw [Nat.min_eq_right h]; rfl
theorem V_clamp {a : Nat} (h : bw_V X D σ S V) (ha : a ∈ D) : Calls X M_X1_clamped [.ref a] σ (fun res τ => res = some (.long (lZ (clp (V a)))) ∧ τ = σ) := by
  obtain ⟨a1, a2, a3, a4, a5, a6, a7⟩ := h.1.1 a ha
  obtain ⟨va, wa, na⟩ := h.2 a ha
  have hB : BB = 1000000000 := rfl
  have hB3 : BB ^ 3 = 1000000000000000000000000000 := rfl
  have hd0 := vl_dig (q := 0) na.1
  have hd1 := vl_dig (q := 1) na.1
  have hd2 := vl_dig (q := 2) na.1
  rw [wa] at hd0 hd1 hd2
  have m0 := Nat.mod_lt ((V a).natAbs / BB ^ 0) BB_pos
  have m1 := Nat.mod_lt ((V a).natAbs / BB ^ 1) BB_pos
  have m2 := Nat.mod_lt ((V a).natAbs / BB ^ 2) BB_pos
  refine Calls.of rfl (lk rfl) ?_
  have hbig : 4611686018427387904 ≤ (V a).natAbs → WA X M_X1_clamped σ 17 [(0, .ref a)] [] σ (fun res τ => res = some (.long (lZ (clp (V a)))) ∧ τ = σ) := by
    intro hb
    rw [clp_big hb]
    refine wa_aload_n q_X1_clamped_17 rfl ?_
    refine wa_getf q_X1_clamped_18 f_RX1_34 (by assumption) rfl ?_
    rw [va]
    refine wa_if_ge q_X1_clamped_21 (fun hg => ?_) (fun hg => ?_)
    · refine wa_ldc2 q_X1_clamped_30 k_RX1_61 ?_
      refine wa_lret q_X1_clamped_33 rfl ?_
      rw [if_neg (fun z => by rcases sgI_c (V a) with ⟨q, g⟩ | ⟨q, g⟩ | ⟨q, g⟩ <;> first | omega | (rw [g] at hg; exact absurd hg (by decide)))]
      exact ⟨by rw [lN_lZ]; rfl, rfl⟩
    · refine wa_ldc2 q_X1_clamped_24 k_RX1_59 ?_
      refine wa_goto q_X1_clamped_27 ?_
      refine wa_lret q_X1_clamped_33 rfl ?_
      rw [if_pos (by rcases sgI_c (V a) with ⟨q, g⟩ | ⟨q, g⟩ | ⟨q, g⟩ <;> first | exact q | (rw [g] at hg; exact absurd (by decide) hg))]
      exact ⟨by congr 2, rfl⟩
  refine wa_aload_n q_X1_clamped_0 rfl ?_
  refine wa_getf q_X1_clamped_1 f_RX1_15 (by assumption) rfl ?_
  refine wa_iconst q_X1_clamped_4 (v := nI 3) (by decide) ?_
  refine wn_icmp_gt q_X1_clamped_5 (by omega) (by omega) (fun hc => ?_) (fun hc => ?_)
  · refine wa_lv (hbig ?_) rfl
    have q1 := vl_ge (d := (S a).2.2.2.1) (n := (S a).2.2.1 - 1) (na.2.resolve_left (by omega))
    rw [Nat.sub_add_cancel (by omega), wa] at q1
    have q2 := pw_mono (a := 3) (b := (S a).2.2.1 - 1) (by omega)
    rw [hB3] at q2
    omega
  · have hv3 : (V a).natAbs < BB ^ 3 := by rw [← wa]; exact Nat.lt_of_lt_of_le (vl_lt na.1) (pw_mono (by omega))
    rw [hB3] at hv3
    refine wa_aload_n q_X1_clamped_8 rfl ?_
    refine wa_iconst q_X1_clamped_9 (v := nI 2) (by decide) ?_
    refine wa_callV q_X1_clamped_10 g_X1_clamped_10 w_X1_limbAt (by assumption) rfl (av := [_]) rfl rfl (lk rfl) (Calls.mono (C_limbAt h.1 ha (by omega)) ?_)
    rintro _ _ ⟨rfl, rfl⟩
    rw [hd2]
    refine wa_iconst q_X1_clamped_13 (v := nI 4) (by decide) ?_
    refine wn_icmp_le q_X1_clamped_14 (by omega) (by omega) (fun hd => ?_) (fun hd => ?_)
    · refine wa_aload_n q_X1_clamped_34 rfl ?_
      refine wa_iconst q_X1_clamped_35 (v := nI 2) (by decide) ?_
      refine wa_callV q_X1_clamped_36 g_X1_clamped_36 w_X1_limbAt (by assumption) rfl (av := [_]) rfl rfl (lk rfl) (Calls.mono (C_limbAt h.1 ha (by omega)) ?_)
      rintro _ _ ⟨rfl, rfl⟩
      rw [hd2]
      refine wn_i2l q_X1_clamped_39 (by omega) ?_
      refine wa_ldc2 q_X1_clamped_40 k_RX1_50 ?_
      refine wn_lmul q_X1_clamped_43 ?_
      refine wa_aload_n q_X1_clamped_44 rfl ?_
      refine wa_iconst q_X1_clamped_45 (v := nI 1) (by decide) ?_
      refine wa_callV q_X1_clamped_46 g_X1_clamped_46 w_X1_limbAt (by assumption) rfl (av := [_]) rfl rfl (lk rfl) (Calls.mono (C_limbAt h.1 ha (by omega)) ?_)
      rintro _ _ ⟨rfl, rfl⟩
      rw [hd1]
      refine wn_i2l q_X1_clamped_49 (by omega) ?_
      refine wn_ladd q_X1_clamped_50 ?_
      refine wa_lstore_n q_X1_clamped_51 (by decide) ?_
      refine wa_aload_n q_X1_clamped_52 rfl ?_
      refine wa_getf q_X1_clamped_53 f_RX1_34 (by assumption) rfl ?_
      rw [va]
      refine wa_i2l q_X1_clamped_56 rfl ?_
      refine wa_lload_n q_X1_clamped_57 rfl ?_
      refine wa_ldc2 q_X1_clamped_58 k_RX1_50 ?_
      refine wn_lmul q_X1_clamped_61 ?_
      refine wa_aload_n q_X1_clamped_62 rfl ?_
      refine wa_iconst q_X1_clamped_63 (v := nI 0) (by decide) ?_
      refine wa_callV q_X1_clamped_64 g_X1_clamped_64 w_X1_limbAt (by assumption) rfl (av := [_]) rfl rfl (lk rfl) (Calls.mono (C_limbAt h.1 ha (by omega)) ?_)
      rintro _ _ ⟨rfl, rfl⟩
      rw [hd0]
      refine wn_i2l q_X1_clamped_67 (by omega) ?_
      refine wn_ladd q_X1_clamped_68 ?_
      refine wa_ldc2 q_X1_clamped_69 k_RX1_61 ?_
      have ev : ((V a).natAbs / BB ^ 2 % BB * 1000000000 + (V a).natAbs / BB ^ 1 % BB) * 1000000000 + (V a).natAbs / BB ^ 0 % BB = (V a).natAbs := by
        rw [hB]; simp only [Nat.reducePow]; omega
      rw [ev]
      have hlt : (V a).natAbs < 5000000000000000000 := by
        rw [hB] at hd; simp only [Nat.reducePow] at hd; omega
      refine wa_mminL q_X1_clamped_72 a_RX1_63 (lk rfl) (lk rfl) ?_
      have emin : (if lN 4611686018427387904 < lN (V a).natAbs then lN 4611686018427387904 else lN (V a).natAbs) = lN (min (V a).natAbs 4611686018427387904) := by
        have hL : lN 4611686018427387904 < lN (V a).natAbs ↔ 4611686018427387904 < (V a).natAbs := pk_lLT (by decide) (by omega)
        by_cases q : 4611686018427387904 < (V a).natAbs
        · rw [if_pos (hL.mpr q), Nat.min_eq_right (by omega)]
        · rw [if_neg (fun z => q (hL.mp z)), Nat.min_eq_left (by omega)]
      rw [emin]
      refine wa_lmul q_X1_clamped_75 ?_
      refine wa_lret q_X1_clamped_76 rfl ?_
      refine ⟨?_, rfl⟩
      congr 2
      unfold clp
      rw [lN_lZ]
      rcases sgI_c (V a) with ⟨q, g⟩ | ⟨q, g⟩ | ⟨q, g⟩
      · rw [g, if_pos q, iZ_m1, iZ_l (by decide) (by decide), lZ_mul]; congr 1; omega
      · rw [g, if_neg (by omega), iZ_0, iZ_l (by decide) (by decide), lZ_mul]; congr 1; omega
      · rw [g, if_neg (by omega), iZ_1, iZ_l (by decide) (by decide), lZ_mul]; congr 1; omega
    · refine wa_lv (hbig ?_) rfl
      rw [hB] at hd; simp only [Nat.reducePow] at hd; omega
end bigA
