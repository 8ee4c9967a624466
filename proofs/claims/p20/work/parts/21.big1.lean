/-! EnclosedDigits$Big, raw: made, clear, limbAt, copyOf, extend, copy -/
section big1
variable {X : en_X} {σ : en_S} {D : List Nat} {S : Nat → en_B}
theorem C_clear {a : Nat} (h : bw_R X D σ S) (ha : a ∈ D) :
    Calls X M_X1_clear [.ref a] σ (fun res τ => res = none ∧ ∃ b : en_B, b = ((S a).1, (S a).2.1, 0, (S a).2.2.2.1, 0) ∧ bw_R X D τ (uB S a b) ∧ bw_St D σ S τ (uB S a b)) := by
  obtain ⟨h1, h2, h3, h4, h5, h6, h7⟩ := h.1 a ha
  refine Calls.of rfl (lk rfl) ?_
  refine wa_aload_n q_X1_clear_0 rfl ?_
  refine wa_iconst q_X1_clear_1 (v := nI 0) (by decide) ?_
  refine wn_putf q_X1_clear_2 p_RX1_15 (by assumption) (lk rfl) rfl rfl rfl (fun σ_ha1 ha1 f_ha1 e1_ha1 e2_ha1 => ?_)
  refine wa_aload_n q_X1_clear_5 rfl ?_
  refine wa_iconst q_X1_clear_6 (v := nI 0) (by decide) ?_
  refine wn_putf q_X1_clear_7 p_RX1_34 (by assumption) (lk rfl) rfl rfl rfl (fun σ_ha2 ha2 f_ha2 e1_ha2 e2_ha2 => ?_)
  refine wa_vret q_X1_clear_10 rfl ?_
  have hne := ne_oa h1 h2
  refine ⟨rfl, _, rfl, bw_R.step h ha (by omega) ⟨ha2, ?_, Nat.zero_le _, h4, h5, by omega, by show (S a).1 < _; omega⟩ (fun q q1 q2 q3 => (f_ha2 q q2).trans (f_ha1 q q2)) (Or.inl rfl) (Nat.le_refl _) (by show _ ≤ 8 * _ + (S a).2.1; omega) (by show _ ≤ _ + 2 * (S a).2.1; omega)⟩
  rw [f_ha2 _ hne.symm, f_ha1 _ hne.symm]; exact h2
theorem C_limbAt {a i : Nat} (h : bw_R X D σ S) (ha : a ∈ D) (hi : i < 2 ^ 31) :
    Calls X M_X1_limbAt [.ref a, .int (nI i)] σ (fun res τ => res = some (.int (nI (if i < (S a).2.2.1 then (S a).2.2.2.1 i else 0))) ∧ τ = σ) := by
  obtain ⟨h1, h2, h3, h4, h5, h6, h7⟩ := h.1 a ha
  refine Calls.of rfl (lk rfl) ?_
  refine wa_iload_n q_X1_limbAt_0 rfl ?_
  refine wn_if_lt q_X1_limbAt_1 (by omega) (fun hc => ?_) (fun hc => ?_)
  · exact absurd hc id
  · refine wa_iload_n q_X1_limbAt_4 rfl ?_
    refine wa_aload_n q_X1_limbAt_5 rfl ?_
    refine wa_getf q_X1_limbAt_6 f_RX1_15 (by assumption) rfl ?_
    refine wn_icmp_ge q_X1_limbAt_9 (by omega) (by omega) (fun hd => ?_) (fun hd => ?_)
    · refine wa_iconst q_X1_limbAt_21 (v := nI 0) (by decide) ?_
      refine wa_goto q_X1_limbAt_22 ?_
      refine wa_iret q_X1_limbAt_31 rfl ?_
      rw [if_neg (by omega)]
      exact ⟨rfl, rfl⟩
    · refine wa_iload_n q_X1_limbAt_12 rfl ?_
      refine wa_aload_n q_X1_limbAt_13 rfl ?_
      refine wa_getf q_X1_limbAt_14 f_RX1_11 (by assumption) rfl ?_
      refine wn_alen q_X1_limbAt_17 (by assumption) ?_
      refine wn_icmp_lt q_X1_limbAt_18 (by omega) (by omega) (fun he => ?_) (fun he => ?_)
      · refine wa_aload_n q_X1_limbAt_25 rfl ?_
        refine wa_getf q_X1_limbAt_26 f_RX1_11 (by assumption) rfl ?_
        refine wa_iload_n q_X1_limbAt_29 rfl ?_
        refine wn_iald q_X1_limbAt_30 (by assumption) (by omega) (by omega) ?_
        refine wa_iret q_X1_limbAt_31 rfl ?_
        rw [if_pos hd]
        exact ⟨rfl, rfl⟩
      · exact absurd he (by omega)
theorem C_limbAtN {a : Nat} : Calls X M_X1_limbAt [.ref a, .int (-1)] σ (fun res τ => res = some (.int (nI 0)) ∧ τ = σ) := by
  refine Calls.of rfl (lk rfl) ?_
  refine wa_iload_n q_X1_limbAt_0 rfl ?_
  refine wa_if_lt q_X1_limbAt_1 (fun hc => ?_) (fun hc => ?_)
  · refine wa_iconst q_X1_limbAt_21 (v := nI 0) (by decide) ?_
    refine wa_goto q_X1_limbAt_22 ?_
    refine wa_iret q_X1_limbAt_31 rfl ?_
    exact ⟨rfl, rfl⟩
  · exact absurd (by decide) hc
theorem C_copyOf {a n N : Nat} {d : Nat → Nat} (h : look σ a = some (ar X n d)) (ha : a < σ.1) (hn : n < N) (hN : N ≤ 100000000) :
    Calls X M_J7_copyOf_59c91 [.ref a, .int (nI N)] σ (fun res τ => res = some (.ref σ.1) ∧ look τ σ.1 = some (ar X N (va_cpy d (fun _ => 0) 0 0 n)) ∧ (∀ q, q ≠ σ.1 → look τ q = look σ q) ∧ τ.1 = σ.1 + 1 ∧ τ.2.1 = σ.2.1 + N) := by
  refine Calls.of rfl (lk rfl) ?_
  refine wa_iload_n q_J7_copyOf_59c91_0 rfl ?_
  refine wa_aload_n q_J7_copyOf_59c91_1 rfl ?_
  refine wn_alen q_J7_copyOf_59c91_2 (by assumption) ?_
  refine wn_icmp_ne q_J7_copyOf_59c91_3 (by omega) (by omega) (fun hc => ?_) (fun hc => ?_)
  · refine wa_iload_n q_J7_copyOf_59c91_14 rfl ?_
    refine wn_newi q_J7_copyOf_59c91_15 hN (fun σ1 g1 g2 g3 g4 => ?_)
    have hs : look σ1 a = some (ar X n d) := (g2 a (by omega)).trans h
    refine wa_astore_n q_J7_copyOf_59c91_17 (by decide) ?_
    refine wa_aload_n q_J7_copyOf_59c91_18 rfl ?_
    refine wa_iconst q_J7_copyOf_59c91_19 (v := nI 0) (by decide) ?_
    refine wa_aload_n q_J7_copyOf_59c91_20 rfl ?_
    refine wa_iconst q_J7_copyOf_59c91_21 (v := nI 0) (by decide) ?_
    refine wa_aload_n q_J7_copyOf_59c91_22 rfl ?_
    refine wn_alen q_J7_copyOf_59c91_23 (by assumption) ?_
    refine wa_iload_n q_J7_copyOf_59c91_24 rfl ?_
    refine wn_mmin q_J7_copyOf_59c91_25 a_RJ7_304 (lk rfl) (lk rfl) (by omega) (by omega) ?_
    rw [Nat.min_eq_left (by omega)]
    refine wn_copyi q_J7_copyOf_59c91_28 a_RJ7_150 (lk rfl) (lk rfl) hs g1 (by omega) (by omega) (by omega) (by omega) (fun σ2 k1 k2 k3 k4 => ?_)
    refine wa_aload_n q_J7_copyOf_59c91_31 rfl ?_
    refine wa_aret q_J7_copyOf_59c91_32 rfl (Or.inr ⟨_, rfl⟩) (Or.inr ⟨_, rfl⟩) ?_
    exact ⟨rfl, k1, fun q hq => (k2 q hq).trans (g2 q hq), by omega, by omega⟩
  · exact absurd hc (by omega)
theorem C_extend_loop {ρ σ0 : en_S} {a r n sz room : Nat} {d : Nat → Nat} {sg : Int32} {Q : Option Value → en_S → Prop} (hn : n ≤ 512) (hs : sz ≤ n) (hroom : room ≤ n) (hne : a ≠ r)
    (k : ∀ σ1 d1, look σ1 a = some (bE sg sz r) → look σ1 r = some (ar X n d1) → (∀ j, j < sz → d1 j = d j) → (∀ j, sz ≤ j → j < room → d1 j = 0) → (∀ q, q ≠ r → look σ1 q = look σ0 q) → σ1.1 = σ0.1 → σ1.2.1 = σ0.2.1 → WA X M_X1_extend ρ 54 [(1, .int (nI room)), (0, .ref a)] [] σ1 Q) :
    ∀ (t i : Nat) (σ : en_S) (d1 : Nat → Nat), room - i = t → sz ≤ i → i ≤ 512 → look σ a = some (bE sg sz r) → look σ r = some (ar X n d1) → (∀ j, j < sz → d1 j = d j) → (∀ j, sz ≤ j → j < i → d1 j = 0) → (∀ q, q ≠ r → look σ q = look σ0 q) → σ.1 = σ0.1 → σ.2.1 = σ0.2.1 →
      WA X M_X1_extend ρ 36 [(2, .int (nI i)), (1, .int (nI room)), (0, .ref a)] [] σ Q := by
  intro t
  induction t with
  | zero =>
    intro i σ d1 ht h0 hi ha hr h1 h2 h3 h4 h5
    refine wa_iload_n q_X1_extend_36 rfl ?_
    refine wa_iload_n q_X1_extend_37 rfl ?_
    refine wn_icmp_ge q_X1_extend_38 (by omega) (by omega) (fun hc => ?_) (fun hc => ?_)
    · exact wa_lv (k σ d1 ha hr h1 (fun j j1 j2 => h2 j j1 (by omega)) h3 h4 h5) rfl
    · exact absurd hc (by omega)
  | succ t ih =>
    intro i σ d1 ht h0 hi ha hr h1 h2 h3 h4 h5
    refine wa_iload_n q_X1_extend_36 rfl ?_
    refine wa_iload_n q_X1_extend_37 rfl ?_
    refine wn_icmp_ge q_X1_extend_38 (by omega) (by omega) (fun hc => ?_) (fun hc => ?_)
    · exact absurd hc (by omega)
    · refine wa_aload_n q_X1_extend_41 rfl ?_
      refine wa_getf q_X1_extend_42 f_RX1_11 (by assumption) rfl ?_
      refine wa_iload_n q_X1_extend_45 rfl ?_
      refine wa_iconst q_X1_extend_46 (v := nI 0) (by decide) ?_
      refine wn_iast q_X1_extend_47 (by assumption) (by omega) (by omega) (fun σ_hr1 hr1 f_hr1 e1_hr1 e2_hr1 => ?_)
      have ha := (f_hr1 a hne).trans ha
      refine wn_iinc q_X1_extend_48 rfl (by decide) ?_
      refine wa_goto q_X1_extend_51 ?_
      refine wa_lv (ih (i + 1) σ_hr1 _ (by omega) (by omega) (by omega) ha hr1 (fun j hj => ?_) (fun j j1 j2 => ?_) (fun q hq => (f_hr1 q hq).trans (h3 q hq)) (by omega) (by omega)) rfl
      · rw [un_n (by omega)]; exact h1 j hj
      · by_cases e : j = i
        · rw [e]; exact un_s
        · rw [un_n e]; exact h2 j j1 (by omega)
theorem C_extend_tail {ρ σ0 : en_S} {a r n sz room : Nat} {d : Nat → Nat} {sg : Int32} {Q : Option Value → en_S → Prop} (hn : n ≤ 512) (hs : sz ≤ n) (hroom : room ≤ n) (ha : look σ0 a = some (bE sg sz r)) (hr : look σ0 r = some (ar X n d))
    (k : ∀ τ d1, look τ a = some (bE sg (max sz room) r) → look τ r = some (ar X n d1) → (∀ j, j < sz → d1 j = d j) → (∀ j, sz ≤ j → j < room → d1 j = 0) → (∀ q, q ≠ a → q ≠ r → look τ q = look σ0 q) → τ.1 = σ0.1 → τ.2.1 = σ0.2.1 → Q none τ) :
    WA X M_X1_extend ρ 31 [(1, .int (nI room)), (0, .ref a)] [] σ0 Q := by
  have hne := ne_oa ha hr
  refine wa_aload_n q_X1_extend_31 rfl ?_
  refine wa_getf q_X1_extend_32 f_RX1_15 (by assumption) rfl ?_
  refine wa_istore_n q_X1_extend_35 (by decide) ?_
  refine wa_lv (C_extend_loop (σ0 := σ0) hn hs hroom hne ?_ _ sz σ0 d rfl (Nat.le_refl _) (by omega) ha hr (fun _ _ => rfl) (fun j j1 j2 => absurd j1 (by omega)) (fun _ _ => rfl) rfl rfl) rfl
  intro σ1 d1 b1 b2 b3 b4 b5 b6 b7
  refine wa_aload_n q_X1_extend_54 rfl ?_
  refine wa_aload_n q_X1_extend_55 rfl ?_
  refine wa_getf q_X1_extend_56 f_RX1_15 (by assumption) rfl ?_
  refine wa_iload_n q_X1_extend_59 rfl ?_
  refine wn_mmax q_X1_extend_60 a_RX1_19 (lk rfl) (lk rfl) (by omega) (by omega) ?_
  refine wn_putf q_X1_extend_63 p_RX1_15 (by assumption) (lk rfl) rfl rfl rfl (fun σ_b8 b8 f_b8 e1_b8 e2_b8 => ?_)
  refine wa_vret q_X1_extend_66 rfl ?_
  exact k _ d1 b8 ((f_b8 _ hne.symm).trans b2) b3 b4 (fun q q1 q2 => (f_b8 q q1).trans (b5 q q2)) (by omega) (by omega)
theorem C_extend {a room : Nat} (h : bw_R X D σ S) (ha : a ∈ D) (hroom : room ≤ 256) :
    Calls X M_X1_extend [.ref a, .int (nI room)] σ (fun res τ => res = none ∧ ∃ b : en_B, b.2.2.1 = max (S a).2.2.1 room ∧ b.2.2.2.2 = (S a).2.2.2.2 ∧ (∀ i, i < (S a).2.2.1 → b.2.2.2.1 i = (S a).2.2.2.1 i) ∧ (∀ i, (S a).2.2.1 ≤ i → i < room → b.2.2.2.1 i = 0) ∧ bw_R X D τ (uB S a b) ∧ bw_St D σ S τ (uB S a b)) := by
  obtain ⟨h1, h2, h3, h4, h5, h6, h7⟩ := h.1 a ha
  have hne := ne_oa h1 h2
  refine Calls.of rfl (lk rfl) ?_
  refine wa_iload_n q_X1_extend_0 rfl ?_
  refine wa_aload_n q_X1_extend_1 rfl ?_
  refine wa_getf q_X1_extend_2 f_RX1_11 (by assumption) rfl ?_
  refine wn_alen q_X1_extend_5 (by assumption) ?_
  refine wn_icmp_le q_X1_extend_6 (by omega) (by omega) (fun hc => ?_) (fun hc => ?_)
  · refine wa_lv (C_extend_tail h5 h3 hc h1 h2 ?_) rfl
    intro τ d1 b1 b2 b3 b4 b5 b6 b7
    exact ⟨rfl, ((S a).1, (S a).2.1, max (S a).2.2.1 room, d1, (S a).2.2.2.2), rfl, rfl, b3, b4, bw_R.step h ha (by omega) ⟨b1, b2, by show max _ _ ≤ (S a).2.1; omega, h4, h5, by omega, by show (S a).1 < _; omega⟩ (fun q q1 q2 q3 => b5 q q2 q3) (Or.inl rfl) (Nat.le_refl _) (by show _ ≤ 8 * _ + (S a).2.1; omega) (by show _ ≤ _ + 2 * (S a).2.1; omega)⟩
  · refine wa_aload_n q_X1_extend_9 rfl ?_
    refine wa_aload_n q_X1_extend_10 rfl ?_
    refine wa_getf q_X1_extend_11 f_RX1_11 (by assumption) rfl ?_
    refine wa_iload_n q_X1_extend_14 rfl ?_
    refine wa_iconst q_X1_extend_15 (v := nI 2) (by decide) ?_
    refine wa_aload_n q_X1_extend_16 rfl ?_
    refine wa_getf q_X1_extend_17 f_RX1_11 (by assumption) rfl ?_
    refine wn_alen q_X1_extend_20 (by assumption) ?_
    refine wn_imul q_X1_extend_21 ?_
    refine wn_mmax q_X1_extend_22 a_RX1_19 (lk rfl) (lk rfl) (by omega) (by omega) ?_
    refine wa_callS q_X1_extend_25 g_X1_extend_25 w_J7_copyOf_59c91 (av := [_, _]) rfl rfl (lk rfl) (Calls.mono (C_copyOf h2 h7 (by omega) (by omega)) ?_)
    rintro _ σ1 ⟨rfl, k1, k2, k3, k4⟩
    have ha1 : look σ1 a = some (bE (S a).2.2.2.2 (S a).2.2.1 (S a).1) := (k2 a (by omega)).trans h1
    refine wn_putf q_X1_extend_28 p_RX1_11 (by assumption) (lk rfl) rfl rfl rfl (fun σ_ha2 ha2 f_ha2 e1_ha2 e2_ha2 => ?_)
    have hr2 := (f_ha2 _ (by omega)).trans k1
    refine wa_lv (C_extend_tail (n := max room (2 * (S a).2.1)) (by omega) (by omega) (by omega) ha2 hr2 ?_) rfl
    intro τ d1 b1 b2 b3 b4 b5 b6 b7
    refine ⟨rfl, (σ.1, max room (2 * (S a).2.1), max (S a).2.2.1 room, d1, (S a).2.2.2.2), rfl, rfl, fun i hi => (b3 i hi).trans ?_, b4, bw_R.step h ha (by omega) ⟨b1, b2, by show max _ _ ≤ max room (2 * (S a).2.1); omega, by show 8 ≤ max _ _; omega, by show max _ _ ≤ 512; omega, by omega, by show σ.1 < _; omega⟩ (fun q q1 q2 q3 => ?_) (Or.inr (Nat.le_refl _)) (by show (S a).2.1 ≤ max _ _; omega) (by show _ ≤ 8 * _ + max room (2 * (S a).2.1); omega) (by show _ ≤ _ + 2 * max room (2 * (S a).2.1); omega)⟩
    · rw [pk_cpy_in (by omega) (by omega), Nat.zero_add, Nat.sub_zero]
    · rw [b5 q q2 (by omega), f_ha2 q q2, k2 q (by omega)]
theorem C_copy {a b : Nat} (h : bw_R X D σ S) (ha : a ∈ D) (hb : b ∈ D) (hab : a ≠ b) (hsz : (S b).2.2.1 ≤ 256) :
    Calls X M_X1_copy [.ref a, .ref b] σ (fun res τ => res = none ∧ ∃ c : en_B, c.2.2.1 = (S b).2.2.1 ∧ c.2.2.2.2 = (S b).2.2.2.2 ∧ (∀ i, i < (S b).2.2.1 → c.2.2.2.1 i = (S b).2.2.2.1 i) ∧ bw_R X D τ (uB S a c) ∧ bw_St D σ S τ (uB S a c)) := by
  obtain ⟨b1, b2, b3, b4, b5, b6, b7⟩ := h.1 b hb
  obtain ⟨a1, a2, a3, a4, a5, a6, a7⟩ := h.1 a ha
  refine Calls.of rfl (lk rfl) ?_
  refine wa_aload_n q_X1_copy_0 rfl ?_
  refine wa_aload_n q_X1_copy_1 rfl ?_
  refine wa_getf q_X1_copy_2 f_RX1_15 (by assumption) rfl ?_
  refine wa_callV q_X1_copy_5 g_X1_copy_5 w_X1_extend (by assumption) rfl (av := [_]) rfl rfl (lk rfl) (Calls.mono (C_extend h ha hsz) ?_)
  rintro _ σ1 ⟨rfl, e, k1, k2, k3, k4, k5, k6⟩
  obtain ⟨c1, c2, c3, c4, c5, c6, c7⟩ := k5.1 b hb
  rw [uB_n (fun z => hab z.symm)] at c1 c2 c3 c4 c5 c7
  obtain ⟨e1, e2, e3, e4, e5, e6, e7⟩ := k5.1 a ha
  rw [uB_s] at e1 e2 e3 e4 e5 e7
  have hne := ne_oa e1 e2
  have hnb := ne_oa c1 e2
  refine wa_aload_n q_X1_copy_8 rfl ?_
  refine wa_getf q_X1_copy_9 f_RX1_11 (by assumption) rfl ?_
  refine wa_iconst q_X1_copy_12 (v := nI 0) (by decide) ?_
  refine wa_aload_n q_X1_copy_13 rfl ?_
  refine wa_getf q_X1_copy_14 f_RX1_11 (by assumption) rfl ?_
  refine wa_iconst q_X1_copy_17 (v := nI 0) (by decide) ?_
  refine wa_aload_n q_X1_copy_18 rfl ?_
  refine wa_getf q_X1_copy_19 f_RX1_15 (by assumption) rfl ?_
  refine wn_copyi q_X1_copy_22 a_RX1_41 (lk rfl) (lk rfl) c2 e2 (by omega) (by omega) (by omega) (by omega) (fun σ2 g1 g2 g3 g4 => ?_)
  have e1 := (g2 _ hne).trans e1
  have c1 := (g2 _ hnb).trans c1
  refine wa_aload_n q_X1_copy_25 rfl ?_
  refine wa_aload_n q_X1_copy_26 rfl ?_
  refine wa_getf q_X1_copy_27 f_RX1_15 (by assumption) rfl ?_
  refine wn_putf q_X1_copy_30 p_RX1_15 (by assumption) (lk rfl) rfl rfl rfl (fun σ_e8 e8 f_e8 e1_e8 e2_e8 => ?_)
  have c1 := (f_e8 _ (fun z => hab z.symm)).trans c1
  refine wa_aload_n q_X1_copy_33 rfl ?_
  refine wa_aload_n q_X1_copy_34 rfl ?_
  refine wa_getf q_X1_copy_35 f_RX1_34 (by assumption) rfl ?_
  refine wn_putf q_X1_copy_38 p_RX1_34 (by assumption) (lk rfl) rfl rfl rfl (fun σ_e9 e9 f_e9 e1_e9 e2_e9 => ?_)
  refine wa_vret q_X1_copy_41 rfl ?_
  have g1 := (f_e9 _ hne.symm).trans ((f_e8 _ hne.symm).trans g1)
  have st := bw_R.step (τ := σ_e9) (b := (e.1, e.2.1, (S b).2.2.1, va_cpy (S b).2.2.2.1 e.2.2.2.1 0 0 (S b).2.2.1, (S b).2.2.2.2)) k5 ha (by omega) ⟨e9, g1, by show (S b).2.2.1 ≤ e.2.1; omega, e4, e5, by omega, by show e.1 < _; omega⟩ (fun q q1 q2 q3 => by rw [uB_s] at q3; rw [f_e9 q q2, f_e8 q q2, g2 q q3]) (Or.inl (by rw [uB_s])) (by rw [uB_s]; exact Nat.le_refl _) (by rw [uB_s]; show _ ≤ 8 * _ + e.2.1; omega) (by rw [uB_s]; show _ ≤ _ + 2 * e.2.1; omega)
  rw [uB_u] at st
  refine ⟨rfl, _, ?_, ?_, ?_, st.1, k6.tr st.2⟩
  · rfl
  · rfl
  · intro i hi
    show va_cpy _ _ _ _ _ i = _
    rw [pk_cpy_in (by omega) (by omega), Nat.zero_add, Nat.sub_zero]
end big1
