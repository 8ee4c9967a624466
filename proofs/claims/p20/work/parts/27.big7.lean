/-! Arrays.fill; EnclosedDigits$Big: shiftUp, shiftDown, shrink -/
section big7
variable {X : en_X} {σ : en_S} {D : List Nat} {S : Nat → en_B} {V : Nat → Int}
theorem C_rangeCheck {n f t : Nat} (hn : n < 2 ^ 31) (h1 : f ≤ t) (h2 : t ≤ n) : Calls X M_J7_rangeCheck_23922 [.int (nI n), .int (nI f), .int (nI t)] σ (fun res τ => res = none ∧ τ = σ) := by
  refine Calls.of rfl (lk rfl) ?_
  refine wa_iload_n q_J7_rangeCheck_23922_0 rfl ?_
  refine wa_iload_n q_J7_rangeCheck_23922_1 rfl ?_
  refine wn_icmp_le q_J7_rangeCheck_23922_2 (by omega) (by omega) (fun hc => ?_) (fun hc => ?_)
  · refine wa_iload_n q_J7_rangeCheck_23922_46 rfl ?_
    refine wn_if_ge q_J7_rangeCheck_23922_47 (by omega) (fun hd => ?_) (fun hd => ?_)
    · refine wa_iload_n q_J7_rangeCheck_23922_59 rfl ?_
      refine wa_iload_n q_J7_rangeCheck_23922_60 rfl ?_
      refine wn_icmp_le q_J7_rangeCheck_23922_61 (by omega) (by omega) (fun he => ?_) (fun he => ?_)
      · refine wa_vret q_J7_rangeCheck_23922_73 rfl ?_
        exact ⟨rfl, rfl⟩
      · exact absurd he (by omega)
    · exact absurd hd id
  · exact absurd hc (by omega)
theorem C_fill_loop {ρ σ0 : en_S} {r n t : Nat} {d : Nat → Nat} {Q : Option Value → en_S → Prop} (hn : n ≤ 512) (ht : t ≤ n)
    (k : ∀ (σ1 : en_S) (d1 : Nat → Nat), look σ1 r = some (ar X n d1) → (∀ j, j < t → d1 j = 0) → (∀ j, t ≤ j → d1 j = d j) → (∀ q, q ≠ r → look σ1 q = look σ0 q) → σ1.1 = σ0.1 → σ1.2.1 = σ0.2.1 → Q none σ1) :
    ∀ (u i : Nat) (σ : en_S) (d1 : Nat → Nat), t - i = u → i ≤ t → look σ r = some (ar X n d1) → (∀ j, j < i → d1 j = 0) → (∀ j, i ≤ j → d1 j = d j) → (∀ q, q ≠ r → look σ q = look σ0 q) → σ.1 = σ0.1 → σ.2.1 = σ0.2.1 →
      WA X M_J7_fill_fda19 ρ 10 [(4, .int (nI i)), (3, .int (nI 0)), (2, .int (nI t)), (0, .ref r)] [] σ Q := by
  intro u
  induction u with
  | zero =>
    intro i σ d1 hu hi hr h1 h2 h4 h5 h6
    have e : i = t := by omega
    subst e
    refine wa_iload q_J7_fill_fda19_10 rfl ?_
    refine wa_iload_n q_J7_fill_fda19_12 rfl ?_
    refine wn_icmp_ge q_J7_fill_fda19_13 (by omega) (by omega) (fun hc => ?_) (fun hc => ?_)
    · refine wa_vret q_J7_fill_fda19_27 rfl ?_
      exact k σ d1 hr h1 h2 h4 h5 h6
    · exact absurd hc (by omega)
  | succ u ih =>
    intro i σ d1 hu hi hr h1 h2 h4 h5 h6
    refine wa_iload q_J7_fill_fda19_10 rfl ?_
    refine wa_iload_n q_J7_fill_fda19_12 rfl ?_
    refine wn_icmp_ge q_J7_fill_fda19_13 (by omega) (by omega) (fun hc => ?_) (fun hc => ?_)
    · exact absurd hc (by omega)
    · refine wa_aload_n q_J7_fill_fda19_16 rfl ?_
      refine wa_iload q_J7_fill_fda19_17 rfl ?_
      refine wa_iload_n q_J7_fill_fda19_19 rfl ?_
      refine wn_iast q_J7_fill_fda19_20 (by assumption) (by omega) (by omega) (fun σ_hr1 hr1 f_hr1 e1_hr1 e2_hr1 => ?_)
      refine wn_iinc q_J7_fill_fda19_21 rfl (by decide) ?_
      refine wa_goto q_J7_fill_fda19_24 ?_
      refine wa_lv (ih (i + 1) σ_hr1 _ (by omega) (by omega) hr1 (fun j hj => ?_) (fun j hj => ?_) (fun q hq => (f_hr1 q hq).trans (h4 q hq)) (by omega) (by omega)) rfl
      · by_cases e : j = i
        · rw [e]; exact un_s
        · rw [un_n e]; exact h1 j (by omega)
      · rw [un_n (by omega)]; exact h2 j (by omega)
theorem C_fill {r n t : Nat} {d : Nat → Nat} (hr : look σ r = some (ar X n d)) (hn : n ≤ 512) (ht : t ≤ n) : Calls X M_J7_fill_fda19 [.ref r, .int (nI 0), .int (nI t), .int (nI 0)] σ (fun res τ => res = none ∧ ∃ d1, look τ r = some (ar X n d1) ∧ (∀ j, j < t → d1 j = 0) ∧ (∀ j, t ≤ j → d1 j = d j) ∧ (∀ q, q ≠ r → look τ q = look σ q) ∧ τ.1 = σ.1 ∧ τ.2.1 = σ.2.1) := by
  refine Calls.of rfl (lk rfl) ?_
  refine wa_aload_n q_J7_fill_fda19_0 rfl ?_
  refine wn_alen q_J7_fill_fda19_1 (by assumption) ?_
  refine wa_iload_n q_J7_fill_fda19_2 rfl ?_
  refine wa_iload_n q_J7_fill_fda19_3 rfl ?_
  refine wa_callS q_J7_fill_fda19_4 g_J7_fill_fda19_4 w_J7_rangeCheck_23922 (av := [_, _, _]) rfl rfl (lk rfl) (Calls.mono (C_rangeCheck (by omega) (Nat.zero_le _) ht) ?_)
  rintro _ _ ⟨rfl, rfl⟩
  refine wa_iload_n q_J7_fill_fda19_7 rfl ?_
  refine wa_istore q_J7_fill_fda19_8 (by decide) ?_
  refine wa_lv (C_fill_loop (σ0 := _) hn ht ?_ _ 0 _ d rfl (Nat.zero_le _) hr (fun j hj => absurd hj (by omega)) (fun _ _ => rfl) (fun _ _ => rfl) rfl rfl) rfl
  intro σ1 d1 g1 g2 g3 g4 g5 g6
  exact ⟨rfl, d1, g1, g2, g3, g4, g5, g6⟩
/-- limbs moved up by k -/
theorem vl_up {d e : Nat → Nat} {n k : Nat} (h0 : ∀ j, j < k → e j = 0) (h1 : ∀ j, j < n → e (k + j) = d j) : vl e (k + n) = vl d n * BB ^ k := by
  rw [vl_add, vl_zero h0, Nat.zero_add, Nat.mul_comm, vl_congr (e := d) h1]
theorem pw_ten (k : Nat) : BB ^ k = 10 ^ (9 * k) := by
  rw [show BB = 10 ^ 9 by rfl, ← Nat.pow_mul]
theorem V_shiftUp {a p : Nat} (h : bw_V X D σ S V) (ha : a ∈ D) (hp : p ≤ 1000) (za : (V a).natAbs * 10 ^ p < BB ^ 250) : Calls X M_X1_shiftUp [.ref a, .int (nI p)] σ (fun res τ => res = none ∧ ∃ S', bw_V X D τ S' (uV V a (V a * 10 ^ p)) ∧ bw_St D σ S τ S') := by
  obtain ⟨a1, a2, a3, a4, a5, a6, a7⟩ := h.1.1 a ha
  obtain ⟨va, wa, na⟩ := h.2 a ha
  have hB : BB = 1000000000 := rfl
  have hpe : p = 9 * (p / 9) + p % 9 := by omega
  have h10 : (10 : Nat) ^ p = BB ^ (p / 9) * 10 ^ (p % 9) := by rw [pw_ten, ← Nat.pow_add, ← hpe]
  have hstay : (V a = 0 ∨ p = 0) → ∃ S', bw_V X D σ S' (uV V a (V a * 10 ^ p)) ∧ bw_St D σ S σ S' := by
    intro hz
    refine ⟨S, ⟨h.1, fun q hq => ?_⟩, bw_St.rf D σ S⟩
    by_cases e : q = a
    · subst e; rw [uV_s]
      rcases hz with z | z
      · rw [z, Int.zero_mul, ← z]; exact h.2 q hq
      · rw [z, Int.pow_zero, Int.mul_one]; exact h.2 q hq
    · rw [uV_n e]; exact h.2 q hq
  refine Calls.of rfl (lk rfl) ?_
  refine wa_iload_n q_X1_shiftUp_0 rfl ?_
  refine wn_if_le q_X1_shiftUp_1 (by omega) (fun hc => ?_) (fun hc => ?_)
  · refine wa_vret q_X1_shiftUp_11 rfl ?_
    exact ⟨rfl, hstay (Or.inr hc)⟩
  · refine wa_aload_n q_X1_shiftUp_4 rfl ?_
    refine wa_getf q_X1_shiftUp_5 f_RX1_34 (by assumption) rfl ?_
    refine wa_if_ne q_X1_shiftUp_8 (fun hd => ?_) (fun hd => ?_)
    · have hnz : V a ≠ 0 := fun z => hd (by rw [va]; exact sgI_0.mpr z)
      have hsz : 0 < (S a).2.2.1 := Nat.pos_of_ne_zero (fun z => hnz ((isV_sz (h.2 a ha)).mp z))
      have hle : (S a).2.2.1 + p / 9 ≤ 250 := by
        have q1 : BB ^ ((S a).2.2.1 - 1) ≤ (V a).natAbs := by
          rw [← wa]
          have := vl_ge (d := (S a).2.2.2.1) (n := (S a).2.2.1 - 1) (na.2.resolve_left (by omega))
          rw [Nat.sub_add_cancel hsz] at this
          exact this
        have q2 : BB ^ ((S a).2.2.1 - 1) * BB ^ (p / 9) ≤ (V a).natAbs * 10 ^ p := by
          rw [h10, ← Nat.mul_assoc]
          exact Nat.le_trans (Nat.mul_le_mul_right _ q1) (Nat.le_mul_of_pos_right _ (Nat.pow_pos (by decide)))
        rw [← Nat.pow_add] at q2
        have q3 : BB ^ ((S a).2.2.1 - 1 + p / 9) < BB ^ 250 := Nat.lt_of_le_of_lt q2 za
        have q4 := (Nat.pow_lt_pow_iff_right (a := BB) (by decide)).mp q3
        omega
      refine wa_iload_n q_X1_shiftUp_12 rfl ?_
      refine wa_bipush q_X1_shiftUp_13 (v := nI 9) (by decide) ?_
      refine wn_idiv q_X1_shiftUp_15 (by omega) (by omega) (by omega) ?_
      refine wa_istore_n q_X1_shiftUp_16 (by decide) ?_
      refine wa_aload_n q_X1_shiftUp_17 rfl ?_
      refine wa_getf q_X1_shiftUp_18 f_RX1_15 (by assumption) rfl ?_
      refine wa_istore_n q_X1_shiftUp_21 (by decide) ?_
      refine wa_aload_n q_X1_shiftUp_22 rfl ?_
      refine wa_iload_n q_X1_shiftUp_23 rfl ?_
      refine wa_iload_n q_X1_shiftUp_24 rfl ?_
      refine wn_iadd q_X1_shiftUp_25 ?_
      refine wa_callV q_X1_shiftUp_26 g_X1_shiftUp_26 w_X1_extend (by assumption) rfl (av := [_]) rfl rfl (lk rfl) (Calls.mono (C_extend h.1 ha (by omega)) ?_)
      rintro _ σ1 ⟨rfl, e, k1, k2, k3, k4, k5, k6⟩
      obtain ⟨e1, e2, e3, e4, e5, e6, e7⟩ := k5.1 a ha
      rw [uB_s] at e1 e2 e3 e4 e5 e7
      have hne := ne_oa e1 e2
      have hm : e.2.2.1 = (S a).2.2.1 + p / 9 := by omega
      refine wa_aload_n q_X1_shiftUp_29 rfl ?_
      refine wa_getf q_X1_shiftUp_30 f_RX1_11 (by assumption) rfl ?_
      refine wa_iconst q_X1_shiftUp_33 (v := nI 0) (by decide) ?_
      refine wa_aload_n q_X1_shiftUp_34 rfl ?_
      refine wa_getf q_X1_shiftUp_35 f_RX1_11 (by assumption) rfl ?_
      refine wa_iload_n q_X1_shiftUp_38 rfl ?_
      refine wa_iload_n q_X1_shiftUp_39 rfl ?_
      refine wn_copyi q_X1_shiftUp_40 a_RX1_41 (lk rfl) (lk rfl) e2 e2 (by omega) (by omega) (by omega) (by omega) (fun σ2 g1 g2 g3 g4 => ?_)
      have e1 := (g2 a hne).trans e1
      refine wa_aload_n q_X1_shiftUp_43 rfl ?_
      refine wa_getf q_X1_shiftUp_44 f_RX1_11 (by assumption) rfl ?_
      refine wa_iconst q_X1_shiftUp_47 (v := nI 0) (by decide) ?_
      refine wa_iload_n q_X1_shiftUp_48 rfl ?_
      refine wa_iconst q_X1_shiftUp_49 (v := nI 0) (by decide) ?_
      refine wa_callS q_X1_shiftUp_50 g_X1_shiftUp_50 w_J7_fill_fda19 (av := [_, _, _, _]) rfl rfl (lk rfl) (Calls.mono (C_fill g1 (by omega) (by omega)) ?_)
      rintro _ σ3 ⟨rfl, d1, f1, f2, f3, f4, f5, f6⟩
      have e1 := (f4 a hne).trans e1
      have st := bw_R.keep (τ := σ3) (a := a) (sz := e.2.2.1) (d := d1) (sg := e.2.2.2.2) k5 ha (by rw [uB_s]; exact e1) (by rw [uB_s]; exact f1) (by rw [uB_s]; omega) (fun q q2 q3 => by rw [uB_s] at q3; exact (f4 q q3).trans (g2 q q3)) (f5.trans g3) (f6.trans g4)
      rw [uB_u, uB_s] at st
      have hup : ∀ j, j < (S a).2.2.1 → d1 (p / 9 + j) = (S a).2.2.2.1 j := by
        intro j hj
        rw [f3 _ (by omega), pk_cpy_in (by omega) (by omega), Nat.zero_add, Nat.add_sub_cancel_left]
        exact k3 j hj
      have hval : vl d1 e.2.2.1 = (V a).natAbs * BB ^ (p / 9) := by
        rw [hm, Nat.add_comm, vl_up f2 hup, wa]
      have hv : bw_V X D σ3 (uB S a (e.1, e.2.1, e.2.2.1, d1, e.2.2.2.2)) (uV V a (V a * (BB ^ (p / 9) : Nat))) := by
        refine h.up st.1 ⟨?_, ?_, ?_, ?_⟩
        · show e.2.2.2.2 = _
          rw [k2, va, sgI_mul]
          have : sgI ((BB ^ (p / 9) : Nat) : Int) = 1 := by
            have := pw_pos (p / 9)
            rcases sgI_c ((BB ^ (p / 9) : Nat) : Int) with ⟨q, g⟩ | ⟨q, g⟩ | ⟨q, g⟩ <;> first | omega | exact g
          rw [this]; simp
        · show vl d1 e.2.2.1 = _
          rw [hval, Int.natAbs_mul, Int.natAbs_natCast]
        · intro i hi
          have hi : i < e.2.2.1 := hi
          show d1 i < BB
          rcases Nat.lt_or_ge i (p / 9) with q | q
          · rw [f2 i q]; exact BB_pos
          · have := hup (i - p / 9) (by omega)
            rw [show p / 9 + (i - p / 9) = i by omega] at this
            rw [this]; exact na.1 _ (by omega)
        · refine Or.inr ?_
          show d1 (e.2.2.1 - 1) ≠ 0
          have := hup ((S a).2.2.1 - 1) (by omega)
          rw [show e.2.2.1 - 1 = p / 9 + ((S a).2.2.1 - 1) by omega, this]
          exact na.2.resolve_left (by omega)
      refine wa_aload_n q_X1_shiftUp_53 rfl ?_
      refine wa_tensN q_X1_shiftUp_54 s_RX1_66 ?_
      refine wa_iload_n q_X1_shiftUp_57 rfl ?_
      refine wa_bipush q_X1_shiftUp_58 (v := nI 9) (by decide) ?_
      refine wn_irem q_X1_shiftUp_60 (by omega) (by omega) (by omega) ?_
      refine wn_tald q_X1_shiftUp_61 (by omega) ?_
      have h9 : 10 ^ (p % 9) ≤ 10 ^ 8 := Nat.pow_le_pow_right (by decide) (by omega)
      have h9' : (10 : Nat) ^ 8 = 100000000 := by decide
      refine wn_i2l q_X1_shiftUp_62 (by omega) ?_
      refine wa_callV q_X1_shiftUp_63 g_X1_shiftUp_63 w_X1_multiplySmall (by assumption) rfl (av := [_]) rfl rfl (lk rfl) (Calls.mono (V_mulS hv ha (by omega) (by rw [uV_s, Int.natAbs_mul, Int.natAbs_natCast]; refine Nat.lt_of_le_of_lt ?_ za; rw [h10, ← Nat.mul_assoc]; exact Nat.le_mul_of_pos_right _ (Nat.pow_pos (by decide)))) ?_)
      rintro _ σ4 ⟨rfl, S', w1, w2⟩
      refine wa_vret q_X1_shiftUp_66 rfl ?_
      refine ⟨rfl, S', ?_, k6.tr (st.2.tr w2)⟩
      have : uV (uV V a (V a * (BB ^ (p / 9) : Nat))) a (uV V a (V a * (BB ^ (p / 9) : Nat)) a * (10 ^ (p % 9) : Nat)) = uV V a (V a * 10 ^ p) := by
        funext q
        by_cases eq : q = a
        · subst eq
          rw [uV_s, uV_s, uV_s, Int.mul_assoc, ← Int.natCast_mul, ← h10, Int.natCast_pow]; rfl
        · rw [uV_n eq, uV_n eq, uV_n eq]
      rw [← this]
      exact w1
    · refine wa_vret q_X1_shiftUp_11 rfl ?_
      exact ⟨rfl, hstay (Or.inl (sgI_0.mp (by rw [← va]; exact hd)))⟩
end big7
