/-! EnclosedDigits$Encloser: one kind of VALUE at a time -/
abbrev vE (kd : Int32) (a b : Int) (f s at' op : Int32) (lo hi : Nat) (fa : Int32) (fi : Nat) : va_E := .inr (5, [.int kd, .long (lZ a), .long (lZ b), .int f, .int s, .int at', .int op, .ref lo, .ref hi, .int fa, .ref fi])
abbrev eE (bn se dn up ov un rs : Nat) : va_E := .inr (2, [.ref bn, .ref se, .ref dn, .ref up, .ref ov, .ref un, .ref rs])
section enc1
variable {X : en_X} {σ : en_S} {D : List Nat} {S : Nat → en_B} {V : Nat → Int}
theorem F_exact {v lo hi fi : Nat} {kd f s at' op fa : Int32} {a b : Int} (h : bw_V X D σ S V) (hv : look σ v = some (vE kd a b f s at' op lo hi fa fi)) (m1 : lo ∈ D) (m2 : hi ∈ D) : Calls X M_X2_isExact [.ref v] σ (fun res τ => res = some (.int (nI (if V lo = V hi then 1 else 0))) ∧ τ = σ) := by
  obtain ⟨i1, -, -, -, -, -, -⟩ := h.1.1 lo m1
  refine Calls.of rfl (lk rfl) ?_
  refine wa_aload_n q_X2_isExact_0 rfl ?_
  refine wa_getf q_X2_isExact_1 f_RX2_107 (by assumption) rfl ?_
  refine wa_aload_n q_X2_isExact_4 rfl ?_
  refine wa_getf q_X2_isExact_5 f_RX2_114 (by assumption) rfl ?_
  refine wa_callV q_X2_isExact_8 g_X2_isExact_8 w_X1_compare (by assumption) rfl (av := [_]) rfl rfl (lk rfl) (Calls.mono (V_cmp h m1 m2) ?_)
  rintro _ _ ⟨rfl, rfl⟩
  refine wa_if_ne q_X2_isExact_11 (fun hx => ?_) (fun hx => ?_)
  · refine wa_iconst q_X2_isExact_18 (v := nI 0) (by decide) ?_
    refine wa_zret q_X2_isExact_19 rfl rfl ?_
    refine ⟨?_, rfl⟩
    rw [if_neg (fun z => hx (by unfold cmpI; rw [if_neg (by omega), if_pos z]))]
  · refine wa_iconst q_X2_isExact_14 (v := nI 1) (by decide) ?_
    refine wa_goto q_X2_isExact_15 ?_
    refine wa_zret q_X2_isExact_19 rfl rfl ?_
    refine ⟨?_, rfl⟩
    rw [if_pos (by unfold cmpI at hx; split at hx; exact absurd hx (by decide); split at hx; assumption; exact absurd hx (by decide))]
theorem F_long {a : Nat} (h : bw_V X D σ S V) (m1 : a ∈ D) : Calls X M_X2_isTooLong [.ref a] σ (fun res τ => res = some (.int (nI (if (V a).natAbs < 10 ^ 800 then 0 else 1))) ∧ τ = σ) := by
  obtain ⟨i1, -, -, -, -, -, -⟩ := h.1.1 a m1
  refine Calls.of rfl (lk rfl) ?_
  refine wa_aload_n q_X2_isTooLong_0 rfl ?_
  refine wa_callV q_X2_isTooLong_1 g_X2_isTooLong_1 w_X1_digitCount (by assumption) rfl (av := []) rfl rfl (lk rfl) (Calls.mono (V_dC h m1) ?_)
  rintro _ _ ⟨⟨c, hc, rfl, hd⟩, rfl⟩
  refine wa_sipush q_X2_isTooLong_4 (v := nI 800) (by decide) ?_
  refine wn_icmp_le q_X2_isTooLong_7 (by omega) (by omega) (fun hx => ?_) (fun hx => ?_)
  · refine wa_iconst q_X2_isTooLong_14 (v := nI 0) (by decide) ?_
    refine wa_zret q_X2_isTooLong_15 rfl rfl ?_
    refine ⟨?_, rfl⟩
    rw [if_pos (Nat.lt_of_lt_of_le hd.1 (Nat.pow_le_pow_right (by decide) hx))]
  · refine wa_iconst q_X2_isTooLong_10 (v := nI 1) (by decide) ?_
    refine wa_goto q_X2_isTooLong_11 ?_
    refine wa_zret q_X2_isTooLong_15 rfl rfl ?_
    refine ⟨?_, rfl⟩
    rw [if_neg ?_]
    have q1 := hd.2.resolve_left (by omega)
    have q2 : 10 ^ 800 ≤ 10 ^ (c - 1) := Nat.pow_le_pow_right (by decide) (by omega)
    exact Nat.not_lt.mpr (Nat.le_trans q2 q1)
theorem p10_lt {p : Nat} (hp : p ≤ 480) : 10 ^ p ≤ BB ^ 54 := by
  rw [pw_ten]; exact Nat.pow_le_pow_right (by decide) (by omega)
theorem F_whole {v lo hi fi p : Nat} {kd f s at' op fa : Int32} {a b : Int} (h : bw_V X D σ S V) (hv : look σ v = some (vE kd a b f s at' op lo hi fa fi)) (hvl : v < σ.1) (m1 : lo ∈ D) (m2 : hi ∈ D) (hne : lo ≠ hi) (ha1 : -9223372036854775808 ≤ a) (ha2 : a < 9223372036854775808) (hp : p ≤ 480) :
    Calls X M_X2_fillWhole [.ref v, .int (nI p)] σ (fun res τ => res = none ∧ ∃ S' V', bw_V X D τ S' V' ∧ V' lo = a * 10 ^ p ∧ V' hi = a * 10 ^ p ∧ (∀ x, x ≠ lo → x ≠ hi → V' x = V x) ∧ bw_St D σ S τ S') := by
  obtain ⟨i1, -, -, -, -, -, -⟩ := h.1.1 lo m1
  have hsm : a.natAbs * 10 ^ p < BB ^ 250 := by
    have q1 : a.natAbs * 10 ^ p ≤ BB ^ 3 * BB ^ 54 := Nat.mul_le_mul (by have : BB ^ 3 = 1000000000000000000000000000 := rfl; omega) (p10_lt hp)
    rw [← Nat.pow_add] at q1
    exact Nat.lt_of_le_of_lt q1 ((Nat.pow_lt_pow_iff_right (by decide)).mpr (by decide))
  refine Calls.of rfl (lk rfl) ?_
  refine wa_aload_n q_X2_fillWhole_0 rfl ?_
  refine wa_getf q_X2_fillWhole_1 f_RX2_107 (by assumption) rfl ?_
  refine wa_aload_n q_X2_fillWhole_4 rfl ?_
  refine wa_getf q_X2_fillWhole_5 f_RX2_127 (by assumption) rfl ?_
  refine wa_callV q_X2_fillWhole_8 g_X2_fillWhole_8 w_X1_setLong (by assumption) rfl (av := [_]) rfl rfl (lk rfl) (Calls.mono (V_setL h m1 ha1 ha2) ?_)
  rintro _ σ1 ⟨rfl, S1, v1, s1⟩
  have w1 := bw_obj s1 h.1 hvl hv (by decide)
  have l1 : v < σ1.1 := Nat.lt_of_lt_of_le hvl s1.1
  obtain ⟨i2, -, -, -, -, -, -⟩ := v1.1.1 lo m1
  refine wa_aload_n q_X2_fillWhole_11 rfl ?_
  refine wa_getf q_X2_fillWhole_12 f_RX2_107 (by assumption) rfl ?_
  refine wa_iload_n q_X2_fillWhole_15 rfl ?_
  refine wa_callV q_X2_fillWhole_16 g_X2_fillWhole_16 w_X1_shiftUp (by assumption) rfl (av := [_]) rfl rfl (lk rfl) (Calls.mono (V_shiftUp v1 m1 (by omega) (by rw [uV_s]; exact hsm)) ?_)
  rintro _ σ2 ⟨rfl, S2, v2, s2⟩
  rw [uV_s] at v2
  have w2 := bw_obj s2 v1.1 l1 w1 (by decide)
  obtain ⟨i3, -, -, -, -, -, -⟩ := v2.1.1 hi m2
  refine wa_aload_n q_X2_fillWhole_19 rfl ?_
  refine wa_getf q_X2_fillWhole_20 f_RX2_114 (by assumption) rfl ?_
  refine wa_aload_n q_X2_fillWhole_23 rfl ?_
  refine wa_getf q_X2_fillWhole_24 f_RX2_107 (by assumption) rfl ?_
  refine wa_callV q_X2_fillWhole_27 g_X2_fillWhole_27 w_X1_copy (by assumption) rfl (av := [_]) rfl rfl (lk rfl) (Calls.mono (V_copy v2 m2 m1 (Ne.symm hne) (by rw [uV_s, Int.natAbs_mul, Int.natAbs_pow]; exact hsm)) ?_)
  rintro _ σ3 ⟨rfl, S3, v3, s3⟩
  rw [uV_s] at v3
  refine wa_vret q_X2_fillWhole_30 rfl ?_
  refine ⟨rfl, S3, _, v3, ?_, ?_, fun x h1 h2 => ?_, s1.tr (s2.tr s3)⟩
  · rw [uV_n hne, uV_s]
  · rw [uV_s]
  · rw [uV_n h2, uV_n h1, uV_n h1]
theorem F_sum {v lo hi fi v1 lo1 hi1 fi1 v2 lo2 hi2 fi2 : Nat} {kd f s at' op fa kd1 f1 s1 at1 op1 fa1 kd2 f2 s2 at2 op2 fa2 : Int32} {a b a1 b1 a2 b2 : Int} (h : bw_V X D σ S V) (hv : look σ v = some (vE kd a b f s at' op lo hi fa fi)) (hvl : v < σ.1) (hv1 : look σ v1 = some (vE kd1 a1 b1 f1 s1 at1 op1 lo1 hi1 fa1 fi1)) (hvl1 : v1 < σ.1) (hv2 : look σ v2 = some (vE kd2 a2 b2 f2 s2 at2 op2 lo2 hi2 fa2 fi2)) (hvl2 : v2 < σ.1) (m1 : lo ∈ D) (m2 : hi ∈ D) (m3 : lo1 ∈ D) (m4 : hi1 ∈ D) (m5 : lo2 ∈ D) (m6 : hi2 ∈ D) (n1 : lo ≠ hi) (n2 : lo ≠ lo1) (n3 : lo ≠ lo2) (n4 : lo ≠ hi1) (n5 : lo ≠ hi2) (n6 : hi ≠ hi1) (n7 : hi ≠ hi2)
    (z1 : (V lo1).natAbs < BB ^ 90) (z2 : (V hi1).natAbs < BB ^ 90) (z3 : (V lo2).natAbs < BB ^ 90) (z4 : (V hi2).natAbs < BB ^ 90) :
    Calls X M_X2_fillSum [.ref v, .ref v1, .ref v2] σ (fun res τ => res = none ∧ ∃ S' V', bw_V X D τ S' V' ∧ V' lo = V lo1 + V lo2 ∧ V' hi = V hi1 + V hi2 ∧ (∀ x, x ≠ lo → x ≠ hi → V' x = V x) ∧ bw_St D σ S τ S') := by
  have hb : BB ^ 90 ≤ BB ^ 250 := pw_mono (by decide)
  obtain ⟨i1, -, -, -, -, -, -⟩ := h.1.1 lo m1
  refine Calls.of rfl (lk rfl) ?_
  refine wa_aload_n q_X2_fillSum_0 rfl ?_
  refine wa_getf q_X2_fillSum_1 f_RX2_107 (by assumption) rfl ?_
  refine wa_aload_n q_X2_fillSum_4 rfl ?_
  refine wa_getf q_X2_fillSum_5 f_RX2_107 (by assumption) rfl ?_
  refine wa_callV q_X2_fillSum_8 g_X2_fillSum_8 w_X1_copy (by assumption) rfl (av := [_]) rfl rfl (lk rfl) (Calls.mono (V_copy h m1 m3 n2 (by omega)) ?_)
  rintro _ σ1 ⟨rfl, S1, w1, t1⟩
  have a0 := bw_obj t1 h.1 hvl hv (by decide)
  have a1' := bw_obj t1 h.1 hvl1 hv1 (by decide)
  have a2' := bw_obj t1 h.1 hvl2 hv2 (by decide)
  obtain ⟨i2, -, -, -, -, -, -⟩ := w1.1.1 lo m1
  refine wa_aload_n q_X2_fillSum_11 rfl ?_
  refine wa_getf q_X2_fillSum_12 f_RX2_107 (by assumption) rfl ?_
  refine wa_aload_n q_X2_fillSum_15 rfl ?_
  refine wa_getf q_X2_fillSum_16 f_RX2_107 (by assumption) rfl ?_
  refine wa_callV q_X2_fillSum_19 g_X2_fillSum_19 w_X1_add (by assumption) rfl (av := [_]) rfl rfl (lk rfl) (Calls.mono (V_add w1 m1 m5 n3 (by rw [uV_s]; omega) (by rw [uV_n (Ne.symm n3)]; omega)) ?_)
  rintro _ σ2 ⟨rfl, S2, w2, t2⟩
  rw [uV_s, uV_n (Ne.symm n3)] at w2
  have c0 := bw_obj t2 w1.1 (Nat.lt_of_lt_of_le hvl t1.1) a0 (by decide)
  have c1 := bw_obj t2 w1.1 (Nat.lt_of_lt_of_le hvl1 t1.1) a1' (by decide)
  have c2 := bw_obj t2 w1.1 (Nat.lt_of_lt_of_le hvl2 t1.1) a2' (by decide)
  obtain ⟨i3, -, -, -, -, -, -⟩ := w2.1.1 hi m2
  have e1 : uV (uV V lo (V lo1)) lo (V lo1 + V lo2) hi1 = V hi1 := by rw [uV_n (Ne.symm n4), uV_n (Ne.symm n4)]
  have e2 : uV (uV V lo (V lo1)) lo (V lo1 + V lo2) hi2 = V hi2 := by rw [uV_n (Ne.symm n5), uV_n (Ne.symm n5)]
  refine wa_aload_n q_X2_fillSum_22 rfl ?_
  refine wa_getf q_X2_fillSum_23 f_RX2_114 (by assumption) rfl ?_
  refine wa_aload_n q_X2_fillSum_26 rfl ?_
  refine wa_getf q_X2_fillSum_27 f_RX2_114 (by assumption) rfl ?_
  refine wa_callV q_X2_fillSum_30 g_X2_fillSum_30 w_X1_copy (by assumption) rfl (av := [_]) rfl rfl (lk rfl) (Calls.mono (V_copy w2 m2 m4 n6 (by rw [e1]; omega)) ?_)
  rintro _ σ3 ⟨rfl, S3, w3, t3⟩
  rw [e1] at w3
  have d0 := bw_obj t3 w2.1 (Nat.lt_of_lt_of_le hvl (Nat.le_trans t1.1 t2.1)) c0 (by decide)
  have d2 := bw_obj t3 w2.1 (Nat.lt_of_lt_of_le hvl2 (Nat.le_trans t1.1 t2.1)) c2 (by decide)
  obtain ⟨i4, -, -, -, -, -, -⟩ := w3.1.1 hi m2
  refine wa_aload_n q_X2_fillSum_33 rfl ?_
  refine wa_getf q_X2_fillSum_34 f_RX2_114 (by assumption) rfl ?_
  refine wa_aload_n q_X2_fillSum_37 rfl ?_
  refine wa_getf q_X2_fillSum_38 f_RX2_114 (by assumption) rfl ?_
  refine wa_callV q_X2_fillSum_41 g_X2_fillSum_41 w_X1_add (by assumption) rfl (av := [_]) rfl rfl (lk rfl) (Calls.mono (V_add w3 m2 m6 n7 (by rw [uV_s]; omega) (by rw [uV_n (Ne.symm n7), e2]; omega)) ?_)
  rintro _ σ4 ⟨rfl, S4, w4, t4⟩
  rw [uV_s, uV_n (Ne.symm n7), e2] at w4
  refine wa_vret q_X2_fillSum_44 rfl ?_
  refine ⟨rfl, S4, _, w4, ?_, ?_, fun x h1 h2 => ?_, t1.tr (t2.tr (t3.tr t4))⟩
  · rw [uV_n n1, uV_n n1, uV_s]
  · rw [uV_s]
  · rw [uV_n h2, uV_n h2, uV_n h1, uV_n h1]
theorem F_diff {v lo hi fi v1 lo1 hi1 fi1 v2 lo2 hi2 fi2 : Nat} {kd f s at' op fa kd1 f1 s1 at1 op1 fa1 kd2 f2 s2 at2 op2 fa2 : Int32} {a b a1 b1 a2 b2 : Int} (h : bw_V X D σ S V) (hv : look σ v = some (vE kd a b f s at' op lo hi fa fi)) (hvl : v < σ.1) (hv1 : look σ v1 = some (vE kd1 a1 b1 f1 s1 at1 op1 lo1 hi1 fa1 fi1)) (hvl1 : v1 < σ.1) (hv2 : look σ v2 = some (vE kd2 a2 b2 f2 s2 at2 op2 lo2 hi2 fa2 fi2)) (hvl2 : v2 < σ.1) (m1 : lo ∈ D) (m2 : hi ∈ D) (m3 : lo1 ∈ D) (m4 : hi1 ∈ D) (m5 : lo2 ∈ D) (m6 : hi2 ∈ D) (n1 : lo ≠ hi) (n2 : lo ≠ lo1) (n3 : lo ≠ lo2) (n4 : lo ≠ hi1) (n5 : lo ≠ hi2) (n6 : hi ≠ hi1) (n7 : hi ≠ lo2)
    (z1 : (V lo1).natAbs < BB ^ 90) (z2 : (V hi1).natAbs < BB ^ 90) (z3 : (V lo2).natAbs < BB ^ 90) (z4 : (V hi2).natAbs < BB ^ 90) :
    Calls X M_X2_fillDifference [.ref v, .ref v1, .ref v2] σ (fun res τ => res = none ∧ ∃ S' V', bw_V X D τ S' V' ∧ V' lo = V lo1 - V hi2 ∧ V' hi = V hi1 - V lo2 ∧ (∀ x, x ≠ lo → x ≠ hi → V' x = V x) ∧ bw_St D σ S τ S') := by
  have hb : BB ^ 90 ≤ BB ^ 250 := pw_mono (by decide)
  obtain ⟨i1, -, -, -, -, -, -⟩ := h.1.1 lo m1
  refine Calls.of rfl (lk rfl) ?_
  refine wa_aload_n q_X2_fillDifference_0 rfl ?_
  refine wa_getf q_X2_fillDifference_1 f_RX2_107 (by assumption) rfl ?_
  refine wa_aload_n q_X2_fillDifference_4 rfl ?_
  refine wa_getf q_X2_fillDifference_5 f_RX2_107 (by assumption) rfl ?_
  refine wa_callV q_X2_fillDifference_8 g_X2_fillDifference_8 w_X1_copy (by assumption) rfl (av := [_]) rfl rfl (lk rfl) (Calls.mono (V_copy h m1 m3 n2 (by omega)) ?_)
  rintro _ σ1 ⟨rfl, S1, w1, t1⟩
  have a0 := bw_obj t1 h.1 hvl hv (by decide)
  have a1' := bw_obj t1 h.1 hvl1 hv1 (by decide)
  have a2' := bw_obj t1 h.1 hvl2 hv2 (by decide)
  obtain ⟨i2, -, -, -, -, -, -⟩ := w1.1.1 lo m1
  refine wa_aload_n q_X2_fillDifference_11 rfl ?_
  refine wa_getf q_X2_fillDifference_12 f_RX2_107 (by assumption) rfl ?_
  refine wa_aload_n q_X2_fillDifference_15 rfl ?_
  refine wa_getf q_X2_fillDifference_16 f_RX2_114 (by assumption) rfl ?_
  refine wa_callV q_X2_fillDifference_19 g_X2_fillDifference_19 w_X1_subtract (by assumption) rfl (av := [_]) rfl rfl (lk rfl) (Calls.mono (V_sub w1 m1 m6 n5 (by rw [uV_s]; omega) (by rw [uV_n (Ne.symm n5)]; omega)) ?_)
  rintro _ σ2 ⟨rfl, S2, w2, t2⟩
  rw [uV_s, uV_n (Ne.symm n5)] at w2
  have c0 := bw_obj t2 w1.1 (Nat.lt_of_lt_of_le hvl t1.1) a0 (by decide)
  have c1 := bw_obj t2 w1.1 (Nat.lt_of_lt_of_le hvl1 t1.1) a1' (by decide)
  have c2 := bw_obj t2 w1.1 (Nat.lt_of_lt_of_le hvl2 t1.1) a2' (by decide)
  obtain ⟨i3, -, -, -, -, -, -⟩ := w2.1.1 hi m2
  have e1 : uV (uV V lo (V lo1)) lo (V lo1 - V hi2) hi1 = V hi1 := by rw [uV_n (Ne.symm n4), uV_n (Ne.symm n4)]
  have e2 : uV (uV V lo (V lo1)) lo (V lo1 - V hi2) lo2 = V lo2 := by rw [uV_n (Ne.symm n3), uV_n (Ne.symm n3)]
  refine wa_aload_n q_X2_fillDifference_22 rfl ?_
  refine wa_getf q_X2_fillDifference_23 f_RX2_114 (by assumption) rfl ?_
  refine wa_aload_n q_X2_fillDifference_26 rfl ?_
  refine wa_getf q_X2_fillDifference_27 f_RX2_114 (by assumption) rfl ?_
  refine wa_callV q_X2_fillDifference_30 g_X2_fillDifference_30 w_X1_copy (by assumption) rfl (av := [_]) rfl rfl (lk rfl) (Calls.mono (V_copy w2 m2 m4 n6 (by rw [e1]; omega)) ?_)
  rintro _ σ3 ⟨rfl, S3, w3, t3⟩
  rw [e1] at w3
  have d0 := bw_obj t3 w2.1 (Nat.lt_of_lt_of_le hvl (Nat.le_trans t1.1 t2.1)) c0 (by decide)
  have d2 := bw_obj t3 w2.1 (Nat.lt_of_lt_of_le hvl2 (Nat.le_trans t1.1 t2.1)) c2 (by decide)
  obtain ⟨i4, -, -, -, -, -, -⟩ := w3.1.1 hi m2
  refine wa_aload_n q_X2_fillDifference_33 rfl ?_
  refine wa_getf q_X2_fillDifference_34 f_RX2_114 (by assumption) rfl ?_
  refine wa_aload_n q_X2_fillDifference_37 rfl ?_
  refine wa_getf q_X2_fillDifference_38 f_RX2_107 (by assumption) rfl ?_
  refine wa_callV q_X2_fillDifference_41 g_X2_fillDifference_41 w_X1_subtract (by assumption) rfl (av := [_]) rfl rfl (lk rfl) (Calls.mono (V_sub w3 m2 m5 n7 (by rw [uV_s]; omega) (by rw [uV_n (Ne.symm n7), e2]; omega)) ?_)
  rintro _ σ4 ⟨rfl, S4, w4, t4⟩
  rw [uV_s, uV_n (Ne.symm n7), e2] at w4
  refine wa_vret q_X2_fillDifference_44 rfl ?_
  refine ⟨rfl, S4, _, w4, ?_, ?_, fun x h1 h2 => ?_, t1.tr (t2.tr (t3.tr t4))⟩
  · rw [uV_n n1, uV_n n1, uV_s]
  · rw [uV_s]
  · rw [uV_n h2, uV_n h2, uV_n h1, uV_n h1]
end enc1
