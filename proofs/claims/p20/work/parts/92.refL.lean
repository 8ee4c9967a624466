/-! The reference: sumOfPower, whole -/
theorem pwGo_m {a b : Nat} : ∀ (n k t s : Nat), s ≤ (pwGo a b n k t s).1 := by
  intro n
  induction n with
  | zero => intro k t s; exact Nat.le_refl _
  | succ n ih =>
    intro k t s
    by_cases h : t = 0
    · rw [pwGo_0 h]; exact Nat.le_refl _
    · rw [pwGo_s h]; exact Nat.le_trans (Nat.le_add_right _ _) (ih _ _ _)
theorem t_2 {T : Nat} (h : T < BB ^ 140) : 9765625 * T < 2 ^ 6990 := by
  have x0 := Nat.pow_le_pow_left (show BB ≤ 2 ^ 30 by decide) 141
  rw [← Nat.pow_mul] at x0
  have x1 : 9765625 * T < BB * BB ^ 140 := Nat.mul_lt_mul_of_le_of_lt (by decide) h (by decide)
  rw [show BB * BB ^ 140 = BB ^ 141 from (Nat.pow_succ' ..).symm] at x1
  exact Nat.lt_of_lt_of_le (Nat.lt_of_lt_of_le x1 x0) (Nat.pow_le_pow_right (by decide) (by decide))
/-- what sumOfPower leaves in 6, and how far off it may be -/
def pwS (a : Int) (b T : Nat) : Int := if 0 < a then ((pwGo a.natAbs b 6999 1 T T).1 : Int) else qdn ((T : Int) * (T : Int)) ((pwGo a.natAbs b 6999 1 T T).1 : Int)
def pwO (a : Int) (b T : Nat) : Nat := if 0 < a then 200 * (pwGo a.natAbs b 6999 1 T T).2 + 200 else 200 * (pwGo a.natAbs b 6999 1 T T).2 + 200 + 4
section ref21
variable {X : en_X} {σ : en_S} {M : Nat → Nat} {O : Int32 × Int32 × Int32 × Int32 × Int32} {C Z : Nat → Nat} {G : Nat → Int32} {V : Nat → Int}
theorem R_pow {a : Int} {b u T : Nat} {N1 N2 : Nat → Int64} (h : rV X σ M O C Z G V) (ha0 : a ≠ 0) (hb : 1 ≤ b) (hb2 : b ≤ 1000) (ha : a.natAbs ≤ 5 * b) (hu : u < 60) (hN : N1 u = lZ a) (hN2 : N2 u = lN b) (hT0 : 0 < T) (hT : T < BB ^ 140) (v7 : V 7 = (T : Int)) (o1 : M 5 ≠ M 1) (o2 : M 5 ≠ M 2) (o3 : M 5 ≠ M 3) (ho : look σ (M 5) = some (gL X 60 N1)) (hw : look σ (M 6) = some (gL X 60 N2)) :
    Calls X M_X7_sumOfPower [.ref (M 0), .int (nI u)] σ (fun res τ => res = some (.long (lN (pwO a b T))) ∧ pwO a b T ≤ 2000000 ∧ ∃ C' Z' G' V', rV X τ M O C' Z' G' V' ∧ V' 6 = pwS a b T ∧ (pwS a b T).natAbs < BB ^ 289 ∧ (∀ j, 7 ≤ j → j ≠ 9 → j ≠ 10 → V' j = V j) ∧ mSt M σ τ) := by
  have hB : BB = 1000000000 := rfl
  have e0 : (0 : Int64) = lZ 0 := by decide
  have hT' : T < BB ^ 200 := Nat.lt_of_lt_of_le hT (pw_mono (by decide))
  obtain ⟨a0, a1, a2, a3, n1, n2, n3⟩ := id h.1
  have main : WA X M_X7_sumOfPower σ 28 [(2, .long (lN a.natAbs)), (0, .ref (M 0)), (1, .int (nI u))] [] σ (fun res τ => res = some (.long (lN (pwO a b T))) ∧ pwO a b T ≤ 2000000 ∧ ∃ C' Z' G' V', rV X τ M O C' Z' G' V' ∧ V' 6 = pwS a b T ∧ (pwS a b T).natAbs < BB ^ 289 ∧ (∀ j, 7 ≤ j → j ≠ 9 → j ≠ 10 → V' j = V j) ∧ mSt M σ τ) := by
    refine wa_aload_n q_X7_sumOfPower_28 rfl ?_
    refine wa_getf q_X7_sumOfPower_29 f_RX7_27 (by assumption) rfl ?_
    refine wa_iload_n q_X7_sumOfPower_32 rfl ?_
    refine wn_glald q_X7_sumOfPower_33 hw (by omega) ?_
    rw [hN2]
    refine wa_lstore q_X7_sumOfPower_34 (by decide) ?_
    refine wa_aload_n q_X7_sumOfPower_36 rfl ?_
    refine wa_bipush q_X7_sumOfPower_37 (v := nI 7) (by decide) ?_
    refine wa_iconst q_X7_sumOfPower_39 (v := nI 0) (by decide) ?_
    refine wa_callV q_X7_sumOfPower_40 g_X7_sumOfPower_40 w_X7_copyTo (by assumption) rfl (av := [_, _]) rfl rfl (lk rfl) (Calls.mono (R_copy h (a := 7) (b := 0) (by decide) (by decide)) ?_)
    rintro _ σ1 ⟨rfl, C1, Z1, G1, h1, s1⟩
    rw [v7] at h1
    have e7 : uV V 0 (T : Int) 7 = (T : Int) := by rw [uV_n (by decide)]; exact v7
    obtain ⟨b0, b1, b2, b3, -⟩ := id h1.1
    refine wa_aload_n q_X7_sumOfPower_43 rfl ?_
    refine wa_bipush q_X7_sumOfPower_44 (v := nI 7) (by decide) ?_
    refine wa_bipush q_X7_sumOfPower_46 (v := nI 6) (by decide) ?_
    refine wa_callV q_X7_sumOfPower_48 g_X7_sumOfPower_48 w_X7_copyTo (by assumption) rfl (av := [_, _]) rfl rfl (lk rfl) (Calls.mono (R_copy h1 (a := 7) (b := 6) (by decide) (by decide)) ?_)
    rintro _ σ2 ⟨rfl, C2, Z2, G2, h2, s2⟩
    rw [e7] at h2
    refine wa_lconst q_X7_sumOfPower_51 (v := lN 1) (by decide) ?_
    refine wa_lstore q_X7_sumOfPower_52 (by decide) ?_
    have hT5 : T ≤ 5 ^ 1 * T := by omega
    refine wa_lv (rpow_loop (u := u) (σ0 := σ) (V0 := V) (by omega) hb hb2 ha hT' (t_2 hT) 6999 1 T T σ2 C2 Z2 G2 _ (by decide) (by decide) (fun _ => hT5) (fun z => absurd z (by decide)) (by omega) (by omega) h2 (by rw [uV_n (by decide), uV_s]) uV_s (fun j hj => by rw [uV_n (by omega), uV_n (by omega)]) (s1.tr s2) ?_) rfl
    have hm := pwGo_m (a := a.natAbs) (b := b) 6999 1 T T
    intro τ C3 Z3 G3 V3 h3 w6 w1 w2 wo s3
    have eS : pwS a b T = if 0 < a then ((pwGo a.natAbs b 6999 1 T T).1 : Int) else qdn ((T : Int) * (T : Int)) ((pwGo a.natAbs b 6999 1 T T).1 : Int) := rfl
    have eO : pwO a b T = if 0 < a then 200 * (pwGo a.natAbs b 6999 1 T T).2 + 200 else 200 * (pwGo a.natAbs b 6999 1 T T).2 + 200 + 4 := rfl
    rw [eS, eO]
    generalize pwGo a.natAbs b 6999 1 T T = R at *
    obtain ⟨s, k⟩ := R
    have w1 : s ≤ 7000 * (9765625 * T) := w1
    have w2 : k ≤ 7000 := w2
    have w6 : V3 6 = (s : Int) := w6
    have hm : T ≤ s := hm
    show WA X M_X7_sumOfPower σ 100 [(6, .long (lN k)), (4, .long (lN b)), (2, .long (lN a.natAbs)), (0, .ref (M 0)), (1, .int (nI u))] [] τ (fun res τ => res = some (.long (lN (if 0 < a then 200 * k + 200 else 200 * k + 200 + 4))) ∧ (if 0 < a then 200 * k + 200 else 200 * k + 200 + 4) ≤ 2000000 ∧ ∃ C' Z' G' V', rV X τ M O C' Z' G' V' ∧ V' 6 = (if 0 < a then (s : Int) else qdn ((T : Int) * (T : Int)) (s : Int)) ∧ (if 0 < a then (s : Int) else qdn ((T : Int) * (T : Int)) (s : Int)).natAbs < BB ^ 289 ∧ (∀ j, 7 ≤ j → j ≠ 9 → j ≠ 10 → V' j = V j) ∧ mSt M σ τ)
    have hsb : s < BB ^ 289 := by
      have x1 : 9765625 * T < BB * BB ^ 140 := Nat.mul_lt_mul_of_le_of_lt (by decide) hT (by decide)
      have x2 : 7000 * (9765625 * T) < BB * (BB * BB ^ 140) := Nat.mul_lt_mul_of_le_of_lt (by decide) x1 (by decide)
      rw [show BB * BB ^ 140 = BB ^ 141 from (Nat.pow_succ' ..).symm, show BB * BB ^ 141 = BB ^ 142 from (Nat.pow_succ' ..).symm] at x2
      exact Nat.lt_of_le_of_lt w1 (Nat.lt_of_lt_of_le x2 (pw_mono (by decide)))
    have ho3 : look τ (M 5) = some (gL X 60 N1) := (s3.1 _ o1 o2 o3).trans ho
    obtain ⟨c0, c1, c2, c3, -⟩ := id h3.1
    refine wa_ldc2 q_X7_sumOfPower_100 k_RX7_159 ?_
    refine wa_lload q_X7_sumOfPower_103 rfl ?_
    refine wn_lmul q_X7_sumOfPower_105 ?_
    refine wa_ldc2 q_X7_sumOfPower_106 k_RX7_159 ?_
    refine wn_ladd q_X7_sumOfPower_109 ?_
    refine wa_lstore q_X7_sumOfPower_110 (by decide) ?_
    refine wa_aload_n q_X7_sumOfPower_112 rfl ?_
    refine wa_getf q_X7_sumOfPower_113 f_RX7_23 (by assumption) rfl ?_
    refine wa_iload_n q_X7_sumOfPower_116 rfl ?_
    refine wn_glald q_X7_sumOfPower_117 ho3 (by omega) ?_
    rw [hN]
    refine wa_lconst q_X7_sumOfPower_118 (v := 0) (by decide) ?_
    refine wa_lcmp q_X7_sumOfPower_119 ?_
    refine wa_if_le q_X7_sumOfPower_120 (fun hc => ?_) (fun hc => ?_)
    · have hv : a ≤ 0 := by
        have := (lg_cmp_le _ _).mp hc
        rw [e0] at this
        exact (lZ_le (by omega) (by omega) (by decide) (by decide)).mp this
      have hna : ¬ 0 < a := by omega
      have z7 : (V3 7).natAbs < BB ^ 155 := by rw [wo 7 (by decide), v7, Int.natAbs_natCast]; exact Nat.lt_of_lt_of_le hT (pw_mono (by decide))
      refine wa_aload_n q_X7_sumOfPower_126 rfl ?_
      refine wa_iconst q_X7_sumOfPower_127 (v := nI 1) (by decide) ?_
      refine wa_bipush q_X7_sumOfPower_128 (v := nI 7) (by decide) ?_
      refine wa_bipush q_X7_sumOfPower_130 (v := nI 7) (by decide) ?_
      refine wa_callV q_X7_sumOfPower_132 g_X7_sumOfPower_132 w_X7_multiply (by assumption) rfl (av := [_, _, _]) rfl rfl (lk rfl) (Calls.mono (R_mul h3 (r := 1) (a := 7) (b := 7) (by decide) (by decide) (by decide) (by decide) (by decide) z7 z7) ?_)
      rintro _ σ4 ⟨rfl, C4, Z4, G4, h4, s4⟩
      rw [wo 7 (by decide), v7] at h4
      have f6 : uV V3 1 ((T : Int) * (T : Int)) 6 = (s : Int) := by rw [uV_n (by decide)]; exact w6
      obtain ⟨d0, d1, d2, d3, -⟩ := id h4.1
      refine wa_aload_n q_X7_sumOfPower_135 rfl ?_
      refine wa_bipush q_X7_sumOfPower_136 (v := nI 6) (by decide) ?_
      refine wa_iconst q_X7_sumOfPower_138 (v := nI 2) (by decide) ?_
      refine wa_callV q_X7_sumOfPower_139 g_X7_sumOfPower_139 w_X7_copyTo (by assumption) rfl (av := [_, _]) rfl rfl (lk rfl) (Calls.mono (R_copy h4 (a := 6) (b := 2) (by decide) (by decide)) ?_)
      rintro _ σ5 ⟨rfl, C5, Z5, G5, h5, s5⟩
      rw [f6] at h5
      have g1 : uV (uV V3 1 ((T : Int) * (T : Int))) 2 (s : Int) 1 = (T : Int) * (T : Int) := by rw [uV_n (by decide), uV_s]
      have g2 : uV (uV V3 1 ((T : Int) * (T : Int))) 2 (s : Int) 2 = (s : Int) := uV_s
      have hTT : ((T : Int) * (T : Int)).natAbs < BB ^ 281 := by rw [Int.natAbs_mul, Int.natAbs_natCast]; exact lp_le (mul_lt hT hT) (by decide)
      have hTT2 : ((T : Int) * (T : Int)).natAbs < BB ^ 290 := Nat.lt_of_lt_of_le hTT (pw_mono (by decide))
      obtain ⟨i0, i1, i2, i3, -⟩ := id h5.1
      refine wa_aload_n q_X7_sumOfPower_142 rfl ?_
      refine wa_bipush q_X7_sumOfPower_143 (v := nI 6) (by decide) ?_
      refine wa_iconst q_X7_sumOfPower_145 (v := nI 1) (by decide) ?_
      refine wa_iconst q_X7_sumOfPower_146 (v := nI 2) (by decide) ?_
      refine wa_iconst q_X7_sumOfPower_147 (v := nI 0) (by decide) ?_
      refine wa_callV q_X7_sumOfPower_148 g_X7_sumOfPower_148 w_X7_rounded (by assumption) rfl (av := [_, _, _, _]) rfl rfl (lk rfl) (Calls.mono (R_rnd (up := false) h5 (r := 6) (a := 1) (b := 2) (by decide) (by decide) (by decide) (by decide) (by decide) (by decide) (by decide) (by rw [g2]; omega) (by rw [g1]; exact hTT2) (by rw [g2, Int.natAbs_natCast]; exact Nat.lt_of_lt_of_le hsb (pw_mono (by decide)))) ?_)
      rintro _ σ6 ⟨rfl, C6, Z6, G6, V6, h6, q1, q2, s6⟩
      rw [g1, g2] at q1
      refine wa_lload q_X7_sumOfPower_151 rfl ?_
      refine wa_ldc2 q_X7_sumOfPower_153 k_RX7_155 ?_
      refine wn_ladd q_X7_sumOfPower_156 ?_
      refine wa_lret q_X7_sumOfPower_157 rfl ?_
      rw [if_neg hna, if_neg hna]
      have hq := (qdn_le ((T : Int) * (T : Int)) (s : Int)).1
      have hq2 : ((T : Int) * (T : Int)).natAbs / (s : Int).natAbs + 1 < BB ^ 289 := Nat.lt_of_le_of_lt (Nat.succ_le_succ (Nat.div_le_self _ _)) (pw_s hTT (by decide))
      exact ⟨rfl, by omega, C6, Z6, G6, V6, h6, q1, Nat.lt_of_le_of_lt hq hq2, fun j y1 y2 y3 => by rw [q2 j (by omega) y2 y3, uV_n (by omega), uV_n (by omega)]; exact wo j y1, s3.tr (s4.tr (s5.tr s6))⟩
    · have hv : 0 < a := by
        refine Int.not_le.mp (fun z => hc ((lg_cmp_le _ _).mpr ?_))
        rw [e0]
        exact (lZ_le (by omega) (by omega) (by decide) (by decide)).mpr z
      refine wa_lload q_X7_sumOfPower_123 rfl ?_
      refine wa_lret q_X7_sumOfPower_125 rfl ?_
      rw [if_pos hv, if_pos hv]
      exact ⟨rfl, by omega, C3, Z3, G3, V3, h3, w6, by rw [Int.natAbs_natCast]; exact hsb, fun j y1 _ _ => wo j y1, s3⟩
  refine Calls.of rfl (lk rfl) ?_
  refine wa_aload_n q_X7_sumOfPower_0 rfl ?_
  refine wa_getf q_X7_sumOfPower_1 f_RX7_23 (by assumption) rfl ?_
  refine wa_iload_n q_X7_sumOfPower_4 rfl ?_
  refine wn_glald q_X7_sumOfPower_5 ho (by omega) ?_
  rw [hN]
  refine wa_lconst q_X7_sumOfPower_6 (v := 0) (by decide) ?_
  refine wa_lcmp q_X7_sumOfPower_7 ?_
  refine wa_if_ge q_X7_sumOfPower_8 (fun hc => ?_) (fun hc => ?_)
  · have hv : 0 ≤ a := by
      have := (lg_cmp_ge _ _).mp hc
      rw [e0] at this
      exact (lZ_le (by decide) (by decide) (by omega) (by omega)).mp this
    refine wa_aload_n q_X7_sumOfPower_21 rfl ?_
    refine wa_getf q_X7_sumOfPower_22 f_RX7_23 (by assumption) rfl ?_
    refine wa_iload_n q_X7_sumOfPower_25 rfl ?_
    refine wn_glald q_X7_sumOfPower_26 ho (by omega) ?_
    rw [hN, show lZ a = lN a.natAbs by rw [lN_lZ]; congr 1; omega]
    refine wa_lstore_n q_X7_sumOfPower_27 (by decide) ?_
    exact wa_lv main rfl
  · have hv : a ≤ 0 := by
      refine Int.not_lt.mp (fun z => hc ((lg_cmp_ge _ _).mpr ?_))
      rw [e0]
      exact (lZ_le (by decide) (by decide) (by omega) (by omega)).mpr (by omega)
    refine wa_aload_n q_X7_sumOfPower_11 rfl ?_
    refine wa_getf q_X7_sumOfPower_12 f_RX7_23 (by assumption) rfl ?_
    refine wa_iload_n q_X7_sumOfPower_15 rfl ?_
    refine wn_glald q_X7_sumOfPower_16 ho (by omega) ?_
    rw [hN]
    refine wa_lneg q_X7_sumOfPower_17 ?_
    rw [lZ_neg, show lZ (-a) = lN a.natAbs by rw [lN_lZ]; congr 1; omega]
    refine wa_goto q_X7_sumOfPower_18 ?_
    refine wa_lstore_n q_X7_sumOfPower_27 (by decide) ?_
    exact wa_lv main rfl
end ref21
