/-! The reference: isRoot -/
section ref15
variable {X : en_X} {σ : en_S} {M : Nat → Nat} {O : Int32 × Int32 × Int32 × Int32 × Int32} {C Z : Nat → Nat} {G : Nat → Int32} {V : Nat → Int}
theorem sqr_0 : sqr 0 = 0 := by
  have h := sqr_is 0
  rcases Nat.eq_zero_or_pos (sqr 0) with z | z
  · exact z
  · have := h.1
    have : 1 * 1 ≤ sqr 0 * sqr 0 := Nat.mul_le_mul z z
    omega
set_option maxHeartbeats 2000000 in
theorem R_isRoot {l a p : Nat} (h : rV X σ M O C Z G V) (hl : l + 1 < 140) (ha : 20 ≤ a) (hal : a + 1 < l) (hp : p ≤ 480) (v12 : V 12 = 10 ^ p) (z1 : (V a).natAbs < BB ^ 90) (z2 : (V (a + 1)).natAbs < BB ^ 90) :
    Calls X M_X7_isRoot [.ref (M 0), .int (nI l), .int (nI a)] σ (fun res τ => (V (a + 1) < 0 ∧ res = some (.int (nI 0)) ∧ τ = σ) ∨ (0 ≤ V (a + 1) ∧ res = some (.int (nI 1)) ∧ ∃ C' Z' G' V', rV X τ M O C' Z' G' V' ∧ V' l = rtL (V a) p ∧ V' (l + 1) = rtH (V (a + 1)) p ∧ (∀ s, 5 ≤ s → s ≠ l → s ≠ l + 1 → V' s = V s) ∧ mSt M σ τ)) := by
  have hB : BB = 1000000000 := rfl
  have b10 : ((10 : Int) ^ p).natAbs < BB ^ 155 := by
    rw [Int.natAbs_pow]
    exact Nat.lt_of_le_of_lt (p10_lt hp) ((Nat.pow_lt_pow_iff_right (by decide)).mpr (by decide))
  have h155 : BB ^ 150 < BB ^ 155 := (Nat.pow_lt_pow_iff_right (by decide)).mpr (by decide)
  have h290 : BB ^ 150 < BB ^ 290 := (Nat.pow_lt_pow_iff_right (by decide)).mpr (by decide)
  obtain ⟨a0, a1, a2, a3, n1, n2, n3⟩ := id h.1
  have g1 := (h.2 (a + 1) (by omega)).1
  have g0 := (h.2 a (by omega)).1
  refine Calls.of rfl (lk rfl) ?_
  refine wa_aload_n q_X7_isRoot_0 rfl ?_
  refine wa_getf q_X7_isRoot_1 f_RX7_17 (by assumption) rfl ?_
  refine wa_iload_n q_X7_isRoot_4 rfl ?_
  refine wa_iconst q_X7_isRoot_5 (v := nI 1) (by decide) ?_
  refine wn_iadd q_X7_isRoot_6 ?_
  refine wn_gald q_X7_isRoot_7 (by assumption) (by omega) ?_
  rw [g1]
  refine wa_if_ge q_X7_isRoot_8 (fun hx => ?_) (fun hx => ?_)
  · have hnn := sg_ge.mp hx
    -- the upper end, behind the lower
    have upper : ∀ (σ1 : en_S) (C1 Z1 : Nat → Nat) (G1 : Nat → Int32) (V1 : Nat → Int), rV X σ1 M O C1 Z1 G1 V1 → V1 l = rtL (V a) p → (∀ s, 5 ≤ s → s ≠ l → V1 s = V s) → mSt M σ σ1 → WA X M_X7_isRoot σ 45 [(0, .ref (M 0)), (1, .int (nI l)), (2, .int (nI a))] [] σ1 (fun res τ => (V (a + 1) < 0 ∧ res = some (.int (nI 0)) ∧ τ = σ) ∨ (0 ≤ V (a + 1) ∧ res = some (.int (nI 1)) ∧ ∃ C' Z' G' V', rV X τ M O C' Z' G' V' ∧ V' l = rtL (V a) p ∧ V' (l + 1) = rtH (V (a + 1)) p ∧ (∀ s, 5 ≤ s → s ≠ l → s ≠ l + 1 → V' s = V s) ∧ mSt M σ τ)) := by
      intro σ1 C1 Z1 G1 V1 h1 vl1 vo1 s1
      obtain ⟨b0, b1, b2, b3, -⟩ := id h1.1
      have e1 : V1 (a + 1) = V (a + 1) := vo1 _ (by omega) (by omega)
      have e12 : V1 12 = 10 ^ p := (vo1 12 (by decide) (by omega)).trans v12
      have hmb := op_lt z2 hp
      refine wa_aload_n q_X7_isRoot_45 rfl ?_
      refine wa_iconst q_X7_isRoot_46 (v := nI 0) (by decide) ?_
      refine wa_iload_n q_X7_isRoot_47 rfl ?_
      refine wa_iconst q_X7_isRoot_48 (v := nI 1) (by decide) ?_
      refine wn_iadd q_X7_isRoot_49 ?_
      refine wa_bipush q_X7_isRoot_50 (v := nI 12) (by decide) ?_
      refine wa_callV q_X7_isRoot_52 g_X7_isRoot_52 w_X7_multiply (by assumption) rfl (av := [_, _, _]) rfl rfl (lk rfl) (Calls.mono (R_mul h1 (r := 0) (a := a + 1) (b := 12) (by decide) (by omega) (by decide) (by omega) (by decide) (by rw [e1]; exact Nat.lt_of_lt_of_le z2 (pw_mono (by decide))) (by rw [e12]; exact b10)) ?_)
      rintro _ σ2 ⟨rfl, C2, Z2, G2, h2, s2⟩
      rw [e1, e12] at h2
      have hNn : 0 ≤ V (a + 1) * 10 ^ p := Int.mul_nonneg hnn (Int.pow_nonneg (by decide))
      obtain ⟨N, hN⟩ : ∃ N, N = (V (a + 1) * 10 ^ p).toNat := ⟨_, rfl⟩
      have hNv : V (a + 1) * 10 ^ p = (N : Int) := by omega
      have hNb : N < BB ^ 150 := by omega
      rw [hNv] at h2
      obtain ⟨c0, c1, c2, c3, -⟩ := id h2.1
      refine wa_aload_n q_X7_isRoot_55 rfl ?_
      refine wa_iload_n q_X7_isRoot_56 rfl ?_
      refine wa_iconst q_X7_isRoot_57 (v := nI 1) (by decide) ?_
      refine wn_iadd q_X7_isRoot_58 ?_
      refine wa_iconst q_X7_isRoot_59 (v := nI 0) (by decide) ?_
      refine wa_callV q_X7_isRoot_60 g_X7_isRoot_60 w_X7_rootOf (by assumption) rfl (av := [_, _]) rfl rfl (lk rfl) (Calls.mono (R_root h2 (r := l + 1) (N := N) (by omega) (by omega) uV_s (by omega)) ?_)
      rintro _ σ3 ⟨rfl, C3, Z3, G3, V3, k, h3, hk, q1, q2, s3⟩
      have hks : k = sqr N := isq_u hk (sqr_is N)
      have hkb : k < BB ^ 150 := isq_lt hk hNb
      have v30 : V3 0 = (N : Int) := by rw [q2 0 (by omega) (Or.inl rfl), uV_s]
      have v3l : V3 l = rtL (V a) p := by rw [q2 l (by omega) (Or.inr (by omega)), uV_n (by omega)]; exact vl1
      have v3o : ∀ s, 5 ≤ s → s ≠ l → s ≠ l + 1 → V3 s = V s := fun s x1 x2 x3 => by rw [q2 s x3 (Or.inr x1), uV_n (by omega)]; exact vo1 s x1 x2
      obtain ⟨d0, d1, d2, d3, -⟩ := id h3.1
      refine wa_aload_n q_X7_isRoot_63 rfl ?_
      refine wa_iconst q_X7_isRoot_64 (v := nI 1) (by decide) ?_
      refine wa_iload_n q_X7_isRoot_65 rfl ?_
      refine wa_iconst q_X7_isRoot_66 (v := nI 1) (by decide) ?_
      refine wn_iadd q_X7_isRoot_67 ?_
      refine wa_iload_n q_X7_isRoot_68 rfl ?_
      refine wa_iconst q_X7_isRoot_69 (v := nI 1) (by decide) ?_
      refine wn_iadd q_X7_isRoot_70 ?_
      refine wa_callV q_X7_isRoot_71 g_X7_isRoot_71 w_X7_multiply (by assumption) rfl (av := [_, _, _]) rfl rfl (lk rfl) (Calls.mono (R_mul h3 (r := 1) (a := l + 1) (b := l + 1) (by decide) (by omega) (by omega) (by omega) (by omega) (by rw [q1, Int.natAbs_natCast]; omega) (by rw [q1, Int.natAbs_natCast]; omega)) ?_)
      rintro _ σ4 ⟨rfl, C4, Z4, G4, h4, s4⟩
      rw [q1] at h4
      obtain ⟨f0, f1, f2, f3, -⟩ := id h4.1
      have sT := s1.tr (s2.tr (s3.tr s4))
      have hH : rtH (V (a + 1)) p = (if k * k < N then ((k + 1 : Nat) : Int) else (k : Int)) := by
        unfold rtH
        rw [← hN, ← hks]
      refine wa_aload_n q_X7_isRoot_74 rfl ?_
      refine wa_iconst q_X7_isRoot_75 (v := nI 1) (by decide) ?_
      refine wa_iconst q_X7_isRoot_76 (v := nI 0) (by decide) ?_
      refine wa_callV q_X7_isRoot_77 g_X7_isRoot_77 w_X7_compareTo (by assumption) rfl (av := [_, _]) rfl rfl (lk rfl) (Calls.mono (R_cmp h4 (a := 1) (b := 0) (by decide) (by decide)) ?_)
      rintro res τ5 ⟨⟨w, rfl, x1, x2, x3, x4⟩, eτ⟩
      rw [eτ]
      rw [uV_s, uV_n (by decide), v30] at x3
      have e0 : (0 : Int32) = iZ 0 := by decide
      refine wa_if_ge q_X7_isRoot_80 (fun hc => ?_) (fun hc => ?_)
      · rw [e0] at hc
        have hc' := (iZ_le (by decide) (by decide) x1 x2).mp hc
        have hge : ¬ k * k < N := fun z => by
          have : ((k : Int) * (k : Int)) < (N : Int) := by rw [← Int.natCast_mul]; omega
          have := x3.mpr this
          omega
        refine wa_iconst q_X7_isRoot_101 (v := nI 1) (by decide) ?_
        refine wa_zret q_X7_isRoot_102 rfl rfl ?_
        exact Or.inr ⟨hnn, rfl, C4, Z4, G4, _, h4, by rw [uV_n (by omega)]; exact v3l, by rw [uV_n (by omega), q1, hH, if_neg hge], fun s y1 y2 y3 => by rw [uV_n (by omega)]; exact v3o s y1 y2 y3, sT⟩
      · rw [e0] at hc
        have hc' : w < 0 := Int.not_le.mp (fun z => hc ((iZ_le (by decide) (by decide) x1 x2).mpr z))
        have hlt : k * k < N := by
          have := x3.mp hc'
          rw [← Int.natCast_mul] at this; omega
        refine wa_aload_n q_X7_isRoot_83 rfl ?_
        refine wa_iconst q_X7_isRoot_84 (v := nI 1) (by decide) ?_
        refine wa_lconst q_X7_isRoot_85 (v := lZ 1) (by decide) ?_
        refine wa_callV q_X7_isRoot_86 g_X7_isRoot_86 w_X7_setTo (by assumption) rfl (av := [_, _]) rfl rfl (lk rfl) (Calls.mono (R_set h4 (r := 1) (by decide) (by decide) (by decide)) ?_)
        rintro _ σ6 ⟨rfl, C6, Z6, G6, h6, s6⟩
        obtain ⟨k0, k1, k2, k3, -⟩ := id h6.1
        have e6 : uV (uV V3 1 ((k : Int) * (k : Int))) 1 1 (l + 1) = (k : Int) := by rw [uV_n (by omega), uV_n (by omega)]; exact q1
        refine wa_aload_n q_X7_isRoot_89 rfl ?_
        refine wa_iload_n q_X7_isRoot_90 rfl ?_
        refine wa_iconst q_X7_isRoot_91 (v := nI 1) (by decide) ?_
        refine wn_iadd q_X7_isRoot_92 ?_
        refine wa_iload_n q_X7_isRoot_93 rfl ?_
        refine wa_iconst q_X7_isRoot_94 (v := nI 1) (by decide) ?_
        refine wn_iadd q_X7_isRoot_95 ?_
        refine wa_iconst q_X7_isRoot_96 (v := nI 1) (by decide) ?_
        refine wa_iconst q_X7_isRoot_97 (v := sgI 1) (by decide) ?_
        have h300 : BB ^ 150 < BB ^ 300 := (Nat.pow_lt_pow_iff_right (by decide)).mpr (by decide)
        refine wa_callV q_X7_isRoot_98 g_X7_isRoot_98 w_X7_addTo (by assumption) rfl (av := [_, _, _, _]) rfl rfl (lk rfl) (Calls.mono (R_addT h6 (r := l + 1) (a := l + 1) (b := 1) (by omega) (by omega) (by decide) (Or.inl rfl) (by rw [e6, Int.natAbs_natCast]; omega) (by rw [uV_s]; exact Nat.lt_of_lt_of_le (show (1 : Nat) < BB ^ 1 by decide) (pw_mono (by decide)))) ?_)
        rintro _ σ7 ⟨rfl, C7, Z7, G7, h7, s7⟩
        rw [e6, uV_s] at h7
        refine wa_iconst q_X7_isRoot_101 (v := nI 1) (by decide) ?_
        refine wa_zret q_X7_isRoot_102 rfl rfl ?_
        exact Or.inr ⟨hnn, rfl, C7, Z7, G7, _, h7, by rw [uV_n (by omega), uV_n (by omega), uV_n (by omega)]; exact v3l, by rw [uV_s, hH, if_pos hlt]; omega, fun s y1 y2 y3 => by rw [uV_n y3, uV_n (by omega), uV_n (by omega)]; exact v3o s y1 y2 y3, sT.tr (s6.tr s7)⟩
    refine wa_aload_n q_X7_isRoot_13 rfl ?_
    refine wa_getf q_X7_isRoot_14 f_RX7_17 (by assumption) rfl ?_
    refine wa_iload_n q_X7_isRoot_17 rfl ?_
    refine wn_gald q_X7_isRoot_18 (by assumption) (by omega) ?_
    rw [g0]
    refine wa_if_gt q_X7_isRoot_19 (fun hy => ?_) (fun hy => ?_)
    · have hpos : 0 < V a := by
        rcases sgI_c (V a) with ⟨q, e⟩ | ⟨q, e⟩ | ⟨q, e⟩
        · rw [e] at hy; exact absurd hy (by decide)
        · rw [e] at hy; exact absurd hy (by decide)
        · exact q
      have hmb := op_lt z1 hp
      refine wa_aload_n q_X7_isRoot_31 rfl ?_
      refine wa_iconst q_X7_isRoot_32 (v := nI 0) (by decide) ?_
      refine wa_iload_n q_X7_isRoot_33 rfl ?_
      refine wa_bipush q_X7_isRoot_34 (v := nI 12) (by decide) ?_
      refine wa_callV q_X7_isRoot_36 g_X7_isRoot_36 w_X7_multiply (by assumption) rfl (av := [_, _, _]) rfl rfl (lk rfl) (Calls.mono (R_mul h (r := 0) (a := a) (b := 12) (by decide) (by omega) (by decide) (by omega) (by decide) (Nat.lt_of_lt_of_le z1 (pw_mono (by decide))) (by rw [v12]; exact b10)) ?_)
      rintro _ σ2 ⟨rfl, C2, Z2, G2, h2, s2⟩
      rw [v12] at h2
      have hNn : 0 ≤ V a * 10 ^ p := Int.mul_nonneg (by omega) (Int.pow_nonneg (by decide))
      obtain ⟨N, hN⟩ : ∃ N, N = (V a * 10 ^ p).toNat := ⟨_, rfl⟩
      have hNv : V a * 10 ^ p = (N : Int) := by omega
      have hNb : N < BB ^ 150 := by omega
      rw [hNv] at h2
      obtain ⟨c0, c1, c2, c3, -⟩ := id h2.1
      refine wa_aload_n q_X7_isRoot_39 rfl ?_
      refine wa_iload_n q_X7_isRoot_40 rfl ?_
      refine wa_iconst q_X7_isRoot_41 (v := nI 0) (by decide) ?_
      refine wa_callV q_X7_isRoot_42 g_X7_isRoot_42 w_X7_rootOf (by assumption) rfl (av := [_, _]) rfl rfl (lk rfl) (Calls.mono (R_root h2 (r := l) (N := N) (by omega) (by omega) uV_s (by omega)) ?_)
      rintro _ σ3 ⟨rfl, C3, Z3, G3, V3, k, h3, hk, q1, q2, s3⟩
      have hks : k = sqr N := isq_u hk (sqr_is N)
      exact wa_lv (upper σ3 C3 Z3 G3 V3 h3 (by rw [q1, hks]; unfold rtL; rw [hN]) (fun s x1 x2 => by rw [q2 s x2 (Or.inr x1), uV_n (by omega)]) (s2.tr s3)) rfl
    · have hneg : V a ≤ 0 := sg_le.mp (Int32.not_lt.mp hy)
      refine wa_aload_n q_X7_isRoot_22 rfl ?_
      refine wa_iload_n q_X7_isRoot_23 rfl ?_
      refine wa_lconst q_X7_isRoot_24 (v := lZ 0) (by decide) ?_
      refine wa_callV q_X7_isRoot_25 g_X7_isRoot_25 w_X7_setTo (by assumption) rfl (av := [_, _]) rfl rfl (lk rfl) (Calls.mono (R_set h (r := l) (by omega) (by decide) (by decide)) ?_)
      rintro _ σ2 ⟨rfl, C2, Z2, G2, h2, s2⟩
      refine wa_goto q_X7_isRoot_28 ?_
      have hz : V a * 10 ^ p ≤ 0 := by
        have : (0 : Int) ≤ 10 ^ p := Int.pow_nonneg (by decide)
        exact Int.mul_nonpos_of_nonpos_of_nonneg hneg this
      exact wa_lv (upper σ2 C2 Z2 G2 _ h2 (by rw [uV_s]; unfold rtL; rw [show (V a * 10 ^ p).toNat = 0 by omega, sqr_0]; rfl) (fun s _ x2 => uV_n x2) s2) rfl
  · have hneg : V (a + 1) < 0 := Int.not_le.mp (fun z => hx (sg_ge.mpr z))
    refine wa_iconst q_X7_isRoot_11 (v := nI 0) (by decide) ?_
    refine wa_zret q_X7_isRoot_12 rfl rfl ?_
    exact Or.inl ⟨hneg, rfl, rfl⟩
end ref15
