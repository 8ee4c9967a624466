/-! The reference: clipped, areSame, quotients -/
theorem qdn_pos {a b : Int} (hb : 0 < b) : qdn a b = a / b := by
  unfold qdn
  have eb : b = (b.natAbs : Int) := by omega
  generalize b.natAbs = n at *
  subst eb
  rcases Int.lt_or_le a 0 with h | h
  · have ha : a = -(a.natAbs : Int) := by omega
    rw [if_pos (Int.mul_neg_of_neg_of_pos h hb)]
    generalize hm : a.natAbs = m at *
    have e1 := Nat.div_add_mod m n
    have e2 := Nat.mod_lt m (show 0 < n by omega)
    have e3 : (m : Int) = (n : Int) * ((m / n : Nat) : Int) + ((m % n : Nat) : Int) := by exact_mod_cast e1.symm
    by_cases hz : m % n = 0
    · rw [if_pos hz]
      refine (Int.ediv_eq_of_eq_mul_right (by omega) ?_).symm
      rw [ha, e3, hz, Int.mul_neg]; simp
    · rw [if_neg hz]
      symm
      have e4 : a = (n : Int) * (-((m / n : Nat) : Int) - 1) + ((n : Int) - ((m % n : Nat) : Int)) := by
        rw [ha, e3]; rw [Int.mul_sub, Int.mul_neg, Int.mul_one]; omega
      rw [e4, Int.mul_add_ediv_left _ _ (by omega), Int.ediv_eq_zero_of_lt (by omega) (by omega)]; omega
  · have ha : a = (a.natAbs : Int) := by omega
    rw [if_neg (by have := Int.mul_nonneg h (show (0 : Int) ≤ (n : Int) by omega); omega)]
    generalize a.natAbs = m at *
    subst ha
    exact Int.natCast_ediv m n
section ref37
variable {X : en_X} {σ : en_S} {M : Nat → Nat} {O : Int32 × Int32 × Int32 × Int32 × Int32} {C Z : Nat → Nat} {G : Nat → Int32} {V : Nat → Int}
theorem R_clip {r : Nat} (h : rV X σ M O C Z G V) (hr : r < 140) : Calls X M_X7_clipped [.ref (M 0), .int (nI r)] σ (fun res τ => res = some (.long (lZ (clp (V r)))) ∧ τ = σ) := by
  have hB : BB = 1000000000 := rfl
  obtain ⟨a0, a1, a2, a3, n1, n2, n3⟩ := id h.1
  obtain ⟨v1, v2, v3, v4⟩ := h.2 r hr
  have eM : lZ (-4611686018427387904) = -4611686018427387904 := by decide
  have big : 4611686018427387904 ≤ (V r).natAbs → ∀ lv, lv = [(0, .ref (M 0)), (1, .int (nI r))] → WA X M_X7_clipped σ 10 lv [] σ (fun res τ => res = some (.long (lZ (clp (V r)))) ∧ τ = σ) := by
    intro hb lv elv
    subst elv
    rw [clp_big hb]
    refine wa_aload_n q_X7_clipped_10 rfl ?_
    refine wa_getf q_X7_clipped_11 f_RX7_17 (by assumption) rfl ?_
    refine wa_iload_n q_X7_clipped_14 rfl ?_
    refine wn_gald q_X7_clipped_15 (by assumption) (by omega) ?_
    rw [v1]
    refine wa_if_le q_X7_clipped_16 (fun hg => ?_) (fun hg => ?_)
    · refine wa_ldc2 q_X7_clipped_25 k_RX7_176 ?_
      refine wa_lret q_X7_clipped_28 rfl ?_
      rw [if_pos (by have := sg_le.mp hg; omega)]
      exact ⟨by rw [eM], rfl⟩
    · refine wa_ldc2 q_X7_clipped_19 (v := lZ 4611686018427387904) k_RX7_174 ?_
      refine wa_goto q_X7_clipped_22 ?_
      refine wa_lret q_X7_clipped_28 rfl ?_
      rw [if_neg (fun q => hg (sg_le.mpr (by omega)))]
      exact ⟨rfl, rfl⟩
  have big2 : 4611686018427387904 ≤ (V r).natAbs → ∀ lv, lv = [(0, .ref (M 0)), (1, .int (nI r))] → WA X M_X7_clipped σ 54 lv [] σ (fun res τ => res = some (.long (lZ (clp (V r)))) ∧ τ = σ) := by
    intro hb lv elv
    subst elv
    rw [clp_big hb]
    refine wa_aload_n q_X7_clipped_54 rfl ?_
    refine wa_getf q_X7_clipped_55 f_RX7_17 (by assumption) rfl ?_
    refine wa_iload_n q_X7_clipped_58 rfl ?_
    refine wn_gald q_X7_clipped_59 (by assumption) (by omega) ?_
    rw [v1]
    refine wa_if_le q_X7_clipped_60 (fun hg => ?_) (fun hg => ?_)
    · refine wa_ldc2 q_X7_clipped_69 k_RX7_176 ?_
      refine wa_lret q_X7_clipped_72 rfl ?_
      rw [if_pos (by have := sg_le.mp hg; omega)]
      exact ⟨by rw [eM], rfl⟩
    · refine wa_ldc2 q_X7_clipped_63 (v := lZ 4611686018427387904) k_RX7_174 ?_
      refine wa_goto q_X7_clipped_66 ?_
      refine wa_lret q_X7_clipped_72 rfl ?_
      rw [if_neg (fun q => hg (sg_le.mpr (by omega)))]
      exact ⟨rfl, rfl⟩
  have loop : ∀ k, k ≤ 3 → k ≤ Z r → (V r).natAbs / BB ^ k < 9000000000000000000 → WA X M_X7_clipped σ 41 [(4, .int (nI k + (-1))), (2, .long (lN ((V r).natAbs / BB ^ k))), (0, .ref (M 0)), (1, .int (nI r))] [] σ (fun res τ => res = some (.long (lZ (clp (V r)))) ∧ τ = σ) := by
    intro k
    induction k with
    | zero =>
      intro _ _ hb
      rw [Nat.pow_zero, Nat.div_one] at hb ⊢
      have last : ∀ m : Nat, m = min (V r).natAbs 4611686018427387904 → ∀ lv, lv = [(0, .ref (M 0)), (1, .int (nI r))] → WA X M_X7_clipped σ 115 lv [.long (lN m)] σ (fun res τ => res = some (.long (lZ (clp (V r)))) ∧ τ = σ) := by
        intro m hm lv elv
        subst elv
        have ec : clp (V r) = if V r < 0 then -(m : Int) else (m : Int) := by unfold clp; rw [← hm]
        rw [ec]
        refine wa_lstore_n q_X7_clipped_115 (by decide) ?_
        refine wa_aload_n q_X7_clipped_116 rfl ?_
        refine wa_getf q_X7_clipped_117 f_RX7_17 (by assumption) rfl ?_
        refine wa_iload_n q_X7_clipped_120 rfl ?_
        refine wn_gald q_X7_clipped_121 (by assumption) (by omega) ?_
        rw [v1]
        refine wa_if_ge q_X7_clipped_122 (fun hg => ?_) (fun hg => ?_)
        · refine wa_lload_n q_X7_clipped_130 rfl ?_
          refine wa_lret q_X7_clipped_131 rfl ?_
          rw [if_neg (fun q => absurd (sg_ge.mp hg) (by omega)), lN_lZ]
          exact ⟨rfl, rfl⟩
        · refine wa_lload_n q_X7_clipped_125 rfl ?_
          refine wa_lneg q_X7_clipped_126 ?_
          refine wa_goto q_X7_clipped_127 ?_
          refine wa_lret q_X7_clipped_131 rfl ?_
          rw [if_pos (Int.not_le.mp (fun q => hg (sg_ge.mpr q))), lN_lZ, lZ_neg]
          exact ⟨rfl, rfl⟩
      refine wa_iload q_X7_clipped_41 rfl ?_
      refine wa_if_lt q_X7_clipped_43 (fun _ => ?_) (fun q => absurd (by decide) q)
      refine wa_lload_n q_X7_clipped_100 rfl ?_
      refine wa_ldc2 q_X7_clipped_101 k_RX7_174 ?_
      refine wn_lcmp_le q_X7_clipped_104 q_X7_clipped_105 (by omega) (by decide) (fun z => ?_) (fun z => ?_)
      · refine wa_lload_n q_X7_clipped_114 rfl ?_
        exact wa_lv (last (V r).natAbs (by omega) _ rfl) rfl
      · refine wa_ldc2 q_X7_clipped_108 k_RX7_174 ?_
        refine wa_goto q_X7_clipped_111 ?_
        exact wa_lv (last 4611686018427387904 (by omega) _ rfl) rfl
    | succ k ih =>
      intro hk hz hb
      rw [pk_m1]
      have hd := vl_dig (q := k) v3.1
      rw [if_pos (show k < Z r by omega), v2] at hd
      have hcell : C (320 * r + k) = reg C r k := rfl
      have hlt : reg C r k < BB := v3.1 k (by omega)
      have hsp : (V r).natAbs / BB ^ k = (V r).natAbs / BB ^ (k + 1) * 1000000000 + reg C r k := by
        rw [hd, Nat.pow_succ, ← Nat.div_div_eq_div_mul, hB]
        omega
      refine wa_iload q_X7_clipped_41 rfl ?_
      refine wn_if_lt q_X7_clipped_43 (by omega) (fun hx => ?_) (fun hx => ?_)
      · exact absurd hx id
      refine wa_lload_n q_X7_clipped_46 rfl ?_
      refine wa_ldc2 q_X7_clipped_47 k_RX7_178 ?_
      refine wn_lcmp_le q_X7_clipped_50 q_X7_clipped_51 (by omega) (by decide) (fun z => ?_) (fun z => ?_)
      · refine wa_lload_n q_X7_clipped_73 rfl ?_
        refine wa_ldc2 q_X7_clipped_74 k_RX7_47 ?_
        refine wn_lmul q_X7_clipped_77 ?_
        refine wa_aload_n q_X7_clipped_78 rfl ?_
        refine wa_getf q_X7_clipped_79 f_RX7_8 (by assumption) rfl ?_
        refine wa_sipush q_X7_clipped_82 (v := nI 320) (by decide) ?_
        refine wa_iload_n q_X7_clipped_85 rfl ?_
        refine wn_imul q_X7_clipped_86 ?_
        refine wa_iload q_X7_clipped_87 rfl ?_
        refine wn_iadd q_X7_clipped_89 ?_
        refine wn_iald q_X7_clipped_90 a1 (by omega) (by decide) ?_
        rw [hcell]
        refine wn_i2l q_X7_clipped_91 (by omega) ?_
        refine wn_ladd q_X7_clipped_92 ?_
        refine wa_lstore_n q_X7_clipped_93 (by decide) ?_
        refine wa_iinc q_X7_clipped_94 rfl rfl (by decide) ?_
        refine wa_goto q_X7_clipped_97 ?_
        rw [← hsp]
        exact wa_lv (ih (by omega) (by omega) (by rw [hsp]; omega)) rfl
      · refine wa_lv (big2 ?_ _ rfl) rfl
        have q1 := Nat.div_mul_le_self (V r).natAbs (BB ^ (k + 1))
        have q2 : BB ^ 1 ≤ BB ^ (k + 1) := pw_mono (by omega)
        have q3 := Nat.mul_le_mul (Nat.le_of_lt (show 4611686018 < (V r).natAbs / BB ^ (k + 1) from z)) q2
        have q4 : 4611686019 * BB ^ 1 ≤ (V r).natAbs / BB ^ (k + 1) * BB ^ (k + 1) := Nat.mul_le_mul z q2
        have q5 : BB ^ 1 = 1000000000 := rfl
        omega
  refine Calls.of rfl (lk rfl) ?_
  refine wa_aload_n q_X7_clipped_0 rfl ?_
  refine wa_getf q_X7_clipped_1 f_RX7_14 (by assumption) rfl ?_
  refine wa_iload_n q_X7_clipped_4 rfl ?_
  refine wn_iald q_X7_clipped_5 (by assumption) (by omega) (by omega) ?_
  refine wa_iconst q_X7_clipped_6 (v := nI 3) (by decide) ?_
  refine wn_icmp_le q_X7_clipped_7 (by omega) (by decide) (fun hx => ?_) (fun hx => ?_)
  · have hdz : (V r).natAbs / BB ^ Z r = 0 := Nat.div_eq_of_lt (by rw [← v2]; exact vl_lt v3.1)
    have L := loop (Z r) hx (Nat.le_refl _) (by rw [hdz]; decide)
    rw [hdz] at L
    refine wa_lconst q_X7_clipped_29 (v := lN 0) (by decide) ?_
    refine wa_lstore_n q_X7_clipped_30 (by decide) ?_
    refine wa_aload_n q_X7_clipped_31 rfl ?_
    refine wa_getf q_X7_clipped_32 f_RX7_14 (by assumption) rfl ?_
    refine wa_iload_n q_X7_clipped_35 rfl ?_
    refine wn_iald q_X7_clipped_36 (by assumption) (by omega) (by omega) ?_
    refine wa_iconst q_X7_clipped_37 (v := 1) (by decide) ?_
    refine wa_isub q_X7_clipped_38 ?_
    refine wa_istore q_X7_clipped_39 (by decide) ?_
    refine wa_lv L ?_
    rw [show nI (Z r) - 1 = nI (Z r) + (-1) from Int32.sub_eq_add_neg _ _]
    rfl
  · refine wa_lv (big ?_ _ rfl) rfl
    have q1 := vl_ge (d := reg C r) (n := Z r - 1) (v3.2.resolve_left (by omega))
    rw [Nat.sub_add_cancel (by omega), v2] at q1
    have q2 := pw_mono (a := 3) (b := Z r - 1) (by omega)
    rw [show BB ^ 3 = 1000000000000000000000000000 from rfl] at q2
    omega
end ref37
section ref38
variable {X : en_X} {M : Nat → Nat} {O : Int32 × Int32 × Int32 × Int32 × Int32} {K : Nat → Int32} {N1 N2 Pa : Nat → Int64} {Op Nd : Nat → Bool} {v k p : Nat}
theorem ed_b {a b : Int} {m n : Nat} (hb : 0 < b) (ha : a.natAbs < BB ^ m) (hmn : m + 1 ≤ n) : (a / b).natAbs < BB ^ n := by
  have h := (qdn_le a b).1
  rw [qdn_pos hb] at h
  have h2 := Nat.div_le_self a.natAbs b.natAbs
  have h3 : BB ^ m + 1 ≤ BB ^ (m + 1) := by
    rw [Nat.pow_succ]
    have : 1 ≤ BB ^ m := Nat.pow_pos (by decide)
    have hB : BB = 1000000000 := rfl
    generalize BB ^ m = y at *
    rw [hB]; omega
  have h4 : BB ^ (m + 1) ≤ BB ^ n := pw_mono hmn
  omega
theorem md_b {a b : Int} {m : Nat} (hb : 0 < b) (hbb : b.natAbs < BB ^ m) : (a % b).natAbs < BB ^ m ∧ 0 ≤ a % b := by
  have h1 := Int.emod_nonneg a (show b ≠ 0 by omega)
  have h2 := Int.emod_lt_of_pos a hb
  exact ⟨by omega, h1⟩
set_option maxHeartbeats 1000000 in
theorem as_loop {ρ σ0 : en_S} {V0 : Nat → Int} {Q : Option Value → en_S → Prop} (hk : k ≤ 40) :
    ∀ (n i : Nat) (a b c d : Int) (σ : en_S) (C Z : Nat → Nat) (G : Nat → Int32) (V : Nat → Int) (Fo : Nat → Int64), n + i = k → rV X σ M O C Z G V → mA X σ M K N1 N2 Op Nd Pa Fo → V 0 = a → V 1 = b → V 2 = c → V 3 = d → 0 ≤ b → 0 ≤ d → a.natAbs < BB ^ 90 → b.natAbs < BB ^ 90 → c.natAbs < BB ^ 90 → d.natAbs < BB ^ 90 → (∀ s, 12 ≤ s → V s = V0 s) → mFr M σ0 σ →
      (∀ (τ : en_S) (C Z : Nat → Nat) (G : Nat → Int32) (V : Nat → Int) (Fo' : Nat → Int64), cfG n a b c d = none → rV X τ M O C Z G V → mA X τ M K N1 N2 Op Nd Pa Fo' → (∀ s, 12 ≤ s → V s = V0 s) → mFr M σ0 τ → Q (some (.int (nI 0))) τ) →
      (∀ (l : List Int) (τ : en_S) (C Z : Nat → Nat) (G : Nat → Int32) (V : Nat → Int) (Fo' : Nat → Int64), cfG n a b c d = some l → rV X τ M O C Z G V → mA X τ M K N1 N2 Op Nd Pa Fo' → (∀ s, 12 ≤ s → V s = V0 s) → (∀ j, j < i → Fo' j = Fo j) → (∀ j, j < n → Fo' (i + j) = lZ ((l[j]?).getD 0)) → mFr M σ0 τ → Q (some (.int (nI 1))) τ) →
      WA X M_X7_areSame ρ 35 [(4, .int (nI i)), (0, .ref (M 0)), (1, .int (nI v)), (2, .int (nI k)), (3, .int (nI p))] [] σ Q := by
  intro n
  induction n with
  | zero =>
    intro i a b c d σ C Z G V Fo hn h hA va vb vc vd hb hd za zb zc zd vo hF k0 k1
    refine wa_iload q_X7_areSame_35 rfl ?_
    refine wa_iload_n q_X7_areSame_37 rfl ?_
    refine wn_icmp_ge q_X7_areSame_38 (by omega) (by omega) (fun hx => ?_) (fun hx => ?_)
    · refine wa_iconst q_X7_areSame_168 (v := nI 1) (by decide) ?_
      refine wa_zret q_X7_areSame_169 rfl rfl ?_
      exact k1 [] σ C Z G V Fo rfl h hA vo (fun _ _ => rfl) (fun j hj => absurd hj (Nat.not_lt_zero _)) hF
    · omega
  | succ n ih =>
    intro i a b c d σ C Z G V Fo hn h hA va vb vc vd hb hd za zb zc zd vo hF k0 k1
    have eC : cfG (n + 1) a b c d = if b = 0 ∨ d = 0 then none else if a / b = c / d then (cfG n b (a % b) d (c % d)).map (fun l => clp (a / b) :: l) else none := rfl
    rw [eC] at k0 k1
    obtain ⟨a0, a1, a2, a3, -⟩ := id h.1
    obtain ⟨k4, k5, k6, k7, k8, k11, k14, hD⟩ := id hA
    have gb := (h.2 1 (by decide)).1
    have gd := (h.2 3 (by decide)).1
    rw [vb] at gb
    rw [vd] at gd
    have no : (b = 0 ∨ d = 0) → ∀ lv, lv = [(4, .int (nI i)), (0, .ref (M 0)), (1, .int (nI v)), (2, .int (nI k)), (3, .int (nI p))] → WA X M_X7_areSame ρ 59 lv [] σ Q := by
      intro hq lv elv
      refine wa_iconst q_X7_areSame_59 (v := nI 0) (by decide) ?_
      refine wa_zret q_X7_areSame_60 rfl rfl ?_
      exact k0 σ C Z G V Fo (if_pos hq) h hA vo hF
    refine wa_iload q_X7_areSame_35 rfl ?_
    refine wa_iload_n q_X7_areSame_37 rfl ?_
    refine wn_icmp_ge q_X7_areSame_38 (by omega) (by omega) (fun hx => ?_) (fun hx => ?_)
    · omega
    refine wa_aload_n q_X7_areSame_41 rfl ?_
    refine wa_getf q_X7_areSame_42 f_RX7_17 (by assumption) rfl ?_
    refine wa_iconst q_X7_areSame_45 (v := nI 1) (by decide) ?_
    refine wn_gald q_X7_areSame_46 (by assumption) (by omega) ?_
    rw [gb]
    refine wa_if_eq q_X7_areSame_47 (fun q => wa_lv (no (Or.inl (sgI_0.mp q)) _ rfl) rfl) (fun q1 => ?_)
    have b0 : b ≠ 0 := fun e => q1 (sgI_0.mpr e)
    refine wa_aload_n q_X7_areSame_50 rfl ?_
    refine wa_getf q_X7_areSame_51 f_RX7_17 (by assumption) rfl ?_
    refine wa_iconst q_X7_areSame_54 (v := nI 3) (by decide) ?_
    refine wn_gald q_X7_areSame_55 (by assumption) (by omega) ?_
    rw [gd]
    refine wa_if_ne q_X7_areSame_56 (fun q2 => ?_) (fun q => wa_lv (no (Or.inr (sgI_0.mp q)) _ rfl) rfl)
    have d0 : d ≠ 0 := fun e => q2 (sgI_0.mpr e)
    have bp : 0 < b := by omega
    have dp : 0 < d := by omega
    rw [if_neg (fun q => q.elim b0 d0)] at k0 k1
    have z290 : BB ^ 90 ≤ BB ^ 290 := pw_mono (by decide)
    have z155 : BB ^ 90 ≤ BB ^ 155 := pw_mono (by decide)
    have z300 : BB ^ 90 ≤ BB ^ 300 := pw_mono (by decide)
    have ze := ed_b (n := 91) bp za (by decide)
    have zf := ed_b (n := 91) dp zc (by decide)
    have z91 : BB ^ 91 ≤ BB ^ 155 := pw_mono (by decide)
    have zeb : (a / b * b).natAbs < BB ^ 300 := by rw [Int.natAbs_mul]; exact lp_le (mul_lt ze zb) (by decide)
    have zfd : (c / d * d).natAbs < BB ^ 300 := by rw [Int.natAbs_mul]; exact lp_le (mul_lt zf zd) (by decide)
    have ra : a + -1 * (a / b * b) = a % b := by have := Int.emod_add_mul_ediv a b; rw [Int.mul_comm] at this; omega
    have rc : c + -1 * (c / d * d) = c % d := by have := Int.emod_add_mul_ediv c d; rw [Int.mul_comm] at this; omega
    obtain ⟨zr1, zr2⟩ := md_b (a := a) bp zb
    obtain ⟨zr3, zr4⟩ := md_b (a := c) dp zd
    refine wa_aload_n q_X7_areSame_61 rfl ?_
    refine wa_iconst q_X7_areSame_62 (v := nI 4) (by decide) ?_
    refine wa_iconst q_X7_areSame_63 (v := nI 0) (by decide) ?_
    refine wa_iconst q_X7_areSame_64 (v := nI 1) (by decide) ?_
    refine wa_iconst q_X7_areSame_65 (v := nI 0) (by decide) ?_
    refine wa_callV q_X7_areSame_66 g_X7_areSame_66 w_X7_rounded (by assumption) rfl (av := [_, _, _, _]) rfl rfl (lk rfl) (Calls.mono (R_rnd (up := false) h (r := 4) (a := 0) (b := 1) (by decide) (by decide) (by decide) (by decide) (by decide) (by decide) (by decide) (by rw [vb]; exact b0) (by rw [va]; omega) (by rw [vb]; omega)) ?_)
    rintro _ σ1 ⟨rfl, C1, Z1, G1, V1, h1, e1, eo1, s1⟩
    rw [va, vb] at e1
    have e1 : V1 4 = a / b := e1.trans (qdn_pos bp)
    have w0 : V1 0 = a := (eo1 0 (by decide) (by decide) (by decide)).trans va
    have w1 : V1 1 = b := (eo1 1 (by decide) (by decide) (by decide)).trans vb
    have w2 : V1 2 = c := (eo1 2 (by decide) (by decide) (by decide)).trans vc
    have w3 : V1 3 = d := (eo1 3 (by decide) (by decide) (by decide)).trans vd
    have wo1 : ∀ s, 12 ≤ s → V1 s = V0 s := fun s hs => (eo1 s (by omega) (by omega) (by omega)).trans (vo s hs)
    obtain ⟨b0', b1, b2, b3, -⟩ := id h1.1
    refine wa_aload_n q_X7_areSame_69 rfl ?_
    refine wa_bipush q_X7_areSame_70 (v := nI 6) (by decide) ?_
    refine wa_iconst q_X7_areSame_72 (v := nI 4) (by decide) ?_
    refine wa_iconst q_X7_areSame_73 (v := nI 1) (by decide) ?_
    refine wa_callV q_X7_areSame_74 g_X7_areSame_74 w_X7_multiply (by assumption) rfl (av := [_, _, _]) rfl rfl (lk rfl) (Calls.mono (R_mul h1 (r := 6) (a := 4) (b := 1) (by decide) (by decide) (by decide) (by decide) (by decide) (by rw [e1]; omega) (by rw [w1]; omega)) ?_)
    rintro _ σ2 ⟨rfl, C2, Z2, G2, h2, s2⟩
    rw [e1, w1] at h2
    obtain ⟨c0, c1, c2, c3, -⟩ := id h2.1
    refine wa_aload_n q_X7_areSame_77 rfl ?_
    refine wa_bipush q_X7_areSame_78 (v := nI 6) (by decide) ?_
    refine wa_iconst q_X7_areSame_80 (v := nI 0) (by decide) ?_
    refine wa_bipush q_X7_areSame_81 (v := nI 6) (by decide) ?_
    refine wa_iconst q_X7_areSame_83 (v := sgI (-1)) (by decide) ?_
    refine wa_callV q_X7_areSame_84 g_X7_areSame_84 w_X7_addTo (by assumption) rfl (av := [_, _, _, _]) rfl rfl (lk rfl) (Calls.mono (R_addT h2 (r := 6) (a := 0) (b := 6) (by decide) (by decide) (by decide) (Or.inr rfl) (by rw [uV_n (by decide), w0]; omega) (by rw [uV_s]; exact zeb)) ?_)
    rintro _ σ3 ⟨rfl, C3, Z3, G3, h3, s3⟩
    rw [uV_s, uV_n (show (0 : Nat) ≠ 6 by decide), w0, ra] at h3
    obtain ⟨d0', d1, d2, d3, -⟩ := id h3.1
    refine wa_aload_n q_X7_areSame_87 rfl ?_
    refine wa_iconst q_X7_areSame_88 (v := nI 1) (by decide) ?_
    refine wa_iconst q_X7_areSame_89 (v := nI 0) (by decide) ?_
    refine wa_callV q_X7_areSame_90 g_X7_areSame_90 w_X7_copyTo (by assumption) rfl (av := [_, _]) rfl rfl (lk rfl) (Calls.mono (R_copy h3 (a := 1) (b := 0) (by decide) (by decide)) ?_)
    rintro _ σ4 ⟨rfl, C4, Z4, G4, h4, s4⟩
    rw [uV_n (show (1 : Nat) ≠ 6 by decide), uV_n (show (1 : Nat) ≠ 6 by decide), w1] at h4
    obtain ⟨i0, i1, i2, i3, -⟩ := id h4.1
    refine wa_aload_n q_X7_areSame_93 rfl ?_
    refine wa_bipush q_X7_areSame_94 (v := nI 6) (by decide) ?_
    refine wa_iconst q_X7_areSame_96 (v := nI 1) (by decide) ?_
    refine wa_callV q_X7_areSame_97 g_X7_areSame_97 w_X7_copyTo (by assumption) rfl (av := [_, _]) rfl rfl (lk rfl) (Calls.mono (R_copy h4 (a := 6) (b := 1) (by decide) (by decide)) ?_)
    rintro _ σ5 ⟨rfl, C5, Z5, G5, h5, s5⟩
    rw [uV_n (show (6 : Nat) ≠ 0 by decide), uV_s] at h5
    have x0 : uV (uV (uV (uV V1 6 (a / b * b)) 6 (a % b)) 0 b) 1 (a % b) 0 = b := by rw [uV_n (by decide), uV_s]
    have x1 : uV (uV (uV (uV V1 6 (a / b * b)) 6 (a % b)) 0 b) 1 (a % b) 1 = a % b := uV_s
    have xo : ∀ s, s ≠ 0 → s ≠ 1 → s ≠ 6 → uV (uV (uV (uV V1 6 (a / b * b)) 6 (a % b)) 0 b) 1 (a % b) s = V1 s := fun s y1 y2 y3 => by rw [uV_n y2, uV_n y1, uV_n y3, uV_n y3]
    generalize uV (uV (uV (uV V1 6 (a / b * b)) 6 (a % b)) 0 b) 1 (a % b) = V5 at *
    have x2 : V5 2 = c := (xo 2 (by decide) (by decide) (by decide)).trans w2
    have x3 : V5 3 = d := (xo 3 (by decide) (by decide) (by decide)).trans w3
    have x4 : V5 4 = a / b := (xo 4 (by decide) (by decide) (by decide)).trans e1
    have xo5 : ∀ s, 12 ≤ s → V5 s = V0 s := fun s hs => (xo s (by omega) (by omega) (by omega)).trans (wo1 s hs)
    obtain ⟨j0, j1, j2, j3, -⟩ := id h5.1
    refine wa_aload_n q_X7_areSame_100 rfl ?_
    refine wa_iconst q_X7_areSame_101 (v := nI 5) (by decide) ?_
    refine wa_iconst q_X7_areSame_102 (v := nI 2) (by decide) ?_
    refine wa_iconst q_X7_areSame_103 (v := nI 3) (by decide) ?_
    refine wa_iconst q_X7_areSame_104 (v := nI 0) (by decide) ?_
    refine wa_callV q_X7_areSame_105 g_X7_areSame_105 w_X7_rounded (by assumption) rfl (av := [_, _, _, _]) rfl rfl (lk rfl) (Calls.mono (R_rnd (up := false) h5 (r := 5) (a := 2) (b := 3) (by decide) (by decide) (by decide) (by decide) (by decide) (by decide) (by decide) (by rw [x3]; exact d0) (by rw [x2]; omega) (by rw [x3]; omega)) ?_)
    rintro _ σ6 ⟨rfl, C6, Z6, G6, V6, h6, f1, fo6, s6⟩
    rw [x2, x3] at f1
    have f1 : V6 5 = c / d := f1.trans (qdn_pos dp)
    have y0 : V6 0 = b := (fo6 0 (by decide) (by decide) (by decide)).trans x0
    have y1 : V6 1 = a % b := (fo6 1 (by decide) (by decide) (by decide)).trans x1
    have y2 : V6 2 = c := (fo6 2 (by decide) (by decide) (by decide)).trans x2
    have y3 : V6 3 = d := (fo6 3 (by decide) (by decide) (by decide)).trans x3
    have y4 : V6 4 = a / b := (fo6 4 (by decide) (by decide) (by decide)).trans x4
    have yo : ∀ s, 12 ≤ s → V6 s = V0 s := fun s hs => (fo6 s (by omega) (by omega) (by omega)).trans (xo5 s hs)
    obtain ⟨l0, l1, l2, l3, -⟩ := id h6.1
    refine wa_aload_n q_X7_areSame_108 rfl ?_
    refine wa_bipush q_X7_areSame_109 (v := nI 6) (by decide) ?_
    refine wa_iconst q_X7_areSame_111 (v := nI 5) (by decide) ?_
    refine wa_iconst q_X7_areSame_112 (v := nI 3) (by decide) ?_
    refine wa_callV q_X7_areSame_113 g_X7_areSame_113 w_X7_multiply (by assumption) rfl (av := [_, _, _]) rfl rfl (lk rfl) (Calls.mono (R_mul h6 (r := 6) (a := 5) (b := 3) (by decide) (by decide) (by decide) (by decide) (by decide) (by rw [f1]; omega) (by rw [y3]; omega)) ?_)
    rintro _ σ7 ⟨rfl, C7, Z7, G7, h7, s7⟩
    rw [f1, y3] at h7
    obtain ⟨m0, m1, m2, m3, -⟩ := id h7.1
    refine wa_aload_n q_X7_areSame_116 rfl ?_
    refine wa_bipush q_X7_areSame_117 (v := nI 6) (by decide) ?_
    refine wa_iconst q_X7_areSame_119 (v := nI 2) (by decide) ?_
    refine wa_bipush q_X7_areSame_120 (v := nI 6) (by decide) ?_
    refine wa_iconst q_X7_areSame_122 (v := sgI (-1)) (by decide) ?_
    refine wa_callV q_X7_areSame_123 g_X7_areSame_123 w_X7_addTo (by assumption) rfl (av := [_, _, _, _]) rfl rfl (lk rfl) (Calls.mono (R_addT h7 (r := 6) (a := 2) (b := 6) (by decide) (by decide) (by decide) (Or.inr rfl) (by rw [uV_n (by decide), y2]; omega) (by rw [uV_s]; exact zfd)) ?_)
    rintro _ σ8 ⟨rfl, C8, Z8, G8, h8, s8⟩
    rw [uV_s, uV_n (show (2 : Nat) ≠ 6 by decide), y2, rc] at h8
    obtain ⟨r0, r1, r2, r3, -⟩ := id h8.1
    refine wa_aload_n q_X7_areSame_126 rfl ?_
    refine wa_iconst q_X7_areSame_127 (v := nI 3) (by decide) ?_
    refine wa_iconst q_X7_areSame_128 (v := nI 2) (by decide) ?_
    refine wa_callV q_X7_areSame_129 g_X7_areSame_129 w_X7_copyTo (by assumption) rfl (av := [_, _]) rfl rfl (lk rfl) (Calls.mono (R_copy h8 (a := 3) (b := 2) (by decide) (by decide)) ?_)
    rintro _ σ9 ⟨rfl, C9, Z9, G9, h9, s9⟩
    rw [uV_n (show (3 : Nat) ≠ 6 by decide), uV_n (show (3 : Nat) ≠ 6 by decide), y3] at h9
    obtain ⟨t0, t1, t2, t3, -⟩ := id h9.1
    refine wa_aload_n q_X7_areSame_132 rfl ?_
    refine wa_bipush q_X7_areSame_133 (v := nI 6) (by decide) ?_
    refine wa_iconst q_X7_areSame_135 (v := nI 3) (by decide) ?_
    refine wa_callV q_X7_areSame_136 g_X7_areSame_136 w_X7_copyTo (by assumption) rfl (av := [_, _]) rfl rfl (lk rfl) (Calls.mono (R_copy h9 (a := 6) (b := 3) (by decide) (by decide)) ?_)
    rintro _ σA ⟨rfl, CA, ZA, GA, hB, sA'⟩
    rw [uV_n (show (6 : Nat) ≠ 2 by decide), uV_s] at hB
    have u0 : uV (uV (uV (uV V6 6 (c / d * d)) 6 (c % d)) 2 d) 3 (c % d) 2 = d := by rw [uV_n (by decide), uV_s]
    have u1 : uV (uV (uV (uV V6 6 (c / d * d)) 6 (c % d)) 2 d) 3 (c % d) 3 = c % d := uV_s
    have uo : ∀ s, s ≠ 2 → s ≠ 3 → s ≠ 6 → uV (uV (uV (uV V6 6 (c / d * d)) 6 (c % d)) 2 d) 3 (c % d) s = V6 s := fun s y1 y2 y3 => by rw [uV_n y2, uV_n y1, uV_n y3, uV_n y3]
    generalize uV (uV (uV (uV V6 6 (c / d * d)) 6 (c % d)) 2 d) 3 (c % d) = VA at *
    have g0 : VA 0 = b := (uo 0 (by decide) (by decide) (by decide)).trans y0
    have g1 : VA 1 = a % b := (uo 1 (by decide) (by decide) (by decide)).trans y1
    have g4 : VA 4 = a / b := (uo 4 (by decide) (by decide) (by decide)).trans y4
    have g5 : VA 5 = c / d := (uo 5 (by decide) (by decide) (by decide)).trans f1
    have go : ∀ s, 12 ≤ s → VA s = V0 s := fun s hs => (uo s (by omega) (by omega) (by omega)).trans (yo s hs)
    have sAll := s1.tr (s2.tr (s3.tr (s4.tr (s5.tr (s6.tr (s7.tr (s8.tr (s9.tr sA'))))))))
    have hAA := hA.st sAll
    have hFA := hF.tr sAll.fr
    obtain ⟨o0, o1, o2, o3, -⟩ := id hB.1
    obtain ⟨-, -, -, -, -, -, kk14, -⟩ := id hAA
    refine wa_aload_n q_X7_areSame_139 rfl ?_
    refine wa_iconst q_X7_areSame_140 (v := nI 4) (by decide) ?_
    refine wa_iconst q_X7_areSame_141 (v := nI 5) (by decide) ?_
    refine wa_callV q_X7_areSame_142 g_X7_areSame_142 w_X7_compareTo (by assumption) rfl (av := [_, _]) rfl rfl (lk rfl) (Calls.mono (R_cmp hB (a := 4) (b := 5) (by decide) (by decide)) ?_)
    rintro _ _ ⟨⟨w, rfl, wl, wh, wz, w00⟩, rfl⟩
    rw [g4, g5] at w00
    have hz : iZ w = 0 ↔ a / b = c / d := by
      rw [← w00, show (0 : Int32) = iZ 0 from rfl]
      exact iZ_eq wl wh (by decide) (by decide)
    refine wa_if_eq q_X7_areSame_145 (fun hz1 => ?_) (fun hz1 => ?_)
    · have heq := hz.mp hz1
      rw [if_pos heq] at k0 k1
      refine wa_aload_n q_X7_areSame_150 rfl ?_
      refine wa_getf q_X7_areSame_151 f_RX7_40 (by assumption) rfl ?_
      refine wa_iload q_X7_areSame_154 rfl ?_
      refine wa_aload_n q_X7_areSame_156 rfl ?_
      refine wa_iconst q_X7_areSame_157 (v := nI 4) (by decide) ?_
      refine wa_callV q_X7_areSame_158 g_X7_areSame_158 w_X7_clipped (by assumption) rfl (av := [_]) rfl rfl (lk rfl) (Calls.mono (R_clip hB (r := 4) (by decide)) ?_)
      rintro _ _ ⟨rfl, rfl⟩
      rw [g4]
      refine wn_glast q_X7_areSame_161 kk14 (by omega) (fun σC gC fC e1C e2C => ?_)
      have hC := hB.o8 hD (by decide) (by decide) kk14 fC
      have hAC := hAA.s14 gC fC
      refine wn_iinc q_X7_areSame_162 rfl (by decide) ?_
      refine wa_goto q_X7_areSame_165 ?_
      refine wa_lv (ih (i + 1) b (a % b) d (c % d) σC CA ZA GA VA _ (by omega) hC hAC g0 g1 u0 u1 zr2 zr4 zb zr1 zd zr3 go (hFA.tr (mFr.put (by decide) fC e1C e2C)) (fun τ C Z G V Fo' r => k0 τ C Z G V Fo' (by rw [r]; rfl)) (fun l τ C Z G V Fo' r x1 x2 x3 x4 x5 x6 => ?_)) rfl
      refine k1 (clp (a / b) :: l) τ C Z G V Fo' (by rw [r]; rfl) x1 x2 x3 (fun j hj => (x4 j (by omega)).trans (upL_n (by omega))) (fun j hj => ?_) x6
      cases j with
      | zero => rw [Nat.add_zero, x4 i (by omega), upL_s]; rfl
      | succ j => rw [show i + (j + 1) = i + 1 + j by omega, x5 j (by omega)]; rfl
    · have hne : ¬ a / b = c / d := fun e => hz1 (hz.mpr e)
      rw [if_neg hne] at k0
      refine wa_iconst q_X7_areSame_148 (v := nI 0) (by decide) ?_
      refine wa_zret q_X7_areSame_149 rfl rfl ?_
      exact k0 _ CA ZA GA VA Fo rfl hB hAA go hFA
end ref38
