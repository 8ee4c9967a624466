/-! EnclosedDigits$Bench: guessLimb, giveBack, takeAway -/
abbrev nE (dv ds pt bt rs : Nat) : va_E := .inr (0, [.ref dv, .ref ds, .ref pt, .ref bt, .ref rs])
theorem bw_obj {X : en_X} {D : List Nat} {σ τ : en_S} {S T : Nat → en_B} {q ci : Nat} {fs : List Value} (h : bw_St D σ S τ T) (w : bw_R X D σ S) (hq : q < σ.1) (hl : look σ q = some (.inr (ci, fs))) (hc : ci ≠ 1) : look τ q = some (.inr (ci, fs)) := by
  rw [h.2.1 q hq (fun z => ?_) (fun d hd z => ?_)]
  · exact hl
  · have := (w.1 q z).1
    rw [hl] at this
    cases this
    exact hc rfl
  · have := (w.1 d hd).2.1
    rw [← z, hl] at this
    cases this
theorem vl_2 {d : Nat → Nat} {n : Nat} (hn : 2 ≤ n) : vl d n = (d (n - 1) * BB + d (n - 2)) * BB ^ (n - 2) + vl d (n - 2) := by
  obtain ⟨m, rfl⟩ : ∃ m, n = m + 2 := ⟨n - 2, by omega⟩
  show vl d m + d m * BB ^ m + d (m + 1) * BB ^ (m + 1) = (d (m + 1) * BB + d m) * BB ^ m + vl d m
  rw [Nat.pow_succ, Nat.add_mul, Nat.mul_assoc, Nat.mul_comm BB]; omega
theorem vl_3 {d : Nat → Nat} {n : Nat} (hn : 2 ≤ n) : vl d (n + 1) = ((d n * BB + d (n - 1)) * BB + d (n - 2)) * BB ^ (n - 2) + vl d (n - 2) := by
  obtain ⟨m, rfl⟩ : ∃ m, n = m + 2 := ⟨n - 2, by omega⟩
  show vl d m + d m * BB ^ m + d (m + 1) * BB ^ (m + 1) + d (m + 2) * BB ^ (m + 2) = ((d (m + 2) * BB + d (m + 1)) * BB + d m) * BB ^ m + vl d m
  have e1 : BB ^ (m + 1) = BB ^ m * BB := by rw [Nat.pow_succ]
  have e2 : BB ^ (m + 2) = BB ^ m * BB * BB := by rw [Nat.pow_succ, Nat.pow_succ]
  rw [e1, e2]
  generalize BB ^ m = P
  generalize vl d m = w
  grind
section bench1
variable {X : en_X} {σ : en_S} {D : List Nat} {S : Nat → en_B}
theorem C_guess_loop {ρ : en_S} {b0 n at' v1 v2 un un1 un2 P Vl Ul : Nat} {Q : Option Value → en_S → Prop} (hv1 : v1 < BB) (hvh : BB ≤ 2 * v1) (hv2 : v2 < BB) (hun : un < BB) (hun1 : un1 < BB) (hun2 : un2 < BB) (hVl : Vl < P) (hUl : Ul < P) (hU : ((un * BB + un1) * BB + un2) * P + Ul < ((v1 * BB + v2) * P + Vl) * BB)
    (k : ∀ g, g < BB → ((un * BB + un1) * BB + un2) * P + Ul < (g + 1) * ((v1 * BB + v2) * P + Vl) → g * ((v1 * BB + v2) * P + Vl) ≤ ((un * BB + un1) * BB + un2) * P + Ul + ((v1 * BB + v2) * P + Vl) → Q (some (.long (lN g))) σ) :
    ∀ (t i g rh : Nat), 3 - i = t → i ≤ 3 → g ≤ BB + 2 → g * v1 + rh = un * BB + un1 → i * v1 ≤ rh → rh < 2 * BB → ((un * BB + un1) * BB + un2) * P + Ul < (g + 1) * ((v1 * BB + v2) * P + Vl) →
      WA X M_X0_guessLimb ρ 96 [(15, .int (nI i)), (13, .long (lN rh)), (11, .long (lN g)), (9, .long (lN un2)), (5, .long (lN v2)), (3, .long (lN v1))] [] σ Q := by
  have hB : BB = 1000000000 := rfl
  have hune := kn_D hv2 hVl hU
  intro t
  induction t with
  | zero =>
    intro i g rh ht hi hg hgr hir hrh hlow
    have e : i = 3 := by omega
    subst e
    have hrB : BB ≤ rh := by omega
    have hgB : g < BB := by
      rcases Nat.lt_or_ge g BB with q | q
      · exact q
      · have q1 : BB * v1 ≤ g * v1 := Nat.mul_le_mul_right _ q
        have q2 : un * BB ≤ v1 * BB := Nat.mul_le_mul_right _ hune
        rw [Nat.mul_comm BB] at q1
        omega
    have hexit : Q (some (.long (lN g))) σ := k g hgB hlow (kn_A hgr (by have q1 : g * v2 ≤ BB * BB := Nat.mul_le_mul (by omega) (by omega); have q2 : BB * BB ≤ rh * BB := Nat.mul_le_mul_right _ hrB; omega) hgB (by omega) hVl)
    refine wa_iload q_X0_guessLimb_96 rfl ?_
    refine wa_iconst q_X0_guessLimb_98 (v := nI 4) (by decide) ?_
    refine wn_icmp_ge q_X0_guessLimb_99 (by omega) (by omega) (fun hc => ?_) (fun hc => ?_)
    · refine wa_lload q_X0_guessLimb_159 rfl ?_
      refine wa_lret q_X0_guessLimb_161 rfl ?_
      exact hexit
    · refine wa_lload q_X0_guessLimb_102 rfl ?_
      refine wa_ldc2 q_X0_guessLimb_104 k_RX0_83 ?_
      refine wn_lcmp_ge q_X0_guessLimb_107 q_X0_guessLimb_108 (by omega) (by omega) (fun hd => ?_) (fun hd => ?_)
      · refine wa_lload q_X0_guessLimb_159 rfl ?_
        refine wa_lret q_X0_guessLimb_161 rfl ?_
        exact hexit
      · exact absurd hd (by omega)
  | succ t ih =>
    intro i g rh ht hi hg hgr hir hrh hlow
    refine wa_iload q_X0_guessLimb_96 rfl ?_
    refine wa_iconst q_X0_guessLimb_98 (v := nI 4) (by decide) ?_
    refine wn_icmp_ge q_X0_guessLimb_99 (by omega) (by omega) (fun hc => ?_) (fun hc => ?_)
    · exact absurd hc (by omega)
    · refine wa_lload q_X0_guessLimb_102 rfl ?_
      refine wa_ldc2 q_X0_guessLimb_104 k_RX0_83 ?_
      refine wn_lcmp_ge q_X0_guessLimb_107 q_X0_guessLimb_108 (by omega) (by omega) (fun hd => ?_) (fun hd => ?_)
      · have hrB : BB ≤ rh := by omega
        have hgB : g < BB := by
          rcases Nat.lt_or_ge g BB with q | q
          · exact q
          · have q1 : BB * v1 ≤ g * v1 := Nat.mul_le_mul_right _ q
            have q2 : un * BB ≤ v1 * BB := Nat.mul_le_mul_right _ hune
            rw [Nat.mul_comm BB] at q1
            omega
        refine wa_lload q_X0_guessLimb_159 rfl ?_
        refine wa_lret q_X0_guessLimb_161 rfl ?_
        exact k g hgB hlow (kn_A hgr (by have q1 : g * v2 ≤ BB * BB := Nat.mul_le_mul (by omega) (by omega); have q2 : BB * BB ≤ rh * BB := Nat.mul_le_mul_right _ hrB; omega) hgB (by omega) hVl)
      · have hmend : ((un * BB + un1) * BB + un2) * P + Ul < g * ((v1 * BB + v2) * P + Vl) → WA X M_X0_guessLimb ρ 141 [(15, .int (nI i)), (13, .long (lN rh)), (11, .long (lN g)), (9, .long (lN un2)), (5, .long (lN v2)), (3, .long (lN v1))] [] σ Q := by
          intro hlt
          have hg0 : 1 ≤ g := by
            rcases Nat.eq_zero_or_pos g with z | z
            · rw [z, Nat.zero_mul] at hlt; omega
            · exact z
          refine wa_lload q_X0_guessLimb_141 rfl ?_
          refine wa_lconst q_X0_guessLimb_143 (v := lN 1) (by decide) ?_
          refine wn_lsub q_X0_guessLimb_144 (by omega) ?_
          refine wa_lstore q_X0_guessLimb_145 (by decide) ?_
          refine wa_lload q_X0_guessLimb_147 rfl ?_
          refine wa_lload_n q_X0_guessLimb_149 rfl ?_
          refine wn_ladd q_X0_guessLimb_150 ?_
          refine wa_lstore q_X0_guessLimb_151 (by decide) ?_
          refine wn_iinc q_X0_guessLimb_153 rfl (by decide) ?_
          refine wa_goto q_X0_guessLimb_156 ?_
          refine wa_lv (ih (i + 1) (g - 1) (rh + v1) (by omega) (by omega) (by omega) ?_ ?_ (by omega) ?_) rfl
          · have : g * v1 = (g - 1) * v1 + v1 := by
              conv => lhs; rw [show g = g - 1 + 1 by omega, Nat.add_mul, Nat.one_mul]
            omega
          · rw [Nat.add_mul, Nat.one_mul]; omega
          · rw [Nat.sub_add_cancel hg0]; exact hlt
        refine wa_lload q_X0_guessLimb_111 rfl ?_
        refine wa_ldc2 q_X0_guessLimb_113 k_RX0_83 ?_
        refine wn_lcmp_ge q_X0_guessLimb_116 q_X0_guessLimb_117 (by omega) (by omega) (fun he => ?_) (fun he => ?_)
        · exact wa_lv (hmend (kn_B1 hU (by omega))) rfl
        · have q1 : g * v2 ≤ 999999999 * 999999999 := Nat.mul_le_mul (by omega) (by omega)
          have q2 : rh * 1000000000 + un2 < 1000000000 * 1000000000 := by omega
          refine wa_lload q_X0_guessLimb_120 rfl ?_
          refine wa_lload q_X0_guessLimb_122 rfl ?_
          refine wn_lmul q_X0_guessLimb_124 ?_
          refine wa_lload q_X0_guessLimb_125 rfl ?_
          refine wa_ldc2 q_X0_guessLimb_127 k_RX0_83 ?_
          refine wn_lmul q_X0_guessLimb_130 ?_
          refine wa_lload q_X0_guessLimb_131 rfl ?_
          refine wn_ladd q_X0_guessLimb_133 ?_
          refine wn_lcmp_gt q_X0_guessLimb_134 q_X0_guessLimb_135 (by omega) (by omega) (fun hf => ?_) (fun hf => ?_)
          · exact wa_lv (hmend (kn_B2 hgr (by rw [hB]; exact hf) hUl)) rfl
          · refine wa_goto q_X0_guessLimb_138 ?_
            refine wa_lload q_X0_guessLimb_159 rfl ?_
            refine wa_lret q_X0_guessLimb_161 rfl ?_
            exact k g (by omega) hlow (kn_A hgr (by rw [hB]; exact hf) (by omega) (by omega) hVl)
theorem C_guess {b0 dv ds pt bt rs n j : Nat} (h : bw_R X D σ S) (hb0 : look σ b0 = some (nE dv ds pt bt rs)) (h1 : dv ∈ D) (h2 : ds ∈ D) (hn : (S ds).2.2.1 = n) (hn2 : 2 ≤ n) (hj : n + j < (S dv).2.2.1) (hd : ∀ i, i < (S dv).2.2.1 → (S dv).2.2.2.1 i < BB) (hv : ∀ i, i < n → (S ds).2.2.2.1 i < BB) (htop : BB ≤ 2 * (S ds).2.2.2.1 (n - 1)) (hU : vl (fun i => (S dv).2.2.2.1 (j + i)) (n + 1) < vl (S ds).2.2.2.1 n * BB) :
    Calls X M_X0_guessLimb [.ref b0, .int (nI n), .int (nI (n + j))] σ (fun res τ => (∃ g, res = some (.long (lN g)) ∧ g < BB ∧ vl (fun i => (S dv).2.2.2.1 (j + i)) (n + 1) < (g + 1) * vl (S ds).2.2.2.1 n ∧ g * vl (S ds).2.2.2.1 n ≤ vl (fun i => (S dv).2.2.2.1 (j + i)) (n + 1) + vl (S ds).2.2.2.1 n) ∧ τ = σ) := by
  obtain ⟨a1, a2, a3, a4, a5, a6, a7⟩ := h.1 dv h1
  obtain ⟨c1, c2, c3, c4, c5, c6, c7⟩ := h.1 ds h2
  rw [hn] at c1 c3
  have hB : BB = 1000000000 := rfl
  have l0 := hd (n + j) (by omega)
  have l1 := hd (n + j - 1) (by omega)
  have l2 := hd (n + j - 2) (by omega)
  have w1 := hv (n - 1) (by omega)
  have w2 := hv (n - 2) (by omega)
  have hUl : vl (fun i => (S dv).2.2.2.1 (j + i)) (n - 2) < BB ^ (n - 2) := vl_lt (fun i hi => hd _ (by omega))
  have hVl : vl (S ds).2.2.2.1 (n - 2) < BB ^ (n - 2) := vl_lt (fun i hi => hv _ (by omega))
  rw [vl_3 hn2, vl_2 hn2, show j + n = n + j by omega, show j + (n - 1) = n + j - 1 by omega, show j + (n - 2) = n + j - 2 by omega] at hU ⊢
  have hune := kn_D w2 hVl hU
  refine Calls.of rfl (lk rfl) ?_
  refine wa_aload_n q_X0_guessLimb_0 rfl ?_
  refine wa_getf q_X0_guessLimb_1 f_RX0_18 (by assumption) rfl ?_
  refine wa_getf q_X0_guessLimb_4 f_RX0_69 (by assumption) rfl ?_
  refine wa_iload_n q_X0_guessLimb_7 rfl ?_
  refine wa_iconst q_X0_guessLimb_8 (v := nI 1) (by decide) ?_
  refine wn_isub q_X0_guessLimb_9 (by omega) ?_
  refine wn_iald q_X0_guessLimb_10 (by assumption) (by omega) (by omega) ?_
  refine wn_i2l q_X0_guessLimb_11 (by omega) ?_
  refine wa_lstore_n q_X0_guessLimb_12 (by decide) ?_
  refine wa_aload_n q_X0_guessLimb_13 rfl ?_
  refine wa_getf q_X0_guessLimb_14 f_RX0_18 (by assumption) rfl ?_
  refine wa_getf q_X0_guessLimb_17 f_RX0_69 (by assumption) rfl ?_
  refine wa_iload_n q_X0_guessLimb_20 rfl ?_
  refine wa_iconst q_X0_guessLimb_21 (v := nI 2) (by decide) ?_
  refine wn_isub q_X0_guessLimb_22 (by omega) ?_
  refine wn_iald q_X0_guessLimb_23 (by assumption) (by omega) (by omega) ?_
  refine wn_i2l q_X0_guessLimb_24 (by omega) ?_
  refine wa_lstore q_X0_guessLimb_25 (by decide) ?_
  refine wa_lload_n q_X0_guessLimb_27 rfl ?_
  refine wa_lconst q_X0_guessLimb_28 (v := lN 0) (by decide) ?_
  refine wn_lcmp_gt q_X0_guessLimb_29 q_X0_guessLimb_30 (by omega) (by omega) (fun hc => ?_) (fun hc => ?_)
  · refine wa_aload_n q_X0_guessLimb_35 rfl ?_
    refine wa_getf q_X0_guessLimb_36 f_RX0_12 (by assumption) rfl ?_
    refine wa_getf q_X0_guessLimb_39 f_RX0_69 (by assumption) rfl ?_
    refine wa_iload_n q_X0_guessLimb_42 rfl ?_
    refine wn_iald q_X0_guessLimb_43 (by assumption) (by omega) (by omega) ?_
    refine wn_i2l q_X0_guessLimb_44 (by omega) ?_
    refine wa_ldc2 q_X0_guessLimb_45 k_RX0_83 ?_
    refine wn_lmul q_X0_guessLimb_48 ?_
    refine wa_aload_n q_X0_guessLimb_49 rfl ?_
    refine wa_getf q_X0_guessLimb_50 f_RX0_12 (by assumption) rfl ?_
    refine wa_getf q_X0_guessLimb_53 f_RX0_69 (by assumption) rfl ?_
    refine wa_iload_n q_X0_guessLimb_56 rfl ?_
    refine wa_iconst q_X0_guessLimb_57 (v := nI 1) (by decide) ?_
    refine wn_isub q_X0_guessLimb_58 (by omega) ?_
    refine wn_iald q_X0_guessLimb_59 (by assumption) (by omega) (by omega) ?_
    refine wn_i2l q_X0_guessLimb_60 (by omega) ?_
    refine wn_ladd q_X0_guessLimb_61 ?_
    refine wa_lstore q_X0_guessLimb_62 (by decide) ?_
    refine wa_aload_n q_X0_guessLimb_64 rfl ?_
    refine wa_getf q_X0_guessLimb_65 f_RX0_12 (by assumption) rfl ?_
    refine wa_getf q_X0_guessLimb_68 f_RX0_69 (by assumption) rfl ?_
    refine wa_iload_n q_X0_guessLimb_71 rfl ?_
    refine wa_iconst q_X0_guessLimb_72 (v := nI 2) (by decide) ?_
    refine wn_isub q_X0_guessLimb_73 (by omega) ?_
    refine wn_iald q_X0_guessLimb_74 (by assumption) (by omega) (by omega) ?_
    refine wn_i2l q_X0_guessLimb_75 (by omega) ?_
    refine wa_lstore q_X0_guessLimb_76 (by decide) ?_
    refine wa_lload q_X0_guessLimb_78 rfl ?_
    refine wa_lload_n q_X0_guessLimb_80 rfl ?_
    generalize (S dv).2.2.2.1 (n + j) = un at *
    generalize (S dv).2.2.2.1 (n + j - 1) = un1 at *
    generalize (S dv).2.2.2.1 (n + j - 2) = un2 at *
    generalize (S ds).2.2.2.1 (n - 1) = v1 at *
    generalize (S ds).2.2.2.1 (n - 2) = v2 at *
    have htl : un * 1000000000 + un1 < 2 ^ 63 := by omega
    refine wn_ldiv q_X0_guessLimb_81 htl (by omega) (by omega) ?_
    refine wa_lstore q_X0_guessLimb_82 (by decide) ?_
    refine wa_lload q_X0_guessLimb_84 rfl ?_
    refine wa_lload q_X0_guessLimb_86 rfl ?_
    refine wa_lload_n q_X0_guessLimb_88 rfl ?_
    refine wn_lmul q_X0_guessLimb_89 ?_
    have hdm := Nat.div_add_mod (un * 1000000000 + un1) v1
    have hml := Nat.mod_lt (un * 1000000000 + un1) (show 0 < v1 by omega)
    have hle : (un * 1000000000 + un1) / v1 * v1 ≤ un * 1000000000 + un1 := Nat.div_mul_le_self _ _
    refine wn_lsub q_X0_guessLimb_90 hle ?_
    have hsub : un * 1000000000 + un1 - (un * 1000000000 + un1) / v1 * v1 = (un * 1000000000 + un1) % v1 := by rw [Nat.mul_comm ((un * 1000000000 + un1) / v1)]; omega
    rw [hsub]
    have hC := kn_C (b := BB) (v1 := v1) (v2 := v2) (un := un) (un1 := un1) (Vl := vl (S ds).2.2.2.1 (n - 2)) (show 0 < v1 by omega) l2 hUl
    have hgb : (un * 1000000000 + un1) / v1 ≤ BB + 2 := by
      refine Nat.div_le_of_le_mul ?_
      have q1 : v1 * (BB + 2) = v1 * BB + v1 * 2 := Nat.mul_add _ _ _
      have q2 : un * BB ≤ v1 * BB := Nat.mul_le_mul_right _ hune
      have q3 : un * BB = un * 1000000000 := rfl
      omega
    refine wa_lstore q_X0_guessLimb_91 (by decide) ?_
    refine wa_iconst q_X0_guessLimb_93 (v := nI 0) (by decide) ?_
    refine wa_istore q_X0_guessLimb_94 (by decide) ?_
    refine wa_lv (C_guess_loop (b0 := b0) (n := n) (at' := 0) w1 htop w2 l0 l1 l2 hVl hUl hU ?_ _ 0 ((un * 1000000000 + un1) / v1) ((un * 1000000000 + un1) % v1) rfl (Nat.zero_le _) hgb ?_ (by omega) (by omega) hC) rfl
    · intro g g1 g2 g3
      exact ⟨⟨g, rfl, g1, g2, g3⟩, rfl⟩
    · show _ = un * 1000000000 + un1
      rw [Nat.mul_comm]; exact hdm
  · exact absurd hc (by omega)
theorem C_give_loop {ρ σ0 : en_S} {b0 dv ds pt bt rs r rd n j m nd nn : Nat} {d e : Nat → Nat} {sg sgd : Int32} {Q : Option Value → en_S → Prop} (hnn : nn ≤ 512) (hm : m ≤ nn) (hj : n + j < m) (hnd : nd ≤ 512) (hsd : n ≤ nd) (hd : ∀ i, i < n → d (j + i) < BB) (he : ∀ i, i < n → e i < BB) (kb : look σ0 b0 = some (nE dv ds pt bt rs)) (kv : look σ0 dv = some (bE sg m r)) (ks : look σ0 ds = some (bE sgd n rd)) (kd : look σ0 rd = some (ar X nd e)) (hbr : b0 ≠ r) (hvr : dv ≠ r) (hsr : ds ≠ r) (hrr : rd ≠ r)
    (k : ∀ (σ1 : en_S) (d1 : Nat → Nat) (c : Nat), look σ1 r = some (ar X nn d1) → c ≤ 1 → (∀ i, i < n → d1 (j + i) < BB) → vl (fun i => d1 (j + i)) n + c * BB ^ n = vl (fun i => d (j + i)) n + vl e n → (∀ q, q < j ∨ j + n ≤ q → d1 q = d q) → (∀ q, q ≠ r → look σ1 q = look σ0 q) → σ1.1 = σ0.1 → σ1.2.1 = σ0.2.1 → WA X M_X0_giveBack ρ 76 [(3, .int (nI c)), (2, .int (nI j)), (1, .int (nI n)), (0, .ref b0)] [] σ1 Q) :
    ∀ (t i c : Nat) (σ : en_S) (d1 : Nat → Nat), n - i = t → i ≤ n → c ≤ 1 → look σ r = some (ar X nn d1) → (∀ q, q < i → d1 (j + q) < BB) → vl (fun q => d1 (j + q)) i + c * BB ^ i = vl (fun q => d (j + q)) i + vl e i → (∀ q, q < j ∨ j + i ≤ q → d1 q = d q) → (∀ q, q ≠ r → look σ q = look σ0 q) → σ.1 = σ0.1 → σ.2.1 = σ0.2.1 →
      WA X M_X0_giveBack ρ 5 [(4, .int (nI i)), (3, .int (nI c)), (2, .int (nI j)), (1, .int (nI n)), (0, .ref b0)] [] σ Q := by
  have hB : BB = 1000000000 := rfl
  intro t
  induction t with
  | zero =>
    intro i c σ d1 ht hi hc hr h1 h2 h3 h4 h5 h6
    have e : i = n := by omega
    subst e
    refine wa_iload q_X0_giveBack_5 rfl ?_
    refine wa_iload_n q_X0_giveBack_7 rfl ?_
    refine wn_icmp_ge q_X0_giveBack_8 (by omega) (by omega) (fun hx => ?_) (fun hx => ?_)
    · exact wa_lv (k σ d1 c hr hc h1 h2 h3 h4 h5 h6) rfl
    · exact absurd hx (by omega)
  | succ t ih =>
    intro i c σ d1 ht hi hc hr h1 h2 h3 h4 h5 h6
    have hb := (h4 b0 hbr).trans kb
    have hv := (h4 dv hvr).trans kv
    have hs := (h4 ds hsr).trans ks
    have hrd := (h4 rd hrr).trans kd
    have hdi : d1 (i + j) = d (j + i) := by rw [Nat.add_comm]; exact h3 _ (Or.inr (Nat.le_refl _))
    have hdl := hd i (by omega)
    have hel := he i (by omega)
    refine wa_iload q_X0_giveBack_5 rfl ?_
    refine wa_iload_n q_X0_giveBack_7 rfl ?_
    refine wn_icmp_ge q_X0_giveBack_8 (by omega) (by omega) (fun hx => ?_) (fun hx => ?_)
    · exact absurd hx (by omega)
    · refine wa_aload_n q_X0_giveBack_11 rfl ?_
      refine wa_getf q_X0_giveBack_12 f_RX0_12 (by assumption) rfl ?_
      refine wa_getf q_X0_giveBack_15 f_RX0_69 (by assumption) rfl ?_
      refine wa_iload q_X0_giveBack_18 rfl ?_
      refine wa_iload_n q_X0_giveBack_20 rfl ?_
      refine wn_iadd q_X0_giveBack_21 ?_
      refine wn_iald q_X0_giveBack_22 (by assumption) (by omega) (by omega) ?_
      refine wa_aload_n q_X0_giveBack_23 rfl ?_
      refine wa_getf q_X0_giveBack_24 f_RX0_18 (by assumption) rfl ?_
      refine wa_getf q_X0_giveBack_27 f_RX0_69 (by assumption) rfl ?_
      refine wa_iload q_X0_giveBack_30 rfl ?_
      refine wn_iald q_X0_giveBack_32 (by assumption) (by omega) (by omega) ?_
      rw [hdi]
      refine wn_iadd q_X0_giveBack_33 ?_
      refine wa_iload_n q_X0_giveBack_34 rfl ?_
      refine wn_iadd q_X0_giveBack_35 ?_
      refine wa_istore q_X0_giveBack_36 (by decide) ?_
      have hk : ∀ c', (c' = 1 ∧ 1000000000 ≤ d (j + i) + e i + c) ∨ (c' = 0 ∧ d (j + i) + e i + c < 1000000000) → WA X M_X0_giveBack ρ 50 [(5, .int (nI (d (j + i) + e i + c))), (4, .int (nI i)), (2, .int (nI j)), (1, .int (nI n)), (0, .ref b0)] [.int (nI c')] σ Q := by
        intro c' hc'
        have hcc : c' * 1000000000 ≤ d (j + i) + e i + c := by omega
        refine wa_istore_n q_X0_giveBack_50 (by decide) ?_
        refine wa_aload_n q_X0_giveBack_51 rfl ?_
        refine wa_getf q_X0_giveBack_52 f_RX0_12 (by assumption) rfl ?_
        refine wa_getf q_X0_giveBack_55 f_RX0_69 (by assumption) rfl ?_
        refine wa_iload q_X0_giveBack_58 rfl ?_
        refine wa_iload_n q_X0_giveBack_60 rfl ?_
        refine wn_iadd q_X0_giveBack_61 ?_
        refine wa_iload q_X0_giveBack_62 rfl ?_
        refine wa_iload_n q_X0_giveBack_64 rfl ?_
        refine wa_ldc q_X0_giveBack_65 k_RX0_61 ?_
        refine wn_imul q_X0_giveBack_67 ?_
        refine wn_isub q_X0_giveBack_68 (by omega) ?_
        refine wn_iast q_X0_giveBack_69 (by assumption) (by omega) (by omega) (fun σ_hr1 hr1 f_hr1 e1_hr1 e2_hr1 => ?_)
        refine wn_iinc q_X0_giveBack_70 rfl (by decide) ?_
        refine wa_goto q_X0_giveBack_73 ?_
        refine wa_lv (ih (i + 1) c' σ_hr1 _ (by omega) (by omega) (by omega) hr1 (fun q hq => ?_) ?_ (fun q hq => ?_) (fun q hq => (f_hr1 q hq).trans (h4 q hq)) (by omega) (by omega)) rfl
        · by_cases eq : q = i
          · rw [eq]; show (if j + i = i + j then _ else _) < BB; rw [if_pos (by omega)]; omega
          · rw [un_n (by omega)]; exact h1 q (by omega)
        · have e1 : vl (fun q => un d1 (i + j) (d (j + i) + e i + c - c' * 1000000000) (j + q)) (i + 1) = vl (fun q => d1 (j + q)) i + (d (j + i) + e i + c - c' * 1000000000) * BB ^ i := by
            show vl _ i + un _ _ _ (j + i) * _ = _
            rw [Nat.add_comm j i, un_s, vl_congr (e := fun q => d1 (j + q)) (fun q hq => un_n (by omega))]
          have e2 : vl (fun q => d (j + q)) (i + 1) = vl (fun q => d (j + q)) i + d (j + i) * BB ^ i := rfl
          have e3 : vl e (i + 1) = vl e i + e i * BB ^ i := rfl
          have e4 : d (j + i) + e i + c - c' * 1000000000 + c' * 1000000000 = d (j + i) + e i + c := by omega
          rw [e1, e2, e3, Nat.pow_succ, hB]
          rw [hB] at h2
          generalize d (j + i) + e i + c - c' * 1000000000 = ww at *
          grind
        · rw [un_n (by omega)]; exact h3 q (by omega)
      refine wa_iload q_X0_giveBack_38 rfl ?_
      refine wa_ldc q_X0_giveBack_40 k_RX0_61 ?_
      refine wn_icmp_lt q_X0_giveBack_42 (by omega) (by omega) (fun hy => ?_) (fun hy => ?_)
      · refine wa_iconst q_X0_giveBack_49 (v := nI 0) (by decide) ?_
        exact wa_lv (hk 0 (Or.inr ⟨rfl, hy⟩)) rfl
      · refine wa_iconst q_X0_giveBack_45 (v := nI 1) (by decide) ?_
        refine wa_goto q_X0_giveBack_46 ?_
        exact wa_lv (hk 1 (Or.inl ⟨rfl, hy⟩)) rfl
/-- the divisor is added to the window; the limb above it takes the carry -/
theorem C_give {b0 dv ds pt bt rs n j : Nat} (h : bw_R X D σ S) (hb0 : look σ b0 = some (nE dv ds pt bt rs)) (h1 : dv ∈ D) (h2 : ds ∈ D) (hne : dv ≠ ds) (hn : (S ds).2.2.1 = n) (hj : n + j < (S dv).2.2.1) (hd : ∀ i, i < n → (S dv).2.2.2.1 (j + i) < BB) (hv : ∀ i, i < n → (S ds).2.2.2.1 i < BB) :
    Calls X M_X0_giveBack [.ref b0, .int (nI n), .int (nI j)] σ (fun res τ => res = none ∧ ∃ (d1 : Nat → Nat) (c : Nat), c ≤ 1 ∧ (∀ i, i < n → d1 (j + i) < BB) ∧ vl (fun i => d1 (j + i)) n + c * BB ^ n = vl (fun i => (S dv).2.2.2.1 (j + i)) n + vl (S ds).2.2.2.1 n ∧ d1 (n + j) = (S dv).2.2.2.1 (n + j) + c ∧ (∀ q, q < j ∨ j + n < q → d1 q = (S dv).2.2.2.1 q) ∧ bw_R X D τ (uB S dv ((S dv).1, (S dv).2.1, (S dv).2.2.1, d1, (S dv).2.2.2.2)) ∧ bw_St D σ S τ (uB S dv ((S dv).1, (S dv).2.1, (S dv).2.2.1, d1, (S dv).2.2.2.2))) := by
  obtain ⟨a1, a2, a3, a4, a5, a6, a7⟩ := h.1 dv h1
  obtain ⟨c1, c2, c3, c4, c5, c6, c7⟩ := h.1 ds h2
  rw [hn] at c1 c3
  have hbr := ne_oa hb0 a2
  have hvr := ne_oa a1 a2
  have hsr := ne_oa c1 a2
  have hrr : (S ds).1 ≠ (S dv).1 := fun z => hne (h.2 ds h2 dv h1 z).symm
  refine Calls.of rfl (lk rfl) ?_
  refine wa_iconst q_X0_giveBack_0 (v := nI 0) (by decide) ?_
  refine wa_istore_n q_X0_giveBack_1 (by decide) ?_
  refine wa_iconst q_X0_giveBack_2 (v := nI 0) (by decide) ?_
  refine wa_istore q_X0_giveBack_3 (by decide) ?_
  refine wa_lv (C_give_loop (σ0 := σ) a5 a3 hj c5 c3 hd hv hb0 a1 c1 c2 hbr hvr hsr hrr ?_ _ 0 0 σ _ rfl (Nat.zero_le _) (Nat.zero_le _) a2 (fun q hq => absurd hq (by omega)) (by simp [vl]) (fun _ _ => rfl) (fun _ _ => rfl) rfl rfl) rfl
  intro σ1 d1 c g1 g2 g3 g4 g5 g6 g7 g8
  have hb := (g6 b0 hbr).trans hb0
  have hv1 := (g6 dv hvr).trans a1
  refine wa_aload_n q_X0_giveBack_76 rfl ?_
  refine wa_getf q_X0_giveBack_77 f_RX0_12 (by assumption) rfl ?_
  refine wa_getf q_X0_giveBack_80 f_RX0_69 (by assumption) rfl ?_
  refine wa_iload_n q_X0_giveBack_83 rfl ?_
  refine wa_iload_n q_X0_giveBack_84 rfl ?_
  refine wn_iadd q_X0_giveBack_85 ?_
  refine wa_dup2 q_X0_giveBack_86 rfl rfl ?_
  refine wn_iald q_X0_giveBack_87 (by assumption) (by omega) (by omega) ?_
  refine wa_iload_n q_X0_giveBack_88 rfl ?_
  refine wn_iadd q_X0_giveBack_89 ?_
  refine wn_iast q_X0_giveBack_90 (by assumption) (by omega) (by omega) (fun σ_hr1 hr1 f_hr1 e1_hr1 e2_hr1 => ?_)
  refine wa_vret q_X0_giveBack_91 rfl ?_
  have st := bw_R.keep (τ := σ_hr1) (a := dv) h h1 ((f_hr1 dv hvr).trans hv1) hr1 a3 (fun q q2 q3 => (f_hr1 q q3).trans (g6 q q3)) (by omega) (by omega)
  refine ⟨rfl, _, c, g2, fun i hi => ?_, ?_, ?_, fun q hq => ?_, st.1, st.2⟩
  · rw [un_n (by omega)]; exact g3 i hi
  · rw [vl_congr (e := fun i => d1 (j + i)) (fun i hi => un_n (by omega))]; exact g4
  · rw [un_s, g5 _ (Or.inr (by omega))]
  · rw [un_n (by omega)]; exact g5 q (by omega)
end bench1
