/-! EnclosedDigits$Big: setProduct, Arrays.fill, shiftUp -/
section big6
variable {X : en_X} {σ : en_S} {D : List Nat} {S : Nat → en_B} {V : Nat → Int}
theorem C_prod_in {ρ σ0 : en_S} {a b c r rc n nc m sb sc i x V0 : Nat} {dc : Nat → Nat} {sg sgc : Int32} {Q : Option Value → en_S → Prop} (hn : n ≤ 512) (hm : m ≤ n) (hms : m = sb + sc) (hi : i < sb) (hnc : nc ≤ 512) (hsc : sc ≤ nc) (hx : x < BB) (hx0 : x ≠ 0) (hdc : ∀ q, q < sc → dc q < BB) (hne : a ≠ r) (hcr : c ≠ r) (hrc : rc ≠ r)
    (k : ∀ (σ1 : en_S) (d1 : Nat → Nat) (y : Nat), look σ1 a = some (bE sg m r) → look σ1 r = some (ar X n d1) → (∀ j, j < m → d1 j < BB) → (∀ j, i + sc ≤ j → j < m → d1 j = 0) → y < BB → vl d1 m + y * BB ^ (i + sc) = V0 + x * vl dc sc * BB ^ i → (∀ q, q ≠ r → look σ1 q = look σ0 q) → σ1.1 = σ0.1 → σ1.2.1 = σ0.2.1 → WA X M_X1_setProduct ρ 118 [(6, .long (lN y)), (3, .int (nI i)), (2, .ref c), (1, .ref b), (0, .ref a)] [] σ1 Q) :
    ∀ (t j y : Nat) (σ : en_S) (d1 : Nat → Nat), sc - j = t → j ≤ sc → y < BB → look σ a = some (bE sg m r) → look σ r = some (ar X n d1) → look σ c = some (bE sgc sc rc) → look σ rc = some (ar X nc dc) → (∀ j, j < m → d1 j < BB) → (∀ j, i + sc ≤ j → j < m → d1 j = 0) → vl d1 m + y * BB ^ (i + j) = V0 + x * vl dc j * BB ^ i → (∀ q, q ≠ r → look σ q = look σ0 q) → σ.1 = σ0.1 → σ.2.1 = σ0.2.1 →
      WA X M_X1_setProduct ρ 42 [(8, .int (nI j)), (6, .long (lN y)), (4, .long (lN x)), (3, .int (nI i)), (2, .ref c), (1, .ref b), (0, .ref a)] [] σ Q := by
  have hB : BB = 1000000000 := rfl
  intro t
  induction t with
  | zero =>
    intro j y σ d1 ht hj hy ha hr hc hrc' h1 h2 h3 h4 h5 h6
    have ej : j = sc := by omega
    subst ej
    refine wa_iload q_X1_setProduct_42 rfl ?_
    refine wa_aload_n q_X1_setProduct_44 rfl ?_
    refine wa_getf q_X1_setProduct_45 f_RX1_15 (by assumption) rfl ?_
    refine wn_icmp_ge q_X1_setProduct_48 (by omega) (by omega) (fun hz => ?_) (fun hz => ?_)
    · exact wa_lv (k σ d1 y ha hr h1 h2 hy h3 h4 h5 h6) rfl
    · exact absurd hz (by omega)
  | succ t ih =>
    intro j y σ d1 ht hj hy ha hr hc hrc' h1 h2 h3 h4 h5 h6
    have hdj := hdc j (by omega)
    have hdd := h1 (i + j) (by omega)
    have hs : x * dc j + d1 (i + j) + y < 1000000000 * 1000000000 := by
      have q1 : x * dc j ≤ 999999999 * 999999999 := Nat.mul_le_mul (by omega) (by omega)
      omega
    refine wa_iload q_X1_setProduct_42 rfl ?_
    refine wa_aload_n q_X1_setProduct_44 rfl ?_
    refine wa_getf q_X1_setProduct_45 f_RX1_15 (by assumption) rfl ?_
    refine wn_icmp_ge q_X1_setProduct_48 (by omega) (by omega) (fun hz => ?_) (fun hz => ?_)
    · exact absurd hz (by omega)
    · refine wa_lload q_X1_setProduct_51 rfl ?_
      refine wa_lconst q_X1_setProduct_53 (v := lN 0) (by decide) ?_
      refine wn_lcmp_eq q_X1_setProduct_54 q_X1_setProduct_55 (by omega) (by omega) (fun hw => ?_) (fun hw => ?_)
      · exact absurd hw hx0
      · refine wa_lload q_X1_setProduct_58 rfl ?_
        refine wa_aload_n q_X1_setProduct_60 rfl ?_
        refine wa_getf q_X1_setProduct_61 f_RX1_11 (by assumption) rfl ?_
        refine wa_iload q_X1_setProduct_64 rfl ?_
        refine wn_iald q_X1_setProduct_66 (by assumption) (by omega) (by omega) ?_
        refine wn_i2l q_X1_setProduct_67 (by omega) ?_
        refine wn_lmul q_X1_setProduct_68 ?_
        refine wa_aload_n q_X1_setProduct_69 rfl ?_
        refine wa_getf q_X1_setProduct_70 f_RX1_11 (by assumption) rfl ?_
        refine wa_iload_n q_X1_setProduct_73 rfl ?_
        refine wa_iload q_X1_setProduct_74 rfl ?_
        refine wn_iadd q_X1_setProduct_76 ?_
        refine wn_iald q_X1_setProduct_77 (by assumption) (by omega) (by omega) ?_
        refine wn_i2l q_X1_setProduct_78 (by omega) ?_
        refine wn_ladd q_X1_setProduct_79 ?_
        refine wa_lload q_X1_setProduct_80 rfl ?_
        refine wn_ladd q_X1_setProduct_82 ?_
        refine wa_lstore q_X1_setProduct_83 (by decide) ?_
        refine wa_lload q_X1_setProduct_85 rfl ?_
        refine wa_ldc2 q_X1_setProduct_87 k_RX1_50 ?_
        refine wn_ldiv q_X1_setProduct_90 (by omega) (by omega) (by omega) ?_
        refine wa_lstore q_X1_setProduct_91 (by decide) ?_
        refine wa_aload_n q_X1_setProduct_93 rfl ?_
        refine wa_getf q_X1_setProduct_94 f_RX1_11 (by assumption) rfl ?_
        refine wa_iload_n q_X1_setProduct_97 rfl ?_
        refine wa_iload q_X1_setProduct_98 rfl ?_
        refine wn_iadd q_X1_setProduct_100 ?_
        refine wa_lload q_X1_setProduct_101 rfl ?_
        refine wa_lload q_X1_setProduct_103 rfl ?_
        refine wa_ldc2 q_X1_setProduct_105 k_RX1_50 ?_
        refine wn_lmul q_X1_setProduct_108 ?_
        have hm9 : (x * dc j + d1 (i + j) + y) / 1000000000 * 1000000000 ≤ x * dc j + d1 (i + j) + y := Nat.div_mul_le_self _ _
        refine wn_lsub q_X1_setProduct_109 hm9 ?_
        have hq := Nat.div_add_mod (x * dc j + d1 (i + j) + y) 1000000000
        have hml := Nat.mod_lt (x * dc j + d1 (i + j) + y) (show 0 < 1000000000 by decide)
        have hsub : x * dc j + d1 (i + j) + y - (x * dc j + d1 (i + j) + y) / 1000000000 * 1000000000 = (x * dc j + d1 (i + j) + y) % 1000000000 := by omega
        rw [hsub]
        refine wn_l2i q_X1_setProduct_110 ?_
        refine wn_iast q_X1_setProduct_111 (by assumption) (by omega) (by omega) (fun σ_hr1 hr1 f_hr1 e1_hr1 e2_hr1 => ?_)
        have ha := (f_hr1 a hne).trans ha
        have hc := (f_hr1 c hcr).trans hc
        have hrc' := (f_hr1 rc hrc).trans hrc'
        refine wn_iinc q_X1_setProduct_112 rfl (by decide) ?_
        refine wa_goto q_X1_setProduct_115 ?_
        have hu := vl_un (d := d1) (n := m) (i := i + j) (x := (x * dc j + d1 (i + j) + y) % 1000000000) (by omega)
        have e1 : vl dc (j + 1) = vl dc j + dc j * BB ^ j := rfl
        refine wa_lv (ih (j + 1) ((x * dc j + d1 (i + j) + y) / 1000000000) σ_hr1 _ (by omega) (by omega) (Nat.div_lt_of_lt_mul hs) ha hr1 hc hrc' (un_lt h1 hml) (fun q q1 q2 => ?_) ?_ (fun q hq => (f_hr1 q hq).trans (h4 q hq)) (by omega) (by omega)) rfl
        · rw [un_n (by omega)]; exact h2 q q1 q2
        · rw [e1, ← Nat.add_assoc, Nat.pow_succ, hB]
          rw [hB] at hu h3
          have e2 : (1000000000 : Nat) ^ (i + j) = 1000000000 ^ i * 1000000000 ^ j := Nat.pow_add _ _ _
          rw [e2] at hu h3 ⊢
          generalize (x * dc j + d1 (i + j) + y) / 1000000000 = qq at *
          generalize (x * dc j + d1 (i + j) + y) % 1000000000 = mm at *
          grind
theorem C_prod_out {ρ σ0 : en_S} {a b c r rb rc n nb nc m sb sc : Nat} {db dc : Nat → Nat} {sg sgb sgc : Int32} {Q : Option Value → en_S → Prop} (hn : n ≤ 512) (hm : m ≤ n) (hms : m = sb + sc) (hnb : nb ≤ 512) (hsb : sb ≤ nb) (hnc : nc ≤ 512) (hsc : sc ≤ nc) (hdb : ∀ q, q < sb → db q < BB) (hdc : ∀ q, q < sc → dc q < BB) (hne : a ≠ r) (hbr : b ≠ r) (hrb : rb ≠ r) (hcr : c ≠ r) (hrc : rc ≠ r) (kb : look σ0 b = some (bE sgb sb rb)) (kb' : look σ0 rb = some (ar X nb db)) (kc : look σ0 c = some (bE sgc sc rc)) (kc' : look σ0 rc = some (ar X nc dc))
    (k : ∀ (σ1 : en_S) (d1 : Nat → Nat), look σ1 a = some (bE sg m r) → look σ1 r = some (ar X n d1) → (∀ j, j < m → d1 j < BB) → vl d1 m = vl db sb * vl dc sc → (∀ q, q ≠ r → look σ1 q = look σ0 q) → σ1.1 = σ0.1 → σ1.2.1 = σ0.2.1 → WA X M_X1_setProduct ρ 138 [(2, .ref c), (1, .ref b), (0, .ref a)] [] σ1 Q) :
    ∀ (t i : Nat) (σ : en_S) (d1 : Nat → Nat), sb - i = t → i ≤ sb → look σ a = some (bE sg m r) → look σ r = some (ar X n d1) → (∀ j, j < m → d1 j < BB) → (∀ j, i + sc ≤ j → j < m → d1 j = 0) → vl d1 m = vl db i * vl dc sc → (∀ q, q ≠ r → look σ q = look σ0 q) → σ.1 = σ0.1 → σ.2.1 = σ0.2.1 →
      WA X M_X1_setProduct ρ 19 [(3, .int (nI i)), (2, .ref c), (1, .ref b), (0, .ref a)] [] σ Q := by
  have hB : BB = 1000000000 := rfl
  intro t
  induction t with
  | zero =>
    intro i σ d1 ht hi ha hr h1 h2 h3 h4 h5 h6
    have ei : i = sb := by omega
    subst ei
    have hb := (h4 b hbr).trans kb
    refine wa_iload_n q_X1_setProduct_19 rfl ?_
    refine wa_aload_n q_X1_setProduct_20 rfl ?_
    refine wa_getf q_X1_setProduct_21 f_RX1_15 (by assumption) rfl ?_
    refine wn_icmp_ge q_X1_setProduct_24 (by omega) (by omega) (fun hz => ?_) (fun hz => ?_)
    · exact wa_lv (k σ d1 ha hr h1 h3 h4 h5 h6) rfl
    · exact absurd hz (by omega)
  | succ t ih =>
    intro i σ d1 ht hi ha hr h1 h2 h3 h4 h5 h6
    have hb := (h4 b hbr).trans kb
    have hb' := (h4 rb hrb).trans kb'
    have hc := (h4 c hcr).trans kc
    have hc' := (h4 rc hrc).trans kc'
    have hdi := hdb i (by omega)
    have e1 : vl db (i + 1) = vl db i + db i * BB ^ i := rfl
    refine wa_iload_n q_X1_setProduct_19 rfl ?_
    refine wa_aload_n q_X1_setProduct_20 rfl ?_
    refine wa_getf q_X1_setProduct_21 f_RX1_15 (by assumption) rfl ?_
    refine wn_icmp_ge q_X1_setProduct_24 (by omega) (by omega) (fun hz => ?_) (fun hz => ?_)
    · exact absurd hz (by omega)
    · refine wa_aload_n q_X1_setProduct_27 rfl ?_
      refine wa_getf q_X1_setProduct_28 f_RX1_11 (by assumption) rfl ?_
      refine wa_iload_n q_X1_setProduct_31 rfl ?_
      refine wn_iald q_X1_setProduct_32 (by assumption) (by omega) (by omega) ?_
      refine wn_i2l q_X1_setProduct_33 (by omega) ?_
      refine wa_lstore q_X1_setProduct_34 (by decide) ?_
      refine wa_lconst q_X1_setProduct_36 (v := lN 0) (by decide) ?_
      refine wa_lstore q_X1_setProduct_37 (by decide) ?_
      refine wa_iconst q_X1_setProduct_39 (v := nI 0) (by decide) ?_
      refine wa_istore q_X1_setProduct_40 (by decide) ?_
      have hend : ∀ (σ1 : en_S) (d2 : Nat → Nat) (y : Nat), look σ1 a = some (bE sg m r) → look σ1 r = some (ar X n d2) → (∀ j, j < m → d2 j < BB) → (∀ j, i + sc ≤ j → j < m → d2 j = 0) → y < BB → vl d2 m + y * BB ^ (i + sc) = vl d1 m + db i * vl dc sc * BB ^ i → (∀ q, q ≠ r → look σ1 q = look σ q) → σ1.1 = σ.1 → σ1.2.1 = σ.2.1 → WA X M_X1_setProduct ρ 118 [(6, .long (lN y)), (3, .int (nI i)), (2, .ref c), (1, .ref b), (0, .ref a)] [] σ1 Q := by
        intro σ1 d2 y g1 g2 g3 g4 g5 g6 g7 g8 g9
        have hc1 := (g7 c hcr).trans hc
        refine wa_aload_n q_X1_setProduct_118 rfl ?_
        refine wa_getf q_X1_setProduct_119 f_RX1_11 (by assumption) rfl ?_
        refine wa_iload_n q_X1_setProduct_122 rfl ?_
        refine wa_aload_n q_X1_setProduct_123 rfl ?_
        refine wa_getf q_X1_setProduct_124 f_RX1_15 (by assumption) rfl ?_
        refine wn_iadd q_X1_setProduct_127 ?_
        refine wa_lload q_X1_setProduct_128 rfl ?_
        refine wn_l2i q_X1_setProduct_130 ?_
        refine wn_iast q_X1_setProduct_131 (by assumption) (by omega) (by omega) (fun σ_hr1 hr1 f_hr1 e1_hr1 e2_hr1 => ?_)
        have ha := (f_hr1 a hne).trans g1
        refine wn_iinc q_X1_setProduct_132 rfl (by decide) ?_
        refine wa_goto q_X1_setProduct_135 ?_
        have hu := vl_un (d := d2) (n := m) (i := i + sc) (x := y) (by omega)
        rw [g4 (i + sc) (Nat.le_refl _) (by omega), Nat.zero_mul, Nat.add_zero] at hu
        refine wa_lv (ih (i + 1) σ_hr1 _ (by omega) (by omega) ha hr1 (un_lt g3 g5) (fun q q1 q2 => ?_) ?_ (fun q hq => (f_hr1 q hq).trans ((g7 q hq).trans (h4 q hq))) (by omega) (by omega)) rfl
        · rw [un_n (by omega)]; exact g4 q (by omega) q2
        · rw [hu, g6, h3, e1, Nat.add_mul]; congr 1; rw [Nat.mul_assoc, Nat.mul_assoc, Nat.mul_comm (BB ^ i)]
      by_cases hx0 : db i = 0
      · rw [hx0]
        refine wa_iload q_X1_setProduct_42 rfl ?_
        refine wa_aload_n q_X1_setProduct_44 rfl ?_
        refine wa_getf q_X1_setProduct_45 f_RX1_15 (by assumption) rfl ?_
        refine wn_icmp_ge q_X1_setProduct_48 (by omega) (by omega) (fun hw => ?_) (fun hw => ?_)
        · refine wa_lv (hend σ d1 0 ha hr h1 h2 BB_pos ?_ (fun _ _ => rfl) rfl rfl) rfl
          rw [hx0]; simp
        · refine wa_lload q_X1_setProduct_51 rfl ?_
          refine wa_lconst q_X1_setProduct_53 (v := lN 0) (by decide) ?_
          refine wn_lcmp_eq q_X1_setProduct_54 q_X1_setProduct_55 (by omega) (by omega) (fun hv => ?_) (fun hv => ?_)
          · refine wa_lv (hend σ d1 0 ha hr h1 h2 BB_pos ?_ (fun _ _ => rfl) rfl rfl) rfl
            rw [hx0]; simp
          · exact absurd rfl hv
      · refine wa_lv (C_prod_in (σ0 := σ) (V0 := vl d1 m) (b := b) hn hm hms (by omega) hnc hsc hdi hx0 hdc hne hcr hrc hend _ 0 0 σ d1 rfl (Nat.zero_le _) BB_pos ha hr hc hc' h1 h2 (by simp [vl]) (fun _ _ => rfl) rfl rfl) rfl
theorem V_prod {a b c : Nat} (h : bw_V X D σ S V) (ha : a ∈ D) (hb : b ∈ D) (hc : c ∈ D) (hab : a ≠ b) (hac : a ≠ c) (zb : (V b).natAbs < BB ^ 125) (zc : (V c).natAbs < BB ^ 125) : Calls X M_X1_setProduct [.ref a, .ref b, .ref c] σ (fun res τ => res = none ∧ ∃ S', bw_V X D τ S' (uV V a (V b * V c)) ∧ bw_St D σ S τ S') := by
  obtain ⟨vb, wb, nb⟩ := h.2 b hb
  obtain ⟨vc, wc, nc⟩ := h.2 c hc
  have zb' := isV_le (h.2 b hb) zb
  have zc' := isV_le (h.2 c hc) zc
  have hB : BB = 1000000000 := rfl
  obtain ⟨a1, a2, a3, a4, a5, a6, a7⟩ := h.1.1 a ha
  obtain ⟨b1, b2, b3, b4, b5, b6, b7⟩ := h.1.1 b hb
  obtain ⟨c1, c2, c3, c4, c5, c6, c7⟩ := h.1.1 c hc
  refine Calls.of rfl (lk rfl) ?_
  refine wa_aload_n q_X1_setProduct_0 rfl ?_
  refine wa_callV q_X1_setProduct_1 g_X1_setProduct_1 w_X1_clear (by assumption) rfl (av := []) rfl rfl (lk rfl) (Calls.mono (C_clear h.1 ha) ?_)
  rintro _ σ1 ⟨rfl, e, rfl, k1, k2⟩
  obtain ⟨a1, a2, -, -, -, -, -⟩ := k1.1 a ha
  obtain ⟨b1, b2, -, -, -, -, -⟩ := k1.1 b hb
  obtain ⟨c1, c2, -, -, -, -, -⟩ := k1.1 c hc
  rw [uB_n (fun z => hab z.symm)] at b1 b2
  rw [uB_n (fun z => hac z.symm)] at c1 c2
  rw [uB_s] at a1 a2
  refine wa_aload_n q_X1_setProduct_4 rfl ?_
  refine wa_aload_n q_X1_setProduct_5 rfl ?_
  refine wa_getf q_X1_setProduct_6 f_RX1_15 (by assumption) rfl ?_
  refine wa_aload_n q_X1_setProduct_9 rfl ?_
  refine wa_getf q_X1_setProduct_10 f_RX1_15 (by assumption) rfl ?_
  refine wn_iadd q_X1_setProduct_13 ?_
  refine wa_callV q_X1_setProduct_14 g_X1_setProduct_14 w_X1_extend (by assumption) rfl (av := [_]) rfl rfl (lk rfl) (Calls.mono (C_extend k1 ha (by omega)) ?_)
  rintro _ σ2 ⟨rfl, e, g1, g2, g3, g4, g5, g6⟩
  rw [uB_s] at g1 g2 g3 g4
  rw [uB_u] at g5 g6
  have hm : e.2.2.1 = (S b).2.2.1 + (S c).2.2.1 := by rw [g1]; exact Nat.zero_max _
  have g4 : ∀ i, i < (S b).2.2.1 + (S c).2.2.1 → e.2.2.2.1 i = 0 := fun i hi => g4 i (Nat.zero_le _) hi
  obtain ⟨a1, a2, a3, a4, a5, -, -⟩ := g5.1 a ha
  have hrb := fun z => hab (g5.2 b hb a ha z).symm
  have hrc := fun z => hac (g5.2 c hc a ha z).symm
  obtain ⟨b1, b2, -, -, -, -, -⟩ := g5.1 b hb
  obtain ⟨c1, c2, -, -, -, -, -⟩ := g5.1 c hc
  rw [uB_n (fun z => hab z.symm)] at b1 b2 hrb
  rw [uB_n (fun z => hac z.symm)] at c1 c2 hrc
  rw [uB_s] at a1 a2 a3 a4 a5 hrb hrc
  refine wa_iconst q_X1_setProduct_17 (v := nI 0) (by decide) ?_
  refine wa_istore_n q_X1_setProduct_18 (by decide) ?_
  refine wa_lv (C_prod_out (σ0 := σ2) a5 a3 hm b5 b3 c5 c3 nb.1 nc.1 (ne_oa a1 a2) (ne_oa b1 a2) hrb (ne_oa c1 a2) hrc b1 b2 c1 c2 ?_ _ 0 σ2 _ rfl (Nat.zero_le _) a1 a2 (fun j hj => by rw [g4 j (by omega)]; exact BB_pos) (fun j _ hj => g4 j (by omega)) (by rw [vl_zero (fun i hi => g4 i (by omega))]; simp [vl]) (fun _ _ => rfl) rfl rfl) rfl
  intro σ3 d1 k1' k2' k3 k4 k5 k6 k7
  have st := bw_R.keep (τ := σ3) (a := a) (sz := e.2.2.1) (d := d1) (sg := e.2.2.2.2) g5 ha (by rw [uB_s]; exact k1') (by rw [uB_s]; exact k2') (by rw [uB_s]; exact a3) (fun q q2 q3 => by rw [uB_s] at q3; exact k5 q q3) k6 k7
  rw [uB_u, uB_s] at st
  have b1 := (k5 b (ne_oa b1 a2)).trans b1
  have c1 := (k5 c (ne_oa c1 a2)).trans c1
  refine wa_aload_n q_X1_setProduct_138 rfl ?_
  refine wa_aload_n q_X1_setProduct_139 rfl ?_
  refine wa_getf q_X1_setProduct_140 f_RX1_34 (by assumption) rfl ?_
  refine wa_aload_n q_X1_setProduct_143 rfl ?_
  refine wa_getf q_X1_setProduct_144 f_RX1_34 (by assumption) rfl ?_
  refine wa_imul q_X1_setProduct_147 ?_
  rw [vb, vc, ← sgI_mul]
  refine wa_callV q_X1_setProduct_148 g_X1_setProduct_148 w_X1_trim (by assumption) rfl (av := [_]) rfl rfl (lk rfl) (Calls.mono (C_trim st.1 ha (by rw [uB_s]; intro i hi; have := k3 i hi; show d1 i < _; omega)) ?_)
  rintro _ σ4 ⟨rfl, f, hbe, w1, w2⟩
  rw [uB_s] at hbe
  rw [uB_u] at w1 w2
  refine wa_vret q_X1_setProduct_151 rfl ?_
  refine ⟨rfl, _, h.up w1 (isV_of (s := sgI (V b * V c)) ?_ ?_ ?_ (fun _ => rfl)), k2.tr (g6.tr (st.2.tr w2))⟩
  · subst hbe
    exact ⟨fun i hi => k3 i (by have := tp_le d1 e.2.2.1; have hi : i < tp d1 e.2.2.1 := hi; omega), tp_top _ _⟩
  · subst hbe
    show vl d1 (tp d1 e.2.2.1) = _
    rw [vl_tp, k4, wb, wc, Int.natAbs_mul]
  · subst hbe; rfl
end big6
