/-! EnclosedDigits$Big: what it stands for; multiplyLimbs, addLimbs, subtractLimbs, compareSizes, compare -/
def isV (b : en_B) (v : Int) : Prop := b.2.2.2.2 = sgI v ∧ vl b.2.2.2.1 b.2.2.1 = v.natAbs ∧ nrm b.2.2.2.1 b.2.2.1
theorem isV_sz {b : en_B} {v : Int} (h : isV b v) : b.2.2.1 = 0 ↔ v = 0 := by
  rw [← nrm_zero h.2.2, h.2.1]; omega
theorem sgI_0 {v : Int} : sgI v = 0 ↔ v = 0 := by
  unfold sgI
  constructor
  · intro h
    split at h
    · exact absurd h (by decide)
    · split at h
      · assumption
      · exact absurd h (by decide)
  · intro h; subst h; decide
section big2
variable {X : en_X} {σ : en_S} {D : List Nat} {S : Nat → en_B}
theorem C_mulL_loop {ρ σ0 : en_S} {a r n sz f : Nat} {d : Nat → Nat} {sg : Int32} {Q : Option Value → en_S → Prop} (hn : n ≤ 512) (hs : sz ≤ n) (hf : f ≤ BB) (hd : ∀ i, i < sz → d i < BB) (hfit : f * vl d sz < BB ^ sz) (hne : a ≠ r)
    (k : ∀ σ1 d1, look σ1 a = some (bE sg sz r) → look σ1 r = some (ar X n d1) → (∀ j, j < sz → d1 j < BB) → vl d1 sz = f * vl d sz → (∀ q, q ≠ r → look σ1 q = look σ0 q) → σ1.1 = σ0.1 → σ1.2.1 = σ0.2.1 → Q none σ1) :
    ∀ (t i c : Nat) (σ : en_S) (d1 : Nat → Nat), sz - i = t → i ≤ sz → c ≤ f → look σ a = some (bE sg sz r) → look σ r = some (ar X n d1) → (∀ j, j < i → d1 j < BB) → (∀ j, i ≤ j → d1 j = d j) → vl d1 sz + c * BB ^ i + vl d i = vl d sz + f * vl d i → (∀ q, q ≠ r → look σ q = look σ0 q) → σ.1 = σ0.1 → σ.2.1 = σ0.2.1 →
      WA X M_X1_multiplyLimbs ρ 5 [(5, .int (nI i)), (3, .long (lN c)), (1, .long (lN f)), (0, .ref a)] [] σ Q := by
  have hB : BB = 1000000000 := rfl
  intro t
  induction t with
  | zero =>
    intro i c σ d1 ht hi hc ha hr h1 h2 h3 h4 h5 h6
    refine wa_iload q_X1_multiplyLimbs_5 rfl ?_
    refine wa_aload_n q_X1_multiplyLimbs_7 rfl ?_
    refine wa_getf q_X1_multiplyLimbs_8 f_RX1_15 (by assumption) rfl ?_
    refine wn_icmp_ge q_X1_multiplyLimbs_11 (by omega) (by omega) (fun hx => ?_) (fun hx => ?_)
    · refine wa_vret q_X1_multiplyLimbs_57 rfl ?_
      have e : i = sz := by omega
      subst e
      have hc0 : c = 0 := by
        rcases Nat.eq_zero_or_pos c with z | z
        · exact z
        · have : 1 * BB ^ i ≤ c * BB ^ i := Nat.mul_le_mul_right _ z
          omega
      subst hc0
      exact k σ d1 ha hr h1 (by omega) h4 h5 h6
    · exact absurd hx (by omega)
  | succ t ih =>
    intro i c σ d1 ht hi hc ha hr h1 h2 h3 h4 h5 h6
    refine wa_iload q_X1_multiplyLimbs_5 rfl ?_
    refine wa_aload_n q_X1_multiplyLimbs_7 rfl ?_
    refine wa_getf q_X1_multiplyLimbs_8 f_RX1_15 (by assumption) rfl ?_
    refine wn_icmp_ge q_X1_multiplyLimbs_11 (by omega) (by omega) (fun hx => ?_) (fun hx => ?_)
    · exact absurd hx (by omega)
    · have hdi : d1 i = d i := h2 i (by omega)
      have hdi2 : d i < BB := hd i (by omega)
      have hb1 : d i * f ≤ (BB - 1) * f := Nat.mul_le_mul_right _ (by omega)
      have hb2 : (BB - 1) * f + f = BB * f := by rw [Nat.sub_mul, Nat.one_mul]; exact Nat.sub_add_cancel (Nat.le_mul_of_pos_left f BB_pos)
      have hb3 : BB * f ≤ 1000000000 * 1000000000 := by rw [hB]; exact Nat.mul_le_mul_left _ (by omega)
      refine wa_aload_n q_X1_multiplyLimbs_14 rfl ?_
      refine wa_getf q_X1_multiplyLimbs_15 f_RX1_11 (by assumption) rfl ?_
      refine wa_iload q_X1_multiplyLimbs_18 rfl ?_
      refine wn_iald q_X1_multiplyLimbs_20 (by assumption) (by omega) (by omega) ?_
      rw [hdi]
      refine wn_i2l q_X1_multiplyLimbs_21 (by omega) ?_
      refine wa_lload_n q_X1_multiplyLimbs_22 rfl ?_
      refine wn_lmul q_X1_multiplyLimbs_23 ?_
      refine wa_lload_n q_X1_multiplyLimbs_24 rfl ?_
      refine wn_ladd q_X1_multiplyLimbs_25 ?_
      refine wa_lstore q_X1_multiplyLimbs_26 (by decide) ?_
      refine wa_lload q_X1_multiplyLimbs_28 rfl ?_
      refine wa_ldc2 q_X1_multiplyLimbs_30 k_RX1_50 ?_
      refine wn_ldiv q_X1_multiplyLimbs_33 (by omega) (by omega) (by omega) ?_
      refine wa_lstore_n q_X1_multiplyLimbs_34 (by decide) ?_
      refine wa_aload_n q_X1_multiplyLimbs_35 rfl ?_
      refine wa_getf q_X1_multiplyLimbs_36 f_RX1_11 (by assumption) rfl ?_
      refine wa_iload q_X1_multiplyLimbs_39 rfl ?_
      refine wa_lload q_X1_multiplyLimbs_41 rfl ?_
      refine wa_lload_n q_X1_multiplyLimbs_43 rfl ?_
      refine wa_ldc2 q_X1_multiplyLimbs_44 k_RX1_50 ?_
      refine wn_lmul q_X1_multiplyLimbs_47 ?_
      have hm : (d i * f + c) / 1000000000 * 1000000000 ≤ d i * f + c := Nat.div_mul_le_self _ _
      refine wn_lsub q_X1_multiplyLimbs_48 (by omega) ?_
      refine wn_l2i q_X1_multiplyLimbs_49 ?_
      refine wn_iast q_X1_multiplyLimbs_50 (by assumption) (by omega) (by omega) (fun σ_hr1 hr1 f_hr1 e1_hr1 e2_hr1 => ?_)
      have ha := (f_hr1 a hne).trans ha
      refine wn_iinc q_X1_multiplyLimbs_51 rfl (by decide) ?_
      refine wa_goto q_X1_multiplyLimbs_54 ?_
      have hq := Nat.div_add_mod (d i * f + c) 1000000000
      have hml := Nat.mod_lt (d i * f + c) (show 0 < 1000000000 by decide)
      have hsub : d i * f + c - (d i * f + c) / 1000000000 * 1000000000 = (d i * f + c) % 1000000000 := by omega
      rw [hsub] at hr1
      have hu := vl_un (d := d1) (n := sz) (i := i) (x := (d i * f + c) % 1000000000) (by omega)
      have e1 : vl d (i + 1) = vl d i + d i * BB ^ i := rfl
      refine wa_lv (ih (i + 1) ((d i * f + c) / 1000000000) σ_hr1 _ (by omega) (by omega) ?_ ha hr1 (fun j hj => ?_) (fun j hj => ?_) ?_ (fun q hq => (f_hr1 q hq).trans (h4 q hq)) (by omega) (by omega)) rfl
      · rw [← hB]; exact Nat.div_le_of_le_mul (by omega)
      · by_cases e : j = i
        · rw [e, un_s, hB]; exact hml
        · rw [un_n e]; exact h1 j (by omega)
      · rw [un_n (by omega)]; exact h2 j (by omega)
      · rw [e1, Nat.pow_succ, hB] 
        rw [hdi] at hu
        rw [hB] at hu h3
        generalize (d i * f + c) / 1000000000 = qq at *
        generalize (d i * f + c) % 1000000000 = mm at *
        grind
theorem C_mulL {a f : Nat} (h : bw_R X D σ S) (ha : a ∈ D) (hf : f ≤ BB) (hd : ∀ i, i < (S a).2.2.1 → (S a).2.2.2.1 i < BB) (hfit : f * vl (S a).2.2.2.1 (S a).2.2.1 < BB ^ (S a).2.2.1) :
    Calls X M_X1_multiplyLimbs [.ref a, .long (lN f)] σ (fun res τ => res = none ∧ ∃ b : en_B, b.2.2.1 = (S a).2.2.1 ∧ b.2.2.2.2 = (S a).2.2.2.2 ∧ (∀ i, i < b.2.2.1 → b.2.2.2.1 i < BB) ∧ vl b.2.2.2.1 b.2.2.1 = f * vl (S a).2.2.2.1 (S a).2.2.1 ∧ bw_R X D τ (uB S a b) ∧ bw_St D σ S τ (uB S a b)) := by
  obtain ⟨h1, h2, h3, h4, h5, h6, h7⟩ := h.1 a ha
  have hne := ne_oa h1 h2
  refine Calls.of rfl (lk rfl) ?_
  refine wa_lconst q_X1_multiplyLimbs_0 (v := lN 0) (by decide) ?_
  refine wa_lstore_n q_X1_multiplyLimbs_1 (by decide) ?_
  refine wa_iconst q_X1_multiplyLimbs_2 (v := nI 0) (by decide) ?_
  refine wa_istore q_X1_multiplyLimbs_3 (by decide) ?_
  refine wa_lv (C_mulL_loop (σ0 := σ) h5 h3 hf hd hfit hne ?_ _ 0 0 σ _ rfl (Nat.zero_le _) (Nat.zero_le _) h1 h2 (fun j hj => absurd hj (by omega)) (fun _ _ => rfl) (by simp [vl]) (fun _ _ => rfl) rfl rfl) rfl
  intro τ d1 b1 b2 b3 b4 b5 b6 b7
  refine ⟨rfl, ((S a).1, (S a).2.1, (S a).2.2.1, d1, (S a).2.2.2.2), rfl, rfl, b3, b4, bw_R.step h ha (by omega) ⟨b1, b2, h3, h4, h5, by omega, by show (S a).1 < _; omega⟩ (fun q q1 q2 q3 => b5 q q3) (Or.inl rfl) (Nat.le_refl _) (by show _ ≤ 8 * _ + (S a).2.1; omega) (by show _ ≤ _ + 2 * (S a).2.1; omega)⟩
end big2
