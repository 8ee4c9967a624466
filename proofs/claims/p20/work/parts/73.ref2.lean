/-! The reference: compareSizes, compareTo, addSizes, takeSizes, addTo -/
theorem iZ_subN (a b : Nat) : nI a - nI b = iZ ((a : Int) - (b : Int)) := by rw [nI_iZ, nI_iZ, iZ_sub]
section ref3
variable {X : en_X} {σ : en_S} {M : Nat → Nat} {O : Int32 × Int32 × Int32 × Int32 × Int32} {C Z : Nat → Nat} {G : Nat → Int32} {V : Nat → Int}
/-- an answer that tells an order -/
def cmpA (x y : Int) (res : Option Value) : Prop := ∃ w : Int, res = some (.int (iZ w)) ∧ -2147483648 ≤ w ∧ w < 2147483648 ∧ (w < 0 ↔ x < y) ∧ (w = 0 ↔ x = y)
theorem R_cmpS_loop {ρ : en_S} {a b n : Nat} {Q : Option Value → en_S → Prop} (ha : a < 140) (hb : b < 140) (hn : n ≤ 319) (h : rR X σ M O C Z G) (d1 : ∀ i, i < n → reg C a i < BB) (d2 : ∀ i, i < n → reg C b i < BB) (k : ∀ res, cmpA (vl (reg C a) n : Int) (vl (reg C b) n : Int) res → Q res σ) :
    ∀ t, t ≤ n → (∀ j, t ≤ j → j < n → reg C a j = reg C b j) → WA X M_X7_compareSizes ρ 38 [(3, .int (nI t + (-1))), (0, .ref (M 0)), (1, .int (nI a)), (2, .int (nI b))] [] σ Q := by
  have hB : BB = 1000000000 := rfl
  obtain ⟨a0, a1, a2, a3, n1, n2, n3⟩ := id h
  intro t
  induction t with
  | zero =>
    intro _ he
    refine wa_iload_n q_X7_compareSizes_38 rfl ?_
    refine wa_if_lt q_X7_compareSizes_39 (fun _ => ?_) (fun hx => absurd (by decide) hx)
    refine wa_iload_n q_X7_compareSizes_75 rfl ?_
    refine wa_if_ge q_X7_compareSizes_76 (fun hx => absurd hx (by decide)) (fun _ => ?_)
    refine wa_iconst q_X7_compareSizes_79 (v := nI 0) (by decide) ?_
    refine wa_goto q_X7_compareSizes_80 ?_
    refine wa_iret q_X7_compareSizes_108 rfl ?_
    have e : vl (reg C a) n = vl (reg C b) n := vl_congr (fun j hj => he j (Nat.zero_le _) hj)
    exact k _ ⟨0, rfl, by decide, by decide, by rw [e]; omega, by rw [e]; omega⟩
  | succ t ih =>
    intro ht he
    rw [pk_m1]
    have b1 : reg C a t < BB := d1 t (by omega)
    have b2 : reg C b t < BB := d2 t (by omega)
    have ec1 : C (320 * a + t) = reg C a t := rfl
    have ec2 : C (320 * b + t) = reg C b t := rfl
    refine wa_iload_n q_X7_compareSizes_38 rfl ?_
    refine wn_if_lt q_X7_compareSizes_39 (by omega) (fun hx => ?_) (fun hx => ?_)
    · exact absurd hx id
    refine wa_aload_n q_X7_compareSizes_42 rfl ?_
    refine wa_getf q_X7_compareSizes_43 f_RX7_8 (by assumption) rfl ?_
    refine wa_sipush q_X7_compareSizes_46 (v := nI 320) (by decide) ?_
    refine wa_iload_n q_X7_compareSizes_49 rfl ?_
    refine wn_imul q_X7_compareSizes_50 ?_
    refine wa_iload_n q_X7_compareSizes_51 rfl ?_
    refine wn_iadd q_X7_compareSizes_52 ?_
    refine wn_iald q_X7_compareSizes_53 (by assumption) (by omega) (by omega) ?_
    refine wa_aload_n q_X7_compareSizes_54 rfl ?_
    refine wa_getf q_X7_compareSizes_55 f_RX7_8 (by assumption) rfl ?_
    refine wa_sipush q_X7_compareSizes_58 (v := nI 320) (by decide) ?_
    refine wa_iload_n q_X7_compareSizes_61 rfl ?_
    refine wn_imul q_X7_compareSizes_62 ?_
    refine wa_iload_n q_X7_compareSizes_63 rfl ?_
    refine wn_iadd q_X7_compareSizes_64 ?_
    refine wn_iald q_X7_compareSizes_65 (by assumption) (by omega) (by omega) ?_
    rw [ec1, ec2]
    refine wn_icmp_ne q_X7_compareSizes_66 (by omega) (by omega) (fun hx => ?_) (fun hx => ?_)
    · refine wa_iload_n q_X7_compareSizes_75 rfl ?_
      refine wn_if_ge q_X7_compareSizes_76 (by omega) (fun hy => ?_) (fun hy => ?_)
      · refine wa_aload_n q_X7_compareSizes_83 rfl ?_
        refine wa_getf q_X7_compareSizes_84 f_RX7_8 (by assumption) rfl ?_
        refine wa_sipush q_X7_compareSizes_87 (v := nI 320) (by decide) ?_
        refine wa_iload_n q_X7_compareSizes_90 rfl ?_
        refine wn_imul q_X7_compareSizes_91 ?_
        refine wa_iload_n q_X7_compareSizes_92 rfl ?_
        refine wn_iadd q_X7_compareSizes_93 ?_
        refine wn_iald q_X7_compareSizes_94 (by assumption) (by omega) (by omega) ?_
        refine wa_aload_n q_X7_compareSizes_95 rfl ?_
        refine wa_getf q_X7_compareSizes_96 f_RX7_8 (by assumption) rfl ?_
        refine wa_sipush q_X7_compareSizes_99 (v := nI 320) (by decide) ?_
        refine wa_iload_n q_X7_compareSizes_102 rfl ?_
        refine wn_imul q_X7_compareSizes_103 ?_
        refine wa_iload_n q_X7_compareSizes_104 rfl ?_
        refine wn_iadd q_X7_compareSizes_105 ?_
        refine wn_iald q_X7_compareSizes_106 (by assumption) (by omega) (by omega) ?_
        rw [ec1, ec2]
        refine wa_isub q_X7_compareSizes_107 ?_
        rw [iZ_subN]
        refine wa_iret q_X7_compareSizes_108 rfl ?_
        have hlt : ∀ {d e : Nat → Nat}, (∀ i, i < n → d i < BB) → (∀ i, i < n → e i < BB) → (∀ j, t + 1 ≤ j → j < n → d j = e j) → d t < e t → vl d n < vl e n := fun {d e} q1 q2 q3 q4 => vl_cmp (k := t) (by omega) q1 q2 (fun i hi hi2 => q3 i (by omega) hi2) q4
        refine k _ ⟨_, rfl, by omega, by omega, ?_, ?_⟩
        · rcases Nat.lt_or_ge (reg C a t) (reg C b t) with q | q
          · have := hlt d1 d2 he q
            omega
          · have := hlt d2 d1 (fun j j1 j2 => (he j j1 j2).symm) (by omega)
            omega
        · rcases Nat.lt_or_ge (reg C a t) (reg C b t) with q | q
          · have := hlt d1 d2 he q
            omega
          · have := hlt d2 d1 (fun j j1 j2 => (he j j1 j2).symm) (by omega)
            omega
      · exact absurd hy id
    · refine wa_iinc q_X7_compareSizes_69 rfl rfl (by decide) ?_
      refine wa_goto q_X7_compareSizes_72 ?_
      refine wa_lv (ih (by omega) (fun j j1 j2 => ?_)) rfl
      by_cases e : j = t
      · rw [e]; exact hx
      · exact he j (by omega) j2
theorem R_cmpS {a b : Nat} (h : rV X σ M O C Z G V) (ha : a < 140) (hb : b < 140) : Calls X M_X7_compareSizes [.ref (M 0), .int (nI a), .int (nI b)] σ (fun res τ => cmpA ((V a).natAbs : Int) ((V b).natAbs : Int) res ∧ τ = σ) := by
  obtain ⟨a0, a1, a2, a3, n1, n2, n3⟩ := h.1
  obtain ⟨v1, v2, v3, v4⟩ := h.2 a ha
  obtain ⟨w1, w2, w3, w4⟩ := h.2 b hb
  refine Calls.of rfl (lk rfl) ?_
  refine wa_aload_n q_X7_compareSizes_0 rfl ?_
  refine wa_getf q_X7_compareSizes_1 f_RX7_14 (by assumption) rfl ?_
  refine wa_iload_n q_X7_compareSizes_4 rfl ?_
  refine wn_iald q_X7_compareSizes_5 (by assumption) (by omega) (by omega) ?_
  refine wa_aload_n q_X7_compareSizes_6 rfl ?_
  refine wa_getf q_X7_compareSizes_7 f_RX7_14 (by assumption) rfl ?_
  refine wa_iload_n q_X7_compareSizes_10 rfl ?_
  refine wn_iald q_X7_compareSizes_11 (by assumption) (by omega) (by omega) ?_
  refine wn_icmp_eq q_X7_compareSizes_12 (by omega) (by omega) (fun hx => ?_) (fun hx => ?_)
  · refine wa_aload_n q_X7_compareSizes_29 rfl ?_
    refine wa_getf q_X7_compareSizes_30 f_RX7_14 (by assumption) rfl ?_
    refine wa_iload_n q_X7_compareSizes_33 rfl ?_
    refine wn_iald q_X7_compareSizes_34 (by assumption) (by omega) (by omega) ?_
    refine wa_iconst q_X7_compareSizes_35 (v := nI 1) (by decide) ?_
    refine wa_isub q_X7_compareSizes_36 ?_
    refine wa_istore_n q_X7_compareSizes_37 (by decide) ?_
    have e1 : nI (Z a) - nI 1 = nI (Z a) + (-1) := by rw [Int32.sub_eq_add_neg]; rfl
    rw [e1]
    refine wa_lv (R_cmpS_loop (n := Z a) ha hb v4 h.1 v3.1 (fun i hi => w3.1 i (by omega)) (fun res hr => ⟨?_, rfl⟩) (Z a) (Nat.le_refl _) (fun j j1 j2 => by omega)) rfl
    rw [v2, show vl (reg C b) (Z a) = (V b).natAbs from by rw [hx]; exact w2] at hr
    exact hr
  · refine wa_aload_n q_X7_compareSizes_15 rfl ?_
    refine wa_getf q_X7_compareSizes_16 f_RX7_14 (by assumption) rfl ?_
    refine wa_iload_n q_X7_compareSizes_19 rfl ?_
    refine wn_iald q_X7_compareSizes_20 (by assumption) (by omega) (by omega) ?_
    refine wa_aload_n q_X7_compareSizes_21 rfl ?_
    refine wa_getf q_X7_compareSizes_22 f_RX7_14 (by assumption) rfl ?_
    refine wa_iload_n q_X7_compareSizes_25 rfl ?_
    refine wn_iald q_X7_compareSizes_26 (by assumption) (by omega) (by omega) ?_
    refine wa_isub q_X7_compareSizes_27 ?_
    rw [iZ_subN]
    refine wa_iret q_X7_compareSizes_28 rfl ?_
    refine ⟨⟨_, rfl, by omega, by omega, ?_, ?_⟩, rfl⟩
    · rcases Nat.lt_or_ge (Z a) (Z b) with q | q
      · have := nrm_lt v3 w3 q
        omega
      · have := nrm_lt w3 v3 (by omega)
        omega
    · rcases Nat.lt_or_ge (Z a) (Z b) with q | q
      · have := nrm_lt v3 w3 q
        omega
      · have := nrm_lt w3 v3 (by omega)
        omega
theorem R_cmp {a b : Nat} (h : rV X σ M O C Z G V) (ha : a < 140) (hb : b < 140) : Calls X M_X7_compareTo [.ref (M 0), .int (nI a), .int (nI b)] σ (fun res τ => cmpA (V a) (V b) res ∧ τ = σ) := by
  obtain ⟨a0, a1, a2, a3, n1, n2, n3⟩ := h.1
  have g1 := (h.2 a ha).1
  have g2 := (h.2 b hb).1
  refine Calls.of rfl (lk rfl) ?_
  refine wa_aload_n q_X7_compareTo_0 rfl ?_
  refine wa_getf q_X7_compareTo_1 f_RX7_17 (by assumption) rfl ?_
  refine wa_iload_n q_X7_compareTo_4 rfl ?_
  refine wn_gald q_X7_compareTo_5 (by assumption) (by omega) ?_
  refine wa_aload_n q_X7_compareTo_6 rfl ?_
  refine wa_getf q_X7_compareTo_7 f_RX7_17 (by assumption) rfl ?_
  refine wa_iload_n q_X7_compareTo_10 rfl ?_
  refine wn_gald q_X7_compareTo_11 (by assumption) (by omega) ?_
  rw [g1, g2]
  refine wa_icmp_eq q_X7_compareTo_12 (fun hx => ?_) (fun hx => ?_)
  · refine wa_aload_n q_X7_compareTo_29 rfl ?_
    refine wa_getf q_X7_compareTo_30 f_RX7_17 (by assumption) rfl ?_
    refine wa_iload_n q_X7_compareTo_33 rfl ?_
    refine wn_gald q_X7_compareTo_34 (by assumption) (by omega) ?_
    rw [g1]
    refine wa_if_ge q_X7_compareTo_35 (fun hy => ?_) (fun hy => ?_)
    · have hp := sg_ge.mp hy
      have hq : 0 ≤ V b := sg_ge.mp (by rw [← hx]; exact hy)
      refine wa_aload_n q_X7_compareTo_47 rfl ?_
      refine wa_iload_n q_X7_compareTo_48 rfl ?_
      refine wa_iload_n q_X7_compareTo_49 rfl ?_
      refine wa_callV q_X7_compareTo_50 g_X7_compareTo_50 w_X7_compareSizes (by assumption) rfl (av := [_, _]) rfl rfl (lk rfl) (Calls.mono (R_cmpS h ha hb) ?_)
      rintro res τ ⟨⟨w, rfl, c1, c2, c3, c4⟩, rfl⟩
      refine wa_iret q_X7_compareTo_53 rfl ?_
      exact ⟨⟨w, rfl, c1, c2, by omega, by omega⟩, rfl⟩
    · have hp : V a < 0 := Int.not_le.mp (fun q => hy (sg_ge.mpr q))
      have hq : V b < 0 := Int.not_le.mp (fun q => hy (by rw [hx]; exact sg_ge.mpr q))
      refine wa_aload_n q_X7_compareTo_38 rfl ?_
      refine wa_iload_n q_X7_compareTo_39 rfl ?_
      refine wa_iload_n q_X7_compareTo_40 rfl ?_
      refine wa_callV q_X7_compareTo_41 g_X7_compareTo_41 w_X7_compareSizes (by assumption) rfl (av := [_, _]) rfl rfl (lk rfl) (Calls.mono (R_cmpS h hb ha) ?_)
      rintro res τ ⟨⟨w, rfl, c1, c2, c3, c4⟩, rfl⟩
      refine wa_goto q_X7_compareTo_44 ?_
      refine wa_iret q_X7_compareTo_53 rfl ?_
      exact ⟨⟨w, rfl, c1, c2, by omega, by omega⟩, rfl⟩
  · refine wa_aload_n q_X7_compareTo_15 rfl ?_
    refine wa_getf q_X7_compareTo_16 f_RX7_17 (by assumption) rfl ?_
    refine wa_iload_n q_X7_compareTo_19 rfl ?_
    refine wn_gald q_X7_compareTo_20 (by assumption) (by omega) ?_
    refine wa_aload_n q_X7_compareTo_21 rfl ?_
    refine wa_getf q_X7_compareTo_22 f_RX7_17 (by assumption) rfl ?_
    refine wa_iload_n q_X7_compareTo_25 rfl ?_
    refine wn_gald q_X7_compareTo_26 (by assumption) (by omega) ?_
    rw [g1, g2]
    refine wa_isub q_X7_compareTo_27 ?_
    refine wa_iret q_X7_compareTo_28 rfl ?_
    refine ⟨?_, rfl⟩
    rcases sgI_c (V a) with ⟨p, e⟩ | ⟨p, e⟩ | ⟨p, e⟩ <;> rcases sgI_c (V b) with ⟨q, f⟩ | ⟨q, f⟩ | ⟨q, f⟩ <;> rw [e, f]
    · exact absurd (by rw [e, f]) hx
    · exact ⟨-1, by decide, by decide, by decide, by omega, by omega⟩
    · exact ⟨-2, by decide, by decide, by decide, by omega, by omega⟩
    · exact ⟨1, by decide, by decide, by decide, by omega, by omega⟩
    · exact absurd (by rw [e, f]) hx
    · exact ⟨-1, by decide, by decide, by decide, by omega, by omega⟩
    · exact ⟨2, by decide, by decide, by decide, by omega, by omega⟩
    · exact ⟨1, by decide, by decide, by decide, by omega, by omega⟩
    · exact absurd (by rw [e, f]) hx
end ref3
