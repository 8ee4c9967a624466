/-! EnclosedDigits$Big: made, setLong, digitAt, digitCount, clamped -/
section big9
variable {X : en_X} {σ : en_S} {D : List Nat} {S : Nat → en_B} {V : Nat → Int}
theorem C_bigInit {a : Nat} {w : Value} (ha : look σ a = some (.inr (1, [.int 0, .int 0, w]))) (hal : a < σ.1) : Calls X M_X1_init [.ref a] σ (fun res τ => res = none ∧ look τ a = some (bE 0 0 σ.1) ∧ look τ σ.1 = some (ar X 8 (fun _ => 0)) ∧ (∀ q, q ≠ a → q ≠ σ.1 → look τ q = look σ q) ∧ τ.1 = σ.1 + 1 ∧ τ.2.1 = σ.2.1 + 8) := by
  refine Calls.of rfl (lk rfl) ?_
  refine wa_aload_n q_X1_init_0 rfl ?_
  refine wa_objInit q_X1_init_1 o_RX1_3 (lk rfl) (lk rfl) ?_
  refine wa_aload_n q_X1_init_4 rfl ?_
  refine wa_bipush q_X1_init_5 (v := nI 8) (by decide) ?_
  refine wn_newi q_X1_init_7 (by decide) (fun σ1 g1 g2 g3 g4 => ?_)
  have ha := (g2 a (by omega)).trans ha
  refine wn_putf q_X1_init_9 p_RX1_11 (by assumption) (lk rfl) rfl rfl rfl (fun σ_h1 h1 f_h1 e1_h1 e2_h1 => ?_)
  refine wa_vret q_X1_init_12 rfl ?_
  refine ⟨rfl, h1, (f_h1 _ (by omega)).trans g1, fun q q1 q2 => (f_h1 q q1).trans (g2 q q2), by omega, by omega⟩
theorem C_setL_loop {ρ σ0 : en_S} {a r n m : Nat} {sg : Int32} {z : Int} {Q : Option Value → en_S → Prop} (hn : n ≤ 512) (hs : 3 ≤ n) (hm : m ≤ 9223372036854775808) (hne : a ≠ r)
    (k : ∀ (σ1 : en_S) (d1 : Nat → Nat), look σ1 a = some (bE sg 3 r) → look σ1 r = some (ar X n d1) → (∀ j, j < 3 → d1 j = m / BB ^ j % BB) → (∀ q, q ≠ r → look σ1 q = look σ0 q) → σ1.1 = σ0.1 → σ1.2.1 = σ0.2.1 → WA X M_X1_setLong ρ 57 [(1, .long (lZ z)), (0, .ref a)] [] σ1 Q) :
    ∀ (t i : Nat) (σ : en_S) (d1 : Nat → Nat), 3 - i = t → i ≤ 3 → look σ a = some (bE sg 3 r) → look σ r = some (ar X n d1) → (∀ j, j < i → d1 j = m / BB ^ j % BB) → (∀ q, q ≠ r → look σ q = look σ0 q) → σ.1 = σ0.1 → σ.2.1 = σ0.2.1 →
      WA X M_X1_setLong ρ 25 [(5, .int (nI i)), (3, .long (lZ (-((m / BB ^ i : Nat) : Int)))), (1, .long (lZ z)), (0, .ref a)] [] σ Q := by
  intro t
  induction t with
  | zero =>
    intro i σ d1 ht hi ha hr h1 h4 h5 h6
    have e : i = 3 := by omega
    subst e
    refine wa_iload q_X1_setLong_25 rfl ?_
    refine wa_iconst q_X1_setLong_27 (v := nI 3) (by decide) ?_
    refine wn_icmp_ge q_X1_setLong_28 (by omega) (by omega) (fun hc => ?_) (fun hc => ?_)
    · exact wa_lv (k σ d1 ha hr h1 h4 h5 h6) rfl
    · exact absurd hc (by omega)
  | succ t ih =>
    intro i σ d1 ht hi ha hr h1 h4 h5 h6
    refine wa_iload q_X1_setLong_25 rfl ?_
    refine wa_iconst q_X1_setLong_27 (v := nI 3) (by decide) ?_
    refine wn_icmp_ge q_X1_setLong_28 (by omega) (by omega) (fun hc => ?_) (fun hc => ?_)
    · exact absurd hc (by omega)
    · have hu : m / BB ^ i ≤ 9223372036854775808 := Nat.le_trans (Nat.div_le_self _ _) hm
      have hdd : m / BB ^ (i + 1) = m / BB ^ i / 1000000000 := by rw [Nat.pow_succ, ← Nat.div_div_eq_div_mul]; rfl
      have hih := fun σ1 d1 => ih (i + 1) σ1 d1 (by omega) (by omega)
      rw [hdd] at hih
      have hlast : m / BB ^ i % BB = m / BB ^ i % 1000000000 := rfl
      generalize hue : m / BB ^ i = u at *
      have hq := Nat.div_add_mod u 1000000000
      have hml := Nat.mod_lt u (show 0 < 1000000000 by decide)
      have ediv : lZ (-(u : Int)) / lN 1000000000 = lZ (-((u / 1000000000 : Nat) : Int)) := by
        rw [lN_lZ, lZ_div (by omega) (by omega) (by decide) (by decide), Int.neg_tdiv]; rfl
      have erem : lZ (-(u : Int)) - lZ (-(u : Int)) / lN 1000000000 * lN 1000000000 = lZ (-((u % 1000000000 : Nat) : Int)) := by
        rw [ediv, lN_lZ, lZ_mul, lZ_sub]; congr 1; omega
      refine wa_aload_n q_X1_setLong_31 rfl ?_
      refine wa_getf q_X1_setLong_32 f_RX1_11 (by assumption) rfl ?_
      refine wa_iload q_X1_setLong_35 rfl ?_
      refine wa_lload_n q_X1_setLong_37 rfl ?_
      refine wa_ldc2 q_X1_setLong_38 k_RX1_50 ?_
      refine wa_lrem q_X1_setLong_41 (fun z => by rw [lN_lZ] at z; exact absurd ((lZ_eq (b := 0) (by decide) (by decide) (by decide) (by decide)).mp z) (by decide)) ?_
      rw [erem]
      refine wa_lneg q_X1_setLong_42 ?_
      rw [lZ_neg, Int.neg_neg, ← lN_lZ]
      refine wn_l2i q_X1_setLong_43 ?_
      refine wn_iast q_X1_setLong_44 (by assumption) (by omega) (by omega) (fun σ_hr1 hr1 f_hr1 e1_hr1 e2_hr1 => ?_)
      have ha := (f_hr1 a hne).trans ha
      refine wa_lload_n q_X1_setLong_45 rfl ?_
      refine wa_ldc2 q_X1_setLong_46 k_RX1_50 ?_
      refine wa_ldiv q_X1_setLong_49 (fun z => by rw [lN_lZ] at z; exact absurd ((lZ_eq (b := 0) (by decide) (by decide) (by decide) (by decide)).mp z) (by decide)) ?_
      rw [ediv]
      refine wa_lstore_n q_X1_setLong_50 (by decide) ?_
      refine wn_iinc q_X1_setLong_51 rfl (by decide) ?_
      refine wa_goto q_X1_setLong_54 ?_
      refine wa_lv (hih σ_hr1 _ ha hr1 (fun j hj => ?_) (fun q hq => (f_hr1 q hq).trans (h4 q hq)) (by omega) (by omega)) rfl
      by_cases e : j = i
      · rw [e, un_s, hue]; rfl
      · rw [un_n e]; exact h1 j (by omega)
theorem V_setL {a : Nat} {z : Int} (h : bw_V X D σ S V) (ha : a ∈ D) (h1 : -9223372036854775808 ≤ z) (h2 : z < 9223372036854775808) : Calls X M_X1_setLong [.ref a, .long (lZ z)] σ (fun res τ => res = none ∧ ∃ S', bw_V X D τ S' (uV V a z) ∧ bw_St D σ S τ S') := by
  obtain ⟨a1, a2, a3, a4, a5, a6, a7⟩ := h.1.1 a ha
  have hB : BB = 1000000000 := rfl
  refine Calls.of rfl (lk rfl) ?_
  have hgo : WA X M_X1_setLong σ 12 [(1, .long (lZ z)), (0, .ref a)] [.long (lZ (-((z.natAbs / BB ^ 0 : Nat) : Int)))] σ (fun res τ => res = none ∧ ∃ S', bw_V X D τ S' (uV V a z) ∧ bw_St D σ S τ S') := by
    refine wa_lstore_n q_X1_setLong_12 (by decide) ?_
    refine wa_aload_n q_X1_setLong_13 rfl ?_
    refine wa_callV q_X1_setLong_14 g_X1_setLong_14 w_X1_clear (by assumption) rfl (av := []) rfl rfl (lk rfl) (Calls.mono (C_clear h.1 ha) ?_)
    rintro _ σ1 ⟨rfl, e, rfl, k1, k2⟩
    obtain ⟨a1, a2, -, -, -, -, -⟩ := k1.1 a ha
    rw [uB_s] at a1 a2
    refine wa_aload_n q_X1_setLong_17 rfl ?_
    refine wa_iconst q_X1_setLong_18 (v := nI 3) (by decide) ?_
    refine wa_callV q_X1_setLong_19 g_X1_setLong_19 w_X1_extend (by assumption) rfl (av := [_]) rfl rfl (lk rfl) (Calls.mono (C_extend k1 ha (by omega)) ?_)
    rintro _ σ2 ⟨rfl, e, g1, g2, g3, g4, g5, g6⟩
    rw [uB_s] at g1 g2 g3 g4
    rw [uB_u] at g5 g6
    have hm : e.2.2.1 = 3 := by rw [g1]; rfl
    obtain ⟨e1, e2, e3, e4, e5, -, -⟩ := g5.1 a ha
    rw [uB_s] at e1 e2 e3 e4 e5
    rw [hm] at e1 e3
    refine wa_iconst q_X1_setLong_22 (v := nI 0) (by decide) ?_
    refine wa_istore q_X1_setLong_23 (by decide) ?_
    refine wa_lv (C_setL_loop (σ0 := σ2) (z := z) e5 e3 (by omega) (ne_oa e1 e2) ?_ _ 0 σ2 _ rfl (Nat.zero_le _) e1 e2 (fun j hj => absurd hj (by omega)) (fun _ _ => rfl) rfl rfl) rfl
    intro σ3 d1 k1' k2' k3 k5 k6 k7
    have st := bw_R.keep (τ := σ3) (a := a) (sz := 3) (d := d1) (sg := e.2.2.2.2) g5 ha (by rw [uB_s]; exact k1') (by rw [uB_s]; exact k2') (by rw [uB_s]; exact e3) (fun q q2 q3 => by rw [uB_s] at q3; exact k5 q q3) k6 k7
    rw [uB_u, uB_s] at st
    have hd : ∀ j, j < 3 → d1 j < BB := fun j hj => by rw [k3 j hj]; exact Nat.mod_lt _ BB_pos
    have hv : vl d1 3 = z.natAbs := by
      have e0 := k3 0 (by omega)
      have e1 := k3 1 (by omega)
      have e2 := k3 2 (by omega)
      show 0 + d1 0 * BB ^ 0 + d1 1 * BB ^ 1 + d1 2 * BB ^ 2 = _
      rw [e0, e1, e2, hB]
      simp only [Nat.reducePow]
      omega
    have htr : ∀ s : Int32, (z ≠ 0 → s = sgI z) → WA X M_X1_setLong σ 69 [(1, .long (lZ z)), (0, .ref a)] [.int s, .ref a] σ3 (fun res τ => res = none ∧ ∃ S', bw_V X D τ S' (uV V a z) ∧ bw_St D σ S τ S') := by
      intro s hs
      refine wa_callV q_X1_setLong_69 g_X1_setLong_69 w_X1_trim (by assumption) rfl (av := [_]) rfl rfl (lk rfl) (Calls.mono (C_trim st.1 ha (by rw [uB_s]; intro i hi; have := hd i hi; show d1 i < _; omega)) ?_)
      rintro _ σ4 ⟨rfl, f, hbe, w1, w2⟩
      rw [uB_s] at hbe
      rw [uB_u] at w1 w2
      refine wa_vret q_X1_setLong_72 rfl ?_
      refine ⟨rfl, _, h.up w1 (isV_of (s := s) ?_ ?_ ?_ hs), k2.tr (g6.tr (st.2.tr w2))⟩
      · subst hbe
        exact ⟨fun i hi => hd i (by have := tp_le d1 3; have hi : i < tp d1 3 := hi; omega), tp_top _ _⟩
      · subst hbe
        show vl d1 (tp d1 3) = _
        rw [vl_tp, hv]
      · subst hbe; rfl
    refine wa_aload_n q_X1_setLong_57 rfl ?_
    refine wa_lload_n q_X1_setLong_58 rfl ?_
    refine wa_lconst q_X1_setLong_59 (v := lN 0) (by decide) ?_
    refine wa_lcmp q_X1_setLong_60 ?_
    refine wa_if_ge q_X1_setLong_61 (fun hg => ?_) (fun hg => ?_)
    · rw [lg_cmp_ge, lN_lZ, lZ_le (by decide) (by decide) h1 h2] at hg
      refine wa_iconst q_X1_setLong_68 (v := 1) (by decide) ?_
      refine wa_lv (htr 1 (fun hz => ?_)) rfl
      rcases sgI_c z with ⟨q, g⟩ | ⟨q, g⟩ | ⟨q, g⟩
      · have : ((0 : Nat) : Int) = 0 := rfl
        omega
      · exact absurd q hz
      · exact g.symm
    · rw [lg_cmp_ge, lN_lZ, lZ_le (by decide) (by decide) h1 h2] at hg
      refine wa_iconst q_X1_setLong_64 (v := -1) (by decide) ?_
      refine wa_goto q_X1_setLong_65 ?_
      refine wa_lv (htr (-1) (fun hz => ?_)) rfl
      rcases sgI_c z with ⟨q, g⟩ | ⟨q, g⟩ | ⟨q, g⟩
      · exact g.symm
      · exact absurd q hz
      · have : ((0 : Nat) : Int) = 0 := rfl
        omega
  rw [Nat.pow_zero, Nat.div_one] at hgo
  refine wa_lload_n q_X1_setLong_0 rfl ?_
  refine wa_lconst q_X1_setLong_1 (v := lN 0) (by decide) ?_
  refine wa_lcmp q_X1_setLong_2 ?_
  refine wa_if_ge q_X1_setLong_3 (fun hg => ?_) (fun hg => ?_)
  · rw [lg_cmp_ge, lN_lZ, lZ_le (by decide) (by decide) h1 h2] at hg
    refine wa_lload_n q_X1_setLong_10 rfl ?_
    refine wa_lneg q_X1_setLong_11 ?_
    rw [lZ_neg]
    have : ((0 : Nat) : Int) = 0 := rfl
    rw [show -z = -((z.natAbs : Nat) : Int) by omega]
    exact wa_lv hgo rfl
  · rw [lg_cmp_ge, lN_lZ, lZ_le (by decide) (by decide) h1 h2] at hg
    refine wa_lload_n q_X1_setLong_6 rfl ?_
    refine wa_goto q_X1_setLong_7 ?_
    have : ((0 : Nat) : Int) = 0 := rfl
    have e : lZ z = lZ (-((z.natAbs : Nat) : Int)) := by congr 1; omega
    have : WA X M_X1_setLong σ 12 [(1, .long (lZ z)), (0, .ref a)] [.long (lZ z)] σ (fun res τ => res = none ∧ ∃ S', bw_V X D τ S' (uV V a z) ∧ bw_St D σ S τ S') := by
      conv => arg 6; rw [e]
      exact hgo
    exact wa_lv this rfl
end big9
