/-! EnclosedDigits$Big: shiftDown, shrink -/
def lst (d : Nat → Nat) (i : Nat) : Nat := if vl d i = 0 then 0 else 1
theorem lst_s (d : Nat → Nat) (i : Nat) : lst d (i + 1) = if d i = 0 then lst d i else 1 := by
  unfold lst
  have e : vl d (i + 1) = vl d i + d i * BB ^ i := rfl
  rw [e]
  by_cases h : d i = 0
  · rw [if_pos h, h, Nat.zero_mul, Nat.add_zero]
  · rw [if_neg h]
    have : 0 < d i * BB ^ i := Nat.mul_pos (Nat.pos_of_ne_zero h) (pw_pos i)
    rw [if_neg (by omega)]
theorem natAbs_td (v : Int) (n : Nat) : (v.tdiv (n : Int)).natAbs = v.natAbs / n := by
  rw [Int.natAbs_tdiv]; rfl
theorem td_td (v : Int) (a b : Nat) : (v.tdiv (a : Int)).tdiv (b : Int) = v.tdiv ((a * b : Nat) : Int) := by
  rcases Int.lt_or_le v 0 with h | h
  · obtain ⟨m, rfl⟩ : ∃ m : Nat, v = -(m : Int) := ⟨v.natAbs, by omega⟩
    rw [Int.neg_tdiv, Int.neg_tdiv, Int.neg_tdiv]
    congr 1
    show ((m / a / b : Nat) : Int) = ((m / (a * b) : Nat) : Int)
    rw [Nat.div_div_eq_div_mul]
  · obtain ⟨m, rfl⟩ : ∃ m : Nat, v = (m : Int) := ⟨v.natAbs, by omega⟩
    show ((m / a / b : Nat) : Int) = ((m / (a * b) : Nat) : Int)
    rw [Nat.div_div_eq_div_mul]
section big8
variable {X : en_X} {σ : en_S} {D : List Nat} {S : Nat → en_B} {V : Nat → Int}
theorem C_sDown_loop {ρ : en_S} {a r n sz cut x : Nat} {d : Nat → Nat} {sg : Int32} {Q : Option Value → en_S → Prop} (hn : n ≤ 512) (hs : sz ≤ n) (hcut : cut ≤ sz) (hd : ∀ i, i < sz → d i < BB) (ha : look σ a = some (bE sg sz r)) (hr : look σ r = some (ar X n d))
    (k : WA X M_X1_shiftDown ρ 38 [(3, .int (nI (lst d cut))), (2, .int (nI cut)), (0, .ref a)] [] σ Q) :
    ∀ (t i : Nat), cut - i = t → i ≤ cut → WA X M_X1_shiftDown ρ 14 [(4, .int (nI i)), (3, .int (nI (lst d i))), (2, .int (nI cut)), (0, .ref a)] [] σ Q := by
  have hB : BB = 1000000000 := rfl
  intro t
  induction t with
  | zero =>
    intro i ht hi
    have e : i = cut := by omega
    subst e
    refine wa_iload q_X1_shiftDown_14 rfl ?_
    refine wa_iload_n q_X1_shiftDown_16 rfl ?_
    refine wn_icmp_ge q_X1_shiftDown_17 (by omega) (by omega) (fun hc => ?_) (fun hc => ?_)
    · exact wa_lv k rfl
    · exact absurd hc (by omega)
  | succ t ih =>
    intro i ht hi
    have hdi := hd i (by omega)
    refine wa_iload q_X1_shiftDown_14 rfl ?_
    refine wa_iload_n q_X1_shiftDown_16 rfl ?_
    refine wn_icmp_ge q_X1_shiftDown_17 (by omega) (by omega) (fun hc => ?_) (fun hc => ?_)
    · exact absurd hc (by omega)
    · refine wa_aload_n q_X1_shiftDown_20 rfl ?_
      refine wa_getf q_X1_shiftDown_21 f_RX1_11 (by assumption) rfl ?_
      refine wa_iload q_X1_shiftDown_24 rfl ?_
      refine wn_iald q_X1_shiftDown_26 (by assumption) (by omega) (by omega) ?_
      have hgo := ih (i + 1) (by omega) (by omega)
      rw [lst_s] at hgo
      refine wn_if_eq q_X1_shiftDown_27 (by omega) (fun hz => ?_) (fun hz => ?_)
      · rw [if_pos hz] at hgo
        refine wn_iinc q_X1_shiftDown_32 rfl (by decide) ?_
        refine wa_goto q_X1_shiftDown_35 ?_
        exact wa_lv hgo rfl
      · rw [if_neg (by omega)] at hgo
        refine wa_iconst q_X1_shiftDown_30 (v := nI 1) (by decide) ?_
        refine wa_istore_n q_X1_shiftDown_31 (by decide) ?_
        refine wn_iinc q_X1_shiftDown_32 rfl (by decide) ?_
        refine wa_goto q_X1_shiftDown_35 ?_
        exact wa_lv hgo rfl
theorem V_sDown {a k : Nat} (h : bw_V X D σ S V) (ha : a ∈ D) (hk : k ≤ 1000) : Calls X M_X1_shiftDown [.ref a, .int (nI k)] σ (fun res τ => res = some (.int (nI (if (V a).natAbs % BB ^ k = 0 then 0 else 1))) ∧ ∃ S', bw_V X D τ S' (uV V a ((V a).tdiv (BB ^ k : Nat))) ∧ bw_St D σ S τ S') := by
  obtain ⟨a1, a2, a3, a4, a5, a6, a7⟩ := h.1.1 a ha
  obtain ⟨va, wa, na⟩ := h.2 a ha
  have hne := ne_oa a1 a2
  have hB : BB = 1000000000 := rfl
  have hc0 : min k (S a).2.2.1 ≤ (S a).2.2.1 := Nat.min_le_right _ _
  have hsplit := vl_add (S a).2.2.2.1 (min k (S a).2.2.1) ((S a).2.2.1 - min k (S a).2.2.1)
  rw [Nat.add_sub_cancel' hc0, wa] at hsplit
  have hlow := vl_lt (d := (S a).2.2.2.1) (n := min k (S a).2.2.1) (fun i hi => na.1 i (by omega))
  have hdm : (V a).natAbs / BB ^ k = vl (fun i => (S a).2.2.2.1 (min k (S a).2.2.1 + i)) ((S a).2.2.1 - min k (S a).2.2.1) ∧ (V a).natAbs % BB ^ k = vl (S a).2.2.2.1 (min k (S a).2.2.1) := by
    rcases Nat.le_total k (S a).2.2.1 with q | q
    · rw [Nat.min_eq_left q] at hsplit hlow ⊢
      rw [hsplit, Nat.add_comm, Nat.mul_add_div (pw_pos k), Nat.div_eq_of_lt hlow, Nat.add_zero, Nat.mul_add_mod, Nat.mod_eq_of_lt hlow]
      exact ⟨rfl, rfl⟩
    · rw [Nat.min_eq_right q] at hsplit hlow ⊢
      rw [Nat.sub_self] at hsplit ⊢
      have e0 : vl (fun i => (S a).2.2.2.1 ((S a).2.2.1 + i)) 0 = 0 := rfl
      rw [e0, Nat.mul_zero, Nat.add_zero] at hsplit
      have hlt : (V a).natAbs < BB ^ k := by rw [hsplit]; exact Nat.lt_of_lt_of_le hlow (pw_mono q)
      rw [Nat.div_eq_of_lt hlt, Nat.mod_eq_of_lt hlt]
      exact ⟨rfl, hsplit⟩
  refine Calls.of rfl (lk rfl) ?_
  refine wa_iload_n q_X1_shiftDown_0 rfl ?_
  refine wa_aload_n q_X1_shiftDown_1 rfl ?_
  refine wa_getf q_X1_shiftDown_2 f_RX1_15 (by assumption) rfl ?_
  refine wn_mmin q_X1_shiftDown_5 a_RX1_31 (lk rfl) (lk rfl) (by omega) (by omega) ?_
  refine wa_istore_n q_X1_shiftDown_8 (by decide) ?_
  refine wa_iconst q_X1_shiftDown_9 (v := nI 0) (by decide) ?_
  refine wa_istore_n q_X1_shiftDown_10 (by decide) ?_
  refine wa_iconst q_X1_shiftDown_11 (v := nI 0) (by decide) ?_
  refine wa_istore q_X1_shiftDown_12 (by decide) ?_
  refine wa_lv (C_sDown_loop (x := 0) a5 a3 hc0 na.1 a1 a2 ?_ _ 0 rfl (Nat.zero_le _)) rfl
  refine wa_aload_n q_X1_shiftDown_38 rfl ?_
  refine wa_getf q_X1_shiftDown_39 f_RX1_11 (by assumption) rfl ?_
  refine wa_iload_n q_X1_shiftDown_42 rfl ?_
  refine wa_aload_n q_X1_shiftDown_43 rfl ?_
  refine wa_getf q_X1_shiftDown_44 f_RX1_11 (by assumption) rfl ?_
  refine wa_iconst q_X1_shiftDown_47 (v := nI 0) (by decide) ?_
  refine wa_aload_n q_X1_shiftDown_48 rfl ?_
  refine wa_getf q_X1_shiftDown_49 f_RX1_15 (by assumption) rfl ?_
  refine wa_iload_n q_X1_shiftDown_52 rfl ?_
  refine wn_isub q_X1_shiftDown_53 (by omega) ?_
  refine wn_copyi q_X1_shiftDown_54 a_RX1_41 (lk rfl) (lk rfl) a2 a2 (by omega) (by omega) (by omega) (by omega) (fun σ2 g1 g2 g3 g4 => ?_)
  have a1 := (g2 a hne).trans a1
  refine wa_aload_n q_X1_shiftDown_57 rfl ?_
  refine wa_dup q_X1_shiftDown_58 rfl ?_
  refine wa_getf q_X1_shiftDown_59 f_RX1_15 (by assumption) rfl ?_
  refine wa_iload_n q_X1_shiftDown_62 rfl ?_
  refine wn_isub q_X1_shiftDown_63 (by omega) ?_
  refine wn_putf q_X1_shiftDown_64 p_RX1_15 (by assumption) (lk rfl) rfl rfl rfl (fun σ_c1 c1 f_c1 e1_c1 e2_c1 => ?_)
  have g1 := (f_c1 _ hne.symm).trans g1
  have st := bw_R.keep (τ := σ_c1) (a := a) h.1 ha c1 g1 (by omega) (fun q q2 q3 => (f_c1 q q2).trans (g2 q q3)) (by omega) (by omega)
  have hdl : ∀ i, i < (S a).2.2.1 - min k (S a).2.2.1 → va_cpy (S a).2.2.2.1 (S a).2.2.2.1 (min k (S a).2.2.1) 0 ((S a).2.2.1 - min k (S a).2.2.1) i = (S a).2.2.2.1 (min k (S a).2.2.1 + i) := by
    intro i hi
    rw [pk_cpy_in (by omega) (by omega), Nat.sub_zero]
  refine wa_aload_n q_X1_shiftDown_67 rfl ?_
  refine wa_aload_n q_X1_shiftDown_68 rfl ?_
  refine wa_getf q_X1_shiftDown_69 f_RX1_34 (by assumption) rfl ?_
  refine wa_callV q_X1_shiftDown_72 g_X1_shiftDown_72 w_X1_trim (by assumption) rfl (av := [_]) rfl rfl (lk rfl) (Calls.mono (C_trim st.1 ha (by rw [uB_s]; intro i hi; have hi : i < (S a).2.2.1 - min k (S a).2.2.1 := hi; show va_cpy _ _ _ _ _ i < _; rw [hdl i hi]; have := na.1 (min k (S a).2.2.1 + i) (by omega); omega)) ?_)
  rintro _ σ3 ⟨rfl, b, hbe, w1, w2⟩
  rw [uB_s] at hbe
  rw [uB_u] at w1 w2
  refine wa_iload_n q_X1_shiftDown_75 rfl ?_
  refine wa_zret q_X1_shiftDown_76 rfl (by unfold lst; split <;> rfl) ?_
  refine ⟨?_, _, h.up w1 (isV_of (s := sgI (V a)) ?_ ?_ ?_ ?_), st.2.tr w2⟩
  · rw [hdm.2]; rfl
  · subst hbe
    refine ⟨fun i hi => ?_, tp_top _ _⟩
    have hi : i < tp (va_cpy (S a).2.2.2.1 (S a).2.2.2.1 (min k (S a).2.2.1) 0 ((S a).2.2.1 - min k (S a).2.2.1)) ((S a).2.2.1 - min k (S a).2.2.1) := hi
    have := tp_le (va_cpy (S a).2.2.2.1 (S a).2.2.2.1 (min k (S a).2.2.1) 0 ((S a).2.2.1 - min k (S a).2.2.1)) ((S a).2.2.1 - min k (S a).2.2.1)
    show va_cpy _ _ _ _ _ i < BB
    rw [hdl i (by omega)]; exact na.1 _ (by omega)
  · subst hbe
    show vl _ (tp _ ((S a).2.2.1 - min k (S a).2.2.1)) = _
    rw [vl_tp, natAbs_td, hdm.1]
    exact vl_congr hdl
  · subst hbe
    show (if _ then _ else (S a).2.2.2.2) = _
    rw [va]
  · intro hnz
    have hT : (0 : Int) < (BB ^ k : Nat) := by have := pw_pos k; omega
    rcases sgI_c (V a) with ⟨q, g⟩ | ⟨q, g⟩ | ⟨q, g⟩
    · have hle : (V a).tdiv (BB ^ k : Nat) ≤ 0 := by
        obtain ⟨m, hm⟩ : ∃ m : Int, V a = -m := ⟨-V a, by omega⟩
        rw [hm, Int.neg_tdiv]
        have := Int.tdiv_nonneg (a := m) (b := ((BB ^ k : Nat) : Int)) (by omega) (by omega)
        omega
      rcases sgI_c ((V a).tdiv (BB ^ k : Nat)) with ⟨q2, g2⟩ | ⟨q2, g2⟩ | ⟨q2, g2⟩
      · rw [g, g2]
      · exact absurd q2 hnz
      · omega
    · rw [q, Int.zero_tdiv] at hnz; exact absurd rfl hnz
    · have hge := Int.tdiv_nonneg (a := V a) (b := ((BB ^ k : Nat) : Int)) (by omega) (by omega)
      rcases sgI_c ((V a).tdiv (BB ^ k : Nat)) with ⟨q2, g2⟩ | ⟨q2, g2⟩ | ⟨q2, g2⟩
      · omega
      · exact absurd q2 hnz
      · rw [g, g2]
/-- divided by 10^p, and rounded down (tw = -1) or up (tw = 1) -/
def shr (v : Int) (p : Nat) (tw : Int) : Int := if tw = -1 then v / (10 ^ p : Nat) else -((-v) / (10 ^ p : Nat))
theorem neg_div {m T : Nat} (hT : 0 < T) : (-(m : Int)) / (T : Int) = if m % T = 0 then -((m / T : Nat) : Int) else -((m / T : Nat) : Int) - 1 := by
  have hm := Nat.div_add_mod m T
  have hl := Nat.mod_lt m hT
  have hm' : (T : Int) * ((m / T : Nat) : Int) + ((m % T : Nat) : Int) = (m : Int) := by rw [← Int.natCast_mul, ← Int.natCast_add, hm]
  split
  · rename_i h
    rw [h, Int.natCast_zero, Int.add_zero] at hm'
    rw [← hm', ← Int.mul_neg, Int.mul_ediv_cancel_left _ (by omega)]
  · apply Int.le_antisymm
    · refine Int.le_of_lt_add_one (Int.ediv_lt_of_lt_mul (by omega) ?_)
      have : (-((m / T : Nat) : Int) - 1 + 1) * (T : Int) = -((T : Int) * ((m / T : Nat) : Int)) := by rw [Int.sub_add_cancel, Int.neg_mul, Int.mul_comm]
      rw [this]; omega
    · refine Int.le_ediv_of_mul_le (by omega) ?_
      have : (-((m / T : Nat) : Int) - 1) * (T : Int) = -((T : Int) * ((m / T : Nat) : Int)) - T := by rw [Int.sub_mul, Int.neg_mul, Int.one_mul, Int.mul_comm]
      rw [this]; omega
theorem shr_eq {v : Int} {p : Nat} {tw : Int} (ht : tw = 1 ∨ tw = -1) (hv : v ≠ 0) : shr v p tw = if v.natAbs % 10 ^ p ≠ 0 ∧ sgI v = sgI tw then grw (v.tdiv (10 ^ p : Nat)) (if v < 0 then -1 else 1) else v.tdiv (10 ^ p : Nat) := by
  have hT : 0 < 10 ^ p := Nat.pow_pos (by decide)
  unfold shr
  rcases sgI_c v with ⟨q, g⟩ | ⟨q, g⟩ | ⟨q, g⟩
  · obtain ⟨m, rfl⟩ : ∃ m : Nat, v = -(m : Int) := ⟨v.natAbs, by omega⟩
    rw [g, Int.neg_tdiv, Int.natAbs_neg, Int.natAbs_natCast, Int.neg_neg, neg_div hT]
    have e1 : (m : Int).tdiv (10 ^ p : Nat) = ((m / 10 ^ p : Nat) : Int) := rfl
    have e2 : (m : Int) / (10 ^ p : Nat) = ((m / 10 ^ p : Nat) : Int) := rfl
    rw [e1, e2]
    generalize m / 10 ^ p = qq
    rcases ht with rfl | rfl
    · rw [if_neg (by decide), if_neg (fun z => absurd z.2 (by decide))]
    · rw [if_pos rfl]
      by_cases hz : m % 10 ^ p = 0
      · rw [if_pos hz, if_neg (fun z => z.1 hz)]
      · rw [if_neg hz, if_pos ⟨hz, by decide⟩, if_pos q]
        unfold grw
        split
        · omega
        · rw [if_pos (by omega)]
  · exact absurd q hv
  · obtain ⟨m, rfl⟩ : ∃ m : Nat, v = (m : Int) := ⟨v.natAbs, by omega⟩
    rw [g, Int.natAbs_natCast, neg_div hT]
    have e1 : (m : Int).tdiv (10 ^ p : Nat) = ((m / 10 ^ p : Nat) : Int) := rfl
    have e2 : (m : Int) / (10 ^ p : Nat) = ((m / 10 ^ p : Nat) : Int) := rfl
    rw [e1, e2]
    generalize m / 10 ^ p = qq
    rcases ht with rfl | rfl
    · rw [if_neg (by decide)]
      by_cases hz : m % 10 ^ p = 0
      · rw [if_pos hz, if_neg (fun z => z.1 hz), Int.neg_neg]
      · rw [if_neg hz, if_pos ⟨hz, by decide⟩, if_neg (by omega)]
        unfold grw
        split
        · omega
        · rw [if_neg (by omega)]; omega
    · rw [if_pos rfl, if_neg (fun z => absurd z.2 (by decide))]
theorem V_shrink {a p : Nat} {tw : Int} (h : bw_V X D σ S V) (ha : a ∈ D) (hp : p ≤ 9000) (ht : tw = 1 ∨ tw = -1) (za : (V a).natAbs < BB ^ 250) : Calls X M_X1_shrink [.ref a, .int (nI p), .int (sgI tw)] σ (fun res τ => res = none ∧ ∃ S', bw_V X D τ S' (uV V a (shr (V a) p tw)) ∧ bw_St D σ S τ S') := by
  obtain ⟨a1, a2, a3, a4, a5, a6, a7⟩ := h.1.1 a ha
  obtain ⟨va, wa, na⟩ := h.2 a ha
  have hpe : p = 9 * (p / 9) + p % 9 := by omega
  have h10 : (10 : Nat) ^ p = BB ^ (p / 9) * 10 ^ (p % 9) := by rw [pw_ten, ← Nat.pow_add, ← hpe]
  have hstay : (V a = 0 ∨ p = 0) → ∃ S', bw_V X D σ S' (uV V a (shr (V a) p tw)) ∧ bw_St D σ S σ S' := by
    intro hz
    refine ⟨S, ⟨h.1, fun q hq => ?_⟩, bw_St.rf D σ S⟩
    by_cases e : q = a
    · subst e; rw [uV_s]
      have : shr (V q) p tw = V q := by
        unfold shr
        rcases hz with z | z
        · rw [z]; simp
        · rw [z]; simp
      rw [this]; exact h.2 q hq
    · rw [uV_n e]; exact h.2 q hq
  refine Calls.of rfl (lk rfl) ?_
  refine wa_iload_n q_X1_shrink_0 rfl ?_
  refine wn_if_le q_X1_shrink_1 (by omega) (fun hc => ?_) (fun hc => ?_)
  · refine wa_vret q_X1_shrink_11 rfl ?_
    exact ⟨rfl, hstay (Or.inr hc)⟩
  · refine wa_aload_n q_X1_shrink_4 rfl ?_
    refine wa_getf q_X1_shrink_5 f_RX1_34 (by assumption) rfl ?_
    refine wa_if_ne q_X1_shrink_8 (fun hd => ?_) (fun hd => ?_)
    · have hnz : V a ≠ 0 := fun z => hd (by rw [va]; exact sgI_0.mpr z)
      have hst : (if V a < 0 then (-1 : Int) else 1) = 1 ∨ (if V a < 0 then (-1 : Int) else 1) = -1 := by split <;> simp
      have hsg : sgI (V a) = sgI (if V a < 0 then (-1 : Int) else 1) := by
        rcases sgI_c (V a) with ⟨q, g⟩ | ⟨q, g⟩ | ⟨q, g⟩
        · rw [if_pos q, g]; decide
        · exact absurd q hnz
        · rw [if_neg (by omega), g]; decide
      refine wa_aload_n q_X1_shrink_12 rfl ?_
      refine wa_getf q_X1_shrink_13 f_RX1_34 (by assumption) rfl ?_
      refine wa_istore_n q_X1_shrink_16 (by decide) ?_
      refine wa_aload_n q_X1_shrink_17 rfl ?_
      refine wa_iload_n q_X1_shrink_18 rfl ?_
      refine wa_bipush q_X1_shrink_19 (v := nI 9) (by decide) ?_
      refine wn_idiv q_X1_shrink_21 (by omega) (by omega) (by omega) ?_
      refine wa_callV q_X1_shrink_22 g_X1_shrink_22 w_X1_shiftDown (by assumption) rfl (av := [_]) rfl rfl (lk rfl) (Calls.mono (V_sDown h ha (by omega)) ?_)
      rintro _ σ1 ⟨rfl, S1, k1, k2⟩
      refine wa_istore q_X1_shrink_25 (by decide) ?_
      refine wa_aload_n q_X1_shrink_27 rfl ?_
      refine wa_tensN q_X1_shrink_28 s_RX1_66 ?_
      refine wa_iload_n q_X1_shrink_31 rfl ?_
      refine wa_bipush q_X1_shrink_32 (v := nI 9) (by decide) ?_
      refine wn_irem q_X1_shrink_34 (by omega) (by omega) (by omega) ?_
      refine wn_tald q_X1_shrink_35 (by omega) ?_
      have h9 : 10 ^ (p % 9) ≤ 10 ^ 8 := Nat.pow_le_pow_right (by decide) (by omega)
      have h9' : (10 : Nat) ^ 8 = 100000000 := by decide
      have h9p : 0 < 10 ^ (p % 9) := Nat.pow_pos (by decide)
      have h9b : 10 ^ (p % 9) * BB < 2 ^ 63 := Nat.lt_of_le_of_lt (Nat.mul_le_mul_right _ h9) (by decide)
      refine wn_i2l q_X1_shrink_36 (by omega) ?_
      obtain ⟨c1, c2, -, -, -, -, -⟩ := k1.1.1 a ha
      refine wa_callV q_X1_shrink_37 g_X1_shrink_37 w_X1_divideSmall (by assumption) rfl (av := [_]) rfl rfl (lk rfl) (Calls.mono (V_divS k1 ha h9p h9b) ?_)
      rintro _ σ2 ⟨rfl, S2, k3, k4⟩
      have hv2 : uV (uV V a ((V a).tdiv (BB ^ (p / 9) : Nat))) a ((uV V a ((V a).tdiv (BB ^ (p / 9) : Nat)) a).tdiv (10 ^ (p % 9) : Nat)) = uV V a ((V a).tdiv (10 ^ p : Nat)) := by
        funext q
        by_cases eq : q = a
        · subst eq
          rw [uV_s, uV_s, uV_s, td_td, ← h10]
        · rw [uV_n eq, uV_n eq, uV_n eq]
      rw [hv2] at k3
      rw [uV_s, natAbs_td]
      have hfin : ∀ u : Nat, u = (if (V a).natAbs % 10 ^ p = 0 then 0 else 1) → WA X M_X1_shrink σ 48 [(4, .int (nI u)), (3, .int (sgI (V a))), (2, .int (sgI tw)), (0, .ref a)] [] σ2 (fun res τ => res = none ∧ ∃ S', bw_V X D τ S' (uV V a (shr (V a) p tw)) ∧ bw_St D σ S τ S') := by
        intro u hu
        rw [shr_eq ht hnz]
        obtain ⟨c1, c2, -, -, -, -, -⟩ := k3.1.1 a ha
        have hu1 : u ≤ 1 := by rw [hu]; split <;> omega
        refine wa_iload q_X1_shrink_48 rfl ?_
        refine wn_if_eq q_X1_shrink_50 (by omega) (fun hz => ?_) (fun hz => ?_)
        · refine wa_vret q_X1_shrink_63 rfl ?_
          rw [if_neg (fun z => by rw [hz] at hu; rw [if_neg z.1] at hu; exact absurd hu (by decide))]
          exact ⟨rfl, S2, k3, k2.tr k4⟩
        · have hmod : (V a).natAbs % 10 ^ p ≠ 0 := fun z => by rw [if_pos z] at hu; omega
          refine wa_iload_n q_X1_shrink_53 rfl ?_
          refine wa_iload_n q_X1_shrink_54 rfl ?_
          refine wa_icmp_ne q_X1_shrink_55 (fun hw => ?_) (fun hw => ?_)
          · refine wa_vret q_X1_shrink_63 rfl ?_
            rw [if_neg (fun z => hw z.2)]
            exact ⟨rfl, S2, k3, k2.tr k4⟩
          · refine wa_aload_n q_X1_shrink_58 rfl ?_
            refine wa_iload_n q_X1_shrink_59 rfl ?_
            rw [hsg]
            refine wa_callV q_X1_shrink_60 g_X1_shrink_60 w_X1_grow (by assumption) rfl (av := [_]) rfl rfl (lk rfl) (Calls.mono (V_grow k3 ha hst (by rw [uV_s, natAbs_td]; exact Nat.lt_of_le_of_lt (Nat.div_le_self _ _) za)) ?_)
            rintro _ σ3 ⟨rfl, S3, k5, k6⟩
            refine wa_vret q_X1_shrink_63 rfl ?_
            rw [if_pos ⟨hmod, by rw [hsg] at hw; exact hw⟩]
            refine ⟨rfl, S3, ?_, k2.tr (k4.tr k6)⟩
            rw [uV_s] at k5
            have : uV (uV V a ((V a).tdiv (10 ^ p : Nat))) a (grw ((V a).tdiv (10 ^ p : Nat)) (if V a < 0 then -1 else 1)) = uV V a (grw ((V a).tdiv (10 ^ p : Nat)) (if V a < 0 then -1 else 1)) := by
              funext q
              by_cases eq : q = a
              · subst eq; rw [uV_s, uV_s]
              · rw [uV_n eq, uV_n eq, uV_n eq]
            rw [← this]; exact k5
      rw [va]
      have hmm : (V a).natAbs % 10 ^ p = (V a).natAbs % BB ^ (p / 9) + BB ^ (p / 9) * ((V a).natAbs / BB ^ (p / 9) % 10 ^ (p % 9)) := by rw [h10, Nat.mod_mul]
      have hml := Nat.mod_lt ((V a).natAbs / BB ^ (p / 9)) h9p
      refine wa_lconst q_X1_shrink_40 (v := lN 0) (by decide) ?_
      refine wn_lcmp_eq q_X1_shrink_41 q_X1_shrink_42 (by omega) (by omega) (fun hy => ?_) (fun hy => ?_)
      · refine wa_lv (hfin _ ?_) rfl
        rw [hmm, hy, Nat.mul_zero, Nat.add_zero]
      · refine wa_iconst q_X1_shrink_45 (v := nI 1) (by decide) ?_
        refine wa_istore q_X1_shrink_46 (by decide) ?_
        refine wa_lv (hfin 1 ?_) rfl
        have hpos : 0 < BB ^ (p / 9) * ((V a).natAbs / BB ^ (p / 9) % 10 ^ (p % 9)) := Nat.mul_pos (pw_pos _) (Nat.pos_of_ne_zero hy)
        have hz : ¬ (V a).natAbs % 10 ^ p = 0 := fun z => by
          rw [hmm] at z
          have h2 := (Nat.add_eq_zero_iff.mp z).2
          exact absurd hpos (by rw [h2]; exact Nat.lt_irrefl 0)
        rw [if_neg hz]
    · refine wa_vret q_X1_shrink_11 rfl ?_
      exact ⟨rfl, hstay (Or.inl (sgI_0.mp (by rw [← va]; exact hd)))⟩
end big8
