/-! EnclosedDigits$Series: sumPower -/
theorem absL {a : Int} (h1 : -1000000 ≤ a) (h2 : a ≤ 1000000) : (if (0 : Int64) < lZ a then lZ a else -lZ a) = lN a.natAbs := by
  have e0 : (0 : Int64) = lZ 0 := by decide
  rw [lN_lZ, e0]
  by_cases h : 0 < a
  · rw [if_pos ((lZ_lt (by omega) (by omega) (by omega) (by omega)).mpr h)]
    congr 1; omega
  · rw [if_neg (fun q => h ((lZ_lt (by omega) (by omega) (by omega) (by omega)).mp q)), lZ_neg]
    congr 1; omega
theorem pw_t1 {t am b i : Nat} (hb : 0 < b) (ha : am ≤ 5 * b) : t * am / (b * (i + 1)) ≤ 5 * t / (i + 1) := by
  rw [← Nat.div_div_eq_div_mul]
  refine Nat.div_le_div_right ?_
  refine Nat.div_le_of_le_mul ?_
  have := Nat.mul_le_mul_left t ha
  calc t * am ≤ t * (5 * b) := this
    _ = b * (5 * t) := by grind
theorem pw_t2 {t i : Nat} (hi : 4 ≤ i) : 5 * t / (i + 1) ≤ t := by
  refine Nat.div_le_of_le_mul ?_
  exact Nat.mul_le_mul_right t (by omega)
section pow1
variable {X : en_X} {z : Nat → Nat} {N : Nat} {se : Nat} {ρ : en_S} {Q : Option Value → en_S → Prop}
theorem Z_mulN {σ : en_S} {S : Nat → en_B} {U : Nat → Int} {i f t : Nat} (h : zW X z N σ S U) (hi : i < N) (hf : f ≤ BB) (ht : U i = (t : Int)) (zi : t < BB ^ 250) : Calls X M_X1_multiplySmall [.ref (z i), .long (lN f)] σ (fun res τ => res = none ∧ ∃ S', zW X z N τ S' (uV U i ((t * f : Nat) : Int)) ∧ bw_St (zD z N) σ S τ S') := by
  refine Calls.mono (Z_mulS h hi hf (by rw [ht]; exact zi)) ?_
  rintro r τ ⟨rfl, S', k1, k2⟩
  rw [ht] at k1
  exact ⟨rfl, S', k1, k2⟩
set_option maxHeartbeats 1000000 in
theorem pow_loop {a : Int} {b pl : Nat} {σ0 : en_S} {S0 : Nat → en_B} {U0 : Nat → Int} (hN : 15 ≤ N) (hb : 1 ≤ b) (hb2 : b ≤ 1000) (ha : a.natAbs ≤ 5 * b) :
    ∀ (n i t P M : Nat) (σ : en_S) (S : Nat → en_B) (U : Nat → Int), n + i = 10000 → zW X z N σ S U → sO σ z se → U 10 = (t : Int) → U 12 = (P : Int) → U 13 = (M : Int) → t ≤ 625 * 10 ^ 870 → (i ≤ 4 → t ≤ 5 ^ i * 10 ^ 870) → P ≤ i * (625 * 10 ^ 870) → M ≤ i * (625 * 10 ^ 870) → (∀ j, j < 10 ∨ 14 ≤ j → U j = U0 j) → bw_St (zD z N) σ0 S0 σ S →
      (∀ σ' S' U', zW X z N σ' S' U' → U' 12 = ((powGo a.natAbs b (decide (a < 0)) n i t P M).1 : Int) → U' 13 = ((powGo a.natAbs b (decide (a < 0)) n i t P M).2 : Int) → (powGo a.natAbs b (decide (a < 0)) n i t P M).1 ≤ 10 ^ 878 → (powGo a.natAbs b (decide (a < 0)) n i t P M).2 ≤ 10 ^ 878 → (∀ j, j < 10 ∨ 14 ≤ j → U' j = U0 j) → bw_St (zD z N) σ0 S0 σ' S' → Q none σ') →
      WA X M_X4_sumPower ρ 20 [(0, .ref se), (1, .long (lZ a)), (3, .long (lN b)), (5, .int (nI pl)), (6, .int (nI i))] [] σ Q := by
  have h74 : 10000 * (625 * 10 ^ 870) ≤ 10 ^ 878 := by
    rw [show (878 : Nat) = 870 + 8 from rfl, Nat.pow_add, Nat.mul_comm (10 ^ 870) (10 ^ 8), ← Nat.mul_assoc]
    exact Nat.mul_le_mul_right _ (by decide)
  have hb1 : 625 * 10 ^ 870 ≤ BB ^ 98 := by
    refine Nat.le_trans ?_ lb_1
    rw [show (880 : Nat) = 870 + 10 from rfl, Nat.pow_add, Nat.mul_comm (10 ^ 870) (10 ^ 10)]
    exact Nat.mul_le_mul_right _ (by decide)
  have hb2' : 10 ^ 878 ≤ BB ^ 98 := Nat.le_trans (Nat.pow_le_pow_right (by decide) (by decide)) lb_1
  have hb3 : BB ^ 98 < BB ^ 250 := (Nat.pow_lt_pow_iff_right (by decide)).mpr (by decide)
  have hB : BB = 1000000000 := rfl
  generalize hE : (10 : Nat) ^ 870 = E at *
  generalize hF : (10 : Nat) ^ 878 = F at *
  clear hE hF
  generalize hneg : decide (a < 0) = neg
  intro n
  induction n with
  | zero =>
    intro i t P M σ S U hni h hs u1 u2 u3 ht ht2 hP hM hfr hst k
    have e : i = 10000 := by omega
    subst e
    refine wa_iload q_X4_sumPower_20 rfl ?_
    refine wa_sipush q_X4_sumPower_22 (v := nI 10000) (by decide) ?_
    refine wn_icmp_ge q_X4_sumPower_25 (by omega) (by omega) (fun hc => ?_) (fun hc => ?_)
    · refine wa_vret q_X4_sumPower_106 rfl ?_
      exact k σ S U h u2 u3 (by show P ≤ F; omega) (by show M ≤ F; omega) hfr hst
    · omega
  | succ n ih =>
    intro i t P M σ S U hni h hs u1 u2 u3 ht ht2 hP hM hfr hst k
    have hiE : i * (625 * E) ≤ F := Nat.le_trans (Nat.mul_le_mul_right (625 * E) (by omega)) h74
    obtain ⟨s1, s2⟩ := hs
    have i0 := h.big (i := 10) (by omega)
    refine wa_iload q_X4_sumPower_20 rfl ?_
    refine wa_sipush q_X4_sumPower_22 (v := nI 10000) (by decide) ?_
    refine wn_icmp_ge q_X4_sumPower_25 (by omega) (by omega) (fun hc => ?_) (fun hc => ?_)
    · omega
    refine wa_aload_n q_X4_sumPower_28 rfl ?_
    refine wa_getf q_X4_sumPower_29 f_RX4_12 (by assumption) rfl ?_
    refine wa_getf q_X4_sumPower_32 f_RX4_94 (by assumption) rfl ?_
    rw [u1]
    refine wa_if_eq q_X4_sumPower_35 (fun h0 => ?_) (fun h0 => ?_)
    · have t0 : t = 0 := sgN.mp h0
      have e : powGo a.natAbs b neg (n + 1) i t P M = (P, M) := if_pos t0
      rw [e] at k
      refine wa_vret q_X4_sumPower_106 rfl ?_
      exact k σ S U h u2 u3 (by show P ≤ F; omega) (by show M ≤ F; omega) hfr hst
    · have t0 : ¬ t = 0 := fun q => h0 (sgN.mpr q)
      have ts : t * a.natAbs / (b * (i + 1)) ≤ 625 * E ∧ (i + 1 ≤ 4 → t * a.natAbs / (b * (i + 1)) ≤ 5 ^ (i + 1) * E) := by
        have q1 := pw_t1 (t := t) (i := i) (show 0 < b from hb) ha
        have q2 : 5 * t / (i + 1) ≤ 5 * t := Nat.div_le_self _ _
        by_cases h4 : 4 ≤ i
        · have q3 := pw_t2 (t := t) h4
          exact ⟨by omega, fun q => by omega⟩
        · have q3 : i = 0 ∨ i = 1 ∨ i = 2 ∨ i = 3 := by omega
          have q4 := ht2 (by omega)
          rcases q3 with q | q | q | q <;> subst q <;> exact ⟨by omega, fun _ => by omega⟩
      -- behind the addition
      have nxt : ∀ (σ3 : en_S) (S3 : Nat → en_B) (U3 : Nat → Int) (P3 M3 q7 : Nat), zW X z N σ3 S3 U3 → sO σ3 z se → U3 10 = (t : Int) → U3 12 = (P3 : Int) → U3 13 = (M3 : Int) → P3 ≤ (i + 1) * (625 * E) → M3 ≤ (i + 1) * (625 * E) → (∀ j, j < 10 ∨ 14 ≤ j → U3 j = U0 j) → bw_St (zD z N) σ0 S0 σ3 S3 → powGo a.natAbs b neg (n + 1) i t P M = powGo a.natAbs b neg n (i + 1) (t * a.natAbs / (b * (i + 1))) P3 M3 →
          WA X M_X4_sumPower ρ 74 [(7, .ref q7), (0, .ref se), (1, .long (lZ a)), (3, .long (lN b)), (5, .int (nI pl)), (6, .int (nI i))] [] σ3 Q := by
        intro σ3 S3 U3 P3 M3 q7 w3 hs3 v1 v2 v3 b2 b3 hfr3 hst3 eg
        rw [eg] at k
        obtain ⟨s1, s2⟩ := hs3
        have i3 := w3.big (i := 10) (by omega)
        refine wa_aload_n q_X4_sumPower_74 rfl ?_
        refine wa_getf q_X4_sumPower_75 f_RX4_12 (by assumption) rfl ?_
        refine wa_lload_n q_X4_sumPower_78 rfl ?_
        refine wa_mabsL q_X4_sumPower_79 a_RX4_99 (lk rfl) (lk rfl) ?_
        rw [absL (by omega) (by omega)]
        refine wa_callV q_X4_sumPower_82 g_X4_sumPower_82 w_X1_multiplySmall (by assumption) rfl (av := [_]) rfl rfl (lk rfl) (Calls.mono (Z_mulN w3 (i := 10) (f := a.natAbs) (t := t) (by omega) (by omega) v1 (by omega)) ?_)
        rintro _ σ4 ⟨rfl, S4, w4, t4⟩
        obtain ⟨s1, s2⟩ := sO.st ⟨s1, s2⟩ t4 w3.R
        have i4 := w4.big (i := 10) (by omega)
        have hbi : b * (i + 1) ≤ 1000 * 10000 := Nat.mul_le_mul hb2 (by omega)
        refine wa_aload_n q_X4_sumPower_85 rfl ?_
        refine wa_getf q_X4_sumPower_86 f_RX4_12 (by assumption) rfl ?_
        refine wa_lload_n q_X4_sumPower_89 rfl ?_
        refine wa_iload q_X4_sumPower_90 rfl ?_
        refine wa_iconst q_X4_sumPower_92 (v := nI 1) (by decide) ?_
        refine wn_iadd q_X4_sumPower_93 ?_
        refine wn_i2l q_X4_sumPower_94 (by omega) ?_
        refine wn_lmul q_X4_sumPower_95 ?_
        refine wa_callV q_X4_sumPower_96 g_X4_sumPower_96 w_X1_divideSmall (by assumption) rfl (av := [_]) rfl rfl (lk rfl) (Calls.mono (Z_divN w4 (i := 10) (f := b * (i + 1)) (t := t * a.natAbs) (by omega) (Nat.mul_pos (by omega) (by omega)) (by rw [hB]; omega) uV_s) ?_)
        rintro _ σ5 ⟨⟨r5, rfl⟩, S5, w5, t5⟩
        have hs5 := sO.st ⟨s1, s2⟩ t5 w4.R
        refine wa_pop2 q_X4_sumPower_99 rfl ?_
        refine wn_iinc q_X4_sumPower_100 rfl (by decide) ?_
        refine wa_goto q_X4_sumPower_103 ?_
        exact wa_lv (ih (i + 1) (t * a.natAbs / (b * (i + 1))) P3 M3 σ5 S5 _ (by omega) w5 hs5 uV_s (by rw [uV_n (by decide), uV_n (by decide)]; exact v2) (by rw [uV_n (by decide), uV_n (by decide)]; exact v3) ts.1 ts.2 b2 b3 (fun j hj => by rw [uV_n (by omega), uV_n (by omega)]; exact hfr3 j hj) (hst3.tr (t4.tr t5)) k) rfl
      have hmE : (i + 1) * (625 * E) = i * (625 * E) + 625 * E := by rw [Nat.add_mul, Nat.one_mul]
      have sM : (neg = true ∧ i % 2 = 1) → WA X M_X4_sumPower ρ 52 [(0, .ref se), (1, .long (lZ a)), (3, .long (lN b)), (5, .int (nI pl)), (6, .int (nI i))] [] σ Q := by
        intro hg
        have i3 := h.big (i := 13) (by omega)
        refine wa_aload_n q_X4_sumPower_52 rfl ?_
        refine wa_getf q_X4_sumPower_53 f_RX4_24 (by assumption) rfl ?_
        refine wa_goto q_X4_sumPower_56 ?_
        refine wa_astore q_X4_sumPower_63 (by decide) ?_
        refine wa_aload q_X4_sumPower_65 rfl ?_
        refine wa_aload_n q_X4_sumPower_67 rfl ?_
        refine wa_getf q_X4_sumPower_68 f_RX4_12 (by assumption) rfl ?_
        refine wa_callV q_X4_sumPower_71 g_X4_sumPower_71 w_X1_add (by assumption) rfl (av := [_]) rfl rfl (lk rfl) (Calls.mono (Z_addN h (i := 13) (j := 10) (a := M) (b := t) (by omega) (by omega) (by decide) u3 u1 (by omega) (by omega)) ?_)
        rintro _ σ3 ⟨rfl, S3, w3, t3⟩
        exact wa_lv (nxt σ3 S3 _ P (M + t) (z 13) w3 (sO.st ⟨s1, s2⟩ t3 h.R) (by rw [uV_n (by decide)]; exact u1) (by rw [uV_n (by decide)]; exact u2) uV_s (by omega) (by omega) (fun j hj => by rw [uV_n (by omega)]; exact hfr j hj) (hst.tr t3) (powGo_M t0 hg)) rfl
      have sP : ¬ (neg = true ∧ i % 2 = 1) → WA X M_X4_sumPower ρ 59 [(0, .ref se), (1, .long (lZ a)), (3, .long (lN b)), (5, .int (nI pl)), (6, .int (nI i))] [] σ Q := by
        intro hg
        have i3 := h.big (i := 12) (by omega)
        refine wa_aload_n q_X4_sumPower_59 rfl ?_
        refine wa_getf q_X4_sumPower_60 f_RX4_21 (by assumption) rfl ?_
        refine wa_astore q_X4_sumPower_63 (by decide) ?_
        refine wa_aload q_X4_sumPower_65 rfl ?_
        refine wa_aload_n q_X4_sumPower_67 rfl ?_
        refine wa_getf q_X4_sumPower_68 f_RX4_12 (by assumption) rfl ?_
        refine wa_callV q_X4_sumPower_71 g_X4_sumPower_71 w_X1_add (by assumption) rfl (av := [_]) rfl rfl (lk rfl) (Calls.mono (Z_addN h (i := 12) (j := 10) (a := P) (b := t) (by omega) (by omega) (by decide) u2 u1 (by omega) (by omega)) ?_)
        rintro _ σ3 ⟨rfl, S3, w3, t3⟩
        exact wa_lv (nxt σ3 S3 _ (P + t) M (z 12) w3 (sO.st ⟨s1, s2⟩ t3 h.R) (by rw [uV_n (by decide)]; exact u1) uV_s (by rw [uV_n (by decide)]; exact u3) (by omega) (by omega) (fun j hj => by rw [uV_n (by omega)]; exact hfr j hj) (hst.tr t3) (powGo_P t0 hg)) rfl
      have e0 : (0 : Int64) = lZ 0 := by decide
      refine wa_lload_n q_X4_sumPower_38 rfl ?_
      refine wa_lconst q_X4_sumPower_39 (v := 0) (by decide) ?_
      refine wa_lcmp q_X4_sumPower_40 ?_
      refine wa_if_ge q_X4_sumPower_41 (fun h1 => ?_) (fun h1 => ?_)
      · have h2 : 0 ≤ a := by
          have := (lg_cmp_ge _ _).mp h1
          rw [e0] at this
          exact (lZ_le (by omega) (by omega) (by omega) (by omega)).mp this
        exact wa_lv (sP (fun q => by rw [← hneg] at q; have := of_decide_eq_true q.1; omega)) rfl
      · have h2 : a < 0 := by
          refine Int.not_le.mp (fun q => h1 ((lg_cmp_ge _ _).mpr ?_))
          rw [e0]
          exact (lZ_le (by omega) (by omega) (by omega) (by omega)).mpr q
        have h3 : neg = true := by rw [← hneg]; exact decide_eq_true h2
        refine wa_iload q_X4_sumPower_44 rfl ?_
        refine wa_iconst q_X4_sumPower_46 (v := nI 2) (by decide) ?_
        refine wn_irem q_X4_sumPower_47 (by omega) (by omega) (by omega) ?_
        refine wa_iconst q_X4_sumPower_48 (v := nI 1) (by decide) ?_
        refine wn_icmp_ne q_X4_sumPower_49 (by omega) (by decide) (fun h4 => ?_) (fun h4 => ?_)
        · exact wa_lv (sP (fun q => h4 q.2)) rfl
        · exact wa_lv (sM ⟨h3, h4⟩) rfl
/-- the two sides of the sum of a power of e at pl places -/
def powS (a : Int) (b : Nat) (pl : Nat) : Nat × Nat := powGo a.natAbs b (decide (a < 0)) 10000 0 (10 ^ pl) 0 0
theorem G_pow {σ : en_S} {S : Nat → en_B} {U : Nat → Int} {a : Int} {b pl : Nat} (h : zW X z N σ S U) (hs : sO σ z se) (hN : 15 ≤ N) (hb : 1 ≤ b) (hb2 : b ≤ 1000) (ha : a.natAbs ≤ 5 * b) (hpl : pl ≤ 870) (u2 : U 12 = 0) (u3 : U 13 = 0) :
    Calls X M_X4_sumPower [.ref se, .long (lZ a), .long (lN b), .int (nI pl)] σ (fun res τ => res = none ∧ ∃ S' U', zW X z N τ S' U' ∧ U' 12 = ((powS a b pl).1 : Int) ∧ U' 13 = ((powS a b pl).2 : Int) ∧ (powS a b pl).1 ≤ 10 ^ 878 ∧ (powS a b pl).2 ≤ 10 ^ 878 ∧ (∀ j, j < 10 ∨ 14 ≤ j → U' j = U j) ∧ bw_St (zD z N) σ S τ S') := by
  have hp1 : 10 ^ pl ≤ 10 ^ 870 := Nat.pow_le_pow_right (by decide) hpl
  have hb1 : 10 ^ 870 ≤ BB ^ 98 := Nat.le_trans (Nat.pow_le_pow_right (by decide) (by decide)) lb_1
  have hb3 : BB ^ 98 < BB ^ 250 := (Nat.pow_lt_pow_iff_right (by decide)).mpr (by decide)
  obtain ⟨s1, s2⟩ := hs
  have i0 := h.big (i := 10) (by omega)
  refine Calls.of rfl (lk rfl) ?_
  refine wa_aload_n q_X4_sumPower_0 rfl ?_
  refine wa_getf q_X4_sumPower_1 f_RX4_12 (by assumption) rfl ?_
  refine wa_lconst q_X4_sumPower_4 (v := lZ 1) (by decide) ?_
  refine wa_callV q_X4_sumPower_5 g_X4_sumPower_5 w_X1_setLong (by assumption) rfl (av := [_]) rfl rfl (lk rfl) (Calls.mono (Z_setL h (i := 10) (by omega) (by decide) (by decide)) ?_)
  rintro _ σ1 ⟨rfl, S1, w1, t1⟩
  obtain ⟨s1, s2⟩ := sO.st ⟨s1, s2⟩ t1 h.R
  have i1 := w1.big (i := 10) (by omega)
  refine wa_aload_n q_X4_sumPower_8 rfl ?_
  refine wa_getf q_X4_sumPower_9 f_RX4_12 (by assumption) rfl ?_
  refine wa_iload q_X4_sumPower_12 rfl ?_
  refine wa_callV q_X4_sumPower_14 g_X4_sumPower_14 w_X1_shiftUp (by assumption) rfl (av := [_]) rfl rfl (lk rfl) (Calls.mono (Z_shiftUp w1 (i := 10) (by omega) (by omega) (by rw [uV_s]; show 1 * 10 ^ pl < _; omega)) ?_)
  rintro _ σ2 ⟨rfl, S2, w2, t2⟩
  have et : uV (uV U 10 1) 10 (uV U 10 1 10 * 10 ^ pl) 10 = ((10 ^ pl : Nat) : Int) := by rw [uV_s, uV_s, Int.one_mul]; exact (Int.natCast_pow 10 pl).symm
  refine wa_iconst q_X4_sumPower_17 (v := nI 0) (by decide) ?_
  refine wa_istore q_X4_sumPower_18 (by decide) ?_
  generalize hE : (10 : Nat) ^ 870 = E at hp1 hb1
  refine wa_lv (pow_loop (σ0 := σ) (S0 := S) (U0 := U) hN hb hb2 ha 10000 0 (10 ^ pl) 0 0 σ2 S2 _ rfl w2 (sO.st ⟨s1, s2⟩ t2 w1.R) et (by rw [uV_n (by decide), uV_n (by decide), u2]; rfl) (by rw [uV_n (by decide), uV_n (by decide), u3]; rfl) (by rw [hE]; omega) (fun _ => by rw [hE, Nat.pow_zero, Nat.one_mul]; exact hp1) (Nat.zero_le _) (Nat.zero_le _) (fun j hj => by rw [uV_n (by omega), uV_n (by omega)]) (t1.tr t2) (fun σ' S' U' c1 c2 c3 c4 c5 c6 c7 => ⟨rfl, S', U', c1, c2, c3, c4, c5, c6, c7⟩)) rfl
end pow1
