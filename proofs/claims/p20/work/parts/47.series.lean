/-! EnclosedDigits$Series: 10 term, 11 part, 12 plus, 13 minus, 14 slack; what it sums up, as plain functions -/
def tanGo (x : Nat) (alt : Bool) : Nat → Nat → Nat → Nat → Nat → Nat × Nat
  | 0, _, _, P, M => (P, M)
  | n + 1, i, t, P, M => if t = 0 then (P, M) else if alt = true ∧ i % 2 = 1 then tanGo x alt n (i + 1) (t / (x * x)) P (M + t / (2 * i + 1)) else tanGo x alt n (i + 1) (t / (x * x)) (P + t / (2 * i + 1)) M
def powGo (a b : Nat) (neg : Bool) : Nat → Nat → Nat → Nat → Nat → Nat × Nat
  | 0, _, _, P, M => (P, M)
  | n + 1, i, t, P, M => if t = 0 then (P, M) else if neg = true ∧ i % 2 = 1 then powGo a b neg n (i + 1) (t * a / (b * (i + 1))) P (M + t) else powGo a b neg n (i + 1) (t * a / (b * (i + 1))) (P + t) M
theorem tanGo_M {x : Nat} {alt : Bool} {n i t P M : Nat} (h : ¬ t = 0) (g : alt = true ∧ i % 2 = 1) : tanGo x alt (n + 1) i t P M = tanGo x alt n (i + 1) (t / (x * x)) P (M + t / (2 * i + 1)) := (if_neg h).trans (if_pos g)
theorem tanGo_P {x : Nat} {alt : Bool} {n i t P M : Nat} (h : ¬ t = 0) (g : ¬ (alt = true ∧ i % 2 = 1)) : tanGo x alt (n + 1) i t P M = tanGo x alt n (i + 1) (t / (x * x)) (P + t / (2 * i + 1)) M := (if_neg h).trans (if_neg g)
theorem powGo_M {a b : Nat} {neg : Bool} {n i t P M : Nat} (h : ¬ t = 0) (g : neg = true ∧ i % 2 = 1) : powGo a b neg (n + 1) i t P M = powGo a b neg n (i + 1) (t * a / (b * (i + 1))) P (M + t) := (if_neg h).trans (if_pos g)
theorem powGo_P {a b : Nat} {neg : Bool} {n i t P M : Nat} (h : ¬ t = 0) (g : ¬ (neg = true ∧ i % 2 = 1)) : powGo a b neg (n + 1) i t P M = powGo a b neg n (i + 1) (t * a / (b * (i + 1))) (P + t) M := (if_neg h).trans (if_neg g)
abbrev seE (t p pl mi sk : Nat) : va_E := .inr (4, [.ref t, .ref p, .ref pl, .ref mi, .ref sk])
def sO (σ : en_S) (z : Nat → Nat) (se : Nat) : Prop := look σ se = some (seE (z 10) (z 11) (z 12) (z 13) (z 14)) ∧ se < σ.1
theorem sO.st {X : en_X} {σ τ : en_S} {z : Nat → Nat} {D : List Nat} {S T : Nat → en_B} {se : Nat} (h : sO σ z se) (s : bw_St D σ S τ T) (w : bw_R X D σ S) : sO τ z se :=
  ⟨bw_obj s w h.2 h.1 (by decide), Nat.lt_of_lt_of_le h.2 s.1⟩
theorem lb_1 : 10 ^ 880 ≤ BB ^ 98 := by
  rw [show (880 : Nat) = 9 * 97 + 7 from rfl, Nat.pow_add, Nat.pow_mul]
  exact Nat.mul_le_mul_left (BB ^ 97) (by decide)
section ser0
variable {X : en_X} {σ : en_S} {z : Nat → Nat} {N : Nat} {S : Nat → en_B} {U : Nat → Int}
theorem Z_divN {i f t : Nat} (h : zW X z N σ S U) (hi : i < N) (hf0 : 0 < f) (hf : f * BB < 2 ^ 63) (ht : U i = (t : Int)) : Calls X M_X1_divideSmall [.ref (z i), .long (lN f)] σ (fun res τ => (∃ r, res = some (.long r)) ∧ ∃ S', zW X z N τ S' (uV U i ((t / f : Nat) : Int)) ∧ bw_St (zD z N) σ S τ S') := by
  refine Calls.mono (Z_divS h hi hf0 hf) ?_
  rintro r τ ⟨rfl, S', k1, k2⟩
  rw [ht, ← Int.ofNat_tdiv] at k1
  exact ⟨⟨_, rfl⟩, S', k1, k2⟩
theorem Z_addN {i j a b : Nat} (h : zW X z N σ S U) (hi : i < N) (hj : j < N) (hij : i ≠ j) (ha : U i = (a : Int)) (hb : U j = (b : Int)) (zi : a < BB ^ 250) (zj : b < BB ^ 250) : Calls X M_X1_add [.ref (z i), .ref (z j)] σ (fun res τ => res = none ∧ ∃ S', zW X z N τ S' (uV U i ((a + b : Nat) : Int)) ∧ bw_St (zD z N) σ S τ S') := by
  refine Calls.mono (Z_add h hi hj hij (by rw [ha]; exact zi) (by rw [hb]; exact zj)) ?_
  rintro r τ ⟨rfl, S', k1, k2⟩
  rw [ha, hb] at k1
  exact ⟨rfl, S', k1, k2⟩
theorem sgN {n : Nat} : sgI (n : Int) = 0 ↔ n = 0 := by rw [sgI_0]; omega
theorem dv_le {t m n : Nat} (h : t ≤ m) : t / n ≤ m := Nat.le_trans (Nat.div_le_self _ _) h
end ser0
section ser1
variable {X : en_X} {z : Nat → Nat} {N : Nat} {se : Nat} {ρ : en_S} {Q : Option Value → en_S → Prop}
set_option maxHeartbeats 1000000 in
theorem tan_loop {x pl : Nat} {alt : Bool} {σ0 : en_S} {S0 : Nat → en_B} {U0 : Nat → Int} (hN : 15 ≤ N) (hx : 2 ≤ x) (hx2 : x ≤ 100000) :
    ∀ (n i t P M : Nat) (σ : en_S) (S : Nat → en_B) (U : Nat → Int), n + i = 10000 → zW X z N σ S U → sO σ z se → U 10 = (t : Int) → U 12 = (P : Int) → U 13 = (M : Int) → t ≤ 10 ^ 870 → P ≤ i * 10 ^ 870 → M ≤ i * 10 ^ 870 → (∀ j, j < 10 ∨ 14 ≤ j → U j = U0 j) → bw_St (zD z N) σ0 S0 σ S →
      (∀ σ' S' U', zW X z N σ' S' U' → U' 12 = ((tanGo x alt n i t P M).1 : Int) → U' 13 = ((tanGo x alt n i t P M).2 : Int) → (tanGo x alt n i t P M).1 ≤ 10 ^ 874 → (tanGo x alt n i t P M).2 ≤ 10 ^ 874 → (∀ j, j < 10 ∨ 14 ≤ j → U' j = U0 j) → bw_St (zD z N) σ0 S0 σ' S' → Q none σ') →
      WA X M_X4_sumTangent ρ 44 [(0, .ref se), (1, .long (lN x)), (3, .int (nI (if alt then 1 else 0))), (4, .int (nI pl)), (5, .int (nI (if x ≤ 90000 then 1 else 0))), (6, .int (nI i))] [] σ Q := by
  have h74 : 10000 * 10 ^ 870 = 10 ^ 874 := by rw [show (874 : Nat) = 870 + 4 from rfl, Nat.pow_add, Nat.mul_comm]
  have hb1 : 10 ^ 870 ≤ BB ^ 98 := Nat.le_trans (Nat.pow_le_pow_right (by decide) (by decide)) lb_1
  have hb2 : 10 ^ 874 ≤ BB ^ 98 := Nat.le_trans (Nat.pow_le_pow_right (by decide) (by decide)) lb_1
  have hb3 : BB ^ 98 < BB ^ 250 := (Nat.pow_lt_pow_iff_right (by decide)).mpr (by decide)
  have hB : BB = 1000000000 := rfl
  generalize hE : (10 : Nat) ^ 870 = E at *
  generalize hF : (10 : Nat) ^ 874 = F at *
  clear hE hF
  intro n
  induction n with
  | zero =>
    intro i t P M σ S U hni h hs u1 u2 u3 ht hP hM hfr hst k
    have e : i = 10000 := by omega
    subst e
    refine wa_iload q_X4_sumTangent_44 rfl ?_
    refine wa_sipush q_X4_sumTangent_46 (v := nI 10000) (by decide) ?_
    refine wn_icmp_ge q_X4_sumTangent_49 (by omega) (by omega) (fun hc => ?_) (fun hc => ?_)
    · refine wa_vret q_X4_sumTangent_164 rfl ?_
      exact k σ S U h u2 u3 (by show P ≤ F; omega) (by show M ≤ F; omega) hfr hst
    · omega
  | succ n ih =>
    intro i t P M σ S U hni h hs u1 u2 u3 ht hP hM hfr hst k
    have hiE : i * E ≤ F := by rw [← h74]; exact Nat.mul_le_mul_right E (by omega)
    obtain ⟨s1, s2⟩ := hs
    have i0 := h.big (i := 10) (by omega)
    refine wa_iload q_X4_sumTangent_44 rfl ?_
    refine wa_sipush q_X4_sumTangent_46 (v := nI 10000) (by decide) ?_
    refine wn_icmp_ge q_X4_sumTangent_49 (by omega) (by omega) (fun hc => ?_) (fun hc => ?_)
    · omega
    refine wa_aload_n q_X4_sumTangent_52 rfl ?_
    refine wa_getf q_X4_sumTangent_53 f_RX4_12 (by assumption) rfl ?_
    refine wa_getf q_X4_sumTangent_56 f_RX4_94 (by assumption) rfl ?_
    rw [u1]
    refine wa_if_eq q_X4_sumTangent_59 (fun h0 => ?_) (fun h0 => ?_)
    · have t0 : t = 0 := sgN.mp h0
      have e : tanGo x alt (n + 1) i t P M = (P, M) := if_pos t0
      rw [e] at k
      refine wa_vret q_X4_sumTangent_164 rfl ?_
      exact k σ S U h u2 u3 (by show P ≤ F; omega) (by show M ≤ F; omega) hfr hst
    · have t0 : ¬ t = 0 := fun q => h0 (sgN.mpr q)
      have i1 := h.big (i := 11) (by omega)
      refine wa_aload_n q_X4_sumTangent_62 rfl ?_
      refine wa_getf q_X4_sumTangent_63 f_RX4_18 (by assumption) rfl ?_
      refine wa_aload_n q_X4_sumTangent_66 rfl ?_
      refine wa_getf q_X4_sumTangent_67 f_RX4_12 (by assumption) rfl ?_
      refine wa_callV q_X4_sumTangent_70 g_X4_sumTangent_70 w_X1_copy (by assumption) rfl (av := [_]) rfl rfl (lk rfl) (Calls.mono (Z_copy h (i := 11) (j := 10) (by omega) (by omega) (by omega) (by rw [u1, Int.natAbs_natCast]; omega)) ?_)
      rintro _ σ1 ⟨rfl, S1, w1, t1⟩
      obtain ⟨s1, s2⟩ := sO.st ⟨s1, s2⟩ t1 h.R
      have i2 := w1.big (i := 11) (by omega)
      refine wa_aload_n q_X4_sumTangent_73 rfl ?_
      refine wa_getf q_X4_sumTangent_74 f_RX4_18 (by assumption) rfl ?_
      refine wa_ldc2 q_X4_sumTangent_77 (v := lN 2) k_RX4_97 ?_
      refine wa_iload q_X4_sumTangent_80 rfl ?_
      refine wn_i2l q_X4_sumTangent_82 (by omega) ?_
      refine wn_lmul q_X4_sumTangent_83 ?_
      refine wa_lconst q_X4_sumTangent_84 (v := lN 1) (by decide) ?_
      refine wn_ladd q_X4_sumTangent_85 ?_
      refine wa_callV q_X4_sumTangent_86 g_X4_sumTangent_86 w_X1_divideSmall (by assumption) rfl (av := [_]) rfl rfl (lk rfl) (Calls.mono (Z_divN w1 (i := 11) (f := 2 * i + 1) (t := t) (by omega) (by omega) (by rw [hB]; omega) (by rw [uV_s]; exact u1)) ?_)
      rintro _ σ2 ⟨⟨r2, rfl⟩, S2, w2, t2⟩
      obtain ⟨s1, s2⟩ := sO.st ⟨s1, s2⟩ t2 w1.R
      obtain ⟨U2, hU2⟩ : ∃ U2, U2 = uV (uV U 11 (U 10)) 11 ((t / (2 * i + 1) : Nat) : Int) := ⟨_, rfl⟩
      rw [← hU2] at w2
      have y1 : U2 11 = ((t / (2 * i + 1) : Nat) : Int) := by rw [hU2, uV_s]
      have y2 : ∀ j, j ≠ 11 → U2 j = U j := fun j hj => by rw [hU2, uV_n hj, uV_n hj]
      clear hU2
      refine wa_pop2 q_X4_sumTangent_89 rfl ?_
      -- behind the addition
      have nxt : ∀ (σ3 : en_S) (S3 : Nat → en_B) (U3 : Nat → Int) (P3 M3 q7 : Nat), zW X z N σ3 S3 U3 → sO σ3 z se → U3 10 = (t : Int) → U3 12 = (P3 : Int) → U3 13 = (M3 : Int) → P3 ≤ (i + 1) * E → M3 ≤ (i + 1) * E → (∀ j, j < 10 ∨ 14 ≤ j → U3 j = U0 j) → bw_St (zD z N) σ0 S0 σ3 S3 → tanGo x alt (n + 1) i t P M = tanGo x alt n (i + 1) (t / (x * x)) P3 M3 →
          WA X M_X4_sumTangent ρ 124 [(7, .ref q7), (0, .ref se), (1, .long (lN x)), (3, .int (nI (if alt then 1 else 0))), (4, .int (nI pl)), (5, .int (nI (if x ≤ 90000 then 1 else 0))), (6, .int (nI i))] [] σ3 Q := by
        intro σ3 S3 U3 P3 M3 q7 w3 hs3 v1 v2 v3 b2 b3 hfr3 hst3 eg
        rw [eg] at k
        obtain ⟨s1, s2⟩ := hs3
        have fin : ∀ σ4 S4, zW X z N σ4 S4 (uV U3 10 ((t / (x * x) : Nat) : Int)) → sO σ4 z se → bw_St (zD z N) σ3 S3 σ4 S4 → WA X M_X4_sumTangent ρ 158 [(7, .ref q7), (0, .ref se), (1, .long (lN x)), (3, .int (nI (if alt then 1 else 0))), (4, .int (nI pl)), (5, .int (nI (if x ≤ 90000 then 1 else 0))), (6, .int (nI i))] [] σ4 Q := by
          intro σ4 S4 w4 hs4 t4
          refine wn_iinc q_X4_sumTangent_158 rfl (by decide) ?_
          refine wa_goto q_X4_sumTangent_161 ?_
          refine wa_lv (ih (i + 1) (t / (x * x)) P3 M3 σ4 S4 _ (by omega) w4 hs4 uV_s (by rw [uV_n (by decide)]; exact v2) (by rw [uV_n (by decide)]; exact v3) (dv_le ht) b2 b3 (fun j hj => by rw [uV_n (by omega)]; exact hfr3 j hj) (hst3.tr t4) k) rfl
        have i3 := w3.big (i := 10) (by omega)
        refine wa_aload_n q_X4_sumTangent_124 rfl ?_
        refine wa_getf q_X4_sumTangent_125 f_RX4_12 (by assumption) rfl ?_
        refine wa_iload q_X4_sumTangent_128 rfl ?_
        by_cases hsm : x ≤ 90000
        · rw [if_pos hsm]
          rw [if_pos hsm] at fin
          have hxx : x * x ≤ 90000 * 90000 := Nat.mul_le_mul hsm hsm
          refine wn_if_eq q_X4_sumTangent_130 (by decide) (fun h1 => absurd h1 (by decide)) (fun _ => ?_)
          refine wa_lload_n q_X4_sumTangent_133 rfl ?_
          refine wa_lload_n q_X4_sumTangent_134 rfl ?_
          refine wn_lmul q_X4_sumTangent_135 ?_
          refine wa_goto q_X4_sumTangent_136 ?_
          refine wa_callV q_X4_sumTangent_140 g_X4_sumTangent_140 w_X1_divideSmall (by assumption) rfl (av := [_]) rfl rfl (lk rfl) (Calls.mono (Z_divN w3 (i := 10) (f := x * x) (t := t) (by omega) (Nat.mul_pos (by omega) (by omega)) (by rw [hB]; omega) v1) ?_)
          rintro _ σ4 ⟨⟨r4, rfl⟩, S4, w4, t4⟩
          have hs4 := sO.st ⟨s1, s2⟩ t4 w3.R
          refine wa_pop2 q_X4_sumTangent_143 rfl ?_
          refine wa_iload q_X4_sumTangent_144 rfl ?_
          refine wn_if_ne q_X4_sumTangent_146 (by decide) (fun _ => ?_) (fun h1 => absurd h1 (by decide))
          exact wa_lv (fin σ4 S4 w4 hs4 t4) rfl
        · rw [if_neg hsm]
          rw [if_neg hsm] at fin
          refine wn_if_eq q_X4_sumTangent_130 (by decide) (fun _ => ?_) (fun h1 => absurd h1 (by decide))
          refine wa_lload_n q_X4_sumTangent_139 rfl ?_
          refine wa_callV q_X4_sumTangent_140 g_X4_sumTangent_140 w_X1_divideSmall (by assumption) rfl (av := [_]) rfl rfl (lk rfl) (Calls.mono (Z_divN w3 (i := 10) (f := x) (t := t) (by omega) (by omega) (by rw [hB]; omega) v1) ?_)
          rintro _ σ4 ⟨⟨r4, rfl⟩, S4, w4, t4⟩
          obtain ⟨s1, s2⟩ := sO.st ⟨s1, s2⟩ t4 w3.R
          have i4 := w4.big (i := 10) (by omega)
          refine wa_pop2 q_X4_sumTangent_143 rfl ?_
          refine wa_iload q_X4_sumTangent_144 rfl ?_
          refine wn_if_ne q_X4_sumTangent_146 (by decide) (fun h1 => absurd h1 (by decide)) (fun _ => ?_)
          refine wa_aload_n q_X4_sumTangent_149 rfl ?_
          refine wa_getf q_X4_sumTangent_150 f_RX4_12 (by assumption) rfl ?_
          refine wa_lload_n q_X4_sumTangent_153 rfl ?_
          refine wa_callV q_X4_sumTangent_154 g_X4_sumTangent_154 w_X1_divideSmall (by assumption) rfl (av := [_]) rfl rfl (lk rfl) (Calls.mono (Z_divN w4 (i := 10) (f := x) (t := t / x) (by omega) (by omega) (by rw [hB]; omega) uV_s) ?_)
          rintro _ σ5 ⟨⟨r5, rfl⟩, S5, w5, t5⟩
          have hs5 := sO.st ⟨s1, s2⟩ t5 w4.R
          rw [Nat.div_div_eq_div_mul] at w5
          refine wa_pop2 q_X4_sumTangent_157 rfl ?_
          exact wa_lv (fin σ5 S5 (w5.eq (fun j _ => by
            by_cases e : j = 10
            · subst e; rw [uV_s, uV_s]
            · rw [uV_n e, uV_n e, uV_n e])) hs5 (t4.tr t5)) rfl
      have hmE : (i + 1) * E = i * E + E := by rw [Nat.add_mul, Nat.one_mul]
      have hq : t / (2 * i + 1) ≤ E := dv_le ht
      have sM : (alt = true ∧ i % 2 = 1) → WA X M_X4_sumTangent ρ 102 [(0, .ref se), (1, .long (lN x)), (3, .int (nI (if alt then 1 else 0))), (4, .int (nI pl)), (5, .int (nI (if x ≤ 90000 then 1 else 0))), (6, .int (nI i))] [] σ2 Q := by
        intro ha
        have i3 := w2.big (i := 13) (by omega)
        refine wa_aload_n q_X4_sumTangent_102 rfl ?_
        refine wa_getf q_X4_sumTangent_103 f_RX4_24 (by assumption) rfl ?_
        refine wa_goto q_X4_sumTangent_106 ?_
        refine wa_astore q_X4_sumTangent_113 (by decide) ?_
        refine wa_aload q_X4_sumTangent_115 rfl ?_
        refine wa_aload_n q_X4_sumTangent_117 rfl ?_
        refine wa_getf q_X4_sumTangent_118 f_RX4_18 (by assumption) rfl ?_
        refine wa_callV q_X4_sumTangent_121 g_X4_sumTangent_121 w_X1_add (by assumption) rfl (av := [_]) rfl rfl (lk rfl) (Calls.mono (Z_addN w2 (i := 13) (j := 11) (a := M) (b := t / (2 * i + 1)) (by omega) (by omega) (by decide) (by rw [y2 13 (by decide)]; exact u3) y1 (by omega) (by omega)) ?_)
        rintro _ σ3 ⟨rfl, S3, w3, t3⟩
        exact wa_lv (nxt σ3 S3 _ P (M + t / (2 * i + 1)) (z 13) w3 (sO.st ⟨s1, s2⟩ t3 w2.R) (by rw [uV_n (by decide), y2 _ (by decide)]; exact u1) (by rw [uV_n (by decide), y2 _ (by decide)]; exact u2) uV_s (by omega) (by omega) (fun j hj => by rw [uV_n (by omega), y2 j (by omega)]; exact hfr j hj) (hst.tr (t1.tr (t2.tr t3))) (tanGo_M t0 ha)) rfl
      have sP : ¬ (alt = true ∧ i % 2 = 1) → WA X M_X4_sumTangent ρ 109 [(0, .ref se), (1, .long (lN x)), (3, .int (nI (if alt then 1 else 0))), (4, .int (nI pl)), (5, .int (nI (if x ≤ 90000 then 1 else 0))), (6, .int (nI i))] [] σ2 Q := by
        intro ha
        have i3 := w2.big (i := 12) (by omega)
        refine wa_aload_n q_X4_sumTangent_109 rfl ?_
        refine wa_getf q_X4_sumTangent_110 f_RX4_21 (by assumption) rfl ?_
        refine wa_astore q_X4_sumTangent_113 (by decide) ?_
        refine wa_aload q_X4_sumTangent_115 rfl ?_
        refine wa_aload_n q_X4_sumTangent_117 rfl ?_
        refine wa_getf q_X4_sumTangent_118 f_RX4_18 (by assumption) rfl ?_
        refine wa_callV q_X4_sumTangent_121 g_X4_sumTangent_121 w_X1_add (by assumption) rfl (av := [_]) rfl rfl (lk rfl) (Calls.mono (Z_addN w2 (i := 12) (j := 11) (a := P) (b := t / (2 * i + 1)) (by omega) (by omega) (by decide) (by rw [y2 12 (by decide)]; exact u2) y1 (by omega) (by omega)) ?_)
        rintro _ σ3 ⟨rfl, S3, w3, t3⟩
        exact wa_lv (nxt σ3 S3 _ (P + t / (2 * i + 1)) M (z 12) w3 (sO.st ⟨s1, s2⟩ t3 w2.R) (by rw [uV_n (by decide), y2 _ (by decide)]; exact u1) uV_s (by rw [uV_n (by decide), y2 _ (by decide)]; exact u3) (by omega) (by omega) (fun j hj => by rw [uV_n (by omega), y2 j (by omega)]; exact hfr j hj) (hst.tr (t1.tr (t2.tr t3))) (tanGo_P t0 ha)) rfl
      refine wa_iload_n q_X4_sumTangent_90 rfl ?_
      cases alt
      · refine wn_if_eq q_X4_sumTangent_91 (by decide) (fun _ => ?_) (fun h1 => absurd h1 (by decide))
        exact wa_lv (sP (fun q => by cases q.1)) rfl
      · refine wn_if_eq q_X4_sumTangent_91 (by decide) (fun h1 => absurd h1 (by decide)) (fun _ => ?_)
        refine wa_iload q_X4_sumTangent_94 rfl ?_
        refine wa_iconst q_X4_sumTangent_96 (v := nI 2) (by decide) ?_
        refine wn_irem q_X4_sumTangent_97 (by omega) (by omega) (by omega) ?_
        refine wa_iconst q_X4_sumTangent_98 (v := nI 1) (by decide) ?_
        refine wn_icmp_ne q_X4_sumTangent_99 (by omega) (by decide) (fun h1 => ?_) (fun h1 => ?_)
        · exact wa_lv (sP (fun q => h1 q.2)) rfl
        · exact wa_lv (sM ⟨rfl, h1⟩) rfl
/-- the two sides of the arctangent's, or artanh's, sum at pl places -/
def tanS (x : Nat) (alt : Bool) (pl : Nat) : Nat × Nat := tanGo x alt 10000 0 (10 ^ pl / x) 0 0
theorem G_tan {σ : en_S} {S : Nat → en_B} {U : Nat → Int} {x pl : Nat} {alt : Bool} (h : zW X z N σ S U) (hs : sO σ z se) (hN : 15 ≤ N) (hx : 2 ≤ x) (hx2 : x ≤ 100000) (hpl : pl ≤ 870) (u2 : U 12 = 0) (u3 : U 13 = 0) :
    Calls X M_X4_sumTangent [.ref se, .long (lN x), .int (nI (if alt then 1 else 0)), .int (nI pl)] σ (fun res τ => res = none ∧ ∃ S' U', zW X z N τ S' U' ∧ U' 12 = ((tanS x alt pl).1 : Int) ∧ U' 13 = ((tanS x alt pl).2 : Int) ∧ (tanS x alt pl).1 ≤ 10 ^ 874 ∧ (tanS x alt pl).2 ≤ 10 ^ 874 ∧ (∀ j, j < 10 ∨ 14 ≤ j → U' j = U j) ∧ bw_St (zD z N) σ S τ S') := by
  have hB : BB = 1000000000 := rfl
  have hp1 : 10 ^ pl ≤ 10 ^ 870 := Nat.pow_le_pow_right (by decide) hpl
  have hb1 : 10 ^ 870 ≤ BB ^ 98 := Nat.le_trans (Nat.pow_le_pow_right (by decide) (by decide)) lb_1
  have hb3 : BB ^ 98 < BB ^ 250 := (Nat.pow_lt_pow_iff_right (by decide)).mpr (by decide)
  obtain ⟨s1, s2⟩ := hs
  have fl : WA X M_X4_sumTangent σ 15 [(5, .int (nI (if x ≤ 90000 then 1 else 0))), (0, .ref se), (1, .long (lN x)), (3, .int (nI (if alt then 1 else 0))), (4, .int (nI pl))] [] σ (fun res τ => res = none ∧ ∃ S' U', zW X z N τ S' U' ∧ U' 12 = ((tanS x alt pl).1 : Int) ∧ U' 13 = ((tanS x alt pl).2 : Int) ∧ (tanS x alt pl).1 ≤ 10 ^ 874 ∧ (tanS x alt pl).2 ≤ 10 ^ 874 ∧ (∀ j, j < 10 ∨ 14 ≤ j → U' j = U j) ∧ bw_St (zD z N) σ S τ S') := by
    have i0 := h.big (i := 10) (by omega)
    refine wa_aload_n q_X4_sumTangent_15 rfl ?_
    refine wa_getf q_X4_sumTangent_16 f_RX4_12 (by assumption) rfl ?_
    refine wa_lconst q_X4_sumTangent_19 (v := lZ 1) (by decide) ?_
    refine wa_callV q_X4_sumTangent_20 g_X4_sumTangent_20 w_X1_setLong (by assumption) rfl (av := [_]) rfl rfl (lk rfl) (Calls.mono (Z_setL h (i := 10) (by omega) (by decide) (by decide)) ?_)
    rintro _ σ1 ⟨rfl, S1, w1, t1⟩
    obtain ⟨s1, s2⟩ := sO.st ⟨s1, s2⟩ t1 h.R
    have i1 := w1.big (i := 10) (by omega)
    refine wa_aload_n q_X4_sumTangent_23 rfl ?_
    refine wa_getf q_X4_sumTangent_24 f_RX4_12 (by assumption) rfl ?_
    refine wa_iload q_X4_sumTangent_27 rfl ?_
    refine wa_callV q_X4_sumTangent_29 g_X4_sumTangent_29 w_X1_shiftUp (by assumption) rfl (av := [_]) rfl rfl (lk rfl) (Calls.mono (Z_shiftUp w1 (i := 10) (by omega) (by omega) (by rw [uV_s]; show 1 * 10 ^ pl < _; omega)) ?_)
    rintro _ σ2 ⟨rfl, S2, w2, t2⟩
    obtain ⟨s1, s2⟩ := sO.st ⟨s1, s2⟩ t2 w1.R
    have i2 := w2.big (i := 10) (by omega)
    have et : uV (uV U 10 1) 10 (uV U 10 1 10 * 10 ^ pl) 10 = ((10 ^ pl : Nat) : Int) := by rw [uV_s, uV_s, Int.one_mul]; exact (Int.natCast_pow 10 pl).symm
    refine wa_aload_n q_X4_sumTangent_32 rfl ?_
    refine wa_getf q_X4_sumTangent_33 f_RX4_12 (by assumption) rfl ?_
    refine wa_lload_n q_X4_sumTangent_36 rfl ?_
    refine wa_callV q_X4_sumTangent_37 g_X4_sumTangent_37 w_X1_divideSmall (by assumption) rfl (av := [_]) rfl rfl (lk rfl) (Calls.mono (Z_divN w2 (i := 10) (f := x) (t := 10 ^ pl) (by omega) (by omega) (by rw [hB]; omega) et) ?_)
    rintro _ σ3 ⟨⟨r3, rfl⟩, S3, w3, t3⟩
    refine wa_pop2 q_X4_sumTangent_40 rfl ?_
    refine wa_iconst q_X4_sumTangent_41 (v := nI 0) (by decide) ?_
    refine wa_istore q_X4_sumTangent_42 (by decide) ?_
    refine wa_lv (tan_loop (σ0 := σ) (S0 := S) (U0 := U) hN hx hx2 10000 0 (10 ^ pl / x) 0 0 σ3 S3 _ rfl w3 (sO.st ⟨s1, s2⟩ t3 w2.R) uV_s (by rw [uV_n (by decide), uV_n (by decide), uV_n (by decide), u2]; rfl) (by rw [uV_n (by decide), uV_n (by decide), uV_n (by decide), u3]; rfl) (dv_le hp1) (Nat.zero_le _) (Nat.zero_le _) (fun j hj => by rw [uV_n (by omega), uV_n (by omega), uV_n (by omega)]) (t1.tr (t2.tr t3)) (fun σ' S' U' c1 c2 c3 c4 c5 c6 c7 => ⟨rfl, S', U', c1, c2, c3, c4, c5, c6, c7⟩)) rfl
  refine Calls.of rfl (lk rfl) ?_
  refine wa_lload_n q_X4_sumTangent_0 rfl ?_
  refine wa_ldc2 q_X4_sumTangent_1 (v := lN 90000) k_RX4_84 ?_
  refine wn_lcmp_gt q_X4_sumTangent_4 q_X4_sumTangent_5 (by omega) (by omega) (fun hc => ?_) (fun hc => ?_)
  · rw [if_neg (by omega)] at fl
    refine wa_iconst q_X4_sumTangent_12 (v := nI 0) (by decide) ?_
    refine wa_istore q_X4_sumTangent_13 (by decide) ?_
    exact wa_lv fl rfl
  · rw [if_pos (by omega)] at fl
    refine wa_iconst q_X4_sumTangent_8 (v := nI 1) (by decide) ?_
    refine wa_goto q_X4_sumTangent_9 ?_
    refine wa_istore q_X4_sumTangent_13 (by decide) ?_
    exact wa_lv fl rfl
end ser1
