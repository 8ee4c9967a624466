/-! EnclosedDigits$Encloser: divideBothWays, multiplyBothWays -/
/-- a quotient rounded down, and up -/
def qdn (a b : Int) : Int := if a * b < 0 then (if a.natAbs % b.natAbs = 0 then -((a.natAbs / b.natAbs : Nat) : Int) else -((a.natAbs / b.natAbs : Nat) : Int) - 1) else ((a.natAbs / b.natAbs : Nat) : Int)
def qup (a b : Int) : Int := if a * b < 0 then -((a.natAbs / b.natAbs : Nat) : Int) else (if a.natAbs % b.natAbs = 0 then ((a.natAbs / b.natAbs : Nat) : Int) else ((a.natAbs / b.natAbs : Nat) : Int) + 1)
section enc2
variable {X : en_X} {σ : en_S} {D : List Nat} {S : Nat → en_B} {V : Nat → Int}
theorem F_mulBoth {e bn se dn up ov un rs a b p : Nat} (h : bw_V X D σ S V) (he : look σ e = some (eE bn se dn up ov un rs)) (hel : e < σ.1) (m1 : dn ∈ D) (m2 : up ∈ D) (m3 : a ∈ D) (m4 : b ∈ D) (n1 : dn ≠ up) (n2 : dn ≠ a) (n3 : dn ≠ b) (hp : p ≤ 480) (za : (V a).natAbs < BB ^ 90) (zb : (V b).natAbs < BB ^ 90) :
    Calls X M_X2_multiplyBothWays [.ref e, .ref a, .ref b, .int (nI p)] σ (fun res τ => res = none ∧ ∃ S' V', bw_V X D τ S' V' ∧ V' dn = shr (V a * V b) p (-1) ∧ V' up = shr (V a * V b) p 1 ∧ (∀ x, x ≠ dn → x ≠ up → V' x = V x) ∧ bw_St D σ S τ S') := by
  have hb : BB ^ 90 ≤ BB ^ 125 := pw_mono (by decide)
  have hz : (V a * V b).natAbs < BB ^ 250 := by
    rw [Int.natAbs_mul]
    have q1 : (V a).natAbs * (V b).natAbs ≤ BB ^ 90 * BB ^ 90 := Nat.mul_le_mul (Nat.le_of_lt za) (Nat.le_of_lt zb)
    rw [← Nat.pow_add] at q1
    exact Nat.lt_of_le_of_lt q1 ((Nat.pow_lt_pow_iff_right (by decide)).mpr (by decide))
  obtain ⟨i1, -, -, -, -, -, -⟩ := h.1.1 dn m1
  refine Calls.of rfl (lk rfl) ?_
  refine wa_aload_n q_X2_multiplyBothWays_0 rfl ?_
  refine wa_getf q_X2_multiplyBothWays_1 f_RX2_28 (by assumption) rfl ?_
  refine wa_aload_n q_X2_multiplyBothWays_4 rfl ?_
  refine wa_aload_n q_X2_multiplyBothWays_5 rfl ?_
  refine wa_callV q_X2_multiplyBothWays_6 g_X2_multiplyBothWays_6 w_X1_setProduct (by assumption) rfl (av := [_, _]) rfl rfl (lk rfl) (Calls.mono (V_prod h m1 m3 m4 n2 n3 (by omega) (by omega)) ?_)
  rintro _ σ1 ⟨rfl, S1, v1, s1⟩
  have e1 := bw_obj s1 h.1 hel he (by decide)
  have l1 := Nat.lt_of_lt_of_le hel s1.1
  obtain ⟨i2, -, -, -, -, -, -⟩ := v1.1.1 up m2
  refine wa_aload_n q_X2_multiplyBothWays_9 rfl ?_
  refine wa_getf q_X2_multiplyBothWays_10 f_RX2_32 (by assumption) rfl ?_
  refine wa_aload_n q_X2_multiplyBothWays_13 rfl ?_
  refine wa_getf q_X2_multiplyBothWays_14 f_RX2_28 (by assumption) rfl ?_
  refine wa_callV q_X2_multiplyBothWays_17 g_X2_multiplyBothWays_17 w_X1_copy (by assumption) rfl (av := [_]) rfl rfl (lk rfl) (Calls.mono (V_copy v1 m2 m1 (Ne.symm n1) (by rw [uV_s]; exact hz)) ?_)
  rintro _ σ2 ⟨rfl, S2, v2, s2⟩
  rw [uV_s] at v2
  have e2 := bw_obj s2 v1.1 l1 e1 (by decide)
  have l2 := Nat.lt_of_lt_of_le l1 s2.1
  obtain ⟨i3, -, -, -, -, -, -⟩ := v2.1.1 dn m1
  refine wa_aload_n q_X2_multiplyBothWays_20 rfl ?_
  refine wa_getf q_X2_multiplyBothWays_21 f_RX2_28 (by assumption) rfl ?_
  refine wa_iload_n q_X2_multiplyBothWays_24 rfl ?_
  refine wa_iconst q_X2_multiplyBothWays_25 (v := sgI (-1)) (by decide) ?_
  refine wa_callV q_X2_multiplyBothWays_26 g_X2_multiplyBothWays_26 w_X1_shrink (by assumption) rfl (av := [_, _]) rfl rfl (lk rfl) (Calls.mono (V_shrink v2 m1 (by omega) (Or.inr rfl) (by rw [uV_n n1, uV_s]; exact hz)) ?_)
  rintro _ σ3 ⟨rfl, S3, v3, s3⟩
  rw [uV_n n1, uV_s] at v3
  have e3 := bw_obj s3 v2.1 l2 e2 (by decide)
  obtain ⟨i4, -, -, -, -, -, -⟩ := v3.1.1 up m2
  refine wa_aload_n q_X2_multiplyBothWays_29 rfl ?_
  refine wa_getf q_X2_multiplyBothWays_30 f_RX2_32 (by assumption) rfl ?_
  refine wa_iload_n q_X2_multiplyBothWays_33 rfl ?_
  refine wa_iconst q_X2_multiplyBothWays_34 (v := sgI 1) (by decide) ?_
  refine wa_callV q_X2_multiplyBothWays_35 g_X2_multiplyBothWays_35 w_X1_shrink (by assumption) rfl (av := [_, _]) rfl rfl (lk rfl) (Calls.mono (V_shrink v3 m2 (by omega) (Or.inl rfl) (by rw [uV_n (Ne.symm n1), uV_s]; exact hz)) ?_)
  rintro _ σ4 ⟨rfl, S4, v4, s4⟩
  rw [uV_n (Ne.symm n1), uV_s] at v4
  refine wa_vret q_X2_multiplyBothWays_38 rfl ?_
  refine ⟨rfl, S4, _, v4, ?_, ?_, fun x h1 h2 => ?_, s1.tr (s2.tr (s3.tr s4))⟩
  · rw [uV_n n1, uV_s]
  · rw [uV_s]
  · rw [uV_n h2, uV_n h1, uV_n h2, uV_n h1]
set_option maxHeartbeats 1000000 in
theorem F_divBoth {e bn se dn up ov un rs dv ds pt bt brs a b : Nat} (h : bw_V X D σ S V) (he : look σ e = some (eE bn se dn up ov un rs)) (hel : e < σ.1) (hb0 : look σ bn = some (nE dv ds pt bt brs)) (hbl : bn < σ.1) (m1 : dn ∈ D) (m2 : up ∈ D) (m3 : rs ∈ D) (m4 : dv ∈ D) (m5 : ds ∈ D) (m6 : a ∈ D) (m7 : b ∈ D) (hdis : [dn, up, rs, dv, ds].Nodup) (a1 : a ≠ dn) (a2 : a ≠ up) (a3 : a ≠ rs) (a4 : a ≠ dv) (a5 : a ≠ ds) (b1 : b ≠ dn) (b2 : b ≠ up) (b3 : b ≠ rs) (b4 : b ≠ dv) (b5 : b ≠ ds) (hbz : V b ≠ 0) (za : (V a).natAbs < BB ^ 240) (zb : (V b).natAbs < BB ^ 240) :
    Calls X M_X2_divideBothWays [.ref e, .ref a, .ref b] σ (fun res τ => res = none ∧ ∃ S' V', bw_V X D τ S' V' ∧ V' dn = qdn (V a) (V b) ∧ V' up = qup (V a) (V b) ∧ (∀ x, x ≠ dn → x ≠ up → x ≠ rs → x ≠ dv → x ≠ ds → V' x = V x) ∧ bw_St D σ S τ S') := by
  simp only [List.nodup_cons, List.mem_cons, not_or, List.not_mem_nil, not_false_eq_true, List.nodup_nil, and_true] at hdis
  obtain ⟨⟨d12, d13, d14, d15⟩, ⟨d23, d24, d25⟩, ⟨d34, d35⟩, d45⟩ := hdis
  obtain ⟨i1, -, -, -, -, -, -⟩ := h.1.1 a m6
  obtain ⟨i2, -, -, -, -, -, -⟩ := h.1.1 b m7
  have sa := (h.2 a m6).1
  have sb := (h.2 b m7).1
  have h240 : BB ^ 240 ≤ BB ^ 250 := pw_mono (by decide)
  refine Calls.of rfl (lk rfl) ?_
  refine wa_aload_n q_X2_divideBothWays_0 rfl ?_
  refine wa_getf q_X2_divideBothWays_1 f_RX2_169 (by assumption) rfl ?_
  refine wa_aload_n q_X2_divideBothWays_4 rfl ?_
  refine wa_getf q_X2_divideBothWays_5 f_RX2_169 (by assumption) rfl ?_
  refine wa_imul q_X2_divideBothWays_8 ?_
  rw [sa, sb, ← sgI_mul]
  refine wa_istore_n q_X2_divideBothWays_9 (by decide) ?_
  refine wa_aload_n q_X2_divideBothWays_10 rfl ?_
  refine wa_getf q_X2_divideBothWays_11 f_RX2_12 (by assumption) rfl ?_
  refine wa_aload_n q_X2_divideBothWays_14 rfl ?_
  refine wa_aload_n q_X2_divideBothWays_15 rfl ?_
  refine wa_aload_n q_X2_divideBothWays_16 rfl ?_
  refine wa_getf q_X2_divideBothWays_17 f_RX2_28 (by assumption) rfl ?_
  refine wa_aload_n q_X2_divideBothWays_20 rfl ?_
  refine wa_getf q_X2_divideBothWays_21 f_RX2_41 (by assumption) rfl ?_
  refine wa_callV q_X2_divideBothWays_24 g_X2_divideBothWays_24 w_X0_divide (by assumption) rfl (av := [_, _, _, _]) rfl rfl (lk rfl) (Calls.mono (V_div h hb0 hbl m4 m5 m6 m7 m1 m3 d45 a4 a5 b4 b5 d14 d15 d34 d35 d13 hbz za zb) ?_)
  rintro _ σ1 ⟨rfl, S1, V1, v1, q1, q2, q3, s1⟩
  have e1 := bw_obj s1 h.1 hel he (by decide)
  have l1 := Nat.lt_of_lt_of_le hel s1.1
  have hql : (V a).natAbs / (V b).natAbs ≤ (V a).natAbs := Nat.div_le_self _ _
  obtain ⟨j1, j2, j3, j4, j5, j6, j7⟩ := v1.1.1 dn m1
  obtain ⟨o0, o1, o2⟩ := v1.2 dn m1
  rw [q1] at o0 o1
  rw [Int.natAbs_natCast] at o1
  refine wa_aload_n q_X2_divideBothWays_27 rfl ?_
  refine wa_getf q_X2_divideBothWays_28 f_RX2_28 (by assumption) rfl ?_
  refine wa_dup q_X2_divideBothWays_31 rfl ?_
  refine wa_getf q_X2_divideBothWays_32 f_RX2_169 (by assumption) rfl ?_
  refine wa_iload_n q_X2_divideBothWays_35 rfl ?_
  refine wa_imul q_X2_divideBothWays_36 ?_
  rw [o0, ← sgI_mul]
  have hne := ne_oa j1 j2
  refine wn_putf q_X2_divideBothWays_37 p_RX2_169 (by assumption) (lk rfl) rfl rfl rfl (fun σ_p1 p1 f_p1 e1_p1 e2_p1 => ?_)
  have st2 := bw_R.keep (a := dn) v1.1 m1 p1 ((f_p1 _ hne.symm).trans j2) j3 (fun y y1 y2 => f_p1 y y1) (by omega) (by omega)
  -- the quotient with its sign
  obtain ⟨w, hw⟩ : ∃ w : Int, w = if V a * V b < 0 then -(((V a).natAbs / (V b).natAbs : Nat) : Int) else (((V a).natAbs / (V b).natAbs : Nat) : Int) := ⟨_, rfl⟩
  have hab0 : V a * V b = 0 → (V a).natAbs / (V b).natAbs = 0 := fun z => by
    rcases Int.mul_eq_zero.mp z with y | y
    · rw [y]; simp
    · exact absurd y hbz
  have v2 := v1.up (v := w) st2.1 ⟨by
      show sgI _ = sgI w
      rw [hw]
      rcases sgI_c (V a * V b) with ⟨y, g⟩ | ⟨y, g⟩ | ⟨y, g⟩
      · rw [if_pos y, sgI_neg, sgI_mul, g]
        rcases sgI_c ((((V a).natAbs / (V b).natAbs : Nat) : Int)) with ⟨_, e⟩ | ⟨_, e⟩ | ⟨_, e⟩ <;> (rw [e]; decide)
      · rw [hab0 y]; simp
      · rw [if_neg (by omega), sgI_mul, g, Int32.mul_one], by
      show vl _ _ = w.natAbs
      rw [o1, hw]; split <;> omega, o2⟩
  have e2 := bw_obj st2.2 v1.1 l1 e1 (by decide)
  have l2 := Nat.lt_of_lt_of_le l1 st2.2.1
  have hwa : w.natAbs = (V a).natAbs / (V b).natAbs := by rw [hw]; split <;> omega
  obtain ⟨k1, -, -, -, -, -, -⟩ := v2.1.1 up m2
  refine wa_aload_n q_X2_divideBothWays_40 rfl ?_
  refine wa_getf q_X2_divideBothWays_41 f_RX2_32 (by assumption) rfl ?_
  refine wa_aload_n q_X2_divideBothWays_44 rfl ?_
  refine wa_getf q_X2_divideBothWays_45 f_RX2_28 (by assumption) rfl ?_
  refine wa_callV q_X2_divideBothWays_48 g_X2_divideBothWays_48 w_X1_copy (by assumption) rfl (av := [_]) rfl rfl (lk rfl) (Calls.mono (V_copy v2 m2 m1 (Ne.symm d12) (by rw [uV_s, hwa]; omega)) ?_)
  rintro _ σ3 ⟨rfl, S3, v3, s3⟩
  rw [uV_s] at v3
  have e3 := bw_obj s3 v2.1 l2 e2 (by decide)
  have l3 := Nat.lt_of_lt_of_le l2 s3.1
  obtain ⟨V3, hV3⟩ : ∃ V3, V3 = uV (uV V1 dn w) up w := ⟨_, rfl⟩
  rw [← hV3] at v3
  have y1 : V3 dn = w := by rw [hV3, uV_n d12, uV_s]
  have y2 : V3 up = w := by rw [hV3, uV_s]
  have y3 : V3 rs = (((V a).natAbs % (V b).natAbs : Nat) : Int) := by rw [hV3, uV_n (Ne.symm d23), uV_n (Ne.symm d13)]; exact q2
  have y4 : ∀ x, x ≠ dn → x ≠ up → x ≠ rs → x ≠ dv → x ≠ ds → V3 x = V x := fun x h1 h2 h3 h4 h5 => by rw [hV3, uV_n h2, uV_n h1]; exact q3 x h4 h5 h1 h3
  clear hV3
  have sA : bw_St D σ S σ3 S3 := s1.tr (st2.2.tr s3)
  obtain ⟨k2, -, -, -, -, -, -⟩ := v3.1.1 rs m3
  have sr := (v3.2 rs m3).1
  rw [y3] at sr
  refine wa_aload_n q_X2_divideBothWays_51 rfl ?_
  refine wa_getf q_X2_divideBothWays_52 f_RX2_41 (by assumption) rfl ?_
  refine wa_getf q_X2_divideBothWays_55 f_RX2_169 (by assumption) rfl ?_
  rw [sr]
  refine wa_if_eq q_X2_divideBothWays_58 (fun hx => ?_) (fun hx => ?_)
  · have hr0 : (V a).natAbs % (V b).natAbs = 0 := by have := sgI_0.mp hx; omega
    refine wa_vret q_X2_divideBothWays_84 rfl ?_
    refine ⟨rfl, S3, V3, v3, ?_, ?_, y4, sA⟩
    · rw [y1, hw]; unfold qdn; rw [if_pos hr0]
    · rw [y2, hw]; unfold qup; rw [if_pos hr0]
  · have hr0 : ¬ (V a).natAbs % (V b).natAbs = 0 := fun z => hx (sgI_0.mpr (by rw [z]; rfl))
    have ha0 : V a ≠ 0 := fun z => hr0 (by rw [z]; simp)
    have hab : V a * V b ≠ 0 := fun z => by rcases Int.mul_eq_zero.mp z with y | y; exact ha0 y; exact hbz y
    obtain ⟨k3, -, -, -, -, -, -⟩ := v3.1.1 dn m1
    obtain ⟨k4, -, -, -, -, -, -⟩ := v3.1.1 up m2
    refine wa_iload_n q_X2_divideBothWays_61 rfl ?_
    refine wa_if_ge q_X2_divideBothWays_62 (fun hy => ?_) (fun hy => ?_)
    · have hpos : 0 < V a * V b := by
        rcases sgI_c (V a * V b) with ⟨y, g⟩ | ⟨y, g⟩ | ⟨y, g⟩
        · rw [g] at hy; exact absurd hy (by decide)
        · exact absurd y hab
        · exact y
      have esg : sgI (V a * V b) = sgI 1 := by rcases sgI_c (V a * V b) with ⟨y, g⟩ | ⟨y, g⟩ | ⟨y, g⟩ <;> first | omega | (rw [g]; decide)
      refine wa_aload_n q_X2_divideBothWays_72 rfl ?_
      refine wa_getf q_X2_divideBothWays_73 f_RX2_32 (by assumption) rfl ?_
      refine wa_astore q_X2_divideBothWays_76 (by decide) ?_
      refine wa_aload q_X2_divideBothWays_78 rfl ?_
      refine wa_iload_n q_X2_divideBothWays_80 rfl ?_
      rw [esg]
      refine wa_callV q_X2_divideBothWays_81 g_X2_divideBothWays_81 w_X1_grow (by assumption) rfl (av := [_]) rfl rfl (lk rfl) (Calls.mono (V_grow v3 m2 (Or.inl rfl) (by rw [y2, hwa]; omega)) ?_)
      rintro _ σ4 ⟨rfl, S4, v4, s4⟩
      refine wa_vret q_X2_divideBothWays_84 rfl ?_
      rw [if_neg (by omega)] at hw
      refine ⟨rfl, S4, _, v4, ?_, ?_, fun x h1 h2 h3 h4 h5 => ?_, sA.tr s4⟩
      · rw [uV_n d12, y1, hw]; unfold qdn; rw [if_neg (by omega)]
      · have eu : qup (V a) (V b) = (((V a).natAbs / (V b).natAbs : Nat) : Int) + 1 := by unfold qup; rw [if_neg (by omega), if_neg hr0]
        rw [uV_s, y2, hw, eu]; unfold grw
        generalize (V a).natAbs / (V b).natAbs = qq
        split
        · omega
        · rw [if_neg (by omega)]
      · rw [uV_n h2]; exact y4 x h1 h2 h3 h4 h5
    · have hneg : V a * V b < 0 := by
        rcases sgI_c (V a * V b) with ⟨y, g⟩ | ⟨y, g⟩ | ⟨y, g⟩
        · exact y
        · exact absurd y hab
        · rw [g] at hy; exact absurd (by decide) hy
      have esg : sgI (V a * V b) = sgI (-1) := by rcases sgI_c (V a * V b) with ⟨y, g⟩ | ⟨y, g⟩ | ⟨y, g⟩ <;> first | omega | (rw [g]; decide)
      refine wa_aload_n q_X2_divideBothWays_65 rfl ?_
      refine wa_getf q_X2_divideBothWays_66 f_RX2_28 (by assumption) rfl ?_
      refine wa_goto q_X2_divideBothWays_69 ?_
      refine wa_astore q_X2_divideBothWays_76 (by decide) ?_
      refine wa_aload q_X2_divideBothWays_78 rfl ?_
      refine wa_iload_n q_X2_divideBothWays_80 rfl ?_
      rw [esg]
      refine wa_callV q_X2_divideBothWays_81 g_X2_divideBothWays_81 w_X1_grow (by assumption) rfl (av := [_]) rfl rfl (lk rfl) (Calls.mono (V_grow v3 m1 (Or.inr rfl) (by rw [y1, hwa]; omega)) ?_)
      rintro _ σ4 ⟨rfl, S4, v4, s4⟩
      refine wa_vret q_X2_divideBothWays_84 rfl ?_
      rw [if_pos hneg] at hw
      refine ⟨rfl, S4, _, v4, ?_, ?_, fun x h1 h2 h3 h4 h5 => ?_, sA.tr s4⟩
      · have ed : qdn (V a) (V b) = -(((V a).natAbs / (V b).natAbs : Nat) : Int) - 1 := by unfold qdn; rw [if_pos hneg, if_neg hr0]
        rw [uV_s, y1, hw, ed]; unfold grw
        generalize (V a).natAbs / (V b).natAbs = qq
        split
        · omega
        · rw [if_pos (by omega)]
      · rw [uV_n (Ne.symm d12), y2, hw]; unfold qup; rw [if_pos hneg]
      · rw [uV_n h1]; exact y4 x h1 h2 h3 h4 h5
end enc2
