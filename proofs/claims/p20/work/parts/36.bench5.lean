/-! EnclosedDigits$Bench: divide -/
theorem abs_sg (v : Int) : (if 0 ≤ sgI v then sgI v else 0 - sgI v) = sgI (v.natAbs : Int) := by
  rcases sgI_c v with ⟨p, e⟩ | ⟨p, e⟩ | ⟨p, e⟩ <;> rcases sgI_c (v.natAbs : Int) with ⟨q, g⟩ | ⟨q, g⟩ | ⟨q, g⟩ <;> first | omega | (rw [e, g]; decide)
theorem uB_self {S : Nat → en_B} {a : Nat} {x : en_B} (h : S a = x) : uB S a x = S := by rw [← h, uB_i]
theorem sg_pos {n : Nat} (h : 0 < n) : sgI (n : Int) = 1 := by
  rcases sgI_c (n : Int) with ⟨q, g⟩ | ⟨q, g⟩ | ⟨q, g⟩ <;> first | omega | exact g
section bench5
variable {X : en_X} {σ : en_S} {D : List Nat} {S : Nat → en_B} {V : Nat → Int}
set_option maxHeartbeats 1000000 in
theorem V_div {b0 dv ds pt bt rs a b q r : Nat} (h : bw_V X D σ S V) (hb0 : look σ b0 = some (nE dv ds pt bt rs)) (hbl : b0 < σ.1) (m1 : dv ∈ D) (m2 : ds ∈ D) (m3 : a ∈ D) (m4 : b ∈ D) (m5 : q ∈ D) (m6 : r ∈ D) (n1 : dv ≠ ds) (n2 : a ≠ dv) (n3 : a ≠ ds) (n4 : b ≠ dv) (n5 : b ≠ ds) (n6 : q ≠ dv) (n7 : q ≠ ds) (n8 : r ≠ dv) (n9 : r ≠ ds) (n10 : q ≠ r) (hbz : V b ≠ 0) (za : (V a).natAbs < BB ^ 240) (zb : (V b).natAbs < BB ^ 240) :
    Calls X M_X0_divide [.ref b0, .ref a, .ref b, .ref q, .ref r] σ (fun res τ => res = none ∧ ∃ S' V', bw_V X D τ S' V' ∧ V' q = (((V a).natAbs / (V b).natAbs : Nat) : Int) ∧ V' r = (((V a).natAbs % (V b).natAbs : Nat) : Int) ∧ (∀ x, x ≠ dv → x ≠ ds → x ≠ q → x ≠ r → V' x = V x) ∧ bw_St D σ S τ S') := by
  have hB : BB = 1000000000 := rfl
  have za2 : (V a).natAbs < BB ^ 250 := Nat.lt_of_lt_of_le za (pw_mono (by decide))
  have zb2 : (V b).natAbs < BB ^ 250 := Nat.lt_of_lt_of_le zb (pw_mono (by decide))
  have hbp : 0 < (V b).natAbs := by omega
  refine Calls.of rfl (lk rfl) ?_
  refine wa_aload_n q_X0_divide_0 rfl ?_
  refine wa_getf q_X0_divide_1 f_RX0_12 (by assumption) rfl ?_
  refine wa_aload_n q_X0_divide_4 rfl ?_
  obtain ⟨i1, -, -, -, -, -, -⟩ := h.1.1 dv m1
  refine wa_callV q_X0_divide_5 g_X0_divide_5 w_X1_copy (by assumption) rfl (av := [_]) rfl rfl (lk rfl) (Calls.mono (V_copy h m1 m3 (fun z => n2 z.symm) za2) ?_)
  rintro _ σ1 ⟨rfl, S1, v1, s1⟩
  have b1 := bw_obj s1 h.1 hbl hb0 (by decide)
  have l1 : b0 < σ1.1 := Nat.lt_of_lt_of_le hbl s1.1
  obtain ⟨i2, -, -, -, -, -, -⟩ := v1.1.1 ds m2
  refine wa_aload_n q_X0_divide_8 rfl ?_
  refine wa_getf q_X0_divide_9 f_RX0_18 (by assumption) rfl ?_
  refine wa_aload_n q_X0_divide_12 rfl ?_
  refine wa_callV q_X0_divide_13 g_X0_divide_13 w_X1_copy (by assumption) rfl (av := [_]) rfl rfl (lk rfl) (Calls.mono (V_copy v1 m2 m4 (fun z => n5 z.symm) (by rw [uV_n n4]; exact zb2)) ?_)
  rintro _ σ2 ⟨rfl, S2, v2, s2⟩
  rw [uV_n n4] at v2
  have b2 := bw_obj s2 v1.1 l1 b1 (by decide)
  have l2 : b0 < σ2.1 := Nat.lt_of_lt_of_le l1 s2.1
  obtain ⟨i3, i3r, i33, i34, i35, i36, i37⟩ := v2.1.1 dv m1
  obtain ⟨j3, -, -, -, -, -, -⟩ := v2.1.1 a m3
  have va := (v2.2 a m3).1
  rw [uV_n n3, uV_n n2] at va
  obtain ⟨w0, w1, w2⟩ := v2.2 dv m1
  rw [uV_n n1, uV_s] at w0 w1
  refine wa_aload_n q_X0_divide_16 rfl ?_
  refine wa_getf q_X0_divide_17 f_RX0_12 (by assumption) rfl ?_
  refine wa_aload_n q_X0_divide_20 rfl ?_
  refine wa_getf q_X0_divide_21 f_RX0_34 (by assumption) rfl ?_
  refine wa_mabs q_X0_divide_24 a_RX0_38 (lk rfl) (lk rfl) ?_
  rw [va, abs_sg]
  have hne3 := ne_oa i3 i3r
  refine wn_putf q_X0_divide_27 p_RX0_34 (by assumption) (lk rfl) rfl rfl rfl (fun σ_p1 p1 f_p1 e1_p1 e2_p1 => ?_)
  have st3 := bw_R.keep (a := dv) v2.1 m1 p1 ((f_p1 _ hne3.symm).trans i3r) i33 (fun y y1 y2 => f_p1 y y1) (by omega) (by omega)
  have v3 := v2.up (v := ((V a).natAbs : Int)) st3.1 ⟨rfl, by show vl _ _ = _; rw [w1]; omega, w2⟩
  have b3 := bw_obj st3.2 v2.1 l2 b2 (by decide)
  have l3 : b0 < σ_p1.1 := Nat.lt_of_lt_of_le l2 st3.2.1
  obtain ⟨i4, -, -, -, -, -, -⟩ := v3.1.1 q m5
  refine wa_aload_n q_X0_divide_30 rfl ?_
  refine wa_callV q_X0_divide_31 g_X0_divide_31 w_X1_clear (by assumption) rfl (av := []) rfl rfl (lk rfl) (Calls.mono (V_clear v3 m5) ?_)
  rintro _ σ4 ⟨rfl, S4, v4, s4⟩
  have b4 := bw_obj s4 v3.1 l3 b3 (by decide)
  have l4 : b0 < σ4.1 := Nat.lt_of_lt_of_le l3 s4.1
  have sA : bw_St D σ S σ4 S4 := s1.tr (s2.tr (st3.2.tr s4))
  obtain ⟨V4, hV4⟩ : ∃ V4, V4 = uV (uV (uV (uV V dv (V a)) ds (V b)) dv ((V a).natAbs : Int)) q 0 := ⟨_, rfl⟩
  rw [← hV4] at v4
  have y1 : V4 dv = ((V a).natAbs : Int) := by rw [hV4, uV_n (fun z => n6 z.symm), uV_s]
  have y2 : V4 ds = V b := by rw [hV4, uV_n (fun z => n7 z.symm), uV_n (fun z => n1 z.symm), uV_s]
  have y3 : V4 q = 0 := by rw [hV4, uV_s]
  have y4 : ∀ x, x ≠ dv → x ≠ ds → x ≠ q → V4 x = V x := fun x h1 h2 h3 => by rw [hV4, uV_n h3, uV_n h1, uV_n h2, uV_n h1]
  clear hV4
  -- the end: what is over goes to r
  have hfin : ∀ (σ5 : en_S) (S5 : Nat → en_B) (V5 : Nat → Int) (lv : List (Nat × Value)), bw_V X D σ5 S5 V5 → bw_St D σ S σ5 S5 → look σ5 b0 = some (nE dv ds pt bt rs) → V5 dv = (((V a).natAbs % (V b).natAbs : Nat) : Int) → V5 q = (((V a).natAbs / (V b).natAbs : Nat) : Int) → (∀ x, x ≠ dv → x ≠ ds → x ≠ q → V5 x = V x) → WA X M_X0_divide σ 239 [(4, .ref r), (0, .ref b0)] [] σ5 (fun res τ => res = none ∧ ∃ S' V', bw_V X D τ S' V' ∧ V' q = (((V a).natAbs / (V b).natAbs : Nat) : Int) ∧ V' r = (((V a).natAbs % (V b).natAbs : Nat) : Int) ∧ (∀ x, x ≠ dv → x ≠ ds → x ≠ q → x ≠ r → V' x = V x) ∧ bw_St D σ S τ S') := by
    intro σ5 S5 V5 lv v5 s5 b5 x1 x2 x3
    obtain ⟨i5, -, -, -, -, -, -⟩ := v5.1.1 r m6
    refine wa_aload q_X0_divide_239 rfl ?_
    refine wa_aload_n q_X0_divide_241 rfl ?_
    refine wa_getf q_X0_divide_242 f_RX0_12 (by assumption) rfl ?_
    refine wa_callV q_X0_divide_245 g_X0_divide_245 w_X1_copy (by assumption) rfl (av := [_]) rfl rfl (lk rfl) (Calls.mono (V_copy v5 m6 m1 n8 (by rw [x1]; exact Nat.lt_of_le_of_lt (Nat.mod_le _ _) za2)) ?_)
    rintro _ σ6 ⟨rfl, S6, v6, s6⟩
    refine wa_vret q_X0_divide_248 rfl ?_
    refine ⟨rfl, S6, _, v6, ?_, ?_, fun x h1 h2 h3 h4 => ?_, s5.tr s6⟩
    · rw [uV_n n10]; exact x2
    · rw [uV_s]; exact x1
    · rw [uV_n h4]; exact x3 x h1 h2 h3
  obtain ⟨d1, d2, d3, d4, d5, d6, d7⟩ := v4.1.1 dv m1
  obtain ⟨e1, e2, e3, e4, e5, e6, e7⟩ := v4.1.1 ds m2
  obtain ⟨f1, f2, f3, f4, f5, f6, f7⟩ := v4.1.1 q m5
  obtain ⟨dv0, dv1, dv2⟩ := v4.2 dv m1
  obtain ⟨ds0, ds1, ds2⟩ := v4.2 ds m2
  rw [y1] at dv0 dv1
  rw [y2] at ds0 ds1
  rw [Int.natAbs_natCast] at dv1
  have zs : (S4 dv).2.2.1 ≤ 240 := isV_le (v4.2 dv m1) (by rw [y1]; exact za)
  have zs2 : (S4 ds).2.2.1 ≤ 240 := isV_le (v4.2 ds m2) (by rw [y2]; exact zb)
  have hn0 : (S4 ds).2.2.1 ≠ 0 := fun z => hbz (by have := (isV_sz (v4.2 ds m2)).mp z; rw [y2] at this; exact this)
  refine wa_aload_n q_X0_divide_34 rfl ?_
  refine wa_getf q_X0_divide_35 f_RX0_12 (by assumption) rfl ?_
  refine wa_getf q_X0_divide_38 f_RX0_47 (by assumption) rfl ?_
  refine wa_aload_n q_X0_divide_41 rfl ?_
  refine wa_getf q_X0_divide_42 f_RX0_18 (by assumption) rfl ?_
  refine wa_getf q_X0_divide_45 f_RX0_47 (by assumption) rfl ?_
  refine wa_isub q_X0_divide_48 ?_
  refine wa_iconst q_X0_divide_49 (v := nI 1) (by decide) ?_
  refine wa_iadd q_X0_divide_50 ?_
  rw [show nI (S4 dv).2.2.1 - nI (S4 ds).2.2.1 + nI 1 = iZ (((S4 dv).2.2.1 : Int) - (S4 ds).2.2.1 + 1) by rw [nI_iZ, nI_iZ, nI_iZ, iZ_sub, iZ_add]; rfl]
  refine wa_istore q_X0_divide_51 (by decide) ?_
  refine wa_aload_n q_X0_divide_53 rfl ?_
  refine wa_getf q_X0_divide_54 f_RX0_18 (by assumption) rfl ?_
  refine wa_getf q_X0_divide_57 f_RX0_47 (by assumption) rfl ?_
  refine wn_if_ne q_X0_divide_60 (by omega) (fun hc1 => ?_) (fun hc1 => ?_)
  · refine wa_aload_n q_X0_divide_73 rfl ?_
    refine wa_getf q_X0_divide_74 f_RX0_18 (by assumption) rfl ?_
    refine wa_getf q_X0_divide_77 f_RX0_47 (by assumption) rfl ?_
    refine wa_iconst q_X0_divide_80 (v := nI 1) (by decide) ?_
    refine wn_icmp_ne q_X0_divide_81 (by omega) (by omega) (fun hc2 => ?_) (fun hc2 => ?_)
    · refine wa_iload q_X0_divide_115 rfl ?_
      refine wa_if_le q_X0_divide_117 (fun hc3 => ?_) (fun hc3 => ?_)
      · rw [iZ_0, iZ_le (by omega) (by omega) (by decide) (by decide)] at hc3
        have hlt := nrm_lt dv2 ds2 (by omega)
        rw [dv1, ds1] at hlt
        refine wa_lv (hfin σ4 S4 V4 [] v4 sA b4 (by rw [y1, Nat.mod_eq_of_lt hlt]) (by rw [y3, Nat.div_eq_of_lt hlt]; rfl) y4) rfl
      · rw [iZ_0, iZ_le (by omega) (by omega) (by decide) (by decide)] at hc3
        obtain ⟨pl, hpl, hpl1⟩ : ∃ pl, (S4 dv).2.2.1 + 1 = (S4 ds).2.2.1 + pl ∧ 1 ≤ pl := ⟨(S4 dv).2.2.1 + 1 - (S4 ds).2.2.1, by omega, by omega⟩
        rw [show iZ (((S4 dv).2.2.1 : Int) - (S4 ds).2.2.1 + 1) = nI pl by rw [nI_iZ]; congr 1; omega]
        have htz : (S4 ds).2.2.2.1 ((S4 ds).2.2.1 - 1) ≠ 0 := ds2.2.resolve_left hn0
        have htl := ds2.1 ((S4 ds).2.2.1 - 1) (by omega)
        have hVn : (V b).natAbs < ((S4 ds).2.2.2.1 ((S4 ds).2.2.1 - 1) + 1) * BB ^ ((S4 ds).2.2.1 - 1) ∧ (S4 ds).2.2.2.1 ((S4 ds).2.2.1 - 1) * BB ^ ((S4 ds).2.2.1 - 1) ≤ (V b).natAbs := by
          rw [← ds1]
          have e : vl (S4 ds).2.2.2.1 (S4 ds).2.2.1 = vl (S4 ds).2.2.2.1 ((S4 ds).2.2.1 - 1) + (S4 ds).2.2.2.1 ((S4 ds).2.2.1 - 1) * BB ^ ((S4 ds).2.2.1 - 1) := by
            conv => lhs; rw [show (S4 ds).2.2.1 = (S4 ds).2.2.1 - 1 + 1 by omega]
            rfl
          have e9 := vl_lt (d := (S4 ds).2.2.2.1) (n := (S4 ds).2.2.1 - 1) (fun i hi => ds2.1 i (by omega))
          rw [e, Nat.add_mul, Nat.one_mul]
          omega
        refine wa_ldc q_X0_divide_120 k_RX0_61 ?_
        refine wa_aload_n q_X0_divide_122 rfl ?_
        refine wa_getf q_X0_divide_123 f_RX0_18 (by assumption) rfl ?_
        refine wa_aload_n q_X0_divide_126 rfl ?_
        refine wa_getf q_X0_divide_127 f_RX0_18 (by assumption) rfl ?_
        refine wa_getf q_X0_divide_130 f_RX0_47 (by assumption) rfl ?_
        refine wa_iconst q_X0_divide_133 (v := nI 1) (by decide) ?_
        refine wn_isub q_X0_divide_134 (by omega) ?_
        refine wa_callV q_X0_divide_135 g_X0_divide_135 w_X1_limbAt (by assumption) rfl (av := [_]) rfl rfl (lk rfl) (Calls.mono (C_limbAt v4.1 m2 (by omega)) ?_)
        rintro _ _ ⟨rfl, rfl⟩
        rw [if_pos (by omega)]
        refine wa_iconst q_X0_divide_138 (v := nI 1) (by decide) ?_
        refine wn_iadd q_X0_divide_139 ?_
        refine wn_idiv q_X0_divide_140 (by omega) (by omega) (by omega) ?_
        obtain ⟨kn1, kn2, kn3⟩ := kn_norm (t := (S4 ds).2.2.2.1 ((S4 ds).2.2.1 - 1)) (s := 1000000000 / ((S4 ds).2.2.2.1 ((S4 ds).2.2.1 - 1) + 1)) (by omega) htl rfl
        generalize hsc : 1000000000 / ((S4 ds).2.2.2.1 ((S4 ds).2.2.1 - 1) + 1) = sc at *
        have hscB : sc ≤ BB := Nat.le_trans (Nat.le_mul_of_pos_right sc (by omega)) kn2
        refine wa_istore q_X0_divide_141 (by decide) ?_
        refine wa_aload_n q_X0_divide_143 rfl ?_
        refine wa_getf q_X0_divide_144 f_RX0_12 (by assumption) rfl ?_
        refine wa_aload_n q_X0_divide_147 rfl ?_
        refine wa_getf q_X0_divide_148 f_RX0_12 (by assumption) rfl ?_
        refine wa_getf q_X0_divide_151 f_RX0_47 (by assumption) rfl ?_
        refine wa_iconst q_X0_divide_154 (v := nI 1) (by decide) ?_
        refine wn_iadd q_X0_divide_155 ?_
        refine wa_callV q_X0_divide_156 g_X0_divide_156 w_X1_extend (by assumption) rfl (av := [_]) rfl rfl (lk rfl) (Calls.mono (C_extend v4.1 m1 (by omega)) ?_)
        rintro _ σ5 ⟨rfl, x1, g1, g2, g3, g4, g5, g6⟩
        have b5 := bw_obj g6 v4.1 l4 b4 (by decide)
        have l5 : b0 < σ5.1 := Nat.lt_of_lt_of_le l4 g6.1
        have hx1 : x1.2.2.1 = (S4 dv).2.2.1 + 1 := by omega
        have hxv : vl x1.2.2.2.1 x1.2.2.1 = (V a).natAbs := by
          rw [hx1, vl_pad (n := (S4 dv).2.2.1) (by omega) (fun i h1 h2 => g4 i h1 (by omega)), vl_congr g3]; exact dv1
        have hxd : ∀ i, i < x1.2.2.1 → x1.2.2.2.1 i < BB := by
          intro i hi
          rcases Nat.lt_or_ge i (S4 dv).2.2.1 with z | z
          · rw [g3 i z]; exact dv2.1 i z
          · rw [g4 i z (by omega)]; exact BB_pos
        have hal : (V a).natAbs < BB ^ (S4 dv).2.2.1 := by rw [← dv1]; exact vl_lt dv2.1
        have hfit : sc * (V a).natAbs < BB ^ ((S4 dv).2.2.1 + 1) := by
          rw [Nat.pow_succ, Nat.mul_comm (BB ^ _) BB]
          exact Nat.lt_of_le_of_lt (Nat.mul_le_mul_right _ hscB) (Nat.mul_lt_mul_of_pos_left hal BB_pos)
        obtain ⟨t1, -, -, -, -, -, -⟩ := g5.1 dv m1
        refine wa_aload_n q_X0_divide_159 rfl ?_
        refine wa_getf q_X0_divide_160 f_RX0_12 (by assumption) rfl ?_
        refine wa_iload q_X0_divide_163 rfl ?_
        refine wn_i2l q_X0_divide_165 (by omega) ?_
        refine wa_callV q_X0_divide_166 g_X0_divide_166 w_X1_multiplyLimbs (by assumption) rfl (av := [_]) rfl rfl (lk rfl) (Calls.mono (C_mulL g5 m1 hscB (by rw [uB_s]; exact hxd) (by rw [uB_s, hxv, hx1]; exact hfit)) ?_)
        rintro _ σ6 ⟨rfl, ⟨xr, xn, xs, xd, xg⟩, g7, g8, g9, g10, g11, g12⟩
        rw [uB_s] at g7 g8 g10
        rw [uB_u] at g11 g12
        have g7 : xs = x1.2.2.1 := g7
        have g9 : ∀ i, i < xs → xd i < BB := g9
        have g10 : vl xd xs = sc * vl x1.2.2.2.1 x1.2.2.1 := g10
        have hxs : xs = (S4 dv).2.2.1 + 1 := by omega
        rw [hxv] at g10
        have b6 := bw_obj g12 g5 l5 b5 (by decide)
        have l6 : b0 < σ6.1 := Nat.lt_of_lt_of_le l5 g12.1
        have hds6 : uB S4 dv (xr, xn, xs, xd, xg) ds = S4 ds := uB_n (fun z => n1 z.symm)
        obtain ⟨t2, -, -, -, -, -, -⟩ := g11.1 ds m2
        have hfit2 : sc * (V b).natAbs < BB ^ (S4 ds).2.2.1 := by
          have q1 : sc * (V b).natAbs < sc * (((S4 ds).2.2.2.1 ((S4 ds).2.2.1 - 1) + 1) * BB ^ ((S4 ds).2.2.1 - 1)) := Nat.mul_lt_mul_of_pos_left hVn.1 (by omega)
          have q2 : sc * (((S4 ds).2.2.2.1 ((S4 ds).2.2.1 - 1) + 1) * BB ^ ((S4 ds).2.2.1 - 1)) ≤ BB * BB ^ ((S4 ds).2.2.1 - 1) := by rw [← Nat.mul_assoc]; exact Nat.mul_le_mul_right _ kn2
          have q3 : BB * BB ^ ((S4 ds).2.2.1 - 1) = BB ^ (S4 ds).2.2.1 := by
            conv => rhs; rw [show (S4 ds).2.2.1 = (S4 ds).2.2.1 - 1 + 1 by omega, Nat.pow_succ, Nat.mul_comm]
          omega
        refine wa_aload_n q_X0_divide_169 rfl ?_
        refine wa_getf q_X0_divide_170 f_RX0_18 (by assumption) rfl ?_
        refine wa_iload q_X0_divide_173 rfl ?_
        refine wn_i2l q_X0_divide_175 (by omega) ?_
        refine wa_callV q_X0_divide_176 g_X0_divide_176 w_X1_multiplyLimbs (by assumption) rfl (av := [_]) rfl rfl (lk rfl) (Calls.mono (C_mulL g11 m2 hscB (by rw [hds6]; exact ds2.1) (by rw [hds6, ds1]; exact hfit2)) ?_)
        rintro _ σ7 ⟨rfl, y, e10, e11, e12, e13, e14, e15⟩
        rw [hds6] at e10 e11 e13
        rw [ds1] at e13
        have b7 := bw_obj e15 g11 l6 b6 (by decide)
        have l7 : b0 < σ7.1 := Nat.lt_of_lt_of_le l6 e15.1
        have hq7 : uB (uB S4 dv (xr, xn, xs, xd, xg)) ds y q = S4 q := by rw [uB_n n7, uB_n n6]
        have hq0 : (S4 q).2.2.1 = 0 := (isV_sz (v4.2 q m5)).mpr y3
        obtain ⟨t3, -, -, -, -, -, -⟩ := e14.1 q m5
        refine wa_aload_n q_X0_divide_179 rfl ?_
        refine wa_iload q_X0_divide_180 rfl ?_
        refine wa_callV q_X0_divide_182 g_X0_divide_182 w_X1_extend (by assumption) rfl (av := [_]) rfl rfl (lk rfl) (Calls.mono (C_extend e14 m5 (by omega)) ?_)
        rintro _ σ8 ⟨rfl, ⟨zr, zn, zz, zd, zg⟩, f10, f11, f12, f13, f14, f15⟩
        rw [hq7, hq0] at f10 f13
        have f10 : zz = pl := by rw [show zz = max 0 pl from f10]; omega
        subst f10
        have f13 : ∀ i, i < zz → zd i = 0 := fun i hi => f13 i (Nat.zero_le _) hi
        have b8 := bw_obj f15 e14 l7 b7 (by decide)
        have l8 : b0 < σ8.1 := Nat.lt_of_lt_of_le l7 f15.1
        have hT0v : uB (uB S4 dv (xr, xn, xs, xd, xg)) ds y dv = (xr, xn, xs, xd, xg) := by rw [uB_n n1, uB_s]
        have hT0s : uB (uB S4 dv (xr, xn, xs, xd, xg)) ds y ds = y := uB_s
        have hself : uB (uB (uB S4 dv (xr, xn, xs, xd, xg)) ds y) dv (xr, xn, xs, xd, xg) = uB (uB S4 dv (xr, xn, xs, xd, xg)) ds y := uB_self hT0v
        have hytop : BB ≤ 2 * y.2.2.2.1 ((S4 ds).2.2.1 - 1) := by
          have e : vl y.2.2.2.1 y.2.2.1 = vl y.2.2.2.1 ((S4 ds).2.2.1 - 1) + y.2.2.2.1 ((S4 ds).2.2.1 - 1) * BB ^ ((S4 ds).2.2.1 - 1) := by
            rw [e10]
            conv => lhs; rw [show (S4 ds).2.2.1 = (S4 ds).2.2.1 - 1 + 1 by omega]
            rfl
          have e9 := vl_lt (d := y.2.2.2.1) (n := (S4 ds).2.2.1 - 1) (fun i hi => e12 i (by omega))
          have q1 : sc * ((S4 ds).2.2.2.1 ((S4 ds).2.2.1 - 1) * BB ^ ((S4 ds).2.2.1 - 1)) ≤ sc * (V b).natAbs := Nat.mul_le_mul_left _ hVn.2
          rw [← Nat.mul_assoc] at q1
          have q2 : sc * (S4 ds).2.2.2.1 ((S4 ds).2.2.1 - 1) * BB ^ ((S4 ds).2.2.1 - 1) < (y.2.2.2.1 ((S4 ds).2.2.1 - 1) + 1) * BB ^ ((S4 ds).2.2.1 - 1) := by
            rw [Nat.add_mul, Nat.one_mul]; omega
          have q3 := Nat.lt_of_mul_lt_mul_right q2
          omega
        refine wa_iload q_X0_divide_185 rfl ?_
        refine wa_iconst q_X0_divide_187 (v := nI 1) (by decide) ?_
        refine wn_isub q_X0_divide_188 (by omega) ?_
        refine wa_istore q_X0_divide_189 (by decide) ?_
        rw [show nI (zz - 1) = iZ ((zz : Int) - 1) by rw [nI_iZ]; congr 1; omega]
        refine wa_lv (C_div_loop (T0 := uB (uB S4 dv (xr, xn, xs, xd, xg)) ds y) (σ0 := σ) (S0 := S) (A := sc * (V a).natAbs) (lv4 := .ref r) (r1 := xr) (n1 := xn) (sg1 := xg) (rq := zr) (nq := zn) (sgq := zg) m1 m2 m5 n1 n6 n7 (n := (S4 ds).2.2.1) (by rw [hT0s]; exact e10) (by omega) (m := xs) (pl := zz) (by omega) (by rw [hT0s]; intro i hi; exact e12 i (by omega)) (by rw [hT0s]; exact hytop) ?_ zz σ8 xd zd (Nat.le_refl _) (by rw [hself]; exact f14) (by rw [hself]; exact sA.tr (g6.tr (g12.tr (e15.tr f15)))) g9 (fun i hi => by rw [f13 i hi]; exact BB_pos) (fun i i1 i2 => absurd i2 (by omega)) ?_ ?_ b8 l8) rfl
        · rw [hT0s]
          intro σ9 d9 q9 w9 s9 hd9 hq9 hlt9 hA9 b9 l9
          have hyv : vl y.2.2.2.1 (S4 ds).2.2.1 = sc * (V b).natAbs := by rw [← e10]; exact e13
          rw [hyv] at hlt9 hA9
          have hdv := div_of (U := sc * (V a).natAbs) (V := sc * (V b).natAbs) (q := vl q9 zz) (by rw [Nat.mul_comm (vl q9 zz)]; omega) (by rw [Nat.add_mul, Nat.one_mul, Nat.mul_comm (vl q9 zz)]; omega)
          rw [Nat.mul_div_mul_left _ _ (by omega), Nat.mul_mod_mul_left] at hdv
          have hR : vl d9 xs = sc * ((V a).natAbs % (V b).natAbs) := by
            rw [hdv.2, ← hA9, Nat.mul_comm (sc * (V b).natAbs)]; omega
          obtain ⟨t9, -, -, -, -, -, -⟩ := w9.1 q m5
          refine wa_aload_n q_X0_divide_215 rfl ?_
          refine wa_iconst q_X0_divide_216 (v := nI 1) (by decide) ?_
          refine wa_callV q_X0_divide_217 g_X0_divide_217 w_X1_trim (by assumption) rfl (av := [_]) rfl rfl (lk rfl) (Calls.mono (C_trim w9 m5 (by rw [uB_s]; intro i hi; have := hq9 i hi; show q9 i < _; omega)) ?_)
          rintro _ σ10 ⟨rfl, bq, hbq, w10, s10⟩
          rw [uB_s] at hbq
          rw [uB_u] at w10 s10
          have b10 := bw_obj s10 w9 l9 b9 (by decide)
          have l10 : b0 < σ10.1 := Nat.lt_of_lt_of_le l9 s10.1
          have hv10 : uB (uB (uB (uB S4 dv (xr, xn, xs, xd, xg)) ds y) dv (xr, xn, xs, d9, xg)) q bq dv = (xr, xn, xs, d9, xg) := by rw [uB_n (fun z => n6 z.symm), uB_s]
          obtain ⟨t10, -, -, -, -, -, -⟩ := w10.1 dv m1
          refine wa_aload_n q_X0_divide_220 rfl ?_
          refine wa_getf q_X0_divide_221 f_RX0_12 (by assumption) rfl ?_
          refine wa_iconst q_X0_divide_224 (v := nI 1) (by decide) ?_
          refine wa_callV q_X0_divide_225 g_X0_divide_225 w_X1_trim (by assumption) rfl (av := [_]) rfl rfl (lk rfl) (Calls.mono (C_trim w10 m1 (by rw [hv10]; intro i hi; have := hd9 i hi; show d9 i < _; omega)) ?_)
          rintro _ σ11 ⟨rfl, bd, hbd, w11, s11⟩
          rw [hv10] at hbd
          have b11 := bw_obj s11 w10 l10 b10 (by decide)
          have l11 : b0 < σ11.1 := Nat.lt_of_lt_of_le l10 s11.1
          have v11 : bw_V X D σ11 (uB (uB (uB (uB (uB S4 dv (xr, xn, xs, xd, xg)) ds y) dv (xr, xn, xs, d9, xg)) q bq) dv bd) (uV (uV (uV V4 ds (V b * sc)) q (((V a).natAbs / (V b).natAbs : Nat) : Int)) dv ((sc * ((V a).natAbs % (V b).natAbs) : Nat) : Int)) := by
            refine ⟨w11, fun x hx => ?_⟩
            by_cases ex1 : x = dv
            · subst ex1
              rw [uB_s, uV_s]
              refine isV_of (s := nI 1) ?_ ?_ ?_ (fun hz => ?_)
              · subst hbd
                exact ⟨fun i hi => hd9 i (by have := tp_le d9 xs; have hi : i < tp d9 xs := hi; omega), tp_top _ _⟩
              · subst hbd
                show vl d9 (tp d9 xs) = _
                rw [vl_tp, hR, Int.natAbs_natCast]
              · subst hbd; rfl
              · rw [sg_pos (by omega)]; decide
            · by_cases ex2 : x = q
              · subst ex2
                rw [uB_n ex1, uB_s, uV_n ex1, uV_s]
                refine isV_of (s := nI 1) ?_ ?_ ?_ (fun hz => ?_)
                · subst hbq
                  exact ⟨fun i hi => hq9 i (by have := tp_le q9 zz; have hi : i < tp q9 zz := hi; omega), tp_top _ _⟩
                · subst hbq
                  show vl q9 (tp q9 zz) = _
                  rw [vl_tp, hdv.1, Int.natAbs_natCast]
                · subst hbq; rfl
                · rw [sg_pos (by omega)]; decide
              · rw [uB_n ex1, uB_n ex2, uB_n ex1, uV_n ex1, uV_n ex2]
                by_cases ex3 : x = ds
                · subst ex3
                  rw [uB_s, uV_s]
                  refine ⟨?_, ?_, ?_, ?_⟩
                  · rw [e11, ds0, sgI_mul, sg_pos (by omega)]; simp
                  · rw [e13, Int.natAbs_mul, Int.natAbs_natCast, Nat.mul_comm]
                  · exact e12
                  · refine Or.inr ?_
                    rw [e10]; omega
                · rw [uB_n ex3, uB_n ex1, uV_n ex3]; exact v4.2 x hx
          obtain ⟨t11, -, -, -, -, -, -⟩ := v11.1.1 dv m1
          refine wa_aload_n q_X0_divide_228 rfl ?_
          refine wa_getf q_X0_divide_229 f_RX0_12 (by assumption) rfl ?_
          refine wa_iload q_X0_divide_232 rfl ?_
          refine wn_i2l q_X0_divide_234 (by omega) ?_
          refine wa_callV q_X0_divide_235 g_X0_divide_235 w_X1_divideSmall (by assumption) rfl (av := [_]) rfl rfl (lk rfl) (Calls.mono (V_divS v11 m1 (by omega) (Nat.lt_of_le_of_lt (Nat.mul_le_mul_right _ hscB) (by decide))) ?_)
          rintro _ σ12 ⟨rfl, S12, v12, s12⟩
          rw [uV_s] at v12
          have b12 := bw_obj s12 v11.1 l11 b11 (by decide)
          refine wa_pop2 q_X0_divide_238 rfl ?_
          refine wa_lv (hfin σ12 S12 _ [] v12 (s9.tr (s10.tr (s11.tr s12))) b12 ?_ ?_ (fun x h1 h2 h3 => ?_)) rfl
          · rw [uV_s]
            show ((sc * ((V a).natAbs % (V b).natAbs) / sc : Nat) : Int) = _
            rw [Nat.mul_div_cancel_left _ (by omega)]
          · rw [uV_n n6, uV_n n6, uV_s]
          · rw [uV_n h1, uV_n h1, uV_n h3, uV_n h2]; exact y4 x h1 h2 h3
        · rw [hT0s, ← e10, e13]
          have hsp := vl_add xd zz (S4 ds).2.2.1
          rw [show zz + (S4 ds).2.2.1 = xs by omega, g10] at hsp
          have q1 : sc * (V a).natAbs < sc * BB ^ (S4 dv).2.2.1 := Nat.mul_lt_mul_of_pos_left hal (by omega)
          have q2 : BB ^ (S4 dv).2.2.1 = BB ^ zz * BB ^ ((S4 ds).2.2.1 - 1) := by rw [← Nat.pow_add]; congr 1; omega
          have q3 : BB ^ zz * vl (fun i => xd (zz + i)) (S4 ds).2.2.1 < BB ^ zz * (sc * BB ^ ((S4 ds).2.2.1 - 1)) := by
            have : sc * BB ^ (S4 dv).2.2.1 = BB ^ zz * (sc * BB ^ ((S4 ds).2.2.1 - 1)) := by rw [q2]; grind
            omega
          have q4 := Nat.lt_of_mul_lt_mul_left q3
          rw [e10]
          refine Nat.lt_of_lt_of_le q4 (Nat.mul_le_mul_left _ (Nat.le_trans ?_ hVn.2))
          exact Nat.le_mul_of_pos_left _ (by omega)
        · rw [Nat.sub_self, g10]
          show _ + _ * (_ * 0) = _
          rw [Nat.mul_zero, Nat.mul_zero, Nat.add_zero]
    · have hVB : (V b).natAbs < BB := by
        rw [← ds1]
        have := vl_lt ds2.1
        rw [hc2, Nat.pow_one] at this
        rw [hc2]; exact this
      refine wa_aload_n q_X0_divide_84 rfl ?_
      refine wa_aload_n q_X0_divide_85 rfl ?_
      refine wa_getf q_X0_divide_86 f_RX0_12 (by assumption) rfl ?_
      refine wa_callV q_X0_divide_89 g_X0_divide_89 w_X1_copy (by assumption) rfl (av := [_]) rfl rfl (lk rfl) (Calls.mono (V_copy v4 m5 m1 n6 (by rw [y1]; exact za2)) ?_)
      rintro _ σ5 ⟨rfl, S5, v5, s5⟩
      have b5 := bw_obj s5 v4.1 l4 b4 (by decide)
      have l5 : b0 < σ5.1 := Nat.lt_of_lt_of_le l4 s5.1
      obtain ⟨q5, -, -, -, -, -, -⟩ := v5.1.1 q m5
      obtain ⟨c5, -, -, -, -, -, -⟩ := v5.1.1 ds m2
      obtain ⟨-, u1, u2⟩ := v5.2 ds m2
      rw [uV_n (fun z => n7 z.symm), y2] at u1
      refine wa_aload_n q_X0_divide_92 rfl ?_
      refine wa_getf q_X0_divide_93 f_RX0_12 (by assumption) rfl ?_
      refine wa_aload_n q_X0_divide_96 rfl ?_
      refine wa_aload_n q_X0_divide_97 rfl ?_
      refine wa_getf q_X0_divide_98 f_RX0_18 (by assumption) rfl ?_
      refine wa_iconst q_X0_divide_101 (v := nI 0) (by decide) ?_
      refine wa_callV q_X0_divide_102 g_X0_divide_102 w_X1_limbAt (by assumption) rfl (av := [_]) rfl rfl (lk rfl) (Calls.mono (C_limbAt v5.1 m2 (by decide)) ?_)
      rintro _ _ ⟨rfl, rfl⟩
      rw [vl_dig u2.1, u1, Nat.pow_zero, Nat.div_one, Nat.mod_eq_of_lt hVB]
      refine wn_i2l q_X0_divide_105 (by omega) ?_
      refine wa_callV q_X0_divide_106 g_X0_divide_106 w_X1_divideSmall (by assumption) rfl (av := [_]) rfl rfl (lk rfl) (Calls.mono (V_divS v5 m5 hbp (Nat.lt_of_le_of_lt (Nat.mul_le_mul_right _ (Nat.le_of_lt hVB)) (by decide))) ?_)
      rintro _ σ6 ⟨rfl, S6, v6, s6⟩
      rw [uV_s, y1] at v6 ⊢
      rw [Int.natAbs_natCast, lN_lZ]
      have b6 := bw_obj s6 v5.1 l5 b5 (by decide)
      have l6 := Nat.lt_of_lt_of_le l5 s6.1
      obtain ⟨c6, -, -, -, -, -, -⟩ := v6.1.1 dv m1
      have hml := Nat.mod_lt (V a).natAbs hbp
      refine wa_callV q_X0_divide_109 g_X0_divide_109 w_X1_setLong (by assumption) rfl (av := [_]) rfl rfl (lk rfl) (Calls.mono (V_setL v6 m1 (by omega) (by omega)) ?_)
      rintro _ σ7 ⟨rfl, S7, v7, s7⟩
      have b7 := bw_obj s7 v6.1 l6 b6 (by decide)
      refine wa_goto q_X0_divide_112 ?_
      refine wa_lv (hfin σ7 S7 _ [] v7 (sA.tr (s5.tr (s6.tr s7))) b7 uV_s ?_ (fun x h1 h2 h3 => ?_)) rfl
      · rw [uV_n n6, uV_s]; rfl
      · rw [uV_n h1, uV_n h3, uV_n h3]; exact y4 x h1 h2 h3
  · exact absurd hc1 hn0
end bench5
