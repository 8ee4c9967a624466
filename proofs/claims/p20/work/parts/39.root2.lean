/-! EnclosedDigits$Bench: squareRoot -/
theorem nE_sg1 : nI 1 = sgI 1 := by decide
theorem shr_pos {N p : Nat} : shr (N : Int) p (-1) = ((N / 10 ^ p : Nat) : Int) := by
  unfold shr; rw [if_pos rfl]; rfl
theorem gd_le {k E r : Nat} (h : gd k E r) (hr : 1 ≤ r) : E ≤ r + 1 := by
  rcases h with ⟨h1, h2⟩ | ⟨h1, h2⟩ | ⟨M, h1, h2, h3, h4⟩
  · omega
  · omega
  · rcases h4 with ⟨-, q⟩ | ⟨-, q⟩ | ⟨j, -, -, q⟩ | ⟨q, -⟩ | ⟨q, -⟩
    · omega
    · omega
    · have : E ≤ E * 2 ^ (2 ^ (j + 1)) := Nat.le_mul_of_pos_right _ (Nat.pow_pos (by decide))
      omega
    · omega
    · omega
theorem cmp_ge {x y : Int} (h : 0 ≤ cmpI x y) : y ≤ x := by
  unfold cmpI at h
  split at h
  · exact absurd h (by decide)
  · omega
theorem cmp_lt {x y : Int} (h : ¬ 0 ≤ cmpI x y) : x < y := by
  unfold cmpI at h
  split at h
  · assumption
  · split at h <;> exact absurd (by decide) h
section root2
variable {X : en_X} {σ : en_S} {D : List Nat} {S : Nat → en_B} {V : Nat → Int}
set_option maxHeartbeats 1000000 in
theorem C_root_loop {ρ σ0 : en_S} {S0 : Nat → en_B} {V0 : Nat → Int} {b0 dv ds pt bt rs nn rt N u0 : Nat} {Q : Option Value → en_S → Prop} (m1 : dv ∈ D) (m2 : ds ∈ D) (m3 : pt ∈ D) (m4 : bt ∈ D) (m5 : rs ∈ D) (m6 : nn ∈ D) (m7 : rt ∈ D)
    (hdis : [dv, ds, pt, bt, rs, nn, rt].Nodup) (hN : N < BB ^ 150) (hN0 : V0 nn = (N : Int)) (hu0 : u0 ≤ 100) (hNu : BB ^ (2 * u0) ≤ N)
    (k : ∀ (σ1 : en_S) (S1 : Nat → en_B) (V1 : Nat → Int) (r : Nat), bw_V X D σ1 S1 V1 → bw_St D σ0 S0 σ1 S1 → look σ1 b0 = some (nE dv ds pt bt rs) → b0 < σ1.1 → V1 rt = (r : Int) → isq N r → (∀ x, x ≠ dv → x ≠ ds → x ≠ pt → x ≠ bt → x ≠ rs → x ≠ rt → V1 x = V0 x) → WA X M_X0_squareRoot ρ 169 [(2, .ref rt), (1, .ref nn), (0, .ref b0)] [] σ1 Q) :
    ∀ (t i u se l kk r E : Nat) (σ : en_S) (S : Nat → en_B) (V : Nat → Int), 120 - i = t → i ≤ 14 * l + kk → l ≤ 7 → u ≤ u0 → (0 < u → se = 2 ^ l ∧ 2 ^ l + u ≤ 101) → se ≤ 200 → isq (N / BB ^ (2 * u)) r → 1 ≤ r → gd kk E r → bw_V X D σ S V → bw_St D σ0 S0 σ S → look σ b0 = some (nE dv ds pt bt rs) → b0 < σ.1 → V rt = ((r + E : Nat) : Int) → (∀ x, x ≠ dv → x ≠ ds → x ≠ pt → x ≠ bt → x ≠ rs → x ≠ rt → V x = V0 x) →
      WA X M_X0_squareRoot ρ 37 [(5, .int (nI i)), (4, .int (nI se)), (3, .int (nI u)), (2, .ref rt), (1, .ref nn), (0, .ref b0)] [] σ Q := by
  have hB : BB = 1000000000 := rfl
  simp only [List.nodup_cons, List.mem_cons, not_or, List.not_mem_nil, not_false_eq_true, List.nodup_nil, and_true] at hdis
  obtain ⟨⟨d12, d13, d14, d15, d16, d17⟩, ⟨d23, d24, d25, d26, d27⟩, ⟨d34, d35, d36, d37⟩, ⟨d45, d46, d47⟩, ⟨d56, d57⟩, d67⟩ := hdis
  intro t
  induction t with
  | zero =>
    intro i u se l kk r E σ S V ht hi hl hu hse hse2 hisq hr1 hg v st hb hbl hrt hfr
    have := gd_k hg
    omega
  | succ t ih =>
    intro i u se l kk r E σ S V ht hi hl hu hse hse2 hisq hr1 hg v st hb hbl hrt hfr
    have hk13 := gd_k hg
    have hnn : V nn = (N : Int) := by rw [hfr nn (Ne.symm d16) (Ne.symm d26) (Ne.symm d36) (Ne.symm d46) (Ne.symm d56) d67]; exact hN0
    -- the root is not long
    have hNle : N / BB ^ (2 * u) ≤ N := Nat.div_le_self _ _
    have hrN : r ≤ N := by
      have q1 : 1 * r ≤ r * r := Nat.mul_le_mul_right _ hr1
      have := hisq.1
      omega
    have hrb : r < BB ^ 75 := by
      rcases Nat.lt_or_ge r (BB ^ 75) with q | q
      · exact q
      · have q1 : BB ^ 150 ≤ r * r := by
          have := Nat.mul_le_mul q q
          rw [← Nat.pow_add] at this
          exact this
        have := hisq.1
        omega
    have hEl := gd_le hg hr1
    have h76 : BB ^ 76 = BB ^ 75 * BB := by rw [Nat.pow_succ]
    have hR : r + E + 1 < BB ^ 76 := by
      have : BB ^ 75 * 1000000000 = BB ^ 75 * BB := rfl
      have := pw_pos 75
      omega
    have hR240 : BB ^ 76 ≤ BB ^ 240 := pw_mono (by decide)
    have hR250 : BB ^ 76 ≤ BB ^ 250 := pw_mono (by decide)
    have hN240 : BB ^ 150 ≤ BB ^ 240 := pw_mono (by decide)
    have hN250 : BB ^ 150 ≤ BB ^ 250 := pw_mono (by decide)
    have hRp : 0 < r + E := by omega
    refine wa_iload q_X0_squareRoot_37 rfl ?_
    refine wa_sipush q_X0_squareRoot_39 (v := nI 200) (by decide) ?_
    refine wn_icmp_ge q_X0_squareRoot_42 (by omega) (by omega) (fun hc => ?_) (fun hc => ?_)
    · exact absurd hc (by omega)
    · obtain ⟨i1, -, -, -, -, -, -⟩ := v.1.1 pt m3
      refine wa_aload_n q_X0_squareRoot_45 rfl ?_
      refine wa_getf q_X0_squareRoot_46 f_RX0_21 (by assumption) rfl ?_
      refine wa_aload_n q_X0_squareRoot_49 rfl ?_
      refine wa_callV q_X0_squareRoot_50 g_X0_squareRoot_50 w_X1_copy (by assumption) rfl (av := [_]) rfl rfl (lk rfl) (Calls.mono (V_copy v m3 m6 d36 (by rw [hnn, Int.natAbs_natCast]; omega)) ?_)
      rintro _ σ1 ⟨rfl, S1, v1, s1⟩
      rw [hnn] at v1
      have b1 := bw_obj s1 v.1 hbl hb (by decide)
      have l1 : b0 < σ1.1 := Nat.lt_of_lt_of_le hbl s1.1
      obtain ⟨i2, -, -, -, -, -, -⟩ := v1.1.1 pt m3
      refine wa_aload_n q_X0_squareRoot_53 rfl ?_
      refine wa_getf q_X0_squareRoot_54 f_RX0_21 (by assumption) rfl ?_
      refine wa_iconst q_X0_squareRoot_57 (v := nI 2) (by decide) ?_
      refine wa_iload_n q_X0_squareRoot_58 rfl ?_
      refine wn_imul q_X0_squareRoot_59 ?_
      refine wa_bipush q_X0_squareRoot_60 (v := nI 9) (by decide) ?_
      refine wn_imul q_X0_squareRoot_62 ?_
      refine wa_iconst q_X0_squareRoot_63 (v := sgI (-1)) (by decide) ?_
      refine wa_callV q_X0_squareRoot_64 g_X0_squareRoot_64 w_X1_shrink (by assumption) rfl (av := [_, _]) rfl rfl (lk rfl) (Calls.mono (V_shrink v1 m3 (by omega) (Or.inr rfl) (by rw [uV_s, Int.natAbs_natCast]; omega)) ?_)
      rintro _ σ2 ⟨rfl, S2, v2, s2⟩
      rw [uV_s, shr_pos, show 2 * u * 9 = 9 * (2 * u) by omega, ← pw_ten] at v2
      have b2 := bw_obj s2 v1.1 l1 b1 (by decide)
      have l2 : b0 < σ2.1 := Nat.lt_of_lt_of_le l1 s2.1
      obtain ⟨V2, hV2⟩ : ∃ V2, V2 = uV (uV V pt (N : Int)) pt ((N / BB ^ (2 * u) : Nat) : Int) := ⟨_, rfl⟩
      rw [← hV2] at v2
      have y1 : V2 pt = ((N / BB ^ (2 * u) : Nat) : Int) := by rw [hV2, uV_s]
      have y2 : V2 rt = ((r + E : Nat) : Int) := by rw [hV2, uV_n (Ne.symm d37), uV_n (Ne.symm d37)]; exact hrt
      have y3 : ∀ x, x ≠ pt → V2 x = V x := fun x h1 => by rw [hV2, uV_n h1, uV_n h1]
      clear hV2
      refine wa_aload_n q_X0_squareRoot_67 rfl ?_
      refine wa_aload_n q_X0_squareRoot_68 rfl ?_
      refine wa_getf q_X0_squareRoot_69 f_RX0_21 (by assumption) rfl ?_
      refine wa_aload_n q_X0_squareRoot_72 rfl ?_
      refine wa_aload_n q_X0_squareRoot_73 rfl ?_
      refine wa_getf q_X0_squareRoot_74 f_RX0_24 (by assumption) rfl ?_
      refine wa_aload_n q_X0_squareRoot_77 rfl ?_
      refine wa_getf q_X0_squareRoot_78 f_RX0_27 (by assumption) rfl ?_
      refine wa_callV q_X0_squareRoot_81 g_X0_squareRoot_81 w_X0_divide (by assumption) rfl (av := [_, _, _, _]) rfl rfl (lk rfl) (Calls.mono (V_div v2 b2 l2 m1 m2 m3 m7 m4 m5 d12 (Ne.symm d13) (Ne.symm d23) (Ne.symm d17) (Ne.symm d27) (Ne.symm d14) (Ne.symm d24) (Ne.symm d15) (Ne.symm d25) d45 (by rw [y2]; omega) (by rw [y1, Int.natAbs_natCast]; omega) (by rw [y2, Int.natAbs_natCast]; omega)) ?_)
      rintro _ σ3 ⟨rfl, S3, V3, v3, q1, q2, q3, s3⟩
      rw [y1, y2, Int.natAbs_natCast, Int.natAbs_natCast] at q1
      have z1 : V3 rt = ((r + E : Nat) : Int) := by rw [q3 rt (Ne.symm d17) (Ne.symm d27) (Ne.symm d47) (Ne.symm d57)]; exact y2
      have b3 := bw_obj s3 v2.1 l2 b2 (by decide)
      have l3 : b0 < σ3.1 := Nat.lt_of_lt_of_le l2 s3.1
      obtain ⟨i3, -, -, -, -, -, -⟩ := v3.1.1 bt m4
      have hql : N / BB ^ (2 * u) / (r + E) ≤ N := Nat.le_trans (Nat.div_le_self _ _) hNle
      refine wa_aload_n q_X0_squareRoot_84 rfl ?_
      refine wa_getf q_X0_squareRoot_85 f_RX0_24 (by assumption) rfl ?_
      refine wa_aload_n q_X0_squareRoot_88 rfl ?_
      refine wa_callV q_X0_squareRoot_89 g_X0_squareRoot_89 w_X1_add (by assumption) rfl (av := [_]) rfl rfl (lk rfl) (Calls.mono (V_add v3 m4 m7 d47 (by rw [q1, Int.natAbs_natCast]; omega) (by rw [z1, Int.natAbs_natCast]; omega)) ?_)
      rintro _ σ4 ⟨rfl, S4, v4, s4⟩
      rw [q1, z1] at v4
      have b4 := bw_obj s4 v3.1 l3 b3 (by decide)
      have l4 : b0 < σ4.1 := Nat.lt_of_lt_of_le l3 s4.1
      obtain ⟨i4, -, -, -, -, -, -⟩ := v4.1.1 bt m4
      refine wa_aload_n q_X0_squareRoot_92 rfl ?_
      refine wa_getf q_X0_squareRoot_93 f_RX0_24 (by assumption) rfl ?_
      refine wa_ldc2 q_X0_squareRoot_96 k_RX0_103 ?_
      refine wa_callV q_X0_squareRoot_99 g_X0_squareRoot_99 w_X1_divideSmall (by assumption) rfl (av := [_]) rfl rfl (lk rfl) (Calls.mono (V_divS v4 m4 (by decide) (by decide)) ?_)
      rintro _ σ5 ⟨rfl, S5, v5, s5⟩
      rw [uV_s] at v5
      have b5 := bw_obj s5 v4.1 l4 b4 (by decide)
      have l5 : b0 < σ5.1 := Nat.lt_of_lt_of_le l4 s5.1
      obtain ⟨V5, hV5⟩ : ∃ V5, V5 = uV (uV V3 bt (((N / BB ^ (2 * u) / (r + E) : Nat) : Int) + ((r + E : Nat) : Int))) bt ((((N / BB ^ (2 * u) / (r + E) : Nat) : Int) + ((r + E : Nat) : Int)).tdiv (2 : Nat)) := ⟨_, rfl⟩
      rw [← hV5] at v5
      have w1 : V5 bt = (((N / BB ^ (2 * u) / (r + E) + (r + E)) / 2 : Nat) : Int) := by rw [hV5, uV_s]; rfl
      have w2 : V5 rt = ((r + E : Nat) : Int) := by rw [hV5, uV_n (Ne.symm d47), uV_n (Ne.symm d47)]; exact z1
      have w3 : ∀ x, x ≠ dv → x ≠ ds → x ≠ pt → x ≠ bt → x ≠ rs → V5 x = V x := fun x h1 h2 h3 h4 h5 => by rw [hV5, uV_n h4, uV_n h4, q3 x h1 h2 h4 h5, y3 x h3]
      clear hV5
      have sA : bw_St D σ0 S0 σ5 S5 := st.tr (s1.tr (s2.tr (s3.tr (s4.tr s5))))
      obtain ⟨i5, -, -, -, -, -, -⟩ := v5.1.1 bt m4
      obtain ⟨i6, -, -, -, -, -, -⟩ := v5.1.1 rt m7
      have hge := nw_ge hisq hRp
      refine wa_pop2 q_X0_squareRoot_102 rfl ?_
      refine wa_aload_n q_X0_squareRoot_103 rfl ?_
      refine wa_getf q_X0_squareRoot_104 f_RX0_24 (by assumption) rfl ?_
      refine wa_aload_n q_X0_squareRoot_107 rfl ?_
      refine wa_callV q_X0_squareRoot_108 g_X0_squareRoot_108 w_X1_compare (by assumption) rfl (av := [_]) rfl rfl (lk rfl) (Calls.mono (V_cmp v5 m4 m7) ?_)
      rintro _ _ ⟨rfl, rfl⟩
      rw [w1, w2]
      refine wa_if_ge q_X0_squareRoot_111 (fun hx => ?_) (fun hx => ?_)
      · have hx := cmp_ge hx
        have hE0 : E = 0 := by
          rcases Nat.eq_zero_or_pos E with z | z
          · exact z
          · obtain ⟨-, E', e1, e2, -⟩ := gd_step hisq z hg
            rw [e1] at hx
            omega
        subst hE0
        refine wa_iload_n q_X0_squareRoot_125 rfl ?_
        refine wn_if_le q_X0_squareRoot_126 (by omega) (fun hu1 => ?_) (fun hu1 => ?_)
        · subst hu1
          rw [Nat.mul_zero, Nat.pow_zero, Nat.div_one] at hisq
          exact wa_lv (k _ S5 V5 r v5 sA b5 l5 w2 hisq (fun x h1 h2 h3 h4 h5 h6 => (w3 x h1 h2 h3 h4 h5).trans (hfr x h1 h2 h3 h4 h5 h6))) rfl
        · obtain ⟨hs1, hs2⟩ := hse hu1
          have hl6 : l ≤ 6 := by
            rcases Nat.lt_or_ge l 7 with z | z
            · omega
            · have : l = 7 := by omega
              subst this; omega
          have hl64 : 2 ^ l ≤ 2 ^ 6 := Nat.pow_le_pow_right (by decide) hl6
          have hlp : 0 < 2 ^ l := Nat.pow_pos (by decide)
          have h64 : (2 : Nat) ^ 6 = 64 := by decide
          have hm1 : 1 ≤ min se u := by omega
          have hm2 : min se u ≤ 64 := by omega
          have hm3 : min se u ≤ u := Nat.min_le_right _ _
          have hm4 : min se u = u ∨ min se u = se := by omega
          refine wa_iload q_X0_squareRoot_129 rfl ?_
          refine wa_iload_n q_X0_squareRoot_131 rfl ?_
          refine wn_mmin q_X0_squareRoot_132 a_RX0_109 (lk rfl) (lk rfl) (by omega) (by omega) ?_
          generalize hmm : min se u = m at *
          refine wa_istore q_X0_squareRoot_135 (by decide) ?_
          refine wa_aload_n q_X0_squareRoot_137 rfl ?_
          refine wa_iconst q_X0_squareRoot_138 (v := sgI 1) (by decide) ?_
          refine wa_callV q_X0_squareRoot_139 g_X0_squareRoot_139 w_X1_grow (by assumption) rfl (av := [_]) rfl rfl (lk rfl) (Calls.mono (V_grow v5 m7 (Or.inl rfl) (by rw [w2, Int.natAbs_natCast]; omega)) ?_)
          rintro _ σ6 ⟨rfl, S6, v6, s6⟩
          have egr : grw (V5 rt) 1 = ((r + 1 : Nat) : Int) := by
            rw [w2]; unfold grw; rw [if_neg (by omega), if_neg (by omega)]; omega
          rw [egr] at v6
          have b6 := bw_obj s6 v5.1 l5 b5 (by decide)
          have l6 : b0 < σ6.1 := Nat.lt_of_lt_of_le l5 s6.1
          obtain ⟨i7, -, -, -, -, -, -⟩ := v6.1.1 rt m7
          refine wa_aload_n q_X0_squareRoot_142 rfl ?_
          refine wa_iload q_X0_squareRoot_143 rfl ?_
          refine wa_bipush q_X0_squareRoot_145 (v := nI 9) (by decide) ?_
          refine wn_imul q_X0_squareRoot_147 ?_
          have hp10 : (10 : Nat) ^ (m * 9) = BB ^ m := by rw [pw_ten, Nat.mul_comm]
          have hbig : (r + 1) * BB ^ m < BB ^ 250 := by
            have q1 : (r + 1) * BB ^ m ≤ BB ^ 76 * BB ^ m := Nat.mul_le_mul_right _ (by omega)
            rw [← Nat.pow_add] at q1
            have q2 : BB ^ (76 + m) < BB ^ 250 := (Nat.pow_lt_pow_iff_right (by decide)).mpr (by omega)
            omega
          refine wa_callV q_X0_squareRoot_148 g_X0_squareRoot_148 w_X1_shiftUp (by assumption) rfl (av := [_]) rfl rfl (lk rfl) (Calls.mono (V_shiftUp v6 m7 (by omega) (by rw [uV_s, Int.natAbs_natCast, hp10]; exact hbig)) ?_)
          rintro _ σ7 ⟨rfl, S7, v7, s7⟩
          have b7 := bw_obj s7 v6.1 l6 b6 (by decide)
          have l7 : b0 < σ7.1 := Nat.lt_of_lt_of_le l6 s7.1
          refine wa_iload q_X0_squareRoot_151 rfl ?_
          refine wa_iload q_X0_squareRoot_153 rfl ?_
          refine wn_iadd q_X0_squareRoot_155 ?_
          refine wa_istore q_X0_squareRoot_156 (by decide) ?_
          refine wa_iload_n q_X0_squareRoot_158 rfl ?_
          refine wa_iload q_X0_squareRoot_159 rfl ?_
          refine wn_isub q_X0_squareRoot_161 (by omega) ?_
          refine wa_istore_n q_X0_squareRoot_162 (by decide) ?_
          refine wn_iinc q_X0_squareRoot_163 rfl (by decide) ?_
          refine wa_goto q_X0_squareRoot_166 ?_
          obtain ⟨r', E', f1, f2, f3, f4⟩ := lev (N := N) hm3 hm1 hm2 hisq hr1
          refine wa_lv (ih (i + 1) (u - m) (se + m) (l + 1) 0 r' E' σ7 S7 _ (by omega) (by omega) (by omega) (by omega) (fun hz => ?_) (by omega) f1 f3 f4 v7 (sA.tr (s6.tr s7)) b7 l7 ?_ (fun x h1 h2 h3 h4 h5 h6 => ?_)) rfl
          · have : 2 ^ (l + 1) = 2 * 2 ^ l := by rw [Nat.pow_succ]; omega
            omega
          · rw [uV_s, uV_s, ← f2, ← hp10]
            rw [Int.natCast_mul, Int.natCast_pow]; rfl
          · rw [uV_n h6, uV_n h6, w3 x h1 h2 h3 h4 h5]; exact hfr x h1 h2 h3 h4 h5 h6
      · have hx := cmp_lt hx
        have hEp : 0 < E := by omega
        obtain ⟨hk12, E', e1, e2, e3⟩ := gd_step hisq hEp hg
        rw [e1] at w1
        refine wa_aload_n q_X0_squareRoot_114 rfl ?_
        refine wa_aload_n q_X0_squareRoot_115 rfl ?_
        refine wa_getf q_X0_squareRoot_116 f_RX0_24 (by assumption) rfl ?_
        refine wa_callV q_X0_squareRoot_119 g_X0_squareRoot_119 w_X1_copy (by assumption) rfl (av := [_]) rfl rfl (lk rfl) (Calls.mono (V_copy v5 m7 m4 (Ne.symm d47) (by rw [w1, Int.natAbs_natCast]; omega)) ?_)
        rintro _ σ6 ⟨rfl, S6, v6, s6⟩
        rw [w1] at v6
        have b6 := bw_obj s6 v5.1 l5 b5 (by decide)
        have l6 : b0 < σ6.1 := Nat.lt_of_lt_of_le l5 s6.1
        refine wa_goto q_X0_squareRoot_122 ?_
        refine wn_iinc q_X0_squareRoot_163 rfl (by decide) ?_
        refine wa_goto q_X0_squareRoot_166 ?_
        refine wa_lv (ih (i + 1) u se l (kk + 1) r E' σ6 S6 _ (by omega) (by omega) hl hu hse hse2 hisq hr1 e3 v6 (sA.tr s6) b6 l6 uV_s (fun x h1 h2 h3 h4 h5 h6 => ?_)) rfl
        rw [uV_n h6, w3 x h1 h2 h3 h4 h5]; exact hfr x h1 h2 h3 h4 h5 h6
set_option maxHeartbeats 1000000 in
/-- the root of a number that is not below 0; 1 if its square is less -/
theorem V_root {b0 dv ds pt bt rs nn rt N : Nat} (h : bw_V X D σ S V) (hb : look σ b0 = some (nE dv ds pt bt rs)) (hbl : b0 < σ.1) (m1 : dv ∈ D) (m2 : ds ∈ D) (m3 : pt ∈ D) (m4 : bt ∈ D) (m5 : rs ∈ D) (m6 : nn ∈ D) (m7 : rt ∈ D) (hdis : [dv, ds, pt, bt, rs, nn, rt].Nodup) (hN : N < BB ^ 150) (hV : V nn = (N : Int)) :
    Calls X M_X0_squareRoot [.ref b0, .ref nn, .ref rt] σ (fun res τ => ∃ r, isq N r ∧ res = some (.int (nI (if r * r < N then 1 else 0))) ∧ ∃ S' V', bw_V X D τ S' V' ∧ V' rt = (r : Int) ∧ (∀ x, x ≠ dv → x ≠ ds → x ≠ pt → x ≠ bt → x ≠ rs → x ≠ rt → V' x = V x) ∧ bw_St D σ S τ S') := by
  have hB : BB = 1000000000 := rfl
  have hdis' := hdis
  simp only [List.nodup_cons, List.mem_cons, not_or, List.not_mem_nil, not_false_eq_true, List.nodup_nil, and_true] at hdis'
  obtain ⟨⟨d12, d13, d14, d15, d16, d17⟩, ⟨d23, d24, d25, d26, d27⟩, ⟨d34, d35, d36, d37⟩, ⟨d45, d46, d47⟩, ⟨d56, d57⟩, d67⟩ := hdis'
  obtain ⟨j1, -, -, -, -, -, -⟩ := h.1.1 rt m7
  refine Calls.of rfl (lk rfl) ?_
  refine wa_aload_n q_X0_squareRoot_0 rfl ?_
  refine wa_callV q_X0_squareRoot_1 g_X0_squareRoot_1 w_X1_clear (by assumption) rfl (av := []) rfl rfl (lk rfl) (Calls.mono (V_clear h m7) ?_)
  rintro _ σ1 ⟨rfl, S1, v1, s1⟩
  have b1 := bw_obj s1 h.1 hbl hb (by decide)
  have l1 : b0 < σ1.1 := Nat.lt_of_lt_of_le hbl s1.1
  have hn1 : uV V rt 0 nn = (N : Int) := by rw [uV_n d67]; exact hV
  obtain ⟨j2, -, -, -, -, -, -⟩ := v1.1.1 nn m6
  obtain ⟨w0, w1, w2⟩ := v1.2 nn m6
  rw [hn1] at w0 w1
  rw [Int.natAbs_natCast] at w1
  refine wa_aload_n q_X0_squareRoot_4 rfl ?_
  refine wa_getf q_X0_squareRoot_5 f_RX0_34 (by assumption) rfl ?_
  rw [w0]
  refine wa_if_gt q_X0_squareRoot_8 (fun hc => ?_) (fun hc => ?_)
  · have hNp : 0 < N := by
      rcases Nat.eq_zero_or_pos N with z | z
      · subst z; exact absurd hc (by decide)
      · exact z
    have hz0 : (S1 nn).2.2.1 ≠ 0 := fun z => by have := (nrm_zero w2).mpr z; omega
    have hz1 : (S1 nn).2.2.1 ≤ 150 := nrm_le w2 (by rw [w1]; exact hN)
    rw [w0] at j2
    refine wa_aload_n q_X0_squareRoot_13 rfl ?_
    refine wa_getf q_X0_squareRoot_14 f_RX0_47 (by assumption) rfl ?_
    refine wa_iconst q_X0_squareRoot_17 (v := nI 1) (by decide) ?_
    refine wn_isub q_X0_squareRoot_18 (by omega) ?_
    refine wa_iconst q_X0_squareRoot_19 (v := nI 2) (by decide) ?_
    refine wn_idiv q_X0_squareRoot_20 (by omega) (by omega) (by omega) ?_
    refine wa_istore_n q_X0_squareRoot_21 (by decide) ?_
    refine wa_iconst q_X0_squareRoot_22 (v := nI 1) (by decide) ?_
    refine wa_istore q_X0_squareRoot_23 (by decide) ?_
    refine wa_aload_n q_X0_squareRoot_25 rfl ?_
    refine wa_aload_n q_X0_squareRoot_26 rfl ?_
    refine wa_iload_n q_X0_squareRoot_27 rfl ?_
    have hlt : N < BB ^ (2 * (((S1 nn).2.2.1 - 1) / 2) + 2) := by
      rw [← w1]
      exact Nat.lt_of_lt_of_le (vl_lt w2.1) (pw_mono (by omega))
    have hge : BB ^ (2 * (((S1 nn).2.2.1 - 1) / 2)) ≤ N := by
      rw [← w1]
      have q1 := vl_ge (d := (S1 nn).2.2.2.1) (n := (S1 nn).2.2.1 - 1) (w2.2.resolve_left hz0)
      rw [Nat.sub_add_cancel (by omega)] at q1
      exact Nat.le_trans (pw_mono (by omega)) q1
    generalize hu : ((S1 nn).2.2.1 - 1) / 2 = u at *
    have hu74 : u ≤ 74 := by omega
    refine wa_callS q_X0_squareRoot_28 g_X0_squareRoot_28 w_X0_startAbove (av := [_, _]) rfl rfl (lk rfl) (Calls.mono (V_start v1 m6 (by omega) (by rw [hn1, Int.natAbs_natCast]; exact hlt)) ?_)
    rintro _ _ ⟨⟨s, rfl, s1', s2'⟩, rfl⟩
    rw [hn1, Int.natAbs_natCast] at s1'
    rw [lN_lZ]
    obtain ⟨j3, -, -, -, -, -, -⟩ := v1.1.1 rt m7
    refine wa_callV q_X0_squareRoot_31 g_X0_squareRoot_31 w_X1_setLong (by assumption) rfl (av := [_]) rfl rfl (lk rfl) (Calls.mono (V_setL v1 m7 (by omega) (by omega)) ?_)
    rintro _ σ2 ⟨rfl, S2, v2, s2⟩
    have b2 := bw_obj s2 v1.1 l1 b1 (by decide)
    have l2 : b0 < σ2.1 := Nat.lt_of_lt_of_le l1 s2.1
    refine wa_iconst q_X0_squareRoot_34 (v := nI 0) (by decide) ?_
    refine wa_istore q_X0_squareRoot_35 (by decide) ?_
    have hNu1 : 1 ≤ N / BB ^ (2 * u) := (Nat.le_div_iff_mul_le (pw_pos _)).mpr (by rw [Nat.one_mul]; exact hge)
    have hs1 : 1 ≤ s := by
      rcases Nat.eq_zero_or_pos s with z | z
      · subst z; have := s1'.2; omega
      · exact z
    refine wa_lv (C_root_loop (σ0 := σ) (S0 := S) (V0 := V) (u0 := u) m1 m2 m3 m4 m5 m6 m7 hdis hN hV (by omega) hge ?_ _ 0 u 1 0 0 s 1 σ2 S2 _ rfl (by omega) (by omega) (Nat.le_refl _) (fun _ => ⟨rfl, by omega⟩) (by omega) s1' hs1 (Or.inl ⟨by omega, by omega⟩) v2 (s1.tr s2) b2 l2 uV_s (fun x h1 h2 h3 h4 h5 h6 => by rw [uV_n h6, uV_n h6])) rfl
    intro σ3 S3 V3 r v3 s3 b3 l3 g1 g2 g3
    have hrb : r < BB ^ 75 := by
      rcases Nat.lt_or_ge r (BB ^ 75) with q | q
      · exact q
      · have q1 : BB ^ 150 ≤ r * r := by
          have := Nat.mul_le_mul q q
          rw [← Nat.pow_add] at this
          exact this
        have := g2.1
        omega
    have h125 : BB ^ 75 ≤ BB ^ 125 := pw_mono (by decide)
    obtain ⟨j4, -, -, -, -, -, -⟩ := v3.1.1 bt m4
    refine wa_aload_n q_X0_squareRoot_169 rfl ?_
    refine wa_getf q_X0_squareRoot_170 f_RX0_24 (by assumption) rfl ?_
    refine wa_aload_n q_X0_squareRoot_173 rfl ?_
    refine wa_aload_n q_X0_squareRoot_174 rfl ?_
    refine wa_callV q_X0_squareRoot_175 g_X0_squareRoot_175 w_X1_setProduct (by assumption) rfl (av := [_, _]) rfl rfl (lk rfl) (Calls.mono (V_prod v3 m4 m7 m7 d47 d47 (by rw [g1, Int.natAbs_natCast]; omega) (by rw [g1, Int.natAbs_natCast]; omega)) ?_)
    rintro _ σ4 ⟨rfl, S4, v4, s4⟩
    rw [g1] at v4
    have b4 := bw_obj s4 v3.1 l3 b3 (by decide)
    obtain ⟨j5, -, -, -, -, -, -⟩ := v4.1.1 bt m4
    refine wa_aload_n q_X0_squareRoot_178 rfl ?_
    refine wa_getf q_X0_squareRoot_179 f_RX0_24 (by assumption) rfl ?_
    refine wa_aload_n q_X0_squareRoot_182 rfl ?_
    refine wa_callV q_X0_squareRoot_183 g_X0_squareRoot_183 w_X1_compare (by assumption) rfl (av := [_]) rfl rfl (lk rfl) (Calls.mono (V_cmp v4 m4 m6) ?_)
    rintro _ _ ⟨rfl, rfl⟩
    have hnn4 : uV V3 bt ((r : Int) * (r : Int)) nn = (N : Int) := by rw [uV_n (Ne.symm d46), g3 nn (Ne.symm d16) (Ne.symm d26) (Ne.symm d36) (Ne.symm d46) (Ne.symm d56) d67]; exact hV
    rw [uV_s, hnn4]
    have hfr : ∀ x, x ≠ dv → x ≠ ds → x ≠ pt → x ≠ bt → x ≠ rs → x ≠ rt → uV V3 bt ((r : Int) * (r : Int)) x = V x := fun x h1 h2 h3 h4 h5 h6 => by rw [uV_n h4]; exact g3 x h1 h2 h3 h4 h5 h6
    have hrr : uV V3 bt ((r : Int) * (r : Int)) rt = (r : Int) := by rw [uV_n (Ne.symm d47)]; exact g1
    refine wa_if_ge q_X0_squareRoot_186 (fun hx => ?_) (fun hx => ?_)
    · have hx := cmp_ge hx
      refine wa_iconst q_X0_squareRoot_193 (v := nI 0) (by decide) ?_
      refine wa_zret q_X0_squareRoot_194 rfl rfl ?_
      exact ⟨r, g2, by rw [if_neg (by rw [← Int.natCast_mul] at hx; omega)], S4, _, v4, hrr, hfr, s3.tr s4⟩
    · have hx := cmp_lt hx
      refine wa_iconst q_X0_squareRoot_189 (v := nI 1) (by decide) ?_
      refine wa_goto q_X0_squareRoot_190 ?_
      refine wa_zret q_X0_squareRoot_194 rfl rfl ?_
      exact ⟨r, g2, by rw [if_pos (by rw [← Int.natCast_mul] at hx; omega)], S4, _, v4, hrr, hfr, s3.tr s4⟩
  · have hN0 : N = 0 := by
      rcases Nat.eq_zero_or_pos N with z | z
      · exact z
      · exact absurd (by rw [sg_pos z]; decide) hc
    subst hN0
    refine wa_iconst q_X0_squareRoot_11 (v := nI 0) (by decide) ?_
    refine wa_zret q_X0_squareRoot_12 rfl rfl ?_
    refine ⟨0, ⟨by decide, by decide⟩, rfl, S1, _, v1, uV_s, fun x h1 h2 h3 h4 h5 h6 => uV_n h6, s1⟩
end root2
