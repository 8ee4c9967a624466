/-! The reference: digits -/
theorem z800 {x : Int} (h : x.natAbs < 10 ^ 800) : x.natAbs < BB ^ 290 := Nat.lt_of_lt_of_le h (Nat.le_trans p800 (pw_mono (by decide)))
section ref33
variable {X : en_X} {M : Nat → Nat} {cnt : Nat} {kd fs sn : Nat → Nat} {A B : Nat → Int} {K : Nat → Int32} {N1 N2 Pa Fo : Nat → Int64} {cd o3 o4 : Int32} {v n : Nat}
set_option maxHeartbeats 1000000 in
theorem dgr_loop {ρ σ0 : en_S} {V0 : Nat → Int} {Q : Option Value → en_S → Prop} (hFF : FFok) (hFL : FLok) (hcnt : cnt ≤ 60) (hv : v < cnt) (hn : n ≤ 400) (hok : ∀ i, i < cnt → vOk kd fs sn A B i ∧ mK K N1 N2 kd fs sn A B i) :
    ∀ (t p : Nat) (σ : en_S) (C Z : Nat → Nat) (G : Nat → Int32) (V : Nat → Int) (Op Nd : Nat → Bool), 10 * 2 ^ (10 - t) ≤ p → n + 10 ≤ p → p ≤ 2000 → t ≤ 10 → rV X σ M (cd, nI cnt, o3, o4, nI 0) C Z G V → mA X σ M K N1 N2 Op Nd Pa Fo → (∀ s, 13 ≤ s → s < 20 → V s = V0 s) → mFr M σ0 σ →
      (∀ (τ : en_S) (C Z : Nat → Nat) (G : Nat → Int32) (V : Nat → Int) (Op Nd : Nat → Bool), dgF kd fs sn A B v n t p = none → rV X τ M (cd, nI cnt, o3, o4, nI 0) C Z G V → mA X τ M K N1 N2 Op Nd Pa Fo → (∀ s, 13 ≤ s → s < 20 → V s = V0 s) → mFr M σ0 τ → Q (some (.int (-3))) τ) →
      (∀ (τ : en_S) (C Z : Nat → Nat) (G : Nat → Int32) (V : Nat → Int) (Op Nd : Nat → Bool) (q : Nat) (D : Int), dgF kd fs sn A B v n t p = some (q, D) → q ≤ 480 → rV X τ M (cd, nI cnt, nI 1, o4, nI q) C Z G V → mA X τ M K N1 N2 Op Nd Pa Fo → V 13 = D → (∀ s, 14 ≤ s → s < 20 → V s = V0 s) → mFr M σ0 τ → Q (some (.int (nI (if D < 0 then 0 else 1)))) τ) →
      WA X M_X7_digits ρ 36 [(3, .int (nI p)), (0, .ref (M 0)), (1, .int (nI v)), (2, .int (nI n))] [] σ Q := by
  intro t
  induction t with
  | zero =>
    intro p σ C Z G V Op Nd hp1 hp2 hp3 ht h hA vo hF k0 k1
    have : 10 * 2 ^ (10 - 0) = 10240 := by decide
    omega
  | succ t ih =>
    intro p σ C Z G V Op Nd hp1 hp2 hp3 ht h hA vo hF k0 k1
    have eD : dgF kd fs sn A B v n (t + 1) p = if 480 < p then none else match enc kd fs sn A B p v with
      | none => dgF kd fs sn A B v n t (p * 2)
      | some q => if shr q.1 (p - n) (-1) = shr q.2 (p - n) (-1) then some (p, shr q.1 (p - n) (-1)) else dgF kd fs sn A B v n t (p * 2) := rfl
    rw [eD] at k0 k1
    have hpw : 10 * 2 ^ (10 - t) ≤ p * 2 := by
      have e : 10 - t = (10 - (t + 1)) + 1 := by omega
      rw [e, Nat.pow_succ]
      omega
    obtain ⟨a0, a1, a2, a3, -⟩ := id h.1
    refine wa_iload_n q_X7_digits_36 rfl ?_
    refine wa_sipush q_X7_digits_37 (v := nI 480) (by decide) ?_
    refine wn_icmp_gt q_X7_digits_40 (by omega) (by decide) (fun hx => ?_) (fun hx => ?_)
    · refine wa_aload_n q_X7_digits_116 rfl ?_
      refine wa_getf q_X7_digits_117 f_RX7_167 (by assumption) rfl ?_
      refine wn_if_ne q_X7_digits_120 (by decide) (fun q => absurd q (by decide)) (fun _ => ?_)
      refine wa_bipush q_X7_digits_123 (v := -3) (by decide) ?_
      refine wa_iret q_X7_digits_125 rfl ?_
      exact k0 σ C Z G V Op Nd (if_pos hx) h hA vo hF
    rw [if_neg (by omega)] at k0 k1
    refine wa_aload_n q_X7_digits_43 rfl ?_
    refine wa_getf q_X7_digits_44 f_RX7_167 (by assumption) rfl ?_
    refine wn_if_ne q_X7_digits_47 (by decide) (fun q => absurd q (by decide)) (fun _ => ?_)
    refine wa_aload_n q_X7_digits_50 rfl ?_
    refine wa_iload_n q_X7_digits_51 rfl ?_
    refine wa_iload_n q_X7_digits_52 rfl ?_
    refine wa_callV q_X7_digits_53 g_X7_digits_53 w_X7_isEnclosed (by assumption) rfl (av := [_, _]) rfl rfl (lk rfl) (Calls.mono (R_encl hFF hFL h hA rfl hcnt hv hok (by omega) (by omega)) ?_)
    intro res τ hq
    obtain ⟨C1, Z1, G1, V1, Op1, Nd1, h1, hA1, o1, hF1, hq⟩ := hq
    have vo1 : ∀ s, 13 ≤ s → s < 20 → V1 s = V0 s := fun s x1 x2 => (o1 s x1 x2).trans (vo s x1 x2)
    cases he : enc kd fs sn A B p v with
    | none =>
      rw [he] at hq k0 k1
      have hq : res = some (.int (nI 0)) := hq
      subst hq
      refine wn_if_eq q_X7_digits_56 (by decide) (fun _ => ?_) (fun q => absurd q (by decide))
      refine wa_iconst q_X7_digits_109 (v := nI 2) (by decide) ?_
      refine wa_iload_n q_X7_digits_110 rfl ?_
      refine wn_imul q_X7_digits_111 ?_
      refine wa_istore_n q_X7_digits_112 (by decide) ?_
      refine wa_goto q_X7_digits_113 ?_
      rw [Nat.mul_comm 2 p]
      exact wa_lv (ih (p * 2) τ C1 Z1 G1 V1 Op1 Nd1 hpw (by omega) (by omega) (by omega) h1 hA1 vo1 (hF.tr hF1) k0 k1) rfl
    | some q =>
      rw [he] at hq k0 k1
      obtain ⟨q0, q1, q2⟩ := hq
      subst q0
      have k0 := k0
      have hb := enc_b hFL (by omega) (by omega) (fun j hj => (hok j (by omega)).1) he
      have zt : ((10 : Int) ^ (p - n)).natAbs < BB ^ 290 := Nat.lt_of_lt_of_le (z155 (by omega)) (pw_mono (by decide))
      have z0 : ((10 : Int) ^ (p - n)) ≠ 0 := fun e => by
        have : (0 : Int) < 10 ^ (p - n) := Int.pow_pos (by decide)
        omega
      obtain ⟨b0, b1, b2, b3, -⟩ := id h1.1
      refine wn_if_eq q_X7_digits_56 (by decide) (fun q => absurd q (by decide)) (fun _ => ?_)
      refine wa_aload_n q_X7_digits_59 rfl ?_
      refine wa_iconst q_X7_digits_60 (v := nI 0) (by decide) ?_
      refine wa_iload_n q_X7_digits_61 rfl ?_
      refine wa_iload_n q_X7_digits_62 rfl ?_
      refine wn_isub q_X7_digits_63 (by omega) ?_
      refine wa_callV q_X7_digits_64 g_X7_digits_64 w_X7_powerOfTen (by assumption) rfl (av := [_, _]) rfl rfl (lk rfl) (Calls.mono (R_pten h1 (r := 0) (p := p - n) (by decide) (by omega)) ?_)
      rintro _ σ2 ⟨rfl, C2, Z2, G2, h2, s2⟩
      have e0 : uV V1 0 (10 ^ (p - n)) 0 = 10 ^ (p - n) := uV_s
      have e1 : uV V1 0 (10 ^ (p - n)) (20 + 2 * v) = q.1 := by rw [uV_n (by omega)]; exact q1
      have e2 : uV V1 0 (10 ^ (p - n)) (20 + 2 * v + 1) = q.2 := by rw [uV_n (by omega)]; exact q2
      have vo2 : ∀ s, 13 ≤ s → s < 20 → uV V1 0 (10 ^ (p - n)) s = V0 s := fun s x1 x2 => by rw [uV_n (by omega)]; exact vo1 s x1 x2
      generalize uV V1 0 (10 ^ (p - n)) = V2 at *
      obtain ⟨c0, c1, c2, c3, -⟩ := id h2.1
      refine wa_aload_n q_X7_digits_67 rfl ?_
      refine wa_iconst q_X7_digits_68 (v := nI 1) (by decide) ?_
      refine wa_iload_n q_X7_digits_69 rfl ?_
      refine wa_callS q_X7_digits_70 g_X7_digits_70 w_X7_low (av := [_]) rfl rfl (lk rfl) (Calls.mono R_low ?_)
      rintro _ _ ⟨rfl, rfl⟩
      refine wa_iconst q_X7_digits_73 (v := nI 0) (by decide) ?_
      refine wa_iconst q_X7_digits_74 (v := nI 0) (by decide) ?_
      refine wa_callV q_X7_digits_75 g_X7_digits_75 w_X7_rounded (by assumption) rfl (av := [_, _, _, _]) rfl rfl (lk rfl) (Calls.mono (R_rnd (up := false) h2 (r := 1) (a := 20 + 2 * v) (b := 0) (by decide) (by omega) (by decide) (by decide) (by decide) (by omega) (by decide) (by rw [e0]; exact z0) (by rw [e1]; exact z800 hb.1) (by rw [e0]; exact zt)) ?_)
      rintro _ σ3 ⟨rfl, C3, Z3, G3, V3, h3, f1, fo, s3⟩
      rw [e0, e1] at f1
      have f1 : V3 1 = shr q.1 (p - n) (-1) := f1.trans qten.1
      have f0 : V3 0 = 10 ^ (p - n) := (fo 0 (by decide) (by decide) (by decide)).trans e0
      have f2 : V3 (20 + 2 * v + 1) = q.2 := (fo _ (by omega) (by omega) (by omega)).trans e2
      obtain ⟨d0, d1, d2, d3, -⟩ := id h3.1
      refine wa_aload_n q_X7_digits_78 rfl ?_
      refine wa_iconst q_X7_digits_79 (v := nI 2) (by decide) ?_
      refine wa_iload_n q_X7_digits_80 rfl ?_
      refine wa_callS q_X7_digits_81 g_X7_digits_81 w_X7_low (av := [_]) rfl rfl (lk rfl) (Calls.mono R_low ?_)
      rintro _ _ ⟨rfl, rfl⟩
      refine wa_iconst q_X7_digits_84 (v := nI 1) (by decide) ?_
      refine wn_iadd q_X7_digits_85 ?_
      refine wa_iconst q_X7_digits_86 (v := nI 0) (by decide) ?_
      refine wa_iconst q_X7_digits_87 (v := nI 0) (by decide) ?_
      refine wa_callV q_X7_digits_88 g_X7_digits_88 w_X7_rounded (by assumption) rfl (av := [_, _, _, _]) rfl rfl (lk rfl) (Calls.mono (R_rnd (up := false) h3 (r := 2) (a := 20 + 2 * v + 1) (b := 0) (by decide) (by omega) (by decide) (by decide) (by decide) (by omega) (by decide) (by rw [f0]; exact z0) (by rw [f2]; exact z800 hb.2.1) (by rw [f0]; exact zt)) ?_)
      rintro _ σ4 ⟨rfl, C4, Z4, G4, V4, h4, g2, go, s4⟩
      rw [f0, f2] at g2
      have g2 : V4 2 = shr q.2 (p - n) (-1) := g2.trans qten.1
      have g1 : V4 1 = shr q.1 (p - n) (-1) := (go 1 (by decide) (by decide) (by decide)).trans f1
      have vo4 : ∀ s, 13 ≤ s → s < 20 → V4 s = V0 s := fun s x1 x2 => by rw [go s (by omega) (by omega) (by omega), fo s (by omega) (by omega) (by omega)]; exact vo2 s x1 x2
      have hA4 := ((hA1.st s2).st s3).st s4
      have hF4 := hF.tr (hF1.tr (s2.fr.tr (s3.fr.tr s4.fr)))
      obtain ⟨i0, i1, i2, i3, -⟩ := id h4.1
      refine wa_aload_n q_X7_digits_91 rfl ?_
      refine wa_aload_n q_X7_digits_92 rfl ?_
      refine wa_iconst q_X7_digits_93 (v := nI 1) (by decide) ?_
      refine wa_iconst q_X7_digits_94 (v := nI 2) (by decide) ?_
      refine wa_callV q_X7_digits_95 g_X7_digits_95 w_X7_compareTo (by assumption) rfl (av := [_, _]) rfl rfl (lk rfl) (Calls.mono (R_cmp h4 (a := 1) (b := 2) (by decide) (by decide)) ?_)
      rintro _ _ ⟨⟨w, rfl, wl, wh, w0, w00⟩, rfl⟩
      rw [g1, g2] at w00
      have hz : iZ w = 0 ↔ shr q.1 (p - n) (-1) = shr q.2 (p - n) (-1) := by
        rw [← w00, show (0 : Int32) = iZ 0 from rfl]
        exact iZ_eq wl wh (by decide) (by decide)
      refine wa_if_ne q_X7_digits_98 (fun hz1 => ?_) (fun hz1 => ?_)
      · have hne : ¬ shr q.1 (p - n) (-1) = shr q.2 (p - n) (-1) := fun e => hz1 (hz.mpr e)
        have k0 := fun τ C Z G V Op Nd r => k0 τ C Z G V Op Nd ((if_neg hne).trans r)
        have k1 := fun τ C Z G V Op Nd q' D r => k1 τ C Z G V Op Nd q' D ((if_neg hne).trans r)
        refine wa_iconst q_X7_digits_105 (v := nI 0) (by decide) ?_
        refine wn_putf q_X7_digits_106 p_RX7_167 (by assumption) (lk rfl) rfl rfl rfl (fun σ_p5 p5 f_p5 e1_p5 e2_p5 => ?_)
        have h5 := h4.s0 (O' := (cd, nI cnt, o3, o4, nI 0)) p5 f_p5
        have hA5 := hA4.s0 i0 f_p5
        refine wa_iconst q_X7_digits_109 (v := nI 2) (by decide) ?_
        refine wa_iload_n q_X7_digits_110 rfl ?_
        refine wn_imul q_X7_digits_111 ?_
        refine wa_istore_n q_X7_digits_112 (by decide) ?_
        refine wa_goto q_X7_digits_113 ?_
        rw [Nat.mul_comm 2 p]
        exact wa_lv (ih (p * 2) σ_p5 C4 Z4 G4 V4 Op1 Nd1 hpw (by omega) (by omega) (by omega) h5 hA5 vo4 (hF4.tr (mFr.put0 f_p5 e1_p5 e2_p5)) k0 k1) rfl
      · have heq := hz.mp hz1
        refine wa_iload_n q_X7_digits_101 rfl ?_
        refine wa_goto q_X7_digits_102 ?_
        refine wn_putf q_X7_digits_106 p_RX7_167 (by assumption) (lk rfl) rfl rfl rfl (fun σ_p5 p5 f_p5 e1_p5 e2_p5 => ?_)
        have h5 := h4.s0 (O' := (cd, nI cnt, o3, o4, nI p)) p5 f_p5
        have hA5 := hA4.s0 i0 f_p5
        have fin : ∀ lv, lv = [(3, .int (nI (2 * p))), (0, .ref (M 0)), (1, .int (nI v)), (2, .int (nI n))] → WA X M_X7_digits ρ 116 lv [] σ_p5 Q := by
          intro lv elv
          subst elv
          obtain ⟨j0, j1, j2, j3, -⟩ := id h5.1
          refine wa_aload_n q_X7_digits_116 rfl ?_
          refine wa_getf q_X7_digits_117 f_RX7_167 (by assumption) rfl ?_
          refine wn_if_ne q_X7_digits_120 (by omega) (fun _ => ?_) (fun q => by omega)
          refine wa_aload_n q_X7_digits_126 rfl ?_
          refine wa_iconst q_X7_digits_127 (v := nI 1) (by decide) ?_
          refine wa_bipush q_X7_digits_128 (v := nI 13) (by decide) ?_
          refine wa_callV q_X7_digits_130 g_X7_digits_130 w_X7_copyTo (by assumption) rfl (av := [_, _]) rfl rfl (lk rfl) (Calls.mono (R_copy h5 (a := 1) (b := 13) (by decide) (by decide)) ?_)
          rintro _ σ6 ⟨rfl, C6, Z6, G6, h6, s6⟩
          rw [g1] at h6
          have hA6 := hA5.st s6
          obtain ⟨l0, l1, l2, l3, -⟩ := id h6.1
          refine wa_aload_n q_X7_digits_133 rfl ?_
          refine wa_iconst q_X7_digits_134 (v := nI 1) (by decide) ?_
          refine wn_putf q_X7_digits_135 p_RX7_170 (by assumption) (lk rfl) rfl rfl rfl (fun σ_p7 p7 f_p7 e1_p7 e2_p7 => ?_)
          have h7 := h6.s0 (O' := (cd, nI cnt, nI 1, o4, nI p)) p7 f_p7
          have hA7 := hA6.s0 l0 f_p7
          obtain ⟨r0, r1, r2, r3, -⟩ := id h7.1
          have gs := (h7.2 13 (by decide)).1
          rw [uV_s] at gs
          have kk := k1 σ_p7 C6 Z6 G6 _ Op1 Nd1 p (shr q.1 (p - n) (-1)) (if_pos heq) (by omega) h7 hA7 uV_s (fun s x1 x2 => by rw [uV_n (by omega)]; exact vo4 s (by omega) x2) (hF4.tr ((mFr.put0 f_p5 e1_p5 e2_p5).tr (s6.fr.tr (mFr.put0 f_p7 e1_p7 e2_p7))))
          refine wa_aload_n q_X7_digits_138 rfl ?_
          refine wa_getf q_X7_digits_139 f_RX7_17 (by assumption) rfl ?_
          refine wa_bipush q_X7_digits_142 (v := nI 13) (by decide) ?_
          refine wn_gald q_X7_digits_144 (by assumption) (by omega) ?_
          rw [gs]
          refine wa_if_ge q_X7_digits_145 (fun hs => ?_) (fun hs => ?_)
          · rw [if_neg (fun q => absurd (sg_ge.mp hs) (by omega))] at kk
            refine wa_iconst q_X7_digits_152 (v := nI 1) (by decide) ?_
            refine wa_iret q_X7_digits_153 rfl ?_
            exact kk
          · rw [if_pos (Int.not_le.mp (fun q => hs (sg_ge.mpr q)))] at kk
            refine wa_iconst q_X7_digits_148 (v := nI 0) (by decide) ?_
            refine wa_goto q_X7_digits_149 ?_
            refine wa_iret q_X7_digits_153 rfl ?_
            exact kk
        refine wa_iconst q_X7_digits_109 (v := nI 2) (by decide) ?_
        refine wa_iload_n q_X7_digits_110 rfl ?_
        refine wn_imul q_X7_digits_111 ?_
        refine wa_istore_n q_X7_digits_112 (by decide) ?_
        refine wa_goto q_X7_digits_113 ?_
        refine wa_iload_n q_X7_digits_36 rfl ?_
        refine wa_sipush q_X7_digits_37 (v := nI 480) (by decide) ?_
        refine wn_icmp_gt q_X7_digits_40 (by omega) (by decide) (fun _ => wa_lv (fin _ rfl) rfl) (fun _ => ?_)
        obtain ⟨j0, j1, j2, j3, -⟩ := id h5.1
        refine wa_aload_n q_X7_digits_43 rfl ?_
        refine wa_getf q_X7_digits_44 f_RX7_167 (by assumption) rfl ?_
        refine wn_if_ne q_X7_digits_47 (by omega) (fun _ => wa_lv (fin _ rfl) rfl) (fun q => by omega)
end ref33
section ref34
variable {X : en_X} {σ τ : en_S} {M : Nat → Nat} {cnt : Nat} {kd fs sn : Nat → Nat} {A B : Nat → Int} {hd : Bool} {td lo hi : Int} {qc : Nat} {qs : Nat → Int} {sa : Nat}
theorem T_digits {w x : Int32} (hFF : FFok) (hFL : FLok) (h : mW X σ M cnt kd fs sn A B hd td lo hi qc qs sa) :
    Calls X M_X7_digits [.ref (M 0), .int w, .int x] σ (fun res τ => mFr M σ τ ∧ ((((∀ v, v < cnt → w ≠ nI v) ∨ x < 0 ∨ 400 < x) ∧ res = some (.int (-1)) ∧ mW X τ M cnt kd fs sn A B hd td lo hi qc qs sa) ∨ (∃ v n, v < cnt ∧ w = nI v ∧ n ≤ 400 ∧ x = nI n ∧ ((dgs kd fs sn A B v n = none ∧ res = some (.int (-3)) ∧ mW X τ M cnt kd fs sn A B hd td lo hi qc qs 0) ∨ (∃ q D, dgs kd fs sn A B v n = some (q, D) ∧ res = some (.int (nI (if D < 0 then 0 else 1))) ∧ mW X τ M cnt kd fs sn A B true D lo hi qc qs q))))) := by
  obtain ⟨cd, a0⟩ := h.ob
  have hc := h.c60
  obtain ⟨QQ, hQQ⟩ : ∃ QQ : Option Value → en_S → Prop, QQ = (fun res τ => mFr M σ τ ∧ ((((∀ v, v < cnt → w ≠ nI v) ∨ x < 0 ∨ 400 < x) ∧ res = some (.int (-1)) ∧ mW X τ M cnt kd fs sn A B hd td lo hi qc qs sa) ∨ (∃ v n, v < cnt ∧ w = nI v ∧ n ≤ 400 ∧ x = nI n ∧ ((dgs kd fs sn A B v n = none ∧ res = some (.int (-3)) ∧ mW X τ M cnt kd fs sn A B hd td lo hi qc qs 0) ∨ (∃ q D, dgs kd fs sn A B v n = some (q, D) ∧ res = some (.int (nI (if D < 0 then 0 else 1))) ∧ mW X τ M cnt kd fs sn A B true D lo hi qc qs q))))) := ⟨_, rfl⟩
  rw [← hQQ]
  refine Calls.of rfl (lk rfl) ?_
  refine wa_aload_n q_X7_digits_0 rfl ?_
  refine wa_iconst q_X7_digits_1 (v := nI 0) (by decide) ?_
  refine wn_putf q_X7_digits_2 p_RX7_43 (by assumption) (lk rfl) rfl rfl rfl (fun σ_p1 p1 f_p1 e1_p1 e2_p1 => ?_)
  have hF := mFr.put0 f_p1 e1_p1 e2_p1
  have h1 := h.c0 (fun _ _ => p1) f_p1
  have no : ((∀ v, v < cnt → w ≠ nI v) ∨ x < 0 ∨ 400 < x) → WA X M_X7_digits σ 24 (lv_args 0 [.ref (M 0), .int w, .int x]) [] σ_p1 QQ := by
    intro hq
    refine wa_iconst q_X7_digits_24 (v := -1) (by decide) ?_
    refine wa_iret q_X7_digits_25 rfl ?_
    rw [hQQ]
    exact ⟨hF, Or.inl ⟨hq, rfl, h1⟩⟩
  refine wa_aload_n q_X7_digits_5 rfl ?_
  refine wa_iload_n q_X7_digits_6 rfl ?_
  refine wa_callV q_X7_digits_7 g_X7_digits_7 w_X7_isValue (by assumption) rfl (av := [_]) rfl rfl (lk rfl) (Calls.mono (R_isVal p1 hc) ?_)
  rintro _ τ1 ⟨hres, eτ⟩
  rw [eτ]
  rcases hres with ⟨v, hv, ev, rfl⟩ | ⟨hv, rfl⟩
  rotate_left
  · refine wn_if_eq q_X7_digits_10 (by decide) (fun _ => ?_) (fun q => absurd q (by decide))
    exact no (Or.inl hv)
  refine wn_if_eq q_X7_digits_10 (by decide) (fun q => absurd q (by decide)) (fun _ => ?_)
  refine wa_iload_n q_X7_digits_13 rfl ?_
  refine wa_if_lt q_X7_digits_14 (fun q => no (Or.inr (Or.inl q))) (fun x1 => ?_)
  refine wa_iload_n q_X7_digits_17 rfl ?_
  refine wa_sipush q_X7_digits_18 (v := 400) (by decide) ?_
  refine wa_icmp_le q_X7_digits_21 (fun x2 => ?_) (fun q => no (Or.inr (Or.inr (Int32.not_le.mp q))))
  obtain ⟨n, hn, ep⟩ := nI_of x1
  have hn4 : n ≤ 400 := by
    rw [ep] at x2
    exact (nI_leI hn (show 400 < 2 ^ 31 by decide)).mp x2
  subst ev ep
  obtain ⟨cd', C, Z, G, V, K, N1, N2, Op, Nd, Pa, Fo, g, gA, ⟨c1, c2, c3⟩, wo, ⟨v1, v2, v3⟩, wp⟩ := id h1
  obtain ⟨b0, b1, b2, b3, -⟩ := id g.1
  refine wa_aload_n q_X7_digits_26 rfl ?_
  refine wa_iconst q_X7_digits_27 (v := nI 0) (by decide) ?_
  refine wn_putf q_X7_digits_28 p_RX7_167 (by assumption) (lk rfl) rfl rfl rfl (fun σ_p2 p2 f_p2 e1_p2 e2_p2 => ?_)
  have h2 := g.s0 (O' := (cd', nI cnt, nI (if hd then 1 else 0), nI qc, nI 0)) p2 f_p2
  have hA2 := gA.s0 b0 f_p2
  refine wa_iload_n q_X7_digits_31 rfl ?_
  refine wa_bipush q_X7_digits_32 (v := nI 10) (by decide) ?_
  refine wn_iadd q_X7_digits_34 ?_
  refine wa_istore_n q_X7_digits_35 (by decide) ?_
  refine wa_lv (dgr_loop (σ0 := σ) (V0 := V) hFF hFL hc hv hn4 wo 10 (n + 10) σ_p2 C Z G V Op Nd (by omega) (by omega) (by omega) (by decide) h2 hA2 (fun _ _ _ => rfl) (hF.tr (mFr.put0 f_p2 e1_p2 e2_p2)) (fun τ C' Z' G' V' Op' Nd' r1 r2 r3 r4 r5 => ?_) (fun τ C' Z' G' V' Op' Nd' q D r1 r0 r2 r3 r4 r5 r6 => ?_)) rfl
  · rw [hQQ]
    exact ⟨r5, Or.inr ⟨v, n, hv, rfl, hn4, rfl, Or.inl ⟨r1, rfl, cd', C', Z', G', V', K, N1, N2, Op', Nd', Pa, Fo, r2, r3, ⟨c1, c2, by decide⟩, wo, ⟨(r4 13 (by decide) (by decide)).trans v1, (r4 14 (by decide) (by decide)).trans v2, (r4 15 (by decide) (by decide)).trans v3⟩, wp⟩⟩⟩
  · rw [hQQ]
    exact ⟨r6, Or.inr ⟨v, n, hv, rfl, hn4, rfl, Or.inr ⟨q, D, r1, rfl, cd', C', Z', G', V', K, N1, N2, Op', Nd', Pa, Fo, r2, r3, ⟨c1, c2, r0⟩, wo, ⟨r4, (r5 14 (by decide) (by decide)).trans v2, (r5 15 (by decide) (by decide)).trans v3⟩, wp⟩⟩⟩
end ref34
