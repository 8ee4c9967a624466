/-! The reference: areSame, quotients -/
section ref39
variable {X : en_X} {M : Nat → Nat} {O : Int32 × Int32 × Int32 × Int32 × Int32} {K : Nat → Int32} {N1 N2 Pa Fo : Nat → Int64} {Op Nd : Nat → Bool} {v k p : Nat}
theorem R_same {σ : en_S} {C Z : Nat → Nat} {G : Nat → Int32} {V : Nat → Int} {q : Int × Int} {Q : Option Value → en_S → Prop} (h : rV X σ M O C Z G V) (hA : mA X σ M K N1 N2 Op Nd Pa Fo) (hk : k ≤ 40) (hv : v < 60) (hp : p ≤ 480) (e1 : V (20 + 2 * v) = q.1) (e2 : V (20 + 2 * v + 1) = q.2) (z1 : q.1.natAbs < 10 ^ 800) (z2 : q.2.natAbs < 10 ^ 800)
    (k0 : ∀ (τ : en_S) (C Z : Nat → Nat) (G : Nat → Int32) (V' : Nat → Int) (Fo' : Nat → Int64), cfG k q.1 (10 ^ p) q.2 (10 ^ p) = none → rV X τ M O C Z G V' → mA X τ M K N1 N2 Op Nd Pa Fo' → (∀ s, 12 ≤ s → V' s = V s) → mFr M σ τ → Q (some (.int (nI 0))) τ)
    (k1 : ∀ (l : List Int) (τ : en_S) (C Z : Nat → Nat) (G : Nat → Int32) (V' : Nat → Int) (Fo' : Nat → Int64), cfG k q.1 (10 ^ p) q.2 (10 ^ p) = some l → rV X τ M O C Z G V' → mA X τ M K N1 N2 Op Nd Pa Fo' → (∀ s, 12 ≤ s → V' s = V s) → (∀ j, j < k → Fo' j = lZ ((l[j]?).getD 0)) → mFr M σ τ → Q (some (.int (nI 1))) τ) :
    Calls X M_X7_areSame [.ref (M 0), .int (nI v), .int (nI k), .int (nI p)] σ Q := by
  have y1 : q.1.natAbs < BB ^ 90 := Nat.lt_of_lt_of_le z1 p800
  have y2 : q.2.natAbs < BB ^ 90 := Nat.lt_of_lt_of_le z2 p800
  have zt : ((10 : Int) ^ p).natAbs < BB ^ 90 := Nat.lt_of_lt_of_le (z155 hp) (pw_mono (by decide))
  have z0 : (0 : Int) ≤ 10 ^ p := Int.le_of_lt (Int.pow_pos (by decide))
  obtain ⟨a0, a1, a2, a3, -⟩ := id h.1
  refine Calls.of rfl (lk rfl) ?_
  refine wa_aload_n q_X7_areSame_0 rfl ?_
  refine wa_iload_n q_X7_areSame_1 rfl ?_
  refine wa_callS q_X7_areSame_2 g_X7_areSame_2 w_X7_low (av := [_]) rfl rfl (lk rfl) (Calls.mono R_low ?_)
  rintro _ σ ⟨rfl, rfl⟩
  refine wa_iconst q_X7_areSame_5 (v := nI 0) (by decide) ?_
  refine wa_callV q_X7_areSame_6 g_X7_areSame_6 w_X7_copyTo (by assumption) rfl (av := [_, _]) rfl rfl (lk rfl) (Calls.mono (R_copy h (a := 20 + 2 * v) (b := 0) (by omega) (by decide)) ?_)
  rintro _ σ1 ⟨rfl, C1, Z1, G1, h1, s1⟩
  rw [e1] at h1
  obtain ⟨b0, b1, b2, b3, -⟩ := id h1.1
  refine wa_aload_n q_X7_areSame_9 rfl ?_
  refine wa_iconst q_X7_areSame_10 (v := nI 1) (by decide) ?_
  refine wa_iload_n q_X7_areSame_11 rfl ?_
  refine wa_callV q_X7_areSame_12 g_X7_areSame_12 w_X7_powerOfTen (by assumption) rfl (av := [_, _]) rfl rfl (lk rfl) (Calls.mono (R_pten h1 (r := 1) (p := p) (by decide) (by omega)) ?_)
  rintro _ σ2 ⟨rfl, C2, Z2, G2, h2, s2⟩
  obtain ⟨c0, c1, c2, c3, -⟩ := id h2.1
  refine wa_aload_n q_X7_areSame_15 rfl ?_
  refine wa_iload_n q_X7_areSame_16 rfl ?_
  refine wa_callS q_X7_areSame_17 g_X7_areSame_17 w_X7_low (av := [_]) rfl rfl (lk rfl) (Calls.mono R_low ?_)
  rintro _ _ ⟨rfl, rfl⟩
  refine wa_iconst q_X7_areSame_20 (v := nI 1) (by decide) ?_
  refine wn_iadd q_X7_areSame_21 ?_
  refine wa_iconst q_X7_areSame_22 (v := nI 2) (by decide) ?_
  refine wa_callV q_X7_areSame_23 g_X7_areSame_23 w_X7_copyTo (by assumption) rfl (av := [_, _]) rfl rfl (lk rfl) (Calls.mono (R_copy h2 (a := 20 + 2 * v + 1) (b := 2) (by omega) (by decide)) ?_)
  rintro _ σ3 ⟨rfl, C3, Z3, G3, h3, s3⟩
  rw [uV_n (show 20 + 2 * v + 1 ≠ 1 by omega), uV_n (show 20 + 2 * v + 1 ≠ 0 by omega), e2] at h3
  obtain ⟨d0, d1, d2, d3, -⟩ := id h3.1
  refine wa_aload_n q_X7_areSame_26 rfl ?_
  refine wa_iconst q_X7_areSame_27 (v := nI 3) (by decide) ?_
  refine wa_iload_n q_X7_areSame_28 rfl ?_
  refine wa_callV q_X7_areSame_29 g_X7_areSame_29 w_X7_powerOfTen (by assumption) rfl (av := [_, _]) rfl rfl (lk rfl) (Calls.mono (R_pten h3 (r := 3) (p := p) (by decide) (by omega)) ?_)
  rintro _ σ4 ⟨rfl, C4, Z4, G4, h4, s4⟩
  have sAll := s1.tr (s2.tr (s3.tr s4))
  refine wa_iconst q_X7_areSame_32 (v := nI 0) (by decide) ?_
  refine wa_istore q_X7_areSame_33 (by decide) ?_
  refine wa_lv (as_loop (σ0 := σ) (V0 := V) hk k 0 q.1 (10 ^ p) q.2 (10 ^ p) σ4 C4 Z4 G4 _ Fo (by omega) h4 (hA.st sAll) ?_ ?_ ?_ uV_s z0 z0 y1 zt y2 zt (fun s hs => ?_) sAll.fr k0 (fun l τ C Z G V' Fo' r x1 x2 x3 _ x5 x6 => k1 l τ C Z G V' Fo' r x1 x2 x3 (fun j hj => by have := x5 j hj; rw [Nat.zero_add] at this; exact this) x6)) rfl
  · rw [uV_n (by decide), uV_n (by decide), uV_n (by decide), uV_s]
  · rw [uV_n (by decide), uV_n (by decide), uV_s]
  · rw [uV_n (by decide), uV_s]
  · rw [uV_n (by omega), uV_n (by omega), uV_n (by omega), uV_n (by omega)]
end ref39
section ref40
variable {X : en_X} {M : Nat → Nat} {cnt : Nat} {kd fs sn : Nat → Nat} {A B : Nat → Int} {K : Nat → Int32} {N1 N2 Pa : Nat → Int64} {cd o3 o4 : Int32} {v k : Nat}
/-- parts are told -/
theorem cp_loop {ρ σ0 : en_S} {C Z : Nat → Nat} {G : Nat → Int32} {V : Nat → Int} {Op Nd : Nat → Bool} {Fo Pa0 : Nat → Int64} {o5 : Int32} {Q : Option Value → en_S → Prop} (hk : k ≤ 40)
    (kq : ∀ (τ : en_S) (Pa' : Nat → Int64), rV X τ M (cd, nI cnt, o3, nI k, o5) C Z G V → mA X τ M K N1 N2 Op Nd Pa' Fo → (∀ j, j < k → Pa' j = Fo j) → (∀ j, k ≤ j → Pa' j = Pa0 j) → mFr M σ0 τ → Q (some (.int (nI 1))) τ) :
    ∀ (n i : Nat) (σ : en_S) (Pa : Nat → Int64), n + i = k → rV X σ M (cd, nI cnt, o3, o4, o5) C Z G V → mA X σ M K N1 N2 Op Nd Pa Fo → (∀ j, j < i → Pa j = Fo j) → (∀ j, i ≤ j → Pa j = Pa0 j) → mFr M σ0 σ →
      WA X M_X7_quotients ρ 95 [(3, .int (nI i)), (0, .ref (M 0)), (1, .int (nI v)), (2, .int (nI k))] [] σ Q := by
  intro n
  induction n with
  | zero =>
    intro i σ Pa hn h hA h1 h2 hF
    obtain ⟨a0, a1, a2, a3, -⟩ := id h.1
    have e : i = k := by omega
    subst e
    refine wa_iload_n q_X7_quotients_95 rfl ?_
    refine wa_iload_n q_X7_quotients_96 rfl ?_
    refine wn_icmp_ge q_X7_quotients_97 (by omega) (by omega) (fun hx => ?_) (fun hx => ?_)
    · refine wa_aload_n q_X7_quotients_118 rfl ?_
      refine wa_iload_n q_X7_quotients_119 rfl ?_
      refine wn_putf q_X7_quotients_120 p_RX7_184 (by assumption) (lk rfl) rfl rfl rfl (fun σ_p1 p1 f_p1 e1_p1 e2_p1 => ?_)
      refine wa_iconst q_X7_quotients_123 (v := nI 1) (by decide) ?_
      refine wa_iret q_X7_quotients_124 rfl ?_
      exact kq σ_p1 Pa (h.s0 (O' := (cd, nI cnt, o3, nI i, o5)) p1 f_p1) (hA.s0 a0 f_p1) h1 h2 (hF.tr (mFr.put0 f_p1 e1_p1 e2_p1))
    · omega
  | succ n ih =>
    intro i σ Pa hn h hA h1 h2 hF
    obtain ⟨a0, a1, a2, a3, -⟩ := id h.1
    obtain ⟨k4, k5, k6, k7, k8, k11, k14, hD⟩ := id hA
    refine wa_iload_n q_X7_quotients_95 rfl ?_
    refine wa_iload_n q_X7_quotients_96 rfl ?_
    refine wn_icmp_ge q_X7_quotients_97 (by omega) (by omega) (fun hx => ?_) (fun hx => ?_)
    · omega
    refine wa_aload_n q_X7_quotients_100 rfl ?_
    refine wa_getf q_X7_quotients_101 f_RX7_37 (by assumption) rfl ?_
    refine wa_iload_n q_X7_quotients_104 rfl ?_
    refine wa_aload_n q_X7_quotients_105 rfl ?_
    refine wa_getf q_X7_quotients_106 f_RX7_40 (by assumption) rfl ?_
    refine wa_iload_n q_X7_quotients_109 rfl ?_
    refine wn_glald q_X7_quotients_110 k14 (by omega) ?_
    refine wn_glast q_X7_quotients_111 k11 (by omega) (fun σ1 g1 f1 e1 e2 => ?_)
    refine wn_iinc q_X7_quotients_112 rfl (by decide) ?_
    refine wa_goto q_X7_quotients_115 ?_
    refine wa_lv (ih (i + 1) σ1 _ (by omega) (h.o8 hD (by decide) (by decide) k11 f1) (hA.s11 g1 f1) (fun j hj => ?_) (fun j hj => (upL_n (by omega)).trans (h2 j (by omega))) (hF.tr (mFr.put (by decide) f1 e1 e2))) rfl
    by_cases e : j = i
    · subst e; exact upL_s
    · exact (upL_n e).trans (h1 j (by omega))
set_option maxHeartbeats 1000000 in
theorem qtr_loop {ρ σ0 : en_S} {V0 : Nat → Int} {Q : Option Value → en_S → Prop} (hFF : FFok) (hFL : FLok) (hcnt : cnt ≤ 60) (hv : v < cnt) (hk1 : 1 ≤ k) (hk : k ≤ 40) (hok : ∀ i, i < cnt → vOk kd fs sn A B i ∧ mK K N1 N2 kd fs sn A B i) :
    ∀ (t p : Nat) (σ : en_S) (C Z : Nat → Nat) (G : Nat → Int32) (V : Nat → Int) (Op Nd : Nat → Bool) (Fo : Nat → Int64), 10 * 2 ^ (10 - t) ≤ p → 1 ≤ p → p ≤ 2000 → t ≤ 10 → rV X σ M (cd, nI cnt, o3, o4, nI 0) C Z G V → mA X σ M K N1 N2 Op Nd Pa Fo → (∀ s, 13 ≤ s → s < 20 → V s = V0 s) → mFr M σ0 σ →
      (∀ (τ : en_S) (C Z : Nat → Nat) (G : Nat → Int32) (V : Nat → Int) (Op Nd : Nat → Bool) (Fo : Nat → Int64), qtF kd fs sn A B v k t p = none → rV X τ M (cd, nI cnt, o3, o4, nI 0) C Z G V → mA X τ M K N1 N2 Op Nd Pa Fo → (∀ s, 13 ≤ s → s < 20 → V s = V0 s) → mFr M σ0 τ → Q (some (.int (-3))) τ) →
      (∀ (τ : en_S) (C Z : Nat → Nat) (G : Nat → Int32) (V : Nat → Int) (Op Nd : Nat → Bool) (Fo Pa' : Nat → Int64) (q : Nat) (l : List Int), qtF kd fs sn A B v k t p = some (q, l) → l.length = k → q ≤ 480 → rV X τ M (cd, nI cnt, o3, nI k, nI q) C Z G V → mA X τ M K N1 N2 Op Nd Pa' Fo → (∀ s, 13 ≤ s → s < 20 → V s = V0 s) → (∀ j, j < k → Pa' j = lZ ((l[j]?).getD 0)) → (∀ j, k ≤ j → Pa' j = Pa j) → mFr M σ0 τ → Q (some (.int (nI 1))) τ) →
      WA X M_X7_quotients ρ 38 [(3, .int (nI p)), (0, .ref (M 0)), (1, .int (nI v)), (2, .int (nI k))] [] σ Q := by
  intro t
  induction t with
  | zero =>
    intro p σ C Z G V Op Nd Fo hp1 hp2 hp3 ht h hA vo hF k0 k1
    have : 10 * 2 ^ (10 - 0) = 10240 := by decide
    omega
  | succ t ih =>
    intro p σ C Z G V Op Nd Fo hp1 hp2 hp3 ht h hA vo hF k0 k1
    have eD : qtF kd fs sn A B v k (t + 1) p = if 480 < p then none else match enc kd fs sn A B p v with
      | none => qtF kd fs sn A B v k t (p * 2)
      | some q => match cfG k q.1 (10 ^ p) q.2 (10 ^ p) with
        | none => qtF kd fs sn A B v k t (p * 2)
        | some l => some (p, l) := rfl
    rw [eD] at k0 k1
    have hpw : 10 * 2 ^ (10 - t) ≤ p * 2 := by
      have e : 10 - t = (10 - (t + 1)) + 1 := by omega
      rw [e, Nat.pow_succ]
      omega
    obtain ⟨a0, a1, a2, a3, -⟩ := id h.1
    refine wa_iload_n q_X7_quotients_38 rfl ?_
    refine wa_sipush q_X7_quotients_39 (v := nI 480) (by decide) ?_
    refine wn_icmp_gt q_X7_quotients_42 (by omega) (by decide) (fun hx => ?_) (fun hx => ?_)
    · refine wa_aload_n q_X7_quotients_83 rfl ?_
      refine wa_getf q_X7_quotients_84 f_RX7_167 (by assumption) rfl ?_
      refine wn_if_ne q_X7_quotients_87 (by decide) (fun q => absurd q (by decide)) (fun _ => ?_)
      refine wa_bipush q_X7_quotients_90 (v := -3) (by decide) ?_
      refine wa_iret q_X7_quotients_92 rfl ?_
      exact k0 σ C Z G V Op Nd Fo (if_pos hx) h hA vo hF
    rw [if_neg (by omega)] at k0 k1
    refine wa_aload_n q_X7_quotients_45 rfl ?_
    refine wa_getf q_X7_quotients_46 f_RX7_167 (by assumption) rfl ?_
    refine wn_if_ne q_X7_quotients_49 (by decide) (fun q => absurd q (by decide)) (fun _ => ?_)
    refine wa_aload_n q_X7_quotients_52 rfl ?_
    refine wa_iload_n q_X7_quotients_53 rfl ?_
    refine wa_iload_n q_X7_quotients_54 rfl ?_
    refine wa_callV q_X7_quotients_55 g_X7_quotients_55 w_X7_isEnclosed (by assumption) rfl (av := [_, _]) rfl rfl (lk rfl) (Calls.mono (R_encl hFF hFL h hA rfl hcnt hv hok (by omega) (by omega)) ?_)
    intro res τ hq
    obtain ⟨C1, Z1, G1, V1, Op1, Nd1, h1, hA1, o1, hF1, hq⟩ := hq
    have vo1 : ∀ s, 13 ≤ s → s < 20 → V1 s = V0 s := fun s x1 x2 => (o1 s x1 x2).trans (vo s x1 x2)
    cases he : enc kd fs sn A B p v with
    | none =>
      rw [he] at hq k0 k1
      have hq : res = some (.int (nI 0)) := hq
      subst hq
      refine wn_if_eq q_X7_quotients_58 (by decide) (fun _ => ?_) (fun q => absurd q (by decide))
      refine wa_iconst q_X7_quotients_76 (v := nI 2) (by decide) ?_
      refine wa_iload_n q_X7_quotients_77 rfl ?_
      refine wn_imul q_X7_quotients_78 ?_
      refine wa_istore_n q_X7_quotients_79 (by decide) ?_
      refine wa_goto q_X7_quotients_80 ?_
      rw [Nat.mul_comm 2 p]
      exact wa_lv (ih (p * 2) τ C1 Z1 G1 V1 Op1 Nd1 Fo hpw (by omega) (by omega) (by omega) h1 hA1 vo1 (hF.tr hF1) k0 k1) rfl
    | some q =>
      rw [he] at hq k0 k1
      dsimp only at k0 k1
      obtain ⟨q0, q1, q2⟩ := hq
      subst q0
      have hb := enc_b hFL (by omega) (by omega) (fun j hj => (hok j (by omega)).1) he
      obtain ⟨b0, b1, b2, b3, -⟩ := id h1.1
      refine wn_if_eq q_X7_quotients_58 (by decide) (fun q => absurd q (by decide)) (fun _ => ?_)
      refine wa_aload_n q_X7_quotients_61 rfl ?_
      refine wa_iload_n q_X7_quotients_62 rfl ?_
      refine wa_iload_n q_X7_quotients_63 rfl ?_
      refine wa_iload_n q_X7_quotients_64 rfl ?_
      refine wa_callV q_X7_quotients_65 g_X7_quotients_65 w_X7_areSame (by assumption) rfl (av := [_, _, _]) rfl rfl (lk rfl) (Calls.mono (R_same (Q := fun res τ2 => ∃ C Z G V Fo', rV X τ2 M (cd, nI cnt, o3, o4, nI 0) C Z G V ∧ mA X τ2 M K N1 N2 Op1 Nd1 Pa Fo' ∧ (∀ s, 12 ≤ s → V s = V1 s) ∧ mFr M τ τ2 ∧ ((cfG k q.1 (10 ^ p) q.2 (10 ^ p) = none ∧ res = some (.int (nI 0))) ∨ (∃ l, cfG k q.1 (10 ^ p) q.2 (10 ^ p) = some l ∧ res = some (.int (nI 1)) ∧ ∀ j, j < k → Fo' j = lZ ((l[j]?).getD 0)))) h1 hA1 hk (by omega) (by omega) q1 q2 hb.1 hb.2.1 (fun τ C Z G V' Fo' r1 r2 r3 r4 r5 => ⟨C, Z, G, V', Fo', r2, r3, r4, r5, Or.inl ⟨r1, rfl⟩⟩) (fun l τ C Z G V' Fo' r1 r2 r3 r4 r6 r5 => ⟨C, Z, G, V', Fo', r2, r3, r4, r5, Or.inr ⟨l, r1, rfl, r6⟩⟩)) ?_)
      intro res τ2 hq2
      obtain ⟨C2, Z2, G2, V2, Fo2, h2, hA2, o2, hF2, hq2⟩ := hq2
      have vo2 : ∀ s, 13 ≤ s → s < 20 → V2 s = V0 s := fun s x1 x2 => (o2 s (by omega)).trans (vo1 s x1 x2)
      rcases hq2 with ⟨hn, rfl⟩ | ⟨l, hl, rfl, hf⟩
      · rw [hn] at k0 k1
        refine wn_if_eq q_X7_quotients_68 (by decide) (fun _ => ?_) (fun q => absurd q (by decide))
        refine wa_iconst q_X7_quotients_76 (v := nI 2) (by decide) ?_
        refine wa_iload_n q_X7_quotients_77 rfl ?_
        refine wn_imul q_X7_quotients_78 ?_
        refine wa_istore_n q_X7_quotients_79 (by decide) ?_
        refine wa_goto q_X7_quotients_80 ?_
        rw [Nat.mul_comm 2 p]
        exact wa_lv (ih (p * 2) τ2 C2 Z2 G2 V2 Op1 Nd1 Fo2 hpw (by omega) (by omega) (by omega) h2 hA2 vo2 (hF.tr (hF1.tr hF2)) k0 k1) rfl
      · rw [hl] at k1
        have hlen := cfG_len k _ _ _ _ l hl
        obtain ⟨c0, c1, c2, c3, -⟩ := id h2.1
        refine wn_if_eq q_X7_quotients_68 (by decide) (fun q => absurd q (by decide)) (fun _ => ?_)
        refine wa_aload_n q_X7_quotients_71 rfl ?_
        refine wa_iload_n q_X7_quotients_72 rfl ?_
        refine wn_putf q_X7_quotients_73 p_RX7_167 (by assumption) (lk rfl) rfl rfl rfl (fun σ_p3 p3 f_p3 e1_p3 e2_p3 => ?_)
        have h3 := h2.s0 (O' := (cd, nI cnt, o3, o4, nI p)) p3 f_p3
        have hA3 := hA2.s0 c0 f_p3
        have hF3 := hF.tr (hF1.tr (hF2.tr (mFr.put0 f_p3 e1_p3 e2_p3)))
        obtain ⟨d0, d1, d2, d3, -⟩ := id h3.1
        have fin : ∀ lv, lv = [(3, .int (nI (2 * p))), (0, .ref (M 0)), (1, .int (nI v)), (2, .int (nI k))] → WA X M_X7_quotients ρ 83 lv [] σ_p3 Q := by
          intro lv elv
          subst elv
          refine wa_aload_n q_X7_quotients_83 rfl ?_
          refine wa_getf q_X7_quotients_84 f_RX7_167 (by assumption) rfl ?_
          refine wn_if_ne q_X7_quotients_87 (by omega) (fun _ => ?_) (fun q => by omega)
          refine wa_iconst q_X7_quotients_93 (v := nI 0) (by decide) ?_
          refine wa_istore_n q_X7_quotients_94 (by decide) ?_
          exact wa_lv (cp_loop (σ0 := σ0) (Pa0 := Pa) hk (fun τ Pa' r1 r2 r3 r4 r5 => k1 τ C2 Z2 G2 V2 Op1 Nd1 Fo2 Pa' p l rfl hlen (by omega) r1 r2 vo2 (fun j hj => (r3 j hj).trans (hf j hj)) r4 r5) k 0 σ_p3 Pa (by omega) h3 hA3 (fun j hj => absurd hj (Nat.not_lt_zero _)) (fun _ _ => rfl) hF3) rfl
        refine wa_iconst q_X7_quotients_76 (v := nI 2) (by decide) ?_
        refine wa_iload_n q_X7_quotients_77 rfl ?_
        refine wn_imul q_X7_quotients_78 ?_
        refine wa_istore_n q_X7_quotients_79 (by decide) ?_
        refine wa_goto q_X7_quotients_80 ?_
        refine wa_iload_n q_X7_quotients_38 rfl ?_
        refine wa_sipush q_X7_quotients_39 (v := nI 480) (by decide) ?_
        refine wn_icmp_gt q_X7_quotients_42 (by omega) (by decide) (fun _ => wa_lv (fin _ rfl) rfl) (fun _ => ?_)
        refine wa_aload_n q_X7_quotients_45 rfl ?_
        refine wa_getf q_X7_quotients_46 f_RX7_167 (by assumption) rfl ?_
        refine wn_if_ne q_X7_quotients_49 (by omega) (fun _ => wa_lv (fin _ rfl) rfl) (fun q => by omega)
end ref40
section ref41
variable {X : en_X} {σ τ : en_S} {M : Nat → Nat} {cnt : Nat} {kd fs sn : Nat → Nat} {A B : Nat → Int} {hd : Bool} {td lo hi : Int} {qc : Nat} {qs : Nat → Int} {sa : Nat}
theorem T_quots {w x : Int32} (hFF : FFok) (hFL : FLok) (h : mW X σ M cnt kd fs sn A B hd td lo hi qc qs sa) :
    Calls X M_X7_quotients [.ref (M 0), .int w, .int x] σ (fun res τ => mFr M σ τ ∧ ((((∀ v, v < cnt → w ≠ nI v) ∨ x < 1 ∨ 40 < x) ∧ res = some (.int (-1)) ∧ mW X τ M cnt kd fs sn A B hd td lo hi qc qs sa) ∨ (∃ v k, v < cnt ∧ w = nI v ∧ 1 ≤ k ∧ k ≤ 40 ∧ x = nI k ∧ ((qts kd fs sn A B v k = none ∧ res = some (.int (-3)) ∧ mW X τ M cnt kd fs sn A B hd td lo hi qc qs 0) ∨ (∃ q l, qts kd fs sn A B v k = some (q, l) ∧ res = some (.int (nI 1)) ∧ mW X τ M cnt kd fs sn A B hd td lo hi k (fun j => (l[j]?).getD (qs j)) q))))) := by
  obtain ⟨cd, a0⟩ := h.ob
  have hc := h.c60
  obtain ⟨QQ, hQQ⟩ : ∃ QQ : Option Value → en_S → Prop, QQ = (fun res τ => mFr M σ τ ∧ ((((∀ v, v < cnt → w ≠ nI v) ∨ x < 1 ∨ 40 < x) ∧ res = some (.int (-1)) ∧ mW X τ M cnt kd fs sn A B hd td lo hi qc qs sa) ∨ (∃ v k, v < cnt ∧ w = nI v ∧ 1 ≤ k ∧ k ≤ 40 ∧ x = nI k ∧ ((qts kd fs sn A B v k = none ∧ res = some (.int (-3)) ∧ mW X τ M cnt kd fs sn A B hd td lo hi qc qs 0) ∨ (∃ q l, qts kd fs sn A B v k = some (q, l) ∧ res = some (.int (nI 1)) ∧ mW X τ M cnt kd fs sn A B hd td lo hi k (fun j => (l[j]?).getD (qs j)) q))))) := ⟨_, rfl⟩
  rw [← hQQ]
  refine Calls.of rfl (lk rfl) ?_
  refine wa_aload_n q_X7_quotients_0 rfl ?_
  refine wa_iconst q_X7_quotients_1 (v := nI 0) (by decide) ?_
  refine wn_putf q_X7_quotients_2 p_RX7_43 (by assumption) (lk rfl) rfl rfl rfl (fun σ_p1 p1 f_p1 e1_p1 e2_p1 => ?_)
  have hF := mFr.put0 f_p1 e1_p1 e2_p1
  have h1 := h.c0 (fun _ _ => p1) f_p1
  have no : ((∀ v, v < cnt → w ≠ nI v) ∨ x < 1 ∨ 40 < x) → WA X M_X7_quotients σ 24 (lv_args 0 [.ref (M 0), .int w, .int x]) [] σ_p1 QQ := by
    intro hq
    refine wa_iconst q_X7_quotients_24 (v := -1) (by decide) ?_
    refine wa_iret q_X7_quotients_25 rfl ?_
    rw [hQQ]
    exact ⟨hF, Or.inl ⟨hq, rfl, h1⟩⟩
  refine wa_aload_n q_X7_quotients_5 rfl ?_
  refine wa_iload_n q_X7_quotients_6 rfl ?_
  refine wa_callV q_X7_quotients_7 g_X7_quotients_7 w_X7_isValue (by assumption) rfl (av := [_]) rfl rfl (lk rfl) (Calls.mono (R_isVal p1 hc) ?_)
  rintro _ τ1 ⟨hres, eτ⟩
  rw [eτ]
  rcases hres with ⟨v, hv, ev, rfl⟩ | ⟨hv, rfl⟩
  rotate_left
  · refine wn_if_eq q_X7_quotients_10 (by decide) (fun _ => ?_) (fun q => absurd q (by decide))
    exact no (Or.inl hv)
  refine wn_if_eq q_X7_quotients_10 (by decide) (fun q => absurd q (by decide)) (fun _ => ?_)
  refine wa_iload_n q_X7_quotients_13 rfl ?_
  refine wa_iconst q_X7_quotients_14 (v := 1) (by decide) ?_
  refine wa_icmp_lt q_X7_quotients_15 (fun q => no (Or.inr (Or.inl q))) (fun x1 => ?_)
  refine wa_iload_n q_X7_quotients_18 rfl ?_
  refine wa_bipush q_X7_quotients_19 (v := 40) (by decide) ?_
  refine wa_icmp_le q_X7_quotients_21 (fun x2 => ?_) (fun q => no (Or.inr (Or.inr (Int32.not_le.mp q))))
  obtain ⟨k, y1, y2, ep⟩ : ∃ p : Nat, 1 ≤ p ∧ p ≤ 40 ∧ x = nI p := by
    have t1 : (1 : Int32).toInt = 1 := by decide
    have t2 : (40 : Int32).toInt = 40 := by decide
    have z1 : ¬ x.toInt < 1 := fun q => x1 (Int32.lt_iff_toInt_lt.mpr (by rw [t1]; exact q))
    have z2 := Int32.le_iff_toInt_le.mp x2
    rw [t2] at z2
    refine ⟨x.toInt.toNat, by omega, by omega, ?_⟩
    rw [nI_iZ, Int.toNat_of_nonneg (by omega), iZ_back]
  subst ev ep
  obtain ⟨cd', C, Z, G, V, K, N1, N2, Op, Nd, Pa, Fo, g, gA, ⟨c1, c2, c3⟩, wo, ⟨v1, v2, v3⟩, wp⟩ := id h1
  obtain ⟨b0, b1, b2, b3, -⟩ := id g.1
  refine wa_aload_n q_X7_quotients_26 rfl ?_
  refine wa_iconst q_X7_quotients_27 (v := nI 0) (by decide) ?_
  refine wn_putf q_X7_quotients_28 p_RX7_167 (by assumption) (lk rfl) rfl rfl rfl (fun σ_p2 p2 f_p2 e1_p2 e2_p2 => ?_)
  have h2 := g.s0 (O' := (cd', nI cnt, nI (if hd then 1 else 0), nI qc, nI 0)) p2 f_p2
  have hA2 := gA.s0 b0 f_p2
  refine wa_iconst q_X7_quotients_31 (v := nI 2) (by decide) ?_
  refine wa_iload_n q_X7_quotients_32 rfl ?_
  refine wn_imul q_X7_quotients_33 ?_
  refine wa_bipush q_X7_quotients_34 (v := nI 10) (by decide) ?_
  refine wn_iadd q_X7_quotients_36 ?_
  refine wa_istore_n q_X7_quotients_37 (by decide) ?_
  refine wa_lv (qtr_loop (σ0 := σ) (V0 := V) hFF hFL hc hv y1 y2 wo 10 (2 * k + 10) σ_p2 C Z G V Op Nd Fo (by omega) (by omega) (by omega) (by decide) h2 hA2 (fun _ _ _ => rfl) (hF.tr (mFr.put0 f_p2 e1_p2 e2_p2)) (fun τ C' Z' G' V' Op' Nd' Fo' r1 r2 r3 r4 r5 => ?_) (fun τ C' Z' G' V' Op' Nd' Fo' Pa' q l r1 rl r0 r2 r3 r4 r7 r8 r5 => ?_)) rfl
  · rw [hQQ]
    exact ⟨r5, Or.inr ⟨v, k, hv, rfl, y1, y2, rfl, Or.inl ⟨r1, rfl, cd', C', Z', G', V', K, N1, N2, Op', Nd', Pa, Fo', r2, r3, ⟨c1, c2, by decide⟩, wo, ⟨(r4 13 (by decide) (by decide)).trans v1, (r4 14 (by decide) (by decide)).trans v2, (r4 15 (by decide) (by decide)).trans v3⟩, wp⟩⟩⟩
  · rw [hQQ]
    refine ⟨r5, Or.inr ⟨v, k, hv, rfl, y1, y2, rfl, Or.inr ⟨q, l, r1, rfl, cd', C', Z', G', V', K, N1, N2, Op', Nd', Pa', Fo', r2, r3, ⟨c1, y2, r0⟩, wo, ⟨(r4 13 (by decide) (by decide)).trans v1, (r4 14 (by decide) (by decide)).trans v2, (r4 15 (by decide) (by decide)).trans v3⟩, fun j hj => ?_⟩⟩⟩
    show Pa' j = lZ ((l[j]?).getD (qs j))
    by_cases hjk : j < k
    · rw [r7 j hjk]
      have hj2 : j < l.length := by omega
      rw [List.getElem?_eq_getElem hj2]; rfl
    · rw [r8 j (by omega), wp j hj, List.getElem?_eq_none (by omega)]; rfl
end ref41
