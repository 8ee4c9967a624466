/-! The reference: digit, length, bound, quotient, enclose -/
section ref32
variable {X : en_X} {σ τ : en_S} {M : Nat → Nat} {cnt : Nat} {kd fs sn : Nat → Nat} {A B : Nat → Int} {hd : Bool} {td lo hi : Int} {qc : Nat} {qs : Nat → Int} {sa : Nat}
theorem T_digit {w : Int32} (h : mW X σ M cnt kd fs sn A B hd td lo hi qc qs sa) : Calls X M_X7_digit [.ref (M 0), .int w] σ (fun res τ => res = some (.int (dgt td w)) ∧ mFr M σ τ ∧ mW X τ M cnt kd fs sn A B hd td lo hi qc qs sa) := by
  obtain ⟨cd, a0⟩ := h.ob
  refine Calls.of rfl (lk rfl) ?_
  refine wa_aload_n q_X7_digit_0 rfl ?_
  refine wa_iconst q_X7_digit_1 (v := nI 0) (by decide) ?_
  refine wn_putf q_X7_digit_2 p_RX7_43 (by assumption) (lk rfl) rfl rfl rfl (fun σ_p1 p1 f_p1 e1_p1 e2_p1 => ?_)
  have hF := mFr.put0 f_p1 e1_p1 e2_p1
  have h1 := h.c0 (fun _ _ => p1) f_p1
  refine wa_iload_n q_X7_digit_5 rfl ?_
  refine wa_if_ge q_X7_digit_6 (fun hx => ?_) (fun hx => ?_)
  · obtain ⟨n, hn, rfl⟩ := nI_of (Int32.not_lt.mpr hx)
    obtain ⟨cd', C, Z, G, V, K, N1, N2, Op, Nd, Pa, Fo, g, gA, gc, wo, ⟨v1, v2, v3⟩, wp⟩ := id h1
    obtain ⟨b0, b1, b2, b3, -⟩ := id g.1
    refine wa_aload_n q_X7_digit_13 rfl ?_
    refine wa_bipush q_X7_digit_14 (v := nI 13) (by decide) ?_
    refine wa_iload_n q_X7_digit_16 rfl ?_
    refine wa_callV q_X7_digit_17 g_X7_digit_17 w_X7_digitOf (by assumption) rfl (av := [_, _]) rfl rfl (lk rfl) (Calls.mono (R_dig g (r := 13) (i := n) (by decide) hn) ?_)
    rintro _ _ ⟨rfl, rfl⟩
    refine wa_iret q_X7_digit_20 rfl ?_
    rw [v1, dgt_nI hn]
    exact ⟨rfl, hF, h1⟩
  · refine wa_iconst q_X7_digit_9 (v := -1) (by decide) ?_
    refine wa_goto q_X7_digit_10 ?_
    refine wa_iret q_X7_digit_20 rfl ?_
    have e : dgt td w = -1 := if_pos (Int32.not_le.mp hx)
    rw [e]
    exact ⟨rfl, hF, h1⟩
theorem T_length (h : mW X σ M cnt kd fs sn A B hd td lo hi qc qs sa) : Calls X M_X7_length [.ref (M 0)] σ (fun res τ => ((hd = false ∧ res = some (.int (nI 0))) ∨ (hd = true ∧ ∃ c, res = some (.int (nI c)) ∧ ((td = 0 ∧ c = 1) ∨ (td ≠ 0 ∧ isD td.natAbs c)))) ∧ mFr M σ τ ∧ mW X τ M cnt kd fs sn A B hd td lo hi qc qs sa) := by
  obtain ⟨cd, a0⟩ := h.ob
  refine Calls.of rfl (lk rfl) ?_
  refine wa_aload_n q_X7_length_0 rfl ?_
  refine wa_iconst q_X7_length_1 (v := nI 0) (by decide) ?_
  refine wn_putf q_X7_length_2 p_RX7_43 (by assumption) (lk rfl) rfl rfl rfl (fun σ_p1 p1 f_p1 e1_p1 e2_p1 => ?_)
  have hF := mFr.put0 f_p1 e1_p1 e2_p1
  have h1 := h.c0 (fun _ _ => p1) f_p1
  refine wa_aload_n q_X7_length_5 rfl ?_
  refine wa_getf q_X7_length_6 f_RX7_170 (by assumption) rfl ?_
  cases hd
  · refine wn_if_eq q_X7_length_9 (by decide) (fun _ => ?_) (fun q => absurd q (by decide))
    refine wa_iconst q_X7_length_21 (v := nI 0) (by decide) ?_
    refine wa_iret q_X7_length_22 rfl ?_
    exact ⟨Or.inl ⟨rfl, rfl⟩, hF, h1⟩
  · refine wn_if_eq q_X7_length_9 (by decide) (fun q => absurd q (by decide)) (fun _ => ?_)
    obtain ⟨cd', C, Z, G, V, K, N1, N2, Op, Nd, Pa, Fo, g, gA, gc, wo, ⟨v1, v2, v3⟩, wp⟩ := id h1
    obtain ⟨b0, b1, b2, b3, -⟩ := id g.1
    refine wa_aload_n q_X7_length_12 rfl ?_
    refine wa_bipush q_X7_length_13 (v := nI 13) (by decide) ?_
    refine wa_callV q_X7_length_15 g_X7_length_15 w_X7_digitsOf (by assumption) rfl (av := [_]) rfl rfl (lk rfl) (Calls.mono (R_dof g (r := 13) (by decide)) ?_)
    rintro _ _ ⟨⟨c, rfl, -, hc⟩, rfl⟩
    rw [v1] at hc
    refine wa_goto q_X7_length_18 ?_
    refine wa_iret q_X7_length_22 rfl ?_
    exact ⟨Or.inr ⟨rfl, c, rfl, hc⟩, hF, h1⟩
theorem T_bound {w i : Int32} (h : mW X σ M cnt kd fs sn A B hd td lo hi qc qs sa) : Calls X M_X7_bound [.ref (M 0), .int w, .int i] σ (fun res τ => res = some (.int (bnd lo hi w i)) ∧ mFr M σ τ ∧ mW X τ M cnt kd fs sn A B hd td lo hi qc qs sa) := by
  obtain ⟨cd, a0⟩ := h.ob
  refine Calls.of rfl (lk rfl) ?_
  refine wa_aload_n q_X7_bound_0 rfl ?_
  refine wa_iconst q_X7_bound_1 (v := nI 0) (by decide) ?_
  refine wn_putf q_X7_bound_2 p_RX7_43 (by assumption) (lk rfl) rfl rfl rfl (fun σ_p1 p1 f_p1 e1_p1 e2_p1 => ?_)
  have hF := mFr.put0 f_p1 e1_p1 e2_p1
  have h1 := h.c0 (fun _ _ => p1) f_p1
  have no : (w < 0 ∨ 1 < w ∨ i < -1) → WA X M_X7_bound σ 19 (lv_args 0 [.ref (M 0), .int w, .int i]) [] σ_p1 (fun res τ => res = some (.int (bnd lo hi w i)) ∧ mFr M σ τ ∧ mW X τ M cnt kd fs sn A B hd td lo hi qc qs sa) := by
    intro hq
    refine wa_iconst q_X7_bound_19 (v := -1) (by decide) ?_
    refine wa_iret q_X7_bound_20 rfl ?_
    have e : bnd lo hi w i = -1 := if_pos hq
    rw [e]
    exact ⟨rfl, hF, h1⟩
  refine wa_iload_n q_X7_bound_5 rfl ?_
  refine wa_if_lt q_X7_bound_6 (fun q => no (Or.inl q)) (fun x1 => ?_)
  refine wa_iload_n q_X7_bound_9 rfl ?_
  refine wa_iconst q_X7_bound_10 (v := 1) (by decide) ?_
  refine wa_icmp_gt q_X7_bound_11 (fun q => no (Or.inr (Or.inl q))) (fun x2 => ?_)
  refine wa_iload_n q_X7_bound_14 rfl ?_
  refine wa_iconst q_X7_bound_15 (v := -1) (by decide) ?_
  refine wa_icmp_ge q_X7_bound_16 (fun x3 => ?_) (fun q => no (Or.inr (Or.inr (Int32.not_le.mp q))))
  obtain ⟨n, hn, rfl⟩ := nI_of x1
  have hn1 : n ≤ 1 := by
    have : ¬ nI 1 < nI n := x2
    have := mt (nI_ltI (by decide) hn).mpr this
    omega
  have hb : ∀ y : Int32, ¬ (nI n < 0 ∨ 1 < nI n ∨ i < -1) := fun _ q => by
    rcases q with q | q | q
    · exact x1 q
    · exact x2 q
    · exact (Int32.not_lt.mpr x3) q
  have e0 : bnd lo hi (nI n) i = if i = -1 then sgI (if nI n = 0 then lo else hi) else dgt (if nI n = 0 then lo else hi) i := if_neg (hb 0)
  obtain ⟨cd', C, Z, G, V, K, N1, N2, Op, Nd, Pa, Fo, g, gA, gc, wo, ⟨v1, v2, v3⟩, wp⟩ := id h1
  have ev : V (14 + n) = if nI n = 0 then lo else hi := by
    have : n = 0 ∨ n = 1 := by omega
    rcases this with q | q <;> subst q
    · rw [if_pos (by decide)]; exact v2
    · rw [if_neg (by decide)]; exact v3
  rw [← ev] at e0
  obtain ⟨b0, b1, b2, b3, -⟩ := id g.1
  refine wa_iload_n q_X7_bound_21 rfl ?_
  refine wa_if_ge q_X7_bound_22 (fun y => ?_) (fun y => ?_)
  · obtain ⟨m, hm, rfl⟩ := nI_of (Int32.not_lt.mpr y)
    refine wa_aload_n q_X7_bound_37 rfl ?_
    refine wa_bipush q_X7_bound_38 (v := nI 14) (by decide) ?_
    refine wa_iload_n q_X7_bound_40 rfl ?_
    refine wn_iadd q_X7_bound_41 ?_
    refine wa_iload_n q_X7_bound_42 rfl ?_
    refine wa_callV q_X7_bound_43 g_X7_bound_43 w_X7_digitOf (by assumption) rfl (av := [_, _]) rfl rfl (lk rfl) (Calls.mono (R_dig g (r := 14 + n) (i := m) (by omega) hm) ?_)
    rintro _ _ ⟨rfl, rfl⟩
    refine wa_iret q_X7_bound_46 rfl ?_
    rw [e0, if_neg (fun q => by rw [q] at y; exact absurd y (by decide)), dgt_nI hm]
    exact ⟨rfl, hF, h1⟩
  · have hi1 : i = -1 := by
      have q1 : i < 0 := Int32.not_le.mp y
      have t1 := Int32.lt_iff_toInt_lt.mp q1
      have t2 := Int32.le_iff_toInt_le.mp x3
      rw [show (0 : Int32).toInt = 0 from by decide] at t1
      rw [show (-1 : Int32).toInt = -1 from by decide] at t2
      rw [← iZ_back i, show i.toInt = -1 by omega]; rfl
    refine wa_aload_n q_X7_bound_25 rfl ?_
    refine wa_getf q_X7_bound_26 f_RX7_17 (by assumption) rfl ?_
    refine wa_bipush q_X7_bound_29 (v := nI 14) (by decide) ?_
    refine wa_iload_n q_X7_bound_31 rfl ?_
    refine wn_iadd q_X7_bound_32 ?_
    refine wn_gald q_X7_bound_33 (by assumption) (by omega) ?_
    rw [(g.2 (14 + n) (by omega)).1]
    refine wa_goto q_X7_bound_34 ?_
    refine wa_iret q_X7_bound_46 rfl ?_
    rw [e0, if_pos hi1]
    exact ⟨rfl, hF, h1⟩
theorem T_quot {w : Int32} (h : mW X σ M cnt kd fs sn A B hd td lo hi qc qs sa) : Calls X M_X7_quotient [.ref (M 0), .int w] σ (fun res τ => res = some (.long (qot qc qs w)) ∧ mFr M σ τ ∧ mW X τ M cnt kd fs sn A B hd td lo hi qc qs sa) := by
  obtain ⟨cd, a0⟩ := h.ob
  refine Calls.of rfl (lk rfl) ?_
  refine wa_aload_n q_X7_quotient_0 rfl ?_
  refine wa_iconst q_X7_quotient_1 (v := nI 0) (by decide) ?_
  refine wn_putf q_X7_quotient_2 p_RX7_43 (by assumption) (lk rfl) rfl rfl rfl (fun σ_p1 p1 f_p1 e1_p1 e2_p1 => ?_)
  have hF := mFr.put0 f_p1 e1_p1 e2_p1
  have h1 := h.c0 (fun _ _ => p1) f_p1
  obtain ⟨cd', C, Z, G, V, K, N1, N2, Op, Nd, Pa, Fo, g, gA, ⟨c1, c2, c3⟩, wo, wv, wp⟩ := id h1
  obtain ⟨k4, k5, k6, k7, k8, k11, k14, hD⟩ := id gA
  have no : (w < 0 ∨ nI qc ≤ w) → WA X M_X7_quotient σ 17 (lv_args 0 [.ref (M 0), .int w]) [] σ_p1 (fun res τ => res = some (.long (qot qc qs w)) ∧ mFr M σ τ ∧ mW X τ M cnt kd fs sn A B hd td lo hi qc qs sa) := by
    intro hq
    refine wa_lconst q_X7_quotient_17 (v := 0) (by decide) ?_
    refine wa_goto q_X7_quotient_18 ?_
    refine wa_lret q_X7_quotient_27 rfl ?_
    have e : qot qc qs w = 0 := if_pos hq
    rw [e]
    exact ⟨rfl, hF, h1⟩
  refine wa_iload_n q_X7_quotient_5 rfl ?_
  refine wa_if_lt q_X7_quotient_6 (fun q => no (Or.inl q)) (fun x1 => ?_)
  refine wa_iload_n q_X7_quotient_9 rfl ?_
  refine wa_aload_n q_X7_quotient_10 rfl ?_
  refine wa_getf q_X7_quotient_11 f_RX7_184 (by assumption) rfl ?_
  refine wa_icmp_lt q_X7_quotient_14 (fun x2 => ?_) (fun q => no (Or.inr (Int32.not_lt.mp q)))
  obtain ⟨n, hn, rfl⟩ := nI_of x1
  have hlt : n < qc := (nI_ltI hn (by omega)).mp x2
  refine wa_aload_n q_X7_quotient_21 rfl ?_
  refine wa_getf q_X7_quotient_22 f_RX7_37 (by assumption) rfl ?_
  refine wa_iload_n q_X7_quotient_25 rfl ?_
  refine wn_glald q_X7_quotient_26 k11 (by omega) ?_
  rw [wp n (by omega)]
  refine wa_lret q_X7_quotient_27 rfl ?_
  have e : qot qc qs (nI n) = lZ (qs n) := by
    unfold qot
    rw [if_neg (fun q => q.elim x1 (fun q => Int32.not_le.mpr x2 q)), nI_clamp hn]
  rw [e]
  exact ⟨rfl, hF, h1⟩
theorem T_enclose {w x : Int32} (hFF : FFok) (hFL : FLok) (h : mW X σ M cnt kd fs sn A B hd td lo hi qc qs sa) :
    Calls X M_X7_enclose [.ref (M 0), .int w, .int x] σ (fun res τ => mFr M σ τ ∧ ((((∀ v, v < cnt → w ≠ nI v) ∨ x < 1 ∨ 480 < x) ∧ res = some (.int (-1)) ∧ mW X τ M cnt kd fs sn A B hd td lo hi qc qs sa) ∨ (∃ v p, v < cnt ∧ w = nI v ∧ 1 ≤ p ∧ p ≤ 480 ∧ x = nI p ∧ ((enc kd fs sn A B p v = none ∧ res = some (.int (-3)) ∧ mW X τ M cnt kd fs sn A B hd td lo hi qc qs sa) ∨ (∃ L H, enc kd fs sn A B p v = some (L, H) ∧ res = some (.int (nI 1)) ∧ mW X τ M cnt kd fs sn A B hd td L H qc qs sa))))) := by
  obtain ⟨cd, a0⟩ := h.ob
  have hc := h.c60
  obtain ⟨QQ, hQQ⟩ : ∃ QQ : Option Value → en_S → Prop, QQ = (fun res τ => mFr M σ τ ∧ ((((∀ v, v < cnt → w ≠ nI v) ∨ x < 1 ∨ 480 < x) ∧ res = some (.int (-1)) ∧ mW X τ M cnt kd fs sn A B hd td lo hi qc qs sa) ∨ (∃ v p, v < cnt ∧ w = nI v ∧ 1 ≤ p ∧ p ≤ 480 ∧ x = nI p ∧ ((enc kd fs sn A B p v = none ∧ res = some (.int (-3)) ∧ mW X τ M cnt kd fs sn A B hd td lo hi qc qs sa) ∨ (∃ L H, enc kd fs sn A B p v = some (L, H) ∧ res = some (.int (nI 1)) ∧ mW X τ M cnt kd fs sn A B hd td L H qc qs sa))))) := ⟨_, rfl⟩
  rw [← hQQ]
  refine Calls.of rfl (lk rfl) ?_
  refine wa_aload_n q_X7_enclose_0 rfl ?_
  refine wa_iconst q_X7_enclose_1 (v := nI 0) (by decide) ?_
  refine wn_putf q_X7_enclose_2 p_RX7_43 (by assumption) (lk rfl) rfl rfl rfl (fun σ_p1 p1 f_p1 e1_p1 e2_p1 => ?_)
  have hF := mFr.put0 f_p1 e1_p1 e2_p1
  have h1 := h.c0 (fun _ _ => p1) f_p1
  have no : ((∀ v, v < cnt → w ≠ nI v) ∨ x < 1 ∨ 480 < x) → WA X M_X7_enclose σ 25 (lv_args 0 [.ref (M 0), .int w, .int x]) [] σ_p1 QQ := by
    intro hq
    refine wa_iconst q_X7_enclose_25 (v := -1) (by decide) ?_
    refine wa_iret q_X7_enclose_26 rfl ?_
    rw [hQQ]
    exact ⟨hF, Or.inl ⟨hq, rfl, h1⟩⟩
  refine wa_aload_n q_X7_enclose_5 rfl ?_
  refine wa_iload_n q_X7_enclose_6 rfl ?_
  refine wa_callV q_X7_enclose_7 g_X7_enclose_7 w_X7_isValue (by assumption) rfl (av := [_]) rfl rfl (lk rfl) (Calls.mono (R_isVal p1 hc) ?_)
  rintro _ τ1 ⟨hres, eτ⟩
  rw [eτ]
  rcases hres with ⟨v, hv, ev, rfl⟩ | ⟨hv, rfl⟩
  rotate_left
  · refine wn_if_eq q_X7_enclose_10 (by decide) (fun _ => ?_) (fun q => absurd q (by decide))
    exact no (Or.inl hv)
  refine wn_if_eq q_X7_enclose_10 (by decide) (fun q => absurd q (by decide)) (fun _ => ?_)
  refine wa_iload_n q_X7_enclose_13 rfl ?_
  refine wa_iconst q_X7_enclose_14 (v := 1) (by decide) ?_
  refine wa_icmp_lt q_X7_enclose_15 (fun q => no (Or.inr (Or.inl q))) (fun x1 => ?_)
  refine wa_iload_n q_X7_enclose_18 rfl ?_
  refine wa_sipush q_X7_enclose_19 (v := 480) (by decide) ?_
  refine wa_icmp_le q_X7_enclose_22 (fun x2 => ?_) (fun q => no (Or.inr (Or.inr (Int32.not_le.mp q))))
  obtain ⟨p, y1, y2, ep⟩ : ∃ p : Nat, 1 ≤ p ∧ p ≤ 480 ∧ x = nI p := by
    have t1 : (1 : Int32).toInt = 1 := by decide
    have t2 : (480 : Int32).toInt = 480 := by decide
    have z1 : ¬ x.toInt < 1 := fun q => x1 (Int32.lt_iff_toInt_lt.mpr (by rw [t1]; exact q))
    have z2 := Int32.le_iff_toInt_le.mp x2
    rw [t2] at z2
    refine ⟨x.toInt.toNat, by omega, by omega, ?_⟩
    rw [nI_iZ, Int.toNat_of_nonneg (by omega), iZ_back]
  subst ev ep
  obtain ⟨cd', C, Z, G, V, K, N1, N2, Op, Nd, Pa, Fo, g, gA, gc, wo, ⟨v1, v2, v3⟩, wp⟩ := id h1
  refine wa_aload_n q_X7_enclose_27 rfl ?_
  refine wa_iload_n q_X7_enclose_28 rfl ?_
  refine wa_iload_n q_X7_enclose_29 rfl ?_
  refine wa_callV q_X7_enclose_30 g_X7_enclose_30 w_X7_isEnclosed (by assumption) rfl (av := [_, _]) rfl rfl (lk rfl) (Calls.mono (R_encl hFF hFL g gA rfl hc hv wo y1 y2) ?_)
  intro res τ hq
  obtain ⟨C2, Z2, G2, V2, Op2, Nd2, h2, hA2, o2, hF2, hq⟩ := hq
  have i13 : V2 13 = td := (o2 13 (by decide) (by decide)).trans v1
  cases he : enc kd fs sn A B p v with
  | none =>
    rw [he] at hq
    have hq : res = some (.int (nI 0)) := hq
    subst hq
    refine wn_if_ne q_X7_enclose_33 (by decide) (fun q => absurd q (by decide)) (fun _ => ?_)
    refine wa_bipush q_X7_enclose_36 (v := -3) (by decide) ?_
    refine wa_iret q_X7_enclose_38 rfl ?_
    rw [hQQ]
    exact ⟨hF.tr hF2, Or.inr ⟨v, p, hv, rfl, y1, y2, rfl, Or.inl ⟨he, rfl, cd', C2, Z2, G2, V2, K, N1, N2, Op2, Nd2, Pa, Fo, h2, hA2, gc, wo, ⟨i13, (o2 14 (by decide) (by decide)).trans v2, (o2 15 (by decide) (by decide)).trans v3⟩, wp⟩⟩⟩
  | some q =>
    rw [he] at hq
    obtain ⟨q0, q1, q2⟩ := hq
    subst q0
    obtain ⟨b0, b1, b2, b3, -⟩ := id h2.1
    refine wn_if_ne q_X7_enclose_33 (by decide) (fun _ => ?_) (fun q => absurd q (by decide))
    refine wa_aload_n q_X7_enclose_39 rfl ?_
    refine wa_iload_n q_X7_enclose_40 rfl ?_
    refine wa_callS q_X7_enclose_41 g_X7_enclose_41 w_X7_low (av := [_]) rfl rfl (lk rfl) (Calls.mono R_low ?_)
    rintro _ _ ⟨rfl, rfl⟩
    refine wa_bipush q_X7_enclose_44 (v := nI 14) (by decide) ?_
    refine wa_callV q_X7_enclose_46 g_X7_enclose_46 w_X7_copyTo (by assumption) rfl (av := [_, _]) rfl rfl (lk rfl) (Calls.mono (R_copy h2 (a := 20 + 2 * v) (b := 14) (by omega) (by decide)) ?_)
    rintro _ σ3 ⟨rfl, C3, Z3, G3, h3, s3⟩
    obtain ⟨c0, c1, c2, c3, -⟩ := id h3.1
    refine wa_aload_n q_X7_enclose_49 rfl ?_
    refine wa_iload_n q_X7_enclose_50 rfl ?_
    refine wa_callS q_X7_enclose_51 g_X7_enclose_51 w_X7_low (av := [_]) rfl rfl (lk rfl) (Calls.mono R_low ?_)
    rintro _ _ ⟨rfl, rfl⟩
    refine wa_iconst q_X7_enclose_54 (v := nI 1) (by decide) ?_
    refine wn_iadd q_X7_enclose_55 ?_
    refine wa_bipush q_X7_enclose_56 (v := nI 15) (by decide) ?_
    refine wa_callV q_X7_enclose_58 g_X7_enclose_58 w_X7_copyTo (by assumption) rfl (av := [_, _]) rfl rfl (lk rfl) (Calls.mono (R_copy h3 (a := 20 + 2 * v + 1) (b := 15) (by omega) (by decide)) ?_)
    rintro _ σ4 ⟨rfl, C4, Z4, G4, h4, s4⟩
    refine wa_iconst q_X7_enclose_61 (v := nI 1) (by decide) ?_
    refine wa_iret q_X7_enclose_62 rfl ?_
    rw [hQQ]
    refine ⟨hF.tr (hF2.tr (s3.fr.tr s4.fr)), Or.inr ⟨v, p, hv, rfl, y1, y2, rfl, Or.inr ⟨q.1, q.2, he, rfl, cd', C4, Z4, G4, _, K, N1, N2, Op2, Nd2, Pa, Fo, h4, (hA2.st s3).st s4, gc, wo, ⟨?_, ?_, ?_⟩, wp⟩⟩⟩
    · rw [uV_n (by decide), uV_n (by decide)]; exact i13
    · rw [uV_n (by decide), uV_s]; exact q1
    · rw [uV_s, uV_n (by omega)]; exact q2
end ref32
