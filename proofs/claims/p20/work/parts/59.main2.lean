/-! EnclosedDigits: the short methods -/
/-- a digit as it is asked for -/
def dgt (v : Int) (w : Int32) : Int32 := if w < 0 then -1 else nI (v.natAbs / 10 ^ w.toNatClampNeg % 10)
theorem dgt_nI {v : Int} {i : Nat} (hi : i < 2 ^ 31) : dgt v (nI i) = nI (v.natAbs / 10 ^ i % 10) := by
  unfold dgt
  rw [if_neg (nI_pos hi), nI_clamp hi]
section main2
variable {X : en_X} {σ τ : en_S} {ms me : Nat} {K : Nat → Nat} {cnt : Nat} {kd fs sn : Nat → Nat} {A B : Nat → Int} {tl qc : Nat} {td lo hi : Int} {qs : Nat → Int} {sa P0 P1 : Nat}
abbrev cWx (X : en_X) (σ : en_S) (ms me : Nat) (K : Nat → Nat) (cnt : Nat) (kd fs sn : Nat → Nat) (A B : Nat → Int) (tl : Nat) (td lo hi : Int) (qc : Nat) (qs : Nat → Int) (sa P0 P1 : Nat) : Prop := cW X σ ms me K cnt kd fs sn A B tl td lo hi qc qs sa P0 P1
theorem cW.c60 (h : cW X σ ms me K cnt kd fs sn A B tl td lo hi qc qs sa P0 P1) : cnt ≤ 60 := by
  obtain ⟨z, va, mk, S, U, at', op, fa, o1, u1, r1, o2, u2, r2, g, h, -⟩ := h
  have h1 := h.2.2.2.2.1.1
  have h2 := h.2.1.2.2.2.1.2.2.2.2.1
  omega
theorem cW.ob (h : cW X σ ms me K cnt kd fs sn A B tl td lo hi qc qs sa P0 P1) : ∃ a b c d e f, look σ (K 0) = some (mE (K 1) cnt (K 2) a b c tl d e (K 5) (K 6) (K 7) (K 8) qc sa) ∧ f < 1 := by
  obtain ⟨z, va, mk, S, U, at', op, fa, o1, u1, r1, o2, u2, r2, g, h, -⟩ := h
  exact ⟨_, _, _, _, _, 0, h.1.1, by decide⟩
theorem H_isVal {w : Int32} (h : cW X σ ms me K cnt kd fs sn A B tl td lo hi qc qs sa P0 P1) : Calls X M_X6_isValue [.ref (K 0), .int w] σ (fun res τ => ((∃ v, v < cnt ∧ w = nI v ∧ res = some (.int (nI 1))) ∨ ((∀ v, v < cnt → w ≠ nI v) ∧ res = some (.int (nI 0)))) ∧ τ = σ) := by
  have hc := h.c60
  obtain ⟨a, b, c, d, e, f, ho, -⟩ := h.ob
  refine Calls.of rfl (lk rfl) ?_
  refine wa_iload_n q_X6_isValue_0 rfl ?_
  refine wa_if_lt q_X6_isValue_1 (fun hx => ?_) (fun hx => ?_)
  · refine wa_iconst q_X6_isValue_16 (v := nI 0) (by decide) ?_
    refine wa_zret q_X6_isValue_17 rfl rfl ?_
    exact ⟨Or.inr ⟨fun v hv e => nI_pos (n := v) (by omega) (e ▸ hx), rfl⟩, rfl⟩
  · obtain ⟨n, hn, rfl⟩ := nI_of hx
    refine wa_iload_n q_X6_isValue_4 rfl ?_
    refine wa_aload_n q_X6_isValue_5 rfl ?_
    refine wa_getf q_X6_isValue_6 f_RX6_67 (by assumption) rfl ?_
    refine wn_icmp_ge q_X6_isValue_9 (by omega) (by omega) (fun hy => ?_) (fun hy => ?_)
    · refine wa_iconst q_X6_isValue_16 (v := nI 0) (by decide) ?_
      refine wa_zret q_X6_isValue_17 rfl rfl ?_
      exact ⟨Or.inr ⟨fun v hv e => by have := (nI_eq hn (by omega)).mp e; omega, rfl⟩, rfl⟩
    · refine wa_iconst q_X6_isValue_12 (v := nI 1) (by decide) ?_
      refine wa_goto q_X6_isValue_13 ?_
      refine wa_zret q_X6_isValue_17 rfl rfl ?_
      exact ⟨Or.inl ⟨n, hy, rfl, rfl⟩, rfl⟩
theorem H_values (h : cW X σ ms me K cnt kd fs sn A B tl td lo hi qc qs sa P0 P1) : Calls X M_X6_values [.ref (K 0)] σ (fun res τ => res = some (.int (nI cnt)) ∧ τ = σ) := by
  obtain ⟨a, b, c, d, e, f, ho, -⟩ := h.ob
  refine Calls.of rfl (lk rfl) ?_
  refine wa_aload_n q_X6_values_0 rfl ?_
  refine wa_getf q_X6_values_1 f_RX6_67 (by assumption) rfl ?_
  refine wa_iret q_X6_values_4 rfl ?_
  exact ⟨rfl, rfl⟩
theorem H_length (h : cW X σ ms me K cnt kd fs sn A B tl td lo hi qc qs sa P0 P1) : Calls X M_X6_length [.ref (K 0)] σ (fun res τ => res = some (.int (nI tl)) ∧ τ = σ) := by
  obtain ⟨a, b, c, d, e, f, ho, -⟩ := h.ob
  refine Calls.of rfl (lk rfl) ?_
  refine wa_aload_n q_X6_length_0 rfl ?_
  refine wa_getf q_X6_length_1 f_RX6_96 (by assumption) rfl ?_
  refine wa_iret q_X6_length_4 rfl ?_
  exact ⟨rfl, rfl⟩
theorem H_many (h : cW X σ ms me K cnt kd fs sn A B tl td lo hi qc qs sa P0 P1) : Calls X M_X6_many [.ref (K 0)] σ (fun res τ => res = some (.int (nI qc)) ∧ τ = σ) := by
  obtain ⟨a, b, c, d, e, f, ho, -⟩ := h.ob
  refine Calls.of rfl (lk rfl) ?_
  refine wa_aload_n q_X6_many_0 rfl ?_
  refine wa_getf q_X6_many_1 f_RX6_130 (by assumption) rfl ?_
  refine wa_iret q_X6_many_4 rfl ?_
  exact ⟨rfl, rfl⟩
theorem H_prec (h : cW X σ ms me K cnt kd fs sn A B tl td lo hi qc qs sa P0 P1) : Calls X M_X6_precision [.ref (K 0)] σ (fun res τ => res = some (.int (nI sa)) ∧ τ = σ) := by
  obtain ⟨a, b, c, d, e, f, ho, -⟩ := h.ob
  refine Calls.of rfl (lk rfl) ?_
  refine wa_aload_n q_X6_precision_0 rfl ?_
  refine wa_getf q_X6_precision_1 f_RX6_71 (by assumption) rfl ?_
  refine wa_iret q_X6_precision_4 rfl ?_
  exact ⟨rfl, rfl⟩
theorem Z_digit {z : Nat → Nat} {N : Nat} {S : Nat → en_B} {U : Nat → Int} {i j : Nat} (h : zW X z N σ S U) (hj : j < N) (hi : i < 2 ^ 31) : Calls X M_X1_digitAt [.ref (z j), .int (nI i)] σ (fun res τ => res = some (.int (nI ((U j).natAbs / 10 ^ i % 10))) ∧ τ = σ) := by
  obtain ⟨h0, V, h1, h2⟩ := h
  have := V_digitAt h1 (zD_m hj) hi
  rw [h2 j hj] at this
  exact this
theorem H_digit {w : Int32} (h : cW X σ ms me K cnt kd fs sn A B tl td lo hi qc qs sa P0 P1) : Calls X M_X6_digit [.ref (K 0), .int w] σ (fun res τ => res = some (.int (dgt td w)) ∧ τ = σ) := by
  obtain ⟨z, va, mk, S, U, at', op, fa, o1, u1, r1, o2, u2, r2, g, hw, e1, e2, e3⟩ := h
  have ho := hw.1.1
  have hz := hw.2.1.1
  refine Calls.of rfl (lk rfl) ?_
  refine wa_iload_n q_X6_digit_0 rfl ?_
  refine wa_if_ge q_X6_digit_1 (fun hx => ?_) (fun hx => ?_)
  · obtain ⟨n, hn, rfl⟩ := nI_of (Int32.not_lt.mpr hx)
    have i1 := hz.big (i := 17) (by omega)
    refine wa_aload_n q_X6_digit_8 rfl ?_
    refine wa_getf q_X6_digit_9 f_RX6_32 (by assumption) rfl ?_
    refine wa_iload_n q_X6_digit_12 rfl ?_
    refine wa_callV q_X6_digit_13 g_X6_digit_13 w_X1_digitAt (by assumption) rfl (av := [_]) rfl rfl (lk rfl) (Calls.mono (Z_digit hz (j := 17) (by omega) hn) ?_)
    rintro _ _ ⟨rfl, rfl⟩
    refine wa_iret q_X6_digit_16 rfl ?_
    exact ⟨by rw [dgt_nI hn, e1], rfl⟩
  · refine wa_iconst q_X6_digit_4 (v := -1) (by decide) ?_
    refine wa_goto q_X6_digit_5 ?_
    refine wa_iret q_X6_digit_16 rfl ?_
    refine ⟨?_, rfl⟩
    unfold dgt
    rw [if_pos (Int32.not_le.mp hx)]
/-- a bound as it is asked for -/
def bnd (lo hi : Int) (w i : Int32) : Int32 := if w < 0 ∨ 1 < w ∨ i < -1 then -1 else if i = -1 then sgI (if w = 0 then lo else hi) else dgt (if w = 0 then lo else hi) i
theorem H_bound {w i : Int32} (h : cW X σ ms me K cnt kd fs sn A B tl td lo hi qc qs sa P0 P1) : Calls X M_X6_bound [.ref (K 0), .int w, .int i] σ (fun res τ => res = some (.int (bnd lo hi w i)) ∧ τ = σ) := by
  obtain ⟨z, va, mk, S, U, at', op, fa, o1, u1, r1, o2, u2, r2, g, hw, e1, e2, e3⟩ := h
  have ho := hw.1.1
  have hz := hw.2.1.1
  have no : (w < 0 ∨ 1 < w ∨ i < -1) → WA X M_X6_bound σ 14 (lv_args 0 [.ref (K 0), .int w, .int i]) [] σ (fun res τ => res = some (.int (bnd lo hi w i)) ∧ τ = σ) := by
    intro hc
    refine wa_iconst q_X6_bound_14 (v := -1) (by decide) ?_
    refine wa_iret q_X6_bound_15 rfl ?_
    exact ⟨by unfold bnd; rw [if_pos hc], rfl⟩
  have yes : ∀ j, (j = 18 ∨ j = 19) → ¬ (w < 0 ∨ 1 < w ∨ i < -1) → U j = (if w = 0 then lo else hi) → WA X M_X6_bound σ 32 ((3, .ref (z j)) :: lv_args 0 [.ref (K 0), .int w, .int i]) [] σ (fun res τ => res = some (.int (bnd lo hi w i)) ∧ τ = σ) := by
    intro j hj hc hU
    have i1 := hz.big (i := j) (by omega)
    refine wa_iload_n q_X6_bound_32 rfl ?_
    refine wa_iconst q_X6_bound_33 (v := -1) (by decide) ?_
    refine wa_icmp_ne q_X6_bound_34 (fun hx => ?_) (fun hx => ?_)
    · have hp : ¬ i < 0 := by
        have : ¬ i < -1 := fun q => hc (Or.inr (Or.inr q))
        intro q
        have q1 := Int32.lt_iff_toInt_lt.mp q
        have q2 : ¬ i.toInt < (-1 : Int32).toInt := fun y => this (Int32.lt_iff_toInt_lt.mpr y)
        have q3 : (-1 : Int32).toInt = -1 := by decide
        have q4 : (0 : Int32).toInt = 0 := by decide
        exact hx (Int32.toInt_inj.mp (by omega))
      obtain ⟨n, hn, rfl⟩ := nI_of hp
      refine wa_aload_n q_X6_bound_44 rfl ?_
      refine wa_iload_n q_X6_bound_45 rfl ?_
      refine wa_callV q_X6_bound_46 g_X6_bound_46 w_X1_digitAt (by assumption) rfl (av := [_]) rfl rfl (lk rfl) (Calls.mono (Z_digit hz (j := j) (by omega) hn) ?_)
      rintro _ _ ⟨rfl, rfl⟩
      refine wa_iret q_X6_bound_49 rfl ?_
      refine ⟨?_, rfl⟩
      unfold bnd
      rw [if_neg hc, if_neg hx, dgt_nI hn, hU]
    · refine wa_aload_n q_X6_bound_37 rfl ?_
      refine wa_getf q_X6_bound_38 f_RX6_99 (by assumption) rfl ?_
      refine wa_goto q_X6_bound_41 ?_
      refine wa_iret q_X6_bound_49 rfl ?_
      refine ⟨?_, rfl⟩
      unfold bnd
      rw [if_neg hc, if_pos hx, hU]
  refine Calls.of rfl (lk rfl) ?_
  refine wa_iload_n q_X6_bound_0 rfl ?_
  refine wa_if_lt q_X6_bound_1 (fun hx => no (Or.inl hx)) (fun hx => ?_)
  refine wa_iload_n q_X6_bound_4 rfl ?_
  refine wa_iconst q_X6_bound_5 (v := nI 1) (by decide) ?_
  refine wa_icmp_gt q_X6_bound_6 (fun hy => no (Or.inr (Or.inl hy))) (fun hy => ?_)
  refine wa_iload_n q_X6_bound_9 rfl ?_
  refine wa_iconst q_X6_bound_10 (v := -1) (by decide) ?_
  refine wa_icmp_ge q_X6_bound_11 (fun hv => ?_) (fun hv => ?_)
  · have hc : ¬ (w < 0 ∨ 1 < w ∨ i < -1) := fun q => by
      rcases q with q | q | q
      · exact hx q
      · exact hy q
      · exact (Int32.not_lt.mpr hv) q
    refine wa_iload_n q_X6_bound_16 rfl ?_
    refine wa_if_ne q_X6_bound_17 (fun hu => ?_) (fun hu => ?_)
    · refine wa_aload_n q_X6_bound_27 rfl ?_
      refine wa_getf q_X6_bound_28 f_RX6_38 (by assumption) rfl ?_
      refine wa_astore_n q_X6_bound_31 (by decide) ?_
      exact wa_lv (yes 19 (Or.inr rfl) hc (by rw [if_neg hu]; exact e3)) rfl
    · refine wa_aload_n q_X6_bound_20 rfl ?_
      refine wa_getf q_X6_bound_21 f_RX6_35 (by assumption) rfl ?_
      refine wa_goto q_X6_bound_24 ?_
      refine wa_astore_n q_X6_bound_31 (by decide) ?_
      exact wa_lv (yes 18 (Or.inl rfl) hc (by rw [if_pos hu]; exact e2)) rfl
  · exact no (Or.inr (Or.inr (Int32.not_le.mp hv)))
/-- a quotient as it is asked for -/
def qot (qc : Nat) (qs : Nat → Int) (w : Int32) : Int64 := if w < 0 ∨ nI qc ≤ w then 0 else lZ (qs w.toNatClampNeg)
theorem wn_lald {y : en_M} {ρ : en_S} {pc nx : Nat} {lv : List (Nat × Value)} {st : List Value} {Q : Option Value → en_S → Prop} {a n j : Nat} {g : Nat → Int64} (q : decode y.2.1 pc = .ok (.laload, 1) ∧ pc + 1 = nx) (h : look σ a = some (lA X n g)) (hj : j < n) (hn : n < 2 ^ 31) (k : WA X y ρ nx lv (.long (g j) :: st) σ Q) : WA X y ρ pc lv (.int (nI j) :: .ref a :: st) σ Q :=
  wa_lald q h (vp_in_nI hj hn) (by rw [nI_clamp (by omega)]; exact k)
theorem H_quot {w : Int32} (h : cW X σ ms me K cnt kd fs sn A B tl td lo hi qc qs sa P0 P1) : Calls X M_X6_quotient [.ref (K 0), .int w] σ (fun res τ => res = some (.long (qot qc qs w)) ∧ τ = σ) := by
  obtain ⟨z, va, mk, S, U, at', op, fa, o1, u1, r1, o2, u2, r2, g, hw, e1, e2, e3⟩ := h
  have ho := hw.1.1
  have htq := hw.2.2.2.1.1
  have hqc := hw.2.2.2.2.1.2.2.2.1
  have no : (w < 0 ∨ nI qc ≤ w) → WA X M_X6_quotient σ 12 (lv_args 0 [.ref (K 0), .int w]) [] σ (fun res τ => res = some (.long (qot qc qs w)) ∧ τ = σ) := by
    intro hc
    refine wa_lconst q_X6_quotient_12 (v := lN 0) (by decide) ?_
    refine wa_goto q_X6_quotient_13 ?_
    refine wa_lret q_X6_quotient_22 rfl ?_
    exact ⟨by unfold qot; rw [if_pos hc]; rfl, rfl⟩
  refine Calls.of rfl (lk rfl) ?_
  refine wa_iload_n q_X6_quotient_0 rfl ?_
  refine wa_if_lt q_X6_quotient_1 (fun hx => no (Or.inl hx)) (fun hx => ?_)
  obtain ⟨n, hn, rfl⟩ := nI_of hx
  refine wa_iload_n q_X6_quotient_4 rfl ?_
  refine wa_aload_n q_X6_quotient_5 rfl ?_
  refine wa_getf q_X6_quotient_6 f_RX6_130 (by assumption) rfl ?_
  refine wn_icmp_lt q_X6_quotient_9 (by omega) (by omega) (fun hy => ?_) (fun hy => ?_)
  · refine wa_aload_n q_X6_quotient_16 rfl ?_
    refine wa_getf q_X6_quotient_17 f_RX6_51 (by assumption) rfl ?_
    refine wa_iload_n q_X6_quotient_20 rfl ?_
    refine wn_lald q_X6_quotient_21 htq (by omega) (by decide) ?_
    refine wa_lret q_X6_quotient_22 rfl ?_
    refine ⟨?_, rfl⟩
    unfold qot
    rw [if_neg (fun q => ?_), nI_clamp hn]
    rcases q with q | q
    · exact hx q
    · have := (nI_leI (by omega) hn).mp q
      omega
  · exact no (Or.inr ((nI_leI (by omega) hn).mpr hy))
theorem H_drop {w : Int32} (h : cW X σ ms me K cnt kd fs sn A B tl td lo hi qc qs sa P0 P1) : Calls X M_X6_drop [.ref (K 0), .int w] σ (fun res τ => ((w < 0 ∨ nI cnt < w) ∧ res = some (.int (-1)) ∧ τ = σ) ∨ (∃ f, f ≤ cnt ∧ w = nI f ∧ res = some (.int (nI (cnt - f))) ∧ cW X τ ms me K f kd fs sn A B tl td lo hi qc qs sa P0 P1 ∧ Frm ms me σ τ)) := by
  have hc := h.c60
  obtain ⟨z, va, mk, S, U, at', op, fa, o1, u1, r1, o2, u2, r2, g, hw, he⟩ := h
  have ho := hw.1.1
  obtain ⟨c1, c2, c3, c4, c5, -⟩ := hw.2.2.2.2.1
  have no : (w < 0 ∨ nI cnt < w) → WA X M_X6_drop σ 12 (lv_args 0 [.ref (K 0), .int w]) [] σ (fun res τ => ((w < 0 ∨ nI cnt < w) ∧ res = some (.int (-1)) ∧ τ = σ) ∨ (∃ f, f ≤ cnt ∧ w = nI f ∧ res = some (.int (nI (cnt - f))) ∧ cW X τ ms me K f kd fs sn A B tl td lo hi qc qs sa P0 P1 ∧ Frm ms me σ τ)) := by
    intro hq
    refine wa_iconst q_X6_drop_12 (v := -1) (by decide) ?_
    refine wa_iret q_X6_drop_13 rfl ?_
    exact Or.inl ⟨hq, rfl, rfl⟩
  refine Calls.of rfl (lk rfl) ?_
  refine wa_iload_n q_X6_drop_0 rfl ?_
  refine wa_if_lt q_X6_drop_1 (fun hx => no (Or.inl hx)) (fun hx => ?_)
  obtain ⟨n, hn, rfl⟩ := nI_of hx
  refine wa_iload_n q_X6_drop_4 rfl ?_
  refine wa_aload_n q_X6_drop_5 rfl ?_
  refine wa_getf q_X6_drop_6 f_RX6_67 (by assumption) rfl ?_
  refine wn_icmp_le q_X6_drop_9 (by omega) (by omega) (fun hy => ?_) (fun hy => ?_)
  · refine wa_aload_n q_X6_drop_14 rfl ?_
    refine wa_getf q_X6_drop_15 f_RX6_67 (by assumption) rfl ?_
    refine wa_iload_n q_X6_drop_18 rfl ?_
    refine wn_isub q_X6_drop_19 (by omega) ?_
    refine wa_istore_n q_X6_drop_20 (by decide) ?_
    refine wa_aload_n q_X6_drop_21 rfl ?_
    refine wa_iload_n q_X6_drop_22 rfl ?_
    refine wn_putf q_X6_drop_23 p_RX6_67 (by assumption) (lk rfl) rfl rfl rfl (fun σ_p1 p1 f_p1 e1_p1 e2_p1 => ?_)
    refine wa_iload_n q_X6_drop_26 rfl ?_
    refine wa_iret q_X6_drop_27 rfl ?_
    refine Or.inr ⟨n, hy, rfl, rfl, ⟨z, va, mk, S, U, at', op, fa, o1, u1, r1, o2, u2, r2, g, hw.obj p1 f_p1 e1_p1 e2_p1 hy c3 c4 c5, he⟩, hw.frmO f_p1⟩
  · exact no (Or.inr ((nI_ltI (by omega) hn).mpr hy))
end main2
