/-! The reference: arctan, artanh, power, root, join, drop, values -/
section ref31
variable {X : en_X} {σ τ : en_S} {M : Nat → Nat} {cnt : Nat} {kd fs sn : Nat → Nat} {A B : Nat → Int} {hd : Bool} {td lo hi : Int} {qc : Nat} {qs : Nat → Int} {sa : Nat}
theorem R_isX {w : Int32} : Calls X M_X7_isX [.int w] σ (fun res τ => (((w < 2 ∨ 100000 < w) ∧ res = some (.int (nI 0))) ∨ (¬ (w < 2 ∨ 100000 < w) ∧ res = some (.int (nI 1)))) ∧ τ = σ) := by
  refine Calls.of rfl (lk rfl) ?_
  refine wa_iload_n q_X7_isX_0 rfl ?_
  refine wa_iconst q_X7_isX_1 (v := 2) (by decide) ?_
  refine wa_icmp_lt q_X7_isX_2 (fun hx => ?_) (fun hx => ?_)
  · refine wa_iconst q_X7_isX_15 (v := nI 0) (by decide) ?_
    refine wa_zret q_X7_isX_16 rfl rfl ?_
    exact ⟨Or.inl ⟨Or.inl hx, rfl⟩, rfl⟩
  · refine wa_iload_n q_X7_isX_5 rfl ?_
    refine wa_ldc q_X7_isX_6 k_RX7_97 ?_
    refine wa_icmp_gt q_X7_isX_8 (fun hy => ?_) (fun hy => ?_)
    · refine wa_iconst q_X7_isX_15 (v := nI 0) (by decide) ?_
      refine wa_zret q_X7_isX_16 rfl rfl ?_
      exact ⟨Or.inl ⟨Or.inr hy, rfl⟩, rfl⟩
    · refine wa_iconst q_X7_isX_11 (v := nI 1) (by decide) ?_
      refine wa_goto q_X7_isX_12 ?_
      refine wa_zret q_X7_isX_16 rfl rfl ?_
      exact ⟨Or.inr ⟨fun q => q.elim hx hy, rfl⟩, rfl⟩
theorem T_arctan {w : Int32} (h : mW X σ M cnt kd fs sn A B hd td lo hi qc qs sa) : Calls X M_X7_arctan [.ref (M 0), .int w] σ (fun res τ => ((w < 2 ∨ 100000 < w) ∧ res = some (.int (-1)) ∧ mFr M σ τ ∧ mW X τ M cnt kd fs sn A B hd td lo hi qc qs sa) ∨ (¬ (w < 2 ∨ 100000 < w) ∧ Mm X σ τ M cnt kd fs sn A B hd td lo hi qc qs sa 2 0 0 w.toInt 1 res)) := by
  obtain ⟨cd, a0⟩ := h.ob
  refine Calls.of rfl (lk rfl) ?_
  refine wa_aload_n q_X7_arctan_0 rfl ?_
  refine wa_iconst q_X7_arctan_1 (v := nI 0) (by decide) ?_
  refine wn_putf q_X7_arctan_2 p_RX7_43 (by assumption) (lk rfl) rfl rfl rfl (fun σ_p1 p1 f_p1 e1_p1 e2_p1 => ?_)
  refine wa_iload_n q_X7_arctan_5 rfl ?_
  refine wa_callS q_X7_arctan_6 g_X7_arctan_6 w_X7_isX (av := [_]) rfl rfl (lk rfl) (Calls.mono R_isX ?_)
  rintro _ _ ⟨⟨hx, rfl⟩ | ⟨hx, rfl⟩, rfl⟩
  · refine wn_if_eq q_X7_arctan_9 (by decide) (fun _ => ?_) (fun z => absurd z (by decide))
    refine wa_iconst q_X7_arctan_23 (v := -1) (by decide) ?_
    refine wa_iret q_X7_arctan_24 rfl ?_
    exact Or.inl ⟨hx, rfl, mFr.put0 f_p1 e1_p1 e2_p1, h.c0 (fun _ _ => p1) f_p1⟩
  · refine wn_if_eq q_X7_arctan_9 (by decide) (fun z => absurd z (by decide)) (fun _ => ?_)
    obtain ⟨n, n1, n2, rfl⟩ := x_rg (fun q => hx (Or.inl q)) (Int32.not_lt.mp (fun q => hx (Or.inr q)))
    have et : (nI n).toInt = (n : Int) := by rw [nI_iZ, iZ_to (by omega) (by omega)]
    rw [et]
    have hM := R_make (k := 2) (f := 0) (s := 0) (a := (n : Int)) (b := 1) (y := lN n) (z := lN 0) h (fun _ _ => p1) f_p1 e1_p1 e2_p1 (vOk.mk (by decide) (fun q => absurd q (by decide)) (fun q => absurd q (by decide)) (fun _ _ => Or.inr ⟨Or.inl rfl, by omega, by omega⟩) (fun q => absurd q (by decide)) (fun q => absurd q (by decide))) (fun _ => lN_lZ n) (fun q => absurd q (by decide)) (fun q => absurd q (by decide)) (fun q => absurd q (by decide)) (fun q => absurd q (by decide))
    refine wa_aload_n q_X7_arctan_12 rfl ?_
    refine wa_iconst q_X7_arctan_13 (v := nI 2) (by decide) ?_
    refine wa_iload_n q_X7_arctan_14 rfl ?_
    refine wn_i2l q_X7_arctan_15 (by omega) ?_
    refine wa_lconst q_X7_arctan_16 (v := lN 0) (by decide) ?_
    refine wa_callV q_X7_arctan_17 g_X7_arctan_17 w_X7_add (by assumption) rfl (av := [_, _, _]) rfl rfl (lk rfl) (Calls.mono hM ?_)
    intro res τ hres
    obtain ⟨q0, ⟨q1, rfl, q3⟩ | ⟨q1, rfl, q3⟩⟩ := hres
    · refine wa_goto q_X7_arctan_20 ?_
      refine wa_iret q_X7_arctan_24 rfl ?_
      exact Or.inr ⟨hx, q0, Or.inl ⟨q1, rfl, q3⟩⟩
    · refine wa_goto q_X7_arctan_20 ?_
      refine wa_iret q_X7_arctan_24 rfl ?_
      exact Or.inr ⟨hx, q0, Or.inr ⟨q1, rfl, q3⟩⟩
theorem T_artanh {w : Int32} (h : mW X σ M cnt kd fs sn A B hd td lo hi qc qs sa) : Calls X M_X7_artanh [.ref (M 0), .int w] σ (fun res τ => ((w < 2 ∨ 100000 < w) ∧ res = some (.int (-1)) ∧ mFr M σ τ ∧ mW X τ M cnt kd fs sn A B hd td lo hi qc qs sa) ∨ (¬ (w < 2 ∨ 100000 < w) ∧ Mm X σ τ M cnt kd fs sn A B hd td lo hi qc qs sa 3 0 0 w.toInt 1 res)) := by
  obtain ⟨cd, a0⟩ := h.ob
  refine Calls.of rfl (lk rfl) ?_
  refine wa_aload_n q_X7_artanh_0 rfl ?_
  refine wa_iconst q_X7_artanh_1 (v := nI 0) (by decide) ?_
  refine wn_putf q_X7_artanh_2 p_RX7_43 (by assumption) (lk rfl) rfl rfl rfl (fun σ_p1 p1 f_p1 e1_p1 e2_p1 => ?_)
  refine wa_iload_n q_X7_artanh_5 rfl ?_
  refine wa_callS q_X7_artanh_6 g_X7_artanh_6 w_X7_isX (av := [_]) rfl rfl (lk rfl) (Calls.mono R_isX ?_)
  rintro _ _ ⟨⟨hx, rfl⟩ | ⟨hx, rfl⟩, rfl⟩
  · refine wn_if_eq q_X7_artanh_9 (by decide) (fun _ => ?_) (fun z => absurd z (by decide))
    refine wa_iconst q_X7_artanh_23 (v := -1) (by decide) ?_
    refine wa_iret q_X7_artanh_24 rfl ?_
    exact Or.inl ⟨hx, rfl, mFr.put0 f_p1 e1_p1 e2_p1, h.c0 (fun _ _ => p1) f_p1⟩
  · refine wn_if_eq q_X7_artanh_9 (by decide) (fun z => absurd z (by decide)) (fun _ => ?_)
    obtain ⟨n, n1, n2, rfl⟩ := x_rg (fun q => hx (Or.inl q)) (Int32.not_lt.mp (fun q => hx (Or.inr q)))
    have et : (nI n).toInt = (n : Int) := by rw [nI_iZ, iZ_to (by omega) (by omega)]
    rw [et]
    have hM := R_make (k := 3) (f := 0) (s := 0) (a := (n : Int)) (b := 1) (y := lN n) (z := lN 0) h (fun _ _ => p1) f_p1 e1_p1 e2_p1 (vOk.mk (by decide) (fun q => absurd q (by decide)) (fun q => absurd q (by decide)) (fun _ _ => Or.inr ⟨Or.inr rfl, by omega, by omega⟩) (fun q => absurd q (by decide)) (fun q => absurd q (by decide))) (fun _ => lN_lZ n) (fun q => absurd q (by decide)) (fun q => absurd q (by decide)) (fun q => absurd q (by decide)) (fun q => absurd q (by decide))
    refine wa_aload_n q_X7_artanh_12 rfl ?_
    refine wa_iconst q_X7_artanh_13 (v := nI 3) (by decide) ?_
    refine wa_iload_n q_X7_artanh_14 rfl ?_
    refine wn_i2l q_X7_artanh_15 (by omega) ?_
    refine wa_lconst q_X7_artanh_16 (v := lN 0) (by decide) ?_
    refine wa_callV q_X7_artanh_17 g_X7_artanh_17 w_X7_add (by assumption) rfl (av := [_, _, _]) rfl rfl (lk rfl) (Calls.mono hM ?_)
    intro res τ hres
    obtain ⟨q0, ⟨q1, rfl, q3⟩ | ⟨q1, rfl, q3⟩⟩ := hres
    · refine wa_goto q_X7_artanh_20 ?_
      refine wa_iret q_X7_artanh_24 rfl ?_
      exact Or.inr ⟨hx, q0, Or.inl ⟨q1, rfl, q3⟩⟩
    · refine wa_goto q_X7_artanh_20 ?_
      refine wa_iret q_X7_artanh_24 rfl ?_
      exact Or.inr ⟨hx, q0, Or.inr ⟨q1, rfl, q3⟩⟩
theorem R_isVal {w cd o3 o4 o5 : Int32} (a0 : look σ (M 0) = some (rE M (cd, nI cnt, o3, o4, o5))) (hc : cnt ≤ 60) : Calls X M_X7_isValue [.ref (M 0), .int w] σ (fun res τ => ((∃ v, v < cnt ∧ w = nI v ∧ res = some (.int (nI 1))) ∨ ((∀ v, v < cnt → w ≠ nI v) ∧ res = some (.int (nI 0)))) ∧ τ = σ) := by
  refine Calls.of rfl (lk rfl) ?_
  refine wa_iload_n q_X7_isValue_0 rfl ?_
  refine wa_if_lt q_X7_isValue_1 (fun hx => ?_) (fun hx => ?_)
  · refine wa_iconst q_X7_isValue_16 (v := nI 0) (by decide) ?_
    refine wa_zret q_X7_isValue_17 rfl rfl ?_
    exact ⟨Or.inr ⟨fun v hv e => nI_pos (n := v) (by omega) (e ▸ hx), rfl⟩, rfl⟩
  · obtain ⟨n, hn, rfl⟩ := nI_of hx
    refine wa_iload_n q_X7_isValue_4 rfl ?_
    refine wa_aload_n q_X7_isValue_5 rfl ?_
    refine wa_getf q_X7_isValue_6 f_RX7_90 (by assumption) rfl ?_
    refine wn_icmp_ge q_X7_isValue_9 (by omega) (by omega) (fun hy => ?_) (fun hy => ?_)
    · refine wa_iconst q_X7_isValue_16 (v := nI 0) (by decide) ?_
      refine wa_zret q_X7_isValue_17 rfl rfl ?_
      exact ⟨Or.inr ⟨fun v hv e => by have := (nI_eq hn (by omega)).mp e; omega, rfl⟩, rfl⟩
    · refine wa_iconst q_X7_isValue_12 (v := nI 1) (by decide) ?_
      refine wa_goto q_X7_isValue_13 ?_
      refine wa_zret q_X7_isValue_17 rfl rfl ?_
      exact ⟨Or.inl ⟨n, hy, rfl, rfl⟩, rfl⟩
theorem T_power {w v : Int32} (h : mW X σ M cnt kd fs sn A B hd td lo hi qc qs sa) : Calls X M_X7_power [.ref (M 0), .int w, .int v] σ (fun res τ => (noP w v ∧ res = some (.int (-1)) ∧ mFr M σ τ ∧ mW X τ M cnt kd fs sn A B hd td lo hi qc qs sa) ∨ (¬ noP w v ∧ Mm X σ τ M cnt kd fs sn A B hd td lo hi qc qs sa 4 0 0 w.toInt v.toInt res)) := by
  obtain ⟨cd, a0⟩ := h.ob
  refine Calls.of rfl (lk rfl) ?_
  refine wa_aload_n q_X7_power_0 rfl ?_
  refine wa_iconst q_X7_power_1 (v := nI 0) (by decide) ?_
  refine wn_putf q_X7_power_2 p_RX7_43 (by assumption) (lk rfl) rfl rfl rfl (fun σ_p1 p1 f_p1 e1_p1 e2_p1 => ?_)
  have no : noP w v → WA X M_X7_power σ 36 (lv_args 0 [.ref (M 0), .int w, .int v]) [] σ_p1 (fun res τ => (noP w v ∧ res = some (.int (-1)) ∧ mFr M σ τ ∧ mW X τ M cnt kd fs sn A B hd td lo hi qc qs sa) ∨ (¬ noP w v ∧ Mm X σ τ M cnt kd fs sn A B hd td lo hi qc qs sa 4 0 0 w.toInt v.toInt res)) := by
    intro hq
    refine wa_iconst q_X7_power_36 (v := -1) (by decide) ?_
    refine wa_goto q_X7_power_37 ?_
    refine wa_iret q_X7_power_49 rfl ?_
    exact Or.inl ⟨hq, rfl, mFr.put0 f_p1 e1_p1 e2_p1, h.c0 (fun _ _ => p1) f_p1⟩
  refine wa_iload_n q_X7_power_5 rfl ?_
  refine wa_iconst q_X7_power_6 (v := 1) (by decide) ?_
  refine wa_icmp_lt q_X7_power_7 (fun hx => no (Or.inr (Or.inl hx))) (fun h1 => ?_)
  refine wa_iload_n q_X7_power_10 rfl ?_
  refine wa_sipush q_X7_power_11 (v := 1000) (by decide) ?_
  refine wa_icmp_gt q_X7_power_14 (fun hx => no (Or.inr (Or.inr (Or.inl hx)))) (fun h2 => ?_)
  refine wa_iload_n q_X7_power_17 rfl ?_
  refine wa_if_eq q_X7_power_18 (fun hx => no (Or.inl hx)) (fun h0 => ?_)
  refine wa_iload_n q_X7_power_21 rfl ?_
  refine wa_bipush q_X7_power_22 (v := -5) (by decide) ?_
  refine wa_iload_n q_X7_power_24 rfl ?_
  refine wa_imul q_X7_power_25 ?_
  refine wa_icmp_lt q_X7_power_26 (fun hx => no (Or.inr (Or.inr (Or.inr (Or.inl hx))))) (fun h3 => ?_)
  refine wa_iload_n q_X7_power_29 rfl ?_
  refine wa_iconst q_X7_power_30 (v := 5) (by decide) ?_
  refine wa_iload_n q_X7_power_31 rfl ?_
  refine wa_imul q_X7_power_32 ?_
  refine wa_icmp_le q_X7_power_33 (fun h4 => ?_) (fun hx => no (Or.inr (Or.inr (Or.inr (Or.inr (Int32.not_le.mp hx))))))
  have hc : ¬ noP w v := fun q => by
    rcases q with q | q | q | q | q
    · exact h0 q
    · exact h1 q
    · exact h2 q
    · exact h3 q
    · exact (Int32.not_lt.mpr h4) q
  have v1 : 1 ≤ v.toInt := by
    have e : (1 : Int32).toInt = 1 := by decide
    have q : ¬ v.toInt < 1 := fun q => h1 (Int32.lt_iff_toInt_lt.mpr (by rw [e]; exact q))
    omega
  have v2 : v.toInt ≤ 1000 := by
    have e : (1000 : Int32).toInt = 1000 := by decide
    have q : ¬ 1000 < v.toInt := fun q => h2 (Int32.lt_iff_toInt_lt.mpr (by rw [e]; exact q))
    omega
  have m5 : (-5 : Int32) * v = iZ (-5 * v.toInt) := by
    rw [← iZ_mul, iZ_back]; rfl
  have p5 : (5 : Int32) * v = iZ (5 * v.toInt) := by
    rw [← iZ_mul, iZ_back]; rfl
  have wr := iZ_rg w
  have a1 : -5 * v.toInt ≤ w.toInt := by
    rw [m5] at h3
    have e := iZ_to (z := -5 * v.toInt) (by omega) (by omega)
    have q : ¬ w.toInt < -5 * v.toInt := fun q => h3 (Int32.lt_iff_toInt_lt.mpr (by rw [e]; exact q))
    omega
  have a2 : w.toInt ≤ 5 * v.toInt := by
    rw [p5] at h4
    have := Int32.le_iff_toInt_le.mp h4
    rw [iZ_to (by omega) (by omega)] at this; exact this
  have w0 : w.toInt ≠ 0 := fun e => h0 (by rw [← iZ_back w, e]; rfl)
  have l1 : w.toInt64 = lZ w.toInt := by rw [← iZ_l wr.1 wr.2, iZ_back]
  have l2 : v.toInt64 = lZ v.toInt := by rw [← iZ_l (by omega) (by omega), iZ_back]
  have hM := R_make (σ1 := σ_p1) (k := 4) (f := 0) (s := 0) (a := w.toInt) (b := v.toInt) (y := lZ w.toInt) (z := lZ v.toInt) h (fun _ _ => p1) f_p1 e1_p1 e2_p1 (vOk.mk (by decide) (fun q => absurd q (by decide)) (fun q => absurd q (by decide)) (fun _ _ => Or.inl ⟨rfl, v1, v2, by omega⟩) (fun q => absurd q (by decide)) (fun q => absurd q (by decide))) (fun _ => rfl) (fun _ => rfl) (fun q => absurd q (by decide)) (fun q => absurd q (by decide)) (fun _ => w0)
  refine wa_aload_n q_X7_power_40 rfl ?_
  refine wa_iconst q_X7_power_41 (v := nI 4) (by decide) ?_
  refine wa_iload_n q_X7_power_42 rfl ?_
  refine wa_i2l q_X7_power_43 l1 ?_
  refine wa_iload_n q_X7_power_44 rfl ?_
  refine wa_i2l q_X7_power_45 l2 ?_
  refine wa_callV q_X7_power_46 g_X7_power_46 w_X7_add (by assumption) rfl (av := [_, _, _]) rfl rfl (lk rfl) (Calls.mono hM ?_)
  intro res τ hres
  obtain ⟨q0, ⟨q1, rfl, q3⟩ | ⟨q1, rfl, q3⟩⟩ := hres
  · refine wa_iret q_X7_power_49 rfl ?_
    exact Or.inr ⟨hc, q0, Or.inl ⟨q1, rfl, q3⟩⟩
  · refine wa_iret q_X7_power_49 rfl ?_
    exact Or.inr ⟨hc, q0, Or.inr ⟨q1, rfl, q3⟩⟩
theorem T_root {w : Int32} (h : mW X σ M cnt kd fs sn A B hd td lo hi qc qs sa) : Calls X M_X7_root [.ref (M 0), .int w] σ (fun res τ => ((∀ v, v < cnt → w ≠ nI v) ∧ res = some (.int (-1)) ∧ mFr M σ τ ∧ mW X τ M cnt kd fs sn A B hd td lo hi qc qs sa) ∨ (∃ v, v < cnt ∧ w = nI v ∧ Mm X σ τ M cnt kd fs sn A B hd td lo hi qc qs sa 5 v v 0 0 res)) := by
  obtain ⟨cd, a0⟩ := h.ob
  have hc := h.c60
  refine Calls.of rfl (lk rfl) ?_
  refine wa_aload_n q_X7_root_0 rfl ?_
  refine wa_iconst q_X7_root_1 (v := nI 0) (by decide) ?_
  refine wn_putf q_X7_root_2 p_RX7_43 (by assumption) (lk rfl) rfl rfl rfl (fun σ_p1 p1 f_p1 e1_p1 e2_p1 => ?_)
  refine wa_aload_n q_X7_root_5 rfl ?_
  refine wa_iload_n q_X7_root_6 rfl ?_
  refine wa_callV q_X7_root_7 g_X7_root_7 w_X7_isValue (by assumption) rfl (av := [_]) rfl rfl (lk rfl) (Calls.mono (R_isVal p1 hc) ?_)
  rintro _ τ1 ⟨hres, rfl⟩
  rcases hres with ⟨v, hv, rfl, rfl⟩ | ⟨hv, rfl⟩
  · refine wn_if_eq q_X7_root_10 (by decide) (fun q => absurd q (by decide)) (fun _ => ?_)
    have hM := R_make (σ1 := τ1) (k := 5) (f := v) (s := v) (a := 0) (b := 0) (y := lN v) (z := lN 0) h (fun _ _ => p1) f_p1 e1_p1 e2_p1 (vOk.mk (by decide) (fun q => absurd q (by decide)) (fun q => absurd q (by decide)) (fun _ q => absurd q (by decide)) (fun _ => ⟨hv, hv⟩) (fun _ => rfl)) (fun q => absurd q (by decide)) (fun q => absurd q (by decide)) (fun _ => rfl) (fun q => absurd q (by decide)) (fun q => absurd q (by decide))
    refine wa_aload_n q_X7_root_13 rfl ?_
    refine wa_iconst q_X7_root_14 (v := nI 5) (by decide) ?_
    refine wa_iload_n q_X7_root_15 rfl ?_
    refine wn_i2l q_X7_root_16 (by omega) ?_
    refine wa_lconst q_X7_root_17 (v := lN 0) (by decide) ?_
    refine wa_callV q_X7_root_18 g_X7_root_18 w_X7_add (by assumption) rfl (av := [_, _, _]) rfl rfl (lk rfl) (Calls.mono hM ?_)
    intro res τ hres
    obtain ⟨q0, ⟨q1, rfl, q3⟩ | ⟨q1, rfl, q3⟩⟩ := hres
    · refine wa_goto q_X7_root_21 ?_
      refine wa_iret q_X7_root_25 rfl ?_
      exact Or.inr ⟨v, hv, rfl, q0, Or.inl ⟨q1, rfl, q3⟩⟩
    · refine wa_goto q_X7_root_21 ?_
      refine wa_iret q_X7_root_25 rfl ?_
      exact Or.inr ⟨v, hv, rfl, q0, Or.inr ⟨q1, rfl, q3⟩⟩
  · refine wn_if_eq q_X7_root_10 (by decide) (fun _ => ?_) (fun q => absurd q (by decide))
    refine wa_iconst q_X7_root_24 (v := -1) (by decide) ?_
    refine wa_iret q_X7_root_25 rfl ?_
    exact Or.inl ⟨hv, rfl, mFr.put0 f_p1 e1_p1 e2_p1, h.c0 (fun _ _ => p1) f_p1⟩
theorem T_join {o x y : Int32} (h : mW X σ M cnt kd fs sn A B hd td lo hi qc qs sa) : Calls X M_X7_join [.ref (M 0), .int o, .int x, .int y] σ (fun res τ => ((o < 0 ∨ 3 < o ∨ (∀ v, v < cnt → x ≠ nI v) ∨ (∀ v, v < cnt → y ≠ nI v)) ∧ res = some (.int (-1)) ∧ mFr M σ τ ∧ mW X τ M cnt kd fs sn A B hd td lo hi qc qs sa) ∨ (∃ k u v, k ≤ 3 ∧ o = nI k ∧ u < cnt ∧ x = nI u ∧ v < cnt ∧ y = nI v ∧ Mm X σ τ M cnt kd fs sn A B hd td lo hi qc qs sa (6 + k) u v 0 0 res)) := by
  obtain ⟨cd, a0⟩ := h.ob
  have hc := h.c60
  refine Calls.of rfl (lk rfl) ?_
  refine wa_aload_n q_X7_join_0 rfl ?_
  refine wa_iconst q_X7_join_1 (v := nI 0) (by decide) ?_
  refine wn_putf q_X7_join_2 p_RX7_43 (by assumption) (lk rfl) rfl rfl rfl (fun σ_p1 p1 f_p1 e1_p1 e2_p1 => ?_)
  have no : (o < 0 ∨ 3 < o ∨ (∀ v, v < cnt → x ≠ nI v) ∨ (∀ v, v < cnt → y ≠ nI v)) → WA X M_X7_join σ 30 (lv_args 0 [.ref (M 0), .int o, .int x, .int y]) [] σ_p1 (fun res τ => ((o < 0 ∨ 3 < o ∨ (∀ v, v < cnt → x ≠ nI v) ∨ (∀ v, v < cnt → y ≠ nI v)) ∧ res = some (.int (-1)) ∧ mFr M σ τ ∧ mW X τ M cnt kd fs sn A B hd td lo hi qc qs sa) ∨ (∃ k u v, k ≤ 3 ∧ o = nI k ∧ u < cnt ∧ x = nI u ∧ v < cnt ∧ y = nI v ∧ Mm X σ τ M cnt kd fs sn A B hd td lo hi qc qs sa (6 + k) u v 0 0 res)) := by
    intro hq
    refine wa_iconst q_X7_join_30 (v := -1) (by decide) ?_
    refine wa_goto q_X7_join_31 ?_
    refine wa_iret q_X7_join_46 rfl ?_
    exact Or.inl ⟨hq, rfl, mFr.put0 f_p1 e1_p1 e2_p1, h.c0 (fun _ _ => p1) f_p1⟩
  refine wa_iload_n q_X7_join_5 rfl ?_
  refine wa_if_lt q_X7_join_6 (fun q => no (Or.inl q)) (fun h1 => ?_)
  refine wa_iload_n q_X7_join_9 rfl ?_
  refine wa_iconst q_X7_join_10 (v := 3) (by decide) ?_
  refine wa_icmp_gt q_X7_join_11 (fun q => no (Or.inr (Or.inl q))) (fun h2 => ?_)
  refine wa_aload_n q_X7_join_14 rfl ?_
  refine wa_iload_n q_X7_join_15 rfl ?_
  refine wa_callV q_X7_join_16 g_X7_join_16 w_X7_isValue (by assumption) rfl (av := [_]) rfl rfl (lk rfl) (Calls.mono (R_isVal p1 hc) ?_)
  rintro _ τ1 ⟨hres, eτ⟩
  rw [eτ]
  rcases hres with ⟨u, hu, eu, rfl⟩ | ⟨hu, rfl⟩
  · refine wn_if_eq q_X7_join_19 (by decide) (fun q => absurd q (by decide)) (fun _ => ?_)
    refine wa_aload_n q_X7_join_22 rfl ?_
    refine wa_iload_n q_X7_join_23 rfl ?_
    refine wa_callV q_X7_join_24 g_X7_join_24 w_X7_isValue (by assumption) rfl (av := [_]) rfl rfl (lk rfl) (Calls.mono (R_isVal p1 hc) ?_)
    rintro _ τ2 ⟨hres, eτ2⟩
    rw [eτ2]
    rcases hres with ⟨v, hv, ev, rfl⟩ | ⟨hv, rfl⟩
    · refine wn_if_ne q_X7_join_27 (by decide) (fun _ => ?_) (fun q => absurd q (by decide))
      obtain ⟨k, hk, ek⟩ : ∃ k : Nat, k ≤ 3 ∧ o = nI k := by
        obtain ⟨k, hk, e⟩ := nI_of h1
        subst e
        refine ⟨k, ?_, rfl⟩
        have : ¬ nI 3 < nI k := h2
        have := mt (nI_ltI (by decide) hk).mpr this
        omega
      have hM := R_make (σ1 := σ_p1) (k := 6 + k) (f := u) (s := v) (a := 0) (b := 0) (y := lN u) (z := lN v) h (fun _ _ => p1) f_p1 e1_p1 e2_p1 (vOk.mk (by omega) (fun q => by omega) (fun q => by omega) (fun _ q => by omega) (fun _ => ⟨hu, hv⟩) (fun q => by omega)) (fun q => by omega) (fun q => by omega) (fun _ => rfl) (fun _ => rfl) (fun q => by omega)
      subst eu
      subst ev
      subst ek
      refine wa_aload_n q_X7_join_34 rfl ?_
      refine wa_bipush q_X7_join_35 (v := nI 6) (by decide) ?_
      refine wa_iload_n q_X7_join_37 rfl ?_
      refine wn_iadd q_X7_join_38 ?_
      refine wa_iload_n q_X7_join_39 rfl ?_
      refine wn_i2l q_X7_join_40 (by omega) ?_
      refine wa_iload_n q_X7_join_41 rfl ?_
      refine wn_i2l q_X7_join_42 (by omega) ?_
      refine wa_callV q_X7_join_43 g_X7_join_43 w_X7_add (by assumption) rfl (av := [_, _, _]) rfl rfl (lk rfl) (Calls.mono hM ?_)
      intro res τ hres
      obtain ⟨q0, ⟨q1, rfl, q3⟩ | ⟨q1, rfl, q3⟩⟩ := hres
      · refine wa_iret q_X7_join_46 rfl ?_
        exact Or.inr ⟨k, u, v, hk, rfl, hu, rfl, hv, rfl, q0, Or.inl ⟨q1, rfl, q3⟩⟩
      · refine wa_iret q_X7_join_46 rfl ?_
        exact Or.inr ⟨k, u, v, hk, rfl, hu, rfl, hv, rfl, q0, Or.inr ⟨q1, rfl, q3⟩⟩
    · refine wn_if_ne q_X7_join_27 (by decide) (fun q => absurd q (by decide)) (fun _ => ?_)
      exact no (Or.inr (Or.inr (Or.inr hv)))
  · refine wn_if_eq q_X7_join_19 (by decide) (fun _ => ?_) (fun q => absurd q (by decide))
    exact no (Or.inr (Or.inr (Or.inl hu)))
theorem T_drop {w : Int32} (h : mW X σ M cnt kd fs sn A B hd td lo hi qc qs sa) : Calls X M_X7_drop [.ref (M 0), .int w] σ (fun res τ => mFr M σ τ ∧ (((w < 0 ∨ nI cnt < w) ∧ res = some (.int (-1)) ∧ mW X τ M cnt kd fs sn A B hd td lo hi qc qs sa) ∨ (∃ f, f ≤ cnt ∧ w = nI f ∧ res = some (.int (nI cnt)) ∧ mW X τ M f kd fs sn A B hd td lo hi qc qs sa))) := by
  obtain ⟨cd, a0⟩ := h.ob
  have hc := h.c60
  refine Calls.of rfl (lk rfl) ?_
  refine wa_aload_n q_X7_drop_0 rfl ?_
  refine wa_iconst q_X7_drop_1 (v := nI 0) (by decide) ?_
  refine wn_putf q_X7_drop_2 p_RX7_43 (by assumption) (lk rfl) rfl rfl rfl (fun σ_p1 p1 f_p1 e1_p1 e2_p1 => ?_)
  have hF := mFr.put0 f_p1 e1_p1 e2_p1
  have h1 := h.c0 (fun _ _ => p1) f_p1
  have no : (w < 0 ∨ nI cnt < w) → WA X M_X7_drop σ 17 (lv_args 0 [.ref (M 0), .int w]) [] σ_p1 (fun res τ => mFr M σ τ ∧ (((w < 0 ∨ nI cnt < w) ∧ res = some (.int (-1)) ∧ mW X τ M cnt kd fs sn A B hd td lo hi qc qs sa) ∨ (∃ f, f ≤ cnt ∧ w = nI f ∧ res = some (.int (nI cnt)) ∧ mW X τ M f kd fs sn A B hd td lo hi qc qs sa))) := by
    intro hq
    refine wa_iconst q_X7_drop_17 (v := -1) (by decide) ?_
    refine wa_iret q_X7_drop_18 rfl ?_
    exact ⟨hF, Or.inl ⟨hq, rfl, h1⟩⟩
  refine wa_iload_n q_X7_drop_5 rfl ?_
  refine wa_if_lt q_X7_drop_6 (fun q => no (Or.inl q)) (fun hx => ?_)
  obtain ⟨n, hn, rfl⟩ := nI_of hx
  refine wa_iload_n q_X7_drop_9 rfl ?_
  refine wa_aload_n q_X7_drop_10 rfl ?_
  refine wa_getf q_X7_drop_11 f_RX7_90 (by assumption) rfl ?_
  refine wa_icmp_le q_X7_drop_14 (fun hy => ?_) (fun hy => no (Or.inr (Int32.not_le.mp hy)))
  have hle : n ≤ cnt := (nI_leI hn (by omega)).mp hy
  refine wa_aload_n q_X7_drop_19 rfl ?_
  refine wa_getf q_X7_drop_20 f_RX7_90 (by assumption) rfl ?_
  refine wa_istore_n q_X7_drop_23 (by decide) ?_
  refine wa_aload_n q_X7_drop_24 rfl ?_
  refine wa_iload_n q_X7_drop_25 rfl ?_
  refine wn_putf q_X7_drop_26 p_RX7_90 (by assumption) (lk rfl) rfl rfl rfl (fun σ_p2 p2 f_p2 e1_p2 e2_p2 => ?_)
  refine wa_iload_n q_X7_drop_29 rfl ?_
  refine wa_iret q_X7_drop_30 rfl ?_
  refine ⟨hF.tr (mFr.put0 f_p2 e1_p2 e2_p2), Or.inr ⟨n, hle, rfl, rfl, ?_⟩⟩
  obtain ⟨cd', C, Z, G, V, K, N1, N2, Op, Nd, Pa, Fo, g, gA, ⟨c1, c2, c3⟩, wo, wv, wp⟩ := h1
  exact ⟨nI 0, C, Z, G, V, K, N1, N2, Op, Nd, Pa, Fo, g.s0 p2 f_p2, gA.s0 g.1.1 f_p2, ⟨by omega, c2, c3⟩, fun i hi => wo i (by omega), wv, wp⟩
theorem T_values (h : mW X σ M cnt kd fs sn A B hd td lo hi qc qs sa) : Calls X M_X7_values [.ref (M 0)] σ (fun res τ => res = some (.int (nI cnt)) ∧ mFr M σ τ ∧ mW X τ M cnt kd fs sn A B hd td lo hi qc qs sa) := by
  obtain ⟨cd, a0⟩ := h.ob
  refine Calls.of rfl (lk rfl) ?_
  refine wa_aload_n q_X7_values_0 rfl ?_
  refine wa_iconst q_X7_values_1 (v := nI 0) (by decide) ?_
  refine wn_putf q_X7_values_2 p_RX7_43 (by assumption) (lk rfl) rfl rfl rfl (fun σ_p1 p1 f_p1 e1_p1 e2_p1 => ?_)
  refine wa_aload_n q_X7_values_5 rfl ?_
  refine wa_getf q_X7_values_6 f_RX7_90 (by assumption) rfl ?_
  refine wa_iret q_X7_values_9 rfl ?_
  exact ⟨rfl, mFr.put0 f_p1 e1_p1 e2_p1, h.c0 (fun _ _ => p1) f_p1⟩
theorem T_many (h : mW X σ M cnt kd fs sn A B hd td lo hi qc qs sa) : Calls X M_X7_many [.ref (M 0)] σ (fun res τ => res = some (.int (nI qc)) ∧ mFr M σ τ ∧ mW X τ M cnt kd fs sn A B hd td lo hi qc qs sa) := by
  obtain ⟨cd, a0⟩ := h.ob
  refine Calls.of rfl (lk rfl) ?_
  refine wa_aload_n q_X7_many_0 rfl ?_
  refine wa_iconst q_X7_many_1 (v := nI 0) (by decide) ?_
  refine wn_putf q_X7_many_2 p_RX7_43 (by assumption) (lk rfl) rfl rfl rfl (fun σ_p1 p1 f_p1 e1_p1 e2_p1 => ?_)
  refine wa_aload_n q_X7_many_5 rfl ?_
  refine wa_getf q_X7_many_6 f_RX7_184 (by assumption) rfl ?_
  refine wa_iret q_X7_many_9 rfl ?_
  exact ⟨rfl, mFr.put0 f_p1 e1_p1 e2_p1, h.c0 (fun _ _ => p1) f_p1⟩
theorem T_prec (h : mW X σ M cnt kd fs sn A B hd td lo hi qc qs sa) : Calls X M_X7_precision [.ref (M 0)] σ (fun res τ => res = some (.int (nI sa)) ∧ mFr M σ τ ∧ mW X τ M cnt kd fs sn A B hd td lo hi qc qs sa) := by
  obtain ⟨cd, a0⟩ := h.ob
  refine Calls.of rfl (lk rfl) ?_
  refine wa_aload_n q_X7_precision_0 rfl ?_
  refine wa_iconst q_X7_precision_1 (v := nI 0) (by decide) ?_
  refine wn_putf q_X7_precision_2 p_RX7_43 (by assumption) (lk rfl) rfl rfl rfl (fun σ_p1 p1 f_p1 e1_p1 e2_p1 => ?_)
  refine wa_aload_n q_X7_precision_5 rfl ?_
  refine wa_getf q_X7_precision_6 f_RX7_167 (by assumption) rfl ?_
  refine wa_iret q_X7_precision_9 rfl ?_
  exact ⟨rfl, mFr.put0 f_p1 e1_p1 e2_p1, h.c0 (fun _ _ => p1) f_p1⟩
end ref31
