/-! EnclosedDigits: whole, ratio, arctan, artanh, power, root, join -/
theorem lZ_back (w : Int64) : lZ w.toInt = w := Int64.ofInt_toInt w
theorem lZ_rg (w : Int64) : -9223372036854775808 ≤ w.toInt ∧ w.toInt < 9223372036854775808 := by
  have h1 := Int64.le_toInt w
  have h2 := Int64.toInt_lt w
  exact ⟨by omega, by omega⟩
theorem iZ_back (w : Int32) : iZ w.toInt = w := Int32.ofInt_toInt w
theorem iZ_rg (w : Int32) : -2147483648 ≤ w.toInt ∧ w.toInt < 2147483648 := by
  have h1 := Int32.le_toInt w
  have h2 := Int32.toInt_lt w
  exact ⟨by omega, by omega⟩
section makes
variable {X : en_X} {σ τ : en_S} {ms me : Nat} {K : Nat → Nat} {cnt : Nat} {kd fs sn : Nat → Nat} {A B : Nat → Int} {tl qc : Nat} {td lo hi : Int} {qs : Nat → Int} {sa P0 P1 : Nat}
/-- a VALUE is made, or there are 60 -/
def Mk (X : en_X) (σ τ : en_S) (ms me : Nat) (K : Nat → Nat) (cnt : Nat) (kd fs sn : Nat → Nat) (A B : Nat → Int) (tl : Nat) (td lo hi : Int) (qc : Nat) (qs : Nat → Int) (sa P0 P1 : Nat) (k f s : Nat) (a b : Int) (res : Option Value) : Prop :=
  (cnt = 60 ∧ res = some (.int (-2)) ∧ τ = σ) ∨ (cnt < 60 ∧ res = some (.int (nI cnt)) ∧ cW X τ ms me K (cnt + 1) (un kd cnt k) (un fs cnt f) (un sn cnt s) (unI A cnt a) (unI B cnt b) tl td lo hi qc qs sa P0 P1 ∧ Frm ms me σ τ)
theorem vOk.mk {k f s : Nat} {a b : Int} (h9 : k ≤ 9) (h1 : k ≤ 1 → -9223372036854775808 ≤ a ∧ a < 9223372036854775808) (h2 : k = 1 → b ≠ 0 ∧ -9223372036854775808 ≤ b ∧ b < 9223372036854775808) (h3 : 2 ≤ k → k ≤ 4 → serOk k a b) (h4 : 5 ≤ k → f < cnt ∧ s < cnt) (h5 : k = 5 → s = f) : vOk (un kd cnt k) (un fs cnt f) (un sn cnt s) (unI A cnt a) (unI B cnt b) cnt := by
  unfold vOk
  rw [un_s, un_s, un_s, unI_s, unI_s]
  exact ⟨h9, h1, h2, h3, h4, h5⟩
theorem H_whole {w : Int64} (h : cW X σ ms me K cnt kd fs sn A B tl td lo hi qc qs sa P0 P1) : Calls X M_X6_whole [.ref (K 0), .long w] σ (fun res τ => Mk X σ τ ms me K cnt kd fs sn A B tl td lo hi qc qs sa P0 P1 0 0 0 w.toInt 1 res) := by
  obtain ⟨a', b', c', d', e', f', ho, -⟩ := h.ob
  have hr := lZ_rg w
  have hM := H_make (k := 0) (f := 0) (s := 0) (a := w.toInt) (b := 1) h (vOk.mk (by decide) (fun _ => hr) (fun q => absurd q (by decide)) (fun q => absurd q (by decide)) (fun q => absurd q (by decide)) (fun q => absurd q (by decide))) (by decide) (by decide)
  rw [lZ_back] at hM
  refine Calls.of rfl (lk rfl) ?_
  refine wa_aload_n q_X6_whole_0 rfl ?_
  refine wa_iconst q_X6_whole_1 (v := nI 0) (by decide) ?_
  refine wa_lload_n q_X6_whole_2 rfl ?_
  refine wa_lconst q_X6_whole_3 (v := lZ 1) (by decide) ?_
  refine wa_iconst q_X6_whole_4 (v := nI 0) (by decide) ?_
  refine wa_iconst q_X6_whole_5 (v := nI 0) (by decide) ?_
  refine wa_callV q_X6_whole_6 g_X6_whole_6 w_X6_make (by assumption) rfl (av := [_, _, _, _, _]) rfl rfl (lk rfl) (Calls.mono hM ?_)
  intro res τ hres
  rcases hres with ⟨q1, rfl, q3⟩ | ⟨q1, rfl, q3⟩
  · refine wa_iret q_X6_whole_9 rfl ?_
    exact Or.inl ⟨q1, rfl, q3⟩
  · refine wa_iret q_X6_whole_9 rfl ?_
    exact Or.inr ⟨q1, rfl, q3⟩
theorem H_ratio {w v : Int64} (h : cW X σ ms me K cnt kd fs sn A B tl td lo hi qc qs sa P0 P1) : Calls X M_X6_ratio [.ref (K 0), .long w, .long v] σ (fun res τ => (v = 0 ∧ res = some (.int (-1)) ∧ τ = σ) ∨ (v ≠ 0 ∧ Mk X σ τ ms me K cnt kd fs sn A B tl td lo hi qc qs sa P0 P1 1 0 0 w.toInt v.toInt res)) := by
  obtain ⟨a', b', c', d', e', f', ho, -⟩ := h.ob
  refine Calls.of rfl (lk rfl) ?_
  refine wa_lload_n q_X6_ratio_0 rfl ?_
  refine wa_lconst q_X6_ratio_1 (v := 0) (by decide) ?_
  refine wa_lcmp q_X6_ratio_2 ?_
  refine wa_if_ne q_X6_ratio_3 (fun hx => ?_) (fun hx => ?_)
  · have hv : v ≠ 0 := fun e => hx ((lg_cmp_eq _ _).mpr e)
    have hv0 : v.toInt ≠ 0 := fun e => hv (Int64.toInt_inj.mp (by rw [e]; rfl))
    have hM := H_make (k := 1) (f := 0) (s := 0) (a := w.toInt) (b := v.toInt) h (vOk.mk (by decide) (fun _ => lZ_rg w) (fun _ => ⟨hv0, lZ_rg v⟩) (fun q => absurd q (by decide)) (fun q => absurd q (by decide)) (fun q => absurd q (by decide))) (by decide) (by decide)
    rw [lZ_back, lZ_back] at hM
    refine wa_aload_n q_X6_ratio_10 rfl ?_
    refine wa_iconst q_X6_ratio_11 (v := nI 1) (by decide) ?_
    refine wa_lload_n q_X6_ratio_12 rfl ?_
    refine wa_lload_n q_X6_ratio_13 rfl ?_
    refine wa_iconst q_X6_ratio_14 (v := nI 0) (by decide) ?_
    refine wa_iconst q_X6_ratio_15 (v := nI 0) (by decide) ?_
    refine wa_callV q_X6_ratio_16 g_X6_ratio_16 w_X6_make (by assumption) rfl (av := [_, _, _, _, _]) rfl rfl (lk rfl) (Calls.mono hM ?_)
    intro res τ hres
    rcases hres with ⟨q1, rfl, q3⟩ | ⟨q1, rfl, q3⟩
    · refine wa_iret q_X6_ratio_19 rfl ?_
      exact Or.inr ⟨hv, Or.inl ⟨q1, rfl, q3⟩⟩
    · refine wa_iret q_X6_ratio_19 rfl ?_
      exact Or.inr ⟨hv, Or.inr ⟨q1, rfl, q3⟩⟩
  · have hv : v = 0 := (lg_cmp_eq _ _).mp hx
    refine wa_iconst q_X6_ratio_6 (v := -1) (by decide) ?_
    refine wa_goto q_X6_ratio_7 ?_
    refine wa_iret q_X6_ratio_19 rfl ?_
    exact Or.inl ⟨hv, rfl, rfl⟩
theorem x_rg {w : Int32} (h1 : ¬ w < 2) (h2 : w ≤ 100000) : ∃ n : Nat, 2 ≤ n ∧ n ≤ 100000 ∧ w = nI n := by
  have q2 : (2 : Int32).toInt = 2 := by decide
  have q3 : (100000 : Int32).toInt = 100000 := by decide
  have h1' : ¬ w.toInt < 2 := fun q => h1 (Int32.lt_iff_toInt_lt.mpr (by rw [q2]; exact q))
  have h2' := Int32.le_iff_toInt_le.mp h2
  rw [q3] at h2'
  refine ⟨w.toInt.toNat, by omega, by omega, ?_⟩
  rw [nI_iZ, Int.toNat_of_nonneg (by omega), iZ_back]
theorem H_arctan {w : Int32} (h : cW X σ ms me K cnt kd fs sn A B tl td lo hi qc qs sa P0 P1) : Calls X M_X6_arctan [.ref (K 0), .int w] σ (fun res τ => ((w < 2 ∨ 100000 < w) ∧ res = some (.int (-1)) ∧ τ = σ) ∨ (¬ (w < 2 ∨ 100000 < w) ∧ Mk X σ τ ms me K cnt kd fs sn A B tl td lo hi qc qs sa P0 P1 2 0 0 w.toInt 1 res)) := by
  obtain ⟨a', b', c', d', e', f', ho, -⟩ := h.ob
  have no : (w < 2 ∨ 100000 < w) → WA X M_X6_arctan σ 11 (lv_args 0 [.ref (K 0), .int w]) [] σ (fun res τ => ((w < 2 ∨ 100000 < w) ∧ res = some (.int (-1)) ∧ τ = σ) ∨ (¬ (w < 2 ∨ 100000 < w) ∧ Mk X σ τ ms me K cnt kd fs sn A B tl td lo hi qc qs sa P0 P1 2 0 0 w.toInt 1 res)) := by
    intro hc
    refine wa_iconst q_X6_arctan_11 (v := -1) (by decide) ?_
    refine wa_goto q_X6_arctan_12 ?_
    refine wa_iret q_X6_arctan_25 rfl ?_
    exact Or.inl ⟨hc, rfl, rfl⟩
  refine Calls.of rfl (lk rfl) ?_
  refine wa_iload_n q_X6_arctan_0 rfl ?_
  refine wa_iconst q_X6_arctan_1 (v := nI 2) (by decide) ?_
  refine wa_icmp_lt q_X6_arctan_2 (fun hx => no (Or.inl hx)) (fun hx => ?_)
  refine wa_iload_n q_X6_arctan_5 rfl ?_
  refine wa_ldc q_X6_arctan_6 k_RX6_62 ?_
  refine wa_icmp_le q_X6_arctan_8 (fun hy => ?_) (fun hy => no (Or.inr (Int32.not_le.mp hy)))
  have hc : ¬ (w < 2 ∨ 100000 < w) := fun q => by
    rcases q with q | q
    · exact hx q
    · exact (Int32.not_lt.mpr hy) q
  obtain ⟨n, n1, n2, rfl⟩ := x_rg hx hy
  have et : (nI n).toInt = (n : Int) := by rw [nI_iZ, iZ_to (by omega) (by omega)]
  rw [et]
  have hM := H_make (k := 2) (f := 0) (s := 0) (a := (n : Int)) (b := 1) h (vOk.mk (by decide) (fun q => absurd q (by decide)) (fun q => absurd q (by decide)) (fun _ _ => Or.inr ⟨Or.inl rfl, by omega, by omega⟩) (fun q => absurd q (by decide)) (fun q => absurd q (by decide))) (by decide) (by decide)
  rw [← lN_lZ] at hM
  refine wa_aload_n q_X6_arctan_15 rfl ?_
  refine wa_iconst q_X6_arctan_16 (v := nI 2) (by decide) ?_
  refine wa_iload_n q_X6_arctan_17 rfl ?_
  refine wn_i2l q_X6_arctan_18 (by omega) ?_
  refine wa_lconst q_X6_arctan_19 (v := lZ 1) (by decide) ?_
  refine wa_iconst q_X6_arctan_20 (v := nI 0) (by decide) ?_
  refine wa_iconst q_X6_arctan_21 (v := nI 0) (by decide) ?_
  refine wa_callV q_X6_arctan_22 g_X6_arctan_22 w_X6_make (by assumption) rfl (av := [_, _, _, _, _]) rfl rfl (lk rfl) (Calls.mono hM ?_)
  intro res τ hres
  rcases hres with ⟨q1, rfl, q3⟩ | ⟨q1, rfl, q3⟩
  · refine wa_iret q_X6_arctan_25 rfl ?_
    exact Or.inr ⟨hc, Or.inl ⟨q1, rfl, q3⟩⟩
  · refine wa_iret q_X6_arctan_25 rfl ?_
    exact Or.inr ⟨hc, Or.inr ⟨q1, rfl, q3⟩⟩
theorem H_artanh {w : Int32} (h : cW X σ ms me K cnt kd fs sn A B tl td lo hi qc qs sa P0 P1) : Calls X M_X6_artanh [.ref (K 0), .int w] σ (fun res τ => ((w < 2 ∨ 100000 < w) ∧ res = some (.int (-1)) ∧ τ = σ) ∨ (¬ (w < 2 ∨ 100000 < w) ∧ Mk X σ τ ms me K cnt kd fs sn A B tl td lo hi qc qs sa P0 P1 3 0 0 w.toInt 1 res)) := by
  obtain ⟨a', b', c', d', e', f', ho, -⟩ := h.ob
  have no : (w < 2 ∨ 100000 < w) → WA X M_X6_artanh σ 11 (lv_args 0 [.ref (K 0), .int w]) [] σ (fun res τ => ((w < 2 ∨ 100000 < w) ∧ res = some (.int (-1)) ∧ τ = σ) ∨ (¬ (w < 2 ∨ 100000 < w) ∧ Mk X σ τ ms me K cnt kd fs sn A B tl td lo hi qc qs sa P0 P1 3 0 0 w.toInt 1 res)) := by
    intro hc
    refine wa_iconst q_X6_artanh_11 (v := -1) (by decide) ?_
    refine wa_goto q_X6_artanh_12 ?_
    refine wa_iret q_X6_artanh_25 rfl ?_
    exact Or.inl ⟨hc, rfl, rfl⟩
  refine Calls.of rfl (lk rfl) ?_
  refine wa_iload_n q_X6_artanh_0 rfl ?_
  refine wa_iconst q_X6_artanh_1 (v := nI 2) (by decide) ?_
  refine wa_icmp_lt q_X6_artanh_2 (fun hx => no (Or.inl hx)) (fun hx => ?_)
  refine wa_iload_n q_X6_artanh_5 rfl ?_
  refine wa_ldc q_X6_artanh_6 k_RX6_62 ?_
  refine wa_icmp_le q_X6_artanh_8 (fun hy => ?_) (fun hy => no (Or.inr (Int32.not_le.mp hy)))
  have hc : ¬ (w < 2 ∨ 100000 < w) := fun q => by
    rcases q with q | q
    · exact hx q
    · exact (Int32.not_lt.mpr hy) q
  obtain ⟨n, n1, n2, rfl⟩ := x_rg hx hy
  have et : (nI n).toInt = (n : Int) := by rw [nI_iZ, iZ_to (by omega) (by omega)]
  rw [et]
  have hM := H_make (k := 3) (f := 0) (s := 0) (a := (n : Int)) (b := 1) h (vOk.mk (by decide) (fun q => absurd q (by decide)) (fun q => absurd q (by decide)) (fun _ _ => Or.inr ⟨Or.inr rfl, by omega, by omega⟩) (fun q => absurd q (by decide)) (fun q => absurd q (by decide))) (by decide) (by decide)
  rw [← lN_lZ] at hM
  refine wa_aload_n q_X6_artanh_15 rfl ?_
  refine wa_iconst q_X6_artanh_16 (v := nI 3) (by decide) ?_
  refine wa_iload_n q_X6_artanh_17 rfl ?_
  refine wn_i2l q_X6_artanh_18 (by omega) ?_
  refine wa_lconst q_X6_artanh_19 (v := lZ 1) (by decide) ?_
  refine wa_iconst q_X6_artanh_20 (v := nI 0) (by decide) ?_
  refine wa_iconst q_X6_artanh_21 (v := nI 0) (by decide) ?_
  refine wa_callV q_X6_artanh_22 g_X6_artanh_22 w_X6_make (by assumption) rfl (av := [_, _, _, _, _]) rfl rfl (lk rfl) (Calls.mono hM ?_)
  intro res τ hres
  rcases hres with ⟨q1, rfl, q3⟩ | ⟨q1, rfl, q3⟩
  · refine wa_iret q_X6_artanh_25 rfl ?_
    exact Or.inr ⟨hc, Or.inl ⟨q1, rfl, q3⟩⟩
  · refine wa_iret q_X6_artanh_25 rfl ?_
    exact Or.inr ⟨hc, Or.inr ⟨q1, rfl, q3⟩⟩
/-- the powers that are none -/
def noP (a b : Int32) : Prop := a = 0 ∨ b < 1 ∨ 1000 < b ∨ a < -5 * b ∨ 5 * b < a
theorem H_power {w v : Int32} (h : cW X σ ms me K cnt kd fs sn A B tl td lo hi qc qs sa P0 P1) : Calls X M_X6_power [.ref (K 0), .int w, .int v] σ (fun res τ => (noP w v ∧ res = some (.int (-1)) ∧ τ = σ) ∨ (¬ noP w v ∧ Mk X σ τ ms me K cnt kd fs sn A B tl td lo hi qc qs sa P0 P1 4 0 0 w.toInt v.toInt res)) := by
  obtain ⟨a', b', c', d', e', f', ho, -⟩ := h.ob
  have no : noP w v → WA X M_X6_power σ 31 (lv_args 0 [.ref (K 0), .int w, .int v]) [] σ (fun res τ => (noP w v ∧ res = some (.int (-1)) ∧ τ = σ) ∨ (¬ noP w v ∧ Mk X σ τ ms me K cnt kd fs sn A B tl td lo hi qc qs sa P0 P1 4 0 0 w.toInt v.toInt res)) := by
    intro hc
    refine wa_iconst q_X6_power_31 (v := -1) (by decide) ?_
    refine wa_iret q_X6_power_32 rfl ?_
    exact Or.inl ⟨hc, rfl, rfl⟩
  refine Calls.of rfl (lk rfl) ?_
  refine wa_iload_n q_X6_power_0 rfl ?_
  refine wa_if_eq q_X6_power_1 (fun hx => no (Or.inl hx)) (fun h0 => ?_)
  refine wa_iload_n q_X6_power_4 rfl ?_
  refine wa_iconst q_X6_power_5 (v := nI 1) (by decide) ?_
  refine wa_icmp_lt q_X6_power_6 (fun hx => no (Or.inr (Or.inl hx))) (fun h1 => ?_)
  refine wa_iload_n q_X6_power_9 rfl ?_
  refine wa_sipush q_X6_power_10 (v := nI 1000) (by decide) ?_
  refine wa_icmp_gt q_X6_power_13 (fun hx => no (Or.inr (Or.inr (Or.inl hx)))) (fun h2 => ?_)
  refine wa_iload_n q_X6_power_16 rfl ?_
  refine wa_bipush q_X6_power_17 (v := -5) (by decide) ?_
  refine wa_iload_n q_X6_power_19 rfl ?_
  refine wa_imul q_X6_power_20 ?_
  refine wa_icmp_lt q_X6_power_21 (fun hx => no (Or.inr (Or.inr (Or.inr (Or.inl hx))))) (fun h3 => ?_)
  refine wa_iload_n q_X6_power_24 rfl ?_
  refine wa_iconst q_X6_power_25 (v := 5) (by decide) ?_
  refine wa_iload_n q_X6_power_26 rfl ?_
  refine wa_imul q_X6_power_27 ?_
  refine wa_icmp_le q_X6_power_28 (fun h4 => ?_) (fun hx => no (Or.inr (Or.inr (Or.inr (Or.inr (Int32.not_le.mp hx))))))
  have hc : ¬ noP w v := fun q => by
    rcases q with q | q | q | q | q
    · exact h0 q
    · exact h1 q
    · exact h2 q
    · exact h3 q
    · exact (Int32.not_lt.mpr h4) q
  have t1 : (1 : Int32).toInt = 1 := by decide
  have t2 : (1000 : Int32).toInt = 1000 := by decide
  have v1 : 1 ≤ v.toInt := by
    have e : (nI 1).toInt = 1 := by decide
    have q : ¬ v.toInt < 1 := fun q => h1 (Int32.lt_iff_toInt_lt.mpr (by rw [e]; exact q))
    omega
  have v2 : v.toInt ≤ 1000 := by
    have e : (nI 1000).toInt = 1000 := by decide
    have q : ¬ 1000 < v.toInt := fun q => h2 (Int32.lt_iff_toInt_lt.mpr (by rw [e]; exact q))
    omega
  have ev : v = iZ v.toInt := (iZ_back v).symm
  have m5 : (-5 : Int32) * v = iZ (-5 * v.toInt) := by
    rw [← iZ_mul, iZ_back]; rfl
  have p5 : (5 : Int32) * v = iZ (5 * v.toInt) := by
    rw [← iZ_mul, iZ_back]; rfl
  have wr := iZ_rg w
  have a1 : -5 * v.toInt ≤ w.toInt := by
    rw [m5] at h3
    have e := iZ_to (z := -5 * v.toInt) (by omega) (by omega)
    have q : ¬ w.toInt < -5 * v.toInt := fun q => h3 (Int32.lt_iff_toInt_lt.mpr (by rw [e]; exact q))
    omega
  have a2 : w.toInt ≤ 5 * v.toInt := by
    rw [p5] at h4
    have := Int32.le_iff_toInt_le.mp h4
    rw [iZ_to (by omega) (by omega)] at this; exact this
  have hM := H_make (k := 4) (f := 0) (s := 0) (a := w.toInt) (b := v.toInt) h (vOk.mk (by decide) (fun q => absurd q (by decide)) (fun q => absurd q (by decide)) (fun _ _ => Or.inl ⟨rfl, v1, v2, by omega⟩) (fun q => absurd q (by decide)) (fun q => absurd q (by decide))) (by decide) (by decide)
  have l1 : w.toInt64 = lZ w.toInt := by rw [← iZ_l wr.1 wr.2, iZ_back]
  have l2 : v.toInt64 = lZ v.toInt := by rw [← iZ_l (by omega) (by omega), iZ_back]
  refine wa_aload_n q_X6_power_33 rfl ?_
  refine wa_iconst q_X6_power_34 (v := nI 4) (by decide) ?_
  refine wa_iload_n q_X6_power_35 rfl ?_
  refine wa_i2l q_X6_power_36 l1 ?_
  refine wa_iload_n q_X6_power_37 rfl ?_
  refine wa_i2l q_X6_power_38 l2 ?_
  refine wa_iconst q_X6_power_39 (v := nI 0) (by decide) ?_
  refine wa_iconst q_X6_power_40 (v := nI 0) (by decide) ?_
  refine wa_callV q_X6_power_41 g_X6_power_41 w_X6_make (by assumption) rfl (av := [_, _, _, _, _]) rfl rfl (lk rfl) (Calls.mono hM ?_)
  intro res τ hres
  rcases hres with ⟨q1, rfl, q3⟩ | ⟨q1, rfl, q3⟩
  · refine wa_iret q_X6_power_44 rfl ?_
    exact Or.inr ⟨hc, Or.inl ⟨q1, rfl, q3⟩⟩
  · refine wa_iret q_X6_power_44 rfl ?_
    exact Or.inr ⟨hc, Or.inr ⟨q1, rfl, q3⟩⟩
theorem H_root {w : Int32} (h : cW X σ ms me K cnt kd fs sn A B tl td lo hi qc qs sa P0 P1) : Calls X M_X6_root [.ref (K 0), .int w] σ (fun res τ => ((∀ v, v < cnt → w ≠ nI v) ∧ res = some (.int (-1)) ∧ τ = σ) ∨ (∃ v, v < cnt ∧ w = nI v ∧ Mk X σ τ ms me K cnt kd fs sn A B tl td lo hi qc qs sa P0 P1 5 v v 0 0 res)) := by
  have hc := h.c60
  obtain ⟨a', b', c', d', e', f', ho, -⟩ := h.ob
  refine Calls.of rfl (lk rfl) ?_
  refine wa_aload_n q_X6_root_0 rfl ?_
  refine wa_iload_n q_X6_root_1 rfl ?_
  refine wa_callV q_X6_root_2 g_X6_root_2 w_X6_isValue (by assumption) rfl (av := [_]) rfl rfl (lk rfl) (Calls.mono (H_isVal h) ?_)
  rintro _ τ1 ⟨hres, rfl⟩
  rcases hres with ⟨v, hv, rfl, rfl⟩ | ⟨hv, rfl⟩
  · refine wn_if_eq q_X6_root_5 (by decide) (fun q => absurd q (by decide)) (fun _ => ?_)
    have hM := H_make (k := 5) (f := v) (s := v) (a := 0) (b := 0) h (vOk.mk (by decide) (fun q => absurd q (by decide)) (fun q => absurd q (by decide)) (fun _ q => absurd q (by decide)) (fun _ => ⟨hv, hv⟩) (fun _ => rfl)) (by omega) (by omega)
    refine wa_aload_n q_X6_root_8 rfl ?_
    refine wa_iconst q_X6_root_9 (v := nI 5) (by decide) ?_
    refine wa_lconst q_X6_root_10 (v := lZ 0) (by decide) ?_
    refine wa_lconst q_X6_root_11 (v := lZ 0) (by decide) ?_
    refine wa_iload_n q_X6_root_12 rfl ?_
    refine wa_iload_n q_X6_root_13 rfl ?_
    refine wa_callV q_X6_root_14 g_X6_root_14 w_X6_make (by assumption) rfl (av := [_, _, _, _, _]) rfl rfl (lk rfl) (Calls.mono hM ?_)
    intro res τ hres
    rcases hres with ⟨q1, rfl, q3⟩ | ⟨q1, rfl, q3⟩
    · refine wa_goto q_X6_root_17 ?_
      refine wa_iret q_X6_root_21 rfl ?_
      exact Or.inr ⟨v, hv, rfl, Or.inl ⟨q1, rfl, q3⟩⟩
    · refine wa_goto q_X6_root_17 ?_
      refine wa_iret q_X6_root_21 rfl ?_
      exact Or.inr ⟨v, hv, rfl, Or.inr ⟨q1, rfl, q3⟩⟩
  · refine wn_if_eq q_X6_root_5 (by decide) (fun _ => ?_) (fun q => absurd q (by decide))
    refine wa_iconst q_X6_root_20 (v := -1) (by decide) ?_
    refine wa_iret q_X6_root_21 rfl ?_
    exact Or.inl ⟨hv, rfl, rfl⟩
theorem H_join {o x y : Int32} (h : cW X σ ms me K cnt kd fs sn A B tl td lo hi qc qs sa P0 P1) : Calls X M_X6_join [.ref (K 0), .int o, .int x, .int y] σ (fun res τ => ((o < 0 ∨ 3 < o ∨ (∀ v, v < cnt → x ≠ nI v) ∨ (∀ v, v < cnt → y ≠ nI v)) ∧ res = some (.int (-1)) ∧ τ = σ) ∨ (∃ k u v, k ≤ 3 ∧ o = nI k ∧ u < cnt ∧ x = nI u ∧ v < cnt ∧ y = nI v ∧ Mk X σ τ ms me K cnt kd fs sn A B tl td lo hi qc qs sa P0 P1 (6 + k) u v 0 0 res)) := by
  have hc := h.c60
  obtain ⟨a', b', c', d', e', f', ho, -⟩ := h.ob
  have no : (o < 0 ∨ 3 < o ∨ (∀ v, v < cnt → x ≠ nI v) ∨ (∀ v, v < cnt → y ≠ nI v)) → WA X M_X6_join σ 25 (lv_args 0 [.ref (K 0), .int o, .int x, .int y]) [] σ (fun res τ => ((o < 0 ∨ 3 < o ∨ (∀ v, v < cnt → x ≠ nI v) ∨ (∀ v, v < cnt → y ≠ nI v)) ∧ res = some (.int (-1)) ∧ τ = σ) ∨ (∃ k u v, k ≤ 3 ∧ o = nI k ∧ u < cnt ∧ x = nI u ∧ v < cnt ∧ y = nI v ∧ Mk X σ τ ms me K cnt kd fs sn A B tl td lo hi qc qs sa P0 P1 (6 + k) u v 0 0 res)) := by
    intro hq
    refine wa_iconst q_X6_join_25 (v := -1) (by decide) ?_
    refine wa_iret q_X6_join_26 rfl ?_
    exact Or.inl ⟨hq, rfl, rfl⟩
  refine Calls.of rfl (lk rfl) ?_
  refine wa_iload_n q_X6_join_0 rfl ?_
  refine wa_if_lt q_X6_join_1 (fun q => no (Or.inl q)) (fun h1 => ?_)
  refine wa_iload_n q_X6_join_4 rfl ?_
  refine wa_iconst q_X6_join_5 (v := nI 3) (by decide) ?_
  refine wa_icmp_gt q_X6_join_6 (fun q => no (Or.inr (Or.inl q))) (fun h2 => ?_)
  refine wa_aload_n q_X6_join_9 rfl ?_
  refine wa_iload_n q_X6_join_10 rfl ?_
  refine wa_callV q_X6_join_11 g_X6_join_11 w_X6_isValue (by assumption) rfl (av := [_]) rfl rfl (lk rfl) (Calls.mono (H_isVal h) ?_)
  rintro _ τ1 ⟨hres, eτ⟩
  rw [eτ]
  rcases hres with ⟨u, hu, eu, rfl⟩ | ⟨hu, rfl⟩
  · refine wn_if_eq q_X6_join_14 (by decide) (fun q => absurd q (by decide)) (fun _ => ?_)
    refine wa_aload_n q_X6_join_17 rfl ?_
    refine wa_iload_n q_X6_join_18 rfl ?_
    refine wa_callV q_X6_join_19 g_X6_join_19 w_X6_isValue (by assumption) rfl (av := [_]) rfl rfl (lk rfl) (Calls.mono (H_isVal h) ?_)
    rintro _ τ2 ⟨hres, eτ2⟩
    rw [eτ2]
    rcases hres with ⟨v, hv, ev, rfl⟩ | ⟨hv, rfl⟩
    · refine wn_if_ne q_X6_join_22 (by decide) (fun _ => ?_) (fun q => absurd q (by decide))
      obtain ⟨k, hk, ek⟩ : ∃ k : Nat, k ≤ 3 ∧ o = nI k := by
        obtain ⟨k, hk, e⟩ := nI_of h1
        subst e
        refine ⟨k, ?_, rfl⟩
        have : ¬ nI 3 < nI k := h2
        have := mt (nI_ltI (by decide) hk).mpr this
        omega
      have hM := H_make (k := 6 + k) (f := u) (s := v) (a := 0) (b := 0) h (vOk.mk (by omega) (fun q => by omega) (fun q => by omega) (fun _ q => by omega) (fun _ => ⟨hu, hv⟩) (fun q => by omega)) (by omega) (by omega)
      subst eu
      subst ev
      subst ek
      refine wa_aload_n q_X6_join_27 rfl ?_
      refine wa_bipush q_X6_join_28 (v := nI 6) (by decide) ?_
      refine wa_iload_n q_X6_join_30 rfl ?_
      refine wn_iadd q_X6_join_31 ?_
      refine wa_lconst q_X6_join_32 (v := lZ 0) (by decide) ?_
      refine wa_lconst q_X6_join_33 (v := lZ 0) (by decide) ?_
      refine wa_iload_n q_X6_join_34 rfl ?_
      refine wa_iload_n q_X6_join_35 rfl ?_
      refine wa_callV q_X6_join_36 g_X6_join_36 w_X6_make (by assumption) rfl (av := [_, _, _, _, _]) rfl rfl (lk rfl) (Calls.mono hM ?_)
      intro res τ hres
      rcases hres with ⟨q1, rfl, q3⟩ | ⟨q1, rfl, q3⟩
      · refine wa_iret q_X6_join_39 rfl ?_
        exact Or.inr ⟨k, u, v, hk, rfl, hu, rfl, hv, rfl, Or.inl ⟨q1, rfl, q3⟩⟩
      · refine wa_iret q_X6_join_39 rfl ?_
        exact Or.inr ⟨k, u, v, hk, rfl, hu, rfl, hv, rfl, Or.inr ⟨q1, rfl, q3⟩⟩
    · refine wn_if_ne q_X6_join_22 (by decide) (fun q => absurd q (by decide)) (fun _ => ?_)
      exact no (Or.inr (Or.inr (Or.inr hv)))
  · refine wn_if_eq q_X6_join_14 (by decide) (fun _ => ?_) (fun q => absurd q (by decide))
    exact no (Or.inr (Or.inr (Or.inl hu)))
end makes
