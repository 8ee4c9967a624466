/-! The reference's world; its makers -/
/-- hd: has THE DIGITS; td they; lo, hi the latest enclosure; qs the quotients, qc how many; sa the precision -/
def mW (X : en_X) (σ : en_S) (M : Nat → Nat) (cnt : Nat) (kd fs sn : Nat → Nat) (A B : Nat → Int) (hd : Bool) (td lo hi : Int) (qc : Nat) (qs : Nat → Int) (sa : Nat) : Prop :=
  ∃ cd C Z G V K N1 N2 Op Nd Pa Fo, rV X σ M (cd, nI cnt, nI (if hd then 1 else 0), nI qc, nI sa) C Z G V ∧ mA X σ M K N1 N2 Op Nd Pa Fo ∧ (cnt ≤ 60 ∧ qc ≤ 40 ∧ sa ≤ 480) ∧ (∀ i, i < cnt → vOk kd fs sn A B i ∧ mK K N1 N2 kd fs sn A B i) ∧ (V 13 = td ∧ V 14 = lo ∧ V 15 = hi) ∧ ∀ j, j < 40 → Pa j = lZ (qs j)
section ref30
variable {X : en_X} {σ τ : en_S} {M : Nat → Nat} {cnt : Nat} {kd fs sn : Nat → Nat} {A B : Nat → Int} {hd : Bool} {td lo hi : Int} {qc : Nat} {qs : Nat → Int} {sa : Nat} {K : Nat → Int32} {N1 N2 Pa Fo : Nat → Int64} {Op Nd : Nat → Bool} {C Z : Nat → Nat} {G : Nat → Int32} {V : Nat → Int} {cd : Int32}
theorem vOk_un {k f s : Nat} {a b : Int} {i : Nat} (hi : i < cnt) (h : vOk kd fs sn A B i) : vOk (un kd cnt k) (un fs cnt f) (un sn cnt s) (unI A cnt a) (unI B cnt b) i := by
  unfold vOk
  rw [un_n (by omega), un_n (by omega), un_n (by omega), unI_n (by omega), unI_n (by omega)]
  exact h
theorem mK_un {k f s : Nat} {a b : Int} {i : Nat} {x : Int32} {y z : Int64} (hi : i < cnt) (h : mK K N1 N2 kd fs sn A B i) : mK (upG K cnt x) (upL N1 cnt y) (upL N2 cnt z) (un kd cnt k) (un fs cnt f) (un sn cnt s) (unI A cnt a) (unI B cnt b) i := by
  unfold mK
  rw [upG_n (by omega), upL_n (by omega), upL_n (by omega), un_n (by omega), un_n (by omega), un_n (by omega), unI_n (by omega), unI_n (by omega)]
  exact h
theorem mK_mk {k f s : Nat} {a b : Int} {y z : Int64} (h1 : k ≤ 4 → y = lZ a) (h2 : k = 1 ∨ k = 4 → z = lZ b) (h3 : 5 ≤ k → y = lN f) (h4 : 6 ≤ k → z = lN s) (h5 : k = 4 → a ≠ 0) : mK (upG K cnt (nI k)) (upL N1 cnt y) (upL N2 cnt z) (un kd cnt k) (un fs cnt f) (un sn cnt s) (unI A cnt a) (unI B cnt b) cnt := by
  unfold mK
  rw [upG_s, upL_s, upL_s, un_s, un_s, un_s, unI_s, unI_s]
  exact ⟨rfl, h1, h2, h3, h4, h5⟩
theorem R_add {k : Nat} {y z : Int64} {o3 o4 o5 : Int32} (h : rV X σ M (cd, nI cnt, o3, o4, o5) C Z G V) (hA : mA X σ M K N1 N2 Op Nd Pa Fo) (hc : cnt ≤ 60) :
    Calls X M_X7_add [.ref (M 0), .int (nI k), .long y, .long z] σ (fun res τ => (cnt = 60 ∧ res = some (.int (-2)) ∧ τ = σ) ∨ (cnt < 60 ∧ res = some (.int (nI cnt)) ∧ rV X τ M (cd, nI (cnt + 1), o3, o4, o5) C Z G V ∧ mA X τ M (upG K cnt (nI k)) (upL N1 cnt y) (upL N2 cnt z) Op Nd Pa Fo ∧ mFr M σ τ)) := by
  obtain ⟨a0, a1, a2, a3, -⟩ := id h.1
  obtain ⟨k4, k5, k6, k7, k8, k11, k14, hD⟩ := id hA
  refine Calls.of rfl (lk rfl) ?_
  refine wa_aload_n q_X7_add_0 rfl ?_
  refine wa_getf q_X7_add_1 f_RX7_90 (by assumption) rfl ?_
  refine wa_bipush q_X7_add_4 (v := nI 60) (by decide) ?_
  refine wn_icmp_ne q_X7_add_6 (by omega) (by decide) (fun hx => ?_) (fun hx => ?_)
  · refine wa_aload_n q_X7_add_12 rfl ?_
    refine wa_getf q_X7_add_13 f_RX7_20 (by assumption) rfl ?_
    refine wa_aload_n q_X7_add_16 rfl ?_
    refine wa_getf q_X7_add_17 f_RX7_90 (by assumption) rfl ?_
    refine wa_iload_n q_X7_add_20 rfl ?_
    refine wn_gast q_X7_add_21 (by assumption) (by omega) (fun σ_p1 p1 f_p1 e1_p1 e2_p1 => ?_)
    have h1 := h.o8 hD (by decide) (by decide) k4 f_p1
    have hA1 := hA.s4 p1 f_p1
    obtain ⟨b0, b1, b2, b3, -⟩ := id h1.1
    obtain ⟨r4, r5, r6, r7, r8, r11, r14, -⟩ := id hA1
    refine wa_aload_n q_X7_add_22 rfl ?_
    refine wa_getf q_X7_add_23 f_RX7_23 (by assumption) rfl ?_
    refine wa_aload_n q_X7_add_26 rfl ?_
    refine wa_getf q_X7_add_27 f_RX7_90 (by assumption) rfl ?_
    refine wa_lload_n q_X7_add_30 rfl ?_
    refine wn_glast q_X7_add_31 r5 (by omega) (fun σ2 g2 f2 e1 e2 => ?_)
    have h2 := h1.o8 hD (by decide) (by decide) r5 f2
    have hA2 := hA1.s5 g2 f2
    obtain ⟨c0, c1, c2, c3, -⟩ := id h2.1
    obtain ⟨t4, t5, t6, t7, t8, t11, t14, -⟩ := id hA2
    refine wa_aload_n q_X7_add_32 rfl ?_
    refine wa_getf q_X7_add_33 f_RX7_27 (by assumption) rfl ?_
    refine wa_aload_n q_X7_add_36 rfl ?_
    refine wa_getf q_X7_add_37 f_RX7_90 (by assumption) rfl ?_
    refine wa_lload q_X7_add_40 rfl ?_
    refine wn_glast q_X7_add_42 t6 (by omega) (fun σ3 g3 f3 e3 e4 => ?_)
    have h3 := h2.o8 hD (by decide) (by decide) t6 f3
    have hA3 := hA2.s6 g3 f3
    obtain ⟨d0, d1, d2, d3, -⟩ := id h3.1
    refine wa_aload_n q_X7_add_43 rfl ?_
    refine wa_dup q_X7_add_44 rfl ?_
    refine wa_getf q_X7_add_45 f_RX7_90 (by assumption) rfl ?_
    refine wa_iconst q_X7_add_48 (v := nI 1) (by decide) ?_
    refine wn_iadd q_X7_add_49 ?_
    refine wn_putf q_X7_add_50 p_RX7_90 (by assumption) (lk rfl) rfl rfl rfl (fun σ_p4 p4 f_p4 e1_p4 e2_p4 => ?_)
    have h4 := h3.s0 (O' := (cd, nI (cnt + 1), o3, o4, o5)) p4 f_p4
    have hA4 := hA3.s0 d0 f_p4
    obtain ⟨i0, i1, i2, i3, -⟩ := id h4.1
    refine wa_aload_n q_X7_add_53 rfl ?_
    refine wa_getf q_X7_add_54 f_RX7_90 (by assumption) rfl ?_
    refine wa_iconst q_X7_add_57 (v := nI 1) (by decide) ?_
    refine wn_isub q_X7_add_58 (by omega) ?_
    rw [Nat.add_sub_cancel]
    refine wa_iret q_X7_add_59 rfl ?_
    exact Or.inr ⟨by omega, rfl, h4, hA4, (mFr.put (by decide) f_p1 e1_p1 e2_p1).tr ((mFr.put (by decide) f2 e1 e2).tr ((mFr.put (by decide) f3 e3 e4).tr (mFr.put0 f_p4 e1_p4 e2_p4)))⟩
  · refine wa_bipush q_X7_add_9 (v := -2) (by decide) ?_
    refine wa_iret q_X7_add_11 rfl ?_
    exact Or.inl ⟨hx, rfl, rfl⟩
/-- a VALUE is made, or there are 60 -/
def Mm (X : en_X) (σ τ : en_S) (M : Nat → Nat) (cnt : Nat) (kd fs sn : Nat → Nat) (A B : Nat → Int) (hd : Bool) (td lo hi : Int) (qc : Nat) (qs : Nat → Int) (sa : Nat) (k f s : Nat) (a b : Int) (res : Option Value) : Prop :=
  mFr M σ τ ∧ ((cnt = 60 ∧ res = some (.int (-2)) ∧ mW X τ M cnt kd fs sn A B hd td lo hi qc qs sa) ∨ (cnt < 60 ∧ res = some (.int (nI cnt)) ∧ mW X τ M (cnt + 1) (un kd cnt k) (un fs cnt f) (un sn cnt s) (unI A cnt a) (unI B cnt b) hd td lo hi qc qs sa))
/-- add, with the fields' code just written: σ before it, σ1 behind it -/
theorem R_make {σ1 : en_S} {k f s : Nat} {a b : Int} {y z : Int64} (h : mW X σ M cnt kd fs sn A B hd td lo hi qc qs sa) (hc : ∀ cd, look σ (M 0) = some (rE M (cd, nI cnt, nI (if hd then 1 else 0), nI qc, nI sa)) → look σ1 (M 0) = some (rE M (nI 0, nI cnt, nI (if hd then 1 else 0), nI qc, nI sa))) (hf : ∀ q, q ≠ M 0 → look σ1 q = look σ q) (e1 : σ1.1 = σ.1) (e2 : σ1.2.1 = σ.2.1) (hok : vOk (un kd cnt k) (un fs cnt f) (un sn cnt s) (unI A cnt a) (unI B cnt b) cnt) (h1 : k ≤ 4 → y = lZ a) (h2 : k = 1 ∨ k = 4 → z = lZ b) (h3 : 5 ≤ k → y = lN f) (h4 : 6 ≤ k → z = lN s) (h5 : k = 4 → a ≠ 0) :
    Calls X M_X7_add [.ref (M 0), .int (nI k), .long y, .long z] σ1 (fun res τ => Mm X σ τ M cnt kd fs sn A B hd td lo hi qc qs sa k f s a b res) := by
  obtain ⟨cd, C, Z, G, V, K, N1, N2, Op, Nd, Pa, Fo, w, wA, ⟨c1, c2, c3⟩, wo, wv, wp⟩ := h
  have g := w.s0 (hc cd w.1.1) hf
  have gA := wA.s0 w.1.1 hf
  refine Calls.mono (R_add g gA c1) ?_
  rintro res τ (⟨q1, q2, q3⟩ | ⟨q1, q2, q3, q4, q5⟩)
  · subst q3
    exact ⟨mFr.put0 hf e1 e2, Or.inl ⟨q1, q2, nI 0, C, Z, G, V, K, N1, N2, Op, Nd, Pa, Fo, g, gA, ⟨c1, c2, c3⟩, wo, wv, wp⟩⟩
  · refine ⟨(mFr.put0 hf e1 e2).tr q5, Or.inr ⟨q1, q2, nI 0, C, Z, G, V, _, _, _, Op, Nd, Pa, Fo, q3, q4, ⟨by omega, c2, c3⟩, fun i hi => ?_, wv, wp⟩⟩
    by_cases e : i = cnt
    · subst e
      exact ⟨hok, mK_mk h1 h2 h3 h4 h5⟩
    · exact ⟨vOk_un (by omega) (wo i (by omega)).1, mK_un (by omega) (wo i (by omega)).2⟩
theorem mW.c0 {σ1 : en_S} (h : mW X σ M cnt kd fs sn A B hd td lo hi qc qs sa) (hc : ∀ cd, look σ (M 0) = some (rE M (cd, nI cnt, nI (if hd then 1 else 0), nI qc, nI sa)) → look σ1 (M 0) = some (rE M (nI 0, nI cnt, nI (if hd then 1 else 0), nI qc, nI sa))) (hf : ∀ q, q ≠ M 0 → look σ1 q = look σ q) : mW X σ1 M cnt kd fs sn A B hd td lo hi qc qs sa := by
  obtain ⟨cd, C, Z, G, V, K, N1, N2, Op, Nd, Pa, Fo, w, wA, wc, wo, wv, wp⟩ := h
  exact ⟨nI 0, C, Z, G, V, K, N1, N2, Op, Nd, Pa, Fo, w.s0 (hc cd w.1.1) hf, wA.s0 w.1.1 hf, wc, wo, wv, wp⟩
theorem mW.ob (h : mW X σ M cnt kd fs sn A B hd td lo hi qc qs sa) : ∃ cd, look σ (M 0) = some (rE M (cd, nI cnt, nI (if hd then 1 else 0), nI qc, nI sa)) := by
  obtain ⟨cd, C, Z, G, V, K, N1, N2, Op, Nd, Pa, Fo, w, -⟩ := h
  exact ⟨cd, w.1.1⟩
theorem mW.c60 (h : mW X σ M cnt kd fs sn A B hd td lo hi qc qs sa) : cnt ≤ 60 := by
  obtain ⟨cd, C, Z, G, V, K, N1, N2, Op, Nd, Pa, Fo, w, wA, ⟨c, -⟩, -⟩ := h
  exact c
theorem T_whole {w : Int64} (h : mW X σ M cnt kd fs sn A B hd td lo hi qc qs sa) : Calls X M_X7_whole [.ref (M 0), .long w] σ (fun res τ => Mm X σ τ M cnt kd fs sn A B hd td lo hi qc qs sa 0 0 0 w.toInt 1 res) := by
  obtain ⟨cd, a0⟩ := h.ob
  have hr := lZ_rg w
  refine Calls.of rfl (lk rfl) ?_
  refine wa_aload_n q_X7_whole_0 rfl ?_
  refine wa_iconst q_X7_whole_1 (v := nI 0) (by decide) ?_
  refine wn_putf q_X7_whole_2 p_RX7_43 (by assumption) (lk rfl) rfl rfl rfl (fun σ_p1 p1 f_p1 e1_p1 e2_p1 => ?_)
  have hM := R_make (σ1 := σ_p1) (k := 0) (f := 0) (s := 0) (a := w.toInt) (b := 1) (y := w) (z := lN 0) h (fun _ _ => p1) f_p1 e1_p1 e2_p1 (vOk.mk (by decide) (fun _ => hr) (fun q => absurd q (by decide)) (fun q => absurd q (by decide)) (fun q => absurd q (by decide)) (fun q => absurd q (by decide))) (fun _ => (lZ_back w).symm) (fun q => absurd q (by decide)) (fun q => absurd q (by decide)) (fun q => absurd q (by decide)) (fun q => absurd q (by decide))
  refine wa_aload_n q_X7_whole_5 rfl ?_
  refine wa_iconst q_X7_whole_6 (v := nI 0) (by decide) ?_
  refine wa_lload_n q_X7_whole_7 rfl ?_
  refine wa_lconst q_X7_whole_8 (v := lN 0) (by decide) ?_
  refine wa_callV q_X7_whole_9 g_X7_whole_9 w_X7_add (by assumption) rfl (av := [_, _, _]) rfl rfl (lk rfl) (Calls.mono hM ?_)
  intro res τ hres
  obtain ⟨q0, ⟨q1, rfl, q3⟩ | ⟨q1, rfl, q3⟩⟩ := hres
  · refine wa_iret q_X7_whole_12 rfl ?_
    exact ⟨q0, Or.inl ⟨q1, rfl, q3⟩⟩
  · refine wa_iret q_X7_whole_12 rfl ?_
    exact ⟨q0, Or.inr ⟨q1, rfl, q3⟩⟩
theorem T_ratio {w v : Int64} (h : mW X σ M cnt kd fs sn A B hd td lo hi qc qs sa) : Calls X M_X7_ratio [.ref (M 0), .long w, .long v] σ (fun res τ => (v = 0 ∧ res = some (.int (-1)) ∧ mFr M σ τ ∧ mW X τ M cnt kd fs sn A B hd td lo hi qc qs sa) ∨ (v ≠ 0 ∧ Mm X σ τ M cnt kd fs sn A B hd td lo hi qc qs sa 1 0 0 w.toInt v.toInt res)) := by
  obtain ⟨cd, a0⟩ := h.ob
  have hr := lZ_rg w
  have hr2 := lZ_rg v
  refine Calls.of rfl (lk rfl) ?_
  refine wa_aload_n q_X7_ratio_0 rfl ?_
  refine wa_iconst q_X7_ratio_1 (v := nI 0) (by decide) ?_
  refine wn_putf q_X7_ratio_2 p_RX7_43 (by assumption) (lk rfl) rfl rfl rfl (fun σ_p1 p1 f_p1 e1_p1 e2_p1 => ?_)
  refine wa_lload_n q_X7_ratio_5 rfl ?_
  refine wa_lconst q_X7_ratio_6 (v := 0) (by decide) ?_
  refine wa_lcmp q_X7_ratio_7 ?_
  refine wa_if_ne q_X7_ratio_8 (fun hx => ?_) (fun hx => ?_)
  · have hv : v ≠ 0 := fun e => hx ((lg_cmp_eq _ _).mpr e)
    have hvi : v.toInt ≠ 0 := fun e => hv (by rw [← lZ_back v, e]; rfl)
    have hM := R_make (σ1 := σ_p1) (k := 1) (f := 0) (s := 0) (a := w.toInt) (b := v.toInt) (y := w) (z := v) h (fun _ _ => p1) f_p1 e1_p1 e2_p1 (vOk.mk (by decide) (fun _ => hr) (fun _ => ⟨hvi, hr2⟩) (fun q => absurd q (by decide)) (fun q => absurd q (by decide)) (fun q => absurd q (by decide))) (fun _ => (lZ_back w).symm) (fun _ => (lZ_back v).symm) (fun q => absurd q (by decide)) (fun q => absurd q (by decide)) (fun q => absurd q (by decide))
    refine wa_aload_n q_X7_ratio_15 rfl ?_
    refine wa_iconst q_X7_ratio_16 (v := nI 1) (by decide) ?_
    refine wa_lload_n q_X7_ratio_17 rfl ?_
    refine wa_lload_n q_X7_ratio_18 rfl ?_
    refine wa_callV q_X7_ratio_19 g_X7_ratio_19 w_X7_add (by assumption) rfl (av := [_, _, _]) rfl rfl (lk rfl) (Calls.mono hM ?_)
    intro res τ hres
    obtain ⟨q0, ⟨q1, rfl, q3⟩ | ⟨q1, rfl, q3⟩⟩ := hres
    · refine wa_iret q_X7_ratio_22 rfl ?_
      exact Or.inr ⟨hv, q0, Or.inl ⟨q1, rfl, q3⟩⟩
    · refine wa_iret q_X7_ratio_22 rfl ?_
      exact Or.inr ⟨hv, q0, Or.inr ⟨q1, rfl, q3⟩⟩
  · have hv : v = 0 := (lg_cmp_eq _ _).mp hx
    refine wa_iconst q_X7_ratio_11 (v := -1) (by decide) ?_
    refine wa_goto q_X7_ratio_12 ?_
    refine wa_iret q_X7_ratio_22 rfl ?_
    exact Or.inl ⟨hv, rfl, mFr.put0 f_p1 e1_p1 e2_p1, h.c0 (fun _ _ => p1) f_p1⟩
end ref30
