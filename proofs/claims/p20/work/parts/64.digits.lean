/-! EnclosedDigits: digits -/
noncomputable def dgF (kd fs sn : Nat → Nat) (A B : Nat → Int) (v n : Nat) : Nat → Nat → Option (Nat × Int)
  | 0, _ => none
  | t + 1, p => if 480 < p then none else match enc kd fs sn A B p v with
    | none => dgF kd fs sn A B v n t (p * 2)
    | some q => if shr q.1 (p - n) (-1) = shr q.2 (p - n) (-1) then some (p, shr q.1 (p - n) (-1)) else dgF kd fs sn A B v n t (p * 2)
/-- the digits to n places: the precision, the number -/
noncomputable def dgs (kd fs sn : Nat → Nat) (A B : Nat → Int) (v n : Nat) : Option (Nat × Int) := dgF kd fs sn A B v n 10 (n + 10)
section digi
variable {X : en_X} {σ τ : en_S} {ms me : Nat} {K : Nat → Nat} {cnt : Nat} {kd fs sn : Nat → Nat} {A B : Nat → Int} {tl qc : Nat} {qs : Nat → Int} {sa P0 P1 : Nat} {z va : Nat → Nat} {mk : Nat} {S T : Nat → en_B} {U U' : Nat → Int} {at' op fa : Nat → Nat} {o1 u1 r1 o2 u2 r2 : Nat} {g : Nat → Int64}
theorem H_told {m v : Nat} (h : cWi X σ ms me K cnt kd fs sn A B tl qc qs sa P0 P1 z va mk S U at' op fa o1 u1 r1 o2 u2 r2 g) (hv : v < mk) (hm : m ≤ 480) (hop : op v < 2) (hb : op v = 0 → (U (28 + 3 * v)).natAbs < BB ^ 90 ∧ (U (28 + 3 * v + 1)).natAbs < BB ^ 90) :
    Calls X M_X6_digitsAreTold [.ref (K 0), .ref (va v), .int (nI m)] σ (fun res τ => (op v = 1 ∧ res = some (.int (nI 0)) ∧ τ = σ) ∨ (op v = 0 ∧ res = some (.int (nI (if shr (U (28 + 3 * v)) m (-1) = shr (U (28 + 3 * v + 1)) m (-1) then 1 else 0))) ∧ ∃ S' U', cWi X τ ms me K cnt kd fs sn A B tl qc qs sa P0 P1 z va mk S' U' at' op fa o1 u1 r1 o2 u2 r2 g ∧ U' 15 = shr (U (28 + 3 * v)) m (-1) ∧ (∀ j, 17 ≤ j → U' j = U j) ∧ Frm ms me σ τ)) := by
  have ho := h.1.1
  have hV := h.2.1.2.2.2.1
  have hz := h.2.1.1
  have hvv := hV.at hv
  have hvl := hV.lt hv
  refine Calls.of rfl (lk rfl) ?_
  refine wa_aload_n q_X6_digitsAreTold_0 rfl ?_
  refine wa_ifnull q_X6_digitsAreTold_1 ?_
  refine wa_aload_n q_X6_digitsAreTold_4 rfl ?_
  refine wa_getf q_X6_digitsAreTold_5 f_RX6_106 (by assumption) rfl ?_
  refine wn_if_eq q_X6_digitsAreTold_8 (by omega) (fun hx => ?_) (fun hx => ?_)
  · obtain ⟨c3, c4⟩ := hb hx
    have hsA : ∀ x : Int, x.natAbs < BB ^ 90 → (shr x m (-1)).natAbs < BB ^ 90 := fun x hx => Nat.lt_of_le_of_lt (shr_abs _ _ _) hx
    have i1 := hz.big (i := 15) (by omega)
    refine wa_aload_n q_X6_digitsAreTold_13 rfl ?_
    refine wa_getf q_X6_digitsAreTold_14 f_RX6_25 (by assumption) rfl ?_
    refine wa_aload_n q_X6_digitsAreTold_17 rfl ?_
    refine wa_getf q_X6_digitsAreTold_18 f_RX6_110 (by assumption) rfl ?_
    refine wa_callV q_X6_digitsAreTold_21 g_X6_digitsAreTold_21 w_X1_copy (by assumption) rfl (av := [_]) rfl rfl (lk rfl) (Calls.mono (Z_copy hz (i := 15) (j := 28 + 3 * v) (by omega) (by omega) (by omega) (lp_le c3 (by decide))) ?_)
    rintro _ σ1 ⟨rfl, S1, w1, t1⟩
    have ho1 := bw_obj t1 hz.R h.1.2 ho (by decide)
    have hl1 := Nat.lt_of_lt_of_le h.1.2 t1.1
    have hv1 := bw_obj t1 hz.R hvl hvv (by decide)
    have hvl1 := Nat.lt_of_lt_of_le hvl t1.1
    have i2 := w1.big (i := 15) (by omega)
    refine wa_aload_n q_X6_digitsAreTold_24 rfl ?_
    refine wa_getf q_X6_digitsAreTold_25 f_RX6_25 (by assumption) rfl ?_
    refine wa_iload_n q_X6_digitsAreTold_28 rfl ?_
    refine wa_iconst q_X6_digitsAreTold_29 (v := sgI (-1)) (by decide) ?_
    refine wa_callV q_X6_digitsAreTold_30 g_X6_digitsAreTold_30 w_X1_shrink (by assumption) rfl (av := [_, _]) rfl rfl (lk rfl) (Calls.mono (Z_shrink w1 (i := 15) (by omega) (by omega) (Or.inr rfl) (by rw [uV_s]; exact lp_le c3 (by decide))) ?_)
    rintro _ σ2 ⟨rfl, S2, w2, t2⟩
    rw [uV_s] at w2
    have ho2 := bw_obj t2 w1.R hl1 ho1 (by decide)
    have hl2 := Nat.lt_of_lt_of_le hl1 t2.1
    have hv2 := bw_obj t2 w1.R hvl1 hv1 (by decide)
    have i3 := w2.big (i := 16) (by omega)
    have eh : uV (uV U 15 (U (28 + 3 * v))) 15 (shr (U (28 + 3 * v)) m (-1)) (28 + 3 * v + 1) = U (28 + 3 * v + 1) := by rw [uV_n (by omega), uV_n (by omega)]
    refine wa_aload_n q_X6_digitsAreTold_33 rfl ?_
    refine wa_getf q_X6_digitsAreTold_34 f_RX6_29 (by assumption) rfl ?_
    refine wa_aload_n q_X6_digitsAreTold_37 rfl ?_
    refine wa_getf q_X6_digitsAreTold_38 f_RX6_113 (by assumption) rfl ?_
    refine wa_callV q_X6_digitsAreTold_41 g_X6_digitsAreTold_41 w_X1_copy (by assumption) rfl (av := [_]) rfl rfl (lk rfl) (Calls.mono (Z_copy w2 (i := 16) (j := 28 + 3 * v + 1) (by omega) (by omega) (by omega) (by rw [eh]; exact lp_le c4 (by decide))) ?_)
    rintro _ σ3 ⟨rfl, S3, w3, t3⟩
    rw [eh] at w3
    have ho3 := bw_obj t3 w2.R hl2 ho2 (by decide)
    have hl3 := Nat.lt_of_lt_of_le hl2 t3.1
    have i4 := w3.big (i := 16) (by omega)
    refine wa_aload_n q_X6_digitsAreTold_44 rfl ?_
    refine wa_getf q_X6_digitsAreTold_45 f_RX6_29 (by assumption) rfl ?_
    refine wa_iload_n q_X6_digitsAreTold_48 rfl ?_
    refine wa_iconst q_X6_digitsAreTold_49 (v := sgI (-1)) (by decide) ?_
    refine wa_callV q_X6_digitsAreTold_50 g_X6_digitsAreTold_50 w_X1_shrink (by assumption) rfl (av := [_, _]) rfl rfl (lk rfl) (Calls.mono (Z_shrink w3 (i := 16) (by omega) (by omega) (Or.inr rfl) (by rw [uV_s]; exact lp_le c4 (by decide))) ?_)
    rintro _ σ4 ⟨rfl, S4, w4, t4⟩
    rw [uV_s] at w4
    have ho4 := bw_obj t4 w3.R hl3 ho3 (by decide)
    have tt := t1.tr (t2.tr (t3.tr t4))
    obtain ⟨U4, hU4⟩ : ∃ U4, U4 = uV (uV (uV (uV U 15 (U (28 + 3 * v))) 15 (shr (U (28 + 3 * v)) m (-1))) 16 (U (28 + 3 * v + 1))) 16 (shr (U (28 + 3 * v + 1)) m (-1)) := ⟨_, rfl⟩
    rw [← hU4] at w4
    have e15 : U4 15 = shr (U (28 + 3 * v)) m (-1) := by rw [hU4, uV_n (by decide), uV_n (by decide), uV_s]
    have e16 : U4 16 = shr (U (28 + 3 * v + 1)) m (-1) := by rw [hU4, uV_s]
    have eo : ∀ j, 17 ≤ j → U4 j = U j := fun j hj => by rw [hU4, uV_n (by omega), uV_n (by omega), uV_n (by omega), uV_n (by omega)]
    clear hU4
    have hW : cWi X σ4 ms me K cnt kd fs sn A B tl qc qs sa P0 P1 z va mk S4 U4 at' op fa o1 u1 r1 o2 u2 r2 g := h.num w4 tt (fun j hj => eo j (by omega)) (by rw [eo 17 (by decide)]; exact h.2.2.2.2.1.2.2.2.2.2.1) (by rw [eo 18 (by decide)]; exact h.2.2.2.2.1.2.2.2.2.2.2.1) (by rw [eo 19 (by decide)]; exact h.2.2.2.2.1.2.2.2.2.2.2.2)
    have hfr : Frm ms me σ σ4 := h.frm (E := fun _ => False) tt.x (fun q hq => absurd hq id)
    have i5 := w4.big (i := 15) (by omega)
    refine wa_aload_n q_X6_digitsAreTold_53 rfl ?_
    refine wa_getf q_X6_digitsAreTold_54 f_RX6_25 (by assumption) rfl ?_
    refine wa_aload_n q_X6_digitsAreTold_57 rfl ?_
    refine wa_getf q_X6_digitsAreTold_58 f_RX6_29 (by assumption) rfl ?_
    refine wa_callV q_X6_digitsAreTold_61 g_X6_digitsAreTold_61 w_X1_compare (by assumption) rfl (av := [_]) rfl rfl (lk rfl) (Calls.mono (Z_cmp w4 (i := 15) (j := 16) (by omega) (by omega)) ?_)
    rintro _ τ5 ⟨rfl, eτ⟩
    rw [eτ, e15, e16]
    refine wa_if_ne q_X6_digitsAreTold_64 (fun hy => ?_) (fun hy => ?_)
    · refine wa_iconst q_X6_digitsAreTold_71 (v := nI 0) (by decide) ?_
      refine wa_zret q_X6_digitsAreTold_72 rfl rfl ?_
      exact Or.inr ⟨hx, by rw [if_neg (fun q => hy (cmp0.mpr q))], S4, U4, hW, e15, eo, hfr⟩
    · refine wa_iconst q_X6_digitsAreTold_67 (v := nI 1) (by decide) ?_
      refine wa_goto q_X6_digitsAreTold_68 ?_
      refine wa_zret q_X6_digitsAreTold_72 rfl rfl ?_
      exact Or.inr ⟨hx, by rw [if_pos (cmp0.mp hy)], S4, U4, hW, e15, eo, hfr⟩
  · refine wa_iconst q_X6_digitsAreTold_11 (v := nI 0) (by decide) ?_
    refine wa_zret q_X6_digitsAreTold_12 rfl rfl ?_
    exact Or.inl ⟨by omega, rfl, rfl⟩
theorem Z_dC {N j : Nat} (h : zW X z N σ S U) (hj : j < N) : Calls X M_X1_digitCount [.ref (z j)] σ (fun res τ => (∃ c, c ≤ 5000 ∧ res = some (.int (nI c)) ∧ isD (U j).natAbs c) ∧ τ = σ) := by
  obtain ⟨h0, V, h1, h2⟩ := h
  have := V_dC h1 (zD_m hj)
  rw [h2 j hj] at this
  exact this
/-- how digits ends -/
def dgE (X : en_X) (σ : en_S) (ms me : Nat) (K : Nat → Nat) (cnt : Nat) (kd fs sn : Nat → Nat) (A B : Nat → Int) (tl : Nat) (td lo hi : Int) (qc : Nat) (qs : Nat → Int) (P0 P1 : Nat) (r : Option (Nat × Int)) (res : Option Value) (τ : en_S) : Prop :=
  Frm ms me σ τ ∧ ((r = none ∧ res = some (.int (-3)) ∧ cW X τ ms me K cnt kd fs sn A B tl td lo hi qc qs 0 P0 P1) ∨ (∃ q D c, r = some (q, D) ∧ isD D.natAbs c ∧ res = some (.int (nI (if D < 0 then 0 else 1))) ∧ cW X τ ms me K cnt kd fs sn A B (max 1 c) D lo hi qc qs q P0 P1))
set_option maxHeartbeats 2000000 in
theorem dg_loop {td lo hi : Int} {v n : Nat} {ρ σ0 : en_S} (hFL : FLok) (hv : v < cnt) (hn : n ≤ 400) :
    ∀ (t p : Nat) (σ : en_S) (S : Nat → en_B) (U : Nat → Int) (at' op fa : Nat → Nat), 10 * 2 ^ (10 - t) ≤ p → n ≤ p → p ≤ 2000 → t ≤ 10 → cWi X σ ms me K cnt kd fs sn A B tl qc qs 0 P0 P1 z va mk S U at' op fa o1 u1 r1 o2 u2 r2 g → U 17 = td ∧ U 18 = lo ∧ U 19 = hi → Frm ms me σ0 σ →
      WA X M_X6_digits ρ 31 [(3, .int (nI p)), (0, .ref (K 0)), (1, .int (nI v)), (2, .int (nI n))] [] σ (fun res τ => dgE X σ0 ms me K cnt kd fs sn A B tl td lo hi qc qs P0 P1 (dgF kd fs sn A B v n t p) res τ) := by
  intro t
  induction t with
  | zero =>
    intro p σ S U at' op fa hp hnp hp2 ht h he hfr
    have : 10 * 2 ^ (10 - 0) = 10240 := by decide
    omega
  | succ t ih =>
    intro p σ S U at' op fa hp hnp hp2 ht h he hfr
    have hp10 : 10 ≤ p := by
      have : 1 ≤ 2 ^ (10 - (t + 1)) := Nat.pow_pos (by decide)
      omega
    have hcm := h.2.2.2.2.1.1
    have hmk := h.2.1.2.2.2.1.2.2.2.2.1
    refine wa_iload_n q_X6_digits_31 rfl ?_
    refine wa_sipush q_X6_digits_32 (v := nI 480) (by decide) ?_
    refine wn_icmp_gt q_X6_digits_35 (by omega) (by omega) (fun hx => ?_) (fun hx => ?_)
    · refine wa_bipush q_X6_digits_115 (v := -3) (by decide) ?_
      refine wa_iret q_X6_digits_117 rfl ?_
      refine ⟨hfr, Or.inl ⟨if_pos hx, rfl, ⟨z, va, mk, S, U, at', op, fa, o1, u1, r1, o2, u2, r2, g, h, he⟩⟩⟩
    · have hF : dgF kd fs sn A B v n (t + 1) p = (match enc kd fs sn A B p v with
        | none => dgF kd fs sn A B v n t (p * 2)
        | some q => if shr q.1 (p - n) (-1) = shr q.2 (p - n) (-1) then some (p, shr q.1 (p - n) (-1)) else dgF kd fs sn A B v n t (p * 2)) := if_neg (by omega)
      have ho := h.1.1
      have hE := h.2.1.2.1.1
      have hpw : 10 * 2 ^ (10 - t) ≤ p * 2 := by
        rw [show 10 - t = (10 - (t + 1)) + 1 by omega, Nat.pow_succ]; omega
      refine wa_aload_n q_X6_digits_38 rfl ?_
      refine wa_aload_n q_X6_digits_39 rfl ?_
      refine wa_getf q_X6_digits_40 f_RX6_18 (by assumption) rfl ?_
      refine wa_aload_n q_X6_digits_43 rfl ?_
      refine wa_getf q_X6_digits_44 f_RX6_11 (by assumption) rfl ?_
      refine wa_iload_n q_X6_digits_47 rfl ?_
      refine wa_iload_n q_X6_digits_48 rfl ?_
      refine wa_callV q_X6_digits_49 g_X6_digits_49 w_X2_enclosed (by assumption) rfl (av := [_, _, _]) rfl rfl (lk rfl) (Calls.mono (H_encl hFL h hv (by omega) hx) ?_)
      rintro _ σ1 ⟨rfl, S1, U1, at2, op2, fa2, w1, b1, b2, b3, b4⟩
      have he1 : U1 17 = td ∧ U1 18 = lo ∧ U1 19 = hi := by rw [b3 17 (by decide) (by decide), b3 18 (by decide) (by decide), b3 19 (by decide) (by decide)]; exact he
      have hfr1 : Frm ms me σ0 σ1 := fun q x1 x2 => (b4 q x1 x2).trans (hfr q x1 x2)
      have hgot := enc_got w1 hv (by omega) b1
      have hob := (w1.2.1.2.2.2.1.2.2.2.2.2 v (by omega)).2.2.2.2.1
      have ho1 := w1.1.1
      refine wa_iload_n q_X6_digits_52 rfl ?_
      refine wa_iload_n q_X6_digits_53 rfl ?_
      refine wn_isub q_X6_digits_54 (by omega) ?_
      refine wa_callV q_X6_digits_55 g_X6_digits_55 w_X6_digitsAreTold (by assumption) rfl (av := [_, _]) rfl rfl (lk rfl) (Calls.mono (H_told w1 (m := p - n) (v := v) (by omega) (by omega) hob (fun q => by rcases hgot with w | w; omega; exact w.2.2)) ?_)
      intro res2 σ2 hres2
      rcases hres2 with ⟨c1, rfl, rfl⟩ | ⟨c1, rfl, S2, U2, w2, x1, x2, x3⟩
      · rcases hgot with ⟨d1, d2⟩ | ⟨d1, d2⟩
        · rw [d2] at hF
          refine wn_if_eq q_X6_digits_58 (by decide) (fun _ => ?_) (fun q => absurd q (by decide))
          refine wa_iload_n q_X6_digits_108 rfl ?_
          refine wa_iconst q_X6_digits_109 (v := nI 2) (by decide) ?_
          refine wn_imul q_X6_digits_110 ?_
          refine wa_istore_n q_X6_digits_111 (by decide) ?_
          refine wa_goto q_X6_digits_112 ?_
          rw [hF]
          exact wa_lv (ih (p * 2) _ S1 U1 at2 op2 fa2 hpw (by omega) (by omega) (by omega) w1 he1 hfr1) rfl
        · omega
      · rcases hgot with ⟨d1, d2⟩ | ⟨d1, d2, d3, d4⟩
        · omega
        · rw [d2] at hF
          have he2 : U2 17 = td ∧ U2 18 = lo ∧ U2 19 = hi := by rw [x2 17 (by decide), x2 18 (by decide), x2 19 (by decide)]; exact he1
          have hfr2 : Frm ms me σ0 σ2 := fun q y1 y2 => (x3 q y1 y2).trans (hfr1 q y1 y2)
          by_cases hd : shr (U1 (28 + 3 * v)) (p - n) (-1) = shr (U1 (28 + 3 * v + 1)) (p - n) (-1)
          · have hF : dgF kd fs sn A B v n (t + 1) p = some (p, shr (U1 (28 + 3 * v)) (p - n) (-1)) := hF.trans (if_pos hd)
            rw [if_pos hd, hF]
            refine wn_if_eq q_X6_digits_58 (by decide) (fun q => absurd q (by decide)) (fun _ => ?_)
            have ho2 := w2.1.1
            have hz2 := w2.2.1.1
            generalize hDv : shr (U1 (28 + 3 * v)) (p - n) (-1) = Dv at *
            have hDb : Dv.natAbs < BB ^ 90 := by rw [← hDv]; exact Nat.lt_of_le_of_lt (shr_abs _ _ _) d3
            have i1 := hz2.big (i := 17) (by omega)
            refine wa_aload_n q_X6_digits_61 rfl ?_
            refine wa_getf q_X6_digits_62 f_RX6_32 (by assumption) rfl ?_
            refine wa_aload_n q_X6_digits_65 rfl ?_
            refine wa_getf q_X6_digits_66 f_RX6_25 (by assumption) rfl ?_
            refine wa_callV q_X6_digits_69 g_X6_digits_69 w_X1_copy (by assumption) rfl (av := [_]) rfl rfl (lk rfl) (Calls.mono (Z_copy hz2 (i := 17) (j := 15) (by omega) (by omega) (by decide) (by rw [x1]; exact lp_le hDb (by decide))) ?_)
            rintro _ σ3 ⟨rfl, S3, w3, t3⟩
            rw [x1] at w3
            have w3' := w2.num w3 t3 (fun j hj => uV_n (by omega)) (by rw [uV_s]; exact lp_le hDb (by decide)) (by rw [uV_n (by decide)]; exact w2.2.2.2.2.1.2.2.2.2.2.2.1) (by rw [uV_n (by decide)]; exact w2.2.2.2.2.1.2.2.2.2.2.2.2)
            have hfr3 : Frm ms me σ0 σ3 := fun q y1 y2 => (w2.frm (E := fun _ => False) t3.x (fun q hq => absurd hq id) q y1 y2).trans (hfr2 q y1 y2)
            have ho3 := w3'.1.1
            have i2 := w3.big (i := 15) (by omega)
            refine wa_aload_n q_X6_digits_72 rfl ?_
            refine wa_iconst q_X6_digits_73 (v := nI 1) (by decide) ?_
            refine wa_aload_n q_X6_digits_74 rfl ?_
            refine wa_getf q_X6_digits_75 f_RX6_25 (by assumption) rfl ?_
            refine wa_callV q_X6_digits_78 g_X6_digits_78 w_X1_digitCount (by assumption) rfl (av := []) rfl rfl (lk rfl) (Calls.mono (Z_dC w3 (j := 15) (by omega)) ?_)
            rintro _ τ4 ⟨⟨c, hc, rfl, hcD⟩, eτ⟩
            rw [eτ]
            rw [uV_n (by decide), x1] at hcD
            refine wn_mmax q_X6_digits_81 a_RX6_90 (lk rfl) (lk rfl) (by omega) (by omega) ?_
            refine wn_putf q_X6_digits_84 p_RX6_96 (by assumption) (lk rfl) rfl rfl rfl (fun σ_p1 p1 f_p1 e1_p1 e2_p1 => ?_)
            have w5 := w3'.obj (cnt2 := cnt) (tl2 := max 1 c) (qc2 := qc) (sa2 := 0) p1 f_p1 e1_p1 e2_p1 (Nat.le_refl _) (by omega) w3'.2.2.2.2.1.2.2.2.1 (by decide)
            have ho5 := w5.1.1
            refine wa_aload_n q_X6_digits_87 rfl ?_
            refine wa_iload_n q_X6_digits_88 rfl ?_
            refine wn_putf q_X6_digits_89 p_RX6_71 (by assumption) (lk rfl) rfl rfl rfl (fun σ_p2 p2 f_p2 e1_p2 e2_p2 => ?_)
            have w6 := w5.obj (cnt2 := cnt) (tl2 := max 1 c) (qc2 := qc) (sa2 := p) p2 f_p2 e1_p2 e2_p2 (Nat.le_refl _) (by omega) w3'.2.2.2.2.1.2.2.2.1 hx
            have hfr6 : Frm ms me σ0 σ_p2 := fun q y1 y2 => (w5.frmO f_p2 q y1 y2).trans ((w3'.frmO f_p1 q y1 y2).trans (hfr3 q y1 y2))
            have ho6 := w6.1.1
            have i3 := w6.2.1.1.big (i := 17) (by omega)
            rw [uV_s] at i3
            have hend : ∀ r, r = nI (if Dv < 0 then 0 else 1) → dgE X σ0 ms me K cnt kd fs sn A B tl td lo hi qc qs P0 P1 (some (p, Dv)) (some (.int r)) σ_p2 := fun r hr => by
              refine ⟨hfr6, Or.inr ⟨p, Dv, c, rfl, hcD, by rw [hr], ⟨z, va, mk, S3, _, at2, op2, fa2, o1, u1, r1, o2, u2, r2, g, w6, uV_s, ?_, ?_⟩⟩⟩
              · rw [uV_n (by decide)]; exact he2.2.1
              · rw [uV_n (by decide)]; exact he2.2.2
            refine wa_aload_n q_X6_digits_92 rfl ?_
            refine wa_getf q_X6_digits_93 f_RX6_32 (by assumption) rfl ?_
            refine wa_getf q_X6_digits_96 f_RX6_99 (by assumption) rfl ?_
            refine wa_if_ge q_X6_digits_99 (fun hy => ?_) (fun hy => ?_)
            · refine wa_iconst q_X6_digits_106 (v := nI 1) (by decide) ?_
              refine wa_iret q_X6_digits_107 rfl ?_
              exact hend _ (by rw [if_neg (by have := sg_ge.mp hy; omega)])
            · refine wa_iconst q_X6_digits_102 (v := nI 0) (by decide) ?_
              refine wa_goto q_X6_digits_103 ?_
              refine wa_iret q_X6_digits_107 rfl ?_
              exact hend _ (by rw [if_pos (Int.not_le.mp (fun q => hy (sg_ge.mpr q)))])
          · have hF : dgF kd fs sn A B v n (t + 1) p = dgF kd fs sn A B v n t (p * 2) := hF.trans (if_neg hd)
            rw [if_neg hd, hF]
            refine wn_if_eq q_X6_digits_58 (by decide) (fun _ => ?_) (fun q => absurd q (by decide))
            refine wa_iload_n q_X6_digits_108 rfl ?_
            refine wa_iconst q_X6_digits_109 (v := nI 2) (by decide) ?_
            refine wn_imul q_X6_digits_110 ?_
            refine wa_istore_n q_X6_digits_111 (by decide) ?_
            refine wa_goto q_X6_digits_112 ?_
            exact wa_lv (ih (p * 2) σ2 S2 U2 at2 op2 fa2 hpw (by omega) (by omega) (by omega) w2 he2 hfr2) rfl
theorem H_digits {td lo hi : Int} {w x : Int32} (hFL : FLok) (h : cW X σ ms me K cnt kd fs sn A B tl td lo hi qc qs sa P0 P1) :
    Calls X M_X6_digits [.ref (K 0), .int w, .int x] σ (fun res τ => (((∀ v, v < cnt → w ≠ nI v) ∨ x < 0 ∨ 400 < x) ∧ res = some (.int (-1)) ∧ τ = σ) ∨ (∃ v n, v < cnt ∧ w = nI v ∧ n ≤ 400 ∧ x = nI n ∧ dgE X σ ms me K cnt kd fs sn A B tl td lo hi qc qs P0 P1 (dgs kd fs sn A B v n) res τ)) := by
  have hc := h.c60
  have h' := h
  obtain ⟨z, va, mk, S, U, at', op, fa, o1, u1, r1, o2, u2, r2, g, hw, he⟩ := h
  have ho := hw.1.1
  obtain ⟨QQ, hQQ⟩ : ∃ QQ : Option Value → en_S → Prop, QQ = (fun res τ => (((∀ v, v < cnt → w ≠ nI v) ∨ x < 0 ∨ 400 < x) ∧ res = some (.int (-1)) ∧ τ = σ) ∨ (∃ v n, v < cnt ∧ w = nI v ∧ n ≤ 400 ∧ x = nI n ∧ dgE X σ ms me K cnt kd fs sn A B tl td lo hi qc qs P0 P1 (dgs kd fs sn A B v n) res τ)) := ⟨_, rfl⟩
  rw [← hQQ]
  have no : ((∀ v, v < cnt → w ≠ nI v) ∨ x < 0 ∨ 400 < x) → WA X M_X6_digits σ 19 (lv_args 0 [.ref (K 0), .int w, .int x]) [] σ QQ := by
    intro hq
    refine wa_iconst q_X6_digits_19 (v := -1) (by decide) ?_
    refine wa_iret q_X6_digits_20 rfl ?_
    rw [hQQ]
    exact Or.inl ⟨hq, rfl, rfl⟩
  refine Calls.of rfl (lk rfl) ?_
  refine wa_aload_n q_X6_digits_0 rfl ?_
  refine wa_iload_n q_X6_digits_1 rfl ?_
  refine wa_callV q_X6_digits_2 g_X6_digits_2 w_X6_isValue (by assumption) rfl (av := [_]) rfl rfl (lk rfl) (Calls.mono (H_isVal h') ?_)
  rintro _ τ1 ⟨hres, eτ⟩
  rw [eτ]
  rcases hres with ⟨v, hv, rfl, rfl⟩ | ⟨hv, rfl⟩
  · refine wn_if_eq q_X6_digits_5 (by decide) (fun q => absurd q (by decide)) (fun _ => ?_)
    refine wa_iload_n q_X6_digits_8 rfl ?_
    refine wa_if_lt q_X6_digits_9 (fun q => no (Or.inr (Or.inl q))) (fun h1 => ?_)
    refine wa_iload_n q_X6_digits_12 rfl ?_
    refine wa_sipush q_X6_digits_13 (v := nI 400) (by decide) ?_
    refine wa_icmp_le q_X6_digits_16 (fun h2 => ?_) (fun q => no (Or.inr (Or.inr (Int32.not_le.mp q))))
    obtain ⟨n, hn, rfl⟩ := nI_of h1
    have a2 : n ≤ 400 := (nI_leI hn (by decide)).mp h2
    obtain ⟨c1, c2, c3, c4, c5, -⟩ := hw.2.2.2.2.1
    refine wa_aload_n q_X6_digits_21 rfl ?_
    refine wa_iconst q_X6_digits_22 (v := nI 0) (by decide) ?_
    refine wn_putf q_X6_digits_23 p_RX6_71 (by assumption) (lk rfl) rfl rfl rfl (fun σ_p1 p1 f_p1 e1_p1 e2_p1 => ?_)
    have w1 := hw.obj (cnt2 := cnt) (tl2 := tl) (qc2 := qc) (sa2 := 0) p1 f_p1 e1_p1 e2_p1 (Nat.le_refl _) c3 c4 (by decide)
    have hfr := hw.frmO f_p1
    refine wa_iload_n q_X6_digits_26 rfl ?_
    refine wa_bipush q_X6_digits_27 (v := nI 10) (by decide) ?_
    refine wn_iadd q_X6_digits_29 ?_
    refine wa_istore_n q_X6_digits_30 (by decide) ?_
    have hL := dg_loop (td := td) (lo := lo) (hi := hi) (v := v) (n := n) (ρ := σ) (σ0 := σ) hFL hv a2 10 (n + 10) σ_p1 S U at' op fa (by show 10 * 2 ^ 0 ≤ _; omega) (by omega) (by omega) (by decide) w1 he hfr
    refine wa_lv (WA.mono hL (fun r τ hq => ?_)) rfl
    rw [hQQ]
    exact Or.inr ⟨v, n, hv, rfl, a2, rfl, hq⟩
  · refine wn_if_eq q_X6_digits_5 (by decide) (fun _ => ?_) (fun q => absurd q (by decide))
    exact no (Or.inl hv)
end digi
