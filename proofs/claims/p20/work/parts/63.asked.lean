/-! EnclosedDigits: enclose, digits, order -/
section asked
variable {X : en_X} {σ τ : en_S} {ms me : Nat} {K : Nat → Nat} {cnt : Nat} {kd fs sn : Nat → Nat} {A B : Nat → Int} {tl qc : Nat} {qs : Nat → Int} {sa P0 P1 : Nat} {z va : Nat → Nat} {mk : Nat} {S T : Nat → en_B} {U U' : Nat → Int} {at' op fa : Nat → Nat} {o1 u1 r1 o2 u2 r2 : Nat} {g : Nat → Int64}
/-- an enclosure is found -/
theorem H_encl {v p : Nat} (hFL : FLok) (h : cWi X σ ms me K cnt kd fs sn A B tl qc qs sa P0 P1 z va mk S U at' op fa o1 u1 r1 o2 u2 r2 g) (hv : v < cnt) (hp1 : 1 ≤ p) (hp : p ≤ 480) :
    Calls X M_X2_enclosed [.ref (K 2), .ref (K 1), .int (nI v), .int (nI p)] σ (fun res τ => res = some (.ref (va v)) ∧ ∃ S' U' at2 op2 fa2, cWi X τ ms me K cnt kd fs sn A B tl qc qs sa P0 P1 z va mk S' U' at2 op2 fa2 o1 u1 r1 o2 u2 r2 g ∧ at2 v = p ∧ (∀ j, at2 j = at' j ∨ at2 j = p) ∧ (∀ j, 15 ≤ j → j < 28 → U' j = U j) ∧ Frm ms me σ τ) := by
  obtain ⟨c1, c2, -⟩ := h.2.2.2.2.1
  refine Calls.mono (G_encl hFL h.2.1 hv c1 rfl hp1 hp c2) ?_
  rintro res τ ⟨rfl, S', U', at2, op2, fa2, g1, g2, g3, g4, g5⟩
  exact ⟨rfl, S', U', at2, op2, fa2, h.enc g1 g5 g4, g2, g3, g4, h.frm g5 h.va_out⟩
/-- what stands at a VALUE whose enclosure at p was found -/
theorem enc_got {v p : Nat} (h : cWi X σ ms me K cnt kd fs sn A B tl qc qs sa P0 P1 z va mk S U at' op fa o1 u1 r1 o2 u2 r2 g) (hv : v < cnt) (hp1 : 1 ≤ p) (ha : at' v = p) : (op v = 1 ∧ enc kd fs sn A B p v = none) ∨ (op v = 0 ∧ enc kd fs sn A B p v = some (U (28 + 3 * v), U (28 + 3 * v + 1)) ∧ (U (28 + 3 * v)).natAbs < BB ^ 90 ∧ (U (28 + 3 * v + 1)).natAbs < BB ^ 90) := by
  obtain ⟨-, ⟨-, -, -, -, w5⟩, -, -, ⟨c1, c2, -⟩, -⟩ := h
  have := (w5 v hv).1 (by omega)
  rw [ha] at this
  rcases this with q | ⟨q1, q2⟩
  · exact Or.inl q
  · have lb := lim_b ((enc_eq (c2 v hv)).symm.trans q2)
    exact Or.inr ⟨q1, q2, Nat.lt_of_lt_of_le lb.2.1 p800, Nat.lt_of_lt_of_le lb.2.2 p800⟩
theorem H_enclose {td lo hi : Int} {w x : Int32} (hFL : FLok) (h : cW X σ ms me K cnt kd fs sn A B tl td lo hi qc qs sa P0 P1) :
    Calls X M_X6_enclose [.ref (K 0), .int w, .int x] σ (fun res τ => (((∀ v, v < cnt → w ≠ nI v) ∨ x < 1 ∨ 480 < x) ∧ res = some (.int (-1)) ∧ τ = σ) ∨ (∃ v p, v < cnt ∧ w = nI v ∧ 1 ≤ p ∧ p ≤ 480 ∧ x = nI p ∧ Frm ms me σ τ ∧ ((enc kd fs sn A B p v = none ∧ res = some (.int (-3)) ∧ cW X τ ms me K cnt kd fs sn A B tl td lo hi qc qs sa P0 P1) ∨ (∃ L H, enc kd fs sn A B p v = some (L, H) ∧ res = some (.int (nI 1)) ∧ cW X τ ms me K cnt kd fs sn A B tl td L H qc qs sa P0 P1)))) := by
  have hc := h.c60
  have h' := h
  obtain ⟨z, va, mk, S, U, at', op, fa, o1, u1, r1, o2, u2, r2, g, hw, he⟩ := h
  have ho := hw.1.1
  obtain ⟨QQ, hQQ⟩ : ∃ QQ : Option Value → en_S → Prop, QQ = (fun res τ => (((∀ v, v < cnt → w ≠ nI v) ∨ x < 1 ∨ 480 < x) ∧ res = some (.int (-1)) ∧ τ = σ) ∨ (∃ v p, v < cnt ∧ w = nI v ∧ 1 ≤ p ∧ p ≤ 480 ∧ x = nI p ∧ Frm ms me σ τ ∧ ((enc kd fs sn A B p v = none ∧ res = some (.int (-3)) ∧ cW X τ ms me K cnt kd fs sn A B tl td lo hi qc qs sa P0 P1) ∨ (∃ L H, enc kd fs sn A B p v = some (L, H) ∧ res = some (.int (nI 1)) ∧ cW X τ ms me K cnt kd fs sn A B tl td L H qc qs sa P0 P1)))) := ⟨_, rfl⟩
  rw [← hQQ]
  have no : ((∀ v, v < cnt → w ≠ nI v) ∨ x < 1 ∨ 480 < x) → WA X M_X6_enclose σ 20 (lv_args 0 [.ref (K 0), .int w, .int x]) [] σ QQ := by
    intro hq
    refine wa_iconst q_X6_enclose_20 (v := -1) (by decide) ?_
    refine wa_iret q_X6_enclose_21 rfl ?_
    rw [hQQ]
    exact Or.inl ⟨hq, rfl, rfl⟩
  refine Calls.of rfl (lk rfl) ?_
  refine wa_aload_n q_X6_enclose_0 rfl ?_
  refine wa_iload_n q_X6_enclose_1 rfl ?_
  refine wa_callV q_X6_enclose_2 g_X6_enclose_2 w_X6_isValue (by assumption) rfl (av := [_]) rfl rfl (lk rfl) (Calls.mono (H_isVal h') ?_)
  rintro _ τ1 ⟨hres, eτ⟩
  rw [eτ]
  rcases hres with ⟨v, hv, rfl, rfl⟩ | ⟨hv, rfl⟩
  · refine wn_if_eq q_X6_enclose_5 (by decide) (fun q => absurd q (by decide)) (fun _ => ?_)
    refine wa_iload_n q_X6_enclose_8 rfl ?_
    refine wa_iconst q_X6_enclose_9 (v := nI 1) (by decide) ?_
    refine wa_icmp_lt q_X6_enclose_10 (fun q => no (Or.inr (Or.inl q))) (fun h1 => ?_)
    refine wa_iload_n q_X6_enclose_13 rfl ?_
    refine wa_sipush q_X6_enclose_14 (v := nI 480) (by decide) ?_
    refine wa_icmp_le q_X6_enclose_17 (fun h2 => ?_) (fun q => no (Or.inr (Or.inr (Int32.not_le.mp q))))
    obtain ⟨p, hp1, hp, rfl⟩ : ∃ p : Nat, 1 ≤ p ∧ p ≤ 480 ∧ x = nI p := by
      have hx0 : ¬ x < 0 := fun q => h1 (by
        rw [Int32.lt_iff_toInt_lt] at q ⊢
        have e0 : (0 : Int32).toInt = 0 := by decide
        have e1 : (nI 1).toInt = 1 := by decide
        omega)
      obtain ⟨n, hn, e⟩ := nI_of hx0
      subst e
      have a1 := mt (nI_ltI hn (by decide)).mpr h1
      have a2 := (nI_leI hn (by decide)).mp h2
      exact ⟨n, by omega, by omega, rfl⟩
    refine wa_aload_n q_X6_enclose_22 rfl ?_
    refine wa_getf q_X6_enclose_23 f_RX6_18 (by assumption) rfl ?_
    refine wa_aload_n q_X6_enclose_26 rfl ?_
    refine wa_getf q_X6_enclose_27 f_RX6_11 (by assumption) rfl ?_
    refine wa_iload_n q_X6_enclose_30 rfl ?_
    refine wa_iload_n q_X6_enclose_31 rfl ?_
    have hE := hw.2.1.2.1.1
    refine wa_callV q_X6_enclose_32 g_X6_enclose_32 w_X2_enclosed (by assumption) rfl (av := [_, _, _]) rfl rfl (lk rfl) (Calls.mono (H_encl hFL hw hv hp1 hp) ?_)
    rintro _ σ1 ⟨rfl, S1, U1, at2, op2, fa2, w1, b1, b2, b3, b4⟩
    have hV := w1.2.1.2.2.2.1
    have hcm := w1.2.2.2.2.1.1
    have hvv := hV.at (i := v) (by omega)
    have ho1 := w1.1.1
    have hU : U1 17 = td ∧ U1 18 = lo ∧ U1 19 = hi := by rw [b3 17 (by decide) (by decide), b3 18 (by decide) (by decide), b3 19 (by decide) (by decide)]; exact he
    refine wa_astore_n q_X6_enclose_35 (by decide) ?_
    refine wa_aload_n q_X6_enclose_36 rfl ?_
    refine wa_ifnull q_X6_enclose_37 ?_
    refine wa_aload_n q_X6_enclose_40 rfl ?_
    refine wa_getf q_X6_enclose_41 f_RX6_106 (by assumption) rfl ?_
    have hob := (hV.2.2.2.2.2 v (by omega)).2.2.2.2.1
    rcases enc_got w1 hv hp1 b1 with ⟨c1, c2⟩ | ⟨c1, c2, c3, c4⟩
    · rw [c1]
      refine wn_if_eq q_X6_enclose_44 (by decide) (fun q => absurd q (by decide)) (fun _ => ?_)
      refine wa_bipush q_X6_enclose_47 (v := -3) (by decide) ?_
      refine wa_iret q_X6_enclose_49 rfl ?_
      rw [hQQ]
      exact Or.inr ⟨v, p, hv, rfl, hp1, hp, rfl, b4, Or.inl ⟨c2, rfl, ⟨z, va, mk, S1, U1, at2, op2, fa2, o1, u1, r1, o2, u2, r2, g, w1, hU⟩⟩⟩
    · rw [c1]
      refine wn_if_eq q_X6_enclose_44 (by decide) (fun _ => ?_) (fun q => absurd q (by decide))
      have i1 := w1.2.1.1.big (i := 18) (by omega)
      refine wa_aload_n q_X6_enclose_50 rfl ?_
      refine wa_getf q_X6_enclose_51 f_RX6_35 (by assumption) rfl ?_
      refine wa_aload_n q_X6_enclose_54 rfl ?_
      refine wa_getf q_X6_enclose_55 f_RX6_110 (by assumption) rfl ?_
      refine wa_callV q_X6_enclose_58 g_X6_enclose_58 w_X1_copy (by assumption) rfl (av := [_]) rfl rfl (lk rfl) (Calls.mono (Z_copy w1.2.1.1 (i := 18) (j := 28 + 3 * v) (by omega) (by omega) (by omega) (lp_le c3 (by decide))) ?_)
      rintro _ σ2 ⟨rfl, S2, w2, t2⟩
      have ho2 := bw_obj t2 w1.2.1.1.R w1.1.2 ho1 (by decide)
      have hv2 := bw_obj t2 w1.2.1.1.R (hV.lt (i := v) (by omega)) hvv (by decide)
      have i2 := w2.big (i := 19) (by omega)
      have eh : uV U1 18 (U1 (28 + 3 * v)) (28 + 3 * v + 1) = U1 (28 + 3 * v + 1) := uV_n (by omega)
      refine wa_aload_n q_X6_enclose_61 rfl ?_
      refine wa_getf q_X6_enclose_62 f_RX6_38 (by assumption) rfl ?_
      refine wa_aload_n q_X6_enclose_65 rfl ?_
      refine wa_getf q_X6_enclose_66 f_RX6_113 (by assumption) rfl ?_
      refine wa_callV q_X6_enclose_69 g_X6_enclose_69 w_X1_copy (by assumption) rfl (av := [_]) rfl rfl (lk rfl) (Calls.mono (Z_copy w2 (i := 19) (j := 28 + 3 * v + 1) (by omega) (by omega) (by omega) (by rw [eh]; exact lp_le c4 (by decide))) ?_)
      rintro _ σ3 ⟨rfl, S3, w3, t3⟩
      rw [eh] at w3
      have tt := t2.tr t3
      have w4 := w1.num w3 tt (fun j hj => by rw [uV_n (by omega), uV_n (by omega)]) (by rw [uV_n (by decide), uV_n (by decide)]; exact w1.2.2.2.2.1.2.2.2.2.2.1) (by rw [uV_n (by decide), uV_s]; exact lp_le c3 (by decide)) (by rw [uV_s]; exact lp_le c4 (by decide))
      have hfr : Frm ms me σ σ3 := fun q x1 x2 => (w1.frm (E := fun _ => False) tt.x (fun q hq => absurd hq id) q x1 x2).trans (b4 q x1 x2)
      refine wa_iconst q_X6_enclose_72 (v := nI 1) (by decide) ?_
      refine wa_iret q_X6_enclose_73 rfl ?_
      rw [hQQ]
      refine Or.inr ⟨v, p, hv, rfl, hp1, hp, rfl, hfr, Or.inr ⟨_, _, c2, rfl, ⟨z, va, mk, S3, _, at2, op2, fa2, o1, u1, r1, o2, u2, r2, g, w4, ?_, ?_, ?_⟩⟩⟩
      · rw [uV_n (by decide), uV_n (by decide)]; exact hU.1
      · rw [uV_n (by decide), uV_s]
      · rw [uV_s]
  · refine wn_if_eq q_X6_enclose_5 (by decide) (fun _ => ?_) (fun q => absurd q (by decide))
    exact no (Or.inl hv)
end asked
