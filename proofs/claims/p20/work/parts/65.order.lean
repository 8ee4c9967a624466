/-! EnclosedDigits: order -/
noncomputable def odF (kd fs sn : Nat → Nat) (A B : Nat → Int) (a b : Nat) : Nat → Nat → Option (Nat × Nat)
  | 0, _ => none
  | t + 1, p => if 480 < p then none else match enc kd fs sn A B p a, enc kd fs sn A B p b with
    | some x, some y => if y.2 < x.1 then some (p, 1) else if x.2 < y.1 then some (p, 0) else odF kd fs sn A B a b t (p * 2)
    | _, _ => odF kd fs sn A B a b t (p * 2)
noncomputable def ods (kd fs sn : Nat → Nat) (A B : Nat → Int) (a b : Nat) : Option (Nat × Nat) := odF kd fs sn A B a b 10 10
section ordr
variable {X : en_X} {σ τ : en_S} {ms me : Nat} {K : Nat → Nat} {cnt : Nat} {kd fs sn : Nat → Nat} {A B : Nat → Int} {tl qc : Nat} {qs : Nat → Int} {sa P0 P1 : Nat} {z va : Nat → Nat} {mk : Nat} {S T : Nat → en_B} {U U' : Nat → Int} {at' op fa : Nat → Nat} {o1 u1 r1 o2 u2 r2 : Nat} {g : Nat → Int64}
def sid (op : Nat → Nat) (U : Nat → Int) (u v : Nat) : Int := if op u = 0 ∧ op v = 0 then (if U (28 + 3 * v + 1) < U (28 + 3 * u) then 1 else if U (28 + 3 * u + 1) < U (28 + 3 * v) then -1 else 0) else 0
theorem cmpL {x y : Int} : cmpI x y < 0 ↔ x < y := by
  unfold cmpI
  constructor
  · intro h
    split at h
    · assumption
    · split at h
      · exact absurd h (by decide)
      · exact absurd h (by decide)
  · intro h; rw [if_pos h]; decide
theorem H_side {u v : Nat} (h : cWi X σ ms me K cnt kd fs sn A B tl qc qs sa P0 P1 z va mk S U at' op fa o1 u1 r1 o2 u2 r2 g) (hu : u < mk) (hv : v < mk) : Calls X M_X6_sideOf [.ref (va u), .ref (va v)] σ (fun res τ => res = some (.int (sgI (sid op U u v))) ∧ τ = σ) := by
  have hV := h.2.1.2.2.2.1
  have hz := h.2.1.1
  have hvu := hV.at hu
  have hvv := hV.at hv
  have bu := (hV.2.2.2.2.2 u hu).2.2.2.2.1
  have bv := (hV.2.2.2.2.2 v hv).2.2.2.2.1
  have no : ¬ (op u = 0 ∧ op v = 0) → WA X M_X6_sideOf σ 22 (lv_args 0 [.ref (va u), .ref (va v)]) [] σ (fun res τ => res = some (.int (sgI (sid op U u v))) ∧ τ = σ) := by
    intro hq
    refine wa_iconst q_X6_sideOf_22 (v := nI 0) (by decide) ?_
    refine wa_iret q_X6_sideOf_23 rfl ?_
    exact ⟨by unfold sid; rw [if_neg hq]; rfl, rfl⟩
  refine Calls.of rfl (lk rfl) ?_
  refine wa_aload_n q_X6_sideOf_0 rfl ?_
  refine wa_ifnull q_X6_sideOf_1 ?_
  refine wa_aload_n q_X6_sideOf_4 rfl ?_
  refine wa_ifnull q_X6_sideOf_5 ?_
  refine wa_aload_n q_X6_sideOf_8 rfl ?_
  refine wa_getf q_X6_sideOf_9 f_RX6_106 (by assumption) rfl ?_
  refine wn_if_ne q_X6_sideOf_12 (by omega) (fun hx => ?_) (fun hx => ?_)
  · exact no (fun q => by omega)
  refine wa_aload_n q_X6_sideOf_15 rfl ?_
  refine wa_getf q_X6_sideOf_16 f_RX6_106 (by assumption) rfl ?_
  refine wn_if_eq q_X6_sideOf_19 (by omega) (fun hy => ?_) (fun hy => ?_)
  · have i1 := hz.big (i := 28 + 3 * v + 1) (by omega)
    have i2 := hz.big (i := 28 + 3 * u + 1) (by omega)
    refine wa_aload_n q_X6_sideOf_24 rfl ?_
    refine wa_getf q_X6_sideOf_25 f_RX6_113 (by assumption) rfl ?_
    refine wa_aload_n q_X6_sideOf_28 rfl ?_
    refine wa_getf q_X6_sideOf_29 f_RX6_110 (by assumption) rfl ?_
    refine wa_callV q_X6_sideOf_32 g_X6_sideOf_32 w_X1_compare (by assumption) rfl (av := [_]) rfl rfl (lk rfl) (Calls.mono (Z_cmp hz (i := 28 + 3 * v + 1) (j := 28 + 3 * u) (by omega) (by omega)) ?_)
    rintro _ τ1 ⟨rfl, eτ⟩
    rw [eτ]
    refine wa_if_ge q_X6_sideOf_35 (fun hc => ?_) (fun hc => ?_)
    · have n1 : ¬ U (28 + 3 * v + 1) < U (28 + 3 * u) := fun q => (Int32.not_lt.mpr hc) (cmpL.mpr q)
      refine wa_aload_n q_X6_sideOf_40 rfl ?_
      refine wa_getf q_X6_sideOf_41 f_RX6_113 (by assumption) rfl ?_
      refine wa_aload_n q_X6_sideOf_44 rfl ?_
      refine wa_getf q_X6_sideOf_45 f_RX6_110 (by assumption) rfl ?_
      refine wa_callV q_X6_sideOf_48 g_X6_sideOf_48 w_X1_compare (by assumption) rfl (av := [_]) rfl rfl (lk rfl) (Calls.mono (Z_cmp hz (i := 28 + 3 * u + 1) (j := 28 + 3 * v) (by omega) (by omega)) ?_)
      rintro _ τ2 ⟨rfl, eτ2⟩
      rw [eτ2]
      refine wa_if_ge q_X6_sideOf_51 (fun hd => ?_) (fun hd => ?_)
      · have n2 : ¬ U (28 + 3 * u + 1) < U (28 + 3 * v) := fun q => (Int32.not_lt.mpr hd) (cmpL.mpr q)
        refine wa_iconst q_X6_sideOf_58 (v := nI 0) (by decide) ?_
        refine wa_iret q_X6_sideOf_59 rfl ?_
        exact ⟨by unfold sid; rw [if_pos ⟨hx, hy⟩, if_neg n1, if_neg n2]; rfl, rfl⟩
      · have n2 : U (28 + 3 * u + 1) < U (28 + 3 * v) := cmpL.mp (Int32.not_le.mp hd)
        refine wa_iconst q_X6_sideOf_54 (v := -1) (by decide) ?_
        refine wa_goto q_X6_sideOf_55 ?_
        refine wa_iret q_X6_sideOf_59 rfl ?_
        exact ⟨by unfold sid; rw [if_pos ⟨hx, hy⟩, if_neg n1, if_pos n2]; rfl, rfl⟩
    · have n1 : U (28 + 3 * v + 1) < U (28 + 3 * u) := cmpL.mp (Int32.not_le.mp hc)
      refine wa_iconst q_X6_sideOf_38 (v := nI 1) (by decide) ?_
      refine wa_iret q_X6_sideOf_39 rfl ?_
      exact ⟨by unfold sid; rw [if_pos ⟨hx, hy⟩, if_pos n1]; rfl, rfl⟩
  · exact no (fun q => by omega)
def odE (X : en_X) (σ : en_S) (ms me : Nat) (K : Nat → Nat) (cnt : Nat) (kd fs sn : Nat → Nat) (A B : Nat → Int) (tl : Nat) (td lo hi : Int) (qc : Nat) (qs : Nat → Int) (P0 P1 : Nat) (r : Option (Nat × Nat)) (res : Option Value) (τ : en_S) : Prop :=
  Frm ms me σ τ ∧ ((r = none ∧ res = some (.int (-3)) ∧ cW X τ ms me K cnt kd fs sn A B tl td lo hi qc qs 0 P0 P1) ∨ (∃ q D, r = some (q, D) ∧ res = some (.int (nI D)) ∧ cW X τ ms me K cnt kd fs sn A B tl td lo hi qc qs q P0 P1))
set_option maxHeartbeats 2000000 in
theorem od_loop {td lo hi : Int} {u v : Nat} {ρ σ0 : en_S} (hFL : FLok) (hu : u < cnt) (hv : v < cnt) :
    ∀ (t p : Nat) (σ : en_S) (S : Nat → en_B) (U : Nat → Int) (at' op fa : Nat → Nat), 10 * 2 ^ (10 - t) ≤ p → p ≤ 2000 → t ≤ 10 → cWi X σ ms me K cnt kd fs sn A B tl qc qs 0 P0 P1 z va mk S U at' op fa o1 u1 r1 o2 u2 r2 g → U 17 = td ∧ U 18 = lo ∧ U 19 = hi → Frm ms me σ0 σ →
      WA X M_X6_order ρ 26 [(3, .int (nI p)), (0, .ref (K 0)), (1, .int (nI u)), (2, .int (nI v))] [] σ (fun res τ => odE X σ0 ms me K cnt kd fs sn A B tl td lo hi qc qs P0 P1 (odF kd fs sn A B u v t p) res τ) := by
  intro t
  induction t with
  | zero =>
    intro p σ S U at' op fa hp hp2 ht h he hfr
    have : 10 * 2 ^ (10 - 0) = 10240 := by decide
    omega
  | succ t ih =>
    intro p σ S U at' op fa hp hp2 ht h he hfr
    have hp10 : 10 ≤ p := by
      have : 1 ≤ 2 ^ (10 - (t + 1)) := Nat.pow_pos (by decide)
      omega
    have hcm := h.2.2.2.2.1.1
    have hmk := h.2.1.2.2.2.1.2.2.2.2.1
    refine wa_iload_n q_X6_order_26 rfl ?_
    refine wa_sipush q_X6_order_27 (v := nI 480) (by decide) ?_
    refine wn_icmp_gt q_X6_order_30 (by omega) (by omega) (fun hx => ?_) (fun hx => ?_)
    · refine wa_bipush q_X6_order_92 (v := -3) (by decide) ?_
      refine wa_iret q_X6_order_94 rfl ?_
      refine ⟨hfr, Or.inl ⟨if_pos hx, rfl, ⟨z, va, mk, S, U, at', op, fa, o1, u1, r1, o2, u2, r2, g, h, he⟩⟩⟩
    · have hF : odF kd fs sn A B u v (t + 1) p = (match enc kd fs sn A B p u, enc kd fs sn A B p v with
        | some x, some y => if y.2 < x.1 then some (p, 1) else if x.2 < y.1 then some (p, 0) else odF kd fs sn A B u v t (p * 2)
        | _, _ => odF kd fs sn A B u v t (p * 2)) := if_neg (by omega)
      have ho := h.1.1
      have hE := h.2.1.2.1.1
      have hpw : 10 * 2 ^ (10 - t) ≤ p * 2 := by
        rw [show 10 - t = (10 - (t + 1)) + 1 by omega, Nat.pow_succ]; omega
      refine wa_aload_n q_X6_order_33 rfl ?_
      refine wa_getf q_X6_order_34 f_RX6_18 (by assumption) rfl ?_
      refine wa_aload_n q_X6_order_37 rfl ?_
      refine wa_getf q_X6_order_38 f_RX6_11 (by assumption) rfl ?_
      refine wa_iload_n q_X6_order_41 rfl ?_
      refine wa_iload_n q_X6_order_42 rfl ?_
      refine wa_callV q_X6_order_43 g_X6_order_43 w_X2_enclosed (by assumption) rfl (av := [_, _, _]) rfl rfl (lk rfl) (Calls.mono (H_encl hFL h hu (by omega) hx) ?_)
      rintro _ σ1 ⟨rfl, S1, U1, at2, op2, fa2, w1, b1, b2, b3, b4⟩
      have ho1 := w1.1.1
      have hE1 := w1.2.1.2.1.1
      refine wa_aload_n q_X6_order_46 rfl ?_
      refine wa_getf q_X6_order_47 f_RX6_18 (by assumption) rfl ?_
      refine wa_aload_n q_X6_order_50 rfl ?_
      refine wa_getf q_X6_order_51 f_RX6_11 (by assumption) rfl ?_
      refine wa_iload_n q_X6_order_54 rfl ?_
      refine wa_iload_n q_X6_order_55 rfl ?_
      refine wa_callV q_X6_order_56 g_X6_order_56 w_X2_enclosed (by assumption) rfl (av := [_, _, _]) rfl rfl (lk rfl) (Calls.mono (H_encl hFL w1 hv (by omega) hx) ?_)
      rintro _ σ2 ⟨rfl, S2, U2, at3, op3, fa3, w2, c1, c2, c3, c4⟩
      have a3u : at3 u = p := by rcases c2 u with q | q; rw [q]; exact b1; exact q
      have he2 : U2 17 = td ∧ U2 18 = lo ∧ U2 19 = hi := by rw [c3 17 (by decide) (by decide), c3 18 (by decide) (by decide), c3 19 (by decide) (by decide), b3 17 (by decide) (by decide), b3 18 (by decide) (by decide), b3 19 (by decide) (by decide)]; exact he
      have hfr2 : Frm ms me σ0 σ2 := fun q x1 x2 => (c4 q x1 x2).trans ((b4 q x1 x2).trans (hfr q x1 x2))
      have gu := enc_got w2 hu (by omega) a3u
      have gv := enc_got w2 hv (by omega) c1
      refine wa_callS q_X6_order_59 g_X6_order_59 w_X6_sideOf (av := [_, _]) rfl rfl (lk rfl) (Calls.mono (H_side w2 (u := u) (v := v) (by omega) (by omega)) ?_)
      rintro _ τ3 ⟨rfl, eτ⟩
      rw [eτ]
      have ho2 := w2.1.1
      have next : odF kd fs sn A B u v (t + 1) p = odF kd fs sn A B u v t (p * 2) → sid op3 U2 u v = 0 → WA X M_X6_order ρ 62 [(3, .int (nI p)), (0, .ref (K 0)), (1, .int (nI u)), (2, .int (nI v))] [.int (sgI (sid op3 U2 u v))] σ2 (fun res τ => odE X σ0 ms me K cnt kd fs sn A B tl td lo hi qc qs P0 P1 (odF kd fs sn A B u v (t + 1) p) res τ) := by
        intro e1 e2
        rw [e1, e2]
        refine wa_istore q_X6_order_62 (by decide) ?_
        refine wa_iload q_X6_order_64 rfl ?_
        refine wa_if_eq q_X6_order_66 (fun _ => ?_) (fun q => absurd rfl q)
        refine wa_iload_n q_X6_order_85 rfl ?_
        refine wa_iconst q_X6_order_86 (v := nI 2) (by decide) ?_
        refine wn_imul q_X6_order_87 ?_
        refine wa_istore_n q_X6_order_88 (by decide) ?_
        refine wa_goto q_X6_order_89 ?_
        exact wa_lv (ih (p * 2) σ2 S2 U2 at3 op3 fa3 hpw (by omega) (by omega) w2 he2 hfr2) rfl
      have settle : ∀ D : Nat, D < 2 → odF kd fs sn A B u v (t + 1) p = some (p, D) → sid op3 U2 u v = (if D = 1 then 1 else -1) → WA X M_X6_order ρ 62 [(3, .int (nI p)), (0, .ref (K 0)), (1, .int (nI u)), (2, .int (nI v))] [.int (sgI (sid op3 U2 u v))] σ2 (fun res τ => odE X σ0 ms me K cnt kd fs sn A B tl td lo hi qc qs P0 P1 (odF kd fs sn A B u v (t + 1) p) res τ) := by
        intro D hD e1 e2
        rw [e1, e2]
        obtain ⟨d1, d2, d3, d4, d5, -⟩ := w2.2.2.2.2.1
        have hend : ∀ (σ3 : en_S) (r : Int32), cWi X σ3 ms me K cnt kd fs sn A B tl qc qs p P0 P1 z va mk S2 U2 at3 op3 fa3 o1 u1 r1 o2 u2 r2 g → Frm ms me σ2 σ3 → r = nI D → odE X σ0 ms me K cnt kd fs sn A B tl td lo hi qc qs P0 P1 (some (p, D)) (some (.int r)) σ3 := fun σ3 r y1 y2 y3 => ⟨fun q x1 x2 => (y2 q x1 x2).trans (hfr2 q x1 x2), Or.inr ⟨p, D, rfl, by rw [y3], ⟨z, va, mk, S2, U2, at3, op3, fa3, o1, u1, r1, o2, u2, r2, g, y1, he2⟩⟩⟩
        refine wa_istore q_X6_order_62 (by decide) ?_
        refine wa_iload q_X6_order_64 rfl ?_
        have hD2 : D = 0 ∨ D = 1 := by omega
        rcases hD2 with q | q <;> subst q
        · refine wa_if_eq q_X6_order_66 (fun q => absurd q (by decide)) (fun _ => ?_)
          refine wa_aload_n q_X6_order_69 rfl ?_
          refine wa_iload_n q_X6_order_70 rfl ?_
          refine wn_putf q_X6_order_71 p_RX6_71 (by assumption) (lk rfl) rfl rfl rfl (fun σ_p1 p1 f_p1 e1_p1 e2_p1 => ?_)
          have w3 := w2.obj (cnt2 := cnt) (tl2 := tl) (qc2 := qc) (sa2 := p) p1 f_p1 e1_p1 e2_p1 (Nat.le_refl _) d3 d4 hx
          refine wa_iload q_X6_order_74 rfl ?_
          refine wa_if_le q_X6_order_76 (fun _ => ?_) (fun q => absurd (by decide) q)
          refine wa_iconst q_X6_order_83 (v := nI 0) (by decide) ?_
          refine wa_iret q_X6_order_84 rfl ?_
          exact hend _ _ w3 (w2.frmO f_p1) rfl
        · refine wa_if_eq q_X6_order_66 (fun q => absurd q (by decide)) (fun _ => ?_)
          refine wa_aload_n q_X6_order_69 rfl ?_
          refine wa_iload_n q_X6_order_70 rfl ?_
          refine wn_putf q_X6_order_71 p_RX6_71 (by assumption) (lk rfl) rfl rfl rfl (fun σ_p1 p1 f_p1 e1_p1 e2_p1 => ?_)
          have w3 := w2.obj (cnt2 := cnt) (tl2 := tl) (qc2 := qc) (sa2 := p) p1 f_p1 e1_p1 e2_p1 (Nat.le_refl _) d3 d4 hx
          refine wa_iload q_X6_order_74 rfl ?_
          refine wa_if_le q_X6_order_76 (fun q => absurd q (by decide)) (fun _ => ?_)
          refine wa_iconst q_X6_order_79 (v := nI 1) (by decide) ?_
          refine wa_goto q_X6_order_80 ?_
          refine wa_iret q_X6_order_84 rfl ?_
          exact hend _ _ w3 (w2.frmO f_p1) rfl
      rcases gu with ⟨p1, p2⟩ | ⟨p1, p2, p3, p4⟩
      · rw [p2] at hF
        exact wa_lv (next hF (by unfold sid; rw [if_neg (by omega)])) rfl
      · rcases gv with ⟨y1, y2⟩ | ⟨y1, y2, y3, y4⟩
        · rw [p2, y2] at hF
          exact wa_lv (next hF (by unfold sid; rw [if_neg (by omega)])) rfl
        · rw [p2, y2] at hF
          simp only [] at hF
          have es : sid op3 U2 u v = (if U2 (28 + 3 * v + 1) < U2 (28 + 3 * u) then 1 else if U2 (28 + 3 * u + 1) < U2 (28 + 3 * v) then -1 else 0) := if_pos ⟨p1, y1⟩
          by_cases k1 : U2 (28 + 3 * v + 1) < U2 (28 + 3 * u)
          · rw [if_pos k1] at hF es
            exact wa_lv (settle 1 (by decide) hF es) rfl
          · rw [if_neg k1] at hF es
            by_cases k2 : U2 (28 + 3 * u + 1) < U2 (28 + 3 * v)
            · rw [if_pos k2] at hF es
              exact wa_lv (settle 0 (by decide) hF es) rfl
            · rw [if_neg k2] at hF es
              exact wa_lv (next hF es) rfl
theorem H_order {td lo hi : Int} {w x : Int32} (hFL : FLok) (h : cW X σ ms me K cnt kd fs sn A B tl td lo hi qc qs sa P0 P1) :
    Calls X M_X6_order [.ref (K 0), .int w, .int x] σ (fun res τ => (((∀ v, v < cnt → w ≠ nI v) ∨ (∀ v, v < cnt → x ≠ nI v)) ∧ res = some (.int (-1)) ∧ τ = σ) ∨ (∃ u v, u < cnt ∧ w = nI u ∧ v < cnt ∧ x = nI v ∧ odE X σ ms me K cnt kd fs sn A B tl td lo hi qc qs P0 P1 (ods kd fs sn A B u v) res τ)) := by
  have hc := h.c60
  have h' := h
  obtain ⟨z, va, mk, S, U, at', op, fa, o1, u1, r1, o2, u2, r2, g, hw, he⟩ := h
  have ho := hw.1.1
  obtain ⟨QQ, hQQ⟩ : ∃ QQ : Option Value → en_S → Prop, QQ = (fun res τ => (((∀ v, v < cnt → w ≠ nI v) ∨ (∀ v, v < cnt → x ≠ nI v)) ∧ res = some (.int (-1)) ∧ τ = σ) ∨ (∃ u v, u < cnt ∧ w = nI u ∧ v < cnt ∧ x = nI v ∧ odE X σ ms me K cnt kd fs sn A B tl td lo hi qc qs P0 P1 (ods kd fs sn A B u v) res τ)) := ⟨_, rfl⟩
  rw [← hQQ]
  have no : ((∀ v, v < cnt → w ≠ nI v) ∨ (∀ v, v < cnt → x ≠ nI v)) → WA X M_X6_order σ 16 (lv_args 0 [.ref (K 0), .int w, .int x]) [] σ QQ := by
    intro hq
    refine wa_iconst q_X6_order_16 (v := -1) (by decide) ?_
    refine wa_iret q_X6_order_17 rfl ?_
    rw [hQQ]
    exact Or.inl ⟨hq, rfl, rfl⟩
  refine Calls.of rfl (lk rfl) ?_
  refine wa_aload_n q_X6_order_0 rfl ?_
  refine wa_iload_n q_X6_order_1 rfl ?_
  refine wa_callV q_X6_order_2 g_X6_order_2 w_X6_isValue (by assumption) rfl (av := [_]) rfl rfl (lk rfl) (Calls.mono (H_isVal h') ?_)
  rintro _ τ1 ⟨hres, eτ⟩
  rw [eτ]
  rcases hres with ⟨u, hu, eu, rfl⟩ | ⟨hu, rfl⟩
  · refine wn_if_eq q_X6_order_5 (by decide) (fun q => absurd q (by decide)) (fun _ => ?_)
    refine wa_aload_n q_X6_order_8 rfl ?_
    refine wa_iload_n q_X6_order_9 rfl ?_
    refine wa_callV q_X6_order_10 g_X6_order_10 w_X6_isValue (by assumption) rfl (av := [_]) rfl rfl (lk rfl) (Calls.mono (H_isVal h') ?_)
    rintro _ τ2 ⟨hres, eτ2⟩
    rw [eτ2]
    rcases hres with ⟨v, hv, ev, rfl⟩ | ⟨hv, rfl⟩
    · refine wn_if_ne q_X6_order_13 (by decide) (fun _ => ?_) (fun q => absurd q (by decide))
      obtain ⟨c1, c2, c3, c4, c5, -⟩ := hw.2.2.2.2.1
      subst eu
      subst ev
      refine wa_aload_n q_X6_order_18 rfl ?_
      refine wa_iconst q_X6_order_19 (v := nI 0) (by decide) ?_
      refine wn_putf q_X6_order_20 p_RX6_71 (by assumption) (lk rfl) rfl rfl rfl (fun σ_p1 p1 f_p1 e1_p1 e2_p1 => ?_)
      have w1 := hw.obj (cnt2 := cnt) (tl2 := tl) (qc2 := qc) (sa2 := 0) p1 f_p1 e1_p1 e2_p1 (Nat.le_refl _) c3 c4 (by decide)
      refine wa_bipush q_X6_order_23 (v := nI 10) (by decide) ?_
      refine wa_istore_n q_X6_order_25 (by decide) ?_
      have hL := od_loop (td := td) (lo := lo) (hi := hi) (u := u) (v := v) (ρ := σ) (σ0 := σ) hFL hu hv 10 10 σ_p1 S U at' op fa (by decide) (by decide) (by decide) w1 he (hw.frmO f_p1)
      refine wa_lv (WA.mono hL (fun r τ hq => ?_)) rfl
      rw [hQQ]
      exact Or.inr ⟨u, v, hu, rfl, hv, rfl, hq⟩
    · refine wn_if_ne q_X6_order_13 (by decide) (fun q => absurd q (by decide)) (fun _ => ?_)
      exact no (Or.inr hv)
  · refine wn_if_eq q_X6_order_5 (by decide) (fun _ => ?_) (fun q => absurd q (by decide))
    exact no (Or.inl hu)
end ordr
