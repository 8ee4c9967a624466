/-! EnclosedDigits: quotients, walked -/
section quot1
variable {X : en_X} {σ τ : en_S} {ms me : Nat} {K : Nat → Nat} {cnt : Nat} {kd fs sn : Nat → Nat} {A B : Nat → Int} {tl qc : Nat} {qs : Nat → Int} {sa P0 P1 : Nat} {z va : Nat → Nat} {mk : Nat} {at' op fa : Nat → Nat}
set_option maxHeartbeats 2000000 in
theorem qt_loop {ρ σ0 : en_S} {U0 : Nat → Int} {k p w1 : Nat} (hk : k ≤ 40) :
    ∀ (t i : Nat) (pre : List Int) (a b c d : Int) (σ : en_S) (S : Nat → en_B) (U : Nat → Int) (o1 u1 r1 o2 u2 r2 : Nat) (g : Nat → Int64), i + t = k → pre.length = i → cWi X σ ms me K cnt kd fs sn A B tl qc qs sa P0 P1 z va mk S U at' op fa o1 u1 r1 o2 u2 r2 g → U o1 = a → U u1 = b → U o2 = c → U u2 = d → 0 ≤ b → 0 ≤ d → a.natAbs < BB ^ 100 → b.natAbs < BB ^ 100 → c.natAbs < BB ^ 100 → d.natAbs < BB ^ 100 → (∀ j y, pre[j]? = some y → g j = lZ y) → (∀ j, 15 ≤ j → j < 20 → U j = U0 j) → Frm ms me σ0 σ →
      WA X M_X6_quotientsAreTold ρ 40 [(4, .int (nI i)), (0, .ref (K 0)), (1, .ref w1), (2, .int (nI k)), (3, .int (nI p))] [] σ (fun res τ => qtE X σ0 ms me K cnt kd fs sn A B tl qc qs sa P0 P1 z va mk U0 at' op fa ((cfG t a b c d).map (fun l => pre ++ l)) res τ) := by
  intro t
  induction t with
  | zero =>
    intro i pre a b c d σ S U o1 u1 r1 o2 u2 r2 g hik hpl h ha hb hc hd hb0 hd0 za zb zc zd hg hU hfr
    refine wa_iload q_X6_quotientsAreTold_40 rfl ?_
    refine wa_iload_n q_X6_quotientsAreTold_42 rfl ?_
    refine wn_icmp_ge q_X6_quotientsAreTold_43 (by omega) (by omega) (fun hx => ?_) (fun hx => ?_)
    · refine wa_iconst q_X6_quotientsAreTold_137 (v := nI 1) (by decide) ?_
      refine wa_zret q_X6_quotientsAreTold_138 rfl rfl ?_
      refine ⟨S, U, o1, u1, r1, o2, u2, r2, g, h, hU, hfr, Or.inr ⟨pre, ?_, rfl, hg⟩⟩
      show some (pre ++ []) = some pre
      rw [List.append_nil]
    · omega
  | succ t ih =>
    intro i pre a b c d σ S U o1 u1 r1 o2 u2 r2 g hik hpl h ha hb hc hd hb0 hd0 za zb zc zd hg hU hfr
    have ho := h.1.1
    have hE := h.2.1.2.1.1
    obtain ⟨f1, f2, f3⟩ := h.2.2.1
    have h8 := h.2.2.2.1.2.2.1
    have hbn := h.2.1.2.1.2.2.1
    have hbl := h.2.1.2.1.2.2.2
    have h230 : BB ^ 100 ≤ BB ^ 230 := pw_mono (by decide)
    have hko := h.2.2.2.2.2.1.1
    have fail : ∀ (σ2 : en_S) (S2 : Nat → en_B) (U2 : Nat → Int) (p1 v1 s1 p2 v2 s2 : Nat) (g2 : Nat → Int64) (pc : Nat), cWi X σ2 ms me K cnt kd fs sn A B tl qc qs sa P0 P1 z va mk S2 U2 at' op fa p1 v1 s1 p2 v2 s2 g2 → (∀ j, 15 ≤ j → j < 20 → U2 j = U0 j) → Frm ms me σ0 σ2 → cfG (t + 1) a b c d = none → qtE X σ0 ms me K cnt kd fs sn A B tl qc qs sa P0 P1 z va mk U0 at' op fa ((cfG (t + 1) a b c d).map (fun l => pre ++ l)) (some (.int (nI 0))) σ2 := by
      intro σ2 S2 U2 p1 v1 s1 p2 v2 s2 g2 pc y1 y2 y3 y4
      refine ⟨S2, U2, p1, v1, s1, p2, v2, s2, g2, y1, y2, y3, Or.inl ⟨?_, rfl⟩⟩
      rw [y4]; rfl
    refine wa_iload q_X6_quotientsAreTold_40 rfl ?_
    refine wa_iload_n q_X6_quotientsAreTold_42 rfl ?_
    refine wn_icmp_ge q_X6_quotientsAreTold_43 (by omega) (by omega) (fun hx => ?_) (fun hx => ?_)
    · omega
    refine wa_iload q_X6_quotientsAreTold_46 rfl ?_
    refine wa_aload_n q_X6_quotientsAreTold_48 rfl ?_
    refine wa_getf q_X6_quotientsAreTold_49 f_RX6_55 (by assumption) rfl ?_
    refine wa_alen (t0 := 1) q_X6_quotientsAreTold_52 h8 rfl ?_
    refine wn_icmp_ge (b := 40) q_X6_quotientsAreTold_53 (by omega) (by decide) (fun hy => by omega) (fun hy => ?_)
    refine wa_aload_n q_X6_quotientsAreTold_56 rfl ?_
    refine wa_getf q_X6_quotientsAreTold_57 f_RX6_44 (by assumption) rfl ?_
    refine wa_aload_n q_X6_quotientsAreTold_60 rfl ?_
    refine wa_getf q_X6_quotientsAreTold_61 f_RX6_18 (by assumption) rfl ?_
    refine wa_getf q_X6_quotientsAreTold_64 f_RX6_153 (by assumption) rfl ?_
    have hf1 := f1.1
    refine wa_callV q_X6_quotientsAreTold_67 g_X6_quotientsAreTold_67 w_X3_step (by assumption) rfl (av := [_]) rfl rfl (lk rfl) (Calls.mono (G_step h.2.1.1 f1 hbn hbl (by decide) (by omega) (by rw [hb]; exact hb0) (by rw [ha]; omega) (by rw [hb]; omega)) ?_)
    intro res1 σ1 hres1
    rcases hres1 with ⟨e1, rfl, rfl⟩ | ⟨e1, rfl, S1, U1, y1, y2, y3, y4, y5, y6⟩
    · refine wn_if_eq q_X6_quotientsAreTold_70 (by decide) (fun _ => ?_) (fun q => absurd q (by decide))
      refine wa_iconst q_X6_quotientsAreTold_90 (v := nI 0) (by decide) ?_
      refine wa_zret q_X6_quotientsAreTold_91 rfl rfl ?_
      exact fail _ S U o1 u1 r1 o2 u2 r2 g 0 h hU hfr (if_pos (Or.inl (by rw [← hb]; exact e1)))
    · refine wn_if_eq q_X6_quotientsAreTold_70 (by decide) (fun q => absurd q (by decide)) (fun _ => ?_)
      have hw1 := h.2.1.1.R
      have hf2 : fO σ1 z (K 6) 24 o2 u2 r2 := f2.x y6 hw1 (fun e => f3 e.symm)
      have hk5 := hko 5 (by decide)
      have w1' : cWi X σ1 ms me K cnt kd fs sn A B tl qc qs sa P0 P1 z va mk S1 U1 at' op fa u1 r1 o1 o2 u2 r2 g := h.frc y1 y6 (fun q hq => ⟨_, (congrArg (look σ) hq).trans f1.1⟩) (fun j hj => y5 j (by omega) (by omega) (by omega) (by have := f1.2.2.2.2.2.2.2; omega)) (fun j j1 j2 => y5 j (by omega) (by omega) (by omega) (by have := f1.2.2.2.2.2.2.2; omega)) y2 hf2
      have hU1 : ∀ j, 15 ≤ j → j < 20 → U1 j = U0 j := fun j j1 j2 => (y5 j (by omega) (by omega) (by omega) (by have := f1.2.2.2.2.2.2.2; omega)).trans (hU j j1 j2)
      have hfr1 : Frm ms me σ0 σ1 := fun q x1 x2 => (h.frm y6 (fun q hq => by rw [hq]; exact hk5) q x1 x2).trans (hfr q x1 x2)
      have q2o := f2.2.2.2.2.2.1
      have q2u := f2.2.2.2.2.2.2.1
      have q2r := f2.2.2.2.2.2.2.2
      have q1o := f1.2.2.2.2.2.1
      have q1u := f1.2.2.2.2.2.2.1
      have q1r := f1.2.2.2.2.2.2.2
      have n1ur := f1.2.2.2.2.1
      have n2ur := f2.2.2.2.2.1
      have eo2 : U1 o2 = c := (y5 o2 (by omega) (by omega) (by omega) (by omega)).trans hc
      have eu2 : U1 u2 = d := (y5 u2 (by omega) (by omega) (by omega) (by omega)).trans hd
      have eu1 : U1 u1 = b := (y5 u1 (by omega) (by omega) (by omega) (by omega)).trans hb
      rw [ha, hb] at y3 y4
      rw [hb] at e1
      have ho1 := w1'.1.1
      have hE1 := w1'.2.1.2.1.1
      have hbn1 := w1'.2.1.2.1.2.2.1
      have hbl1 := w1'.2.1.2.1.2.2.2
      have hf2' := hf2.1
      refine wa_aload_n q_X6_quotientsAreTold_73 rfl ?_
      refine wa_getf q_X6_quotientsAreTold_74 f_RX6_48 (by assumption) rfl ?_
      refine wa_aload_n q_X6_quotientsAreTold_77 rfl ?_
      refine wa_getf q_X6_quotientsAreTold_78 f_RX6_18 (by assumption) rfl ?_
      refine wa_getf q_X6_quotientsAreTold_81 f_RX6_153 (by assumption) rfl ?_
      refine wa_callV q_X6_quotientsAreTold_84 g_X6_quotientsAreTold_84 w_X3_step (by assumption) rfl (av := [_]) rfl rfl (lk rfl) (Calls.mono (G_step y1 hf2 hbn1 hbl1 (by decide) (by omega) (by rw [eu2]; exact hd0) (by rw [eo2]; omega) (by rw [eu2]; omega)) ?_)
      intro res2 σ2 hres2
      rcases hres2 with ⟨e2, rfl, rfl⟩ | ⟨e2, rfl, S2, U2, v1, v2, v3, v4, v5, v6⟩
      · refine wn_if_ne q_X6_quotientsAreTold_87 (by decide) (fun q => absurd q (by decide)) (fun _ => ?_)
        refine wa_iconst q_X6_quotientsAreTold_90 (v := nI 0) (by decide) ?_
        refine wa_zret q_X6_quotientsAreTold_91 rfl rfl ?_
        exact fail _ S1 U1 u1 r1 o1 o2 u2 r2 g 0 w1' hU1 hfr1 (if_pos (Or.inr (by rw [← eu2]; exact e2)))
      · refine wn_if_ne q_X6_quotientsAreTold_87 (by decide) (fun _ => ?_) (fun q => absurd q (by decide))
        rw [eo2, eu2] at v3 v4
        rw [eu2] at e2
        have hf1' : fO σ2 z (K 5) 20 u1 r1 o1 := y2.x v6 y1.R f3
        have hk6 := hko 6 (by decide)
        have w2' : cWi X σ2 ms me K cnt kd fs sn A B tl qc qs sa P0 P1 z va mk S2 U2 at' op fa u1 r1 o1 u2 r2 o2 g := w1'.frc v1 v6 (fun q hq => ⟨_, (congrArg (look σ1) hq).trans hf2.1⟩) (fun j hj => v5 j (by omega) (by omega) (by omega) (by omega)) (fun j j1 j2 => v5 j (by omega) (by omega) (by omega) (by omega)) hf1' v2
        have hU2 : ∀ j, 15 ≤ j → j < 20 → U2 j = U0 j := fun j j1 j2 => (v5 j (by omega) (by omega) (by omega) (by omega)).trans (hU1 j j1 j2)
        have hfr2 : Frm ms me σ0 σ2 := fun q x1 x2 => (w1'.frm v6 (fun q hq => by rw [hq]; exact hk6) q x1 x2).trans (hfr1 q x1 x2)
        have e20 : U2 20 = a / b := (v5 20 (by omega) (by omega) (by omega) (by omega)).trans y3
        have er1 : U2 r1 = a % b := (v5 r1 (by omega) (by omega) (by omega) (by omega)).trans y4
        have eu1' : U2 u1 = b := (v5 u1 (by omega) (by omega) (by omega) (by omega)).trans eu1
        have eu2' : U2 u2 = d := (v5 u2 (by omega) (by omega) (by omega) (by omega)).trans eu2
        have ho2 := w2'.1.1
        have hl5 := hf1'.1
        have hl6 := v2.1
        have hz2 := w2'.2.1.1
        have i1 := hz2.big (i := 20) (by omega)
        refine wa_aload_n q_X6_quotientsAreTold_92 rfl ?_
        refine wa_getf q_X6_quotientsAreTold_93 f_RX6_44 (by assumption) rfl ?_
        refine wa_getf q_X6_quotientsAreTold_96 f_RX6_161 (by assumption) rfl ?_
        refine wa_aload_n q_X6_quotientsAreTold_99 rfl ?_
        refine wa_getf q_X6_quotientsAreTold_100 f_RX6_48 (by assumption) rfl ?_
        refine wa_getf q_X6_quotientsAreTold_103 f_RX6_161 (by assumption) rfl ?_
        refine wa_callV q_X6_quotientsAreTold_106 g_X6_quotientsAreTold_106 w_X1_compare (by assumption) rfl (av := [_]) rfl rfl (lk rfl) (Calls.mono (Z_cmp hz2 (i := 20) (j := 24) (by omega) (by omega)) ?_)
        rintro _ τ3 ⟨rfl, eτ⟩
        rw [eτ, e20, v3]
        have hnz : ¬ (b = 0 ∨ d = 0) := by omega
        refine wa_if_eq q_X6_quotientsAreTold_109 (fun hc0 => ?_) (fun hc0 => ?_)
        · have heq : a / b = c / d := cmp0.mp hc0
          have hcf : cfG (t + 1) a b c d = (cfG t b (a % b) d (c % d)).map (fun l => clp (a / b) :: l) := (if_neg hnz).trans (if_pos heq)
          have h82 := w2'.2.2.2.1.2.2.1
          refine wa_aload_n q_X6_quotientsAreTold_114 rfl ?_
          refine wa_getf q_X6_quotientsAreTold_115 f_RX6_55 (by assumption) rfl ?_
          refine wa_iload q_X6_quotientsAreTold_118 rfl ?_
          refine wa_aload_n q_X6_quotientsAreTold_120 rfl ?_
          refine wa_getf q_X6_quotientsAreTold_121 f_RX6_44 (by assumption) rfl ?_
          refine wa_getf q_X6_quotientsAreTold_124 f_RX6_161 (by assumption) rfl ?_
          refine wa_callV q_X6_quotientsAreTold_127 g_X6_quotientsAreTold_127 w_X1_clamped (by assumption) rfl (av := []) rfl rfl (lk rfl) (Calls.mono (Z_clamp hz2 (j := 20) (by omega)) ?_)
          rintro _ τ4 ⟨rfl, eτ4⟩
          rw [eτ4, e20]
          refine wa_last q_X6_quotientsAreTold_130 h82 (vp_in_nI (by omega) (by decide)) ?_
          rw [nI_clamp (by omega)]
          obtain ⟨σ3, hσ3⟩ : ∃ σ3, σ3 = put σ2 (K 8) (.inl (X.2.2.1.2.1, 40, .inr (.inl (vp_updL g i (lZ (clp (a / b))))))) := ⟨_, rfl⟩
          have l1 : look σ3 (K 8) = some (lA X 40 (vp_updL g i (lZ (clp (a / b))))) := by rw [hσ3]; exact look_same h82
          have l2 : ∀ q, q ≠ K 8 → look σ3 q = look σ2 q := fun q hq => by rw [hσ3]; exact look_ne hq
          have l3 : σ3.1 = σ2.1 := by rw [hσ3]; rfl
          have l4 : σ3.2.1 = σ2.2.1 := by rw [hσ3]; rfl
          rw [← hσ3]
          clear hσ3
          have h78 := w2'.2.2.2.1.2.2.2.2
          have w3 := w2'.row (qs2 := qs) h82 ((l2 _ h78).trans w2'.2.2.2.1.1) l1 l2 l3 l4
          have hfr3 : Frm ms me σ0 σ3 := fun q x1 x2 => (l2 q (fun e => by have := hko 8 (by decide); unfold outR at this; omega)).trans (hfr2 q x1 x2)
          refine wn_iinc q_X6_quotientsAreTold_131 rfl (by decide) ?_
          refine wa_goto q_X6_quotientsAreTold_134 ?_
          have hmm : (cfG (t + 1) a b c d).map (fun l => pre ++ l) = (cfG t b (a % b) d (c % d)).map (fun l => (pre ++ [clp (a / b)]) ++ l) := by
            rw [hcf, Option.map_map]
            congr 1
            funext l
            show pre ++ (clp (a / b) :: l) = _
            simp
          rw [hmm]
          have hbp : 0 < b := e1
          have hdp : 0 < d := e2
          have m1 : 0 ≤ a % b ∧ a % b < b := ⟨Int.emod_nonneg _ (by omega), Int.emod_lt_of_pos _ hbp⟩
          have m2 : 0 ≤ c % d ∧ c % d < d := ⟨Int.emod_nonneg _ (by omega), Int.emod_lt_of_pos _ hdp⟩
          refine wa_lv (ih (i + 1) (pre ++ [clp (a / b)]) b (a % b) d (c % d) σ3 S2 U2 u1 r1 o1 u2 r2 o2 _ (by omega) (by simp [hpl]) w3 eu1' er1 eu2' v4 m1.1 m2.1 zb (by omega) zd (by omega) (fun j y hj => ?_) hU2 hfr3) rfl
          unfold vp_updL
          by_cases ej : j = i
          · rw [if_pos ej]
            rw [ej, ← hpl] at hj
            simp at hj
            rw [hj]
          · rw [if_neg ej]
            have hjl : j < i + 1 := by
              have := (List.getElem?_eq_some_iff.mp hj).1
              simp [hpl] at this
              omega
            rw [List.getElem?_append_left (by omega)] at hj
            exact hg j y hj
        · have hne : ¬ a / b = c / d := fun q => hc0 (cmp0.mpr q)
          refine wa_iconst q_X6_quotientsAreTold_112 (v := nI 0) (by decide) ?_
          refine wa_zret q_X6_quotientsAreTold_113 rfl rfl ?_
          exact fail _ S2 U2 u1 r1 o1 u2 r2 o2 g 0 w2' hU2 hfr2 ((if_neg hnz).trans (if_neg hne))
theorem H_qtold {S : Nat → en_B} {U : Nat → Int} {o1 u1 r1 o2 u2 r2 : Nat} {g : Nat → Int64} {k p v : Nat} (hk : k ≤ 40) (hp : p ≤ 480) (h : cWi X σ ms me K cnt kd fs sn A B tl qc qs sa P0 P1 z va mk S U at' op fa o1 u1 r1 o2 u2 r2 g) (hv : v < mk) (hop : op v < 2) (hb : op v = 0 → (U (28 + 3 * v)).natAbs < BB ^ 90 ∧ (U (28 + 3 * v + 1)).natAbs < BB ^ 90) :
    Calls X M_X6_quotientsAreTold [.ref (K 0), .ref (va v), .int (nI k), .int (nI p)] σ (fun res τ => (op v = 1 ∧ res = some (.int (nI 0)) ∧ τ = σ) ∨ (op v = 0 ∧ qtE X σ ms me K cnt kd fs sn A B tl qc qs sa P0 P1 z va mk U at' op fa (cfG k (U (28 + 3 * v)) (10 ^ p) (U (28 + 3 * v + 1)) (10 ^ p)) res τ)) := by
  have ho := h.1.1
  have hV := h.2.1.2.2.2.1
  have hz := h.2.1.1
  have hvv := hV.at hv
  have hvl := hV.lt hv
  obtain ⟨f1, f2, f3⟩ := h.2.2.1
  refine Calls.of rfl (lk rfl) ?_
  refine wa_aload_n q_X6_quotientsAreTold_0 rfl ?_
  refine wa_ifnull q_X6_quotientsAreTold_1 ?_
  refine wa_aload_n q_X6_quotientsAreTold_4 rfl ?_
  refine wa_getf q_X6_quotientsAreTold_5 f_RX6_106 (by assumption) rfl ?_
  refine wn_if_eq q_X6_quotientsAreTold_8 (by omega) (fun hx => ?_) (fun hx => ?_)
  · obtain ⟨c3, c4⟩ := hb hx
    have hf1 := f1.1
    refine wa_aload_n q_X6_quotientsAreTold_13 rfl ?_
    refine wa_getf q_X6_quotientsAreTold_14 f_RX6_44 (by assumption) rfl ?_
    refine wa_aload_n q_X6_quotientsAreTold_17 rfl ?_
    refine wa_getf q_X6_quotientsAreTold_18 f_RX6_110 (by assumption) rfl ?_
    refine wa_iload_n q_X6_quotientsAreTold_21 rfl ?_
    refine wa_callV q_X6_quotientsAreTold_22 g_X6_quotientsAreTold_22 w_X3_start (by assumption) rfl (av := [_, _]) rfl rfl (lk rfl) (Calls.mono (G_start hz f1 (x := 28 + 3 * v) (by omega) (by omega) (by omega) hp (lp_le c3 (by decide))) ?_)
    rintro _ σ1 ⟨rfl, S1, U1, y1, y2, y3, y4, y5⟩
    have q2o := f2.2.2.2.2.2.1
    have q2u := f2.2.2.2.2.2.2.1
    have q1o := f1.2.2.2.2.2.1
    have q1u := f1.2.2.2.2.2.2.1
    have w1 := h.num y1 y5 (fun j hj => y4 j (by omega) (by omega)) (by rw [y4 17 (by omega) (by omega)]; exact h.2.2.2.2.1.2.2.2.2.2.1) (by rw [y4 18 (by omega) (by omega)]; exact h.2.2.2.2.1.2.2.2.2.2.2.1) (by rw [y4 19 (by omega) (by omega)]; exact h.2.2.2.2.1.2.2.2.2.2.2.2)
    have hfr1 : Frm ms me σ σ1 := h.frm (E := fun _ => False) y5.x (fun q hq => absurd hq id)
    have ho1 := w1.1.1
    have hv1 := w1.2.1.2.2.2.1.at hv
    have f2' := w1.2.2.1.2.1
    have hf2 := f2'.1
    have eh : U1 (28 + 3 * v + 1) = U (28 + 3 * v + 1) := y4 _ (by omega) (by omega)
    refine wa_aload_n q_X6_quotientsAreTold_25 rfl ?_
    refine wa_getf q_X6_quotientsAreTold_26 f_RX6_48 (by assumption) rfl ?_
    refine wa_aload_n q_X6_quotientsAreTold_29 rfl ?_
    refine wa_getf q_X6_quotientsAreTold_30 f_RX6_113 (by assumption) rfl ?_
    refine wa_iload_n q_X6_quotientsAreTold_33 rfl ?_
    refine wa_callV q_X6_quotientsAreTold_34 g_X6_quotientsAreTold_34 w_X3_start (by assumption) rfl (av := [_, _]) rfl rfl (lk rfl) (Calls.mono (G_start y1 f2' (x := 28 + 3 * v + 1) (by omega) (by omega) (by omega) hp (by rw [eh]; exact lp_le c4 (by decide))) ?_)
    rintro _ σ2 ⟨rfl, S2, U2, x1, x2, x3, x4, x5⟩
    have w2 := w1.num x1 x5 (fun j hj => x4 j (by omega) (by omega)) (by rw [x4 17 (by omega) (by omega)]; exact w1.2.2.2.2.1.2.2.2.2.2.1) (by rw [x4 18 (by omega) (by omega)]; exact w1.2.2.2.2.1.2.2.2.2.2.2.1) (by rw [x4 19 (by omega) (by omega)]; exact w1.2.2.2.2.1.2.2.2.2.2.2.2)
    have hfr2 : Frm ms me σ σ2 := fun q a1 a2 => (w1.frm (E := fun _ => False) x5.x (fun q hq => absurd hq id) q a1 a2).trans (hfr1 q a1 a2)
    have hp10 : ((10 : Int) ^ p).natAbs < BB ^ 100 := by
      rw [Int.natAbs_pow]
      exact Nat.lt_of_le_of_lt (p10_lt hp) ((Nat.pow_lt_pow_iff_right (by decide)).mpr (by decide))
    refine wa_iconst q_X6_quotientsAreTold_37 (v := nI 0) (by decide) ?_
    refine wa_istore q_X6_quotientsAreTold_38 (by decide) ?_
    have hL := qt_loop (ρ := σ) (σ0 := σ) (U0 := U) (k := k) (p := p) (w1 := va v) hk k 0 [] (U (28 + 3 * v)) (10 ^ p) (U (28 + 3 * v + 1)) (10 ^ p) σ2 S2 U2 o1 u1 r1 o2 u2 r2 g (by omega) rfl w2 ((x4 o1 (by omega) (by omega)).trans y2) ((x4 u1 (by omega) (by omega)).trans y3) (x2.trans eh) x3 (Int.pow_nonneg (by decide)) (Int.pow_nonneg (by decide)) (lp_le c3 (by decide)) hp10 (lp_le c4 (by decide)) hp10 (fun j y hj => by simp at hj) (fun j j1 j2 => (x4 j (by omega) (by omega)).trans (y4 j (by omega) (by omega))) hfr2
    refine wa_lv (WA.mono hL (fun r τ hq => Or.inr ⟨hx, ?_⟩)) rfl
    have e : ∀ o : Option (List Int), o.map (fun l => [] ++ l) = o := fun o => by cases o <;> rfl
    rw [e] at hq
    exact hq
  · refine wa_iconst q_X6_quotientsAreTold_11 (v := nI 0) (by decide) ?_
    refine wa_zret q_X6_quotientsAreTold_12 rfl rfl ?_
    exact Or.inl ⟨by omega, rfl, rfl⟩
/-- how quotients ends -/
def qtD (X : en_X) (σ : en_S) (ms me : Nat) (K : Nat → Nat) (cnt : Nat) (kd fs sn : Nat → Nat) (A B : Nat → Int) (tl : Nat) (td lo hi : Int) (qc : Nat) (qs : Nat → Int) (P0 P1 k : Nat) (r : Option (Nat × List Int)) (res : Option Value) (τ : en_S) : Prop :=
  Frm ms me σ τ ∧ ((r = none ∧ res = some (.int (-3)) ∧ cW X τ ms me K cnt kd fs sn A B tl td lo hi qc qs 0 P0 P1) ∨ (∃ q l, r = some (q, l) ∧ res = some (.int (nI 1)) ∧ cW X τ ms me K cnt kd fs sn A B tl td lo hi k (fun j => (l[j]?).getD (qs j)) q P0 P1))
theorem cfG_len : ∀ (k : Nat) (a b c d : Int) (l : List Int), cfG k a b c d = some l → l.length = k := by
  intro k
  induction k with
  | zero => intro a b c d l h; cases h; rfl
  | succ k ih =>
    intro a b c d l h
    unfold cfG at h
    split at h
    · cases h
    · split at h
      · cases e : cfG k b (a % b) d (c % d) with
        | none => rw [e] at h; cases h
        | some m => rw [e] at h; cases h; rw [List.length_cons, ih _ _ _ _ m e]
      · cases h
set_option maxHeartbeats 2000000 in
theorem qu_loop {td lo hi : Int} {v k : Nat} {ρ σ0 : en_S} (hFL : FLok) (hv : v < cnt) (hk1 : 1 ≤ k) (hk : k ≤ 40) :
    ∀ (t p : Nat) (σ : en_S) (S : Nat → en_B) (U : Nat → Int) (at' op fa : Nat → Nat) (o1 u1 r1 o2 u2 r2 : Nat) (g : Nat → Int64), 10 * 2 ^ (10 - t) ≤ p → p ≤ 2000 → t ≤ 10 → cWi X σ ms me K cnt kd fs sn A B tl qc qs 0 P0 P1 z va mk S U at' op fa o1 u1 r1 o2 u2 r2 g → U 17 = td ∧ U 18 = lo ∧ U 19 = hi → Frm ms me σ0 σ →
      WA X M_X6_quotients ρ 33 [(3, .int (nI p)), (0, .ref (K 0)), (1, .int (nI v)), (2, .int (nI k))] [] σ (fun res τ => qtD X σ0 ms me K cnt kd fs sn A B tl td lo hi qc qs P0 P1 k (qtF kd fs sn A B v k t p) res τ) := by
  intro t
  induction t with
  | zero =>
    intro p σ S U at' op fa o1 u1 r1 o2 u2 r2 g hp hp2 ht h he hfr
    have : 10 * 2 ^ (10 - 0) = 10240 := by decide
    omega
  | succ t ih =>
    intro p σ S U at' op fa o1 u1 r1 o2 u2 r2 g hp hp2 ht h he hfr
    have hp10 : 10 ≤ p := by
      have : 1 ≤ 2 ^ (10 - (t + 1)) := Nat.pow_pos (by decide)
      omega
    have hcm := h.2.2.2.2.1.1
    have hmk := h.2.1.2.2.2.1.2.2.2.2.1
    refine wa_iload_n q_X6_quotients_33 rfl ?_
    refine wa_sipush q_X6_quotients_34 (v := nI 480) (by decide) ?_
    refine wn_icmp_gt q_X6_quotients_37 (by omega) (by omega) (fun hx => ?_) (fun hx => ?_)
    · refine wa_bipush q_X6_quotients_95 (v := -3) (by decide) ?_
      refine wa_iret q_X6_quotients_97 rfl ?_
      refine ⟨hfr, Or.inl ⟨if_pos hx, rfl, ⟨z, va, mk, S, U, at', op, fa, o1, u1, r1, o2, u2, r2, g, h, he⟩⟩⟩
    · have hF : qtF kd fs sn A B v k (t + 1) p = (match enc kd fs sn A B p v with
        | none => qtF kd fs sn A B v k t (p * 2)
        | some q => match cfG k q.1 (10 ^ p) q.2 (10 ^ p) with
          | none => qtF kd fs sn A B v k t (p * 2)
          | some l => some (p, l)) := if_neg (by omega)
      have ho := h.1.1
      have hE := h.2.1.2.1.1
      have hpw : 10 * 2 ^ (10 - t) ≤ p * 2 := by
        rw [show 10 - t = (10 - (t + 1)) + 1 by omega, Nat.pow_succ]; omega
      refine wa_aload_n q_X6_quotients_40 rfl ?_
      refine wa_aload_n q_X6_quotients_41 rfl ?_
      refine wa_getf q_X6_quotients_42 f_RX6_18 (by assumption) rfl ?_
      refine wa_aload_n q_X6_quotients_45 rfl ?_
      refine wa_getf q_X6_quotients_46 f_RX6_11 (by assumption) rfl ?_
      refine wa_iload_n q_X6_quotients_49 rfl ?_
      refine wa_iload_n q_X6_quotients_50 rfl ?_
      refine wa_callV q_X6_quotients_51 g_X6_quotients_51 w_X2_enclosed (by assumption) rfl (av := [_, _, _]) rfl rfl (lk rfl) (Calls.mono (H_encl hFL h hv (by omega) hx) ?_)
      rintro _ σ1 ⟨rfl, S1, U1, at2, op2, fa2, w1, b1, b2, b3, b4⟩
      have he1 : U1 17 = td ∧ U1 18 = lo ∧ U1 19 = hi := by rw [b3 17 (by decide) (by decide), b3 18 (by decide) (by decide), b3 19 (by decide) (by decide)]; exact he
      have hfr1 : Frm ms me σ0 σ1 := fun q x1 x2 => (b4 q x1 x2).trans (hfr q x1 x2)
      have hgot := enc_got w1 hv (by omega) b1
      have hob := (w1.2.1.2.2.2.1.2.2.2.2.2 v (by omega)).2.2.2.2.1
      have ho1 := w1.1.1
      refine wa_iload_n q_X6_quotients_54 rfl ?_
      refine wa_iload_n q_X6_quotients_55 rfl ?_
      refine wa_callV q_X6_quotients_56 g_X6_quotients_56 w_X6_quotientsAreTold (by assumption) rfl (av := [_, _, _]) rfl rfl (lk rfl) (Calls.mono (H_qtold hk hx w1 (v := v) (by omega) hob (fun q => by rcases hgot with w | w; omega; exact w.2.2)) ?_)
      intro res2 σ2 hres2
      rcases hres2 with ⟨c1, rfl, rfl⟩ | ⟨c1, S2, U2, p1, v1, s1, p2, v2, s2, g2, w2, x1, x2, x3⟩
      · rcases hgot with ⟨d1, d2⟩ | ⟨d1, d2⟩
        · rw [d2] at hF
          refine wn_if_eq q_X6_quotients_59 (by decide) (fun _ => ?_) (fun q => absurd q (by decide))
          refine wa_iload_n q_X6_quotients_88 rfl ?_
          refine wa_iconst q_X6_quotients_89 (v := nI 2) (by decide) ?_
          refine wn_imul q_X6_quotients_90 ?_
          refine wa_istore_n q_X6_quotients_91 (by decide) ?_
          refine wa_goto q_X6_quotients_92 ?_
          rw [hF]
          exact wa_lv (ih (p * 2) _ S1 U1 at2 op2 fa2 o1 u1 r1 o2 u2 r2 g hpw (by omega) (by omega) w1 he1 hfr1) rfl
        · omega
      · rcases hgot with ⟨d1, d2⟩ | ⟨d1, d2, d3, d4⟩
        · omega
        · rw [d2] at hF
          simp only [] at hF
          have he2 : U2 17 = td ∧ U2 18 = lo ∧ U2 19 = hi := by rw [x1 17 (by decide) (by decide), x1 18 (by decide) (by decide), x1 19 (by decide) (by decide)]; exact he1
          have hfr2 : Frm ms me σ0 σ2 := fun q y1 y2 => (x2 q y1 y2).trans (hfr1 q y1 y2)
          rcases x3 with ⟨y1, rfl⟩ | ⟨l, y1, rfl, y3⟩
          · rw [y1] at hF
            rw [hF]
            refine wn_if_eq q_X6_quotients_59 (by decide) (fun _ => ?_) (fun q => absurd q (by decide))
            refine wa_iload_n q_X6_quotients_88 rfl ?_
            refine wa_iconst q_X6_quotients_89 (v := nI 2) (by decide) ?_
            refine wn_imul q_X6_quotients_90 ?_
            refine wa_istore_n q_X6_quotients_91 (by decide) ?_
            refine wa_goto q_X6_quotients_92 ?_
            exact wa_lv (ih (p * 2) σ2 S2 U2 at2 op2 fa2 p1 v1 s1 p2 v2 s2 g2 hpw (by omega) (by omega) w2 he2 hfr2) rfl
          · rw [y1] at hF
            rw [hF]
            refine wn_if_eq q_X6_quotients_59 (by decide) (fun q => absurd q (by decide)) (fun _ => ?_)
            have hlen := cfG_len _ _ _ _ _ l y1
            have ho2 := w2.1.1
            have h7 := w2.2.2.2.1.1
            have h8 := w2.2.2.2.1.2.2.1
            have h78 := w2.2.2.2.1.2.2.2.2
            obtain ⟨k1, k2, k3, k4, k5, -⟩ := w2.2.2.2.2.1
            refine wa_aload_n q_X6_quotients_62 rfl ?_
            refine wa_getf q_X6_quotients_63 f_RX6_55 (by assumption) rfl ?_
            refine wa_iconst q_X6_quotients_66 (v := nI 0) (by decide) ?_
            refine wa_aload_n q_X6_quotients_67 rfl ?_
            refine wa_getf q_X6_quotients_68 f_RX6_51 (by assumption) rfl ?_
            refine wa_iconst q_X6_quotients_71 (v := nI 0) (by decide) ?_
            refine wa_iload_n q_X6_quotients_72 rfl ?_
            refine wa_copyl (f := g2) (g := fun i => lZ (qs i)) q_X6_quotients_73 a_RX6_124 (lk rfl) (lk rfl) h8 h7 (by decide) (by decide) (nI_pos (by omega)) (by rw [nI_clamp (show 0 < 2 ^ 31 by decide), nI_clamp (show k < 2 ^ 31 by omega)]; omega) (by rw [nI_clamp (show 0 < 2 ^ 31 by decide), nI_clamp (show k < 2 ^ 31 by omega)]; omega) ?_
            have ecp : va_cpy g2 (fun i => lZ (qs i)) (nI 0).toNatClampNeg (nI 0).toNatClampNeg (nI k).toNatClampNeg = fun j => lZ ((l[j]?).getD (qs j)) := by
              rw [nI_clamp (show k < 2 ^ 31 by omega), nI_clamp (show 0 < 2 ^ 31 by decide)]
              funext j
              unfold va_cpy
              by_cases hj : j < k
              · rw [if_pos ⟨by omega, by omega⟩]
                obtain ⟨y, hy⟩ : ∃ y, l[j]? = some y := ⟨l[j]'(by omega), List.getElem?_eq_getElem (by omega)⟩
                rw [show 0 + (j - 0) = j by omega, y3 j y hy, hy]; rfl
              · rw [if_neg (by omega), List.getElem?_eq_none (by omega)]; rfl
            rw [ecp]
            obtain ⟨σ3, hσ3⟩ : ∃ σ3, σ3 = put σ2 (K 7) (.inl (X.2.2.1.2.1, 40, .inr (.inl (fun j => lZ ((l[j]?).getD (qs j)))))) := ⟨_, rfl⟩
            have l1 : look σ3 (K 7) = some (lA X 40 (fun j => lZ ((l[j]?).getD (qs j)))) := by rw [hσ3]; exact look_same h7
            have l2 : ∀ q, q ≠ K 7 → look σ3 q = look σ2 q := fun q hq => by rw [hσ3]; exact look_ne hq
            have l3 : σ3.1 = σ2.1 := by rw [hσ3]; rfl
            have l4 : σ3.2.1 = σ2.2.1 := by rw [hσ3]; rfl
            rw [← hσ3]
            clear hσ3
            have w3 := w2.row (qs2 := fun j => (l[j]?).getD (qs j)) h7 l1 ((l2 _ (fun e => h78 e.symm)).trans h8) l2 l3 l4
            have hko := w2.2.2.2.2.2.1.1
            have hfr3 : Frm ms me σ0 σ3 := fun q y1 y2 => (l2 q (fun e => by have := hko 7 (by decide); unfold outR at this; omega)).trans (hfr2 q y1 y2)
            have ho3 := w3.1.1
            refine wa_aload_n q_X6_quotients_76 rfl ?_
            refine wa_iload_n q_X6_quotients_77 rfl ?_
            refine wn_putf q_X6_quotients_78 p_RX6_130 (by assumption) (lk rfl) rfl rfl rfl (fun σ_m1 m1 f_m1 e1_m1 e2_m1 => ?_)
            have w4 := w3.obj (cnt2 := cnt) (tl2 := tl) (qc2 := k) (sa2 := 0) m1 f_m1 e1_m1 e2_m1 (Nat.le_refl _) k3 hk (by decide)
            have ho4 := w4.1.1
            refine wa_aload_n q_X6_quotients_81 rfl ?_
            refine wa_iload_n q_X6_quotients_82 rfl ?_
            refine wn_putf q_X6_quotients_83 p_RX6_71 (by assumption) (lk rfl) rfl rfl rfl (fun σ_m2 m2 f_m2 e1_m2 e2_m2 => ?_)
            have w5 := w4.obj (cnt2 := cnt) (tl2 := tl) (qc2 := k) (sa2 := p) m2 f_m2 e1_m2 e2_m2 (Nat.le_refl _) k3 hk hx
            refine wa_iconst q_X6_quotients_86 (v := nI 1) (by decide) ?_
            refine wa_iret q_X6_quotients_87 rfl ?_
            exact ⟨fun q y1 y2 => (w4.frmO f_m2 q y1 y2).trans ((w3.frmO f_m1 q y1 y2).trans (hfr3 q y1 y2)), Or.inr ⟨p, l, rfl, rfl, ⟨z, va, mk, S2, U2, at2, op2, fa2, p1, v1, s1, p2, v2, s2, g2, w5, he2⟩⟩⟩
theorem H_quots {td lo hi : Int} {w x : Int32} (hFL : FLok) (h : cW X σ ms me K cnt kd fs sn A B tl td lo hi qc qs sa P0 P1) :
    Calls X M_X6_quotients [.ref (K 0), .int w, .int x] σ (fun res τ => (((∀ v, v < cnt → w ≠ nI v) ∨ x < 1 ∨ 40 < x) ∧ res = some (.int (-1)) ∧ τ = σ) ∨ (∃ v k, v < cnt ∧ w = nI v ∧ 1 ≤ k ∧ k ≤ 40 ∧ x = nI k ∧ qtD X σ ms me K cnt kd fs sn A B tl td lo hi qc qs P0 P1 k (qts kd fs sn A B v k) res τ)) := by
  have hc := h.c60
  have h' := h
  obtain ⟨z, va, mk, S, U, at', op, fa, o1, u1, r1, o2, u2, r2, g, hw, he⟩ := h
  have ho := hw.1.1
  obtain ⟨QQ, hQQ⟩ : ∃ QQ : Option Value → en_S → Prop, QQ = (fun res τ => (((∀ v, v < cnt → w ≠ nI v) ∨ x < 1 ∨ 40 < x) ∧ res = some (.int (-1)) ∧ τ = σ) ∨ (∃ v k, v < cnt ∧ w = nI v ∧ 1 ≤ k ∧ k ≤ 40 ∧ x = nI k ∧ qtD X σ ms me K cnt kd fs sn A B tl td lo hi qc qs P0 P1 k (qts kd fs sn A B v k) res τ)) := ⟨_, rfl⟩
  rw [← hQQ]
  have no : ((∀ v, v < cnt → w ≠ nI v) ∨ x < 1 ∨ 40 < x) → WA X M_X6_quotients σ 19 (lv_args 0 [.ref (K 0), .int w, .int x]) [] σ QQ := by
    intro hq
    refine wa_iconst q_X6_quotients_19 (v := -1) (by decide) ?_
    refine wa_iret q_X6_quotients_20 rfl ?_
    rw [hQQ]
    exact Or.inl ⟨hq, rfl, rfl⟩
  refine Calls.of rfl (lk rfl) ?_
  refine wa_aload_n q_X6_quotients_0 rfl ?_
  refine wa_iload_n q_X6_quotients_1 rfl ?_
  refine wa_callV q_X6_quotients_2 g_X6_quotients_2 w_X6_isValue (by assumption) rfl (av := [_]) rfl rfl (lk rfl) (Calls.mono (H_isVal h') ?_)
  rintro _ τ1 ⟨hres, eτ⟩
  rw [eτ]
  rcases hres with ⟨v, hv, rfl, rfl⟩ | ⟨hv, rfl⟩
  · refine wn_if_eq q_X6_quotients_5 (by decide) (fun q => absurd q (by decide)) (fun _ => ?_)
    refine wa_iload_n q_X6_quotients_8 rfl ?_
    refine wa_iconst q_X6_quotients_9 (v := nI 1) (by decide) ?_
    refine wa_icmp_lt q_X6_quotients_10 (fun q => no (Or.inr (Or.inl q))) (fun h1 => ?_)
    refine wa_iload_n q_X6_quotients_13 rfl ?_
    refine wa_bipush q_X6_quotients_14 (v := nI 40) (by decide) ?_
    refine wa_icmp_le q_X6_quotients_16 (fun h2 => ?_) (fun q => no (Or.inr (Or.inr (Int32.not_le.mp q))))
    obtain ⟨k, hk1, hk, rfl⟩ : ∃ k : Nat, 1 ≤ k ∧ k ≤ 40 ∧ x = nI k := by
      have hx0 : ¬ x < 0 := fun q => h1 (by
        rw [Int32.lt_iff_toInt_lt] at q ⊢
        have e0 : (0 : Int32).toInt = 0 := by decide
        have e1 : (nI 1).toInt = 1 := by decide
        omega)
      obtain ⟨n, hn, e⟩ := nI_of hx0
      subst e
      have a1 := mt (nI_ltI hn (by decide)).mpr h1
      have a2 := (nI_leI hn (by decide)).mp h2
      exact ⟨n, by omega, by omega, rfl⟩
    obtain ⟨c1, c2, c3, c4, c5, -⟩ := hw.2.2.2.2.1
    refine wa_aload_n q_X6_quotients_21 rfl ?_
    refine wa_iconst q_X6_quotients_22 (v := nI 0) (by decide) ?_
    refine wn_putf q_X6_quotients_23 p_RX6_71 (by assumption) (lk rfl) rfl rfl rfl (fun σ_p1 p1 f_p1 e1_p1 e2_p1 => ?_)
    have w1 := hw.obj (cnt2 := cnt) (tl2 := tl) (qc2 := qc) (sa2 := 0) p1 f_p1 e1_p1 e2_p1 (Nat.le_refl _) c3 c4 (by decide)
    refine wa_iconst q_X6_quotients_26 (v := nI 2) (by decide) ?_
    refine wa_iload_n q_X6_quotients_27 rfl ?_
    refine wn_imul q_X6_quotients_28 ?_
    refine wa_bipush q_X6_quotients_29 (v := nI 10) (by decide) ?_
    refine wn_iadd q_X6_quotients_31 ?_
    refine wa_istore_n q_X6_quotients_32 (by decide) ?_
    have hL := qu_loop (td := td) (lo := lo) (hi := hi) (v := v) (k := k) (ρ := σ) (σ0 := σ) hFL hv hk1 hk 10 (2 * k + 10) σ_p1 S U at' op fa o1 u1 r1 o2 u2 r2 g (by show 10 * 2 ^ 0 ≤ _; omega) (by omega) (by decide) w1 he (hw.frmO f_p1)
    refine wa_lv (WA.mono hL (fun r τ hq => ?_)) rfl
    rw [hQQ]
    exact Or.inr ⟨v, k, hv, rfl, hk1, hk, rfl, hq⟩
  · refine wn_if_eq q_X6_quotients_5 (by decide) (fun _ => ?_) (fun q => absurd q (by decide))
    exact no (Or.inl hv)
end quot1
