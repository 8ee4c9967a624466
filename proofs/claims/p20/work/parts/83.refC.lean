/-! The reference: rounded -/
section ref13
variable {X : en_X} {σ : en_S} {M : Nat → Nat} {O : Int32 × Int32 × Int32 × Int32 × Int32} {C Z : Nat → Nat} {G : Nat → Int32} {V : Nat → Int}
set_option maxHeartbeats 2000000 in
theorem R_rnd {r a b : Nat} {up : Bool} (h : rV X σ M O C Z G V) (hr : r < 140) (ha : a < 140) (hb : b < 140) (r9 : r ≠ 9) (r10 : r ≠ 10) (a10 : a ≠ 10) (b9 : b ≠ 9) (hbz : V b ≠ 0) (za : (V a).natAbs < BB ^ 290) (zb : (V b).natAbs < BB ^ 290) :
    Calls X M_X7_rounded [.ref (M 0), .int (nI r), .int (nI a), .int (nI b), .int (nI (if up then 1 else 0))] σ (fun res τ => res = none ∧ ∃ C' Z' G' V', rV X τ M O C' Z' G' V' ∧ V' r = (if up then qup (V a) (V b) else qdn (V a) (V b)) ∧ (∀ s, s ≠ r → s ≠ 9 → s ≠ 10 → V' s = V s) ∧ mSt M σ τ) := by
  have hB : BB = 1000000000 := rfl
  obtain ⟨a0, a1, a2, a3, n1, n2, n3⟩ := id h.1
  have g1 := (h.2 a ha).1
  have g2 := (h.2 b hb).1
  have h299 : BB ^ 290 ≤ BB ^ 299 := pw_mono (by decide)
  have h300 : BB ^ 290 < BB ^ 300 := (Nat.pow_lt_pow_iff_right (by decide)).mpr (by decide)
  refine Calls.of rfl (lk rfl) ?_
  refine wa_aload_n q_X7_rounded_0 rfl ?_
  refine wa_getf q_X7_rounded_1 f_RX7_17 (by assumption) rfl ?_
  refine wa_iload_n q_X7_rounded_4 rfl ?_
  refine wn_gald q_X7_rounded_5 (by assumption) (by omega) ?_
  refine wa_aload_n q_X7_rounded_6 rfl ?_
  refine wa_getf q_X7_rounded_7 f_RX7_17 (by assumption) rfl ?_
  refine wa_iload_n q_X7_rounded_10 rfl ?_
  refine wn_gald q_X7_rounded_11 (by assumption) (by omega) ?_
  refine wa_imul q_X7_rounded_12 ?_
  rw [g1, g2, ← sgI_mul]
  refine wa_istore q_X7_rounded_13 (by decide) ?_
  refine wa_aload_n q_X7_rounded_15 rfl ?_
  refine wa_iload_n q_X7_rounded_16 rfl ?_
  refine wa_bipush q_X7_rounded_17 (v := nI 9) (by decide) ?_
  refine wa_callV q_X7_rounded_19 g_X7_rounded_19 w_X7_copyTo (by assumption) rfl (av := [_, _]) rfl rfl (lk rfl) (Calls.mono (R_copy h ha (b := 9) (by decide)) ?_)
  rintro _ σ1 ⟨rfl, C1, Z1, G1, h1, s1⟩
  obtain ⟨b0, b1, b2, b3, -⟩ := id h1.1
  have e1b : uV V 9 (V a) b = V b := uV_n b9
  refine wa_aload_n q_X7_rounded_22 rfl ?_
  refine wa_iload_n q_X7_rounded_23 rfl ?_
  refine wa_bipush q_X7_rounded_24 (v := nI 10) (by decide) ?_
  refine wa_callV q_X7_rounded_26 g_X7_rounded_26 w_X7_copyTo (by assumption) rfl (av := [_, _]) rfl rfl (lk rfl) (Calls.mono (R_copy h1 hb (b := 10) (by decide)) ?_)
  rintro _ σ2 ⟨rfl, C2, Z2, G2, h2, s2⟩
  rw [e1b] at h2
  obtain ⟨c0, c1, c2, c3, -⟩ := id h2.1
  have e2a : uV (uV V 9 (V a)) 10 (V b) 9 = V a := by rw [uV_n (by decide), uV_s]
  have e2b : uV (uV V 9 (V a)) 10 (V b) 10 = V b := uV_s
  refine wa_aload_n q_X7_rounded_29 rfl ?_
  refine wa_iload_n q_X7_rounded_30 rfl ?_
  refine wa_bipush q_X7_rounded_31 (v := nI 9) (by decide) ?_
  refine wa_bipush q_X7_rounded_33 (v := nI 10) (by decide) ?_
  refine wa_callV q_X7_rounded_35 g_X7_rounded_35 w_X7_divide (by assumption) rfl (av := [_, _, _]) rfl rfl (lk rfl) (Calls.mono (R_divide h2 hr (a := 9) (b := 10) (by decide) (by decide) r9 r10 (by decide) (by rw [e2b]; exact hbz) (by rw [e2a]; omega) (by rw [e2b]; omega)) ?_)
  rintro _ σ3 ⟨rfl, C3, Z3, G3, V3, h3, q1, q2, q3, s3⟩
  rw [e2a, e2b] at q1 q2
  have q4 : ∀ s, s ≠ r → s ≠ 9 → s ≠ 10 → V3 s = V s := fun s x1 x2 x3 => by rw [q3 s x1 x2, uV_n x3, uV_n x2]
  obtain ⟨d0, d1, d2, d3, -⟩ := id h3.1
  have k9 := (h3.2 9 (by decide)).1
  have kr := (h3.2 r hr).1
  obtain ⟨z1, z2, z3, z4⟩ := h3.2 r hr
  obtain ⟨q, hq⟩ : ∃ q, q = (V a).natAbs / (V b).natAbs := ⟨_, rfl⟩
  obtain ⟨m, hm⟩ : ∃ m, m = (V a).natAbs % (V b).natAbs := ⟨_, rfl⟩
  rw [← hq] at q1
  rw [← hm] at q2
  have hsA := s1.tr (s2.tr s3)
  have hqle : q ≤ (V a).natAbs := by rw [hq]; exact Nat.div_le_self _ _
  -- behind the test whether it is exact
  have main : ∀ x : Nat, (x = 1 ∧ m = 0 ∨ x = 0 ∧ m ≠ 0) → WA X M_X7_rounded σ 53 [(5, .int (sgI (V a * V b))), (0, .ref (M 0)), (1, .int (nI r)), (2, .int (nI a)), (3, .int (nI b)), (4, .int (nI (if up then 1 else 0)))] [.int (nI x)] σ3 (fun res τ => res = none ∧ ∃ C' Z' G' V', rV X τ M O C' Z' G' V' ∧ V' r = (if up then qup (V a) (V b) else qdn (V a) (V b)) ∧ (∀ s, s ≠ r → s ≠ 9 → s ≠ 10 → V' s = V s) ∧ mSt M σ τ) := by
    intro x hx
    obtain ⟨w, hw⟩ : ∃ w : Int, w = if V a * V b < 0 then -(q : Int) else (q : Int) := ⟨_, rfl⟩
    have hab0 : V a * V b = 0 → q = 0 := fun z => by
      rcases Int.mul_eq_zero.mp z with y | y
      · rw [hq, y]; simp
      · exact absurd y hbz
    -- the quotient with its sign
    have fin : ∀ (σ4 : en_S) (C4 Z4 : Nat → Nat) (G4 : Nat → Int32) (V4 : Nat → Int), rV X σ4 M O C4 Z4 G4 V4 → V4 r = w → (∀ s, s ≠ r → s ≠ 9 → s ≠ 10 → V4 s = V s) → mSt M σ σ4 → WA X M_X7_rounded σ 76 [(6, .int (nI x)), (5, .int (sgI (V a * V b))), (0, .ref (M 0)), (1, .int (nI r)), (2, .int (nI a)), (3, .int (nI b)), (4, .int (nI (if up then 1 else 0)))] [] σ4 (fun res τ => res = none ∧ ∃ C' Z' G' V', rV X τ M O C' Z' G' V' ∧ V' r = (if up then qup (V a) (V b) else qdn (V a) (V b)) ∧ (∀ s, s ≠ r → s ≠ 9 → s ≠ 10 → V' s = V s) ∧ mSt M σ τ) := by
      intro σ4 C4 Z4 G4 V4 h4 y1 y2 y3
      have hwb : w.natAbs < BB ^ 300 := by rw [hw]; split <;> omega
      have e1B : (1 : Int).natAbs < BB ^ 300 := Nat.lt_of_lt_of_le (show (1 : Nat) < BB ^ 1 by decide) (pw_mono (by decide))
      have last : ∀ (σ5 : en_S) (C5 Z5 : Nat → Nat) (G5 : Nat → Int32) (V5 : Nat → Int), rV X σ5 M O C5 Z5 G5 V5 → V5 r = (if up then qup (V a) (V b) else qdn (V a) (V b)) → (∀ s, s ≠ r → s ≠ 9 → s ≠ 10 → V5 s = V s) → mSt M σ σ5 → (x = 1 ∨ up = true ∨ 0 ≤ V a * V b) → WA X M_X7_rounded σ 107 [(6, .int (nI x)), (5, .int (sgI (V a * V b))), (0, .ref (M 0)), (1, .int (nI r)), (2, .int (nI a)), (3, .int (nI b)), (4, .int (nI (if up then 1 else 0)))] [] σ5 (fun res τ => res = none ∧ ∃ C' Z' G' V', rV X τ M O C' Z' G' V' ∧ V' r = (if up then qup (V a) (V b) else qdn (V a) (V b)) ∧ (∀ s, s ≠ r → s ≠ 9 → s ≠ 10 → V' s = V s) ∧ mSt M σ τ) := by
        intro σ5 C5 Z5 G5 V5 h5 u1 u2 u3 u4
        have dn : WA X M_X7_rounded σ 138 [(6, .int (nI x)), (5, .int (sgI (V a * V b))), (0, .ref (M 0)), (1, .int (nI r)), (2, .int (nI a)), (3, .int (nI b)), (4, .int (nI (if up then 1 else 0)))] [] σ5 (fun res τ => res = none ∧ ∃ C' Z' G' V', rV X τ M O C' Z' G' V' ∧ V' r = (if up then qup (V a) (V b) else qdn (V a) (V b)) ∧ (∀ s, s ≠ r → s ≠ 9 → s ≠ 10 → V' s = V s) ∧ mSt M σ τ) := by
          refine wa_vret q_X7_rounded_138 rfl ?_
          exact ⟨rfl, C5, Z5, G5, V5, h5, u1, u2, u3⟩
        refine wa_iload q_X7_rounded_107 rfl ?_
        refine wn_if_ne q_X7_rounded_109 (by omega) (fun _ => dn) (fun hx0 => ?_)
        refine wa_iload q_X7_rounded_112 rfl ?_
        cases up
        · refine wn_if_ne q_X7_rounded_114 (by decide) (fun z => absurd z (by decide)) (fun _ => ?_)
          refine wa_iload q_X7_rounded_117 rfl ?_
          refine wa_if_ge q_X7_rounded_119 (fun _ => dn) (fun z => ?_)
          have hng : ¬ 0 ≤ V a * V b := fun y => z (sg_ge.mpr y)
          rcases u4 with y | y | y
          · omega
          · cases y
          · exact absurd y hng
        · refine wn_if_ne q_X7_rounded_114 (by decide) (fun _ => dn) (fun z => absurd z (by decide))
      have dval : (if up then qup (V a) (V b) else qdn (V a) (V b)) = (if up = true ∧ 0 ≤ V a * V b ∧ m ≠ 0 then w + 1 else if up = false ∧ V a * V b < 0 ∧ m ≠ 0 then w - 1 else w) := by
        rw [hw]
        cases up
        · rw [if_neg (by simp), if_neg (by simp)]
          unfold qdn
          rw [← hq, ← hm]
          by_cases c1 : V a * V b < 0
          · rw [if_pos c1, if_pos c1]
            by_cases c2 : m = 0
            · rw [if_pos c2, if_neg (fun z => z.2.2 c2)]
            · rw [if_neg c2, if_pos ⟨rfl, c1, c2⟩]
          · rw [if_neg c1, if_neg c1, if_neg (fun z => c1 z.2.1)]
        · rw [if_pos rfl]
          unfold qup
          rw [← hq, ← hm]
          by_cases c1 : V a * V b < 0
          · rw [if_pos c1, if_pos c1, if_neg (fun z => by omega), if_neg (fun z => by cases z.1)]
          · rw [if_neg c1, if_neg c1]
            by_cases c2 : m = 0
            · rw [if_pos c2, if_neg (fun z => z.2.2 c2), if_neg (fun z => by cases z.1)]
            · rw [if_neg c2, if_pos ⟨rfl, by omega, c2⟩]
      have hab : m ≠ 0 → V a * V b ≠ 0 := fun z y => by
        rcases Int.mul_eq_zero.mp y with y | y
        · exact z (by rw [hm, y]; simp)
        · exact hbz y
      obtain ⟨o0, o1, o2, o3, -⟩ := id h4.1
      have add1 : ∀ (t : Int), (t = 1 ∨ t = -1) → ∃ V5 : Nat → Int, V5 = uV (uV V4 10 1) r (V4 r + t * 1) ∧ V5 r = w + t ∧ ∀ s, s ≠ r → s ≠ 9 → s ≠ 10 → V5 s = V s := fun t ht => ⟨_, rfl, by rw [uV_s, y1, Int.mul_one], fun s x1 x2 x3 => by rw [uV_n x1, uV_n x3]; exact y2 s x1 x2 x3⟩
      have er : uV V4 10 1 r = V4 r := uV_n r10
      have e10 : uV V4 10 1 10 = 1 := uV_s
      refine wa_iload q_X7_rounded_76 rfl ?_
      refine wn_if_ne q_X7_rounded_78 (by omega) (fun hx0 => ?_) (fun hx0 => ?_)
      · have m0 : m = 0 := by omega
        exact last σ4 C4 Z4 G4 V4 h4 (by rw [y1, dval, if_neg (fun z => z.2.2 m0), if_neg (fun z => z.2.2 m0)]) y2 y3 (Or.inl (by omega))
      · have m0 : m ≠ 0 := by omega
        have hne := hab m0
        refine wa_iload q_X7_rounded_81 rfl ?_
        cases up
        · refine wn_if_eq q_X7_rounded_83 (by decide) (fun _ => ?_) (fun z => absurd z (by decide))
          rcases Int.lt_or_le (V a * V b) 0 with c1 | c1
          · obtain ⟨V5, v1, v2, v3⟩ := add1 (-1) (Or.inr rfl)
            refine wa_iload q_X7_rounded_107 rfl ?_
            refine wn_if_ne q_X7_rounded_109 (by omega) (fun z => by omega) (fun _ => ?_)
            refine wa_iload q_X7_rounded_112 rfl ?_
            refine wn_if_ne q_X7_rounded_114 (by decide) (fun z => absurd z (by decide)) (fun _ => ?_)
            refine wa_iload q_X7_rounded_117 rfl ?_
            refine wa_if_ge q_X7_rounded_119 (fun z => by have := sg_ge.mp z; omega) (fun _ => ?_)
            refine wa_aload_n q_X7_rounded_122 rfl ?_
            refine wa_bipush q_X7_rounded_123 (v := nI 10) (by decide) ?_
            refine wa_lconst q_X7_rounded_125 (v := lZ 1) (by decide) ?_
            refine wa_callV q_X7_rounded_126 g_X7_rounded_126 w_X7_setTo (by assumption) rfl (av := [_, _]) rfl rfl (lk rfl) (Calls.mono (R_set h4 (r := 10) (by decide) (by decide) (by decide)) ?_)
            rintro _ σ5 ⟨rfl, C5, Z5, G5, h5, s5⟩
            obtain ⟨p0, p1, p2, p3, -⟩ := id h5.1
            refine wa_aload_n q_X7_rounded_129 rfl ?_
            refine wa_iload_n q_X7_rounded_130 rfl ?_
            refine wa_iload_n q_X7_rounded_131 rfl ?_
            refine wa_bipush q_X7_rounded_132 (v := nI 10) (by decide) ?_
            refine wa_iconst q_X7_rounded_134 (v := sgI (-1)) (by decide) ?_
            refine wa_callV q_X7_rounded_135 g_X7_rounded_135 w_X7_addTo (by assumption) rfl (av := [_, _, _, _]) rfl rfl (lk rfl) (Calls.mono (R_addT h5 hr hr (b := 10) (by decide) (Or.inr rfl) (by rw [er, y1]; exact hwb) (by rw [e10]; exact e1B)) ?_)
            rintro _ σ6 ⟨rfl, C6, Z6, G6, h6, s6⟩
            rw [er, e10, ← v1] at h6
            refine wa_vret q_X7_rounded_138 rfl ?_
            exact ⟨rfl, C6, Z6, G6, V5, h6, by rw [v2, dval, if_neg (fun z => by cases z.1), if_pos ⟨rfl, c1, m0⟩]; omega, v3, y3.tr (s5.tr s6)⟩
          · exact wa_lv (last σ4 C4 Z4 G4 V4 h4 (by rw [y1, dval, if_neg (fun z => by cases z.1), if_neg (fun z => by omega)]) y2 y3 (Or.inr (Or.inr c1))) rfl
        · refine wn_if_eq q_X7_rounded_83 (by decide) (fun z => absurd z (by decide)) (fun _ => ?_)
          refine wa_iload q_X7_rounded_86 rfl ?_
          refine wa_if_le q_X7_rounded_88 (fun z => ?_) (fun z => ?_)
          · have := sg_le.mp z
            exact wa_lv (last σ4 C4 Z4 G4 V4 h4 (by rw [y1, dval, if_neg (fun z => by omega), if_neg (fun z => by cases z.1)]) y2 y3 (Or.inr (Or.inl rfl))) rfl
          · have c1 : 0 < V a * V b := Int.not_le.mp (fun y => z (sg_le.mpr y))
            obtain ⟨V5, v1, v2, v3⟩ := add1 1 (Or.inl rfl)
            refine wa_aload_n q_X7_rounded_91 rfl ?_
            refine wa_bipush q_X7_rounded_92 (v := nI 10) (by decide) ?_
            refine wa_lconst q_X7_rounded_94 (v := lZ 1) (by decide) ?_
            refine wa_callV q_X7_rounded_95 g_X7_rounded_95 w_X7_setTo (by assumption) rfl (av := [_, _]) rfl rfl (lk rfl) (Calls.mono (R_set h4 (r := 10) (by decide) (by decide) (by decide)) ?_)
            rintro _ σ5 ⟨rfl, C5, Z5, G5, h5, s5⟩
            obtain ⟨p0, p1, p2, p3, -⟩ := id h5.1
            refine wa_aload_n q_X7_rounded_98 rfl ?_
            refine wa_iload_n q_X7_rounded_99 rfl ?_
            refine wa_iload_n q_X7_rounded_100 rfl ?_
            refine wa_bipush q_X7_rounded_101 (v := nI 10) (by decide) ?_
            refine wa_iconst q_X7_rounded_103 (v := sgI 1) (by decide) ?_
            refine wa_callV q_X7_rounded_104 g_X7_rounded_104 w_X7_addTo (by assumption) rfl (av := [_, _, _, _]) rfl rfl (lk rfl) (Calls.mono (R_addT h5 hr hr (b := 10) (by decide) (Or.inl rfl) (by rw [er, y1]; exact hwb) (by rw [e10]; exact e1B)) ?_)
            rintro _ σ6 ⟨rfl, C6, Z6, G6, h6, s6⟩
            rw [er, e10, ← v1] at h6
            exact wa_lv (last σ6 C6 Z6 G6 V5 h6 (by rw [v2, dval, if_pos ⟨rfl, by omega, m0⟩]) v3 (y3.tr (s5.tr s6)) (Or.inr (Or.inl rfl))) rfl
    -- the sign is set
    have sets : ∀ sg : Int32, sg = sgI w → WA X M_X7_rounded σ 75 [(6, .int (nI x)), (5, .int (sgI (V a * V b))), (0, .ref (M 0)), (1, .int (nI r)), (2, .int (nI a)), (3, .int (nI b)), (4, .int (nI (if up then 1 else 0)))] [.int sg, .int (nI r), .ref (M 3)] σ3 (fun res τ => res = none ∧ ∃ C' Z' G' V', rV X τ M O C' Z' G' V' ∧ V' r = (if up then qup (V a) (V b) else qdn (V a) (V b)) ∧ (∀ s, s ≠ r → s ≠ 9 → s ≠ 10 → V' s = V s) ∧ mSt M σ τ) := by
      intro sg hsg
      refine wn_gast q_X7_rounded_75 (by assumption) (by omega) (fun σ_p1 p1 f_p1 e1_p1 e2_p1 => ?_)
      obtain ⟨w1, t1⟩ := h3.1.sign p1 f_p1 e1_p1 e2_p1
      have hV4 := h3.up (v := w) w1 rO.sign ⟨by rw [upG_s]; exact hsg, by rw [z2, q1, hw]; split <;> omega, z3, z4⟩
      exact wa_lv (fin σ_p1 C3 Z3 _ _ hV4 uV_s (fun s x1 x2 x3 => by rw [uV_n x1]; exact q4 s x1 x2 x3) (hsA.tr t1)) rfl
    refine wa_istore q_X7_rounded_53 (by decide) ?_
    refine wa_aload_n q_X7_rounded_55 rfl ?_
    refine wa_getf q_X7_rounded_56 f_RX7_17 (by assumption) rfl ?_
    refine wa_iload_n q_X7_rounded_59 rfl ?_
    refine wa_aload_n q_X7_rounded_60 rfl ?_
    refine wa_getf q_X7_rounded_61 f_RX7_17 (by assumption) rfl ?_
    refine wa_iload_n q_X7_rounded_64 rfl ?_
    refine wn_gald q_X7_rounded_65 (by assumption) (by omega) ?_
    rw [kr, q1]
    refine wa_if_ne q_X7_rounded_66 (fun hz => ?_) (fun hz => ?_)
    · have hq0 : q ≠ 0 := fun y => hz (sgN.mpr y)
      refine wa_iload q_X7_rounded_73 rfl ?_
      refine wa_lv (sets _ ?_) rfl
      rw [hw]
      rcases sgI_c (V a * V b) with ⟨p, e⟩ | ⟨p, e⟩ | ⟨p, e⟩
      · rw [e, if_pos p]; unfold sgI; rw [if_pos (by omega)]
      · exact absurd (hab0 p) hq0
      · rw [e, if_neg (by omega)]; unfold sgI; rw [if_neg (by omega), if_neg (by omega)]
    · have hq0 : q = 0 := sgN.mp hz
      refine wa_iconst q_X7_rounded_69 (v := nI 0) (by decide) ?_
      refine wa_goto q_X7_rounded_70 ?_
      refine wa_lv (sets 0 ?_) rfl
      rw [hw, hq0]; split <;> rfl
  refine wa_aload_n q_X7_rounded_38 rfl ?_
  refine wa_getf q_X7_rounded_39 f_RX7_17 (by assumption) rfl ?_
  refine wa_bipush q_X7_rounded_42 (v := nI 9) (by decide) ?_
  refine wn_gald q_X7_rounded_44 (by assumption) (by omega) ?_
  rw [k9, q2]
  refine wa_if_ne q_X7_rounded_45 (fun hx => ?_) (fun hx => ?_)
  · have : m ≠ 0 := fun z => hx (sgI_0.mpr (by rw [z]; split <;> rfl))
    refine wa_iconst q_X7_rounded_52 (v := nI 0) (by decide) ?_
    exact wa_lv (main 0 (Or.inr ⟨rfl, this⟩)) rfl
  · have : m = 0 := by have := sgI_0.mp hx; split at this <;> omega
    refine wa_iconst q_X7_rounded_48 (v := nI 1) (by decide) ?_
    refine wa_goto q_X7_rounded_49 ?_
    exact wa_lv (main 1 (Or.inl ⟨rfl, this⟩)) rfl
end ref13
