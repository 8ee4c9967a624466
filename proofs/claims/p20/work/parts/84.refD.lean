/-! The reference: rootOf, isRoot -/
section ref14
variable {X : en_X} {σ : en_S} {M : Nat → Nat} {O : Int32 × Int32 × Int32 × Int32 × Int32} {C Z : Nat → Nat} {G : Nat → Int32} {V : Nat → Int}
theorem nw_pos {N r : Nat} (h : isq N r) (hN : 0 < N) : 0 < r := by
  rcases Nat.eq_zero_or_pos r with q | q
  · have := h.2; rw [q] at this; omega
  · exact q
set_option maxHeartbeats 2000000 in
theorem R_root_loop {ρ σ0 : en_S} {r N k : Nat} {V0 : Nat → Int} {Q : Option Value → en_S → Prop} (hr : r < 140) (hr5 : 5 ≤ r) (hN : 0 < N) (hNb : N < BB ^ 290) (hk : isq N k)
    (kq : ∀ (τ : en_S) (C1 Z1 : Nat → Nat) (G1 : Nat → Int32) (V1 : Nat → Int), rV X τ M O C1 Z1 G1 V1 → V1 r = (k : Int) → (∀ s, s ≠ r → (s = 0 ∨ 5 ≤ s) → V1 s = V0 s) → mSt M σ0 τ → Q none τ) :
    ∀ (R : Nat) (σ : en_S) (C Z : Nat → Nat) (G : Nat → Int32) (V : Nat → Int), rV X σ M O C Z G V → V 1 = (R : Int) → V 0 = (N : Int) → k ≤ R → R < BB ^ 290 → (∀ s, s ≠ r → (s = 0 ∨ 5 ≤ s) → V s = V0 s) → mSt M σ0 σ →
      WA X M_X7_rootOf ρ 32 [(3, .int (nI 1)), (0, .ref (M 0)), (1, .int (nI r)), (2, .int (nI 0))] [] σ Q := by
  have h299 : BB ^ 290 ≤ BB ^ 299 := pw_mono (by decide)
  have h300 : BB ^ 290 + BB ^ 290 < BB ^ 300 := by
    have : BB ^ 291 < BB ^ 300 := (Nat.pow_lt_pow_iff_right (by decide)).mpr (by decide)
    have e : BB ^ 291 = BB ^ 290 * BB := Nat.pow_succ BB 290
    have : BB ^ 290 * 2 ≤ BB ^ 290 * BB := Nat.mul_le_mul_left _ (by decide)
    omega
  have hk0 := nw_pos hk hN
  intro R
  induction R using Nat.strongRecOn with
  | ind R ih =>
    intro σ C Z G V h v1 v0 hkR hRb hfr hS
    obtain ⟨a0, a1, a2, a3, n1, n2, n3⟩ := id h.1
    refine wa_iload_n q_X7_rootOf_32 rfl ?_
    refine wn_if_eq q_X7_rootOf_33 (by decide) (fun z => absurd z (by decide)) (fun _ => ?_)
    refine wa_aload_n q_X7_rootOf_36 rfl ?_
    refine wa_iload_n q_X7_rootOf_37 rfl ?_
    refine wa_iconst q_X7_rootOf_38 (v := nI 2) (by decide) ?_
    refine wa_callV q_X7_rootOf_39 g_X7_rootOf_39 w_X7_copyTo (by assumption) rfl (av := [_, _]) rfl rfl (lk rfl) (Calls.mono (R_copy h (a := 0) (b := 2) (by decide) (by decide)) ?_)
    rintro _ σ1 ⟨rfl, C1, Z1, G1, h1, s1⟩
    rw [v0] at h1
    obtain ⟨b0, b1, b2, b3, -⟩ := id h1.1
    have e1 : uV V 2 (N : Int) 1 = (R : Int) := by rw [uV_n (by decide)]; exact v1
    refine wa_aload_n q_X7_rootOf_42 rfl ?_
    refine wa_iconst q_X7_rootOf_43 (v := nI 1) (by decide) ?_
    refine wa_iconst q_X7_rootOf_44 (v := nI 3) (by decide) ?_
    refine wa_callV q_X7_rootOf_45 g_X7_rootOf_45 w_X7_copyTo (by assumption) rfl (av := [_, _]) rfl rfl (lk rfl) (Calls.mono (R_copy h1 (a := 1) (b := 3) (by decide) (by decide)) ?_)
    rintro _ σ2 ⟨rfl, C2, Z2, G2, h2, s2⟩
    rw [e1] at h2
    obtain ⟨c0, c1, c2, c3, -⟩ := id h2.1
    have e22 : uV (uV V 2 (N : Int)) 3 (R : Int) 2 = (N : Int) := by rw [uV_n (by decide), uV_s]
    have e23 : uV (uV V 2 (N : Int)) 3 (R : Int) 3 = (R : Int) := uV_s
    refine wa_aload_n q_X7_rootOf_48 rfl ?_
    refine wa_iconst q_X7_rootOf_49 (v := nI 4) (by decide) ?_
    refine wa_iconst q_X7_rootOf_50 (v := nI 2) (by decide) ?_
    refine wa_iconst q_X7_rootOf_51 (v := nI 3) (by decide) ?_
    refine wa_callV q_X7_rootOf_52 g_X7_rootOf_52 w_X7_divide (by assumption) rfl (av := [_, _, _]) rfl rfl (lk rfl) (Calls.mono (R_divide h2 (q := 4) (a := 2) (b := 3) (by decide) (by decide) (by decide) (by decide) (by decide) (by decide) (by rw [e23]; omega) (by rw [e22, Int.natAbs_natCast]; omega) (by rw [e23, Int.natAbs_natCast]; omega)) ?_)
    rintro _ σ3 ⟨rfl, C3, Z3, G3, V3, h3, q1, q2, q3, s3⟩
    rw [e22, e23, Int.natAbs_natCast, Int.natAbs_natCast] at q1
    have v31 : V3 1 = (R : Int) := by rw [q3 1 (by decide) (by decide), uV_n (by decide), uV_n (by decide)]; exact v1
    have hdl : N / R ≤ N := Nat.div_le_self _ _
    obtain ⟨d0, d1, d2, d3, -⟩ := id h3.1
    refine wa_aload_n q_X7_rootOf_55 rfl ?_
    refine wa_iconst q_X7_rootOf_56 (v := nI 4) (by decide) ?_
    refine wa_iconst q_X7_rootOf_57 (v := nI 4) (by decide) ?_
    refine wa_iconst q_X7_rootOf_58 (v := nI 1) (by decide) ?_
    refine wa_iconst q_X7_rootOf_59 (v := sgI 1) (by decide) ?_
    refine wa_callV q_X7_rootOf_60 g_X7_rootOf_60 w_X7_addTo (by assumption) rfl (av := [_, _, _, _]) rfl rfl (lk rfl) (Calls.mono (R_addT h3 (r := 4) (a := 4) (b := 1) (by decide) (by decide) (by decide) (Or.inl rfl) (by rw [q1, Int.natAbs_natCast]; omega) (by rw [v31, Int.natAbs_natCast]; omega)) ?_)
    rintro _ σ4 ⟨rfl, C4, Z4, G4, h4, s4⟩
    rw [q1, v31, Int.one_mul, show ((N / R : Nat) : Int) + (R : Int) = ((N / R + R : Nat) : Int) by omega] at h4
    obtain ⟨f0, f1, f2, f3, -⟩ := id h4.1
    refine wa_aload_n q_X7_rootOf_63 rfl ?_
    refine wa_iconst q_X7_rootOf_64 (v := nI 4) (by decide) ?_
    refine wa_ldc2 q_X7_rootOf_65 (v := lN 2) k_RX7_146 ?_
    refine wa_callV q_X7_rootOf_68 g_X7_rootOf_68 w_X7_bySmall (by assumption) rfl (av := [_, _]) rfl rfl (lk rfl) (Calls.mono (R_divS h4 (r := 4) (f := 2) (by decide) (by decide) (by decide)) ?_)
    rintro _ σ5 ⟨rfl, C5, Z5, G5, h5, s5⟩
    rw [uV_s, ← Int.ofNat_tdiv] at h5
    obtain ⟨E, hE⟩ : ∃ E, E = (N / R + R) / 2 := ⟨_, rfl⟩
    rw [← hE] at h5
    obtain ⟨V5, hV5⟩ : ∃ V5, V5 = uV (uV V3 4 ((N / R + R : Nat) : Int)) 4 (E : Int) := ⟨_, rfl⟩
    rw [← hV5] at h5
    have w4 : V5 4 = (E : Int) := by rw [hV5, uV_s]
    have w1 : V5 1 = (R : Int) := by rw [hV5, uV_n (by decide), uV_n (by decide)]; exact v31
    have wo : ∀ s, (s = 0 ∨ 5 ≤ s) → V5 s = V s := fun s hs => by rw [hV5, uV_n (by omega), uV_n (by omega), q3 s (by omega) (by omega), uV_n (by omega), uV_n (by omega)]
    clear hV5
    have hge : k ≤ E := by rw [hE]; exact nw_ge hk (by omega)
    have sT := s1.tr (s2.tr (s3.tr (s4.tr s5)))
    obtain ⟨g0, g1, g2, g3, -⟩ := id h5.1
    refine wa_lstore q_X7_rootOf_71 (by decide) ?_
    refine wa_aload_n q_X7_rootOf_73 rfl ?_
    refine wa_iconst q_X7_rootOf_74 (v := nI 4) (by decide) ?_
    refine wa_iconst q_X7_rootOf_75 (v := nI 1) (by decide) ?_
    refine wa_callV q_X7_rootOf_76 g_X7_rootOf_76 w_X7_compareTo (by assumption) rfl (av := [_, _]) rfl rfl (lk rfl) (Calls.mono (R_cmp h5 (a := 4) (b := 1) (by decide) (by decide)) ?_)
    rintro res τ6 ⟨⟨w, rfl, x1, x2, x3, x4⟩, eτ⟩
    rw [eτ]
    rw [w4, w1] at x3
    have e0 : (0 : Int32) = iZ 0 := by decide
    refine wa_if_ge q_X7_rootOf_79 (fun hc => ?_) (fun hc => ?_)
    · rw [e0] at hc
      have hc' := (iZ_le (by decide) (by decide) x1 x2).mp hc
      have hRk : R = k := by
        rcases Nat.lt_or_ge k R with z | z
        · have := nw_lt hk z
          rw [← hE] at this
          have := x3.mpr (by omega)
          omega
        · omega
      refine wa_iconst q_X7_rootOf_86 (v := nI 0) (by decide) ?_
      refine wa_istore_n q_X7_rootOf_87 (by decide) ?_
      refine wa_iload_n q_X7_rootOf_88 rfl ?_
      refine wn_if_eq q_X7_rootOf_89 (by decide) (fun _ => ?_) (fun z => absurd z (by decide))
      refine wa_goto q_X7_rootOf_98 ?_
      refine wa_iload_n q_X7_rootOf_32 rfl ?_
      refine wn_if_eq q_X7_rootOf_33 (by decide) (fun _ => ?_) (fun z => absurd z (by decide))
      refine wa_aload_n q_X7_rootOf_101 rfl ?_
      refine wa_iconst q_X7_rootOf_102 (v := nI 1) (by decide) ?_
      refine wa_iload_n q_X7_rootOf_103 rfl ?_
      refine wa_callV q_X7_rootOf_104 g_X7_rootOf_104 w_X7_copyTo (by assumption) rfl (av := [_, _]) rfl rfl (lk rfl) (Calls.mono (R_copy h5 (a := 1) (b := r) (by decide) hr) ?_)
      rintro _ σ7 ⟨rfl, C7, Z7, G7, h7, s7⟩
      refine wa_vret q_X7_rootOf_107 rfl ?_
      exact kq σ7 C7 Z7 G7 _ h7 (by rw [uV_s, w1, hRk]) (fun s y1 y2 => by rw [uV_n y1, wo s y2]; exact hfr s y1 y2) (hS.tr (sT.tr s7))
    · rw [e0] at hc
      have hc' : w < 0 := Int.not_le.mp (fun z => hc ((iZ_le (by decide) (by decide) x1 x2).mpr z))
      have hlt : E < R := by have := x3.mp hc'; omega
      refine wa_iconst q_X7_rootOf_82 (v := nI 1) (by decide) ?_
      refine wa_goto q_X7_rootOf_83 ?_
      refine wa_istore_n q_X7_rootOf_87 (by decide) ?_
      refine wa_iload_n q_X7_rootOf_88 rfl ?_
      refine wn_if_eq q_X7_rootOf_89 (by decide) (fun z => absurd z (by decide)) (fun _ => ?_)
      refine wa_aload_n q_X7_rootOf_92 rfl ?_
      refine wa_iconst q_X7_rootOf_93 (v := nI 4) (by decide) ?_
      refine wa_iconst q_X7_rootOf_94 (v := nI 1) (by decide) ?_
      refine wa_callV q_X7_rootOf_95 g_X7_rootOf_95 w_X7_copyTo (by assumption) rfl (av := [_, _]) rfl rfl (lk rfl) (Calls.mono (R_copy h5 (a := 4) (b := 1) (by decide) (by decide)) ?_)
      rintro _ σ7 ⟨rfl, C7, Z7, G7, h7, s7⟩
      rw [w4] at h7
      refine wa_goto q_X7_rootOf_98 ?_
      exact wa_lv (ih E hlt σ7 C7 Z7 G7 _ h7 uV_s (by rw [uV_n (by decide), wo 0 (Or.inl rfl)]; exact v0) hge (by omega) (fun s y1 y2 => by rw [uV_n (by omega), wo s y2]; exact hfr s y1 y2) (hS.tr (sT.tr s7))) rfl
theorem R_root {r N : Nat} (h : rV X σ M O C Z G V) (hr : r < 140) (hr5 : 5 ≤ r) (v0 : V 0 = (N : Int)) (hNb : N < BB ^ 290) :
    Calls X M_X7_rootOf [.ref (M 0), .int (nI r), .int (nI 0)] σ (fun res τ => res = none ∧ ∃ C' Z' G' V' k, rV X τ M O C' Z' G' V' ∧ isq N k ∧ V' r = (k : Int) ∧ (∀ s, s ≠ r → (s = 0 ∨ 5 ≤ s) → V' s = V s) ∧ mSt M σ τ) := by
  obtain ⟨a0, a1, a2, a3, n1, n2, n3⟩ := id h.1
  have g0 := (h.2 0 (by decide)).1
  rw [v0] at g0
  obtain ⟨k, hk⟩ := isq_ex N
  refine Calls.of rfl (lk rfl) ?_
  refine wa_aload_n q_X7_rootOf_0 rfl ?_
  refine wa_getf q_X7_rootOf_1 f_RX7_17 (by assumption) rfl ?_
  refine wa_iload_n q_X7_rootOf_4 rfl ?_
  refine wn_gald q_X7_rootOf_5 (by assumption) (by omega) ?_
  rw [g0]
  refine wa_if_ne q_X7_rootOf_6 (fun hz => ?_) (fun hz => ?_)
  · have hN : 0 < N := Nat.pos_of_ne_zero (fun z => hz (sgN.mpr z))
    refine wa_aload_n q_X7_rootOf_16 rfl ?_
    refine wa_iconst q_X7_rootOf_17 (v := nI 1) (by decide) ?_
    refine wa_aload_n q_X7_rootOf_18 rfl ?_
    refine wa_iload_n q_X7_rootOf_19 rfl ?_
    refine wa_callV q_X7_rootOf_20 g_X7_rootOf_20 w_X7_digitsOf (by assumption) rfl (av := [_]) rfl rfl (lk rfl) (Calls.mono (R_dof h (r := 0) (by decide)) ?_)
    rintro _ τ1 ⟨⟨c, rfl, c1, c2⟩, eτ⟩
    rw [eτ]
    have hcd : isD N c := by
      rcases c2 with ⟨z, _⟩ | ⟨_, z⟩
      · rw [v0] at z; omega
      · rw [v0, Int.natAbs_natCast] at z; exact z
    have hcb : c ≤ 2610 := by
      rcases Nat.lt_or_ge 2610 c with z | z
      · have x1 := hcd.2.resolve_left (by omega)
        have x2 : 10 ^ 2610 ≤ 10 ^ (c - 1) := Nat.pow_le_pow_right (by decide) (by omega)
        have x3 : BB ^ 290 = 10 ^ 2610 := pw_ten 290
        omega
      · exact z
    refine wa_iconst q_X7_rootOf_23 (v := nI 1) (by decide) ?_
    refine wn_iadd q_X7_rootOf_24 ?_
    refine wa_iconst q_X7_rootOf_25 (v := nI 2) (by decide) ?_
    refine wn_idiv q_X7_rootOf_26 (by omega) (by omega) (by omega) ?_
    refine wa_callV q_X7_rootOf_27 g_X7_rootOf_27 w_X7_powerOfTen (by assumption) rfl (av := [_, _]) rfl rfl (lk rfl) (Calls.mono (R_pten h (r := 1) (p := (c + 1) / 2) (by decide) (by omega)) ?_)
    rintro _ σ2 ⟨rfl, C2, Z2, G2, h2, s2⟩
    refine wa_iconst q_X7_rootOf_30 (v := nI 1) (by decide) ?_
    refine wa_istore_n q_X7_rootOf_31 (by decide) ?_
    have hx0 : k ≤ 10 ^ ((c + 1) / 2) := by
      rcases Nat.lt_or_ge (10 ^ ((c + 1) / 2)) k with z | z
      · have x1 : 10 ^ ((c + 1) / 2) * 10 ^ ((c + 1) / 2) ≤ k * k := Nat.mul_le_mul (by omega) (by omega)
        rw [← Nat.pow_add] at x1
        have x2 : 10 ^ c ≤ 10 ^ ((c + 1) / 2 + (c + 1) / 2) := Nat.pow_le_pow_right (by decide) (by omega)
        have x3 := hk.1
        have x4 := hcd.1
        omega
      · exact z
    have hxb : 10 ^ ((c + 1) / 2) < BB ^ 290 := by
      rw [pw_ten]; exact (Nat.pow_lt_pow_iff_right (by decide)).mpr (by omega)
    exact wa_lv (R_root_loop (σ0 := σ) (V0 := V) (k := k) hr hr5 hN hNb hk (fun τ C1 Z1 G1 V1 y1 y2 y3 y4 => ⟨rfl, C1, Z1, G1, V1, k, y1, hk, y2, y3, y4⟩) (10 ^ ((c + 1) / 2)) σ2 C2 Z2 G2 _ h2 (by rw [uV_s]; exact (Int.natCast_pow 10 _).symm) (by rw [uV_n (by decide)]; exact v0) hx0 hxb (fun s _ y2 => uV_n (by omega)) s2) rfl
  · have hN : N = 0 := sgN.mp hz
    have hk0 : k = 0 := by
      rcases Nat.eq_zero_or_pos k with z | z
      · exact z
      · have := hk.1
        have : 1 * 1 ≤ k * k := Nat.mul_le_mul z z
        omega
    refine wa_aload_n q_X7_rootOf_9 rfl ?_
    refine wa_iload_n q_X7_rootOf_10 rfl ?_
    refine wa_lconst q_X7_rootOf_11 (v := lZ 0) (by decide) ?_
    refine wa_callV q_X7_rootOf_12 g_X7_rootOf_12 w_X7_setTo (by assumption) rfl (av := [_, _]) rfl rfl (lk rfl) (Calls.mono (R_set h hr (by decide) (by decide)) ?_)
    rintro _ σ2 ⟨rfl, C2, Z2, G2, h2, s2⟩
    refine wa_vret q_X7_rootOf_15 rfl ?_
    exact ⟨rfl, C2, Z2, G2, _, k, h2, hk, by rw [uV_s, hk0]; rfl, fun s y1 _ => uV_n y1, s2⟩
end ref14
