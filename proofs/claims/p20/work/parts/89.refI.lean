/-! The reference: sumOfMembers -/
def mmGo (x : Nat) (alt : Bool) : Nat → Nat → Nat → Int → Int × Nat
  | 0, i, _, s => (s, i)
  | n + 1, i, t, s => if t = 0 then (s, i) else mmGo x alt n (i + 1) (t / x / x) (s + (if alt = true ∧ i % 2 = 1 then -1 else 1) * ((t / (2 * i + 1) : Nat) : Int))
theorem mmGo_0 {x : Nat} {alt : Bool} {n i t : Nat} {s : Int} (h : t = 0) : mmGo x alt n i t s = (s, i) := by
  cases n
  · rfl
  · exact if_pos h
theorem mmGo_s {x : Nat} {alt : Bool} {n i t : Nat} {s : Int} (h : ¬ t = 0) : mmGo x alt (n + 1) i t s = mmGo x alt n (i + 1) (t / x / x) (s + (if alt = true ∧ i % 2 = 1 then -1 else 1) * ((t / (2 * i + 1) : Nat) : Int)) := if_neg h
theorem l_and {i : Nat} : lN i &&& lN 1 = lN (i % 2) := by
  rw [← Nat.and_one_is_mod]
  apply Int64.toBitVec_inj.mp
  show BitVec.ofNat 64 i &&& BitVec.ofNat 64 1 = BitVec.ofNat 64 (i &&& 1)
  exact BitVec.ofNat_and.symm
section ref18
variable {X : en_X} {σ : en_S} {M : Nat → Nat} {O : Int32 × Int32 × Int32 × Int32 × Int32} {C Z : Nat → Nat} {G : Nat → Int32} {V : Nat → Int}
theorem isR.z {r : Nat} {v : Int} (h : isR C Z G r v) : Z r = 0 ↔ v = 0 := by
  obtain ⟨-, b, c, -⟩ := h
  rw [← nrm_zero c, b]; omega
theorem mem_end {ρ : en_S} {i x u : Nat} {y4 : Int64} {Q : Option Value → en_S → Prop} (h : rV X σ M O C Z G V) (v0 : V 0 = 0) (k : Q (some (.long (lN (4 * i + 8)))) σ) :
    WA X M_X7_sumOfMembers ρ 32 [(6, .long (lN i)), (4, .long y4), (2, .long (lN x)), (0, .ref (M 0)), (1, .int (nI u))] [] σ Q := by
  obtain ⟨a0, a1, a2, a3, n1, n2, n3⟩ := id h.1
  have hz : Z 0 = 0 := (h.2 0 (by decide)).z.mpr v0
  refine wa_aload_n q_X7_sumOfMembers_32 rfl ?_
  refine wa_getf q_X7_sumOfMembers_33 f_RX7_14 (by assumption) rfl ?_
  refine wa_iconst q_X7_sumOfMembers_36 (v := nI 0) (by decide) ?_
  refine wn_iald q_X7_sumOfMembers_37 (by assumption) (by omega) (by omega) ?_
  refine wn_if_le q_X7_sumOfMembers_38 (by omega) (fun _ => ?_) (fun z => absurd hz (by omega))
  refine wa_ldc2 q_X7_sumOfMembers_120 k_RX7_155 ?_
  refine wa_lload q_X7_sumOfMembers_123 rfl ?_
  refine wn_lmul q_X7_sumOfMembers_125 ?_
  refine wa_ldc2 q_X7_sumOfMembers_126 k_RX7_157 ?_
  refine wn_ladd q_X7_sumOfMembers_129 ?_
  refine wa_lret q_X7_sumOfMembers_130 rfl ?_
  exact k
theorem mem_loop {ρ σ0 : en_S} {x u T : Nat} {alt : Bool} {V0 : Nat → Int} {K : Nat → Int32} {Q : Option Value → en_S → Prop} (hx : 2 ≤ x) (hx2 : x ≤ 100000) (hu : u < 60) (hK : alt = true ↔ K u = nI 2) (hT : T < BB ^ 200) (m1 : M 4 ≠ M 1) (m2 : M 4 ≠ M 2) (m3 : M 4 ≠ M 3) (hk0 : look σ0 (M 4) = some (gA X 60 K)) :
    ∀ (n i t : Nat) (s : Int) (y4 : Int64) (σ : en_S) (C Z : Nat → Nat) (G : Nat → Int32) (V : Nat → Int), n + i ≤ 100000 → t < 4 ^ n → t ≤ T → s.natAbs ≤ i * T → rV X σ M O C Z G V → V 0 = (t : Int) → V 6 = s → (∀ j, 7 ≤ j → V j = V0 j) → mSt M σ0 σ →
      (∀ (τ : en_S) (C1 Z1 : Nat → Nat) (G1 : Nat → Int32) (V1 : Nat → Int), rV X τ M O C1 Z1 G1 V1 → V1 6 = (mmGo x alt n i t s).1 → (mmGo x alt n i t s).1.natAbs ≤ 100000 * T → (mmGo x alt n i t s).2 ≤ 100000 → (∀ j, 7 ≤ j → V1 j = V0 j) → mSt M σ0 τ → Q (some (.long (lN (4 * (mmGo x alt n i t s).2 + 8)))) τ) →
      WA X M_X7_sumOfMembers ρ 32 [(6, .long (lN i)), (4, .long y4), (2, .long (lN x)), (0, .ref (M 0)), (1, .int (nI u))] [] σ Q := by
  have hB : BB = 1000000000 := rfl
  have fin : ∀ (n i t : Nat) (s : Int) (y4 : Int64) (σ : en_S) (C Z : Nat → Nat) (G : Nat → Int32) (V : Nat → Int), t = 0 → n + i ≤ 100000 → s.natAbs ≤ i * T → rV X σ M O C Z G V → V 0 = (t : Int) → V 6 = s → (∀ j, 7 ≤ j → V j = V0 j) → mSt M σ0 σ →
      (∀ (τ : en_S) (C1 Z1 : Nat → Nat) (G1 : Nat → Int32) (V1 : Nat → Int), rV X τ M O C1 Z1 G1 V1 → V1 6 = (mmGo x alt n i t s).1 → (mmGo x alt n i t s).1.natAbs ≤ 100000 * T → (mmGo x alt n i t s).2 ≤ 100000 → (∀ j, 7 ≤ j → V1 j = V0 j) → mSt M σ0 τ → Q (some (.long (lN (4 * (mmGo x alt n i t s).2 + 8)))) τ) →
      WA X M_X7_sumOfMembers ρ 32 [(6, .long (lN i)), (4, .long y4), (2, .long (lN x)), (0, .ref (M 0)), (1, .int (nI u))] [] σ Q := by
    intro n i t s y4 σ C Z G V t0 hn hs h v0 v6 vo hS kq
    rw [mmGo_0 t0] at kq
    refine mem_end h (by rw [v0, t0]; rfl) (kq σ C Z G V h v6 (Nat.le_trans hs (Nat.mul_le_mul_right T (by omega))) (by omega) vo hS)
  intro n
  induction n with
  | zero =>
    intro i t s y4 σ C Z G V hn ht hT2 hs h v0 v6 vo hS kq
    rw [Nat.pow_zero] at ht
    exact fin 0 i t s y4 σ C Z G V (by omega) hn hs h v0 v6 vo hS kq
  | succ n ih =>
    intro i t s y4 σ C Z G V hn ht hT2 hs h v0 v6 vo hS kq
    by_cases t0 : t = 0
    · exact fin (n + 1) i t s y4 σ C Z G V t0 hn hs h v0 v6 vo hS kq
    rw [mmGo_s t0] at kq
    obtain ⟨a0, a1, a2, a3, n1, n2, n3⟩ := id h.1
    have hz : ¬ Z 0 = 0 := fun z => t0 (by have := (h.2 0 (by decide)).z.mp z; omega)
    have hz9 := (h.2 0 (by decide)).2.2.2
    refine wa_aload_n q_X7_sumOfMembers_32 rfl ?_
    refine wa_getf q_X7_sumOfMembers_33 f_RX7_14 (by assumption) rfl ?_
    refine wa_iconst q_X7_sumOfMembers_36 (v := nI 0) (by decide) ?_
    refine wn_iald q_X7_sumOfMembers_37 (by assumption) (by omega) (by omega) ?_
    refine wn_if_le q_X7_sumOfMembers_38 (by omega) (fun z => absurd z (by omega)) (fun _ => ?_)
    refine wa_aload_n q_X7_sumOfMembers_41 rfl ?_
    refine wa_iconst q_X7_sumOfMembers_42 (v := nI 0) (by decide) ?_
    refine wa_iconst q_X7_sumOfMembers_43 (v := nI 1) (by decide) ?_
    refine wa_callV q_X7_sumOfMembers_44 g_X7_sumOfMembers_44 w_X7_copyTo (by assumption) rfl (av := [_, _]) rfl rfl (lk rfl) (Calls.mono (R_copy h (a := 0) (b := 1) (by decide) (by decide)) ?_)
    rintro _ σ1 ⟨rfl, C1, Z1, G1, h1, s1⟩
    rw [v0] at h1
    obtain ⟨b0, b1, b2, b3, -⟩ := id h1.1
    refine wa_aload_n q_X7_sumOfMembers_47 rfl ?_
    refine wa_iconst q_X7_sumOfMembers_48 (v := nI 1) (by decide) ?_
    refine wa_ldc2 q_X7_sumOfMembers_49 k_RX7_146 ?_
    refine wa_lload q_X7_sumOfMembers_52 rfl ?_
    refine wn_lmul q_X7_sumOfMembers_54 ?_
    refine wa_lconst q_X7_sumOfMembers_55 (v := lN 1) (by decide) ?_
    refine wn_ladd q_X7_sumOfMembers_56 ?_
    refine wa_callV q_X7_sumOfMembers_57 g_X7_sumOfMembers_57 w_X7_bySmall (by assumption) rfl (av := [_, _]) rfl rfl (lk rfl) (Calls.mono (R_divS h1 (r := 1) (f := 2 * i + 1) (by decide) (by omega) (by omega)) ?_)
    rintro _ σ2 ⟨rfl, C2, Z2, G2, h2, s2⟩
    rw [uV_s, ← Int.ofNat_tdiv] at h2
    have hS2 := hS.tr (s1.tr s2)
    have k2 : look σ2 (M 4) = some (gA X 60 K) := (hS2.1 _ m1 m2 m3).trans hk0
    obtain ⟨c0, c1, c2, c3, -⟩ := id h2.1
    have q6 : uV (uV V 1 (t : Int)) 1 ((t / (2 * i + 1) : Nat) : Int) 6 = s := by rw [uV_n (by decide), uV_n (by decide)]; exact v6
    have hqt : t / (2 * i + 1) ≤ T := Nat.le_trans (Nat.div_le_self _ _) hT2
    have hiT : (i + 1) * T ≤ 100000 * T := Nat.mul_le_mul_right T (by omega)
    have hi1 : (i + 1) * T = i * T + T := Nat.succ_mul i T
    have h300 : 100000 * T < BB ^ 300 := by
      have x1 : 100000 * T < BB * BB ^ 200 := Nat.mul_lt_mul_of_le_of_lt (by decide) hT (by decide)
      rw [show BB * BB ^ 200 = BB ^ 201 from (Nat.pow_succ' ..).symm] at x1
      exact Nat.lt_of_lt_of_le x1 (pw_mono (by decide))
    have go : ∀ (sg : Int) (y' : Int64), sg = (if alt = true ∧ i % 2 = 1 then -1 else 1) → WA X M_X7_sumOfMembers ρ 92 [(6, .long (lN i)), (4, .long y'), (2, .long (lN x)), (0, .ref (M 0)), (1, .int (nI u))] [.int (sgI sg), .int (nI 1), .int (nI 6), .int (nI 6), .ref (M 0)] σ2 Q := by
      intro sg y' hsg
      have hsg2 : sg = 1 ∨ sg = -1 := by rw [hsg]; split <;> simp
      refine wa_callV q_X7_sumOfMembers_92 g_X7_sumOfMembers_92 w_X7_addTo (by assumption) rfl (av := [_, _, _, _]) rfl rfl (lk rfl) (Calls.mono (R_addT h2 (r := 6) (a := 6) (b := 1) (s := sg) (by decide) (by decide) (by decide) hsg2 (by rw [q6]; omega) (by rw [uV_s, Int.natAbs_natCast]; omega)) ?_)
      rintro _ σ3 ⟨rfl, C3, Z3, G3, h3, s3⟩
      rw [q6, uV_s] at h3
      obtain ⟨d0, d1, d2, d3, -⟩ := id h3.1
      refine wa_aload_n q_X7_sumOfMembers_95 rfl ?_
      refine wa_iconst q_X7_sumOfMembers_96 (v := nI 0) (by decide) ?_
      refine wa_lload_n q_X7_sumOfMembers_97 rfl ?_
      refine wa_callV q_X7_sumOfMembers_98 g_X7_sumOfMembers_98 w_X7_bySmall (by assumption) rfl (av := [_, _]) rfl rfl (lk rfl) (Calls.mono (R_divS h3 (r := 0) (f := x) (by decide) (by omega) (by omega)) ?_)
      rintro _ σ4 ⟨rfl, C4, Z4, G4, h4, s4⟩
      rw [uV_n (show (0 : Nat) ≠ 6 by decide), uV_n (show (0 : Nat) ≠ 1 by decide), uV_n (show (0 : Nat) ≠ 1 by decide), v0, ← Int.ofNat_tdiv] at h4
      obtain ⟨i0, i1, i2, i3, -⟩ := id h4.1
      refine wa_lstore q_X7_sumOfMembers_101 (by decide) ?_
      refine wa_aload_n q_X7_sumOfMembers_103 rfl ?_
      refine wa_iconst q_X7_sumOfMembers_104 (v := nI 0) (by decide) ?_
      refine wa_lload_n q_X7_sumOfMembers_105 rfl ?_
      refine wa_callV q_X7_sumOfMembers_106 g_X7_sumOfMembers_106 w_X7_bySmall (by assumption) rfl (av := [_, _]) rfl rfl (lk rfl) (Calls.mono (R_divS h4 (r := 0) (f := x) (by decide) (by omega) (by omega)) ?_)
      rintro _ σ5 ⟨rfl, C5, Z5, G5, h5, s5⟩
      rw [uV_s, ← Int.ofNat_tdiv] at h5
      refine wa_lstore q_X7_sumOfMembers_109 (by decide) ?_
      refine wa_lload q_X7_sumOfMembers_111 rfl ?_
      refine wa_lconst q_X7_sumOfMembers_113 (v := lN 1) (by decide) ?_
      refine wn_ladd q_X7_sumOfMembers_114 ?_
      refine wa_lstore q_X7_sumOfMembers_115 (by decide) ?_
      refine wa_goto q_X7_sumOfMembers_117 ?_
      have hb : (s + sg * ((t / (2 * i + 1) : Nat) : Int)).natAbs ≤ (i + 1) * T := by
        rw [hi1]
        generalize t / (2 * i + 1) = qq at hqt ⊢
        generalize i * T = w at hs ⊢
        rcases hsg2 with e | e <;> subst e <;> omega
      have hdx : t / x / x < 4 ^ n := by
        rw [Nat.div_div_eq_div_mul]
        have x4 : 4 ≤ x * x := Nat.mul_le_mul hx hx
        refine (Nat.div_lt_iff_lt_mul (by omega)).mpr ?_
        have e4 : (4 : Nat) ^ (n + 1) = 4 ^ n * 4 := Nat.pow_succ ..
        exact Nat.lt_of_lt_of_le (by omega) (Nat.mul_le_mul_left (4 ^ n) x4)
      have hdT : t / x / x ≤ T := Nat.le_trans (Nat.div_le_self _ _) (Nat.le_trans (Nat.div_le_self _ _) hT2)
      rw [← hsg] at kq
      refine wa_lv (ih (i + 1) (t / x / x) _ (lN _) σ5 C5 Z5 G5 _ (by omega) hdx hdT hb h5 uV_s ?_ (fun j hj => ?_) (hS2.tr (s3.tr (s4.tr s5))) kq) rfl
      · rw [uV_n (by decide), uV_n (by decide), uV_s]
      · rw [uV_n (by omega), uV_n (by omega), uV_n (by omega), uV_n (by omega), uV_n (by omega)]; exact vo j hj
    refine wa_lstore q_X7_sumOfMembers_60 (by decide) ?_
    refine wa_aload_n q_X7_sumOfMembers_62 rfl ?_
    refine wa_bipush q_X7_sumOfMembers_63 (v := nI 6) (by decide) ?_
    refine wa_bipush q_X7_sumOfMembers_65 (v := nI 6) (by decide) ?_
    refine wa_iconst q_X7_sumOfMembers_67 (v := nI 1) (by decide) ?_
    refine wa_aload_n q_X7_sumOfMembers_68 rfl ?_
    refine wa_getf q_X7_sumOfMembers_69 f_RX7_20 (by assumption) rfl ?_
    refine wa_iload_n q_X7_sumOfMembers_72 rfl ?_
    refine wn_gald q_X7_sumOfMembers_73 (by assumption) (by omega) ?_
    refine wa_iconst q_X7_sumOfMembers_74 (v := nI 2) (by decide) ?_
    refine wa_icmp_ne q_X7_sumOfMembers_75 (fun hc => ?_) (fun hc => ?_)
    · refine wa_iconst q_X7_sumOfMembers_91 (v := sgI 1) (by decide) ?_
      exact wa_lv (go 1 _ (by rw [if_neg (fun z => hc (hK.mp z.1))])) rfl
    · have hal : alt = true := hK.mpr hc
      refine wa_lload q_X7_sumOfMembers_78 rfl ?_
      refine wa_lconst q_X7_sumOfMembers_80 (v := lN 1) (by decide) ?_
      refine wa_land q_X7_sumOfMembers_81 ?_
      rw [l_and]
      refine wa_lconst q_X7_sumOfMembers_82 (v := lN 1) (by decide) ?_
      refine wn_lcmp_ne q_X7_sumOfMembers_83 q_X7_sumOfMembers_84 (by omega) (by decide) (fun z => ?_) (fun z => ?_)
      · refine wa_iconst q_X7_sumOfMembers_91 (v := sgI 1) (by decide) ?_
        exact wa_lv (go 1 _ (by rw [if_neg (fun y => z y.2)])) rfl
      · refine wa_iconst q_X7_sumOfMembers_87 (v := sgI (-1)) (by decide) ?_
        refine wa_goto q_X7_sumOfMembers_88 ?_
        exact wa_lv (go (-1) _ (by rw [if_pos ⟨hal, z⟩])) rfl
end ref18
