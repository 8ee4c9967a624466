/-! The reference: isJoined, whole -/
theorem nmin_1 {n : Nat} {a c : Int} : nmin (n + 1) a c = nmin 1 a c := by
  unfold nmin
  simp only [Nat.add_one_ne_zero, Nat.one_ne_zero, false_or]
theorem nmax_1 {n : Nat} {a c : Int} : nmax (n + 1) a c = nmax 1 a c := by
  unfold nmax
  simp only [Nat.add_one_ne_zero, Nat.one_ne_zero, false_or]
theorem k_and : ∀ k, k < 4 → nI k &&& nI 1 = nI (k % 2) := by decide
theorem k_shr : ∀ k, k < 4 → nI k >>> (nI 1 &&& 31) = nI (k / 2) := by decide
section ref17
variable {X : en_X} {σ : en_S} {M : Nat → Nat} {O : Int32 × Int32 × Int32 × Int32 × Int32} {C Z : Nat → Nat} {G : Nat → Int32} {V : Nat → Int}
/-- one pass of the loop -/
theorem J_step {ρ σ0 : en_S} {op l a b k p : Nat} {dv : Bool} {Q : Option Value → en_S → Prop} (hop : op = if dv then 3 else 2) (hk : k < 4) (ha : 20 ≤ a) (ha2 : a + 1 < 140) (hb : 20 ≤ b) (hb2 : b + 1 < 140) (hp : p ≤ 480) (h : rV X σ M O C Z G V) (v12 : V 12 = 10 ^ p) (zx : (V (a + k % 2)).natAbs < BB ^ 90) (zy : (V (b + k / 2)).natAbs < BB ^ 90) (hnz : dv = true → V (b + k / 2) ≠ 0) (hS : mSt M σ0 σ)
    (kq : ∀ (τ : en_S) (C1 Z1 : Nat → Nat) (G1 : Nat → Int32) (V1 : Nat → Int), rV X τ M O C1 Z1 G1 V1 → V1 4 = nmin k (V 4) (cdn dv p (V (a + k % 2)) (V (b + k / 2))) → V1 5 = nmax k (V 5) (cup dv p (V (a + k % 2)) (V (b + k / 2))) → (∀ s, 12 ≤ s → V1 s = V s) → mSt M σ0 τ → WA X M_X7_isJoined ρ 99 [(0, .ref (M 0)), (1, .int (nI op)), (2, .int (nI l)), (3, .int (nI a)), (4, .int (nI b)), (5, .int (nI (k + 1)))] [] τ Q) :
    WA X M_X7_isJoined ρ 99 [(0, .ref (M 0)), (1, .int (nI op)), (2, .int (nI l)), (3, .int (nI a)), (4, .int (nI b)), (5, .int (nI k))] [] σ Q := by
  have k2 : k % 2 < 2 := Nat.mod_lt _ (by decide)
  have k3 : k / 2 < 2 := by omega
  refine wa_iload q_X7_isJoined_99 rfl ?_
  refine wa_iconst q_X7_isJoined_101 (v := nI 4) (by decide) ?_
  refine wn_icmp_ge q_X7_isJoined_102 (by omega) (by omega) (fun z => absurd z (by omega)) (fun _ => ?_)
  refine wa_iload_n q_X7_isJoined_105 rfl ?_
  refine wa_iload q_X7_isJoined_106 rfl ?_
  refine wa_iconst q_X7_isJoined_108 (v := nI 1) (by decide) ?_
  refine wa_iand q_X7_isJoined_109 ?_
  rw [k_and k hk]
  refine wn_iadd q_X7_isJoined_110 ?_
  refine wa_istore q_X7_isJoined_111 (by decide) ?_
  refine wa_iload q_X7_isJoined_113 rfl ?_
  refine wa_iload q_X7_isJoined_115 rfl ?_
  refine wa_iconst q_X7_isJoined_117 (v := nI 1) (by decide) ?_
  refine wa_ishr q_X7_isJoined_118 ?_
  rw [k_shr k hk]
  refine wn_iadd q_X7_isJoined_119 ?_
  refine wa_istore q_X7_isJoined_120 (by decide) ?_
  refine wa_lv (J_corner (l := l) (σ0 := σ0) (V0 := V) hop hk rfl rfl ha ha2 hb hb2 hp h v12 zx zy hnz hS ?_) rfl
  intro τ C1 Z1 G1 V1 h1 e4 e5 eo s1
  refine wn_iinc q_X7_isJoined_218 rfl (by decide) ?_
  refine wa_goto q_X7_isJoined_221 ?_
  exact wa_lv (kq τ C1 Z1 G1 V1 h1 e4 e5 eo s1) rfl
/-- products and quotients -/
theorem R_corn {op l a b p : Nat} {dv : Bool} (hop : op = if dv then 3 else 2) (h : rV X σ M O C Z G V) (hl : 12 < l) (hl2 : l + 1 < 140) (ha : 20 ≤ a) (ha2 : a + 1 < 140) (hb : 20 ≤ b) (hb2 : b + 1 < 140) (hp : p ≤ 480) (v12 : V 12 = 10 ^ p) (z1 : (V a).natAbs < BB ^ 90) (z2 : (V (a + 1)).natAbs < BB ^ 90) (z3 : (V b).natAbs < BB ^ 90) (z4 : (V (b + 1)).natAbs < BB ^ 90) (hbb : V b ≤ V (b + 1)) :
    Calls X M_X7_isJoined [.ref (M 0), .int (nI op), .int (nI l), .int (nI a), .int (nI b)] σ (fun res τ => (dv = true ∧ V b ≤ 0 ∧ 0 ≤ V (b + 1) ∧ res = some (.int (nI 0)) ∧ τ = σ) ∨ ((dv = true → V b ≠ 0 ∧ V (b + 1) ≠ 0 ∧ ¬ (V b ≤ 0 ∧ 0 ≤ V (b + 1))) ∧ res = some (.int (nI 1)) ∧ ∃ C' Z' G' V', rV X τ M O C' Z' G' V' ∧ V' l = crL dv p (V a) (V (a + 1)) (V b) (V (b + 1)) ∧ V' (l + 1) = crH dv p (V a) (V (a + 1)) (V b) (V (b + 1)) ∧ (∀ s, 12 ≤ s → s ≠ l → s ≠ l + 1 → V' s = V s) ∧ mSt M σ τ)) := by
  have g0 := (h.2 b (by omega)).1
  have g1 := (h.2 (b + 1) hb2).1
  obtain ⟨a0, a1, a2, a3, n1, n2, n3⟩ := id h.1
  refine Calls.of rfl (lk rfl) ?_
  have main : ∀ (lv : List (Nat × Value)), lv = [(0, .ref (M 0)), (1, .int (nI op)), (2, .int (nI l)), (3, .int (nI a)), (4, .int (nI b))] → (dv = true → V b ≠ 0 ∧ V (b + 1) ≠ 0 ∧ ¬ (V b ≤ 0 ∧ 0 ≤ V (b + 1))) → WA X M_X7_isJoined σ 96 lv [] σ (fun res τ => (dv = true ∧ V b ≤ 0 ∧ 0 ≤ V (b + 1) ∧ res = some (.int (nI 0)) ∧ τ = σ) ∨ ((dv = true → V b ≠ 0 ∧ V (b + 1) ≠ 0 ∧ ¬ (V b ≤ 0 ∧ 0 ≤ V (b + 1))) ∧ res = some (.int (nI 1)) ∧ ∃ C' Z' G' V', rV X τ M O C' Z' G' V' ∧ V' l = crL dv p (V a) (V (a + 1)) (V b) (V (b + 1)) ∧ V' (l + 1) = crH dv p (V a) (V (a + 1)) (V b) (V (b + 1)) ∧ (∀ s, 12 ≤ s → s ≠ l → s ≠ l + 1 → V' s = V s) ∧ mSt M σ τ)) := by
    intro lv elv hd
    subst elv
    refine wa_iconst q_X7_isJoined_96 (v := nI 0) (by decide) ?_
    refine wa_istore q_X7_isJoined_97 (by decide) ?_
    refine wa_lv (J_step (l := l) (k := 0) hop (by decide) ha ha2 hb hb2 hp h v12 z1 z3 (fun e => (hd e).1) mSt.rf ?_) rfl
    intro τ1 C1 Z1 G1 V1 h1 e4 e5 eo s1
    have w1 : V1 (a + 1 % 2) = V (a + 1) := eo _ (by omega)
    have w2 : V1 (b + 1 / 2) = V b := eo _ (by omega)
    refine J_step (l := l) (k := 1) hop (by decide) ha ha2 hb hb2 hp h1 ((eo 12 (by decide)).trans v12) (by rw [w1]; exact z2) (by rw [w2]; exact z3) (fun e => by rw [w2]; exact (hd e).1) s1 ?_
    rw [w1, w2]
    intro τ2 C2 Z2 G2 V2 h2 f4 f5 fo s2
    have fo' : ∀ s, 12 ≤ s → V2 s = V s := fun s hs => (fo s hs).trans (eo s hs)
    have w3 : V2 (a + 2 % 2) = V a := fo' _ (by omega)
    have w4 : V2 (b + 2 / 2) = V (b + 1) := fo' _ (by omega)
    refine J_step (l := l) (k := 2) hop (by decide) ha ha2 hb hb2 hp h2 ((fo' 12 (by decide)).trans v12) (by rw [w3]; exact z1) (by rw [w4]; exact z4) (fun e => by rw [w4]; exact (hd e).2.1) s2 ?_
    rw [w3, w4]
    intro τ3 C3 Z3 G3 V3 h3 i4 i5 io s3
    have io' : ∀ s, 12 ≤ s → V3 s = V s := fun s hs => (io s hs).trans (fo' s hs)
    have w5 : V3 (a + 3 % 2) = V (a + 1) := io' _ (by omega)
    have w6 : V3 (b + 3 / 2) = V (b + 1) := io' _ (by omega)
    refine J_step (l := l) (k := 3) hop (by decide) ha ha2 hb hb2 hp h3 ((io' 12 (by decide)).trans v12) (by rw [w5]; exact z2) (by rw [w6]; exact z4) (fun e => by rw [w6]; exact (hd e).2.1) s3 ?_
    rw [w5, w6]
    intro τ4 C4 Z4 G4 V4 h4 j4 j5 jo s4
    have jo' : ∀ s, 12 ≤ s → V4 s = V s := fun s hs => (jo s hs).trans (io' s hs)
    have eL : V4 4 = crL dv p (V a) (V (a + 1)) (V b) (V (b + 1)) := by
      rw [cr_ord.1, j4, i4, f4, show V1 4 = cdn dv p (V a) (V b) from e4.trans (if_pos (Or.inl rfl)), nmin_1 (n := 2), nmin_1 (n := 1)]
    have eH : V4 5 = crH dv p (V a) (V (a + 1)) (V b) (V (b + 1)) := by
      rw [cr_ord.2, j5, i5, f5, show V1 5 = cup dv p (V a) (V b) from e5.trans (if_pos (Or.inl rfl)), nmax_1 (n := 2), nmax_1 (n := 1)]
    refine wa_iload q_X7_isJoined_99 rfl ?_
    refine wa_iconst q_X7_isJoined_101 (v := nI 4) (by decide) ?_
    refine wn_icmp_ge q_X7_isJoined_102 (by omega) (by omega) (fun _ => ?_) (fun z => absurd z (by decide))
    obtain ⟨b0, b1, b2, b3, -⟩ := id h4.1
    refine wa_aload_n q_X7_isJoined_224 rfl ?_
    refine wa_iconst q_X7_isJoined_225 (v := nI 4) (by decide) ?_
    refine wa_iload_n q_X7_isJoined_226 rfl ?_
    refine wa_callV q_X7_isJoined_227 g_X7_isJoined_227 w_X7_copyTo (by assumption) rfl (av := [_, _]) rfl rfl (lk rfl) (Calls.mono (R_copy h4 (a := 4) (b := l) (by decide) (by omega)) ?_)
    rintro _ σ5 ⟨rfl, C5, Z5, G5, h5, s5⟩
    obtain ⟨c0, c1, c2, c3, -⟩ := id h5.1
    refine wa_aload_n q_X7_isJoined_230 rfl ?_
    refine wa_iconst q_X7_isJoined_231 (v := nI 5) (by decide) ?_
    refine wa_iload_n q_X7_isJoined_232 rfl ?_
    refine wa_iconst q_X7_isJoined_233 (v := nI 1) (by decide) ?_
    refine wn_iadd q_X7_isJoined_234 ?_
    refine wa_callV q_X7_isJoined_235 g_X7_isJoined_235 w_X7_copyTo (by assumption) rfl (av := [_, _]) rfl rfl (lk rfl) (Calls.mono (R_copy h5 (a := 5) (b := l + 1) (by decide) (by omega)) ?_)
    rintro _ σ6 ⟨rfl, C6, Z6, G6, h6, s6⟩
    refine wa_iconst q_X7_isJoined_238 (v := nI 1) (by decide) ?_
    refine wa_zret q_X7_isJoined_239 rfl rfl ?_
    exact Or.inr ⟨hd, rfl, C6, Z6, G6, _, h6, by rw [uV_n (by omega), uV_s]; exact eL, by rw [uV_s, uV_n (by omega)]; exact eH, fun s x1 x2 x3 => by rw [uV_n x3, uV_n x2]; exact jo' s x1, s4.tr (s5.tr s6)⟩
  refine wa_iload_n q_X7_isJoined_0 rfl ?_
  refine wn_if_ne q_X7_isJoined_1 (by cases dv <;> subst hop <;> decide) (fun _ => ?_) (fun z => absurd z (by cases dv <;> subst hop <;> decide))
  refine wa_iload_n q_X7_isJoined_30 rfl ?_
  refine wa_iconst q_X7_isJoined_31 (v := nI 1) (by decide) ?_
  refine wn_icmp_ne q_X7_isJoined_32 (by cases dv <;> subst hop <;> decide) (by decide) (fun _ => ?_) (fun z => absurd z (by cases dv <;> subst hop <;> decide))
  refine wa_iload_n q_X7_isJoined_67 rfl ?_
  refine wa_iconst q_X7_isJoined_68 (v := nI 3) (by decide) ?_
  cases dv
  · have e2 : op = 2 := hop
    subst e2
    refine wn_icmp_ne q_X7_isJoined_69 (by decide) (by decide) (fun _ => ?_) (fun z => absurd z (by decide))
    exact main _ rfl (fun e => absurd e (by decide))
  · have e2 : op = 3 := hop
    subst e2
    refine wn_icmp_ne q_X7_isJoined_69 (by decide) (by decide) (fun z => absurd rfl z) (fun _ => ?_)
    refine wa_aload_n q_X7_isJoined_72 rfl ?_
    refine wa_getf q_X7_isJoined_73 f_RX7_17 (by assumption) rfl ?_
    refine wa_iload q_X7_isJoined_76 rfl ?_
    refine wn_gald q_X7_isJoined_78 (by assumption) (by omega) ?_
    rw [g0]
    refine wa_if_gt q_X7_isJoined_79 (fun hy => ?_) (fun hy => ?_)
    · have hpos : 0 < V b := by
        rcases sgI_c (V b) with ⟨q, e⟩ | ⟨q, e⟩ | ⟨q, e⟩
        · rw [e] at hy; exact absurd hy (by decide)
        · rw [e] at hy; exact absurd hy (by decide)
        · exact q
      exact main _ rfl (fun _ => ⟨by omega, by omega, by omega⟩)
    · have hneg : V b ≤ 0 := sg_le.mp (Int32.not_lt.mp hy)
      refine wa_aload_n q_X7_isJoined_82 rfl ?_
      refine wa_getf q_X7_isJoined_83 f_RX7_17 (by assumption) rfl ?_
      refine wa_iload q_X7_isJoined_86 rfl ?_
      refine wa_iconst q_X7_isJoined_88 (v := nI 1) (by decide) ?_
      refine wn_iadd q_X7_isJoined_89 ?_
      refine wn_gald q_X7_isJoined_90 (by assumption) (by omega) ?_
      rw [g1]
      refine wa_if_lt q_X7_isJoined_91 (fun hz => ?_) (fun hz => ?_)
      · have hlt : V (b + 1) < 0 := Int.not_le.mp (fun q => absurd (sg_ge.mpr q) (Int32.not_le.mpr hz))
        exact main _ rfl (fun _ => ⟨by omega, by omega, by omega⟩)
      · have hge : 0 ≤ V (b + 1) := sg_ge.mp (Int32.not_lt.mp hz)
        refine wa_iconst q_X7_isJoined_94 (v := nI 0) (by decide) ?_
        refine wa_zret q_X7_isJoined_95 rfl rfl ?_
        exact Or.inl ⟨rfl, hneg, hge, rfl, rfl⟩
/-- sums -/
theorem R_jsum {l a b : Nat} (h : rV X σ M O C Z G V) (hl2 : l + 1 < 140) (ha : a + 1 < l) (hb : b + 1 < l) (z1 : (V a).natAbs < BB ^ 300) (z2 : (V (a + 1)).natAbs < BB ^ 300) (z3 : (V b).natAbs < BB ^ 300) (z4 : (V (b + 1)).natAbs < BB ^ 300) :
    Calls X M_X7_isJoined [.ref (M 0), .int (nI 0), .int (nI l), .int (nI a), .int (nI b)] σ (fun res τ => res = some (.int (nI 1)) ∧ ∃ C' Z' G' V', rV X τ M O C' Z' G' V' ∧ V' l = V a + V b ∧ V' (l + 1) = V (a + 1) + V (b + 1) ∧ (∀ s, 12 ≤ s → s ≠ l → s ≠ l + 1 → V' s = V s) ∧ mSt M σ τ) := by
  obtain ⟨a0, a1, a2, a3, n1, n2, n3⟩ := id h.1
  refine Calls.of rfl (lk rfl) ?_
  refine wa_iload_n q_X7_isJoined_0 rfl ?_
  refine wn_if_ne q_X7_isJoined_1 (by decide) (fun z => absurd z (by decide)) (fun _ => ?_)
  refine wa_aload_n q_X7_isJoined_4 rfl ?_
  refine wa_iload_n q_X7_isJoined_5 rfl ?_
  refine wa_iload_n q_X7_isJoined_6 rfl ?_
  refine wa_iload q_X7_isJoined_7 rfl ?_
  refine wa_iconst q_X7_isJoined_9 (v := sgI 1) (by decide) ?_
  refine wa_callV q_X7_isJoined_10 g_X7_isJoined_10 w_X7_addTo (by assumption) rfl (av := [_, _, _, _]) rfl rfl (lk rfl) (Calls.mono (R_addT h (r := l) (a := a) (b := b) (by omega) (by omega) (by omega) (Or.inl rfl) z1 z3) ?_)
  rintro _ σ1 ⟨rfl, C1, Z1, G1, h1, s1⟩
  obtain ⟨b0, b1, b2, b3, -⟩ := id h1.1
  have e1 : uV V l (V a + 1 * V b) (a + 1) = V (a + 1) := uV_n (by omega)
  have e2 : uV V l (V a + 1 * V b) (b + 1) = V (b + 1) := uV_n (by omega)
  refine wa_aload_n q_X7_isJoined_13 rfl ?_
  refine wa_iload_n q_X7_isJoined_14 rfl ?_
  refine wa_iconst q_X7_isJoined_15 (v := nI 1) (by decide) ?_
  refine wn_iadd q_X7_isJoined_16 ?_
  refine wa_iload_n q_X7_isJoined_17 rfl ?_
  refine wa_iconst q_X7_isJoined_18 (v := nI 1) (by decide) ?_
  refine wn_iadd q_X7_isJoined_19 ?_
  refine wa_iload q_X7_isJoined_20 rfl ?_
  refine wa_iconst q_X7_isJoined_22 (v := nI 1) (by decide) ?_
  refine wn_iadd q_X7_isJoined_23 ?_
  refine wa_iconst q_X7_isJoined_24 (v := sgI 1) (by decide) ?_
  refine wa_callV q_X7_isJoined_25 g_X7_isJoined_25 w_X7_addTo (by assumption) rfl (av := [_, _, _, _]) rfl rfl (lk rfl) (Calls.mono (R_addT h1 (r := l + 1) (a := a + 1) (b := b + 1) (by omega) (by omega) (by omega) (Or.inl rfl) (by rw [e1]; exact z2) (by rw [e2]; exact z4)) ?_)
  rintro _ σ2 ⟨rfl, C2, Z2, G2, h2, s2⟩
  rw [e1, e2] at h2
  refine wa_iconst q_X7_isJoined_28 (v := nI 1) (by decide) ?_
  refine wa_zret q_X7_isJoined_29 rfl rfl ?_
  exact ⟨rfl, C2, Z2, G2, _, h2, by rw [uV_n (by omega), uV_s]; omega, by rw [uV_s]; omega, fun s x1 x2 x3 => by rw [uV_n x3, uV_n x2], s1.tr s2⟩
/-- differences -/
theorem R_jdif {l a b : Nat} (h : rV X σ M O C Z G V) (hl2 : l + 1 < 140) (h2a : 12 ≤ a) (h2b : 12 ≤ b) (ha : a + 1 < l) (hb : b + 1 < l) (z1 : (V a).natAbs < BB ^ 300) (z2 : (V (a + 1)).natAbs < BB ^ 300) (z3 : (V b).natAbs < BB ^ 300) (z4 : (V (b + 1)).natAbs < BB ^ 300) :
    Calls X M_X7_isJoined [.ref (M 0), .int (nI 1), .int (nI l), .int (nI a), .int (nI b)] σ (fun res τ => res = some (.int (nI 1)) ∧ ∃ C' Z' G' V', rV X τ M O C' Z' G' V' ∧ V' l = V a - V (b + 1) ∧ V' (l + 1) = V (a + 1) - V b ∧ (∀ s, 12 ≤ s → s ≠ l → s ≠ l + 1 → V' s = V s) ∧ mSt M σ τ) := by
  obtain ⟨a0, a1, a2, a3, n1, n2, n3⟩ := id h.1
  refine Calls.of rfl (lk rfl) ?_
  refine wa_iload_n q_X7_isJoined_0 rfl ?_
  refine wn_if_ne q_X7_isJoined_1 (by decide) (fun _ => ?_) (fun z => absurd z (by decide))
  refine wa_iload_n q_X7_isJoined_30 rfl ?_
  refine wa_iconst q_X7_isJoined_31 (v := nI 1) (by decide) ?_
  refine wn_icmp_ne q_X7_isJoined_32 (by decide) (by decide) (fun z => absurd rfl z) (fun _ => ?_)
  refine wa_aload_n q_X7_isJoined_35 rfl ?_
  refine wa_iconst q_X7_isJoined_36 (v := nI 2) (by decide) ?_
  refine wa_iload_n q_X7_isJoined_37 rfl ?_
  refine wa_iload q_X7_isJoined_38 rfl ?_
  refine wa_iconst q_X7_isJoined_40 (v := nI 1) (by decide) ?_
  refine wn_iadd q_X7_isJoined_41 ?_
  refine wa_iconst q_X7_isJoined_42 (v := sgI (-1)) (by decide) ?_
  refine wa_callV q_X7_isJoined_43 g_X7_isJoined_43 w_X7_addTo (by assumption) rfl (av := [_, _, _, _]) rfl rfl (lk rfl) (Calls.mono (R_addT h (r := 2) (a := a) (b := b + 1) (by decide) (by omega) (by omega) (Or.inr rfl) z1 z4) ?_)
  rintro _ σ1 ⟨rfl, C1, Z1, G1, h1, s1⟩
  obtain ⟨b0, b1, b2, b3, -⟩ := id h1.1
  have e1 : uV V 2 (V a + -1 * V (b + 1)) (a + 1) = V (a + 1) := uV_n (by omega)
  have e2 : uV V 2 (V a + -1 * V (b + 1)) b = V b := uV_n (by omega)
  refine wa_aload_n q_X7_isJoined_46 rfl ?_
  refine wa_iload_n q_X7_isJoined_47 rfl ?_
  refine wa_iconst q_X7_isJoined_48 (v := nI 1) (by decide) ?_
  refine wn_iadd q_X7_isJoined_49 ?_
  refine wa_iload_n q_X7_isJoined_50 rfl ?_
  refine wa_iconst q_X7_isJoined_51 (v := nI 1) (by decide) ?_
  refine wn_iadd q_X7_isJoined_52 ?_
  refine wa_iload q_X7_isJoined_53 rfl ?_
  refine wa_iconst q_X7_isJoined_55 (v := sgI (-1)) (by decide) ?_
  refine wa_callV q_X7_isJoined_56 g_X7_isJoined_56 w_X7_addTo (by assumption) rfl (av := [_, _, _, _]) rfl rfl (lk rfl) (Calls.mono (R_addT h1 (r := l + 1) (a := a + 1) (b := b) (by omega) (by omega) (by omega) (Or.inr rfl) (by rw [e1]; exact z2) (by rw [e2]; exact z3)) ?_)
  rintro _ σ2 ⟨rfl, C2, Z2, G2, h2, s2⟩
  rw [e1, e2] at h2
  obtain ⟨c0, c1, c2, c3, -⟩ := id h2.1
  refine wa_aload_n q_X7_isJoined_59 rfl ?_
  refine wa_iconst q_X7_isJoined_60 (v := nI 2) (by decide) ?_
  refine wa_iload_n q_X7_isJoined_61 rfl ?_
  refine wa_callV q_X7_isJoined_62 g_X7_isJoined_62 w_X7_copyTo (by assumption) rfl (av := [_, _]) rfl rfl (lk rfl) (Calls.mono (R_copy h2 (a := 2) (b := l) (by decide) (by omega)) ?_)
  rintro _ σ3 ⟨rfl, C3, Z3, G3, h3, s3⟩
  refine wa_iconst q_X7_isJoined_65 (v := nI 1) (by decide) ?_
  refine wa_zret q_X7_isJoined_66 rfl rfl ?_
  exact ⟨rfl, C3, Z3, G3, _, h3, by rw [uV_s, uV_n (by omega), uV_s]; omega, by rw [uV_n (by omega), uV_s]; omega, fun s x1 x2 x3 => by rw [uV_n x2, uV_n x3, uV_n (by omega)], s1.tr (s2.tr s3)⟩
end ref17
