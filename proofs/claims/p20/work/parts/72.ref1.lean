/-! The reference: setTo, copyTo, compareSizes, compareTo -/
theorem vl_digs {d : Nat → Nat} {m : Nat} : ∀ n, (∀ j, j < n → d j = m / BB ^ j % BB) → vl d n = m % BB ^ n := by
  intro n
  induction n with
  | zero => intro _; show 0 = m % 1; omega
  | succ n ih =>
    intro h
    show vl d n + d n * BB ^ n = m % BB ^ (n + 1)
    rw [ih (fun j hj => h j (by omega)), h n (by omega), Nat.pow_succ, Nat.mod_mul]
    rw [Nat.mul_comm]
section ref2
variable {X : en_X} {σ : en_S} {M : Nat → Nat} {O : Int32 × Int32 × Int32 × Int32 × Int32} {C Z : Nat → Nat} {G : Nat → Int32} {V : Nat → Int}
theorem R_set_loop {ρ σ0 : en_S} {r : Nat} {v : Int} {Q : Option Value → en_S → Prop} (hr : r < 140) (hm : v.natAbs ≤ 9223372036854775808)
    (k : ∀ (τ : en_S) (C1 Z1 : Nat → Nat) (G1 : Nat → Int32), rR X τ M O C1 Z1 G1 → isR C1 Z1 G1 r v → rO C Z G C1 Z1 G1 r → mSt M σ0 τ → Q none τ) :
    ∀ (t i : Nat) (σ : en_S) (C1 Z1 : Nat → Nat) (G1 : Nat → Int32), i + t = 3 → rR X σ M O C1 Z1 G1 → G1 r = sgI v → Z1 r = i → (∀ j, j < i → reg C1 r j = v.natAbs / BB ^ j % BB) → (i = 0 ∨ v.natAbs / BB ^ (i - 1) ≠ 0) → rO C Z G C1 Z1 G1 r → mSt M σ0 σ →
      WA X M_X7_setTo ρ 48 [(4, .long (lZ (-((v.natAbs / BB ^ i : Nat) : Int)))), (0, .ref (M 0)), (1, .int (nI r)), (2, .long (lZ v))] [] σ Q := by
  have hB : BB = 1000000000 := rfl
  have hB3 : BB ^ 3 = 1000000000000000000000000000 := rfl
  intro t
  induction t with
  | zero =>
    intro i σ C1 Z1 G1 hit h hg hz hd ht hO hS
    have e : i = 3 := by omega
    subst e
    have e0 : v.natAbs / BB ^ 3 = 0 := Nat.div_eq_of_lt (by omega)
    refine wa_lload q_X7_setTo_48 rfl ?_
    refine wa_lconst q_X7_setTo_50 (v := 0) (by decide) ?_
    refine wa_lcmp q_X7_setTo_51 ?_
    refine wa_if_eq q_X7_setTo_52 (fun _ => ?_) (fun hc => absurd ((lg_cmp_eq _ _).mpr (by rw [e0]; decide)) hc)
    refine wa_vret q_X7_setTo_101 rfl ?_
    refine k σ C1 Z1 G1 h ⟨hg, ?_, ?_, by omega⟩ hO hS
    · rw [hz, vl_digs 3 hd, Nat.mod_eq_of_lt (by omega)]
    · refine ⟨fun j hj => by rw [hd j (by omega)]; exact Nat.mod_lt _ BB_pos, Or.inr ?_⟩
      rw [hz, hd 2 (by omega)]
      have h2 := ht.resolve_left (by omega)
      have h3 : v.natAbs / BB ^ 2 < BB := by
        rw [show BB ^ 3 = BB ^ 2 * BB from rfl, ← Nat.div_div_eq_div_mul] at e0
        rcases Nat.lt_or_ge (v.natAbs / BB ^ 2) BB with q | q
        · exact q
        · have := Nat.div_pos q BB_pos; omega
      rw [Nat.mod_eq_of_lt h3]; exact h2
  | succ t ih =>
    intro i σ C1 Z1 G1 hit h hg hz hd ht hO hS
    have hu : v.natAbs / BB ^ i ≤ 9223372036854775808 := Nat.le_trans (Nat.div_le_self _ _) hm
    have e0 : (0 : Int64) = lZ 0 := by decide
    have h' := h
    obtain ⟨a0, a1, a2, a3, n1, n2, n3⟩ := h
    refine wa_lload q_X7_setTo_48 rfl ?_
    refine wa_lconst q_X7_setTo_50 (v := 0) (by decide) ?_
    refine wa_lcmp q_X7_setTo_51 ?_
    refine wa_if_eq q_X7_setTo_52 (fun hc => ?_) (fun hc => ?_)
    · have hz0 : v.natAbs / BB ^ i = 0 := by
        obtain ⟨u, hu0⟩ : ∃ u, u = v.natAbs / BB ^ i := ⟨_, rfl⟩
        rw [← hu0] at hc hu ⊢
        have := (lg_cmp_eq _ _).mp hc
        rw [e0] at this
        have := (lZ_eq (by omega) (by omega) (by decide) (by decide)).mp this
        omega
      have hlt : v.natAbs < BB ^ i := by
        rcases Nat.lt_or_ge v.natAbs (BB ^ i) with q | q
        · exact q
        · have := Nat.div_pos q (pw_pos i); omega
      refine wa_vret q_X7_setTo_101 rfl ?_
      refine k σ C1 Z1 G1 h' ⟨hg, ?_, ?_, by omega⟩ hO hS
      · rw [hz, vl_digs i hd, Nat.mod_eq_of_lt hlt]
      · refine ⟨fun j hj => by rw [hd j (by omega)]; exact Nat.mod_lt _ BB_pos, ?_⟩
        rw [hz]
        rcases ht with q | q
        · exact Or.inl q
        · by_cases q0 : i = 0
          · exact Or.inl q0
          · right
            rw [hd (i - 1) (by omega)]
            have h3 : v.natAbs / BB ^ (i - 1) < BB := by
              rw [show i = (i - 1) + 1 by omega, Nat.pow_succ] at hlt
              exact Nat.div_lt_of_lt_mul (by rw [Nat.mul_comm] at hlt; rw [Nat.mul_comm]; omega)
            rw [Nat.mod_eq_of_lt h3]; exact q
    · have hnz : v.natAbs / BB ^ i ≠ 0 := fun q => hc ((lg_cmp_eq _ _).mpr (by rw [q]; decide))
      have hdd : v.natAbs / BB ^ (i + 1) = v.natAbs / BB ^ i / 1000000000 := by rw [Nat.pow_succ, ← Nat.div_div_eq_div_mul]; rfl
      have hih := fun σ1 C1 Z1 G1 => ih (i + 1) σ1 C1 Z1 G1 (by omega)
      rw [hdd] at hih
      have hue : v.natAbs / BB ^ i = v.natAbs / BB ^ i := rfl
      obtain ⟨u, hu0⟩ : ∃ u, u = v.natAbs / BB ^ i := ⟨_, rfl⟩
      rw [← hu0] at hu hnz hih ⊢
      have hq := Nat.div_add_mod u 1000000000
      have hml := Nat.mod_lt u (show 0 < 1000000000 by decide)
      have ediv : lZ (-(u : Int)) / lN 1000000000 = lZ (-((u / 1000000000 : Nat) : Int)) := by
        rw [lN_lZ, lZ_div (by omega) (by omega) (by decide) (by decide), Int.neg_tdiv]; rfl
      have erem : lZ (-(u : Int)) - lZ (-(u : Int)) / lN 1000000000 * lN 1000000000 = lZ (-((u % 1000000000 : Nat) : Int)) := by
        rw [ediv, lN_lZ, lZ_mul, lZ_sub]; congr 1; omega
      refine wa_aload_n q_X7_setTo_55 rfl ?_
      refine wa_getf q_X7_setTo_56 f_RX7_8 (by assumption) rfl ?_
      refine wa_sipush q_X7_setTo_59 (v := nI 320) (by decide) ?_
      refine wa_iload_n q_X7_setTo_62 rfl ?_
      refine wn_imul q_X7_setTo_63 ?_
      refine wa_aload_n q_X7_setTo_64 rfl ?_
      refine wa_getf q_X7_setTo_65 f_RX7_14 (by assumption) rfl ?_
      refine wa_iload_n q_X7_setTo_68 rfl ?_
      refine wn_iald q_X7_setTo_69 (by assumption) (by omega) (by omega) ?_
      refine wn_iadd q_X7_setTo_70 ?_
      refine wa_lload q_X7_setTo_71 rfl ?_
      refine wa_ldc2 q_X7_setTo_73 (v := lN 1000000000) k_RX7_47 ?_
      refine wa_lrem q_X7_setTo_76 (fun z => by rw [lN_lZ] at z; exact absurd ((lZ_eq (b := 0) (by decide) (by decide) (by decide) (by decide)).mp z) (by decide)) ?_
      rw [erem]
      refine wa_lneg q_X7_setTo_77 ?_
      rw [lZ_neg, Int.neg_neg, ← lN_lZ]
      refine wn_l2i q_X7_setTo_78 ?_
      refine wn_iast q_X7_setTo_79 (by assumption) (by omega) (by omega) (fun σ_p1 p1 f_p1 e1_p1 e2_p1 => ?_)
      obtain ⟨w1, s1⟩ := h'.cell p1 f_p1 e1_p1 e2_p1
      obtain ⟨b0, b1, b2, b3, -⟩ := id w1
      rw [hz] at w1 b1
      refine wa_aload_n q_X7_setTo_80 rfl ?_
      refine wa_getf q_X7_setTo_81 f_RX7_14 (by assumption) rfl ?_
      refine wa_iload_n q_X7_setTo_84 rfl ?_
      refine wa_dup2 q_X7_setTo_85 rfl rfl ?_
      refine wn_iald q_X7_setTo_86 (by assumption) (by omega) (by omega) ?_
      refine wa_iconst q_X7_setTo_87 (v := nI 1) (by decide) ?_
      refine wn_iadd q_X7_setTo_88 ?_
      refine wn_iast q_X7_setTo_89 (by assumption) (by omega) (by omega) (fun σ_p2 p2 f_p2 e1_p2 e2_p2 => ?_)
      obtain ⟨w2, s2⟩ := w1.size p2 f_p2 e1_p2 e2_p2
      refine wa_lload q_X7_setTo_90 rfl ?_
      refine wa_ldc2 q_X7_setTo_92 (v := lN 1000000000) k_RX7_47 ?_
      refine wa_ldiv q_X7_setTo_95 (fun z => by rw [lN_lZ] at z; exact absurd ((lZ_eq (b := 0) (by decide) (by decide) (by decide) (by decide)).mp z) (by decide)) ?_
      rw [ediv]
      refine wa_lstore q_X7_setTo_96 (by decide) ?_
      refine wa_goto q_X7_setTo_98 ?_
      refine wa_lv (hih σ_p2 _ _ G1 w2 hg (by rw [un_s, hz]) (fun j hj => ?_) (Or.inr (by rw [show i + 1 - 1 = i by omega, ← hu0]; exact hnz)) (hO.tr ((rO.cell (by omega)).tr rO.size)) (hS.tr (s1.tr s2))) rfl
      rw [reg_u]
      by_cases e : j = i
      · rw [e, un_s, hu0]; rfl
      · rw [un_n e]; exact hd j (by omega)
theorem R_set {r : Nat} {v : Int} (h : rV X σ M O C Z G V) (hr : r < 140) (h1 : -9223372036854775808 ≤ v) (h2 : v < 9223372036854775808) :
    Calls X M_X7_setTo [.ref (M 0), .int (nI r), .long (lZ v)] σ (fun res τ => res = none ∧ ∃ C' Z' G', rV X τ M O C' Z' G' (uV V r v) ∧ mSt M σ τ) := by
  have h' := h.1
  obtain ⟨a0, a1, a2, a3, n1, n2, n3⟩ := h.1
  have e0 : (0 : Int64) = lZ 0 := by decide
  refine Calls.of rfl (lk rfl) ?_
  refine wa_aload_n q_X7_setTo_0 rfl ?_
  refine wa_getf q_X7_setTo_1 f_RX7_14 (by assumption) rfl ?_
  refine wa_iload_n q_X7_setTo_4 rfl ?_
  refine wa_iconst q_X7_setTo_5 (v := nI 0) (by decide) ?_
  refine wn_iast q_X7_setTo_6 (by assumption) (by omega) (by omega) (fun σ_p1 p1 f_p1 e1_p1 e2_p1 => ?_)
  obtain ⟨w1, s1⟩ := h'.size p1 f_p1 e1_p1 e2_p1
  obtain ⟨b0, b1, b2, b3, -⟩ := id w1
  have fin : WA X M_X7_setTo σ 33 (lv_args 0 [.ref (M 0), .int (nI r), .long (lZ v)]) [.int (sgI v), .int (nI r), .ref (M 3)] σ_p1 (fun res τ => res = none ∧ ∃ C' Z' G', rV X τ M O C' Z' G' (uV V r v) ∧ mSt M σ τ) := by
    refine wn_gast q_X7_setTo_33 (by assumption) (by omega) (fun σ_p2 p2 f_p2 e1_p2 e2_p2 => ?_)
    obtain ⟨w2, s2⟩ := w1.sign p2 f_p2 e1_p2 e2_p2
    have hL := R_set_loop (X := X) (M := M) (O := O) (C := C) (Z := Z) (G := G) (ρ := σ) (σ0 := σ) (r := r) (v := v) (Q := fun res τ => res = none ∧ ∃ C' Z' G', rV X τ M O C' Z' G' (uV V r v) ∧ mSt M σ τ) hr (by omega) (fun τ C1 Z1 G1 q1 q2 q3 q4 => ⟨rfl, C1, Z1, G1, h.up q1 q3 q2, q4⟩) 3 0 σ_p2 C _ _ (by decide) w2 upG_s un_s (fun j hj => by omega) (Or.inl rfl) (rO.size.tr rO.sign) (s1.tr s2)
    rw [Nat.pow_zero, Nat.div_one] at hL
    refine wa_lload_n q_X7_setTo_34 rfl ?_
    refine wa_lconst q_X7_setTo_35 (v := 0) (by decide) ?_
    refine wa_lcmp q_X7_setTo_36 ?_
    refine wa_if_le q_X7_setTo_37 (fun hc => ?_) (fun hc => ?_)
    · have hv : v ≤ 0 := by
        have := (lg_cmp_le _ _).mp hc
        rw [e0] at this
        exact (lZ_le (by omega) (by omega) (by decide) (by decide)).mp this
      refine wa_lload_n q_X7_setTo_45 rfl ?_
      refine wa_lstore q_X7_setTo_46 (by decide) ?_
      rw [show -((v.natAbs : Nat) : Int) = v by omega] at hL
      exact wa_lv hL rfl
    · have hv : 0 < v := by
        refine Int.not_le.mp (fun q => hc ((lg_cmp_le _ _).mpr ?_))
        rw [e0]
        exact (lZ_le (by omega) (by omega) (by decide) (by decide)).mpr q
      refine wa_lload_n q_X7_setTo_40 rfl ?_
      refine wa_lneg q_X7_setTo_41 ?_
      refine wa_goto q_X7_setTo_42 ?_
      refine wa_lstore q_X7_setTo_46 (by decide) ?_
      rw [lZ_neg]
      rw [show -((v.natAbs : Nat) : Int) = -v by omega] at hL
      exact wa_lv hL rfl
  refine wa_aload_n q_X7_setTo_7 rfl ?_
  refine wa_getf q_X7_setTo_8 f_RX7_17 (by assumption) rfl ?_
  refine wa_iload_n q_X7_setTo_11 rfl ?_
  refine wa_lload_n q_X7_setTo_12 rfl ?_
  refine wa_lconst q_X7_setTo_13 (v := 0) (by decide) ?_
  refine wa_lcmp q_X7_setTo_14 ?_
  refine wa_if_le q_X7_setTo_15 (fun hc => ?_) (fun hc => ?_)
  · have hv : v ≤ 0 := by
      have := (lg_cmp_le _ _).mp hc
      rw [e0] at this
      exact (lZ_le (by omega) (by omega) (by decide) (by decide)).mp this
    refine wa_lload_n q_X7_setTo_22 rfl ?_
    refine wa_lconst q_X7_setTo_23 (v := 0) (by decide) ?_
    refine wa_lcmp q_X7_setTo_24 ?_
    refine wa_if_ge q_X7_setTo_25 (fun hd => ?_) (fun hd => ?_)
    · have hv2 : 0 ≤ v := by
        have := (lg_cmp_ge _ _).mp hd
        rw [e0] at this
        exact (lZ_le (by decide) (by decide) (by omega) (by omega)).mp this
      have : v = 0 := by omega
      refine wa_iconst q_X7_setTo_32 (v := sgI v) (by rw [this]; decide) ?_
      exact fin
    · have hv2 : v < 0 := by
        refine Int.not_le.mp (fun q => hd ((lg_cmp_ge _ _).mpr ?_))
        rw [e0]
        exact (lZ_le (by decide) (by decide) (by omega) (by omega)).mpr q
      refine wa_iconst q_X7_setTo_28 (v := sgI v) (by unfold sgI; rw [if_pos hv2]; decide) ?_
      refine wa_goto q_X7_setTo_29 ?_
      exact fin
  · have hv : 0 < v := by
      refine Int.not_le.mp (fun q => hc ((lg_cmp_le _ _).mpr ?_))
      rw [e0]
      exact (lZ_le (by omega) (by omega) (by decide) (by decide)).mpr q
    refine wa_iconst q_X7_setTo_18 (v := sgI v) (by unfold sgI; rw [if_neg (by omega), if_neg (by omega)]; decide) ?_
    refine wa_goto q_X7_setTo_19 ?_
    exact fin
theorem R_copy_loop {ρ σ0 : en_S} {a b n : Nat} {Q : Option Value → en_S → Prop} (ha : a < 140) (hb : b < 140) (hn : n ≤ 319)
    (k : ∀ (τ : en_S) (C1 : Nat → Nat), rR X τ M O C1 Z G → (∀ j, j < n → reg C1 b j = reg C a j) → rO C Z G C1 Z G b → mSt M σ0 τ → Q none τ) (hz : Z a = n) :
    ∀ (t i : Nat) (σ : en_S) (C1 : Nat → Nat), i + t = n → rR X σ M O C1 Z G → (∀ j, j < i → reg C1 b j = reg C a j) → (∀ j, i ≤ j → reg C1 b j = reg C b j) → rO C Z G C1 Z G b → mSt M σ0 σ →
      WA X M_X7_copyTo ρ 26 [(3, .int (nI i)), (0, .ref (M 0)), (1, .int (nI a)), (2, .int (nI b))] [] σ Q := by
  intro t
  induction t with
  | zero =>
    intro i σ C1 hit h h1 h2 hO hS
    obtain ⟨a0, a1, a2, a3, n1, n2, n3⟩ := id h
    have e : i = n := by omega
    subst e
    refine wa_iload_n q_X7_copyTo_26 rfl ?_
    refine wa_aload_n q_X7_copyTo_27 rfl ?_
    refine wa_getf q_X7_copyTo_28 f_RX7_14 (by assumption) rfl ?_
    refine wa_iload_n q_X7_copyTo_31 rfl ?_
    refine wn_iald q_X7_copyTo_32 (by assumption) (by omega) (by omega) ?_
    rw [hz]
    refine wn_icmp_ge q_X7_copyTo_33 (by omega) (by omega) (fun hc => ?_) (fun hc => ?_)
    · refine wa_vret q_X7_copyTo_66 rfl ?_
      exact k σ C1 h h1 hO hS
    · omega
  | succ t ih =>
    intro i σ C1 hit h h1 h2 hO hS
    obtain ⟨a0, a1, a2, a3, n1, n2, n3⟩ := id h
    refine wa_iload_n q_X7_copyTo_26 rfl ?_
    refine wa_aload_n q_X7_copyTo_27 rfl ?_
    refine wa_getf q_X7_copyTo_28 f_RX7_14 (by assumption) rfl ?_
    refine wa_iload_n q_X7_copyTo_31 rfl ?_
    refine wn_iald q_X7_copyTo_32 (by assumption) (by omega) (by omega) ?_
    rw [hz]
    refine wn_icmp_ge q_X7_copyTo_33 (by omega) (by omega) (fun hc => ?_) (fun hc => ?_)
    · omega
    refine wa_aload_n q_X7_copyTo_36 rfl ?_
    refine wa_getf q_X7_copyTo_37 f_RX7_8 (by assumption) rfl ?_
    refine wa_sipush q_X7_copyTo_40 (v := nI 320) (by decide) ?_
    refine wa_iload_n q_X7_copyTo_43 rfl ?_
    refine wn_imul q_X7_copyTo_44 ?_
    refine wa_iload_n q_X7_copyTo_45 rfl ?_
    refine wn_iadd q_X7_copyTo_46 ?_
    refine wa_aload_n q_X7_copyTo_47 rfl ?_
    refine wa_getf q_X7_copyTo_48 f_RX7_8 (by assumption) rfl ?_
    refine wa_sipush q_X7_copyTo_51 (v := nI 320) (by decide) ?_
    refine wa_iload_n q_X7_copyTo_54 rfl ?_
    refine wn_imul q_X7_copyTo_55 ?_
    refine wa_iload_n q_X7_copyTo_56 rfl ?_
    refine wn_iadd q_X7_copyTo_57 ?_
    refine wn_iald q_X7_copyTo_58 (by assumption) (by omega) (by omega) ?_
    refine wn_iast q_X7_copyTo_59 (by assumption) (by omega) (by omega) (fun σ_p1 p1 f_p1 e1_p1 e2_p1 => ?_)
    obtain ⟨w1, s1⟩ := h.cell p1 f_p1 e1_p1 e2_p1
    have er : C1 (320 * a + i) = reg C a i := by
      by_cases e : a = b
      · subst e; exact h2 i (Nat.le_refl _)
      · exact (hO a ha e).2.2 i (by omega)
    rw [er] at w1
    refine wn_iinc q_X7_copyTo_60 rfl (by decide) ?_
    refine wa_goto q_X7_copyTo_63 ?_
    refine wa_lv (ih (i + 1) σ_p1 _ (by omega) w1 (fun j hj => ?_) (fun j hj => ?_) (hO.tr (rO.cell (by omega))) (hS.tr s1)) rfl
    · rw [reg_u]
      by_cases e : j = i
      · rw [e, un_s]
      · rw [un_n e]; exact h1 j (by omega)
    · rw [reg_u, un_n (by omega)]; exact h2 j (by omega)
theorem R_copy {a b : Nat} (h : rV X σ M O C Z G V) (ha : a < 140) (hb : b < 140) :
    Calls X M_X7_copyTo [.ref (M 0), .int (nI a), .int (nI b)] σ (fun res τ => res = none ∧ ∃ C' Z' G', rV X τ M O C' Z' G' (uV V b (V a)) ∧ mSt M σ τ) := by
  have h' := h.1
  obtain ⟨a0, a1, a2, a3, n1, n2, n3⟩ := h.1
  obtain ⟨v1, v2, v3, v4⟩ := h.2 a ha
  refine Calls.of rfl (lk rfl) ?_
  refine wa_aload_n q_X7_copyTo_0 rfl ?_
  refine wa_getf q_X7_copyTo_1 f_RX7_14 (by assumption) rfl ?_
  refine wa_iload_n q_X7_copyTo_4 rfl ?_
  refine wa_aload_n q_X7_copyTo_5 rfl ?_
  refine wa_getf q_X7_copyTo_6 f_RX7_14 (by assumption) rfl ?_
  refine wa_iload_n q_X7_copyTo_9 rfl ?_
  refine wn_iald q_X7_copyTo_10 (by assumption) (by omega) (by omega) ?_
  refine wn_iast q_X7_copyTo_11 (by assumption) (by omega) (by omega) (fun σ_p1 p1 f_p1 e1_p1 e2_p1 => ?_)
  obtain ⟨w1, s1⟩ := h'.size p1 f_p1 e1_p1 e2_p1
  obtain ⟨b0, b1, b2, b3, -⟩ := id w1
  refine wa_aload_n q_X7_copyTo_12 rfl ?_
  refine wa_getf q_X7_copyTo_13 f_RX7_17 (by assumption) rfl ?_
  refine wa_iload_n q_X7_copyTo_16 rfl ?_
  refine wa_aload_n q_X7_copyTo_17 rfl ?_
  refine wa_getf q_X7_copyTo_18 f_RX7_17 (by assumption) rfl ?_
  refine wa_iload_n q_X7_copyTo_21 rfl ?_
  refine wn_gald q_X7_copyTo_22 (by assumption) (by omega) ?_
  refine wn_gast q_X7_copyTo_23 (by assumption) (by omega) (fun σ_p2 p2 f_p2 e1_p2 e2_p2 => ?_)
  obtain ⟨w2, s2⟩ := w1.sign p2 f_p2 e1_p2 e2_p2
  have hza : un Z b (Z a) a = Z a := by
    by_cases e : a = b
    · subst e; exact un_s
    · exact un_n e
  have hga : upG G b (G a) a = G a := by
    by_cases e : a = b
    · subst e; exact upG_s
    · exact upG_n e
  refine wa_iconst q_X7_copyTo_24 (v := nI 0) (by decide) ?_
  refine wa_istore_n q_X7_copyTo_25 (by decide) ?_
  refine wa_lv (R_copy_loop (Z := un Z b (Z a)) (G := upG G b (G a)) (C := C) (σ0 := σ) ha hb v4 (fun τ C1 q1 q2 q3 q4 => ⟨rfl, C1, _, _, h.up q1 (fun s x1 x2 => ?_) ⟨?_, ?_, ?_, ?_⟩, q4⟩) hza (Z a) 0 σ_p2 C (by omega) w2 (fun j hj => by omega) (fun j _ => rfl) rO.rf (s1.tr s2)) rfl
  · obtain ⟨y1, y2, y3⟩ := q3 s x1 x2
    exact ⟨un_n x2, upG_n x2, y3⟩
  · rw [upG_s]; exact v1
  · rw [un_s, vl_congr q2]; exact v2
  · rw [un_s]
    refine ⟨fun i hi => by rw [q2 i hi]; exact v3.1 i hi, ?_⟩
    rcases v3.2 with e | e
    · exact Or.inl e
    · by_cases e0 : Z a = 0
      · exact Or.inl e0
      · right; rw [q2 _ (by omega)]; exact e
  · rw [un_s]; exact v4
end ref2
