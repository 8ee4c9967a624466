/-! The reference: powerOfTen, digitsOf, digitOf -/
section ref8
variable {X : en_X} {σ : en_S} {M : Nat → Nat} {O : Int32 × Int32 × Int32 × Int32 × Int32} {C Z : Nat → Nat} {G : Nat → Int32} {V : Nat → Int}
theorem R_pt_zero {ρ σ0 : en_S} {r p n : Nat} {Q : Option Value → en_S → Prop} (hr : r < 140) (hn : n ≤ 319) (hz : Z r = n)
    (k : ∀ (σ1 : en_S) (C1 : Nat → Nat), rR X σ1 M O C1 Z G → (∀ j, j < n → reg C1 r j = 0) → rO C Z G C1 Z G r → mSt M σ0 σ1 → WA X M_X7_powerOfTen ρ 50 [(0, .ref (M 0)), (1, .int (nI r)), (2, .int (nI p))] [] σ1 Q) :
    ∀ (t i : Nat) (σ : en_S) (C1 : Nat → Nat), i + t = n → rR X σ M O C1 Z G → (∀ j, j < i → reg C1 r j = 0) → rO C Z G C1 Z G r → mSt M σ0 σ →
      WA X M_X7_powerOfTen ρ 21 [(3, .int (nI i)), (0, .ref (M 0)), (1, .int (nI r)), (2, .int (nI p))] [] σ Q := by
  intro t
  induction t with
  | zero =>
    intro i σ C1 hit h h1 hO hS
    obtain ⟨a0, a1, a2, a3, n1, n2, n3⟩ := id h
    have e : i = n := by omega
    subst e
    refine wa_iload_n q_X7_powerOfTen_21 rfl ?_
    refine wa_aload_n q_X7_powerOfTen_22 rfl ?_
    refine wa_getf q_X7_powerOfTen_23 f_RX7_14 (by assumption) rfl ?_
    refine wa_iload_n q_X7_powerOfTen_26 rfl ?_
    refine wn_iald q_X7_powerOfTen_27 (by assumption) (by omega) (by omega) ?_
    rw [hz]
    refine wn_icmp_ge q_X7_powerOfTen_28 (by omega) (by omega) (fun hx => ?_) (fun hx => ?_)
    · exact wa_lv (k σ C1 h h1 hO hS) rfl
    · omega
  | succ t ih =>
    intro i σ C1 hit h h1 hO hS
    obtain ⟨a0, a1, a2, a3, n1, n2, n3⟩ := id h
    refine wa_iload_n q_X7_powerOfTen_21 rfl ?_
    refine wa_aload_n q_X7_powerOfTen_22 rfl ?_
    refine wa_getf q_X7_powerOfTen_23 f_RX7_14 (by assumption) rfl ?_
    refine wa_iload_n q_X7_powerOfTen_26 rfl ?_
    refine wn_iald q_X7_powerOfTen_27 (by assumption) (by omega) (by omega) ?_
    rw [hz]
    refine wn_icmp_ge q_X7_powerOfTen_28 (by omega) (by omega) (fun hx => ?_) (fun hx => ?_)
    · omega
    refine wa_aload_n q_X7_powerOfTen_31 rfl ?_
    refine wa_getf q_X7_powerOfTen_32 f_RX7_8 (by assumption) rfl ?_
    refine wa_sipush q_X7_powerOfTen_35 (v := nI 320) (by decide) ?_
    refine wa_iload_n q_X7_powerOfTen_38 rfl ?_
    refine wn_imul q_X7_powerOfTen_39 ?_
    refine wa_iload_n q_X7_powerOfTen_40 rfl ?_
    refine wn_iadd q_X7_powerOfTen_41 ?_
    refine wa_iconst q_X7_powerOfTen_42 (v := nI 0) (by decide) ?_
    refine wn_iast q_X7_powerOfTen_43 (by assumption) (by omega) (by omega) (fun σ_p1 p1 f_p1 e1_p1 e2_p1 => ?_)
    obtain ⟨w1, s1⟩ := h.cell p1 f_p1 e1_p1 e2_p1
    refine wn_iinc q_X7_powerOfTen_44 rfl (by decide) ?_
    refine wa_goto q_X7_powerOfTen_47 ?_
    refine wa_lv (ih (i + 1) σ_p1 _ (by omega) w1 (fun j hj => ?_) (hO.tr (rO.cell (by omega))) (hS.tr s1)) rfl
    rw [reg_u]
    by_cases e : j = i
    · rw [e, un_s]
    · rw [un_n e]; exact h1 j (by omega)
theorem R_pt_top {ρ : en_S} {r p : Nat} {Q : Option Value → en_S → Prop} (hp : p < 2 ^ 31) (k : WA X M_X7_powerOfTen ρ 75 [(3, .int (nI (10 ^ (p % 9)))), (0, .ref (M 0)), (1, .int (nI r)), (2, .int (nI p))] [] σ Q) :
    ∀ (t i : Nat), i + t = p % 9 → WA X M_X7_powerOfTen ρ 55 [(4, .int (nI i)), (3, .int (nI (10 ^ i))), (0, .ref (M 0)), (1, .int (nI r)), (2, .int (nI p))] [] σ Q := by
  intro t
  induction t with
  | zero =>
    intro i hit
    have e : i = p % 9 := by omega
    refine wa_iload q_X7_powerOfTen_55 rfl ?_
    refine wa_iload_n q_X7_powerOfTen_57 rfl ?_
    refine wa_bipush q_X7_powerOfTen_58 (v := nI 9) (by decide) ?_
    refine wn_irem q_X7_powerOfTen_60 (by omega) (by omega) (by omega) ?_
    refine wn_icmp_ge q_X7_powerOfTen_61 (by omega) (by omega) (fun hx => ?_) (fun hx => ?_)
    · rw [← e] at k; exact wa_lv k rfl
    · omega
  | succ t ih =>
    intro i hit
    refine wa_iload q_X7_powerOfTen_55 rfl ?_
    refine wa_iload_n q_X7_powerOfTen_57 rfl ?_
    refine wa_bipush q_X7_powerOfTen_58 (v := nI 9) (by decide) ?_
    refine wn_irem q_X7_powerOfTen_60 (by omega) (by omega) (by omega) ?_
    refine wn_icmp_ge q_X7_powerOfTen_61 (by omega) (by omega) (fun hx => ?_) (fun hx => ?_)
    · omega
    refine wa_iload_n q_X7_powerOfTen_64 rfl ?_
    refine wa_bipush q_X7_powerOfTen_65 (v := nI 10) (by decide) ?_
    refine wn_imul q_X7_powerOfTen_67 ?_
    refine wa_istore_n q_X7_powerOfTen_68 (by decide) ?_
    refine wn_iinc q_X7_powerOfTen_69 rfl (by decide) ?_
    refine wa_goto q_X7_powerOfTen_72 ?_
    rw [← Nat.pow_succ]
    exact wa_lv (ih (i + 1) (by omega)) rfl
theorem R_pten {r p : Nat} (h : rV X σ M O C Z G V) (hr : r < 140) (hp : p ≤ 2700) :
    Calls X M_X7_powerOfTen [.ref (M 0), .int (nI r), .int (nI p)] σ (fun res τ => res = none ∧ ∃ C' Z' G', rV X τ M O C' Z' G' (uV V r (10 ^ p)) ∧ mSt M σ τ) := by
  have hB : BB = 1000000000 := rfl
  obtain ⟨a0, a1, a2, a3, n1, n2, n3⟩ := id h.1
  refine Calls.of rfl (lk rfl) ?_
  refine wa_aload_n q_X7_powerOfTen_0 rfl ?_
  refine wa_getf q_X7_powerOfTen_1 f_RX7_14 (by assumption) rfl ?_
  refine wa_iload_n q_X7_powerOfTen_4 rfl ?_
  refine wa_iload_n q_X7_powerOfTen_5 rfl ?_
  refine wa_bipush q_X7_powerOfTen_6 (v := nI 9) (by decide) ?_
  refine wn_idiv q_X7_powerOfTen_8 (by omega) (by omega) (by omega) ?_
  refine wa_iconst q_X7_powerOfTen_9 (v := nI 1) (by decide) ?_
  refine wn_iadd q_X7_powerOfTen_10 ?_
  refine wn_iast q_X7_powerOfTen_11 (by assumption) (by omega) (by omega) (fun σ_p1 p1 f_p1 e1_p1 e2_p1 => ?_)
  obtain ⟨w1, s1⟩ := h.1.size p1 f_p1 e1_p1 e2_p1
  obtain ⟨b0, b1, b2, b3, -⟩ := id w1
  refine wa_aload_n q_X7_powerOfTen_12 rfl ?_
  refine wa_getf q_X7_powerOfTen_13 f_RX7_17 (by assumption) rfl ?_
  refine wa_iload_n q_X7_powerOfTen_16 rfl ?_
  refine wa_iconst q_X7_powerOfTen_17 (v := nI 1) (by decide) ?_
  refine wn_gast q_X7_powerOfTen_18 (by assumption) (by omega) (fun σ_p2 p2 f_p2 e1_p2 e2_p2 => ?_)
  obtain ⟨w2, s2⟩ := w1.sign p2 f_p2 e1_p2 e2_p2
  refine wa_iconst q_X7_powerOfTen_19 (v := nI 0) (by decide) ?_
  refine wa_istore_n q_X7_powerOfTen_20 (by decide) ?_
  refine wa_lv (R_pt_zero (C := C) (n := p / 9 + 1) (p := p) (σ0 := σ) hr (by omega) un_s (fun σ1 C1 x1 x2 x3 x4 => ?_) (p / 9 + 1) 0 σ_p2 C (by omega) w2 (fun j hj => by omega) rO.rf (s1.tr s2)) rfl
  refine wa_iconst q_X7_powerOfTen_50 (v := nI 1) (by decide) ?_
  refine wa_istore_n q_X7_powerOfTen_51 (by decide) ?_
  refine wa_iconst q_X7_powerOfTen_52 (v := nI 0) (by decide) ?_
  refine wa_istore q_X7_powerOfTen_53 (by decide) ?_
  refine wa_lv (R_pt_top (p := p) (r := r) (by omega) ?_ (p % 9) 0 (by omega)) rfl
  obtain ⟨c0, c1, c2, c3, -⟩ := id x1
  have h9 : 10 ^ (p % 9) ≤ 10 ^ 8 := Nat.pow_le_pow_right (by decide) (by omega)
  have h9' : (10 : Nat) ^ 8 = 100000000 := by decide
  have h9p : 0 < 10 ^ (p % 9) := Nat.pow_pos (by decide)
  refine wa_aload_n q_X7_powerOfTen_75 rfl ?_
  refine wa_getf q_X7_powerOfTen_76 f_RX7_8 (by assumption) rfl ?_
  refine wa_sipush q_X7_powerOfTen_79 (v := nI 320) (by decide) ?_
  refine wa_iload_n q_X7_powerOfTen_82 rfl ?_
  refine wn_imul q_X7_powerOfTen_83 ?_
  refine wa_iload_n q_X7_powerOfTen_84 rfl ?_
  refine wa_bipush q_X7_powerOfTen_85 (v := nI 9) (by decide) ?_
  refine wn_idiv q_X7_powerOfTen_87 (by omega) (by omega) (by omega) ?_
  refine wn_iadd q_X7_powerOfTen_88 ?_
  refine wa_iload_n q_X7_powerOfTen_89 rfl ?_
  refine wn_iast q_X7_powerOfTen_90 (by assumption) (by omega) (by omega) (fun σ_p3 p3 f_p3 e1_p3 e2_p3 => ?_)
  obtain ⟨w3, s3⟩ := x1.cell p3 f_p3 e1_p3 e2_p3
  refine wa_vret q_X7_powerOfTen_91 rfl ?_
  have hreg := reg_u (C := C1) (r := r) (i := p / 9) (x := 10 ^ (p % 9))
  refine ⟨rfl, _, _, _, h.up w3 (fun s y1 y2 => ?_) ⟨?_, ?_, ⟨fun j hj => ?_, Or.inr ?_⟩, ?_⟩, x4.tr s3⟩
  · obtain ⟨z1, z2, z3⟩ := (x3.tr (rO.cell (C := C1) (i := p / 9) (x := 10 ^ (p % 9)) (by omega))) s y1 y2
    exact ⟨un_n y2, upG_n y2, z3⟩
  · rw [upG_s]
    have : (0 : Int) < 10 ^ p := Int.pow_pos (by decide)
    unfold sgI; rw [if_neg (by omega), if_neg (by omega)]; rfl
  · rw [un_s, hreg]
    show vl (un (reg C1 r) (p / 9) (10 ^ (p % 9))) (p / 9) + un (reg C1 r) (p / 9) (10 ^ (p % 9)) (p / 9) * BB ^ (p / 9) = _
    rw [un_s, vl_zero (fun j hj => by rw [un_n (by omega)]; exact x2 j (by omega)), Nat.zero_add, pw_ten, ← Nat.pow_add, Int.natAbs_pow, show p % 9 + 9 * (p / 9) = p by omega]
    rfl
  · rw [un_s] at hj
    rw [hreg]
    by_cases e : j = p / 9
    · rw [e, un_s]; omega
    · rw [un_n e, x2 j (by omega)]; exact BB_pos
  · rw [un_s, show p / 9 + 1 - 1 = p / 9 by omega, hreg, un_s]; omega
  · rw [un_s]; omega
theorem R_dof_loop {ρ : en_S} {x n : Nat} {Q : Option Value → en_S → Prop} {lv0 : List (Nat × Value)} (hx : x < BB) (hn : n ≤ 3000) (hlv : lv0 = [(0, .ref (M 0))]) (k : ∀ c, isD x c → c ≤ 9 → WA X M_X7_digitsOf ρ 58 [(2, .int (nI (n + c)))] [] σ Q) :
    ∀ (t i : Nat), i + t = 9 → (i = 0 ∨ 10 ^ (i - 1) ≤ x) → WA X M_X7_digitsOf ρ 43 [(3, .int (nI (x / 10 ^ i))), (2, .int (nI (n + i)))] [] σ Q := by
  have hB : BB = 1000000000 := rfl
  intro t
  induction t with
  | zero =>
    intro i hit h1
    have e : i = 9 := by omega
    subst e
    have e0 : x / 10 ^ 9 = 0 := Nat.div_eq_of_lt hx
    rw [e0]
    refine wa_iload_n q_X7_digitsOf_43 rfl ?_
    refine wn_if_le q_X7_digitsOf_44 (by omega) (fun hc => ?_) (fun hc => ?_)
    · exact wa_lv (k 9 ⟨hx, h1⟩ (by decide)) rfl
    · omega
  | succ t ih =>
    intro i hit h1
    have hle : x / 10 ^ i ≤ x := Nat.div_le_self _ _
    have hpi : 0 < 10 ^ i := Nat.pow_pos (by decide)
    have hdd : x / 10 ^ (i + 1) = x / 10 ^ i / 10 := by rw [Nat.pow_succ, ← Nat.div_div_eq_div_mul]
    have hih := ih (i + 1) (by omega)
    rw [hdd] at hih
    obtain ⟨u, hu⟩ : ∃ u, u = x / 10 ^ i := ⟨_, rfl⟩
    rw [← hu] at hle hih ⊢
    refine wa_iload_n q_X7_digitsOf_43 rfl ?_
    refine wn_if_le q_X7_digitsOf_44 (by omega) (fun hc => ?_) (fun hc => ?_)
    · refine wa_lv (k i ⟨?_, h1⟩ (by omega)) rfl
      rcases Nat.lt_or_ge x (10 ^ i) with q | q
      · exact q
      · have := Nat.div_pos q hpi; omega
    · refine wn_iinc q_X7_digitsOf_47 rfl (by decide) ?_
      refine wa_iload_n q_X7_digitsOf_50 rfl ?_
      refine wa_bipush q_X7_digitsOf_51 (v := nI 10) (by decide) ?_
      refine wn_idiv q_X7_digitsOf_53 (by omega) (by omega) (by omega) ?_
      refine wa_istore_n q_X7_digitsOf_54 (by decide) ?_
      refine wa_goto q_X7_digitsOf_55 ?_
      refine wa_lv (hih (Or.inr ?_)) rfl
      rw [show i + 1 - 1 = i by omega]
      rcases Nat.lt_or_ge x (10 ^ i) with q | q
      · have := Nat.div_eq_of_lt q; omega
      · exact q
/-- how many digits, 1 of 0 -/
theorem R_dof {r : Nat} (h : rV X σ M O C Z G V) (hr : r < 140) : Calls X M_X7_digitsOf [.ref (M 0), .int (nI r)] σ (fun res τ => (∃ c, res = some (.int (nI c)) ∧ c ≤ 3000 ∧ ((V r = 0 ∧ c = 1) ∨ (V r ≠ 0 ∧ isD (V r).natAbs c))) ∧ τ = σ) := by
  have hB : BB = 1000000000 := rfl
  obtain ⟨a0, a1, a2, a3, n1, n2, n3⟩ := id h.1
  obtain ⟨v1, v2, v3, v4⟩ := h.2 r hr
  have hz := nrm_zero v3
  refine Calls.of rfl (lk rfl) ?_
  refine wa_aload_n q_X7_digitsOf_0 rfl ?_
  refine wa_getf q_X7_digitsOf_1 f_RX7_14 (by assumption) rfl ?_
  refine wa_iload_n q_X7_digitsOf_4 rfl ?_
  refine wn_iald q_X7_digitsOf_5 (by assumption) (by omega) (by omega) ?_
  refine wn_if_ne q_X7_digitsOf_6 (by omega) (fun hx => ?_) (fun hx => ?_)
  · have e0 : 320 * r + Z r - 1 = 320 * r + (Z r - 1) := by omega
    have hd : reg C r (Z r - 1) < BB := v3.1 _ (by omega)
    have hcell : C (320 * r + (Z r - 1)) = reg C r (Z r - 1) := rfl
    refine wa_bipush q_X7_digitsOf_11 (v := nI 9) (by decide) ?_
    refine wa_aload_n q_X7_digitsOf_13 rfl ?_
    refine wa_getf q_X7_digitsOf_14 f_RX7_14 (by assumption) rfl ?_
    refine wa_iload_n q_X7_digitsOf_17 rfl ?_
    refine wn_iald q_X7_digitsOf_18 (by assumption) (by omega) (by omega) ?_
    refine wa_iconst q_X7_digitsOf_19 (v := nI 1) (by decide) ?_
    refine wn_isub q_X7_digitsOf_20 (by omega) ?_
    refine wn_imul q_X7_digitsOf_21 ?_
    refine wa_istore_n q_X7_digitsOf_22 (by decide) ?_
    refine wa_aload_n q_X7_digitsOf_23 rfl ?_
    refine wa_getf q_X7_digitsOf_24 f_RX7_8 (by assumption) rfl ?_
    refine wa_sipush q_X7_digitsOf_27 (v := nI 320) (by decide) ?_
    refine wa_iload_n q_X7_digitsOf_30 rfl ?_
    refine wn_imul q_X7_digitsOf_31 ?_
    refine wa_aload_n q_X7_digitsOf_32 rfl ?_
    refine wa_getf q_X7_digitsOf_33 f_RX7_14 (by assumption) rfl ?_
    refine wa_iload_n q_X7_digitsOf_36 rfl ?_
    refine wn_iald q_X7_digitsOf_37 (by assumption) (by omega) (by omega) ?_
    refine wn_iadd q_X7_digitsOf_38 ?_
    refine wa_iconst q_X7_digitsOf_39 (v := nI 1) (by decide) ?_
    refine wn_isub q_X7_digitsOf_40 (by omega) ?_
    rw [e0]
    refine wn_iald q_X7_digitsOf_41 (by assumption) (by omega) (by omega) ?_
    rw [hcell]
    refine wa_istore_n q_X7_digitsOf_42 (by decide) ?_
    have hL := R_dof_loop (X := X) (M := M) (σ := σ) (ρ := σ) (x := reg C r (Z r - 1)) (n := 9 * (Z r - 1)) (Q := fun res τ => (∃ c, res = some (.int (nI c)) ∧ c ≤ 3000 ∧ ((V r = 0 ∧ c = 1) ∨ (V r ≠ 0 ∧ isD (V r).natAbs c))) ∧ τ = σ) hd (by omega) rfl (fun c c1 c2 => ?_) 9 0 rfl (Or.inl rfl)
    · rw [Nat.pow_zero, Nat.div_one] at hL
      exact wa_lv hL rfl
    · refine wa_iload_n q_X7_digitsOf_58 rfl ?_
      refine wa_iret q_X7_digitsOf_59 rfl ?_
      refine ⟨⟨9 * (Z r - 1) + c, rfl, by omega, Or.inr ⟨fun q => ?_, ?_⟩⟩, rfl⟩
      · have := hz.mp (by rw [v2, q]; rfl); omega
      · rw [← v2]
        obtain ⟨m, hm⟩ : ∃ m, Z r = m + 1 := ⟨Z r - 1, by omega⟩
        rw [hm] at c1 ⊢
        rw [show m + 1 - 1 = m by omega] at c1 ⊢
        show isD (vl (reg C r) m + reg C r m * BB ^ m) (9 * m + c)
        have hlow := vl_lt (d := reg C r) (n := m) (fun i hi => v3.1 i (by omega))
        have htop : reg C r m ≠ 0 := by
          have := v3.2.resolve_left (by omega)
          rw [hm] at this; exact this
        have hc0 : c ≠ 0 := fun q => by
          have := c1.1
          rw [q] at this
          have : (10 : Nat) ^ 0 = 1 := rfl
          omega
        have c2' := c1.2.resolve_left hc0
        have c1' := c1.1
        generalize reg C r m = tt at *
        generalize vl (reg C r) m = ll at *
        have e9 : (10 : Nat) ^ (9 * m + c) = 10 ^ c * BB ^ m := by rw [pw_ten, ← Nat.pow_add, Nat.add_comm]
        have e8 : (10 : Nat) ^ (9 * m + c - 1) = 10 ^ (c - 1) * BB ^ m := by rw [pw_ten, ← Nat.pow_add]; congr 1; omega
        refine ⟨?_, Or.inr ?_⟩
        · rw [e9]
          have : (tt + 1) * BB ^ m ≤ 10 ^ c * BB ^ m := Nat.mul_le_mul_right _ c1'
          rw [Nat.add_mul, Nat.one_mul] at this
          omega
        · rw [e8]
          have : 10 ^ (c - 1) * BB ^ m ≤ tt * BB ^ m := Nat.mul_le_mul_right _ c2'
          omega
  · refine wa_iconst q_X7_digitsOf_9 (v := nI 1) (by decide) ?_
    refine wa_iret q_X7_digitsOf_10 rfl ?_
    have : V r = 0 := by have := hz.mpr hx; rw [v2] at this; omega
    exact ⟨⟨1, rfl, by decide, Or.inl ⟨this, rfl⟩⟩, rfl⟩
theorem R_dig_loop {ρ : en_S} {r x i : Nat} {Q : Option Value → en_S → Prop} (hi : i < 2 ^ 31) (hx : x < BB) (k : WA X M_X7_digitOf ρ 54 [(3, .int (nI (x / 10 ^ (i % 9)))), (2, .int (nI i))] [] σ Q) :
    ∀ (t j : Nat), j + t = i % 9 → WA X M_X7_digitOf ρ 34 [(4, .int (nI j)), (3, .int (nI (x / 10 ^ j))), (2, .int (nI i))] [] σ Q := by
  have hB : BB = 1000000000 := rfl
  intro t
  induction t with
  | zero =>
    intro j hjt
    have e : j = i % 9 := by omega
    refine wa_iload q_X7_digitOf_34 rfl ?_
    refine wa_iload_n q_X7_digitOf_36 rfl ?_
    refine wa_bipush q_X7_digitOf_37 (v := nI 9) (by decide) ?_
    refine wn_irem q_X7_digitOf_39 (by omega) (by omega) (by omega) ?_
    refine wn_icmp_ge q_X7_digitOf_40 (by omega) (by omega) (fun hc => ?_) (fun hc => ?_)
    · rw [← e] at k; exact wa_lv k rfl
    · omega
  | succ t ih =>
    intro j hjt
    have hle : x / 10 ^ j ≤ x := Nat.div_le_self _ _
    have hdd : x / 10 ^ (j + 1) = x / 10 ^ j / 10 := by rw [Nat.pow_succ, ← Nat.div_div_eq_div_mul]
    have hih := ih (j + 1) (by omega)
    rw [hdd] at hih
    refine wa_iload q_X7_digitOf_34 rfl ?_
    refine wa_iload_n q_X7_digitOf_36 rfl ?_
    refine wa_bipush q_X7_digitOf_37 (v := nI 9) (by decide) ?_
    refine wn_irem q_X7_digitOf_39 (by omega) (by omega) (by omega) ?_
    refine wn_icmp_ge q_X7_digitOf_40 (by omega) (by omega) (fun hc => ?_) (fun hc => ?_)
    · omega
    refine wa_iload_n q_X7_digitOf_43 rfl ?_
    refine wa_bipush q_X7_digitOf_44 (v := nI 10) (by decide) ?_
    refine wn_idiv q_X7_digitOf_46 (by omega) (by omega) (by omega) ?_
    refine wa_istore_n q_X7_digitOf_47 (by decide) ?_
    refine wn_iinc q_X7_digitOf_48 rfl (by decide) ?_
    refine wa_goto q_X7_digitOf_51 ?_
    exact wa_lv hih rfl
theorem R_dig {r i : Nat} (h : rV X σ M O C Z G V) (hr : r < 140) (hi : i < 2 ^ 31) : Calls X M_X7_digitOf [.ref (M 0), .int (nI r), .int (nI i)] σ (fun res τ => res = some (.int (nI ((V r).natAbs / 10 ^ i % 10))) ∧ τ = σ) := by
  have hB : BB = 1000000000 := rfl
  obtain ⟨a0, a1, a2, a3, n1, n2, n3⟩ := id h.1
  obtain ⟨v1, v2, v3, v4⟩ := h.2 r hr
  have hdig := vl_dig (q := i / 9) v3.1
  rw [v2] at hdig
  have hval : (V r).natAbs / BB ^ (i / 9) % BB / 10 ^ (i % 9) % 10 = (V r).natAbs / 10 ^ i % 10 := by
    rw [dig_low (by omega), pw_ten, Nat.div_div_eq_div_mul, ← Nat.pow_add, show 9 * (i / 9) + i % 9 = i by omega]
  refine Calls.of rfl (lk rfl) ?_
  refine wa_iload_n q_X7_digitOf_0 rfl ?_
  refine wa_bipush q_X7_digitOf_1 (v := nI 9) (by decide) ?_
  refine wn_idiv q_X7_digitOf_3 (by omega) (by omega) (by omega) ?_
  refine wa_aload_n q_X7_digitOf_4 rfl ?_
  refine wa_getf q_X7_digitOf_5 f_RX7_14 (by assumption) rfl ?_
  refine wa_iload_n q_X7_digitOf_8 rfl ?_
  refine wn_iald q_X7_digitOf_9 (by assumption) (by omega) (by omega) ?_
  refine wn_icmp_lt q_X7_digitOf_10 (by omega) (by omega) (fun hx => ?_) (fun hx => ?_)
  · rw [if_pos hx] at hdig
    have hcell : C (320 * r + i / 9) = reg C r (i / 9) := rfl
    have hd : reg C r (i / 9) < BB := v3.1 _ hx
    refine wa_aload_n q_X7_digitOf_15 rfl ?_
    refine wa_getf q_X7_digitOf_16 f_RX7_8 (by assumption) rfl ?_
    refine wa_sipush q_X7_digitOf_19 (v := nI 320) (by decide) ?_
    refine wa_iload_n q_X7_digitOf_22 rfl ?_
    refine wn_imul q_X7_digitOf_23 ?_
    refine wa_iload_n q_X7_digitOf_24 rfl ?_
    refine wa_bipush q_X7_digitOf_25 (v := nI 9) (by decide) ?_
    refine wn_idiv q_X7_digitOf_27 (by omega) (by omega) (by omega) ?_
    refine wn_iadd q_X7_digitOf_28 ?_
    refine wn_iald q_X7_digitOf_29 a1 (by omega) (by decide) ?_
    rw [hcell]
    refine wa_istore_n q_X7_digitOf_30 (by decide) ?_
    refine wa_iconst q_X7_digitOf_31 (v := nI 0) (by decide) ?_
    refine wa_istore q_X7_digitOf_32 (by decide) ?_
    have hL := R_dig_loop (X := X) (σ := σ) (ρ := σ) (r := r) (x := reg C r (i / 9)) (i := i) (Q := fun res τ => res = some (.int (nI ((V r).natAbs / 10 ^ i % 10))) ∧ τ = σ) hi hd ?_ (i % 9) 0 (by omega)
    · rw [Nat.pow_zero, Nat.div_one] at hL
      exact wa_lv hL rfl
    · have hle : reg C r (i / 9) / 10 ^ (i % 9) ≤ reg C r (i / 9) := Nat.div_le_self _ _
      refine wa_iload_n q_X7_digitOf_54 rfl ?_
      refine wa_bipush q_X7_digitOf_55 (v := nI 10) (by decide) ?_
      refine wn_irem q_X7_digitOf_57 (by omega) (by omega) (by omega) ?_
      refine wa_iret q_X7_digitOf_58 rfl ?_
      rw [hdig, hval]
      exact ⟨rfl, rfl⟩
  · rw [if_neg (by omega)] at hdig
    refine wa_iconst q_X7_digitOf_13 (v := nI 0) (by decide) ?_
    refine wa_iret q_X7_digitOf_14 rfl ?_
    rw [← hval, ← hdig]
    refine ⟨?_, rfl⟩
    rw [Nat.zero_div, Nat.zero_mod]
end ref8
