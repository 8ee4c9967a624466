/-! The reference: timesSmall, bySmall -/
theorem tm_step {x v c P s A' B q c2 : Nat} (h : s + c * P = A' * v) (hx : x * v + c = c2 * B + q) : (s + q * P) + c2 * (P * B) = (A' + x * P) * v := by
  have : (x * v + c) * P = (c2 * B + q) * P := by rw [hx]
  grind
section ref6
variable {X : en_X} {σ : en_S} {M : Nat → Nat} {O : Int32 × Int32 × Int32 × Int32 × Int32} {C Z : Nat → Nat} {G : Nat → Int32} {V : Nat → Int}
set_option maxHeartbeats 1000000 in
theorem R_mulS_loop {ρ σ0 : en_S} {r n v : Nat} {Q : Option Value → en_S → Prop} (hr : r < 140) (hn : n ≤ 310) (hz : Z r = n) (hv0 : 0 < v) (hv1 : v ≤ BB) (d1 : ∀ i, i < n → reg C r i < BB)
    (k : ∀ (τ : en_S) (C1 : Nat → Nat) (c : Nat), rR X τ M O C1 Z G → c < v → (∀ j, j < n → reg C1 r j < BB) → vl (reg C1 r) n + c * BB ^ n = vl (reg C r) n * v → rO C Z G C1 Z G r → mSt M σ0 τ → WA X M_X7_timesSmall ρ 72 [(0, .ref (M 0)), (1, .int (nI r)), (2, .long (lN v)), (4, .long (lN c)), (6, .int (nI n))] [] τ Q) :
    ∀ (t i c : Nat) (σ : en_S) (C1 : Nat → Nat), i + t = n → rR X σ M O C1 Z G → c < v → (∀ j, j < i → reg C1 r j < BB) → vl (reg C1 r) i + c * BB ^ i = vl (reg C r) i * v → (∀ j, i ≤ j → j < 320 → reg C1 r j = reg C r j) → rO C Z G C1 Z G r → mSt M σ0 σ →
      WA X M_X7_timesSmall ρ 6 [(0, .ref (M 0)), (1, .int (nI r)), (2, .long (lN v)), (4, .long (lN c)), (6, .int (nI i))] [] σ Q := by
  have hB : BB = 1000000000 := rfl
  intro t
  induction t with
  | zero =>
    intro i c σ C1 hit h hc hd hv hk hO hS
    obtain ⟨a0, a1, a2, a3, n1, n2, n3⟩ := id h
    have e : i = n := by omega
    subst e
    refine wa_iload q_X7_timesSmall_6 rfl ?_
    refine wa_aload_n q_X7_timesSmall_8 rfl ?_
    refine wa_getf q_X7_timesSmall_9 f_RX7_14 (by assumption) rfl ?_
    refine wa_iload_n q_X7_timesSmall_12 rfl ?_
    refine wn_iald q_X7_timesSmall_13 (by assumption) (by omega) (by omega) ?_
    rw [hz]
    refine wn_icmp_ge q_X7_timesSmall_14 (by omega) (by omega) (fun hx => ?_) (fun hx => ?_)
    · exact wa_lv (k σ C1 c h hc hd hv hO hS) rfl
    · omega
  | succ t ih =>
    intro i c σ C1 hit h hc hd hv hk hO hS
    obtain ⟨a0, a1, a2, a3, n1, n2, n3⟩ := id h
    have rd : C1 (320 * r + i) = reg C r i := hk i (Nat.le_refl _) (by omega)
    have px : reg C r i < BB := d1 i (by omega)
    obtain ⟨x, hx0⟩ : ∃ x, x = reg C r i := ⟨_, rfl⟩
    rw [← hx0] at rd px
    have m1 : x * v ≤ 999999999 * v := Nat.mul_le_mul_right v (by omega)
    have m2 : 999999999 * v ≤ 999999999 * 1000000000 := Nat.mul_le_mul_left _ (by omega)
    obtain ⟨xv, hxv⟩ : ∃ xv, xv = x * v := ⟨_, rfl⟩
    refine wa_iload q_X7_timesSmall_6 rfl ?_
    refine wa_aload_n q_X7_timesSmall_8 rfl ?_
    refine wa_getf q_X7_timesSmall_9 f_RX7_14 (by assumption) rfl ?_
    refine wa_iload_n q_X7_timesSmall_12 rfl ?_
    refine wn_iald q_X7_timesSmall_13 (by assumption) (by omega) (by omega) ?_
    rw [hz]
    refine wn_icmp_ge q_X7_timesSmall_14 (by omega) (by omega) (fun hx => ?_) (fun hx => ?_)
    · omega
    refine wa_aload_n q_X7_timesSmall_17 rfl ?_
    refine wa_getf q_X7_timesSmall_18 f_RX7_8 (by assumption) rfl ?_
    refine wa_sipush q_X7_timesSmall_21 (v := nI 320) (by decide) ?_
    refine wa_iload_n q_X7_timesSmall_24 rfl ?_
    refine wn_imul q_X7_timesSmall_25 ?_
    refine wa_iload q_X7_timesSmall_26 rfl ?_
    refine wn_iadd q_X7_timesSmall_28 ?_
    refine wn_iald q_X7_timesSmall_29 (by assumption) (by omega) (by omega) ?_
    rw [rd]
    refine wn_i2l q_X7_timesSmall_30 (by omega) ?_
    refine wa_lload_n q_X7_timesSmall_31 rfl ?_
    refine wn_lmul q_X7_timesSmall_32 ?_
    refine wa_lload q_X7_timesSmall_33 rfl ?_
    refine wn_ladd q_X7_timesSmall_35 ?_
    rw [← hxv]
    rw [← hxv] at m1
    refine wa_lstore q_X7_timesSmall_36 (by decide) ?_
    refine wa_aload_n q_X7_timesSmall_38 rfl ?_
    refine wa_getf q_X7_timesSmall_39 f_RX7_8 (by assumption) rfl ?_
    refine wa_sipush q_X7_timesSmall_42 (v := nI 320) (by decide) ?_
    refine wa_iload_n q_X7_timesSmall_45 rfl ?_
    refine wn_imul q_X7_timesSmall_46 ?_
    refine wa_iload q_X7_timesSmall_47 rfl ?_
    refine wn_iadd q_X7_timesSmall_49 ?_
    refine wa_lload q_X7_timesSmall_50 rfl ?_
    refine wa_ldc2 q_X7_timesSmall_52 (v := lN 1000000000) k_RX7_47 ?_
    refine wn_lrem q_X7_timesSmall_55 (by omega) (by omega) (by omega) ?_
    refine wn_l2i q_X7_timesSmall_56 ?_
    refine wn_iast q_X7_timesSmall_57 (by assumption) (by omega) (by omega) (fun σ_p1 p1 f_p1 e1_p1 e2_p1 => ?_)
    obtain ⟨w1, s1⟩ := h.cell p1 f_p1 e1_p1 e2_p1
    refine wa_lload q_X7_timesSmall_58 rfl ?_
    refine wa_ldc2 q_X7_timesSmall_60 (v := lN 1000000000) k_RX7_47 ?_
    refine wn_ldiv q_X7_timesSmall_63 (by omega) (by omega) (by omega) ?_
    refine wa_lstore q_X7_timesSmall_64 (by decide) ?_
    refine wn_iinc q_X7_timesSmall_66 rfl (by decide) ?_
    refine wa_goto q_X7_timesSmall_69 ?_
    have hq := Nat.div_add_mod (xv + c) 1000000000
    have hml := Nat.mod_lt (xv + c) (show 0 < 1000000000 by decide)
    have hc2 : (xv + c) / 1000000000 < v := Nat.div_lt_of_lt_mul (by omega)
    refine wa_lv (ih (i + 1) ((xv + c) / 1000000000) σ_p1 _ (by omega) w1 hc2 (fun j hj => ?_) ?_ (fun j j1 j2 => ?_) (hO.tr (rO.cell (by omega))) (hS.tr s1)) rfl
    · rw [reg_u]
      by_cases e : j = i
      · rw [e, un_s, hB]; exact hml
      · rw [un_n e]; exact hd j (by omega)
    · rw [reg_u]
      show vl (un (reg C1 r) i _) i + un (reg C1 r) i _ i * BB ^ i + (xv + c) / 1000000000 * BB ^ (i + 1) = (vl (reg C r) i + reg C r i * BB ^ i) * v
      rw [un_s, vl_congr (e := reg C1 r) (fun j hj => un_n (by omega)), ← hx0, Nat.pow_succ]
      exact tm_step (P := BB ^ i) (B := BB) hv (by rw [← hxv, hB]; omega)
    · rw [reg_u, un_n (by omega)]; exact hk j (by omega) j2
theorem R_mulS {r v : Nat} (h : rV X σ M O C Z G V) (hr : r < 140) (hv0 : 0 < v) (hv1 : v ≤ BB) (zr : (V r).natAbs < BB ^ 300) :
    Calls X M_X7_timesSmall [.ref (M 0), .int (nI r), .long (lN v)] σ (fun res τ => res = none ∧ ∃ C' Z', rV X τ M O C' Z' G (uV V r (V r * v)) ∧ mSt M σ τ) := by
  have hB : BB = 1000000000 := rfl
  obtain ⟨v1, v2, v3, v4⟩ := h.2 r hr
  have hz : Z r ≤ 300 := nrm_le v3 (by rw [v2]; exact zr)
  have esg : sgI (V r * (v : Int)) = sgI (V r) := by
    rw [sgI_mul, sg_pos hv0, Int32.mul_one]
  have ena : (V r * (v : Int)).natAbs = (V r).natAbs * v := by rw [Int.natAbs_mul, Int.natAbs_natCast]
  have e0 : (0 : Int64) = lN 0 := by decide
  refine Calls.of rfl (lk rfl) ?_
  refine wa_lconst q_X7_timesSmall_0 (v := lN 0) (by decide) ?_
  refine wa_lstore q_X7_timesSmall_1 (by decide) ?_
  refine wa_iconst q_X7_timesSmall_3 (v := nI 0) (by decide) ?_
  refine wa_istore q_X7_timesSmall_4 (by decide) ?_
  refine wa_lv (R_mulS_loop (C := C) (Z := Z) (G := G) (n := Z r) (v := v) (σ0 := σ) hr (by omega) rfl hv0 hv1 v3.1 (fun τ C1 c x1 x2 x3 x4 x5 x6 => ?_) (Z r) 0 0 σ C (by omega) h.1 hv0 (fun j hj => by omega) (by show 0 + 0 * 1 = 0 * v; omega) (fun _ _ _ => rfl) rO.rf mSt.rf) rfl
  rw [v2, ← ena] at x4
  obtain ⟨b0, b1, b2, b3, -⟩ := id x1
  -- the last test: v is not 0
  have fin : ∀ (τ2 : en_S) (C2 Z2 : Nat → Nat), rV X τ2 M O C2 Z2 G (uV V r (V r * v)) → mSt M σ τ2 → WA X M_X7_timesSmall σ 109 [(0, .ref (M 0)), (1, .int (nI r)), (2, .long (lN v)), (4, .long (lN c)), (6, .int (nI (Z r)))] [] τ2 (fun res τ => res = none ∧ ∃ C' Z', rV X τ M O C' Z' G (uV V r (V r * v)) ∧ mSt M σ τ) := by
    intro τ2 C2 Z2 y1 y2
    refine wa_lload_n q_X7_timesSmall_109 rfl ?_
    refine wa_lconst q_X7_timesSmall_110 (v := lN 0) (by decide) ?_
    refine wn_lcmp_ne q_X7_timesSmall_111 q_X7_timesSmall_112 (by omega) (by omega) (fun hq => ?_) (fun hq => ?_)
    · refine wa_vret q_X7_timesSmall_126 rfl ?_
      exact ⟨rfl, C2, Z2, y1, y2⟩
    · omega
  refine wa_lload q_X7_timesSmall_72 rfl ?_
  refine wa_lconst q_X7_timesSmall_74 (v := lN 0) (by decide) ?_
  refine wn_lcmp_le q_X7_timesSmall_75 q_X7_timesSmall_76 (by omega) (by decide) (fun hq => ?_) (fun hq => ?_)
  · have hc0 : c = 0 := by omega
    subst hc0
    rw [Nat.zero_mul, Nat.add_zero] at x4
    refine wa_lv (fin τ C1 Z (h.up x1 x5 ⟨by rw [esg]; exact v1, x4, ⟨x3, ?_⟩, v4⟩) x6) rfl
    by_cases e : Z r = 0
    · exact Or.inl e
    · right
      refine top_nz x3 (by omega) ?_
      rw [x4, ena]
      have h1 := vl_ge1 v3 (by omega)
      rw [v2] at h1
      exact Nat.le_trans h1 (Nat.le_mul_of_pos_right _ hv0)
  · refine wa_aload_n q_X7_timesSmall_79 rfl ?_
    refine wa_getf q_X7_timesSmall_80 f_RX7_8 (by assumption) rfl ?_
    refine wa_sipush q_X7_timesSmall_83 (v := nI 320) (by decide) ?_
    refine wa_iload_n q_X7_timesSmall_86 rfl ?_
    refine wn_imul q_X7_timesSmall_87 ?_
    refine wa_aload_n q_X7_timesSmall_88 rfl ?_
    refine wa_getf q_X7_timesSmall_89 f_RX7_14 (by assumption) rfl ?_
    refine wa_iload_n q_X7_timesSmall_92 rfl ?_
    refine wn_iald q_X7_timesSmall_93 (by assumption) (by omega) (by omega) ?_
    refine wn_iadd q_X7_timesSmall_94 ?_
    refine wa_lload q_X7_timesSmall_95 rfl ?_
    refine wn_l2i q_X7_timesSmall_97 ?_
    refine wn_iast q_X7_timesSmall_98 (by assumption) (by omega) (by omega) (fun σ_p1 p1 f_p1 e1_p1 e2_p1 => ?_)
    obtain ⟨w1, s1⟩ := x1.cell p1 f_p1 e1_p1 e2_p1
    obtain ⟨c0, c1, c2, c3, -⟩ := id w1
    refine wa_aload_n q_X7_timesSmall_99 rfl ?_
    refine wa_getf q_X7_timesSmall_100 f_RX7_14 (by assumption) rfl ?_
    refine wa_iload_n q_X7_timesSmall_103 rfl ?_
    refine wa_dup2 q_X7_timesSmall_104 rfl rfl ?_
    refine wn_iald q_X7_timesSmall_105 (by assumption) (by omega) (by omega) ?_
    refine wa_iconst q_X7_timesSmall_106 (v := nI 1) (by decide) ?_
    refine wn_iadd q_X7_timesSmall_107 ?_
    refine wn_iast q_X7_timesSmall_108 (by assumption) (by omega) (by omega) (fun σ_p2 p2 f_p2 e1_p2 e2_p2 => ?_)
    obtain ⟨w2, s2⟩ := w1.size p2 f_p2 e1_p2 e2_p2
    have hreg := reg_u (C := C1) (r := r) (i := Z r) (x := c)
    refine wa_lv (fin σ_p2 _ _ (h.up w2 (x5.tr ((rO.cell (by omega)).tr rO.size)) ⟨by rw [esg]; exact v1, ?_, ⟨fun j hj => ?_, Or.inr ?_⟩, by rw [un_s]; omega⟩) (x6.tr (s1.tr s2))) rfl
    · rw [un_s, hreg]
      show vl (un (reg C1 r) (Z r) c) (Z r) + un (reg C1 r) (Z r) c (Z r) * BB ^ Z r = _
      rw [un_s, vl_congr (e := reg C1 r) (fun j hj => un_n (by omega))]; exact x4
    · rw [un_s] at hj
      rw [hreg]
      by_cases e : j = Z r
      · rw [e, un_s]; omega
      · rw [un_n e]; exact x3 j (by omega)
    · rw [un_s, show Z r + 1 - 1 = Z r by omega, hreg, un_s]; omega
set_option maxHeartbeats 1000000 in
theorem R_divS_loop {ρ σ0 : en_S} {r n f : Nat} {Q : Option Value → en_S → Prop} (hr : r < 140) (hn : n ≤ 319) (h0 : 0 < f) (hf : f ≤ BB) (hd : ∀ i, i < n → reg C r i < BB)
    (k : ∀ (τ : en_S) (C1 : Nat → Nat), rR X τ M O C1 Z G → (∀ j, j < n → reg C1 r j < BB) → vl (reg C1 r) n = vl (reg C r) n / f → rO C Z G C1 Z G r → mSt M σ0 τ → WA X M_X7_bySmall ρ 71 [(4, .long (lN (vl (reg C r) n % f))), (0, .ref (M 0)), (1, .int (nI r))] [] τ Q) :
    ∀ (t l : Nat) (σ : en_S) (C1 : Nat → Nat), t ≤ n → l < f → rR X σ M O C1 Z G → (∀ j, t ≤ j → j < n → reg C1 r j < BB) → (∀ j, j < t → reg C1 r j = reg C r j) → vl (fun j => reg C r (t + j)) (n - t) = f * vl (fun j => reg C1 r (t + j)) (n - t) + l → rO C Z G C1 Z G r → mSt M σ0 σ →
      WA X M_X7_bySmall ρ 13 [(6, .int (iZ ((t : Int) - 1))), (4, .long (lN l)), (2, .long (lN f)), (0, .ref (M 0)), (1, .int (nI r))] [] σ Q := by
  have hB : BB = 1000000000 := rfl
  intro t
  induction t with
  | zero =>
    intro l σ C1 ht hl h h1 h2 h3 hO hS
    refine wa_iload q_X7_bySmall_13 rfl ?_
    refine wa_if_lt q_X7_bySmall_15 (fun hc => ?_) (fun hc => absurd (by decide) hc)
    simp only [Nat.zero_add, Nat.sub_zero] at h3
    have e1 : vl (reg C r) n / f = vl (reg C1 r) n := by
      rw [h3, Nat.mul_add_div h0, Nat.div_eq_of_lt hl, Nat.add_zero]
    have e2 : vl (reg C r) n % f = l := by
      rw [h3, Nat.mul_add_mod, Nat.mod_eq_of_lt hl]
    rw [e1, e2] at k
    exact wa_lv (k σ C1 h (fun j hj => h1 j (Nat.zero_le _) hj) rfl hO hS) rfl
  | succ t ih =>
    intro l σ C1 ht hl h h1 h2 h3 hO hS
    obtain ⟨a0, a1, a2, a3, n1, n2, n3⟩ := id h
    have e0 : iZ (((t + 1 : Nat) : Int) - 1) = nI t := by rw [nI_iZ]; congr 1; omega
    rw [e0]
    have hdt : C1 (320 * r + t) = reg C r t := h2 t (by omega)
    have hdl := hd t (by omega)
    obtain ⟨x, hx0⟩ : ∃ x, x = reg C r t := ⟨_, rfl⟩
    rw [← hx0] at hdt hdl
    have hb : l * 1000000000 + 1000000000 ≤ f * 1000000000 := by rw [← Nat.succ_mul]; exact Nat.mul_le_mul_right _ hl
    have hf9 : f * 1000000000 ≤ 1000000000 * 1000000000 := Nat.mul_le_mul_right _ hf
    have hd9 : x < 1000000000 := hdl
    obtain ⟨L, hL⟩ : ∃ L, L = l * 1000000000 := ⟨_, rfl⟩
    obtain ⟨F, hF⟩ : ∃ F, F = f * 1000000000 := ⟨_, rfl⟩
    rw [← hL, ← hF] at hb
    rw [← hF] at hf9
    have hf8 : f < 2 ^ 63 := by omega
    have hq9 : (L + x) / f < BB := Nat.div_lt_of_lt_mul (by rw [hB, ← hF]; omega)
    refine wa_iload q_X7_bySmall_13 rfl ?_
    refine wn_if_lt q_X7_bySmall_15 (by omega) (fun hc => ?_) (fun hc => ?_)
    · exact absurd hc id
    · refine wa_lload q_X7_bySmall_18 rfl ?_
      refine wa_ldc2 q_X7_bySmall_20 (v := lN 1000000000) k_RX7_47 ?_
      refine wn_lmul q_X7_bySmall_23 ?_
      rw [← hL]
      refine wa_aload_n q_X7_bySmall_24 rfl ?_
      refine wa_getf q_X7_bySmall_25 f_RX7_8 (by assumption) rfl ?_
      refine wa_sipush q_X7_bySmall_28 (v := nI 320) (by decide) ?_
      refine wa_iload_n q_X7_bySmall_31 rfl ?_
      refine wn_imul q_X7_bySmall_32 ?_
      refine wa_iload q_X7_bySmall_33 rfl ?_
      refine wn_iadd q_X7_bySmall_35 ?_
      refine wn_iald q_X7_bySmall_36 (by assumption) (by omega) (by omega) ?_
      rw [hdt]
      refine wn_i2l q_X7_bySmall_37 (by omega) ?_
      refine wn_ladd q_X7_bySmall_38 ?_
      refine wa_lstore q_X7_bySmall_39 (by decide) ?_
      refine wa_aload_n q_X7_bySmall_41 rfl ?_
      refine wa_getf q_X7_bySmall_42 f_RX7_8 (by assumption) rfl ?_
      refine wa_sipush q_X7_bySmall_45 (v := nI 320) (by decide) ?_
      refine wa_iload_n q_X7_bySmall_48 rfl ?_
      refine wn_imul q_X7_bySmall_49 ?_
      refine wa_iload q_X7_bySmall_50 rfl ?_
      refine wn_iadd q_X7_bySmall_52 ?_
      refine wa_lload q_X7_bySmall_53 rfl ?_
      refine wa_lload_n q_X7_bySmall_55 rfl ?_
      refine wn_ldiv q_X7_bySmall_56 (by omega) h0 hf8 ?_
      refine wn_l2i q_X7_bySmall_57 ?_
      refine wn_iast q_X7_bySmall_58 (by assumption) (by omega) (by omega) (fun σ_p1 p1 f_p1 e1_p1 e2_p1 => ?_)
      obtain ⟨w1, s1⟩ := h.cell p1 f_p1 e1_p1 e2_p1
      have hq := Nat.div_add_mod (L + x) f
      have hml := Nat.mod_lt (L + x) h0
      refine wa_lload q_X7_bySmall_59 rfl ?_
      refine wa_lload_n q_X7_bySmall_61 rfl ?_
      refine wn_lrem q_X7_bySmall_62 (by omega) h0 hf8 ?_
      refine wa_lstore q_X7_bySmall_63 (by decide) ?_
      refine wa_iinc q_X7_bySmall_65 rfl (v := iZ ((t : Int) - 1)) (by rw [nI_iZ]; exact iZ_add _ _) (by decide) ?_
      refine wa_goto q_X7_bySmall_68 ?_
      refine wa_lv (ih ((L + x) % f) σ_p1 _ (by omega) hml w1 (fun j j1 j2 => ?_) (fun j hj => ?_) ?_ (hO.tr (rO.cell (by omega))) (hS.tr s1)) rfl
      · rw [reg_u]
        by_cases ej : j = t
        · rw [ej, un_s]; exact hq9
        · rw [un_n ej]; exact h1 j (by omega) j2
      · rw [reg_u, un_n (by omega)]; exact h2 j (by omega)
      · have es : n - t = n - (t + 1) + 1 := by omega
        rw [es, vl_low, vl_low, reg_u]
        simp only [Nat.add_zero, un_s]
        have c1 : vl (fun i => reg C r (t + (i + 1))) (n - (t + 1)) = vl (fun j => reg C r (t + 1 + j)) (n - (t + 1)) := vl_congr (fun i _ => by rw [show t + (i + 1) = t + 1 + i by omega])
        have c2 : vl (fun i => un (reg C1 r) t ((L + x) / f) (t + (i + 1))) (n - (t + 1)) = vl (fun j => reg C1 r (t + 1 + j)) (n - (t + 1)) := vl_congr (fun i _ => by rw [un_n (by omega), show t + (i + 1) = t + 1 + i by omega])
        rw [c1, c2, h3, hB, ← hx0]
        rw [hL] at hq ⊢
        generalize (l * 1000000000 + x) / f = qq at *
        generalize (l * 1000000000 + x) % f = mm at *
        grind
theorem R_divS {r f : Nat} (h : rV X σ M O C Z G V) (hr : r < 140) (h0 : 0 < f) (hf : f ≤ BB) :
    Calls X M_X7_bySmall [.ref (M 0), .int (nI r), .long (lN f)] σ (fun res τ => res = some (.long (lN ((V r).natAbs % f))) ∧ ∃ C' Z' G', rV X τ M O C' Z' G' (uV V r ((V r).tdiv f)) ∧ mSt M σ τ) := by
  have hB : BB = 1000000000 := rfl
  obtain ⟨v1, v2, v3, v4⟩ := h.2 r hr
  obtain ⟨a0, a1, a2, a3, n1, n2, n3⟩ := id h.1
  refine Calls.of rfl (lk rfl) ?_
  refine wa_lconst q_X7_bySmall_0 (v := lN 0) (by decide) ?_
  refine wa_lstore q_X7_bySmall_1 (by decide) ?_
  refine wa_aload_n q_X7_bySmall_3 rfl ?_
  refine wa_getf q_X7_bySmall_4 f_RX7_14 (by assumption) rfl ?_
  refine wa_iload_n q_X7_bySmall_7 rfl ?_
  refine wn_iald q_X7_bySmall_8 (by assumption) (by omega) (by omega) ?_
  refine wa_iconst q_X7_bySmall_9 (v := nI 1) (by decide) ?_
  refine wa_isub q_X7_bySmall_10 ?_
  rw [show nI (Z r) - nI 1 = iZ ((Z r : Int) - 1) by rw [nI_iZ, nI_iZ, iZ_sub]; rfl]
  refine wa_istore q_X7_bySmall_11 (by decide) ?_
  refine wa_lv (R_divS_loop (C := C) (Z := Z) (G := G) (n := Z r) (σ0 := σ) hr v4 h0 hf v3.1 (fun τ C1 x1 x2 x3 x4 x5 => ?_) (Z r) 0 σ C (Nat.le_refl _) h0 h.1 (fun j j1 j2 => absurd j1 (by omega)) (fun _ _ => rfl) (by rw [Nat.sub_self]; rfl) rO.rf mSt.rf) rfl
  rw [v2] at x3
  rw [v2]
  obtain ⟨b0, b1, b2, b3, -⟩ := id x1
  refine wa_aload_n q_X7_bySmall_71 rfl ?_
  refine wa_iload_n q_X7_bySmall_72 rfl ?_
  refine wa_aload_n q_X7_bySmall_73 rfl ?_
  refine wa_getf q_X7_bySmall_74 f_RX7_14 (by assumption) rfl ?_
  refine wa_iload_n q_X7_bySmall_77 rfl ?_
  refine wn_iald q_X7_bySmall_78 (by assumption) (by omega) (by omega) ?_
  refine wa_callV q_X7_bySmall_79 g_X7_bySmall_79 w_X7_trim (by assumption) rfl (av := [_, _]) rfl rfl (lk rfl) (Calls.mono (R_trim hr x1 (n := Z r) (by omega) (fun i hi => by have := x2 i hi; omega)) ?_)
  rintro _ τ2 ⟨rfl, y2, s2⟩
  refine wa_lload q_X7_bySmall_82 rfl ?_
  refine wa_lret q_X7_bySmall_84 rfl ?_
  refine ⟨rfl, _, _, _, h.up y2 (x4.tr (rO.size.tr rO.sign)) (isR.trim x2 v4 ?_ (fun q => ?_)), x5.tr s2⟩
  · rw [x3, Int.natAbs_tdiv]; rfl
  · rw [v1]
    -- the sign of a quotient that is not 0
    rcases sgI_c (V r) with ⟨p, e⟩ | ⟨p, e⟩ | ⟨p, e⟩
    · rw [e]
      have hle : (V r).tdiv f ≤ 0 := by
        obtain ⟨m, hm⟩ : ∃ m : Nat, V r = -(m : Int) := ⟨(V r).natAbs, by omega⟩
        rw [hm, Int.neg_tdiv]
        have := Int.tdiv_nonneg (a := m) (b := (f : Int)) (by omega) (by omega)
        omega
      rcases sgI_c ((V r).tdiv f) with ⟨p2, e2⟩ | ⟨p2, e2⟩ | ⟨p2, e2⟩
      · exact e2.symm
      · exact absurd p2 q
      · omega
    · rw [p, Int.zero_tdiv] at q; exact absurd rfl q
    · rw [e]
      have hge := Int.tdiv_nonneg (a := V r) (b := (f : Int)) (by omega) (by omega)
      rcases sgI_c ((V r).tdiv f) with ⟨p2, e2⟩ | ⟨p2, e2⟩ | ⟨p2, e2⟩
      · omega
      · exact absurd p2 q
      · exact e2.symm
end ref6
