/-! The reference: multiply -/
section ref7
variable {X : en_X} {σ : en_S} {M : Nat → Nat} {O : Int32 × Int32 × Int32 × Int32 × Int32} {C Z : Nat → Nat} {G : Nat → Int32} {V : Nat → Int}
set_option maxHeartbeats 1000000 in
theorem R_mul_in {ρ σ0 : en_S} {r a b m sb sc i x V0 : Nat} {dc : Nat → Nat} {Q : Option Value → en_S → Prop} (hr : r < 140) (hb : b < 140) (hrb : b ≠ r) (hm : m ≤ 319) (hms : m = sb + sc) (hi : i < sb) (hx : x < BB) (hz : Z b = sc) (hdcb : ∀ j, j < 320 → reg C b j = dc j) (hdc : ∀ q, q < sc → dc q < BB)
    (k : ∀ (σ1 : en_S) (C1 : Nat → Nat) (y : Nat), rR X σ1 M O C1 Z G → (∀ j, j < m → reg C1 r j < BB) → (∀ j, i + sc ≤ j → j < m → reg C1 r j = 0) → y < BB → vl (reg C1 r) m + y * BB ^ (i + sc) = V0 + x * vl dc sc * BB ^ i → rO C Z G C1 Z G r → mSt M σ0 σ1 → WA X M_X7_multiply ρ 169 [(6, .long (lN y)), (0, .ref (M 0)), (1, .int (nI r)), (2, .int (nI a)), (3, .int (nI b)), (4, .int (nI m)), (5, .int (nI i))] [] σ1 Q) :
    ∀ (t j y : Nat) (σ : en_S) (C1 : Nat → Nat), sc - j = t → j ≤ sc → y < BB → rR X σ M O C1 Z G → (∀ j, j < m → reg C1 r j < BB) → (∀ j, i + sc ≤ j → j < m → reg C1 r j = 0) → vl (reg C1 r) m + y * BB ^ (i + j) = V0 + x * vl dc j * BB ^ i → rO C Z G C1 Z G r → mSt M σ0 σ →
      WA X M_X7_multiply ρ 81 [(10, .int (nI j)), (8, .long (lN x)), (6, .long (lN y)), (0, .ref (M 0)), (1, .int (nI r)), (2, .int (nI a)), (3, .int (nI b)), (4, .int (nI m)), (5, .int (nI i))] [] σ Q := by
  have hB : BB = 1000000000 := rfl
  intro t
  induction t with
  | zero =>
    intro j y σ C1 ht hj hy h h1 h2 h3 hO hS
    obtain ⟨a0, a1, a2, a3, n1, n2, n3⟩ := id h
    have ej : j = sc := by omega
    subst ej
    refine wa_iload q_X7_multiply_81 rfl ?_
    refine wa_aload_n q_X7_multiply_83 rfl ?_
    refine wa_getf q_X7_multiply_84 f_RX7_14 (by assumption) rfl ?_
    refine wa_iload_n q_X7_multiply_87 rfl ?_
    refine wn_iald q_X7_multiply_88 (by assumption) (by omega) (by omega) ?_
    rw [hz]
    refine wn_icmp_ge q_X7_multiply_89 (by omega) (by omega) (fun hw => ?_) (fun hw => ?_)
    · exact wa_lv (k σ C1 y h h1 h2 hy h3 hO hS) rfl
    · omega
  | succ t ih =>
    intro j y σ C1 ht hj hy h h1 h2 h3 hO hS
    obtain ⟨a0, a1, a2, a3, n1, n2, n3⟩ := id h
    have hdj := hdc j (by omega)
    have hdd := h1 (i + j) (by omega)
    have rb : C1 (320 * b + j) = dc j := ((hO b hb hrb).2.2 j (by omega)).trans (hdcb j (by omega))
    have rr : C1 (320 * r + i + j) = reg C1 r (i + j) := by unfold reg; rw [Nat.add_assoc]
    obtain ⟨u, hu0⟩ : ∃ u, u = reg C1 r (i + j) := ⟨_, rfl⟩
    obtain ⟨w, hw0⟩ : ∃ w, w = x * dc j := ⟨_, rfl⟩
    rw [← hu0] at rr hdd
    have hs : w ≤ 999999999 * 999999999 := by rw [hw0]; exact Nat.mul_le_mul (by omega) (by omega)
    refine wa_iload q_X7_multiply_81 rfl ?_
    refine wa_aload_n q_X7_multiply_83 rfl ?_
    refine wa_getf q_X7_multiply_84 f_RX7_14 (by assumption) rfl ?_
    refine wa_iload_n q_X7_multiply_87 rfl ?_
    refine wn_iald q_X7_multiply_88 (by assumption) (by omega) (by omega) ?_
    rw [hz]
    refine wn_icmp_ge q_X7_multiply_89 (by omega) (by omega) (fun hz' => ?_) (fun hz' => ?_)
    · omega
    refine wa_aload_n q_X7_multiply_92 rfl ?_
    refine wa_getf q_X7_multiply_93 f_RX7_8 (by assumption) rfl ?_
    refine wa_sipush q_X7_multiply_96 (v := nI 320) (by decide) ?_
    refine wa_iload_n q_X7_multiply_99 rfl ?_
    refine wn_imul q_X7_multiply_100 ?_
    refine wa_iload q_X7_multiply_101 rfl ?_
    refine wn_iadd q_X7_multiply_103 ?_
    refine wa_iload q_X7_multiply_104 rfl ?_
    refine wn_iadd q_X7_multiply_106 ?_
    refine wn_iald q_X7_multiply_107 (by assumption) (by omega) (by omega) ?_
    rw [rr]
    refine wn_i2l q_X7_multiply_108 (by omega) ?_
    refine wa_lload q_X7_multiply_109 rfl ?_
    refine wa_aload_n q_X7_multiply_111 rfl ?_
    refine wa_getf q_X7_multiply_112 f_RX7_8 (by assumption) rfl ?_
    refine wa_sipush q_X7_multiply_115 (v := nI 320) (by decide) ?_
    refine wa_iload_n q_X7_multiply_118 rfl ?_
    refine wn_imul q_X7_multiply_119 ?_
    refine wa_iload q_X7_multiply_120 rfl ?_
    refine wn_iadd q_X7_multiply_122 ?_
    refine wn_iald q_X7_multiply_123 (by assumption) (by omega) (by omega) ?_
    rw [rb]
    refine wn_i2l q_X7_multiply_124 (by omega) ?_
    refine wn_lmul q_X7_multiply_125 ?_
    rw [← hw0]
    refine wn_ladd q_X7_multiply_126 ?_
    refine wa_lload q_X7_multiply_127 rfl ?_
    refine wn_ladd q_X7_multiply_129 ?_
    refine wa_lstore q_X7_multiply_130 (by decide) ?_
    refine wa_aload_n q_X7_multiply_132 rfl ?_
    refine wa_getf q_X7_multiply_133 f_RX7_8 (by assumption) rfl ?_
    refine wa_sipush q_X7_multiply_136 (v := nI 320) (by decide) ?_
    refine wa_iload_n q_X7_multiply_139 rfl ?_
    refine wn_imul q_X7_multiply_140 ?_
    refine wa_iload q_X7_multiply_141 rfl ?_
    refine wn_iadd q_X7_multiply_143 ?_
    refine wa_iload q_X7_multiply_144 rfl ?_
    refine wn_iadd q_X7_multiply_146 ?_
    refine wa_lload q_X7_multiply_147 rfl ?_
    refine wa_ldc2 q_X7_multiply_149 (v := lN 1000000000) k_RX7_47 ?_
    refine wn_lrem q_X7_multiply_152 (by omega) (by omega) (by omega) ?_
    refine wn_l2i q_X7_multiply_153 ?_
    rw [show 320 * r + i + j = 320 * r + (i + j) by omega]
    refine wn_iast q_X7_multiply_154 (by assumption) (by omega) (by omega) (fun σ_p1 p1 f_p1 e1_p1 e2_p1 => ?_)
    obtain ⟨w1, s1⟩ := h.cell p1 f_p1 e1_p1 e2_p1
    refine wa_lload q_X7_multiply_155 rfl ?_
    refine wa_ldc2 q_X7_multiply_157 (v := lN 1000000000) k_RX7_47 ?_
    refine wn_ldiv q_X7_multiply_160 (by omega) (by omega) (by omega) ?_
    refine wa_lstore q_X7_multiply_161 (by decide) ?_
    refine wn_iinc q_X7_multiply_163 rfl (by decide) ?_
    refine wa_goto q_X7_multiply_166 ?_
    have hq := Nat.div_add_mod (u + w + y) 1000000000
    have hml := Nat.mod_lt (u + w + y) (show 0 < 1000000000 by decide)
    have hu := vl_un (d := reg C1 r) (n := m) (i := i + j) (x := (u + w + y) % 1000000000) (by omega)
    have e1 : vl dc (j + 1) = vl dc j + dc j * BB ^ j := rfl
    refine wa_lv (ih (j + 1) ((u + w + y) / 1000000000) σ_p1 _ (by omega) (by omega) (Nat.div_lt_of_lt_mul (by omega)) w1 (by rw [reg_u]; exact un_lt h1 hml) (fun q q1 q2 => ?_) ?_ (hO.tr (rO.cell (by omega))) (hS.tr s1)) rfl
    · rw [reg_u, un_n (by omega)]; exact h2 q q1 q2
    · rw [reg_u, e1, ← Nat.add_assoc, Nat.pow_succ, hB]
      rw [hB] at hu h3
      have e2 : (1000000000 : Nat) ^ (i + j) = 1000000000 ^ i * 1000000000 ^ j := Nat.pow_add _ _ _
      rw [e2] at hu h3 ⊢
      rw [← hu0] at hu
      generalize (u + w + y) / 1000000000 = qq at *
      generalize (u + w + y) % 1000000000 = mm at *
      subst hw0
      grind
set_option maxHeartbeats 1000000 in
theorem R_mul_out {ρ σ0 : en_S} {r a b m sb sc : Nat} {db dc : Nat → Nat} {Q : Option Value → en_S → Prop} (hr : r < 140) (ha : a < 140) (hb : b < 140) (hra : a ≠ r) (hrb : b ≠ r) (hm : m ≤ 319) (hms : m = sb + sc) (hza : Z a = sb) (hzb : Z b = sc) (hdba : ∀ j, j < 320 → reg C a j = db j) (hdcb : ∀ j, j < 320 → reg C b j = dc j) (hdb : ∀ q, q < sb → db q < BB) (hdc : ∀ q, q < sc → dc q < BB)
    (k : ∀ (σ1 : en_S) (C1 : Nat → Nat), rR X σ1 M O C1 Z G → (∀ j, j < m → reg C1 r j < BB) → vl (reg C1 r) m = vl db sb * vl dc sc → rO C Z G C1 Z G r → mSt M σ0 σ1 → WA X M_X7_multiply ρ 198 [(0, .ref (M 0)), (1, .int (nI r)), (2, .int (nI a)), (3, .int (nI b)), (4, .int (nI m)), (5, .int (nI sb))] [] σ1 Q) :
    ∀ (t i : Nat) (σ : en_S) (C1 : Nat → Nat), sb - i = t → i ≤ sb → rR X σ M O C1 Z G → (∀ j, j < m → reg C1 r j < BB) → (∀ j, i + sc ≤ j → j < m → reg C1 r j = 0) → vl (reg C1 r) m = vl db i * vl dc sc → rO C Z G C1 Z G r → mSt M σ0 σ →
      WA X M_X7_multiply ρ 48 [(0, .ref (M 0)), (1, .int (nI r)), (2, .int (nI a)), (3, .int (nI b)), (4, .int (nI m)), (5, .int (nI i))] [] σ Q := by
  have hB : BB = 1000000000 := rfl
  intro t
  induction t with
  | zero =>
    intro i σ C1 ht hi h h1 h2 h3 hO hS
    obtain ⟨a0, a1, a2, a3, n1, n2, n3⟩ := id h
    have ei : i = sb := by omega
    subst ei
    refine wa_iload q_X7_multiply_48 rfl ?_
    refine wa_aload_n q_X7_multiply_50 rfl ?_
    refine wa_getf q_X7_multiply_51 f_RX7_14 (by assumption) rfl ?_
    refine wa_iload_n q_X7_multiply_54 rfl ?_
    refine wn_iald q_X7_multiply_55 (by assumption) (by omega) (by omega) ?_
    rw [hza]
    refine wn_icmp_ge q_X7_multiply_56 (by omega) (by omega) (fun hw => ?_) (fun hw => ?_)
    · exact wa_lv (k σ C1 h h1 h3 hO hS) rfl
    · omega
  | succ t ih =>
    intro i σ C1 ht hi h h1 h2 h3 hO hS
    obtain ⟨a0, a1, a2, a3, n1, n2, n3⟩ := id h
    have hdi := hdb i (by omega)
    have e1 : vl db (i + 1) = vl db i + db i * BB ^ i := rfl
    have ra : C1 (320 * a + i) = db i := ((hO a ha hra).2.2 i (by omega)).trans (hdba i (by omega))
    refine wa_iload q_X7_multiply_48 rfl ?_
    refine wa_aload_n q_X7_multiply_50 rfl ?_
    refine wa_getf q_X7_multiply_51 f_RX7_14 (by assumption) rfl ?_
    refine wa_iload_n q_X7_multiply_54 rfl ?_
    refine wn_iald q_X7_multiply_55 (by assumption) (by omega) (by omega) ?_
    rw [hza]
    refine wn_icmp_ge q_X7_multiply_56 (by omega) (by omega) (fun hw => ?_) (fun hw => ?_)
    · omega
    refine wa_lconst q_X7_multiply_59 (v := lN 0) (by decide) ?_
    refine wa_lstore q_X7_multiply_60 (by decide) ?_
    refine wa_aload_n q_X7_multiply_62 rfl ?_
    refine wa_getf q_X7_multiply_63 f_RX7_8 (by assumption) rfl ?_
    refine wa_sipush q_X7_multiply_66 (v := nI 320) (by decide) ?_
    refine wa_iload_n q_X7_multiply_69 rfl ?_
    refine wn_imul q_X7_multiply_70 ?_
    refine wa_iload q_X7_multiply_71 rfl ?_
    refine wn_iadd q_X7_multiply_73 ?_
    refine wn_iald q_X7_multiply_74 (by assumption) (by omega) (by omega) ?_
    rw [ra]
    refine wn_i2l q_X7_multiply_75 (by omega) ?_
    refine wa_lstore q_X7_multiply_76 (by decide) ?_
    refine wa_iconst q_X7_multiply_78 (v := nI 0) (by decide) ?_
    refine wa_istore q_X7_multiply_79 (by decide) ?_
    refine wa_lv (R_mul_in (C := C) (a := a) (σ0 := σ0) (V0 := vl (reg C1 r) m) (dc := dc) hr hb hrb hm hms (by omega) hdi hzb hdcb hdc (fun σ1 C2 y g1 g2 g3 g4 g5 g6 g7 => ?_) sc 0 0 σ C1 rfl (Nat.zero_le _) BB_pos h h1 h2 (by simp [vl]) hO hS) rfl
    obtain ⟨b0, b1, b2, b3, -⟩ := id g1
    refine wa_aload_n q_X7_multiply_169 rfl ?_
    refine wa_getf q_X7_multiply_170 f_RX7_8 (by assumption) rfl ?_
    refine wa_sipush q_X7_multiply_173 (v := nI 320) (by decide) ?_
    refine wa_iload_n q_X7_multiply_176 rfl ?_
    refine wn_imul q_X7_multiply_177 ?_
    refine wa_iload q_X7_multiply_178 rfl ?_
    refine wn_iadd q_X7_multiply_180 ?_
    refine wa_aload_n q_X7_multiply_181 rfl ?_
    refine wa_getf q_X7_multiply_182 f_RX7_14 (by assumption) rfl ?_
    refine wa_iload_n q_X7_multiply_185 rfl ?_
    refine wn_iald q_X7_multiply_186 (by assumption) (by omega) (by omega) ?_
    rw [hzb]
    refine wn_iadd q_X7_multiply_187 ?_
    refine wa_lload q_X7_multiply_188 rfl ?_
    refine wn_l2i q_X7_multiply_190 ?_
    rw [show 320 * r + i + sc = 320 * r + (i + sc) by omega]
    refine wn_iast q_X7_multiply_191 (by assumption) (by omega) (by omega) (fun σ_p1 p1 f_p1 e1_p1 e2_p1 => ?_)
    obtain ⟨w1, s1⟩ := g1.cell p1 f_p1 e1_p1 e2_p1
    refine wn_iinc q_X7_multiply_192 rfl (by decide) ?_
    refine wa_goto q_X7_multiply_195 ?_
    have hu := vl_un (d := reg C2 r) (n := m) (i := i + sc) (x := y) (by omega)
    rw [g3 (i + sc) (Nat.le_refl _) (by omega), Nat.zero_mul, Nat.add_zero] at hu
    refine wa_lv (ih (i + 1) σ_p1 _ (by omega) (by omega) w1 (by rw [reg_u]; exact un_lt g2 g4) (fun q q1 q2 => ?_) ?_ (g6.tr (rO.cell (by omega))) (g7.tr s1)) rfl
    · rw [reg_u, un_n (by omega)]; exact g3 q (by omega) q2
    · rw [reg_u, hu, g5, h3, e1, Nat.add_mul]; congr 1; rw [Nat.mul_assoc, Nat.mul_assoc, Nat.mul_comm (BB ^ i)]
theorem R_zero_loop {ρ σ0 : en_S} {r a b n : Nat} {Q : Option Value → en_S → Prop} (hr : r < 140) (hn : n ≤ 319)
    (k : ∀ (σ1 : en_S) (C1 : Nat → Nat), rR X σ1 M O C1 Z G → (∀ j, j < n → reg C1 r j = 0) → rO C Z G C1 Z G r → mSt M σ0 σ1 → WA X M_X7_multiply ρ 45 [(0, .ref (M 0)), (1, .int (nI r)), (2, .int (nI a)), (3, .int (nI b)), (4, .int (nI n)), (5, .int (nI n))] [] σ1 Q) :
    ∀ (t i : Nat) (σ : en_S) (C1 : Nat → Nat), i + t = n → rR X σ M O C1 Z G → (∀ j, j < i → reg C1 r j = 0) → rO C Z G C1 Z G r → mSt M σ0 σ →
      WA X M_X7_multiply ρ 18 [(0, .ref (M 0)), (1, .int (nI r)), (2, .int (nI a)), (3, .int (nI b)), (4, .int (nI n)), (5, .int (nI i))] [] σ Q := by
  intro t
  induction t with
  | zero =>
    intro i σ C1 hit h h1 hO hS
    have e : i = n := by omega
    subst e
    refine wa_iload q_X7_multiply_18 rfl ?_
    refine wa_iload q_X7_multiply_20 rfl ?_
    refine wn_icmp_ge q_X7_multiply_22 (by omega) (by omega) (fun hx => ?_) (fun hx => ?_)
    · exact wa_lv (k σ C1 h h1 hO hS) rfl
    · omega
  | succ t ih =>
    intro i σ C1 hit h h1 hO hS
    obtain ⟨a0, a1, a2, a3, n1, n2, n3⟩ := id h
    refine wa_iload q_X7_multiply_18 rfl ?_
    refine wa_iload q_X7_multiply_20 rfl ?_
    refine wn_icmp_ge q_X7_multiply_22 (by omega) (by omega) (fun hx => ?_) (fun hx => ?_)
    · omega
    refine wa_aload_n q_X7_multiply_25 rfl ?_
    refine wa_getf q_X7_multiply_26 f_RX7_8 (by assumption) rfl ?_
    refine wa_sipush q_X7_multiply_29 (v := nI 320) (by decide) ?_
    refine wa_iload_n q_X7_multiply_32 rfl ?_
    refine wn_imul q_X7_multiply_33 ?_
    refine wa_iload q_X7_multiply_34 rfl ?_
    refine wn_iadd q_X7_multiply_36 ?_
    refine wa_iconst q_X7_multiply_37 (v := nI 0) (by decide) ?_
    refine wn_iast q_X7_multiply_38 (by assumption) (by omega) (by omega) (fun σ_p1 p1 f_p1 e1_p1 e2_p1 => ?_)
    obtain ⟨w1, s1⟩ := h.cell p1 f_p1 e1_p1 e2_p1
    refine wn_iinc q_X7_multiply_39 rfl (by decide) ?_
    refine wa_goto q_X7_multiply_42 ?_
    refine wa_lv (ih (i + 1) σ_p1 _ (by omega) w1 (fun j hj => ?_) (hO.tr (rO.cell (by omega))) (hS.tr s1)) rfl
    rw [reg_u]
    by_cases e : j = i
    · rw [e, un_s]
    · rw [un_n e]; exact h1 j (by omega)
theorem R_mul {r a b : Nat} (h : rV X σ M O C Z G V) (hr : r < 140) (ha : a < 140) (hb : b < 140) (hra : a ≠ r) (hrb : b ≠ r) (za : (V a).natAbs < BB ^ 155) (zb : (V b).natAbs < BB ^ 155) :
    Calls X M_X7_multiply [.ref (M 0), .int (nI r), .int (nI a), .int (nI b)] σ (fun res τ => res = none ∧ ∃ C' Z' G', rV X τ M O C' Z' G' (uV V r (V a * V b)) ∧ mSt M σ τ) := by
  have hB : BB = 1000000000 := rfl
  obtain ⟨v1, v2, v3, v4⟩ := h.2 a ha
  obtain ⟨w1, w2, w3, w4⟩ := h.2 b hb
  have hza : Z a ≤ 155 := nrm_le v3 (by rw [v2]; exact za)
  have hzb : Z b ≤ 155 := nrm_le w3 (by rw [w2]; exact zb)
  obtain ⟨a0, a1, a2, a3, n1, n2, n3⟩ := id h.1
  refine Calls.of rfl (lk rfl) ?_
  refine wa_aload_n q_X7_multiply_0 rfl ?_
  refine wa_getf q_X7_multiply_1 f_RX7_14 (by assumption) rfl ?_
  refine wa_iload_n q_X7_multiply_4 rfl ?_
  refine wn_iald q_X7_multiply_5 (by assumption) (by omega) (by omega) ?_
  refine wa_aload_n q_X7_multiply_6 rfl ?_
  refine wa_getf q_X7_multiply_7 f_RX7_14 (by assumption) rfl ?_
  refine wa_iload_n q_X7_multiply_10 rfl ?_
  refine wn_iald q_X7_multiply_11 (by assumption) (by omega) (by omega) ?_
  refine wn_iadd q_X7_multiply_12 ?_
  refine wa_istore q_X7_multiply_13 (by decide) ?_
  refine wa_iconst q_X7_multiply_15 (v := nI 0) (by decide) ?_
  refine wa_istore q_X7_multiply_16 (by decide) ?_
  refine wa_lv (R_zero_loop (C := C) (Z := Z) (G := G) (n := Z a + Z b) (a := a) (b := b) (σ0 := σ) hr (by omega) (fun σ1 C1 x1 x2 x3 x4 => ?_) (Z a + Z b) 0 σ C (by omega) h.1 (fun j hj => by omega) rO.rf mSt.rf) rfl
  refine wa_iconst q_X7_multiply_45 (v := nI 0) (by decide) ?_
  refine wa_istore q_X7_multiply_46 (by decide) ?_
  refine wa_lv (R_mul_out (C := C) (Z := Z) (G := G) (m := Z a + Z b) (σ0 := σ) hr ha hb hra hrb (by omega) rfl rfl rfl (fun j _ => rfl) (fun j _ => rfl) v3.1 w3.1 (fun σ2 C2 y1 y2 y3 y4 y5 => ?_) (Z a) 0 σ1 C1 (by omega) (Nat.zero_le _) x1 (fun j hj => by rw [x2 j hj]; exact BB_pos) (fun j _ hj => x2 j hj) (by rw [vl_zero x2]; show 0 = 0 * _; omega) x3 x4) rfl
  rw [v2, w2, ← Int.natAbs_mul] at y3
  obtain ⟨b0, b1, b2, b3, -⟩ := id y1
  refine wa_aload_n q_X7_multiply_198 rfl ?_
  refine wa_getf q_X7_multiply_199 f_RX7_17 (by assumption) rfl ?_
  refine wa_iload_n q_X7_multiply_202 rfl ?_
  refine wa_aload_n q_X7_multiply_203 rfl ?_
  refine wa_getf q_X7_multiply_204 f_RX7_17 (by assumption) rfl ?_
  refine wa_iload_n q_X7_multiply_207 rfl ?_
  refine wn_gald q_X7_multiply_208 (by assumption) (by omega) ?_
  refine wa_aload_n q_X7_multiply_209 rfl ?_
  refine wa_getf q_X7_multiply_210 f_RX7_17 (by assumption) rfl ?_
  refine wa_iload_n q_X7_multiply_213 rfl ?_
  refine wn_gald q_X7_multiply_214 (by assumption) (by omega) ?_
  refine wa_imul q_X7_multiply_215 ?_
  rw [v1, w1, ← sgI_mul]
  refine wn_gast q_X7_multiply_216 (by assumption) (by omega) (fun σ_p1 p1 f_p1 e1_p1 e2_p1 => ?_)
  obtain ⟨z1, s1⟩ := y1.sign p1 f_p1 e1_p1 e2_p1
  obtain ⟨c0, c1, c2, c3, -⟩ := id z1
  refine wa_aload_n q_X7_multiply_217 rfl ?_
  refine wa_iload_n q_X7_multiply_218 rfl ?_
  refine wa_iload q_X7_multiply_219 rfl ?_
  refine wa_callV q_X7_multiply_221 g_X7_multiply_221 w_X7_trim (by assumption) rfl (av := [_, _]) rfl rfl (lk rfl) (Calls.mono (R_trim hr z1 (n := Z a + Z b) (by omega) (fun i hi => by have := y2 i hi; omega)) ?_)
  rintro _ τ2 ⟨rfl, z2, s2⟩
  refine wa_vret q_X7_multiply_224 rfl ?_
  exact ⟨rfl, _, _, _, h.up z2 (y4.tr (rO.sign.tr (rO.size.tr rO.sign))) (isR.trim y2 (by omega) y3 (fun _ => upG_s)), y5.tr (s1.tr s2)⟩
end ref7
