/-! The reference: addSizes, takeSizes, addTo -/
theorem top_nz {d : Nat → Nat} {n : Nat} (hd : ∀ i, i < n → d i < BB) (hn : 0 < n) (h : BB ^ (n - 1) ≤ vl d n) : d (n - 1) ≠ 0 := by
  intro e
  obtain ⟨m, rfl⟩ : ∃ m, n = m + 1 := ⟨n - 1, by omega⟩
  have h1 : vl d (m + 1) = vl d m + d m * BB ^ m := rfl
  have h2 := vl_lt (d := d) (n := m) (fun i hi => hd i (by omega))
  rw [show m + 1 - 1 = m by omega] at e h
  rw [h1, e, Nat.zero_mul] at h
  omega
theorem vl_ge1 {d : Nat → Nat} {n : Nat} (h : nrm d n) (hn : 0 < n) : BB ^ (n - 1) ≤ vl d n := by
  obtain ⟨m, rfl⟩ : ∃ m, n = m + 1 := ⟨n - 1, by omega⟩
  exact vl_ge (h.2.resolve_left (by omega))
section ref4
variable {X : en_X} {σ : en_S} {M : Nat → Nat} {O : Int32 × Int32 × Int32 × Int32 × Int32} {C Z : Nat → Nat} {G : Nat → Int32} {V : Nat → Int}
/-- the locals of addSizes in its loop -/
abbrev asL (M : Nat → Nat) (r a b n za zb c k : Nat) : List (Nat × Value) := [(0, .ref (M 0)), (1, .int (nI r)), (2, .int (nI a)), (3, .int (nI b)), (4, .int (nI n)), (5, .int (nI za)), (6, .int (nI zb)), (7, .int (nI c)), (8, .int (nI k))]
theorem as_step {x y c B s q P A' B' : Nat} (h : s + c * P = A' + B') (hx : x + y + c = (if B ≤ x + y + c then 1 else 0) * B + q) : (s + q * P) + (if B ≤ x + y + c then 1 else 0) * (P * B) = (A' + x * P) + (B' + y * P) := by
  generalize (if B ≤ x + y + c then 1 else 0) = c2 at *
  have : (x + y + c) * P = (c2 * B + q) * P := by rw [hx]
  grind
set_option maxHeartbeats 1000000 in
theorem R_addS_loop {ρ σ0 : en_S} {r a b n : Nat} {Q : Option Value → en_S → Prop} (hr : r < 140) (ha : a < 140) (hb : b < 140) (hn : n ≤ 310) (hza : Z a ≤ n) (hzb : Z b ≤ n) (d1 : ∀ i, i < Z a → reg C a i < BB) (d2 : ∀ i, i < Z b → reg C b i < BB)
    (k : ∀ (τ : en_S) (C1 : Nat → Nat) (c : Nat), rR X τ M O C1 Z G → c ≤ 1 → (∀ j, j < n → reg C1 r j < BB) → vl (reg C1 r) n + c * BB ^ n = vl (reg C a) (Z a) + vl (reg C b) (Z b) → rO C Z G C1 Z G r → mSt M σ0 τ → WA X M_X7_addSizes ρ 164 (asL M r a b n (Z a) (Z b) c n) [] τ Q) :
    ∀ (t i c : Nat) (σ : en_S) (C1 : Nat → Nat), i + t = n → rR X σ M O C1 Z G → c ≤ 1 → (∀ j, j < i → reg C1 r j < BB) → vl (reg C1 r) i + c * BB ^ i = vl (pad (reg C a) (Z a)) i + vl (pad (reg C b) (Z b)) i → (∀ j, i ≤ j → j < 320 → reg C1 r j = reg C r j) → rO C Z G C1 Z G r → mSt M σ0 σ →
      WA X M_X7_addSizes ρ 54 (asL M r a b n (Z a) (Z b) c i) [] σ Q := by
  have hB : BB = 1000000000 := rfl
  intro t
  induction t with
  | zero =>
    intro i c σ C1 hit h hc hd hv hk hO hS
    have e : i = n := by omega
    subst e
    refine wa_iload q_X7_addSizes_54 rfl ?_
    refine wa_iload q_X7_addSizes_56 rfl ?_
    refine wn_icmp_ge q_X7_addSizes_58 (by omega) (by omega) (fun hx => ?_) (fun hx => ?_)
    · rw [vl_padd hza, vl_padd hzb] at hv
      exact wa_lv (k σ C1 c h hc hd hv hO hS) rfl
    · omega
  | succ t ih =>
    intro i c σ C1 hit h hc hd hv hk hO hS
    obtain ⟨a0, a1, a2, a3, n1, n2, n3⟩ := id h
    have rd : ∀ s, s < 140 → C1 (320 * s + i) = reg C s i := fun s hs => by
      by_cases e : s = r
      · subst e; exact hk i (Nat.le_refl _) (by omega)
      · exact (hO s hs e).2.2 i (by omega)
    have px : pad (reg C a) (Z a) i < BB := by unfold pad; split; exact d1 i (by assumption); exact BB_pos
    have py : pad (reg C b) (Z b) i < BB := by unfold pad; split; exact d2 i (by assumption); exact BB_pos
    obtain ⟨x, hx0⟩ : ∃ x, x = pad (reg C a) (Z a) i := ⟨_, rfl⟩
    obtain ⟨y, hy0⟩ : ∃ y, y = pad (reg C b) (Z b) i := ⟨_, rfl⟩
    -- behind both readings
    have fin : WA X M_X7_addSizes ρ 113 (asL M r a b n (Z a) (Z b) c i) [.int (nI (c + x + y))] σ Q := by
      obtain ⟨c2, hc2⟩ : ∃ c2, c2 = if BB ≤ x + y + c then 1 else 0 := ⟨_, rfl⟩
      obtain ⟨q, hq⟩ : ∃ q, q = x + y + c - c2 * BB := ⟨_, rfl⟩
      have hc2' : c2 ≤ 1 := by rw [hc2]; split <;> omega
      have hqb : x + y + c = c2 * BB + q ∧ q < BB := by
        rw [hc2] at hq ⊢
        split at hq
        · rename_i h1; rw [if_pos h1]; omega
        · rename_i h1; rw [if_neg h1]; omega
      have wr : WA X M_X7_addSizes ρ 157 ((9, .int (nI (c + x + y))) :: asL M r a b n (Z a) (Z b) c2 i) [.int (nI q), .int (nI (320 * r + i)), .ref (M 1)] σ Q := by
        refine wn_iast q_X7_addSizes_157 (by assumption) (by omega) (by omega) (fun σ_p1 p1 f_p1 e1_p1 e2_p1 => ?_)
        obtain ⟨w1, s1⟩ := h.cell p1 f_p1 e1_p1 e2_p1
        refine wn_iinc q_X7_addSizes_158 rfl (by decide) ?_
        refine wa_goto q_X7_addSizes_161 ?_
        refine wa_lv (ih (i + 1) c2 σ_p1 _ (by omega) w1 hc2' (fun j hj => ?_) ?_ (fun j j1 j2 => ?_) (hO.tr (rO.cell (by omega))) (hS.tr s1)) rfl
        · rw [reg_u]
          by_cases e : j = i
          · rw [e, un_s]; exact hqb.2
          · rw [un_n e]; exact hd j (by omega)
        · rw [reg_u]
          show vl (un (reg C1 r) i q) i + un (reg C1 r) i q i * BB ^ i + c2 * BB ^ (i + 1) = (vl (pad (reg C a) (Z a)) i + pad (reg C a) (Z a) i * BB ^ i) + (vl (pad (reg C b) (Z b)) i + pad (reg C b) (Z b) i * BB ^ i)
          rw [un_s, vl_congr (e := reg C1 r) (fun j hj => un_n (by omega)), ← hx0, ← hy0, Nat.pow_succ]
          have := as_step (P := BB ^ i) hv (x := x) (y := y) (B := BB) (q := q) (by rw [← hc2]; exact hqb.1)
          rw [← hc2] at this
          exact this
        · rw [reg_u, un_n (by omega)]; exact hk j (by omega) j2
      refine wa_istore q_X7_addSizes_113 (by decide) ?_
      refine wa_iload q_X7_addSizes_115 rfl ?_
      refine wa_ldc q_X7_addSizes_117 (v := nI 1000000000) k_RX7_65 ?_
      refine wn_icmp_lt q_X7_addSizes_119 (by omega) (by decide) (fun hl => ?_) (fun hl => ?_)
      · have e2 : c2 = 0 := by rw [hc2, if_neg (by omega)]
        have eq : q = c + x + y := by rw [hq, e2]; omega
        subst e2
        refine wa_iconst q_X7_addSizes_126 (v := nI 0) (by decide) ?_
        refine wa_istore q_X7_addSizes_127 (by decide) ?_
        refine wa_aload_n q_X7_addSizes_129 rfl ?_
        refine wa_getf q_X7_addSizes_130 f_RX7_8 (by assumption) rfl ?_
        refine wa_sipush q_X7_addSizes_133 (v := nI 320) (by decide) ?_
        refine wa_iload_n q_X7_addSizes_136 rfl ?_
        refine wn_imul q_X7_addSizes_137 ?_
        refine wa_iload q_X7_addSizes_138 rfl ?_
        refine wn_iadd q_X7_addSizes_140 ?_
        refine wa_iload q_X7_addSizes_141 rfl ?_
        refine wa_iconst q_X7_addSizes_143 (v := nI 1) (by decide) ?_
        refine wn_icmp_ne q_X7_addSizes_144 (by decide) (by decide) (fun _ => ?_) (fun hq => absurd hq (by decide))
        refine wa_iload q_X7_addSizes_155 rfl ?_
        rw [← eq]
        rw [← eq] at wr
        exact wa_lv wr rfl
      · have e2 : c2 = 1 := by rw [hc2, if_pos (by omega)]
        have eq : q = c + x + y - 1000000000 := by rw [hq, e2]; omega
        subst e2
        refine wa_iconst q_X7_addSizes_122 (v := nI 1) (by decide) ?_
        refine wa_goto q_X7_addSizes_123 ?_
        refine wa_istore q_X7_addSizes_127 (by decide) ?_
        refine wa_aload_n q_X7_addSizes_129 rfl ?_
        refine wa_getf q_X7_addSizes_130 f_RX7_8 (by assumption) rfl ?_
        refine wa_sipush q_X7_addSizes_133 (v := nI 320) (by decide) ?_
        refine wa_iload_n q_X7_addSizes_136 rfl ?_
        refine wn_imul q_X7_addSizes_137 ?_
        refine wa_iload q_X7_addSizes_138 rfl ?_
        refine wn_iadd q_X7_addSizes_140 ?_
        refine wa_iload q_X7_addSizes_141 rfl ?_
        refine wa_iconst q_X7_addSizes_143 (v := nI 1) (by decide) ?_
        refine wn_icmp_ne q_X7_addSizes_144 (by decide) (by decide) (fun hq => absurd rfl hq) (fun _ => ?_)
        refine wa_iload q_X7_addSizes_147 rfl ?_
        refine wa_ldc q_X7_addSizes_149 (v := nI 1000000000) k_RX7_65 ?_
        refine wn_isub q_X7_addSizes_151 (by omega) ?_
        refine wa_goto q_X7_addSizes_152 ?_
        rw [← eq]
        exact wa_lv wr rfl
    have second : WA X M_X7_addSizes ρ 88 (asL M r a b n (Z a) (Z b) c i) [.int (nI (c + x))] σ Q := by
      refine wa_iload q_X7_addSizes_88 rfl ?_
      refine wa_iload q_X7_addSizes_90 rfl ?_
      refine wn_icmp_ge q_X7_addSizes_92 (by omega) (by omega) (fun hc0 => ?_) (fun hc0 => ?_)
      · have e : y = 0 := by rw [hy0]; exact if_neg (by omega)
        refine wa_iconst q_X7_addSizes_111 (v := nI 0) (by decide) ?_
        refine wn_iadd q_X7_addSizes_112 ?_
        rw [← e]
        exact wa_lv fin rfl
      · have e : C1 (320 * b + i) = y := by rw [rd b hb, hy0]; exact (if_pos hc0).symm
        refine wa_aload_n q_X7_addSizes_95 rfl ?_
        refine wa_getf q_X7_addSizes_96 f_RX7_8 (by assumption) rfl ?_
        refine wa_sipush q_X7_addSizes_99 (v := nI 320) (by decide) ?_
        refine wa_iload_n q_X7_addSizes_102 rfl ?_
        refine wn_imul q_X7_addSizes_103 ?_
        refine wa_iload q_X7_addSizes_104 rfl ?_
        refine wn_iadd q_X7_addSizes_106 ?_
        refine wn_iald q_X7_addSizes_107 (by assumption) (by omega) (by omega) ?_
        rw [e]
        refine wa_goto q_X7_addSizes_108 ?_
        refine wn_iadd q_X7_addSizes_112 ?_
        exact wa_lv fin rfl
    refine wa_iload q_X7_addSizes_54 rfl ?_
    refine wa_iload q_X7_addSizes_56 rfl ?_
    refine wn_icmp_ge q_X7_addSizes_58 (by omega) (by omega) (fun hx => ?_) (fun hx => ?_)
    · omega
    refine wa_iload q_X7_addSizes_61 rfl ?_
    refine wa_iload q_X7_addSizes_63 rfl ?_
    refine wa_iload q_X7_addSizes_65 rfl ?_
    refine wn_icmp_ge q_X7_addSizes_67 (by omega) (by omega) (fun hc0 => ?_) (fun hc0 => ?_)
    · have e : x = 0 := by rw [hx0]; exact if_neg (by omega)
      refine wa_iconst q_X7_addSizes_86 (v := nI 0) (by decide) ?_
      refine wn_iadd q_X7_addSizes_87 ?_
      rw [← e]
      exact wa_lv second rfl
    · have e : C1 (320 * a + i) = x := by rw [rd a ha, hx0]; exact (if_pos hc0).symm
      refine wa_aload_n q_X7_addSizes_70 rfl ?_
      refine wa_getf q_X7_addSizes_71 f_RX7_8 (by assumption) rfl ?_
      refine wa_sipush q_X7_addSizes_74 (v := nI 320) (by decide) ?_
      refine wa_iload_n q_X7_addSizes_77 rfl ?_
      refine wn_imul q_X7_addSizes_78 ?_
      refine wa_iload q_X7_addSizes_79 rfl ?_
      refine wn_iadd q_X7_addSizes_81 ?_
      refine wn_iald q_X7_addSizes_82 (by assumption) (by omega) (by omega) ?_
      rw [e]
      refine wa_goto q_X7_addSizes_83 ?_
      refine wn_iadd q_X7_addSizes_87 ?_
      exact wa_lv second rfl
/-- r = a + b, its sign is left to the caller -/
theorem R_addS {r a b : Nat} (h : rV X σ M O C Z G V) (hr : r < 140) (ha : a < 140) (hb : b < 140) (za : (V a).natAbs < BB ^ 300) (zb : (V b).natAbs < BB ^ 300) :
    Calls X M_X7_addSizes [.ref (M 0), .int (nI r), .int (nI a), .int (nI b)] σ (fun res τ => res = none ∧ ∃ C' Z', rR X τ M O C' Z' G ∧ rO C Z G C' Z' G r ∧ vl (reg C' r) (Z' r) = (V a).natAbs + (V b).natAbs ∧ nrm (reg C' r) (Z' r) ∧ Z' r ≤ 319 ∧ mSt M σ τ) := by
  obtain ⟨v1, v2, v3, v4⟩ := h.2 a ha
  obtain ⟨w1, w2, w3, w4⟩ := h.2 b hb
  have hza : Z a ≤ 300 := nrm_le v3 (by rw [v2]; exact za)
  have hzb : Z b ≤ 300 := nrm_le w3 (by rw [w2]; exact zb)
  have main : ∀ n, n = max (Z a) (Z b) → WA X M_X7_addSizes σ 30 (lv_args 0 [.ref (M 0), .int (nI r), .int (nI a), .int (nI b)]) [.int (nI n)] σ (fun res τ => res = none ∧ ∃ C' Z', rR X τ M O C' Z' G ∧ rO C Z G C' Z' G r ∧ vl (reg C' r) (Z' r) = (V a).natAbs + (V b).natAbs ∧ nrm (reg C' r) (Z' r) ∧ Z' r ≤ 319 ∧ mSt M σ τ) := by
    intro n hn
    obtain ⟨a0, a1, a2, a3, n1, n2, n3⟩ := h.1
    refine wa_istore q_X7_addSizes_30 (by decide) ?_
    refine wa_aload_n q_X7_addSizes_32 rfl ?_
    refine wa_getf q_X7_addSizes_33 f_RX7_14 (by assumption) rfl ?_
    refine wa_iload_n q_X7_addSizes_36 rfl ?_
    refine wn_iald q_X7_addSizes_37 (by assumption) (by omega) (by omega) ?_
    refine wa_istore q_X7_addSizes_38 (by decide) ?_
    refine wa_aload_n q_X7_addSizes_40 rfl ?_
    refine wa_getf q_X7_addSizes_41 f_RX7_14 (by assumption) rfl ?_
    refine wa_iload_n q_X7_addSizes_44 rfl ?_
    refine wn_iald q_X7_addSizes_45 (by assumption) (by omega) (by omega) ?_
    refine wa_istore q_X7_addSizes_46 (by decide) ?_
    refine wa_iconst q_X7_addSizes_48 (v := nI 0) (by decide) ?_
    refine wa_istore q_X7_addSizes_49 (by decide) ?_
    refine wa_iconst q_X7_addSizes_51 (v := nI 0) (by decide) ?_
    refine wa_istore q_X7_addSizes_52 (by decide) ?_
    refine wa_lv (R_addS_loop (C := C) (Z := Z) (G := G) (n := n) (σ0 := σ) hr ha hb (by omega) (by omega) (by omega) v3.1 w3.1 (fun τ C1 c x1 x2 x3 x4 x5 x6 => ?_) n 0 0 σ C (by omega) h.1 (by decide) (fun j hj => by omega) (by show 0 + 0 * 1 = 0 + 0; rfl) (fun _ _ _ => rfl) rO.rf mSt.rf) rfl
    obtain ⟨b0, b1, b2, b3, -⟩ := id x1
    refine wa_aload_n q_X7_addSizes_164 rfl ?_
    refine wa_getf q_X7_addSizes_165 f_RX7_8 (by assumption) rfl ?_
    refine wa_sipush q_X7_addSizes_168 (v := nI 320) (by decide) ?_
    refine wa_iload_n q_X7_addSizes_171 rfl ?_
    refine wn_imul q_X7_addSizes_172 ?_
    refine wa_iload q_X7_addSizes_173 rfl ?_
    refine wn_iadd q_X7_addSizes_175 ?_
    refine wa_iload q_X7_addSizes_176 rfl ?_
    refine wn_iast q_X7_addSizes_178 (by assumption) (by omega) (by omega) (fun σ_p1 p1 f_p1 e1_p1 e2_p1 => ?_)
    obtain ⟨y1, s1⟩ := x1.cell p1 f_p1 e1_p1 e2_p1
    obtain ⟨c0, c1, c2, c3, -⟩ := id y1
    refine wa_aload_n q_X7_addSizes_179 rfl ?_
    refine wa_getf q_X7_addSizes_180 f_RX7_14 (by assumption) rfl ?_
    refine wa_iload_n q_X7_addSizes_183 rfl ?_
    refine wa_iload q_X7_addSizes_184 rfl ?_
    refine wa_iload q_X7_addSizes_186 rfl ?_
    refine wn_iadd q_X7_addSizes_188 ?_
    refine wn_iast q_X7_addSizes_189 (by assumption) (by omega) (by omega) (fun σ_p2 p2 f_p2 e1_p2 e2_p2 => ?_)
    obtain ⟨y2, s2⟩ := y1.size p2 f_p2 e1_p2 e2_p2
    refine wa_vret q_X7_addSizes_190 rfl ?_
    rw [v2, w2] at x4
    have hreg := reg_u (C := C1) (r := r) (i := n) (x := c)
    refine ⟨rfl, _, _, y2, x5.tr ((rO.cell (by omega)).tr rO.size), ?_, ?_, ?_, x6.tr (s1.tr s2)⟩
    · rw [un_s, hreg]
      have hc : c = 0 ∨ c = 1 := by omega
      rcases hc with e | e <;> subst e
      · rw [Nat.add_zero, vl_congr (e := reg C1 r) (fun j hj => un_n (by omega))]; omega
      · show vl (un (reg C1 r) n 1) n + un (reg C1 r) n 1 n * BB ^ n = _
        rw [un_s, vl_congr (e := reg C1 r) (fun j hj => un_n (by omega))]; exact x4
    · rw [un_s, hreg]
      have hc : c = 0 ∨ c = 1 := by omega
      rcases hc with e | e <;> subst e
      · refine ⟨fun j hj => by rw [un_n (by omega)]; exact x3 j (by omega), ?_⟩
        by_cases e0 : n = 0
        · left; omega
        · right
          rw [Nat.add_zero, un_n (by omega)]
          refine top_nz x3 (by omega) ?_
          have hb2 : BB ^ (n - 1) ≤ (V a).natAbs ∨ BB ^ (n - 1) ≤ (V b).natAbs := by
            rcases Nat.le_total (Z b) (Z a) with q | q
            · left; rw [← v2, show n = Z a by omega]; exact vl_ge1 v3 (by omega)
            · right; rw [← w2, show n = Z b by omega]; exact vl_ge1 w3 (by omega)
          omega
      · refine ⟨fun j hj => ?_, Or.inr ?_⟩
        · by_cases e0 : j = n
          · rw [e0, un_s]; decide
          · rw [un_n e0]; exact x3 j (by omega)
        · rw [show n + 1 - 1 = n by omega, un_s]; decide
    · rw [un_s]; omega
  obtain ⟨a0, a1, a2, a3, n1, n2, n3⟩ := h.1
  refine Calls.of rfl (lk rfl) ?_
  refine wa_aload_n q_X7_addSizes_0 rfl ?_
  refine wa_getf q_X7_addSizes_1 f_RX7_14 (by assumption) rfl ?_
  refine wa_iload_n q_X7_addSizes_4 rfl ?_
  refine wn_iald q_X7_addSizes_5 (by assumption) (by omega) (by omega) ?_
  refine wa_aload_n q_X7_addSizes_6 rfl ?_
  refine wa_getf q_X7_addSizes_7 f_RX7_14 (by assumption) rfl ?_
  refine wa_iload_n q_X7_addSizes_10 rfl ?_
  refine wn_iald q_X7_addSizes_11 (by assumption) (by omega) (by omega) ?_
  refine wn_icmp_le q_X7_addSizes_12 (by omega) (by omega) (fun hx => ?_) (fun hx => ?_)
  · refine wa_aload_n q_X7_addSizes_24 rfl ?_
    refine wa_getf q_X7_addSizes_25 f_RX7_14 (by assumption) rfl ?_
    refine wa_iload_n q_X7_addSizes_28 rfl ?_
    refine wn_iald q_X7_addSizes_29 (by assumption) (by omega) (by omega) ?_
    exact main _ (by omega)
  · refine wa_aload_n q_X7_addSizes_15 rfl ?_
    refine wa_getf q_X7_addSizes_16 f_RX7_14 (by assumption) rfl ?_
    refine wa_iload_n q_X7_addSizes_19 rfl ?_
    refine wn_iald q_X7_addSizes_20 (by assumption) (by omega) (by omega) ?_
    refine wa_goto q_X7_addSizes_21 ?_
    exact main _ (by omega)
end ref4
