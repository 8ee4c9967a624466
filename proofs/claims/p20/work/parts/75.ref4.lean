/-! The reference: takeSizes, addTo -/
section ref5
variable {X : en_X} {σ : en_S} {M : Nat → Nat} {O : Int32 × Int32 × Int32 × Int32 × Int32} {C Z : Nat → Nat} {G : Nat → Int32} {V : Nat → Int}
abbrev tsL (M : Nat → Nat) (r a b : Nat) (sg : Int32) (n zb c k : Nat) : List (Nat × Value) := [(0, .ref (M 0)), (1, .int (nI r)), (2, .int (nI a)), (3, .int (nI b)), (4, .int sg), (5, .int (nI n)), (6, .int (nI zb)), (7, .int (nI c)), (8, .int (nI k))]
theorem ts_step {x y c c2 B s q P A' B' : Nat} (h : s + B' = A' + c * P) (hx : x + c2 * B = q + y + c) : (s + q * P) + (B' + y * P) = (A' + x * P) + c2 * (P * B) := by
  have : (x + c2 * B) * P = (q + y + c) * P := by rw [hx]
  grind
set_option maxHeartbeats 1000000 in
theorem R_takeS_loop {ρ σ0 : en_S} {r a b n : Nat} {sg : Int32} {Q : Option Value → en_S → Prop} (hr : r < 140) (ha : a < 140) (hb : b < 140) (hn : n ≤ 319) (hza : Z a = n) (hzb : Z b ≤ n) (d1 : ∀ i, i < Z a → reg C a i < BB) (d2 : ∀ i, i < Z b → reg C b i < BB)
    (k : ∀ (τ : en_S) (C1 : Nat → Nat) (c : Nat), rR X τ M O C1 Z G → c ≤ 1 → (∀ j, j < n → reg C1 r j < BB) → vl (reg C1 r) n + vl (reg C b) (Z b) = vl (reg C a) n + c * BB ^ n → rO C Z G C1 Z G r → mSt M σ0 τ → WA X M_X7_takeSizes ρ 118 (tsL M r a b sg n (Z b) c n) [] τ Q) :
    ∀ (t i c : Nat) (σ : en_S) (C1 : Nat → Nat), i + t = n → rR X σ M O C1 Z G → c ≤ 1 → (∀ j, j < i → reg C1 r j < BB) → vl (reg C1 r) i + vl (pad (reg C b) (Z b)) i = vl (reg C a) i + c * BB ^ i → (∀ j, i ≤ j → j < 320 → reg C1 r j = reg C r j) → rO C Z G C1 Z G r → mSt M σ0 σ →
      WA X M_X7_takeSizes ρ 22 (tsL M r a b sg n (Z b) c i) [] σ Q := by
  have hB : BB = 1000000000 := rfl
  intro t
  induction t with
  | zero =>
    intro i c σ C1 hit h hc hd hv hk hO hS
    have e : i = n := by omega
    subst e
    refine wa_iload q_X7_takeSizes_22 rfl ?_
    refine wa_iload q_X7_takeSizes_24 rfl ?_
    refine wn_icmp_ge q_X7_takeSizes_26 (by omega) (by omega) (fun hx => ?_) (fun hx => ?_)
    · rw [vl_padd hzb] at hv
      exact wa_lv (k σ C1 c h hc hd hv hO hS) rfl
    · omega
  | succ t ih =>
    intro i c σ C1 hit h hc hd hv hk hO hS
    obtain ⟨a0, a1, a2, a3, n1, n2, n3⟩ := id h
    have rd : ∀ s, s < 140 → C1 (320 * s + i) = reg C s i := fun s hs => by
      by_cases e : s = r
      · subst e; exact hk i (Nat.le_refl _) (by omega)
      · exact (hO s hs e).2.2 i (by omega)
    have px : reg C a i < BB := d1 i (by omega)
    have py : pad (reg C b) (Z b) i < BB := by unfold pad; split; exact d2 i (by assumption); exact BB_pos
    obtain ⟨x, hx0⟩ : ∃ x, x = reg C a i := ⟨_, rfl⟩
    obtain ⟨y, hy0⟩ : ∃ y, y = pad (reg C b) (Z b) i := ⟨_, rfl⟩
    have fin : WA X M_X7_takeSizes ρ 69 (tsL M r a b sg n (Z b) c i) [.int (nI y), .int (iZ ((x : Int) - (c : Int)))] σ Q := by
      have wr : ∀ c2 q, c2 ≤ 1 → q < BB → x + c2 * BB = q + y + c → WA X M_X7_takeSizes ρ 111 ((9, .int (iZ ((x : Int) - (c : Int) - (y : Int)))) :: tsL M r a b sg n (Z b) c2 i) [.int (nI q), .int (nI (320 * r + i)), .ref (M 1)] σ Q := by
        intro c2 q hc2 hq hqe
        refine wn_iast q_X7_takeSizes_111 (by assumption) (by omega) (by omega) (fun σ_p1 p1 f_p1 e1_p1 e2_p1 => ?_)
        obtain ⟨w1, s1⟩ := h.cell p1 f_p1 e1_p1 e2_p1
        refine wn_iinc q_X7_takeSizes_112 rfl (by decide) ?_
        refine wa_goto q_X7_takeSizes_115 ?_
        refine wa_lv (ih (i + 1) c2 σ_p1 _ (by omega) w1 hc2 (fun j hj => ?_) ?_ (fun j j1 j2 => ?_) (hO.tr (rO.cell (by omega))) (hS.tr s1)) rfl
        · rw [reg_u]
          by_cases e : j = i
          · rw [e, un_s]; exact hq
          · rw [un_n e]; exact hd j (by omega)
        · rw [reg_u]
          show vl (un (reg C1 r) i q) i + un (reg C1 r) i q i * BB ^ i + (vl (pad (reg C b) (Z b)) i + pad (reg C b) (Z b) i * BB ^ i) = (vl (reg C a) i + reg C a i * BB ^ i) + c2 * BB ^ (i + 1)
          rw [un_s, vl_congr (e := reg C1 r) (fun j hj => un_n (by omega)), ← hx0, ← hy0, Nat.pow_succ]
          exact ts_step (P := BB ^ i) hv hqe
        · rw [reg_u, un_n (by omega)]; exact hk j (by omega) j2
      refine wa_isub q_X7_takeSizes_69 ?_
      rw [nI_iZ y, iZ_sub]
      refine wa_istore q_X7_takeSizes_70 (by decide) ?_
      refine wa_iload q_X7_takeSizes_72 rfl ?_
      rcases Int.lt_or_le ((x : Int) - (c : Int) - (y : Int)) 0 with hl | hl
      · have e0 : (0 : Int32) = iZ 0 := by decide
        have hlt : iZ ((x : Int) - (c : Int) - (y : Int)) < 0 := by rw [e0]; exact (iZ_lt (by omega) (by omega) (by decide) (by decide)).mpr hl
        refine wa_if_ge q_X7_takeSizes_74 (fun q => absurd hlt (Int32.not_lt.mpr q)) (fun _ => ?_)
        refine wa_iconst q_X7_takeSizes_77 (v := nI 1) (by decide) ?_
        refine wa_goto q_X7_takeSizes_78 ?_
        refine wa_istore q_X7_takeSizes_82 (by decide) ?_
        refine wa_aload_n q_X7_takeSizes_84 rfl ?_
        refine wa_getf q_X7_takeSizes_85 f_RX7_8 (by assumption) rfl ?_
        refine wa_sipush q_X7_takeSizes_88 (v := nI 320) (by decide) ?_
        refine wa_iload_n q_X7_takeSizes_91 rfl ?_
        refine wn_imul q_X7_takeSizes_92 ?_
        refine wa_iload q_X7_takeSizes_93 rfl ?_
        refine wn_iadd q_X7_takeSizes_95 ?_
        refine wa_iload q_X7_takeSizes_96 rfl ?_
        refine wa_if_ge q_X7_takeSizes_98 (fun q => absurd hlt (Int32.not_lt.mpr q)) (fun _ => ?_)
        refine wa_iload q_X7_takeSizes_101 rfl ?_
        refine wa_ldc q_X7_takeSizes_103 (v := nI 1000000000) k_RX7_65 ?_
        refine wa_iadd q_X7_takeSizes_105 ?_
        rw [nI_iZ 1000000000, iZ_add, show ((x : Int) - (c : Int) - (y : Int) + ((1000000000 : Nat) : Int)) = ((x + 1000000000 - c - y : Nat) : Int) by omega, ← nI_iZ]
        refine wa_goto q_X7_takeSizes_106 ?_
        exact wa_lv (wr 1 (x + 1000000000 - c - y) (by decide) (by omega) (by omega)) rfl
      · have e0 : (0 : Int32) = iZ 0 := by decide
        have hge : 0 ≤ iZ ((x : Int) - (c : Int) - (y : Int)) := by rw [e0]; exact (iZ_le (by decide) (by decide) (by omega) (by omega)).mpr hl
        refine wa_if_ge q_X7_takeSizes_74 (fun _ => ?_) (fun q => absurd hge q)
        refine wa_iconst q_X7_takeSizes_81 (v := nI 0) (by decide) ?_
        refine wa_istore q_X7_takeSizes_82 (by decide) ?_
        refine wa_aload_n q_X7_takeSizes_84 rfl ?_
        refine wa_getf q_X7_takeSizes_85 f_RX7_8 (by assumption) rfl ?_
        refine wa_sipush q_X7_takeSizes_88 (v := nI 320) (by decide) ?_
        refine wa_iload_n q_X7_takeSizes_91 rfl ?_
        refine wn_imul q_X7_takeSizes_92 ?_
        refine wa_iload q_X7_takeSizes_93 rfl ?_
        refine wn_iadd q_X7_takeSizes_95 ?_
        refine wa_iload q_X7_takeSizes_96 rfl ?_
        refine wa_if_ge q_X7_takeSizes_98 (fun _ => ?_) (fun q => absurd hge q)
        refine wa_iload q_X7_takeSizes_109 rfl ?_
        have hw := wr 0 (x - c - y) (by decide) (by omega) (by omega)
        have en : nI (x - c - y) = iZ ((x : Int) - (c : Int) - (y : Int)) := by rw [nI_iZ]; congr 1; omega
        rw [en] at hw
        exact wa_lv hw rfl
    refine wa_iload q_X7_takeSizes_22 rfl ?_
    refine wa_iload q_X7_takeSizes_24 rfl ?_
    refine wn_icmp_ge q_X7_takeSizes_26 (by omega) (by omega) (fun hx => ?_) (fun hx => ?_)
    · omega
    have ex : C1 (320 * a + i) = x := by rw [rd a ha, hx0]
    refine wa_aload_n q_X7_takeSizes_29 rfl ?_
    refine wa_getf q_X7_takeSizes_30 f_RX7_8 (by assumption) rfl ?_
    refine wa_sipush q_X7_takeSizes_33 (v := nI 320) (by decide) ?_
    refine wa_iload_n q_X7_takeSizes_36 rfl ?_
    refine wn_imul q_X7_takeSizes_37 ?_
    refine wa_iload q_X7_takeSizes_38 rfl ?_
    refine wn_iadd q_X7_takeSizes_40 ?_
    refine wn_iald q_X7_takeSizes_41 (by assumption) (by omega) (by omega) ?_
    rw [ex]
    refine wa_iload q_X7_takeSizes_42 rfl ?_
    refine wa_isub q_X7_takeSizes_44 ?_
    rw [iZ_subN]
    refine wa_iload q_X7_takeSizes_45 rfl ?_
    refine wa_iload q_X7_takeSizes_47 rfl ?_
    refine wn_icmp_ge q_X7_takeSizes_49 (by omega) (by omega) (fun hc0 => ?_) (fun hc0 => ?_)
    · have e : y = 0 := by rw [hy0]; exact if_neg (by omega)
      refine wa_iconst q_X7_takeSizes_68 (v := nI 0) (by decide) ?_
      rw [← e]
      exact wa_lv fin rfl
    · have e : C1 (320 * b + i) = y := by rw [rd b hb, hy0]; exact (if_pos hc0).symm
      refine wa_aload_n q_X7_takeSizes_52 rfl ?_
      refine wa_getf q_X7_takeSizes_53 f_RX7_8 (by assumption) rfl ?_
      refine wa_sipush q_X7_takeSizes_56 (v := nI 320) (by decide) ?_
      refine wa_iload_n q_X7_takeSizes_59 rfl ?_
      refine wn_imul q_X7_takeSizes_60 ?_
      refine wa_iload q_X7_takeSizes_61 rfl ?_
      refine wn_iadd q_X7_takeSizes_63 ?_
      refine wn_iald q_X7_takeSizes_64 (by assumption) (by omega) (by omega) ?_
      rw [e]
      refine wa_goto q_X7_takeSizes_65 ?_
      exact wa_lv fin rfl
/-- r = a - b without their signs, and with the sign given -/
theorem R_takeS {r a b : Nat} {sg : Int32} {v : Int} (h : rV X σ M O C Z G V) (hr : r < 140) (ha : a < 140) (hb : b < 140) (hle : (V b).natAbs ≤ (V a).natAbs) (hv : v.natAbs = (V a).natAbs - (V b).natAbs) (hs : v ≠ 0 → sg = sgI v) :
    Calls X M_X7_takeSizes [.ref (M 0), .int (nI r), .int (nI a), .int (nI b), .int sg] σ (fun res τ => res = none ∧ ∃ C' Z' G', rV X τ M O C' Z' G' (uV V r v) ∧ mSt M σ τ) := by
  have hB : BB = 1000000000 := rfl
  obtain ⟨v1, v2, v3, v4⟩ := h.2 a ha
  obtain ⟨w1, w2, w3, w4⟩ := h.2 b hb
  have hzz : Z b ≤ Z a := by
    rcases Nat.lt_or_ge (Z a) (Z b) with q | q
    · have := nrm_lt v3 w3 q
      omega
    · exact q
  obtain ⟨a0, a1, a2, a3, n1, n2, n3⟩ := h.1
  refine Calls.of rfl (lk rfl) ?_
  refine wa_aload_n q_X7_takeSizes_0 rfl ?_
  refine wa_getf q_X7_takeSizes_1 f_RX7_14 (by assumption) rfl ?_
  refine wa_iload_n q_X7_takeSizes_4 rfl ?_
  refine wn_iald q_X7_takeSizes_5 (by assumption) (by omega) (by omega) ?_
  refine wa_istore q_X7_takeSizes_6 (by decide) ?_
  refine wa_aload_n q_X7_takeSizes_8 rfl ?_
  refine wa_getf q_X7_takeSizes_9 f_RX7_14 (by assumption) rfl ?_
  refine wa_iload_n q_X7_takeSizes_12 rfl ?_
  refine wn_iald q_X7_takeSizes_13 (by assumption) (by omega) (by omega) ?_
  refine wa_istore q_X7_takeSizes_14 (by decide) ?_
  refine wa_iconst q_X7_takeSizes_16 (v := nI 0) (by decide) ?_
  refine wa_istore q_X7_takeSizes_17 (by decide) ?_
  refine wa_iconst q_X7_takeSizes_19 (v := nI 0) (by decide) ?_
  refine wa_istore q_X7_takeSizes_20 (by decide) ?_
  refine wa_lv (R_takeS_loop (C := C) (Z := Z) (G := G) (n := Z a) (σ0 := σ) hr ha hb v4 rfl hzz v3.1 w3.1 (fun τ C1 c x1 x2 x3 x4 x5 x6 => ?_) (Z a) 0 0 σ C (by omega) h.1 (by decide) (fun j hj => by omega) (by show 0 + 0 = 0 + 0 * 1; rfl) (fun _ _ _ => rfl) rO.rf mSt.rf) rfl
  rw [v2, w2] at x4
  have hlt := vl_lt x3
  have hc : c = 0 := by
    have : c = 0 ∨ c = 1 := by omega
    rcases this with e | e
    · exact e
    · subst e; omega
  subst hc
  obtain ⟨b0, b1, b2, b3, -⟩ := id x1
  refine wa_aload_n q_X7_takeSizes_118 rfl ?_
  refine wa_getf q_X7_takeSizes_119 f_RX7_17 (by assumption) rfl ?_
  refine wa_iload_n q_X7_takeSizes_122 rfl ?_
  refine wa_iload q_X7_takeSizes_123 rfl ?_
  refine wn_gast q_X7_takeSizes_125 (by assumption) (by omega) (fun σ_p1 p1 f_p1 e1_p1 e2_p1 => ?_)
  obtain ⟨y1, s1⟩ := x1.sign p1 f_p1 e1_p1 e2_p1
  obtain ⟨c0, c1, c2, c3, -⟩ := id y1
  refine wa_aload_n q_X7_takeSizes_126 rfl ?_
  refine wa_iload_n q_X7_takeSizes_127 rfl ?_
  refine wa_iload q_X7_takeSizes_128 rfl ?_
  refine wa_callV q_X7_takeSizes_130 g_X7_takeSizes_130 w_X7_trim (by assumption) rfl (av := [_, _]) rfl rfl (lk rfl) (Calls.mono (R_trim hr y1 (n := Z a) (by omega) (fun i hi => by have := x3 i hi; omega)) ?_)
  rintro _ τ2 ⟨rfl, y2, s2⟩
  refine wa_vret q_X7_takeSizes_133 rfl ?_
  refine ⟨rfl, _, _, _, h.up y2 (x5.tr (rO.sign.tr (rO.size.tr rO.sign))) (isR.trim x3 v4 ?_ (fun q => ?_)), x6.tr (s1.tr s2)⟩
  · omega
  · rw [upG_s]; exact hs q
set_option maxHeartbeats 1000000 in
theorem R_addT {r a b : Nat} {s : Int} (h : rV X σ M O C Z G V) (hr : r < 140) (ha : a < 140) (hb : b < 140) (hs : s = 1 ∨ s = -1) (za : (V a).natAbs < BB ^ 300) (zb : (V b).natAbs < BB ^ 300) :
    Calls X M_X7_addTo [.ref (M 0), .int (nI r), .int (nI a), .int (nI b), .int (sgI s)] σ (fun res τ => res = none ∧ ∃ C' Z' G', rV X τ M O C' Z' G' (uV V r (V a + s * V b)) ∧ mSt M σ τ) := by
  obtain ⟨a0, a1, a2, a3, n1, n2, n3⟩ := id h.1
  have g1 := (h.2 a ha).1
  have g2 := (h.2 b hb).1
  have esb : sgI (V b) * sgI s = sgI (s * V b) := by rw [← sgI_mul, Int.mul_comm]
  have nab : (s * V b).natAbs = (V b).natAbs := by rcases hs with e | e <;> subst e <;> omega
  refine Calls.of rfl (lk rfl) ?_
  refine wa_aload_n q_X7_addTo_0 rfl ?_
  refine wa_getf q_X7_addTo_1 f_RX7_17 (by assumption) rfl ?_
  refine wa_iload_n q_X7_addTo_4 rfl ?_
  refine wn_gald q_X7_addTo_5 (by assumption) (by omega) ?_
  refine wa_istore q_X7_addTo_6 (by decide) ?_
  refine wa_aload_n q_X7_addTo_8 rfl ?_
  refine wa_getf q_X7_addTo_9 f_RX7_17 (by assumption) rfl ?_
  refine wa_iload_n q_X7_addTo_12 rfl ?_
  refine wn_gald q_X7_addTo_13 (by assumption) (by omega) ?_
  refine wa_iload q_X7_addTo_14 rfl ?_
  refine wa_imul q_X7_addTo_16 ?_
  rw [g1, g2, esb]
  refine wa_istore q_X7_addTo_17 (by decide) ?_
  refine wa_iload q_X7_addTo_19 rfl ?_
  obtain ⟨W, hW⟩ : ∃ W, W = s * V b := ⟨_, rfl⟩
  rw [← hW] at esb nab ⊢
  refine wa_if_ne q_X7_addTo_21 (fun hx => ?_) (fun hx => ?_)
  · have hb0 : W ≠ 0 := fun q => hx (sgI_0.mpr q)
    refine wa_iload q_X7_addTo_33 rfl ?_
    refine wa_if_ne q_X7_addTo_35 (fun hy => ?_) (fun hy => ?_)
    · have ha0 : V a ≠ 0 := fun q => hy (sgI_0.mpr q)
      refine wa_iload q_X7_addTo_55 rfl ?_
      refine wa_iload q_X7_addTo_57 rfl ?_
      refine wa_icmp_ne q_X7_addTo_59 (fun hz => ?_) (fun hz => ?_)
      · -- the signs differ
        have hd : (V a < 0 ∧ 0 < W) ∨ (0 < V a ∧ W < 0) := by
          rcases sgI_c (V a) with ⟨p, e⟩ | ⟨p, e⟩ | ⟨p, e⟩ <;> rcases sgI_c W with ⟨q, f⟩ | ⟨q, f⟩ | ⟨q, f⟩
          · exact absurd (e.trans f.symm) hz
          · omega
          · exact Or.inl ⟨p, q⟩
          · omega
          · omega
          · omega
          · exact Or.inr ⟨p, q⟩
          · omega
          · exact absurd (e.trans f.symm) hz
        refine wa_aload_n q_X7_addTo_80 rfl ?_
        refine wa_iload_n q_X7_addTo_81 rfl ?_
        refine wa_iload_n q_X7_addTo_82 rfl ?_
        refine wa_callV q_X7_addTo_83 g_X7_addTo_83 w_X7_compareSizes (by assumption) rfl (av := [_, _]) rfl rfl (lk rfl) (Calls.mono (R_cmpS h ha hb) ?_)
        rintro res τ1 ⟨⟨w, rfl, c1, c2, c3, c4⟩, eτ⟩
        rw [eτ]
        have e0 : (0 : Int32) = iZ 0 := by decide
        refine wa_if_lt q_X7_addTo_86 (fun hl => ?_) (fun hl => ?_)
        · rw [e0] at hl
          have hl' := (iZ_lt c1 c2 (by decide) (by decide)).mp hl
          have hlt := c3.mp hl'
          have hsg : sgI W = sgI (V a + W) := by
            rcases hd with ⟨p1, p2⟩ | ⟨p1, p2⟩
            · have : 0 < V a + W := by omega
              unfold sgI; rw [if_neg (by omega), if_neg (by omega), if_neg (by omega), if_neg (by omega)]
            · have : V a + W < 0 := by omega
              unfold sgI; rw [if_pos p2, if_pos this]
          refine wa_aload_n q_X7_addTo_101 rfl ?_
          refine wa_iload_n q_X7_addTo_102 rfl ?_
          refine wa_iload_n q_X7_addTo_103 rfl ?_
          refine wa_iload_n q_X7_addTo_104 rfl ?_
          refine wa_iload q_X7_addTo_105 rfl ?_
          refine wa_callV q_X7_addTo_107 g_X7_addTo_107 w_X7_takeSizes (by assumption) rfl (av := [_, _, _, _]) rfl rfl (lk rfl) (Calls.mono (R_takeS (v := V a + W) h hr hb ha (by omega) (by omega) (fun _ => hsg)) ?_)
          rintro _ τ2 ⟨rfl, C', Z', G', y1, y2⟩
          refine wa_vret q_X7_addTo_110 rfl ?_
          exact ⟨rfl, C', Z', G', y1, y2⟩
        · have hl' : ¬ w < 0 := fun q => hl (by rw [e0]; exact (iZ_lt c1 c2 (by decide) (by decide)).mpr q)
          have hge : ¬ ((V a).natAbs : Int) < ((V b).natAbs : Int) := fun q => hl' (c3.mpr q)
          have hsg : V a + W ≠ 0 → sgI (V a) = sgI (V a + W) := fun q => by
            rcases hd with ⟨p1, p2⟩ | ⟨p1, p2⟩
            · have : V a + W < 0 := by omega
              unfold sgI; rw [if_pos p1, if_pos this]
            · have : 0 < V a + W := by omega
              unfold sgI; rw [if_neg (by omega), if_neg (by omega), if_neg (by omega), if_neg (by omega)]
          refine wa_aload_n q_X7_addTo_89 rfl ?_
          refine wa_iload_n q_X7_addTo_90 rfl ?_
          refine wa_iload_n q_X7_addTo_91 rfl ?_
          refine wa_iload_n q_X7_addTo_92 rfl ?_
          refine wa_iload q_X7_addTo_93 rfl ?_
          refine wa_callV q_X7_addTo_95 g_X7_addTo_95 w_X7_takeSizes (by assumption) rfl (av := [_, _, _, _]) rfl rfl (lk rfl) (Calls.mono (R_takeS (v := V a + W) h hr ha hb (by omega) (by omega) hsg) ?_)
          rintro _ τ2 ⟨rfl, C', Z', G', y1, y2⟩
          refine wa_goto q_X7_addTo_98 ?_
          refine wa_vret q_X7_addTo_110 rfl ?_
          exact ⟨rfl, C', Z', G', y1, y2⟩
      · -- the same sign
        have hd : (V a < 0 ∧ W < 0) ∨ (0 < V a ∧ 0 < W) := by
          rcases sgI_c (V a) with ⟨p, e⟩ | ⟨p, e⟩ | ⟨p, e⟩ <;> rcases sgI_c W with ⟨q, f⟩ | ⟨q, f⟩ | ⟨q, f⟩
          · exact Or.inl ⟨p, q⟩
          · omega
          · rw [e, f] at hz; exact absurd hz (by decide)
          · omega
          · omega
          · omega
          · rw [e, f] at hz; exact absurd hz (by decide)
          · omega
          · exact Or.inr ⟨p, q⟩
        refine wa_aload_n q_X7_addTo_62 rfl ?_
        refine wa_iload_n q_X7_addTo_63 rfl ?_
        refine wa_iload_n q_X7_addTo_64 rfl ?_
        refine wa_iload_n q_X7_addTo_65 rfl ?_
        refine wa_callV q_X7_addTo_66 g_X7_addTo_66 w_X7_addSizes (by assumption) rfl (av := [_, _, _]) rfl rfl (lk rfl) (Calls.mono (R_addS h hr ha hb za zb) ?_)
        rintro _ τ1 ⟨rfl, C', Z', y1, y2, y3, y4, y5, y6⟩
        obtain ⟨b0, b1, b2, b3, -⟩ := id y1
        refine wa_aload_n q_X7_addTo_69 rfl ?_
        refine wa_getf q_X7_addTo_70 f_RX7_17 (by assumption) rfl ?_
        refine wa_iload_n q_X7_addTo_73 rfl ?_
        refine wa_iload q_X7_addTo_74 rfl ?_
        refine wn_gast q_X7_addTo_76 (by assumption) (by omega) (fun σ_p1 p1 f_p1 e1_p1 e2_p1 => ?_)
        obtain ⟨w2, s2⟩ := y1.sign p1 f_p1 e1_p1 e2_p1
        refine wa_goto q_X7_addTo_77 ?_
        refine wa_vret q_X7_addTo_110 rfl ?_
        refine ⟨rfl, C', Z', _, h.up w2 (y2.tr rO.sign) ⟨?_, ?_, y4, y5⟩, y6.tr s2⟩
        · rw [upG_s]
          rcases hd with ⟨p1, p2⟩ | ⟨p1, p2⟩
          · unfold sgI; rw [if_pos p1, if_pos (by omega)]
          · unfold sgI; rw [if_neg (by omega), if_neg (by omega), if_neg (by omega), if_neg (by omega)]
        · rw [y3]; omega
    · have ha0 : V a = 0 := sgI_0.mp hy
      refine wa_aload_n q_X7_addTo_38 rfl ?_
      refine wa_iload_n q_X7_addTo_39 rfl ?_
      refine wa_iload_n q_X7_addTo_40 rfl ?_
      refine wa_callV q_X7_addTo_41 g_X7_addTo_41 w_X7_copyTo (by assumption) rfl (av := [_, _]) rfl rfl (lk rfl) (Calls.mono (R_copy h hb hr) ?_)
      rintro _ τ1 ⟨rfl, C', Z', G', y1, y2⟩
      obtain ⟨b0, b1, b2, b3, -⟩ := id y1.1
      refine wa_aload_n q_X7_addTo_44 rfl ?_
      refine wa_getf q_X7_addTo_45 f_RX7_17 (by assumption) rfl ?_
      refine wa_iload_n q_X7_addTo_48 rfl ?_
      refine wa_iload q_X7_addTo_49 rfl ?_
      refine wn_gast q_X7_addTo_51 (by assumption) (by omega) (fun σ_p1 p1 f_p1 e1_p1 e2_p1 => ?_)
      obtain ⟨w2, s2⟩ := y1.1.sign p1 f_p1 e1_p1 e2_p1
      refine wa_goto q_X7_addTo_52 ?_
      refine wa_vret q_X7_addTo_110 rfl ?_
      obtain ⟨z1, z2, z3, z4⟩ := y1.2 r hr
      rw [uV_s] at z1 z2
      have hup := y1.up (v := V a + W) w2 rO.sign ⟨by rw [upG_s, ha0, Int.zero_add], by rw [z2, ha0, Int.zero_add, nab], z3, z4⟩
      refine ⟨rfl, C', Z', _, ⟨hup.1, fun q hq => ?_⟩, y2.tr s2⟩
      have := hup.2 q hq
      by_cases e : q = r
      · subst e; rw [uV_s] at this ⊢; exact this
      · rw [uV_n e, uV_n e] at this; rw [uV_n e]; exact this
  · have hb0 : W = 0 := sgI_0.mp hx
    refine wa_aload_n q_X7_addTo_24 rfl ?_
    refine wa_iload_n q_X7_addTo_25 rfl ?_
    refine wa_iload_n q_X7_addTo_26 rfl ?_
    refine wa_callV q_X7_addTo_27 g_X7_addTo_27 w_X7_copyTo (by assumption) rfl (av := [_, _]) rfl rfl (lk rfl) (Calls.mono (R_copy h ha hr) ?_)
    rintro _ τ1 ⟨rfl, C', Z', G', y1, y2⟩
    refine wa_goto q_X7_addTo_30 ?_
    refine wa_vret q_X7_addTo_110 rfl ?_
    exact ⟨rfl, C', Z', G', by rw [hb0, Int.add_zero]; exact y1, y2⟩
end ref5
