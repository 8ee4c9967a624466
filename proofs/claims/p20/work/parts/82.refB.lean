/-! The reference: divide -/
section ref12
variable {X : en_X} {σ : en_S} {M : Nat → Nat} {O : Int32 × Int32 × Int32 × Int32 × Int32} {C Z : Nat → Nat} {G : Nat → Int32} {V : Nat → Int}
/-- registers other than two are as they were -/
def rO2 (C Z : Nat → Nat) (G : Nat → Int32) (C' Z' : Nat → Nat) (G' : Nat → Int32) (a q : Nat) : Prop := ∀ s, s < 140 → s ≠ a → s ≠ q → Z' s = Z s ∧ G' s = G s ∧ ∀ j, j < 320 → reg C' s j = reg C s j
theorem rO2.a {C1 Z1 : Nat → Nat} {G1 : Nat → Int32} {C' Z' : Nat → Nat} {G' : Nat → Int32} {a q : Nat} (h : rO2 C Z G C' Z' G' a q) (g : rO C' Z' G' C1 Z1 G1 a) : rO2 C Z G C1 Z1 G1 a q := fun s s1 s2 s3 => ⟨(g s s1 s2).1.trans (h s s1 s2 s3).1, (g s s1 s2).2.1.trans (h s s1 s2 s3).2.1, fun j hj => ((g s s1 s2).2.2 j hj).trans ((h s s1 s2 s3).2.2 j hj)⟩
theorem rO2.q {C1 Z1 : Nat → Nat} {G1 : Nat → Int32} {C' Z' : Nat → Nat} {G' : Nat → Int32} {a q : Nat} (h : rO2 C Z G C' Z' G' a q) (g : rO C' Z' G' C1 Z1 G1 q) : rO2 C Z G C1 Z1 G1 a q := fun s s1 s2 s3 => ⟨(g s s1 s3).1.trans (h s s1 s2 s3).1, (g s s1 s3).2.1.trans (h s s1 s2 s3).2.1, fun j hj => ((g s s1 s3).2.2 j hj).trans ((h s s1 s2 s3).2.2 j hj)⟩
theorem win_low {d : Nat → Nat} {t n : Nat} : vl (fun i => d (t + i)) (n + 1) = d t + BB * vl (fun i => d (t + 1 + i)) n := by
  rw [vl_low]
  show d (t + 0) + BB * vl (fun i => d (t + (i + 1))) n = _
  rw [Nat.add_zero]
  congr 2
  exact vl_congr (fun i _ => by rw [show t + (i + 1) = t + 1 + i by omega])
set_option maxHeartbeats 1000000 in
theorem R_dv_loop {ρ σ0 : en_S} {q a b n top by' A0 W : Nat} {sg : Int32} {Q : Option Value → en_S → Prop} (hq : q < 140) (ha : a < 140) (hb : b < 140) (hqa : q ≠ a) (hqb : q ≠ b) (hab : b ≠ a) (hn : 1 ≤ n) (hnt : n ≤ top) (htop : top ≤ 310) (hdb : ∀ i, i < n → reg C b i < BB) (htp : BB ≤ 2 * reg C b (n - 1)) (hW : W = vl (reg C b) n)
    (k : ∀ (τ : en_S) (C1 : Nat → Nat), rR X τ M O C1 Z G → (∀ i, i < top + 1 → reg C1 a i < BB) → (∀ i, n ≤ i → i < top + 1 → reg C1 a i = 0) → vl (reg C1 a) n < W → (∀ i, i < top - n + 1 → reg C1 q i < BB) → vl (reg C1 a) (top + 1) + W * vl (reg C1 q) (top - n + 1) = A0 → rO2 C Z G C1 Z G a q → mSt M σ0 τ → WA X M_X7_divide ρ 145 [(0, .ref (M 0)), (1, .int (nI q)), (2, .int (nI a)), (3, .int (nI b)), (4, .int (nI by')), (5, .int (nI n)), (6, .int (nI top)), (7, .int sg)] [] τ Q) :
    ∀ (t : Nat) (σ : en_S) (C1 : Nat → Nat), t ≤ top - n + 1 → rR X σ M O C1 Z G → (∀ i, i < top + 1 → reg C1 a i < BB) → (∀ i, t + n ≤ i → i < top + 1 → reg C1 a i = 0) → vl (fun i => reg C1 a (t + i)) n < W → (∀ i, t ≤ i → i < top - n + 1 → reg C1 q i < BB) → vl (reg C1 a) (top + 1) + W * (BB ^ t * vl (fun i => reg C1 q (t + i)) (top - n + 1 - t)) = A0 → rO2 C Z G C1 Z G a q → mSt M σ0 σ →
      WA X M_X7_divide ρ 111 [(8, .int (nI t + (-1))), (0, .ref (M 0)), (1, .int (nI q)), (2, .int (nI a)), (3, .int (nI b)), (4, .int (nI by')), (5, .int (nI n)), (6, .int (nI top)), (7, .int sg)] [] σ Q := by
  have hB : BB = 1000000000 := rfl
  intro t
  induction t with
  | zero =>
    intro σ C1 ht h h1 h2 h3 h4 h5 hO hS
    refine wa_iload q_X7_divide_111 rfl ?_
    refine wa_if_lt q_X7_divide_113 (fun _ => ?_) (fun hx => absurd (by decide) hx)
    have e3 : vl (fun i => reg C1 a (0 + i)) n = vl (reg C1 a) n := vl_congr (fun i _ => by rw [Nat.zero_add])
    have e5 : vl (fun i => reg C1 q (0 + i)) (top - n + 1 - 0) = vl (reg C1 q) (top - n + 1) := vl_congr (fun i _ => by rw [Nat.zero_add])
    rw [e3] at h3
    rw [e5, Nat.pow_zero, Nat.one_mul] at h5
    exact wa_lv (k σ C1 h h1 (fun i i1 i2 => h2 i (by omega) i2) h3 (fun i hi => h4 i (Nat.zero_le _) hi) h5 hO hS) rfl
  | succ t ih =>
    intro σ C1 ht h h1 h2 h3 h4 h5 hO hS
    obtain ⟨a0, a1, a2, a3, n1, n2, n3⟩ := id h
    rw [pk_m1]
    have rb : ∀ i, i < 320 → reg C1 b i = reg C b i := fun i hi => (hO b hb hab (Ne.symm hqb)).2.2 i hi
    have hWb : vl (reg C1 b) n = W := by rw [hW]; exact vl_congr (fun i hi => rb i (by omega))
    have hlow := h1 t (by omega)
    have ew := win_low (d := reg C1 a) (t := t) (n := n)
    have hUlt : vl (fun i => reg C1 a (t + i)) (n + 1) < vl (reg C1 b) n * BB := by
      rw [ew, hWb, Nat.mul_comm W BB]
      have : BB * (vl (fun i => reg C1 a (t + 1 + i)) n + 1) ≤ BB * W := Nat.mul_le_mul_left _ h3
      rw [Nat.mul_add, Nat.mul_one] at this
      omega
    refine wa_iload q_X7_divide_111 rfl ?_
    refine wn_if_lt q_X7_divide_113 (by omega) (fun hx => ?_) (fun hx => ?_)
    · exact absurd hx id
    refine wa_aload_n q_X7_divide_116 rfl ?_
    refine wa_getf q_X7_divide_117 f_RX7_8 (by assumption) rfl ?_
    refine wa_sipush q_X7_divide_120 (v := nI 320) (by decide) ?_
    refine wa_iload_n q_X7_divide_123 rfl ?_
    refine wn_imul q_X7_divide_124 ?_
    refine wa_iload q_X7_divide_125 rfl ?_
    refine wn_iadd q_X7_divide_127 ?_
    refine wa_aload_n q_X7_divide_128 rfl ?_
    refine wa_iload_n q_X7_divide_129 rfl ?_
    refine wa_iload_n q_X7_divide_130 rfl ?_
    refine wa_iload q_X7_divide_131 rfl ?_
    refine wa_iload q_X7_divide_133 rfl ?_
    refine wa_callV q_X7_divide_135 g_X7_divide_135 w_X7_placeOf (by assumption) rfl (av := [_, _, _, _]) rfl rfl (lk rfl) (Calls.mono (R_place h ha hb hab hn (j := t) (by omega) (fun i hi => h1 (t + i) (by omega)) (fun i hi => by rw [rb i (by omega)]; exact hdb i hi) (by rw [rb _ (by omega)]; exact htp) hUlt) ?_)
    rintro _ σ1 ⟨C2, rfl, y1, y2, y3, y4, y5, y6, y7⟩
    rw [hWb] at y4 ⊢
    rw [hWb] at hUlt
    obtain ⟨U, hU⟩ : ∃ U, U = vl (fun i => reg C1 a (t + i)) (n + 1) := ⟨_, rfl⟩
    rw [← hU] at y4 hUlt ⊢
    have hWp : 0 < W := by
      rcases Nat.eq_zero_or_pos W with z | z
      · rw [z] at hUlt; omega
      · exact z
    have hx : U / W < BB := Nat.div_lt_of_lt_mul hUlt
    have hm := Nat.div_add_mod U W
    have hml := Nat.mod_lt U hWp
    obtain ⟨b0, b1, b2, b3, -⟩ := id y1
    refine wn_iast q_X7_divide_138 (by assumption) (by omega) (by omega) (fun σ_p1 p1 f_p1 e1_p1 e2_p1 => ?_)
    obtain ⟨w1, s1⟩ := y1.cell p1 f_p1 e1_p1 e2_p1
    have hcq : rO C2 Z G (un C2 (320 * q + t) (U / W)) Z G q := rO.cell (by omega)
    have hra : ∀ i, i < 320 → reg (un C2 (320 * q + t) (U / W)) a i = reg C2 a i := fun i hi => (hcq a ha (Ne.symm hqa)).2.2 i hi
    have hrq := reg_u (C := C2) (r := q) (i := t) (x := U / W)
    have hq2 : ∀ i, i < 320 → reg C2 q i = reg C1 q i := fun i hi => (y6 q hq hqa).2.2 i hi
    have seg := vl_seg (d := reg C1 a) (e := reg C2 a) (m := top + 1) (n := n) (j := t) (x := U / W) (V := W) (by omega) (fun i hi => y5 i (by omega)) (by rw [Nat.add_comm n t]; exact y2) (by rw [y4, ← hU]; rw [Nat.mul_comm] at hm; omega)
    refine wa_iinc q_X7_divide_139 rfl rfl (by decide) ?_
    refine wa_goto q_X7_divide_142 ?_
    refine wa_lv (ih σ_p1 _ (by omega) w1 (fun i hi => ?_) (fun i i1 i2 => ?_) ?_ (fun i i1 i2 => ?_) ?_ ((hO.a y6).q hcq) (hS.tr (y7.tr s1))) rfl
    · rw [hra i (by omega)]
      by_cases c1 : i < t ∨ t + n < i
      · rw [y5 i c1]; exact h1 i hi
      · by_cases c2 : i = t + n
        · rw [c2, y2]; exact BB_pos
        · have := y3 (i - t) (by omega)
          rw [show t + (i - t) = i by omega] at this; exact this
    · rw [hra i (by omega)]
      by_cases c2 : i = t + n
      · rw [c2, y2]
      · rw [y5 i (by omega)]; exact h2 i (by omega) i2
    · rw [vl_congr (e := fun i => reg C2 a (t + i)) (fun i hi => hra _ (by omega)), y4]; exact hml
    · rw [hrq]
      by_cases c2 : i = t
      · rw [c2, un_s]; exact hx
      · rw [un_n c2, hq2 i (by omega)]; exact h4 i (by omega) i2
    · rw [vl_congr (e := reg C2 a) (fun i hi => hra i (by omega)), hrq]
      have es : top - n + 1 - t = top - n + 1 - (t + 1) + 1 := by omega
      rw [es, win_low, un_s]
      have eq : vl (fun i => un (reg C2 q) t (U / W) (t + 1 + i)) (top - n + 1 - (t + 1)) = vl (fun i => reg C1 q (t + 1 + i)) (top - n + 1 - (t + 1)) := vl_congr (fun i hi => by rw [un_n (by omega), hq2 _ (by omega)])
      rw [eq, ← h5, ← seg, Nat.pow_succ]
      generalize BB ^ t = P
      generalize U / W = x
      grind
theorem rV.up2 {τ : en_S} {C' Z' : Nat → Nat} {G' : Nat → Int32} {a q : Nat} {va vq : Int} (h : rV X σ M O C Z G V) (hR : rR X τ M O C' Z' G') (hO : rO2 C Z G C' Z' G' a q) (ha : isR C' Z' G' a va) (hq : isR C' Z' G' q vq) : rV X τ M O C' Z' G' (uV (uV V a va) q vq) := by
  refine ⟨hR, fun s hs => ?_⟩
  by_cases e : s = q
  · subst e; rw [uV_s]; exact hq
  · rw [uV_n e]
    by_cases e2 : s = a
    · subst e2; rw [uV_s]; exact ha
    · rw [uV_n e2]
      obtain ⟨q1, q2, q3⟩ := hO s hs e2 e
      exact (h.2 s hs).cg q1 q2 q3
theorem rO2.rf {a q : Nat} : rO2 C Z G C Z G a q := fun _ _ _ _ => ⟨rfl, rfl, fun _ _ => rfl⟩
theorem rO2.tr {C1 Z1 : Nat → Nat} {G1 : Nat → Int32} {C' Z' : Nat → Nat} {G' : Nat → Int32} {a q : Nat} (h : rO2 C Z G C' Z' G' a q) (g : rO2 C' Z' G' C1 Z1 G1 a q) : rO2 C Z G C1 Z1 G1 a q := fun s s1 s2 s3 => ⟨(g s s1 s2 s3).1.trans (h s s1 s2 s3).1, (g s s1 s2 s3).2.1.trans (h s s1 s2 s3).2.1, fun j hj => ((g s s1 s2 s3).2.2 j hj).trans ((h s s1 s2 s3).2.2 j hj)⟩
/-- a divisor times the factor: as many limbs, the highest at least half of the base -/
theorem sc_top {d e : Nat → Nat} {m n s : Nat} (hd : nrm d m) (hm : 0 < m) (hs : s = BB / (d (m - 1) + 1)) (he : nrm e n) (hv : vl e n = vl d m * s) : n = m ∧ BB ≤ 2 * e (n - 1) := by
  have hB : BB = 1000000000 := rfl
  have ht : d (m - 1) ≠ 0 := hd.2.resolve_left (by omega)
  have htb := hd.1 (m - 1) (by omega)
  obtain ⟨k1, k2, k3⟩ := kn_norm (t := d (m - 1)) (s := s) (by omega) htb hs
  obtain ⟨m', rfl⟩ : ∃ m', m = m' + 1 := ⟨m - 1, by omega⟩
  rw [show m' + 1 - 1 = m' by omega] at *
  have hl := vl_lt (d := d) (n := m') (fun i hi => hd.1 i (by omega))
  have ev : vl d (m' + 1) = vl d m' + d m' * BB ^ m' := rfl
  have hup : vl e n < BB ^ (m' + 1) := by
    rw [hv, ev, Nat.pow_succ]
    have x1 : (vl d m' + d m' * BB ^ m') * s < (BB ^ m' + d m' * BB ^ m') * s := (Nat.mul_lt_mul_right (by omega)).mpr (by omega)
    have x2 : (BB ^ m' + d m' * BB ^ m') * s = BB ^ m' * (s * (d m' + 1)) := by grind
    have x3 : BB ^ m' * (s * (d m' + 1)) ≤ BB ^ m' * BB := Nat.mul_le_mul_left _ k2
    omega
  have hlo : 500000000 * BB ^ m' ≤ vl e n := by
    rw [hv, ev]
    have x1 : 500000000 * BB ^ m' ≤ s * d m' * BB ^ m' := Nat.mul_le_mul_right _ k1
    have x2 : (vl d m' + d m' * BB ^ m') * s = vl d m' * s + s * d m' * BB ^ m' := by grind
    omega
  have hn1 : n ≤ m' + 1 := nrm_le he hup
  have hpp := pw_pos m'
  have hn2 : m' < n := by
    rcases Nat.lt_or_ge m' n with q | q
    · exact q
    · have := vl_lt he.1
      have := pw_mono q
      omega
  have hn : n = m' + 1 := by omega
  subst hn
  refine ⟨rfl, ?_⟩
  rw [show m' + 1 - 1 = m' by omega]
  have he2 := vl_lt (d := e) (n := m') (fun i hi => he.1 i (by omega))
  have ee : vl e (m' + 1) = vl e m' + e m' * BB ^ m' := rfl
  rcases Nat.lt_or_ge (e m') 500000000 with q | q
  · have : (e m' + 1) * BB ^ m' ≤ 500000000 * BB ^ m' := Nat.mul_le_mul_right _ q
    rw [Nat.add_mul, Nat.one_mul] at this
    omega
  · omega
/-- the quotient without signs; a is left as the rest, with its sign -/
theorem rest_sg {x : Int} {m : Nat} : (if x < 0 then -((m : Nat) : Int) else (m : Int)).natAbs = m := by split <;> omega
set_option maxHeartbeats 2000000 in
theorem R_divide {q a b : Nat} (h : rV X σ M O C Z G V) (hq : q < 140) (ha : a < 140) (hb : b < 140) (hqa : q ≠ a) (hqb : q ≠ b) (hab : b ≠ a) (hbz : V b ≠ 0) (za : (V a).natAbs < BB ^ 299) (zb : (V b).natAbs < BB ^ 299) :
    Calls X M_X7_divide [.ref (M 0), .int (nI q), .int (nI a), .int (nI b)] σ (fun res τ => res = none ∧ ∃ C' Z' G' V', rV X τ M O C' Z' G' V' ∧ V' q = (((V a).natAbs / (V b).natAbs : Nat) : Int) ∧ V' a = (if V a < 0 then -(((V a).natAbs % (V b).natAbs : Nat) : Int) else (((V a).natAbs % (V b).natAbs : Nat) : Int)) ∧ (∀ s, s ≠ q → s ≠ a → V' s = V s) ∧ mSt M σ τ) := by
  have hB : BB = 1000000000 := rfl
  obtain ⟨a0, a1, a2, a3, n1, n2, n3⟩ := id h.1
  refine Calls.of rfl (lk rfl) ?_
  refine wa_aload_n q_X7_divide_0 rfl ?_
  refine wa_getf q_X7_divide_1 f_RX7_14 (by assumption) rfl ?_
  refine wa_iload_n q_X7_divide_4 rfl ?_
  refine wa_iconst q_X7_divide_5 (v := nI 0) (by decide) ?_
  refine wn_iast q_X7_divide_6 (by assumption) (by omega) (by omega) (fun σ_p1 p1 f_p1 e1_p1 e2_p1 => ?_)
  obtain ⟨w1, s1⟩ := h.1.size p1 f_p1 e1_p1 e2_p1
  obtain ⟨b0, b1, b2, b3, -⟩ := id w1
  refine wa_aload_n q_X7_divide_7 rfl ?_
  refine wa_getf q_X7_divide_8 f_RX7_17 (by assumption) rfl ?_
  refine wa_iload_n q_X7_divide_11 rfl ?_
  refine wa_iconst q_X7_divide_12 (v := nI 0) (by decide) ?_
  refine wn_gast q_X7_divide_13 (by assumption) (by omega) (fun σ_p2 p2 f_p2 e1_p2 e2_p2 => ?_)
  obtain ⟨w2, s2⟩ := w1.sign p2 f_p2 e1_p2 e2_p2
  have h2 : rV X σ_p2 M O C (un Z q 0) (upG G q 0) (uV V q 0) := h.up w2 (rO.size.tr rO.sign) ⟨by rw [upG_s]; rfl, by rw [un_s]; rfl, by rw [un_s]; exact ⟨fun i hi => absurd hi (Nat.not_lt_zero _), Or.inl rfl⟩, by rw [un_s]; omega⟩
  have va2 : uV V q 0 a = V a := uV_n (Ne.symm hqa)
  have vb2 : uV V q 0 b = V b := uV_n (Ne.symm hqb)
  obtain ⟨c0, c1, c2, c3, -⟩ := id w2
  refine wa_aload_n q_X7_divide_14 rfl ?_
  refine wa_iload_n q_X7_divide_15 rfl ?_
  refine wa_iload_n q_X7_divide_16 rfl ?_
  refine wa_callV q_X7_divide_17 g_X7_divide_17 w_X7_compareSizes (by assumption) rfl (av := [_, _]) rfl rfl (lk rfl) (Calls.mono (R_cmpS h2 ha hb) ?_)
  rintro res τ1 ⟨⟨w, rfl, d1, d2, d3, d4⟩, eτ⟩
  rw [eτ]
  rw [va2, vb2] at d3
  have e0 : (0 : Int32) = iZ 0 := by decide
  refine wa_if_ge q_X7_divide_20 (fun hx => ?_) (fun hx => ?_)
  · rw [e0] at hx
    have hx' := (iZ_le (by decide) (by decide) d1 d2).mp hx
    have hge : (V b).natAbs ≤ (V a).natAbs := by
      have : ¬ ((V a).natAbs : Int) < ((V b).natAbs : Int) := fun q => by have := d3.mpr q; omega
      omega
    obtain ⟨gb1, gb2, gb3, gb4⟩ := h2.2 b hb
    rw [vb2] at gb1 gb2
    have hnb : 0 < un Z q 0 b := by
      rcases Nat.eq_zero_or_pos (un Z q 0 b) with z | z
      · have := (nrm_zero gb3).mpr z; omega
      · exact z
    have htb := gb3.1 (un Z q 0 b - 1) (by omega)
    have ht0 : reg C b (un Z q 0 b - 1) ≠ 0 := gb3.2.resolve_left (by omega)
    have rtop : C (320 * b + un Z q 0 b - 1) = reg C b (un Z q 0 b - 1) := by unfold reg; rw [show 320 * b + un Z q 0 b - 1 = 320 * b + (un Z q 0 b - 1) by omega]
    obtain ⟨tp0, htp0⟩ : ∃ t, t = reg C b (un Z q 0 b - 1) := ⟨_, rfl⟩
    obtain ⟨sc, hsc⟩ : ∃ sc, sc = 1000000000 / (tp0 + 1) := ⟨_, rfl⟩
    rw [← htp0] at htb ht0 rtop
    obtain ⟨kk1, kk2, kk3⟩ := kn_norm (t := tp0) (s := sc) (by omega) htb hsc
    have hscB : sc ≤ BB := by
      have : sc * 1 ≤ sc * (tp0 + 1) := Nat.mul_le_mul_left _ (by omega)
      omega
    refine wa_ldc q_X7_divide_24 (v := nI 1000000000) k_RX7_65 ?_
    refine wa_aload_n q_X7_divide_26 rfl ?_
    refine wa_getf q_X7_divide_27 f_RX7_8 (by assumption) rfl ?_
    refine wa_sipush q_X7_divide_30 (v := nI 320) (by decide) ?_
    refine wa_iload_n q_X7_divide_33 rfl ?_
    refine wn_imul q_X7_divide_34 ?_
    refine wa_aload_n q_X7_divide_35 rfl ?_
    refine wa_getf q_X7_divide_36 f_RX7_14 (by assumption) rfl ?_
    refine wa_iload_n q_X7_divide_39 rfl ?_
    refine wn_iald q_X7_divide_40 (by assumption) (by omega) (by omega) ?_
    refine wn_iadd q_X7_divide_41 ?_
    refine wa_iconst q_X7_divide_42 (v := nI 1) (by decide) ?_
    refine wn_isub q_X7_divide_43 (by omega) ?_
    refine wn_iald q_X7_divide_44 (by assumption) (by omega) (by omega) ?_
    rw [rtop]
    refine wa_iconst q_X7_divide_45 (v := nI 1) (by decide) ?_
    refine wn_iadd q_X7_divide_46 ?_
    refine wn_idiv q_X7_divide_47 (by omega) (by omega) (by omega) ?_
    rw [← hsc]
    refine wa_istore q_X7_divide_48 (by decide) ?_
    refine wa_aload_n q_X7_divide_50 rfl ?_
    refine wa_iload_n q_X7_divide_51 rfl ?_
    refine wa_iload q_X7_divide_52 rfl ?_
    refine wn_i2l q_X7_divide_54 (by omega) ?_
    refine wa_callV q_X7_divide_55 g_X7_divide_55 w_X7_timesSmall (by assumption) rfl (av := [_, _]) rfl rfl (lk rfl) (Calls.mono (R_mulS h2 ha (v := sc) kk3 hscB (by rw [va2]; exact Nat.lt_of_lt_of_le za (pw_mono (by decide)))) ?_)
    rintro _ τ3 ⟨rfl, C3, Z3, h3, s3⟩
    rw [va2] at h3
    obtain ⟨l0, l1, l2, l3, -⟩ := id h3.1
    have vb3 : uV (uV V q 0) a (V a * (sc : Int)) b = V b := by rw [uV_n hab, vb2]
    refine wa_aload_n q_X7_divide_58 rfl ?_
    refine wa_iload_n q_X7_divide_59 rfl ?_
    refine wa_iload q_X7_divide_60 rfl ?_
    refine wn_i2l q_X7_divide_62 (by omega) ?_
    refine wa_callV q_X7_divide_63 g_X7_divide_63 w_X7_timesSmall (by assumption) rfl (av := [_, _]) rfl rfl (lk rfl) (Calls.mono (R_mulS h3 hb (v := sc) kk3 hscB (by rw [vb3]; exact Nat.lt_of_lt_of_le zb (pw_mono (by decide)))) ?_)
    rintro _ τ4 ⟨rfl, C4, Z4, h4, s4⟩
    rw [vb3] at h4
    obtain ⟨m0, m1, m2, m3, -⟩ := id h4.1
    obtain ⟨ga1, ga2, ga3, ga4⟩ := h4.2 a ha
    obtain ⟨hb1, hb2, hb3, hb4⟩ := h4.2 b hb
    rw [uV_n (Ne.symm hab), uV_s] at ga1 ga2
    rw [uV_s] at hb1 hb2
    have ena : (V a * (sc : Int)).natAbs = (V a).natAbs * sc := by rw [Int.natAbs_mul, Int.natAbs_natCast]
    have enb : (V b * (sc : Int)).natAbs = (V b).natAbs * sc := by rw [Int.natAbs_mul, Int.natAbs_natCast]
    rw [ena] at ga2
    rw [enb] at hb2
    obtain ⟨hnn, hhalf⟩ := sc_top (d := reg C b) (e := reg C4 b) (s := sc) gb3 hnb (by rw [← htp0]; exact hsc) hb3 (by rw [hb2, gb2])
    have hn1 : 1 ≤ Z4 b := by omega
    have hle : (V b).natAbs * sc ≤ (V a).natAbs * sc := Nat.mul_le_mul_right _ hge
    have hnt : Z4 b ≤ Z4 a := by
      rcases Nat.lt_or_ge (Z4 a) (Z4 b) with z | z
      · have := nrm_lt ga3 hb3 z
        omega
      · exact z
    have htop : Z4 a ≤ 300 := nrm_le ga3 (by
      rw [ga2]
      have x1 : (V a).natAbs * sc ≤ (V a).natAbs * BB := Nat.mul_le_mul_left _ hscB
      have x2 : (V a).natAbs * BB < BB ^ 299 * BB := (Nat.mul_lt_mul_right BB_pos).mpr za
      rw [← Nat.pow_succ] at x2
      exact Nat.lt_of_le_of_lt x1 x2)
    obtain ⟨W, hW⟩ : ∃ W, W = vl (reg C4 b) (Z4 b) := ⟨_, rfl⟩
    have hWv : W = (V b).natAbs * sc := by rw [hW]; exact hb2
    have hWl : BB ^ (Z4 b - 1) ≤ W := by rw [hW]; exact vl_ge1 hb3 (by omega)
    refine wa_aload_n q_X7_divide_66 rfl ?_
    refine wa_getf q_X7_divide_67 f_RX7_14 (by assumption) rfl ?_
    refine wa_iload_n q_X7_divide_70 rfl ?_
    refine wn_iald q_X7_divide_71 (by assumption) (by omega) (by omega) ?_
    refine wa_istore q_X7_divide_72 (by decide) ?_
    refine wa_aload_n q_X7_divide_74 rfl ?_
    refine wa_getf q_X7_divide_75 f_RX7_14 (by assumption) rfl ?_
    refine wa_iload_n q_X7_divide_78 rfl ?_
    refine wn_iald q_X7_divide_79 (by assumption) (by omega) (by omega) ?_
    refine wa_istore q_X7_divide_80 (by decide) ?_
    refine wa_aload_n q_X7_divide_82 rfl ?_
    refine wa_getf q_X7_divide_83 f_RX7_17 (by assumption) rfl ?_
    refine wa_iload_n q_X7_divide_86 rfl ?_
    refine wn_gald q_X7_divide_87 (by assumption) (by omega) ?_
    refine wa_istore q_X7_divide_88 (by decide) ?_
    refine wa_aload_n q_X7_divide_90 rfl ?_
    refine wa_getf q_X7_divide_91 f_RX7_8 (by assumption) rfl ?_
    refine wa_sipush q_X7_divide_94 (v := nI 320) (by decide) ?_
    refine wa_iload_n q_X7_divide_97 rfl ?_
    refine wn_imul q_X7_divide_98 ?_
    refine wa_iload q_X7_divide_99 rfl ?_
    refine wn_iadd q_X7_divide_101 ?_
    refine wa_iconst q_X7_divide_102 (v := nI 0) (by decide) ?_
    refine wn_iast q_X7_divide_103 (by assumption) (by omega) (by omega) (fun σ_p5 p5 f_p5 e1_p5 e2_p5 => ?_)
    obtain ⟨w5, s5⟩ := h4.1.cell p5 f_p5 e1_p5 e2_p5
    have hr5 := reg_u (C := C4) (r := a) (i := Z4 a) (x := 0)
    have hO5 : rO C4 Z4 (upG G q 0) (un C4 (320 * a + Z4 a) 0) Z4 (upG G q 0) a := rO.cell (by omega)
    have hb5 : ∀ i, i < 320 → reg (un C4 (320 * a + Z4 a) 0) b i = reg C4 b i := fun i hi => (hO5 b hb hab).2.2 i hi
    refine wa_iload q_X7_divide_104 rfl ?_
    refine wa_iload q_X7_divide_106 rfl ?_
    refine wn_isub q_X7_divide_108 hnt ?_
    refine wa_istore q_X7_divide_109 (by decide) ?_
    have e1 : nI (Z4 a - Z4 b) = nI (Z4 a - Z4 b + 1) + (-1) := (pk_m1 _).symm
    rw [e1]
    refine wa_lv (R_dv_loop (C := un C4 (320 * a + Z4 a) 0) (Z := Z4) (G := upG G q 0) (n := Z4 b) (top := Z4 a) (A0 := (V a).natAbs * sc) (W := W) (σ0 := σ) hq ha hb hqa hqb hab hn1 hnt (by omega) (fun i hi => by rw [hb5 i (by omega)]; exact hb3.1 i hi) (by rw [hb5 _ (by omega)]; exact hhalf) (by rw [hW]; exact vl_congr (fun i hi => (hb5 i (by omega)).symm)) (fun τ6 C6 x1 x2 x3 x4 x5 x6 x7 x8 => ?_) (Z4 a - Z4 b + 1) σ_p5 _ (Nat.le_refl _) w5 (fun i hi => ?_) (fun i i1 i2 => by omega) ?_ (fun i i1 i2 => by omega) ?_ rO2.rf (s1.tr (s2.tr (s3.tr (s4.tr s5))))) rfl
    · -- behind the loop
      have hpad : vl (reg C6 a) (Z4 a + 1) = vl (reg C6 a) (Z4 b) := vl_pad (by omega) x3
      rw [hpad] at x6
      obtain ⟨Qv, hQv⟩ : ∃ Qv, Qv = vl (reg C6 q) (Z4 a - Z4 b + 1) := ⟨_, rfl⟩
      obtain ⟨Rv, hRv⟩ : ∃ Rv, Rv = vl (reg C6 a) (Z4 b) := ⟨_, rfl⟩
      rw [← hQv, ← hRv] at x6
      rw [← hRv] at x4
      have hdv := div_of (U := (V a).natAbs * sc) (V := W) (q := Qv) (by rw [← x6, Nat.mul_comm]; omega) (by rw [← x6, Nat.add_mul, Nat.one_mul, Nat.mul_comm W]; omega)
      have eQ : Qv = (V a).natAbs / (V b).natAbs := by rw [← hdv.1, hWv, Nat.mul_div_mul_right _ _ (by omega)]
      have eR : Rv = (V a).natAbs % (V b).natAbs * sc := by
        rw [← Nat.mul_mod_mul_right, ← hWv, hdv.2, ← x6, Nat.mul_comm W]; omega
      obtain ⟨i0, i1, i2, i3, -⟩ := id x1
      refine wa_aload_n q_X7_divide_145 rfl ?_
      refine wa_getf q_X7_divide_146 f_RX7_17 (by assumption) rfl ?_
      refine wa_iload_n q_X7_divide_149 rfl ?_
      refine wa_iconst q_X7_divide_150 (v := nI 1) (by decide) ?_
      refine wn_gast q_X7_divide_151 (by assumption) (by omega) (fun σ_p7 p7 f_p7 e1_p7 e2_p7 => ?_)
      obtain ⟨w7, s7⟩ := x1.sign p7 f_p7 e1_p7 e2_p7
      obtain ⟨j0, j1, j2, j3, -⟩ := id w7
      refine wa_aload_n q_X7_divide_152 rfl ?_
      refine wa_iload_n q_X7_divide_153 rfl ?_
      refine wa_iload q_X7_divide_154 rfl ?_
      refine wa_iload q_X7_divide_156 rfl ?_
      refine wn_isub q_X7_divide_158 hnt ?_
      refine wa_iconst q_X7_divide_159 (v := nI 1) (by decide) ?_
      refine wn_iadd q_X7_divide_160 ?_
      refine wa_callV q_X7_divide_161 g_X7_divide_161 w_X7_trim (by assumption) rfl (av := [_, _]) rfl rfl (lk rfl) (Calls.mono (R_trim hq w7 (n := Z4 a - Z4 b + 1) (by omega) (fun i hi => by have := x5 i hi; omega)) ?_)
      rintro _ τ8 ⟨rfl, w8, s8⟩
      obtain ⟨k0, k1, k2, k3, -⟩ := id w8
      refine wa_aload_n q_X7_divide_164 rfl ?_
      refine wa_getf q_X7_divide_165 f_RX7_17 (by assumption) rfl ?_
      refine wa_iload_n q_X7_divide_168 rfl ?_
      refine wa_iload q_X7_divide_169 rfl ?_
      refine wn_gast q_X7_divide_171 (by assumption) (by omega) (fun σ_p9 p9 f_p9 e1_p9 e2_p9 => ?_)
      obtain ⟨w9, s9⟩ := w8.sign p9 f_p9 e1_p9 e2_p9
      obtain ⟨o0, o1, o2, o3, -⟩ := id w9
      refine wa_aload_n q_X7_divide_172 rfl ?_
      refine wa_iload_n q_X7_divide_173 rfl ?_
      refine wa_iload q_X7_divide_174 rfl ?_
      refine wa_callV q_X7_divide_176 g_X7_divide_176 w_X7_trim (by assumption) rfl (av := [_, _]) rfl rfl (lk rfl) (Calls.mono (R_trim ha w9 (n := Z4 b) (by omega) (fun i hi => by have := x2 i (by omega); omega)) ?_)
      rintro _ τA ⟨rfl, wA, sA⟩
      -- both are numbers again
      have iq := isR.trim (C := C6) (Z := Z4) (G := upG (upG G q 0) q (nI 1)) (r := q) (n := Z4 a - Z4 b + 1) (v := (Qv : Int)) x5 (by omega) (by rw [← hQv]; rfl) (fun z => by rw [upG_s]; unfold sgI; rw [if_neg (by omega), if_neg z]; rfl)
      have ia := fun (Z' : Nat → Nat) (G' : Nat → Int32) => isR.trim (C := C6) (Z := Z') (G := upG G' a (upG G q 0 a)) (r := a) (n := Z4 b) (v := if V a < 0 then -(Rv : Int) else (Rv : Int)) (fun i hi => x2 i (by omega)) (by omega) (by rw [← hRv]; split <;> omega) (fun z => by
        rw [upG_s, ga1, sgI_mul, sg_pos kk3, Int32.mul_one]
        unfold sgI
        split
        · rename_i hneg; rw [if_pos hneg] at z; rw [if_pos (by omega)]
        · rename_i hneg; rw [if_neg hneg] at z
          have : V a ≠ 0 := fun z0 => z (by rw [eR, z0]; simp)
          rw [if_neg this, if_neg (by omega), if_neg z])
      have hO6 : rO2 C4 Z4 (upG G q 0) C6 Z4 (upG G q 0) a q := (rO2.rf.a hO5).tr x7
      have hup := h4.up2 wA ((((hO6.q rO.sign).q (rO.size.tr rO.sign)).a rO.sign).a (rO.size.tr rO.sign)) (ia _ _) (iq.cg (un_n hqa) (by rw [upG_n hqa, upG_n hqa]) (fun _ _ => rfl))
      have sT := s7.tr (s8.tr (s9.tr sA))
      obtain ⟨VA, hVA⟩ : ∃ VA, VA = uV (uV (uV (uV (uV V q 0) a (V a * (sc : Int))) b (V b * (sc : Int))) a (if V a < 0 then -(Rv : Int) else (Rv : Int))) q (Qv : Int) := ⟨_, rfl⟩
      rw [← hVA] at hup
      have vAa : VA a = (if V a < 0 then -(Rv : Int) else (Rv : Int)) := by rw [hVA, uV_n (Ne.symm hqa), uV_s]
      have vAb : VA b = V b * (sc : Int) := by rw [hVA, uV_n (Ne.symm hqb), uV_n hab, uV_s]
      have vAq : VA q = (Qv : Int) := by rw [hVA, uV_s]
      have vAo : ∀ s, s ≠ q → s ≠ a → s ≠ b → VA s = V s := fun s z1 z2 z3 => by rw [hVA, uV_n z1, uV_n z2, uV_n z3, uV_n z2, uV_n z1]
      clear hVA
      obtain ⟨t0, t1, t2, t3, -⟩ := id hup.1
      refine wa_aload_n q_X7_divide_179 rfl ?_
      refine wa_iload_n q_X7_divide_180 rfl ?_
      refine wa_iload q_X7_divide_181 rfl ?_
      refine wn_i2l q_X7_divide_183 (by omega) ?_
      refine wa_callV q_X7_divide_184 g_X7_divide_184 w_X7_bySmall (by assumption) rfl (av := [_, _]) rfl rfl (lk rfl) (Calls.mono (R_divS hup ha (f := sc) kk3 hscB) ?_)
      rintro _ τB ⟨rfl, CB, ZB, GB, hB2, sB⟩
      obtain ⟨t0, t1, t2, t3, -⟩ := id hB2.1
      refine wa_aload_n q_X7_divide_187 rfl ?_
      refine wa_iload_n q_X7_divide_188 rfl ?_
      refine wa_iload q_X7_divide_189 rfl ?_
      refine wn_i2l q_X7_divide_191 (by omega) ?_
      refine wa_callV q_X7_divide_192 g_X7_divide_192 w_X7_bySmall (by assumption) rfl (av := [_, _]) rfl rfl (lk rfl) (Calls.mono (R_divS hB2 hb (f := sc) kk3 hscB) ?_)
      rintro _ τC ⟨rfl, CC, ZC, GC, hC2, sC⟩
      refine wn_ladd q_X7_divide_195 ?_
      refine wa_lstore q_X7_divide_196 (by decide) ?_
      refine wa_vret q_X7_divide_198 rfl ?_
      refine ⟨rfl, CC, ZC, GC, _, hC2, ?_, ?_, fun s z1 z2 => ?_, x8.tr (sT.tr (sB.tr sC))⟩
      · rw [uV_n hqb, uV_n hqa, vAq, eQ]
      · rw [uV_n (Ne.symm hab), uV_s, vAa, eR]
        split
        · rw [Int.natCast_mul, Int.neg_tdiv, Int.mul_tdiv_cancel _ (by omega)]
        · rw [Int.natCast_mul, Int.mul_tdiv_cancel _ (by omega)]
      · by_cases z3 : s = b
        · rw [z3, uV_s, uV_n hab, vAb, Int.mul_tdiv_cancel _ (by omega)]
        · rw [uV_n z3, uV_n z2, vAo s z1 z2 z3]
    · rw [hr5]
      by_cases c1 : i = Z4 a
      · rw [c1, un_s]; exact BB_pos
      · rw [un_n c1]; exact ga3.1 i (by omega)
    · rw [hr5]
      obtain ⟨n', hn'⟩ : ∃ n', Z4 b = n' + 1 := ⟨Z4 b - 1, by omega⟩
      rw [hn']
      show vl (fun i => un (reg C4 a) (Z4 a) 0 (Z4 a - (n' + 1) + 1 + i)) n' + un (reg C4 a) (Z4 a) 0 (Z4 a - (n' + 1) + 1 + n') * BB ^ n' < W
      rw [show Z4 a - (n' + 1) + 1 + n' = Z4 a by omega, un_s, Nat.zero_mul, Nat.add_zero]
      have := vl_lt (d := fun i => un (reg C4 a) (Z4 a) 0 (Z4 a - (n' + 1) + 1 + i)) (n := n') (fun i hi => by
        show un (reg C4 a) (Z4 a) 0 (Z4 a - (n' + 1) + 1 + i) < BB
        rw [un_n (by omega)]; exact ga3.1 _ (by omega))
      rw [hn', show n' + 1 - 1 = n' by omega] at hWl
      omega
    · rw [Nat.sub_self]
      show vl _ (Z4 a + 1) + W * (BB ^ (Z4 a - Z4 b + 1) * 0) = _
      rw [Nat.mul_zero, Nat.mul_zero, Nat.add_zero, hr5]
      show vl (un (reg C4 a) (Z4 a) 0) (Z4 a) + un (reg C4 a) (Z4 a) 0 (Z4 a) * BB ^ Z4 a = _
      rw [un_s, Nat.zero_mul, Nat.add_zero, vl_congr (e := reg C4 a) (fun i hi => un_n (by omega))]
      exact ga2
  · rw [e0] at hx
    have hx' : w < 0 := Int.not_le.mp (fun q => hx ((iZ_le (by decide) (by decide) d1 d2).mpr q))
    have hlt := d3.mp hx'
    refine wa_vret q_X7_divide_23 rfl ?_
    refine ⟨rfl, _, _, _, _, h2, ?_, ?_, fun s x1 _ => uV_n x1, s1.tr s2⟩
    · rw [uV_s, Nat.div_eq_of_lt (by omega)]; rfl
    · rw [va2, Nat.mod_eq_of_lt (by omega)]; split <;> omega
end ref12
