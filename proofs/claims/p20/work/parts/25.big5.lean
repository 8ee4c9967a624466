/-! EnclosedDigits$Big: grow, multiplySmall, divideSmall -/
theorem bw_R.keep {X : en_X} {D : List Nat} {σ τ : en_S} {S : Nat → en_B} {a sz : Nat} {d : Nat → Nat} {sg : Int32} (h : bw_R X D σ S) (ha : a ∈ D) (h1 : look τ a = some (bE sg sz (S a).1)) (h2 : look τ (S a).1 = some (ar X (S a).2.1 d)) (h3 : sz ≤ (S a).2.1) (hf : ∀ q, q ≠ a → q ≠ (S a).1 → look τ q = look σ q) (e1 : τ.1 = σ.1) (e2 : τ.2.1 = σ.2.1) : bw_R X D τ (uB S a ((S a).1, (S a).2.1, sz, d, sg)) ∧ bw_St D σ S τ (uB S a ((S a).1, (S a).2.1, sz, d, sg)) := by
  obtain ⟨a1, a2, a3, a4, a5, a6, a7⟩ := h.1 a ha
  exact bw_R.step h ha (by omega) ⟨h1, h2, h3, a4, a5, by omega, by show (S a).1 < _; omega⟩ (fun q _ q2 q3 => hf q q2 q3) (Or.inl rfl) (Nat.le_refl _) (by show _ ≤ 8 * _ + (S a).2.1; omega) (by show _ ≤ _ + 2 * (S a).2.1; omega)
/-- one further from 0; from 0, to the side t -/
def grw (v t : Int) : Int := if v = 0 then t else if v < 0 then v - 1 else v + 1
theorem grw_abs {v t : Int} (ht : t = 1 ∨ t = -1) : (grw v t).natAbs = v.natAbs + 1 := by
  unfold grw; split
  · omega
  · split <;> omega
theorem grw_sg {v t : Int} : sgI (grw v t) = if v = 0 then sgI t else sgI v := by
  unfold grw; split
  · rfl
  · rcases sgI_c v with ⟨p, e⟩ | ⟨p, e⟩ | ⟨p, e⟩
    · rw [if_pos p, e]; rcases sgI_c (v - 1) with ⟨q, g⟩ | ⟨q, g⟩ | ⟨q, g⟩ <;> first | omega | exact g
    · omega
    · rw [if_neg (by omega), e]; rcases sgI_c (v + 1) with ⟨q, g⟩ | ⟨q, g⟩ | ⟨q, g⟩ <;> first | omega | exact g
section big5
variable {X : en_X} {σ : en_S} {D : List Nat} {S : Nat → en_B} {V : Nat → Int}
theorem C_grow_loop {ρ σ0 : en_S} {a r n m : Nat} {d : Nat → Nat} {sg s : Int32} {Q : Option Value → en_S → Prop} (hn : n ≤ 512) (hm : m < n) (hd : ∀ i, i ≤ m → d i < BB) (h0 : d m = 0) (hne : a ≠ r)
    (k : ∀ σ1 d1, look σ1 a = some (bE sg (m + 1) r) → look σ1 r = some (ar X n d1) → (∀ j, j ≤ m → d1 j < BB) → vl d1 (m + 1) = vl d (m + 1) + 1 → (∀ q, q ≠ r → look σ1 q = look σ0 q) → σ1.1 = σ0.1 → σ1.2.1 = σ0.2.1 → WA X M_X1_grow ρ 72 [(2, .int s), (0, .ref a)] [] σ1 Q) :
    ∀ (t i : Nat) (σ : en_S) (d1 : Nat → Nat), m - i = t → i ≤ m → look σ a = some (bE sg (m + 1) r) → look σ r = some (ar X n d1) → (∀ j, j ≤ m → d1 j < BB) → (∀ j, i ≤ j → d1 j = d j) → vl d1 (m + 1) + BB ^ i = vl d (m + 1) + 1 → (∀ q, q ≠ r → look σ q = look σ0 q) → σ.1 = σ0.1 → σ.2.1 = σ0.2.1 →
      WA X M_X1_grow ρ 28 [(3, .int (nI i)), (2, .int s), (0, .ref a)] [] σ Q := by
  have hB : BB = 1000000000 := rfl
  intro t
  induction t with
  | zero =>
    intro i σ d1 ht hi ha hr h1 h2 h3 h4 h5 h6
    have e : i = m := by omega
    subst e
    have hd0 : d1 i = 0 := (h2 i (Nat.le_refl _)).trans h0
    refine wa_iload_n q_X1_grow_28 rfl ?_
    refine wa_aload_n q_X1_grow_29 rfl ?_
    refine wa_getf q_X1_grow_30 f_RX1_15 (by assumption) rfl ?_
    refine wa_iconst q_X1_grow_33 (v := nI 1) (by decide) ?_
    refine wn_isub q_X1_grow_34 (by omega) ?_
    refine wn_icmp_ge q_X1_grow_35 (by omega) (by omega) (fun hx => ?_) (fun hx => ?_)
    · refine wa_aload_n q_X1_grow_62 rfl ?_
      refine wa_getf q_X1_grow_63 f_RX1_11 (by assumption) rfl ?_
      refine wa_iload_n q_X1_grow_66 rfl ?_
      refine wa_dup2 q_X1_grow_67 rfl rfl ?_
      refine wn_iald q_X1_grow_68 (by assumption) (by omega) (by omega) ?_
      refine wa_iconst q_X1_grow_69 (v := nI 1) (by decide) ?_
      refine wn_iadd q_X1_grow_70 ?_
      refine wn_iast q_X1_grow_71 (by assumption) (by omega) (by omega) (fun σ_hr1 hr1 f_hr1 e1_hr1 e2_hr1 => ?_)
      have ha := (f_hr1 a hne).trans ha
      refine wa_lv (k _ _ ha hr1 (fun j hj => ?_) ?_ (fun q hq => (f_hr1 q hq).trans (h4 q hq)) (by omega) (by omega)) rfl
      · by_cases ej : j = i
        · rw [ej, un_s, hd0, hB]; decide
        · rw [un_n ej]; exact h1 j hj
      · have hu := vl_un (d := d1) (n := i + 1) (i := i) (x := d1 i + 1) (by omega)
        rw [Nat.add_mul, Nat.one_mul] at hu
        omega
    · exact absurd hx (by omega)
  | succ t ih =>
    intro i σ d1 ht hi ha hr h1 h2 h3 h4 h5 h6
    have hdi := h1 i (by omega)
    refine wa_iload_n q_X1_grow_28 rfl ?_
    refine wa_aload_n q_X1_grow_29 rfl ?_
    refine wa_getf q_X1_grow_30 f_RX1_15 (by assumption) rfl ?_
    refine wa_iconst q_X1_grow_33 (v := nI 1) (by decide) ?_
    refine wn_isub q_X1_grow_34 (by omega) ?_
    refine wn_icmp_ge q_X1_grow_35 (by omega) (by omega) (fun hx => ?_) (fun hx => ?_)
    · exact absurd hx (by omega)
    · refine wa_aload_n q_X1_grow_38 rfl ?_
      refine wa_getf q_X1_grow_39 f_RX1_11 (by assumption) rfl ?_
      refine wa_iload_n q_X1_grow_42 rfl ?_
      refine wn_iald q_X1_grow_43 (by assumption) (by omega) (by omega) ?_
      refine wa_ldc q_X1_grow_44 k_RX1_73 ?_
      refine wn_icmp_ne q_X1_grow_46 (by omega) (by omega) (fun hy => ?_) (fun hy => ?_)
      · refine wa_aload_n q_X1_grow_62 rfl ?_
        refine wa_getf q_X1_grow_63 f_RX1_11 (by assumption) rfl ?_
        refine wa_iload_n q_X1_grow_66 rfl ?_
        refine wa_dup2 q_X1_grow_67 rfl rfl ?_
        refine wn_iald q_X1_grow_68 (by assumption) (by omega) (by omega) ?_
        refine wa_iconst q_X1_grow_69 (v := nI 1) (by decide) ?_
        refine wn_iadd q_X1_grow_70 ?_
        refine wn_iast q_X1_grow_71 (by assumption) (by omega) (by omega) (fun σ_hr1 hr1 f_hr1 e1_hr1 e2_hr1 => ?_)
        have ha := (f_hr1 a hne).trans ha
        refine wa_lv (k _ _ ha hr1 (fun j hj => ?_) ?_ (fun q hq => (f_hr1 q hq).trans (h4 q hq)) (by omega) (by omega)) rfl
        · by_cases ej : j = i
          · rw [ej, un_s]; omega
          · rw [un_n ej]; exact h1 j hj
        · have hu := vl_un (d := d1) (n := m + 1) (i := i) (x := d1 i + 1) (by omega)
          rw [Nat.add_mul, Nat.one_mul] at hu
          omega
      · refine wa_aload_n q_X1_grow_49 rfl ?_
        refine wa_getf q_X1_grow_50 f_RX1_11 (by assumption) rfl ?_
        refine wa_iload_n q_X1_grow_53 rfl ?_
        refine wa_iconst q_X1_grow_54 (v := nI 0) (by decide) ?_
        refine wn_iast q_X1_grow_55 (by assumption) (by omega) (by omega) (fun σ_hr1 hr1 f_hr1 e1_hr1 e2_hr1 => ?_)
        have ha := (f_hr1 a hne).trans ha
        refine wn_iinc q_X1_grow_56 rfl (by decide) ?_
        refine wa_goto q_X1_grow_59 ?_
        have hu := vl_un (d := d1) (n := m + 1) (i := i) (x := 0) (by omega)
        refine wa_lv (ih (i + 1) σ_hr1 _ (by omega) (by omega) ha hr1 (fun j hj => ?_) (fun j hj => ?_) ?_ (fun q hq => (f_hr1 q hq).trans (h4 q hq)) (by omega) (by omega)) rfl
        · by_cases ej : j = i
          · rw [ej, un_s]; exact BB_pos
          · rw [un_n ej]; exact h1 j hj
        · rw [un_n (by omega)]; exact h2 j (by omega)
        · rw [hy] at hu
          rw [Nat.pow_succ]
          have e5 : BB ^ i * BB = BB ^ i * 1000000000 := rfl
          omega
theorem C_grow {a : Nat} {t : Int} (h : bw_V X D σ S V) (ha : a ∈ D) (ht : t = 1 ∨ t = -1) (za : (S a).2.2.1 ≤ 255) : Calls X M_X1_grow [.ref a, .int (sgI t)] σ (fun res τ => res = none ∧ ∃ c, bw_R X D τ (uB S a c) ∧ isV c (grw (V a) t) ∧ bw_St D σ S τ (uB S a c)) := by
  obtain ⟨a1, a2, a3, a4, a5, a6, a7⟩ := h.1.1 a ha
  obtain ⟨va, wa, na⟩ := h.2 a ha
  have hB : BB = 1000000000 := rfl
  refine Calls.of rfl (lk rfl) ?_
  have hgo : WA X M_X1_grow σ 15 [(1, .int (sgI t)), (0, .ref a)] [.int (if V a = 0 then sgI t else sgI (V a))] σ (fun res τ => res = none ∧ ∃ c, bw_R X D τ (uB S a c) ∧ isV c (grw (V a) t) ∧ bw_St D σ S τ (uB S a c)) := by
    refine wa_istore_n q_X1_grow_15 (by decide) ?_
    refine wa_aload_n q_X1_grow_16 rfl ?_
    refine wa_aload_n q_X1_grow_17 rfl ?_
    refine wa_getf q_X1_grow_18 f_RX1_15 (by assumption) rfl ?_
    refine wa_iconst q_X1_grow_21 (v := nI 1) (by decide) ?_
    refine wn_iadd q_X1_grow_22 ?_
    refine wa_callV q_X1_grow_23 g_X1_grow_23 w_X1_extend (by assumption) rfl (av := [_]) rfl rfl (lk rfl) (Calls.mono (C_extend h.1 ha (by omega)) ?_)
    rintro _ σ1 ⟨rfl, e, k1, k2, k3, k4, k5, k6⟩
    obtain ⟨e1, e2, e3, e4, e5, e6, e7⟩ := k5.1 a ha
    rw [uB_s] at e1 e2 e3 e4 e5 e7
    have hm : e.2.2.1 = (S a).2.2.1 + 1 := by omega
    rw [hm] at e1 e3
    have hz : e.2.2.2.1 (S a).2.2.1 = 0 := k4 _ (Nat.le_refl _) (by omega)
    have hv : vl e.2.2.2.1 ((S a).2.2.1 + 1) = (V a).natAbs := by
      rw [vl_pad (n := (S a).2.2.1) (by omega) (fun i h1 h2 => k4 i h1 (by omega)), vl_congr k3]; exact wa
    refine wa_iconst q_X1_grow_26 (v := nI 0) (by decide) ?_
    refine wa_istore_n q_X1_grow_27 (by decide) ?_
    refine wa_lv (C_grow_loop (σ0 := σ1) e5 (by omega) (fun i hi => ?_) hz (ne_oa e1 e2) ?_ _ 0 σ1 _ rfl (Nat.zero_le _) e1 e2 (fun i hi => ?_) (fun _ _ => rfl) rfl (fun _ _ => rfl) rfl rfl) rfl
    · rcases Nat.lt_or_ge i (S a).2.2.1 with q | q
      · rw [k3 i q]; exact na.1 i q
      · rw [k4 i q (by omega)]; exact BB_pos
    · intro σ2 d1 g1 g2 g3 g4 g5 g6 g7
      have st := bw_R.keep (τ := σ2) (a := a) (sz := (S a).2.2.1 + 1) (d := d1) (sg := e.2.2.2.2) k5 ha (by rw [uB_s]; exact g1) (by rw [uB_s]; exact g2) (by rw [uB_s]; omega) (fun q q2 q3 => by rw [uB_s] at q3; exact g5 q q3) g6 g7
      rw [uB_u, uB_s] at st
      refine wa_aload_n q_X1_grow_72 rfl ?_
      refine wa_iload_n q_X1_grow_73 rfl ?_
      refine wa_callV q_X1_grow_74 g_X1_grow_74 w_X1_trim (by assumption) rfl (av := [_]) rfl rfl (lk rfl) (Calls.mono (C_trim st.1 ha (by rw [uB_s]; intro i hi; have hi : i < (S a).2.2.1 + 1 := hi; have := g3 i (by omega); show d1 i < _; omega)) ?_)
      rintro _ σ3 ⟨rfl, b, hbe, w1, w2⟩
      rw [uB_s] at hbe
      rw [uB_u] at w1 w2
      refine wa_vret q_X1_grow_77 rfl ?_
      refine ⟨rfl, b, w1, isV_of (s := if V a = 0 then sgI t else sgI (V a)) ?_ ?_ ?_ (fun _ => grw_sg.symm), k6.tr (st.2.tr w2)⟩
      · subst hbe
        exact ⟨fun i hi => g3 i (by have := tp_le d1 ((S a).2.2.1 + 1); have hi : i < tp d1 ((S a).2.2.1 + 1) := hi; omega), tp_top d1 _⟩
      · subst hbe
        show vl d1 (tp d1 ((S a).2.2.1 + 1)) = _
        rw [vl_tp, g4, hv, grw_abs ht]
      · subst hbe; rfl
    · rcases Nat.lt_or_ge i (S a).2.2.1 with q | q
      · rw [k3 i q]; exact na.1 i q
      · rw [k4 i q (by omega)]; exact BB_pos
  refine wa_aload_n q_X1_grow_0 rfl ?_
  refine wa_getf q_X1_grow_1 f_RX1_34 (by assumption) rfl ?_
  refine wa_if_ne q_X1_grow_4 (fun hc => ?_) (fun hc => ?_)
  · refine wa_aload_n q_X1_grow_11 rfl ?_
    refine wa_getf q_X1_grow_12 f_RX1_34 (by assumption) rfl ?_
    rw [va] at hc
    rw [if_neg (fun z => hc (sgI_0.mpr z))] at hgo
    rw [va]
    exact wa_lv hgo rfl
  · refine wa_iload_n q_X1_grow_7 rfl ?_
    refine wa_goto q_X1_grow_8 ?_
    rw [va] at hc
    rw [if_pos (sgI_0.mp hc)] at hgo
    exact wa_lv hgo rfl
theorem V_grow {a : Nat} {t : Int} (h : bw_V X D σ S V) (ha : a ∈ D) (ht : t = 1 ∨ t = -1) (za : (V a).natAbs < BB ^ 250) : Calls X M_X1_grow [.ref a, .int (sgI t)] σ (fun res τ => res = none ∧ ∃ S', bw_V X D τ S' (uV V a (grw (V a) t)) ∧ bw_St D σ S τ S') := by
  refine Calls.mono (C_grow h ha ht (by have := isV_le (h.2 a ha) za; omega)) ?_
  rintro r τ ⟨rfl, c, k1, k2, k3⟩
  exact ⟨rfl, _, h.up k1 k2, k3⟩
theorem V_mulS {a f : Nat} (h : bw_V X D σ S V) (ha : a ∈ D) (hf : f ≤ BB) (za : (V a).natAbs < BB ^ 250) : Calls X M_X1_multiplySmall [.ref a, .long (lN f)] σ (fun res τ => res = none ∧ ∃ S', bw_V X D τ S' (uV V a (V a * f)) ∧ bw_St D σ S τ S') := by
  obtain ⟨a1, a2, a3, a4, a5, a6, a7⟩ := h.1.1 a ha
  obtain ⟨va, wa, na⟩ := h.2 a ha
  have hB : BB = 1000000000 := rfl
  have hz0 := isV_le (h.2 a ha) za
  refine Calls.of rfl (lk rfl) ?_
  refine wa_aload_n q_X1_multiplySmall_0 rfl ?_
  refine wa_aload_n q_X1_multiplySmall_1 rfl ?_
  refine wa_getf q_X1_multiplySmall_2 f_RX1_15 (by assumption) rfl ?_
  refine wa_iconst q_X1_multiplySmall_5 (v := nI 1) (by decide) ?_
  refine wn_iadd q_X1_multiplySmall_6 ?_
  refine wa_callV q_X1_multiplySmall_7 g_X1_multiplySmall_7 w_X1_extend (by assumption) rfl (av := [_]) rfl rfl (lk rfl) (Calls.mono (C_extend h.1 ha (by omega)) ?_)
  rintro _ σ1 ⟨rfl, e, k1, k2, k3, k4, k5, k6⟩
  obtain ⟨e1, e2, e3, e4, e5, e6, e7⟩ := k5.1 a ha
  have hm : e.2.2.1 = (S a).2.2.1 + 1 := by omega
  have hv : vl e.2.2.2.1 e.2.2.1 = (V a).natAbs := by
    rw [hm, vl_pad (n := (S a).2.2.1) (by omega) (fun i h1 h2 => k4 i h1 (by omega)), vl_congr k3]; exact wa
  have hde : ∀ i, i < e.2.2.1 → e.2.2.2.1 i < BB := by
    intro i hi
    rcases Nat.lt_or_ge i (S a).2.2.1 with q | q
    · rw [k3 i q]; exact na.1 i q
    · rw [k4 i q (by omega)]; exact BB_pos
  refine wa_aload_n q_X1_multiplySmall_10 rfl ?_
  refine wa_lload_n q_X1_multiplySmall_11 rfl ?_
  refine wa_callV q_X1_multiplySmall_12 g_X1_multiplySmall_12 w_X1_multiplyLimbs (by assumption) rfl (av := [_]) rfl rfl (lk rfl) (Calls.mono (C_mulL k5 ha hf (by rw [uB_s]; exact hde) (by rw [uB_s, hv, hm, Nat.pow_succ, Nat.mul_comm (BB ^ _) BB]; have q1 := vl_lt na.1; rw [wa] at q1; exact Nat.lt_of_le_of_lt (Nat.mul_le_mul_right _ hf) (Nat.mul_lt_mul_of_pos_left q1 BB_pos))) ?_)
  rintro _ σ2 ⟨rfl, c, g1, g2, g3, g4, g5, g6⟩
  rw [uB_s] at g1 g2 g4
  rw [uB_u] at g5 g6
  obtain ⟨c1, c2, c3, c4, c5, c6, c7⟩ := g5.1 a ha
  rw [uB_s] at c1 c2 c3 c4 c5 c7
  refine wa_aload_n q_X1_multiplySmall_15 rfl ?_
  refine wa_aload_n q_X1_multiplySmall_16 rfl ?_
  refine wa_getf q_X1_multiplySmall_17 f_RX1_34 (by assumption) rfl ?_
  refine wa_callV q_X1_multiplySmall_20 g_X1_multiplySmall_20 w_X1_trim (by assumption) rfl (av := [_]) rfl rfl (lk rfl) (Calls.mono (C_trim g5 ha (by rw [uB_s]; intro i hi; have := g3 i hi; omega)) ?_)
  rintro _ σ3 ⟨rfl, b, hbe, w1, w2⟩
  rw [uB_s] at hbe
  rw [uB_u] at w1 w2
  refine wa_vret q_X1_multiplySmall_23 rfl ?_
  refine ⟨rfl, _, h.up w1 (isV_of (s := sgI (V a)) ?_ ?_ ?_ ?_), k6.tr (g6.tr w2)⟩
  · subst hbe
    exact ⟨fun i hi => g3 i (by have := tp_le c.2.2.2.1 c.2.2.1; have hi : i < tp c.2.2.2.1 c.2.2.1 := hi; omega), tp_top _ _⟩
  · subst hbe
    show vl c.2.2.2.1 (tp c.2.2.2.1 c.2.2.1) = _
    rw [vl_tp, g4, hv, Int.natAbs_mul, Nat.mul_comm]; rfl
  · subst hbe
    show (if _ then _ else c.2.2.2.2) = _
    rw [g2, k2, va]
  · intro hnz
    rw [sgI_mul]
    have : sgI (f : Int) = 1 := by
      rcases sgI_c (f : Int) with ⟨q, g⟩ | ⟨q, g⟩ | ⟨q, g⟩
      · omega
      · rw [q, Int.mul_zero] at hnz; exact absurd rfl hnz
      · exact g
    rw [this]; simp
theorem dv_1 {u w d c N : Nat} (h1 : u + c ≤ w) (h2 : w < N) (h3 : d < c) : u + d < N ∧ u + d < w := by omega
theorem C_divS_loop {ρ σ0 : en_S} {a r n sz f : Nat} {d : Nat → Nat} {sg : Int32} {Q : Option Value → en_S → Prop} (hn : n ≤ 512) (hs : sz ≤ n) (h0 : 0 < f) (hf : f * BB < 2 ^ 63) (hd : ∀ i, i < sz → d i < BB) (hne : a ≠ r)
    (k : ∀ σ1 d1, look σ1 a = some (bE sg sz r) → look σ1 r = some (ar X n d1) → (∀ j, j < sz → d1 j < BB) → vl d1 sz = vl d sz / f → (∀ q, q ≠ r → look σ1 q = look σ0 q) → σ1.1 = σ0.1 → σ1.2.1 = σ0.2.1 → WA X M_X1_divideSmall ρ 69 [(3, .long (lN (vl d sz % f))), (0, .ref a)] [] σ1 Q) :
    ∀ (t l : Nat) (σ : en_S) (d1 : Nat → Nat), t ≤ sz → l < f → look σ a = some (bE sg sz r) → look σ r = some (ar X n d1) → (∀ j, t ≤ j → j < sz → d1 j < BB) → (∀ j, j < t → d1 j = d j) → vl (fun j => d (t + j)) (sz - t) = f * vl (fun j => d1 (t + j)) (sz - t) + l → (∀ q, q ≠ r → look σ q = look σ0 q) → σ.1 = σ0.1 → σ.2.1 = σ0.2.1 →
      WA X M_X1_divideSmall ρ 18 [(5, .int (iZ ((t : Int) - 1))), (3, .long (lN l)), (1, .long (lN f)), (0, .ref a)] [] σ Q := by
  have hB : BB = 1000000000 := rfl
  intro t
  induction t with
  | zero =>
    intro l σ d1 ht hl ha hr h1 h2 h3 h4 h5 h6
    refine wa_iload q_X1_divideSmall_18 rfl ?_
    refine wa_if_lt q_X1_divideSmall_20 (fun hc => ?_) (fun hc => absurd (by decide) hc)
    simp only [Nat.zero_add, Nat.sub_zero] at h3
    have e1 : vl d sz / f = vl d1 sz := by
      rw [h3, Nat.mul_add_div h0, Nat.div_eq_of_lt hl, Nat.add_zero]
    have e2 : vl d sz % f = l := by
      rw [h3, Nat.mul_add_mod, Nat.mod_eq_of_lt hl]
    rw [e1, e2] at k
    exact wa_lv (k σ d1 ha hr (fun j hj => h1 j (Nat.zero_le _) hj) rfl h4 h5 h6) rfl
  | succ t ih =>
    intro l σ d1 ht hl ha hr h1 h2 h3 h4 h5 h6
    have e0 : iZ (((t + 1 : Nat) : Int) - 1) = nI t := by rw [nI_iZ]; congr 1; omega
    rw [e0]
    have hdt : d1 t = d t := h2 t (by omega)
    have hdl := hd t (by omega)
    have hb : l * BB + BB ≤ f * BB := by rw [← Nat.succ_mul]; exact Nat.mul_le_mul_right _ hl
    refine wa_iload q_X1_divideSmall_18 rfl ?_
    refine wn_if_lt q_X1_divideSmall_20 (by omega) (fun hc => ?_) (fun hc => ?_)
    · exact absurd hc id
    · refine wa_lload_n q_X1_divideSmall_23 rfl ?_
      refine wa_ldc2 q_X1_divideSmall_24 k_RX1_50 ?_
      refine wn_lmul q_X1_divideSmall_27 ?_
      refine wa_aload_n q_X1_divideSmall_28 rfl ?_
      refine wa_getf q_X1_divideSmall_29 f_RX1_11 (by assumption) rfl ?_
      refine wa_iload q_X1_divideSmall_32 rfl ?_
      refine wn_iald q_X1_divideSmall_34 (by assumption) (by omega) (by omega) ?_
      rw [hdt]
      have hf9 : f * 1000000000 < 9223372036854775808 := hf
      have hb9 : l * 1000000000 + 1000000000 ≤ f * 1000000000 := hb
      have hd9 : d t < 1000000000 := hdl
      obtain ⟨hx9, hx8⟩ : l * 1000000000 + d t < 2 ^ 63 ∧ l * 1000000000 + d t < f * 1000000000 := dv_1 hb9 hf9 hd9
      have hf8 : f < 2 ^ 63 := Nat.lt_of_le_of_lt (Nat.le_mul_of_pos_right f (by decide)) hf9
      have hq9 : (l * 1000000000 + d t) / f < BB := Nat.div_lt_of_lt_mul hx8
      clear hf hb
      refine wn_i2l q_X1_divideSmall_35 (by omega) ?_
      refine wn_ladd q_X1_divideSmall_36 ?_
      refine wa_lstore q_X1_divideSmall_37 (by decide) ?_
      refine wa_lload q_X1_divideSmall_39 rfl ?_
      refine wa_lload_n q_X1_divideSmall_41 rfl ?_
      refine wn_ldiv q_X1_divideSmall_42 hx9 h0 hf8 ?_
      refine wa_lstore q_X1_divideSmall_43 (by decide) ?_
      refine wa_aload_n q_X1_divideSmall_45 rfl ?_
      refine wa_getf q_X1_divideSmall_46 f_RX1_11 (by assumption) rfl ?_
      refine wa_iload q_X1_divideSmall_49 rfl ?_
      refine wa_lload q_X1_divideSmall_51 rfl ?_
      refine wn_l2i q_X1_divideSmall_53 ?_
      refine wn_iast q_X1_divideSmall_54 (by assumption) (by omega) (by omega) (fun σ_hr1 hr1 f_hr1 e1_hr1 e2_hr1 => ?_)
      have ha := (f_hr1 a hne).trans ha
      have hq := Nat.div_add_mod (l * 1000000000 + d t) f
      have hml := Nat.mod_lt (l * 1000000000 + d t) h0
      have hm : (l * 1000000000 + d t) / f * f ≤ l * 1000000000 + d t := Nat.div_mul_le_self _ _
      refine wa_lload q_X1_divideSmall_55 rfl ?_
      refine wa_lload q_X1_divideSmall_57 rfl ?_
      refine wa_lload_n q_X1_divideSmall_59 rfl ?_
      refine wn_lmul q_X1_divideSmall_60 ?_
      refine wn_lsub q_X1_divideSmall_61 (by omega) ?_
      refine wa_lstore_n q_X1_divideSmall_62 (by decide) ?_
      have hsub : l * 1000000000 + d t - (l * 1000000000 + d t) / f * f = (l * 1000000000 + d t) % f := by rw [Nat.mul_comm ((l * 1000000000 + d t) / f) f]; omega
      rw [hsub]
      refine wa_iinc q_X1_divideSmall_63 rfl (v := iZ ((t : Int) - 1)) (by rw [nI_iZ]; exact iZ_add _ _) (by decide) ?_
      refine wa_goto q_X1_divideSmall_66 ?_
      refine wa_lv (ih ((l * 1000000000 + d t) % f) σ_hr1 _ (by omega) hml ha hr1 (fun j j1 j2 => ?_) (fun j hj => ?_) ?_ (fun q hq => (f_hr1 q hq).trans (h4 q hq)) (by omega) (by omega)) rfl
      · by_cases ej : j = t
        · rw [ej, un_s]; exact hq9
        · rw [un_n ej]; exact h1 j (by omega) j2
      · rw [un_n (by omega)]; exact h2 j (by omega)
      · have es : sz - t = sz - (t + 1) + 1 := by omega
        rw [es, vl_low, vl_low]
        simp only [Nat.add_zero, un_s]
        have c1 : vl (fun i => d (t + (i + 1))) (sz - (t + 1)) = vl (fun j => d (t + 1 + j)) (sz - (t + 1)) := vl_congr (fun i _ => by rw [show t + (i + 1) = t + 1 + i by omega])
        have c2 : vl (fun i => un d1 t ((l * 1000000000 + d t) / f) (t + (i + 1))) (sz - (t + 1)) = vl (fun j => d1 (t + 1 + j)) (sz - (t + 1)) := vl_congr (fun i _ => by rw [un_n (by omega), show t + (i + 1) = t + 1 + i by omega])
        rw [c1, c2, h3, hB]
        generalize (l * 1000000000 + d t) / f = qq at *
        generalize (l * 1000000000 + d t) % f = mm at *
        grind
theorem V_divS {a f : Nat} (h : bw_V X D σ S V) (ha : a ∈ D) (h0 : 0 < f) (hf : f * BB < 2 ^ 63) : Calls X M_X1_divideSmall [.ref a, .long (lN f)] σ (fun res τ => res = some (.long (lN ((V a).natAbs % f))) ∧ ∃ S', bw_V X D τ S' (uV V a ((V a).tdiv f)) ∧ bw_St D σ S τ S') := by
  obtain ⟨a1, a2, a3, a4, a5, a6, a7⟩ := h.1.1 a ha
  obtain ⟨va, wa, na⟩ := h.2 a ha
  have hB : BB = 1000000000 := rfl
  have hf2 : f * 1000000000 < 9223372036854775808 := hf
  refine Calls.of rfl (lk rfl) ?_
  refine wa_lload_n q_X1_divideSmall_0 rfl ?_
  refine wa_lconst q_X1_divideSmall_1 (v := lN 1) (by decide) ?_
  refine wn_lcmp_ge q_X1_divideSmall_2 q_X1_divideSmall_3 (by omega) (by omega) (fun hc => ?_) (fun hc => ?_)
  · refine wa_lconst q_X1_divideSmall_8 (v := lN 0) (by decide) ?_
    refine wa_lstore_n q_X1_divideSmall_9 (by decide) ?_
    refine wa_aload_n q_X1_divideSmall_10 rfl ?_
    refine wa_getf q_X1_divideSmall_11 f_RX1_15 (by assumption) rfl ?_
    refine wa_iconst q_X1_divideSmall_14 (v := nI 1) (by decide) ?_
    refine wa_isub q_X1_divideSmall_15 ?_
    rw [show nI (S a).2.2.1 - nI 1 = iZ (((S a).2.2.1 : Int) - 1) by rw [nI_iZ, nI_iZ, iZ_sub]; rfl]
    refine wa_istore q_X1_divideSmall_16 (by decide) ?_
    refine wa_lv (C_divS_loop (σ0 := σ) a5 a3 h0 hf na.1 (ne_oa a1 a2) ?_ _ 0 σ _ (Nat.le_refl _) h0 a1 a2 (fun j j1 j2 => absurd j1 (by omega)) (fun _ _ => rfl) (by rw [Nat.sub_self]; rfl) (fun _ _ => rfl) rfl rfl) rfl
    intro σ2 d1 g1 g2 g3 g4 g5 g6 g7
    rw [wa] at g4
    rw [wa]
    have st := bw_R.keep (τ := σ2) (a := a) h.1 ha g1 g2 a3 (fun q q2 q3 => g5 q q3) g6 g7
    refine wa_aload_n q_X1_divideSmall_69 rfl ?_
    refine wa_aload_n q_X1_divideSmall_70 rfl ?_
    refine wa_getf q_X1_divideSmall_71 f_RX1_34 (by assumption) rfl ?_
    refine wa_callV q_X1_divideSmall_74 g_X1_divideSmall_74 w_X1_trim (by assumption) rfl (av := [_]) rfl rfl (lk rfl) (Calls.mono (C_trim st.1 ha (by rw [uB_s]; intro i hi; have := g3 i hi; show d1 i < _; omega)) ?_)
    rintro _ σ3 ⟨rfl, b, hbe, w1, w2⟩
    rw [uB_s] at hbe
    rw [uB_u] at w1 w2
    refine wa_lload_n q_X1_divideSmall_77 rfl ?_
    refine wa_lret q_X1_divideSmall_78 rfl ?_
    refine ⟨rfl, _, h.up w1 (isV_of (s := sgI (V a)) ?_ ?_ ?_ ?_), st.2.tr w2⟩
    · subst hbe
      exact ⟨fun i hi => g3 i (by have := tp_le d1 (S a).2.2.1; have hi : i < tp d1 (S a).2.2.1 := hi; omega), tp_top _ _⟩
    · subst hbe
      show vl d1 (tp d1 (S a).2.2.1) = _
      rw [vl_tp, g4, Int.natAbs_tdiv]; rfl
    · subst hbe
      show (if _ then _ else (S a).2.2.2.2) = _
      rw [va]
    · intro hnz
      rcases sgI_c (V a) with ⟨q, g⟩ | ⟨q, g⟩ | ⟨q, g⟩
      · have hle : (V a).tdiv f ≤ 0 := by
          obtain ⟨m, hm⟩ : ∃ m : Int, V a = -m := ⟨-V a, by omega⟩
          rw [hm, Int.neg_tdiv]
          have := Int.tdiv_nonneg (a := m) (b := (f : Int)) (by omega) (by omega)
          omega
        rcases sgI_c ((V a).tdiv f) with ⟨q2, g2⟩ | ⟨q2, g2⟩ | ⟨q2, g2⟩
        · rw [g, g2]
        · exact absurd q2 hnz
        · omega
      · rw [q, Int.zero_tdiv] at hnz; exact absurd rfl hnz
      · have hge := Int.tdiv_nonneg (a := V a) (b := (f : Int)) (by omega) (by omega)
        rcases sgI_c ((V a).tdiv f) with ⟨q2, g2⟩ | ⟨q2, g2⟩ | ⟨q2, g2⟩
        · omega
        · exact absurd q2 hnz
        · rw [g, g2]
  · exact absurd hc (by omega)
end big5
