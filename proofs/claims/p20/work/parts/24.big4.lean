/-! EnclosedDigits$Big: compareSizes, compare, grow, add, subtract; the world by its numbers -/
def cmpI (x y : Int) : Int32 := if x < y then -1 else if x = y then 0 else 1
def uV (V : Nat → Int) (a : Nat) (v : Int) : Nat → Int := fun q => if q = a then v else V q
theorem uV_s {V : Nat → Int} {a : Nat} {v : Int} : uV V a v a = v := if_pos rfl
theorem uV_n {V : Nat → Int} {a q : Nat} {v : Int} (h : q ≠ a) : uV V a v q = V q := if_neg h
def bw_V (X : en_X) (D : List Nat) (σ : en_S) (S : Nat → en_B) (V : Nat → Int) : Prop := bw_R X D σ S ∧ ∀ a ∈ D, isV (S a) (V a)
theorem bw_V.up {X : en_X} {D : List Nat} {σ τ : en_S} {S : Nat → en_B} {V : Nat → Int} {a : Nat} {c : en_B} {v : Int} (h : bw_V X D σ S V) (w : bw_R X D τ (uB S a c)) (hc : isV c v) : bw_V X D τ (uB S a c) (uV V a v) := by
  refine ⟨w, fun q hq => ?_⟩
  by_cases e : q = a
  · subst e; rw [uB_s, uV_s]; exact hc
  · rw [uB_n e, uV_n e]; exact h.2 q hq
theorem isV_of {b : en_B} {s : Int32} {v : Int} (hn : nrm b.2.2.2.1 b.2.2.1) (hv : vl b.2.2.2.1 b.2.2.1 = v.natAbs) (hs : b.2.2.2.2 = if b.2.2.1 = 0 then 0 else s) (h : v ≠ 0 → s = sgI v) : isV b v := by
  refine ⟨?_, hv, hn⟩
  rw [hs]
  have hz := nrm_zero hn
  by_cases e : b.2.2.1 = 0
  · rw [if_pos e]
    have : v = 0 := by have := hz.mpr e; omega
    subst this; decide
  · rw [if_neg e]
    exact h (fun z => e (hz.mp (by rw [hv, z]; rfl)))
theorem isV_le {b : en_B} {v : Int} (h : isV b v) {k : Nat} (hk : v.natAbs < BB ^ k) : b.2.2.1 ≤ k := nrm_le h.2.2 (by rw [h.2.1]; exact hk)
section big4
variable {X : en_X} {σ : en_S} {D : List Nat} {S : Nat → en_B} {V : Nat → Int}
theorem C_cmpS_loop {ρ : en_S} {a b r rb n nb sz : Nat} {d e : Nat → Nat} {sg sgb : Int32} {Q : Option Value → en_S → Prop} (hn : n ≤ 512) (hs : sz ≤ n) (hnb : nb ≤ 512) (hsb : sz ≤ nb) (hd : ∀ i, i < sz → d i < BB) (he : ∀ i, i < sz → e i < BB) (ha : look σ a = some (bE sg sz r)) (hr : look σ r = some (ar X n d)) (hb : look σ b = some (bE sgb sz rb)) (hrb : look σ rb = some (ar X nb e))
    (k : Q (some (.int (cmpI (vl d sz) (vl e sz)))) σ) :
    ∀ t : Nat, t ≤ sz → (∀ j, t ≤ j → j < sz → d j = e j) → WA X M_X1_compareSizes ρ 35 [(2, .int (iZ ((t : Int) - 1))), (1, .ref b), (0, .ref a)] [] σ Q := by
  have hB : BB = 1000000000 := rfl
  intro t
  induction t with
  | zero =>
    intro ht h1
    refine wa_iload_n q_X1_compareSizes_35 rfl ?_
    refine wa_if_lt q_X1_compareSizes_36 (fun hc => ?_) (fun hc => absurd (by decide) hc)
    refine wa_iconst q_X1_compareSizes_73 (v := 0) (by decide) ?_
    refine wa_iret q_X1_compareSizes_74 rfl ?_
    have e : vl d sz = vl e sz := vl_congr (fun j hj => h1 j (Nat.zero_le _) hj)
    rw [e] at k
    unfold cmpI at k
    rw [if_neg (by omega), if_pos rfl] at k
    exact k
  | succ t ih =>
    intro ht h1
    have e1 : iZ (((t + 1 : Nat) : Int) - 1) = nI t := by rw [nI_iZ]; congr 1; omega
    rw [e1]
    have hdt := hd t (by omega)
    have het := he t (by omega)
    refine wa_iload_n q_X1_compareSizes_35 rfl ?_
    refine wn_if_lt q_X1_compareSizes_36 (by omega) (fun hc => ?_) (fun hc => ?_)
    · exact absurd hc id
    · refine wa_aload_n q_X1_compareSizes_39 rfl ?_
      refine wa_getf q_X1_compareSizes_40 f_RX1_11 (by assumption) rfl ?_
      refine wa_iload_n q_X1_compareSizes_43 rfl ?_
      refine wn_iald q_X1_compareSizes_44 (by assumption) (by omega) (by omega) ?_
      refine wa_aload_n q_X1_compareSizes_45 rfl ?_
      refine wa_getf q_X1_compareSizes_46 f_RX1_11 (by assumption) rfl ?_
      refine wa_iload_n q_X1_compareSizes_49 rfl ?_
      refine wn_iald q_X1_compareSizes_50 (by assumption) (by omega) (by omega) ?_
      refine wa_isub q_X1_compareSizes_51 ?_
      rw [show nI (d t) - nI (e t) = iZ ((d t : Int) - e t) by rw [nI_iZ, nI_iZ, iZ_sub]]
      refine wa_istore_n q_X1_compareSizes_52 (by decide) ?_
      refine wa_iload_n q_X1_compareSizes_53 rfl ?_
      refine wa_if_eq q_X1_compareSizes_54 (fun h0 => ?_) (fun h0 => ?_)
      · rw [iZ_0, iZ_eq (by omega) (by omega) (by omega) (by omega)] at h0
        refine wa_iinc q_X1_compareSizes_67 rfl (v := iZ ((t : Int) - 1)) (by rw [nI_iZ]; exact iZ_add _ _) (by decide) ?_
        refine wa_goto q_X1_compareSizes_70 ?_
        refine wa_lv (ih (by omega) (fun j h2 h3 => ?_)) rfl
        by_cases ej : j = t
        · subst ej; omega
        · exact h1 j (by omega) h3
      · rw [iZ_0, iZ_eq (by omega) (by omega) (by omega) (by omega)] at h0
        refine wa_iload_n q_X1_compareSizes_57 rfl ?_
        refine wa_if_ge q_X1_compareSizes_58 (fun hg => ?_) (fun hg => ?_)
        · rw [iZ_0, iZ_le (by omega) (by omega) (by omega) (by omega)] at hg
          refine wa_iconst q_X1_compareSizes_65 (v := 1) (by decide) ?_
          refine wa_iret q_X1_compareSizes_66 rfl ?_
          have := vl_cmp (d := e) (e := d) (n := sz) (k := t) (by omega) he hd (fun i h2 h3 => (h1 i (by omega) h3).symm) (by omega)
          unfold cmpI at k
          rw [if_neg (by omega), if_neg (by omega)] at k
          exact k
        · rw [iZ_0, iZ_le (by omega) (by omega) (by omega) (by omega)] at hg
          refine wa_iconst q_X1_compareSizes_61 (v := -1) (by decide) ?_
          refine wa_goto q_X1_compareSizes_62 ?_
          refine wa_iret q_X1_compareSizes_66 rfl ?_
          have := vl_cmp (d := d) (e := e) (n := sz) (k := t) (by omega) hd he (fun i h2 h3 => h1 i (by omega) h3) (by omega)
          unfold cmpI at k
          rw [if_pos (by omega)] at k
          exact k
theorem C_cmpS {a b : Nat} (h : bw_R X D σ S) (ha : a ∈ D) (hb : b ∈ D) (na : nrm (S a).2.2.2.1 (S a).2.2.1) (nb : nrm (S b).2.2.2.1 (S b).2.2.1) :
    Calls X M_X1_compareSizes [.ref a, .ref b] σ (fun res τ => res = some (.int (cmpI (vl (S a).2.2.2.1 (S a).2.2.1) (vl (S b).2.2.2.1 (S b).2.2.1))) ∧ τ = σ) := by
  obtain ⟨a1, a2, a3, a4, a5, a6, a7⟩ := h.1 a ha
  obtain ⟨b1, b2, b3, b4, b5, b6, b7⟩ := h.1 b hb
  refine Calls.of rfl (lk rfl) ?_
  refine wa_aload_n q_X1_compareSizes_0 rfl ?_
  refine wa_getf q_X1_compareSizes_1 f_RX1_15 (by assumption) rfl ?_
  refine wa_aload_n q_X1_compareSizes_4 rfl ?_
  refine wa_getf q_X1_compareSizes_5 f_RX1_15 (by assumption) rfl ?_
  refine wn_icmp_eq q_X1_compareSizes_8 (by omega) (by omega) (fun hc => ?_) (fun hc => ?_)
  · refine wa_aload_n q_X1_compareSizes_28 rfl ?_
    refine wa_getf q_X1_compareSizes_29 f_RX1_15 (by assumption) rfl ?_
    refine wa_iconst q_X1_compareSizes_32 (v := nI 1) (by decide) ?_
    refine wa_isub q_X1_compareSizes_33 ?_
    have e1 : nI (S a).2.2.1 - nI 1 = iZ (((S a).2.2.1 : Int) - 1) := by rw [nI_iZ, nI_iZ, iZ_sub]; rfl
    rw [e1]
    refine wa_istore_n q_X1_compareSizes_34 (by decide) ?_
    rw [← hc] at b1 b3
    have nb1 := nb.1
    rw [← hc] at nb1
    refine wa_lv (C_cmpS_loop a5 a3 b5 b3 na.1 nb1 a1 a2 b1 b2 ?_ _ (Nat.le_refl _) (fun j h1 h2 => absurd h1 (by omega))) rfl
    rw [hc]
    exact ⟨rfl, rfl⟩
  · refine wa_aload_n q_X1_compareSizes_11 rfl ?_
    refine wa_getf q_X1_compareSizes_12 f_RX1_15 (by assumption) rfl ?_
    refine wa_aload_n q_X1_compareSizes_15 rfl ?_
    refine wa_getf q_X1_compareSizes_16 f_RX1_15 (by assumption) rfl ?_
    refine wn_icmp_ge q_X1_compareSizes_19 (by omega) (by omega) (fun hd => ?_) (fun hd => ?_)
    · refine wa_iconst q_X1_compareSizes_26 (v := 1) (by decide) ?_
      refine wa_iret q_X1_compareSizes_27 rfl ?_
      have := nrm_lt nb na (by omega)
      unfold cmpI
      rw [if_neg (by omega), if_neg (by omega)]
      exact ⟨rfl, rfl⟩
    · refine wa_iconst q_X1_compareSizes_22 (v := -1) (by decide) ?_
      refine wa_goto q_X1_compareSizes_23 ?_
      refine wa_iret q_X1_compareSizes_27 rfl ?_
      have := nrm_lt na nb (by omega)
      unfold cmpI
      rw [if_pos (by omega)]
      exact ⟨rfl, rfl⟩
theorem sgI_c (v : Int) : (v < 0 ∧ sgI v = -1) ∨ (v = 0 ∧ sgI v = 0) ∨ (0 < v ∧ sgI v = 1) := by
  unfold sgI
  rcases Int.lt_trichotomy v 0 with p | p | p
  · exact Or.inl ⟨p, if_pos p⟩
  · exact Or.inr (Or.inl ⟨p, by rw [if_neg (by omega), if_pos p]⟩)
  · exact Or.inr (Or.inr ⟨p, by rw [if_neg (by omega), if_neg (by omega)]⟩)
theorem sgI_lt {v w : Int} (h : sgI v < sgI w) : v < w := by
  rcases sgI_c v with ⟨p, e⟩ | ⟨p, e⟩ | ⟨p, e⟩ <;> rcases sgI_c w with ⟨q, g⟩ | ⟨q, g⟩ | ⟨q, g⟩ <;> first | omega | (rw [e, g] at h; exact absurd h (by decide))
theorem sgI_gt {v w : Int} (h : sgI v ≠ sgI w) (h2 : sgI w ≤ sgI v) : w < v := by
  rcases sgI_c v with ⟨p, e⟩ | ⟨p, e⟩ | ⟨p, e⟩ <;> rcases sgI_c w with ⟨q, g⟩ | ⟨q, g⟩ | ⟨q, g⟩ <;> first | omega | (rw [e, g] at h2; exact absurd h2 (by decide)) | (rw [e, g] at h; exact absurd rfl h)
theorem sgI_cmp {v w : Int} (h : sgI v = sgI w) : sgI v * cmpI v.natAbs w.natAbs = cmpI v w := by
  unfold cmpI
  rcases sgI_c v with ⟨p, e⟩ | ⟨p, e⟩ | ⟨p, e⟩ <;> rcases sgI_c w with ⟨q, g⟩ | ⟨q, g⟩ | ⟨q, g⟩ <;> first | (rw [e, g] at h; exact absurd h (by decide)) | skip
  · rw [e]
    rcases Int.lt_trichotomy v w with z | z | z
    · rw [if_neg (by omega), if_neg (by omega), if_pos z]; decide
    · rw [if_neg (by omega), if_pos (by omega), if_neg (by omega), if_pos z]; decide
    · rw [if_pos (by omega), if_neg (by omega), if_neg (by omega)]; decide
  · rw [e, if_neg (by omega), if_pos (by omega), if_neg (by omega), if_pos (by omega)]; decide
  · rw [e]
    rcases Int.lt_trichotomy v w with z | z | z
    · rw [if_pos (by omega), if_pos z]; decide
    · rw [if_neg (by omega), if_pos (by omega), if_neg (by omega), if_pos z]; decide
    · rw [if_neg (by omega), if_neg (by omega), if_neg (by omega), if_neg (by omega)]; decide
theorem V_cmp {a b : Nat} (h : bw_V X D σ S V) (ha : a ∈ D) (hb : b ∈ D) : Calls X M_X1_compare [.ref a, .ref b] σ (fun res τ => res = some (.int (cmpI (V a) (V b))) ∧ τ = σ) := by
  obtain ⟨a1, a2, a3, a4, a5, a6, a7⟩ := h.1.1 a ha
  obtain ⟨b1, b2, b3, b4, b5, b6, b7⟩ := h.1.1 b hb
  obtain ⟨va, wa, na⟩ := h.2 a ha
  obtain ⟨vb, wb, nb⟩ := h.2 b hb
  refine Calls.of rfl (lk rfl) ?_
  refine wa_aload_n q_X1_compare_0 rfl ?_
  refine wa_getf q_X1_compare_1 f_RX1_34 (by assumption) rfl ?_
  refine wa_aload_n q_X1_compare_4 rfl ?_
  refine wa_getf q_X1_compare_5 f_RX1_34 (by assumption) rfl ?_
  refine wa_icmp_eq q_X1_compare_8 (fun hc => ?_) (fun hc => ?_)
  · refine wa_aload_n q_X1_compare_28 rfl ?_
    refine wa_getf q_X1_compare_29 f_RX1_34 (by assumption) rfl ?_
    refine wa_aload_n q_X1_compare_32 rfl ?_
    refine wa_aload_n q_X1_compare_33 rfl ?_
    refine wa_callV q_X1_compare_34 g_X1_compare_34 w_X1_compareSizes (by assumption) rfl (av := [_]) rfl rfl (lk rfl) (Calls.mono (C_cmpS h.1 ha hb na nb) ?_)
    rintro _ _ ⟨rfl, rfl⟩
    refine wa_imul q_X1_compare_37 ?_
    refine wa_iret q_X1_compare_38 rfl ?_
    rw [va, wa, wb]
    rw [va, vb] at hc
    rw [sgI_cmp hc]
    exact ⟨rfl, rfl⟩
  · refine wa_aload_n q_X1_compare_11 rfl ?_
    refine wa_getf q_X1_compare_12 f_RX1_34 (by assumption) rfl ?_
    refine wa_aload_n q_X1_compare_15 rfl ?_
    refine wa_getf q_X1_compare_16 f_RX1_34 (by assumption) rfl ?_
    refine wa_icmp_ge q_X1_compare_19 (fun hd => ?_) (fun hd => ?_)
    · refine wa_iconst q_X1_compare_26 (v := 1) (by decide) ?_
      refine wa_iret q_X1_compare_27 rfl ?_
      rw [va, vb] at hc hd
      have := sgI_gt hc hd
      unfold cmpI
      rw [if_neg (by omega), if_neg (by omega)]
      exact ⟨rfl, rfl⟩
    · refine wa_iconst q_X1_compare_22 (v := -1) (by decide) ?_
      refine wa_goto q_X1_compare_23 ?_
      refine wa_iret q_X1_compare_27 rfl ?_
      rw [va, vb] at hc hd
      have := sgI_lt (Int32.not_le.mp hd)
      unfold cmpI
      rw [if_pos this]
      exact ⟨rfl, rfl⟩
theorem V_copy {a b : Nat} (h : bw_V X D σ S V) (ha : a ∈ D) (hb : b ∈ D) (hab : a ≠ b) (hz : (V b).natAbs < BB ^ 250) : Calls X M_X1_copy [.ref a, .ref b] σ (fun res τ => res = none ∧ ∃ S', bw_V X D τ S' (uV V a (V b)) ∧ bw_St D σ S τ S') := by
  obtain ⟨vb, wb, nb⟩ := h.2 b hb
  refine Calls.mono (C_copy h.1 ha hb hab (by have := isV_le (h.2 b hb) hz; omega)) ?_
  rintro r τ ⟨rfl, c, k1, k2, k3, k4, k5⟩
  refine ⟨rfl, _, h.up k4 ⟨k2.trans vb, ?_, ?_⟩, k5⟩
  · rw [k1, vl_congr k3]; exact wb
  · rw [k1]
    refine ⟨fun i hi => by rw [k3 i hi]; exact nb.1 i hi, ?_⟩
    rcases nb.2 with z | z
    · exact Or.inl z
    · by_cases e : (S b).2.2.1 = 0
      · exact Or.inl e
      · exact Or.inr (by rw [k3 _ (by omega)]; exact z)
theorem V_clear {a : Nat} (h : bw_V X D σ S V) (ha : a ∈ D) : Calls X M_X1_clear [.ref a] σ (fun res τ => res = none ∧ ∃ S', bw_V X D τ S' (uV V a 0) ∧ bw_St D σ S τ S') := by
  refine Calls.mono (C_clear h.1 ha) ?_
  rintro r τ ⟨rfl, c, rfl, k4, k5⟩
  exact ⟨rfl, _, h.up k4 ⟨rfl, rfl, fun i hi => absurd hi (Nat.not_lt_zero _), Or.inl rfl⟩, k5⟩
theorem C_add {a b : Nat} (h : bw_V X D σ S V) (ha : a ∈ D) (hb : b ∈ D) (hab : a ≠ b) (za : (S a).2.2.1 ≤ 255) (zb : (S b).2.2.1 ≤ 255) : Calls X M_X1_add [.ref a, .ref b] σ (fun res τ => res = none ∧ ∃ c, bw_R X D τ (uB S a c) ∧ isV c (V a + V b) ∧ bw_St D σ S τ (uB S a c)) := by
  obtain ⟨a1, a2, a3, a4, a5, a6, a7⟩ := h.1.1 a ha
  obtain ⟨b1, b2, b3, b4, b5, b6, b7⟩ := h.1.1 b hb
  obtain ⟨va, wa, na⟩ := h.2 a ha
  obtain ⟨vb, wb, nb⟩ := h.2 b hb
  refine Calls.of rfl (lk rfl) ?_
  refine wa_aload_n q_X1_add_0 rfl ?_
  refine wa_getf q_X1_add_1 f_RX1_34 (by assumption) rfl ?_
  refine wa_if_ne q_X1_add_4 (fun hc => ?_) (fun hc => ?_)
  · have hb0 : V b ≠ 0 := fun z => hc (by rw [vb]; exact sgI_0.mpr z)
    have hadd : sgI (V a) = 0 ∨ sgI (V a) = sgI (V b) → WA X M_X1_add σ 26 [(1, .ref b), (0, .ref a)] [] σ (fun res τ => res = none ∧ ∃ c, bw_R X D τ (uB S a c) ∧ isV c (V a + V b) ∧ bw_St D σ S τ (uB S a c)) := by
      intro hs
      refine wa_aload_n q_X1_add_26 rfl ?_
      refine wa_aload_n q_X1_add_27 rfl ?_
      refine wa_aload_n q_X1_add_28 rfl ?_
      refine wa_getf q_X1_add_29 f_RX1_34 (by assumption) rfl ?_
      refine wa_callV q_X1_add_32 g_X1_add_32 w_X1_addLimbs (by assumption) rfl (av := [_, _]) rfl rfl (lk rfl) (Calls.mono (C_addL h.1 ha hb hab na.1 nb.1 za zb) ?_)
      rintro _ σ1 ⟨rfl, c, c1, c2, c3, c4, c5⟩
      refine wa_goto q_X1_add_35 ?_
      refine wa_vret q_X1_add_69 rfl ?_
      refine ⟨rfl, c, c4, isV_of c1 ?_ c3 ?_, c5⟩
      · rw [c2, wa, wb]
        rcases hs with z | z
        · rw [sgI_0.mp z]; omega
        · rcases sgI_c (V a) with ⟨p, e⟩ | ⟨p, e⟩ | ⟨p, e⟩ <;> rcases sgI_c (V b) with ⟨q, g⟩ | ⟨q, g⟩ | ⟨q, g⟩ <;> first | omega | (rw [e, g] at z; exact absurd z (by decide))
      · intro _
        rw [vb]
        rcases hs with z | z
        · rw [sgI_0.mp z, Int.zero_add]
        · rcases sgI_c (V a) with ⟨p, e⟩ | ⟨p, e⟩ | ⟨p, e⟩ <;> rcases sgI_c (V b) with ⟨q, g⟩ | ⟨q, g⟩ | ⟨q, g⟩ <;> rcases sgI_c (V a + V b) with ⟨o, f⟩ | ⟨o, f⟩ | ⟨o, f⟩ <;> first | omega | (rw [e, g] at z; exact absurd z (by decide)) | (rw [g, f])
    refine wa_aload_n q_X1_add_8 rfl ?_
    refine wa_getf q_X1_add_9 f_RX1_34 (by assumption) rfl ?_
    refine wa_if_eq q_X1_add_12 (fun hd => ?_) (fun hd => ?_)
    · exact wa_lv (hadd (Or.inl (by rw [← va]; exact hd))) rfl
    · refine wa_aload_n q_X1_add_15 rfl ?_
      refine wa_getf q_X1_add_16 f_RX1_34 (by assumption) rfl ?_
      refine wa_aload_n q_X1_add_19 rfl ?_
      refine wa_getf q_X1_add_20 f_RX1_34 (by assumption) rfl ?_
      refine wa_icmp_ne q_X1_add_23 (fun he => ?_) (fun he => ?_)
      · refine wa_aload_n q_X1_add_38 rfl ?_
        refine wa_aload_n q_X1_add_39 rfl ?_
        refine wa_callV q_X1_add_40 g_X1_add_40 w_X1_compareSizes (by assumption) rfl (av := [_]) rfl rfl (lk rfl) (Calls.mono (C_cmpS h.1 ha hb na nb) ?_)
        rintro _ _ ⟨rfl, rfl⟩
        rw [wa, wb]
        rw [va] at hd he
        rw [vb] at he hc
        refine wa_if_lt q_X1_add_43 (fun hf => ?_) (fun hf => ?_)
        · refine wa_aload_n q_X1_add_59 rfl ?_
          refine wa_aload_n q_X1_add_60 rfl ?_
          refine wa_iconst q_X1_add_61 (v := -1) (by decide) ?_
          refine wa_aload_n q_X1_add_62 rfl ?_
          refine wa_getf q_X1_add_63 f_RX1_34 (by assumption) rfl ?_
          have hlt : (V a).natAbs < (V b).natAbs := by
            unfold cmpI at hf
            split at hf
            · omega
            · split at hf <;> exact absurd hf (by decide)
          refine wa_callV q_X1_add_66 g_X1_add_66 w_X1_subtractLimbs (by assumption) rfl (av := [_, _, _]) rfl rfl (lk rfl) (Calls.mono (C_subL h.1 ha hb hab na.1 nb.1 (by omega) (by omega) (Or.inr ⟨rfl, by rw [wa, wb]; omega⟩)) ?_)
          rintro _ σ1 ⟨rfl, c, c1, c2, c3, c4, c5⟩
          refine wa_vret q_X1_add_69 rfl ?_
          rw [if_neg (by decide), wa, wb] at c2
          refine ⟨rfl, c, c4, isV_of c1 ?_ c3 ?_, c5⟩
          · rcases sgI_c (V a) with ⟨p, e⟩ | ⟨p, e⟩ | ⟨p, e⟩ <;> rcases sgI_c (V b) with ⟨q, g⟩ | ⟨q, g⟩ | ⟨q, g⟩ <;> first | omega | (rw [e, g] at he; exact absurd rfl he)
          · intro _
            rw [vb]
            rcases sgI_c (V a) with ⟨p, e⟩ | ⟨p, e⟩ | ⟨p, e⟩ <;> rcases sgI_c (V b) with ⟨q, g⟩ | ⟨q, g⟩ | ⟨q, g⟩ <;> rcases sgI_c (V a + V b) with ⟨o, f⟩ | ⟨o, f⟩ | ⟨o, f⟩ <;> first | omega | (rw [e, g] at he; exact absurd rfl he) | (rw [g, f])
        · refine wa_aload_n q_X1_add_46 rfl ?_
          refine wa_aload_n q_X1_add_47 rfl ?_
          refine wa_iconst q_X1_add_48 (v := 1) (by decide) ?_
          refine wa_aload_n q_X1_add_49 rfl ?_
          refine wa_getf q_X1_add_50 f_RX1_34 (by assumption) rfl ?_
          have hge : (V b).natAbs ≤ (V a).natAbs := by
            unfold cmpI at hf
            split at hf
            · exact absurd (by decide) hf
            · omega
          refine wa_callV q_X1_add_53 g_X1_add_53 w_X1_subtractLimbs (by assumption) rfl (av := [_, _, _]) rfl rfl (lk rfl) (Calls.mono (C_subL h.1 ha hb hab na.1 nb.1 (by omega) (by omega) (Or.inl ⟨rfl, by rw [wa, wb]; omega⟩)) ?_)
          rintro _ σ1 ⟨rfl, c, c1, c2, c3, c4, c5⟩
          refine wa_goto q_X1_add_56 ?_
          refine wa_vret q_X1_add_69 rfl ?_
          rw [if_pos rfl, wa, wb] at c2
          refine ⟨rfl, c, c4, isV_of c1 ?_ c3 ?_, c5⟩
          · rcases sgI_c (V a) with ⟨p, e⟩ | ⟨p, e⟩ | ⟨p, e⟩ <;> rcases sgI_c (V b) with ⟨q, g⟩ | ⟨q, g⟩ | ⟨q, g⟩ <;> first | omega | (rw [e, g] at he; exact absurd rfl he) | (rw [e] at hd; exact absurd rfl hd)
          · intro hnz
            rw [va]
            rcases sgI_c (V a) with ⟨p, e⟩ | ⟨p, e⟩ | ⟨p, e⟩ <;> rcases sgI_c (V b) with ⟨q, g⟩ | ⟨q, g⟩ | ⟨q, g⟩ <;> rcases sgI_c (V a + V b) with ⟨o, f⟩ | ⟨o, f⟩ | ⟨o, f⟩ <;> first | omega | (rw [e, g] at he; exact absurd rfl he) | (rw [e, f]) | (rw [e] at hd; exact absurd rfl hd)
      · exact wa_lv (hadd (Or.inr (by rw [← va, ← vb]; exact he))) rfl
  · refine wa_vret q_X1_add_7 rfl ?_
    have hb0 : V b = 0 := sgI_0.mp (by rw [← vb]; exact hc)
    refine ⟨rfl, S a, by rw [uB_i]; exact h.1, by rw [hb0, Int.add_zero]; exact h.2 a ha, by rw [uB_i]; exact bw_St.rf D σ S⟩
theorem V_add {a b : Nat} (h : bw_V X D σ S V) (ha : a ∈ D) (hb : b ∈ D) (hab : a ≠ b) (za : (V a).natAbs < BB ^ 250) (zb : (V b).natAbs < BB ^ 250) : Calls X M_X1_add [.ref a, .ref b] σ (fun res τ => res = none ∧ ∃ S', bw_V X D τ S' (uV V a (V a + V b)) ∧ bw_St D σ S τ S') := by
  refine Calls.mono (C_add h ha hb hab (by have := isV_le (h.2 a ha) za; omega) (by have := isV_le (h.2 b hb) zb; omega)) ?_
  rintro r τ ⟨rfl, c, k1, k2, k3⟩
  exact ⟨rfl, _, h.up k1 k2, k3⟩
theorem V_sub {a b : Nat} (h : bw_V X D σ S V) (ha : a ∈ D) (hb : b ∈ D) (hab : a ≠ b) (za : (V a).natAbs < BB ^ 250) (zb : (V b).natAbs < BB ^ 250) : Calls X M_X1_subtract [.ref a, .ref b] σ (fun res τ => res = none ∧ ∃ S', bw_V X D τ S' (uV V a (V a - V b)) ∧ bw_St D σ S τ S') := by
  obtain ⟨a1, a2, a3, a4, a5, a6, a7⟩ := h.1.1 a ha
  obtain ⟨va, wa, na⟩ := h.2 a ha
  refine Calls.of rfl (lk rfl) ?_
  refine wa_aload_n q_X1_subtract_0 rfl ?_
  refine wa_aload_n q_X1_subtract_1 rfl ?_
  refine wa_acmp_ne q_X1_subtract_2 (fun hc => ?_) (fun hc => ?_)
  · refine wa_aload_n q_X1_subtract_10 rfl ?_
    refine wa_aload_n q_X1_subtract_11 rfl ?_
    refine wa_getf q_X1_subtract_12 f_RX1_34 (by assumption) rfl ?_
    refine wa_ineg q_X1_subtract_15 ?_
    refine wn_putf q_X1_subtract_16 p_RX1_34 (by assumption) (lk rfl) rfl rfl rfl (fun σ_c1 c1 f_c1 e1_c1 e2_c1 => ?_)
    have hne := ne_oa a1 a2
    have st := bw_R.step (τ := σ_c1) (b := ((S a).1, (S a).2.1, (S a).2.2.1, (S a).2.2.2.1, -(S a).2.2.2.2)) h.1 ha (by omega) ⟨c1, (f_c1 _ hne.symm).trans a2, a3, a4, a5, by omega, by show (S a).1 < _; omega⟩ (fun q q1 q2 q3 => f_c1 q q2) (Or.inl rfl) (Nat.le_refl _) (by show _ ≤ 8 * _ + (S a).2.1; omega) (by show _ ≤ _ + 2 * (S a).2.1; omega)
    have hv : bw_V X D σ_c1 (uB S a ((S a).1, (S a).2.1, (S a).2.2.1, (S a).2.2.2.1, -(S a).2.2.2.2)) (uV V a (-V a)) := h.up st.1 ⟨by show -(S a).2.2.2.2 = _; rw [va, sgI_neg], by show vl (S a).2.2.2.1 (S a).2.2.1 = _; rw [wa]; omega, na⟩
    refine wa_aload_n q_X1_subtract_19 rfl ?_
    refine wa_aload_n q_X1_subtract_20 rfl ?_
    refine wa_callV q_X1_subtract_21 g_X1_subtract_21 w_X1_add (by assumption) rfl (av := [_]) rfl rfl (lk rfl) (Calls.mono (C_add hv ha hb hab (by rw [uB_s]; have := isV_le (h.2 a ha) za; show (S a).2.2.1 ≤ 255; omega) (by rw [uB_n (fun z => hab z.symm)]; have := isV_le (h.2 b hb) zb; omega)) ?_)
    rintro _ σ1 ⟨rfl, c, k1, k2, k3⟩
    rw [uB_u] at k1 k3
    rw [uV_s, uV_n (fun z => hab z.symm)] at k2
    obtain ⟨d1, d2, d3, d4, d5, d6, d7⟩ := k1.1 a ha
    rw [uB_s] at d1 d2 d3 d4 d5 d7
    have hne2 := ne_oa d1 d2
    refine wa_aload_n q_X1_subtract_24 rfl ?_
    refine wa_aload_n q_X1_subtract_25 rfl ?_
    refine wa_getf q_X1_subtract_26 f_RX1_34 (by assumption) rfl ?_
    refine wa_ineg q_X1_subtract_29 ?_
    refine wn_putf q_X1_subtract_30 p_RX1_34 (by assumption) (lk rfl) rfl rfl rfl (fun σ_e1 e1 f_e1 e1_e1 e2_e1 => ?_)
    refine wa_vret q_X1_subtract_33 rfl ?_
    have st2 := bw_R.step (τ := σ_e1) (b := (c.1, c.2.1, c.2.2.1, c.2.2.2.1, -c.2.2.2.2)) k1 ha (by omega) ⟨e1, (f_e1 _ hne2.symm).trans d2, d3, d4, d5, by omega, by show c.1 < _; omega⟩ (fun q q1 q2 q3 => f_e1 q q2) (Or.inl (by rw [uB_s])) (by rw [uB_s]; exact Nat.le_refl _) (by rw [uB_s]; show _ ≤ 8 * _ + c.2.1; omega) (by rw [uB_s]; show _ ≤ _ + 2 * c.2.1; omega)
    rw [uB_u] at st2
    refine ⟨rfl, _, h.up st2.1 ⟨?_, ?_, k2.2.2⟩, st.2.tr (k3.tr st2.2)⟩
    · show -c.2.2.2.2 = _
      rw [k2.1, ← sgI_neg]; congr 1; omega
    · show vl c.2.2.2.1 c.2.2.1 = _
      rw [k2.2.1]; omega
  · exact absurd hc (fun z => hab z.symm)
end big4
