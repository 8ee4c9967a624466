/-! EnclosedDigits$Big: addLimbs, subtractLimbs -/
/-- limbs with zeros above -/
def pad (d : Nat → Nat) (n : Nat) : Nat → Nat := fun j => if j < n then d j else 0
theorem vl_padd {d : Nat → Nat} {n i : Nat} (h : n ≤ i) : vl (pad d n) i = vl d n := by
  rw [vl_pad (d := pad d n) h (fun j h1 _ => if_neg (by omega))]
  exact vl_congr (fun j hj => if_pos hj)
section big3
variable {X : en_X} {σ : en_S} {D : List Nat} {S : Nat → en_B}
theorem C_addL_loop {ρ σ0 : en_S} {a b r rb n nb m sb : Nat} {d db : Nat → Nat} {sg sgb s : Int32} {Q : Option Value → en_S → Prop} (hn : n ≤ 512) (hm : m ≤ n) (hsb : sb < m) (hnb : nb ≤ 512) (hsn : sb ≤ nb) (hd : ∀ i, i < m → d i < BB) (hdb : ∀ i, i < sb → db i < BB) (hfit : vl d m + vl db sb < BB ^ m) (hne : a ≠ r) (hbr : b ≠ r) (hrr : rb ≠ r)
    (k : ∀ σ1 d1, look σ1 a = some (bE sg m r) → look σ1 r = some (ar X n d1) → (∀ j, j < m → d1 j < BB) → vl d1 m = vl d m + vl db sb → (∀ q, q ≠ r → look σ1 q = look σ0 q) → σ1.1 = σ0.1 → σ1.2.1 = σ0.2.1 → WA X M_X1_addLimbs ρ 109 [(2, .int s), (0, .ref a)] [] σ1 Q) :
    ∀ (t i c : Nat) (σ : en_S) (d1 : Nat → Nat), m - i = t → i ≤ m → c ≤ 1 → look σ a = some (bE sg m r) → look σ r = some (ar X n d1) → look σ b = some (bE sgb sb rb) → look σ rb = some (ar X nb db) → (∀ j, j < m → d1 j < BB) → (∀ j, i ≤ j → d1 j = d j) → vl d1 m + c * BB ^ i = vl d m + vl (pad db sb) i → (∀ q, q ≠ r → look σ q = look σ0 q) → σ.1 = σ0.1 → σ.2.1 = σ0.2.1 →
      WA X M_X1_addLimbs ρ 22 [(4, .int (nI i)), (3, .int (nI c)), (2, .int s), (1, .ref b), (0, .ref a)] [] σ Q := by
  have hB : BB = 1000000000 := rfl
  intro t
  induction t with
  | zero =>
    intro i c σ d1 ht hi hc ha hr hb hrb h1 h2 h3 h4 h5 h6
    refine wa_iload q_X1_addLimbs_22 rfl ?_
    refine wa_aload_n q_X1_addLimbs_24 rfl ?_
    refine wa_getf q_X1_addLimbs_25 f_RX1_15 (by assumption) rfl ?_
    refine wn_icmp_ge q_X1_addLimbs_28 (by omega) (by omega) (fun hx => ?_) (fun hx => ?_)
    · have e : i = m := by omega
      subst e
      rw [vl_padd (by omega)] at h3
      have hc0 : c = 0 := by
        rcases Nat.eq_zero_or_pos c with z | z
        · exact z
        · have : 1 * BB ^ i ≤ c * BB ^ i := Nat.mul_le_mul_right _ z
          omega
      subst hc0
      exact wa_lv (k σ d1 ha hr h1 (by omega) h4 h5 h6) rfl
    · exact absurd hx (by omega)
  | succ t ih =>
    intro i c σ d1 ht hi hc ha hr hb hrb h1 h2 h3 h4 h5 h6
    refine wa_iload q_X1_addLimbs_22 rfl ?_
    refine wa_aload_n q_X1_addLimbs_24 rfl ?_
    refine wa_getf q_X1_addLimbs_25 f_RX1_15 (by assumption) rfl ?_
    refine wn_icmp_ge q_X1_addLimbs_28 (by omega) (by omega) (fun hx => ?_) (fun hx => ?_)
    · exact absurd hx (by omega)
    · have hgo : WA X M_X1_addLimbs ρ 44 [(4, .int (nI i)), (3, .int (nI c)), (2, .int s), (1, .ref b), (0, .ref a)] [] σ Q := by
        have hdi : d1 i < BB := h1 i (by omega)
        have hpi : pad db sb i < BB := by unfold pad; split; exact hdb i (by assumption); exact BB_pos
        refine wa_aload_n q_X1_addLimbs_44 rfl ?_
        refine wa_getf q_X1_addLimbs_45 f_RX1_11 (by assumption) rfl ?_
        refine wa_iload q_X1_addLimbs_48 rfl ?_
        refine wn_iald q_X1_addLimbs_50 (by assumption) (by omega) (by omega) ?_
        have hj : WA X M_X1_addLimbs ρ 71 [(4, .int (nI i)), (3, .int (nI c)), (2, .int s), (1, .ref b), (0, .ref a)] [.int (nI (pad db sb i)), .int (nI (d1 i))] σ Q := by
          refine wn_iadd q_X1_addLimbs_71 ?_
          refine wa_iload_n q_X1_addLimbs_72 rfl ?_
          refine wn_iadd q_X1_addLimbs_73 ?_
          refine wa_istore q_X1_addLimbs_74 (by decide) ?_
          have hk : ∀ c', (c' = 1 ∧ 1000000000 ≤ d1 i + pad db sb i + c) ∨ (c' = 0 ∧ d1 i + pad db sb i + c < 1000000000) → WA X M_X1_addLimbs ρ 88 [(5, .int (nI (d1 i + pad db sb i + c))), (4, .int (nI i)), (3, .int (nI c)), (2, .int s), (1, .ref b), (0, .ref a)] [.int (nI c')] σ Q := by
            intro c' hc'
            have hcc : c' * 1000000000 ≤ d1 i + pad db sb i + c := by omega
            refine wa_istore_n q_X1_addLimbs_88 (by decide) ?_
            refine wa_aload_n q_X1_addLimbs_89 rfl ?_
            refine wa_getf q_X1_addLimbs_90 f_RX1_11 (by assumption) rfl ?_
            refine wa_iload q_X1_addLimbs_93 rfl ?_
            refine wa_iload q_X1_addLimbs_95 rfl ?_
            refine wa_iload_n q_X1_addLimbs_97 rfl ?_
            refine wa_ldc q_X1_addLimbs_98 k_RX1_86 ?_
            refine wn_imul q_X1_addLimbs_100 ?_
            refine wn_isub q_X1_addLimbs_101 (by omega) ?_
            refine wn_iast q_X1_addLimbs_102 (by assumption) (by omega) (by omega) (fun σ_hr1 hr1 f_hr1 e1_hr1 e2_hr1 => ?_)
            have ha := (f_hr1 a hne).trans ha
            have hb := (f_hr1 b hbr).trans hb
            have hrb := (f_hr1 rb hrr).trans hrb
            refine wn_iinc q_X1_addLimbs_103 rfl (by decide) ?_
            refine wa_goto q_X1_addLimbs_106 ?_
            have hu := vl_un (d := d1) (n := m) (i := i) (x := d1 i + pad db sb i + c - c' * 1000000000) (by omega)
            have e1 : vl (pad db sb) (i + 1) = vl (pad db sb) i + pad db sb i * BB ^ i := rfl
            have e2 : d1 i + pad db sb i + c - c' * 1000000000 + c' * 1000000000 = d1 i + pad db sb i + c := by omega
            refine wa_lv (ih (i + 1) c' σ_hr1 _ (by omega) (by omega) (by omega) ha hr1 hb hrb (un_lt h1 (by omega)) (fun j hj => ?_) ?_ (fun q hq => (f_hr1 q hq).trans (h4 q hq)) (by omega) (by omega)) rfl
            · rw [un_n (by omega)]; exact h2 j (by omega)
            · rw [e1, Nat.pow_succ, hB]
              rw [hB] at hu h3
              generalize d1 i + pad db sb i + c - c' * 1000000000 = xx at *
              grind
          refine wa_iload q_X1_addLimbs_76 rfl ?_
          refine wa_ldc q_X1_addLimbs_78 k_RX1_86 ?_
          refine wn_icmp_lt q_X1_addLimbs_80 (by omega) (by omega) (fun hy => ?_) (fun hy => ?_)
          · refine wa_iconst q_X1_addLimbs_87 (v := nI 0) (by decide) ?_
            exact wa_lv (hk 0 (Or.inr ⟨rfl, hy⟩)) rfl
          · refine wa_iconst q_X1_addLimbs_83 (v := nI 1) (by decide) ?_
            refine wa_goto q_X1_addLimbs_84 ?_
            exact wa_lv (hk 1 (Or.inl ⟨rfl, hy⟩)) rfl
        refine wa_iload q_X1_addLimbs_51 rfl ?_
        refine wa_aload_n q_X1_addLimbs_53 rfl ?_
        refine wa_getf q_X1_addLimbs_54 f_RX1_15 (by assumption) rfl ?_
        refine wn_icmp_ge q_X1_addLimbs_57 (by omega) (by omega) (fun hz => ?_) (fun hz => ?_)
        · refine wa_iconst q_X1_addLimbs_70 (v := nI 0) (by decide) ?_
          have e : pad db sb i = 0 := if_neg (by omega)
          rw [e] at hj
          exact hj
        · refine wa_aload_n q_X1_addLimbs_60 rfl ?_
          refine wa_getf q_X1_addLimbs_61 f_RX1_11 (by assumption) rfl ?_
          refine wa_iload q_X1_addLimbs_64 rfl ?_
          refine wn_iald q_X1_addLimbs_66 (by assumption) (by omega) (by omega) ?_
          refine wa_goto q_X1_addLimbs_67 ?_
          have e : pad db sb i = db i := if_pos hz
          rw [e] at hj
          exact hj
      refine wa_iload q_X1_addLimbs_31 rfl ?_
      refine wa_aload_n q_X1_addLimbs_33 rfl ?_
      refine wa_getf q_X1_addLimbs_34 f_RX1_15 (by assumption) rfl ?_
      refine wn_icmp_lt q_X1_addLimbs_37 (by omega) (by omega) (fun hy => ?_) (fun hy => ?_)
      · exact hgo
      · refine wa_iload_n q_X1_addLimbs_40 rfl ?_
        refine wn_if_le q_X1_addLimbs_41 (by omega) (fun hz => ?_) (fun hz => ?_)
        · subst hz
          rw [vl_padd hy] at h3
          exact wa_lv (k σ d1 ha hr h1 (by omega) h4 h5 h6) rfl
        · exact hgo
theorem C_addL {a b : Nat} {s : Int32} (h : bw_R X D σ S) (ha : a ∈ D) (hb : b ∈ D) (hab : a ≠ b) (hda : ∀ i, i < (S a).2.2.1 → (S a).2.2.2.1 i < BB) (hdb : ∀ i, i < (S b).2.2.1 → (S b).2.2.2.1 i < BB) (za : (S a).2.2.1 ≤ 255) (zb : (S b).2.2.1 ≤ 255) :
    Calls X M_X1_addLimbs [.ref a, .ref b, .int s] σ (fun res τ => res = none ∧ ∃ c : en_B, nrm c.2.2.2.1 c.2.2.1 ∧ vl c.2.2.2.1 c.2.2.1 = vl (S a).2.2.2.1 (S a).2.2.1 + vl (S b).2.2.2.1 (S b).2.2.1 ∧ c.2.2.2.2 = (if c.2.2.1 = 0 then 0 else s) ∧ bw_R X D τ (uB S a c) ∧ bw_St D σ S τ (uB S a c)) := by
  obtain ⟨a1, a2, a3, a4, a5, a6, a7⟩ := h.1 a ha
  obtain ⟨b1, b2, b3, b4, b5, b6, b7⟩ := h.1 b hb
  have hB : BB = 1000000000 := rfl
  refine Calls.of rfl (lk rfl) ?_
  refine wa_aload_n q_X1_addLimbs_0 rfl ?_
  refine wa_aload_n q_X1_addLimbs_1 rfl ?_
  refine wa_getf q_X1_addLimbs_2 f_RX1_15 (by assumption) rfl ?_
  refine wa_aload_n q_X1_addLimbs_5 rfl ?_
  refine wa_getf q_X1_addLimbs_6 f_RX1_15 (by assumption) rfl ?_
  refine wn_mmax q_X1_addLimbs_9 a_RX1_19 (lk rfl) (lk rfl) (by omega) (by omega) ?_
  refine wa_iconst q_X1_addLimbs_12 (v := nI 1) (by decide) ?_
  refine wn_iadd q_X1_addLimbs_13 ?_
  refine wa_callV q_X1_addLimbs_14 g_X1_addLimbs_14 w_X1_extend (by assumption) rfl (av := [_]) rfl rfl (lk rfl) (Calls.mono (C_extend h ha (by omega)) ?_)
  rintro _ σ1 ⟨rfl, e, k1, k2, k3, k4, k5, k6⟩
  obtain ⟨c1, c2, c3, c4, c5, c6, c7⟩ := k5.1 b hb
  have hrr := fun z => hab (k5.2 b hb a ha z).symm
  rw [uB_n (fun z => hab z.symm)] at c1 c2 c3 c4 c5 c7 hrr
  obtain ⟨e1, e2, e3, e4, e5, e6, e7⟩ := k5.1 a ha
  rw [uB_s] at e1 e2 e3 e4 e5 e7 hrr
  have hm : e.2.2.1 = max (S a).2.2.1 (S b).2.2.1 + 1 := by omega
  have hv : vl e.2.2.2.1 e.2.2.1 = vl (S a).2.2.2.1 (S a).2.2.1 := by
    rw [vl_pad (n := (S a).2.2.1) (by omega) (fun i h1 h2 => k4 i h1 (by omega))]
    exact vl_congr k3
  have hde : ∀ i, i < e.2.2.1 → e.2.2.2.1 i < BB := by
    intro i hi
    rcases Nat.lt_or_ge i (S a).2.2.1 with q | q
    · rw [k3 i q]; exact hda i q
    · rw [k4 i q (by omega)]; exact BB_pos
  have hfit : vl e.2.2.2.1 e.2.2.1 + vl (S b).2.2.2.1 (S b).2.2.1 < BB ^ e.2.2.1 := by
    rw [hv, hm, Nat.pow_succ]
    have q1 := vl_lt hda
    have q2 := vl_lt hdb
    have q3 := pw_mono (a := (S a).2.2.1) (b := max (S a).2.2.1 (S b).2.2.1) (by omega)
    have q4 := pw_mono (a := (S b).2.2.1) (b := max (S a).2.2.1 (S b).2.2.1) (by omega)
    have q5 : BB ^ max (S a).2.2.1 (S b).2.2.1 * BB = BB ^ max (S a).2.2.1 (S b).2.2.1 * 1000000000 := rfl
    omega
  refine wa_iconst q_X1_addLimbs_17 (v := nI 0) (by decide) ?_
  refine wa_istore_n q_X1_addLimbs_18 (by decide) ?_
  refine wa_iconst q_X1_addLimbs_19 (v := nI 0) (by decide) ?_
  refine wa_istore q_X1_addLimbs_20 (by decide) ?_
  refine wa_lv (C_addL_loop (σ0 := σ1) e5 e3 (by omega) c5 c3 hde hdb hfit (ne_oa e1 e2) (ne_oa c1 e2) hrr ?_ _ 0 0 σ1 _ rfl (Nat.zero_le _) (Nat.zero_le _) e1 e2 c1 c2 hde (fun _ _ => rfl) (by simp [vl]) (fun _ _ => rfl) rfl rfl) rfl
  intro σ2 d1 g1 g2 g3 g4 g5 g6 g7
  have st := bw_R.step (τ := σ2) (b := (e.1, e.2.1, e.2.2.1, d1, e.2.2.2.2)) k5 ha (by omega) ⟨g1, g2, e3, e4, e5, by omega, by show e.1 < _; omega⟩ (fun q q1 q2 q3 => by rw [uB_s] at q3; exact g5 q q3) (Or.inl (by rw [uB_s])) (by rw [uB_s]; exact Nat.le_refl _) (by rw [uB_s]; show _ ≤ 8 * _ + e.2.1; omega) (by rw [uB_s]; show _ ≤ _ + 2 * e.2.1; omega)
  rw [uB_u] at st
  refine wa_aload_n q_X1_addLimbs_109 rfl ?_
  refine wa_iload_n q_X1_addLimbs_110 rfl ?_
  refine wa_callV q_X1_addLimbs_111 g_X1_addLimbs_111 w_X1_trim (by assumption) rfl (av := [_]) rfl rfl (lk rfl) (Calls.mono (C_trim st.1 ha (by rw [uB_s]; intro i hi; have := g3 i hi; show d1 i < _; omega)) ?_)
  rintro _ σ3 ⟨rfl, b, hbe, w1, w2⟩
  rw [uB_s] at hbe
  rw [uB_u] at w1 w2
  refine wa_vret q_X1_addLimbs_114 rfl ?_
  refine ⟨rfl, b, ?_, ?_, ?_, w1, k6.tr (st.2.tr w2)⟩
  · subst hbe
    exact ⟨fun i hi => g3 i (by have := tp_le d1 e.2.2.1; have hi : i < tp d1 e.2.2.1 := hi; omega), tp_top d1 e.2.2.1⟩
  · subst hbe
    show vl d1 (tp d1 e.2.2.1) = _
    rw [vl_tp, g4, hv]
  · subst hbe; rfl
theorem C_subL_loop {ρ σ0 : en_S} {a b r rb n nb m sb : Nat} {d db xx yy : Nat → Nat} {sg sgb s w : Int32} {Q : Option Value → en_S → Prop} (hn : n ≤ 512) (hm : m ≤ n) (hsb : sb ≤ m) (hnb : nb ≤ 512) (hsn : sb ≤ nb) (hw : ∀ i, i < m → w * (nI (d i) - nI (pad db sb i)) = iZ ((xx i : Int) - yy i)) (hx : ∀ i, i < m → xx i < BB) (hy : ∀ i, i < m → yy i < BB) (hle : vl yy m ≤ vl xx m) (hne : a ≠ r) (hbr : b ≠ r) (hrr : rb ≠ r)
    (k : ∀ σ1 d1, look σ1 a = some (bE sg m r) → look σ1 r = some (ar X n d1) → (∀ j, j < m → d1 j < BB) → vl d1 m + vl yy m = vl xx m → (∀ q, q ≠ r → look σ1 q = look σ0 q) → σ1.1 = σ0.1 → σ1.2.1 = σ0.2.1 → WA X M_X1_subtractLimbs ρ 102 [(3, .int s), (0, .ref a)] [] σ1 Q) :
    ∀ (t i c : Nat) (σ : en_S) (d1 : Nat → Nat), m - i = t → i ≤ m → c ≤ 1 → look σ a = some (bE sg m r) → look σ r = some (ar X n d1) → look σ b = some (bE sgb sb rb) → look σ rb = some (ar X nb db) → (∀ j, j < i → d1 j < BB) → (∀ j, i ≤ j → d1 j = d j) → vl d1 i + vl yy i + c * 0 = vl xx i + c * BB ^ i → (∀ q, q ≠ r → look σ q = look σ0 q) → σ.1 = σ0.1 → σ.2.1 = σ0.2.1 →
      WA X M_X1_subtractLimbs ρ 21 [(5, .int (nI i)), (4, .int (nI c)), (3, .int s), (2, .int w), (1, .ref b), (0, .ref a)] [] σ Q := by
  have hB : BB = 1000000000 := rfl
  intro t
  induction t with
  | zero =>
    intro i c σ d1 ht hi hc ha hr hb hrb h1 h2 h3 h4 h5 h6
    refine wa_iload q_X1_subtractLimbs_21 rfl ?_
    refine wa_aload_n q_X1_subtractLimbs_23 rfl ?_
    refine wa_getf q_X1_subtractLimbs_24 f_RX1_15 (by assumption) rfl ?_
    refine wn_icmp_ge q_X1_subtractLimbs_27 (by omega) (by omega) (fun hz => ?_) (fun hz => ?_)
    · have e : i = m := by omega
      subst e
      have hlt := vl_lt h1
      have hc0 : c = 0 := by
        rcases Nat.eq_zero_or_pos c with z | z
        · exact z
        · have : 1 * BB ^ i ≤ c * BB ^ i := Nat.mul_le_mul_right _ z
          omega
      subst hc0
      exact wa_lv (k σ d1 ha hr h1 (by omega) h4 h5 h6) rfl
    · exact absurd hz (by omega)
  | succ t ih =>
    intro i c σ d1 ht hi hc ha hr hb hrb h1 h2 h3 h4 h5 h6
    refine wa_iload q_X1_subtractLimbs_21 rfl ?_
    refine wa_aload_n q_X1_subtractLimbs_23 rfl ?_
    refine wa_getf q_X1_subtractLimbs_24 f_RX1_15 (by assumption) rfl ?_
    refine wn_icmp_ge q_X1_subtractLimbs_27 (by omega) (by omega) (fun hz => ?_) (fun hz => ?_)
    · exact absurd hz (by omega)
    · have hxi := hx i (by omega)
      have hyi := hy i (by omega)
      have hdi : d1 i = d i := h2 i (by omega)
      have hj : WA X M_X1_subtractLimbs ρ 50 [(5, .int (nI i)), (4, .int (nI c)), (3, .int s), (2, .int w), (1, .ref b), (0, .ref a)] [.int (nI (pad db sb i))] σ Q := by
        refine wa_istore q_X1_subtractLimbs_50 (by decide) ?_
        refine wa_iload_n q_X1_subtractLimbs_52 rfl ?_
        refine wa_aload_n q_X1_subtractLimbs_53 rfl ?_
        refine wa_getf q_X1_subtractLimbs_54 f_RX1_11 (by assumption) rfl ?_
        refine wa_iload q_X1_subtractLimbs_57 rfl ?_
        refine wn_iald q_X1_subtractLimbs_59 (by assumption) (by omega) (by omega) ?_
        rw [hdi]
        refine wa_iload q_X1_subtractLimbs_60 rfl ?_
        refine wa_isub q_X1_subtractLimbs_62 ?_
        refine wa_imul q_X1_subtractLimbs_63 ?_
        rw [hw i (by omega)]
        refine wa_iload q_X1_subtractLimbs_64 rfl ?_
        refine wa_isub q_X1_subtractLimbs_66 ?_
        rw [nI_iZ c, iZ_sub]
        refine wa_istore q_X1_subtractLimbs_67 (by decide) ?_
        refine wa_iload q_X1_subtractLimbs_69 rfl ?_
        have hk : ∀ c', (c' = 1 ∧ (xx i : Int) - yy i - c < 0) ∨ (c' = 0 ∧ 0 ≤ (xx i : Int) - yy i - c) → WA X M_X1_subtractLimbs ρ 79 [(7, .int (iZ ((xx i : Int) - yy i - c))), (5, .int (nI i)), (3, .int s), (2, .int w), (1, .ref b), (0, .ref a)] [.int (nI c')] σ Q := by
          intro c' hc'
          refine wa_istore q_X1_subtractLimbs_79 (by decide) ?_
          refine wa_aload_n q_X1_subtractLimbs_81 rfl ?_
          refine wa_getf q_X1_subtractLimbs_82 f_RX1_11 (by assumption) rfl ?_
          refine wa_iload q_X1_subtractLimbs_85 rfl ?_
          refine wa_iload q_X1_subtractLimbs_87 rfl ?_
          refine wa_iload q_X1_subtractLimbs_89 rfl ?_
          refine wa_ldc q_X1_subtractLimbs_91 k_RX1_86 ?_
          refine wn_imul q_X1_subtractLimbs_93 ?_
          refine wa_iadd q_X1_subtractLimbs_94 ?_
          have en : iZ ((xx i : Int) - yy i - c) + nI (c' * 1000000000) = nI (xx i + c' * 1000000000 - yy i - c) := by
            rw [nI_iZ, nI_iZ, iZ_add]; congr 1; omega
          rw [en]
          refine wn_iast q_X1_subtractLimbs_95 (by assumption) (by omega) (by omega) (fun σ_hr1 hr1 f_hr1 e1_hr1 e2_hr1 => ?_)
          have ha := (f_hr1 a hne).trans ha
          have hb := (f_hr1 b hbr).trans hb
          have hrb := (f_hr1 rb hrr).trans hrb
          refine wn_iinc q_X1_subtractLimbs_96 rfl (by decide) ?_
          refine wa_goto q_X1_subtractLimbs_99 ?_
          refine wa_lv (ih (i + 1) c' σ_hr1 _ (by omega) (by omega) (by omega) ha hr1 hb hrb (fun j hj => ?_) (fun j hj => ?_) ?_ (fun q hq => (f_hr1 q hq).trans (h4 q hq)) (by omega) (by omega)) rfl
          · by_cases e : j = i
            · rw [e, un_s]; omega
            · rw [un_n e]; exact h1 j (by omega)
          · rw [un_n (by omega)]; exact h2 j (by omega)
          · have e1 : vl (un d1 i (xx i + c' * 1000000000 - yy i - c)) (i + 1) = vl d1 i + (xx i + c' * 1000000000 - yy i - c) * BB ^ i := by
              show vl _ i + un _ _ _ i * _ = _
              rw [un_s, vl_congr (e := d1) (fun j hj => un_n (by omega))]
            have e2 : vl yy (i + 1) = vl yy i + yy i * BB ^ i := rfl
            have e3 : vl xx (i + 1) = vl xx i + xx i * BB ^ i := rfl
            have e4 : xx i + c' * 1000000000 - yy i - c + yy i + c = xx i + c' * 1000000000 := by omega
            rw [e1, e2, e3, Nat.pow_succ, hB]
            rw [hB] at h3
            generalize xx i + c' * 1000000000 - yy i - c = ww at *
            grind
        refine wa_if_ge q_X1_subtractLimbs_71 (fun hg => ?_) (fun hg => ?_)
        · refine wa_iconst q_X1_subtractLimbs_78 (v := nI 0) (by decide) ?_
          exact wa_lv (hk 0 (Or.inr ⟨rfl, by rw [iZ_0, iZ_le (by omega) (by omega) (by omega) (by omega)] at hg; exact hg⟩)) rfl
        · refine wa_iconst q_X1_subtractLimbs_74 (v := nI 1) (by decide) ?_
          refine wa_goto q_X1_subtractLimbs_75 ?_
          exact wa_lv (hk 1 (Or.inl ⟨rfl, by rw [iZ_0, iZ_le (by omega) (by omega) (by omega) (by omega)] at hg; omega⟩)) rfl
      refine wa_iload q_X1_subtractLimbs_30 rfl ?_
      refine wa_aload_n q_X1_subtractLimbs_32 rfl ?_
      refine wa_getf q_X1_subtractLimbs_33 f_RX1_15 (by assumption) rfl ?_
      refine wn_icmp_ge q_X1_subtractLimbs_36 (by omega) (by omega) (fun hv => ?_) (fun hv => ?_)
      · refine wa_iconst q_X1_subtractLimbs_49 (v := nI 0) (by decide) ?_
        have e : pad db sb i = 0 := if_neg (by omega)
        rw [e] at hj
        exact hj
      · refine wa_aload_n q_X1_subtractLimbs_39 rfl ?_
        refine wa_getf q_X1_subtractLimbs_40 f_RX1_11 (by assumption) rfl ?_
        refine wa_iload q_X1_subtractLimbs_43 rfl ?_
        refine wn_iald q_X1_subtractLimbs_45 (by assumption) (by omega) (by omega) ?_
        refine wa_goto q_X1_subtractLimbs_46 ?_
        have e : pad db sb i = db i := if_pos hv
        rw [e] at hj
        exact hj
/-- this less the other (w = 1), or the other less this (w = -1) -/
theorem C_subL {a b : Nat} {s w : Int32} (h : bw_R X D σ S) (ha : a ∈ D) (hb : b ∈ D) (hab : a ≠ b) (hda : ∀ i, i < (S a).2.2.1 → (S a).2.2.2.1 i < BB) (hdb : ∀ i, i < (S b).2.2.1 → (S b).2.2.2.1 i < BB) (za : (S a).2.2.1 ≤ 256) (zb : (S b).2.2.1 ≤ 256)
    (hw : (w = 1 ∧ vl (S b).2.2.2.1 (S b).2.2.1 ≤ vl (S a).2.2.2.1 (S a).2.2.1) ∨ (w = -1 ∧ vl (S a).2.2.2.1 (S a).2.2.1 ≤ vl (S b).2.2.2.1 (S b).2.2.1)) :
    Calls X M_X1_subtractLimbs [.ref a, .ref b, .int w, .int s] σ (fun res τ => res = none ∧ ∃ c : en_B, nrm c.2.2.2.1 c.2.2.1 ∧ (vl c.2.2.2.1 c.2.2.1 : Int) = (if w = 1 then (vl (S a).2.2.2.1 (S a).2.2.1 : Int) - vl (S b).2.2.2.1 (S b).2.2.1 else (vl (S b).2.2.2.1 (S b).2.2.1 : Int) - vl (S a).2.2.2.1 (S a).2.2.1) ∧ c.2.2.2.2 = (if c.2.2.1 = 0 then 0 else s) ∧ bw_R X D τ (uB S a c) ∧ bw_St D σ S τ (uB S a c)) := by
  obtain ⟨a1, a2, a3, a4, a5, a6, a7⟩ := h.1 a ha
  obtain ⟨b1, b2, b3, b4, b5, b6, b7⟩ := h.1 b hb
  have hB : BB = 1000000000 := rfl
  refine Calls.of rfl (lk rfl) ?_
  refine wa_aload_n q_X1_subtractLimbs_0 rfl ?_
  refine wa_aload_n q_X1_subtractLimbs_1 rfl ?_
  refine wa_getf q_X1_subtractLimbs_2 f_RX1_15 (by assumption) rfl ?_
  refine wa_aload_n q_X1_subtractLimbs_5 rfl ?_
  refine wa_getf q_X1_subtractLimbs_6 f_RX1_15 (by assumption) rfl ?_
  refine wn_mmax q_X1_subtractLimbs_9 a_RX1_19 (lk rfl) (lk rfl) (by omega) (by omega) ?_
  refine wa_callV q_X1_subtractLimbs_12 g_X1_subtractLimbs_12 w_X1_extend (by assumption) rfl (av := [_]) rfl rfl (lk rfl) (Calls.mono (C_extend h ha (by omega)) ?_)
  rintro _ σ1 ⟨rfl, e, k1, k2, k3, k4, k5, k6⟩
  obtain ⟨c1, c2, c3, c4, c5, c6, c7⟩ := k5.1 b hb
  have hrr := fun z => hab (k5.2 b hb a ha z).symm
  rw [uB_n (fun z => hab z.symm)] at c1 c2 c3 c4 c5 c7 hrr
  obtain ⟨e1, e2, e3, e4, e5, e6, e7⟩ := k5.1 a ha
  rw [uB_s] at e1 e2 e3 e4 e5 e7 hrr
  have hm : e.2.2.1 = max (S a).2.2.1 (S b).2.2.1 := by omega
  have hv : vl e.2.2.2.1 e.2.2.1 = vl (S a).2.2.2.1 (S a).2.2.1 := by
    rw [vl_pad (n := (S a).2.2.1) (by omega) (fun i h1 h2 => k4 i h1 (by omega))]
    exact vl_congr k3
  have hvb : vl (pad (S b).2.2.2.1 (S b).2.2.1) e.2.2.1 = vl (S b).2.2.2.1 (S b).2.2.1 := vl_padd (by omega)
  have hde : ∀ i, i < e.2.2.1 → e.2.2.2.1 i < BB := by
    intro i hi
    rcases Nat.lt_or_ge i (S a).2.2.1 with q | q
    · rw [k3 i q]; exact hda i q
    · rw [k4 i q (by omega)]; exact BB_pos
  have hdp : ∀ i, i < e.2.2.1 → pad (S b).2.2.2.1 (S b).2.2.1 i < BB := by
    intro i hi; unfold pad; split
    · exact hdb i (by assumption)
    · exact BB_pos
  refine wa_iconst q_X1_subtractLimbs_15 (v := nI 0) (by decide) ?_
  refine wa_istore q_X1_subtractLimbs_16 (by decide) ?_
  refine wa_iconst q_X1_subtractLimbs_18 (v := nI 0) (by decide) ?_
  refine wa_istore q_X1_subtractLimbs_19 (by decide) ?_
  obtain ⟨xx, yy, hxy, hx, hy, hle, hres⟩ : ∃ xx yy : Nat → Nat, (∀ i, i < e.2.2.1 → w * (nI (e.2.2.2.1 i) - nI (pad (S b).2.2.2.1 (S b).2.2.1 i)) = iZ ((xx i : Int) - yy i)) ∧ (∀ i, i < e.2.2.1 → xx i < BB) ∧ (∀ i, i < e.2.2.1 → yy i < BB) ∧ vl yy e.2.2.1 ≤ vl xx e.2.2.1 ∧ (vl xx e.2.2.1 : Int) - vl yy e.2.2.1 = (if w = 1 then (vl (S a).2.2.2.1 (S a).2.2.1 : Int) - vl (S b).2.2.2.1 (S b).2.2.1 else (vl (S b).2.2.2.1 (S b).2.2.1 : Int) - vl (S a).2.2.2.1 (S a).2.2.1) := by
    rcases hw with ⟨rfl, hw⟩ | ⟨rfl, hw⟩
    · refine ⟨e.2.2.2.1, pad (S b).2.2.2.1 (S b).2.2.1, fun i hi => ?_, hde, hdp, by omega, by rw [if_pos rfl, hv, hvb]⟩
      rw [nI_iZ, nI_iZ, iZ_sub, iZ_1, iZ_mul]; congr 1; omega
    · refine ⟨pad (S b).2.2.2.1 (S b).2.2.1, e.2.2.2.1, fun i hi => ?_, hdp, hde, by omega, by rw [if_neg (by decide), hv, hvb]⟩
      rw [nI_iZ, nI_iZ, iZ_sub, iZ_m1, iZ_mul]; congr 1; omega
  refine wa_lv (C_subL_loop (σ0 := σ1) e5 e3 (by omega) c5 c3 hxy hx hy hle (ne_oa e1 e2) (ne_oa c1 e2) hrr ?_ _ 0 0 σ1 _ rfl (Nat.zero_le _) (Nat.zero_le _) e1 e2 c1 c2 (fun j hj => absurd hj (by omega)) (fun _ _ => rfl) (by simp [vl]) (fun _ _ => rfl) rfl rfl) rfl
  intro σ2 d1 g1 g2 g3 g4 g5 g6 g7
  have st := bw_R.step (τ := σ2) (b := (e.1, e.2.1, e.2.2.1, d1, e.2.2.2.2)) k5 ha (by omega) ⟨g1, g2, e3, e4, e5, by omega, by show e.1 < _; omega⟩ (fun q q1 q2 q3 => by rw [uB_s] at q3; exact g5 q q3) (Or.inl (by rw [uB_s])) (by rw [uB_s]; exact Nat.le_refl _) (by rw [uB_s]; show _ ≤ 8 * _ + e.2.1; omega) (by rw [uB_s]; show _ ≤ _ + 2 * e.2.1; omega)
  rw [uB_u] at st
  refine wa_aload_n q_X1_subtractLimbs_102 rfl ?_
  refine wa_iload_n q_X1_subtractLimbs_103 rfl ?_
  refine wa_callV q_X1_subtractLimbs_104 g_X1_subtractLimbs_104 w_X1_trim (by assumption) rfl (av := [_]) rfl rfl (lk rfl) (Calls.mono (C_trim st.1 ha (by rw [uB_s]; intro i hi; have := g3 i hi; show d1 i < _; omega)) ?_)
  rintro _ σ3 ⟨rfl, b, hbe, w1, w2⟩
  rw [uB_s] at hbe
  rw [uB_u] at w1 w2
  refine wa_vret q_X1_subtractLimbs_107 rfl ?_
  refine ⟨rfl, b, ?_, ?_, ?_, w1, k6.tr (st.2.tr w2)⟩
  · subst hbe
    exact ⟨fun i hi => g3 i (by have := tp_le d1 e.2.2.1; have hi : i < tp d1 e.2.2.1 := hi; omega), tp_top d1 e.2.2.1⟩
  · subst hbe
    show (vl d1 (tp d1 e.2.2.1) : Int) = _
    rw [vl_tp, ← hres]; omega
  · subst hbe; rfl
end big3
