/-! The reference: isBound, whole; isEnclosed -/
theorem raw_no {kd fs sn : Nat → Nat} {A B : Nat → Int} {p u : Nat} {E : Nat → Option (Int × Int)} (hk : 5 ≤ kd u) (h : E (fs u) = none ∨ E (sn u) = none) : raw kd fs sn A B p E u = none := by
  unfold raw
  rw [if_neg (by omega), if_neg (by omega), if_neg (by omega)]
  rcases h with h | h
  · rw [h]
  · rw [h]
    cases E (fs u) <;> rfl
theorem dof_800 {x : Int} {c : Nat} (h : (x = 0 ∧ c = 1) ∨ (x ≠ 0 ∧ isD x.natAbs c)) : (800 < c → ¬ x.natAbs < 10 ^ 800) ∧ (c ≤ 800 → x.natAbs < 10 ^ 800) := by
  rcases h with ⟨h, hc⟩ | ⟨-, h1, h2⟩
  · subst hc
    refine ⟨fun q => absurd q (by decide), fun _ => ?_⟩
    rw [h]
    exact Nat.pow_pos (by decide)
  · refine ⟨fun q => ?_, fun q => Nat.lt_of_lt_of_le h1 (Nat.pow_le_pow_right (by decide) q)⟩
    rcases h2 with h2 | h2
    · omega
    · have := Nat.pow_le_pow_right (n := 10) (by decide) (show 800 ≤ c - 1 by omega)
      exact Nat.not_lt.mpr (Nat.le_trans this h2)
theorem lim_no {q : Int × Int} (h : ¬ (q.1.natAbs < 10 ^ 800 ∧ q.2.natAbs < 10 ^ 800)) : lim (some q) = none := by
  unfold lim
  simp only []
  rw [if_neg h]
theorem lim_yes {q : Int × Int} (h1 : q.1.natAbs < 10 ^ 800) (h2 : q.2.natAbs < 10 ^ 800) : lim (some q) = some q := by
  unfold lim
  simp only []
  rw [if_pos ⟨h1, h2⟩]
section ref28
variable {X : en_X} {M : Nat → Nat} {O : Int32 × Int32 × Int32 × Int32 × Int32} {K : Nat → Int32} {N1 N2 Pa Fo : Nat → Int64} {Op Nd : Nat → Bool} {u p : Nat} {kd fs sn : Nat → Nat} {A B : Nat → Int}
theorem R_bound {σ : en_S} {C Z : Nat → Nat} {G : Nat → Int32} {V : Nat → Int} (hFF : FFok) (h : rV X σ M O C Z G V) (hA : mA X σ M K N1 N2 Op Nd Pa Fo) (hu : u < 60) (hp1 : 1 ≤ p) (hp : p ≤ 480) (v12 : V 12 = 10 ^ p) (hv : vOk kd fs sn A B u) (hm : mK K N1 N2 kd fs sn A B u) (E : Nat → Option (Int × Int)) (hE : 5 ≤ kd u → rOk V Op E (fs u) ∧ rOk V Op E (sn u)) (hZ : 5 ≤ kd u → ∀ q, E (fs u) = some q ∨ E (sn u) = some q → q.1.natAbs < 10 ^ 800 ∧ q.2.natAbs < 10 ^ 800 ∧ q.1 ≤ q.2) :
    Calls X M_X7_isBound [.ref (M 0), .int (nI u), .int (nI p)] σ (bnQ X M O σ V u (raw kd fs sn A B p E u)) := by
  obtain ⟨m1, m2, m3, m4, m5, m6⟩ := id hm
  obtain ⟨v9, -, -, -, v5, v55⟩ := id hv
  obtain ⟨a0, a1, a2, a3, -⟩ := id h.1
  obtain ⟨k4, k5, k6, k7, k8, k11, k14, hD⟩ := id hA
  have zz : ∀ x : Int, x.natAbs < 10 ^ 800 → x.natAbs < BB ^ 90 := fun x hx => Nat.lt_of_lt_of_le hx p800
  have sw : ∀ (w4 w5 : Int32), (5 ≤ kd u → w4 = nI (fs u) ∧ E (fs u) = some (V (20 + 2 * fs u), V (20 + 2 * fs u + 1))) → (6 ≤ kd u → w5 = nI (sn u) ∧ E (sn u) = some (V (20 + 2 * sn u), V (20 + 2 * sn u + 1))) → WA X M_X7_isBound σ 66 [(5, .int w5), (4, .int w4), (3, .int (nI (20 + 2 * u))), (0, .ref (M 0)), (1, .int (nI u)), (2, .int (nI p))] [] σ (bnQ X M O σ V u (raw kd fs sn A B p E u)) := by
    intro w4 w5 h4 h5
    refine wa_aload_n q_X7_isBound_66 rfl ?_
    refine wa_getf q_X7_isBound_67 f_RX7_20 (by assumption) rfl ?_
    refine wa_iload_n q_X7_isBound_70 rfl ?_
    refine wn_gald q_X7_isBound_71 (by assumption) (by omega) ?_
    rw [m1]
    have hk : kd u = 0 ∨ kd u = 1 ∨ kd u = 2 ∨ kd u = 3 ∨ kd u = 4 ∨ kd u = 5 ∨ kd u = 6 ∨ kd u = 7 ∨ kd u = 8 ∨ kd u = 9 := by omega
    have g6 : 6 ≤ kd u → WA X M_X7_isBound σ 226 [(5, .int w5), (4, .int w4), (3, .int (nI (20 + 2 * u))), (0, .ref (M 0)), (1, .int (nI u)), (2, .int (nI p))] [] σ (bnQ X M O σ V u (raw kd fs sn A B p E u)) := by
      intro h6
      obtain ⟨e4, x1⟩ := h4 (by omega)
      obtain ⟨e5, x2⟩ := h5 h6
      obtain ⟨y1, y2, -⟩ := hZ (by omega) _ (Or.inl x1)
      obtain ⟨y3, y4, y5⟩ := hZ (by omega) _ (Or.inr x2)
      subst e4 e5
      exact B_6 h hA hu hp v12 h6 hv m1 E x1 x2 (zz _ y1) (zz _ y2) (zz _ y3) (zz _ y4) y5
    rcases hk with e | e | e | e | e | e | e | e | e | e
    · have t := B_0 (ρ := σ) (w4 := w4) (w5 := w5) h hA hu hp v12 e hv hm E
      rw [e]
      exact wa_tabIn (tgt := 112) (off := 40) q_X7_isBound_72 (by decide) (by decide) (by decide) (by decide) t
    · have t := B_1 (ρ := σ) (w4 := w4) (w5 := w5) h hA hu hp v12 e hv hm E
      rw [e]
      exact wa_tabIn (tgt := 141) (off := 69) q_X7_isBound_72 (by decide) (by decide) (by decide) (by decide) t
    · have t := B_2 (ρ := σ) (w4 := w4) (w5 := w5) hFF h hA hu hp1 hp (by omega) (by omega) hv hm E
      rw [e]
      exact wa_tabIn (tgt := 191) (off := 119) q_X7_isBound_72 (by decide) (by decide) (by decide) (by decide) t
    · have t := B_2 (ρ := σ) (w4 := w4) (w5 := w5) hFF h hA hu hp1 hp (by omega) (by omega) hv hm E
      rw [e]
      exact wa_tabIn (tgt := 191) (off := 119) q_X7_isBound_72 (by decide) (by decide) (by decide) (by decide) t
    · have t := B_2 (ρ := σ) (w4 := w4) (w5 := w5) hFF h hA hu hp1 hp (by omega) (by omega) hv hm E
      rw [e]
      exact wa_tabIn (tgt := 191) (off := 119) q_X7_isBound_72 (by decide) (by decide) (by decide) (by decide) t
    · obtain ⟨e4, x1⟩ := h4 (by omega)
      obtain ⟨y1, y2, -⟩ := hZ (by omega) _ (Or.inl x1)
      subst e4
      have t := B_5 (ρ := σ) (w5 := w5) h hu hp v12 e hv E x1 (zz _ y1) (zz _ y2)
      rw [e]
      exact wa_tabIn (tgt := 215) (off := 143) q_X7_isBound_72 (by decide) (by decide) (by decide) (by decide) t
    all_goals
      have t := g6 (by omega)
      rw [e]
      exact wa_tabOut (tgt := 226) q_X7_isBound_72 (by decide) (by decide) t
  have no : ∀ (w4 w5 : Int32), 5 ≤ kd u → (E (fs u) = none ∨ E (sn u) = none) → WA X M_X7_isBound σ 64 [(5, .int w5), (4, .int w4), (3, .int (nI (20 + 2 * u))), (0, .ref (M 0)), (1, .int (nI u)), (2, .int (nI p))] [] σ (bnQ X M O σ V u (raw kd fs sn A B p E u)) := by
    intro w4 w5 h5 hn
    refine wa_iconst q_X7_isBound_64 (v := nI 0) (by decide) ?_
    refine wa_zret q_X7_isBound_65 rfl rfl ?_
    rw [raw_no h5 hn]
    exact ⟨C, Z, G, V, h, fun s _ _ _ => rfl, mSt.rf, rfl⟩
  refine Calls.of rfl (lk rfl) ?_
  refine wa_iload_n q_X7_isBound_0 rfl ?_
  refine wa_callS q_X7_isBound_1 g_X7_isBound_1 w_X7_low (av := [_]) rfl rfl (lk rfl) (Calls.mono R_low ?_)
  rintro _ _ ⟨rfl, rfl⟩
  refine wa_istore_n q_X7_isBound_4 (by decide) ?_
  refine wa_aload_n q_X7_isBound_5 rfl ?_
  refine wa_getf q_X7_isBound_6 f_RX7_23 (by assumption) rfl ?_
  refine wa_iload_n q_X7_isBound_9 rfl ?_
  refine wn_glald q_X7_isBound_10 k5 (by omega) ?_
  by_cases h5 : 5 ≤ kd u
  · obtain ⟨o1, o2⟩ := hE h5
    obtain ⟨c1, c2⟩ := v5 h5
    rw [m4 h5]
    refine wn_l2i q_X7_isBound_11 ?_
    refine wa_istore q_X7_isBound_12 (by decide) ?_
    refine wa_aload_n q_X7_isBound_14 rfl ?_
    refine wa_getf q_X7_isBound_15 f_RX7_27 (by assumption) rfl ?_
    refine wa_iload_n q_X7_isBound_18 rfl ?_
    refine wn_glald q_X7_isBound_19 k6 (by omega) ?_
    refine wa_l2i q_X7_isBound_20 (v := (N2 u).toInt32) rfl ?_
    refine wa_istore q_X7_isBound_21 (by decide) ?_
    refine wa_aload_n q_X7_isBound_23 rfl ?_
    refine wa_getf q_X7_isBound_24 f_RX7_20 (by assumption) rfl ?_
    refine wa_iload_n q_X7_isBound_27 rfl ?_
    refine wn_gald q_X7_isBound_28 (by assumption) (by omega) ?_
    rw [m1]
    refine wa_iconst q_X7_isBound_29 (v := nI 5) (by decide) ?_
    refine wn_icmp_lt q_X7_isBound_30 (by omega) (by decide) (fun z => absurd z (by omega)) (fun _ => ?_)
    refine wa_aload_n q_X7_isBound_33 rfl ?_
    refine wa_getf q_X7_isBound_34 f_RX7_30 (by assumption) rfl ?_
    refine wa_iload q_X7_isBound_37 rfl ?_
    refine wn_zald q_X7_isBound_39 k7 (by omega) ?_
    cases hb : Op (fs u)
    · refine wn_if_ne q_X7_isBound_40 (by decide) (fun z => absurd z (by decide)) (fun _ => ?_)
      refine wa_aload_n q_X7_isBound_43 rfl ?_
      refine wa_getf q_X7_isBound_44 f_RX7_20 (by assumption) rfl ?_
      refine wa_iload_n q_X7_isBound_47 rfl ?_
      refine wn_gald q_X7_isBound_48 (by assumption) (by omega) ?_
      rw [m1]
      refine wa_bipush q_X7_isBound_49 (v := nI 6) (by decide) ?_
      refine wn_icmp_lt q_X7_isBound_51 (by omega) (by decide) (fun hx => ?_) (fun hx => ?_)
      · exact wa_lv (sw _ _ (fun _ => ⟨rfl, o1.s hb⟩) (fun q => by omega)) rfl
      · have e5 : (N2 u).toInt32 = nI (sn u) := by rw [m5 hx]; exact lN_i _
        rw [e5]
        refine wa_aload_n q_X7_isBound_54 rfl ?_
        refine wa_getf q_X7_isBound_55 f_RX7_30 (by assumption) rfl ?_
        refine wa_iload q_X7_isBound_58 rfl ?_
        refine wn_zald q_X7_isBound_60 k7 (by omega) ?_
        cases hb2 : Op (sn u)
        · refine wn_if_eq q_X7_isBound_61 (by decide) (fun _ => ?_) (fun z => absurd z (by decide))
          exact wa_lv (sw _ _ (fun _ => ⟨rfl, o1.s hb⟩) (fun _ => ⟨rfl, o2.s hb2⟩)) rfl
        · refine wn_if_eq q_X7_isBound_61 (by decide) (fun z => absurd z (by decide)) (fun _ => ?_)
          exact wa_lv (no _ _ h5 (Or.inr (o2.n hb2))) rfl
    · refine wn_if_ne q_X7_isBound_40 (by decide) (fun _ => ?_) (fun z => absurd z (by decide))
      exact wa_lv (no _ _ h5 (Or.inl (o1.n hb))) rfl
  · refine wa_l2i q_X7_isBound_11 (v := (N1 u).toInt32) rfl ?_
    refine wa_istore q_X7_isBound_12 (by decide) ?_
    refine wa_aload_n q_X7_isBound_14 rfl ?_
    refine wa_getf q_X7_isBound_15 f_RX7_27 (by assumption) rfl ?_
    refine wa_iload_n q_X7_isBound_18 rfl ?_
    refine wn_glald q_X7_isBound_19 k6 (by omega) ?_
    refine wa_l2i q_X7_isBound_20 (v := (N2 u).toInt32) rfl ?_
    refine wa_istore q_X7_isBound_21 (by decide) ?_
    refine wa_aload_n q_X7_isBound_23 rfl ?_
    refine wa_getf q_X7_isBound_24 f_RX7_20 (by assumption) rfl ?_
    refine wa_iload_n q_X7_isBound_27 rfl ?_
    refine wn_gald q_X7_isBound_28 (by assumption) (by omega) ?_
    rw [m1]
    refine wa_iconst q_X7_isBound_29 (v := nI 5) (by decide) ?_
    refine wn_icmp_lt q_X7_isBound_30 (by omega) (by decide) (fun _ => ?_) (fun z => absurd z (by omega))
    refine wa_aload_n q_X7_isBound_43 rfl ?_
    refine wa_getf q_X7_isBound_44 f_RX7_20 (by assumption) rfl ?_
    refine wa_iload_n q_X7_isBound_47 rfl ?_
    refine wn_gald q_X7_isBound_48 (by assumption) (by omega) ?_
    rw [m1]
    refine wa_bipush q_X7_isBound_49 (v := nI 6) (by decide) ?_
    refine wn_icmp_lt q_X7_isBound_51 (by omega) (by decide) (fun _ => ?_) (fun z => absurd z (by omega))
    exact wa_lv (sw _ _ (fun q => absurd q h5) (fun q => by omega)) rfl
end ref28
section ref29
variable {X : en_X} {M : Nat → Nat} {O : Int32 × Int32 × Int32 × Int32 × Int32} {K : Nat → Int32} {N1 N2 Pa Fo : Nat → Int64} {Nd : Nat → Bool} {v p cnt : Nat} {kd fs sn : Nat → Nat} {A B : Nat → Int}
/-- what isEnclosed is to leave -/
def enQ (X : en_X) (M : Nat → Nat) (O : Int32 × Int32 × Int32 × Int32 × Int32) (K : Nat → Int32) (N1 N2 Pa Fo : Nat → Int64) (σ : en_S) (V : Nat → Int) (v : Nat) (r : Option (Int × Int)) (res : Option Value) (τ : en_S) : Prop :=
  ∃ C' Z' G' V' Op' Nd', rV X τ M O C' Z' G' V' ∧ mA X τ M K N1 N2 Op' Nd' Pa Fo ∧ (∀ s, 13 ≤ s → s < 20 → V' s = V s) ∧ mFr M σ τ ∧ match r with
    | none => res = some (.int (nI 0))
    | some q => res = some (.int (nI 1)) ∧ V' (20 + 2 * v) = q.1 ∧ V' (20 + 2 * v + 1) = q.2
theorem enc_b {i : Nat} {q : Int × Int} (hFL : FLok) (hp1 : 1 ≤ p) (hp : p ≤ 480) (hok : ∀ j, j ≤ i → vOk kd fs sn A B j) (h : enc kd fs sn A B p i = some q) : q.1.natAbs < 10 ^ 800 ∧ q.2.natAbs < 10 ^ 800 ∧ q.1 ≤ q.2 := by
  have h1 := enc_le hFL hp1 hp i hok q h
  rw [enc_eq (hok i (Nat.le_refl _))] at h
  have h2 := (lim_b h).2
  exact ⟨h2.1, h2.2, h1⟩
theorem en_loop {ρ σ0 : en_S} {V0 : Nat → Int} (hFF : FFok) (hFL : FLok) (hcnt : cnt ≤ 60) (hv : v < cnt) (hok : ∀ i, i < cnt → vOk kd fs sn A B i ∧ mK K N1 N2 kd fs sn A B i) (hp1 : 1 ≤ p) (hp : p ≤ 480) (hN : ndI Nd kd fs sn v 0) :
    ∀ (n u : Nat) (σ : en_S) (C Z : Nat → Nat) (G : Nat → Int32) (V : Nat → Int) (Op : Nat → Bool), n + u = v + 1 → rV X σ M O C Z G V → mA X σ M K N1 N2 Op Nd Pa Fo → V 12 = 10 ^ p → (∀ s, 13 ≤ s → s < 20 → V s = V0 s) → (∀ j, j < u → Nd j = true → rOk V Op (enc kd fs sn A B p) j) → mFr M σ0 σ →
      WA X M_X7_isEnclosed ρ 14 [(3, .int (nI u)), (0, .ref (M 0)), (1, .int (nI v)), (2, .int (nI p))] [] σ (enQ X M O K N1 N2 Pa Fo σ0 V0 v (enc kd fs sn A B p v)) := by
  intro n
  induction n with
  | zero =>
    intro u σ C Z G V Op hn h hA v12 vo hO hF
    obtain ⟨a0, a1, a2, a3, -⟩ := id h.1
    obtain ⟨k4, k5, k6, k7, k8, k11, k14, hD⟩ := id hA
    refine wa_iload_n q_X7_isEnclosed_14 rfl ?_
    refine wa_iload_n q_X7_isEnclosed_15 rfl ?_
    refine wn_icmp_gt q_X7_isEnclosed_16 (by omega) (by omega) (fun _ => ?_) (fun z => absurd z (by omega))
    have hr := hO v (by omega) hN.1
    refine wa_aload_n q_X7_isEnclosed_86 rfl ?_
    refine wa_getf q_X7_isEnclosed_87 f_RX7_30 (by assumption) rfl ?_
    refine wa_iload_n q_X7_isEnclosed_90 rfl ?_
    refine wn_zald q_X7_isEnclosed_91 k7 (by omega) ?_
    cases hb : Op v
    · refine wn_if_ne q_X7_isEnclosed_92 (by decide) (fun z => absurd z (by decide)) (fun _ => ?_)
      refine wa_iconst q_X7_isEnclosed_95 (v := nI 1) (by decide) ?_
      refine wa_goto q_X7_isEnclosed_96 ?_
      refine wa_zret q_X7_isEnclosed_100 rfl rfl ?_
      rw [hr.s hb]
      exact ⟨C, Z, G, V, Op, Nd, h, hA, vo, hF, rfl, rfl, rfl⟩
    · refine wn_if_ne q_X7_isEnclosed_92 (by decide) (fun _ => ?_) (fun z => absurd z (by decide))
      refine wa_iconst q_X7_isEnclosed_99 (v := nI 0) (by decide) ?_
      refine wa_zret q_X7_isEnclosed_100 rfl rfl ?_
      rw [hr.n hb]
      exact ⟨C, Z, G, V, Op, Nd, h, hA, vo, hF, rfl⟩
  | succ n ih =>
    intro u σ C Z G V Op hn h hA v12 vo hO hF
    obtain ⟨a0, a1, a2, a3, -⟩ := id h.1
    obtain ⟨k4, k5, k6, k7, k8, k11, k14, hD⟩ := id hA
    refine wa_iload_n q_X7_isEnclosed_14 rfl ?_
    refine wa_iload_n q_X7_isEnclosed_15 rfl ?_
    refine wn_icmp_gt q_X7_isEnclosed_16 (by omega) (by omega) (fun z => absurd z (by omega)) (fun _ => ?_)
    refine wa_aload_n q_X7_isEnclosed_19 rfl ?_
    refine wa_getf q_X7_isEnclosed_20 f_RX7_34 (by assumption) rfl ?_
    refine wa_iload_n q_X7_isEnclosed_23 rfl ?_
    refine wn_zald q_X7_isEnclosed_24 k8 (by omega) ?_
    cases hb : Nd u
    · refine wn_if_eq q_X7_isEnclosed_25 (by decide) (fun _ => ?_) (fun z => absurd z (by decide))
      refine wn_iinc q_X7_isEnclosed_80 rfl (by decide) ?_
      refine wa_goto q_X7_isEnclosed_83 ?_
      refine wa_lv (ih (u + 1) σ C Z G V Op (by omega) h hA v12 vo (fun j hj hN2 => ?_) hF) rfl
      have : j ≠ u := fun e => by rw [e, hb] at hN2; cases hN2
      exact hO j (by omega) hN2
    refine wn_if_eq q_X7_isEnclosed_25 (by decide) (fun z => absurd z (by decide)) (fun _ => ?_)
    obtain ⟨vu, mu⟩ := hok u (by omega)
    have hvj : ∀ i, i < cnt → ∀ j, j ≤ i → vOk kd fs sn A B j := fun i hi j hj => (hok j (by omega)).1
    have hfs : 5 ≤ kd u → fs u < u ∧ sn u < u := vu.2.2.2.2.1
    refine wa_iload_n q_X7_isEnclosed_28 rfl ?_
    refine wa_callS q_X7_isEnclosed_29 g_X7_isEnclosed_29 w_X7_low (av := [_]) rfl rfl (lk rfl) (Calls.mono R_low ?_)
    rintro _ _ ⟨rfl, rfl⟩
    refine wa_istore q_X7_isEnclosed_32 (by decide) ?_
    refine wa_aload_n q_X7_isEnclosed_34 rfl ?_
    refine wa_getf q_X7_isEnclosed_35 f_RX7_30 (by assumption) rfl ?_
    refine wa_iload_n q_X7_isEnclosed_38 rfl ?_
    refine wa_aload_n q_X7_isEnclosed_39 rfl ?_
    refine wa_iload_n q_X7_isEnclosed_40 rfl ?_
    refine wa_iload_n q_X7_isEnclosed_41 rfl ?_
    refine wa_callV q_X7_isEnclosed_42 g_X7_isEnclosed_42 w_X7_isBound (by assumption) rfl (av := [_, _]) rfl rfl (lk rfl) (Calls.mono (R_bound hFF h hA (by omega) hp1 hp v12 vu mu (enc kd fs sn A B p) (fun h5 => ⟨hO _ (hfs h5).1 (hN.2 u (by omega) (by omega) hb h5).1, hO _ (hfs h5).2 (hN.2 u (by omega) (by omega) hb h5).2⟩) (fun h5 q hq => hq.elim (fun e => enc_b hFL hp1 hp (hvj _ (by have := hfs h5; omega)) e) (fun e => enc_b hFL hp1 hp (hvj _ (by have := hfs h5; omega)) e))) ?_)
    intro res τ hq
    obtain ⟨C1, Z1, G1, V1, h1, o1, s1, hq⟩ := hq
    have hA1 := hA.st s1
    obtain ⟨b0, b1, b2, b3, -⟩ := id h1.1
    obtain ⟨r4, r5, r6, r7, r8, r11, r14, -⟩ := id hA1
    have ee := enc_eq (p := p) vu
    have fin : ∀ (b : Bool), (b = true → enc kd fs sn A B p u = none) → (b = false → enc kd fs sn A B p u = some (V1 (20 + 2 * u), V1 (20 + 2 * u + 1))) → WA X M_X7_isEnclosed ρ 79 [(4, .int (nI (20 + 2 * u))), (3, .int (nI u)), (0, .ref (M 0)), (1, .int (nI v)), (2, .int (nI p))] [.int (nI (if b then 1 else 0)), .int (nI u), .ref (M 7)] τ (enQ X M O K N1 N2 Pa Fo σ0 V0 v (enc kd fs sn A B p v)) := by
      intro b hbt hbf
      refine wn_zast q_X7_isEnclosed_79 r7 (by omega) (fun σ2 g2 f2 e1 e2 => ?_)
      refine wn_iinc q_X7_isEnclosed_80 rfl (by decide) ?_
      refine wa_goto q_X7_isEnclosed_83 ?_
      refine wa_lv (ih (u + 1) σ2 C1 Z1 G1 V1 (upB Op u b) (by omega) (h1.o8 hD (by decide) (by decide) r7 f2) (hA1.s7 g2 f2) (by rw [o1 12 (by decide) (by omega) (by omega)]; exact v12) (fun s x1 x2 => by rw [o1 s (by omega) (by omega) (by omega)]; exact vo s x1 x2) (fun j hj hN2 => ?_) (hF.tr (s1.fr.tr (mFr.put (by decide) f2 e1 e2)))) rfl
      by_cases e : j = u
      · subst e
        unfold rOk
        cases b
        · rw [hbf rfl]; exact ⟨upB_s, rfl, rfl⟩
        · rw [hbt rfl]; exact upB_s
      · have hj2 := hO j (by omega) hN2
        unfold rOk at hj2 ⊢
        rw [upB_n e, o1 (20 + 2 * j) (by omega) (by omega) (by omega), o1 (20 + 2 * j + 1) (by omega) (by omega) (by omega)]
        exact hj2
    cases hr : raw kd fs sn A B p (enc kd fs sn A B p) u with
    | none =>
      rw [hr] at hq ee
      have hq : res = some (.int (nI 0)) := hq
      subst hq
      refine wn_if_eq q_X7_isEnclosed_45 (by decide) (fun _ => ?_) (fun z => absurd z (by decide))
      refine wa_iconst q_X7_isEnclosed_74 (v := nI 1) (by decide) ?_
      refine wa_goto q_X7_isEnclosed_75 ?_
      exact wa_lv (fin true (fun _ => ee) (fun q => by cases q)) rfl
    | some q =>
      rw [hr] at hq ee
      obtain ⟨q0, q1, q2⟩ := hq
      subst q0
      refine wn_if_eq q_X7_isEnclosed_45 (by decide) (fun z => absurd z (by decide)) (fun _ => ?_)
      refine wa_aload_n q_X7_isEnclosed_48 rfl ?_
      refine wa_iload q_X7_isEnclosed_49 rfl ?_
      refine wa_callV q_X7_isEnclosed_51 g_X7_isEnclosed_51 w_X7_digitsOf (by assumption) rfl (av := [_]) rfl rfl (lk rfl) (Calls.mono (R_dof h1 (r := 20 + 2 * u) (by omega)) ?_)
      rintro _ _ ⟨⟨c, rfl, hc1, hc2⟩, rfl⟩
      rw [q1] at hc2
      obtain ⟨d1, d2⟩ := dof_800 hc2
      refine wa_sipush q_X7_isEnclosed_54 (v := nI 800) (by decide) ?_
      refine wn_icmp_gt q_X7_isEnclosed_57 (by omega) (by decide) (fun z => ?_) (fun z => ?_)
      · refine wa_iconst q_X7_isEnclosed_74 (v := nI 1) (by decide) ?_
        refine wa_goto q_X7_isEnclosed_75 ?_
        exact wa_lv (fin true (fun _ => ee.trans (lim_no (fun w => d1 z w.1))) (fun q => by cases q)) rfl
      refine wa_aload_n q_X7_isEnclosed_60 rfl ?_
      refine wa_iload q_X7_isEnclosed_61 rfl ?_
      refine wa_iconst q_X7_isEnclosed_63 (v := nI 1) (by decide) ?_
      refine wn_iadd q_X7_isEnclosed_64 ?_
      refine wa_callV q_X7_isEnclosed_65 g_X7_isEnclosed_65 w_X7_digitsOf (by assumption) rfl (av := [_]) rfl rfl (lk rfl) (Calls.mono (R_dof h1 (r := 20 + 2 * u + 1) (by omega)) ?_)
      rintro _ _ ⟨⟨c', rfl, hc3, hc4⟩, rfl⟩
      rw [q2] at hc4
      obtain ⟨d3, d4⟩ := dof_800 hc4
      refine wa_sipush q_X7_isEnclosed_68 (v := nI 800) (by decide) ?_
      refine wn_icmp_le q_X7_isEnclosed_71 (by omega) (by decide) (fun y => ?_) (fun y => ?_)
      · refine wa_iconst q_X7_isEnclosed_78 (v := nI 0) (by decide) ?_
        exact wa_lv (fin false (fun q => by cases q) (fun _ => (ee.trans (lim_yes (d2 z) (d4 y))).trans (by rw [q1, q2]))) rfl
      · refine wa_iconst q_X7_isEnclosed_74 (v := nI 1) (by decide) ?_
        refine wa_goto q_X7_isEnclosed_75 ?_
        exact wa_lv (fin true (fun _ => ee.trans (lim_no (fun w => d3 y w.2))) (fun q => by cases q)) rfl
theorem R_encl {σ : en_S} {C Z : Nat → Nat} {G : Nat → Int32} {V : Nat → Int} {Op : Nat → Bool} (hFF : FFok) (hFL : FLok) (h : rV X σ M O C Z G V) (hA : mA X σ M K N1 N2 Op Nd Pa Fo) (hc : O.2.1 = nI cnt) (hcnt : cnt ≤ 60) (hv : v < cnt) (hok : ∀ i, i < cnt → vOk kd fs sn A B i ∧ mK K N1 N2 kd fs sn A B i) (hp1 : 1 ≤ p) (hp : p ≤ 480) :
    Calls X M_X7_isEnclosed [.ref (M 0), .int (nI v), .int (nI p)] σ (enQ X M O K N1 N2 Pa Fo σ V v (enc kd fs sn A B p v)) := by
  obtain ⟨a0, a1, a2, a3, -⟩ := id h.1
  refine Calls.of rfl (lk rfl) ?_
  refine wa_aload_n q_X7_isEnclosed_0 rfl ?_
  refine wa_iload_n q_X7_isEnclosed_1 rfl ?_
  refine wa_callV q_X7_isEnclosed_2 g_X7_isEnclosed_2 w_X7_need (by assumption) rfl (av := [_]) rfl rfl (lk rfl) (Calls.mono (R_need h hA hc hcnt hv hok) ?_)
  rintro _ σ1 ⟨rfl, Nd1, h1, hA1, hN1, hF1⟩
  obtain ⟨b0, b1, b2, b3, -⟩ := id h1.1
  refine wa_aload_n q_X7_isEnclosed_5 rfl ?_
  refine wa_bipush q_X7_isEnclosed_6 (v := nI 12) (by decide) ?_
  refine wa_iload_n q_X7_isEnclosed_8 rfl ?_
  refine wa_callV q_X7_isEnclosed_9 g_X7_isEnclosed_9 w_X7_powerOfTen (by assumption) rfl (av := [_, _]) rfl rfl (lk rfl) (Calls.mono (R_pten h1 (r := 12) (p := p) (by decide) (by omega)) ?_)
  rintro _ σ2 ⟨rfl, C2, Z2, G2, h2, s2⟩
  refine wa_iconst q_X7_isEnclosed_12 (v := nI 0) (by decide) ?_
  refine wa_istore_n q_X7_isEnclosed_13 (by decide) ?_
  exact wa_lv (en_loop (σ0 := σ) (V0 := V) hFF hFL hcnt hv hok hp1 hp hN1 (v + 1) 0 σ2 C2 Z2 G2 _ Op (by omega) h2 (hA1.st s2) uV_s (fun s x1 x2 => uV_n (by omega)) (fun j hj => by omega) (hF1.tr s2.fr)) rfl
end ref29
