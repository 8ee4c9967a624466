/-! The reference: sumOfPower's loop -/
def pwGo (a b : Nat) : Nat → Nat → Nat → Nat → Nat × Nat
  | 0, k, _, s => (s, k)
  | n + 1, k, t, s => if t = 0 then (s, k) else pwGo a b n (k + 1) (t * a / (b * k)) (s + t * a / (b * k))
theorem pwGo_0 {a b n k t s : Nat} (h : t = 0) : pwGo a b n k t s = (s, k) := by
  cases n
  · rfl
  · exact if_pos h
theorem pwGo_s {a b n k t s : Nat} (h : ¬ t = 0) : pwGo a b (n + 1) k t s = pwGo a b n (k + 1) (t * a / (b * k)) (s + t * a / (b * k)) := if_neg h
theorem pw_5 {a b k t : Nat} (hb : 1 ≤ b) (ha : a ≤ 5 * b) : t * a / (b * k) ≤ 5 * t / k := by
  have h : t * a ≤ b * (5 * t) := by
    have := Nat.mul_le_mul_left t ha
    rw [show b * (5 * t) = t * (5 * b) by rw [Nat.mul_left_comm, Nat.mul_left_comm t 5 b, Nat.mul_comm b t]]
    exact this
  have := Nat.div_le_div_right (c := b * k) h
  rw [Nat.mul_div_mul_left _ _ hb] at this
  exact this
theorem pw_st {a b k t n T : Nat} (hb : 1 ≤ b) (ha : a ≤ 5 * b) (hk : 1 ≤ k) (hn : n + 1 + k = 7000) (hT : 9765625 * T < 2 ^ 6990) (h1 : k ≤ 10 → t ≤ 5 ^ k * T) (h2 : 10 ≤ k → t < 2 ^ (n + 1)) (h3 : t ≤ 9765625 * T) :
    (k + 1 ≤ 10 → t * a / (b * k) ≤ 5 ^ (k + 1) * T) ∧ (10 ≤ k + 1 → t * a / (b * k) < 2 ^ n) ∧ t * a / (b * k) ≤ 9765625 * T := by
  have h5 := pw_5 (t := t) (k := k) hb ha
  generalize t * a / (b * k) = w at h5 ⊢
  have f1 : k + 1 ≤ 10 → w ≤ 5 ^ (k + 1) * T := by
    intro h
    have x1 : 5 * t / k ≤ 5 * t := Nat.div_le_self _ _
    have x2 := h1 (by omega)
    rw [show (5 : Nat) ^ (k + 1) * T = 5 * (5 ^ k * T) by rw [Nat.pow_succ', Nat.mul_assoc]]
    generalize 5 ^ k * T = y at x2 ⊢
    omega
  have f2 : 10 ≤ k → w ≤ t / 2 := by
    intro h
    have x1 : 5 * t / k ≤ 5 * t / 10 := Nat.div_le_div_left h (by decide)
    omega
  have f3 : w ≤ 9765625 * T := by
    rcases Nat.lt_or_ge k 10 with q | q
    · have x1 := f1 (by omega)
      have x2 : (5 : Nat) ^ (k + 1) ≤ 5 ^ 10 := Nat.pow_le_pow_right (by decide) (by omega)
      have x3 := Nat.mul_le_mul_right T x2
      rw [show (5 : Nat) ^ 10 = 9765625 by decide] at x3
      omega
    · have := f2 q
      omega
  refine ⟨f1, fun h => ?_, f3⟩
  rcases Nat.lt_or_ge k 10 with q | q
  · have e : n = 6990 := by omega
    rw [e]
    exact Nat.lt_of_le_of_lt f3 hT
  · have x1 := h2 q
    have x2 := f2 q
    have x3 : (2 : Nat) ^ (n + 1) = 2 ^ n * 2 := Nat.pow_succ ..
    rw [x3] at x1
    generalize 2 ^ n = y at x1 ⊢
    omega
section ref20
variable {X : en_X} {σ : en_S} {M : Nat → Nat} {O : Int32 × Int32 × Int32 × Int32 × Int32} {C Z : Nat → Nat} {G : Nat → Int32} {V : Nat → Int}
theorem rpow_loop {ρ σ0 : en_S} {a b u T : Nat} {V0 : Nat → Int} {Q : Option Value → en_S → Prop} (ha0 : 1 ≤ a) (hb : 1 ≤ b) (hb2 : b ≤ 1000) (ha : a ≤ 5 * b) (hT : T < BB ^ 200) (hT2 : 9765625 * T < 2 ^ 6990) :
    ∀ (n k t s : Nat) (σ : en_S) (C Z : Nat → Nat) (G : Nat → Int32) (V : Nat → Int), n + k = 7000 → 1 ≤ k → (k ≤ 10 → t ≤ 5 ^ k * T) → (10 ≤ k → t < 2 ^ n) → t ≤ 9765625 * T → s ≤ k * (9765625 * T) → rV X σ M O C Z G V → V 0 = (t : Int) → V 6 = (s : Int) → (∀ j, 7 ≤ j → V j = V0 j) → mSt M σ0 σ →
      (∀ (τ : en_S) (C1 Z1 : Nat → Nat) (G1 : Nat → Int32) (V1 : Nat → Int), rV X τ M O C1 Z1 G1 V1 → V1 6 = ((pwGo a b n k t s).1 : Int) → (pwGo a b n k t s).1 ≤ 7000 * (9765625 * T) → (pwGo a b n k t s).2 ≤ 7000 → (∀ j, 7 ≤ j → V1 j = V0 j) → mSt M σ0 τ → WA X M_X7_sumOfPower ρ 100 [(6, .long (lN (pwGo a b n k t s).2)), (4, .long (lN b)), (2, .long (lN a)), (0, .ref (M 0)), (1, .int (nI u))] [] τ Q) →
      WA X M_X7_sumOfPower ρ 54 [(6, .long (lN k)), (4, .long (lN b)), (2, .long (lN a)), (0, .ref (M 0)), (1, .int (nI u))] [] σ Q := by
  have hB : BB = 1000000000 := rfl
  have h300 : 7000 * (9765625 * T) < BB ^ 300 := by
    have x1 : 9765625 * T < BB * BB ^ 200 := Nat.mul_lt_mul_of_le_of_lt (by decide) hT (by decide)
    have x2 : 7000 * (9765625 * T) < BB * (BB * BB ^ 200) := Nat.mul_lt_mul_of_le_of_lt (by decide) x1 (by decide)
    rw [show BB * BB ^ 200 = BB ^ 201 from (Nat.pow_succ' ..).symm, show BB * BB ^ 201 = BB ^ 202 from (Nat.pow_succ' ..).symm] at x2
    exact Nat.lt_of_lt_of_le x2 (pw_mono (by decide))
  have fin : ∀ (n k t s : Nat) (σ : en_S) (C Z : Nat → Nat) (G : Nat → Int32) (V : Nat → Int), t = 0 → n + k = 7000 → s ≤ k * (9765625 * T) → rV X σ M O C Z G V → V 0 = (t : Int) → V 6 = (s : Int) → (∀ j, 7 ≤ j → V j = V0 j) → mSt M σ0 σ →
      (∀ (τ : en_S) (C1 Z1 : Nat → Nat) (G1 : Nat → Int32) (V1 : Nat → Int), rV X τ M O C1 Z1 G1 V1 → V1 6 = ((pwGo a b n k t s).1 : Int) → (pwGo a b n k t s).1 ≤ 7000 * (9765625 * T) → (pwGo a b n k t s).2 ≤ 7000 → (∀ j, 7 ≤ j → V1 j = V0 j) → mSt M σ0 τ → WA X M_X7_sumOfPower ρ 100 [(6, .long (lN (pwGo a b n k t s).2)), (4, .long (lN b)), (2, .long (lN a)), (0, .ref (M 0)), (1, .int (nI u))] [] τ Q) →
      WA X M_X7_sumOfPower ρ 54 [(6, .long (lN k)), (4, .long (lN b)), (2, .long (lN a)), (0, .ref (M 0)), (1, .int (nI u))] [] σ Q := by
    intro n k t s σ C Z G V t0 hn hs h v0 v6 vo hS kq
    rw [pwGo_0 t0] at kq
    obtain ⟨a0, a1, a2, a3, n1, n2, n3⟩ := id h.1
    have hz : Z 0 = 0 := (h.2 0 (by decide)).z.mpr (by rw [v0, t0]; rfl)
    refine wa_aload_n q_X7_sumOfPower_54 rfl ?_
    refine wa_getf q_X7_sumOfPower_55 f_RX7_14 (by assumption) rfl ?_
    refine wa_iconst q_X7_sumOfPower_58 (v := nI 0) (by decide) ?_
    refine wn_iald q_X7_sumOfPower_59 (by assumption) (by omega) (by omega) ?_
    refine wn_if_le q_X7_sumOfPower_60 (by omega) (fun _ => ?_) (fun z => absurd hz (by omega))
    exact kq σ C Z G V h v6 (Nat.le_trans hs (Nat.mul_le_mul_right _ (by omega))) (by omega) vo hS
  intro n
  induction n with
  | zero =>
    intro k t s σ C Z G V hn hk c1 c2 c3 hs h v0 v6 vo hS kq
    have ht := c2 (by omega)
    rw [Nat.pow_zero] at ht
    exact fin 0 k t s σ C Z G V (by omega) hn hs h v0 v6 vo hS kq
  | succ n ih =>
    intro k t s σ C Z G V hn hk c1 c2 c3 hs h v0 v6 vo hS kq
    by_cases t0 : t = 0
    · exact fin (n + 1) k t s σ C Z G V t0 hn hs h v0 v6 vo hS kq
    rw [pwGo_s t0] at kq
    obtain ⟨d1, d2, d3⟩ := pw_st hb ha hk hn hT2 c1 c2 c3
    obtain ⟨a0, a1, a2, a3, n1, n2, n3⟩ := id h.1
    have hz : ¬ Z 0 = 0 := fun z => t0 (by have := (h.2 0 (by decide)).z.mp z; omega)
    have hz9 := (h.2 0 (by decide)).2.2.2
    have hbk : b * k ≤ 1000 * 7000 := Nat.mul_le_mul hb2 (by omega)
    have hbk0 : 0 < b * k := Nat.mul_pos hb hk
    have hk7 : k * (9765625 * T) ≤ 7000 * (9765625 * T) := Nat.mul_le_mul_right _ (by omega)
    have hk8 : (k + 1) * (9765625 * T) = k * (9765625 * T) + 9765625 * T := Nat.succ_mul ..
    refine wa_aload_n q_X7_sumOfPower_54 rfl ?_
    refine wa_getf q_X7_sumOfPower_55 f_RX7_14 (by assumption) rfl ?_
    refine wa_iconst q_X7_sumOfPower_58 (v := nI 0) (by decide) ?_
    refine wn_iald q_X7_sumOfPower_59 (by assumption) (by omega) (by omega) ?_
    refine wn_if_le q_X7_sumOfPower_60 (by omega) (fun z => absurd z (by omega)) (fun _ => ?_)
    refine wa_aload_n q_X7_sumOfPower_63 rfl ?_
    refine wa_iconst q_X7_sumOfPower_64 (v := nI 0) (by decide) ?_
    refine wa_lload_n q_X7_sumOfPower_65 rfl ?_
    refine wa_callV q_X7_sumOfPower_66 g_X7_sumOfPower_66 w_X7_timesSmall (by assumption) rfl (av := [_, _]) rfl rfl (lk rfl) (Calls.mono (R_mulS h (r := 0) (v := a) (by decide) (by omega) (by omega) (by rw [v0, Int.natAbs_natCast]; omega)) ?_)
    rintro _ σ1 ⟨rfl, C1, Z1, h1, s1⟩
    rw [v0, ← Int.natCast_mul] at h1
    obtain ⟨b0, b1, b2, b3, -⟩ := id h1.1
    refine wa_aload_n q_X7_sumOfPower_69 rfl ?_
    refine wa_iconst q_X7_sumOfPower_70 (v := nI 0) (by decide) ?_
    refine wa_lload q_X7_sumOfPower_71 rfl ?_
    refine wa_lload q_X7_sumOfPower_73 rfl ?_
    refine wn_lmul q_X7_sumOfPower_75 ?_
    refine wa_callV q_X7_sumOfPower_76 g_X7_sumOfPower_76 w_X7_bySmall (by assumption) rfl (av := [_, _]) rfl rfl (lk rfl) (Calls.mono (R_divS h1 (r := 0) (f := b * k) (by decide) hbk0 (by omega)) ?_)
    rintro _ σ2 ⟨rfl, C2, Z2, G2, h2, s2⟩
    rw [uV_s, ← Int.ofNat_tdiv] at h2
    have e6 : uV (uV V 0 ((t * a : Nat) : Int)) 0 ((t * a / (b * k) : Nat) : Int) 6 = (s : Int) := by rw [uV_n (by decide), uV_n (by decide)]; exact v6
    obtain ⟨i0, i1, i2, i3, -⟩ := id h2.1
    generalize t * a / (b * k) = w at *
    refine wa_lstore q_X7_sumOfPower_79 (by decide) ?_
    refine wa_aload_n q_X7_sumOfPower_81 rfl ?_
    refine wa_bipush q_X7_sumOfPower_82 (v := nI 6) (by decide) ?_
    refine wa_bipush q_X7_sumOfPower_84 (v := nI 6) (by decide) ?_
    refine wa_iconst q_X7_sumOfPower_86 (v := nI 0) (by decide) ?_
    refine wa_iconst q_X7_sumOfPower_87 (v := sgI 1) (by decide) ?_
    refine wa_callV q_X7_sumOfPower_88 g_X7_sumOfPower_88 w_X7_addTo (by assumption) rfl (av := [_, _, _, _]) rfl rfl (lk rfl) (Calls.mono (R_addT h2 (r := 6) (a := 6) (b := 0) (by decide) (by decide) (by decide) (Or.inl rfl) (by rw [e6, Int.natAbs_natCast]; omega) (by rw [uV_s, Int.natAbs_natCast]; omega)) ?_)
    rintro _ σ3 ⟨rfl, C3, Z3, G3, h3, s3⟩
    rw [e6, uV_s] at h3
    refine wa_lload q_X7_sumOfPower_91 rfl ?_
    refine wa_lconst q_X7_sumOfPower_93 (v := lN 1) (by decide) ?_
    refine wn_ladd q_X7_sumOfPower_94 ?_
    refine wa_lstore q_X7_sumOfPower_95 (by decide) ?_
    refine wa_goto q_X7_sumOfPower_97 ?_
    refine wa_lv (ih (k + 1) w (s + w) σ3 C3 Z3 G3 _ (by omega) (by omega) d1 d2 d3 (by omega) h3 ?_ ?_ (fun j hj => ?_) (hS.tr (s1.tr (s2.tr s3))) kq) rfl
    · rw [uV_n (by decide), uV_s]
    · rw [uV_s]; omega
    · rw [uV_n (by omega), uV_n (by omega), uV_n (by omega)]; exact vo j hj
end ref20
