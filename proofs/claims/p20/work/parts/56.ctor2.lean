/-! Constructors of Encloser and EnclosedDigits; Value: become, stemFrom -/
theorem bigs.cp {X : en_X} {σ τ : en_S} {s n : Nat} (h : bigs X σ s n) (f : ∀ q, s ≤ q → q < s + 2 * n → look τ q = look σ q) : bigs X τ s n := fun k hk => ⟨(f _ (by omega) (by omega)).trans (h k hk).1, (f _ (by omega) (by omega)).trans (h k hk).2⟩
section ctor2
variable {X : en_X}
set_option maxHeartbeats 1000000 in
theorem C_X2_init {σ : en_S} {a s : Nat} (ha : look σ a = some (.inr (2, [.null, .null, .null, .null, .null, .null, .null]))) (hal : a < σ.1) (hs : σ.1 = s) : Calls X M_X2_init [.ref a] σ (fun res τ => res = none ∧ look τ a = some (eE s (s + 11) (s + 22) (s + 24) (s + 26) (s + 28) (s + 30)) ∧ look τ s = some (nE (s + 1) (s + 3) (s + 5) (s + 7) (s + 9)) ∧ bigs X τ (s + 1) 5 ∧ look τ (s + 11) = some (seE (s + 12) (s + 14) (s + 16) (s + 18) (s + 20)) ∧ bigs X τ (s + 12) 5 ∧ bigs X τ (s + 22) 5 ∧ (∀ q, q ≠ a → q < s → look τ q = look σ q) ∧ τ.1 = s + 32 ∧ τ.2.1 = σ.2.1 + 175) := by
  refine Calls.of rfl (lk rfl) ?_
  refine wa_aload_n q_X2_init_0 rfl ?_
  refine wa_objInit q_X2_init_1 o_RX2_3 (lk rfl) (lk rfl) ?_
  refine wa_aload_n q_X2_init_4 rfl ?_
  refine wn_new q_X2_init_5 n_RX2_9 (fun σ1 a1 b1 c1 d1 => ?_)
  refine wa_dup q_X2_init_8 rfl ?_
  refine wa_callIN q_X2_init_9 g_X2_init_9 w_X0_init ⟨rfl, rfl⟩ (av := []) rfl rfl (lk rfl) (Calls.mono (C_X0_init (s := s + 1) a1 (by omega) (by omega)) ?_)
  rintro _ σ2 ⟨rfl, a2, b2, c2, d2, e2⟩
  rw [hs] at a2 c2
  have ha2 := (c2 a (by omega) (by omega)).trans ((b1 a (by omega)).trans ha)
  refine wn_putF q_X2_init_12 p_RX2_12 rfl (fun C T N w => by cases w; rfl) ha2 (lk rfl) rfl rfl rfl (fun σ3 p3 f3 u3 v3 => ?_)
  have f0 : ∀ q, q ≠ a → q < s → look σ3 q = look σ q := fun q w1 w2 => (f3 q w1).trans ((c2 q (by omega) (by omega)).trans (b1 q (by omega)))
  have bn3 : look σ3 s = some (nE (s + 1) (s + 1 + 2) (s + 1 + 4) (s + 1 + 6) (s + 1 + 8)) := (f3 s (by omega)).trans a2
  have bg3 : bigs X σ3 (s + 1) 5 := b2.keep (by omega) f3
  refine wa_aload_n q_X2_init_15 rfl ?_
  refine wn_new q_X2_init_16 n_RX2_18 (fun σ4 a4 b4 c4 d4 => ?_)
  have e4 : σ3.1 = s + 11 := by omega
  refine wa_dup q_X2_init_19 rfl ?_
  refine wa_callIN q_X2_init_20 g_X2_init_20 w_X4_init ⟨rfl, rfl⟩ (av := []) rfl rfl (lk rfl) (Calls.mono (C_X4_init (s := s + 12) a4 (by omega) (by omega)) ?_)
  rintro _ σ5 ⟨rfl, a5, b5, c5, d5, e5⟩
  rw [e4] at a5 c5 b4
  have ha5 := (c5 a (by omega) (by omega)).trans ((b4 a (by omega)).trans p3)
  refine wn_putF q_X2_init_23 p_RX2_21 rfl (fun C T N w => by cases w; rfl) ha5 (lk rfl) rfl rfl rfl (fun σ6 p6 f6 u6 v6 => ?_)
  have g36 : ∀ q, q ≠ a → q < s + 11 → look σ6 q = look σ3 q := fun q w1 w2 => (f6 q w1).trans ((c5 q (by omega) (by omega)).trans (b4 q (by omega)))
  have f0 : ∀ q, q ≠ a → q < s → look σ6 q = look σ q := fun q w1 w2 => (g36 q w1 (by omega)).trans (f0 q w1 w2)
  have bn6 := (g36 s (by omega) (by omega)).trans bn3
  have bg6 : bigs X σ6 (s + 1) 5 := bg3.cp (fun q w1 w2 => g36 q (by omega) (by omega))
  have se6 := (f6 (s + 11) (by omega)).trans a5
  have sg6 : bigs X σ6 (s + 12) 5 := b5.keep (by omega) f6
  clear bg3 bn3 g36 b5 a5 c5 b4 c2 a2 b2
  have b0 : bigs X σ6 (s + 22) 0 := fun k hk => absurd hk (Nat.not_lt_zero _)
  have n0 : σ6.1 = s + 22 := by omega
  have m0 : σ6.2.1 = σ.2.1 + 120 := by omega
  have fz : ∀ q, q ≠ a → q < s + 22 → look σ6 q = look σ6 q := fun _ _ _ => rfl
  refine wa_aload_n q_X2_init_26 rfl ?_
  refine wn_big q_X2_init_27 n_RX2_25 q_X2_init_30 q_X2_init_31 g_X2_init_31 w_X1_init (lk rfl) (fun σ7 x7 y7 c7 d7 e7 => ?_)
  have h7 := (c7 a (by omega) (by omega)).trans p6
  refine wn_putF q_X2_init_34 p_RX2_28 rfl (fun C T N w => by cases w; rfl) h7 (lk rfl) rfl rfl rfl (fun σ8 p8 f8 u8 v8 => ?_)
  have b8 : bigs X σ8 (s + 22) 1 := (b0.add (by omega) x7 y7 c7).keep (by omega) f8
  have z8 : ∀ q, q ≠ a → q < s + 22 → look σ8 q = look σ6 q := fun q w1 w2 => (f8 q w1).trans ((c7 q (by omega) (by omega)).trans (fz q w1 w2))
  refine wa_aload_n q_X2_init_37 rfl ?_
  refine wn_big q_X2_init_38 n_RX2_25 q_X2_init_41 q_X2_init_42 g_X2_init_42 w_X1_init (lk rfl) (fun σ9 x9 y9 c9 d9 e9 => ?_)
  have h9 := (c9 a (by omega) (by omega)).trans p8
  refine wn_putF q_X2_init_45 p_RX2_32 rfl (fun C T N w => by cases w; rfl) h9 (lk rfl) rfl rfl rfl (fun σA pA fA uA vA => ?_)
  have bA : bigs X σA (s + 22) 2 := (b8.add (by omega) x9 y9 c9).keep (by omega) fA
  have zA : ∀ q, q ≠ a → q < s + 22 → look σA q = look σ6 q := fun q w1 w2 => (fA q w1).trans ((c9 q (by omega) (by omega)).trans (z8 q w1 w2))
  refine wa_aload_n q_X2_init_48 rfl ?_
  refine wn_big q_X2_init_49 n_RX2_25 q_X2_init_52 q_X2_init_53 g_X2_init_53 w_X1_init (lk rfl) (fun σB xB yB cB dB eB => ?_)
  have hB := (cB a (by omega) (by omega)).trans pA
  refine wn_putF q_X2_init_56 p_RX2_35 rfl (fun C T N w => by cases w; rfl) hB (lk rfl) rfl rfl rfl (fun σC pC fC uC vC => ?_)
  have bC : bigs X σC (s + 22) 3 := (bA.add (by omega) xB yB cB).keep (by omega) fC
  have zC : ∀ q, q ≠ a → q < s + 22 → look σC q = look σ6 q := fun q w1 w2 => (fC q w1).trans ((cB q (by omega) (by omega)).trans (zA q w1 w2))
  refine wa_aload_n q_X2_init_59 rfl ?_
  refine wn_big q_X2_init_60 n_RX2_25 q_X2_init_63 q_X2_init_64 g_X2_init_64 w_X1_init (lk rfl) (fun σD xD yD cD dD eD => ?_)
  have hD := (cD a (by omega) (by omega)).trans pC
  refine wn_putF q_X2_init_67 p_RX2_38 rfl (fun C T N w => by cases w; rfl) hD (lk rfl) rfl rfl rfl (fun σE pE fE uE vE => ?_)
  have bE' : bigs X σE (s + 22) 4 := (bC.add (by omega) xD yD cD).keep (by omega) fE
  have zE : ∀ q, q ≠ a → q < s + 22 → look σE q = look σ6 q := fun q w1 w2 => (fE q w1).trans ((cD q (by omega) (by omega)).trans (zC q w1 w2))
  refine wa_aload_n q_X2_init_70 rfl ?_
  refine wn_big q_X2_init_71 n_RX2_25 q_X2_init_74 q_X2_init_75 g_X2_init_75 w_X1_init (lk rfl) (fun σF xF yF cF dF eF => ?_)
  have hF := (cF a (by omega) (by omega)).trans pE
  refine wn_putF q_X2_init_78 p_RX2_41 rfl (fun C T N w => by cases w; rfl) hF (lk rfl) rfl rfl rfl (fun σG pG fG uG vG => ?_)
  have bG : bigs X σG (s + 22) 5 := (bE'.add (by omega) xF yF cF).keep (by omega) fG
  have zG : ∀ q, q ≠ a → q < s + 22 → look σG q = look σ6 q := fun q w1 w2 => (fG q w1).trans ((cF q (by omega) (by omega)).trans (zE q w1 w2))
  refine wa_vret q_X2_init_81 rfl ?_
  refine ⟨rfl, ?_, (zG s (by omega) (by omega)).trans bn6, bg6.cp (fun q w1 w2 => zG q (by omega) (by omega)), (zG (s + 11) (by omega) (by omega)).trans se6, sg6.cp (fun q w1 w2 => zG q (by omega) (by omega)), bG, fun q w1 w2 => (zG q w1 (by omega)).trans (f0 q w1 w2), by omega, by omega⟩
  rw [pG]
  simp only [List.set_cons_succ, List.set_cons_zero]
  rw [(show σ.1 = s from hs), (show σ3.1 = s + 11 from e4), (show σ6.1 = s + 22 from n0), (show σ8.1 = s + 24 from by omega), (show σA.1 = s + 26 from by omega), (show σC.1 = s + 28 from by omega), (show σE.1 = s + 30 from by omega)]
theorem C_become {σ : en_S} {v : Nat} {k k0 f s at' op fa : Int32} {a b a0 b0 : Int} {lo hi fi : Nat} (hv : look σ v = some (vE k0 a0 b0 f s at' op lo hi fa fi)) : Calls X M_X5_become [.ref v, .int k, .long (lZ a), .long (lZ b)] σ (fun res τ => res = none ∧ look τ v = some (vE k a b f s 0 op lo hi 0 fi) ∧ (∀ q, q ≠ v → look τ q = look σ q) ∧ τ.1 = σ.1 ∧ τ.2.1 = σ.2.1) := by
  refine Calls.of rfl (lk rfl) ?_
  refine wa_aload_n q_X5_become_0 rfl ?_
  refine wa_iload_n q_X5_become_1 rfl ?_
  refine wn_putf q_X5_become_2 p_RX5_22 (by assumption) (lk rfl) rfl rfl rfl (fun σ_p1 p1 f_p1 e1_p1 e2_p1 => ?_)
  refine wa_aload_n q_X5_become_5 rfl ?_
  refine wa_lload_n q_X5_become_6 rfl ?_
  refine wn_putf q_X5_become_7 p_RX5_26 (by assumption) (lk rfl) rfl rfl rfl (fun σ_p2 p2 f_p2 e1_p2 e2_p2 => ?_)
  refine wa_aload_n q_X5_become_10 rfl ?_
  refine wa_lload q_X5_become_11 rfl ?_
  refine wn_putf q_X5_become_13 p_RX5_30 (by assumption) (lk rfl) rfl rfl rfl (fun σ_p3 p3 f_p3 e1_p3 e2_p3 => ?_)
  refine wa_aload_n q_X5_become_16 rfl ?_
  refine wa_iconst q_X5_become_17 (v := nI 0) (by decide) ?_
  refine wn_putf q_X5_become_18 p_RX5_33 (by assumption) (lk rfl) rfl rfl rfl (fun σ_p4 p4 f_p4 e1_p4 e2_p4 => ?_)
  refine wa_aload_n q_X5_become_21 rfl ?_
  refine wa_iconst q_X5_become_22 (v := nI 0) (by decide) ?_
  refine wn_putf q_X5_become_23 p_RX5_36 (by assumption) (lk rfl) rfl rfl rfl (fun σ_p5 p5 f_p5 e1_p5 e2_p5 => ?_)
  refine wa_vret q_X5_become_26 rfl ?_
  exact ⟨rfl, p5, fun q hq => (f_p5 q hq).trans ((f_p4 q hq).trans ((f_p3 q hq).trans ((f_p2 q hq).trans (f_p1 q hq)))), by omega, by omega⟩
theorem C_stem {σ : en_S} {v : Nat} {k f s f0 s0 at' op fa : Int32} {a b : Int} {lo hi fi : Nat} (hv : look σ v = some (vE k a b f0 s0 at' op lo hi fa fi)) : Calls X M_X5_stemFrom [.ref v, .int f, .int s] σ (fun res τ => res = none ∧ look τ v = some (vE k a b f s at' op lo hi fa fi) ∧ (∀ q, q ≠ v → look τ q = look σ q) ∧ τ.1 = σ.1 ∧ τ.2.1 = σ.2.1) := by
  refine Calls.of rfl (lk rfl) ?_
  refine wa_aload_n q_X5_stemFrom_0 rfl ?_
  refine wa_iload_n q_X5_stemFrom_1 rfl ?_
  refine wn_putf q_X5_stemFrom_2 p_RX5_39 (by assumption) (lk rfl) rfl rfl rfl (fun σ_p1 p1 f_p1 e1_p1 e2_p1 => ?_)
  refine wa_aload_n q_X5_stemFrom_5 rfl ?_
  refine wa_iload_n q_X5_stemFrom_6 rfl ?_
  refine wn_putf q_X5_stemFrom_7 p_RX5_42 (by assumption) (lk rfl) rfl rfl rfl (fun σ_p2 p2 f_p2 e1_p2 e2_p2 => ?_)
  refine wa_vret q_X5_stemFrom_10 rfl ?_
  exact ⟨rfl, p2, fun q hq => (f_p2 q hq).trans (f_p1 q hq), by omega, by omega⟩
end ctor2
