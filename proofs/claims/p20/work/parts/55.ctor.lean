/-! Constructors: numbers are made side by side, object and row; this text is written by wip/gen/ctor.py -/
def bigs (X : en_X) (σ : en_S) (s n : Nat) : Prop := ∀ k, k < n → look σ (s + 2 * k) = some (bE 0 0 (s + 2 * k + 1)) ∧ look σ (s + 2 * k + 1) = some (ar X 8 (fun _ => 0))
section ctor
variable {X : en_X}
theorem bigs.keep {σ τ : en_S} {s n a : Nat} (h : bigs X σ s n) (ha : a < s) (f : ∀ q, q ≠ a → look τ q = look σ q) : bigs X τ s n := fun k hk => ⟨(f _ (by omega)).trans (h k hk).1, (f _ (by omega)).trans (h k hk).2⟩
theorem bigs.old {σ τ : en_S} {s n m : Nat} (h : bigs X σ s n) (hm : s + 2 * n ≤ m) (f : ∀ q, q < m → s ≤ q → look τ q = look σ q) : bigs X τ s n := fun k hk => ⟨(f _ (by omega) (by omega)).trans (h k hk).1, (f _ (by omega) (by omega)).trans (h k hk).2⟩
theorem bigs.add {σ τ : en_S} {s n : Nat} (h : bigs X σ s n) (hs : σ.1 = s + 2 * n) (x : look τ σ.1 = some (bE 0 0 (σ.1 + 1))) (y : look τ (σ.1 + 1) = some (ar X 8 (fun _ => 0))) (f : ∀ q, q ≠ σ.1 → q ≠ σ.1 + 1 → look τ q = look σ q) : bigs X τ s (n + 1) := by
  intro k hk
  by_cases e : k = n
  · subst e; rw [← hs]; exact ⟨x, y⟩
  · exact ⟨(f _ (by omega) (by omega)).trans (h k (by omega)).1, (f _ (by omega) (by omega)).trans (h k (by omega)).2⟩
theorem wn_big {y : en_M} {ρ σ : en_S} {pc n1 n2 n3 i j : Nat} {host : String} {lv : List (Nat × Value)} {st : List Value} {Q : Option Value → en_S → Prop} (q1 : decode y.2.1 pc = .ok (.new i, 3) ∧ pc + 3 = n1) (f : en_N y.1.cls i 1 3 [.int 0, .int 0, .null]) (q2 : decode y.2.1 n1 = .ok (.dup, 1) ∧ n1 + 1 = n2) (q3 : decode y.2.1 n2 = .ok (.invokespecial j, 3) ∧ n2 + 3 = n3) (g : en_CN y M_X1_init j 0 host) (w : Cond.instanceMethod M_X1_init.1 ∈ en_tbl) (hw : ((Value.ref σ.1 :: st).map fun v => v.category).sum ≤ 8)
    (k : ∀ τ : en_S, look τ σ.1 = some (bE 0 0 (σ.1 + 1)) → look τ (σ.1 + 1) = some (ar X 8 (fun _ => 0)) → (∀ q, q ≠ σ.1 → q ≠ σ.1 + 1 → look τ q = look σ q) → τ.1 = σ.1 + 2 → τ.2.1 = σ.2.1 + 11 → WA X y ρ n3 lv (.ref σ.1 :: st) τ Q) : WA X y ρ pc lv st σ Q := by
  refine wn_new q1 f (fun σ1 g1 g2 g3 g4 => ?_)
  refine wa_dup q2 rfl ?_
  refine wa_callIN q3 g w ⟨rfl, rfl⟩ (av := []) rfl rfl hw (Calls.mono (C_bigInit g1 (by omega)) ?_)
  rintro _ τ ⟨rfl, h1, h2, h3, h4, h5⟩
  rw [g3] at h1 h2 h3
  exact k τ h1 h2 (fun q a b => (h3 q a b).trans (g2 q a)) (by omega) (by omega)
theorem C_X0_init {σ : en_S} {a s : Nat} (ha : look σ a = some (.inr (0, [.null, .null, .null, .null, .null]))) (hal : a < σ.1) (hs : σ.1 = s) : Calls X M_X0_init [.ref a] σ (fun res τ => res = none ∧ look τ a = some (.inr (0, [.ref s, .ref (s + 2), .ref (s + 4), .ref (s + 6), .ref (s + 8)])) ∧ bigs X τ s 5 ∧ (∀ q, q ≠ a → q < s → look τ q = look σ q) ∧ τ.1 = s + 10 ∧ τ.2.1 = σ.2.1 + 55) := by
  have b0 : bigs X σ s 0 := fun k hk => absurd hk (Nat.not_lt_zero _)
  have fr : ∀ q, q ≠ a → q < s → look σ q = look σ q := fun _ _ _ => rfl
  refine Calls.of rfl (lk rfl) ?_
  refine wa_aload_n q_X0_init_0 rfl ?_
  refine wa_objInit q_X0_init_1 o_RX0_3 (lk rfl) (lk rfl) ?_
  refine wa_aload_n q_X0_init_4 rfl ?_
  refine wn_big q_X0_init_5 n_RX0_9 q_X0_init_8 q_X0_init_9 g_X0_init_9 w_X1_init (lk rfl) (fun σ0a x0 y0 c0 d0 e0 => ?_)
  have ha0 := (c0 a (by omega) (by omega)).trans ha
  have g0 : bigs X σ0a s 1 := b0.add (by omega) x0 y0 c0
  refine wn_putF q_X0_init_12 p_RX0_12 rfl (fun C T N w => by cases w; rfl) ha0 (lk rfl) rfl rfl rfl (fun σ0b p0 q0 u0 v0 => ?_)
  have h0 : bigs X σ0b s 1 := g0.keep (by omega) q0
  have fr0 : ∀ q, q ≠ a → q < s → look σ0b q = look σ q := fun q w1 w2 => (q0 q w1).trans ((c0 q (by omega) (by omega)).trans (fr q w1 w2))
  refine wa_aload_n q_X0_init_15 rfl ?_
  refine wn_big q_X0_init_16 n_RX0_9 q_X0_init_19 q_X0_init_20 g_X0_init_20 w_X1_init (lk rfl) (fun σ1a x1 y1 c1 d1 e1 => ?_)
  have ha1 := (c1 a (by omega) (by omega)).trans p0
  have g1 : bigs X σ1a s 2 := h0.add (by omega) x1 y1 c1
  refine wn_putF q_X0_init_23 p_RX0_18 rfl (fun C T N w => by cases w; rfl) ha1 (lk rfl) rfl rfl rfl (fun σ1b p1 q1 u1 v1 => ?_)
  have h1 : bigs X σ1b s 2 := g1.keep (by omega) q1
  have fr1 : ∀ q, q ≠ a → q < s → look σ1b q = look σ q := fun q w1 w2 => (q1 q w1).trans ((c1 q (by omega) (by omega)).trans (fr0 q w1 w2))
  refine wa_aload_n q_X0_init_26 rfl ?_
  refine wn_big q_X0_init_27 n_RX0_9 q_X0_init_30 q_X0_init_31 g_X0_init_31 w_X1_init (lk rfl) (fun σ2a x2 y2 c2 d2 e2 => ?_)
  have ha2 := (c2 a (by omega) (by omega)).trans p1
  have g2 : bigs X σ2a s 3 := h1.add (by omega) x2 y2 c2
  refine wn_putF q_X0_init_34 p_RX0_21 rfl (fun C T N w => by cases w; rfl) ha2 (lk rfl) rfl rfl rfl (fun σ2b p2 q2 u2 v2 => ?_)
  have h2 : bigs X σ2b s 3 := g2.keep (by omega) q2
  have fr2 : ∀ q, q ≠ a → q < s → look σ2b q = look σ q := fun q w1 w2 => (q2 q w1).trans ((c2 q (by omega) (by omega)).trans (fr1 q w1 w2))
  refine wa_aload_n q_X0_init_37 rfl ?_
  refine wn_big q_X0_init_38 n_RX0_9 q_X0_init_41 q_X0_init_42 g_X0_init_42 w_X1_init (lk rfl) (fun σ3a x3 y3 c3 d3 e3 => ?_)
  have ha3 := (c3 a (by omega) (by omega)).trans p2
  have g3 : bigs X σ3a s 4 := h2.add (by omega) x3 y3 c3
  refine wn_putF q_X0_init_45 p_RX0_24 rfl (fun C T N w => by cases w; rfl) ha3 (lk rfl) rfl rfl rfl (fun σ3b p3 q3 u3 v3 => ?_)
  have h3 : bigs X σ3b s 4 := g3.keep (by omega) q3
  have fr3 : ∀ q, q ≠ a → q < s → look σ3b q = look σ q := fun q w1 w2 => (q3 q w1).trans ((c3 q (by omega) (by omega)).trans (fr2 q w1 w2))
  refine wa_aload_n q_X0_init_48 rfl ?_
  refine wn_big q_X0_init_49 n_RX0_9 q_X0_init_52 q_X0_init_53 g_X0_init_53 w_X1_init (lk rfl) (fun σ4a x4 y4 c4 d4 e4 => ?_)
  have ha4 := (c4 a (by omega) (by omega)).trans p3
  have g4 : bigs X σ4a s 5 := h3.add (by omega) x4 y4 c4
  refine wn_putF q_X0_init_56 p_RX0_27 rfl (fun C T N w => by cases w; rfl) ha4 (lk rfl) rfl rfl rfl (fun σ4b p4 q4 u4 v4 => ?_)
  have h4 : bigs X σ4b s 5 := g4.keep (by omega) q4
  have fr4 : ∀ q, q ≠ a → q < s → look σ4b q = look σ q := fun q w1 w2 => (q4 q w1).trans ((c4 q (by omega) (by omega)).trans (fr3 q w1 w2))
  refine wa_vret q_X0_init_59 rfl ?_
  refine ⟨rfl, ?_, h4, fr4, by omega, by omega⟩
  rw [p4]
  simp only [List.set_cons_succ, List.set_cons_zero]
  rw [(show σ.1 = s from hs), (show σ0b.1 = s + 2 from by omega), (show σ1b.1 = s + 4 from by omega), (show σ2b.1 = s + 6 from by omega), (show σ3b.1 = s + 8 from by omega)]
theorem C_X4_init {σ : en_S} {a s : Nat} (ha : look σ a = some (.inr (4, [.null, .null, .null, .null, .null]))) (hal : a < σ.1) (hs : σ.1 = s) : Calls X M_X4_init [.ref a] σ (fun res τ => res = none ∧ look τ a = some (.inr (4, [.ref s, .ref (s + 2), .ref (s + 4), .ref (s + 6), .ref (s + 8)])) ∧ bigs X τ s 5 ∧ (∀ q, q ≠ a → q < s → look τ q = look σ q) ∧ τ.1 = s + 10 ∧ τ.2.1 = σ.2.1 + 55) := by
  have b0 : bigs X σ s 0 := fun k hk => absurd hk (Nat.not_lt_zero _)
  have fr : ∀ q, q ≠ a → q < s → look σ q = look σ q := fun _ _ _ => rfl
  refine Calls.of rfl (lk rfl) ?_
  refine wa_aload_n q_X4_init_0 rfl ?_
  refine wa_objInit q_X4_init_1 o_RX4_3 (lk rfl) (lk rfl) ?_
  refine wa_aload_n q_X4_init_4 rfl ?_
  refine wn_big q_X4_init_5 n_RX4_9 q_X4_init_8 q_X4_init_9 g_X4_init_9 w_X1_init (lk rfl) (fun σ0a x0 y0 c0 d0 e0 => ?_)
  have ha0 := (c0 a (by omega) (by omega)).trans ha
  have g0 : bigs X σ0a s 1 := b0.add (by omega) x0 y0 c0
  refine wn_putF q_X4_init_12 p_RX4_12 rfl (fun C T N w => by cases w; rfl) ha0 (lk rfl) rfl rfl rfl (fun σ0b p0 q0 u0 v0 => ?_)
  have h0 : bigs X σ0b s 1 := g0.keep (by omega) q0
  have fr0 : ∀ q, q ≠ a → q < s → look σ0b q = look σ q := fun q w1 w2 => (q0 q w1).trans ((c0 q (by omega) (by omega)).trans (fr q w1 w2))
  refine wa_aload_n q_X4_init_15 rfl ?_
  refine wn_big q_X4_init_16 n_RX4_9 q_X4_init_19 q_X4_init_20 g_X4_init_20 w_X1_init (lk rfl) (fun σ1a x1 y1 c1 d1 e1 => ?_)
  have ha1 := (c1 a (by omega) (by omega)).trans p0
  have g1 : bigs X σ1a s 2 := h0.add (by omega) x1 y1 c1
  refine wn_putF q_X4_init_23 p_RX4_18 rfl (fun C T N w => by cases w; rfl) ha1 (lk rfl) rfl rfl rfl (fun σ1b p1 q1 u1 v1 => ?_)
  have h1 : bigs X σ1b s 2 := g1.keep (by omega) q1
  have fr1 : ∀ q, q ≠ a → q < s → look σ1b q = look σ q := fun q w1 w2 => (q1 q w1).trans ((c1 q (by omega) (by omega)).trans (fr0 q w1 w2))
  refine wa_aload_n q_X4_init_26 rfl ?_
  refine wn_big q_X4_init_27 n_RX4_9 q_X4_init_30 q_X4_init_31 g_X4_init_31 w_X1_init (lk rfl) (fun σ2a x2 y2 c2 d2 e2 => ?_)
  have ha2 := (c2 a (by omega) (by omega)).trans p1
  have g2 : bigs X σ2a s 3 := h1.add (by omega) x2 y2 c2
  refine wn_putF q_X4_init_34 p_RX4_21 rfl (fun C T N w => by cases w; rfl) ha2 (lk rfl) rfl rfl rfl (fun σ2b p2 q2 u2 v2 => ?_)
  have h2 : bigs X σ2b s 3 := g2.keep (by omega) q2
  have fr2 : ∀ q, q ≠ a → q < s → look σ2b q = look σ q := fun q w1 w2 => (q2 q w1).trans ((c2 q (by omega) (by omega)).trans (fr1 q w1 w2))
  refine wa_aload_n q_X4_init_37 rfl ?_
  refine wn_big q_X4_init_38 n_RX4_9 q_X4_init_41 q_X4_init_42 g_X4_init_42 w_X1_init (lk rfl) (fun σ3a x3 y3 c3 d3 e3 => ?_)
  have ha3 := (c3 a (by omega) (by omega)).trans p2
  have g3 : bigs X σ3a s 4 := h2.add (by omega) x3 y3 c3
  refine wn_putF q_X4_init_45 p_RX4_24 rfl (fun C T N w => by cases w; rfl) ha3 (lk rfl) rfl rfl rfl (fun σ3b p3 q3 u3 v3 => ?_)
  have h3 : bigs X σ3b s 4 := g3.keep (by omega) q3
  have fr3 : ∀ q, q ≠ a → q < s → look σ3b q = look σ q := fun q w1 w2 => (q3 q w1).trans ((c3 q (by omega) (by omega)).trans (fr2 q w1 w2))
  refine wa_aload_n q_X4_init_48 rfl ?_
  refine wn_big q_X4_init_49 n_RX4_9 q_X4_init_52 q_X4_init_53 g_X4_init_53 w_X1_init (lk rfl) (fun σ4a x4 y4 c4 d4 e4 => ?_)
  have ha4 := (c4 a (by omega) (by omega)).trans p3
  have g4 : bigs X σ4a s 5 := h3.add (by omega) x4 y4 c4
  refine wn_putF q_X4_init_56 p_RX4_27 rfl (fun C T N w => by cases w; rfl) ha4 (lk rfl) rfl rfl rfl (fun σ4b p4 q4 u4 v4 => ?_)
  have h4 : bigs X σ4b s 5 := g4.keep (by omega) q4
  have fr4 : ∀ q, q ≠ a → q < s → look σ4b q = look σ q := fun q w1 w2 => (q4 q w1).trans ((c4 q (by omega) (by omega)).trans (fr3 q w1 w2))
  refine wa_vret q_X4_init_59 rfl ?_
  refine ⟨rfl, ?_, h4, fr4, by omega, by omega⟩
  rw [p4]
  simp only [List.set_cons_succ, List.set_cons_zero]
  rw [(show σ.1 = s from hs), (show σ0b.1 = s + 2 from by omega), (show σ1b.1 = s + 4 from by omega), (show σ2b.1 = s + 6 from by omega), (show σ3b.1 = s + 8 from by omega)]
theorem C_X3_init {σ : en_S} {a s : Nat} (ha : look σ a = some (.inr (3, [.null, .null, .null, .null]))) (hal : a < σ.1) (hs : σ.1 = s) : Calls X M_X3_init [.ref a] σ (fun res τ => res = none ∧ look τ a = some (.inr (3, [.ref s, .ref (s + 2), .ref (s + 4), .ref (s + 6)])) ∧ bigs X τ s 4 ∧ (∀ q, q ≠ a → q < s → look τ q = look σ q) ∧ τ.1 = s + 8 ∧ τ.2.1 = σ.2.1 + 44) := by
  have b0 : bigs X σ s 0 := fun k hk => absurd hk (Nat.not_lt_zero _)
  have fr : ∀ q, q ≠ a → q < s → look σ q = look σ q := fun _ _ _ => rfl
  refine Calls.of rfl (lk rfl) ?_
  refine wa_aload_n q_X3_init_0 rfl ?_
  refine wa_objInit q_X3_init_1 o_RX3_1 (lk rfl) (lk rfl) ?_
  refine wa_aload_n q_X3_init_4 rfl ?_
  refine wn_big q_X3_init_5 n_RX3_7 q_X3_init_8 q_X3_init_9 g_X3_init_9 w_X1_init (lk rfl) (fun σ0a x0 y0 c0 d0 e0 => ?_)
  have ha0 := (c0 a (by omega) (by omega)).trans ha
  have g0 : bigs X σ0a s 1 := b0.add (by omega) x0 y0 c0
  refine wn_putf q_X3_init_12 p_RX3_10 ha0 (lk rfl) rfl rfl rfl (fun σ0b p0 q0 u0 v0 => ?_)
  have h0 : bigs X σ0b s 1 := g0.keep (by omega) q0
  have fr0 : ∀ q, q ≠ a → q < s → look σ0b q = look σ q := fun q w1 w2 => (q0 q w1).trans ((c0 q (by omega) (by omega)).trans (fr q w1 w2))
  refine wa_aload_n q_X3_init_15 rfl ?_
  refine wn_big q_X3_init_16 n_RX3_7 q_X3_init_19 q_X3_init_20 g_X3_init_20 w_X1_init (lk rfl) (fun σ1a x1 y1 c1 d1 e1 => ?_)
  have ha1 := (c1 a (by omega) (by omega)).trans p0
  have g1 : bigs X σ1a s 2 := h0.add (by omega) x1 y1 c1
  refine wn_putf q_X3_init_23 p_RX3_16 ha1 (lk rfl) rfl rfl rfl (fun σ1b p1 q1 u1 v1 => ?_)
  have h1 : bigs X σ1b s 2 := g1.keep (by omega) q1
  have fr1 : ∀ q, q ≠ a → q < s → look σ1b q = look σ q := fun q w1 w2 => (q1 q w1).trans ((c1 q (by omega) (by omega)).trans (fr0 q w1 w2))
  refine wa_aload_n q_X3_init_26 rfl ?_
  refine wn_big q_X3_init_27 n_RX3_7 q_X3_init_30 q_X3_init_31 g_X3_init_31 w_X1_init (lk rfl) (fun σ2a x2 y2 c2 d2 e2 => ?_)
  have ha2 := (c2 a (by omega) (by omega)).trans p1
  have g2 : bigs X σ2a s 3 := h1.add (by omega) x2 y2 c2
  refine wn_putf q_X3_init_34 p_RX3_19 ha2 (lk rfl) rfl rfl rfl (fun σ2b p2 q2 u2 v2 => ?_)
  have h2 : bigs X σ2b s 3 := g2.keep (by omega) q2
  have fr2 : ∀ q, q ≠ a → q < s → look σ2b q = look σ q := fun q w1 w2 => (q2 q w1).trans ((c2 q (by omega) (by omega)).trans (fr1 q w1 w2))
  refine wa_aload_n q_X3_init_37 rfl ?_
  refine wn_big q_X3_init_38 n_RX3_7 q_X3_init_41 q_X3_init_42 g_X3_init_42 w_X1_init (lk rfl) (fun σ3a x3 y3 c3 d3 e3 => ?_)
  have ha3 := (c3 a (by omega) (by omega)).trans p2
  have g3 : bigs X σ3a s 4 := h2.add (by omega) x3 y3 c3
  refine wn_putF q_X3_init_45 p_RX3_22 rfl (fun C T N w => by cases w; rfl) ha3 (lk rfl) rfl rfl rfl (fun σ3b p3 q3 u3 v3 => ?_)
  have h3 : bigs X σ3b s 4 := g3.keep (by omega) q3
  have fr3 : ∀ q, q ≠ a → q < s → look σ3b q = look σ q := fun q w1 w2 => (q3 q w1).trans ((c3 q (by omega) (by omega)).trans (fr2 q w1 w2))
  refine wa_vret q_X3_init_48 rfl ?_
  refine ⟨rfl, ?_, h3, fr3, by omega, by omega⟩
  rw [p3]
  simp only [List.set_cons_succ, List.set_cons_zero]
  rw [(show σ.1 = s from hs), (show σ0b.1 = s + 2 from by omega), (show σ1b.1 = s + 4 from by omega), (show σ2b.1 = s + 6 from by omega)]
theorem C_X5_init {σ : en_S} {a s : Nat} (ha : look σ a = some (.inr (5, [.int 0, .long 0, .long 0, .int 0, .int 0, .int 0, .int 0, .null, .null, .int 0, .null]))) (hal : a < σ.1) (hs : σ.1 = s) : Calls X M_X5_init [.ref a] σ (fun res τ => res = none ∧ look τ a = some (.inr (5, [.int 0, .long 0, .long 0, .int 0, .int 0, .int 0, .int 0, .ref s, .ref (s + 2), .int 0, .ref (s + 4)])) ∧ bigs X τ s 3 ∧ (∀ q, q ≠ a → q < s → look τ q = look σ q) ∧ τ.1 = s + 6 ∧ τ.2.1 = σ.2.1 + 33) := by
  have b0 : bigs X σ s 0 := fun k hk => absurd hk (Nat.not_lt_zero _)
  have fr : ∀ q, q ≠ a → q < s → look σ q = look σ q := fun _ _ _ => rfl
  refine Calls.of rfl (lk rfl) ?_
  refine wa_aload_n q_X5_init_0 rfl ?_
  refine wa_objInit q_X5_init_1 o_RX5_1 (lk rfl) (lk rfl) ?_
  refine wa_aload_n q_X5_init_4 rfl ?_
  refine wn_big q_X5_init_5 n_RX5_7 q_X5_init_8 q_X5_init_9 g_X5_init_9 w_X1_init (lk rfl) (fun σ0a x0 y0 c0 d0 e0 => ?_)
  have ha0 := (c0 a (by omega) (by omega)).trans ha
  have g0 : bigs X σ0a s 1 := b0.add (by omega) x0 y0 c0
  refine wn_putF q_X5_init_12 p_RX5_10 rfl (fun C T N w => by cases w; rfl) ha0 (lk rfl) rfl rfl rfl (fun σ0b p0 q0 u0 v0 => ?_)
  have h0 : bigs X σ0b s 1 := g0.keep (by omega) q0
  have fr0 : ∀ q, q ≠ a → q < s → look σ0b q = look σ q := fun q w1 w2 => (q0 q w1).trans ((c0 q (by omega) (by omega)).trans (fr q w1 w2))
  refine wa_aload_n q_X5_init_15 rfl ?_
  refine wn_big q_X5_init_16 n_RX5_7 q_X5_init_19 q_X5_init_20 g_X5_init_20 w_X1_init (lk rfl) (fun σ1a x1 y1 c1 d1 e1 => ?_)
  have ha1 := (c1 a (by omega) (by omega)).trans p0
  have g1 : bigs X σ1a s 2 := h0.add (by omega) x1 y1 c1
  refine wn_putF q_X5_init_23 p_RX5_16 rfl (fun C T N w => by cases w; rfl) ha1 (lk rfl) rfl rfl rfl (fun σ1b p1 q1 u1 v1 => ?_)
  have h1 : bigs X σ1b s 2 := g1.keep (by omega) q1
  have fr1 : ∀ q, q ≠ a → q < s → look σ1b q = look σ q := fun q w1 w2 => (q1 q w1).trans ((c1 q (by omega) (by omega)).trans (fr0 q w1 w2))
  refine wa_aload_n q_X5_init_26 rfl ?_
  refine wn_big q_X5_init_27 n_RX5_7 q_X5_init_30 q_X5_init_31 g_X5_init_31 w_X1_init (lk rfl) (fun σ2a x2 y2 c2 d2 e2 => ?_)
  have ha2 := (c2 a (by omega) (by omega)).trans p1
  have g2 : bigs X σ2a s 3 := h1.add (by omega) x2 y2 c2
  refine wn_putF q_X5_init_34 p_RX5_19 rfl (fun C T N w => by cases w; rfl) ha2 (lk rfl) rfl rfl rfl (fun σ2b p2 q2 u2 v2 => ?_)
  have h2 : bigs X σ2b s 3 := g2.keep (by omega) q2
  have fr2 : ∀ q, q ≠ a → q < s → look σ2b q = look σ q := fun q w1 w2 => (q2 q w1).trans ((c2 q (by omega) (by omega)).trans (fr1 q w1 w2))
  refine wa_vret q_X5_init_37 rfl ?_
  refine ⟨rfl, ?_, h2, fr2, by omega, by omega⟩
  rw [p2]
  simp only [List.set_cons_succ, List.set_cons_zero]
  rw [(show σ.1 = s from hs), (show σ0b.1 = s + 2 from by omega), (show σ1b.1 = s + 4 from by omega)]
end ctor
