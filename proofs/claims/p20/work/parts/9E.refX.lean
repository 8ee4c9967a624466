/-! The reference: its constructor -/
def M0 (a s i : Nat) : Nat := if i = 0 then a else if i = 11 then s + 8 else if i = 14 then s + 9 else s + i - 1
section ref42
variable {X : en_X} {y : en_M} {ρ σ : en_S} {pc nx : Nat} {lv : List (Nat × Value)} {st : List Value} {Q : Option Value → en_S → Prop}
theorem wn_newg {N : Nat} (q : decode y.2.1 pc = .ok (.newarray .int, 2) ∧ pc + 2 = nx) (hN : N ≤ 100000000)
    (kw : ∀ σ1 : en_S, look σ1 σ.1 = some (gA X N (fun _ => 0)) → (∀ b, b ≠ σ.1 → look σ1 b = look σ b) → σ1.1 = σ.1 + 1 → σ1.2.1 = σ.2.1 + N → WA X y ρ nx lv (.ref σ.1 :: st) σ1 Q) : WA X y ρ pc lv (.int (nI N) :: st) σ Q :=
  wa_newi (N := N) q (nI_pos (by omega)) (nI_clamp (by omega)) hN (kw _ look_fresh (fun _ hb => look_old hb) rfl rfl)
theorem wn_newL {N : Nat} (q : decode y.2.1 pc = .ok (.newarray .long, 2) ∧ pc + 2 = nx) (hN : N ≤ 10000000)
    (kw : ∀ σ1 : en_S, look σ1 σ.1 = some (gL X N (fun _ => 0)) → (∀ b, b ≠ σ.1 → look σ1 b = look σ b) → σ1.1 = σ.1 + 1 → σ1.2.1 = σ.2.1 + N → WA X y ρ nx lv (.ref σ.1 :: st) σ1 Q) : WA X y ρ pc lv (.int (nI N) :: st) σ Q :=
  wa_newl (N := N) q (nI_pos (by omega)) (nI_clamp (by omega)) hN (kw _ look_fresh (fun _ hb => look_old hb) rfl rfl)
theorem wn_newZ {N : Nat} (q : decode y.2.1 pc = .ok (.newarray .boolean, 2) ∧ pc + 2 = nx) (hN : N ≤ 100000000)
    (kw : ∀ σ1 : en_S, look σ1 σ.1 = some (gZ X N (fun _ => false)) → (∀ b, b ≠ σ.1 → look σ1 b = look σ b) → σ1.1 = σ.1 + 1 → σ1.2.1 = σ.2.1 + N → WA X y ρ nx lv (.ref σ.1 :: st) σ1 Q) : WA X y ρ pc lv (.int (nI N) :: st) σ Q :=
  wa_newz (N := N) q (nI_pos (by omega)) (nI_clamp (by omega)) hN (kw _ look_fresh (fun _ hb => look_old hb) rfl rfl)
end ref42
section ref43
variable {X : en_X} {σ : en_S}
theorem C_X7_init {a s : Nat} (ha : look σ a = some (.inr (7, [.int 0, .null, .null, .null, .null, .null, .null, .null, .null, .int 0, .int 0, .null, .int 0, .int 0, .null]))) (hal : a < σ.1) (hs : σ.1 = s) :
    Calls X M_X7_init [.ref a] σ (fun res τ => res = none ∧ τ.1 = s + 10 ∧ τ.2.1 = σ.2.1 + 45460 ∧ (∀ q, q ≠ a → q < s → look τ q = look σ q) ∧ mW X τ (M0 a s) 0 (fun _ => 0) (fun _ => 0) (fun _ => 0) (fun _ => 0) (fun _ => 0) false 0 0 0 0 (fun _ => 0) 0) := by
  refine Calls.of rfl (lk rfl) ?_
  refine wa_aload_n q_X7_init_0 rfl ?_
  refine wa_objInit q_X7_init_1 o_RX7_1 (lk rfl) (lk rfl) ?_
  refine wa_aload_n q_X7_init_4 rfl ?_
  refine wa_ldc q_X7_init_5 k_RX7_7 ?_
  refine wn_newi q_X7_init_7 (by decide) (fun σ0a x0 y0 c0 d0 => ?_)
  rw [hs] at x0 y0
  have n0 : σ0a.1 = s + 1 := by omega
  have h0 := (y0 a (by omega)).trans ha
  refine wn_putF q_X7_init_9 p_RX7_8 rfl (fun C T N w => by cases w; rfl) h0 (lk rfl) rfl rfl rfl (fun σ0b p0 f0 u0 v0 => ?_)
  have m0 : σ0b.1 = s + 1 := by omega
  have t0 : σ0b.2.1 = σ.2.1 + 44800 := by omega
  have z0 : ∀ q, q ≠ a → q < s → look σ0b q = look σ q := fun q w1 w2 => (f0 q w1).trans (y0 q (by omega))
  have r0_0 : look σ0b (s + 0) = some (ar X 44800 (fun _ => 0)) := (f0 s (by omega)).trans x0
  refine wa_aload_n q_X7_init_12 rfl ?_
  refine wa_sipush q_X7_init_13 (v := nI 140) (by decide) ?_
  refine wn_newi q_X7_init_16 (by decide) (fun σ1a x1 y1 c1 d1 => ?_)
  rw [m0] at x1 y1
  have n1 : σ1a.1 = s + 2 := by omega
  have h1 := (y1 a (by omega)).trans p0
  refine wn_putF q_X7_init_18 p_RX7_14 rfl (fun C T N w => by cases w; rfl) h1 (lk rfl) rfl rfl rfl (fun σ1b p1 f1 u1 v1 => ?_)
  have m1 : σ1b.1 = s + 2 := by omega
  have t1 : σ1b.2.1 = σ.2.1 + 44940 := by omega
  have z1 : ∀ q, q ≠ a → q < s → look σ1b q = look σ q := fun q w1 w2 => (f1 q w1).trans ((y1 q (by omega)).trans (z0 q w1 w2))
  have r1_0 := (f1 (s + 0) (by omega)).trans ((y1 (s + 0) (by omega)).trans r0_0)
  have r1_1 : look σ1b (s + 1) = some (ar X 140 (fun _ => 0)) := (f1 (s + 1) (by omega)).trans x1
  clear r0_0 z0 p0
  refine wa_aload_n q_X7_init_21 rfl ?_
  refine wa_sipush q_X7_init_22 (v := nI 140) (by decide) ?_
  refine wn_newg q_X7_init_25 (by decide) (fun σ2a x2 y2 c2 d2 => ?_)
  rw [m1] at x2 y2
  have n2 : σ2a.1 = s + 3 := by omega
  have h2 := (y2 a (by omega)).trans p1
  refine wn_putF q_X7_init_27 p_RX7_17 rfl (fun C T N w => by cases w; rfl) h2 (lk rfl) rfl rfl rfl (fun σ2b p2 f2 u2 v2 => ?_)
  have m2 : σ2b.1 = s + 3 := by omega
  have t2 : σ2b.2.1 = σ.2.1 + 45080 := by omega
  have z2 : ∀ q, q ≠ a → q < s → look σ2b q = look σ q := fun q w1 w2 => (f2 q w1).trans ((y2 q (by omega)).trans (z1 q w1 w2))
  have r2_0 := (f2 (s + 0) (by omega)).trans ((y2 (s + 0) (by omega)).trans r1_0)
  have r2_1 := (f2 (s + 1) (by omega)).trans ((y2 (s + 1) (by omega)).trans r1_1)
  have r2_2 : look σ2b (s + 2) = some (gA X 140 (fun _ => 0)) := (f2 (s + 2) (by omega)).trans x2
  clear r1_0 r1_1 z1 p1
  refine wa_aload_n q_X7_init_30 rfl ?_
  refine wa_bipush q_X7_init_31 (v := nI 60) (by decide) ?_
  refine wn_newg q_X7_init_33 (by decide) (fun σ3a x3 y3 c3 d3 => ?_)
  rw [m2] at x3 y3
  have n3 : σ3a.1 = s + 4 := by omega
  have h3 := (y3 a (by omega)).trans p2
  refine wn_putF q_X7_init_35 p_RX7_20 rfl (fun C T N w => by cases w; rfl) h3 (lk rfl) rfl rfl rfl (fun σ3b p3 f3 u3 v3 => ?_)
  have m3 : σ3b.1 = s + 4 := by omega
  have t3 : σ3b.2.1 = σ.2.1 + 45140 := by omega
  have z3 : ∀ q, q ≠ a → q < s → look σ3b q = look σ q := fun q w1 w2 => (f3 q w1).trans ((y3 q (by omega)).trans (z2 q w1 w2))
  have r3_0 := (f3 (s + 0) (by omega)).trans ((y3 (s + 0) (by omega)).trans r2_0)
  have r3_1 := (f3 (s + 1) (by omega)).trans ((y3 (s + 1) (by omega)).trans r2_1)
  have r3_2 := (f3 (s + 2) (by omega)).trans ((y3 (s + 2) (by omega)).trans r2_2)
  have r3_3 : look σ3b (s + 3) = some (gA X 60 (fun _ => 0)) := (f3 (s + 3) (by omega)).trans x3
  clear r2_0 r2_1 r2_2 z2 p2
  refine wa_aload_n q_X7_init_38 rfl ?_
  refine wa_bipush q_X7_init_39 (v := nI 60) (by decide) ?_
  refine wn_newL q_X7_init_41 (by decide) (fun σ4a x4 y4 c4 d4 => ?_)
  rw [m3] at x4 y4
  have n4 : σ4a.1 = s + 5 := by omega
  have h4 := (y4 a (by omega)).trans p3
  refine wn_putF q_X7_init_43 p_RX7_23 rfl (fun C T N w => by cases w; rfl) h4 (lk rfl) rfl rfl rfl (fun σ4b p4 f4 u4 v4 => ?_)
  have m4 : σ4b.1 = s + 5 := by omega
  have t4 : σ4b.2.1 = σ.2.1 + 45200 := by omega
  have z4 : ∀ q, q ≠ a → q < s → look σ4b q = look σ q := fun q w1 w2 => (f4 q w1).trans ((y4 q (by omega)).trans (z3 q w1 w2))
  have r4_0 := (f4 (s + 0) (by omega)).trans ((y4 (s + 0) (by omega)).trans r3_0)
  have r4_1 := (f4 (s + 1) (by omega)).trans ((y4 (s + 1) (by omega)).trans r3_1)
  have r4_2 := (f4 (s + 2) (by omega)).trans ((y4 (s + 2) (by omega)).trans r3_2)
  have r4_3 := (f4 (s + 3) (by omega)).trans ((y4 (s + 3) (by omega)).trans r3_3)
  have r4_4 : look σ4b (s + 4) = some (gL X 60 (fun _ => 0)) := (f4 (s + 4) (by omega)).trans x4
  clear r3_0 r3_1 r3_2 r3_3 z3 p3
  refine wa_aload_n q_X7_init_46 rfl ?_
  refine wa_bipush q_X7_init_47 (v := nI 60) (by decide) ?_
  refine wn_newL q_X7_init_49 (by decide) (fun σ5a x5 y5 c5 d5 => ?_)
  rw [m4] at x5 y5
  have n5 : σ5a.1 = s + 6 := by omega
  have h5 := (y5 a (by omega)).trans p4
  refine wn_putF q_X7_init_51 p_RX7_27 rfl (fun C T N w => by cases w; rfl) h5 (lk rfl) rfl rfl rfl (fun σ5b p5 f5 u5 v5 => ?_)
  have m5 : σ5b.1 = s + 6 := by omega
  have t5 : σ5b.2.1 = σ.2.1 + 45260 := by omega
  have z5 : ∀ q, q ≠ a → q < s → look σ5b q = look σ q := fun q w1 w2 => (f5 q w1).trans ((y5 q (by omega)).trans (z4 q w1 w2))
  have r5_0 := (f5 (s + 0) (by omega)).trans ((y5 (s + 0) (by omega)).trans r4_0)
  have r5_1 := (f5 (s + 1) (by omega)).trans ((y5 (s + 1) (by omega)).trans r4_1)
  have r5_2 := (f5 (s + 2) (by omega)).trans ((y5 (s + 2) (by omega)).trans r4_2)
  have r5_3 := (f5 (s + 3) (by omega)).trans ((y5 (s + 3) (by omega)).trans r4_3)
  have r5_4 := (f5 (s + 4) (by omega)).trans ((y5 (s + 4) (by omega)).trans r4_4)
  have r5_5 : look σ5b (s + 5) = some (gL X 60 (fun _ => 0)) := (f5 (s + 5) (by omega)).trans x5
  clear r4_0 r4_1 r4_2 r4_3 r4_4 z4 p4
  refine wa_aload_n q_X7_init_54 rfl ?_
  refine wa_bipush q_X7_init_55 (v := nI 60) (by decide) ?_
  refine wn_newZ q_X7_init_57 (by decide) (fun σ6a x6 y6 c6 d6 => ?_)
  rw [m5] at x6 y6
  have n6 : σ6a.1 = s + 7 := by omega
  have h6 := (y6 a (by omega)).trans p5
  refine wn_putF q_X7_init_59 p_RX7_30 rfl (fun C T N w => by cases w; rfl) h6 (lk rfl) rfl rfl rfl (fun σ6b p6 f6 u6 v6 => ?_)
  have m6 : σ6b.1 = s + 7 := by omega
  have t6 : σ6b.2.1 = σ.2.1 + 45320 := by omega
  have z6 : ∀ q, q ≠ a → q < s → look σ6b q = look σ q := fun q w1 w2 => (f6 q w1).trans ((y6 q (by omega)).trans (z5 q w1 w2))
  have r6_0 := (f6 (s + 0) (by omega)).trans ((y6 (s + 0) (by omega)).trans r5_0)
  have r6_1 := (f6 (s + 1) (by omega)).trans ((y6 (s + 1) (by omega)).trans r5_1)
  have r6_2 := (f6 (s + 2) (by omega)).trans ((y6 (s + 2) (by omega)).trans r5_2)
  have r6_3 := (f6 (s + 3) (by omega)).trans ((y6 (s + 3) (by omega)).trans r5_3)
  have r6_4 := (f6 (s + 4) (by omega)).trans ((y6 (s + 4) (by omega)).trans r5_4)
  have r6_5 := (f6 (s + 5) (by omega)).trans ((y6 (s + 5) (by omega)).trans r5_5)
  have r6_6 : look σ6b (s + 6) = some (gZ X 60 (fun _ => false)) := (f6 (s + 6) (by omega)).trans x6
  clear r5_0 r5_1 r5_2 r5_3 r5_4 r5_5 z5 p5
  refine wa_aload_n q_X7_init_62 rfl ?_
  refine wa_bipush q_X7_init_63 (v := nI 60) (by decide) ?_
  refine wn_newZ q_X7_init_65 (by decide) (fun σ7a x7 y7 c7 d7 => ?_)
  rw [m6] at x7 y7
  have n7 : σ7a.1 = s + 8 := by omega
  have h7 := (y7 a (by omega)).trans p6
  refine wn_putF q_X7_init_67 p_RX7_34 rfl (fun C T N w => by cases w; rfl) h7 (lk rfl) rfl rfl rfl (fun σ7b p7 f7 u7 v7 => ?_)
  have m7 : σ7b.1 = s + 8 := by omega
  have t7 : σ7b.2.1 = σ.2.1 + 45380 := by omega
  have z7 : ∀ q, q ≠ a → q < s → look σ7b q = look σ q := fun q w1 w2 => (f7 q w1).trans ((y7 q (by omega)).trans (z6 q w1 w2))
  have r7_0 := (f7 (s + 0) (by omega)).trans ((y7 (s + 0) (by omega)).trans r6_0)
  have r7_1 := (f7 (s + 1) (by omega)).trans ((y7 (s + 1) (by omega)).trans r6_1)
  have r7_2 := (f7 (s + 2) (by omega)).trans ((y7 (s + 2) (by omega)).trans r6_2)
  have r7_3 := (f7 (s + 3) (by omega)).trans ((y7 (s + 3) (by omega)).trans r6_3)
  have r7_4 := (f7 (s + 4) (by omega)).trans ((y7 (s + 4) (by omega)).trans r6_4)
  have r7_5 := (f7 (s + 5) (by omega)).trans ((y7 (s + 5) (by omega)).trans r6_5)
  have r7_6 := (f7 (s + 6) (by omega)).trans ((y7 (s + 6) (by omega)).trans r6_6)
  have r7_7 : look σ7b (s + 7) = some (gZ X 60 (fun _ => false)) := (f7 (s + 7) (by omega)).trans x7
  clear r6_0 r6_1 r6_2 r6_3 r6_4 r6_5 r6_6 z6 p6
  refine wa_aload_n q_X7_init_70 rfl ?_
  refine wa_bipush q_X7_init_71 (v := nI 40) (by decide) ?_
  refine wn_newL q_X7_init_73 (by decide) (fun σ8a x8 y8 c8 d8 => ?_)
  rw [m7] at x8 y8
  have n8 : σ8a.1 = s + 9 := by omega
  have h8 := (y8 a (by omega)).trans p7
  refine wn_putF q_X7_init_75 p_RX7_37 rfl (fun C T N w => by cases w; rfl) h8 (lk rfl) rfl rfl rfl (fun σ8b p8 f8 u8 v8 => ?_)
  have m8 : σ8b.1 = s + 9 := by omega
  have t8 : σ8b.2.1 = σ.2.1 + 45420 := by omega
  have z8 : ∀ q, q ≠ a → q < s → look σ8b q = look σ q := fun q w1 w2 => (f8 q w1).trans ((y8 q (by omega)).trans (z7 q w1 w2))
  have r8_0 := (f8 (s + 0) (by omega)).trans ((y8 (s + 0) (by omega)).trans r7_0)
  have r8_1 := (f8 (s + 1) (by omega)).trans ((y8 (s + 1) (by omega)).trans r7_1)
  have r8_2 := (f8 (s + 2) (by omega)).trans ((y8 (s + 2) (by omega)).trans r7_2)
  have r8_3 := (f8 (s + 3) (by omega)).trans ((y8 (s + 3) (by omega)).trans r7_3)
  have r8_4 := (f8 (s + 4) (by omega)).trans ((y8 (s + 4) (by omega)).trans r7_4)
  have r8_5 := (f8 (s + 5) (by omega)).trans ((y8 (s + 5) (by omega)).trans r7_5)
  have r8_6 := (f8 (s + 6) (by omega)).trans ((y8 (s + 6) (by omega)).trans r7_6)
  have r8_7 := (f8 (s + 7) (by omega)).trans ((y8 (s + 7) (by omega)).trans r7_7)
  have r8_8 : look σ8b (s + 8) = some (gL X 40 (fun _ => 0)) := (f8 (s + 8) (by omega)).trans x8
  clear r7_0 r7_1 r7_2 r7_3 r7_4 r7_5 r7_6 r7_7 z7 p7
  refine wa_aload_n q_X7_init_78 rfl ?_
  refine wa_bipush q_X7_init_79 (v := nI 40) (by decide) ?_
  refine wn_newL q_X7_init_81 (by decide) (fun σ9a x9 y9 c9 d9 => ?_)
  rw [m8] at x9 y9
  have n9 : σ9a.1 = s + 10 := by omega
  have h9 := (y9 a (by omega)).trans p8
  refine wn_putF q_X7_init_83 p_RX7_40 rfl (fun C T N w => by cases w; rfl) h9 (lk rfl) rfl rfl rfl (fun σ9b p9 f9 u9 v9 => ?_)
  have m9 : σ9b.1 = s + 10 := by omega
  have t9 : σ9b.2.1 = σ.2.1 + 45460 := by omega
  have z9 : ∀ q, q ≠ a → q < s → look σ9b q = look σ q := fun q w1 w2 => (f9 q w1).trans ((y9 q (by omega)).trans (z8 q w1 w2))
  have r9_0 := (f9 (s + 0) (by omega)).trans ((y9 (s + 0) (by omega)).trans r8_0)
  have r9_1 := (f9 (s + 1) (by omega)).trans ((y9 (s + 1) (by omega)).trans r8_1)
  have r9_2 := (f9 (s + 2) (by omega)).trans ((y9 (s + 2) (by omega)).trans r8_2)
  have r9_3 := (f9 (s + 3) (by omega)).trans ((y9 (s + 3) (by omega)).trans r8_3)
  have r9_4 := (f9 (s + 4) (by omega)).trans ((y9 (s + 4) (by omega)).trans r8_4)
  have r9_5 := (f9 (s + 5) (by omega)).trans ((y9 (s + 5) (by omega)).trans r8_5)
  have r9_6 := (f9 (s + 6) (by omega)).trans ((y9 (s + 6) (by omega)).trans r8_6)
  have r9_7 := (f9 (s + 7) (by omega)).trans ((y9 (s + 7) (by omega)).trans r8_7)
  have r9_8 := (f9 (s + 8) (by omega)).trans ((y9 (s + 8) (by omega)).trans r8_8)
  have r9_9 : look σ9b (s + 9) = some (gL X 40 (fun _ => 0)) := (f9 (s + 9) (by omega)).trans x9
  clear r8_0 r8_1 r8_2 r8_3 r8_4 r8_5 r8_6 r8_7 r8_8 z8 p8
  refine wa_vret q_X7_init_86 rfl ?_
  rw [hs, m0, m1, m2, m3, m4, m5, m6, m7, m8] at p9
  refine ⟨rfl, m9, t9, z9, nI 0, (fun _ => 0), (fun _ => 0), (fun _ => 0), (fun _ => 0), (fun _ => 0), (fun _ => 0), (fun _ => 0), (fun _ => false), (fun _ => false), (fun _ => 0), (fun _ => 0), ⟨⟨p9, r9_0, r9_1, r9_2, ?_, ?_, ?_⟩, fun r hr => ?_⟩, ⟨r9_3, r9_4, r9_5, r9_6, r9_7, r9_8, r9_9, ?_⟩, ⟨by decide, by decide, by decide⟩, fun i hi => absurd hi (Nat.not_lt_zero _), ⟨rfl, rfl, rfl⟩, fun j _ => (show (0 : Int64) = lZ 0 by decide)⟩
  · show s + 1 - 1 ≠ s + 2 - 1; omega
  · show s + 1 - 1 ≠ s + 3 - 1; omega
  · show s + 2 - 1 ≠ s + 3 - 1; omega
  · exact ⟨rfl, rfl, ⟨fun i hi => absurd hi (Nat.not_lt_zero _), Or.inl rfl⟩, Nat.zero_le _⟩
  · intro i hi j hj hij
    have e : ∀ k, k ∈ arrs → M0 a s k = s + (if k = 11 then 8 else if k = 14 then 9 else k - 1) ∧ 1 ≤ k ∧ (k ≤ 8 ∨ k = 11 ∨ k = 14) := by
      intro k hk
      have hk2 : k = 1 ∨ k = 2 ∨ k = 3 ∨ k = 4 ∨ k = 5 ∨ k = 6 ∨ k = 7 ∨ k = 8 ∨ k = 11 ∨ k = 14 := by
        simpa [arrs] using hk
      rcases hk2 with q | q | q | q | q | q | q | q | q | q <;> subst q <;> exact ⟨by unfold M0; simp; try omega, by decide, by decide⟩
    obtain ⟨a1, a2, a3⟩ := e i hi
    obtain ⟨b1, b2, b3⟩ := e j hj
    rw [a1, b1]
    split <;> split <;> (try split) <;> (try split) <;> omega
end ref43
