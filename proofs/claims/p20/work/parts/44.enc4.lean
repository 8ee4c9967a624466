/-! EnclosedDigits$Encloser: fillRoot -/
section enc4
variable {X : en_X} {σ : en_S} {z : Nat → Nat} {N : Nat} {S : Nat → en_B} {U : Nat → Int} {e bn se : Nat}
theorem Z_root {i j : Nat} (h : zW X z N σ S U) (hb : look σ bn = some (nE (z 5) (z 6) (z 7) (z 8) (z 9))) (hbl : bn < σ.1) (hN : 10 ≤ N) (hi : i < N) (hj : j < N) (ci : i < 5 ∨ 10 ≤ i) (cj : j < 5 ∨ 10 ≤ j) (hij : i ≠ j) (hz : (U i).natAbs < BB ^ 150) :
    Calls X M_X0_squareRoot [.ref bn, .ref (z i), .ref (z j)] σ (fun res τ => ∃ r, isq (U i).toNat r ∧ res = some (.int (nI (if r * r < (U i).toNat then 1 else 0))) ∧ ∃ S' U', zW X z N τ S' U' ∧ U' j = (r : Int) ∧ (∀ k, k < 5 ∨ 10 ≤ k → k ≠ j → U' k = U k) ∧ bw_St (zD z N) σ S τ S') := by
  rcases Int.lt_or_le (U i) 0 with hn | hn
  · have i1 := h.big hj
    refine Calls.of rfl (lk rfl) ?_
    refine wa_aload_n q_X0_squareRoot_0 rfl ?_
    refine wa_callV q_X0_squareRoot_1 g_X0_squareRoot_1 w_X1_clear (by assumption) rfl (av := []) rfl rfl (lk rfl) (Calls.mono (Z_clear h hj) ?_)
    rintro _ σ1 ⟨rfl, S1, w1, t1⟩
    have i2 := w1.big hi
    rw [uV_n hij] at i2
    refine wa_aload_n q_X0_squareRoot_4 rfl ?_
    refine wa_getf q_X0_squareRoot_5 f_RX0_34 (by assumption) rfl ?_
    refine wa_if_gt q_X0_squareRoot_8 (fun hc => ?_) (fun hc => ?_)
    · rcases sgI_c (U i) with ⟨q, g⟩ | ⟨q, g⟩ | ⟨q, g⟩
      · rw [g] at hc; exact absurd hc (by decide)
      · omega
      · omega
    · refine wa_iconst q_X0_squareRoot_11 (v := nI 0) (by decide) ?_
      refine wa_zret q_X0_squareRoot_12 rfl rfl ?_
      have e0 : (U i).toNat = 0 := by omega
      refine ⟨0, by rw [e0]; exact ⟨Nat.le_refl _, by decide⟩, by rw [e0]; rfl, S1, _, w1, by rw [uV_s]; rfl, fun k _ kj => uV_n kj, t1⟩
  · obtain ⟨h0, V, h1, h2⟩ := h
    refine Calls.mono (V_root (N := (U i).toNat) h1 hb hbl (zD_m (by omega)) (zD_m (by omega)) (zD_m (by omega)) (zD_m (by omega)) (zD_m (by omega)) (zD_m hi) (zD_m hj) ?_ (by omega) (by rw [h2 i hi]; omega)) ?_
    · simp only [List.nodup_cons, List.mem_cons, not_or, List.not_mem_nil, not_false_eq_true, List.nodup_nil, and_true]
      refine ⟨⟨?_, ?_, ?_, ?_, ?_, ?_⟩, ⟨?_, ?_, ?_, ?_, ?_⟩, ⟨?_, ?_, ?_, ?_⟩, ⟨?_, ?_, ?_⟩, ⟨?_, ?_⟩, ?_⟩ <;> exact h0.ne (by omega) (by omega) (by omega)
    rintro res τ ⟨r, r1, r2, S', V', k1, k2, k3, k4⟩
    obtain ⟨U', u1, u2, u3⟩ := zW.of h0 k1 h2 [5, 6, 7, 8, 9, j] (fun k hk => by simp at hk; omega) (fun x hx => by simp only [List.map_cons, List.map_nil, List.mem_cons, List.not_mem_nil, or_false, not_or] at hx; exact k3 x hx.1 hx.2.1 hx.2.2.1 hx.2.2.2.1 hx.2.2.2.2.1 hx.2.2.2.2.2)
    exact ⟨r, r1, r2, S', U', u1, (u2 j hj).trans k2, fun k q1 q2 => u3 k (by simp; omega), k4⟩
theorem isq_lt {n r k : Nat} (h : isq n r) (hn : n < BB ^ k) : r < BB ^ k := by
  have : r ≤ r * r := by
    rcases Nat.eq_zero_or_pos r with q | q
    · omega
    · exact Nat.le_mul_of_pos_left r q
  have := h.1
  omega
/-- both ends of a root -/
def isRt (l h : Int) (p : Nat) (L H : Int) : Prop := ∃ r s, isq (l * 10 ^ p).toNat r ∧ isq (h * 10 ^ p).toNat s ∧ L = (r : Int) ∧ H = (if s * s < (h * 10 ^ p).toNat then ((s + 1 : Nat) : Int) else (s : Int))
theorem op_lt {a : Int} {p : Nat} (ha : a.natAbs < BB ^ 90) (hp : p ≤ 480) : (a * 10 ^ p).natAbs < BB ^ 150 := by
  rw [Int.natAbs_mul, Int.natAbs_pow]
  have q1 : a.natAbs * (10 : Int).natAbs ^ p ≤ BB ^ 90 * BB ^ 54 := Nat.mul_le_mul (Nat.le_of_lt ha) (p10_lt hp)
  rw [← Nat.pow_add] at q1
  exact Nat.lt_of_le_of_lt q1 ((Nat.pow_lt_pow_iff_right (by decide)).mpr (by decide))
set_option maxHeartbeats 1000000 in
theorem G_root {v l v1 l1 p : Nat} {kd f s at' fa kd1 f1 s1 at1 op1 fa1 : Int32} {a b a1 b1 : Int} (h : zW X z N σ S U) (ho : eO σ z e bn se) (hv : vO σ z v l kd a b f s at' 0 fa) (hvl : v < σ.1) (hv1 : vO σ z v1 l1 kd1 a1 b1 f1 s1 at1 op1 fa1) (hvl1 : v1 < σ.1) (h10 : 10 ≤ l1) (hl : l + 3 ≤ N) (hl1 : l1 + 3 ≤ l) (hp : p ≤ 480)
    (z1 : (U l1).natAbs < BB ^ 90) (z2 : (U (l1 + 1)).natAbs < BB ^ 90) :
    Calls X M_X2_fillRoot [.ref e, .ref v, .ref v1, .int (nI p)] σ (fun res τ => res = none ∧ ((U (l1 + 1) < 0 ∧ vO τ z v l kd a b f s at' 1 fa ∧ (∀ q, q ≠ v → look τ q = look σ q) ∧ τ.1 = σ.1 ∧ τ.2.1 = σ.2.1) ∨ (0 ≤ U (l1 + 1) ∧ ∃ L H, isRt (U l1) (U (l1 + 1)) p L H ∧ Fil X z N σ S U l L H τ))) := by
  obtain ⟨ho1, ho2, ho3, ho4⟩ := ho
  have hsm : ∀ {x : Int}, x.natAbs < BB ^ 90 → x.natAbs * 10 ^ p < BB ^ 250 := fun {x} hx => by
    have := op_lt hx hp
    rw [Int.natAbs_mul, Int.natAbs_pow] at this
    exact lp_le this (by decide)
  have i0 := h.big (i := l1 + 1) (by omega)
  refine Calls.of rfl (lk rfl) ?_
  refine wa_aload_n q_X2_fillRoot_0 rfl ?_
  refine wa_getf q_X2_fillRoot_1 f_RX2_114 (by assumption) rfl ?_
  refine wa_getf q_X2_fillRoot_4 f_RX2_169 (by assumption) rfl ?_
  refine wa_if_ge q_X2_fillRoot_7 (fun hc => ?_) (fun hc => ?_)
  · have hnn : 0 ≤ U (l1 + 1) := by
      rcases sgI_c (U (l1 + 1)) with ⟨q, g⟩ | ⟨q, g⟩ | ⟨q, g⟩
      · rw [g] at hc; exact absurd hc (by decide)
      · omega
      · omega
    have i1 := h.big (i := 2) (by omega)
    refine wa_aload_n q_X2_fillRoot_16 rfl ?_
    refine wa_getf q_X2_fillRoot_17 f_RX2_35 (by assumption) rfl ?_
    refine wa_aload_n q_X2_fillRoot_20 rfl ?_
    refine wa_getf q_X2_fillRoot_21 f_RX2_107 (by assumption) rfl ?_
    refine wa_callV q_X2_fillRoot_24 g_X2_fillRoot_24 w_X1_copy (by assumption) rfl (av := [_]) rfl rfl (lk rfl) (Calls.mono (Z_copy h (i := 2) (j := l1) (by omega) (by omega) (by omega) (lp_le z1 (by decide))) ?_)
    rintro _ σ1 ⟨rfl, S1, w1, t1⟩
    obtain ⟨ho1, ho2, ho3, ho4⟩ := eO.st ⟨ho1, ho2, ho3, ho4⟩ t1 h.R
    have hv := bw_obj t1 h.R hvl hv (by decide)
    have hvl := Nat.lt_of_lt_of_le hvl t1.1
    have hv1 := bw_obj t1 h.R hvl1 hv1 (by decide)
    have hvl1 := Nat.lt_of_lt_of_le hvl1 t1.1
    have i2 := w1.big (i := 2) (by omega)
    refine wa_aload_n q_X2_fillRoot_27 rfl ?_
    refine wa_getf q_X2_fillRoot_28 f_RX2_35 (by assumption) rfl ?_
    refine wa_iload_n q_X2_fillRoot_31 rfl ?_
    refine wa_callV q_X2_fillRoot_32 g_X2_fillRoot_32 w_X1_shiftUp (by assumption) rfl (av := [_]) rfl rfl (lk rfl) (Calls.mono (Z_shiftUp w1 (i := 2) (by omega) (by omega) (by rw [uV_s]; exact hsm z1)) ?_)
    rintro _ σ2 ⟨rfl, S2, w2, t2⟩
    rw [uV_s] at w2
    obtain ⟨ho1, ho2, ho3, ho4⟩ := eO.st ⟨ho1, ho2, ho3, ho4⟩ t2 w1.R
    have hv := bw_obj t2 w1.R hvl hv (by decide)
    have hvl := Nat.lt_of_lt_of_le hvl t2.1
    have hv1 := bw_obj t2 w1.R hvl1 hv1 (by decide)
    have hvl1 := Nat.lt_of_lt_of_le hvl1 t2.1
    refine wa_aload_n q_X2_fillRoot_35 rfl ?_
    refine wa_getf q_X2_fillRoot_36 f_RX2_12 (by assumption) rfl ?_
    refine wa_aload_n q_X2_fillRoot_39 rfl ?_
    refine wa_getf q_X2_fillRoot_40 f_RX2_35 (by assumption) rfl ?_
    refine wa_aload_n q_X2_fillRoot_43 rfl ?_
    refine wa_getf q_X2_fillRoot_44 f_RX2_107 (by assumption) rfl ?_
    refine wa_callV q_X2_fillRoot_47 g_X2_fillRoot_47 w_X0_squareRoot (by assumption) rfl (av := [_, _]) rfl rfl (lk rfl) (Calls.mono (Z_root w2 ho3 ho4 (i := 2) (j := l) (by omega) (by omega) (by omega) (by omega) (by omega) (by omega) (by rw [uV_s]; exact op_lt z1 hp)) ?_)
    rintro _ σ3 ⟨r, hr, rfl, S3, U3, w3, x1, x2, t3⟩
    rw [uV_s] at hr
    rw [uV_s]
    have hr1 : r < BB ^ 150 := isq_lt hr (by have := op_lt z1 hp; omega)
    obtain ⟨ho1, ho2, ho3, ho4⟩ := eO.st ⟨ho1, ho2, ho3, ho4⟩ t3 w2.R
    have hv := bw_obj t3 w2.R hvl hv (by decide)
    have hvl := Nat.lt_of_lt_of_le hvl t3.1
    have hv1 := bw_obj t3 w2.R hvl1 hv1 (by decide)
    have hvl1 := Nat.lt_of_lt_of_le hvl1 t3.1
    have y3 : ∀ k, 10 ≤ k → k ≠ l → U3 k = U k := fun k k1 k2 => by rw [x2 k (by omega) k2, uV_n (by omega), uV_n (by omega)]
    have i4 := w3.big (i := l + 1) (by omega)
    refine wa_istore q_X2_fillRoot_50 (by decide) ?_
    refine wa_aload_n q_X2_fillRoot_52 rfl ?_
    refine wa_getf q_X2_fillRoot_53 f_RX2_114 (by assumption) rfl ?_
    refine wa_aload_n q_X2_fillRoot_56 rfl ?_
    refine wa_getf q_X2_fillRoot_57 f_RX2_107 (by assumption) rfl ?_
    refine wa_callV q_X2_fillRoot_60 g_X2_fillRoot_60 w_X1_copy (by assumption) rfl (av := [_]) rfl rfl (lk rfl) (Calls.mono (Z_copy w3 (i := l + 1) (j := l) (by omega) (by omega) (by omega) (by rw [x1, Int.natAbs_natCast]; exact lp_le hr1 (by decide))) ?_)
    rintro _ σ4 ⟨rfl, S4, w4, t4⟩
    rw [x1] at w4
    obtain ⟨ho1, ho2, ho3, ho4⟩ := eO.st ⟨ho1, ho2, ho3, ho4⟩ t4 w3.R
    have hv := bw_obj t4 w3.R hvl hv (by decide)
    have hvl := Nat.lt_of_lt_of_le hvl t4.1
    have hv1 := bw_obj t4 w3.R hvl1 hv1 (by decide)
    have hvl1 := Nat.lt_of_lt_of_le hvl1 t4.1
    have y4 : ∀ k, 10 ≤ k → k ≠ l → k ≠ l + 1 → uV U3 (l + 1) r k = U k := fun k k1 k2 k3 => by rw [uV_n k3]; exact y3 k k1 k2
    have yl : uV U3 (l + 1) r l = (r : Int) := by rw [uV_n (by omega)]; exact x1
    have yh : uV U3 (l + 1) r (l + 1) = (r : Int) := uV_s
    obtain ⟨U4, hU4⟩ : ∃ U4, U4 = uV U3 (l + 1) r := ⟨_, rfl⟩
    rw [← hU4] at w4 y4 yl yh
    clear hU4
    have sA := t1.tr (t2.tr (t3.tr t4))
    -- the end: one more where the square is less
    have hend : ∀ (σ5 : en_S) (S5 : Nat → en_B) (U5 : Nat → Int) (r2 : Nat), zW X z N σ5 S5 U5 → vO σ5 z v l kd a b f s at' 0 fa → isq (U (l1 + 1) * 10 ^ p).toNat r2 → U5 l = (r : Int) → U5 (l + 1) = (r2 : Int) → (∀ k, 10 ≤ k → k ≠ l → k ≠ l + 1 → U5 k = U k) → bw_St (zD z N) σ S σ5 S5 →
        WA X M_X2_fillRoot σ 106 [(4, .int (nI (if r2 * r2 < (U (l1 + 1) * 10 ^ p).toNat then 1 else 0))), (0, .ref e), (1, .ref v), (2, .ref v1), (3, .int (nI p))] [] σ5 (fun res τ => res = none ∧ ((U (l1 + 1) < 0 ∧ vO τ z v l kd a b f s at' 1 fa ∧ (∀ q, q ≠ v → look τ q = look σ q) ∧ τ.1 = σ.1 ∧ τ.2.1 = σ.2.1) ∨ (0 ≤ U (l1 + 1) ∧ ∃ L H, isRt (U l1) (U (l1 + 1)) p L H ∧ Fil X z N σ S U l L H τ))) := by
      intro σ5 S5 U5 r2 w5 hv5 hr2 q1 q2 q3 sB
      have hr3 : r2 < BB ^ 150 := isq_lt hr2 (by have := op_lt z2 hp; omega)
      have hif : (if r2 * r2 < (U (l1 + 1) * 10 ^ p).toNat then 1 else 0) < 2 := by split <;> decide
      refine wa_iload q_X2_fillRoot_106 rfl ?_
      refine wn_if_eq q_X2_fillRoot_108 (by omega) (fun hx => ?_) (fun hx => ?_)
      · have hge : ¬ r2 * r2 < (U (l1 + 1) * 10 ^ p).toNat := fun y => by rw [if_pos y] at hx; omega
        refine wa_vret q_X2_fillRoot_119 rfl ?_
        exact ⟨rfl, Or.inr ⟨hnn, _, _, ⟨r, r2, hr, hr2, rfl, by rw [if_neg hge]⟩, S5, U5, w5, q1, q2, q3, sB⟩⟩
      · have hlt : r2 * r2 < (U (l1 + 1) * 10 ^ p).toNat := Classical.byContradiction (fun y => by rw [if_neg y] at hx; omega)
        have i5 := w5.big (i := l + 1) (by omega)
        refine wa_aload_n q_X2_fillRoot_111 rfl ?_
        refine wa_getf q_X2_fillRoot_112 f_RX2_114 (by assumption) rfl ?_
        refine wa_iconst q_X2_fillRoot_115 (v := sgI 1) (by decide) ?_
        refine wa_callV q_X2_fillRoot_116 g_X2_fillRoot_116 w_X1_grow (by assumption) rfl (av := [_]) rfl rfl (lk rfl) (Calls.mono (Z_grow w5 (i := l + 1) (by omega) (Or.inl rfl) (by rw [q2, Int.natAbs_natCast]; exact lp_le hr3 (by decide))) ?_)
        rintro _ σ6 ⟨rfl, S6, w6, t6⟩
        rw [q2] at w6
        refine wa_vret q_X2_fillRoot_119 rfl ?_
        refine ⟨rfl, Or.inr ⟨hnn, _, _, ⟨r, r2, hr, hr2, rfl, by rw [if_pos hlt]⟩, S6, _, w6, by rw [uV_n (by omega)]; exact q1, ?_, fun k k1 k2 k3 => by rw [uV_n k3]; exact q3 k k1 k2 k3, sB.tr t6⟩⟩
        rw [uV_s]; unfold grw; split
        · omega
        · rw [if_neg (by omega)]; omega
    obtain ⟨-, V4, g1, g2⟩ := id w4
    refine wa_aload_n q_X2_fillRoot_63 rfl ?_
    refine wa_callS q_X2_fillRoot_64 g_X2_fillRoot_64 w_X2_isExact (av := [_]) rfl rfl (lk rfl) (Calls.mono (F_exact g1 hv1 (zD_m (by omega)) (zD_m (by omega))) ?_)
    rintro _ _ ⟨rfl, rfl⟩
    rw [g2 l1 (by omega), g2 (l1 + 1) (by omega), y4 l1 (by omega) (by omega) (by omega), y4 (l1 + 1) (by omega) (by omega) (by omega)]
    have hif : (if U l1 = U (l1 + 1) then 1 else 0) < 2 := by split <;> decide
    refine wn_if_ne q_X2_fillRoot_67 (by omega) (fun hx => ?_) (fun hx => ?_)
    · have hex : U l1 = U (l1 + 1) := Classical.byContradiction (fun y => by rw [if_neg y] at hx; omega)
      have eN : (U l1 * 10 ^ p).toNat = (U (l1 + 1) * 10 ^ p).toNat := by rw [hex]
      have hr := hr
      rw [eN] at hr
      rw [eN]
      have hq := hend _ _ _ r w4 hv hr yl yh y4 sA
      refine wa_lv hq ?_
      rfl
    · have i5 := w4.big (i := 2) (by omega)
      refine wa_aload_n q_X2_fillRoot_70 rfl ?_
      refine wa_getf q_X2_fillRoot_71 f_RX2_35 (by assumption) rfl ?_
      refine wa_aload_n q_X2_fillRoot_74 rfl ?_
      refine wa_getf q_X2_fillRoot_75 f_RX2_114 (by assumption) rfl ?_
      refine wa_callV q_X2_fillRoot_78 g_X2_fillRoot_78 w_X1_copy (by assumption) rfl (av := [_]) rfl rfl (lk rfl) (Calls.mono (Z_copy w4 (i := 2) (j := l1 + 1) (by omega) (by omega) (by omega) (by rw [y4 _ (by omega) (by omega) (by omega)]; exact lp_le z2 (by decide))) ?_)
      rintro _ σ5 ⟨rfl, S5, w5, t5⟩
      rw [y4 _ (by omega) (by omega) (by omega)] at w5
      obtain ⟨ho1, ho2, ho3, ho4⟩ := eO.st ⟨ho1, ho2, ho3, ho4⟩ t5 w4.R
      have hv := bw_obj t5 w4.R hvl hv (by decide)
      have hvl := Nat.lt_of_lt_of_le hvl t5.1
      have i6 := w5.big (i := 2) (by omega)
      refine wa_aload_n q_X2_fillRoot_81 rfl ?_
      refine wa_getf q_X2_fillRoot_82 f_RX2_35 (by assumption) rfl ?_
      refine wa_iload_n q_X2_fillRoot_85 rfl ?_
      refine wa_callV q_X2_fillRoot_86 g_X2_fillRoot_86 w_X1_shiftUp (by assumption) rfl (av := [_]) rfl rfl (lk rfl) (Calls.mono (Z_shiftUp w5 (i := 2) (by omega) (by omega) (by rw [uV_s]; exact hsm z2)) ?_)
      rintro _ σ6 ⟨rfl, S6, w6, t6⟩
      rw [uV_s] at w6
      obtain ⟨ho1, ho2, ho3, ho4⟩ := eO.st ⟨ho1, ho2, ho3, ho4⟩ t6 w5.R
      have hv := bw_obj t6 w5.R hvl hv (by decide)
      have hvl := Nat.lt_of_lt_of_le hvl t6.1
      refine wa_aload_n q_X2_fillRoot_89 rfl ?_
      refine wa_getf q_X2_fillRoot_90 f_RX2_12 (by assumption) rfl ?_
      refine wa_aload_n q_X2_fillRoot_93 rfl ?_
      refine wa_getf q_X2_fillRoot_94 f_RX2_35 (by assumption) rfl ?_
      refine wa_aload_n q_X2_fillRoot_97 rfl ?_
      refine wa_getf q_X2_fillRoot_98 f_RX2_114 (by assumption) rfl ?_
      refine wa_callV q_X2_fillRoot_101 g_X2_fillRoot_101 w_X0_squareRoot (by assumption) rfl (av := [_, _]) rfl rfl (lk rfl) (Calls.mono (Z_root w6 ho3 ho4 (i := 2) (j := l + 1) (by omega) (by omega) (by omega) (by omega) (by omega) (by omega) (by rw [uV_s]; exact op_lt z2 hp)) ?_)
      rintro _ σ7 ⟨r2, hr2, rfl, S7, U7, w7, x3, x4, t7⟩
      rw [uV_s] at hr2
      rw [uV_s]
      have hv := bw_obj t7 w6.R hvl hv (by decide)
      refine wa_istore q_X2_fillRoot_104 (by decide) ?_
      have hq := hend _ _ _ r2 w7 hv hr2 (by rw [x4 l (by omega) (by omega), uV_n (by omega), uV_n (by omega)]; exact yl) x3 (fun k k1 k2 k3 => by rw [x4 k (by omega) k3, uV_n (by omega), uV_n (by omega)]; exact y4 k k1 k2 k3) (sA.tr (t5.tr (t6.tr t7)))
      exact wa_lv hq rfl
  · have hneg : U (l1 + 1) < 0 := by
      rcases sgI_c (U (l1 + 1)) with ⟨q, g⟩ | ⟨q, g⟩ | ⟨q, g⟩
      · exact q
      · rw [g] at hc; exact absurd (by decide) hc
      · rw [g] at hc; exact absurd (by decide) hc
    refine wa_aload_n q_X2_fillRoot_10 rfl ?_
    refine wa_iconst q_X2_fillRoot_11 (v := nI 1) (by decide) ?_
    refine wn_putf q_X2_fillRoot_12 p_RX2_75 (by assumption) (lk rfl) rfl rfl rfl (fun σ_p1 p1 f_p1 e1_p1 e2_p1 => ?_)
    refine wa_vret q_X2_fillRoot_15 rfl ?_
    exact ⟨rfl, Or.inl ⟨hneg, p1, f_p1, e1_p1, e2_p1⟩⟩
end enc4
