/-! EnclosedDigits$Encloser by places: 0 down, 1 up, 2 over, 3 under, 4 rest; its bench: 5 dividend, 6 divisor, 7 part, 8 better, 9 rest -/
def eO (σ : en_S) (z : Nat → Nat) (e bn se : Nat) : Prop := look σ e = some (eE bn se (z 0) (z 1) (z 2) (z 3) (z 4)) ∧ e < σ.1 ∧ look σ bn = some (nE (z 5) (z 6) (z 7) (z 8) (z 9)) ∧ bn < σ.1
theorem eO.st {X : en_X} {σ τ : en_S} {z : Nat → Nat} {D : List Nat} {S T : Nat → en_B} {e bn se : Nat} (h : eO σ z e bn se) (s : bw_St D σ S τ T) (w : bw_R X D σ S) : eO τ z e bn se :=
  ⟨bw_obj s w h.2.1 h.1 (by decide), Nat.lt_of_lt_of_le h.2.1 s.1, bw_obj s w h.2.2.2 h.2.2.1 (by decide), Nat.lt_of_lt_of_le h.2.2.2 s.1⟩
theorem eO.ext {σ τ : en_S} {z : Nat → Nat} {e bn se a ci : Nat} {fs : List Value} (h : eO σ z e bn se) (hf : ∀ q, q ≠ a → look τ q = look σ q) (hl : look σ a = some (.inr (ci, fs))) (h0 : ci ≠ 0) (h2 : ci ≠ 2) (e1 : τ.1 = σ.1) : eO τ z e bn se := by
  obtain ⟨g1, g2, g3, g4⟩ := h
  refine ⟨(hf _ (fun q => ?_)).trans g1, by omega, (hf _ (fun q => ?_)).trans g3, by omega⟩
  · rw [q, hl] at g1; cases g1; exact h2 rfl
  · rw [q, hl] at g3; cases g3; exact h0 rfl
/-- the value at v stands with these numbers -/
abbrev vO (σ : en_S) (z : Nat → Nat) (v l : Nat) (kd : Int32) (a b : Int) (f s at' op fa : Int32) : Prop := look σ v = some (vE kd a b f s at' op (z l) (z (l + 1)) fa (z (l + 2)))
section enc3
variable {X : en_X} {σ : en_S} {z : Nat → Nat} {N : Nat} {S : Nat → en_B} {U : Nat → Int} {e bn se : Nat}
theorem Z_mulBoth {i j p : Nat} (h : zW X z N σ S U) (ho : eO σ z e bn se) (hi : i < N) (hj : j < N) (ci : 10 ≤ i) (cj : 10 ≤ j) (hp : p ≤ 480) (zi : (U i).natAbs < BB ^ 90) (zj : (U j).natAbs < BB ^ 90) :
    Calls X M_X2_multiplyBothWays [.ref e, .ref (z i), .ref (z j), .int (nI p)] σ (fun res τ => res = none ∧ ∃ S' U', zW X z N τ S' U' ∧ U' 0 = shr (U i * U j) p (-1) ∧ U' 1 = shr (U i * U j) p 1 ∧ (∀ k, k ∉ [0, 1] → U' k = U k) ∧ bw_St (zD z N) σ S τ S') := by
  obtain ⟨h0, V, h1, h2⟩ := h
  refine Calls.mono (F_mulBoth h1 ho.1 ho.2.1 (zD_m (by omega)) (zD_m (by omega)) (zD_m hi) (zD_m hj) (h0.ne (by omega) (by omega) (by omega)) (h0.ne (by omega) (by omega) (by omega)) (h0.ne (by omega) (by omega) (by omega)) hp (by rw [h2 i hi]; exact zi) (by rw [h2 j hj]; exact zj)) ?_
  rintro r τ ⟨rfl, S', V', k1, k2, k3, k4, k5⟩
  rw [h2 i hi, h2 j hj] at k2 k3
  obtain ⟨U', u1, u2, u3⟩ := zW.of h0 k1 h2 [0, 1] (fun j hj => by simp at hj; omega) (fun x hx => by simp only [List.map_cons, List.map_nil, List.mem_cons, List.not_mem_nil, or_false, not_or] at hx; exact k4 x hx.1 hx.2)
  exact ⟨rfl, S', U', u1, (u2 0 (by omega)).trans k2, (u2 1 (by omega)).trans k3, u3, k5⟩
theorem Z_divBoth {i j : Nat} (h : zW X z N σ S U) (ho : eO σ z e bn se) (hN : 10 ≤ N) (hi : i < N) (hj : j < N) (ci : i ∉ [0, 1, 4, 5, 6]) (cj : j ∉ [0, 1, 4, 5, 6]) (hz : U j ≠ 0) (zi : (U i).natAbs < BB ^ 240) (zj : (U j).natAbs < BB ^ 240) :
    Calls X M_X2_divideBothWays [.ref e, .ref (z i), .ref (z j)] σ (fun res τ => res = none ∧ ∃ S' U', zW X z N τ S' U' ∧ U' 0 = qdn (U i) (U j) ∧ U' 1 = qup (U i) (U j) ∧ (∀ k, k ∉ [0, 1, 4, 5, 6] → U' k = U k) ∧ bw_St (zD z N) σ S τ S') := by
  obtain ⟨h0, V, h1, h2⟩ := h
  simp only [List.mem_cons, List.not_mem_nil, or_false, not_or] at ci cj
  refine Calls.mono (F_divBoth h1 ho.1 ho.2.1 ho.2.2.1 ho.2.2.2 (zD_m (by omega)) (zD_m (by omega)) (zD_m (by omega)) (zD_m (by omega)) (zD_m (by omega)) (zD_m hi) (zD_m hj) ?_ (h0.ne (by omega) (by omega) (by omega)) (h0.ne (by omega) (by omega) (by omega)) (h0.ne (by omega) (by omega) (by omega)) (h0.ne (by omega) (by omega) (by omega)) (h0.ne (by omega) (by omega) (by omega)) (h0.ne (by omega) (by omega) (by omega)) (h0.ne (by omega) (by omega) (by omega)) (h0.ne (by omega) (by omega) (by omega)) (h0.ne (by omega) (by omega) (by omega)) (h0.ne (by omega) (by omega) (by omega)) (by rw [h2 j hj]; exact hz) (by rw [h2 i hi]; exact zi) (by rw [h2 j hj]; exact zj)) ?_
  · simp only [List.nodup_cons, List.mem_cons, not_or, List.not_mem_nil, not_false_eq_true, List.nodup_nil, and_true]
    refine ⟨⟨?_, ?_, ?_, ?_⟩, ⟨?_, ?_, ?_⟩, ⟨?_, ?_⟩, ?_⟩ <;> exact h0.ne (by omega) (by omega) (by omega)
  rintro r τ ⟨rfl, S', V', k1, k2, k3, k4, k5⟩
  rw [h2 i hi, h2 j hj] at k2 k3
  obtain ⟨U', u1, u2, u3⟩ := zW.of h0 k1 h2 [0, 1, 4, 5, 6] (fun j hj => by simp at hj; omega) (fun x hx => by simp only [List.map_cons, List.map_nil, List.mem_cons, List.not_mem_nil, or_false, not_or] at hx; exact k4 x hx.1 hx.2.1 hx.2.2.1 hx.2.2.2.1 hx.2.2.2.2)
  exact ⟨rfl, S', U', u1, (u2 0 (by omega)).trans k2, (u2 1 (by omega)).trans k3, u3, k5⟩
/-- what a fill leaves: both ends, the numbers from 10 on otherwise as they were -/
abbrev Fil (X : en_X) (z : Nat → Nat) (N : Nat) (σ : en_S) (S : Nat → en_B) (U : Nat → Int) (l : Nat) (L H : Int) (τ : en_S) : Prop := ∃ S' U', zW X z N τ S' U' ∧ U' l = L ∧ U' (l + 1) = H ∧ (∀ k, 10 ≤ k → k ≠ l → k ≠ l + 1 → U' k = U k) ∧ bw_St (zD z N) σ S τ S'
theorem lp_lt {a : Int} {p : Nat} (ha1 : -9223372036854775808 ≤ a) (ha2 : a < 9223372036854775808) (hp : p ≤ 480) : a.natAbs * 10 ^ p < BB ^ 58 := by
  have q1 : a.natAbs * 10 ^ p ≤ BB ^ 3 * BB ^ 54 := Nat.mul_le_mul (by have : BB ^ 3 = 1000000000000000000000000000 := rfl; omega) (p10_lt hp)
  rw [← Nat.pow_add] at q1
  exact Nat.lt_of_le_of_lt q1 ((Nat.pow_lt_pow_iff_right (by decide)).mpr (by decide))
theorem lp_le {a n m : Nat} (h : a < BB ^ n) (hm : n ≤ m) : a < BB ^ m := Nat.lt_of_lt_of_le h (pw_mono hm)
theorem l_lt {a : Int} (ha1 : -9223372036854775808 ≤ a) (ha2 : a < 9223372036854775808) : a.natAbs < BB ^ 3 := by
  have : BB ^ 3 = 1000000000000000000000000000 := rfl
  omega
theorem G_whole {v l p : Nat} {kd f s at' op fa : Int32} {a b : Int} (h : zW X z N σ S U) (hv : vO σ z v l kd a b f s at' op fa) (hvl : v < σ.1) (hl : l + 3 ≤ N) (ha1 : -9223372036854775808 ≤ a) (ha2 : a < 9223372036854775808) (hp : p ≤ 480) :
    Calls X M_X2_fillWhole [.ref v, .int (nI p)] σ (fun res τ => res = none ∧ Fil X z N σ S U l (a * 10 ^ p) (a * 10 ^ p) τ) := by
  obtain ⟨h0, V, h1, h2⟩ := h
  refine Calls.mono (F_whole h1 hv hvl (zD_m (by omega)) (zD_m (by omega)) (h0.ne (by omega) (by omega) (by omega)) ha1 ha2 hp) ?_
  rintro r τ ⟨rfl, S', V', k1, k2, k3, k4, k5⟩
  obtain ⟨U', u1, u2, u3⟩ := zW.of h0 k1 h2 [l, l + 1] (fun j hj => by simp at hj; omega) (fun x hx => by simp only [List.map_cons, List.map_nil, List.mem_cons, List.not_mem_nil, or_false, not_or] at hx; exact k4 x hx.1 hx.2)
  exact ⟨rfl, S', U', u1, (u2 _ (by omega)).trans k2, (u2 _ (by omega)).trans k3, fun k _ q1 q2 => u3 k (by simp; omega), k5⟩
theorem G_sum {v l v1 l1 v2 l2 : Nat} {kd f s at' op fa kd1 f1 s1 at1 op1 fa1 kd2 f2 s2 at2 op2 fa2 : Int32} {a b a1 b1 a2 b2 : Int} (h : zW X z N σ S U) (hv : vO σ z v l kd a b f s at' op fa) (hvl : v < σ.1) (hv1 : vO σ z v1 l1 kd1 a1 b1 f1 s1 at1 op1 fa1) (hvl1 : v1 < σ.1) (hv2 : vO σ z v2 l2 kd2 a2 b2 f2 s2 at2 op2 fa2) (hvl2 : v2 < σ.1) (hl : l + 3 ≤ N) (hl1 : l1 + 3 ≤ l) (hl2 : l2 + 3 ≤ l)
    (z1 : (U l1).natAbs < BB ^ 90) (z2 : (U (l1 + 1)).natAbs < BB ^ 90) (z3 : (U l2).natAbs < BB ^ 90) (z4 : (U (l2 + 1)).natAbs < BB ^ 90) :
    Calls X M_X2_fillSum [.ref v, .ref v1, .ref v2] σ (fun res τ => res = none ∧ Fil X z N σ S U l (U l1 + U l2) (U (l1 + 1) + U (l2 + 1)) τ) := by
  obtain ⟨h0, V, h1, h2⟩ := h
  refine Calls.mono (F_sum h1 hv hvl hv1 hvl1 hv2 hvl2 (zD_m (by omega)) (zD_m (by omega)) (zD_m (by omega)) (zD_m (by omega)) (zD_m (by omega)) (zD_m (by omega)) (h0.ne (by omega) (by omega) (by omega)) (h0.ne (by omega) (by omega) (by omega)) (h0.ne (by omega) (by omega) (by omega)) (h0.ne (by omega) (by omega) (by omega)) (h0.ne (by omega) (by omega) (by omega)) (h0.ne (by omega) (by omega) (by omega)) (h0.ne (by omega) (by omega) (by omega)) (by rw [h2 _ (by omega)]; exact z1) (by rw [h2 _ (by omega)]; exact z2) (by rw [h2 _ (by omega)]; exact z3) (by rw [h2 _ (by omega)]; exact z4)) ?_
  rintro r τ ⟨rfl, S', V', k1, k2, k3, k4, k5⟩
  rw [h2 l1 (by omega), h2 l2 (by omega)] at k2
  rw [h2 (l1 + 1) (by omega), h2 (l2 + 1) (by omega)] at k3
  obtain ⟨U', u1, u2, u3⟩ := zW.of h0 k1 h2 [l, l + 1] (fun j hj => by simp at hj; omega) (fun x hx => by simp only [List.map_cons, List.map_nil, List.mem_cons, List.not_mem_nil, or_false, not_or] at hx; exact k4 x hx.1 hx.2)
  exact ⟨rfl, S', U', u1, (u2 _ (by omega)).trans k2, (u2 _ (by omega)).trans k3, fun k _ q1 q2 => u3 k (by simp; omega), k5⟩
theorem G_diff {v l v1 l1 v2 l2 : Nat} {kd f s at' op fa kd1 f1 s1 at1 op1 fa1 kd2 f2 s2 at2 op2 fa2 : Int32} {a b a1 b1 a2 b2 : Int} (h : zW X z N σ S U) (hv : vO σ z v l kd a b f s at' op fa) (hvl : v < σ.1) (hv1 : vO σ z v1 l1 kd1 a1 b1 f1 s1 at1 op1 fa1) (hvl1 : v1 < σ.1) (hv2 : vO σ z v2 l2 kd2 a2 b2 f2 s2 at2 op2 fa2) (hvl2 : v2 < σ.1) (hl : l + 3 ≤ N) (hl1 : l1 + 3 ≤ l) (hl2 : l2 + 3 ≤ l)
    (z1 : (U l1).natAbs < BB ^ 90) (z2 : (U (l1 + 1)).natAbs < BB ^ 90) (z3 : (U l2).natAbs < BB ^ 90) (z4 : (U (l2 + 1)).natAbs < BB ^ 90) :
    Calls X M_X2_fillDifference [.ref v, .ref v1, .ref v2] σ (fun res τ => res = none ∧ Fil X z N σ S U l (U l1 - U (l2 + 1)) (U (l1 + 1) - U l2) τ) := by
  obtain ⟨h0, V, h1, h2⟩ := h
  refine Calls.mono (F_diff h1 hv hvl hv1 hvl1 hv2 hvl2 (zD_m (by omega)) (zD_m (by omega)) (zD_m (by omega)) (zD_m (by omega)) (zD_m (by omega)) (zD_m (by omega)) (h0.ne (by omega) (by omega) (by omega)) (h0.ne (by omega) (by omega) (by omega)) (h0.ne (by omega) (by omega) (by omega)) (h0.ne (by omega) (by omega) (by omega)) (h0.ne (by omega) (by omega) (by omega)) (h0.ne (by omega) (by omega) (by omega)) (h0.ne (by omega) (by omega) (by omega)) (by rw [h2 _ (by omega)]; exact z1) (by rw [h2 _ (by omega)]; exact z2) (by rw [h2 _ (by omega)]; exact z3) (by rw [h2 _ (by omega)]; exact z4)) ?_
  rintro r τ ⟨rfl, S', V', k1, k2, k3, k4, k5⟩
  rw [h2 l1 (by omega), h2 (l2 + 1) (by omega)] at k2
  rw [h2 (l1 + 1) (by omega), h2 l2 (by omega)] at k3
  obtain ⟨U', u1, u2, u3⟩ := zW.of h0 k1 h2 [l, l + 1] (fun j hj => by simp at hj; omega) (fun x hx => by simp only [List.map_cons, List.map_nil, List.mem_cons, List.not_mem_nil, or_false, not_or] at hx; exact k4 x hx.1 hx.2)
  exact ⟨rfl, S', U', u1, (u2 _ (by omega)).trans k2, (u2 _ (by omega)).trans k3, fun k _ q1 q2 => u3 k (by simp; omega), k5⟩
theorem qdn_le (a b : Int) : (qdn a b).natAbs ≤ a.natAbs / b.natAbs + 1 ∧ (qup a b).natAbs ≤ a.natAbs / b.natAbs + 1 := by
  unfold qdn qup
  generalize a.natAbs / b.natAbs = q
  constructor
  · split
    · split <;> omega
    · omega
  · split
    · omega
    · split <;> omega
theorem pw_s {a n m : Nat} (h : a < BB ^ n) (hm : n < m) : a + 1 < BB ^ m := by
  have q1 : BB ^ n < BB ^ m := (Nat.pow_lt_pow_iff_right (by decide)).mpr hm
  omega
theorem G_ratio {v l p : Nat} {kd f s at' op fa : Int32} {a b : Int} (h : zW X z N σ S U) (ho : eO σ z e bn se) (hv : vO σ z v l kd a b f s at' op fa) (hvl : v < σ.1) (h10 : 10 ≤ l) (hl : l + 3 ≤ N) (ha1 : -9223372036854775808 ≤ a) (ha2 : a < 9223372036854775808) (hb0 : b ≠ 0) (hb1 : -9223372036854775808 ≤ b) (hb2 : b < 9223372036854775808) (hp : p ≤ 480) :
    Calls X M_X2_fillRatio [.ref e, .ref v, .int (nI p)] σ (fun res τ => res = none ∧ Fil X z N σ S U l (qdn (a * 10 ^ p) b) (qup (a * 10 ^ p) b) τ) := by
  obtain ⟨ho1, ho2, ho3, ho4⟩ := ho
  have i1 := h.big (i := 2) (by omega)
  have hab : (a * 10 ^ p).natAbs < BB ^ 58 := by rw [Int.natAbs_mul, Int.natAbs_pow]; exact lp_lt ha1 ha2 hp
  refine Calls.of rfl (lk rfl) ?_
  refine wa_aload_n q_X2_fillRatio_0 rfl ?_
  refine wa_getf q_X2_fillRatio_1 f_RX2_35 (by assumption) rfl ?_
  refine wa_aload_n q_X2_fillRatio_4 rfl ?_
  refine wa_getf q_X2_fillRatio_5 f_RX2_127 (by assumption) rfl ?_
  refine wa_callV q_X2_fillRatio_8 g_X2_fillRatio_8 w_X1_setLong (by assumption) rfl (av := [_]) rfl rfl (lk rfl) (Calls.mono (Z_setL h (i := 2) (by omega) ha1 ha2) ?_)
  rintro _ σ1 ⟨rfl, S1, w1, t1⟩
  obtain ⟨ho1, ho2, ho3, ho4⟩ := eO.st ⟨ho1, ho2, ho3, ho4⟩ t1 h.R
  have hv1 := bw_obj t1 h.R hvl hv (by decide)
  have hvl1 := Nat.lt_of_lt_of_le hvl t1.1
  have i2 := w1.big (i := 2) (by omega)
  refine wa_aload_n q_X2_fillRatio_11 rfl ?_
  refine wa_getf q_X2_fillRatio_12 f_RX2_35 (by assumption) rfl ?_
  refine wa_iload_n q_X2_fillRatio_15 rfl ?_
  refine wa_callV q_X2_fillRatio_16 g_X2_fillRatio_16 w_X1_shiftUp (by assumption) rfl (av := [_]) rfl rfl (lk rfl) (Calls.mono (Z_shiftUp w1 (i := 2) (by omega) (by omega) (by rw [uV_s]; exact lp_le (lp_lt ha1 ha2 hp) (by decide))) ?_)
  rintro _ σ2 ⟨rfl, S2, w2, t2⟩
  rw [uV_s] at w2
  obtain ⟨ho1, ho2, ho3, ho4⟩ := eO.st ⟨ho1, ho2, ho3, ho4⟩ t2 w1.R
  have hv2 := bw_obj t2 w1.R hvl1 hv1 (by decide)
  have hvl2 := Nat.lt_of_lt_of_le hvl1 t2.1
  have i3 := w2.big (i := 3) (by omega)
  refine wa_aload_n q_X2_fillRatio_19 rfl ?_
  refine wa_getf q_X2_fillRatio_20 f_RX2_38 (by assumption) rfl ?_
  refine wa_aload_n q_X2_fillRatio_23 rfl ?_
  refine wa_getf q_X2_fillRatio_24 f_RX2_143 (by assumption) rfl ?_
  refine wa_callV q_X2_fillRatio_27 g_X2_fillRatio_27 w_X1_setLong (by assumption) rfl (av := [_]) rfl rfl (lk rfl) (Calls.mono (Z_setL w2 (i := 3) (by omega) hb1 hb2) ?_)
  rintro _ σ3 ⟨rfl, S3, w3, t3⟩
  obtain ⟨ho1, ho2, ho3, ho4⟩ := eO.st ⟨ho1, ho2, ho3, ho4⟩ t3 w2.R
  have hv3 := bw_obj t3 w2.R hvl2 hv2 (by decide)
  have hvl3 := Nat.lt_of_lt_of_le hvl2 t3.1
  obtain ⟨U3, hU3⟩ : ∃ U3, U3 = uV (uV (uV U 2 a) 2 (a * 10 ^ p)) 3 b := ⟨_, rfl⟩
  rw [← hU3] at w3
  have y1 : U3 2 = a * 10 ^ p := by rw [hU3, uV_n (by decide), uV_s]
  have y2 : U3 3 = b := by rw [hU3, uV_s]
  have y3 : ∀ k, 10 ≤ k → U3 k = U k := fun k hk => by rw [hU3, uV_n (by omega), uV_n (by omega), uV_n (by omega)]
  clear hU3
  refine wa_aload_n q_X2_fillRatio_30 rfl ?_
  refine wa_aload_n q_X2_fillRatio_31 rfl ?_
  refine wa_getf q_X2_fillRatio_32 f_RX2_35 (by assumption) rfl ?_
  refine wa_aload_n q_X2_fillRatio_35 rfl ?_
  refine wa_getf q_X2_fillRatio_36 f_RX2_38 (by assumption) rfl ?_
  refine wa_callV q_X2_fillRatio_39 g_X2_fillRatio_39 w_X2_divideBothWays (by assumption) rfl (av := [_, _]) rfl rfl (lk rfl) (Calls.mono (Z_divBoth w3 ⟨ho1, ho2, ho3, ho4⟩ (i := 2) (j := 3) (by omega) (by omega) (by omega) (by decide) (by decide) (by rw [y2]; exact hb0) (by rw [y1]; exact lp_le hab (by decide)) (by rw [y2]; exact lp_le (l_lt hb1 hb2) (by decide))) ?_)
  rintro _ σ4 ⟨rfl, S4, U4, w4, x1, x2, x3, t4⟩
  rw [y1, y2] at x1 x2
  obtain ⟨ho1, ho2, ho3, ho4⟩ := eO.st ⟨ho1, ho2, ho3, ho4⟩ t4 w3.R
  have hv4 := bw_obj t4 w3.R hvl3 hv3 (by decide)
  have hvl4 := Nat.lt_of_lt_of_le hvl3 t4.1
  have i5 := w4.big (i := l) (by omega)
  have hdl : (a * 10 ^ p).natAbs / b.natAbs + 1 < BB ^ 250 := Nat.lt_of_le_of_lt (Nat.succ_le_succ (Nat.div_le_self _ _)) (pw_s hab (by decide))
  have hq := qdn_le (a * 10 ^ p) b
  refine wa_aload_n q_X2_fillRatio_42 rfl ?_
  refine wa_getf q_X2_fillRatio_43 f_RX2_107 (by assumption) rfl ?_
  refine wa_aload_n q_X2_fillRatio_46 rfl ?_
  refine wa_getf q_X2_fillRatio_47 f_RX2_28 (by assumption) rfl ?_
  refine wa_callV q_X2_fillRatio_50 g_X2_fillRatio_50 w_X1_copy (by assumption) rfl (av := [_]) rfl rfl (lk rfl) (Calls.mono (Z_copy w4 (i := l) (j := 0) (by omega) (by omega) (by omega) (by rw [x1]; exact Nat.lt_of_le_of_lt hq.1 hdl)) ?_)
  rintro _ σ5 ⟨rfl, S5, w5, t5⟩
  obtain ⟨ho1, ho2, ho3, ho4⟩ := eO.st ⟨ho1, ho2, ho3, ho4⟩ t5 w4.R
  have hv5 := bw_obj t5 w4.R hvl4 hv4 (by decide)
  have i6 := w5.big (i := l + 1) (by omega)
  refine wa_aload_n q_X2_fillRatio_53 rfl ?_
  refine wa_getf q_X2_fillRatio_54 f_RX2_114 (by assumption) rfl ?_
  refine wa_aload_n q_X2_fillRatio_57 rfl ?_
  refine wa_getf q_X2_fillRatio_58 f_RX2_32 (by assumption) rfl ?_
  refine wa_callV q_X2_fillRatio_61 g_X2_fillRatio_61 w_X1_copy (by assumption) rfl (av := [_]) rfl rfl (lk rfl) (Calls.mono (Z_copy w5 (i := l + 1) (j := 1) (by omega) (by omega) (by omega) (by rw [uV_n (by omega), x2]; exact Nat.lt_of_le_of_lt hq.2 hdl)) ?_)
  rintro _ σ6 ⟨rfl, S6, w6, t6⟩
  refine wa_vret q_X2_fillRatio_64 rfl ?_
  refine ⟨rfl, S6, _, w6, ?_, ?_, fun k k1 k2 k3 => ?_, t1.tr (t2.tr (t3.tr (t4.tr (t5.tr t6))))⟩
  · rw [uV_n (by omega), uV_s, x1]
  · rw [uV_s, uV_n (by omega), x2]
  · rw [uV_n k3, uV_n k2, x3 k (by simp; omega), y3 k k1]
theorem fl_abs (v : Int) {m : Nat} (hm : 0 < m) : (v / (m : Int)).natAbs ≤ v.natAbs := by
  rcases Int.lt_or_le v 0 with h | h
  · have h1 : v ≤ v / (m : Int) := by
      refine Int.le_ediv_of_mul_le (by omega) ?_
      have := Int.mul_le_mul_of_nonpos_left (a := v) (b := (m : Int)) (c := 1) (by omega) (by omega)
      omega
    have h2 : v / (m : Int) < 0 := Int.ediv_neg_of_neg_of_pos h (by omega)
    omega
  · have h1 := Int.ediv_le_self (m : Int) h
    have h2 : 0 ≤ v / (m : Int) := Int.ediv_nonneg h (by omega)
    omega
theorem shr_dn (v : Int) (p : Nat) : shr v p (-1) = v / ((10 ^ p : Nat) : Int) := if_pos rfl
/-- the end cut from a finer one: the floor at p places, and one more -/
theorem G_fine {v l p q : Nat} {kd f s at' op : Int32} {a b : Int} (h : zW X z N σ S U) (hv : vO σ z v l kd a b f s at' op (nI q)) (hvl : v < σ.1) (h10 : 10 ≤ l) (hl : l + 3 ≤ N) (hp : p ≤ q) (hq : q ≤ 480) (hz : (U (l + 2)).natAbs < BB ^ 200) :
    Calls X M_X2_fillFromFine [.ref v, .int (nI p)] σ (fun res τ => res = none ∧ Fil X z N σ S U l (shr (U (l + 2)) (q - p) (-1)) (grw (shr (U (l + 2)) (q - p) (-1)) 1) τ) := by
  have i1 := h.big (i := l) (by omega)
  have hs2 : (shr (U (l + 2)) (q - p) (-1)).natAbs < BB ^ 200 := by
    rw [shr_dn]; exact Nat.lt_of_le_of_lt (fl_abs _ (Nat.pow_pos (by decide))) hz
  refine Calls.of rfl (lk rfl) ?_
  refine wa_aload_n q_X2_fillFromFine_0 rfl ?_
  refine wa_getf q_X2_fillFromFine_1 f_RX2_107 (by assumption) rfl ?_
  refine wa_aload_n q_X2_fillFromFine_4 rfl ?_
  refine wa_getf q_X2_fillFromFine_5 f_RX2_150 (by assumption) rfl ?_
  refine wa_callV q_X2_fillFromFine_8 g_X2_fillFromFine_8 w_X1_copy (by assumption) rfl (av := [_]) rfl rfl (lk rfl) (Calls.mono (Z_copy h (i := l) (j := l + 2) (by omega) (by omega) (by omega) (lp_le hz (by decide))) ?_)
  rintro _ σ1 ⟨rfl, S1, w1, t1⟩
  have hv1 := bw_obj t1 h.R hvl hv (by decide)
  have hvl1 := Nat.lt_of_lt_of_le hvl t1.1
  have i2 := w1.big (i := l) (by omega)
  refine wa_aload_n q_X2_fillFromFine_11 rfl ?_
  refine wa_getf q_X2_fillFromFine_12 f_RX2_107 (by assumption) rfl ?_
  refine wa_aload_n q_X2_fillFromFine_15 rfl ?_
  refine wa_getf q_X2_fillFromFine_16 f_RX2_153 (by assumption) rfl ?_
  refine wa_iload_n q_X2_fillFromFine_19 rfl ?_
  refine wn_isub q_X2_fillFromFine_20 (by omega) ?_
  refine wa_iconst q_X2_fillFromFine_21 (v := sgI (-1)) (by decide) ?_
  refine wa_callV q_X2_fillFromFine_22 g_X2_fillFromFine_22 w_X1_shrink (by assumption) rfl (av := [_, _]) rfl rfl (lk rfl) (Calls.mono (Z_shrink w1 (i := l) (by omega) (by omega) (Or.inr rfl) (by rw [uV_s]; exact lp_le hz (by decide))) ?_)
  rintro _ σ2 ⟨rfl, S2, w2, t2⟩
  rw [uV_s] at w2
  have hv2 := bw_obj t2 w1.R hvl1 hv1 (by decide)
  have hvl2 := Nat.lt_of_lt_of_le hvl1 t2.1
  have i3 := w2.big (i := l + 1) (by omega)
  refine wa_aload_n q_X2_fillFromFine_25 rfl ?_
  refine wa_getf q_X2_fillFromFine_26 f_RX2_114 (by assumption) rfl ?_
  refine wa_aload_n q_X2_fillFromFine_29 rfl ?_
  refine wa_getf q_X2_fillFromFine_30 f_RX2_107 (by assumption) rfl ?_
  refine wa_callV q_X2_fillFromFine_33 g_X2_fillFromFine_33 w_X1_copy (by assumption) rfl (av := [_]) rfl rfl (lk rfl) (Calls.mono (Z_copy w2 (i := l + 1) (j := l) (by omega) (by omega) (by omega) (by rw [uV_s]; exact lp_le hs2 (by decide))) ?_)
  rintro _ σ3 ⟨rfl, S3, w3, t3⟩
  rw [uV_s] at w3
  have hv3 := bw_obj t3 w2.R hvl2 hv2 (by decide)
  have i4 := w3.big (i := l + 1) (by omega)
  refine wa_aload_n q_X2_fillFromFine_36 rfl ?_
  refine wa_getf q_X2_fillFromFine_37 f_RX2_114 (by assumption) rfl ?_
  refine wa_iconst q_X2_fillFromFine_40 (v := sgI 1) (by decide) ?_
  refine wa_callV q_X2_fillFromFine_41 g_X2_fillFromFine_41 w_X1_grow (by assumption) rfl (av := [_]) rfl rfl (lk rfl) (Calls.mono (Z_grow w3 (i := l + 1) (by omega) (Or.inl rfl) (by rw [uV_s]; exact lp_le hs2 (by decide))) ?_)
  rintro _ σ4 ⟨rfl, S4, w4, t4⟩
  rw [uV_s] at w4
  refine wa_vret q_X2_fillFromFine_44 rfl ?_
  refine ⟨rfl, S4, _, w4, ?_, ?_, fun k k1 k2 k3 => ?_, t1.tr (t2.tr (t3.tr t4))⟩
  · rw [uV_n (by omega), uV_n (by omega), uV_s]
  · rw [uV_s]
  · rw [uV_n k3, uV_n k3, uV_n k2, uV_n k2]
end enc3
