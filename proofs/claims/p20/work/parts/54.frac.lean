/-! EnclosedDigits$Fraction: latest stands at the place b, over, under, rest at the next three, in turn -/
abbrev fE (o u r l : Nat) : va_E := .inr (3, [.ref o, .ref u, .ref r, .ref l])
def fO (σ : en_S) (z : Nat → Nat) (fr b o u r : Nat) : Prop := look σ fr = some (fE (z o) (z u) (z r) (z b)) ∧ fr < σ.1 ∧ o ≠ u ∧ o ≠ r ∧ u ≠ r ∧ (b < o ∧ o < b + 4) ∧ (b < u ∧ u < b + 4) ∧ (b < r ∧ r < b + 4)
theorem fO.st {X : en_X} {σ τ : en_S} {z : Nat → Nat} {D : List Nat} {S T : Nat → en_B} {fr b o u r : Nat} (h : fO σ z fr b o u r) (s : bw_St D σ S τ T) (w : bw_R X D σ S) : fO τ z fr b o u r :=
  ⟨bw_obj s w h.2.1 h.1 (by decide), Nat.lt_of_lt_of_le h.2.1 s.1, h.2.2⟩
theorem fO.x {E : Nat → Prop} {X : en_X} {σ τ : en_S} {z : Nat → Nat} {D : List Nat} {S T : Nat → en_B} {fr b o u r : Nat} (h : fO σ z fr b o u r) (s : bw_Sx E D σ S τ T) (w : bw_R X D σ S) (h1 : ¬ E fr) : fO τ z fr b o u r :=
  ⟨bw_othx s w h.2.1 h1 h.1 (fun l e => by cases e) (fun n d e => by cases e), Nat.lt_of_lt_of_le h.2.1 s.1, h.2.2⟩
section frac
variable {X : en_X} {z : Nat → Nat} {N : Nat}
theorem zW.neg {σ τ : en_S} {S : Nat → en_B} {U : Nat → Int} {i : Nat} (h : zW X z N σ S U) (hi : i < N) (h1 : look τ (z i) = some (bE (-sgI (U i)) (S (z i)).2.2.1 (S (z i)).1)) (hf : ∀ q, q ≠ z i → look τ q = look σ q) (e1 : τ.1 = σ.1) (e2 : τ.2.1 = σ.2.1) : ∃ S', zW X z N τ S' (uV U i (-U i)) ∧ bw_St (zD z N) σ S τ S' := by
  obtain ⟨h0, V, g1, g2⟩ := h
  obtain ⟨a1, a2, a3, a4, a5, a6, a7⟩ := g1.1.1 _ (zD_m hi)
  obtain ⟨s1, s2, s3⟩ := g1.2 _ (zD_m hi)
  have hne := ne_oa a1 a2
  have st := bw_R.keep (a := z i) g1.1 (zD_m hi) h1 ((hf _ hne.symm).trans a2) a3 (fun q q1 q2 => hf q q1) e1 e2
  refine ⟨_, zW.up h0 (g1.up (v := -V (z i)) st.1 ⟨?_, ?_, s3⟩) g2 hi |>.eq (fun j hj => ?_), st.2⟩
  · show -sgI (U i) = sgI (-V (z i))
    rw [sgI_neg, g2 i hi]
  · show vl _ _ = (-V (z i)).natAbs
    rw [s2, Int.natAbs_neg]
  · rw [g2 i hi]
theorem Z_div {σ : en_S} {S : Nat → en_B} {U : Nat → Int} {bn i j q r : Nat} (h : zW X z N σ S U) (hb : look σ bn = some (nE (z 5) (z 6) (z 7) (z 8) (z 9))) (hbl : bn < σ.1) (hN : 10 ≤ N) (hi : i < N) (hj : j < N) (hq : q < N) (hr : r < N) (ci : i ≠ 5 ∧ i ≠ 6) (cj : j ≠ 5 ∧ j ≠ 6) (cq : q ≠ 5 ∧ q ≠ 6) (cr : r ≠ 5 ∧ r ≠ 6) (hqr : q ≠ r) (hz : U j ≠ 0) (zi : (U i).natAbs < BB ^ 240) (zj : (U j).natAbs < BB ^ 240) :
    Calls X M_X0_divide [.ref bn, .ref (z i), .ref (z j), .ref (z q), .ref (z r)] σ (fun res τ => res = none ∧ ∃ S' U', zW X z N τ S' U' ∧ U' q = (((U i).natAbs / (U j).natAbs : Nat) : Int) ∧ U' r = (((U i).natAbs % (U j).natAbs : Nat) : Int) ∧ (∀ k, k ≠ 5 → k ≠ 6 → k ≠ q → k ≠ r → U' k = U k) ∧ bw_St (zD z N) σ S τ S') := by
  obtain ⟨h0, V, h1, h2⟩ := h
  refine Calls.mono (V_div h1 hb hbl (zD_m (by omega)) (zD_m (by omega)) (zD_m hi) (zD_m hj) (zD_m hq) (zD_m hr) (h0.ne (by omega) (by omega) (by omega)) (h0.ne (by omega) (by omega) (by omega)) (h0.ne (by omega) (by omega) (by omega)) (h0.ne (by omega) (by omega) (by omega)) (h0.ne (by omega) (by omega) (by omega)) (h0.ne (by omega) (by omega) (by omega)) (h0.ne (by omega) (by omega) (by omega)) (h0.ne (by omega) (by omega) (by omega)) (h0.ne (by omega) (by omega) (by omega)) (h0.ne (by omega) (by omega) (by omega)) (by rw [h2 j hj]; exact hz) (by rw [h2 i hi]; exact zi) (by rw [h2 j hj]; exact zj)) ?_
  rintro res τ ⟨rfl, S', V', k1, k2, k3, k4, k5⟩
  rw [h2 i hi, h2 j hj] at k2 k3
  obtain ⟨U', u1, u2, u3⟩ := zW.of h0 k1 h2 [5, 6, q, r] (fun k hk => by simp at hk; omega) (fun x hx => by simp only [List.map_cons, List.map_nil, List.mem_cons, List.not_mem_nil, or_false, not_or] at hx; exact k4 x hx.1 hx.2.1 hx.2.2.1 hx.2.2.2)
  exact ⟨rfl, S', U', u1, (u2 q hq).trans k2, (u2 r hr).trans k3, fun k c1 c2 c3 c4 => u3 k (by simp; omega), k5⟩
theorem G_start {σ : en_S} {S : Nat → en_B} {U : Nat → Int} {fr b o u r x p : Nat} (h : zW X z N σ S U) (hf : fO σ z fr b o u r) (hb : b + 4 ≤ N) (hx : x < N) (hxb : x < b ∨ b + 4 ≤ x) (hp : p ≤ 480) (zx : (U x).natAbs < BB ^ 240) :
    Calls X M_X3_start [.ref fr, .ref (z x), .int (nI p)] σ (fun res τ => res = none ∧ ∃ S' U', zW X z N τ S' U' ∧ U' o = U x ∧ U' u = 10 ^ p ∧ (∀ k, k ≠ o → k ≠ u → U' k = U k) ∧ bw_St (zD z N) σ S τ S') := by
  obtain ⟨f1, f2, n1, n2, n3, r1, r2, r3⟩ := hf
  have hp1 := p10_lt hp
  have hb3 : BB ^ 54 < BB ^ 250 := (Nat.pow_lt_pow_iff_right (by decide)).mpr (by decide)
  have i1 := h.big (i := o) (by omega)
  refine Calls.of rfl (lk rfl) ?_
  refine wa_aload_n q_X3_start_0 rfl ?_
  refine wa_getf q_X3_start_1 f_RX3_10 (by assumption) rfl ?_
  refine wa_aload_n q_X3_start_4 rfl ?_
  refine wa_callV q_X3_start_5 g_X3_start_5 w_X1_copy (by assumption) rfl (av := [_]) rfl rfl (lk rfl) (Calls.mono (Z_copy h (i := o) (j := x) (by omega) hx (by omega) (lp_le zx (by decide))) ?_)
  rintro _ σ1 ⟨rfl, S1, w1, t1⟩
  have f1 := bw_obj t1 h.R f2 f1 (by decide)
  have f2 := Nat.lt_of_lt_of_le f2 t1.1
  have i2 := w1.big (i := u) (by omega)
  refine wa_aload_n q_X3_start_8 rfl ?_
  refine wa_getf q_X3_start_9 f_RX3_16 (by assumption) rfl ?_
  refine wa_lconst q_X3_start_12 (v := lZ 1) (by decide) ?_
  refine wa_callV q_X3_start_13 g_X3_start_13 w_X1_setLong (by assumption) rfl (av := [_]) rfl rfl (lk rfl) (Calls.mono (Z_setL w1 (i := u) (by omega) (by decide) (by decide)) ?_)
  rintro _ σ2 ⟨rfl, S2, w2, t2⟩
  have f1 := bw_obj t2 w1.R f2 f1 (by decide)
  have i3 := w2.big (i := u) (by omega)
  refine wa_aload_n q_X3_start_16 rfl ?_
  refine wa_getf q_X3_start_17 f_RX3_16 (by assumption) rfl ?_
  refine wa_iload_n q_X3_start_20 rfl ?_
  refine wa_callV q_X3_start_21 g_X3_start_21 w_X1_shiftUp (by assumption) rfl (av := [_]) rfl rfl (lk rfl) (Calls.mono (Z_shiftUp w2 (i := u) (by omega) (by omega) (by rw [uV_s]; show 1 * 10 ^ p < _; omega)) ?_)
  rintro _ σ3 ⟨rfl, S3, w3, t3⟩
  refine wa_vret q_X3_start_24 rfl ?_
  refine ⟨rfl, S3, _, w3, by rw [uV_n n1, uV_n n1, uV_s], by rw [uV_s, uV_s, Int.one_mul], fun k k1 k2 => by rw [uV_n k2, uV_n k2, uV_n k1], t1.tr (t2.tr t3)⟩
theorem ediv_neg_nat {a u : Nat} (hu : 0 < u) : (-(a : Int)) / (u : Int) = (if a % u = 0 then -((a / u : Nat) : Int) else -((a / u : Nat) : Int) - 1) ∧ (-(a : Int)) % (u : Int) = (if a % u = 0 then 0 else (u : Int) - ((a % u : Nat) : Int)) := by
  have h1 := neg_div (m := a) (T := u) hu
  refine ⟨h1, ?_⟩
  have h2 := Int.emod_def (-(a : Int)) (u : Int)
  rw [h2, h1]
  have h3 := Nat.div_add_mod a u
  have h4 : ((u * (a / u) + a % u : Nat) : Int) = (a : Int) := by rw [h3]
  rw [Int.natCast_add, Int.natCast_mul] at h4
  by_cases c : a % u = 0
  · rw [if_pos c, if_pos c]; rw [c] at h4; grind
  · rw [if_neg c, if_neg c]; grind
set_option maxHeartbeats 1000000 in
theorem G_round {σ : en_S} {S : Nat → en_B} {U : Nat → Int} {fr b o u r q0 m0 : Nat} (h : zW X z N σ S U) (hf : fO σ z fr b o u r) (hb : b + 4 ≤ N) (hq : U b = (q0 : Int)) (hm : U r = (m0 : Int)) (zq : q0 < BB ^ 240) (zm : m0 < BB ^ 240) (zu : (U u).natAbs < BB ^ 240) :
    Calls X M_X3_roundDown [.ref fr] σ (fun res τ => res = none ∧ ∃ S' U', zW X z N τ S' U' ∧ U' b = (if m0 = 0 then -(q0 : Int) else -(q0 : Int) - 1) ∧ U' r = (if m0 = 0 then 0 else U u - (m0 : Int)) ∧ (∀ k, k ≠ b → k ≠ r → U' k = U k) ∧ bw_St (zD z N) σ S τ S') := by
  obtain ⟨f1, f2, n1, n2, n3, r1, r2, r3⟩ := hf
  have i1 := h.big (i := b) (by omega)
  refine Calls.of rfl (lk rfl) ?_
  refine wa_aload_n q_X3_roundDown_0 rfl ?_
  refine wa_getf q_X3_roundDown_1 f_RX3_22 (by assumption) rfl ?_
  refine wa_aload_n q_X3_roundDown_4 rfl ?_
  refine wa_getf q_X3_roundDown_5 f_RX3_22 (by assumption) rfl ?_
  refine wa_getf q_X3_roundDown_8 f_RX3_37 (by assumption) rfl ?_
  refine wa_ineg q_X3_roundDown_11 ?_
  refine wn_putf q_X3_roundDown_12 p_RX3_37 (by assumption) (lk rfl) rfl rfl rfl (fun σ_p1 p1 f_p1 e1_p1 e2_p1 => ?_)
  obtain ⟨S1, w1, t1⟩ := h.neg (i := b) (by omega) p1 f_p1 e1_p1 e2_p1
  have f1 := bw_obj t1 h.R f2 f1 (by decide)
  have f2 := Nat.lt_of_lt_of_le f2 t1.1
  have i2 := w1.big (i := r) (by omega)
  rw [uV_n (by omega), hm] at i2
  refine wa_aload_n q_X3_roundDown_15 rfl ?_
  refine wa_getf q_X3_roundDown_16 f_RX3_19 (by assumption) rfl ?_
  refine wa_getf q_X3_roundDown_19 f_RX3_37 (by assumption) rfl ?_
  refine wa_if_eq q_X3_roundDown_22 (fun hx => ?_) (fun hx => ?_)
  · have m00 : m0 = 0 := sgN.mp hx
    refine wa_vret q_X3_roundDown_59 rfl ?_
    exact ⟨rfl, S1, _, w1, by rw [uV_s, if_pos m00, hq], by rw [uV_n (by omega), if_pos m00, hm, m00]; rfl, fun k k1 _ => uV_n k1, t1⟩
  · have m00 : ¬ m0 = 0 := fun q => hx (sgN.mpr q)
    have i3 := w1.big (i := b) (by omega)
    refine wa_aload_n q_X3_roundDown_25 rfl ?_
    refine wa_getf q_X3_roundDown_26 f_RX3_22 (by assumption) rfl ?_
    refine wa_iconst q_X3_roundDown_29 (v := sgI (-1)) (by decide) ?_
    refine wa_callV q_X3_roundDown_30 g_X3_roundDown_30 w_X1_grow (by assumption) rfl (av := [_]) rfl rfl (lk rfl) (Calls.mono (Z_grow w1 (i := b) (by omega) (Or.inr rfl) (by rw [uV_s, hq, Int.natAbs_neg, Int.natAbs_natCast]; exact lp_le zq (by decide))) ?_)
    rintro _ σ2 ⟨rfl, S2, w2, t2⟩
    rw [uV_s] at w2
    have eg : grw (-U b) (-1) = -(q0 : Int) - 1 := by
      rw [hq]; unfold grw
      split
      · omega
      · rw [if_pos (by omega)]
    rw [eg] at w2
    have f1 := bw_obj t2 w1.R f2 f1 (by decide)
    have f2 := Nat.lt_of_lt_of_le f2 t2.1
    have i4 := w2.big (i := r) (by omega)
    refine wa_aload_n q_X3_roundDown_33 rfl ?_
    refine wa_getf q_X3_roundDown_34 f_RX3_19 (by assumption) rfl ?_
    refine wa_aload_n q_X3_roundDown_37 rfl ?_
    refine wa_getf q_X3_roundDown_38 f_RX3_19 (by assumption) rfl ?_
    refine wa_getf q_X3_roundDown_41 f_RX3_37 (by assumption) rfl ?_
    refine wa_ineg q_X3_roundDown_44 ?_
    refine wn_putf q_X3_roundDown_45 p_RX3_37 (by assumption) (lk rfl) rfl rfl rfl (fun σ_p2 p2 f_p2 e1_p2 e2_p2 => ?_)
    obtain ⟨S3, w3, t3⟩ := w2.neg (i := r) (by omega) p2 f_p2 e1_p2 e2_p2
    have f1 := bw_obj t3 w2.R f2 f1 (by decide)
    have e3 : uV (uV U b (-U b)) b (-(q0 : Int) - 1) r = (m0 : Int) := by rw [uV_n (by omega), uV_n (by omega)]; exact hm
    rw [e3] at w3
    have i5 := w3.big (i := r) (by omega)
    have eu : uV (uV (uV U b (-U b)) b (-(q0 : Int) - 1)) r (-(m0 : Int)) u = U u := by rw [uV_n (by omega), uV_n (by omega), uV_n (by omega)]
    refine wa_aload_n q_X3_roundDown_48 rfl ?_
    refine wa_getf q_X3_roundDown_49 f_RX3_19 (by assumption) rfl ?_
    refine wa_aload_n q_X3_roundDown_52 rfl ?_
    refine wa_getf q_X3_roundDown_53 f_RX3_16 (by assumption) rfl ?_
    refine wa_callV q_X3_roundDown_56 g_X3_roundDown_56 w_X1_add (by assumption) rfl (av := [_]) rfl rfl (lk rfl) (Calls.mono (Z_add w3 (i := r) (j := u) (by omega) (by omega) (by omega) (by rw [uV_s, Int.natAbs_neg, Int.natAbs_natCast]; exact lp_le zm (by decide)) (by rw [eu]; exact lp_le zu (by decide))) ?_)
    rintro _ σ4 ⟨rfl, S4, w4, t4⟩
    rw [eu, uV_s] at w4
    refine wa_vret q_X3_roundDown_59 rfl ?_
    refine ⟨rfl, S4, _, w4, ?_, ?_, fun k k1 k2 => ?_, t1.tr (t2.tr (t3.tr t4))⟩
    · rw [uV_n (by omega), uV_n (by omega), uV_s, if_neg m00]
    · rw [uV_s, if_neg m00]; omega
    · rw [uV_n k2, uV_n k2, uV_n k1, uV_n k1]
set_option maxHeartbeats 1000000 in
theorem G_step {σ : en_S} {S : Nat → en_B} {U : Nat → Int} {fr bn b o u r : Nat} (h : zW X z N σ S U) (hf : fO σ z fr b o u r) (hbn : look σ bn = some (nE (z 5) (z 6) (z 7) (z 8) (z 9))) (hbl : bn < σ.1) (h10 : 10 ≤ b) (hb : b + 4 ≤ N) (hu : 0 ≤ U u) (zo : (U o).natAbs < BB ^ 230) (zu : (U u).natAbs < BB ^ 230) :
    Calls X M_X3_step [.ref fr, .ref bn] σ (fun res τ => (U u = 0 ∧ res = some (.int (nI 0)) ∧ τ = σ) ∨ (0 < U u ∧ res = some (.int (nI 1)) ∧ ∃ S' U', zW X z N τ S' U' ∧ fO τ z fr b u r o ∧ U' b = U o / U u ∧ U' r = U o % U u ∧ (∀ k, k ≠ 5 → k ≠ 6 → k ≠ b → k ≠ r → U' k = U k) ∧ bw_Sx (fun q => q = fr) (zD z N) σ S τ S')) := by
  obtain ⟨f1, f2, n1, n2, n3, r1, r2, r3⟩ := hf
  have h240 : BB ^ 230 ≤ BB ^ 240 := pw_mono (by decide)
  have i1 := h.big (i := u) (by omega)
  refine Calls.of rfl (lk rfl) ?_
  refine wa_aload_n q_X3_step_0 rfl ?_
  refine wa_getf q_X3_step_1 f_RX3_16 (by assumption) rfl ?_
  refine wa_getf q_X3_step_4 f_RX3_37 (by assumption) rfl ?_
  refine wa_if_ne q_X3_step_7 (fun hx => ?_) (fun hx => ?_)
  · have hu0 : U u ≠ 0 := fun q => hx (sgI_0.mpr q)
    refine wa_aload_n q_X3_step_12 rfl ?_
    refine wa_aload_n q_X3_step_13 rfl ?_
    refine wa_getf q_X3_step_14 f_RX3_10 (by assumption) rfl ?_
    refine wa_aload_n q_X3_step_17 rfl ?_
    refine wa_getf q_X3_step_18 f_RX3_16 (by assumption) rfl ?_
    refine wa_aload_n q_X3_step_21 rfl ?_
    refine wa_getf q_X3_step_22 f_RX3_22 (by assumption) rfl ?_
    refine wa_aload_n q_X3_step_25 rfl ?_
    refine wa_getf q_X3_step_26 f_RX3_19 (by assumption) rfl ?_
    refine wa_callV q_X3_step_29 g_X3_step_29 w_X0_divide (by assumption) rfl (av := [_, _, _, _]) rfl rfl (lk rfl) (Calls.mono (Z_div h hbn hbl (i := o) (j := u) (q := b) (r := r) (by omega) (by omega) (by omega) (by omega) (by omega) (by omega) (by omega) (by omega) (by omega) (by omega) hu0 (by omega) (by omega)) ?_)
    rintro _ σ1 ⟨rfl, S1, U1, w1, x1, x2, x3, t1⟩
    have f1 := bw_obj t1 h.R f2 f1 (by decide)
    have f2 := Nat.lt_of_lt_of_le f2 t1.1
    have eo : U1 o = U o := x3 o (by omega) (by omega) (by omega) (by omega)
    have eu : U1 u = U u := x3 u (by omega) (by omega) (by omega) (by omega)
    -- the end: the three change their places
    have fin : ∀ (σ2 : en_S) (S2 : Nat → en_B) (U2 : Nat → Int), zW X z N σ2 S2 U2 → look σ2 fr = some (fE (z o) (z u) (z r) (z b)) → fr < σ2.1 → U2 b = U o / U u → U2 r = U o % U u → (∀ k, k ≠ 5 → k ≠ 6 → k ≠ b → k ≠ r → U2 k = U k) → bw_St (zD z N) σ S σ2 S2 → WA X M_X3_step σ 46 (lv_args 0 [.ref fr, .ref bn]) [] σ2 (fun res τ => (U u = 0 ∧ res = some (.int (nI 0)) ∧ τ = σ) ∨ (0 < U u ∧ res = some (.int (nI 1)) ∧ ∃ S' U', zW X z N τ S' U' ∧ fO τ z fr b u r o ∧ U' b = U o / U u ∧ U' r = U o % U u ∧ (∀ k, k ≠ 5 → k ≠ 6 → k ≠ b → k ≠ r → U' k = U k) ∧ bw_Sx (fun q => q = fr) (zD z N) σ S τ S')) := by
      intro σ2 S2 U2 w2 f1 f2 y1 y2 y3 t2
      refine wa_aload_n q_X3_step_46 rfl ?_
      refine wa_getf q_X3_step_47 f_RX3_10 (by assumption) rfl ?_
      refine wa_astore_n q_X3_step_50 (by decide) ?_
      refine wa_aload_n q_X3_step_51 rfl ?_
      refine wa_aload_n q_X3_step_52 rfl ?_
      refine wa_getf q_X3_step_53 f_RX3_16 (by assumption) rfl ?_
      refine wn_putf q_X3_step_56 p_RX3_10 (by assumption) (lk rfl) rfl rfl rfl (fun σ_p1 p1 f_p1 e1_p1 e2_p1 => ?_)
      have w3 := w2.ext f_p1 f1 (by decide) e1_p1
      refine wa_aload_n q_X3_step_59 rfl ?_
      refine wa_aload_n q_X3_step_60 rfl ?_
      refine wa_getf q_X3_step_61 f_RX3_19 (by assumption) rfl ?_
      refine wn_putf q_X3_step_64 p_RX3_16 (by assumption) (lk rfl) rfl rfl rfl (fun σ_p2 p2 f_p2 e1_p2 e2_p2 => ?_)
      have w4 := w3.ext f_p2 p1 (by decide) e1_p2
      refine wa_aload_n q_X3_step_67 rfl ?_
      refine wa_aload_n q_X3_step_68 rfl ?_
      refine wn_putf q_X3_step_69 p_RX3_19 (by assumption) (lk rfl) rfl rfl rfl (fun σ_p3 p3 f_p3 e1_p3 e2_p3 => ?_)
      have w5 := w4.ext f_p3 p2 (by decide) e1_p3
      refine wa_iconst q_X3_step_72 (v := nI 1) (by decide) ?_
      refine wa_zret q_X3_step_73 rfl rfl ?_
      refine Or.inr ⟨by omega, rfl, S2, U2, w5, ⟨p3, by omega, by omega, by omega, by omega, by omega, by omega, by omega⟩, y1, y2, y3, ?_⟩
      exact t2.x.tr ((bw_Sx.put (E := fun q => q = fr) f_p1 rfl e1_p1 e2_p1).tr ((bw_Sx.put (E := fun q => q = fr) f_p2 rfl e1_p2 e2_p2).tr (bw_Sx.put (E := fun q => q = fr) f_p3 rfl e1_p3 e2_p3)))
    obtain ⟨m, hm⟩ := Int.eq_ofNat_of_zero_le hu
    have hm0 : 0 < m := by omega
    have i2 := w1.big (i := o) (by omega)
    rw [eo] at i2
    rw [hm, Int.natAbs_natCast] at x1 x2
    have hdl : (U o).natAbs / m ≤ (U o).natAbs := Nat.div_le_self _ _
    have hml : (U o).natAbs % m < m := Nat.mod_lt _ hm0
    have hmz : m < BB ^ 230 := by rw [hm, Int.natAbs_natCast] at zu; exact zu
    refine wa_aload_n q_X3_step_32 rfl ?_
    refine wa_getf q_X3_step_33 f_RX3_10 (by assumption) rfl ?_
    refine wa_getf q_X3_step_36 f_RX3_37 (by assumption) rfl ?_
    refine wa_if_ge q_X3_step_39 (fun hy => ?_) (fun hy => ?_)
    · have hnn := sg_ge.mp hy
      obtain ⟨a, ha⟩ := Int.eq_ofNat_of_zero_le hnn
      refine fin σ1 S1 U1 w1 f1 f2 ?_ ?_ x3 t1
      · rw [x1, ha, hm, Int.natAbs_natCast]; rfl
      · rw [x2, ha, hm, Int.natAbs_natCast]; rfl
    · have hneg : U o < 0 := Int.not_le.mp (fun q => hy (sg_ge.mpr q))
      refine wa_aload_n q_X3_step_42 rfl ?_
      refine wa_callV q_X3_step_43 g_X3_step_43 w_X3_roundDown (by assumption) rfl (av := []) rfl rfl (lk rfl) (Calls.mono (G_round w1 ⟨f1, f2, n1, n2, n3, r1, r2, r3⟩ hb x1 x2 (by omega) (by omega) (by rw [eu]; omega)) ?_)
      rintro _ σ2 ⟨rfl, S2, U2, w2, y1, y2, y3, t2⟩
      have hen := ediv_neg_nat (a := (U o).natAbs) (u := m) hm0
      have eoo : U o = -((U o).natAbs : Int) := by omega
      refine fin σ2 S2 U2 w2 (bw_obj t2 w1.R f2 f1 (by decide)) (Nat.lt_of_lt_of_le f2 t2.1) ?_ ?_ (fun k k1 k2 k3 k4 => (y3 k k3 k4).trans (x3 k k1 k2 k3 k4)) (t1.tr t2)
      · have e1 : U o / U u = (-((U o).natAbs : Int)) / (m : Int) := by rw [hm]; exact congrArg (· / (m : Int)) eoo
        rw [y1, e1, hen.1]
      · have e1 : U o % U u = (-((U o).natAbs : Int)) % (m : Int) := by rw [hm]; exact congrArg (· % (m : Int)) eoo
        rw [y2, eu, e1, hen.2, hm]
  · have hu0 : U u = 0 := sgI_0.mp hx
    refine wa_iconst q_X3_step_10 (v := nI 0) (by decide) ?_
    refine wa_zret q_X3_step_11 rfl rfl ?_
    exact Or.inl ⟨hu0, rfl, rfl⟩
end frac
