/-! EnclosedDigits$Bench: takeAway -/
theorem bw_tot_eq {D : List Nat} {S T : Nat → en_B} (h : ∀ q, (S q).2.1 = (T q).2.1) : bw_tot D S = bw_tot D T := by
  unfold bw_tot
  rw [show (fun a => (S a).2.1) = (fun a => (T a).2.1) from funext h]
/-- limbs that are the same ints -/
theorem bw_recast {X : en_X} {D : List Nat} {σ τ : en_S} {S S0 : Nat → en_B} {a r n sz : Nat} {d e : Nat → Nat} {sg : Int32} (h : ∀ i, nI (d i) = nI (e i)) (w : bw_R X D τ (uB S a (r, n, sz, d, sg))) (s : bw_St D σ S0 τ (uB S a (r, n, sz, d, sg))) : bw_R X D τ (uB S a (r, n, sz, e, sg)) ∧ bw_St D σ S0 τ (uB S a (r, n, sz, e, sg)) := by
  have h1 : ∀ q, (uB S a (r, n, sz, d, sg) q).1 = (uB S a (r, n, sz, e, sg) q).1 := by
    intro q; unfold uB; split <;> rfl
  have h2 : ∀ q, (uB S a (r, n, sz, d, sg) q).2.1 = (uB S a (r, n, sz, e, sg) q).2.1 := by
    intro q; unfold uB; split <;> rfl
  refine ⟨⟨fun q hq => ?_, fun p hp q hq z => w.2 p hp q hq (by rw [h1, h1]; exact z)⟩, s.1, s.2.1, fun q hq => by rw [← h1]; exact s.2.2.1 q hq, by rw [← bw_tot_eq h2]; exact s.2.2.2.1, by rw [← bw_tot_eq h2]; exact s.2.2.2.2⟩
  have := w.1 q hq
  by_cases ea : q = a
  · subst ea
    rw [uB_s] at this ⊢
    obtain ⟨a1, a2, a3⟩ := this
    exact ⟨a1, by rw [← ar_eq h]; exact a2, a3⟩
  · rw [uB_n ea] at this ⊢
    exact this
theorem div_of {U V q : Nat} (h1 : q * V ≤ U) (h2 : U < (q + 1) * V) : U / V = q ∧ U % V = U - q * V := by
  have hV : 0 < V := by
    rcases Nat.eq_zero_or_pos V with z | z
    · subst z; simp at h2
    · exact z
  have e1 : (q + 1) * V = q * V + V := by rw [Nat.add_mul, Nat.one_mul]
  have e : U = V * q + (U - q * V) := by rw [Nat.mul_comm]; omega
  constructor
  · rw [e, Nat.mul_add_div hV, Nat.div_eq_of_lt (by omega), Nat.add_zero]
  · conv => lhs; rw [e]
    rw [Nat.mul_add_mod, Nat.mod_eq_of_lt (by omega)]
section bench3
variable {X : en_X} {σ : en_S} {D : List Nat} {S : Nat → en_B}
theorem C_take {b0 dv ds pt bt rs n j : Nat} (h : bw_R X D σ S) (hb0 : look σ b0 = some (nE dv ds pt bt rs)) (hbl : b0 < σ.1) (h1 : dv ∈ D) (h2 : ds ∈ D) (hne : dv ≠ ds) (hn : (S ds).2.2.1 = n) (hn2 : 2 ≤ n) (hj : n + j < (S dv).2.2.1) (hd : ∀ i, i < (S dv).2.2.1 → (S dv).2.2.2.1 i < BB) (hv : ∀ i, i < n → (S ds).2.2.2.1 i < BB) (htop : BB ≤ 2 * (S ds).2.2.2.1 (n - 1)) (hU : vl (fun i => (S dv).2.2.2.1 (j + i)) (n + 1) < vl (S ds).2.2.2.1 n * BB) :
    Calls X M_X0_takeAway [.ref b0, .int (nI j)] σ (fun res τ => res = some (.int (nI (vl (fun i => (S dv).2.2.2.1 (j + i)) (n + 1) / vl (S ds).2.2.2.1 n))) ∧ ∃ d1 : Nat → Nat, (∀ i, i < (S dv).2.2.1 → d1 i < BB) ∧ d1 (n + j) = 0 ∧ vl (fun i => d1 (j + i)) n = vl (fun i => (S dv).2.2.2.1 (j + i)) (n + 1) % vl (S ds).2.2.2.1 n ∧ (∀ q, q < j ∨ j + n < q → d1 q = (S dv).2.2.2.1 q) ∧ bw_R X D τ (uB S dv ((S dv).1, (S dv).2.1, (S dv).2.2.1, d1, (S dv).2.2.2.2)) ∧ bw_St D σ S τ (uB S dv ((S dv).1, (S dv).2.1, (S dv).2.2.1, d1, (S dv).2.2.2.2))) := by
  obtain ⟨a1, a2, a3, a4, a5, a6, a7⟩ := h.1 dv h1
  obtain ⟨c1, c2, c3, c4, c5, c6, c7⟩ := h.1 ds h2
  rw [hn] at c1 c3
  have hB : BB = 1000000000 := rfl
  have hbr := ne_oa hb0 a2
  have hvr := ne_oa a1 a2
  have hsr := ne_oa c1 a2
  have hrr : (S ds).1 ≠ (S dv).1 := fun z => hne (h.2 ds h2 dv h1 z).symm
  have hVP : vl (S ds).2.2.2.1 n < BB ^ n := vl_lt hv
  have hUe : vl (fun i => (S dv).2.2.2.1 (j + i)) (n + 1) = vl (fun i => (S dv).2.2.2.1 (j + i)) n + (S dv).2.2.2.1 (j + n) * BB ^ n := rfl
  have hwn := hd (j + n) (by omega)
  refine Calls.of rfl (lk rfl) ?_
  refine wa_aload_n q_X0_takeAway_0 rfl ?_
  refine wa_getf q_X0_takeAway_1 f_RX0_18 (by assumption) rfl ?_
  refine wa_getf q_X0_takeAway_4 f_RX0_47 (by assumption) rfl ?_
  refine wa_istore_n q_X0_takeAway_7 (by decide) ?_
  refine wa_iload_n q_X0_takeAway_8 rfl ?_
  refine wa_iconst q_X0_takeAway_9 (v := nI 2) (by decide) ?_
  refine wn_icmp_lt q_X0_takeAway_10 (by omega) (by omega) (fun hc => ?_) (fun hc => ?_)
  · exact absurd hc (by omega)
  · refine wa_iload_n q_X0_takeAway_13 rfl ?_
    refine wa_iload_n q_X0_takeAway_14 rfl ?_
    refine wn_iadd q_X0_takeAway_15 ?_
    refine wa_aload_n q_X0_takeAway_16 rfl ?_
    refine wa_getf q_X0_takeAway_17 f_RX0_12 (by assumption) rfl ?_
    refine wa_getf q_X0_takeAway_20 f_RX0_47 (by assumption) rfl ?_
    refine wn_icmp_lt q_X0_takeAway_23 (by omega) (by omega) (fun hc2 => ?_) (fun hc2 => ?_)
    · refine wa_aload_n q_X0_takeAway_28 rfl ?_
      refine wa_iload_n q_X0_takeAway_29 rfl ?_
      refine wa_iload_n q_X0_takeAway_30 rfl ?_
      refine wa_iload_n q_X0_takeAway_31 rfl ?_
      refine wn_iadd q_X0_takeAway_32 ?_
      refine wa_callV q_X0_takeAway_33 g_X0_takeAway_33 w_X0_guessLimb (by assumption) rfl (av := [_, _]) rfl rfl (lk rfl) (Calls.mono (C_guess h hb0 h1 h2 hn hn2 hj hd hv htop hU) ?_)
      rintro _ _ ⟨⟨g, rfl, g1, g2, g3⟩, rfl⟩
      refine wa_lstore_n q_X0_takeAway_36 (by decide) ?_
      refine wa_lconst q_X0_takeAway_37 (v := lN 0) (by decide) ?_
      refine wa_lstore q_X0_takeAway_38 (by decide) ?_
      refine wa_iconst q_X0_takeAway_40 (v := nI 0) (by decide) ?_
      refine wa_istore q_X0_takeAway_41 (by decide) ?_
      refine wa_lv (C_take_loop (σ0 := _) a5 a3 hj c5 c3 g1 (fun i hi => hd _ (by omega)) hv hb0 a1 c1 c2 hbr hvr hsr hrr ?_ _ 0 0 _ _ rfl (Nat.zero_le _) BB_pos a2 (fun q hq => absurd hq (by omega)) (by simp [vl]) (fun _ _ => rfl) (fun _ _ => rfl) rfl rfl) rfl
      intro σ1 d1 c k1 k2 k3 k4 k5 k6 k7 k8
      have hb := (k6 b0 hbr).trans hb0
      have hv1 := (k6 dv hvr).trans a1
      have hlt := vl_lt (d := fun i => d1 (j + i)) (n := n) k3
      have hend := tk_end k4 hUe hlt (Nat.le_of_lt hVP) hVP g2 g3
      have hdn : d1 (n + j) = (S dv).2.2.2.1 (j + n) := by rw [Nat.add_comm]; exact k5 _ (Or.inr (Nat.le_refl _))
      have hrest : ∀ q, q < j ∨ j + n < q → d1 q = (S dv).2.2.2.1 q := fun q hq => k5 q (by omega)
      refine wa_aload_n q_X0_takeAway_142 rfl ?_
      refine wa_getf q_X0_takeAway_143 f_RX0_12 (by assumption) rfl ?_
      refine wa_getf q_X0_takeAway_146 f_RX0_69 (by assumption) rfl ?_
      refine wa_iload_n q_X0_takeAway_149 rfl ?_
      refine wa_iload_n q_X0_takeAway_150 rfl ?_
      refine wn_iadd q_X0_takeAway_151 ?_
      refine wn_iald q_X0_takeAway_152 (by assumption) (by omega) (by omega) ?_
      rw [hdn]
      refine wn_i2l q_X0_takeAway_153 (by omega) ?_
      refine wa_lload q_X0_takeAway_154 rfl ?_
      rcases hend with ⟨z1, z2, z3⟩ | ⟨z1, z2, z3⟩
      · refine wn_lsub q_X0_takeAway_156 (by omega) ?_
        rw [show (S dv).2.2.2.1 (j + n) - c = 0 by omega]
        refine wa_lstore q_X0_takeAway_157 (by decide) ?_
        refine wa_aload_n q_X0_takeAway_159 rfl ?_
        refine wa_getf q_X0_takeAway_160 f_RX0_12 (by assumption) rfl ?_
        refine wa_getf q_X0_takeAway_163 f_RX0_69 (by assumption) rfl ?_
        refine wa_iload_n q_X0_takeAway_166 rfl ?_
        refine wa_iload_n q_X0_takeAway_167 rfl ?_
        refine wn_iadd q_X0_takeAway_168 ?_
        refine wa_lload q_X0_takeAway_169 rfl ?_
        refine wn_l2i q_X0_takeAway_171 ?_
        refine wn_iast q_X0_takeAway_172 (by assumption) (by omega) (by omega) (fun σ_hr1 hr1 f_hr1 e1_hr1 e2_hr1 => ?_)
        refine wa_lload q_X0_takeAway_173 rfl ?_
        refine wa_lconst q_X0_takeAway_175 (v := lN 0) (by decide) ?_
        refine wn_lcmp_ge q_X0_takeAway_176 q_X0_takeAway_177 (by omega) (by omega) (fun hy => ?_) (fun hy => ?_)
        · refine wa_lload_n q_X0_takeAway_190 rfl ?_
          refine wn_l2i q_X0_takeAway_191 ?_
          refine wa_iret q_X0_takeAway_192 rfl ?_
          have hq := div_of z1 g2
          have st := bw_R.keep (a := dv) (sz := (S dv).2.2.1) (sg := (S dv).2.2.2.2) h h1 ((f_hr1 dv hvr).trans hv1) hr1 a3 (fun q q2 q3 => (f_hr1 q q3).trans (k6 q q3)) (by omega) (by omega)
          refine ⟨by rw [hq.1], _, fun i hi => ?_, un_s, ?_, fun q hq => ?_, st.1, st.2⟩
          · by_cases ei : i = n + j
            · rw [ei, un_s]; exact BB_pos
            · rw [un_n ei]
              by_cases hw : j ≤ i ∧ i < j + n
              · have := k3 (i - j) (by omega)
                rw [show j + (i - j) = i by omega] at this
                exact this
              · rw [hrest i (by omega)]; exact hd i hi
          · rw [vl_congr (e := fun i => d1 (j + i)) (fun i hi => un_n (by omega)), hq.2]; exact z3
          · rw [un_n (by omega)]; exact hrest q hq
        · exact absurd hy (by omega)
      · refine wa_lsub q_X0_takeAway_156 ?_
        rw [show lN ((S dv).2.2.2.1 (j + n)) - lN c = lZ (-1) by rw [lN_lZ, lN_lZ, lZ_sub]; congr 1; omega]
        refine wa_lstore q_X0_takeAway_157 (by decide) ?_
        refine wa_aload_n q_X0_takeAway_159 rfl ?_
        refine wa_getf q_X0_takeAway_160 f_RX0_12 (by assumption) rfl ?_
        refine wa_getf q_X0_takeAway_163 f_RX0_69 (by assumption) rfl ?_
        refine wa_iload_n q_X0_takeAway_166 rfl ?_
        refine wa_iload_n q_X0_takeAway_167 rfl ?_
        refine wn_iadd q_X0_takeAway_168 ?_
        refine wa_lload q_X0_takeAway_169 rfl ?_
        refine wa_l2i q_X0_takeAway_171 (v := nI 4294967295) (by decide) ?_
        refine wn_iast q_X0_takeAway_172 (by assumption) (by omega) (by omega) (fun σ_hr1 hr1 f_hr1 e1_hr1 e2_hr1 => ?_)
        have hb := (f_hr1 b0 hbr).trans hb
        refine wa_lload q_X0_takeAway_173 rfl ?_
        refine wa_lconst q_X0_takeAway_175 (v := lN 0) (by decide) ?_
        refine wa_lcmp q_X0_takeAway_176 ?_
        refine wa_if_ge q_X0_takeAway_177 (fun hge => absurd hge (by decide)) (fun hge => ?_)
        have st := bw_R.keep (a := dv) (sz := (S dv).2.2.1) (sg := (S dv).2.2.2.2) h h1 ((f_hr1 dv hvr).trans hv1) hr1 a3 (fun q q2 q3 => (f_hr1 q q3).trans (k6 q q3)) (by omega) (by omega)
        refine wa_aload_n q_X0_takeAway_180 rfl ?_
        refine wa_iload_n q_X0_takeAway_181 rfl ?_
        refine wa_iload_n q_X0_takeAway_182 rfl ?_
        refine wa_callV q_X0_takeAway_183 g_X0_takeAway_183 w_X0_giveBack (by assumption) rfl (av := [_, _]) rfl rfl (lk rfl) (Calls.mono (C_give (n := n) (j := j) st.1 hb h1 h2 hne (by rw [uB_n (fun z => hne z.symm)]; exact hn) (by rw [uB_s]; exact hj) (by rw [uB_s]; intro i hi; show un _ _ _ _ < BB; rw [un_n (by omega)]; exact k3 i hi) (by rw [uB_n (fun z => hne z.symm)]; exact hv)) ?_)
        rintro _ σ3 ⟨rfl, d2, e, w1, w2, w3, w4, w5, w6, w7⟩
        rw [uB_s] at w3 w4 w5 w6 w7
        rw [uB_u] at w6 w7
        rw [uB_n (fun z => hne z.symm)] at w3
        have w3 : vl (fun i => d2 (j + i)) n + e * BB ^ n = vl (fun i => un d1 (n + j) 4294967295 (j + i)) n + vl (S ds).2.2.2.1 n := w3
        have w4 : d2 (n + j) = un d1 (n + j) 4294967295 (n + j) + e := w4
        have w5 : ∀ q, q < j ∨ j + n < q → d2 q = un d1 (n + j) 4294967295 q := w5
        rw [vl_congr (e := fun i => d1 (j + i)) (fun i hi => un_n (by omega))] at w3
        rw [un_s] at w4
        have hlt2 := vl_lt (d := fun i => d2 (j + i)) (n := n) w2
        have he : e = 1 := by
          rcases Nat.eq_zero_or_pos e with z | z
          · subst z; omega
          · omega
        subst he
        have hg1 : 1 ≤ g := by
          rcases Nat.eq_zero_or_pos g with z | z
          · subst z; omega
          · exact z
        have hgv : g * vl (S ds).2.2.2.1 n = (g - 1) * vl (S ds).2.2.2.1 n + vl (S ds).2.2.2.1 n := by
          conv => lhs; rw [show g = g - 1 + 1 by omega, Nat.add_mul, Nat.one_mul]
        have hq := div_of (U := vl (fun i => (S dv).2.2.2.1 (j + i)) (n + 1)) (V := vl (S ds).2.2.2.1 n) (q := g - 1) (by omega) (by rw [Nat.sub_add_cancel hg1]; exact z1)
        have rc := bw_recast (e := un d2 (n + j) 0) (fun i => by
          by_cases ei : i = n + j
          · rw [ei, un_s, w4]; decide
          · rw [un_n ei]) w6 (st.2.tr w7)
        refine wa_lload_n q_X0_takeAway_186 rfl ?_
        refine wa_lconst q_X0_takeAway_187 (v := lN 1) (by decide) ?_
        refine wn_lsub q_X0_takeAway_188 (by omega) ?_
        refine wa_lstore_n q_X0_takeAway_189 (by decide) ?_
        refine wa_lload_n q_X0_takeAway_190 rfl ?_
        refine wn_l2i q_X0_takeAway_191 ?_
        refine wa_iret q_X0_takeAway_192 rfl ?_
        refine ⟨by rw [hq.1], _, fun i hi => ?_, un_s, ?_, fun q hq => ?_, rc.1, rc.2⟩
        · by_cases ei : i = n + j
          · rw [ei, un_s]; exact BB_pos
          · rw [un_n ei]
            by_cases hw : j ≤ i ∧ i < j + n
            · have := w2 (i - j) (by omega)
              rw [show j + (i - j) = i by omega] at this
              exact this
            · rw [w5 i (by omega), un_n ei, hrest i (by omega)]; exact hd i hi
        · rw [vl_congr (e := fun i => d2 (j + i)) (fun i hi => un_n (by omega)), hq.2]
          omega
        · rw [un_n (by omega), w5 q hq, un_n (by omega)]; exact hrest q hq
    · exact absurd hc2 (by omega)
end bench3
