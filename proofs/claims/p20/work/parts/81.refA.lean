/-! The reference: placeOf, its guess with one limb alone, and the whole -/
theorem kn_o0 (x : Nat) : (x + 0) * 1 + 0 = x := by rw [Nat.add_zero, Nat.mul_one, Nat.add_zero]
theorem kn_o1 {u0 u1 v1 : Nat} (h : u1 + u0 * BB < v1 * BB) : ((u0 * BB + u1) * BB + 0) * 1 + 0 < ((v1 * BB + 0) * 1 + 0) * BB := by
  rw [Nat.add_zero, Nat.mul_one, Nat.add_zero, Nat.add_zero, Nat.mul_one, Nat.add_zero]
  exact (Nat.mul_lt_mul_right BB_pos).mpr (by rw [Nat.add_comm]; exact h)
theorem kn_o2 {u0 u1 v1 g : Nat} (h : g * ((v1 * BB + 0) * 1 + 0) ≤ ((u0 * BB + u1) * BB + 0) * 1 + 0 + ((v1 * BB + 0) * 1 + 0)) : g * v1 ≤ u1 + u0 * BB + v1 := by
  rw [Nat.add_zero, Nat.mul_one, Nat.add_zero, Nat.add_zero, Nat.mul_one, Nat.add_zero, ← Nat.mul_assoc, ← Nat.add_mul] at h
  have := Nat.le_of_mul_le_mul_right h BB_pos
  omega
theorem kn_o3 {u0 u1 v1 g : Nat} (h : ((u0 * BB + u1) * BB + 0) * 1 + 0 < (g + 1) * ((v1 * BB + 0) * 1 + 0)) : u1 + u0 * BB < (g + 1) * v1 := by
  rw [kn_o0 ((u0 * BB + u1) * BB), kn_o0 (v1 * BB), ← Nat.mul_assoc] at h
  have := (Nat.mul_lt_mul_right BB_pos).mp h
  omega
theorem kn_o4 {tw v1 : Nat} (hv : 0 < v1) : (tw * BB + 0) * 1 + 0 < (tw / v1 + 1) * ((v1 * BB + 0) * 1 + 0) := by
  rw [kn_o0 (tw * BB), kn_o0 (v1 * BB), ← Nat.mul_assoc]
  refine (Nat.mul_lt_mul_right BB_pos).mpr ?_
  have h1 := Nat.div_add_mod tw v1
  have h2 := Nat.mod_lt tw hv
  rw [Nat.add_mul, Nat.one_mul, Nat.mul_comm (tw / v1) v1]
  omega
section ref11
variable {X : en_X} {σ : en_S} {M : Nat → Nat} {O : Int32 × Int32 × Int32 × Int32 × Int32} {C Z : Nat → Nat} {G : Nat → Int32} {V : Nat → Int}
set_option maxHeartbeats 2000000 in
theorem R_place {a b n j : Nat} (h : rR X σ M O C Z G) (ha : a < 140) (hb : b < 140) (hab : b ≠ a) (hn : 1 ≤ n) (hjn : j + n ≤ 319) (hda : ∀ i, i < n + 1 → reg C a (j + i) < BB) (hdb : ∀ i, i < n → reg C b i < BB) (htop : BB ≤ 2 * reg C b (n - 1)) (hU : vl (fun i => reg C a (j + i)) (n + 1) < vl (reg C b) n * BB) :
    Calls X M_X7_placeOf [.ref (M 0), .int (nI a), .int (nI b), .int (nI j), .int (nI n)] σ (plE X σ M O C Z G a b j n) := by
  have hB : BB = 1000000000 := rfl
  obtain ⟨a0, a1, a2, a3, n1, n2, n3⟩ := id h
  obtain ⟨U, hU0⟩ : ∃ U, U = vl (fun i => reg C a (j + i)) (n + 1) := ⟨_, rfl⟩
  obtain ⟨W, hW0⟩ : ∃ W, W = vl (reg C b) n := ⟨_, rfl⟩
  have hWp : W < BB ^ n := by rw [hW0]; exact vl_lt hdb
  have main := fun g => R_place_m (g := g) h ha hb hab hn hjn hda hdb hU0 hW0
  -- the limbs that the guess is made of
  have r1 : C (320 * a + j + n) = reg C a (j + n) := by unfold reg; rw [Nat.add_assoc]
  have r2 : C (320 * a + j + n - 1) = reg C a (j + (n - 1)) := by unfold reg; rw [show 320 * a + j + n - 1 = 320 * a + (j + (n - 1)) by omega]
  have r3 : C (320 * b + n - 1) = reg C b (n - 1) := by unfold reg; rw [show 320 * b + n - 1 = 320 * b + (n - 1) by omega]
  have b1 := hda n (by omega)
  have b2 := hda (n - 1) (by omega)
  have b3 := hdb (n - 1) (by omega)
  obtain ⟨u0, hu0⟩ : ∃ u0, u0 = reg C a (j + n) := ⟨_, rfl⟩
  obtain ⟨u1, hu1⟩ : ∃ u1, u1 = reg C a (j + (n - 1)) := ⟨_, rfl⟩
  obtain ⟨v1, hv1⟩ : ∃ v1, v1 = reg C b (n - 1) := ⟨_, rfl⟩
  rw [← hu0] at r1 b1
  rw [← hu1] at r2 b2
  rw [← hv1] at r3 b3 htop
  have hub : u0 * 1000000000 + u1 < 1000000000 * 1000000000 := by
    have : u0 * 1000000000 ≤ 999999999 * 1000000000 := Nat.mul_le_mul_right _ (by omega)
    omega
  obtain ⟨tw, htw⟩ : ∃ tw, tw = u0 * 1000000000 + u1 := ⟨_, rfl⟩
  have hqm := Nat.div_add_mod tw v1
  have hqm2 : tw / v1 * v1 + tw % v1 = tw := by rw [Nat.mul_comm]; exact hqm
  have htB : tw = u0 * BB + u1 := by rw [hB]; exact htw
  refine Calls.of rfl (lk rfl) ?_
  refine wa_sipush q_X7_placeOf_0 (v := nI 320) (by decide) ?_
  refine wa_iload_n q_X7_placeOf_3 rfl ?_
  refine wn_imul q_X7_placeOf_4 ?_
  refine wa_iload_n q_X7_placeOf_5 rfl ?_
  refine wn_iadd q_X7_placeOf_6 ?_
  refine wa_istore q_X7_placeOf_7 (by decide) ?_
  refine wa_sipush q_X7_placeOf_9 (v := nI 320) (by decide) ?_
  refine wa_iload_n q_X7_placeOf_12 rfl ?_
  refine wn_imul q_X7_placeOf_13 ?_
  refine wa_istore q_X7_placeOf_14 (by decide) ?_
  refine wa_aload_n q_X7_placeOf_16 rfl ?_
  refine wa_getf q_X7_placeOf_17 f_RX7_8 (by assumption) rfl ?_
  refine wa_iload q_X7_placeOf_20 rfl ?_
  refine wa_iload q_X7_placeOf_22 rfl ?_
  refine wn_iadd q_X7_placeOf_24 ?_
  refine wn_iald q_X7_placeOf_25 (by assumption) (by omega) (by omega) ?_
  rw [r1]
  refine wn_i2l q_X7_placeOf_26 (by omega) ?_
  refine wa_ldc2 q_X7_placeOf_27 (v := lN 1000000000) k_RX7_47 ?_
  refine wn_lmul q_X7_placeOf_30 ?_
  refine wa_aload_n q_X7_placeOf_31 rfl ?_
  refine wa_getf q_X7_placeOf_32 f_RX7_8 (by assumption) rfl ?_
  refine wa_iload q_X7_placeOf_35 rfl ?_
  refine wa_iload q_X7_placeOf_37 rfl ?_
  refine wn_iadd q_X7_placeOf_39 ?_
  refine wa_iconst q_X7_placeOf_40 (v := nI 1) (by decide) ?_
  refine wn_isub q_X7_placeOf_41 (by omega) ?_
  refine wn_iald q_X7_placeOf_42 (by assumption) (by omega) (by omega) ?_
  rw [r2]
  refine wn_i2l q_X7_placeOf_43 (by omega) ?_
  refine wn_ladd q_X7_placeOf_44 ?_
  rw [← htw]
  rw [← htw] at hub
  refine wa_lstore q_X7_placeOf_45 (by decide) ?_
  refine wa_aload_n q_X7_placeOf_47 rfl ?_
  refine wa_getf q_X7_placeOf_48 f_RX7_8 (by assumption) rfl ?_
  refine wa_iload q_X7_placeOf_51 rfl ?_
  refine wa_iload q_X7_placeOf_53 rfl ?_
  refine wn_iadd q_X7_placeOf_55 ?_
  refine wa_iconst q_X7_placeOf_56 (v := nI 1) (by decide) ?_
  refine wn_isub q_X7_placeOf_57 (by omega) ?_
  refine wn_iald q_X7_placeOf_58 (by assumption) (by omega) (by omega) ?_
  rw [r3]
  refine wn_i2l q_X7_placeOf_59 (by omega) ?_
  refine wa_lstore q_X7_placeOf_60 (by decide) ?_
  refine wa_lload q_X7_placeOf_62 rfl ?_
  refine wa_lload q_X7_placeOf_64 rfl ?_
  refine wn_ldiv q_X7_placeOf_66 (by omega) (by omega) (by omega) ?_
  refine wa_lstore q_X7_placeOf_67 (by decide) ?_
  refine wa_lload q_X7_placeOf_69 rfl ?_
  refine wa_lload q_X7_placeOf_71 rfl ?_
  refine wn_lrem q_X7_placeOf_73 (by omega) (by omega) (by omega) ?_
  refine wa_lstore q_X7_placeOf_74 (by decide) ?_
  refine wa_iload q_X7_placeOf_76 rfl ?_
  refine wa_iconst q_X7_placeOf_78 (v := nI 1) (by decide) ?_
  by_cases hn2 : 2 ≤ n
  · have r4 : C (320 * b + n - 2) = reg C b (n - 2) := by unfold reg; rw [show 320 * b + n - 2 = 320 * b + (n - 2) by omega]
    have r5 : C (320 * a + j + n - 2) = reg C a (j + (n - 2)) := by unfold reg; rw [show 320 * a + j + n - 2 = 320 * a + (j + (n - 2)) by omega]
    have b4 := hdb (n - 2) (by omega)
    have b5 := hda (n - 2) (by omega)
    have eU : U = ((u0 * BB + u1) * BB + reg C a (j + (n - 2))) * BB ^ (n - 2) + vl (fun i => reg C a (j + i)) (n - 2) := by rw [hU0, hu0, hu1]; exact vl_3 (d := fun i => reg C a (j + i)) hn2
    have eV : W = (v1 * BB + reg C b (n - 2)) * BB ^ (n - 2) + vl (reg C b) (n - 2) := by rw [hW0, hv1]; exact vl_2 (d := reg C b) hn2
    have hVl := vl_lt (d := reg C b) (n := n - 2) (fun i hi => hdb i (by omega))
    have hUl := vl_lt (d := fun i => reg C a (j + i)) (n := n - 2) (fun i hi => hda i (by omega))
    rw [← hU0, ← hW0] at hU
    refine wn_icmp_le q_X7_placeOf_79 (by omega) (by omega) (fun hx => ?_) (fun hx => ?_)
    · omega
    refine wa_aload_n q_X7_placeOf_82 rfl ?_
    refine wa_getf q_X7_placeOf_83 f_RX7_8 (by assumption) rfl ?_
    refine wa_iload q_X7_placeOf_86 rfl ?_
    refine wa_iload q_X7_placeOf_88 rfl ?_
    refine wn_iadd q_X7_placeOf_90 ?_
    refine wa_iconst q_X7_placeOf_91 (v := nI 2) (by decide) ?_
    refine wn_isub q_X7_placeOf_92 (by omega) ?_
    refine wn_iald q_X7_placeOf_93 (by assumption) (by omega) (by omega) ?_
    rw [r4]
    refine wn_i2l q_X7_placeOf_94 (by omega) ?_
    refine wa_goto q_X7_placeOf_95 ?_
    refine wa_lstore q_X7_placeOf_99 (by decide) ?_
    refine wa_iload q_X7_placeOf_101 rfl ?_
    refine wa_iconst q_X7_placeOf_103 (v := nI 1) (by decide) ?_
    refine wn_icmp_le q_X7_placeOf_104 (by omega) (by omega) (fun hy => ?_) (fun hy => ?_)
    · omega
    refine wa_aload_n q_X7_placeOf_107 rfl ?_
    refine wa_getf q_X7_placeOf_108 f_RX7_8 (by assumption) rfl ?_
    refine wa_iload q_X7_placeOf_111 rfl ?_
    refine wa_iload q_X7_placeOf_113 rfl ?_
    refine wn_iadd q_X7_placeOf_115 ?_
    refine wa_iconst q_X7_placeOf_116 (v := nI 2) (by decide) ?_
    refine wn_isub q_X7_placeOf_117 (by omega) ?_
    refine wn_iald q_X7_placeOf_118 (by assumption) (by omega) (by omega) ?_
    rw [r5]
    refine wn_i2l q_X7_placeOf_119 (by omega) ?_
    refine wa_goto q_X7_placeOf_120 ?_
    refine wa_lstore q_X7_placeOf_124 (by decide) ?_
    refine wa_lv (P_guess (v1 := v1) (v2 := reg C b (n - 2)) (un' := u0) (un1 := u1) (un2 := reg C a (j + (n - 2))) (P := BB ^ (n - 2)) (Vl := vl (reg C b) (n - 2)) (Ul := vl (fun i => reg C a (j + i)) (n - 2)) b3 htop b4 b1 b2 b5 hVl hUl (by rw [← eU, ← eV]; exact hU) (fun g g1 g2 g3 => ?_) (tw / v1) (tw % v1) ?_ ?_) rfl
    · rw [← eU, ← eV] at g2 g3
      exact main g g1 g2 g3
    · rw [← htB]; exact hqm2
    · have := kn_C (b := BB) (v1 := v1) (v2 := reg C b (n - 2)) (un := u0) (un1 := u1) (un2 := reg C a (j + (n - 2))) (P := BB ^ (n - 2)) (Vl := vl (reg C b) (n - 2)) (Ul := vl (fun i => reg C a (j + i)) (n - 2)) (by omega) b5 hUl
      rw [← htB] at this ⊢
      exact this
  · have en : n = 1 := by omega
    have eU : U = u1 + u0 * BB := by rw [hU0, hu0, hu1, en]; exact vl_two
    have eV : W = v1 := by rw [hW0, hv1, en]; exact vl_one
    rw [← hU0, ← hW0] at hU
    refine wn_icmp_le q_X7_placeOf_79 (by omega) (by omega) (fun hx => ?_) (fun hx => ?_)
    · refine wa_lconst q_X7_placeOf_98 (v := lN 0) (by decide) ?_
      refine wa_lstore q_X7_placeOf_99 (by decide) ?_
      refine wa_iload q_X7_placeOf_101 rfl ?_
      refine wa_iconst q_X7_placeOf_103 (v := nI 1) (by decide) ?_
      refine wn_icmp_le q_X7_placeOf_104 (by omega) (by omega) (fun hy => ?_) (fun hy => ?_)
      · refine wa_lconst q_X7_placeOf_123 (v := lN 0) (by decide) ?_
        refine wa_lstore q_X7_placeOf_124 (by decide) ?_
        have hP := P_guess (X := X) (σ := σ) (M := M) (ρ := σ) (n := n) (pa := 320 * a + j) (pb := 320 * b) (Q := plE X σ M O C Z G a b j n) (v1 := v1) (v2 := 0) (un' := u0) (un1 := u1) (un2 := 0) (P := 1) (Vl := 0) (Ul := 0) b3 htop BB_pos b1 b2 BB_pos Nat.one_pos Nat.one_pos (kn_o1 (by rw [← eU, ← eV]; exact hU)) (fun g g1 g2 g3 => main g g1 (by rw [eU, eV]; exact kn_o2 g2) (by rw [eU, eV]; exact kn_o3 g3)) (tw / v1) (tw % v1) (by rw [← htB]; exact hqm2) (by rw [← htB]; exact kn_o4 (by omega))
        exact wa_lv hP rfl
      · omega
    · omega
end ref11
