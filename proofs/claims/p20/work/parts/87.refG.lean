/-! The reference: isJoined -/
section ref16
variable {X : en_X} {σ : en_S} {M : Nat → Nat} {O : Int32 × Int32 × Int32 × Int32 × Int32} {C Z : Nat → Nat} {G : Nat → Int32} {V : Nat → Int}
/-- one corner: both roundings, the least in 4, the greatest in 5 -/
theorem J_corner {ρ σ0 : en_S} {op l a b k p : Nat} {x y : Nat} {dv : Bool} {V0 : Nat → Int} {Q : Option Value → en_S → Prop} (hop : op = if dv then 3 else 2) (hk : k < 4) (hx : x = a + k % 2) (hy : y = b + k / 2) (ha : 20 ≤ a) (ha2 : a + 1 < 140) (hb : 20 ≤ b) (hb2 : b + 1 < 140) (hp : p ≤ 480) (h : rV X σ M O C Z G V) (v12 : V 12 = 10 ^ p) (zx : (V x).natAbs < BB ^ 90) (zy : (V y).natAbs < BB ^ 90) (hnz : dv = true → V y ≠ 0) (hS : mSt M σ0 σ)
    (kq : ∀ (τ : en_S) (C1 Z1 : Nat → Nat) (G1 : Nat → Int32) (V1 : Nat → Int), rV X τ M O C1 Z1 G1 V1 → V1 4 = nmin k (V 4) (cdn dv p (V x) (V y)) → V1 5 = nmax k (V 5) (cup dv p (V x) (V y)) → (∀ s, 12 ≤ s → V1 s = V s) → mSt M σ0 τ → WA X M_X7_isJoined ρ 218 [(0, .ref (M 0)), (1, .int (nI op)), (2, .int (nI l)), (3, .int (nI a)), (4, .int (nI b)), (5, .int (nI k))] [] τ Q) :
    WA X M_X7_isJoined ρ 122 [(7, .int (nI y)), (6, .int (nI x)), (0, .ref (M 0)), (1, .int (nI op)), (2, .int (nI l)), (3, .int (nI a)), (4, .int (nI b)), (5, .int (nI k))] [] σ Q := by
  have b10 : ((10 : Int) ^ p).natAbs < BB ^ 155 := by
    rw [Int.natAbs_pow]
    exact Nat.lt_of_le_of_lt (p10_lt hp) ((Nat.pow_lt_pow_iff_right (by decide)).mpr (by decide))
  have b10' : ((10 : Int) ^ p).natAbs < BB ^ 290 := Nat.lt_of_lt_of_le b10 (pw_mono (by decide))
  have zx' : (V x).natAbs < BB ^ 155 := Nat.lt_of_lt_of_le zx (pw_mono (by decide))
  have zy' : (V y).natAbs < BB ^ 155 := Nat.lt_of_lt_of_le zy (pw_mono (by decide))
  have hTi : (0 : Int) < 10 ^ p := Int.pow_pos (by decide)
  -- behind both factors: 0 over 1
  have main : ∀ (σ2 : en_S) (C2 Z2 : Nat → Nat) (G2 : Nat → Int32) (V2 : Nat → Int) (n d : Int), rV X σ2 M O C2 Z2 G2 V2 → V2 0 = n → V2 1 = d → d ≠ 0 → n.natAbs < BB ^ 290 → d.natAbs < BB ^ 290 → qdn n d = cdn dv p (V x) (V y) → qup n d = cup dv p (V x) (V y) → (∀ s, s = 4 ∨ s = 5 ∨ 12 ≤ s → V2 s = V s) → mSt M σ0 σ2 → WA X M_X7_isJoined ρ 162 [(7, .int (nI y)), (6, .int (nI x)), (0, .ref (M 0)), (1, .int (nI op)), (2, .int (nI l)), (3, .int (nI a)), (4, .int (nI b)), (5, .int (nI k))] [] σ2 Q := by
    intro σ2 C2 Z2 G2 V2 n d h2 vn vd hd0 zn zd eD eU vo s2
    obtain ⟨b0, b1, b2, b3, -⟩ := id h2.1
    refine wa_aload_n q_X7_isJoined_162 rfl ?_
    refine wa_iconst q_X7_isJoined_163 (v := nI 2) (by decide) ?_
    refine wa_iconst q_X7_isJoined_164 (v := nI 0) (by decide) ?_
    refine wa_iconst q_X7_isJoined_165 (v := nI 1) (by decide) ?_
    refine wa_iconst q_X7_isJoined_166 (v := nI 0) (by decide) ?_
    refine wa_callV q_X7_isJoined_167 g_X7_isJoined_167 w_X7_rounded (by assumption) rfl (av := [_, _, _, _]) rfl rfl (lk rfl) (Calls.mono (R_rnd (up := false) h2 (r := 2) (a := 0) (b := 1) (by decide) (by decide) (by decide) (by decide) (by decide) (by decide) (by decide) (by rw [vd]; exact hd0) (by rw [vn]; exact zn) (by rw [vd]; exact zd)) ?_)
    rintro _ σ3 ⟨rfl, C3, Z3, G3, V3, h3, q1, q2, s3⟩
    rw [vn, vd] at q1
    have q1 : V3 2 = cdn dv p (V x) (V y) := q1.trans eD
    have vn3 : V3 0 = n := (q2 0 (by decide) (by decide) (by decide)).trans vn
    have vd3 : V3 1 = d := (q2 1 (by decide) (by decide) (by decide)).trans vd
    obtain ⟨c0, c1, c2, c3, -⟩ := id h3.1
    refine wa_aload_n q_X7_isJoined_170 rfl ?_
    refine wa_iconst q_X7_isJoined_171 (v := nI 3) (by decide) ?_
    refine wa_iconst q_X7_isJoined_172 (v := nI 0) (by decide) ?_
    refine wa_iconst q_X7_isJoined_173 (v := nI 1) (by decide) ?_
    refine wa_iconst q_X7_isJoined_174 (v := nI 1) (by decide) ?_
    refine wa_callV q_X7_isJoined_175 g_X7_isJoined_175 w_X7_rounded (by assumption) rfl (av := [_, _, _, _]) rfl rfl (lk rfl) (Calls.mono (R_rnd (up := true) h3 (r := 3) (a := 0) (b := 1) (by decide) (by decide) (by decide) (by decide) (by decide) (by decide) (by decide) (by rw [vd3]; exact hd0) (by rw [vn3]; exact zn) (by rw [vd3]; exact zd)) ?_)
    rintro _ σ4 ⟨rfl, C4, Z4, G4, V4, h4, r1, r2, s4⟩
    rw [vn3, vd3] at r1
    have r1 : V4 3 = cup dv p (V x) (V y) := r1.trans eU
    have v42 : V4 2 = cdn dv p (V x) (V y) := (r2 2 (by decide) (by decide) (by decide)).trans q1
    have vo4 : ∀ s, s = 4 ∨ s = 5 ∨ 12 ≤ s → V4 s = V s := fun s hs => by rw [r2 s (by omega) (by omega) (by omega), q2 s (by omega) (by omega) (by omega)]; exact vo s hs
    have sA := s2.tr (s3.tr s4)
    have e0 : (0 : Int32) = iZ 0 := by decide
    -- the greatest
    have up5 : ∀ (σ5 : en_S) (C5 Z5 : Nat → Nat) (G5 : Nat → Int32) (V5 : Nat → Int), rV X σ5 M O C5 Z5 G5 V5 → V5 4 = nmin k (V 4) (cdn dv p (V x) (V y)) → V5 3 = cup dv p (V x) (V y) → V5 5 = V 5 → (∀ s, 12 ≤ s → V5 s = V s) → mSt M σ0 σ5 → WA X M_X7_isJoined ρ 198 [(7, .int (nI y)), (6, .int (nI x)), (0, .ref (M 0)), (1, .int (nI op)), (2, .int (nI l)), (3, .int (nI a)), (4, .int (nI b)), (5, .int (nI k))] [] σ5 Q := by
      intro σ5 C5 Z5 G5 V5 h5 w4 w3 w5 wo t5
      have go : nmax k (V 5) (cup dv p (V x) (V y)) = cup dv p (V x) (V y) → WA X M_X7_isJoined ρ 212 [(7, .int (nI y)), (6, .int (nI x)), (0, .ref (M 0)), (1, .int (nI op)), (2, .int (nI l)), (3, .int (nI a)), (4, .int (nI b)), (5, .int (nI k))] [] σ5 Q := by
        intro em
        obtain ⟨d0, d1, d2, d3, -⟩ := id h5.1
        refine wa_aload_n q_X7_isJoined_212 rfl ?_
        refine wa_iconst q_X7_isJoined_213 (v := nI 3) (by decide) ?_
        refine wa_iconst q_X7_isJoined_214 (v := nI 5) (by decide) ?_
        refine wa_callV q_X7_isJoined_215 g_X7_isJoined_215 w_X7_copyTo (by assumption) rfl (av := [_, _]) rfl rfl (lk rfl) (Calls.mono (R_copy h5 (a := 3) (b := 5) (by decide) (by decide)) ?_)
        rintro _ σ6 ⟨rfl, C6, Z6, G6, h6, s6⟩
        exact wa_lv (kq σ6 C6 Z6 G6 _ h6 (by rw [uV_n (by decide)]; exact w4) (by rw [uV_s, w3, em]) (fun s hs => by rw [uV_n (by omega)]; exact wo s hs) (t5.tr s6)) rfl
      refine wa_iload q_X7_isJoined_198 rfl ?_
      refine wn_if_eq q_X7_isJoined_200 (by omega) (fun z => go (if_pos (Or.inl z))) (fun z => ?_)
      obtain ⟨d0, d1, d2, d3, -⟩ := id h5.1
      refine wa_aload_n q_X7_isJoined_203 rfl ?_
      refine wa_iconst q_X7_isJoined_204 (v := nI 3) (by decide) ?_
      refine wa_iconst q_X7_isJoined_205 (v := nI 5) (by decide) ?_
      refine wa_callV q_X7_isJoined_206 g_X7_isJoined_206 w_X7_compareTo (by assumption) rfl (av := [_, _]) rfl rfl (lk rfl) (Calls.mono (R_cmp h5 (a := 3) (b := 5) (by decide) (by decide)) ?_)
      rintro res τ6 ⟨⟨w, rfl, x1, x2, x3, x4⟩, eτ⟩
      rw [eτ]
      rw [w3, w5] at x3 x4
      refine wa_if_le q_X7_isJoined_209 (fun hc => ?_) (fun hc => ?_)
      · rw [e0] at hc
        have hc' := (iZ_le x1 x2 (by decide) (by decide)).mp hc
        have : nmax k (V 5) (cup dv p (V x) (V y)) = V 5 := if_neg (by omega)
        exact wa_lv (kq σ5 C5 Z5 G5 V5 h5 w4 (by rw [this]; exact w5) wo t5) rfl
      · rw [e0] at hc
        have hc' : ¬ w ≤ 0 := fun z => hc ((iZ_le x1 x2 (by decide) (by decide)).mpr z)
        exact go (if_pos (Or.inr (by omega)))
    have go4 : nmin k (V 4) (cdn dv p (V x) (V y)) = cdn dv p (V x) (V y) → WA X M_X7_isJoined ρ 192 [(7, .int (nI y)), (6, .int (nI x)), (0, .ref (M 0)), (1, .int (nI op)), (2, .int (nI l)), (3, .int (nI a)), (4, .int (nI b)), (5, .int (nI k))] [] σ4 Q := by
      intro em
      obtain ⟨d0, d1, d2, d3, -⟩ := id h4.1
      refine wa_aload_n q_X7_isJoined_192 rfl ?_
      refine wa_iconst q_X7_isJoined_193 (v := nI 2) (by decide) ?_
      refine wa_iconst q_X7_isJoined_194 (v := nI 4) (by decide) ?_
      refine wa_callV q_X7_isJoined_195 g_X7_isJoined_195 w_X7_copyTo (by assumption) rfl (av := [_, _]) rfl rfl (lk rfl) (Calls.mono (R_copy h4 (a := 2) (b := 4) (by decide) (by decide)) ?_)
      rintro _ σ6 ⟨rfl, C6, Z6, G6, h6, s6⟩
      exact wa_lv (up5 σ6 C6 Z6 G6 _ h6 (by rw [uV_s, v42, em]) (by rw [uV_n (by decide)]; exact r1) (by rw [uV_n (by decide)]; exact vo4 5 (by omega)) (fun s hs => by rw [uV_n (by omega)]; exact vo4 s (by omega)) (sA.tr s6)) rfl
    refine wa_iload q_X7_isJoined_178 rfl ?_
    refine wn_if_eq q_X7_isJoined_180 (by omega) (fun z => go4 (if_pos (Or.inl z))) (fun z => ?_)
    obtain ⟨d0, d1, d2, d3, -⟩ := id h4.1
    refine wa_aload_n q_X7_isJoined_183 rfl ?_
    refine wa_iconst q_X7_isJoined_184 (v := nI 2) (by decide) ?_
    refine wa_iconst q_X7_isJoined_185 (v := nI 4) (by decide) ?_
    refine wa_callV q_X7_isJoined_186 g_X7_isJoined_186 w_X7_compareTo (by assumption) rfl (av := [_, _]) rfl rfl (lk rfl) (Calls.mono (R_cmp h4 (a := 2) (b := 4) (by decide) (by decide)) ?_)
    rintro res τ6 ⟨⟨w, rfl, x1, x2, x3, x4⟩, eτ⟩
    rw [eτ]
    rw [v42, vo4 4 (by omega)] at x3 x4
    refine wa_if_ge q_X7_isJoined_189 (fun hc => ?_) (fun hc => ?_)
    · rw [e0] at hc
      have hc' := (iZ_le (by decide) (by decide) x1 x2).mp hc
      have : nmin k (V 4) (cdn dv p (V x) (V y)) = V 4 := if_neg (by omega)
      exact wa_lv (up5 σ4 C4 Z4 G4 V4 h4 (by rw [this]; exact vo4 4 (by omega)) r1 (vo4 5 (by omega)) (fun s hs => vo4 s (by omega)) sA) rfl
    · rw [e0] at hc
      have hc' : ¬ 0 ≤ w := fun z => hc ((iZ_le (by decide) (by decide) x1 x2).mpr z)
      exact go4 (if_pos (Or.inr (by omega)))
  obtain ⟨a0, a1, a2, a3, n1, n2, n3⟩ := id h.1
  refine wa_iload_n q_X7_isJoined_122 rfl ?_
  refine wa_iconst q_X7_isJoined_123 (v := nI 2) (by decide) ?_
  cases dv
  · have e2 : op = 2 := hop
    subst e2
    refine wn_icmp_ne q_X7_isJoined_124 (by decide) (by decide) (fun z => absurd rfl z) (fun _ => ?_)
    refine wa_aload_n q_X7_isJoined_127 rfl ?_
    refine wa_iconst q_X7_isJoined_128 (v := nI 0) (by decide) ?_
    refine wa_iload q_X7_isJoined_129 rfl ?_
    refine wa_iload q_X7_isJoined_131 rfl ?_
    refine wa_callV q_X7_isJoined_133 g_X7_isJoined_133 w_X7_multiply (by assumption) rfl (av := [_, _, _]) rfl rfl (lk rfl) (Calls.mono (R_mul h (r := 0) (a := x) (b := y) (by decide) (by omega) (by omega) (by omega) (by omega) zx' zy') ?_)
    rintro _ σ1 ⟨rfl, C1, Z1, G1, h1, s1⟩
    obtain ⟨b0, b1, b2, b3, -⟩ := id h1.1
    refine wa_aload_n q_X7_isJoined_136 rfl ?_
    refine wa_bipush q_X7_isJoined_137 (v := nI 12) (by decide) ?_
    refine wa_iconst q_X7_isJoined_139 (v := nI 1) (by decide) ?_
    refine wa_callV q_X7_isJoined_140 g_X7_isJoined_140 w_X7_copyTo (by assumption) rfl (av := [_, _]) rfl rfl (lk rfl) (Calls.mono (R_copy h1 (a := 12) (b := 1) (by decide) (by decide)) ?_)
    rintro _ σ2 ⟨rfl, C2, Z2, G2, h2, s2⟩
    have e12 : uV V 0 (V x * V y) 12 = 10 ^ p := by rw [uV_n (by decide)]; exact v12
    rw [e12] at h2
    refine wa_goto q_X7_isJoined_143 ?_
    have zz : (V x * V y).natAbs < BB ^ 290 := by rw [Int.natAbs_mul]; exact lp_le (mul_lt zx zy) (by decide)
    exact wa_lv (main σ2 C2 Z2 G2 _ (V x * V y) (10 ^ p) h2 (by rw [uV_n (by decide), uV_s]) uV_s (by omega) zz b10' cdn_ten.1.symm cdn_ten.2.symm (fun s hs => by rw [uV_n (by omega), uV_n (by omega)]) (hS.tr (s1.tr s2))) rfl
  · have e2 : op = 3 := hop
    subst e2
    refine wn_icmp_ne q_X7_isJoined_124 (by decide) (by decide) (fun _ => ?_) (fun z => absurd z (by decide))
    refine wa_aload_n q_X7_isJoined_146 rfl ?_
    refine wa_iconst q_X7_isJoined_147 (v := nI 0) (by decide) ?_
    refine wa_iload q_X7_isJoined_148 rfl ?_
    refine wa_bipush q_X7_isJoined_150 (v := nI 12) (by decide) ?_
    refine wa_callV q_X7_isJoined_152 g_X7_isJoined_152 w_X7_multiply (by assumption) rfl (av := [_, _, _]) rfl rfl (lk rfl) (Calls.mono (R_mul h (r := 0) (a := x) (b := 12) (by decide) (by omega) (by decide) (by omega) (by decide) zx' (by rw [v12]; exact b10)) ?_)
    rintro _ σ1 ⟨rfl, C1, Z1, G1, h1, s1⟩
    rw [v12] at h1
    obtain ⟨b0, b1, b2, b3, -⟩ := id h1.1
    refine wa_aload_n q_X7_isJoined_155 rfl ?_
    refine wa_iload q_X7_isJoined_156 rfl ?_
    refine wa_iconst q_X7_isJoined_158 (v := nI 1) (by decide) ?_
    refine wa_callV q_X7_isJoined_159 g_X7_isJoined_159 w_X7_copyTo (by assumption) rfl (av := [_, _]) rfl rfl (lk rfl) (Calls.mono (R_copy h1 (a := y) (b := 1) (by omega) (by decide)) ?_)
    rintro _ σ2 ⟨rfl, C2, Z2, G2, h2, s2⟩
    have ey : uV V 0 (V x * 10 ^ p) y = V y := uV_n (by omega)
    rw [ey] at h2
    exact wa_lv (main σ2 C2 Z2 G2 _ (V x * 10 ^ p) (V y) h2 (by rw [uV_n (by decide), uV_s]) uV_s (hnz rfl) (Nat.lt_of_lt_of_le (op_lt zx hp) (pw_mono (by decide))) (Nat.lt_of_lt_of_le zy (pw_mono (by decide))) rfl rfl (fun s hs => by rw [uV_n (by omega), uV_n (by omega)]) (hS.tr (s1.tr s2))) rfl
end ref16
