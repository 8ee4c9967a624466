/-! The reference: isBound -/
/-- findFloor comes to an end, and finds what the class finds -/
def FFok : Prop := ∀ kd a b, serOk kd a b → (kd = 4 → a ≠ 0) → ∀ p, 1 ≤ p → p ≤ 480 → (∃ j, j ≤ 40 ∧ ffL kd a b p (18 + 18 * j) = ffH kd a b p (18 + 18 * j)) ∧ ffGo kd a b p 40 18 = rfl' kd a b p
/-- the i-th VALUE's registers say what enc says -/
def rOk (V : Nat → Int) (Op : Nat → Bool) (E : Nat → Option (Int × Int)) (i : Nat) : Prop := match E i with
  | none => Op i = true
  | some q => Op i = false ∧ V (20 + 2 * i) = q.1 ∧ V (20 + 2 * i + 1) = q.2
theorem rOk.n {V : Nat → Int} {Op : Nat → Bool} {E : Nat → Option (Int × Int)} {i : Nat} (h : rOk V Op E i) (e : Op i = true) : E i = none := by
  unfold rOk at h
  cases q : E i with
  | none => rfl
  | some x => rw [q] at h; rw [h.1] at e; cases e
theorem rOk.s {V : Nat → Int} {Op : Nat → Bool} {E : Nat → Option (Int × Int)} {i : Nat} (h : rOk V Op E i) (e : Op i = false) : E i = some (V (20 + 2 * i), V (20 + 2 * i + 1)) := by
  unfold rOk at h
  cases q : E i with
  | none => rw [q] at h; rw [e] at h; cases h
  | some x => rw [q] at h; rw [h.2.1, h.2.2]
theorem z155 {p : Nat} (hp : p ≤ 480) : ((10 : Int) ^ p).natAbs < BB ^ 54 := by
  rw [Int.natAbs_pow]
  refine Nat.lt_of_le_of_lt (Nat.pow_le_pow_right (by decide) hp) ?_
  rw [show BB ^ 54 = (10 ^ 9) ^ 54 from rfl, ← Nat.pow_mul]
  exact (Nat.pow_lt_pow_iff_right (by decide)).mpr (by decide)
section ref27
variable {X : en_X} {M : Nat → Nat} {O : Int32 × Int32 × Int32 × Int32 × Int32} {K : Nat → Int32} {N1 N2 Pa Fo : Nat → Int64} {Op Nd : Nat → Bool} {u p : Nat} {kd fs sn : Nat → Nat} {A B : Nat → Int}
/-- what isBound is to leave -/
def bnQ (X : en_X) (M : Nat → Nat) (O : Int32 × Int32 × Int32 × Int32 × Int32) (σ : en_S) (V : Nat → Int) (u : Nat) (r : Option (Int × Int)) (res : Option Value) (τ : en_S) : Prop :=
  ∃ C' Z' G' V', rV X τ M O C' Z' G' V' ∧ (∀ s, 12 ≤ s → s ≠ 20 + 2 * u → s ≠ 20 + 2 * u + 1 → V' s = V s) ∧ mSt M σ τ ∧ match r with
    | none => res = some (.int (nI 0))
    | some q => res = some (.int (nI 1)) ∧ V' (20 + 2 * u) = q.1 ∧ V' (20 + 2 * u + 1) = q.2
theorem B_0 {ρ σ : en_S} {C Z : Nat → Nat} {G : Nat → Int32} {V : Nat → Int} {w4 w5 : Int32} (h : rV X σ M O C Z G V) (hA : mA X σ M K N1 N2 Op Nd Pa Fo) (hu : u < 60) (hp : p ≤ 480) (v12 : V 12 = 10 ^ p) (hk : kd u = 0) (hv : vOk kd fs sn A B u) (hm : mK K N1 N2 kd fs sn A B u) (E : Nat → Option (Int × Int)) :
    WA X M_X7_isBound ρ 112 [(5, .int w5), (4, .int w4), (3, .int (nI (20 + 2 * u))), (0, .ref (M 0)), (1, .int (nI u)), (2, .int (nI p))] [] σ (bnQ X M O σ V u (raw kd fs sn A B p E u)) := by
  have er : raw kd fs sn A B p E u = some (A u * 10 ^ p, A u * 10 ^ p) := if_pos hk
  obtain ⟨-, hr, -⟩ := hv
  obtain ⟨r1, r2⟩ := hr (by omega)
  obtain ⟨-, m2, -⟩ := hm
  obtain ⟨a0, a1, a2, a3, -⟩ := id h.1
  obtain ⟨k4, k5, k6, k7, k8, k11, k14, hD⟩ := id hA
  refine wa_aload_n q_X7_isBound_112 rfl ?_
  refine wa_iconst q_X7_isBound_113 (v := nI 0) (by decide) ?_
  refine wa_aload_n q_X7_isBound_114 rfl ?_
  refine wa_getf q_X7_isBound_115 f_RX7_23 (by assumption) rfl ?_
  refine wa_iload_n q_X7_isBound_118 rfl ?_
  refine wn_glald q_X7_isBound_119 k5 (by omega) ?_
  rw [m2 (by omega)]
  refine wa_callV q_X7_isBound_120 g_X7_isBound_120 w_X7_setTo (by assumption) rfl (av := [_, _]) rfl rfl (lk rfl) (Calls.mono (R_set h (r := 0) (by decide) r1 r2) ?_)
  rintro _ σ1 ⟨rfl, C1, Z1, G1, h1, s1⟩
  have e0 : uV V 0 (A u) 0 = A u := uV_s
  have e12 : uV V 0 (A u) 12 = 10 ^ p := by rw [uV_n (by decide)]; exact v12
  obtain ⟨b0, b1, b2, b3, -⟩ := id h1.1
  refine wa_aload_n q_X7_isBound_123 rfl ?_
  refine wa_iload_n q_X7_isBound_124 rfl ?_
  refine wa_iconst q_X7_isBound_125 (v := nI 0) (by decide) ?_
  refine wa_bipush q_X7_isBound_126 (v := nI 12) (by decide) ?_
  refine wa_callV q_X7_isBound_128 g_X7_isBound_128 w_X7_multiply (by assumption) rfl (av := [_, _, _]) rfl rfl (lk rfl) (Calls.mono (R_mul h1 (r := 20 + 2 * u) (a := 0) (b := 12) (by omega) (by decide) (by decide) (by omega) (by omega) (by rw [e0]; exact Nat.lt_of_lt_of_le (l_lt r1 r2) (pw_mono (by decide))) (by rw [e12]; exact Nat.lt_of_lt_of_le (z155 hp) (pw_mono (by decide)))) ?_)
  rintro _ σ2 ⟨rfl, C2, Z2, G2, h2, s2⟩
  rw [e0, e12] at h2
  obtain ⟨c0, c1, c2, c3, -⟩ := id h2.1
  refine wa_aload_n q_X7_isBound_131 rfl ?_
  refine wa_iload_n q_X7_isBound_132 rfl ?_
  refine wa_iload_n q_X7_isBound_133 rfl ?_
  refine wa_iconst q_X7_isBound_134 (v := nI 1) (by decide) ?_
  refine wn_iadd q_X7_isBound_135 ?_
  refine wa_callV q_X7_isBound_136 g_X7_isBound_136 w_X7_copyTo (by assumption) rfl (av := [_, _]) rfl rfl (lk rfl) (Calls.mono (R_copy h2 (a := 20 + 2 * u) (b := 20 + 2 * u + 1) (by omega) (by omega)) ?_)
  rintro _ σ3 ⟨rfl, C3, Z3, G3, h3, s3⟩
  rw [uV_s] at h3
  refine wa_iconst q_X7_isBound_139 (v := nI 1) (by decide) ?_
  refine wa_zret q_X7_isBound_140 rfl rfl ?_
  rw [er]
  exact ⟨C3, Z3, G3, _, h3, fun s x1 x2 x3 => by rw [uV_n x3, uV_n x2, uV_n (by omega)], s1.tr (s2.tr s3), rfl, by rw [uV_n (by omega), uV_s], uV_s⟩
theorem B_1 {ρ σ : en_S} {C Z : Nat → Nat} {G : Nat → Int32} {V : Nat → Int} {w4 w5 : Int32} (h : rV X σ M O C Z G V) (hA : mA X σ M K N1 N2 Op Nd Pa Fo) (hu : u < 60) (hp : p ≤ 480) (v12 : V 12 = 10 ^ p) (hk : kd u = 1) (hv : vOk kd fs sn A B u) (hm : mK K N1 N2 kd fs sn A B u) (E : Nat → Option (Int × Int)) :
    WA X M_X7_isBound ρ 141 [(5, .int w5), (4, .int w4), (3, .int (nI (20 + 2 * u))), (0, .ref (M 0)), (1, .int (nI u)), (2, .int (nI p))] [] σ (bnQ X M O σ V u (raw kd fs sn A B p E u)) := by
  have er : raw kd fs sn A B p E u = some (qdn (A u * 10 ^ p) (B u), qup (A u * 10 ^ p) (B u)) := by
    unfold raw; rw [if_neg (by omega), if_pos hk]
  obtain ⟨-, hr, hr2, -⟩ := hv
  obtain ⟨r1, r2⟩ := hr (by omega)
  obtain ⟨r0, r3, r4⟩ := hr2 hk
  obtain ⟨-, m2, m3, -⟩ := hm
  obtain ⟨a0, a1, a2, a3, -⟩ := id h.1
  obtain ⟨k4, k5, k6, k7, k8, k11, k14, hD⟩ := id hA
  refine wa_aload_n q_X7_isBound_141 rfl ?_
  refine wa_iconst q_X7_isBound_142 (v := nI 0) (by decide) ?_
  refine wa_aload_n q_X7_isBound_143 rfl ?_
  refine wa_getf q_X7_isBound_144 f_RX7_23 (by assumption) rfl ?_
  refine wa_iload_n q_X7_isBound_147 rfl ?_
  refine wn_glald q_X7_isBound_148 k5 (by omega) ?_
  rw [m2 (by omega)]
  refine wa_callV q_X7_isBound_149 g_X7_isBound_149 w_X7_setTo (by assumption) rfl (av := [_, _]) rfl rfl (lk rfl) (Calls.mono (R_set h (r := 0) (by decide) r1 r2) ?_)
  rintro _ σ1 ⟨rfl, C1, Z1, G1, h1, s1⟩
  have e0 : uV V 0 (A u) 0 = A u := uV_s
  have e12 : uV V 0 (A u) 12 = 10 ^ p := by rw [uV_n (by decide)]; exact v12
  obtain ⟨b0, b1, b2, b3, -⟩ := id h1.1
  refine wa_aload_n q_X7_isBound_152 rfl ?_
  refine wa_iconst q_X7_isBound_153 (v := nI 1) (by decide) ?_
  refine wa_iconst q_X7_isBound_154 (v := nI 0) (by decide) ?_
  refine wa_bipush q_X7_isBound_155 (v := nI 12) (by decide) ?_
  refine wa_callV q_X7_isBound_157 g_X7_isBound_157 w_X7_multiply (by assumption) rfl (av := [_, _, _]) rfl rfl (lk rfl) (Calls.mono (R_mul h1 (r := 1) (a := 0) (b := 12) (by omega) (by decide) (by decide) (by omega) (by omega) (by rw [e0]; exact Nat.lt_of_lt_of_le (l_lt r1 r2) (pw_mono (by decide))) (by rw [e12]; exact Nat.lt_of_lt_of_le (z155 hp) (pw_mono (by decide)))) ?_)
  rintro _ σ2 ⟨rfl, C2, Z2, G2, h2, s2⟩
  rw [e0, e12] at h2
  have k62 : look σ2 (M 6) = some (gL X 60 N2) := ((hA.st s1).st s2).2.2.1
  obtain ⟨c0, c1, c2, c3, -⟩ := id h2.1
  refine wa_aload_n q_X7_isBound_160 rfl ?_
  refine wa_iconst q_X7_isBound_161 (v := nI 0) (by decide) ?_
  refine wa_aload_n q_X7_isBound_162 rfl ?_
  refine wa_getf q_X7_isBound_163 f_RX7_27 (by assumption) rfl ?_
  refine wa_iload_n q_X7_isBound_166 rfl ?_
  refine wn_glald q_X7_isBound_167 k62 (by omega) ?_
  rw [m3 (Or.inl hk)]
  refine wa_callV q_X7_isBound_168 g_X7_isBound_168 w_X7_setTo (by assumption) rfl (av := [_, _]) rfl rfl (lk rfl) (Calls.mono (R_set h2 (r := 0) (by decide) r3 r4) ?_)
  rintro _ σ3 ⟨rfl, C3, Z3, G3, h3, s3⟩
  have f0 : uV (uV (uV V 0 (A u)) 1 (A u * 10 ^ p)) 0 (B u) 0 = B u := uV_s
  have f1 : uV (uV (uV V 0 (A u)) 1 (A u * 10 ^ p)) 0 (B u) 1 = A u * 10 ^ p := by rw [uV_n (by decide), uV_s]
  have fo : ∀ s, 12 ≤ s → uV (uV (uV V 0 (A u)) 1 (A u * 10 ^ p)) 0 (B u) s = V s := fun s hs => by rw [uV_n (by omega), uV_n (by omega), uV_n (by omega)]
  generalize uV (uV (uV V 0 (A u)) 1 (A u * 10 ^ p)) 0 (B u) = V3 at *
  have z1 : (A u * 10 ^ p).natAbs < BB ^ 290 := by
    rw [Int.natAbs_mul, Int.natAbs_pow]
    exact Nat.lt_of_lt_of_le (lp_lt r1 r2 hp) (pw_mono (by decide))
  have z0 : (B u).natAbs < BB ^ 290 := Nat.lt_of_lt_of_le (l_lt r3 r4) (pw_mono (by decide))
  obtain ⟨d0, d1, d2, d3, -⟩ := id h3.1
  refine wa_aload_n q_X7_isBound_171 rfl ?_
  refine wa_iload_n q_X7_isBound_172 rfl ?_
  refine wa_iconst q_X7_isBound_173 (v := nI 1) (by decide) ?_
  refine wa_iconst q_X7_isBound_174 (v := nI 0) (by decide) ?_
  refine wa_iconst q_X7_isBound_175 (v := nI 0) (by decide) ?_
  refine wa_callV q_X7_isBound_176 g_X7_isBound_176 w_X7_rounded (by assumption) rfl (av := [_, _, _, _]) rfl rfl (lk rfl) (Calls.mono (R_rnd (up := false) h3 (r := 20 + 2 * u) (a := 1) (b := 0) (by omega) (by decide) (by decide) (by omega) (by omega) (by decide) (by decide) (by rw [f0]; exact r0) (by rw [f1]; exact z1) (by rw [f0]; exact z0)) ?_)
  rintro _ σ4 ⟨rfl, C4, Z4, G4, V4, h4, g1, go, s4⟩
  rw [f0, f1] at g1
  have i0 : V4 0 = B u := by rw [go 0 (by omega) (by decide) (by decide)]; exact f0
  have i1 : V4 1 = A u * 10 ^ p := by rw [go 1 (by omega) (by decide) (by decide)]; exact f1
  obtain ⟨j0, j1, j2, j3, -⟩ := id h4.1
  refine wa_aload_n q_X7_isBound_179 rfl ?_
  refine wa_iload_n q_X7_isBound_180 rfl ?_
  refine wa_iconst q_X7_isBound_181 (v := nI 1) (by decide) ?_
  refine wn_iadd q_X7_isBound_182 ?_
  refine wa_iconst q_X7_isBound_183 (v := nI 1) (by decide) ?_
  refine wa_iconst q_X7_isBound_184 (v := nI 0) (by decide) ?_
  refine wa_iconst q_X7_isBound_185 (v := nI 1) (by decide) ?_
  refine wa_callV q_X7_isBound_186 g_X7_isBound_186 w_X7_rounded (by assumption) rfl (av := [_, _, _, _]) rfl rfl (lk rfl) (Calls.mono (R_rnd (up := true) h4 (r := 20 + 2 * u + 1) (a := 1) (b := 0) (by omega) (by decide) (by decide) (by omega) (by omega) (by decide) (by decide) (by rw [i0]; exact r0) (by rw [i1]; exact z1) (by rw [i0]; exact z0)) ?_)
  rintro _ σ5 ⟨rfl, C5, Z5, G5, V5, h5, t1, to', s5⟩
  rw [i0, i1] at t1
  refine wa_iconst q_X7_isBound_189 (v := nI 1) (by decide) ?_
  refine wa_zret q_X7_isBound_190 rfl rfl ?_
  rw [er]
  exact ⟨C5, Z5, G5, V5, h5, fun s x1 x2 x3 => by rw [to' s x3 (by omega) (by omega), go s x2 (by omega) (by omega)]; exact fo s x1, s1.tr (s2.tr (s3.tr (s4.tr s5))), rfl, (to' _ (by omega) (by omega) (by omega)).trans g1, t1⟩
theorem B_2 {ρ σ : en_S} {C Z : Nat → Nat} {G : Nat → Int32} {V : Nat → Int} {w4 w5 : Int32} (hFF : FFok) (h : rV X σ M O C Z G V) (hA : mA X σ M K N1 N2 Op Nd Pa Fo) (hu : u < 60) (hp1 : 1 ≤ p) (hp : p ≤ 480) (hk : 2 ≤ kd u) (hk4 : kd u ≤ 4) (hv : vOk kd fs sn A B u) (hm : mK K N1 N2 kd fs sn A B u) (E : Nat → Option (Int × Int)) :
    WA X M_X7_isBound ρ 191 [(5, .int w5), (4, .int w4), (3, .int (nI (20 + 2 * u))), (0, .ref (M 0)), (1, .int (nI u)), (2, .int (nI p))] [] σ (bnQ X M O σ V u (raw kd fs sn A B p E u)) := by
  have er : raw kd fs sn A B p E u = some (rfl' (kd u) (A u) (B u) p, rfl' (kd u) (A u) (B u) p + 1) := by
    unfold raw; rw [if_neg (by omega), if_neg (by omega), if_pos hk4]
  obtain ⟨-, -, -, hs, -⟩ := hv
  obtain ⟨m1, m2, m3, -, -, m6⟩ := hm
  obtain ⟨f1, f2⟩ := hFF _ _ _ (hs hk hk4) m6 p hp1 hp
  obtain ⟨a0, a1, a2, a3, -⟩ := id h.1
  refine wa_aload_n q_X7_isBound_191 rfl ?_
  refine wa_iload_n q_X7_isBound_192 rfl ?_
  refine wa_iload_n q_X7_isBound_193 rfl ?_
  refine wa_callV q_X7_isBound_194 g_X7_isBound_194 w_X7_findFloor (by assumption) rfl (av := [_, _]) rfl rfl (lk rfl) (Calls.mono (R_ff h hA (hs hk hk4) m6 hu hp m1 (m2 hk4) (fun e => m3 (Or.inr e)) f1) ?_)
  rintro _ σ1 ⟨rfl, C1, Z1, G1, V1, h1, g1, g2, go, s1⟩
  rw [f2] at g1
  obtain ⟨b0, b1, b2, b3, -⟩ := id h1.1
  refine wa_aload_n q_X7_isBound_197 rfl ?_
  refine wa_iconst q_X7_isBound_198 (v := nI 0) (by decide) ?_
  refine wa_lconst q_X7_isBound_199 (v := lZ 1) (by decide) ?_
  refine wa_callV q_X7_isBound_200 g_X7_isBound_200 w_X7_setTo (by assumption) rfl (av := [_, _]) rfl rfl (lk rfl) (Calls.mono (R_set h1 (r := 0) (by decide) (by decide) (by decide)) ?_)
  rintro _ σ2 ⟨rfl, C2, Z2, G2, h2, s2⟩
  have e1 : uV V1 0 1 (20 + 2 * u) = rfl' (kd u) (A u) (B u) p := by rw [uV_n (by omega)]; exact g1
  have e0 : uV V1 0 1 0 = 1 := uV_s
  obtain ⟨c0, c1, c2, c3, -⟩ := id h2.1
  refine wa_aload_n q_X7_isBound_203 rfl ?_
  refine wa_iload_n q_X7_isBound_204 rfl ?_
  refine wa_iconst q_X7_isBound_205 (v := nI 1) (by decide) ?_
  refine wn_iadd q_X7_isBound_206 ?_
  refine wa_iload_n q_X7_isBound_207 rfl ?_
  refine wa_iconst q_X7_isBound_208 (v := nI 0) (by decide) ?_
  refine wa_iconst q_X7_isBound_209 (v := sgI 1) (by decide) ?_
  refine wa_callV q_X7_isBound_210 g_X7_isBound_210 w_X7_addTo (by assumption) rfl (av := [_, _, _, _]) rfl rfl (lk rfl) (Calls.mono (R_addT h2 (r := 20 + 2 * u + 1) (a := 20 + 2 * u) (b := 0) (by omega) (by omega) (by decide) (Or.inl rfl) (by rw [e1, ← g1]; exact Nat.lt_of_lt_of_le g2 (pw_mono (by decide))) (by rw [e0]; exact Nat.lt_of_lt_of_le (show (1 : Int).natAbs < BB ^ 1 by decide) (pw_mono (by decide)))) ?_)
  rintro _ σ3 ⟨rfl, C3, Z3, G3, h3, s3⟩
  rw [e1, e0] at h3
  refine wa_iconst q_X7_isBound_213 (v := nI 1) (by decide) ?_
  refine wa_zret q_X7_isBound_214 rfl rfl ?_
  rw [er]
  exact ⟨C3, Z3, G3, _, h3, fun s x1 x2 x3 => by rw [uV_n x3, uV_n (by omega)]; exact go s x1 x2, s1.tr (s2.tr s3), rfl, by rw [uV_n (by omega)]; exact e1, by rw [uV_s]; show _ + 1 * 1 = _ + 1; omega⟩
theorem B_5 {ρ σ : en_S} {C Z : Nat → Nat} {G : Nat → Int32} {V : Nat → Int} {w5 : Int32} (h : rV X σ M O C Z G V) (hu : u < 60) (hp : p ≤ 480) (v12 : V 12 = 10 ^ p) (hk : kd u = 5) (hv : vOk kd fs sn A B u) (E : Nat → Option (Int × Int)) (e1 : E (fs u) = some (V (20 + 2 * fs u), V (20 + 2 * fs u + 1))) (z1 : (V (20 + 2 * fs u)).natAbs < BB ^ 90) (z2 : (V (20 + 2 * fs u + 1)).natAbs < BB ^ 90) :
    WA X M_X7_isBound ρ 215 [(5, .int w5), (4, .int (nI (fs u))), (3, .int (nI (20 + 2 * u))), (0, .ref (M 0)), (1, .int (nI u)), (2, .int (nI p))] [] σ (bnQ X M O σ V u (raw kd fs sn A B p E u)) := by
  obtain ⟨-, -, -, -, v5, v55⟩ := hv
  obtain ⟨c1, c2⟩ := v5 (by omega)
  have er : raw kd fs sn A B p E u = if V (20 + 2 * fs u + 1) < 0 then none else some (rtL (V (20 + 2 * fs u)) p, rtH (V (20 + 2 * fs u + 1)) p) := by
    unfold raw
    rw [if_neg (by omega), if_neg (by omega), if_neg (by omega), v55 hk, e1]
    exact if_pos hk
  obtain ⟨a0, a1, a2, a3, -⟩ := id h.1
  refine wa_aload_n q_X7_isBound_215 rfl ?_
  refine wa_iload_n q_X7_isBound_216 rfl ?_
  refine wa_iload q_X7_isBound_217 rfl ?_
  refine wa_callS q_X7_isBound_219 g_X7_isBound_219 w_X7_low (av := [_]) rfl rfl (lk rfl) (Calls.mono R_low ?_)
  rintro _ _ ⟨rfl, rfl⟩
  refine wa_callV q_X7_isBound_222 g_X7_isBound_222 w_X7_isRoot (by assumption) rfl (av := [_, _]) rfl rfl (lk rfl) (Calls.mono (R_isRoot h (l := 20 + 2 * u) (a := 20 + 2 * fs u) (by omega) (by omega) (by omega) hp v12 z1 z2) ?_)
  rintro _ τ (⟨q1, rfl, rfl⟩ | ⟨q1, rfl, C', Z', G', V', g1, g2, g3, g4, g5⟩)
  · refine wa_zret q_X7_isBound_225 rfl rfl ?_
    rw [er, if_pos q1]
    exact ⟨C, Z, G, V, h, fun s _ _ _ => rfl, mSt.rf, rfl⟩
  · refine wa_zret q_X7_isBound_225 rfl rfl ?_
    rw [er, if_neg (by omega)]
    exact ⟨C', Z', G', V', g1, fun s x1 x2 x3 => g4 s (by omega) x2 x3, g5, rfl, g2, g3⟩
theorem B_6 {ρ σ : en_S} {C Z : Nat → Nat} {G : Nat → Int32} {V : Nat → Int} (h : rV X σ M O C Z G V) (hA : mA X σ M K N1 N2 Op Nd Pa Fo) (hu : u < 60) (hp : p ≤ 480) (v12 : V 12 = 10 ^ p) (hk : 6 ≤ kd u) (hv : vOk kd fs sn A B u) (hK : K u = nI (kd u)) (E : Nat → Option (Int × Int)) (e1 : E (fs u) = some (V (20 + 2 * fs u), V (20 + 2 * fs u + 1))) (e2 : E (sn u) = some (V (20 + 2 * sn u), V (20 + 2 * sn u + 1))) (z1 : (V (20 + 2 * fs u)).natAbs < BB ^ 90) (z2 : (V (20 + 2 * fs u + 1)).natAbs < BB ^ 90) (z3 : (V (20 + 2 * sn u)).natAbs < BB ^ 90) (z4 : (V (20 + 2 * sn u + 1)).natAbs < BB ^ 90) (hle : V (20 + 2 * sn u) ≤ V (20 + 2 * sn u + 1)) :
    WA X M_X7_isBound ρ 226 [(5, .int (nI (sn u))), (4, .int (nI (fs u))), (3, .int (nI (20 + 2 * u))), (0, .ref (M 0)), (1, .int (nI u)), (2, .int (nI p))] [] σ (bnQ X M O σ V u (raw kd fs sn A B p E u)) := by
  obtain ⟨v9, -, -, -, v5, -⟩ := hv
  obtain ⟨c1, c2⟩ := v5 (by omega)
  have h300 : BB ^ 90 ≤ BB ^ 300 := pw_mono (by decide)
  obtain ⟨a0, a1, a2, a3, -⟩ := id h.1
  obtain ⟨k4, k5, k6, k7, k8, k11, k14, hD⟩ := id hA
  refine wa_aload_n q_X7_isBound_226 rfl ?_
  refine wa_aload_n q_X7_isBound_227 rfl ?_
  refine wa_getf q_X7_isBound_228 f_RX7_20 (by assumption) rfl ?_
  refine wa_iload_n q_X7_isBound_231 rfl ?_
  refine wn_gald q_X7_isBound_232 (by assumption) (by omega) ?_
  rw [hK]
  refine wa_bipush q_X7_isBound_233 (v := nI 6) (by decide) ?_
  refine wn_isub q_X7_isBound_235 (by omega) ?_
  refine wa_iload_n q_X7_isBound_236 rfl ?_
  refine wa_iload q_X7_isBound_237 rfl ?_
  refine wa_callS q_X7_isBound_239 g_X7_isBound_239 w_X7_low (av := [_]) rfl rfl (lk rfl) (Calls.mono R_low ?_)
  rintro _ _ ⟨rfl, rfl⟩
  refine wa_iload q_X7_isBound_242 rfl ?_
  refine wa_callS q_X7_isBound_244 g_X7_isBound_244 w_X7_low (av := [_]) rfl rfl (lk rfl) (Calls.mono R_low ?_)
  rintro _ _ ⟨rfl, rfl⟩
  have er : raw kd fs sn A B p E u = (if kd u = 6 then some (V (20 + 2 * fs u) + V (20 + 2 * sn u), V (20 + 2 * fs u + 1) + V (20 + 2 * sn u + 1)) else if kd u = 7 then some (V (20 + 2 * fs u) - V (20 + 2 * sn u + 1), V (20 + 2 * fs u + 1) - V (20 + 2 * sn u)) else if kd u = 8 then some (crL false p (V (20 + 2 * fs u)) (V (20 + 2 * fs u + 1)) (V (20 + 2 * sn u)) (V (20 + 2 * sn u + 1)), crH false p (V (20 + 2 * fs u)) (V (20 + 2 * fs u + 1)) (V (20 + 2 * sn u)) (V (20 + 2 * sn u + 1))) else if V (20 + 2 * sn u) ≤ 0 ∧ 0 ≤ V (20 + 2 * sn u + 1) then none else some (crL true p (V (20 + 2 * fs u)) (V (20 + 2 * fs u + 1)) (V (20 + 2 * sn u)) (V (20 + 2 * sn u + 1)), crH true p (V (20 + 2 * fs u)) (V (20 + 2 * fs u + 1)) (V (20 + 2 * sn u)) (V (20 + 2 * sn u + 1)))) := by
    unfold raw
    rw [if_neg (by omega), if_neg (by omega), if_neg (by omega), e1, e2]
    exact if_neg (by omega)
  rw [er]
  have hk4 : kd u = 6 ∨ kd u = 7 ∨ kd u = 8 ∨ kd u = 9 := by omega
  rcases hk4 with e | e | e | e
  · rw [if_pos e, e]
    refine wa_callV q_X7_isBound_247 g_X7_isBound_247 w_X7_isJoined (by assumption) rfl (av := [_, _, _, _]) rfl rfl (lk rfl) (Calls.mono (R_jsum h (l := 20 + 2 * u) (a := 20 + 2 * fs u) (b := 20 + 2 * sn u) (by omega) (by omega) (by omega) (by omega) (by omega) (by omega) (by omega)) ?_)
    rintro _ τ ⟨rfl, C', Z', G', V', g1, g2, g3, g4, g5⟩
    refine wa_zret q_X7_isBound_250 rfl rfl ?_
    exact ⟨C', Z', G', V', g1, fun s x1 x2 x3 => g4 s x1 x2 x3, g5, rfl, g2, g3⟩
  · rw [if_neg (by omega), if_pos e, e]
    refine wa_callV q_X7_isBound_247 g_X7_isBound_247 w_X7_isJoined (by assumption) rfl (av := [_, _, _, _]) rfl rfl (lk rfl) (Calls.mono (R_jdif h (l := 20 + 2 * u) (a := 20 + 2 * fs u) (b := 20 + 2 * sn u) (by omega) (by omega) (by omega) (by omega) (by omega) (by omega) (by omega) (by omega) (by omega)) ?_)
    rintro _ τ ⟨rfl, C', Z', G', V', g1, g2, g3, g4, g5⟩
    refine wa_zret q_X7_isBound_250 rfl rfl ?_
    exact ⟨C', Z', G', V', g1, fun s x1 x2 x3 => g4 s x1 x2 x3, g5, rfl, g2, g3⟩
  · rw [if_neg (by omega), if_neg (by omega), if_pos e, e]
    refine wa_callV q_X7_isBound_247 g_X7_isBound_247 w_X7_isJoined (by assumption) rfl (av := [_, _, _, _]) rfl rfl (lk rfl) (Calls.mono (R_corn (dv := false) rfl h (l := 20 + 2 * u) (a := 20 + 2 * fs u) (b := 20 + 2 * sn u) (by omega) (by omega) (by omega) (by omega) (by omega) (by omega) hp v12 z1 z2 z3 z4 hle) ?_)
    rintro _ τ (⟨q, -⟩ | ⟨-, rfl, C', Z', G', V', g1, g2, g3, g4, g5⟩)
    · cases q
    refine wa_zret q_X7_isBound_250 rfl rfl ?_
    exact ⟨C', Z', G', V', g1, fun s x1 x2 x3 => g4 s x1 x2 x3, g5, rfl, g2, g3⟩
  · rw [if_neg (by omega), if_neg (by omega), if_neg (by omega), e]
    refine wa_callV q_X7_isBound_247 g_X7_isBound_247 w_X7_isJoined (by assumption) rfl (av := [_, _, _, _]) rfl rfl (lk rfl) (Calls.mono (R_corn (dv := true) rfl h (l := 20 + 2 * u) (a := 20 + 2 * fs u) (b := 20 + 2 * sn u) (by omega) (by omega) (by omega) (by omega) (by omega) (by omega) hp v12 z1 z2 z3 z4 hle) ?_)
    rintro _ τ (⟨-, q1, q2, rfl, rfl⟩ | ⟨q1, rfl, C', Z', G', V', g1, g2, g3, g4, g5⟩)
    · refine wa_zret q_X7_isBound_250 rfl rfl ?_
      rw [if_pos ⟨q1, q2⟩]
      exact ⟨C, Z, G, V, h, fun s _ _ _ => rfl, mSt.rf, rfl⟩
    · refine wa_zret q_X7_isBound_250 rfl rfl ?_
      rw [if_neg (q1 rfl).2.2]
      exact ⟨C', Z', G', V', g1, fun s x1 x2 x3 => g4 s x1 x2 x3, g5, rfl, g2, g3⟩
end ref27
