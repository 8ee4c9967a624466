/-! The reference: placeOf, one limb of a quotient -/
section ref9
variable {X : en_X} {σ : en_S} {M : Nat → Nat} {O : Int32 × Int32 × Int32 × Int32 × Int32} {C Z : Nat → Nat} {G : Nat → Int32} {V : Nat → Int}
theorem P_guess {ρ : en_S} {n pa pb v1 v2 un' un1 un2 P Vl Ul : Nat} {Q : Option Value → en_S → Prop} (hv1 : v1 < BB) (hvh : BB ≤ 2 * v1) (hv2 : v2 < BB) (hun : un' < BB) (hun1 : un1 < BB) (hun2 : un2 < BB) (hVl : Vl < P) (hUl : Ul < P) (hU : ((un' * BB + un1) * BB + un2) * P + Ul < ((v1 * BB + v2) * P + Vl) * BB)
    (k : ∀ g, g < BB → g * ((v1 * BB + v2) * P + Vl) ≤ ((un' * BB + un1) * BB + un2) * P + Ul + ((v1 * BB + v2) * P + Vl) → ((un' * BB + un1) * BB + un2) * P + Ul < (g + 1) * ((v1 * BB + v2) * P + Vl) → WA X M_X7_placeOf ρ 178 [(11, .long (lN g)), (0, .ref (M 0)), (4, .int (nI n)), (5, .int (nI pa)), (6, .int (nI pb))] [] σ Q) :
    ∀ g rh, g * v1 + rh = un' * BB + un1 → ((un' * BB + un1) * BB + un2) * P + Ul < (g + 1) * ((v1 * BB + v2) * P + Vl) →
      WA X M_X7_placeOf ρ 126 [(13, .long (lN rh)), (11, .long (lN g)), (17, .long (lN un2)), (15, .long (lN v2)), (9, .long (lN v1)), (0, .ref (M 0)), (4, .int (nI n)), (5, .int (nI pa)), (6, .int (nI pb))] [] σ Q := by
  have hB : BB = 1000000000 := rfl
  have htop : un' * BB + un1 < 1000000000 * 1000000000 := by
    have : un' * BB ≤ 999999999 * BB := Nat.mul_le_mul_right _ (by omega)
    rw [hB] at this ⊢; omega
  intro g
  induction g with
  | zero =>
    intro rh h1 h2
    rw [Nat.zero_mul, Nat.zero_add] at h1
    have hrb : rh < 2 ^ 63 := by omega
    have done : WA X M_X7_placeOf ρ 178 [(13, .long (lN rh)), (11, .long (lN 0)), (17, .long (lN un2)), (15, .long (lN v2)), (9, .long (lN v1)), (0, .ref (M 0)), (4, .int (nI n)), (5, .int (nI pa)), (6, .int (nI pb))] [] σ Q := wa_lv (k 0 BB_pos (by rw [Nat.zero_mul]; exact Nat.zero_le _) h2) rfl
    refine wa_lload q_X7_placeOf_126 rfl ?_
    refine wa_ldc2 q_X7_placeOf_128 (v := lN 1000000000) k_RX7_47 ?_
    refine wn_lcmp_ge q_X7_placeOf_131 q_X7_placeOf_132 (by omega) (by omega) (fun hc => ?_) (fun hc => ?_)
    · omega
    refine wa_lload q_X7_placeOf_135 rfl ?_
    refine wa_ldc2 q_X7_placeOf_137 (v := lN 1000000000) k_RX7_47 ?_
    refine wn_lcmp_ge q_X7_placeOf_140 q_X7_placeOf_141 (by omega) (by omega) (fun hd => ?_) (fun hd => ?_)
    · exact done
    refine wa_lload q_X7_placeOf_144 rfl ?_
    refine wa_lload q_X7_placeOf_146 rfl ?_
    refine wn_lmul q_X7_placeOf_148 ?_
    refine wa_lload q_X7_placeOf_149 rfl ?_
    rw [Nat.zero_mul]
    refine wa_ldc2 q_X7_placeOf_151 (v := lN 1000000000) k_RX7_47 ?_
    refine wn_lmul q_X7_placeOf_154 ?_
    refine wa_lload q_X7_placeOf_155 rfl ?_
    refine wn_ladd q_X7_placeOf_157 ?_
    refine wn_lcmp_le q_X7_placeOf_158 q_X7_placeOf_159 (by omega) (by omega) (fun he => ?_) (fun he => ?_)
    · exact done
    · omega
  | succ g ih =>
    intro rh h1 h2
    have hgv : (g + 1) * v1 ≤ un' * BB + un1 := by omega
    have hrb : rh < 2 ^ 63 := by omega
    have hg63 : g + 1 < 2 ^ 63 := by
      have : (g + 1) * 1 ≤ (g + 1) * v1 := Nat.mul_le_mul_left _ (by omega)
      omega
    -- the guess is put one lower
    have lower : ((un' * BB + un1) * BB + un2) * P + Ul < (g + 1) * ((v1 * BB + v2) * P + Vl) → WA X M_X7_placeOf ρ 162 [(13, .long (lN rh)), (11, .long (lN (g + 1))), (17, .long (lN un2)), (15, .long (lN v2)), (9, .long (lN v1)), (0, .ref (M 0)), (4, .int (nI n)), (5, .int (nI pa)), (6, .int (nI pb))] [] σ Q := by
      intro hlt
      have e0 : g + 1 - 1 = g := by omega
      refine wa_lload q_X7_placeOf_162 rfl ?_
      refine wa_lconst q_X7_placeOf_164 (v := lN 1) (by decide) ?_
      refine wn_lsub q_X7_placeOf_165 (by omega) ?_
      rw [e0]
      refine wa_lstore q_X7_placeOf_166 (by decide) ?_
      refine wa_lload q_X7_placeOf_168 rfl ?_
      refine wa_lload q_X7_placeOf_170 rfl ?_
      refine wn_ladd q_X7_placeOf_172 ?_
      refine wa_lstore q_X7_placeOf_173 (by decide) ?_
      refine wa_goto q_X7_placeOf_175 ?_
      refine wa_lv (ih (rh + v1) ?_ hlt) rfl
      rw [← h1, Nat.add_mul, Nat.one_mul]; omega
    refine wa_lload q_X7_placeOf_126 rfl ?_
    refine wa_ldc2 q_X7_placeOf_128 (v := lN 1000000000) k_RX7_47 ?_
    refine wn_lcmp_ge q_X7_placeOf_131 q_X7_placeOf_132 (by omega) (by omega) (fun hc => ?_) (fun hc => ?_)
    · exact wa_lv (lower (kn_B1 hU (by omega))) rfl
    have hgB : g + 1 < BB := by omega
    have hg2 : (g + 1) * v2 ≤ 999999999 * 999999999 := Nat.mul_le_mul (by omega) (by omega)
    have done : (g + 1) * v2 ≤ rh * BB + un2 → WA X M_X7_placeOf ρ 178 [(13, .long (lN rh)), (11, .long (lN (g + 1))), (17, .long (lN un2)), (15, .long (lN v2)), (9, .long (lN v1)), (0, .ref (M 0)), (4, .int (nI n)), (5, .int (nI pa)), (6, .int (nI pb))] [] σ Q := fun hq => wa_lv (k (g + 1) hgB (kn_A h1 hq hgB (by omega) hVl) h2) rfl
    refine wa_lload q_X7_placeOf_135 rfl ?_
    refine wa_ldc2 q_X7_placeOf_137 (v := lN 1000000000) k_RX7_47 ?_
    refine wn_lcmp_ge q_X7_placeOf_140 q_X7_placeOf_141 (by omega) (by omega) (fun hd => ?_) (fun hd => ?_)
    · refine done ?_
      have : 1000000000 * BB ≤ rh * BB := Nat.mul_le_mul_right _ hd
      rw [hB] at this ⊢; omega
    obtain ⟨gv, hgv0⟩ : ∃ gv, gv = (g + 1) * v2 := ⟨_, rfl⟩
    rw [← hgv0] at hg2 done
    refine wa_lload q_X7_placeOf_144 rfl ?_
    refine wa_lload q_X7_placeOf_146 rfl ?_
    refine wn_lmul q_X7_placeOf_148 ?_
    refine wa_lload q_X7_placeOf_149 rfl ?_
    rw [← hgv0]
    refine wa_ldc2 q_X7_placeOf_151 (v := lN 1000000000) k_RX7_47 ?_
    refine wn_lmul q_X7_placeOf_154 ?_
    refine wa_lload q_X7_placeOf_155 rfl ?_
    refine wn_ladd q_X7_placeOf_157 ?_
    refine wn_lcmp_le q_X7_placeOf_158 q_X7_placeOf_159 (by omega) (by omega) (fun he => ?_) (fun he => ?_)
    · exact done he
    · refine lower (kn_B2 h1 ?_ hUl)
      rw [← hgv0]; exact he
/-- what is taken away -/
theorem ps_step0 {y c w : Nat} (hy : y ≤ 999999999 * 999999999) (hc : c < 1000000000) (hw : w < 1000000000) : ∃ l c2, l < 1000000000 ∧ c2 < 1000000000 ∧ l + (y + c) = w + c2 * 1000000000 := by
  rcases Nat.lt_or_ge w ((y + c) % 1000000000) with h | h
  · refine ⟨w + 1000000000 - (y + c) % 1000000000, (y + c) / 1000000000 + 1, ?_, ?_, ?_⟩ <;> omega
  · refine ⟨w - (y + c) % 1000000000, (y + c) / 1000000000, ?_, ?_, ?_⟩ <;> omega
theorem ps_step {g v c w : Nat} (hg : g < BB) (hv : v < BB) (hc : c < BB) (hw : w < BB) : ∃ l c2, l < BB ∧ c2 < BB ∧ l + (g * v + c) = w + c2 * BB := by
  have hB : BB = 1000000000 := rfl
  exact ps_step0 (Nat.mul_le_mul (by omega) (by omega)) hc hw
set_option maxHeartbeats 1000000 in
theorem P_sub {ρ σ0 : en_S} {a b n j g : Nat} {Q : Option Value → en_S → Prop} (ha : a < 140) (hb : b < 140) (hab : b ≠ a) (hjn : j + n ≤ 319) (hg : g < BB) (hda : ∀ i, i < n → reg C a (j + i) < BB) (hdb : ∀ i, i < n → reg C b i < BB)
    (k : ∀ (σ1 : en_S) (C1 : Nat → Nat) (c : Nat), rR X σ1 M O C1 Z G → c < BB → (∀ i, i < n → reg C1 a (j + i) < BB) → vl (fun i => reg C1 a (j + i)) n + g * vl (reg C b) n = vl (fun i => reg C a (j + i)) n + c * BB ^ n → (∀ i, i < j ∨ j + n ≤ i → reg C1 a i = reg C a i) → rO C Z G C1 Z G a → mSt M σ0 σ1 → WA X M_X7_placeOf ρ 280 [(19, .long (lZ (-(c : Int)))), (11, .long (lN g)), (0, .ref (M 0)), (4, .int (nI n)), (5, .int (nI (320 * a + j))), (6, .int (nI (320 * b)))] [] σ1 Q) :
    ∀ (t i c : Nat) (σ : en_S) (C1 : Nat → Nat), i + t = n → rR X σ M O C1 Z G → c < BB → (∀ q, q < i → reg C1 a (j + q) < BB) → vl (fun q => reg C1 a (j + q)) i + g * vl (reg C b) i = vl (fun q => reg C a (j + q)) i + c * BB ^ i → (∀ q, q < j ∨ j + i ≤ q → reg C1 a q = reg C a q) → rO C Z G C1 Z G a → mSt M σ0 σ →
      WA X M_X7_placeOf ρ 184 [(21, .int (nI i)), (19, .long (lZ (-(c : Int)))), (11, .long (lN g)), (0, .ref (M 0)), (4, .int (nI n)), (5, .int (nI (320 * a + j))), (6, .int (nI (320 * b)))] [] σ Q := by
  have hB : BB = 1000000000 := rfl
  intro t
  induction t with
  | zero =>
    intro i c σ C1 hit h hc hd hv hk hO hS
    have e : i = n := by omega
    subst e
    refine wa_iload q_X7_placeOf_184 rfl ?_
    refine wa_iload q_X7_placeOf_186 rfl ?_
    refine wn_icmp_ge q_X7_placeOf_188 (by omega) (by omega) (fun hx => ?_) (fun hx => ?_)
    · exact wa_lv (k σ C1 c h hc hd hv hk hO hS) rfl
    · omega
  | succ t ih =>
    intro i c σ C1 hit h hc hd hv hk hO hS
    obtain ⟨a0, a1, a2, a3, n1, n2, n3⟩ := id h
    have ra : C1 (320 * a + j + i) = reg C a (j + i) := by
      have := hk (j + i) (Or.inr (Nat.le_refl _))
      unfold reg at this ⊢
      rw [Nat.add_assoc]; exact this
    have rb : C1 (320 * b + i) = reg C b i := (hO b hb hab).2.2 i (by omega)
    have hw := hda i (by omega)
    have he := hdb i (by omega)
    obtain ⟨w, hw0⟩ : ∃ w, w = reg C a (j + i) := ⟨_, rfl⟩
    obtain ⟨e, he0⟩ : ∃ e, e = reg C b i := ⟨_, rfl⟩
    rw [← hw0] at ra hw
    rw [← he0] at rb he
    obtain ⟨l, c2, hl, hc2, hrel⟩ := ps_step hg he hc hw
    have hge : g * e ≤ 999999999 * 999999999 := Nat.mul_le_mul (by omega) (by omega)
    obtain ⟨ge, hge0⟩ : ∃ ge, ge = g * e := ⟨_, rfl⟩
    rw [← hge0] at hge hrel
    obtain ⟨cb, hcb⟩ : ∃ cb, cb = c2 * 1000000000 := ⟨_, rfl⟩
    have hrel' : l + (ge + c) = w + cb := by rw [hcb]; exact hrel
    refine wa_iload q_X7_placeOf_184 rfl ?_
    refine wa_iload q_X7_placeOf_186 rfl ?_
    refine wn_icmp_ge q_X7_placeOf_188 (by omega) (by omega) (fun hx => ?_) (fun hx => ?_)
    · omega
    refine wa_aload_n q_X7_placeOf_191 rfl ?_
    refine wa_getf q_X7_placeOf_192 f_RX7_8 (by assumption) rfl ?_
    refine wa_iload q_X7_placeOf_195 rfl ?_
    refine wa_iload q_X7_placeOf_197 rfl ?_
    refine wn_iadd q_X7_placeOf_199 ?_
    refine wn_iald q_X7_placeOf_200 (by assumption) (by omega) (by omega) ?_
    rw [ra]
    refine wn_i2l q_X7_placeOf_201 (by omega) ?_
    refine wa_lload q_X7_placeOf_202 rfl ?_
    refine wa_aload_n q_X7_placeOf_204 rfl ?_
    refine wa_getf q_X7_placeOf_205 f_RX7_8 (by assumption) rfl ?_
    refine wa_iload q_X7_placeOf_208 rfl ?_
    refine wa_iload q_X7_placeOf_210 rfl ?_
    refine wn_iadd q_X7_placeOf_212 ?_
    refine wn_iald q_X7_placeOf_213 (by assumption) (by omega) (by omega) ?_
    rw [rb]
    refine wn_i2l q_X7_placeOf_214 (by omega) ?_
    refine wn_lmul q_X7_placeOf_215 ?_
    rw [← hge0]
    refine wa_lsub q_X7_placeOf_216 ?_
    rw [lN_lZ w, lN_lZ ge, lZ_sub]
    refine wa_lload q_X7_placeOf_217 rfl ?_
    refine wa_ladd q_X7_placeOf_219 ?_
    rw [lZ_add]
    have ev : (w : Int) - (ge : Int) + -(c : Int) = (l : Int) - (cb : Int) := by omega
    rw [ev]
    refine wa_lstore q_X7_placeOf_220 (by decide) ?_
    refine wa_lload q_X7_placeOf_222 rfl ?_
    refine wa_ldc2 q_X7_placeOf_224 (v := lN 1000000000) k_RX7_47 ?_
    have nz : ¬ lN 1000000000 = 0 := fun z => by rw [lN_lZ] at z; exact absurd ((lZ_eq (b := 0) (by decide) (by decide) (by decide) (by decide)).mp z) (by decide)
    -- behind the lower limb
    have fin : WA X M_X7_placeOf ρ 248 [(22, .long (lZ ((l : Int) - (cb : Int)))), (21, .int (nI i)), (11, .long (lN g)), (0, .ref (M 0)), (4, .int (nI n)), (5, .int (nI (320 * a + j))), (6, .int (nI (320 * b)))] [.long (lN l)] σ Q := by
      refine wa_lstore q_X7_placeOf_248 (by decide) ?_
      refine wa_aload_n q_X7_placeOf_250 rfl ?_
      refine wa_getf q_X7_placeOf_251 f_RX7_8 (by assumption) rfl ?_
      refine wa_iload q_X7_placeOf_254 rfl ?_
      refine wa_iload q_X7_placeOf_256 rfl ?_
      refine wn_iadd q_X7_placeOf_258 ?_
      refine wa_lload q_X7_placeOf_259 rfl ?_
      refine wn_l2i q_X7_placeOf_261 ?_
      rw [show 320 * a + j + i = 320 * a + (j + i) by omega]
      refine wn_iast q_X7_placeOf_262 (by assumption) (by omega) (by omega) (fun σ_p1 p1 f_p1 e1_p1 e2_p1 => ?_)
      obtain ⟨w1, s1⟩ := h.cell p1 f_p1 e1_p1 e2_p1
      refine wa_lload q_X7_placeOf_263 rfl ?_
      refine wa_lload q_X7_placeOf_265 rfl ?_
      refine wa_lsub q_X7_placeOf_267 ?_
      rw [lN_lZ l, lZ_sub, show (l : Int) - (cb : Int) - (l : Int) = -(cb : Int) by omega]
      refine wa_ldc2 q_X7_placeOf_268 (v := lN 1000000000) k_RX7_47 ?_
      refine wa_ldiv q_X7_placeOf_271 nz ?_
      have ed : lZ (-(cb : Int)) / lN 1000000000 = lZ (-(c2 : Int)) := by
        rw [lN_lZ, lZ_div (by omega) (by omega) (by decide) (by decide), Int.neg_tdiv, ← Int.ofNat_tdiv, hcb, Nat.mul_div_cancel _ (by decide)]
      rw [ed]
      refine wa_lstore q_X7_placeOf_272 (by decide) ?_
      refine wn_iinc q_X7_placeOf_274 rfl (by decide) ?_
      refine wa_goto q_X7_placeOf_277 ?_
      have hreg := reg_u (C := C1) (r := a) (i := j + i) (x := l)
      refine wa_lv (ih (i + 1) c2 σ_p1 _ (by omega) w1 hc2 (fun q hq => ?_) ?_ (fun q hq => ?_) (hO.tr (rO.cell (by omega))) (hS.tr s1)) rfl
      · rw [hreg]
        by_cases e1 : q = i
        · rw [e1, un_s]; exact hl
        · rw [un_n (by omega)]; exact hd q (by omega)
      · rw [hreg]
        show vl (fun q => un (reg C1 a) (j + i) l (j + q)) i + un (reg C1 a) (j + i) l (j + i) * BB ^ i + g * (vl (reg C b) i + reg C b i * BB ^ i) = (vl (fun q => reg C a (j + q)) i + reg C a (j + i) * BB ^ i) + c2 * BB ^ (i + 1)
        rw [un_s, vl_congr (e := fun q => reg C1 a (j + q)) (fun q hq => un_n (by omega)), ← hw0, ← he0, Nat.pow_succ]
        rw [hge0] at hrel
        have hm : (l + (g * e + c)) * BB ^ i = (w + c2 * BB) * BB ^ i := by rw [hrel]
        generalize BB ^ i = P at *
        grind
      · rw [hreg, un_n (by omega)]; exact hk q (by omega)
    -- the rest, and one more base where it is below 0
    by_cases h0 : cb ≤ l
    · have c20 : c2 = 0 := by
        rcases Nat.eq_zero_or_pos c2 with q | q
        · exact q
        · have : 1 * 1000000000 ≤ c2 * 1000000000 := Nat.mul_le_mul_right _ q
          omega
      have cb0 : cb = 0 := by rw [hcb, c20]
      have er : lZ ((l : Int) - (cb : Int)) - lZ ((l : Int) - (cb : Int)) / lN 1000000000 * lN 1000000000 = lN l := by
        rw [cb0, show (l : Int) - ((0 : Nat) : Int) = (l : Int) by omega, lN_lZ, lN_lZ, lZ_div (by omega) (by omega) (by decide) (by decide), ← Int.ofNat_tdiv, Nat.div_eq_of_lt (show l < 1000000000 from hl)]
        show lZ (l : Int) - lZ 0 * lZ 1000000000 = _
        rw [lZ_mul, lZ_sub]; congr 1
      refine wa_lrem q_X7_placeOf_227 nz ?_
      rw [er]
      refine wa_lstore q_X7_placeOf_228 (by decide) ?_
      refine wa_lload q_X7_placeOf_230 rfl ?_
      refine wa_lconst q_X7_placeOf_232 (v := lN 0) (by decide) ?_
      refine wn_lcmp_ge q_X7_placeOf_233 q_X7_placeOf_234 (by omega) (by omega) (fun hy => ?_) (fun hy => ?_)
      · refine wa_lload q_X7_placeOf_246 rfl ?_
        exact wa_lv fin rfl
      · exact absurd hy (by omega)
    · by_cases hl0 : l = 0
      · have er : lZ ((l : Int) - (cb : Int)) - lZ ((l : Int) - (cb : Int)) / lN 1000000000 * lN 1000000000 = lN l := by
          rw [hl0, show ((0 : Nat) : Int) - (cb : Int) = -(cb : Int) by omega, lN_lZ, lN_lZ, lZ_div (by omega) (by omega) (by decide) (by decide), Int.neg_tdiv, ← Int.ofNat_tdiv, hcb, Nat.mul_div_cancel _ (by decide), lZ_mul, lZ_sub]
          congr 1; omega
        refine wa_lrem q_X7_placeOf_227 nz ?_
        rw [er]
        refine wa_lstore q_X7_placeOf_228 (by decide) ?_
        refine wa_lload q_X7_placeOf_230 rfl ?_
        refine wa_lconst q_X7_placeOf_232 (v := lN 0) (by decide) ?_
        refine wn_lcmp_ge q_X7_placeOf_233 q_X7_placeOf_234 (by omega) (by omega) (fun hy => ?_) (fun hy => ?_)
        · refine wa_lload q_X7_placeOf_246 rfl ?_
          exact wa_lv fin rfl
        · exact absurd hy (by omega)
      · have er : lZ ((l : Int) - (cb : Int)) - lZ ((l : Int) - (cb : Int)) / lN 1000000000 * lN 1000000000 = lZ ((l : Int) - 1000000000) := by
          have e1 : (l : Int) - (cb : Int) = -((cb - l : Nat) : Int) := by omega
          rw [e1, lN_lZ, lZ_div (by omega) (by omega) (by decide) (by decide), Int.neg_tdiv, ← Int.ofNat_tdiv]
          have e2 : (cb - l) / 1000000000 = c2 - 1 := by rw [hcb]; omega
          rw [e2, lZ_mul, lZ_sub]; congr 1; omega
        refine wa_lrem q_X7_placeOf_227 nz ?_
        rw [er]
        refine wa_lstore q_X7_placeOf_228 (by decide) ?_
        refine wa_lload q_X7_placeOf_230 rfl ?_
        refine wa_lconst q_X7_placeOf_232 (v := 0) (by decide) ?_
        refine wa_lcmp q_X7_placeOf_233 ?_
        have e0 : (0 : Int64) = lZ 0 := by decide
        refine wa_if_ge q_X7_placeOf_234 (fun hy => ?_) (fun hy => ?_)
        · have := (lg_cmp_ge _ _).mp hy
          rw [e0] at this
          have := (lZ_le (by decide) (by decide) (by omega) (by omega)).mp this
          omega
        · refine wa_lload q_X7_placeOf_237 rfl ?_
          refine wa_ldc2 q_X7_placeOf_239 (v := lN 1000000000) k_RX7_47 ?_
          refine wa_ladd q_X7_placeOf_242 ?_
          rw [lN_lZ 1000000000, lZ_add, show (l : Int) - 1000000000 + ((1000000000 : Nat) : Int) = (l : Int) by omega, ← lN_lZ]
          refine wa_goto q_X7_placeOf_243 ?_
          exact wa_lv fin rfl
end ref9
