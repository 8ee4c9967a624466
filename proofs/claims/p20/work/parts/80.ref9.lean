/-! The reference: placeOf, whole -/
section ref10
variable {X : en_X} {σ : en_S} {M : Nat → Nat} {O : Int32 × Int32 × Int32 × Int32 × Int32} {C Z : Nat → Nat} {G : Nat → Int32} {V : Nat → Int}
set_option maxHeartbeats 1000000 in
theorem P_give {ρ σ0 : en_S} {a b n j g : Nat} {L : Int64} {Q : Option Value → en_S → Prop} (ha : a < 140) (hb : b < 140) (hab : b ≠ a) (hjn : j + n ≤ 319) (hda : ∀ i, i < n → reg C a (j + i) < BB) (hdb : ∀ i, i < n → reg C b i < BB)
    (k : ∀ (σ1 : en_S) (C1 : Nat → Nat) (c : Nat), rR X σ1 M O C1 Z G → c ≤ 1 → (∀ i, i < n → reg C1 a (j + i) < BB) → vl (fun i => reg C1 a (j + i)) n + c * BB ^ n = vl (fun i => reg C a (j + i)) n + vl (reg C b) n → (∀ i, i < j ∨ j + n ≤ i → reg C1 a i = reg C a i) → rO C Z G C1 Z G a → mSt M σ0 σ1 → WA X M_X7_placeOf ρ 394 [(23, .int (nI c)), (21, .long L), (11, .long (lN g)), (0, .ref (M 0)), (4, .int (nI n)), (5, .int (nI (320 * a + j))), (6, .int (nI (320 * b)))] [] σ1 Q) :
    ∀ (t i c : Nat) (σ : en_S) (C1 : Nat → Nat), i + t = n → rR X σ M O C1 Z G → c ≤ 1 → (∀ q, q < i → reg C1 a (j + q) < BB) → vl (fun q => reg C1 a (j + q)) i + c * BB ^ i = vl (fun q => reg C a (j + q)) i + vl (reg C b) i → (∀ q, q < j ∨ j + i ≤ q → reg C1 a q = reg C a q) → rO C Z G C1 Z G a → mSt M σ0 σ →
      WA X M_X7_placeOf ρ 315 [(24, .int (nI i)), (23, .int (nI c)), (21, .long L), (11, .long (lN g)), (0, .ref (M 0)), (4, .int (nI n)), (5, .int (nI (320 * a + j))), (6, .int (nI (320 * b)))] [] σ Q := by
  have hB : BB = 1000000000 := rfl
  intro t
  induction t with
  | zero =>
    intro i c σ C1 hit h hc hd hv hk hO hS
    have e : i = n := by omega
    subst e
    refine wa_iload q_X7_placeOf_315 rfl ?_
    refine wa_iload q_X7_placeOf_317 rfl ?_
    refine wn_icmp_ge q_X7_placeOf_319 (by omega) (by omega) (fun hx => ?_) (fun hx => ?_)
    · exact wa_lv (k σ C1 c h hc hd hv hk hO hS) rfl
    · omega
  | succ t ih =>
    intro i c σ C1 hit h hc hd hv hk hO hS
    obtain ⟨a0, a1, a2, a3, n1, n2, n3⟩ := id h
    have ra : C1 (320 * a + j + i) = reg C a (j + i) := by
      have := hk (j + i) (Or.inr (Nat.le_refl _))
      unfold reg at this ⊢
      rw [Nat.add_assoc]; exact this
    have rb : C1 (320 * b + i) = reg C b i := (hO b hb hab).2.2 i (by omega)
    have hw := hda i (by omega)
    have he := hdb i (by omega)
    obtain ⟨w, hw0⟩ : ∃ w, w = reg C a (j + i) := ⟨_, rfl⟩
    obtain ⟨e, he0⟩ : ∃ e, e = reg C b i := ⟨_, rfl⟩
    rw [← hw0] at ra hw
    rw [← he0] at rb he
    have wr : ∀ c2 q, c2 ≤ 1 → q < BB → w + e + c = c2 * BB + q → WA X M_X7_placeOf ρ 387 [(25, .int (nI (w + e + c))), (24, .int (nI i)), (23, .int (nI c2)), (21, .long L), (11, .long (lN g)), (0, .ref (M 0)), (4, .int (nI n)), (5, .int (nI (320 * a + j))), (6, .int (nI (320 * b)))] [.int (nI q), .int (nI (320 * a + (j + i))), .ref (M 1)] σ Q := by
      intro c2 q hc2 hq hqe
      refine wn_iast q_X7_placeOf_387 (by assumption) (by omega) (by omega) (fun σ_p1 p1 f_p1 e1_p1 e2_p1 => ?_)
      obtain ⟨w1, s1⟩ := h.cell p1 f_p1 e1_p1 e2_p1
      refine wn_iinc q_X7_placeOf_388 rfl (by decide) ?_
      refine wa_goto q_X7_placeOf_391 ?_
      have hreg := reg_u (C := C1) (r := a) (i := j + i) (x := q)
      refine wa_lv (ih (i + 1) c2 σ_p1 _ (by omega) w1 hc2 (fun s hs => ?_) ?_ (fun s hs => ?_) (hO.tr (rO.cell (by omega))) (hS.tr s1)) rfl
      · rw [hreg]
        by_cases e1 : s = i
        · rw [e1, un_s]; exact hq
        · rw [un_n (by omega)]; exact hd s (by omega)
      · rw [hreg]
        show vl (fun s => un (reg C1 a) (j + i) q (j + s)) i + un (reg C1 a) (j + i) q (j + i) * BB ^ i + c2 * BB ^ (i + 1) = (vl (fun s => reg C a (j + s)) i + reg C a (j + i) * BB ^ i) + (vl (reg C b) i + reg C b i * BB ^ i)
        rw [un_s, vl_congr (e := fun s => reg C1 a (j + s)) (fun s hs => un_n (by omega)), ← hw0, ← he0, Nat.pow_succ]
        have hm : (w + e + c) * BB ^ i = (c2 * BB + q) * BB ^ i := by rw [hqe]
        generalize BB ^ i = P at *
        grind
      · rw [hreg, un_n (by omega)]; exact hk s (by omega)
    refine wa_iload q_X7_placeOf_315 rfl ?_
    refine wa_iload q_X7_placeOf_317 rfl ?_
    refine wn_icmp_ge q_X7_placeOf_319 (by omega) (by omega) (fun hx => ?_) (fun hx => ?_)
    · omega
    refine wa_aload_n q_X7_placeOf_322 rfl ?_
    refine wa_getf q_X7_placeOf_323 f_RX7_8 (by assumption) rfl ?_
    refine wa_iload q_X7_placeOf_326 rfl ?_
    refine wa_iload q_X7_placeOf_328 rfl ?_
    refine wn_iadd q_X7_placeOf_330 ?_
    refine wn_iald q_X7_placeOf_331 (by assumption) (by omega) (by omega) ?_
    rw [ra]
    refine wa_aload_n q_X7_placeOf_332 rfl ?_
    refine wa_getf q_X7_placeOf_333 f_RX7_8 (by assumption) rfl ?_
    refine wa_iload q_X7_placeOf_336 rfl ?_
    refine wa_iload q_X7_placeOf_338 rfl ?_
    refine wn_iadd q_X7_placeOf_340 ?_
    refine wn_iald q_X7_placeOf_341 (by assumption) (by omega) (by omega) ?_
    rw [rb]
    refine wn_iadd q_X7_placeOf_342 ?_
    refine wa_iload q_X7_placeOf_343 rfl ?_
    refine wn_iadd q_X7_placeOf_345 ?_
    refine wa_istore q_X7_placeOf_346 (by decide) ?_
    refine wa_iload q_X7_placeOf_348 rfl ?_
    refine wa_ldc q_X7_placeOf_350 (v := nI 1000000000) k_RX7_65 ?_
    refine wn_icmp_lt q_X7_placeOf_352 (by omega) (by decide) (fun hl => ?_) (fun hl => ?_)
    · refine wa_iconst q_X7_placeOf_359 (v := nI 0) (by decide) ?_
      refine wa_istore q_X7_placeOf_360 (by decide) ?_
      refine wa_aload_n q_X7_placeOf_362 rfl ?_
      refine wa_getf q_X7_placeOf_363 f_RX7_8 (by assumption) rfl ?_
      refine wa_iload q_X7_placeOf_366 rfl ?_
      refine wa_iload q_X7_placeOf_368 rfl ?_
      refine wn_iadd q_X7_placeOf_370 ?_
      refine wa_iload q_X7_placeOf_371 rfl ?_
      refine wa_iconst q_X7_placeOf_373 (v := nI 1) (by decide) ?_
      refine wn_icmp_ne q_X7_placeOf_374 (by decide) (by decide) (fun _ => ?_) (fun hq => absurd hq (by decide))
      rw [show 320 * a + j + i = 320 * a + (j + i) by omega]
      refine wa_iload q_X7_placeOf_385 rfl ?_
      exact wa_lv (wr 0 (w + e + c) (by decide) hl (by omega)) rfl
    · refine wa_iconst q_X7_placeOf_355 (v := nI 1) (by decide) ?_
      refine wa_goto q_X7_placeOf_356 ?_
      refine wa_istore q_X7_placeOf_360 (by decide) ?_
      refine wa_aload_n q_X7_placeOf_362 rfl ?_
      refine wa_getf q_X7_placeOf_363 f_RX7_8 (by assumption) rfl ?_
      refine wa_iload q_X7_placeOf_366 rfl ?_
      refine wa_iload q_X7_placeOf_368 rfl ?_
      refine wn_iadd q_X7_placeOf_370 ?_
      refine wa_iload q_X7_placeOf_371 rfl ?_
      refine wa_iconst q_X7_placeOf_373 (v := nI 1) (by decide) ?_
      refine wn_icmp_ne q_X7_placeOf_374 (by decide) (by decide) (fun hq => absurd rfl hq) (fun _ => ?_)
      rw [show 320 * a + j + i = 320 * a + (j + i) by omega]
      refine wa_iload q_X7_placeOf_377 rfl ?_
      refine wa_ldc q_X7_placeOf_379 (v := nI 1000000000) k_RX7_65 ?_
      refine wn_isub q_X7_placeOf_381 (by omega) ?_
      refine wa_goto q_X7_placeOf_382 ?_
      exact wa_lv (wr 1 (w + e + c - 1000000000) (by decide) (by omega) (by omega)) rfl
theorem vl_one {d : Nat → Nat} : vl d 1 = d (1 - 1) := by simp [vl]
theorem vl_two {d : Nat → Nat} {j : Nat} : vl (fun i => d (j + i)) (1 + 1) = d (j + (1 - 1)) + d (j + 1) * BB := by simp [vl]
/-- one limb of the quotient -/
def plE (X : en_X) (σ : en_S) (M : Nat → Nat) (O : Int32 × Int32 × Int32 × Int32 × Int32) (C Z : Nat → Nat) (G : Nat → Int32) (a b j n : Nat) (res : Option Value) (τ : en_S) : Prop :=
  ∃ C', res = some (.int (nI (vl (fun i => reg C a (j + i)) (n + 1) / vl (reg C b) n))) ∧ rR X τ M O C' Z G ∧ reg C' a (j + n) = 0 ∧ (∀ i, i < n → reg C' a (j + i) < BB) ∧ vl (fun i => reg C' a (j + i)) n = vl (fun i => reg C a (j + i)) (n + 1) % vl (reg C b) n ∧ (∀ i, i < j ∨ j + n < i → reg C' a i = reg C a i) ∧ rO C Z G C' Z G a ∧ mSt M σ τ
set_option maxHeartbeats 2000000 in
theorem R_place_m {a b n j U W g : Nat} (h : rR X σ M O C Z G) (ha : a < 140) (hb : b < 140) (hab : b ≠ a) (hn : 1 ≤ n) (hjn : j + n ≤ 319) (hda : ∀ i, i < n + 1 → reg C a (j + i) < BB) (hdb : ∀ i, i < n → reg C b i < BB) (hU0 : U = vl (fun i => reg C a (j + i)) (n + 1)) (hW0 : W = vl (reg C b) n) (hg : g < BB) (hup : g * W ≤ U + W) (hlow : U < (g + 1) * W) : WA X M_X7_placeOf σ 178 [(11, .long (lN g)), (0, .ref (M 0)), (4, .int (nI n)), (5, .int (nI (320 * a + j))), (6, .int (nI (320 * b)))] [] σ (plE X σ M O C Z G a b j n) := by
  have hB : BB = 1000000000 := rfl
  have hWp : W < BB ^ n := by rw [hW0]; exact vl_lt hdb
  refine wa_lconst q_X7_placeOf_178 (v := lN 0) (by decide) ?_
  refine wa_lstore q_X7_placeOf_179 (by decide) ?_
  refine wa_iconst q_X7_placeOf_181 (v := nI 0) (by decide) ?_
  refine wa_istore q_X7_placeOf_182 (by decide) ?_
  refine wa_lv (P_sub (C := C) (Z := Z) (G := G) (σ0 := σ) ha hb hab hjn hg (fun i hi => hda i (by omega)) hdb (fun σ1 C1 c x1 x2 x3 x4 x5 x6 x7 => ?_) n 0 0 σ C (by omega) h (by decide) (fun q hq => by omega) (by show 0 + g * 0 = 0 + 0 * 1; omega) (fun _ _ => rfl) rO.rf mSt.rf) rfl
  obtain ⟨b0, b1, b2, b3, -⟩ := id x1
  rw [← hW0] at x4
  have hUe : U = vl (fun i => reg C a (j + i)) n + reg C a (j + n) * BB ^ n := hU0
  have hA := vl_lt (d := fun i => reg C1 a (j + i)) (n := n) x3
  have rn : C1 (320 * a + j + n) = reg C a (j + n) := by
    have := x5 (j + n) (Or.inr (Nat.le_refl _))
    unfold reg at this ⊢
    rw [Nat.add_assoc]; exact this
  have hwn := hda n (by omega)
  have htk := tk_end (A := vl (fun i => reg C1 a (j + i)) n) (W := vl (fun i => reg C a (j + i)) n) (V := W) (Wn := reg C a (j + n)) (U := U) (P := BB ^ n) (g := g) (c := c) x4 hUe hA (Nat.le_of_lt hWp) hWp hlow hup
  -- the end: the highest limb is 0
  have fin : ∀ (g2 : Nat) (σ2 : en_S) (C2 : Nat → Nat), g2 < BB → rR X σ2 M O C2 Z G → (∀ i, i < n → reg C2 a (j + i) < BB) → g2 * W ≤ U → U < (g2 + 1) * W → vl (fun i => reg C2 a (j + i)) n = U - g2 * W → (∀ i, i < j ∨ j + n ≤ i → reg C2 a i = reg C a i) → rO C Z G C2 Z G a → mSt M σ σ2 → WA X M_X7_placeOf σ 402 [(21, .long (lZ 0)), (11, .long (lN g2)), (0, .ref (M 0)), (4, .int (nI n)), (5, .int (nI (320 * a + j))), (6, .int (nI (320 * b)))] [] σ2 (plE X σ M O C Z G a b j n) := by
    intro g2 σ2 C2 hg2 y1 y2 y3 y4 y5 y6 y7 y8
    obtain ⟨c0, c1, c2, c3, -⟩ := id y1
    rw [show lZ 0 = lN 0 from rfl]
    refine wa_aload_n q_X7_placeOf_402 rfl ?_
    refine wa_getf q_X7_placeOf_403 f_RX7_8 (by assumption) rfl ?_
    refine wa_iload q_X7_placeOf_406 rfl ?_
    refine wa_iload q_X7_placeOf_408 rfl ?_
    refine wn_iadd q_X7_placeOf_410 ?_
    refine wa_lload q_X7_placeOf_411 rfl ?_
    refine wn_l2i q_X7_placeOf_413 ?_
    rw [show 320 * a + j + n = 320 * a + (j + n) by omega]
    refine wn_iast q_X7_placeOf_414 (by assumption) (by omega) (by omega) (fun σ_p1 p1 f_p1 e1_p1 e2_p1 => ?_)
    obtain ⟨w1, s1⟩ := y1.cell p1 f_p1 e1_p1 e2_p1
    refine wa_lload q_X7_placeOf_415 rfl ?_
    refine wn_l2i q_X7_placeOf_417 ?_
    refine wa_iret q_X7_placeOf_418 rfl ?_
    obtain ⟨d1, d2⟩ := div_of y3 y4
    have hreg := reg_u (C := C2) (r := a) (i := j + n) (x := 0)
    refine ⟨_, by rw [← hU0, ← hW0, d1], w1, by rw [hreg, un_s], fun i hi => by rw [hreg, un_n (by omega)]; exact y2 i hi, ?_, fun i hi => by rw [hreg, un_n (by omega)]; exact y6 i (by omega), y7.tr (rO.cell (by omega)), y8.tr s1⟩
    rw [hreg, vl_congr (e := fun i => reg C2 a (j + i)) (fun i hi => un_n (by omega)), ← hU0, ← hW0, d2]
    exact y5
  have e0 : (0 : Int64) = lZ 0 := by decide
  refine wa_aload_n q_X7_placeOf_280 rfl ?_
  refine wa_getf q_X7_placeOf_281 f_RX7_8 (by assumption) rfl ?_
  refine wa_iload q_X7_placeOf_284 rfl ?_
  refine wa_iload q_X7_placeOf_286 rfl ?_
  refine wn_iadd q_X7_placeOf_288 ?_
  refine wn_iald q_X7_placeOf_289 (by assumption) (by omega) (by omega) ?_
  rw [rn]
  refine wn_i2l q_X7_placeOf_290 (by omega) ?_
  refine wa_lload q_X7_placeOf_291 rfl ?_
  refine wa_ladd q_X7_placeOf_293 ?_
  rw [lN_lZ (reg C a (j + n)), lZ_add]
  refine wa_lstore q_X7_placeOf_294 (by decide) ?_
  refine wa_lload q_X7_placeOf_296 rfl ?_
  refine wa_lconst q_X7_placeOf_298 (v := 0) (by decide) ?_
  refine wa_lcmp q_X7_placeOf_299 ?_
  rcases htk with ⟨t1, t2, t3⟩ | ⟨t1, t2, t3⟩
  · have el : ((reg C a (j + n) : Int) + -(c : Int)) = 0 := by omega
    rw [el]
    refine wa_if_ge q_X7_placeOf_300 (fun _ => ?_) (fun q => absurd ((lg_cmp_ge _ _).mpr (by rw [e0]; exact (lZ_le (by decide) (by decide) (by decide) (by decide)).mpr (Int.le_refl _))) q)
    exact wa_lv (fin g σ1 C1 hg x1 x3 t1 hlow t3 x5 x6 x7) rfl
  · have el : ((reg C a (j + n) : Int) + -(c : Int)) = -1 := by omega
    rw [el]
    have hg1 : 1 ≤ g := by
      rcases Nat.eq_zero_or_pos g with q | q
      · rw [q] at t1; omega
      · exact q
    have hgm : g * W = (g - 1) * W + W := by
      rw [show g = (g - 1) + 1 by omega, Nat.add_mul, Nat.one_mul, show g - 1 + 1 - 1 = g - 1 by omega]
    refine wa_if_ge q_X7_placeOf_300 (fun q => ?_) (fun _ => ?_)
    · have := (lg_cmp_ge _ _).mp q
      rw [e0] at this
      exact absurd ((lZ_le (by decide) (by decide) (by decide) (by decide)).mp this) (by decide)
    · refine wa_lload q_X7_placeOf_303 rfl ?_
      refine wa_lconst q_X7_placeOf_305 (v := lN 1) (by decide) ?_
      refine wn_lsub q_X7_placeOf_306 (by omega) ?_
      refine wa_lstore q_X7_placeOf_307 (by decide) ?_
      refine wa_iconst q_X7_placeOf_309 (v := nI 0) (by decide) ?_
      refine wa_istore q_X7_placeOf_310 (by decide) ?_
      refine wa_iconst q_X7_placeOf_312 (v := nI 0) (by decide) ?_
      refine wa_istore q_X7_placeOf_313 (by decide) ?_
      refine wa_lv (P_give (C := C1) (Z := Z) (G := G) (σ0 := σ) (L := lZ (-1)) (g := g - 1) ha hb hab hjn x3 (fun i hi => by rw [(x6 b hb hab).2.2 i (by omega)]; exact hdb i hi) (fun σ2 C2 c2 y1 y2 y3 y4 y5 y6 y7 => ?_) n 0 0 σ1 C1 (by omega) x1 (by decide) (fun q hq => by omega) (by show 0 + 0 * 1 = 0 + 0; omega) (fun _ _ => rfl) rO.rf x7) rfl
      have hWb : vl (reg C1 b) n = W := by rw [hW0]; exact vl_congr (fun i hi => (x6 b hb hab).2.2 i (by omega))
      rw [hWb] at y4
      have hA2 := vl_lt (d := fun i => reg C2 a (j + i)) (n := n) y3
      have hc2 : c2 = 1 := by
        have : c2 = 0 ∨ c2 = 1 := by omega
        rcases this with q | q
        · subst q; omega
        · exact q
      subst hc2
      refine wa_lload q_X7_placeOf_394 rfl ?_
      refine wa_iload q_X7_placeOf_396 rfl ?_
      refine wn_i2l q_X7_placeOf_398 (by omega) ?_
      refine wa_ladd q_X7_placeOf_399 ?_
      rw [lN_lZ 1, lZ_add, show (-1 : Int) + ((1 : Nat) : Int) = 0 by decide]
      refine wa_lstore q_X7_placeOf_400 (by decide) ?_
      refine wa_lv (fin (g - 1) σ2 C2 (by omega) y1 y3 (by omega) ?_ (by omega) (fun i hi => (y5 i hi).trans (x5 i hi)) (x6.tr y6) y7) rfl
      rw [show g - 1 + 1 = g by omega]; exact t1
end ref10
