/-! The reference: placeOf, whole -/
section ref10
variable {X : en_X} {σ : en_S} {M : Nat → Nat} {O : Int32 × Int32 × Int32 × Int32 × Int32} {C Z : Nat → Nat} {G : Nat → Int32} {V : Nat → Int}
set_option maxHeartbeats 1000000 in
theorem P_give {ρ σ0 : en_S} {a b n j g : Nat} {L : Int64} {Q : Option Value → en_S → Prop} (ha : a < 140) (hb : b < 140) (hab : b ≠ a) (hjn : j + n ≤ 319) (hda : ∀ i, i < n → reg C a (j + i) < BB) (hdb : ∀ i, i < n → reg C b i < BB)
    (k : ∀ (σ1 : en_S) (C1 : Nat → Nat) (c : Nat), rR X σ1 M O C1 Z G → c ≤ 1 → (∀ i, i < n → reg C1 a (j + i) < BB) → vl (fun i => reg C1 a (j + i)) n + c * BB ^ n = vl (fun i => reg C a (j + i)) n + vl (reg C b) n → (∀ i, i < j ∨ j + n ≤ i → reg C1 a i = reg C a i) → rO C Z G C1 Z G a → mSt M σ0 σ1 → WA X M_X7_placeOf ρ 394 [(23, .int (nI c)), (21, .long L), (11, .long (lN g)), (0, .ref (M 0)), (4, .int (nI n)), (5, .int (nI (320 * a + j))), (6, .int (nI (320 * b)))] [] σ1 Q) :
    ∀ (t i c : Nat) (σ : en_S) (C1 : Nat → Nat), i + t = n → rR X σ M O C1 Z G → c ≤ 1 → (∀ q, q < i → reg C1 a (j + q) < BB) → vl (fun q => reg C1 a (j + q)) i + c * BB ^ i = vl (fun q => reg C a (j + q)) i + vl (reg C b) i → (∀ q, q < j ∨ j + i ≤ q → reg C1 a q = reg C a q) → rO C Z G C1 Z G a → mSt M σ0 σ →
      WA X M_X7_placeOf ρ 315 [(24, .int (nI i)), (23, .int (nI c)), (21, .long L), (11, .long (lN g)), (0, .ref (M 0)), (4, .int (nI n)), (5, .int (nI (320 * a + j))), (6, .int (nI (320 * b)))] [] σ Q := by
  have hB : BB = 1000000000 := rfl
  intro t
  induction t with
  | zero =>
    intro i c σ C1 hit h hc hd hv hk hO hS
    have e : i = n := by omega
    subst e
    refine wa_iload q_X7_placeOf_315 rfl ?_
    refine wa_iload q_X7_placeOf_317 rfl ?_
    refine wn_icmp_ge q_X7_placeOf_319 (by omega) (by omega) (fun hx => ?_) (fun hx => ?_)
    · exact wa_lv (k σ C1 c h hc hd hv hk hO hS) rfl
    · omega
  | succ t ih =>
    intro i c σ C1 hit h hc hd hv hk hO hS
    obtain ⟨a0, a1, a2, a3, n1, n2, n3⟩ := id h
    have ra : C1 (320 * a + j + i) = reg C a (j + i) := by
      have := hk (j + i) (Or.inr (Nat.le_refl _))
      unfold reg at this ⊢
      rw [Nat.add_assoc]; exact this
    have rb : C1 (320 * b + i) = reg C b i := (hO b hb hab).2.2 i (by omega)
    have hw := hda i (by omega)
    have he := hdb i (by omega)
    obtain ⟨w, hw0⟩ : ∃ w, w = reg C a (j + i) := ⟨_, rfl⟩
    obtain ⟨e, he0⟩ : ∃ e, e = reg C b i := ⟨_, rfl⟩
    rw [← hw0] at ra hw
    rw [← he0] at rb he
    have wr : ∀ c2 q, c2 ≤ 1 → q < BB → w + e + c = c2 * BB + q → WA X M_X7_placeOf ρ 387 [(25, .int (nI (w + e + c))), (24, .int (nI i)), (23, .int (nI c2)), (21, .long L), (11, .long (lN g)), (0, .ref (M 0)), (4, .int (nI n)), (5, .int (nI (320 * a + j))), (6, .int (nI (320 * b)))] [.int (nI q), .int (nI (320 * a + (j + i))), .ref (M 1)] σ Q := by
      intro c2 q hc2 hq hqe
      refine wn_iast q_X7_placeOf_387 (by assumption) (by omega) (by omega) (fun σ_p1 p1 f_p1 e1_p1 e2_p1 => ?_)
      obtain ⟨w1, s1⟩ := h.cell p1 f_p1 e1_p1 e2_p1
      refine wn_iinc q_X7_placeOf_388 rfl (by decide) ?_
      refine wa_goto q_X7_placeOf_391 ?_
      have hreg := reg_u (C := C1) (r := a) (i := j + i) (x := q)
      refine wa_lv (ih (i + 1) c2 σ_p1 _ (by omega) w1 hc2 (fun s hs => ?_) ?_ (fun s hs => ?_) (hO.tr (rO.cell (by omega))) (hS.tr s1)) rfl
      · rw [hreg]
        by_cases e1 : s = i
        · rw [e1, un_s]; exact hq
        · rw [un_n (by omega)]; exact hd s (by omega)
      · rw [hreg]
        show vl (fun s => un (reg C1 a) (j + i) q (j + s)) i + un (reg C1 a) (j + i) q (j + i) * BB ^ i + c2 * BB ^ (i + 1) = (vl (fun s => reg C a (j + s)) i + reg C a (j + i) * BB ^ i) + (vl (reg C b) i + reg C b i * BB ^ i)
        rw [un_s, vl_congr (e := fun s => reg C1 a (j + s)) (fun s hs => un_n (by omega)), ← hw0, ← he0, Nat.pow_succ]
        have hm : (w + e + c) * BB ^ i = (c2 * BB + q) * BB ^ i := by rw [hqe]
        generalize BB ^ i = P at *
        grind
      · rw [hreg, un_n (by omega)]; exact hk s (by omega)
    refine wa_iload q_X7_placeOf_315 rfl ?_
    refine wa_iload q_X7_placeOf_317 rfl ?_
    refine wn_icmp_ge q_X7_placeOf_319 (by omega) (by omega) (fun hx => ?_) (fun hx => ?_)
    · omega
    refine wa_aload_n q_X7_placeOf_322 rfl ?_
    refine wa_getf q_X7_placeOf_323 f_RX7_8 (by assumption) rfl ?_
    refine wa_iload q_X7_placeOf_326 rfl ?_
    refine wa_iload q_X7_placeOf_328 rfl ?_
    refine wn_iadd q_X7_placeOf_330 ?_
    refine wn_iald q_X7_placeOf_331 (by assumption) (by omega) (by omega) ?_
    rw [ra]
    refine wa_aload_n q_X7_placeOf_332 rfl ?_
    refine wa_getf q_X7_placeOf_333 f_RX7_8 (by assumption) rfl ?_
    refine wa_iload q_X7_placeOf_336 rfl ?_
    refine wa_iload q_X7_placeOf_338 rfl ?_
    refine wn_iadd q_X7_placeOf_340 ?_
    refine wn_iald q_X7_placeOf_341 (by assumption) (by omega) (by omega) ?_
    rw [rb]
    refine wn_iadd q_X7_placeOf_342 ?_
    refine wa_iload q_X7_placeOf_343 rfl ?_
    refine wn_iadd q_X7_placeOf_345 ?_
    refine wa_istore q_X7_placeOf_346 (by decide) ?_
    refine wa_iload q_X7_placeOf_348 rfl ?_
    refine wa_ldc q_X7_placeOf_350 (v := nI 1000000000) k_RX7_65 ?_
    refine wn_icmp_lt q_X7_placeOf_352 (by omega) (by decide) (fun hl => ?_) (fun hl => ?_)
    · refine wa_iconst q_X7_placeOf_359 (v := nI 0) (by decide) ?_
      refine wa_istore q_X7_placeOf_360 (by decide) ?_
      refine wa_aload_n q_X7_placeOf_362 rfl ?_
      refine wa_getf q_X7_placeOf_363 f_RX7_8 (by assumption) rfl ?_
      refine wa_iload q_X7_placeOf_366 rfl ?_
      refine wa_iload q_X7_placeOf_368 rfl ?_
      refine wn_iadd q_X7_placeOf_370 ?_
      refine wa_iload q_X7_placeOf_371 rfl ?_
      refine wa_iconst q_X7_placeOf_373 (v := nI 1) (by decide) ?_
      refine wn_icmp_ne q_X7_placeOf_374 (by decide) (by decide) (fun _ => ?_) (fun hq => absurd hq (by decide))
      rw [show 320 * a + j + i = 320 * a + (j + i) by omega]
      refine wa_iload q_X7_placeOf_385 rfl ?_
      exact wa_lv (wr 0 (w + e + c) (by decide) hl (by omega)) rfl
    · refine wa_iconst q_X7_placeOf_355 (v := nI 1) (by decide) ?_
      refine wa_goto q_X7_placeOf_356 ?_
      refine wa_istore q_X7_placeOf_360 (by decide) ?_
      refine wa_aload_n q_X7_placeOf_362 rfl ?_
      refine wa_getf q_X7_placeOf_363 f_RX7_8 (by assumption) rfl ?_
      refine wa_iload q_X7_placeOf_366 rfl ?_
      refine wa_iload q_X7_placeOf_368 rfl ?_
      refine wn_iadd q_X7_placeOf_370 ?_
      refine wa_iload q_X7_placeOf_371 rfl ?_
      refine wa_iconst q_X7_placeOf_373 (v := nI 1) (by decide) ?_
      refine wn_icmp_ne q_X7_placeOf_374 (by decide) (by decide) (fun hq => absurd rfl hq) (fun _ => ?_)
      rw [show 320 * a + j + i = 320 * a + (j + i) by omega]
      refine wa_iload q_X7_placeOf_377 rfl ?_
      refine wa_ldc q_X7_placeOf_379 (v := nI 1000000000) k_RX7_65 ?_
      refine wn_isub q_X7_placeOf_381 (by omega) ?_
      refine wa_goto q_X7_placeOf_382 ?_
      exact wa_lv (wr 1 (w + e + c - 1000000000) (by decide) (by omega) (by omega)) rfl
/-- one limb of the quotient -/
def plE (X : en_X) (σ : en_S) (M : Nat → Nat) (O : Int32 × Int32 × Int32 × Int32 × Int32) (C Z : Nat → Nat) (G : Nat → Int32) (a b j n : Nat) (res : Option Value) (τ : en_S) : Prop :=
  ∃ C', res = some (.int (nI (vl (fun i => reg C a (j + i)) (n + 1) / vl (reg C b) n))) ∧ rR X τ M O C' Z G ∧ reg C' a (j + n) = 0 ∧ (∀ i, i < n → reg C' a (j + i) < BB) ∧ vl (fun i => reg C' a (j + i)) n = vl (fun i => reg C a (j + i)) (n + 1) % vl (reg C b) n ∧ (∀ i, i < j ∨ j + n < i → reg C' a i = reg C a i) ∧ rO C Z G C' Z G a ∧ mSt M σ τ
set_option maxHeartbeats 2000000 in
theorem R_place {a b n j : Nat} (h : rR X σ M O C Z G) (ha : a < 140) (hb : b < 140) (hab : b ≠ a) (hn : 1 ≤ n) (hjn : j + n ≤ 319) (hda : ∀ i, i < n + 1 → reg C a (j + i) < BB) (hdb : ∀ i, i < n → reg C b i < BB) (htop : BB ≤ 2 * reg C b (n - 1)) (hU : vl (fun i => reg C a (j + i)) (n + 1) < vl (reg C b) n * BB) :
    Calls X M_X7_placeOf [.ref (M 0), .int (nI a), .int (nI b), .int (nI j), .int (nI n)] σ (plE X σ M O C Z G a b j n) := by
  have hB : BB = 1000000000 := rfl
  obtain ⟨a0, a1, a2, a3, n1, n2, n3⟩ := id h
  obtain ⟨U, hU0⟩ : ∃ U, U = vl (fun i => reg C a (j + i)) (n + 1) := ⟨_, rfl⟩
  obtain ⟨W, hW0⟩ : ∃ W, W = vl (reg C b) n := ⟨_, rfl⟩
  have hWp : W < BB ^ n := by rw [hW0]; exact vl_lt hdb
  -- from the guess on
  have main : ∀ g, g < BB → g * W ≤ U + W → U < (g + 1) * W → WA X M_X7_placeOf σ 178 [(11, .long (lN g)), (0, .ref (M 0)), (4, .int (nI n)), (5, .int (nI (320 * a + j))), (6, .int (nI (320 * b)))] [] σ (plE X σ M O C Z G a b j n) := by
    intro g hg hup hlow
    refine wa_lconst q_X7_placeOf_178 (v := lN 0) (by decide) ?_
    refine wa_lstore q_X7_placeOf_179 (by decide) ?_
    refine wa_iconst q_X7_placeOf_181 (v := nI 0) (by decide) ?_
    refine wa_istore q_X7_placeOf_182 (by decide) ?_
    refine wa_lv (P_sub (C := C) (Z := Z) (G := G) (σ0 := σ) ha hb hab hjn hg (fun i hi => hda i (by omega)) hdb (fun σ1 C1 c x1 x2 x3 x4 x5 x6 x7 => ?_) n 0 0 σ C (by omega) h (by decide) (fun q hq => by omega) (by show 0 + g * 0 = 0 + 0 * 1; omega) (fun _ _ => rfl) rO.rf mSt.rf) rfl
    obtain ⟨b0, b1, b2, b3, -⟩ := id x1
    rw [← hW0] at x4
    have hUe : U = vl (fun i => reg C a (j + i)) n + reg C a (j + n) * BB ^ n := hU0
    have hA := vl_lt (d := fun i => reg C1 a (j + i)) (n := n) x3
    have rn : C1 (320 * a + j + n) = reg C a (j + n) := by
      have := x5 (j + n) (Or.inr (Nat.le_refl _))
      unfold reg at this ⊢
      rw [Nat.add_assoc]; exact this
    have hwn := hda n (by omega)
    have htk := tk_end (A := vl (fun i => reg C1 a (j + i)) n) (W := vl (fun i => reg C a (j + i)) n) (V := W) (Wn := reg C a (j + n)) (U := U) (P := BB ^ n) (g := g) (c := c) x4 hUe hA (Nat.le_of_lt hWp) hWp hlow hup
    -- the end: the highest limb is 0
    have fin : ∀ (g2 : Nat) (σ2 : en_S) (C2 : Nat → Nat), g2 < BB → rR X σ2 M O C2 Z G → (∀ i, i < n → reg C2 a (j + i) < BB) → g2 * W ≤ U → U < (g2 + 1) * W → vl (fun i => reg C2 a (j + i)) n = U - g2 * W → (∀ i, i < j ∨ j + n ≤ i → reg C2 a i = reg C a i) → rO C Z G C2 Z G a → mSt M σ σ2 → WA X M_X7_placeOf σ 402 [(21, .long (lZ 0)), (11, .long (lN g2)), (0, .ref (M 0)), (4, .int (nI n)), (5, .int (nI (320 * a + j))), (6, .int (nI (320 * b)))] [] σ2 (plE X σ M O C Z G a b j n) := by
      intro g2 σ2 C2 hg2 y1 y2 y3 y4 y5 y6 y7 y8
      obtain ⟨c0, c1, c2, c3, -⟩ := id y1
      rw [show lZ 0 = lN 0 from rfl]
      refine wa_aload_n q_X7_placeOf_402 rfl ?_
      refine wa_getf q_X7_placeOf_403 f_RX7_8 (by assumption) rfl ?_
      refine wa_iload q_X7_placeOf_406 rfl ?_
      refine wa_iload q_X7_placeOf_408 rfl ?_
      refine wn_iadd q_X7_placeOf_410 ?_
      refine wa_lload q_X7_placeOf_411 rfl ?_
      refine wn_l2i q_X7_placeOf_413 ?_
      rw [show 320 * a + j + n = 320 * a + (j + n) by omega]
      refine wn_iast q_X7_placeOf_414 (by assumption) (by omega) (by omega) (fun σ_p1 p1 f_p1 e1_p1 e2_p1 => ?_)
      obtain ⟨w1, s1⟩ := y1.cell p1 f_p1 e1_p1 e2_p1
      refine wa_lload q_X7_placeOf_415 rfl ?_
      refine wn_l2i q_X7_placeOf_417 ?_
      refine wa_iret q_X7_placeOf_418 rfl ?_
      obtain ⟨d1, d2⟩ := div_of y3 y4
      have hreg := reg_u (C := C2) (r := a) (i := j + n) (x := 0)
      refine ⟨_, by rw [← hU0, ← hW0, d1], w1, by rw [hreg, un_s], fun i hi => by rw [hreg, un_n (by omega)]; exact y2 i hi, ?_, fun i hi => by rw [hreg, un_n (by omega)]; exact y6 i (by omega), y7.tr (rO.cell (by omega)), y8.tr s1⟩
      rw [hreg, vl_congr (e := fun i => reg C2 a (j + i)) (fun i hi => un_n (by omega)), ← hU0, ← hW0, d2]
      exact y5
    have e0 : (0 : Int64) = lZ 0 := by decide
    refine wa_aload_n q_X7_placeOf_280 rfl ?_
    refine wa_getf q_X7_placeOf_281 f_RX7_8 (by assumption) rfl ?_
    refine wa_iload q_X7_placeOf_284 rfl ?_
    refine wa_iload q_X7_placeOf_286 rfl ?_
    refine wn_iadd q_X7_placeOf_288 ?_
    refine wn_iald q_X7_placeOf_289 (by assumption) (by omega) (by omega) ?_
    rw [rn]
    refine wn_i2l q_X7_placeOf_290 (by omega) ?_
    refine wa_lload q_X7_placeOf_291 rfl ?_
    refine wa_ladd q_X7_placeOf_293 ?_
    rw [lN_lZ (reg C a (j + n)), lZ_add]
    refine wa_lstore q_X7_placeOf_294 (by decide) ?_
    refine wa_lload q_X7_placeOf_296 rfl ?_
    refine wa_lconst q_X7_placeOf_298 (v := 0) (by decide) ?_
    refine wa_lcmp q_X7_placeOf_299 ?_
    rcases htk with ⟨t1, t2, t3⟩ | ⟨t1, t2, t3⟩
    · have el : ((reg C a (j + n) : Int) + -(c : Int)) = 0 := by omega
      rw [el]
      refine wa_if_ge q_X7_placeOf_300 (fun _ => ?_) (fun q => absurd ((lg_cmp_ge _ _).mpr (by rw [e0]; exact (lZ_le (by decide) (by decide) (by decide) (by decide)).mpr (Int.le_refl _))) q)
      exact wa_lv (fin g σ1 C1 hg x1 x3 t1 hlow t3 x5 x6 x7) rfl
    · have el : ((reg C a (j + n) : Int) + -(c : Int)) = -1 := by omega
      rw [el]
      have hg1 : 1 ≤ g := by
        rcases Nat.eq_zero_or_pos g with q | q
        · rw [q] at t1; omega
        · exact q
      have hgm : g * W = (g - 1) * W + W := by
        rw [show g = (g - 1) + 1 by omega, Nat.add_mul, Nat.one_mul, show g - 1 + 1 - 1 = g - 1 by omega]
      refine wa_if_ge q_X7_placeOf_300 (fun q => ?_) (fun _ => ?_)
      · have := (lg_cmp_ge _ _).mp q
        rw [e0] at this
        exact absurd ((lZ_le (by decide) (by decide) (by decide) (by decide)).mp this) (by decide)
      · refine wa_lload q_X7_placeOf_303 rfl ?_
        refine wa_lconst q_X7_placeOf_305 (v := lN 1) (by decide) ?_
        refine wn_lsub q_X7_placeOf_306 (by omega) ?_
        refine wa_lstore q_X7_placeOf_307 (by decide) ?_
        refine wa_iconst q_X7_placeOf_309 (v := nI 0) (by decide) ?_
        refine wa_istore q_X7_placeOf_310 (by decide) ?_
        refine wa_iconst q_X7_placeOf_312 (v := nI 0) (by decide) ?_
        refine wa_istore q_X7_placeOf_313 (by decide) ?_
        refine wa_lv (P_give (C := C1) (Z := Z) (G := G) (σ0 := σ) (L := lZ (-1)) (g := g - 1) ha hb hab hjn x3 (fun i hi => by rw [(x6 b hb hab).2.2 i (by omega)]; exact hdb i hi) (fun σ2 C2 c2 y1 y2 y3 y4 y5 y6 y7 => ?_) n 0 0 σ1 C1 (by omega) x1 (by decide) (fun q hq => by omega) (by show 0 + 0 * 1 = 0 + 0; omega) (fun _ _ => rfl) rO.rf x7) rfl
        have hWb : vl (reg C1 b) n = W := by rw [hW0]; exact vl_congr (fun i hi => (x6 b hb hab).2.2 i (by omega))
        rw [hWb] at y4
        have hA2 := vl_lt (d := fun i => reg C2 a (j + i)) (n := n) y3
        have hc2 : c2 = 1 := by
          have : c2 = 0 ∨ c2 = 1 := by omega
          rcases this with q | q
          · subst q; omega
          · exact q
        subst hc2
        refine wa_lload q_X7_placeOf_394 rfl ?_
        refine wa_iload q_X7_placeOf_396 rfl ?_
        refine wn_i2l q_X7_placeOf_398 (by omega) ?_
        refine wa_ladd q_X7_placeOf_399 ?_
        rw [lN_lZ 1, lZ_add, show (-1 : Int) + ((1 : Nat) : Int) = 0 by decide]
        refine wa_lstore q_X7_placeOf_400 (by decide) ?_
        refine wa_lv (fin (g - 1) σ2 C2 (by omega) y1 y3 (by omega) ?_ (by omega) (fun i hi => (y5 i hi).trans (x5 i hi)) (x6.tr y6) y7) rfl
        rw [show g - 1 + 1 = g by omega]; exact t1
  -- the limbs that the guess is made of
  have r1 : C (320 * a + j + n) = reg C a (j + n) := by unfold reg; rw [Nat.add_assoc]
  have r2 : C (320 * a + j + n - 1) = reg C a (j + (n - 1)) := by unfold reg; rw [show 320 * a + j + n - 1 = 320 * a + (j + (n - 1)) by omega]
  have r3 : C (320 * b + n - 1) = reg C b (n - 1) := by unfold reg; rw [show 320 * b + n - 1 = 320 * b + (n - 1) by omega]
  have b1 := hda n (by omega)
  have b2 := hda (n - 1) (by omega)
  have b3 := hdb (n - 1) (by omega)
  obtain ⟨u0, hu0⟩ : ∃ u0, u0 = reg C a (j + n) := ⟨_, rfl⟩
  obtain ⟨u1, hu1⟩ : ∃ u1, u1 = reg C a (j + (n - 1)) := ⟨_, rfl⟩
  obtain ⟨v1, hv1⟩ : ∃ v1, v1 = reg C b (n - 1) := ⟨_, rfl⟩
  rw [← hu0] at r1 b1
  rw [← hu1] at r2 b2
  rw [← hv1] at r3 b3 htop
  have hub : u0 * 1000000000 + u1 < 1000000000 * 1000000000 := by
    have : u0 * 1000000000 ≤ 999999999 * 1000000000 := Nat.mul_le_mul_right _ (by omega)
    omega
  obtain ⟨tw, htw⟩ : ∃ tw, tw = u0 * 1000000000 + u1 := ⟨_, rfl⟩
  have hqm := Nat.div_add_mod tw v1
  refine Calls.of rfl (lk rfl) ?_
  refine wa_sipush q_X7_placeOf_0 (v := nI 320) (by decide) ?_
  refine wa_iload_n q_X7_placeOf_3 rfl ?_
  refine wn_imul q_X7_placeOf_4 ?_
  refine wa_iload_n q_X7_placeOf_5 rfl ?_
  refine wn_iadd q_X7_placeOf_6 ?_
  refine wa_istore q_X7_placeOf_7 (by decide) ?_
  refine wa_sipush q_X7_placeOf_9 (v := nI 320) (by decide) ?_
  refine wa_iload_n q_X7_placeOf_12 rfl ?_
  refine wn_imul q_X7_placeOf_13 ?_
  refine wa_istore q_X7_placeOf_14 (by decide) ?_
  refine wa_aload_n q_X7_placeOf_16 rfl ?_
  refine wa_getf q_X7_placeOf_17 f_RX7_8 (by assumption) rfl ?_
  refine wa_iload q_X7_placeOf_20 rfl ?_
  refine wa_iload q_X7_placeOf_22 rfl ?_
  refine wn_iadd q_X7_placeOf_24 ?_
  refine wn_iald q_X7_placeOf_25 (by assumption) (by omega) (by omega) ?_
  rw [r1]
  refine wn_i2l q_X7_placeOf_26 (by omega) ?_
  refine wa_ldc2 q_X7_placeOf_27 (v := lN 1000000000) k_RX7_47 ?_
  refine wn_lmul q_X7_placeOf_30 ?_
  refine wa_aload_n q_X7_placeOf_31 rfl ?_
  refine wa_getf q_X7_placeOf_32 f_RX7_8 (by assumption) rfl ?_
  refine wa_iload q_X7_placeOf_35 rfl ?_
  refine wa_iload q_X7_placeOf_37 rfl ?_
  refine wn_iadd q_X7_placeOf_39 ?_
  refine wa_iconst q_X7_placeOf_40 (v := nI 1) (by decide) ?_
  refine wn_isub q_X7_placeOf_41 (by omega) ?_
  refine wn_iald q_X7_placeOf_42 (by assumption) (by omega) (by omega) ?_
  rw [r2]
  refine wn_i2l q_X7_placeOf_43 (by omega) ?_
  refine wn_ladd q_X7_placeOf_44 ?_
  rw [← htw]
  rw [← htw] at hub
  refine wa_lstore q_X7_placeOf_45 (by decide) ?_
  refine wa_aload_n q_X7_placeOf_47 rfl ?_
  refine wa_getf q_X7_placeOf_48 f_RX7_8 (by assumption) rfl ?_
  refine wa_iload q_X7_placeOf_51 rfl ?_
  refine wa_iload q_X7_placeOf_53 rfl ?_
  refine wn_iadd q_X7_placeOf_55 ?_
  refine wa_iconst q_X7_placeOf_56 (v := nI 1) (by decide) ?_
  refine wn_isub q_X7_placeOf_57 (by omega) ?_
  refine wn_iald q_X7_placeOf_58 (by assumption) (by omega) (by omega) ?_
  rw [r3]
  refine wn_i2l q_X7_placeOf_59 (by omega) ?_
  refine wa_lstore q_X7_placeOf_60 (by decide) ?_
  refine wa_lload q_X7_placeOf_62 rfl ?_
  refine wa_lload q_X7_placeOf_64 rfl ?_
  refine wn_ldiv q_X7_placeOf_66 (by omega) (by omega) (by omega) ?_
  refine wa_lstore q_X7_placeOf_67 (by decide) ?_
  refine wa_lload q_X7_placeOf_69 rfl ?_
  refine wa_lload q_X7_placeOf_71 rfl ?_
  refine wn_lrem q_X7_placeOf_73 (by omega) (by omega) (by omega) ?_
  refine wa_lstore q_X7_placeOf_74 (by decide) ?_
  refine wa_iload q_X7_placeOf_76 rfl ?_
  refine wa_iconst q_X7_placeOf_78 (v := nI 1) (by decide) ?_
  by_cases hn2 : 2 ≤ n
  · have r4 : C (320 * b + n - 2) = reg C b (n - 2) := by unfold reg; rw [show 320 * b + n - 2 = 320 * b + (n - 2) by omega]
    have r5 : C (320 * a + j + n - 2) = reg C a (j + (n - 2)) := by unfold reg; rw [show 320 * a + j + n - 2 = 320 * a + (j + (n - 2)) by omega]
    have b4 := hdb (n - 2) (by omega)
    have b5 := hda (n - 2) (by omega)
    have eU := vl_3 (d := fun i => reg C a (j + i)) hn2
    have eV := vl_2 (d := reg C b) hn2
    simp only [] at eU
    rw [← hU0, ← hu0, ← hu1] at eU
    rw [← hW0, ← hv1] at eV
    have hVl := vl_lt (d := reg C b) (n := n - 2) (fun i hi => hdb i (by omega))
    have hUl := vl_lt (d := fun i => reg C a (j + i)) (n := n - 2) (fun i hi => hda i (by omega))
    rw [← hU0, ← hW0] at hU
    refine wn_icmp_le q_X7_placeOf_79 (by omega) (by omega) (fun hx => ?_) (fun hx => ?_)
    · omega
    refine wa_aload_n q_X7_placeOf_82 rfl ?_
    refine wa_getf q_X7_placeOf_83 f_RX7_8 (by assumption) rfl ?_
    refine wa_iload q_X7_placeOf_86 rfl ?_
    refine wa_iload q_X7_placeOf_88 rfl ?_
    refine wn_iadd q_X7_placeOf_90 ?_
    refine wa_iconst q_X7_placeOf_91 (v := nI 2) (by decide) ?_
    refine wn_isub q_X7_placeOf_92 (by omega) ?_
    refine wn_iald q_X7_placeOf_93 (by assumption) (by omega) (by omega) ?_
    rw [r4]
    refine wn_i2l q_X7_placeOf_94 (by omega) ?_
    refine wa_goto q_X7_placeOf_95 ?_
    refine wa_lstore q_X7_placeOf_99 (by decide) ?_
    refine wa_iload q_X7_placeOf_101 rfl ?_
    refine wa_iconst q_X7_placeOf_103 (v := nI 1) (by decide) ?_
    refine wn_icmp_le q_X7_placeOf_104 (by omega) (by omega) (fun hy => ?_) (fun hy => ?_)
    · omega
    refine wa_aload_n q_X7_placeOf_107 rfl ?_
    refine wa_getf q_X7_placeOf_108 f_RX7_8 (by assumption) rfl ?_
    refine wa_iload q_X7_placeOf_111 rfl ?_
    refine wa_iload q_X7_placeOf_113 rfl ?_
    refine wn_iadd q_X7_placeOf_115 ?_
    refine wa_iconst q_X7_placeOf_116 (v := nI 2) (by decide) ?_
    refine wn_isub q_X7_placeOf_117 (by omega) ?_
    refine wn_iald q_X7_placeOf_118 (by assumption) (by omega) (by omega) ?_
    rw [r5]
    refine wn_i2l q_X7_placeOf_119 (by omega) ?_
    refine wa_goto q_X7_placeOf_120 ?_
    refine wa_lstore q_X7_placeOf_124 (by decide) ?_
    refine wa_lv (P_guess (v1 := v1) (v2 := reg C b (n - 2)) (un' := u0) (un1 := u1) (un2 := reg C a (j + (n - 2))) (P := BB ^ (n - 2)) (Vl := vl (reg C b) (n - 2)) (Ul := vl (fun i => reg C a (j + i)) (n - 2)) b3 htop b4 b1 b2 b5 hVl hUl (by rw [← eU, ← eV]; exact hU) (fun g g1 g2 g3 => ?_) (tw / v1) (tw % v1) ?_ ?_) rfl
    · rw [← eU, ← eV] at g2 g3
      exact main g g1 g2 g3
    · show tw / v1 * v1 + tw % v1 = u0 * 1000000000 + u1
      rw [← htw, Nat.mul_comm]; exact hqm
    · have := kn_C (b := BB) (v1 := v1) (v2 := reg C b (n - 2)) (un := u0) (un1 := u1) (un2 := reg C a (j + (n - 2))) (P := BB ^ (n - 2)) (Vl := vl (reg C b) (n - 2)) (Ul := vl (fun i => reg C a (j + i)) (n - 2)) (by omega) b5 hUl
      rw [show u0 * BB + u1 = tw from htw.symm] at this ⊢
      exact this
  · have en : n = 1 := by omega
    subst en
    have eU : U = u1 + u0 * BB := by
      rw [hU0, hu0, hu1]
      show 0 + reg C a (j + 0) * BB ^ 0 + reg C a (j + 1) * BB ^ 1 = reg C a (j + (1 - 1)) + reg C a (j + 1) * BB
      rw [Nat.pow_zero, Nat.pow_one, Nat.mul_one, Nat.zero_add]
    have eV : W = v1 := by
      rw [hW0, hv1]
      show 0 + reg C b 0 * BB ^ 0 = reg C b (1 - 1)
      rw [Nat.pow_zero, Nat.mul_one, Nat.zero_add]
    rw [← hU0, ← hW0] at hU
    refine wn_icmp_le q_X7_placeOf_79 (by omega) (by omega) (fun hx => ?_) (fun hx => ?_)
    · refine wa_lconst q_X7_placeOf_98 (v := lN 0) (by decide) ?_
      refine wa_lstore q_X7_placeOf_99 (by decide) ?_
      refine wa_iload q_X7_placeOf_101 rfl ?_
      refine wa_iconst q_X7_placeOf_103 (v := nI 1) (by decide) ?_
      refine wn_icmp_le q_X7_placeOf_104 (by omega) (by omega) (fun hy => ?_) (fun hy => ?_)
      · refine wa_lconst q_X7_placeOf_123 (v := lN 0) (by decide) ?_
        refine wa_lstore q_X7_placeOf_124 (by decide) ?_
        refine wa_lv (P_guess (v1 := v1) (v2 := 0) (un' := u0) (un1 := u1) (un2 := 0) (P := 1) (Vl := 0) (Ul := 0) b3 htop BB_pos b1 b2 BB_pos (by decide) (by decide) ?_ (fun g g1 g2 g3 => ?_) (tw / v1) (tw % v1) ?_ ?_) rfl
        · rw [eU, eV] at hU
          simp only [Nat.add_zero, Nat.mul_one]
          exact Nat.mul_lt_mul_of_pos_right (by omega) BB_pos
        · simp only [Nat.add_zero, Nat.mul_one] at g2 g3
          refine main g g1 ?_ ?_
          · rw [eU, eV]
            rw [← Nat.mul_assoc, ← Nat.add_mul] at g2
            have := Nat.le_of_mul_le_mul_right g2 BB_pos
            omega
          · rw [eU, eV]
            rw [← Nat.mul_assoc] at g3
            have := Nat.lt_of_mul_lt_mul_right g3
            omega
        · show tw / v1 * v1 + tw % v1 = u0 * 1000000000 + u1
          rw [← htw, Nat.mul_comm]; exact hqm
        · have := kn_C (b := BB) (v1 := v1) (v2 := 0) (un := u0) (un1 := u1) (un2 := 0) (P := 1) (Vl := 0) (Ul := 0) (by omega) BB_pos (by decide)
          rw [show u0 * BB + u1 = tw from htw.symm] at this ⊢
          exact this
      · omega
    · omega
end ref10
