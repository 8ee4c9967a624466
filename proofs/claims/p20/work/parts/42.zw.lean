/-! Numbers by their places in a list: z gives the address of the i-th number, U its value -/
abbrev zD (z : Nat → Nat) (N : Nat) : List Nat := (List.range N).map z
def zI (z : Nat → Nat) (N : Nat) : Prop := ∀ i j, i < N → j < N → z i = z j → i = j
def zW (X : en_X) (z : Nat → Nat) (N : Nat) (σ : en_S) (S : Nat → en_B) (U : Nat → Int) : Prop := zI z N ∧ ∃ V, bw_V X (zD z N) σ S V ∧ ∀ i, i < N → V (z i) = U i
theorem zD_m {z : Nat → Nat} {N i : Nat} (h : i < N) : z i ∈ zD z N := List.mem_map.mpr ⟨i, List.mem_range.mpr h, rfl⟩
theorem zD_e {z : Nat → Nat} {N a : Nat} (h : a ∈ zD z N) : ∃ i, i < N ∧ z i = a := by
  obtain ⟨i, h1, h2⟩ := List.mem_map.mp h
  exact ⟨i, List.mem_range.mp h1, h2⟩
theorem zI.ne {z : Nat → Nat} {N i j : Nat} (h : zI z N) (hi : i < N) (hj : j < N) (hij : i ≠ j) : z i ≠ z j := fun e => hij (h i j hi hj e)
section zw
variable {X : en_X} {σ : en_S} {z : Nat → Nat} {N : Nat} {S : Nat → en_B} {U : Nat → Int}
theorem zW.up {τ : en_S} {S' : Nat → en_B} {V : Nat → Int} {i : Nat} {v : Int} (hI : zI z N) (h : bw_V X (zD z N) τ S' (uV V (z i) v)) (hU : ∀ j, j < N → V (z j) = U j) (hi : i < N) : zW X z N τ S' (uV U i v) := by
  refine ⟨hI, _, h, fun j hj => ?_⟩
  by_cases e : j = i
  · subst e; rw [uV_s, uV_s]
  · rw [uV_n e, uV_n (hI.ne hj hi e)]; exact hU j hj
theorem zW.R (h : zW X z N σ S U) : bw_R X (zD z N) σ S := h.2.choose_spec.1.1
theorem zW.big (h : zW X z N σ S U) {i : Nat} (hi : i < N) : look σ (z i) = some (bE (sgI (U i)) (S (z i)).2.2.1 (S (z i)).1) := by
  obtain ⟨-, V, h1, h2⟩ := h
  have e := (h1.1.1 _ (zD_m hi)).1
  rw [(h1.2 _ (zD_m hi)).1, h2 i hi] at e
  exact e
theorem zW.lt (h : zW X z N σ S U) {i : Nat} (hi : i < N) : z i < σ.1 := (h.R.1 _ (zD_m hi)).2.2.2.2.2.1
theorem zW.eq {U' : Nat → Int} (h : zW X z N σ S U) (e : ∀ i, i < N → U' i = U i) : zW X z N σ S U' := by
  obtain ⟨h0, V, h1, h2⟩ := h
  exact ⟨h0, V, h1, fun i hi => (h2 i hi).trans (e i hi).symm⟩
/-- an object that is no number, or another array, changes: the numbers stay -/
theorem bw_R.ext {D : List Nat} {τ : en_S} {a : Nat} (h : bw_R X D σ S) (hf : ∀ q, q ≠ a → look τ q = look σ q) (ha : a ∉ D) (hr : ∀ d ∈ D, a ≠ (S d).1) (e1 : τ.1 = σ.1) : bw_R X D τ S := by
  refine ⟨fun d hd => ?_, h.2⟩
  obtain ⟨c1, c2, c3, c4, c5, c6, c7⟩ := h.1 d hd
  exact ⟨(hf d (fun z => ha (z ▸ hd))).trans c1, (hf _ (fun z => hr d hd z.symm)).trans c2, c3, c4, c5, by omega, by omega⟩
theorem bw_no {D : List Nat} {a : Nat} {en : va_E} (h : bw_R X D σ S) (hl : look σ a = some en) (h1 : ∀ l, en ≠ .inr (1, l)) (h2 : ∀ n d, en ≠ ar X n d) : a ∉ D ∧ ∀ d ∈ D, a ≠ (S d).1 := by
  refine ⟨fun m => ?_, fun d hd e => ?_⟩
  · have := (h.1 a m).1
    rw [hl] at this
    exact h1 _ (Option.some.inj this)
  · have := (h.1 d hd).2.1
    rw [← e, hl] at this
    exact h2 _ _ (Option.some.inj this)
theorem bw_oth {D : List Nat} {τ : en_S} {T : Nat → en_B} {a : Nat} {en : va_E} (s : bw_St D σ S τ T) (h : bw_R X D σ S) (hq : a < σ.1) (hl : look σ a = some en) (h1 : ∀ l, en ≠ .inr (1, l)) (h2 : ∀ n d, en ≠ ar X n d) : look τ a = some en := by
  obtain ⟨g1, g2⟩ := bw_no h hl h1 h2
  rw [s.2.1 a hq g1 g2]; exact hl
theorem zW.ext {τ : en_S} {a : Nat} {ci : Nat} {fs : List Value} (h : zW X z N σ S U) (hf : ∀ q, q ≠ a → look τ q = look σ q) (hl : look σ a = some (.inr (ci, fs))) (hc : ci ≠ 1) (e1 : τ.1 = σ.1) : zW X z N τ S U := by
  obtain ⟨h0, V, h1, h2⟩ := h
  obtain ⟨g1, g2⟩ := bw_no h1.1 hl (fun l e => by cases e; exact hc rfl) (fun n d e => by cases e)
  exact ⟨h0, V, ⟨h1.1.ext hf g1 g2 e1, h1.2⟩, h2⟩
theorem Z_copy {i j : Nat} (h : zW X z N σ S U) (hi : i < N) (hj : j < N) (hij : i ≠ j) (hz : (U j).natAbs < BB ^ 250) : Calls X M_X1_copy [.ref (z i), .ref (z j)] σ (fun res τ => res = none ∧ ∃ S', zW X z N τ S' (uV U i (U j)) ∧ bw_St (zD z N) σ S τ S') := by
  obtain ⟨h0, V, h1, h2⟩ := h
  refine Calls.mono (V_copy h1 (zD_m hi) (zD_m hj) (h0.ne hi hj hij) (by rw [h2 j hj]; exact hz)) ?_
  rintro r τ ⟨rfl, S', k1, k2⟩
  rw [h2 j hj] at k1
  exact ⟨rfl, S', zW.up h0 k1 h2 hi, k2⟩
theorem Z_clear {i : Nat} (h : zW X z N σ S U) (hi : i < N) : Calls X M_X1_clear [.ref (z i)] σ (fun res τ => res = none ∧ ∃ S', zW X z N τ S' (uV U i 0) ∧ bw_St (zD z N) σ S τ S') := by
  obtain ⟨h0, V, h1, h2⟩ := h
  refine Calls.mono (V_clear h1 (zD_m hi)) ?_
  rintro r τ ⟨rfl, S', k1, k2⟩
  exact ⟨rfl, S', zW.up h0 k1 h2 hi, k2⟩
theorem Z_setL {i : Nat} {n : Int} (h : zW X z N σ S U) (hi : i < N) (h1 : -9223372036854775808 ≤ n) (h2 : n < 9223372036854775808) : Calls X M_X1_setLong [.ref (z i), .long (lZ n)] σ (fun res τ => res = none ∧ ∃ S', zW X z N τ S' (uV U i n) ∧ bw_St (zD z N) σ S τ S') := by
  obtain ⟨h0, V, g1, g2⟩ := h
  refine Calls.mono (V_setL g1 (zD_m hi) h1 h2) ?_
  rintro r τ ⟨rfl, S', k1, k2⟩
  exact ⟨rfl, S', zW.up h0 k1 g2 hi, k2⟩
theorem Z_add {i j : Nat} (h : zW X z N σ S U) (hi : i < N) (hj : j < N) (hij : i ≠ j) (zi : (U i).natAbs < BB ^ 250) (zj : (U j).natAbs < BB ^ 250) : Calls X M_X1_add [.ref (z i), .ref (z j)] σ (fun res τ => res = none ∧ ∃ S', zW X z N τ S' (uV U i (U i + U j)) ∧ bw_St (zD z N) σ S τ S') := by
  obtain ⟨h0, V, h1, h2⟩ := h
  refine Calls.mono (V_add h1 (zD_m hi) (zD_m hj) (h0.ne hi hj hij) (by rw [h2 i hi]; exact zi) (by rw [h2 j hj]; exact zj)) ?_
  rintro r τ ⟨rfl, S', k1, k2⟩
  rw [h2 j hj, h2 i hi] at k1
  exact ⟨rfl, S', zW.up h0 k1 h2 hi, k2⟩
theorem Z_sub {i j : Nat} (h : zW X z N σ S U) (hi : i < N) (hj : j < N) (hij : i ≠ j) (zi : (U i).natAbs < BB ^ 250) (zj : (U j).natAbs < BB ^ 250) : Calls X M_X1_subtract [.ref (z i), .ref (z j)] σ (fun res τ => res = none ∧ ∃ S', zW X z N τ S' (uV U i (U i - U j)) ∧ bw_St (zD z N) σ S τ S') := by
  obtain ⟨h0, V, h1, h2⟩ := h
  refine Calls.mono (V_sub h1 (zD_m hi) (zD_m hj) (h0.ne hi hj hij) (by rw [h2 i hi]; exact zi) (by rw [h2 j hj]; exact zj)) ?_
  rintro r τ ⟨rfl, S', k1, k2⟩
  rw [h2 j hj, h2 i hi] at k1
  exact ⟨rfl, S', zW.up h0 k1 h2 hi, k2⟩
theorem Z_grow {i : Nat} {t : Int} (h : zW X z N σ S U) (hi : i < N) (ht : t = 1 ∨ t = -1) (zi : (U i).natAbs < BB ^ 250) : Calls X M_X1_grow [.ref (z i), .int (sgI t)] σ (fun res τ => res = none ∧ ∃ S', zW X z N τ S' (uV U i (grw (U i) t)) ∧ bw_St (zD z N) σ S τ S') := by
  obtain ⟨h0, V, h1, h2⟩ := h
  refine Calls.mono (V_grow h1 (zD_m hi) ht (by rw [h2 i hi]; exact zi)) ?_
  rintro r τ ⟨rfl, S', k1, k2⟩
  rw [h2 i hi] at k1
  exact ⟨rfl, S', zW.up h0 k1 h2 hi, k2⟩
theorem Z_mulS {i f : Nat} (h : zW X z N σ S U) (hi : i < N) (hf : f ≤ BB) (zi : (U i).natAbs < BB ^ 250) : Calls X M_X1_multiplySmall [.ref (z i), .long (lN f)] σ (fun res τ => res = none ∧ ∃ S', zW X z N τ S' (uV U i (U i * f)) ∧ bw_St (zD z N) σ S τ S') := by
  obtain ⟨h0, V, h1, h2⟩ := h
  refine Calls.mono (V_mulS h1 (zD_m hi) hf (by rw [h2 i hi]; exact zi)) ?_
  rintro r τ ⟨rfl, S', k1, k2⟩
  rw [h2 i hi] at k1
  exact ⟨rfl, S', zW.up h0 k1 h2 hi, k2⟩
theorem Z_divS {i f : Nat} (h : zW X z N σ S U) (hi : i < N) (hf0 : 0 < f) (hf : f * BB < 2 ^ 63) : Calls X M_X1_divideSmall [.ref (z i), .long (lN f)] σ (fun res τ => res = some (.long (lN ((U i).natAbs % f))) ∧ ∃ S', zW X z N τ S' (uV U i ((U i).tdiv f)) ∧ bw_St (zD z N) σ S τ S') := by
  obtain ⟨h0, V, h1, h2⟩ := h
  refine Calls.mono (V_divS h1 (zD_m hi) hf0 hf) ?_
  rintro r τ ⟨rfl, S', k1, k2⟩
  rw [h2 i hi] at k1 ⊢
  exact ⟨rfl, S', zW.up h0 k1 h2 hi, k2⟩
theorem Z_shiftUp {i p : Nat} (h : zW X z N σ S U) (hi : i < N) (hp : p ≤ 1000) (zi : (U i).natAbs * 10 ^ p < BB ^ 250) : Calls X M_X1_shiftUp [.ref (z i), .int (nI p)] σ (fun res τ => res = none ∧ ∃ S', zW X z N τ S' (uV U i (U i * 10 ^ p)) ∧ bw_St (zD z N) σ S τ S') := by
  obtain ⟨h0, V, h1, h2⟩ := h
  refine Calls.mono (V_shiftUp h1 (zD_m hi) hp (by rw [h2 i hi]; exact zi)) ?_
  rintro r τ ⟨rfl, S', k1, k2⟩
  rw [h2 i hi] at k1
  exact ⟨rfl, S', zW.up h0 k1 h2 hi, k2⟩
theorem Z_shrink {i p : Nat} {tw : Int} (h : zW X z N σ S U) (hi : i < N) (hp : p ≤ 9000) (ht : tw = 1 ∨ tw = -1) (zi : (U i).natAbs < BB ^ 250) : Calls X M_X1_shrink [.ref (z i), .int (nI p), .int (sgI tw)] σ (fun res τ => res = none ∧ ∃ S', zW X z N τ S' (uV U i (shr (U i) p tw)) ∧ bw_St (zD z N) σ S τ S') := by
  obtain ⟨h0, V, h1, h2⟩ := h
  refine Calls.mono (V_shrink h1 (zD_m hi) hp ht (by rw [h2 i hi]; exact zi)) ?_
  rintro r τ ⟨rfl, S', k1, k2⟩
  rw [h2 i hi] at k1
  exact ⟨rfl, S', zW.up h0 k1 h2 hi, k2⟩
theorem Z_cmp {i j : Nat} (h : zW X z N σ S U) (hi : i < N) (hj : j < N) : Calls X M_X1_compare [.ref (z i), .ref (z j)] σ (fun res τ => res = some (.int (cmpI (U i) (U j))) ∧ τ = σ) := by
  obtain ⟨h0, V, h1, h2⟩ := h
  have := V_cmp h1 (zD_m hi) (zD_m hj)
  rw [h2 i hi, h2 j hj] at this
  exact this
/-- the numbers at the places of l alone may have changed -/
theorem zW.of {τ : en_S} {S' : Nat → en_B} {V V' : Nat → Int} (hI : zI z N) (h : bw_V X (zD z N) τ S' V') (hU : ∀ j, j < N → V (z j) = U j) (l : List Nat) (hl : ∀ j ∈ l, j < N) (hf : ∀ x, x ∉ l.map z → V' x = V x) : ∃ U', zW X z N τ S' U' ∧ (∀ j, j < N → U' j = V' (z j)) ∧ ∀ j, j ∉ l → U' j = U j := by
  refine ⟨fun j => if j < N then V' (z j) else U j, ⟨hI, V', h, fun j hj => (if_pos hj).symm⟩, fun j hj => if_pos hj, fun j hj => ?_⟩
  by_cases hN : j < N
  · show (if j < N then V' (z j) else U j) = U j
    rw [if_pos hN, hf (z j) (fun m => ?_), hU j hN]
    obtain ⟨i, i1, i2⟩ := List.mem_map.mp m
    exact hj (hI i j (hl i i1) hN i2 ▸ i1)
  · exact if_neg hN
end zw
