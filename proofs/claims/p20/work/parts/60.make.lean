/-! EnclosedDigits: make -/
def zx (z : Nat → Nat) (N s : Nat) : Nat → Nat := fun i => if i < N then z i else s + 2 * (i - N)
def Sx (S : Nat → en_B) (m : Nat) : Nat → en_B := fun a => if a < m then S a else (a + 1, 8, 0, fun _ => 0, 0)
def Ux (U : Nat → Int) (N : Nat) : Nat → Int := fun i => if i < N then U i else 0
def unI (d : Nat → Int) (k : Nat) (x : Int) : Nat → Int := fun j => if j = k then x else d j
theorem unI_s {d : Nat → Int} {k : Nat} {x : Int} : unI d k x k = x := if_pos rfl
theorem unI_n {d : Nat → Int} {k j : Nat} {x : Int} (h : j ≠ k) : unI d k x j = d j := if_neg h
section mak0
variable {X : en_X} {σ τ : en_S} {z : Nat → Nat} {N n s : Nat} {S : Nat → en_B} {U : Nat → Int}
theorem zW.more (h : zW X z N σ S U) (hb : bigs X τ s n) (hs : σ.1 ≤ s) (hτ : s + 2 * n ≤ τ.1) (hf : ∀ q, q < σ.1 → look τ q = look σ q) : zW X (zx z N s) (N + n) τ (Sx S σ.1) (Ux U N) := by
  have hl : ∀ i, i < N → z i < σ.1 := fun i hi => h.lt hi
  obtain ⟨h0, V, h1, h2⟩ := h
  have hI : zI (zx z N s) (N + n) := by
    intro i j hi hj e
    unfold zx at e
    split at e <;> split at e
    · exact h0 i j (by assumption) (by assumption) e
    · have := hl i (by assumption); omega
    · have := hl j (by assumption); omega
    · omega
  have cl : ∀ a ∈ zD (zx z N s) (N + n), (∃ i, i < N ∧ z i = a) ∨ (∃ k, k < n ∧ a = s + 2 * k) := by
    intro a ha
    obtain ⟨i, hi, e⟩ := zD_e ha
    unfold zx at e
    split at e
    · exact Or.inl ⟨i, by assumption, e⟩
    · exact Or.inr ⟨i - N, by omega, e.symm⟩
  have atN : ∀ a ∈ zD (zx z N s) (N + n), bw_at X τ a (Sx S σ.1 a) := by
    intro a ha
    rcases cl a ha with ⟨i, hi, rfl⟩ | ⟨k, hk, rfl⟩
    · obtain ⟨x1, x2, x3, x4, x5, x6, x7⟩ := h1.1.1 _ (zD_m hi)
      unfold Sx
      rw [if_pos x6]
      exact ⟨(hf _ x6).trans x1, (hf _ x7).trans x2, x3, x4, x5, by omega, by omega⟩
    · unfold Sx
      rw [if_neg (by omega)]
      exact ⟨(hb k hk).1, (hb k hk).2, Nat.zero_le _, Nat.le_refl _, by show 8 ≤ 512; decide, by omega, by show s + 2 * k + 1 < _; omega⟩
  refine ⟨hI, fun a => if a < σ.1 then V a else 0, ⟨⟨atN, fun a ha b hb' e => ?_⟩, fun a ha => ?_⟩, fun i hi => ?_⟩
  · rcases cl a ha with ⟨i, hi, rfl⟩ | ⟨k, hk, rfl⟩ <;> rcases cl b hb' with ⟨j, hj, rfl⟩ | ⟨m, hm, rfl⟩
    · unfold Sx at e
      rw [if_pos (hl i hi), if_pos (hl j hj)] at e
      exact h1.1.2 _ (zD_m hi) _ (zD_m hj) e
    · unfold Sx at e
      rw [if_pos (hl i hi), if_neg (by omega)] at e
      have := (h1.1.1 _ (zD_m hi)).2.2.2.2.2.2
      have e : (S (z i)).1 = s + 2 * m + 1 := e
      omega
    · unfold Sx at e
      rw [if_neg (by omega), if_pos (hl j hj)] at e
      have := (h1.1.1 _ (zD_m hj)).2.2.2.2.2.2
      have e : s + 2 * k + 1 = (S (z j)).1 := e
      omega
    · unfold Sx at e
      rw [if_neg (by omega), if_neg (by omega)] at e
      have e : s + 2 * k + 1 = s + 2 * m + 1 := e
      omega
  · rcases cl a ha with ⟨i, hi, rfl⟩ | ⟨k, hk, rfl⟩
    · show isV (if z i < σ.1 then S (z i) else _) (if z i < σ.1 then V (z i) else 0)
      rw [if_pos (hl i hi), if_pos (hl i hi)]
      exact h1.2 _ (zD_m hi)
    · show isV (if s + 2 * k < σ.1 then S (s + 2 * k) else _) (if s + 2 * k < σ.1 then V (s + 2 * k) else 0)
      rw [if_neg (by omega), if_neg (by omega)]
      exact ⟨rfl, rfl, fun i hi => absurd hi (Nat.not_lt_zero _), Or.inl rfl⟩
  · show (if zx z N s i < σ.1 then V (zx z N s i) else 0) = Ux U N i
    unfold zx Ux
    by_cases e : i < N
    · rw [if_pos e, if_pos e, if_pos (hl i e)]; exact h2 i e
    · rw [if_neg e, if_neg e, if_neg (by omega)]
theorem tot_more {m : Nat} (hz : ∀ i, i < N → z i < m) (hs : m ≤ s) : ∀ n, bw_tot (zD (zx z N s) (N + n)) (Sx S m) = bw_tot (zD z N) S + 8 * n := by
  intro n
  induction n with
  | zero =>
    show ((((List.range N).map (zx z N s))).map _).sum = ((((List.range N).map z)).map _).sum
    rw [List.map_map, List.map_map]
    congr 1
    refine List.map_congr_left (fun i hi => ?_)
    have hi := List.mem_range.mp hi
    show (Sx S m (zx z N s i)).2.1 = (S (z i)).2.1
    unfold zx Sx
    rw [if_pos hi, if_pos (hz i hi)]
  | succ n ih =>
    have e : bw_tot (zD (zx z N s) (N + (n + 1))) (Sx S m) = bw_tot (zD (zx z N s) (N + n)) (Sx S m) + 8 := by
      show ((((List.range (N + n + 1)).map (zx z N s))).map _).sum = ((((List.range (N + n)).map (zx z N s))).map _).sum + 8
      rw [List.range_succ, List.map_append, List.map_append, List.sum_append]
      congr 1
      show (Sx S m (zx z N s (N + n))).2.1 + 0 = 8
      unfold zx Sx
      rw [if_neg (show ¬ N + n < N by omega), if_neg (by omega)]
    rw [e, ih]; omega
end mak0
section mak1
variable {kd fs sn kd2 fs2 sn2 : Nat → Nat} {A B A2 B2 : Nat → Int} {p : Nat}
theorem encs_cg : ∀ n, (∀ i, i < n → kd2 i = kd i ∧ fs2 i = fs i ∧ sn2 i = sn i ∧ A2 i = A i ∧ B2 i = B i) → ∀ j, encs kd2 fs2 sn2 A2 B2 p n j = encs kd fs sn A B p n j := by
  intro n
  induction n with
  | zero => intro _ j; rfl
  | succ n ih =>
    intro h j
    have e : encs kd2 fs2 sn2 A2 B2 p n = encs kd fs sn A B p n := funext (ih (fun i hi => h i (by omega)))
    obtain ⟨h1, h2, h3, h4, h5⟩ := h n (by omega)
    show (if j = n then lim (raw kd2 fs2 sn2 A2 B2 p (encs kd2 fs2 sn2 A2 B2 p n) n) else encs kd2 fs2 sn2 A2 B2 p n j) = (if j = n then lim (raw kd fs sn A B p (encs kd fs sn A B p n) n) else encs kd fs sn A B p n j)
    rw [e]
    have er : raw kd2 fs2 sn2 A2 B2 p (encs kd fs sn A B p n) n = raw kd fs sn A B p (encs kd fs sn A B p n) n := by
      unfold raw
      rw [h1, h2, h3, h4, h5]
    rw [er]
theorem cOk.cg {at' op fa at2 op2 fa2 : Nat → Nat} {U U' : Nat → Int} {j : Nat} (h : cOk kd fs sn at' op fa A B U j) (hc : ∀ i, i ≤ j → kd2 i = kd i ∧ fs2 i = fs i ∧ sn2 i = sn i ∧ A2 i = A i ∧ B2 i = B i) (h1 : at2 j = at' j) (h2 : op2 j = op j) (h3 : fa2 j = fa j) (h4 : U' (28 + 3 * j) = U (28 + 3 * j)) (h5 : U' (28 + 3 * j + 1) = U (28 + 3 * j + 1)) (h6 : U' (28 + 3 * j + 2) = U (28 + 3 * j + 2)) : cOk kd2 fs2 sn2 at2 op2 fa2 A2 B2 U' j := by
  obtain ⟨g1, g2, g3, g4, g5⟩ := hc j (Nat.le_refl _)
  unfold cOk
  rw [h1, h2, h3, h4, h5, h6, g1, g4, g5]
  have e : ∀ p, enc kd2 fs2 sn2 A2 B2 p j = enc kd fs sn A B p j := fun p => encs_cg (j + 1) (fun i hi => hc i (by omega)) j
  rw [e]
  exact h
theorem vOk.cg {j : Nat} (h : vOk kd fs sn A B j) (hc : kd2 j = kd j ∧ fs2 j = fs j ∧ sn2 j = sn j ∧ A2 j = A j ∧ B2 j = B j) : vOk kd2 fs2 sn2 A2 B2 j := by
  obtain ⟨g1, g2, g3, g4, g5⟩ := hc
  unfold vOk
  rw [g1, g2, g3, g4, g5]
  exact h
variable {X : en_X} {σ τ : en_S} {z va : Nat → Nat} {sl mk i : Nat} {at' op fa at2 op2 fa2 : Nat → Nat}
theorem vW.set2 (h : vW X σ z sl va mk kd fs sn at' op fa A B) (hi : i < mk) (hn : look τ (va i) = some (vEi z kd2 fs2 sn2 at2 op2 fa2 A2 B2 i)) (hf : ∀ q, q ≠ va i → look τ q = look σ q) (e1 : τ.1 = σ.1) (hc : ∀ j, j ≠ i → kd2 j = kd j ∧ fs2 j = fs j ∧ sn2 j = sn j ∧ A2 j = A j ∧ B2 j = B j) (hj : ∀ j, j ≠ i → at2 j = at' j ∧ op2 j = op j ∧ fa2 j = fa j) (hb : kd2 i ≤ 9 ∧ fs2 i < 100 ∧ sn2 i < 100 ∧ at2 i ≤ 480 ∧ op2 i < 2 ∧ fa2 i ≤ 480) : vW X τ z sl va mk kd2 fs2 sn2 at2 op2 fa2 A2 B2 := by
  obtain ⟨⟨g, h1, h2⟩, h3, h4, h5, h6, h7⟩ := h
  have hsl : sl ≠ va i := fun e => by rw [e, (h4 i hi).1] at h1; cases h1
  refine ⟨⟨g, (hf sl hsl).trans h1, h2⟩, by omega, fun j hjm => ⟨?_, by rw [e1]; exact (h4 j hjm).2⟩, h5, h6, fun j hjm => ?_⟩
  · by_cases e : j = i
    · subst e; exact hn
    · rw [hf _ (fun q => e (h5 j i hjm hi q)), (h4 j hjm).1]
      obtain ⟨q1, q2, q3⟩ := hj j e
      obtain ⟨r1, r2, r3, r4, r5⟩ := hc j e
      show some (vEi _ _ _ _ _ _ _ _ _ j) = some (vEi _ _ _ _ _ _ _ _ _ j)
      unfold vEi
      rw [q1, q2, q3, r1, r2, r3, r4, r5]
  · obtain ⟨g1, g2, g3, g4, g5, g6⟩ := h7 j hjm
    by_cases e : j = i
    · subst e; exact hb
    · obtain ⟨q1, q2, q3⟩ := hj j e
      obtain ⟨r1, r2, r3, r4, r5⟩ := hc j e
      exact ⟨by omega, by omega, by omega, by omega, by omega, by omega⟩
end mak1
