/-! EnclosedDigits: quotients -/
def cfG : Nat → Int → Int → Int → Int → Option (List Int)
  | 0, _, _, _, _ => some []
  | k + 1, a, b, c, d => if b = 0 ∨ d = 0 then none else if a / b = c / d then (cfG k b (a % b) d (c % d)).map (fun l => clp (a / b) :: l) else none
noncomputable def qtF (kd fs sn : Nat → Nat) (A B : Nat → Int) (v k : Nat) : Nat → Nat → Option (Nat × List Int)
  | 0, _ => none
  | t + 1, p => if 480 < p then none else match enc kd fs sn A B p v with
    | none => qtF kd fs sn A B v k t (p * 2)
    | some q => match cfG k q.1 (10 ^ p) q.2 (10 ^ p) with
      | none => qtF kd fs sn A B v k t (p * 2)
      | some l => some (p, l)
noncomputable def qts (kd fs sn : Nat → Nat) (A B : Nat → Int) (v k : Nat) : Option (Nat × List Int) := qtF kd fs sn A B v k 10 (2 * k + 10)
section quot0
variable {X : en_X} {σ τ : en_S} {ms me : Nat} {K : Nat → Nat} {cnt : Nat} {kd fs sn : Nat → Nat} {A B : Nat → Int} {tl qc : Nat} {qs : Nat → Int} {sa P0 P1 : Nat} {z va : Nat → Nat} {mk : Nat} {S T : Nat → en_B} {U U' : Nat → Int} {at' op fa : Nat → Nat} {o1 u1 r1 o2 u2 r2 : Nat} {g : Nat → Int64}
theorem lA_sA {n m : Nat} {g : Nat → Int64} {d : Nat → Option Nat} (e : sA X m d = lA X n g) : False := by
  have := congrArg (fun (w : va_E) => match w with | Sum.inl q => (match q.2.2 with | Sum.inr (Sum.inl _) => true | _ => false) | _ => true) e
  cases this
theorem eI.extA {e bn se sl N a n : Nat} {g : Nat → Int64} (h : eI X z N e bn se sl va mk cnt kd fs sn A B σ S U at' op fa) (hf : ∀ q, q ≠ a → look τ q = look σ q) (ha : look σ a = some (lA X n g)) (e1 : τ.1 = σ.1) : eI X z N e bn se sl va mk cnt kd fs sn A B τ S U at' op fa := by
  obtain ⟨w1, w2, w3, w4, w5⟩ := h
  have nn : ∀ {q ci : Nat} {l : List Value}, look σ q = some (.inr (ci, l)) → q ≠ a := fun {q ci l} hl e => by rw [e, ha] at hl; cases hl
  refine ⟨w1.extA hf ha (fun l e => by cases e) (fun n d e => lA_ar e) e1, ⟨(hf _ (nn w2.1)).trans w2.1, by have := w2.2.1; omega, (hf _ (nn w2.2.2.1)).trans w2.2.2.1, by have := w2.2.2.2; omega⟩, ⟨(hf _ (nn w3.1)).trans w3.1, by have := w3.2; omega⟩, ?_, w5⟩
  obtain ⟨⟨g, h1, h2⟩, h3', h4, h5⟩ := w4
  refine ⟨⟨g, (hf _ (fun q => ?_)).trans h1, h2⟩, by omega, fun i hi => ⟨(hf _ (nn (h4 i hi).1)).trans (h4 i hi).1, by have := (h4 i hi).2; omega⟩, h5⟩
  rw [q, ha] at h1
  exact lA_sA (Option.some.inj h1).symm
/-- a row of quotients changes -/
theorem cWi.row {a : Nat} {qs2 : Nat → Int} {g2 : Nat → Int64} {n : Nat} {gx : Nat → Int64} (h : cWi X σ ms me K cnt kd fs sn A B tl qc qs sa P0 P1 z va mk S U at' op fa o1 u1 r1 o2 u2 r2 g) (ha : look σ a = some (lA X n gx)) (h7 : look τ (K 7) = some (lA X 40 (fun i => lZ (qs2 i)))) (h8 : look τ (K 8) = some (lA X 40 g2)) (hf : ∀ q, q ≠ a → look τ q = look σ q) (e1 : τ.1 = σ.1) (e2 : τ.2.1 = σ.2.1) : cWi X τ ms me K cnt kd fs sn A B tl qc qs2 sa P0 P1 z va mk S U at' op fa o1 u1 r1 o2 u2 r2 g2 := by
  obtain ⟨⟨a1, a2⟩, hi, ⟨f1, f2, f3⟩, ⟨q1, q2, q3, q4, q5⟩, ⟨c1, c2, c3, c4, c5, c6, c7, c8⟩, ⟨k1, k2, k3, k4, k5⟩, p1, p2⟩ := h
  have nn : ∀ {q ci : Nat} {l : List Value}, look σ q = some (.inr (ci, l)) → q ≠ a := fun {q ci l} hl e => by rw [e, ha] at hl; cases hl
  exact ⟨⟨(hf _ (nn a1)).trans a1, by omega⟩, hi.extA hf ha e1, ⟨⟨(hf _ (nn f1.1)).trans f1.1, by have := f1.2.1; omega, f1.2.2⟩, ⟨(hf _ (nn f2.1)).trans f2.1, by have := f2.2.1; omega, f2.2.2⟩, f3⟩, ⟨h7, by omega, h8, by omega, q5⟩, ⟨c1, c2, c3, c4, c5, c6, c7, c8⟩, ⟨k1, k2, k3, by omega, k5⟩, by omega, by omega⟩
/-- the fractions have moved -/
theorem cWi.frc {E : Nat → Prop} {p1 v1 s1 p2 v2 s2 : Nat} (h : cWi X σ ms me K cnt kd fs sn A B tl qc qs sa P0 P1 z va mk S U at' op fa o1 u1 r1 o2 u2 r2 g) (hz : zW X z (28 + 3 * mk) τ T U') (s : bw_Sx E (zD z (28 + 3 * mk)) σ S τ T) (hE : ∀ q, E q → ∃ l, look σ q = some (.inr (3, l))) (hU : ∀ j, 28 ≤ j → U' j = U j) (hU2 : ∀ j, 17 ≤ j → j < 20 → U' j = U j) (hf1 : fO τ z (K 5) 20 p1 v1 s1) (hf2 : fO τ z (K 6) 24 p2 v2 s2) : cWi X τ ms me K cnt kd fs sn A B tl qc qs sa P0 P1 z va mk T U' at' op fa p1 v1 s1 p2 v2 s2 g := by
  obtain ⟨⟨a1, a2⟩, ⟨w1, w2, w3, w4, w5⟩, ⟨f1, f2, f3⟩, ⟨q1, q2, q3, q4, q5⟩, ⟨c1, c2, c3, c4, c5, c6, c7, c8⟩, ⟨k1, k2, k3, k4, k5⟩, x1, x2⟩ := h
  have w := w1.R
  have no : ∀ {q ci : Nat} {l : List Value}, look σ q = some (.inr (ci, l)) → ci ≠ 3 → ¬ E q := fun {q ci l} hl hc e => by obtain ⟨m, hm⟩ := hE q e; rw [hl] at hm; cases hm; exact hc rfl
  have na : ∀ {q : Nat} {y : ClassId × vp_A}, look σ q = some (.inl y) → ¬ E q := fun {q y} hl e => by obtain ⟨m, hm⟩ := hE q e; rw [hl] at hm; cases hm
  obtain ⟨⟨gg, y1, y2⟩, y3, y4, y5, y6, y7⟩ := w4
  refine ⟨⟨bw_othx s w a2 (no a1 (by decide)) a1 (fun l e => by cases e) (fun n d e => by cases e), Nat.lt_of_lt_of_le a2 s.1⟩, ⟨hz, w2.x s w (no w2.1 (by decide)) (no w2.2.2.1 (by decide)), w3.x s w (no w3.1 (by decide)), ⟨⟨gg, bw_othx s w y3 (na y1) y1 (fun l e => by cases e) (fun n d e => sA_ar e), y2⟩, Nat.lt_of_lt_of_le y3 s.1, fun i hi => ⟨bw_othx s w (y4 i hi).2 (no (y4 i hi).1 (by decide)) (y4 i hi).1 (fun l e => by cases e) (fun n d e => by cases e), Nat.lt_of_lt_of_le (y4 i hi).2 s.1⟩, y5, y6, y7⟩, fun j hj => (w5 j hj).keep rfl rfl rfl (hU _ (by omega)) (hU _ (by omega)) (hU _ (by omega))⟩, ⟨hf1, hf2, f3⟩, ⟨bw_othx s w q2 (na q1) q1 (fun l e => by cases e) (fun n d e => lA_ar e), Nat.lt_of_lt_of_le q2 s.1, bw_othx s w q4 (na q3) q3 (fun l e => by cases e) (fun n d e => lA_ar e), Nat.lt_of_lt_of_le q4 s.1, q5⟩, ⟨c1, c2, c3, c4, c5, by rw [hU2 17 (by decide) (by decide)]; exact c6, by rw [hU2 18 (by decide) (by decide)]; exact c7, by rw [hU2 19 (by decide) (by decide)]; exact c8⟩, ⟨k1, fun i hi => ⟨(k2 i hi).1, ?_⟩, k3, Nat.le_trans k4 s.1, k5⟩, ?_, ?_⟩
  · rcases s.2.2.1 (z i) (zD_m hi) with e | e
    · rw [e]; exact (k2 i hi).2
    · right; omega
  · have := s.2.2.2.1; omega
  · have := s.2.2.2.2; omega
theorem Z_clamp {N j : Nat} (h : zW X z N σ S U) (hj : j < N) : Calls X M_X1_clamped [.ref (z j)] σ (fun res τ => res = some (.long (lZ (clp (U j)))) ∧ τ = σ) := by
  obtain ⟨h0, V, h1, h2⟩ := h
  have := V_clamp h1 (zD_m hj)
  rw [h2 j hj] at this
  exact this
/-- how the comparison of two fractions ends -/
def qtE (X : en_X) (σ0 : en_S) (ms me : Nat) (K : Nat → Nat) (cnt : Nat) (kd fs sn : Nat → Nat) (A B : Nat → Int) (tl qc : Nat) (qs : Nat → Int) (sa P0 P1 : Nat) (z va : Nat → Nat) (mk : Nat) (U0 : Nat → Int) (at' op fa : Nat → Nat) (r : Option (List Int)) (res : Option Value) (τ : en_S) : Prop :=
  ∃ S' U' o1 u1 r1 o2 u2 r2 g', cWi X τ ms me K cnt kd fs sn A B tl qc qs sa P0 P1 z va mk S' U' at' op fa o1 u1 r1 o2 u2 r2 g' ∧ (∀ j, 15 ≤ j → j < 20 → U' j = U0 j) ∧ Frm ms me σ0 τ ∧ ((r = none ∧ res = some (.int (nI 0))) ∨ (∃ l, r = some l ∧ res = some (.int (nI 1)) ∧ ∀ j y, l[j]? = some y → g' j = lZ y))
end quot0
