/-! EnclosedDigits: make, walked -/
section mak2
variable {X : en_X} {σ τ : en_S} {ms me : Nat} {K : Nat → Nat} {cnt : Nat} {kd fs sn : Nat → Nat} {A B : Nat → Int} {tl qc : Nat} {qs : Nat → Int} {sa P0 P1 : Nat} {z va : Nat → Nat} {mk : Nat} {S T : Nat → en_B} {U U' : Nat → Int} {at' op fa : Nat → Nat} {o1 u1 r1 o2 u2 r2 : Nat} {g : Nat → Int64}
theorem zW.extA {N a : Nat} {en : va_E} (h : zW X z N σ S U) (hf : ∀ q, q ≠ a → look τ q = look σ q) (hl : look σ a = some en) (h1 : ∀ l, en ≠ .inr (1, l)) (h2 : ∀ n d, en ≠ ar X n d) (e1 : τ.1 = σ.1) : zW X z N τ S U := by
  obtain ⟨h0, V, g1, g2⟩ := h
  obtain ⟨y1, y2⟩ := bw_no g1.1 hl h1 h2
  exact ⟨h0, V, ⟨g1.1.ext hf y1 y2 e1, g1.2⟩, g2⟩
/-- one more VALUE's room is made, behind those that are used -/
theorem cWi.grow {v : Nat} {g2 : Nat → Option Nat} (h : cWi X σ ms me K cnt kd fs sn A B tl qc qs sa P0 P1 z va mk S U at' op fa o1 u1 r1 o2 u2 r2 g) (hc : cnt = mk) (hm : mk < 60) (hve : v = σ.1) (hz : zW X (zx z (28 + 3 * mk) (v + 1)) (28 + 3 * mk + 3) τ (Sx S v) (Ux U (28 + 3 * mk))) (hv : look τ v = some (vE 0 0 0 0 0 0 0 (v + 1) (v + 1 + 2) 0 (v + 1 + 4))) (hsl : look τ (K 1) = some (sA X 60 g2)) (hg2 : ∀ i, i < 60 → g2 i = if i < mk + 1 then some (un va mk v i) else none) (hf : ∀ q, q < σ.1 → q ≠ K 1 → look τ q = look σ q) (e1 : τ.1 = σ.1 + 7) (e2 : τ.2.1 = σ.2.1 + 44) :
    cWi X τ ms me K cnt (un kd mk 0) (un fs mk 0) (un sn mk 0) (unI A mk 0) (unI B mk 0) tl qc qs sa P0 P1 (zx z (28 + 3 * mk) (v + 1)) (un va mk v) (mk + 1) (Sx S v) (Ux U (28 + 3 * mk)) (un at' mk 0) (un op mk 0) (un fa mk 0) o1 u1 r1 o2 u2 r2 g := by
  obtain ⟨⟨a1, a2⟩, ⟨w1, w2, w3, w4, w5⟩, ⟨f1, f2, f3⟩, ⟨q1, q2, q3, q4, q5⟩, ⟨c1, c2, c3, c4, c5, c6, c7, c8⟩, ⟨k1, k2, k3, k4, k5⟩, p1, p2⟩ := h
  have eN : 28 + 3 * (mk + 1) = 28 + 3 * mk + 3 := by omega
  have zlo : ∀ i, i < 28 + 3 * mk → zx z (28 + 3 * mk) (v + 1) i = z i := fun i hi => if_pos hi
  have ulo : ∀ i, i < 28 + 3 * mk → Ux U (28 + 3 * mk) i = U i := fun i hi => if_pos hi
  have zlt : ∀ i, i < 28 + 3 * mk → z i < σ.1 := fun i hi => w1.lt hi
  obtain ⟨⟨gg, y1, y2⟩, y3, y4, y5, y6, y7⟩ := id w4
  have nn : ∀ {q ci : Nat} {l : List Value}, look σ q = some (.inr (ci, l)) → q ≠ K 1 := fun {q ci l} hl e => by rw [e, y1] at hl; cases hl
  have nl : ∀ {q : Nat} {g : Nat → Int64}, look σ q = some (lA X 40 g) → q ≠ K 1 := fun {q g} hl e => by
    rw [e, y1] at hl
    have := congrArg (fun (w : va_E) => match w with | Sum.inl q => (match q.2.2 with | Sum.inr (Sum.inl _) => true | _ => false) | _ => true) (Option.some.inj hl)
    cases this
  have fx : ∀ {fr b o u r : Nat}, fO σ z fr b o u r → b + 4 ≤ 28 → fO τ (zx z (28 + 3 * mk) (v + 1)) fr b o u r := by
    intro fr b o u r h hb
    obtain ⟨x1, x2, x3, x4, x5, x6, x7, x8⟩ := h
    refine ⟨?_, by omega, x3, x4, x5, x6, x7, x8⟩
    rw [hf _ x2 (nn x1), x1, zlo o (by omega), zlo u (by omega), zlo r (by omega), zlo b (by omega)]
  have tot : bw_tot (zD (zx z (28 + 3 * mk) (v + 1)) (28 + 3 * mk + 3)) (Sx S v) = bw_tot (zD z (28 + 3 * mk)) S + 8 * 3 := tot_more (fun i hi => by rw [hve]; exact zlt i hi) (by omega) 3
  refine ⟨⟨?_, by omega⟩, ⟨by rw [eN]; exact hz, ⟨?_, by have := w2.2.1; omega, ?_, by have := w2.2.2.2; omega⟩, ⟨?_, by have := w3.2; omega⟩, ⟨⟨g2, hsl, hg2⟩, by omega, fun i hi => ?_, fun i j hi hj e => ?_, by omega, fun i hi => ?_⟩, fun j hj => ?_⟩, ⟨fx f1 (by decide), fx f2 (by decide), f3⟩, ⟨(hf _ q2 (nl q1)).trans q1, by omega, (hf _ q4 (nl q3)).trans q3, by omega, q5⟩, ⟨by omega, fun j hj => ?_, c3, c4, c5, ?_, ?_, ?_⟩, ⟨k1, fun i hi => ?_, fun i hi => ?_, by omega, k5⟩, ?_, ?_⟩
  · rw [hf _ a2 (nn a1), a1, zlo 15 (by omega), zlo 16 (by omega), zlo 17 (by omega), zlo 18 (by omega), zlo 19 (by omega)]
  · rw [hf _ w2.2.1 (nn w2.1), w2.1, zlo 0 (by omega), zlo 1 (by omega), zlo 2 (by omega), zlo 3 (by omega), zlo 4 (by omega)]
  · rw [hf _ w2.2.2.2 (nn w2.2.2.1), w2.2.2.1, zlo 5 (by omega), zlo 6 (by omega), zlo 7 (by omega), zlo 8 (by omega), zlo 9 (by omega)]
  · rw [hf _ w3.2 (nn w3.1), w3.1, zlo 10 (by omega), zlo 11 (by omega), zlo 12 (by omega), zlo 13 (by omega), zlo 14 (by omega)]
  · by_cases e : i = mk
    · subst e
      refine ⟨?_, by rw [un_s]; omega⟩
      rw [un_s, hv]
      show _ = some (vEi _ _ _ _ _ _ _ _ _ i)
      unfold vEi
      rw [un_s, un_s, un_s, un_s, un_s, un_s, unI_s, unI_s]
      unfold zx
      rw [if_neg (by omega), if_neg (by omega), if_neg (by omega)]
      rw [show v + 1 + 2 * (28 + 3 * i - (28 + 3 * i)) = v + 1 by omega, show v + 1 + 2 * (28 + 3 * i + 1 - (28 + 3 * i)) = v + 1 + 2 by omega, show v + 1 + 2 * (28 + 3 * i + 2 - (28 + 3 * i)) = v + 1 + 4 by omega]
      rfl
    · have hi' : i < mk := by omega
      rw [un_n e]
      refine ⟨?_, by have := (y4 i hi').2; omega⟩
      rw [hf _ (y4 i hi').2 (nn (y4 i hi').1), (y4 i hi').1]
      show some (vEi _ _ _ _ _ _ _ _ _ i) = some (vEi _ _ _ _ _ _ _ _ _ i)
      unfold vEi
      rw [un_n e, un_n e, un_n e, un_n e, un_n e, un_n e, unI_n e, unI_n e, zlo _ (by omega), zlo _ (by omega), zlo _ (by omega)]
  · by_cases ei : i = mk
    · by_cases ej : j = mk
      · omega
      · rw [ei, un_s, un_n ej] at e
        have := (y4 j (by omega)).2
        omega
    · by_cases ej : j = mk
      · rw [ej, un_s, un_n ei] at e
        have := (y4 i (by omega)).2
        omega
      · rw [un_n ei, un_n ej] at e
        exact y5 i j (by omega) (by omega) e
  · by_cases e : i = mk
    · subst e; rw [un_s, un_s, un_s, un_s, un_s, un_s]; decide
    · rw [un_n e, un_n e, un_n e, un_n e, un_n e, un_n e]; exact y7 i (by omega)
  · exact (w5 j hj).cg (fun i hi => ⟨un_n (by omega), un_n (by omega), un_n (by omega), unI_n (by omega), unI_n (by omega)⟩) (un_n (by omega)) (un_n (by omega)) (un_n (by omega)) (ulo _ (by omega)) (ulo _ (by omega)) (ulo _ (by omega))
  · exact (c2 j hj).cg ⟨un_n (by omega), un_n (by omega), un_n (by omega), unI_n (by omega), unI_n (by omega)⟩
  · rw [ulo 17 (by omega)]; exact c6
  · rw [ulo 18 (by omega)]; exact c7
  · rw [ulo 19 (by omega)]; exact c8
  · by_cases e : i < 28 + 3 * mk
    · rw [zlo i e]
      have : Sx S v (z i) = S (z i) := if_pos (by rw [hve]; exact zlt i e)
      rw [this]
      exact k2 i e
    · have ez : zx z (28 + 3 * mk) (v + 1) i = v + 1 + 2 * (i - (28 + 3 * mk)) := if_neg e
      rw [ez]
      have es : (Sx S v (v + 1 + 2 * (i - (28 + 3 * mk)))).1 = v + 1 + 2 * (i - (28 + 3 * mk)) + 1 := by
        unfold Sx
        rw [if_neg (by omega)]
      rw [es]
      exact ⟨Or.inr (by omega), Or.inr (by omega)⟩
  · by_cases e : i = mk
    · rw [e, un_s]; exact Or.inr (by omega)
    · rw [un_n e]; exact k3 i (by omega)
  · rw [eN, tot]; omega
  · rw [eN, tot]; omega
end mak2
