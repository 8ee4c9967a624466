/-! EnclosedDigits: how its world moves; the short methods -/
section main1
variable {X : en_X} {σ τ : en_S} {ms me : Nat} {K : Nat → Nat} {cnt : Nat} {kd fs sn : Nat → Nat} {A B : Nat → Int} {tl qc : Nat} {qs : Nat → Int} {sa P0 P1 : Nat} {z va : Nat → Nat} {mk : Nat} {S T : Nat → en_B} {U U' : Nat → Int} {at' op fa : Nat → Nat} {o1 u1 r1 o2 u2 r2 : Nat} {g : Nat → Int64}
/-- what stays as it was, between the cells of the reference -/
abbrev Frm (ms me : Nat) (σ τ : en_S) : Prop := ∀ q, ms ≤ q → q < me → look τ q = look σ q
theorem cWi.frm {E : Nat → Prop} (h : cWi X σ ms me K cnt kd fs sn A B tl qc qs sa P0 P1 z va mk S U at' op fa o1 u1 r1 o2 u2 r2 g) (s : bw_Sx E (zD z (28 + 3 * mk)) σ S τ T) (hE : ∀ q, E q → outR ms me q) : Frm ms me σ τ := by
  obtain ⟨-, -, -, -, -, ⟨-, h2, -, h4, -⟩, -⟩ := h
  intro q q1 q2
  refine s.2.1 q (by omega) (fun m => ?_) (fun d hd e => ?_) (fun w => ?_)
  · obtain ⟨i, hi, rfl⟩ := zD_e m
    have := (h2 i hi).1
    unfold outR at this; omega
  · obtain ⟨i, hi, rfl⟩ := zD_e hd
    have := (h2 i hi).2
    unfold outR at this; omega
  · have := hE q w
    unfold outR at this; omega
theorem cWi.va_out (h : cWi X σ ms me K cnt kd fs sn A B tl qc qs sa P0 P1 z va mk S U at' op fa o1 u1 r1 o2 u2 r2 g) : ∀ q, vX va mk q → outR ms me q := by
  obtain ⟨-, -, -, -, -, ⟨-, -, h3, -, -⟩, -⟩ := h
  rintro q ⟨i, hi, rfl⟩
  exact h3 i hi
/-- after enclosures were found -/
theorem cWi.enc {at2 op2 fa2 : Nat → Nat} (h : cWi X σ ms me K cnt kd fs sn A B tl qc qs sa P0 P1 z va mk S U at' op fa o1 u1 r1 o2 u2 r2 g) (hI : eI X z (28 + 3 * mk) (K 2) (K 3) (K 4) (K 1) va mk cnt kd fs sn A B τ T U' at2 op2 fa2) (s : bw_Sx (vX va mk) (zD z (28 + 3 * mk)) σ S τ T) (hU : ∀ j, 15 ≤ j → j < 28 → U' j = U j) : cWi X τ ms me K cnt kd fs sn A B tl qc qs sa P0 P1 z va mk T U' at2 op2 fa2 o1 u1 r1 o2 u2 r2 g := by
  obtain ⟨⟨a1, a2⟩, hi, ⟨f1, f2, f3⟩, ⟨q1, q2, q3, q4, q5⟩, ⟨c1, c2, c3, c4, c5, c6, c7, c8⟩, ⟨k1, k2, k3, k4, k5⟩, p1, p2⟩ := h
  have w := hi.1.R
  have hV := hi.2.2.2.1
  refine ⟨⟨bw_othx s w a2 (vX_no hV a1 (by decide)) a1 (fun l e => by cases e) (fun n d e => by cases e), Nat.lt_of_lt_of_le a2 s.1⟩, hI, ⟨f1.x s w (vX_no hV f1.1 (by decide)), f2.x s w (vX_no hV f2.1 (by decide)), f3⟩, ⟨bw_othx s w q2 ?_ q1 (fun l e => by cases e) (fun n d e => lA_ar e), Nat.lt_of_lt_of_le q2 s.1, bw_othx s w q4 ?_ q3 (fun l e => by cases e) (fun n d e => lA_ar e), Nat.lt_of_lt_of_le q4 s.1, q5⟩, ⟨c1, c2, c3, c4, c5, by rw [hU 17 (by decide) (by decide)]; exact c6, by rw [hU 18 (by decide) (by decide)]; exact c7, by rw [hU 19 (by decide) (by decide)]; exact c8⟩, ⟨k1, fun i hi => ⟨(k2 i hi).1, ?_⟩, k3, Nat.le_trans k4 s.1, k5⟩, ?_, ?_⟩
  · rintro ⟨i, hi, e⟩; rw [e, hV.at hi] at q1; cases q1
  · rintro ⟨i, hi, e⟩; rw [e, hV.at hi] at q3; cases q3
  · rcases s.2.2.1 (z i) (zD_m hi) with e | e
    · rw [e]; exact (k2 i hi).2
    · right; omega
  · have := s.2.2.2.1; omega
  · have := s.2.2.2.2; omega
/-- after numbers of its own have changed -/
theorem cWi.num (h : cWi X σ ms me K cnt kd fs sn A B tl qc qs sa P0 P1 z va mk S U at' op fa o1 u1 r1 o2 u2 r2 g) (hz : zW X z (28 + 3 * mk) τ T U') (s : bw_St (zD z (28 + 3 * mk)) σ S τ T) (hU : ∀ j, 28 ≤ j → U' j = U j) (b1 : (U' 17).natAbs < BB ^ 200) (b2 : (U' 18).natAbs < BB ^ 200) (b3 : (U' 19).natAbs < BB ^ 200) : cWi X τ ms me K cnt kd fs sn A B tl qc qs sa P0 P1 z va mk T U' at' op fa o1 u1 r1 o2 u2 r2 g := by
  obtain ⟨⟨a1, a2⟩, hi, ⟨f1, f2, f3⟩, ⟨q1, q2, q3, q4, q5⟩, ⟨c1, c2, c3, c4, c5, c6, c7, c8⟩, ⟨k1, k2, k3, k4, k5⟩, p1, p2⟩ := h
  have w := hi.1.R
  refine ⟨⟨bw_obj s w a2 a1 (by decide), Nat.lt_of_lt_of_le a2 s.1⟩, hi.st hz s hU, ⟨f1.st s w, f2.st s w, f3⟩, ⟨bw_oth s w q2 q1 (fun l e => by cases e) (fun n d e => lA_ar e), Nat.lt_of_lt_of_le q2 s.1, bw_oth s w q4 q3 (fun l e => by cases e) (fun n d e => lA_ar e), Nat.lt_of_lt_of_le q4 s.1, q5⟩, ⟨c1, c2, c3, c4, c5, b1, b2, b3⟩, ⟨k1, fun i hi => ⟨(k2 i hi).1, ?_⟩, k3, Nat.le_trans k4 s.1, k5⟩, ?_, ?_⟩
  · rcases s.2.2.1 (z i) (zD_m hi) with e | e
    · rw [e]; exact (k2 i hi).2
    · right; omega
  · have := s.2.2.2.1; omega
  · have := s.2.2.2.2; omega
theorem eI.ext {e bn se sl N a ci : Nat} {l : List Value} (h : eI X z N e bn se sl va mk cnt kd fs sn A B σ S U at' op fa) (hf : ∀ q, q ≠ a → look τ q = look σ q) (ha : look σ a = some (.inr (ci, l))) (h3 : ci = 6 ∨ ci = 3) (e1 : τ.1 = σ.1) : eI X z N e bn se sl va mk cnt kd fs sn A B τ S U at' op fa := by
  obtain ⟨w1, w2, w3, w4, w5⟩ := h
  refine ⟨w1.ext hf ha (by omega) e1, w2.ext hf ha (by omega) (by omega) e1, ⟨(hf _ (fun q => ?_)).trans w3.1, by have := w3.2; omega⟩, ?_, w5⟩
  · have := w3.1; rw [q, ha] at this; cases this; omega
  · obtain ⟨⟨g, h1, h2⟩, h3', h4, h5⟩ := w4
    refine ⟨⟨g, (hf _ (fun q => ?_)).trans h1, h2⟩, by omega, fun i hi => ⟨(hf _ (fun q => ?_)).trans (h4 i hi).1, by have := (h4 i hi).2; omega⟩, h5⟩
    · rw [q, ha] at h1; cases h1
    · have := (h4 i hi).1; rw [q, ha] at this; cases this; omega
/-- after the object's own fields have changed -/
theorem cWi.obj {cnt2 tl2 qc2 sa2 : Nat} (h : cWi X σ ms me K cnt kd fs sn A B tl qc qs sa P0 P1 z va mk S U at' op fa o1 u1 r1 o2 u2 r2 g) (hn : look τ (K 0) = some (mE (K 1) cnt2 (K 2) (z 15) (z 16) (z 17) tl2 (z 18) (z 19) (K 5) (K 6) (K 7) (K 8) qc2 sa2)) (hf : ∀ q, q ≠ K 0 → look τ q = look σ q) (e1 : τ.1 = σ.1) (e2 : τ.2.1 = σ.2.1) (hc : cnt2 ≤ cnt) (ht : tl2 < 2 ^ 31) (hq : qc2 ≤ 40) (hs : sa2 ≤ 480) : cWi X τ ms me K cnt2 kd fs sn A B tl2 qc2 qs sa2 P0 P1 z va mk S U at' op fa o1 u1 r1 o2 u2 r2 g := by
  obtain ⟨⟨a1, a2⟩, hi, ⟨f1, f2, f3⟩, ⟨q1, q2, q3, q4, q5⟩, ⟨c1, c2, c3, c4, c5, c6, c7, c8⟩, ⟨k1, k2, k3, k4, k5⟩, p1, p2⟩ := h
  obtain ⟨w1, w2, w3, w4, w5⟩ := hi.ext hf a1 (Or.inl rfl) e1
  have nf : ∀ {q ci : Nat} {l : List Value}, look σ q = some (.inr (ci, l)) → ci ≠ 6 → q ≠ K 0 := fun {q ci l} hl hc e => by rw [e, a1] at hl; cases hl; exact hc rfl
  have nl : ∀ {q : Nat} {g : Nat → Int64}, look σ q = some (lA X 40 g) → q ≠ K 0 := fun {q g} hl e => by rw [e, a1] at hl; cases hl
  refine ⟨⟨hn, by omega⟩, ⟨w1, w2, w3, w4, fun j hj => w5 j (by omega)⟩, ⟨⟨(hf _ (nf f1.1 (by decide))).trans f1.1, by have := f1.2.1; omega, f1.2.2⟩, ⟨(hf _ (nf f2.1 (by decide))).trans f2.1, by have := f2.2.1; omega, f2.2.2⟩, f3⟩, ⟨(hf _ (nl q1)).trans q1, by omega, (hf _ (nl q3)).trans q3, by omega, q5⟩, ⟨by omega, fun j hj => c2 j (by omega), ht, hq, hs, c6, c7, c8⟩, ⟨k1, k2, k3, by omega, k5⟩, by omega, by omega⟩
theorem cWi.frmO (h : cWi X σ ms me K cnt kd fs sn A B tl qc qs sa P0 P1 z va mk S U at' op fa o1 u1 r1 o2 u2 r2 g) (hf : ∀ q, q ≠ K 0 → look τ q = look σ q) : Frm ms me σ τ := by
  obtain ⟨-, -, -, -, -, ⟨k1, -⟩, -⟩ := h
  intro q q1 q2
  refine hf q (fun e => ?_)
  have := k1 0 (by decide)
  unfold outR at this; omega
/-- the reference has moved: nothing of the class's has -/
theorem cW.ref {td lo hi : Int} (h : cW X σ ms me K cnt kd fs sn A B tl td lo hi qc qs sa P0 P1) (hf : ∀ q, (q < ms ∨ me ≤ q) → look τ q = look σ q) (e1 : τ.1 = σ.1) (e2 : τ.2.1 = σ.2.1) : cW X τ ms me K cnt kd fs sn A B tl td lo hi qc qs sa P0 P1 := by
  obtain ⟨z, va, mk, S, U, at', op, fa, o1, u1, r1, o2, u2, r2, g, h, hU⟩ := h
  refine ⟨z, va, mk, S, U, at', op, fa, o1, u1, r1, o2, u2, r2, g, ?_, hU⟩
  obtain ⟨⟨a1, a2⟩, ⟨w1, w2, w3, w4, w5⟩, ⟨f1, f2, f3⟩, ⟨q1, q2, q3, q4, q5⟩, hc, ⟨k1, k2, k3, k4, k5⟩, p1, p2⟩ := h
  have hk : ∀ i, i < 9 → look τ (K i) = look σ (K i) := fun i hi => hf _ (k1 i hi)
  refine ⟨⟨(hk 0 (by decide)).trans a1, by omega⟩, ⟨?_, ⟨(hk 2 (by decide)).trans w2.1, by have := w2.2.1; omega, (hk 3 (by decide)).trans w2.2.2.1, by have := w2.2.2.2; omega⟩, ⟨(hk 4 (by decide)).trans w3.1, by have := w3.2; omega⟩, ?_, w5⟩, ⟨⟨(hk 5 (by decide)).trans f1.1, by have := f1.2.1; omega, f1.2.2⟩, ⟨(hk 6 (by decide)).trans f2.1, by have := f2.2.1; omega, f2.2.2⟩, f3⟩, ⟨(hk 7 (by decide)).trans q1, by omega, (hk 8 (by decide)).trans q3, by omega, q5⟩, hc, ⟨k1, k2, k3, by omega, k5⟩, by omega, by omega⟩
  · obtain ⟨h0, V, ⟨g1, g2⟩, g3⟩ := w1
    refine ⟨h0, V, ⟨⟨fun d hd => ?_, g1.2⟩, g2⟩, g3⟩
    obtain ⟨i, hi, rfl⟩ := zD_e hd
    obtain ⟨x1, x2, x3, x4, x5, x6, x7⟩ := g1.1 _ hd
    exact ⟨(hf _ (k2 i hi).1).trans x1, (hf _ (k2 i hi).2).trans x2, x3, x4, x5, by omega, by omega⟩
  · obtain ⟨⟨g, h1, h2⟩, h3', h4, h5⟩ := w4
    exact ⟨⟨g, (hk 1 (by decide)).trans h1, h2⟩, by omega, fun i hi => ⟨(hf _ (k3 i hi)).trans (h4 i hi).1, by have := (h4 i hi).2; omega⟩, h5⟩
/-- the reference has been made behind it -/
theorem cW.base {td lo hi : Int} {Q0 Q1 : Nat} (h : cW X σ ms me K cnt kd fs sn A B tl td lo hi qc qs sa P0 P1) (hf : ∀ q, q < σ.1 → look τ q = look σ q) (e1 : σ.1 ≤ τ.1) (h0 : 8 * (τ.1 - σ.1) + P0 ≤ Q0) (h1 : τ.2.1 + P1 ≤ Q1 + σ.2.1) : cW X τ σ.1 τ.1 K cnt kd fs sn A B tl td lo hi qc qs sa Q0 Q1 := by
  obtain ⟨z, va, mk, S, U, at', op, fa, o1, u1, r1, o2, u2, r2, g, h, hU⟩ := h
  refine ⟨z, va, mk, S, U, at', op, fa, o1, u1, r1, o2, u2, r2, g, ?_, hU⟩
  obtain ⟨⟨a1, a2⟩, ⟨w1, w2, w3, w4, w5⟩, ⟨f1, f2, f3⟩, ⟨q1, q2, q3, q4, q5⟩, hc, ⟨k1, k2, k3, k4, k5⟩, p1, p2⟩ := h
  obtain ⟨h0', V, ⟨g1, g2⟩, g3⟩ := id w1
  obtain ⟨⟨gg, y1, y2⟩, y3, y4, y5⟩ := id w4
  refine ⟨⟨(hf _ a2).trans a1, by omega⟩, ⟨⟨h0', V, ⟨⟨fun d hd => ?_, g1.2⟩, g2⟩, g3⟩, ⟨(hf _ w2.2.1).trans w2.1, by have := w2.2.1; omega, (hf _ w2.2.2.2).trans w2.2.2.1, by have := w2.2.2.2; omega⟩, ⟨(hf _ w3.2).trans w3.1, by have := w3.2; omega⟩, ⟨⟨gg, (hf _ y3).trans y1, y2⟩, by omega, fun i hi => ⟨(hf _ (y4 i hi).2).trans (y4 i hi).1, by have := (y4 i hi).2; omega⟩, y5⟩, w5⟩, ⟨⟨(hf _ f1.2.1).trans f1.1, by have := f1.2.1; omega, f1.2.2⟩, ⟨(hf _ f2.2.1).trans f2.1, by have := f2.2.1; omega, f2.2.2⟩, f3⟩, ⟨(hf _ q2).trans q1, by omega, (hf _ q4).trans q3, by omega, q5⟩, hc, ⟨fun i hi => Or.inl ?_, fun i hi => ⟨Or.inl (w1.lt hi), Or.inl (w1.R.1 _ (zD_m hi)).2.2.2.2.2.2⟩, fun i hi => Or.inl (y4 i hi).2, Nat.le_refl _, e1⟩, by omega, by omega⟩
  · obtain ⟨x1, x2, x3, x4, x5, x6, x7⟩ := g1.1 _ hd
    exact ⟨(hf _ x6).trans x1, (hf _ x7).trans x2, x3, x4, x5, by omega, by omega⟩
  · have : i = 0 ∨ i = 1 ∨ i = 2 ∨ i = 3 ∨ i = 4 ∨ i = 5 ∨ i = 6 ∨ i = 7 ∨ i = 8 := by omega
    rcases this with q | q | q | q | q | q | q | q | q <;> subst q
    · exact a2
    · exact y3
    · exact w2.2.1
    · exact w2.2.2.2
    · exact w3.2
    · exact f1.2.1
    · exact f2.2.1
    · exact q2
    · exact q4
end main1
