/-! The reference: registers of 320 cells in one row of 44800; their sizes, their signs -/
def gA (X : en_X) (n : Nat) (G : Nat → Int32) : va_E := .inl (X.2.2.1.1, n, .inl G)
/-- its object: M k is where the k-th field's array stands; O the fields code, count, hasDigits, partCount, told -/
abbrev rE (M : Nat → Nat) (O : Int32 × Int32 × Int32 × Int32 × Int32) : va_E := .inr (7, [.int O.1, .ref (M 1), .ref (M 2), .ref (M 3), .ref (M 4), .ref (M 5), .ref (M 6), .ref (M 7), .ref (M 8), .int O.2.1, .int O.2.2.1, .ref (M 11), .int O.2.2.2.1, .int O.2.2.2.2, .ref (M 14)])
def reg (C : Nat → Nat) (r : Nat) : Nat → Nat := fun i => C (320 * r + i)
def upG (G : Nat → Int32) (r : Nat) (s : Int32) : Nat → Int32 := fun j => if j = r then s else G j
theorem upG_s {G : Nat → Int32} {r : Nat} {s : Int32} : upG G r s r = s := if_pos rfl
theorem upG_n {G : Nat → Int32} {r j : Nat} {s : Int32} (h : j ≠ r) : upG G r s j = G j := if_neg h
section ref0
variable {X : en_X} {y : en_M} {ρ σ τ υ : en_S} {pc nx : Nat} {lv : List (Nat × Value)} {st : List Value} {Q : Option Value → en_S → Prop}
theorem wn_gald {a j n : Nat} {G : Nat → Int32} (q : decode y.2.1 pc = .ok (.iaload, 1) ∧ pc + 1 = nx) (h : look σ a = some (gA X n G)) (hj : j < n ∧ n < 2 ^ 31) (k : WA X y ρ nx lv (.int (G j) :: st) σ Q) : WA X y ρ pc lv (.int (nI j) :: .ref a :: st) σ Q :=
  wa_iald q h (vp_in_nI hj.1 hj.2) (by rw [nI_clamp (by omega)]; exact k)
theorem wn_gast {a j n : Nat} {x : Int32} {G : Nat → Int32} (q : decode y.2.1 pc = .ok (.iastore, 1) ∧ pc + 1 = nx) (h : look σ a = some (gA X n G)) (hj : j < n ∧ n < 2 ^ 31)
    (kw : ∀ σ1 : en_S, look σ1 a = some (gA X n (upG G j x)) → (∀ b, b ≠ a → look σ1 b = look σ b) → σ1.1 = σ.1 → σ1.2.1 = σ.2.1 → WA X y ρ nx lv st σ1 Q) : WA X y ρ pc lv (.int x :: .int (nI j) :: .ref a :: st) σ Q := by
  refine wa_iast q h (vp_in_nI hj.1 hj.2) ?_
  rw [nI_clamp (by omega)]
  have e : upd G j x = upG G j x := rfl
  rw [e]
  exact kw _ (look_same h) (fun _ hb => look_ne hb) rfl rfl
variable {M : Nat → Nat} {O : Int32 × Int32 × Int32 × Int32 × Int32} {C C' Z Z' : Nat → Nat} {G G' : Nat → Int32} {V : Nat → Int}
/-- the raw world -/
def rR (X : en_X) (σ : en_S) (M : Nat → Nat) (O : Int32 × Int32 × Int32 × Int32 × Int32) (C Z : Nat → Nat) (G : Nat → Int32) : Prop :=
  look σ (M 0) = some (rE M O) ∧ look σ (M 1) = some (ar X 44800 C) ∧ look σ (M 2) = some (ar X 140 Z) ∧ look σ (M 3) = some (gA X 140 G) ∧ M 1 ≠ M 2 ∧ M 1 ≠ M 3 ∧ M 2 ≠ M 3
/-- nothing but cells, sizes, signs has changed -/
def mSt (M : Nat → Nat) (σ τ : en_S) : Prop := (∀ q, q ≠ M 1 → q ≠ M 2 → q ≠ M 3 → look τ q = look σ q) ∧ τ.1 = σ.1 ∧ τ.2.1 = σ.2.1
theorem mSt.rf : mSt M σ σ := ⟨fun _ _ _ _ => rfl, rfl, rfl⟩
theorem mSt.tr (h : mSt M σ τ) (g : mSt M τ υ) : mSt M σ υ := ⟨fun q a b c => (g.1 q a b c).trans (h.1 q a b c), g.2.1.trans h.2.1, g.2.2.trans h.2.2⟩
theorem ne_og {a r n : Nat} {G : Nat → Int32} {o : Nat × List Value} (h : look σ a = some (.inr o)) (g : look σ r = some (gA X n G)) : a ≠ r := by
  intro e
  rw [e, g] at h
  cases h
/-- a cell is written -/
theorem rR.cell {σ1 : en_S} {C1 : Nat → Nat} (h : rR X σ M O C Z G) (h1 : look σ1 (M 1) = some (ar X 44800 C1)) (hf : ∀ b, b ≠ M 1 → look σ1 b = look σ b) (e1 : σ1.1 = σ.1) (e2 : σ1.2.1 = σ.2.1) : rR X σ1 M O C1 Z G ∧ mSt M σ σ1 := by
  obtain ⟨a0, a1, a2, a3, n1, n2, n3⟩ := h
  exact ⟨⟨(hf _ (ne_oa a0 a1)).trans a0, h1, (hf _ n1.symm).trans a2, (hf _ n2.symm).trans a3, n1, n2, n3⟩, fun q q1 _ _ => hf q q1, e1, e2⟩
theorem rR.size {σ1 : en_S} {Z1 : Nat → Nat} (h : rR X σ M O C Z G) (h1 : look σ1 (M 2) = some (ar X 140 Z1)) (hf : ∀ b, b ≠ M 2 → look σ1 b = look σ b) (e1 : σ1.1 = σ.1) (e2 : σ1.2.1 = σ.2.1) : rR X σ1 M O C Z1 G ∧ mSt M σ σ1 := by
  obtain ⟨a0, a1, a2, a3, n1, n2, n3⟩ := h
  exact ⟨⟨(hf _ (ne_oa a0 a2)).trans a0, (hf _ n1).trans a1, h1, (hf _ n3.symm).trans a3, n1, n2, n3⟩, fun q _ q2 _ => hf q q2, e1, e2⟩
theorem rR.sign {σ1 : en_S} {G1 : Nat → Int32} (h : rR X σ M O C Z G) (h1 : look σ1 (M 3) = some (gA X 140 G1)) (hf : ∀ b, b ≠ M 3 → look σ1 b = look σ b) (e1 : σ1.1 = σ.1) (e2 : σ1.2.1 = σ.2.1) : rR X σ1 M O C Z G1 ∧ mSt M σ σ1 := by
  obtain ⟨a0, a1, a2, a3, n1, n2, n3⟩ := h
  exact ⟨⟨(hf _ (ne_og a0 a3)).trans a0, (hf _ n2).trans a1, (hf _ n3).trans a2, h1, n1, n2, n3⟩, fun q _ _ q3 => hf q q3, e1, e2⟩
def isR (C Z : Nat → Nat) (G : Nat → Int32) (r : Nat) (v : Int) : Prop := G r = sgI v ∧ vl (reg C r) (Z r) = v.natAbs ∧ nrm (reg C r) (Z r) ∧ Z r ≤ 319
/-- the world of registers: each is a number -/
def rV (X : en_X) (σ : en_S) (M : Nat → Nat) (O : Int32 × Int32 × Int32 × Int32 × Int32) (C Z : Nat → Nat) (G : Nat → Int32) (V : Nat → Int) : Prop := rR X σ M O C Z G ∧ ∀ r, r < 140 → isR C Z G r (V r)
/-- registers other than r are as they were -/
def rO (C Z : Nat → Nat) (G : Nat → Int32) (C' Z' : Nat → Nat) (G' : Nat → Int32) (r : Nat) : Prop := ∀ s, s < 140 → s ≠ r → Z' s = Z s ∧ G' s = G s ∧ ∀ j, j < 320 → reg C' s j = reg C s j
theorem rO.rf {r : Nat} : rO C Z G C Z G r := fun _ _ _ => ⟨rfl, rfl, fun _ _ => rfl⟩
theorem rO.tr {C1 Z1 : Nat → Nat} {G1 : Nat → Int32} {r : Nat} (h : rO C Z G C' Z' G' r) (g : rO C' Z' G' C1 Z1 G1 r) : rO C Z G C1 Z1 G1 r := fun s s1 s2 => ⟨(g s s1 s2).1.trans (h s s1 s2).1, (g s s1 s2).2.1.trans (h s s1 s2).2.1, fun j hj => ((g s s1 s2).2.2 j hj).trans ((h s s1 s2).2.2 j hj)⟩
theorem isR.cg {r : Nat} {v : Int} (h : isR C Z G r v) (h1 : Z' r = Z r) (h2 : G' r = G r) (h3 : ∀ j, j < 320 → reg C' r j = reg C r j) : isR C' Z' G' r v := by
  obtain ⟨a, b, c, d⟩ := h
  refine ⟨h2.trans a, ?_, ⟨fun i hi => ?_, ?_⟩, by omega⟩
  · rw [h1, vl_congr (fun j hj => h3 j (by omega))]; exact b
  · rw [h1] at hi; rw [h3 i (by omega)]; exact c.1 i hi
  · rcases c.2 with e | e
    · left; omega
    · right; rw [h1, h3 _ (by omega)]; exact e
theorem rV.up {r : Nat} {v : Int} (h : rV X σ M O C Z G V) (hR : rR X τ M O C' Z' G') (hO : rO C Z G C' Z' G' r) (hn : isR C' Z' G' r v) : rV X τ M O C' Z' G' (uV V r v) := by
  refine ⟨hR, fun s hs => ?_⟩
  by_cases e : s = r
  · subst e; rw [uV_s]; exact hn
  · rw [uV_n e]
    obtain ⟨q1, q2, q3⟩ := hO s hs e
    exact (h.2 s hs).cg q1 q2 q3
theorem reg_u {r i x : Nat} : reg (un C (320 * r + i) x) r = un (reg C r) i x := by
  funext j
  unfold reg un
  by_cases e : j = i
  · rw [if_pos (by omega), if_pos e]
  · rw [if_neg (by omega), if_neg e]
theorem reg_o {r s i x j : Nat} (h : s ≠ r) (hi : i < 320) (hj : j < 320) : reg (un C (320 * r + i) x) s j = reg C s j := by
  unfold reg un
  rw [if_neg]
  omega
theorem rO.cell {r i x : Nat} (hi : i < 320) : rO C Z G (un C (320 * r + i) x) Z G r := fun s _ s2 => ⟨rfl, rfl, fun j hj => reg_o s2 hi hj⟩
theorem rO.size {r x : Nat} : rO C Z G C (un Z r x) G r := fun s _ s2 => ⟨un_n s2, rfl, fun _ _ => rfl⟩
theorem rO.sign {r : Nat} {x : Int32} : rO C Z G C Z (upG G r x) r := fun s _ s2 => ⟨rfl, upG_n s2, fun _ _ => rfl⟩
end ref0
section ref1
variable {X : en_X} {σ : en_S} {M : Nat → Nat} {O : Int32 × Int32 × Int32 × Int32 × Int32} {C Z : Nat → Nat} {G : Nat → Int32} {V : Nat → Int}
theorem R_trim_loop {ρ : en_S} {r n : Nat} {Q : Option Value → en_S → Prop} (hr : r < 140) (h : rR X σ M O C Z G) (hn : n ≤ 320) (hd : ∀ i, i < n → reg C r i < 2 ^ 31)
    (k : WA X M_X7_trim ρ 29 [(3, .int (nI (tp (reg C r) n))), (0, .ref (M 0)), (1, .int (nI r))] [] σ Q) :
    ∀ t, t ≤ n → tp (reg C r) t = tp (reg C r) n → WA X M_X7_trim ρ 2 [(3, .int (nI t)), (0, .ref (M 0)), (1, .int (nI r))] [] σ Q := by
  obtain ⟨a0, a1, a2, a3, n1, n2, n3⟩ := h
  intro t
  induction t with
  | zero =>
    intro h1 h2
    refine wa_iload_n q_X7_trim_2 rfl ?_
    refine wn_if_le q_X7_trim_3 (by omega) (fun hc => ?_) (fun hc => ?_)
    · rw [← h2] at k; exact wa_lv k rfl
    · exact absurd hc (by omega)
  | succ t ih =>
    intro h1 h2
    refine wa_iload_n q_X7_trim_2 rfl ?_
    refine wn_if_le q_X7_trim_3 (by omega) (fun hc => ?_) (fun hc => ?_)
    · exact absurd hc (by omega)
    · have e0 : 320 * r + (t + 1) - 1 = 320 * r + t := by omega
      refine wa_aload_n q_X7_trim_6 rfl ?_
      refine wa_getf q_X7_trim_7 f_RX7_8 (by assumption) rfl ?_
      refine wa_sipush q_X7_trim_10 (v := nI 320) (by decide) ?_
      refine wa_iload_n q_X7_trim_13 rfl ?_
      refine wn_imul q_X7_trim_14 ?_
      refine wa_iload_n q_X7_trim_15 rfl ?_
      refine wn_iadd q_X7_trim_16 ?_
      refine wa_iconst q_X7_trim_17 (v := nI 1) (by decide) ?_
      refine wn_isub q_X7_trim_18 (by omega) ?_
      rw [e0]
      refine wn_iald q_X7_trim_19 (by assumption) (by omega) (by omega) ?_
      have hb : reg C r t < 2 ^ 31 := hd _ (by omega)
      have ec : C (320 * r + t) = reg C r t := rfl
      rw [ec]
      refine wn_if_ne q_X7_trim_20 (by omega) (fun hd0 => ?_) (fun hd0 => ?_)
      · have e : tp (reg C r) (t + 1) = t + 1 := if_neg (by omega)
        rw [← h2, e] at k
        exact wa_lv k rfl
      · refine wn_idec q_X7_trim_23 rfl (by decide) ?_
        refine wa_goto q_X7_trim_26 ?_
        exact wa_lv (ih (by omega) (by rw [← h2]; exact (if_pos hd0).symm)) rfl
theorem R_trim {r n : Nat} (hr : r < 140) (h : rR X σ M O C Z G) (hn : n ≤ 320) (hd : ∀ i, i < n → reg C r i < 2 ^ 31) :
    Calls X M_X7_trim [.ref (M 0), .int (nI r), .int (nI n)] σ (fun res τ => res = none ∧ rR X τ M O C (un Z r (tp (reg C r) n)) (upG G r (if tp (reg C r) n = 0 then 0 else G r)) ∧ mSt M σ τ) := by
  have h' := h
  obtain ⟨a0, a1, a2, a3, n1, n2, n3⟩ := h
  have ht := tp_le (reg C r) n
  have hk : WA X M_X7_trim σ 29 [(3, .int (nI (tp (reg C r) n))), (0, .ref (M 0)), (1, .int (nI r))] [] σ (fun res τ => res = none ∧ rR X τ M O C (un Z r (tp (reg C r) n)) (upG G r (if tp (reg C r) n = 0 then 0 else G r)) ∧ mSt M σ τ) := by
    refine wa_aload_n q_X7_trim_29 rfl ?_
    refine wa_getf q_X7_trim_30 f_RX7_14 (by assumption) rfl ?_
    refine wa_iload_n q_X7_trim_33 rfl ?_
    refine wa_iload_n q_X7_trim_34 rfl ?_
    refine wn_iast q_X7_trim_35 (by assumption) (by omega) (by omega) (fun σ_p1 p1 f_p1 e1_p1 e2_p1 => ?_)
    obtain ⟨w1, s1⟩ := h'.size p1 f_p1 e1_p1 e2_p1
    obtain ⟨b0, b1, b2, b3, -⟩ := id w1
    refine wa_aload_n q_X7_trim_36 rfl ?_
    refine wa_getf q_X7_trim_37 f_RX7_17 (by assumption) rfl ?_
    refine wa_iload_n q_X7_trim_40 rfl ?_
    refine wa_iload_n q_X7_trim_41 rfl ?_
    refine wn_if_ne q_X7_trim_42 (by omega) (fun hc => ?_) (fun hc => ?_)
    · refine wa_aload_n q_X7_trim_49 rfl ?_
      refine wa_getf q_X7_trim_50 f_RX7_17 (by assumption) rfl ?_
      refine wa_iload_n q_X7_trim_53 rfl ?_
      refine wn_gald q_X7_trim_54 (by assumption) (by omega) ?_
      refine wn_gast q_X7_trim_55 (by assumption) (by omega) (fun σ_p2 p2 f_p2 e1_p2 e2_p2 => ?_)
      obtain ⟨w2, s2⟩ := w1.sign p2 f_p2 e1_p2 e2_p2
      refine wa_vret q_X7_trim_56 rfl ?_
      refine ⟨rfl, ?_, s1.tr s2⟩
      rw [if_neg (by omega)]; exact w2
    · refine wa_iconst q_X7_trim_45 (v := nI 0) (by decide) ?_
      refine wa_goto q_X7_trim_46 ?_
      refine wn_gast q_X7_trim_55 (by assumption) (by omega) (fun σ_p2 p2 f_p2 e1_p2 e2_p2 => ?_)
      obtain ⟨w2, s2⟩ := w1.sign p2 f_p2 e1_p2 e2_p2
      refine wa_vret q_X7_trim_56 rfl ?_
      refine ⟨rfl, ?_, s1.tr s2⟩
      rw [if_pos hc]; exact w2
  refine Calls.of rfl (lk rfl) ?_
  refine wa_iload_n q_X7_trim_0 rfl ?_
  refine wa_istore_n q_X7_trim_1 (by decide) ?_
  exact wa_lv (R_trim_loop hr h' hn hd hk n (Nat.le_refl _) rfl) rfl
/-- trimmed, it is a number -/
theorem isR.trim {r n : Nat} {v : Int} (hd : ∀ i, i < n → reg C r i < BB) (hn : n ≤ 319) (hv : vl (reg C r) n = v.natAbs) (hs : v ≠ 0 → G r = sgI v) : isR C (un Z r (tp (reg C r) n)) (upG G r (if tp (reg C r) n = 0 then 0 else G r)) r v := by
  have hle := tp_le (reg C r) n
  have hnm : nrm (reg C r) (tp (reg C r) n) := ⟨fun i hi => hd i (by omega), tp_top _ _⟩
  have hvt : vl (reg C r) (tp (reg C r) n) = v.natAbs := by rw [vl_tp]; exact hv
  have hz := nrm_zero hnm
  refine ⟨?_, by rw [un_s]; exact hvt, by rw [un_s]; exact hnm, by rw [un_s]; omega⟩
  rw [upG_s]
  by_cases e : tp (reg C r) n = 0
  · rw [if_pos e]
    have : v = 0 := by have := hz.mpr e; omega
    rw [this]; rfl
  · rw [if_neg e]
    exact hs (fun q => e (hz.mp (by rw [hvt, q]; rfl)))
end ref1
