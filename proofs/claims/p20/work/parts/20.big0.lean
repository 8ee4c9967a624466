/-! EnclosedDigits$Big: a world of such numbers, raw (row of limbs, its room, size, limbs, sign), and what a method that works on one of them leaves. -/
/-- the array's address, its room, the size, the limbs, the sign -/
abbrev en_B : Type := Nat × Nat × Nat × (Nat → Nat) × Int32
abbrev bE (sg : Int32) (sz r : Nat) : va_E := .inr (1, [.int sg, .int (nI sz), .ref r])
def bw_at (X : en_X) (σ : en_S) (a : Nat) (b : en_B) : Prop := look σ a = some (bE b.2.2.2.2 b.2.2.1 b.1) ∧ look σ b.1 = some (ar X b.2.1 b.2.2.2.1) ∧ b.2.2.1 ≤ b.2.1 ∧ 8 ≤ b.2.1 ∧ b.2.1 ≤ 512 ∧ a < σ.1 ∧ b.1 < σ.1
def bw_R (X : en_X) (D : List Nat) (σ : en_S) (S : Nat → en_B) : Prop := (∀ a ∈ D, bw_at X σ a (S a)) ∧ ∀ a ∈ D, ∀ b ∈ D, (S a).1 = (S b).1 → a = b
def uB (S : Nat → en_B) (a : Nat) (b : en_B) : Nat → en_B := fun q => if q = a then b else S q
theorem uB_s {S : Nat → en_B} {a : Nat} {b : en_B} : uB S a b a = b := if_pos rfl
theorem uB_n {S : Nat → en_B} {a q : Nat} {b : en_B} (h : q ≠ a) : uB S a b q = S q := if_neg h
theorem uB_u {S : Nat → en_B} {a : Nat} {b c : en_B} : uB (uB S a b) a c = uB S a c := by
  funext q; unfold uB; split <;> rfl
theorem uB_i {S : Nat → en_B} {a : Nat} : uB S a (S a) = S := by
  funext q; unfold uB; split <;> simp_all
def bw_tot (D : List Nat) (S : Nat → en_B) : Nat := (D.map (fun a => (S a).2.1)).sum
/-- from the world S at σ to the world T at τ: what is no number of D's stays; rows are kept or new; what was made is paid by room -/
def bw_St (D : List Nat) (σ : en_S) (S : Nat → en_B) (τ : en_S) (T : Nat → en_B) : Prop :=
  σ.1 ≤ τ.1 ∧ (∀ q, q < σ.1 → q ∉ D → (∀ d ∈ D, q ≠ (S d).1) → look τ q = look σ q) ∧ (∀ d ∈ D, (T d).1 = (S d).1 ∨ σ.1 ≤ (T d).1) ∧ 8 * τ.1 + bw_tot D S ≤ 8 * σ.1 + bw_tot D T ∧ τ.2.1 + 2 * bw_tot D S ≤ σ.2.1 + 2 * bw_tot D T
theorem bw_St.rf (D : List Nat) (σ : en_S) (S : Nat → en_B) : bw_St D σ S σ S := ⟨Nat.le_refl _, fun _ _ _ _ => rfl, fun _ _ => Or.inl rfl, Nat.le_refl _, Nat.le_refl _⟩
theorem bw_St.tr {D : List Nat} {σ τ υ : en_S} {S T U : Nat → en_B} (h : bw_St D σ S τ T) (g : bw_St D τ T υ U) : bw_St D σ S υ U := by
  obtain ⟨h1, h2, h3, h4, h5⟩ := h
  obtain ⟨g1, g2, g3, g4, g5⟩ := g
  refine ⟨Nat.le_trans h1 g1, fun q q1 q2 q3 => ?_, fun d hd => ?_, by omega, by omega⟩
  · rw [g2 q (by omega) q2 (fun d hd e => ?_)]
    · exact h2 q q1 q2 q3
    · rcases h3 d hd with w | w
      · exact q3 d hd (e.trans w)
      · omega
  · rcases g3 d hd with w | w
    · rcases h3 d hd with v | v
      · exact Or.inl (w.trans v)
      · exact Or.inr (by omega)
    · exact Or.inr (by omega)
theorem sum_up {D : List Nat} {f g : Nat → Nat} (h : ∀ a, f a ≤ g a) : (D.map f).sum ≤ (D.map g).sum := by
  induction D with
  | nil => exact Nat.le_refl _
  | cons x l ih => simp only [List.map_cons, List.sum_cons]; have := h x; omega
theorem sum_up1 {D : List Nat} {f g : Nat → Nat} (h : ∀ a, f a ≤ g a) {a : Nat} (ha : a ∈ D) : (D.map f).sum + (g a - f a) ≤ (D.map g).sum := by
  induction D with
  | nil => cases ha
  | cons x l ih =>
    simp only [List.map_cons, List.sum_cons]
    have h1 := h x
    rcases List.mem_cons.mp ha with e | e
    · subst e
      have := sum_up (D := l) h
      omega
    · have := ih e
      omega
/-- an object is no array -/
theorem ne_oa {X : en_X} {σ : en_S} {a r n : Nat} {d : Nat → Nat} {o : Nat × List Value} (h : look σ a = some (.inr o)) (g : look σ r = some (ar X n d)) : a ≠ r := by
  intro e
  rw [e, g] at h
  cases h
theorem bw_R.step {X : en_X} {D : List Nat} {σ τ : en_S} {S : Nat → en_B} {a : Nat} {b : en_B} (h : bw_R X D σ S) (ha : a ∈ D) (hs : σ.1 ≤ τ.1) (hb : bw_at X τ a b) (hf : ∀ q, q < σ.1 → q ≠ a → q ≠ (S a).1 → look τ q = look σ q) (hr : b.1 = (S a).1 ∨ σ.1 ≤ b.1) (hn : (S a).2.1 ≤ b.2.1) (h8 : 8 * τ.1 + (S a).2.1 ≤ 8 * σ.1 + b.2.1) (h2 : τ.2.1 + 2 * (S a).2.1 ≤ σ.2.1 + 2 * b.2.1) : bw_R X D τ (uB S a b) ∧ bw_St D σ S τ (uB S a b) := by
  have hle : ∀ q, (S q).2.1 ≤ (uB S a b q).2.1 := by
    intro q
    by_cases e : q = a
    · subst e; rw [uB_s]; exact hn
    · rw [uB_n e]; exact Nat.le_refl _
  have hsum := sum_up1 (D := D) (f := fun q => (S q).2.1) (g := fun q => (uB S a b q).2.1) hle ha
  simp only [uB_s] at hsum
  have ht : bw_tot D S + (b.2.1 - (S a).2.1) ≤ bw_tot D (uB S a b) := hsum
  refine ⟨⟨fun q hq => ?_, fun p hp q hq e => ?_⟩, hs, fun q q1 q2 q3 => hf q q1 (fun e => q2 (e ▸ ha)) (q3 a ha), fun d hd => ?_, by omega, by omega⟩
  · by_cases e : q = a
    · subst e; rw [uB_s]; exact hb
    · rw [uB_n e]
      obtain ⟨c1, c2, c3, c4, c5, c6, c7⟩ := h.1 q hq
      obtain ⟨b1, b2, b3, b4, b5, b6, b7⟩ := h.1 a ha
      refine ⟨?_, ?_, c3, c4, c5, by omega, by omega⟩
      · rw [hf q c6 e (ne_oa c1 b2)]; exact c1
      · rw [hf _ c7 (fun z => ne_oa b1 c2 z.symm) (fun z => e (h.2 q hq a ha z))]; exact c2
  · by_cases e1 : p = a
    · by_cases e2 : q = a
      · rw [e1, e2]
      · subst e1
        rw [uB_s, uB_n e2] at e
        rcases hr with w | w
        · exact absurd (h.2 p hp q hq (w.symm.trans e)) (fun z => e2 z.symm)
        · have := (h.1 q hq).2.2.2.2.2.2
          omega
    · by_cases e2 : q = a
      · subst e2
        rw [uB_s, uB_n e1] at e
        rcases hr with w | w
        · exact absurd (h.2 p hp q hq (e.trans w)) e1
        · have := (h.1 p hp).2.2.2.2.2.2
          omega
      · rw [uB_n e1, uB_n e2] at e
        exact h.2 p hp q hq e
  · by_cases e : d = a
    · subst e; rw [uB_s]; exact hr
    · rw [uB_n e]; exact Or.inl rfl
section big0
variable {X : en_X} {σ : en_S} {D : List Nat} {S : Nat → en_B}
theorem C_trim_loop {ρ : en_S} {a r n sz : Nat} {d : Nat → Nat} {s sg : Int32} {Q : Option Value → en_S → Prop} (hsz : sz ≤ n) (hn : n < 2 ^ 30) (hd : ∀ i, i < sz → d i < 2 ^ 31) (ha : look σ a = some (bE sg sz r)) (hr : look σ r = some (ar X n d))
    (k : WA X M_X1_trim ρ 34 [(2, .int (nI (tp d sz))), (1, .int s), (0, .ref a)] [] σ Q) :
    ∀ t, t ≤ sz → tp d t = tp d sz → WA X M_X1_trim ρ 13 [(2, .int (nI t)), (1, .int s), (0, .ref a)] [] σ Q := by
  intro t
  induction t with
  | zero =>
    intro h1 h2
    refine wa_iload_n q_X1_trim_13 rfl ?_
    refine wn_if_le q_X1_trim_14 (by omega) (fun hc => ?_) (fun hc => ?_)
    · rw [← h2] at k; exact wa_lv k rfl
    · exact absurd hc (by omega)
  | succ t ih =>
    intro h1 h2
    refine wa_iload_n q_X1_trim_13 rfl ?_
    refine wn_if_le q_X1_trim_14 (by omega) (fun hc => ?_) (fun hc => ?_)
    · exact absurd hc (by omega)
    · refine wa_aload_n q_X1_trim_17 rfl ?_
      refine wa_getf q_X1_trim_18 f_RX1_11 (by assumption) rfl ?_
      refine wa_iload_n q_X1_trim_21 rfl ?_
      refine wa_iconst q_X1_trim_22 (v := nI 1) (by decide) ?_
      refine wn_isub q_X1_trim_23 (by omega) ?_
      refine wn_iald q_X1_trim_24 (by assumption) (by omega) (by omega) ?_
      have hb : d (t + 1 - 1) < 2 ^ 31 := hd _ (by omega)
      refine wn_if_ne q_X1_trim_25 (by omega) (fun hd0 => ?_) (fun hd0 => ?_)
      · have e : tp d (t + 1) = t + 1 := if_neg (by show ¬ d t = 0; have : 0 < d t := hd0; omega)
        rw [← h2, e] at k
        exact wa_lv k rfl
      · refine wn_idec q_X1_trim_28 rfl (by decide) ?_
        refine wa_goto q_X1_trim_31 ?_
        exact wa_lv (ih (by omega) (by rw [← h2]; exact (if_pos hd0).symm)) rfl
theorem C_trim {a : Nat} {s : Int32} (h : bw_R X D σ S) (ha : a ∈ D) (hd : ∀ i, i < (S a).2.2.1 → (S a).2.2.2.1 i < 2 ^ 31) :
    Calls X M_X1_trim [.ref a, .int s] σ (fun res τ => res = none ∧ ∃ b : en_B, b = ((S a).1, (S a).2.1, tp (S a).2.2.2.1 (S a).2.2.1, (S a).2.2.2.1, if tp (S a).2.2.2.1 (S a).2.2.1 = 0 then 0 else s) ∧ bw_R X D τ (uB S a b) ∧ bw_St D σ S τ (uB S a b)) := by
  obtain ⟨h1, h2, h3, h4, h5, h6, h7⟩ := h.1 a ha
  refine Calls.of rfl (lk rfl) ?_
  have ht := tp_le (S a).2.2.2.1 (S a).2.2.1
  refine wa_aload_n q_X1_trim_0 rfl ?_
  refine wa_getf q_X1_trim_1 f_RX1_15 (by assumption) rfl ?_
  refine wa_aload_n q_X1_trim_4 rfl ?_
  refine wa_getf q_X1_trim_5 f_RX1_11 (by assumption) rfl ?_
  refine wn_alen q_X1_trim_8 (by assumption) ?_
  refine wn_mmin q_X1_trim_9 a_RX1_31 (lk rfl) (lk rfl) (by omega) (by omega) ?_
  refine wa_istore_n q_X1_trim_12 (by decide) ?_
  rw [Nat.min_eq_left h3]
  refine wa_lv (C_trim_loop h3 (by omega) hd h1 h2 ?_ _ (Nat.le_refl _) rfl) rfl
  refine wa_aload_n q_X1_trim_34 rfl ?_
  refine wa_iload_n q_X1_trim_35 rfl ?_
  refine wn_putf q_X1_trim_36 p_RX1_15 (by assumption) (lk rfl) rfl rfl rfl (fun σ_ha1 ha1 f_ha1 e1_ha1 e2_ha1 => ?_)
  refine wa_aload_n q_X1_trim_39 rfl ?_
  refine wa_iload_n q_X1_trim_40 rfl ?_
  refine wn_if_ne q_X1_trim_41 (by omega) (fun hc => ?_) (fun hc => ?_)
  · refine wa_iload_n q_X1_trim_48 rfl ?_
    refine wn_putf q_X1_trim_49 p_RX1_34 (by assumption) (lk rfl) rfl rfl rfl (fun σ_ha2 ha2 f_ha2 e1_ha2 e2_ha2 => ?_)
    refine wa_vret q_X1_trim_52 rfl ?_
    refine ⟨rfl, _, rfl, bw_R.step h ha (by omega) ⟨by rw [if_neg (by omega)]; exact ha2, ?_, ?_⟩ (fun q q1 q2 q3 => (f_ha2 q q2).trans (f_ha1 q q2)) (Or.inl rfl) (Nat.le_refl _) (by show _ ≤ 8 * _ + (S a).2.1; omega) (by show _ ≤ _ + 2 * (S a).2.1; omega)⟩
    · have hne := ne_oa h1 h2
      rw [f_ha2 _ hne.symm, f_ha1 _ hne.symm]; exact h2
    · exact ⟨by show tp _ _ ≤ (S a).2.1; omega, h4, h5, by omega, by show (S a).1 < _; omega⟩
  · refine wa_iconst q_X1_trim_44 (v := nI 0) (by decide) ?_
    refine wa_goto q_X1_trim_45 ?_
    refine wn_putf q_X1_trim_49 p_RX1_34 (by assumption) (lk rfl) rfl rfl rfl (fun σ_ha2 ha2 f_ha2 e1_ha2 e2_ha2 => ?_)
    refine wa_vret q_X1_trim_52 rfl ?_
    refine ⟨rfl, _, rfl, bw_R.step h ha (by omega) ⟨by rw [if_pos hc]; exact ha2, ?_, ?_⟩ (fun q q1 q2 q3 => (f_ha2 q q2).trans (f_ha1 q q2)) (Or.inl rfl) (Nat.le_refl _) (by show _ ≤ 8 * _ + (S a).2.1; omega) (by show _ ≤ _ + 2 * (S a).2.1; omega)⟩
    · have hne := ne_oa h1 h2
      rw [f_ha2 _ hne.symm, f_ha1 _ hne.symm]; exact h2
    · exact ⟨by show tp _ _ ≤ (S a).2.1; omega, h4, h5, by omega, by show (S a).1 < _; omega⟩
end big0
