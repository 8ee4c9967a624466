/-! VALUES in their slots; marks of those that are needed -/
def sA (X : en_X) (n : Nat) (g : Nat → Option Nat) : va_E := .inl (X.2.2.1.2.2.2, n, .inr (.inr (.inr (.inr g))))
theorem sA_ar {X : en_X} {n m : Nat} {g : Nat → Option Nat} {d : Nat → Nat} (e : sA X n g = ar X m d) : False := by
  have := congrArg (fun (w : va_E) => match w with | Sum.inl q => (match q.2.2 with | Sum.inl _ => true | _ => false) | _ => true) e
  cases this
section vals0
variable {X : en_X} {y : en_M} {ρ σ : en_S} {pc nx : Nat} {lv : List (Nat × Value)} {st : List Value} {Q : Option Value → en_S → Prop}
theorem wn_aald {a n j b : Nat} {g : Nat → Option Nat} (q : decode y.2.1 pc = .ok (.aaload, 1) ∧ pc + 1 = nx) (h : look σ a = some (sA X n g)) (hj : j < n) (hn : n < 2 ^ 31) (e : g j = some b) (k : WA X y ρ nx lv (.ref b :: st) σ Q) : WA X y ρ pc lv (.int (nI j) :: .ref a :: st) σ Q :=
  wa_aald q h (vp_in_nI hj hn) (by rw [nI_clamp (by omega), e]; exact k)
theorem wn_aaldN {a n j : Nat} {g : Nat → Option Nat} (q : decode y.2.1 pc = .ok (.aaload, 1) ∧ pc + 1 = nx) (h : look σ a = some (sA X n g)) (hj : j < n) (hn : n < 2 ^ 31) (e : g j = none) (k : WA X y ρ nx lv (.null :: st) σ Q) : WA X y ρ pc lv (.int (nI j) :: .ref a :: st) σ Q :=
  wa_aald q h (vp_in_nI hj hn) (by rw [nI_clamp (by omega), e]; exact k)
theorem wn_aalen {a n : Nat} {g : Nat → Option Nat} (q : decode y.2.1 pc = .ok (.arraylength, 1) ∧ pc + 1 = nx) (h : look σ a = some (sA X n g)) (kw : WA X y ρ nx lv (.int (nI n) :: st) σ Q) : WA X y ρ pc lv (.ref a :: st) σ Q := wa_alen (t0 := 3) q h rfl kw
end vals0
/-- the i-th VALUE's fields; its numbers stand at 28 + 3 i and on -/
abbrev vEi (z kd fs sn at' op fa : Nat → Nat) (A B : Nat → Int) (i : Nat) : va_E := vE (nI (kd i)) (A i) (B i) (nI (fs i)) (nI (sn i)) (nI (at' i)) (nI (op i)) (z (28 + 3 * i)) (z (28 + 3 * i + 1)) (nI (fa i)) (z (28 + 3 * i + 2))
def vW (X : en_X) (σ : en_S) (z : Nat → Nat) (sl : Nat) (va : Nat → Nat) (mk : Nat) (kd fs sn at' op fa : Nat → Nat) (A B : Nat → Int) : Prop :=
  (∃ g, look σ sl = some (sA X 60 g) ∧ ∀ i, i < 60 → g i = if i < mk then some (va i) else none) ∧ sl < σ.1 ∧ (∀ i, i < mk → look σ (va i) = some (vEi z kd fs sn at' op fa A B i) ∧ va i < σ.1) ∧ (∀ i j, i < mk → j < mk → va i = va j → i = j) ∧ mk ≤ 60 ∧ (∀ i, i < mk → kd i ≤ 9 ∧ fs i < 100 ∧ sn i < 100 ∧ at' i ≤ 480 ∧ op i < 2 ∧ fa i ≤ 480)
section vals1
variable {X : en_X} {σ : en_S} {z : Nat → Nat} {sl : Nat} {va : Nat → Nat} {mk : Nat} {kd fs sn at' op fa : Nat → Nat} {A B : Nat → Int}
theorem vW.at {i : Nat} (h : vW X σ z sl va mk kd fs sn at' op fa A B) (hi : i < mk) : look σ (va i) = some (vEi z kd fs sn at' op fa A B i) := (h.2.2.1 i hi).1
theorem vW.lt {i : Nat} (h : vW X σ z sl va mk kd fs sn at' op fa A B) (hi : i < mk) : va i < σ.1 := (h.2.2.1 i hi).2
theorem vW.st {τ : en_S} {D : List Nat} {S T : Nat → en_B} (h : vW X σ z sl va mk kd fs sn at' op fa A B) (s : bw_St D σ S τ T) (w : bw_R X D σ S) : vW X τ z sl va mk kd fs sn at' op fa A B := by
  obtain ⟨⟨g, h1, h2⟩, h3, h4, h5⟩ := h
  refine ⟨⟨g, bw_oth s w h3 h1 (fun l e => by cases e) (fun n d e => sA_ar e), h2⟩, Nat.lt_of_lt_of_le h3 s.1, fun i hi => ⟨bw_obj s w (h4 i hi).2 (h4 i hi).1 (by decide), Nat.lt_of_lt_of_le (h4 i hi).2 s.1⟩, h5⟩
/-- one VALUE's fields change -/
theorem vW.set {τ : en_S} {i : Nat} {at2 op2 fa2 : Nat → Nat} (h : vW X σ z sl va mk kd fs sn at' op fa A B) (hi : i < mk) (hn : look τ (va i) = some (vEi z kd fs sn at2 op2 fa2 A B i)) (hf : ∀ q, q ≠ va i → look τ q = look σ q) (e1 : τ.1 = σ.1) (hj : ∀ j, j ≠ i → at2 j = at' j ∧ op2 j = op j ∧ fa2 j = fa j) (hb : at2 i ≤ 480 ∧ op2 i < 2 ∧ fa2 i ≤ 480) : vW X τ z sl va mk kd fs sn at2 op2 fa2 A B := by
  obtain ⟨⟨g, h1, h2⟩, h3, h4, h5, h6, h7⟩ := h
  have hsl : sl ≠ va i := fun e => by rw [e, (h4 i hi).1] at h1; cases h1
  refine ⟨⟨g, (hf sl hsl).trans h1, h2⟩, by omega, fun j hjm => ⟨?_, by rw [e1]; exact (h4 j hjm).2⟩, h5, h6, fun j hjm => ?_⟩
  · by_cases e : j = i
    · subst e; exact hn
    · rw [hf _ (fun q => e (h5 j i hjm hi q)), (h4 j hjm).1]
      obtain ⟨q1, q2, q3⟩ := hj j e
      show some (vEi _ _ _ _ _ _ _ _ _ j) = some (vEi _ _ _ _ _ _ _ _ _ j)
      unfold vEi
      rw [q1, q2, q3]
  · obtain ⟨g1, g2, g3, g4, g5, g6⟩ := h7 j hjm
    by_cases e : j = i
    · subst e; exact ⟨g1, g2, g3, hb.1, hb.2.1, hb.2.2⟩
    · obtain ⟨q1, q2, q3⟩ := hj j e
      exact ⟨g1, g2, g3, by omega, by omega, by omega⟩
theorem F_open {i : Nat} (h : vW X σ z sl va mk kd fs sn at' op fa A B) (hi : i < mk) : Calls X M_X2_isOpen [.ref (va i)] σ (fun res τ => res = some (.int (nI (op i))) ∧ τ = σ) := by
  have e1 := h.at hi
  have hb := (h.2.2.2.2.2 i hi).2.2.2.2.1
  refine Calls.of rfl (lk rfl) ?_
  refine wa_aload_n q_X2_isOpen_0 rfl ?_
  refine wa_ifnull q_X2_isOpen_1 ?_
  refine wa_aload_n q_X2_isOpen_4 rfl ?_
  refine wa_getf q_X2_isOpen_5 f_RX2_75 (by assumption) rfl ?_
  refine wn_if_eq q_X2_isOpen_8 (by omega) (fun hx => ?_) (fun hx => ?_)
  · refine wa_iconst q_X2_isOpen_15 (v := nI 0) (by decide) ?_
    refine wa_zret q_X2_isOpen_16 rfl rfl ?_
    exact ⟨by rw [hx], rfl⟩
  · refine wa_iconst q_X2_isOpen_11 (v := nI 1) (by decide) ?_
    refine wa_goto q_X2_isOpen_12 ?_
    refine wa_zret q_X2_isOpen_16 rfl rfl ?_
    exact ⟨by rw [show op i = 1 by omega], rfl⟩
theorem F_openN : Calls X M_X2_isOpen [.null] σ (fun res τ => res = some (.int (nI 1)) ∧ τ = σ) := by
  refine Calls.of rfl (lk rfl) ?_
  refine wa_aload_nN q_X2_isOpen_0 rfl ?_
  refine wa_ifnullN q_X2_isOpen_1 ?_
  refine wa_iconst q_X2_isOpen_11 (v := nI 1) (by decide) ?_
  refine wa_goto q_X2_isOpen_12 ?_
  refine wa_zret q_X2_isOpen_16 rfl rfl ?_
  exact ⟨rfl, rfl⟩
/-- the part, if it stands below -/
theorem F_part {c i : Nat} (h : vW X σ z sl va mk kd fs sn at' op fa A B) (hc : c < i) (hi : i < mk) : Calls X M_X2_partOf [.ref sl, .int (nI c), .int (nI i)] σ (fun res τ => res = some (.ref (va c)) ∧ τ = σ) := by
  obtain ⟨⟨g, h1, h2⟩, h3, h4, h5, h6, h7⟩ := h
  refine Calls.of rfl (lk rfl) ?_
  refine wa_iload_n q_X2_partOf_0 rfl ?_
  refine wn_if_lt q_X2_partOf_1 (by omega) (fun hx => ?_) (fun hx => ?_)
  · exact absurd hx id
  refine wa_iload_n q_X2_partOf_4 rfl ?_
  refine wa_iload_n q_X2_partOf_5 rfl ?_
  refine wn_icmp_ge q_X2_partOf_6 (by omega) (by omega) (fun hy => ?_) (fun hy => ?_)
  · omega
  refine wa_iload_n q_X2_partOf_9 rfl ?_
  refine wa_aload_n q_X2_partOf_10 rfl ?_
  refine wn_aalen q_X2_partOf_11 h1 ?_
  refine wn_icmp_lt q_X2_partOf_12 (by omega) (by omega) (fun hw => ?_) (fun hw => ?_)
  · refine wa_aload_n q_X2_partOf_19 rfl ?_
    refine wa_iload_n q_X2_partOf_20 rfl ?_
    refine wn_aald q_X2_partOf_21 h1 (by omega) (by decide) (by rw [h2 c (by omega), if_pos (by omega)]) ?_
    refine wa_aret q_X2_partOf_22 rfl (Or.inl ⟨_, rfl⟩) (Or.inr ⟨_, rfl⟩) ?_
    exact ⟨rfl, rfl⟩
  · omega
/-- whatever it is: a reference or null, nothing changes -/
theorem F_partA {c i : Nat} (h : vW X σ z sl va mk kd fs sn at' op fa A B) (hc : c < 100) (hi : i < mk) : Calls X M_X2_partOf [.ref sl, .int (nI c), .int (nI i)] σ (fun res τ => (res = some .null ∨ ∃ b, res = some (.ref b)) ∧ τ = σ) := by
  obtain ⟨⟨g, h1, h2⟩, h3, h4, h5, h6, h7⟩ := h
  refine Calls.of rfl (lk rfl) ?_
  refine wa_iload_n q_X2_partOf_0 rfl ?_
  refine wn_if_lt q_X2_partOf_1 (by omega) (fun hx => ?_) (fun hx => ?_)
  · exact absurd hx id
  refine wa_iload_n q_X2_partOf_4 rfl ?_
  refine wa_iload_n q_X2_partOf_5 rfl ?_
  refine wn_icmp_ge q_X2_partOf_6 (by omega) (by omega) (fun hy => ?_) (fun hy => ?_)
  · refine wa_null q_X2_partOf_15 ?_
    refine wa_goto q_X2_partOf_16 ?_
    refine wa_aret q_X2_partOf_22 rfl (Or.inl ⟨_, rfl⟩) (Or.inl rfl) ?_
    exact ⟨Or.inl rfl, rfl⟩
  refine wa_iload_n q_X2_partOf_9 rfl ?_
  refine wa_aload_n q_X2_partOf_10 rfl ?_
  refine wn_aalen q_X2_partOf_11 h1 ?_
  refine wn_icmp_lt q_X2_partOf_12 (by omega) (by omega) (fun hw => ?_) (fun hw => ?_)
  · refine wa_aload_n q_X2_partOf_19 rfl ?_
    refine wa_iload_n q_X2_partOf_20 rfl ?_
    refine wn_aald q_X2_partOf_21 h1 (by omega) (by decide) (by rw [h2 c (by omega), if_pos (by omega)]) ?_
    refine wa_aret q_X2_partOf_22 rfl (Or.inl ⟨_, rfl⟩) (Or.inr ⟨_, rfl⟩) ?_
    exact ⟨Or.inr ⟨_, rfl⟩, rfl⟩
  · omega
end vals1
-- bits of a long
def b64 (w : Int64) (j : Nat) : Bool := w.toBitVec.getLsbD j
theorem b64_test {w : Int64} {s : UInt64} {j : Nat} (hj : j < 64) (hs : s.toNat = j) : ((w.toUInt64 >>> s).toInt64 &&& 1) = 0 ↔ b64 w j = false := by
  have e : (w.toUInt64 >>> s).toInt64.toBitVec = w.toBitVec >>> j := by
    apply BitVec.eq_of_toNat_eq
    show (w.toUInt64 >>> s).toNat = _
    rw [UInt64.toNat_shiftRight, hs, Nat.mod_eq_of_lt hj, BitVec.toNat_ushiftRight]
    rfl
  rw [← Int64.toBitVec_inj, Int64.toBitVec_and, e]
  show w.toBitVec >>> j &&& 1#64 = 0#64 ↔ _
  constructor
  · intro h
    have t := congrArg (fun x => x.getLsbD 0) h
    simpa [b64] using t
  · intro h
    apply BitVec.eq_of_getLsbD_eq
    intro i hi
    cases i with
    | zero => simp [show w.toBitVec.getLsbD j = false from h]
    | succ i => simp
theorem b64_one : ∀ l, l < 64 → ((lN 1) <<< ((nI l).toInt64 &&& 63)).toBitVec = BitVec.twoPow 64 l := by decide +kernel
theorem b64_sh : ∀ l, l < 64 → ((nI l).toInt64.toUInt64 &&& Int64.toUInt64 63).toNat = l := by decide +kernel
theorem b64_pow {l i : Nat} (hl : l < 64) (hi : i < 64) : b64 ((lN 1) <<< ((nI l).toInt64 &&& 63)) i = decide (l = i) := by
  unfold b64
  rw [b64_one l hl, BitVec.getLsbD_twoPow]
  simp [hl]
theorem b64_or {a b : Int64} {i : Nat} : b64 (a ||| b) i = (b64 a i || b64 b i) := by unfold b64; rw [Int64.toBitVec_or, BitVec.getLsbD_or]
theorem b64_and {a b : Int64} {i : Nat} : b64 (a &&& b) i = (b64 a i && b64 b i) := by unfold b64; rw [Int64.toBitVec_and, BitVec.getLsbD_and]
theorem b64_not {a : Int64} {i : Nat} (hi : i < 64) : b64 (a ^^^ (-1)) i = !(b64 a i) := by
  have ha : (-1 : Int64).toBitVec = BitVec.allOnes 64 := by decide
  unfold b64
  rw [Int64.toBitVec_xor, BitVec.getLsbD_xor, ha, BitVec.getLsbD_allOnes]
  simp [hi]
section vals2
variable {X : en_X} {σ : en_S} {z : Nat → Nat} {sl : Nat} {va : Nat → Nat} {mk : Nat} {kd fs sn at' op fa : Nat → Nat} {A B : Nat → Int}
theorem F_marked {M : Int64} {i : Nat} (hi : i < 64) : Calls X M_X2_isMarked [.long M, .int (nI i)] σ (fun res τ => res = some (.int (nI (if b64 M i then 1 else 0))) ∧ τ = σ) := by
  refine Calls.of rfl (lk rfl) ?_
  refine wa_lload_n q_X2_isMarked_0 rfl ?_
  refine wa_iload_n q_X2_isMarked_1 rfl ?_
  refine wa_lushr q_X2_isMarked_2 rfl ?_
  refine wa_lconst q_X2_isMarked_3 (v := lN 1) (by decide) ?_
  refine wa_land q_X2_isMarked_4 ?_
  refine wa_lconst q_X2_isMarked_5 (v := lN 0) (by decide) ?_
  refine wa_lcmp q_X2_isMarked_6 ?_
  refine wa_if_eq q_X2_isMarked_7 (fun hx => ?_) (fun hx => ?_)
  · have hb : b64 M i = false := (b64_test hi (b64_sh i hi)).mp ((lg_cmp_eq _ _).mp hx)
    refine wa_iconst q_X2_isMarked_14 (v := nI 0) (by decide) ?_
    refine wa_zret q_X2_isMarked_15 rfl rfl ?_
    exact ⟨by rw [hb]; rfl, rfl⟩
  · have hb : b64 M i = true := by
      cases hq : b64 M i
      · exact absurd ((lg_cmp_eq _ _).mpr ((b64_test hi (b64_sh i hi)).mpr hq)) hx
      · rfl
    refine wa_iconst q_X2_isMarked_10 (v := nI 1) (by decide) ?_
    refine wa_goto q_X2_isMarked_11 ?_
    refine wa_zret q_X2_isMarked_15 rfl rfl ?_
    exact ⟨by rw [hb]; rfl, rfl⟩
/-- what the marks must say for the VALUES above t -/
def mkI (M : Int64) (v p t : Nat) (kd fs sn at' : Nat → Nat) : Prop := (b64 M v = true ∨ t ≤ v ∧ at' v = p) ∧ ∀ j, t ≤ j → j ≤ v → b64 M j = true → at' j ≠ p ∧ (5 ≤ kd j → (b64 M (fs j) = true ∨ t ≤ fs j ∧ at' (fs j) = p) ∧ (b64 M (sn j) = true ∨ t ≤ sn j ∧ at' (sn j) = p))
theorem F_need_loop {v p : Nat} {Q : Option Value → en_S → Prop} (h : vW X σ z sl va mk kd fs sn at' op fa A B) (hv : v < mk) (hp : p ≤ 480) (hpt : ∀ j, j ≤ v → 5 ≤ kd j → fs j < j ∧ sn j < j) (k : ∀ M, mkI M v p 0 kd fs sn at' → Q (some (.long M)) σ) :
    ∀ t M, t ≤ v + 1 → mkI M v p t kd fs sn at' → WA X M_X2_neededFor σ 7 [(5, .int (nI t + (-1))), (3, .long M), (0, .ref sl), (1, .int (nI v)), (2, .int (nI p))] [] σ Q := by
  have h' := h
  obtain ⟨⟨g, h1, h2⟩, h3, h4, h5, h6, h7⟩ := h
  intro t
  induction t with
  | zero =>
    intro M _ hM
    refine wa_iload q_X2_neededFor_7 rfl ?_
    refine wa_if_lt q_X2_neededFor_9 (fun hx => ?_) (fun hx => absurd (by decide) hx)
    refine wa_lload_n q_X2_neededFor_91 rfl ?_
    refine wa_lret q_X2_neededFor_92 rfl ?_
    exact k M hM
  | succ t ih =>
    intro M ht hM
    rw [pk_m1]
    obtain ⟨q1, q2, q3, q4, q5, q6⟩ := h7 t (by omega)
    have e1 := h'.at (i := t) (by omega)
    have low : ∀ M', mkI M' v p t kd fs sn at' → WA X M_X2_neededFor σ 85 [(6, .ref (va t)), (5, .int (nI t)), (3, .long M'), (0, .ref sl), (1, .int (nI v)), (2, .int (nI p))] [] σ Q := by
      intro M' hM'
      refine wa_iinc q_X2_neededFor_85 rfl rfl (by decide) ?_
      refine wa_goto q_X2_neededFor_88 ?_
      exact wa_lv (ih M' (by omega) hM') rfl
    refine wa_iload q_X2_neededFor_7 rfl ?_
    refine wn_if_lt q_X2_neededFor_9 (by omega) (fun hx => ?_) (fun hx => ?_)
    · exact absurd hx id
    refine wa_aload_n q_X2_neededFor_12 rfl ?_
    refine wa_iload q_X2_neededFor_13 rfl ?_
    refine wn_aald q_X2_neededFor_15 h1 (by omega) (by decide) (by rw [h2 t (by omega), if_pos (by omega)]) ?_
    refine wa_astore q_X2_neededFor_16 (by decide) ?_
    refine wa_aload q_X2_neededFor_18 rfl ?_
    refine wa_ifnull q_X2_neededFor_20 ?_
    refine wa_lload_n q_X2_neededFor_23 rfl ?_
    refine wa_iload q_X2_neededFor_24 rfl ?_
    refine wa_callS q_X2_neededFor_26 g_X2_neededFor_26 w_X2_isMarked (av := [_, _]) rfl rfl (lk rfl) (Calls.mono (F_marked (by omega)) ?_)
    rintro _ _ ⟨rfl, rfl⟩
    cases hb : b64 M t
    · refine wn_if_ne q_X2_neededFor_29 (by decide) (fun hx => absurd hx (by decide)) (fun hx => ?_)
      refine wa_goto q_X2_neededFor_32 ?_
      refine wa_lv (low M ⟨hM.1.imp id (fun w => ⟨by omega, w.2⟩), fun j j1 j2 j3 => ?_⟩) rfl
      have hjt : j ≠ t := fun e => by rw [e, hb] at j3; cases j3
      obtain ⟨w1, w2⟩ := hM.2 j (by omega) j2 j3
      exact ⟨w1, fun w => ⟨(w2 w).1.imp id (fun y => ⟨by omega, y.2⟩), (w2 w).2.imp id (fun y => ⟨by omega, y.2⟩)⟩⟩
    · refine wn_if_ne q_X2_neededFor_29 (by decide) (fun hx => ?_) (fun hx => absurd hx (by decide))
      refine wa_aload q_X2_neededFor_35 rfl ?_
      refine wa_getf q_X2_neededFor_37 f_RX2_65 (by assumption) rfl ?_
      refine wa_iload_n q_X2_neededFor_40 rfl ?_
      refine wn_icmp_ne q_X2_neededFor_41 (by omega) (by omega) (fun hx => ?_) (fun hx => ?_)
      · refine wa_aload q_X2_neededFor_58 rfl ?_
        refine wa_getf q_X2_neededFor_60 f_RX2_68 (by assumption) rfl ?_
        refine wa_iconst q_X2_neededFor_63 (v := nI 5) (by decide) ?_
        refine wn_icmp_lt q_X2_neededFor_64 (by omega) (by decide) (fun hy => ?_) (fun hy => ?_)
        · refine wa_lv (low M ⟨hM.1.imp id (fun w => ⟨by omega, w.2⟩), fun j j1 j2 j3 => ?_⟩) rfl
          by_cases hjt : j = t
          · subst hjt
            exact ⟨hx, fun w => by omega⟩
          · obtain ⟨w1, w2⟩ := hM.2 j (by omega) j2 j3
            exact ⟨w1, fun w => ⟨(w2 w).1.imp id (fun y => ⟨by omega, y.2⟩), (w2 w).2.imp id (fun y => ⟨by omega, y.2⟩)⟩⟩
        · obtain ⟨c1, c2⟩ := hpt t (by omega) hy
          refine wa_lload_n q_X2_neededFor_67 rfl ?_
          refine wa_lconst q_X2_neededFor_68 (v := lN 1) (by decide) ?_
          refine wa_aload q_X2_neededFor_69 rfl ?_
          refine wa_getf q_X2_neededFor_71 f_RX2_52 (by assumption) rfl ?_
          refine wa_lshl q_X2_neededFor_74 rfl ?_
          refine wa_lconst q_X2_neededFor_75 (v := lN 1) (by decide) ?_
          refine wa_aload q_X2_neededFor_76 rfl ?_
          refine wa_getf q_X2_neededFor_78 f_RX2_62 (by assumption) rfl ?_
          refine wa_lshl q_X2_neededFor_81 rfl ?_
          refine wa_lor q_X2_neededFor_82 ?_
          refine wa_lor q_X2_neededFor_83 ?_
          refine wa_lstore_n q_X2_neededFor_84 (by decide) ?_
          have hbt : ∀ j, j < 64 → b64 (M ||| (((lN 1) <<< ((nI (fs t)).toInt64 &&& 63)) ||| ((lN 1) <<< ((nI (sn t)).toInt64 &&& 63)))) j = (b64 M j || (decide (fs t = j) || decide (sn t = j))) := fun j hj => by rw [b64_or, b64_or, b64_pow (by omega) hj, b64_pow (by omega) hj]
          refine wa_lv (low _ ⟨?_, fun j j1 j2 j3 => ?_⟩) rfl
          · rcases hM.1 with w | w
            · left; rw [hbt v (by omega), w]; rfl
            · right; exact ⟨by omega, w.2⟩
          · rw [hbt j (by omega)] at j3
            have hjn : (decide (fs t = j) || decide (sn t = j)) = false := by simp; omega
            rw [hjn, Bool.or_false] at j3
            by_cases hjt : j = t
            · subst hjt
              refine ⟨hx, fun w => ⟨Or.inl ?_, Or.inl ?_⟩⟩
              · rw [hbt _ (by omega)]; simp
              · rw [hbt _ (by omega)]; simp
            · obtain ⟨w1, w2⟩ := hM.2 j (by omega) j2 j3
              have hj5 := h7 j (by omega)
              refine ⟨w1, fun w => ⟨?_, ?_⟩⟩
              · have c := hpt j (by omega) w
                rcases (w2 w).1 with y | y
                · left; rw [hbt _ (by omega), y]; rfl
                · right; exact ⟨by omega, y.2⟩
              · have c := hpt j (by omega) w
                rcases (w2 w).2 with y | y
                · left; rw [hbt _ (by omega), y]; rfl
                · right; exact ⟨by omega, y.2⟩
      · refine wa_lload_n q_X2_neededFor_44 rfl ?_
        refine wa_lconst q_X2_neededFor_45 (v := lN 1) (by decide) ?_
        refine wa_iload q_X2_neededFor_46 rfl ?_
        refine wa_lshl q_X2_neededFor_48 rfl ?_
        refine wa_ldc2 q_X2_neededFor_49 k_RX2_117 ?_
        refine wa_lxor q_X2_neededFor_52 ?_
        refine wa_land q_X2_neededFor_53 ?_
        refine wa_lstore_n q_X2_neededFor_54 (by decide) ?_
        refine wa_goto q_X2_neededFor_55 ?_
        have hbt : ∀ j, j < 64 → b64 (M &&& (((lN 1) <<< ((nI t).toInt64 &&& 63)) ^^^ (-1))) j = (b64 M j && !(decide (t = j))) := fun j hj => by rw [b64_and, b64_not hj, b64_pow (by omega) hj]
        refine wa_lv (low _ ⟨?_, fun j j1 j2 j3 => ?_⟩) rfl
        · by_cases e : t = v
          · right; exact ⟨by omega, by rw [← e]; exact hx⟩
          · rcases hM.1 with w | w
            · left; rw [hbt v (by omega), w]; simp [e]
            · right; exact ⟨by omega, w.2⟩
        · rw [hbt j (by omega)] at j3
          have hjt : j ≠ t := fun e => by rw [e] at j3; simp at j3
          have j3 : b64 M j = true := by
            cases hq : b64 M j
            · rw [hq] at j3; cases j3
            · rfl
          obtain ⟨w1, w2⟩ := hM.2 j (by omega) j2 j3
          have sub : ∀ c, c < 64 → (b64 M c = true ∨ t + 1 ≤ c ∧ at' c = p) → b64 (M &&& (((lN 1) <<< ((nI t).toInt64 &&& 63)) ^^^ (-1))) c = true ∨ t ≤ c ∧ at' c = p := by
            intro c hc w
            by_cases e : t = c
            · right; exact ⟨by omega, by rw [← e]; exact hx⟩
            · rcases w with y | y
              · left; rw [hbt c hc, y]; simp [e]
              · right; exact ⟨by omega, y.2⟩
          exact ⟨w1, fun w => ⟨sub _ (by have := hpt j (by omega) w; omega) (w2 w).1, sub _ (by have := hpt j (by omega) w; omega) (w2 w).2⟩⟩
theorem F_need {v p : Nat} (h : vW X σ z sl va mk kd fs sn at' op fa A B) (hv : v < mk) (hp : p ≤ 480) (hpt : ∀ j, j ≤ v → 5 ≤ kd j → fs j < j ∧ sn j < j) :
    Calls X M_X2_neededFor [.ref sl, .int (nI v), .int (nI p)] σ (fun res τ => (∃ M, res = some (.long M) ∧ mkI M v p 0 kd fs sn at') ∧ τ = σ) := by
  have hmk := h.2.2.2.2.1
  refine Calls.of rfl (lk rfl) ?_
  refine wa_lconst q_X2_neededFor_0 (v := lN 1) (by decide) ?_
  refine wa_iload_n q_X2_neededFor_1 rfl ?_
  refine wa_lshl q_X2_neededFor_2 rfl ?_
  refine wa_lstore_n q_X2_neededFor_3 (by decide) ?_
  refine wa_iload_n q_X2_neededFor_4 rfl ?_
  refine wa_istore q_X2_neededFor_5 (by decide) ?_
  refine wa_lv (F_need_loop h hv hp hpt (fun M hM => ⟨⟨M, rfl, hM⟩, rfl⟩) (v + 1) ((lN 1) <<< ((nI v).toInt64 &&& 63)) (Nat.le_refl _) ⟨Or.inl (by rw [b64_pow (by omega) (by omega)]; simp), fun j j1 j2 => by omega⟩) ?_
  rw [pk_m1]; rfl
end vals2
