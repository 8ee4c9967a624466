/-! EnclosedDigits$Encloser: enclosed -/
section raws
variable {kd fs sn : Nat → Nat} {A B : Nat → Int} {p : Nat} {E : Nat → Option (Int × Int)} {n : Nat}
theorem raw_0 (h : kd n = 0) : raw kd fs sn A B p E n = some (A n * 10 ^ p, A n * 10 ^ p) := if_pos h
theorem raw_1 (h : kd n = 1) : raw kd fs sn A B p E n = some (qdn (A n * 10 ^ p) (B n), qup (A n * 10 ^ p) (B n)) := (if_neg (by omega)).trans (if_pos h)
theorem raw_4 (h : 2 ≤ kd n) (h2 : kd n ≤ 4) : raw kd fs sn A B p E n = some (rfl' (kd n) (A n) (B n) p, rfl' (kd n) (A n) (B n) p + 1) := (if_neg (by omega)).trans ((if_neg (by omega)).trans (if_pos h2))
theorem raw_5 (h : 5 ≤ kd n) : raw kd fs sn A B p E n = (match E (fs n), E (sn n) with
    | some x, some y =>
      if kd n = 5 then (if x.2 < 0 then none else some (rtL x.1 p, rtH x.2 p))
      else if kd n = 6 then some (x.1 + y.1, x.2 + y.2)
      else if kd n = 7 then some (x.1 - y.2, x.2 - y.1)
      else if kd n = 8 then some (crL false p x.1 x.2 y.1 y.2, crH false p x.1 x.2 y.1 y.2)
      else if y.1 ≤ 0 ∧ 0 ≤ y.2 then none else some (crL true p x.1 x.2 y.1 y.2, crH true p x.1 x.2 y.1 y.2)
    | _, _ => none) := (if_neg (by omega)).trans ((if_neg (by omega)).trans (if_neg (by omega)))
theorem raw_n (h : 5 ≤ kd n) (g : E (fs n) = none ∨ E (sn n) = none) : raw kd fs sn A B p E n = none := by
  rw [raw_5 h]
  rcases g with g | g
  · rw [g]
  · rw [g]; cases E (fs n) <;> rfl
end raws
theorem nar01 {o : Nat} (h : o < 2) : narrow .boolean (.int (nI o)) = .int (nI o) := by
  have : o = 0 ∨ o = 1 := by omega
  rcases this with q | q <;> subst q <;> rfl
theorem fit01 {o : Nat} (h : o < 2) : fits .boolean (.int (nI o)) = true := by
  have : o = 0 ∨ o = 1 := by omega
  rcases this with q | q <;> subst q <;> rfl
def vX (va : Nat → Nat) (mk : Nat) (q : Nat) : Prop := ∃ i, i < mk ∧ q = va i
/-- what is kept of the i-th VALUE's enclosure is right -/
def cOk (kd fs sn at' op fa : Nat → Nat) (A B : Nat → Int) (U : Nat → Int) (i : Nat) : Prop :=
  (at' i ≠ 0 → (op i = 1 ∧ enc kd fs sn A B (at' i) i = none) ∨ (op i = 0 ∧ enc kd fs sn A B (at' i) i = some (U (28 + 3 * i), U (28 + 3 * i + 1)))) ∧ (fa i ≠ 0 → serOk (kd i) (A i) (B i) ∧ U (28 + 3 * i + 2) = rfl' (kd i) (A i) (B i) (fa i) ∧ (U (28 + 3 * i + 2)).natAbs < BB ^ 200)
section encl
variable {X : en_X} {z : Nat → Nat} {sl : Nat} {va : Nat → Nat} {mk N : Nat} {kd fs sn : Nat → Nat} {A B : Nat → Int} {e bn se v p i : Nat} {M : Int64} {ρ : en_S} {Q : Option Value → en_S → Prop} {w8 w9 : Value}
theorem vW.x {σ τ : en_S} {D : List Nat} {S T : Nat → en_B} {at' op fa at2 op2 fa2 : Nat → Nat} (h : vW X σ z sl va mk kd fs sn at' op fa A B) (s : bw_Sx (fun q => q = va i) D σ S τ T) (w : bw_R X D σ S) (hi : i < mk) (hn : look τ (va i) = some (vEi z kd fs sn at2 op2 fa2 A B i)) (hj : ∀ j, j ≠ i → at2 j = at' j ∧ op2 j = op j ∧ fa2 j = fa j) (hb : at2 i ≤ 480 ∧ op2 i < 2 ∧ fa2 i ≤ 480) : vW X τ z sl va mk kd fs sn at2 op2 fa2 A B := by
  obtain ⟨⟨g, h1, h2⟩, h3, h4, h5, h6, h7⟩ := h
  have hsl : sl ≠ va i := fun e => by rw [e, (h4 i hi).1] at h1; cases h1
  refine ⟨⟨g, bw_othx s w h3 hsl h1 (fun l e => by cases e) (fun n d e => sA_ar e), h2⟩, Nat.lt_of_lt_of_le h3 s.1, fun j hjm => ⟨?_, Nat.lt_of_lt_of_le (h4 j hjm).2 s.1⟩, h5, h6, fun j hjm => ?_⟩
  · by_cases e : j = i
    · subst e; exact hn
    · obtain ⟨q1, q2, q3⟩ := hj j e
      have hl := bw_othx s w (h4 j hjm).2 (fun q => e (h5 j i hjm hi q)) (h4 j hjm).1 (fun l e => by cases e) (fun n d e => by cases e)
      rw [hl]
      show some (vEi _ _ _ _ _ _ _ _ _ j) = some (vEi _ _ _ _ _ _ _ _ _ j)
      unfold vEi
      rw [q1, q2, q3]
  · obtain ⟨g1, g2, g3, g4, g5, g6⟩ := h7 j hjm
    by_cases e : j = i
    · subst e; exact ⟨g1, g2, g3, hb.1, hb.2.1, hb.2.2⟩
    · obtain ⟨q1, q2, q3⟩ := hj j e
      exact ⟨g1, g2, g3, by omega, by omega, by omega⟩
theorem vX_no {σ : en_S} {at' op fa : Nat → Nat} {a ci : Nat} {l : List Value} (h : vW X σ z sl va mk kd fs sn at' op fa A B) (ha : look σ a = some (.inr (ci, l))) (hc : ci ≠ 5) : ¬ vX va mk a := by
  rintro ⟨i, hi, rfl⟩
  rw [h.at hi] at ha
  cases ha
  exact hc rfl
/-- the locals of enclosed in its loop's body -/
abbrev enL (e sl v p : Nat) (M : Int64) (i : Nat) (val : Nat) (w8 w9 : Value) : List (Nat × Value) := [(7, .ref val), (8, w8), (9, w9), (6, .int (nI i)), (4, .long M), (0, .ref e), (1, .ref sl), (2, .int (nI v)), (3, .int (nI p))]
theorem F_longZ {σ : en_S} {S : Nat → en_B} {U : Nat → Int} {j : Nat} (h : zW X z N σ S U) (hj : j < N) : Calls X M_X2_isTooLong [.ref (z j)] σ (fun res τ => res = some (.int (nI (if (U j).natAbs < 10 ^ 800 then 0 else 1))) ∧ τ = σ) := by
  obtain ⟨h0, V, h1, h2⟩ := h
  have := F_long h1 (zD_m hj)
  rw [h2 j hj] at this
  exact this
theorem E_end {σ : en_S} {S : Nat → en_B} {U : Nat → Int} {at' op fa : Nat → Nat} (h : zW X z N σ S U) (hV : vW X σ z sl va mk kd fs sn at' op fa A B) (hi : i < mk) (hN : N = 28 + 3 * mk)
    (k : ∀ τ o, o < 2 → (o = 0 ↔ op i = 0 ∧ (U (28 + 3 * i)).natAbs < 10 ^ 800 ∧ (U (28 + 3 * i + 1)).natAbs < 10 ^ 800) → zW X z N τ S U → vW X τ z sl va mk kd fs sn at' (un op i o) fa A B → (∀ q, q ≠ va i → look τ q = look σ q) → τ.1 = σ.1 → τ.2.1 = σ.2.1 → WA X M_X2_enclosed ρ 309 (enL e sl v p M i (va i) w8 w9) [] τ Q) :
    WA X M_X2_enclosed ρ 269 (enL e sl v p M i (va i) w8 w9) [] σ Q := by
  have e1 := hV.at hi
  have hb := hV.2.2.2.2.2 i hi
  have fin : ∀ o, o < 2 → (o = 0 ↔ op i = 0 ∧ (U (28 + 3 * i)).natAbs < 10 ^ 800 ∧ (U (28 + 3 * i + 1)).natAbs < 10 ^ 800) → WA X M_X2_enclosed ρ 306 (enL e sl v p M i (va i) w8 w9) [.int (nI o), .ref (va i)] σ Q := by
    intro o ho hiff
    refine wn_putf q_X2_enclosed_306 p_RX2_75 e1 (lk rfl) (nar01 ho) (fit01 ho) rfl (fun σ1 p1 f1 g1 g2 => ?_)
    refine k σ1 o ho hiff (h.ext f1 e1 (by decide) g1) (hV.set hi ?_ f1 g1 (fun j hj => ⟨rfl, un_n hj, rfl⟩) ⟨hb.2.2.2.1, by rw [un_s]; exact ho, hb.2.2.2.2.2⟩) f1 g1 g2
    rw [p1]
    show _ = some (vEi _ _ _ _ _ _ _ _ _ i)
    unfold vEi
    rw [un_s]; rfl
  have one : ¬ (op i = 0 ∧ (U (28 + 3 * i)).natAbs < 10 ^ 800 ∧ (U (28 + 3 * i + 1)).natAbs < 10 ^ 800) → WA X M_X2_enclosed ρ 301 (enL e sl v p M i (va i) w8 w9) [.ref (va i)] σ Q := by
    intro hn
    refine wa_iconst q_X2_enclosed_301 (v := nI 1) (by decide) ?_
    refine wa_goto q_X2_enclosed_302 ?_
    exact fin 1 (by decide) ⟨fun q => absurd q (by decide), fun q => absurd q hn⟩
  refine wa_aload q_X2_enclosed_269 rfl ?_
  refine wa_aload q_X2_enclosed_271 rfl ?_
  refine wa_getf q_X2_enclosed_273 f_RX2_75 (by assumption) rfl ?_
  refine wn_if_ne q_X2_enclosed_276 (by omega) (fun hx => ?_) (fun hx => ?_)
  · exact one (fun q => by omega)
  refine wa_aload q_X2_enclosed_279 rfl ?_
  refine wa_getf q_X2_enclosed_281 f_RX2_107 (by assumption) rfl ?_
  refine wa_callS q_X2_enclosed_284 g_X2_enclosed_284 w_X2_isTooLong (av := [_]) rfl rfl (lk rfl) (Calls.mono (F_longZ h (j := 28 + 3 * i) (by omega)) ?_)
  rintro _ _ ⟨rfl, rfl⟩
  by_cases c1 : (U (28 + 3 * i)).natAbs < 10 ^ 800
  · rw [if_pos c1]
    refine wn_if_ne q_X2_enclosed_287 (by decide) (fun q => absurd q (by decide)) (fun _ => ?_)
    refine wa_aload q_X2_enclosed_290 rfl ?_
    refine wa_getf q_X2_enclosed_292 f_RX2_114 (by assumption) rfl ?_
    refine wa_callS q_X2_enclosed_295 g_X2_enclosed_295 w_X2_isTooLong (av := [_]) rfl rfl (lk rfl) (Calls.mono (F_longZ h (j := 28 + 3 * i + 1) (by omega)) ?_)
    rintro _ _ ⟨rfl, rfl⟩
    by_cases c2 : (U (28 + 3 * i + 1)).natAbs < 10 ^ 800
    · rw [if_pos c2]
      refine wn_if_eq q_X2_enclosed_298 (by decide) (fun _ => ?_) (fun q => absurd q (by decide))
      refine wa_iconst q_X2_enclosed_305 (v := nI 0) (by decide) ?_
      exact fin 0 (by decide) ⟨fun _ => ⟨hx, c1, c2⟩, fun _ => rfl⟩
    · rw [if_neg c2]
      refine wn_if_eq q_X2_enclosed_298 (by decide) (fun q => absurd q (by decide)) (fun _ => ?_)
      exact one (fun q => c2 q.2.2)
  · rw [if_neg c1]
    refine wn_if_ne q_X2_enclosed_287 (by decide) (fun _ => ?_) (fun q => absurd q (by decide))
    exact one (fun q => c1 q.2.1)
/-- what a fill of the i-th VALUE leaves -/
abbrev Fld (X : en_X) (z : Nat → Nat) (N : Nat) (sl : Nat) (va : Nat → Nat) (mk : Nat) (kd fs sn : Nat → Nat) (A B : Nat → Int) (p i : Nat) (at' op fa : Nat → Nat) (σ : en_S) (S : Nat → en_B) (U : Nat → Int) (σ' : en_S) (S' : Nat → en_B) (U' : Nat → Int) (op' fa' : Nat → Nat) : Prop :=
  zW X z N σ' S' U' ∧ vW X σ' z sl va mk kd fs sn at' op' fa' A B ∧ ((op' i = 1 ∧ raw kd fs sn A B p (enc kd fs sn A B p) i = none) ∨ (op' i = 0 ∧ raw kd fs sn A B p (enc kd fs sn A B p) i = some (U' (28 + 3 * i), U' (28 + 3 * i + 1)))) ∧ (∀ j, j ≠ i → op' j = op j ∧ fa' j = fa j) ∧ (fa' i ≠ 0 → serOk (kd i) (A i) (B i) ∧ U' (28 + 3 * i + 2) = rfl' (kd i) (A i) (B i) (fa' i) ∧ (U' (28 + 3 * i + 2)).natAbs < BB ^ 200) ∧ (∀ j, 15 ≤ j → j ≠ 28 + 3 * i → j ≠ 28 + 3 * i + 1 → j ≠ 28 + 3 * i + 2 → U' j = U j) ∧ bw_Sx (fun q => q = va i) (zD z N) σ S σ' S'
/-- a fill that changes numbers alone -/
theorem Fld.of {σ σ' : en_S} {S : Nat → en_B} {U : Nat → Int} {at' op fa : Nat → Nat} {L H : Int} (h : zW X z N σ S U) (hV : vW X σ z sl va mk kd fs sn at' op fa A B) (hop : op i = 0) (hfa : fa i ≠ 0 → serOk (kd i) (A i) (B i) ∧ U (28 + 3 * i + 2) = rfl' (kd i) (A i) (B i) (fa i) ∧ (U (28 + 3 * i + 2)).natAbs < BB ^ 200) (g : Fil X z N σ S U (28 + 3 * i) L H σ') (hr : raw kd fs sn A B p (enc kd fs sn A B p) i = some (L, H)) : ∃ S' U', Fld X z N sl va mk kd fs sn A B p i at' op fa σ S U σ' S' U' op fa := by
  obtain ⟨S', U', g1, g2, g3, g4, g5⟩ := g
  refine ⟨S', U', g1, hV.st g5 h.R, Or.inr ⟨hop, by rw [hr, g2, g3]⟩, fun j _ => ⟨rfl, rfl⟩, fun q => ?_, fun j j1 j2 j3 _ => g4 j (by omega) j2 j3, g5.x⟩
  rw [g4 _ (by omega) (by omega) (by omega)]
  exact hfa q
theorem Fld.opn {σ σ' : en_S} {S : Nat → en_B} {U : Nat → Int} {at' op fa : Nat → Nat} (h : zW X z N σ S U) (hV : vW X σ z sl va mk kd fs sn at' op fa A B) (hi : i < mk) (hfa : fa i ≠ 0 → serOk (kd i) (A i) (B i) ∧ U (28 + 3 * i + 2) = rfl' (kd i) (A i) (B i) (fa i) ∧ (U (28 + 3 * i + 2)).natAbs < BB ^ 200) (hn : vO σ' z (va i) (28 + 3 * i) (nI (kd i)) (A i) (B i) (nI (fs i)) (nI (sn i)) (nI (at' i)) 1 (nI (fa i))) (hf : ∀ q, q ≠ va i → look σ' q = look σ q) (e1 : σ'.1 = σ.1) (e2 : σ'.2.1 = σ.2.1) (hr : raw kd fs sn A B p (enc kd fs sn A B p) i = none) : Fld X z N sl va mk kd fs sn A B p i at' op fa σ S U σ' S U (un op i 1) fa := by
  have hb := hV.2.2.2.2.2 i hi
  refine ⟨h.ext hf (hV.at hi) (by decide) e1, hV.set hi ?_ hf e1 (fun j hj => ⟨rfl, un_n hj, rfl⟩) ⟨hb.2.2.2.1, by rw [un_s]; decide, hb.2.2.2.2.2⟩, Or.inl ⟨un_s, hr⟩, fun j hj => ⟨un_n hj, rfl⟩, hfa, fun _ _ _ _ _ => rfl, bw_Sx.put hf rfl e1 e2⟩
  rw [hn]
  show _ = some (vEi _ _ _ _ _ _ _ _ _ i)
  unfold vEi
  rw [un_s]; rfl
set_option maxHeartbeats 2000000 in
theorem E_fill {σ : en_S} {S : Nat → en_B} {U : Nat → Int} {at' op fa : Nat → Nat} {w8 w9 : Value} (hFL : FLok) (h : zW X z N σ S U) (ho : eO σ z e bn se) (hs : sO σ z se) (hV : vW X σ z sl va mk kd fs sn at' op fa A B) (hi : i < mk) (hN : N = 28 + 3 * mk) (hp1 : 1 ≤ p) (hp : p ≤ 480) (hok : ∀ j, j ≤ i → vOk kd fs sn A B j) (hop : op i = 0) (hfa : fa i ≠ 0 → serOk (kd i) (A i) (B i) ∧ U (28 + 3 * i + 2) = rfl' (kd i) (A i) (B i) (fa i) ∧ (U (28 + 3 * i + 2)).natAbs < BB ^ 200)
    (hpt : 5 ≤ kd i → w8 = .ref (va (fs i)) ∧ w9 = .ref (va (sn i)) ∧ enc kd fs sn A B p (fs i) = some (U (28 + 3 * fs i), U (28 + 3 * fs i + 1)) ∧ enc kd fs sn A B p (sn i) = some (U (28 + 3 * sn i), U (28 + 3 * sn i + 1)))
    (k : ∀ σ' S' U' op' fa', Fld X z N sl va mk kd fs sn A B p i at' op fa σ S U σ' S' U' op' fa' → WA X M_X2_enclosed ρ 269 (enL e sl v p M i (va i) w8 w9) [] σ' Q) :
    WA X M_X2_enclosed ρ 131 (enL e sl v p M i (va i) w8 w9) [] σ Q := by
  have hv : vO σ z (va i) (28 + 3 * i) (nI (kd i)) (A i) (B i) (nI (fs i)) (nI (sn i)) (nI (at' i)) 0 (nI (fa i)) := by
    have q := hV.at hi
    unfold vEi at q
    rw [hop] at q
    exact q
  have hvl := hV.lt hi
  have hb := hV.2.2.2.2.2 i hi
  have hvi := hok i (Nat.le_refl _)
  obtain ⟨o1, o2, o3, o4, o5, o6⟩ := hvi
  have hmk := hV.2.2.2.2.1
  obtain ⟨ho1, ho2, ho3, ho4⟩ := ho
  refine wa_aload q_X2_enclosed_131 rfl ?_
  refine wa_getf q_X2_enclosed_133 f_RX2_68 (by assumption) rfl ?_
  by_cases k0 : kd i = 0
  · rw [show nI (kd i) = nI 0 from by rw [k0]]
    refine wa_tabIn (tgt := 184) (off := 48) q_X2_enclosed_136 (by decide) (by decide) (by decide) (by decide) ?_
    have ha := o2 (by omega)
    refine wa_aload q_X2_enclosed_184 rfl ?_
    refine wa_iload_n q_X2_enclosed_186 rfl ?_
    refine wa_callS q_X2_enclosed_187 g_X2_enclosed_187 w_X2_fillWhole (av := [_, _]) rfl rfl (lk rfl) (Calls.mono (G_whole h hv hvl (by omega) ha.1 ha.2 hp) ?_)
    rintro _ σ1 ⟨rfl, g⟩
    obtain ⟨S', U', g⟩ := Fld.of h hV hop hfa g (raw_0 k0)
    refine wa_goto q_X2_enclosed_190 ?_
    exact k σ1 S' U' op fa g
  by_cases k1 : kd i = 1
  · rw [show nI (kd i) = nI 1 from by rw [k1]]
    refine wa_tabIn (tgt := 193) (off := 57) q_X2_enclosed_136 (by decide) (by decide) (by decide) (by decide) ?_
    have ha := o2 (by omega)
    have hb' := o3 k1
    refine wa_aload_n q_X2_enclosed_193 rfl ?_
    refine wa_aload q_X2_enclosed_194 rfl ?_
    refine wa_iload_n q_X2_enclosed_196 rfl ?_
    refine wa_callV q_X2_enclosed_197 g_X2_enclosed_197 w_X2_fillRatio (by assumption) rfl (av := [_, _]) rfl rfl (lk rfl) (Calls.mono (G_ratio h ⟨ho1, ho2, ho3, ho4⟩ hv hvl (by omega) (by omega) ha.1 ha.2 hb'.1 hb'.2.1 hb'.2.2 hp) ?_)
    rintro _ σ1 ⟨rfl, g⟩
    obtain ⟨S', U', g⟩ := Fld.of h hV hop hfa g (raw_1 k1)
    refine wa_goto q_X2_enclosed_200 ?_
    exact k σ1 S' U' op fa g
  by_cases k4 : kd i ≤ 4
  · have hso := o4 (by omega) k4
    have go : WA X M_X2_enclosed ρ 203 (enL e sl v p M i (va i) w8 w9) [] σ Q := by
      obtain ⟨s1, s2⟩ := hs
      refine wa_aload_n q_X2_enclosed_203 rfl ?_
      refine wa_getf q_X2_enclosed_204 f_RX2_21 (by assumption) rfl ?_
      refine wa_aload q_X2_enclosed_207 rfl ?_
      refine wa_iload_n q_X2_enclosed_209 rfl ?_
      refine wa_callV q_X2_enclosed_210 g_X2_enclosed_210 w_X4_refine (by assumption) rfl (av := [_, _]) rfl rfl (lk rfl) (Calls.mono (G_refine h ⟨s1, s2⟩ hv hvl hso (by omega) (by omega) hp hb.2.2.2.2.2) ?_)
      rintro _ σ1 ⟨rfl, S1, U1, q, w1, hv1, hq, hfr1, t1⟩
      have hq2 : p ≤ q ∧ q ≤ 480 ∧ U1 (28 + 3 * i + 2) = rfl' (kd i) (A i) (B i) q ∧ (U1 (28 + 3 * i + 2)).natAbs < BB ^ 200 := by
        rcases hq with ⟨c1, c2, c3⟩ | ⟨c1, c2, c3, c4⟩
        · have := hfa (by omega)
          subst c2
          exact ⟨c1, hb.2.2.2.2.2, c3.trans this.2.1, by rw [c3]; exact this.2.2⟩
        · subst c2
          exact ⟨Nat.le_refl _, hp, c3, c4⟩
      obtain ⟨c1, c2, c3, c4⟩ := hq2
      have hvl1 := Nat.lt_of_lt_of_le hvl t1.1
      refine wa_aload q_X2_enclosed_213 rfl ?_
      refine wa_iload_n q_X2_enclosed_215 rfl ?_
      refine wa_callS q_X2_enclosed_216 g_X2_enclosed_216 w_X2_fillFromFine (av := [_, _]) rfl rfl (lk rfl) (Calls.mono (G_fine w1 hv1 hvl1 (by omega) (by omega) c1 c2 c4) ?_)
      rintro _ σ2 ⟨rfl, S2, U2, w2, x1, x2, x3, t2⟩
      have hfl := hFL _ _ _ hso p q hp1 c1 c2
      rw [c3, hfl.1] at x1 x2
      have hv2 := bw_obj t2 w1.R hvl1 hv1 (by decide)
      have tt : bw_Sx (fun q => q = va i) (zD z N) σ S σ2 S2 := t1.tr t2.x
      have hV2 : vW X σ2 z sl va mk kd fs sn at' op (un fa i q) A B := hV.x tt h.R hi (by
        rw [hv2]
        show _ = some (vEi _ _ _ _ _ _ _ _ _ i)
        unfold vEi
        rw [un_s, hop]; rfl) (fun j hj => ⟨rfl, rfl, un_n hj⟩) ⟨hb.2.2.2.1, hb.2.2.2.2.1, by rw [un_s]; exact c2⟩
      have e2 : U2 (28 + 3 * i + 2) = U1 (28 + 3 * i + 2) := x3 _ (by omega) (by omega) (by omega)
      refine wa_goto q_X2_enclosed_219 ?_
      refine k σ2 S2 U2 op (un fa i q) ⟨w2, hV2, Or.inr ⟨hop, ?_⟩, fun j hj => ⟨rfl, un_n hj⟩, fun _ => ⟨hso, by rw [e2, c3, un_s], by rw [e2]; exact c4⟩, fun j j1 j2 j3 j4 => (x3 j (by omega) j2 j3).trans (hfr1 j (by omega) j4), tt⟩
      rw [raw_4 (by omega) k4, x1, x2]
      unfold grw
      have := hfl.2
      split
      · rename_i q0; rw [q0]; rfl
      · rw [if_neg (by omega)]
    have hc : kd i = 2 ∨ kd i = 3 ∨ kd i = 4 := by omega
    rcases hc with q | q | q
    · rw [show nI (kd i) = nI 2 from by rw [q]]
      exact wa_tabIn (tgt := 203) (off := 67) q_X2_enclosed_136 (by decide) (by decide) (by decide) (by decide) go
    · rw [show nI (kd i) = nI 3 from by rw [q]]
      exact wa_tabIn (tgt := 203) (off := 67) q_X2_enclosed_136 (by decide) (by decide) (by decide) (by decide) go
    · rw [show nI (kd i) = nI 4 from by rw [q]]
      exact wa_tabIn (tgt := 203) (off := 67) q_X2_enclosed_136 (by decide) (by decide) (by decide) (by decide) go
  obtain ⟨e8, e9, en1, en2⟩ := hpt (by omega)
  obtain ⟨f1, f2⟩ := o5 (by omega)
  subst e8
  subst e9
  have lb1 := lim_b ((enc_eq (hok (fs i) (by omega))).symm.trans en1)
  have lb2 := lim_b ((enc_eq (hok (sn i) (by omega))).symm.trans en2)
  have p8 := p800
  have z1 : (U (28 + 3 * fs i)).natAbs < BB ^ 90 := Nat.lt_of_lt_of_le lb1.2.1 p8
  have z2 : (U (28 + 3 * fs i + 1)).natAbs < BB ^ 90 := Nat.lt_of_lt_of_le lb1.2.2 p8
  have z3 : (U (28 + 3 * sn i)).natAbs < BB ^ 90 := Nat.lt_of_lt_of_le lb2.2.1 p8
  have z4 : (U (28 + 3 * sn i + 1)).natAbs < BB ^ 90 := Nat.lt_of_lt_of_le lb2.2.2 p8
  have hle := enc_le hFL hp1 hp (sn i) (fun j hj => hok j (by omega)) _ en2
  have hvf := hV.at (i := fs i) (by omega)
  have hlf := hV.lt (i := fs i) (by omega)
  have hvs := hV.at (i := sn i) (by omega)
  have hls := hV.lt (i := sn i) (by omega)
  have hraw := raw_5 (A := A) (B := B) (sn := sn) (fs := fs) (p := p) (E := enc kd fs sn A B p) (n := i) (show 5 ≤ kd i by omega)
  rw [en1, en2] at hraw
  simp only [] at hraw
  by_cases k5 : kd i = 5
  · rw [show nI (kd i) = nI 5 from by rw [k5]]
    rw [if_pos k5] at hraw
    refine wa_tabIn (tgt := 222) (off := 86) q_X2_enclosed_136 (by decide) (by decide) (by decide) (by decide) ?_
    refine wa_aload_n q_X2_enclosed_222 rfl ?_
    refine wa_aload q_X2_enclosed_223 rfl ?_
    refine wa_aload q_X2_enclosed_225 rfl ?_
    refine wa_iload_n q_X2_enclosed_227 rfl ?_
    refine wa_callV q_X2_enclosed_228 g_X2_enclosed_228 w_X2_fillRoot (by assumption) rfl (av := [_, _, _]) rfl rfl (lk rfl) (Calls.mono (G_root h ⟨ho1, ho2, ho3, ho4⟩ hv hvl hvf hlf (by omega) (by omega) (by omega) hp z1 z2) ?_)
    rintro _ σ1 ⟨rfl, hg⟩
    refine wa_goto q_X2_enclosed_231 ?_
    rcases hg with ⟨c1, c2, c3, c4, c5⟩ | ⟨c1, L, H, c2, c3⟩
    · rw [if_pos c1] at hraw
      exact k σ1 S U _ fa (Fld.opn h hV hi hfa c2 c3 c4 c5 hraw)
    · rw [if_neg (by omega)] at hraw
      obtain ⟨r1, r2⟩ := isRt_f c2
      rw [r1, r2] at c3
      obtain ⟨S', U', g⟩ := Fld.of h hV hop hfa c3 hraw
      exact k σ1 S' U' op fa g
  rw [if_neg k5] at hraw
  by_cases k6 : kd i = 6
  · rw [show nI (kd i) = nI 6 from by rw [k6]]
    rw [if_pos k6] at hraw
    refine wa_tabIn (tgt := 234) (off := 98) q_X2_enclosed_136 (by decide) (by decide) (by decide) (by decide) ?_
    refine wa_aload q_X2_enclosed_234 rfl ?_
    refine wa_aload q_X2_enclosed_236 rfl ?_
    refine wa_aload q_X2_enclosed_238 rfl ?_
    refine wa_callS q_X2_enclosed_240 g_X2_enclosed_240 w_X2_fillSum (av := [_, _, _]) rfl rfl (lk rfl) (Calls.mono (G_sum h hv hvl hvf hlf hvs hls (by omega) (by omega) (by omega) z1 z2 z3 z4) ?_)
    rintro _ σ1 ⟨rfl, g⟩
    obtain ⟨S', U', g⟩ := Fld.of h hV hop hfa g hraw
    refine wa_goto q_X2_enclosed_243 ?_
    exact k σ1 S' U' op fa g
  rw [if_neg k6] at hraw
  by_cases k7 : kd i = 7
  · rw [show nI (kd i) = nI 7 from by rw [k7]]
    rw [if_pos k7] at hraw
    refine wa_tabIn (tgt := 246) (off := 110) q_X2_enclosed_136 (by decide) (by decide) (by decide) (by decide) ?_
    refine wa_aload q_X2_enclosed_246 rfl ?_
    refine wa_aload q_X2_enclosed_248 rfl ?_
    refine wa_aload q_X2_enclosed_250 rfl ?_
    refine wa_callS q_X2_enclosed_252 g_X2_enclosed_252 w_X2_fillDifference (av := [_, _, _]) rfl rfl (lk rfl) (Calls.mono (G_diff h hv hvl hvf hlf hvs hls (by omega) (by omega) (by omega) z1 z2 z3 z4) ?_)
    rintro _ σ1 ⟨rfl, g⟩
    obtain ⟨S', U', g⟩ := Fld.of h hV hop hfa g hraw
    refine wa_goto q_X2_enclosed_255 ?_
    exact k σ1 S' U' op fa g
  rw [if_neg k7] at hraw
  have cor : ∀ dv : Bool, kd i = (if dv then 9 else 8) → (raw kd fs sn A B p (enc kd fs sn A B p) i = if dv = true ∧ (U (28 + 3 * sn i) ≤ 0 ∧ 0 ≤ U (28 + 3 * sn i + 1)) then none else some (crL dv p (U (28 + 3 * fs i)) (U (28 + 3 * fs i + 1)) (U (28 + 3 * sn i)) (U (28 + 3 * sn i + 1)), crH dv p (U (28 + 3 * fs i)) (U (28 + 3 * fs i + 1)) (U (28 + 3 * sn i)) (U (28 + 3 * sn i + 1)))) → WA X M_X2_enclosed ρ 258 (enL e sl v p M i (va i) (.ref (va (fs i))) (.ref (va (sn i)))) [] σ Q := by
    intro dv hkd hrw
    refine wa_aload_n q_X2_enclosed_258 rfl ?_
    refine wa_aload q_X2_enclosed_259 rfl ?_
    refine wa_aload q_X2_enclosed_261 rfl ?_
    refine wa_aload q_X2_enclosed_263 rfl ?_
    refine wa_iload_n q_X2_enclosed_265 rfl ?_
    refine wa_callV q_X2_enclosed_266 g_X2_enclosed_266 w_X2_fillCorners (by assumption) rfl (av := [_, _, _, _]) rfl rfl (lk rfl) (Calls.mono (G_corn (dv := dv) h ⟨ho1, ho2, ho3, ho4⟩ (by rw [hkd]) hv hvl hvf hlf hvs hls (by omega) (by omega) (by omega) (by omega) (by omega) hp z1 z2 z3 z4 hle) ?_)
    rintro _ σ1 ⟨rfl, hg⟩
    rcases hg with ⟨c0, c1, c2, c3, c4, c5⟩ | ⟨c1, c3⟩
    · rw [if_pos ⟨c0, c1⟩] at hrw
      exact k σ1 S U _ fa (Fld.opn h hV hi hfa c2 c3 c4 c5 hrw)
    · rw [if_neg (fun q => c1 q.1 q.2)] at hrw
      obtain ⟨S', U', g⟩ := Fld.of h hV hop hfa c3 hrw
      exact k σ1 S' U' op fa g
  by_cases k8 : kd i = 8
  · rw [show nI (kd i) = nI 8 from by rw [k8]]
    rw [if_pos k8] at hraw
    refine wa_tabOut (tgt := 258) q_X2_enclosed_136 (by decide) (by decide) ?_
    exact cor false k8 (by rw [hraw, if_neg (fun q => by cases q.1)])
  · have k9 : kd i = 9 := by omega
    rw [show nI (kd i) = nI 9 from by rw [k9]]
    rw [if_neg k8] at hraw
    refine wa_tabOut (tgt := 258) q_X2_enclosed_136 (by decide) (by decide) ?_
    refine cor true k9 ?_
    rw [hraw]
    simp only [true_and]
end encl
