/-! The reference: its other arrays; low; findFloor -/
abbrev gZ (X : en_X) (n : Nat) (P : Nat → Bool) : va_E := .inl (X.2.2.1.2.2.1, n, .inl (fun i => nI (if P i then 1 else 0)))
def upB (P : Nat → Bool) (j : Nat) (b : Bool) : Nat → Bool := fun i => if i = j then b else P i
def upL (f : Nat → Int64) (j : Nat) (x : Int64) : Nat → Int64 := fun i => if i = j then x else f i
theorem upB_s {P : Nat → Bool} {j : Nat} {b : Bool} : upB P j b j = b := if_pos rfl
theorem upB_n {P : Nat → Bool} {i j : Nat} {b : Bool} (h : i ≠ j) : upB P j b i = P i := if_neg h
theorem upL_s {f : Nat → Int64} {j : Nat} {x : Int64} : upL f j x j = x := if_pos rfl
theorem upL_n {f : Nat → Int64} {i j : Nat} {x : Int64} (h : i ≠ j) : upL f j x i = f i := if_neg h
section ref22
variable {X : en_X} {y : en_M} {ρ σ τ : en_S} {pc nx : Nat} {lv : List (Nat × Value)} {st : List Value} {Q : Option Value → en_S → Prop}
theorem wn_zald {a j n : Nat} {P : Nat → Bool} (q : decode y.2.1 pc = .ok (.baload, 1) ∧ pc + 1 = nx) (h : look σ a = some (gZ X n P)) (hj : j < n ∧ n < 2 ^ 31) (k : WA X y ρ nx lv (.int (nI (if P j then 1 else 0)) :: st) σ Q) : WA X y ρ pc lv (.int (nI j) :: .ref a :: st) σ Q :=
  wa_zald q h (vp_in_nI hj.1 hj.2) (by rw [nI_clamp (by omega)]; exact k)
theorem zn_01 (b : Bool) : vp_nar .boolean (nI (if b then 1 else 0)) = nI (if b then 1 else 0) := by cases b <;> decide
theorem wn_zast {a j n : Nat} {P : Nat → Bool} {b : Bool} (q : decode y.2.1 pc = .ok (.bastore, 1) ∧ pc + 1 = nx) (h : look σ a = some (gZ X n P)) (hj : j < n ∧ n < 2 ^ 31)
    (kw : ∀ σ1 : en_S, look σ1 a = some (gZ X n (upB P j b)) → (∀ c, c ≠ a → look σ1 c = look σ c) → σ1.1 = σ.1 → σ1.2.1 = σ.2.1 → WA X y ρ nx lv st σ1 Q) : WA X y ρ pc lv (.int (nI (if b then 1 else 0)) :: .int (nI j) :: .ref a :: st) σ Q := by
  refine wa_zast q h (vp_in_nI hj.1 hj.2) ?_
  rw [nI_clamp (by omega), zn_01]
  have e : upd (fun i => nI (if P i then 1 else 0)) j (nI (if b then 1 else 0)) = fun i => nI (if upB P j b i then 1 else 0) := by
    funext i
    show (if i = j then nI (if b then 1 else 0) else nI (if P i then 1 else 0)) = nI (if (if i = j then b else P i) then 1 else 0)
    by_cases w : i = j
    · rw [if_pos w, if_pos w]
    · rw [if_neg w, if_neg w]
  rw [e]
  exact kw _ (look_same h) (fun _ hb => look_ne hb) rfl rfl
theorem wn_glast {a j n : Nat} {x : Int64} {f : Nat → Int64} (q : decode y.2.1 pc = .ok (.lastore, 1) ∧ pc + 1 = nx) (h : look σ a = some (gL X n f)) (hj : j < n ∧ n < 2 ^ 31)
    (kw : ∀ σ1 : en_S, look σ1 a = some (gL X n (upL f j x)) → (∀ b, b ≠ a → look σ1 b = look σ b) → σ1.1 = σ.1 → σ1.2.1 = σ.2.1 → WA X y ρ nx lv st σ1 Q) : WA X y ρ pc lv (.long x :: .int (nI j) :: .ref a :: st) σ Q := by
  refine wa_last q h (vp_in_nI hj.1 hj.2) ?_
  rw [nI_clamp (by omega)]
  have e : vp_updL f j x = upL f j x := rfl
  rw [e]
  exact kw _ (look_same h) (fun _ hb => look_ne hb) rfl rfl
end ref22
def arrs : List Nat := [1, 2, 3, 4, 5, 6, 7, 8, 11, 14]
def mD (M : Nat → Nat) : Prop := ∀ i, i ∈ arrs → ∀ j, j ∈ arrs → i ≠ j → M i ≠ M j
/-- kinds, ones, twos, isOpen, needed, parts, found -/
def mA (X : en_X) (σ : en_S) (M : Nat → Nat) (K : Nat → Int32) (N1 N2 : Nat → Int64) (Op Nd : Nat → Bool) (Pa Fo : Nat → Int64) : Prop :=
  look σ (M 4) = some (gA X 60 K) ∧ look σ (M 5) = some (gL X 60 N1) ∧ look σ (M 6) = some (gL X 60 N2) ∧ look σ (M 7) = some (gZ X 60 Op) ∧ look σ (M 8) = some (gZ X 60 Nd) ∧ look σ (M 11) = some (gL X 40 Pa) ∧ look σ (M 14) = some (gL X 40 Fo) ∧ mD M
section ref23
variable {X : en_X} {σ τ : en_S} {M : Nat → Nat} {O : Int32 × Int32 × Int32 × Int32 × Int32} {C Z : Nat → Nat} {G : Nat → Int32} {V : Nat → Int} {K : Nat → Int32} {N1 N2 Pa Fo : Nat → Int64} {Op Nd : Nat → Bool}
theorem mD.no {i : Nat} (h : mD M) (hi : i ∈ arrs) (h3 : 3 < i) : M i ≠ M 1 ∧ M i ≠ M 2 ∧ M i ≠ M 3 := ⟨h i hi 1 (by decide) (by omega), h i hi 2 (by decide) (by omega), h i hi 3 (by decide) (by omega)⟩
theorem mA.st (h : mA X σ M K N1 N2 Op Nd Pa Fo) (s : mSt M σ τ) : mA X τ M K N1 N2 Op Nd Pa Fo := by
  obtain ⟨h4, h5, h6, h7, h8, h11, h14, hD⟩ := h
  have g : ∀ i, i ∈ arrs → 3 < i → look τ (M i) = look σ (M i) := fun i hi h3 => s.1 _ (hD.no hi h3).1 (hD.no hi h3).2.1 (hD.no hi h3).2.2
  exact ⟨(g 4 (by decide) (by decide)).trans h4, (g 5 (by decide) (by decide)).trans h5, (g 6 (by decide) (by decide)).trans h6, (g 7 (by decide) (by decide)).trans h7, (g 8 (by decide) (by decide)).trans h8, (g 11 (by decide) (by decide)).trans h11, (g 14 (by decide) (by decide)).trans h14, hD⟩
theorem R_low {v : Nat} : Calls X M_X7_low [.int (nI v)] σ (fun res τ => res = some (.int (nI (20 + 2 * v))) ∧ τ = σ) := by
  refine Calls.of rfl (lk rfl) ?_
  refine wa_bipush q_X7_low_0 (v := nI 20) (by decide) ?_
  refine wa_iconst q_X7_low_2 (v := nI 2) (by decide) ?_
  refine wa_iload_n q_X7_low_3 rfl ?_
  refine wn_imul q_X7_low_4 ?_
  refine wn_iadd q_X7_low_5 ?_
  refine wa_iret q_X7_low_6 rfl ?_
  exact ⟨rfl, rfl⟩
end ref23
/-- what the two sums give at T, and how far off; the two floors at a widening m -/
def ffG (kd : Nat) (a b : Int) (T : Nat) : Int := if kd = 4 then pwS a b.toNat T else (mmGo a.toNat (decide (kd = 2)) 3000 0 (T / a.toNat) 0).1
def ffO (kd : Nat) (a b : Int) (T : Nat) : Nat := if kd = 4 then pwO a b.toNat T else 4 * (mmGo a.toNat (decide (kd = 2)) 3000 0 (T / a.toNat) 0).2 + 8
def ffL (kd : Nat) (a b : Int) (p m : Nat) : Int := qdn (ffG kd a b (10 ^ (p + m)) - (ffO kd a b (10 ^ (p + m)) : Int)) (10 ^ m)
def ffH (kd : Nat) (a b : Int) (p m : Nat) : Int := qdn (ffG kd a b (10 ^ (p + m)) + (ffO kd a b (10 ^ (p + m)) : Int)) (10 ^ m)
def ffGo (kd : Nat) (a b : Int) (p : Nat) : Nat → Nat → Int
  | 0, m => ffL kd a b p m
  | n + 1, m => if ffL kd a b p m = ffH kd a b p m then ffL kd a b p m else ffGo kd a b p n (m + 18)
theorem t_140 {k : Nat} (h : k ≤ 1250) : 10 ^ k < BB ^ 140 := by
  refine Nat.lt_of_le_of_lt (Nat.pow_le_pow_right (by decide) h) ?_
  rw [show BB ^ 140 = (10 ^ 9) ^ 140 from rfl, ← Nat.pow_mul]
  exact (Nat.pow_lt_pow_iff_right (by decide)).mpr (by decide)
section ref24
variable {X : en_X} {M : Nat → Nat} {O : Int32 × Int32 × Int32 × Int32 × Int32} {K : Nat → Int32} {N1 N2 Pa Fo : Nat → Int64} {Op Nd : Nat → Bool} {kd u p : Nat} {a b : Int}
set_option maxHeartbeats 1000000 in
theorem ff_body {ρ σ0 σ : en_S} {C Z : Nat → Nat} {G : Nat → Int32} {V V0 : Nat → Int} {m : Nat} {Q : Option Value → en_S → Prop} (hok : serOk kd a b) (ha0 : kd = 4 → a ≠ 0) (hu : u < 60) (hp : p ≤ 480) (hm0 : 0 < m) (hm : m ≤ 750) (hK : K u = nI kd) (hN1 : N1 u = lZ a) (hN2 : kd = 4 → N2 u = lZ b) (h : rV X σ M O C Z G V) (hA : mA X σ M K N1 N2 Op Nd Pa Fo) (hS : mSt M σ0 σ) (vo : ∀ s, 12 ≤ s → V s = V0 s)
    (kn : ∀ (τ : en_S) (C1 Z1 : Nat → Nat) (G1 : Nat → Int32) (V1 : Nat → Int) (o : Int64), rV X τ M O C1 Z1 G1 V1 → mA X τ M K N1 N2 Op Nd Pa Fo → V1 3 = ffL kd a b p m → (V1 3).natAbs < BB ^ 290 → (∀ s, 12 ≤ s → V1 s = V0 s) → mSt M σ0 τ → WA X M_X7_findFloor ρ 12 [(5, .int (nI (if ffL kd a b p m = ffH kd a b p m then 1 else 0))), (4, .int (nI (m + 18))), (3, .int (nI (20 + 2 * u))), (0, .ref (M 0)), (1, .int (nI u)), (2, .int (nI p))] [] τ Q) :
    WA X M_X7_findFloor ρ 12 [(5, .int (nI 0)), (4, .int (nI m)), (3, .int (nI (20 + 2 * u))), (0, .ref (M 0)), (1, .int (nI u)), (2, .int (nI p))] [] σ Q := by
  have hB : BB = 1000000000 := rfl
  obtain ⟨a0, a1, a2, a3, n1, n2, n3⟩ := id h.1
  refine wa_iload q_X7_findFloor_12 rfl ?_
  refine wn_if_ne q_X7_findFloor_14 (by decide) (fun z => absurd z (by decide)) (fun _ => ?_)
  refine wa_aload_n q_X7_findFloor_17 rfl ?_
  refine wa_bipush q_X7_findFloor_18 (v := nI 7) (by decide) ?_
  refine wa_iload_n q_X7_findFloor_20 rfl ?_
  refine wa_iload q_X7_findFloor_21 rfl ?_
  refine wn_iadd q_X7_findFloor_23 ?_
  refine wa_callV q_X7_findFloor_24 g_X7_findFloor_24 w_X7_powerOfTen (by assumption) rfl (av := [_, _]) rfl rfl (lk rfl) (Calls.mono (R_pten h (r := 7) (p := p + m) (by decide) (by omega)) ?_)
  rintro _ σ1 ⟨rfl, C1, Z1, G1, h1, s1⟩
  have hA1 := hA.st s1
  obtain ⟨k4, k5, k6, k7, k8, k11, k14, hD⟩ := id hA1
  obtain ⟨b0, b1, b2, b3, -⟩ := id h1.1
  have hT : 10 ^ (p + m) < BB ^ 140 := t_140 (by omega)
  have hT0 : 0 < 10 ^ (p + m) := Nat.pow_pos (by decide)
  have e7 : uV V 7 (10 ^ (p + m)) 7 = ((10 ^ (p + m) : Nat) : Int) := by rw [uV_s]; exact (Int.natCast_pow 10 (p + m)).symm
  have eo1 : ∀ s, 12 ≤ s → uV V 7 (10 ^ (p + m)) s = V0 s := fun s hs => by rw [uV_n (by omega)]; exact vo s hs
  have main : ∀ (τ : en_S) (C' Z' : Nat → Nat) (G' : Nat → Int32) (V' : Nat → Int), rV X τ M O C' Z' G' V' → V' 6 = ffG kd a b (10 ^ (p + m)) → (V' 6).natAbs < BB ^ 289 → ffO kd a b (10 ^ (p + m)) ≤ 2000000 → (∀ s, 12 ≤ s → V' s = V0 s) → mSt M σ1 τ → WA X M_X7_findFloor ρ 50 [(5, .int (nI 0)), (4, .int (nI m)), (3, .int (nI (20 + 2 * u))), (0, .ref (M 0)), (1, .int (nI u)), (2, .int (nI p))] [.long (lN (ffO kd a b (10 ^ (p + m))))] τ Q := by
    intro τ C2 Z2 G2 V2 h2 v6 z6 zo vo2 s2
    have eL : ffL kd a b p m = qdn (ffG kd a b (10 ^ (p + m)) - (ffO kd a b (10 ^ (p + m)) : Int)) (10 ^ m) := rfl
    have eH : ffH kd a b p m = qdn (ffG kd a b (10 ^ (p + m)) + (ffO kd a b (10 ^ (p + m)) : Int)) (10 ^ m) := rfl
    rw [eL, eH] at kn
    rw [v6] at z6
    generalize ffG kd a b (10 ^ (p + m)) = g at *
    generalize ffO kd a b (10 ^ (p + m)) = o at *
    obtain ⟨c0, c1, c2, c3, -⟩ := id h2.1
    refine wa_lstore q_X7_findFloor_50 (by decide) ?_
    refine wa_aload_n q_X7_findFloor_52 rfl ?_
    refine wa_bipush q_X7_findFloor_53 (v := nI 7) (by decide) ?_
    refine wa_iload q_X7_findFloor_55 rfl ?_
    refine wa_callV q_X7_findFloor_57 g_X7_findFloor_57 w_X7_powerOfTen (by assumption) rfl (av := [_, _]) rfl rfl (lk rfl) (Calls.mono (R_pten h2 (r := 7) (p := m) (by decide) (by omega)) ?_)
    rintro _ σ3 ⟨rfl, C3, Z3, G3, h3, s3⟩
    obtain ⟨d0, d1, d2, d3, -⟩ := id h3.1
    refine wa_aload_n q_X7_findFloor_60 rfl ?_
    refine wa_bipush q_X7_findFloor_61 (v := nI 11) (by decide) ?_
    refine wa_lload q_X7_findFloor_63 rfl ?_
    rw [lN_lZ]
    refine wa_callV q_X7_findFloor_65 g_X7_findFloor_65 w_X7_setTo (by assumption) rfl (av := [_, _]) rfl rfl (lk rfl) (Calls.mono (R_set h3 (r := 11) (v := (o : Int)) (by decide) (by omega) (by omega)) ?_)
    rintro _ σ4 ⟨rfl, C4, Z4, G4, h4, s4⟩
    have w6 : uV (uV V2 7 (10 ^ m)) 11 (o : Int) 6 = g := by rw [uV_n (by decide), uV_n (by decide)]; exact v6
    have w7 : uV (uV V2 7 (10 ^ m)) 11 (o : Int) 7 = 10 ^ m := by rw [uV_n (by decide), uV_s]
    have w11 : uV (uV V2 7 (10 ^ m)) 11 (o : Int) 11 = (o : Int) := uV_s
    have wo : ∀ s, 12 ≤ s → uV (uV V2 7 (10 ^ m)) 11 (o : Int) s = V0 s := fun s hs => by rw [uV_n (by omega), uV_n (by omega)]; exact vo2 s hs
    generalize uV (uV V2 7 (10 ^ m)) 11 (o : Int) = V4 at *
    have zo2 : (o : Int).natAbs < BB ^ 1 := by rw [Int.natAbs_natCast, Nat.pow_one]; omega
    have zo3 : (o : Int).natAbs < BB ^ 300 := Nat.lt_of_lt_of_le zo2 (pw_mono (by decide))
    have zg3 : g.natAbs < BB ^ 300 := Nat.lt_of_lt_of_le z6 (pw_mono (by decide))
    have h290 : BB ^ 289 + BB ^ 1 ≤ BB ^ 290 := by
      have x1 : BB ^ 1 ≤ BB ^ 289 := pw_mono (by decide)
      have x2 : BB ^ 290 = BB ^ 289 * BB := Nat.pow_succ ..
      rw [x2, hB]
      rw [hB] at x1
      generalize (1000000000 : Nat) ^ 289 = y at *
      omega
    have zs1 : (g + -1 * (o : Int)).natAbs < BB ^ 290 := by omega
    have zs2 : (g + 1 * (o : Int)).natAbs < BB ^ 290 := by omega
    have zm : ((10 : Int) ^ m).natAbs < BB ^ 290 := by
      rw [Int.natAbs_pow]
      exact Nat.lt_of_lt_of_le (t_140 (by omega)) (pw_mono (by decide))
    have zm0 : ((10 : Int) ^ m) ≠ 0 := fun e => by
      have : (0 : Int) < 10 ^ m := Int.pow_pos (by decide)
      omega
    obtain ⟨f0, f1, f2, f3, -⟩ := id h4.1
    refine wa_aload_n q_X7_findFloor_68 rfl ?_
    refine wa_iconst q_X7_findFloor_69 (v := nI 2) (by decide) ?_
    refine wa_bipush q_X7_findFloor_70 (v := nI 6) (by decide) ?_
    refine wa_bipush q_X7_findFloor_72 (v := nI 11) (by decide) ?_
    refine wa_iconst q_X7_findFloor_74 (v := sgI (-1)) (by decide) ?_
    refine wa_callV q_X7_findFloor_75 g_X7_findFloor_75 w_X7_addTo (by assumption) rfl (av := [_, _, _, _]) rfl rfl (lk rfl) (Calls.mono (R_addT h4 (r := 2) (a := 6) (b := 11) (by decide) (by decide) (by decide) (Or.inr rfl) (by rw [w6]; exact zg3) (by rw [w11]; exact zo3)) ?_)
    rintro _ σ5 ⟨rfl, C5, Z5, G5, h5, s5⟩
    rw [w6, w11] at h5
    have x2 : uV V4 2 (g + -1 * (o : Int)) 2 = g + -1 * (o : Int) := uV_s
    have x7 : uV V4 2 (g + -1 * (o : Int)) 7 = 10 ^ m := by rw [uV_n (by decide)]; exact w7
    obtain ⟨i0, i1, i2, i3, -⟩ := id h5.1
    refine wa_aload_n q_X7_findFloor_78 rfl ?_
    refine wa_iconst q_X7_findFloor_79 (v := nI 3) (by decide) ?_
    refine wa_iconst q_X7_findFloor_80 (v := nI 2) (by decide) ?_
    refine wa_bipush q_X7_findFloor_81 (v := nI 7) (by decide) ?_
    refine wa_iconst q_X7_findFloor_83 (v := nI 0) (by decide) ?_
    refine wa_callV q_X7_findFloor_84 g_X7_findFloor_84 w_X7_rounded (by assumption) rfl (av := [_, _, _, _]) rfl rfl (lk rfl) (Calls.mono (R_rnd (up := false) h5 (r := 3) (a := 2) (b := 7) (by decide) (by decide) (by decide) (by decide) (by decide) (by decide) (by decide) (by rw [x7]; exact zm0) (by rw [x2]; exact zs1) (by rw [x7]; exact zm)) ?_)
    rintro _ σ6 ⟨rfl, C6, Z6, G6, V6, h6, y3, yo, s6⟩
    rw [x2, x7] at y3
    have y6 : V6 6 = g := by rw [yo 6 (by decide) (by decide) (by decide), uV_n (by decide)]; exact w6
    have y11 : V6 11 = (o : Int) := by rw [yo 11 (by decide) (by decide) (by decide), uV_n (by decide)]; exact w11
    have y7 : V6 7 = 10 ^ m := by rw [yo 7 (by decide) (by decide) (by decide)]; exact x7
    obtain ⟨j0, j1, j2, j3, -⟩ := id h6.1
    refine wa_aload_n q_X7_findFloor_87 rfl ?_
    refine wa_iconst q_X7_findFloor_88 (v := nI 2) (by decide) ?_
    refine wa_bipush q_X7_findFloor_89 (v := nI 6) (by decide) ?_
    refine wa_bipush q_X7_findFloor_91 (v := nI 11) (by decide) ?_
    refine wa_iconst q_X7_findFloor_93 (v := sgI 1) (by decide) ?_
    refine wa_callV q_X7_findFloor_94 g_X7_findFloor_94 w_X7_addTo (by assumption) rfl (av := [_, _, _, _]) rfl rfl (lk rfl) (Calls.mono (R_addT h6 (r := 2) (a := 6) (b := 11) (by decide) (by decide) (by decide) (Or.inl rfl) (by rw [y6]; exact zg3) (by rw [y11]; exact zo3)) ?_)
    rintro _ σ7 ⟨rfl, C7, Z7, G7, h7, s7⟩
    rw [y6, y11] at h7
    have u2 : uV V6 2 (g + 1 * (o : Int)) 2 = g + 1 * (o : Int) := uV_s
    have u7 : uV V6 2 (g + 1 * (o : Int)) 7 = 10 ^ m := by rw [uV_n (by decide)]; exact y7
    obtain ⟨l0, l1, l2, l3, -⟩ := id h7.1
    refine wa_aload_n q_X7_findFloor_97 rfl ?_
    refine wa_iconst q_X7_findFloor_98 (v := nI 4) (by decide) ?_
    refine wa_iconst q_X7_findFloor_99 (v := nI 2) (by decide) ?_
    refine wa_bipush q_X7_findFloor_100 (v := nI 7) (by decide) ?_
    refine wa_iconst q_X7_findFloor_102 (v := nI 0) (by decide) ?_
    refine wa_callV q_X7_findFloor_103 g_X7_findFloor_103 w_X7_rounded (by assumption) rfl (av := [_, _, _, _]) rfl rfl (lk rfl) (Calls.mono (R_rnd (up := false) h7 (r := 4) (a := 2) (b := 7) (by decide) (by decide) (by decide) (by decide) (by decide) (by decide) (by decide) (by rw [u7]; exact zm0) (by rw [u2]; exact zs2) (by rw [u7]; exact zm)) ?_)
    rintro _ σ8 ⟨rfl, C8, Z8, G8, V8, h8, t4, to', s8⟩
    rw [u2, u7] at t4
    have t3 : V8 3 = qdn (g + -1 * (o : Int)) (10 ^ m) := by rw [to' 3 (by decide) (by decide) (by decide), uV_n (by decide)]; exact y3
    have hq := (qdn_le (g + -1 * (o : Int)) (10 ^ m)).1
    have e1 : g + -1 * (o : Int) = g - (o : Int) := by omega
    have e2 : g + 1 * (o : Int) = g + (o : Int) := by omega
    have t4 : V8 4 = qdn (g + 1 * (o : Int)) (10 ^ m) := t4
    have zq : (V8 3).natAbs < BB ^ 290 := by
      rw [t3]
      refine Nat.lt_of_le_of_lt hq ?_
      have w1 : 2 ≤ ((10 : Int) ^ m).natAbs := by
        rw [Int.natAbs_pow]
        exact Nat.le_trans (show 2 ≤ 10 ^ 1 by decide) (Nat.pow_le_pow_right (by decide) hm0)
      have w2 := Nat.div_le_div_left (a := (g + -1 * (o : Int)).natAbs) w1 (by decide)
      have w3 : BB ^ 1 ≤ BB ^ 290 := pw_mono (by decide)
      omega
    have hA8 := hA1.st (s2.tr (s3.tr (s4.tr (s5.tr (s6.tr (s7.tr s8))))))
    rw [e1] at t3
    rw [e2] at t4
    obtain ⟨r0, r1, r2, r3, -⟩ := id h8.1
    have vo8 : ∀ s, 12 ≤ s → V8 s = V0 s := fun s hs => by rw [to' s (by omega) (by omega) (by omega), uV_n (by omega), yo s (by omega) (by omega) (by omega), uV_n (by omega)]; exact wo s hs
    have kk := kn σ8 C8 Z8 G8 V8 (lN o) h8 hA8 t3 zq vo8 (hS.tr (s1.tr (s2.tr (s3.tr (s4.tr (s5.tr (s6.tr (s7.tr s8))))))))
    rw [← t3, ← t4] at kk
    refine wa_aload_n q_X7_findFloor_106 rfl ?_
    refine wa_iconst q_X7_findFloor_107 (v := nI 3) (by decide) ?_
    refine wa_iconst q_X7_findFloor_108 (v := nI 4) (by decide) ?_
    refine wa_callV q_X7_findFloor_109 g_X7_findFloor_109 w_X7_compareTo (by assumption) rfl (av := [_, _]) rfl rfl (lk rfl) (Calls.mono (R_cmp h8 (a := 3) (b := 4) (by decide) (by decide)) ?_)
    rintro _ _ ⟨⟨w, rfl, wl, wh, w0, w00⟩, rfl⟩
    have hz : iZ w = 0 ↔ V8 3 = V8 4 := by
      rw [← w00, show (0 : Int32) = iZ 0 from rfl]
      exact iZ_eq wl wh (by decide) (by decide)
    refine wa_if_ne q_X7_findFloor_112 (fun z => ?_) (fun z => ?_)
    · refine wa_iconst q_X7_findFloor_119 (v := nI 0) (by decide) ?_
      refine wa_istore q_X7_findFloor_120 (by decide) ?_
      refine wa_iinc q_X7_findFloor_122 rfl (v := nI (m + 18)) (show nI m + nI 18 = nI (m + 18) by rw [nI_add]) (by decide) ?_
      refine wa_goto q_X7_findFloor_125 ?_
      rw [if_neg (fun q => z (hz.mpr q))] at kk
      exact wa_lv kk rfl
    · refine wa_iconst q_X7_findFloor_115 (v := nI 1) (by decide) ?_
      refine wa_goto q_X7_findFloor_116 ?_
      refine wa_istore q_X7_findFloor_120 (by decide) ?_
      refine wa_iinc q_X7_findFloor_122 rfl (v := nI (m + 18)) (show nI m + nI 18 = nI (m + 18) by rw [nI_add]) (by decide) ?_
      refine wa_goto q_X7_findFloor_125 ?_
      rw [if_pos (hz.mp z)] at kk
      exact wa_lv kk rfl
  refine wa_aload_n q_X7_findFloor_27 rfl ?_
  refine wa_getf q_X7_findFloor_28 f_RX7_20 (by assumption) rfl ?_
  refine wa_iload_n q_X7_findFloor_31 rfl ?_
  refine wn_gald q_X7_findFloor_32 (by assumption) (by omega) ?_
  rw [hK]
  refine wa_iconst q_X7_findFloor_33 (v := nI 4) (by decide) ?_
  rcases hok with ⟨rfl, hb, hb2, ha⟩ | ⟨hk, ha, ha2⟩
  · refine wn_icmp_ne q_X7_findFloor_34 (by decide) (by decide) (fun z => absurd rfl z) (fun _ => ?_)
    have eb : lZ b = lN b.toNat := by rw [lN_lZ]; congr 1; omega
    refine wa_aload_n q_X7_findFloor_37 rfl ?_
    refine wa_iload_n q_X7_findFloor_38 rfl ?_
    refine wa_callV q_X7_findFloor_39 g_X7_findFloor_39 w_X7_sumOfPower (by assumption) rfl (av := [_]) rfl rfl (lk rfl) (Calls.mono (R_pow h1 (a := a) (b := b.toNat) (u := u) (T := 10 ^ (p + m)) (ha0 rfl) (by omega) (by omega) ha hu hN1 ((hN2 rfl).trans eb) hT0 hT e7 (hD.no (by decide) (by decide)).1 (hD.no (by decide) (by decide)).2.1 (hD.no (by decide) (by decide)).2.2 k5 k6) ?_)
    rintro _ τ ⟨rfl, zo, C', Z', G', V', g1, g2, g3, g4, g5⟩
    refine wa_goto q_X7_findFloor_42 ?_
    exact wa_lv (main τ C' Z' G' V' g1 g2 (by rw [g2]; exact g3) zo (fun s hs => by rw [g4 s (by omega) (by omega) (by omega)]; exact eo1 s hs) g5) rfl
  · have hk4 : kd ≠ 4 := by omega
    refine wn_icmp_ne q_X7_findFloor_34 (by omega) (by decide) (fun _ => ?_) (fun z => absurd z hk4)
    have ea : lZ a = lN a.toNat := by rw [lN_lZ]; congr 1; omega
    have eG : ffG kd a b (10 ^ (p + m)) = (mmGo a.toNat (decide (kd = 2)) 3000 0 (10 ^ (p + m) / a.toNat) 0).1 := if_neg hk4
    have eO : ffO kd a b (10 ^ (p + m)) = 4 * (mmGo a.toNat (decide (kd = 2)) 3000 0 (10 ^ (p + m) / a.toNat) 0).2 + 8 := if_neg hk4
    have hKu : decide (kd = 2) = true ↔ K u = nI 2 := by
      rw [hK, decide_eq_true_iff]
      constructor
      · intro e; rw [e]
      · intro e
        rcases hk with q | q
        · exact q
        · rw [q] at e; exact absurd e (by decide)
    refine wa_aload_n q_X7_findFloor_45 rfl ?_
    refine wa_iload_n q_X7_findFloor_46 rfl ?_
    refine wa_callV q_X7_findFloor_47 g_X7_findFloor_47 w_X7_sumOfMembers (by assumption) rfl (av := [_]) rfl rfl (lk rfl) (Calls.mono (R_mem h1 (x := a.toNat) (u := u) (T := 10 ^ (p + m)) (alt := decide (kd = 2)) (by omega) (by omega) hu hKu (hN1.trans ea) (Nat.lt_of_lt_of_le hT (pw_mono (by decide))) e7 (hD.no (by decide) (by decide)).1 (hD.no (by decide) (by decide)).2.1 (hD.no (by decide) (by decide)).2.2 k4 k5) ?_)
    rintro _ τ ⟨rfl, zo, zg, C', Z', G', V', g1, g2, g4, g5⟩
    rw [← eO]
    have zT : 100000 * 10 ^ (p + m) < BB ^ 289 := by
      have x1 : 100000 * 10 ^ (p + m) < BB * BB ^ 140 := Nat.mul_lt_mul_of_le_of_lt (by decide) hT (by decide)
      rw [show BB * BB ^ 140 = BB ^ 141 from (Nat.pow_succ' ..).symm] at x1
      exact Nat.lt_of_lt_of_le x1 (pw_mono (by decide))
    exact wa_lv (main τ C' Z' G' V' g1 (by rw [g2, eG]) (by rw [g2]; exact Nat.lt_of_le_of_lt zg zT) (by rw [eO]; omega) (fun s hs => by rw [g4 s (by omega)]; exact eo1 s hs) g5) rfl
theorem ff_loop {ρ σ0 : en_S} {V0 : Nat → Int} {Q : Option Value → en_S → Prop} (hok : serOk kd a b) (ha0 : kd = 4 → a ≠ 0) (hu : u < 60) (hp : p ≤ 480) (hK : K u = nI kd) (hN1 : N1 u = lZ a) (hN2 : kd = 4 → N2 u = lZ b) :
    ∀ (n m : Nat) (σ : en_S) (C Z : Nat → Nat) (G : Nat → Int32) (V : Nat → Int), m + 18 * n ≤ 750 → 0 < m → (∃ j, j ≤ n ∧ ffL kd a b p (m + 18 * j) = ffH kd a b p (m + 18 * j)) → rV X σ M O C Z G V → mA X σ M K N1 N2 Op Nd Pa Fo → mSt M σ0 σ → (∀ s, 12 ≤ s → V s = V0 s) →
      (∀ (τ : en_S) (C1 Z1 : Nat → Nat) (G1 : Nat → Int32) (V1 : Nat → Int), rV X τ M O C1 Z1 G1 V1 → V1 (20 + 2 * u) = ffGo kd a b p n m → (V1 (20 + 2 * u)).natAbs < BB ^ 290 → (∀ s, 12 ≤ s → s ≠ 20 + 2 * u → V1 s = V0 s) → mSt M σ0 τ → Q none τ) →
      WA X M_X7_findFloor ρ 12 [(5, .int (nI 0)), (4, .int (nI m)), (3, .int (nI (20 + 2 * u))), (0, .ref (M 0)), (1, .int (nI u)), (2, .int (nI p))] [] σ Q := by
  intro n
  induction n with
  | zero =>
    intro m σ C Z G V hm hm0 hE h hA hS vo k
    obtain ⟨j, hj, hj2⟩ := hE
    have e : j = 0 := by omega
    subst e
    refine ff_body hok ha0 hu hp hm0 (by omega) hK hN1 hN2 h hA hS vo (fun τ C1 Z1 G1 V1 o h1 hA1 v3 z3 vo1 s1 => ?_)
    have hj2 : ffL kd a b p m = ffH kd a b p m := hj2
    rw [if_pos hj2]
    obtain ⟨a0, a1, a2, a3, -⟩ := id h1.1
    refine wa_iload q_X7_findFloor_12 rfl ?_
    refine wn_if_ne q_X7_findFloor_14 (by decide) (fun _ => ?_) (fun z => absurd z (by decide))
    refine wa_aload_n q_X7_findFloor_128 rfl ?_
    refine wa_iconst q_X7_findFloor_129 (v := nI 3) (by decide) ?_
    refine wa_iload_n q_X7_findFloor_130 rfl ?_
    refine wa_callV q_X7_findFloor_131 g_X7_findFloor_131 w_X7_copyTo (by assumption) rfl (av := [_, _]) rfl rfl (lk rfl) (Calls.mono (R_copy h1 (a := 3) (b := 20 + 2 * u) (by decide) (by omega)) ?_)
    rintro _ σ2 ⟨rfl, C2, Z2, G2, h2, s2⟩
    refine wa_vret q_X7_findFloor_134 rfl ?_
    exact k σ2 C2 Z2 G2 _ h2 (by rw [uV_s]; exact v3) (by rw [uV_s]; exact z3) (fun s x1 x2 => by rw [uV_n x2]; exact vo1 s x1) (s1.tr s2)
  | succ n ih =>
    intro m σ C Z G V hm hm0 hE h hA hS vo k
    refine ff_body hok ha0 hu hp hm0 (by omega) hK hN1 hN2 h hA hS vo (fun τ C1 Z1 G1 V1 o h1 hA1 v3 z3 vo1 s1 => ?_)
    have eg : ffGo kd a b p (n + 1) m = if ffL kd a b p m = ffH kd a b p m then ffL kd a b p m else ffGo kd a b p n (m + 18) := rfl
    rw [eg] at k
    by_cases hc : ffL kd a b p m = ffH kd a b p m
    · rw [if_pos hc]
      rw [if_pos hc] at k
      obtain ⟨a0, a1, a2, a3, -⟩ := id h1.1
      refine wa_iload q_X7_findFloor_12 rfl ?_
      refine wn_if_ne q_X7_findFloor_14 (by decide) (fun _ => ?_) (fun z => absurd z (by decide))
      refine wa_aload_n q_X7_findFloor_128 rfl ?_
      refine wa_iconst q_X7_findFloor_129 (v := nI 3) (by decide) ?_
      refine wa_iload_n q_X7_findFloor_130 rfl ?_
      refine wa_callV q_X7_findFloor_131 g_X7_findFloor_131 w_X7_copyTo (by assumption) rfl (av := [_, _]) rfl rfl (lk rfl) (Calls.mono (R_copy h1 (a := 3) (b := 20 + 2 * u) (by decide) (by omega)) ?_)
      rintro _ σ2 ⟨rfl, C2, Z2, G2, h2, s2⟩
      refine wa_vret q_X7_findFloor_134 rfl ?_
      exact k σ2 C2 Z2 G2 _ h2 (by rw [uV_s]; exact v3) (by rw [uV_s]; exact z3) (fun s x1 x2 => by rw [uV_n x2]; exact vo1 s x1) (s1.tr s2)
    · rw [if_neg hc]
      rw [if_neg hc] at k
      refine ih (m + 18) τ C1 Z1 G1 V1 (by omega) (by omega) ?_ h1 hA1 s1 vo1 k
      obtain ⟨j, hj, hj2⟩ := hE
      cases j with
      | zero => exact absurd hj2 hc
      | succ j => exact ⟨j, by omega, by rw [show m + 18 + 18 * j = m + 18 * (j + 1) by omega]; exact hj2⟩
theorem R_ff {σ : en_S} {C Z : Nat → Nat} {G : Nat → Int32} {V : Nat → Int} (h : rV X σ M O C Z G V) (hA : mA X σ M K N1 N2 Op Nd Pa Fo) (hok : serOk kd a b) (ha0 : kd = 4 → a ≠ 0) (hu : u < 60) (hp : p ≤ 480) (hK : K u = nI kd) (hN1 : N1 u = lZ a) (hN2 : kd = 4 → N2 u = lZ b) (hE : ∃ j, j ≤ 40 ∧ ffL kd a b p (18 + 18 * j) = ffH kd a b p (18 + 18 * j)) :
    Calls X M_X7_findFloor [.ref (M 0), .int (nI u), .int (nI p)] σ (fun res τ => res = none ∧ ∃ C' Z' G' V', rV X τ M O C' Z' G' V' ∧ V' (20 + 2 * u) = ffGo kd a b p 40 18 ∧ (V' (20 + 2 * u)).natAbs < BB ^ 290 ∧ (∀ s, 12 ≤ s → s ≠ 20 + 2 * u → V' s = V s) ∧ mSt M σ τ) := by
  refine Calls.of rfl (lk rfl) ?_
  refine wa_iload_n q_X7_findFloor_0 rfl ?_
  refine wa_callS q_X7_findFloor_1 g_X7_findFloor_1 w_X7_low (av := [_]) rfl rfl (lk rfl) (Calls.mono R_low ?_)
  rintro _ _ ⟨rfl, rfl⟩
  refine wa_istore_n q_X7_findFloor_4 (by decide) ?_
  refine wa_bipush q_X7_findFloor_5 (v := nI 18) (by decide) ?_
  refine wa_istore q_X7_findFloor_7 (by decide) ?_
  refine wa_iconst q_X7_findFloor_9 (v := nI 0) (by decide) ?_
  refine wa_istore q_X7_findFloor_10 (by decide) ?_
  exact wa_lv (ff_loop hok ha0 hu hp hK hN1 hN2 40 18 _ C Z G V (by decide) (by decide) hE h hA mSt.rf (fun _ _ => rfl) (fun τ C1 Z1 G1 V1 h1 v1 z1 vo1 s1 => ⟨rfl, C1, Z1, G1, V1, h1, v1, z1, vo1, s1⟩)) rfl
end ref24
