/-! What a VALUE's enclosure is, as a plain function; the floors of series are as the class finds them (rfl') -/
noncomputable def sqr (n : Nat) : Nat := (isq_ex n).choose
theorem sqr_is (n : Nat) : isq n (sqr n) := (isq_ex n).choose_spec
noncomputable def rtL (l : Int) (p : Nat) : Int := (sqr (l * 10 ^ p).toNat : Int)
noncomputable def rtH (h : Int) (p : Nat) : Int := if sqr (h * 10 ^ p).toNat * sqr (h * 10 ^ p).toNat < (h * 10 ^ p).toNat then ((sqr (h * 10 ^ p).toNat + 1 : Nat) : Int) else (sqr (h * 10 ^ p).toNat : Int)
theorem isRt_f {l h : Int} {p : Nat} {L H : Int} (g : isRt l h p L H) : L = rtL l p ∧ H = rtH h p := by
  obtain ⟨r, s, h1, h2, h3, h4⟩ := g
  have e1 := isq_u h1 (sqr_is _)
  have e2 := isq_u h2 (sqr_is _)
  refine ⟨by rw [h3, e1]; rfl, ?_⟩
  unfold rtH
  rw [h4, ← e2]
def lim (r : Option (Int × Int)) : Option (Int × Int) := match r with
  | none => none
  | some q => if q.1.natAbs < 10 ^ 800 ∧ q.2.natAbs < 10 ^ 800 then some q else none
noncomputable def raw (kd fs sn : Nat → Nat) (A B : Nat → Int) (p : Nat) (E : Nat → Option (Int × Int)) (n : Nat) : Option (Int × Int) :=
  if kd n = 0 then some (A n * 10 ^ p, A n * 10 ^ p)
  else if kd n = 1 then some (qdn (A n * 10 ^ p) (B n), qup (A n * 10 ^ p) (B n))
  else if kd n ≤ 4 then some (rfl' (kd n) (A n) (B n) p, rfl' (kd n) (A n) (B n) p + 1)
  else match E (fs n), E (sn n) with
    | some x, some y =>
      if kd n = 5 then (if x.2 < 0 then none else some (rtL x.1 p, rtH x.2 p))
      else if kd n = 6 then some (x.1 + y.1, x.2 + y.2)
      else if kd n = 7 then some (x.1 - y.2, x.2 - y.1)
      else if kd n = 8 then some (crL false p x.1 x.2 y.1 y.2, crH false p x.1 x.2 y.1 y.2)
      else if y.1 ≤ 0 ∧ 0 ≤ y.2 then none else some (crL true p x.1 x.2 y.1 y.2, crH true p x.1 x.2 y.1 y.2)
    | _, _ => none
noncomputable def encs (kd fs sn : Nat → Nat) (A B : Nat → Int) (p : Nat) : Nat → Nat → Option (Int × Int)
  | 0, _ => none
  | n + 1, j => if j = n then lim (raw kd fs sn A B p (encs kd fs sn A B p n) n) else encs kd fs sn A B p n j
noncomputable def enc (kd fs sn : Nat → Nat) (A B : Nat → Int) (p i : Nat) : Option (Int × Int) := encs kd fs sn A B p (i + 1) i
section spec
variable {kd fs sn : Nat → Nat} {A B : Nat → Int} {p : Nat}
theorem encs_hi {j : Nat} : ∀ n, j < n → encs kd fs sn A B p n j = enc kd fs sn A B p j := by
  intro n
  induction n with
  | zero => intro h; omega
  | succ n ih =>
    intro h
    by_cases e : j = n
    · subst e; rfl
    · show (if j = n then _ else _) = _
      rw [if_neg e]; exact ih (by omega)
theorem raw_c {E F : Nat → Option (Int × Int)} {n : Nat} (h : 5 ≤ kd n → E (fs n) = F (fs n) ∧ E (sn n) = F (sn n)) : raw kd fs sn A B p E n = raw kd fs sn A B p F n := by
  unfold raw
  by_cases h5 : 5 ≤ kd n
  · rw [(h h5).1, (h h5).2]
  · by_cases h0 : kd n = 0
    · rw [if_pos h0, if_pos h0]
    · rw [if_neg h0, if_neg h0]
      by_cases h1 : kd n = 1
      · rw [if_pos h1, if_pos h1]
      · rw [if_neg h1, if_neg h1, if_pos (by omega), if_pos (by omega)]
/-- what a VALUE may be made of -/
def vOk (kd fs sn : Nat → Nat) (A B : Nat → Int) (i : Nat) : Prop := kd i ≤ 9 ∧ (kd i ≤ 1 → -9223372036854775808 ≤ A i ∧ A i < 9223372036854775808) ∧ (kd i = 1 → B i ≠ 0 ∧ -9223372036854775808 ≤ B i ∧ B i < 9223372036854775808) ∧ (2 ≤ kd i → kd i ≤ 4 → serOk (kd i) (A i) (B i)) ∧ (5 ≤ kd i → fs i < i ∧ sn i < i) ∧ (kd i = 5 → sn i = fs i)
theorem enc_eq {i : Nat} (h : vOk kd fs sn A B i) : enc kd fs sn A B p i = lim (raw kd fs sn A B p (enc kd fs sn A B p) i) := by
  show (if i = i then lim (raw kd fs sn A B p (encs kd fs sn A B p i) i) else _) = _
  rw [if_pos rfl, raw_c (fun h5 => ?_)]
  obtain ⟨-, -, -, -, h1, -⟩ := h
  exact ⟨encs_hi _ (h1 h5).1, encs_hi _ (h1 h5).2⟩
theorem lim_b {r : Option (Int × Int)} {q : Int × Int} (h : lim r = some q) : r = some q ∧ q.1.natAbs < 10 ^ 800 ∧ q.2.natAbs < 10 ^ 800 := by
  cases r with
  | none => cases h
  | some x =>
    have h : (if x.1.natAbs < 10 ^ 800 ∧ x.2.natAbs < 10 ^ 800 then some x else none) = some q := h
    by_cases c : x.1.natAbs < 10 ^ 800 ∧ x.2.natAbs < 10 ^ 800
    · rw [if_pos c] at h; cases h; exact ⟨rfl, c⟩
    · rw [if_neg c] at h; cases h
theorem p800 : 10 ^ 800 ≤ BB ^ 90 := by
  rw [show (800 : Nat) = 9 * 88 + 8 from rfl, Nat.pow_add, Nat.pow_mul, show BB ^ 90 = BB ^ 88 * BB ^ 2 from by rw [← Nat.pow_add]]
  exact Nat.mul_le_mul_left (BB ^ 88) (by decide)
/-- the floors of series agree with each other, and are not below 0 -/
def FLok : Prop := ∀ kd a b, serOk kd a b → ∀ p q, 1 ≤ p → p ≤ q → q ≤ 480 → shr (rfl' kd a b q) (q - p) (-1) = rfl' kd a b p ∧ 0 ≤ rfl' kd a b p
theorem isq_mono {m n r s : Nat} (h : isq m r) (g : isq n s) (hmn : m ≤ n) : r ≤ s := by
  rcases Nat.lt_or_ge s r with q | q
  · have := Nat.mul_le_mul (show s + 1 ≤ r from q) (show s + 1 ≤ r from q)
    have := h.1
    have := g.2
    omega
  · exact q
theorem nmin_l {n : Nat} {a c : Int} (h : n ≠ 0) : nmin n a c ≤ a ∧ nmin n a c ≤ c := by
  unfold nmin; split <;> omega
theorem nmax_l {n : Nat} {a c : Int} (h : n ≠ 0) : a ≤ nmax n a c ∧ c ≤ nmax n a c := by
  unfold nmax; split <;> omega
theorem shr_le (v : Int) (p : Nat) : shr v p (-1) ≤ shr v p 1 := by
  unfold shr
  rw [if_pos rfl, if_neg (by decide)]
  have hp : (0 : Int) < ((10 ^ p : Nat) : Int) := by have : 0 < 10 ^ p := Nat.pow_pos (by decide); omega
  generalize ((10 ^ p : Nat) : Int) = m at *
  have h1 := Int.mul_ediv_self_le (x := v) (k := m) (by omega)
  have h2 := Int.mul_ediv_self_le (x := -v) (k := m) (by omega)
  have h3 : m * (v / m + (-v) / m) ≤ 0 := by rw [Int.mul_add]; omega
  rcases Int.lt_or_le 0 (v / m + (-v) / m) with q | q
  · have := Int.mul_pos hp q
    omega
  · omega
theorem cdn_le {dv : Bool} {p : Nat} {x y : Int} : cdn dv p x y ≤ cup dv p x y := by
  unfold cdn cup
  cases dv
  · exact shr_le _ _
  · show qdn _ _ ≤ qup _ _
    unfold qdn qup
    generalize (x * 10 ^ p).natAbs / y.natAbs = q
    split <;> split <;> omega
theorem cr_le {dv : Bool} {p : Nat} {a b c d : Int} : crL dv p a b c d ≤ crH dv p a b c d := by
  unfold crL crH
  have h1 := (nmin_l (n := 1) (a := nmin 1 (nmin 1 (cdn dv p a c) (cdn dv p a d)) (cdn dv p b c)) (c := cdn dv p b d) (by decide)).2
  have h2 := (nmax_l (n := 1) (a := nmax 1 (nmax 1 (cup dv p a c) (cup dv p a d)) (cup dv p b c)) (c := cup dv p b d) (by decide)).2
  have h3 := cdn_le (dv := dv) (p := p) (x := b) (y := d)
  omega
theorem enc_le (hFL : FLok) (hp : 1 ≤ p) (hp2 : p ≤ 480) : ∀ i, (∀ j, j ≤ i → vOk kd fs sn A B j) → ∀ q, enc kd fs sn A B p i = some q → q.1 ≤ q.2 := by
  intro i
  induction i using Nat.strongRecOn with
  | ind i ih =>
    intro hv q hq
    have hvi := hv i (Nat.le_refl _)
    rw [enc_eq hvi] at hq
    have hr := (lim_b hq).1
    obtain ⟨-, -, -, -, h5, -⟩ := hvi
    unfold raw at hr
    by_cases h0 : kd i = 0
    · rw [if_pos h0] at hr; cases hr; exact Int.le_refl _
    rw [if_neg h0] at hr
    by_cases h1 : kd i = 1
    · rw [if_pos h1] at hr; cases hr
      show qdn _ _ ≤ qup _ _
      unfold qdn qup
      generalize (A i * 10 ^ p).natAbs / (B i).natAbs = q
      split <;> split <;> omega
    rw [if_neg h1] at hr
    by_cases h4 : kd i ≤ 4
    · rw [if_pos h4] at hr; cases hr; show rfl' _ _ _ _ ≤ rfl' _ _ _ _ + 1; omega
    rw [if_neg h4] at hr
    obtain ⟨hf, hs⟩ := h5 (by omega)
    cases e1 : enc kd fs sn A B p (fs i) with
    | none => rw [e1] at hr; cases hr
    | some x =>
      cases e2 : enc kd fs sn A B p (sn i) with
      | none => rw [e1, e2] at hr; cases hr
      | some y =>
        have hx := ih _ hf (fun j hj => hv j (by omega)) x e1
        have hy := ih _ hs (fun j hj => hv j (by omega)) y e2
        rw [e1, e2] at hr
        simp only [] at hr
        by_cases k5 : kd i = 5
        · rw [if_pos k5] at hr
          by_cases c : x.2 < 0
          · rw [if_pos c] at hr; cases hr
          · rw [if_neg c] at hr; cases hr
            show rtL _ _ ≤ rtH _ _
            have hle : (x.1 * 10 ^ p).toNat ≤ (x.2 * 10 ^ p).toNat := by
              have : x.1 * 10 ^ p ≤ x.2 * 10 ^ p := Int.mul_le_mul_of_nonneg_right hx (Int.pow_nonneg (by decide))
              omega
            have := isq_mono (sqr_is _) (sqr_is _) hle
            unfold rtL rtH
            split <;> omega
        rw [if_neg k5] at hr
        by_cases k6 : kd i = 6
        · rw [if_pos k6] at hr; cases hr; show x.1 + y.1 ≤ x.2 + y.2; omega
        rw [if_neg k6] at hr
        by_cases k7 : kd i = 7
        · rw [if_pos k7] at hr; cases hr; show x.1 - y.2 ≤ x.2 - y.1; omega
        rw [if_neg k7] at hr
        by_cases k8 : kd i = 8
        · rw [if_pos k8] at hr; cases hr; exact cr_le
        rw [if_neg k8] at hr
        by_cases c : y.1 ≤ 0 ∧ 0 ≤ y.2
        · rw [if_pos c] at hr; cases hr
        · rw [if_neg c] at hr; cases hr; exact cr_le
end spec
