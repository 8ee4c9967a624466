/-! The reference: what is rounded by a power of ten, and the corners in its order -/
theorem qten {v : Int} {p : Nat} : qdn v (10 ^ p) = shr v p (-1) ∧ qup v (10 ^ p) = shr v p 1 := by
  have hT : 0 < 10 ^ p := Nat.pow_pos (by decide)
  have e1 : ((10 : Int) ^ p).natAbs = 10 ^ p := by rw [Int.natAbs_pow]; rfl
  have hTi : (0 : Int) < 10 ^ p := Int.pow_pos (by decide)
  have hs : v * 10 ^ p < 0 ↔ v < 0 := by
    constructor
    · intro h
      refine Int.not_le.mp (fun q => ?_)
      have := Int.mul_nonneg q (Int.le_of_lt hTi)
      omega
    · intro h
      exact Int.mul_neg_of_neg_of_pos h hTi
  have su : shr v p 1 = -((-v) / ((10 ^ p : Nat) : Int)) := if_neg (by decide)
  rw [shr_dn, su]
  unfold qdn qup
  rw [e1]
  clear su e1
  rcases Int.lt_or_le v 0 with h | h
  · rw [if_pos (hs.mpr h), if_pos (hs.mpr h)]
    have h1 := neg_div (m := v.natAbs) (T := 10 ^ p) hT
    rw [show -((v.natAbs : Nat) : Int) = v by omega] at h1
    have h2 : -v = ((v.natAbs : Nat) : Int) := by omega
    refine ⟨h1.symm, ?_⟩
    rw [h2]; rfl
  · rw [if_neg (fun q => by have := hs.mp q; omega), if_neg (fun q => by have := hs.mp q; omega)]
    obtain ⟨m, rfl⟩ := Int.eq_ofNat_of_zero_le h
    rw [Int.natAbs_natCast]
    refine ⟨rfl, ?_⟩
    rw [neg_div hT]
    generalize m / 10 ^ p = q
    split <;> omega
theorem cdn_ten {p : Nat} {x y : Int} : cdn false p x y = qdn (x * y) (10 ^ p) ∧ cup false p x y = qup (x * y) (10 ^ p) := ⟨qten.1.symm, qten.2.symm⟩
/-- the order in which the corners are looked at does not matter -/
theorem cr_ord {dv : Bool} {p : Nat} {a b c d : Int} : crL dv p a b c d = nmin 1 (nmin 1 (nmin 1 (cdn dv p a c) (cdn dv p b c)) (cdn dv p a d)) (cdn dv p b d) ∧ crH dv p a b c d = nmax 1 (nmax 1 (nmax 1 (cup dv p a c) (cup dv p b c)) (cup dv p a d)) (cup dv p b d) := by
  unfold crL crH
  generalize cdn dv p a c = w1
  generalize cdn dv p a d = w2
  generalize cdn dv p b c = w3
  generalize cdn dv p b d = w4
  generalize cup dv p a c = u1
  generalize cup dv p a d = u2
  generalize cup dv p b c = u3
  generalize cup dv p b d = u4
  unfold nmin nmax
  simp only [Nat.one_ne_zero, false_or]
  constructor <;> (repeat' split) <;> omega
