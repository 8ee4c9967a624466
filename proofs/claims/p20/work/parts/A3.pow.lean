/-! The powers of e: how near their sums are -/
def pz (a b : Nat) (sg : Nat → Int) : Nat → Nat → Nat → Int → Int × Nat
  | 0, i, _, s => (s, i)
  | n + 1, i, t, s => if t = 0 then (s, i) else pz a b sg n (i + 1) (t * a / (b * (i + 1))) (s + sg i * (t : Int))
theorem pz_0 {a b : Nat} {sg : Nat → Int} {n i t : Nat} {s : Int} (h : t = 0) : pz a b sg n i t s = (s, i) := by
  cases n
  · rfl
  · exact if_pos h
theorem pz_s {a b : Nat} {sg : Nat → Int} {n i t : Nat} {s : Int} (h : ¬ t = 0) : pz a b sg (n + 1) i t s = pz a b sg n (i + 1) (t * a / (b * (i + 1))) (s + sg i * (t : Int)) := if_neg h
def fc : Nat → Nat
  | 0 => 1
  | i + 1 => fc i * (i + 1)
def eEr (i : Nat) : Nat := match i with
  | 0 => 0
  | 1 => 1
  | 2 => 4
  | 3 => 8
  | 4 => 11
  | _ => 12
theorem eEr_s (i : Nat) : 5 * eEr i + (i + 1) ≤ (i + 1) * eEr (i + 1) := by
  match i with
  | 0 => decide
  | 1 => decide
  | 2 => decide
  | 3 => decide
  | 4 => decide
  | i + 5 =>
    show 5 * 12 + (i + 5 + 1) ≤ (i + 5 + 1) * 12
    omega
theorem eEr_12 (i : Nat) : eEr i ≤ 12 := by
  match i with
  | 0 => decide
  | 1 => decide
  | 2 => decide
  | 3 => decide
  | 4 => decide
  | i + 5 => exact Nat.le_refl _
theorem fc_9 {i : Nat} (h : i ≤ 9) : fc i ≤ 362880 := by
  have : i = 0 ∨ i = 1 ∨ i = 2 ∨ i = 3 ∨ i = 4 ∨ i = 5 ∨ i = 6 ∨ i = 7 ∨ i = 8 ∨ i = 9 := by omega
  rcases this with q | q | q | q | q | q | q | q | q | q <;> subst q <;> decide
theorem fc_pos : ∀ i, 0 < fc i := by
  intro i
  induction i with
  | zero => decide
  | succ i ih => exact Nat.mul_pos ih (by omega)
/-- what is kept of a member t at i: T the scale, x = a / b -/
def pzI (a b T i t : Nat) : Prop := (t : Rat) ≤ (T : Rat) * eu ((a : Rat) / (b : Rat)) i ∧ (T : Rat) * eu ((a : Rat) / (b : Rat)) i ≤ (t : Rat) + (eEr i : Rat) ∧ (b < a → i ≤ 9 → T / fc i ≤ t) ∧ (i ≤ 10 → t ≤ 5 ^ i * T) ∧ (10 ≤ i → t * 2 ^ (i - 10) ≤ 9765625 * T)
theorem pz_a {x b a i t t' T u u1 : Rat} (ex : x * b = a) (hb : 0 < b) (hi : 0 < i) (hx : 0 ≤ x) (fr : b * i * t' ≤ t * a) (h : t ≤ T * u) (es : i * u1 = x * u) : t' ≤ T * u1 := by
  have s1 : i * t' ≤ t * x := by
    refine Rat.le_of_mul_le_mul_right (c := b) ?_ hb
    have e : t * x * b = t * a := by rw [← ex]; grind
    rw [e]
    grind
  have s2 := Rat.mul_le_mul_of_nonneg_right h hx
  refine Rat.le_of_mul_le_mul_left (c := i) ?_ hi
  have e : i * (T * u1) = T * u * x := by
    have : i * (T * u1) = T * (i * u1) := by grind
    rw [this, es]; grind
  rw [e]
  exact Rat.le_trans s1 s2
theorem pz_b {x b a i t t' T u u1 E E' : Rat} (ex : x * b = a) (hb : 0 < b) (hi : 0 < i) (hx : 0 ≤ x) (h5 : x ≤ 5) (fr : t * a ≤ b * i * t' + b * i) (h : T * u ≤ t + E) (hE0 : 0 ≤ E) (hE : 5 * E + i ≤ i * E') (es : i * u1 = x * u) : T * u1 ≤ t' + E' := by
  have s1 : t * x ≤ i * t' + i := by
    refine Rat.le_of_mul_le_mul_right (c := b) ?_ hb
    have e : t * x * b = t * a := by rw [← ex]; grind
    rw [e]
    grind
  have s2 := Rat.mul_le_mul_of_nonneg_right h hx
  have s3 := Rat.mul_le_mul_of_nonneg_left h5 hE0
  refine Rat.le_of_mul_le_mul_left (c := i) ?_ hi
  have e : i * (T * u1) = T * u * x := by
    have : i * (T * u1) = T * (i * u1) := by grind
    rw [this, es]; grind
  rw [e]
  grind
theorem pzI.s {a b T i t : Nat} (hb : 1 ≤ b) (ha : a ≤ 5 * b) (h : pzI a b T i t) : pzI a b T (i + 1) (t * a / (b * (i + 1))) := by
  obtain ⟨h1, h2, h3, h4, h5⟩ := h
  have hd : 0 < b * (i + 1) := Nat.mul_pos hb (by omega)
  have q5 := pw_5 (t := t) (k := i + 1) hb ha
  have hx : (0 : Rat) ≤ (a : Rat) / (b : Rat) := by rw [Rat.div_def]; exact Rat.mul_nonneg Rat.natCast_nonneg (Rat.le_of_lt (Rat.inv_pos.mpr (Rat.natCast_pos.mpr hb)))
  have hbp : (0 : Rat) < (b : Rat) := Rat.natCast_pos.mpr hb
  have ex : (a : Rat) / (b : Rat) * (b : Rat) = (a : Rat) := Rat.div_mul_cancel (Rat.ne_of_gt hbp)
  have hx5 : (a : Rat) / (b : Rat) ≤ 5 := by
    refine Rat.le_of_mul_le_mul_right (c := (b : Rat)) ?_ hbp
    rw [ex]
    have := nc_le ha
    rw [nc_mul] at this
    exact this
  have hip := nc_pos i
  have es' := eu_s ((a : Rat) / (b : Rat)) i
  have hE := nc_le (eEr_s i)
  rw [nc_add, nc_mul, nc_mul, nc_succ i] at hE
  have e5 : ((5 : Nat) : Rat) = 5 := rfl
  rw [e5] at hE
  have fl1 : b * (i + 1) * (t * a / (b * (i + 1))) ≤ t * a := Nat.mul_div_le _ _
  have fl2 : t * a < b * (i + 1) * (t * a / (b * (i + 1))) + b * (i + 1) := by
    have := Nat.div_add_mod (t * a) (b * (i + 1))
    have := Nat.mod_lt (t * a) hd
    omega
  have fr1 := nc_le fl1
  have fr2 := Rat.le_of_lt (nc_lt fl2)
  rw [nc_mul, nc_mul, nc_mul, nc_succ i] at fr1
  rw [nc_add, nc_mul, nc_mul, nc_mul, nc_succ i] at fr2
  have hEi := Rat.natCast_nonneg (a := eEr i)
  refine ⟨?_, ?_, fun hab hi => ?_, fun hi => ?_, fun hi => ?_⟩
  · exact pz_a ex hbp hip hx fr1 h1 es'
  · exact pz_b ex hbp hip hx hx5 fr2 h2 hEi hE es'
  · have s1 := h3 hab (by omega)
    show T / (fc i * (i + 1)) ≤ _
    rw [← Nat.div_div_eq_div_mul]
    refine Nat.le_trans (Nat.div_le_div_right s1) ?_
    have s2 : t / (i + 1) = b * t / (b * (i + 1)) := (Nat.mul_div_mul_left _ _ hb).symm
    rw [s2]
    refine Nat.div_le_div_right ?_
    rw [Nat.mul_comm b t]
    exact Nat.mul_le_mul_left t (by omega)
  · have s1 := h4 (by omega)
    have s2 : 5 * t / (i + 1) ≤ 5 * t := Nat.div_le_self _ _
    rw [show (5 : Nat) ^ (i + 1) * T = 5 * (5 ^ i * T) by rw [Nat.pow_succ', Nat.mul_assoc]]
    generalize 5 ^ i * T = y at *
    omega
  · rcases Nat.lt_or_ge i 10 with q | q
    · have e : i = 9 := by omega
      subst e
      have s1 := h4 (by omega)
      have s2 : 5 * t / (9 + 1) ≤ 5 * t := Nat.div_le_self _ _
      have s3 : (5 : Nat) ^ 9 = 1953125 := by decide
      rw [s3] at s1
      show _ * 2 ^ 0 ≤ _
      omega
    · have s1 := h5 q
      have s2 : 5 * t / (i + 1) ≤ 5 * t / 10 := Nat.div_le_div_left (by omega) (by decide)
      have s3 : 2 * (t * a / (b * (i + 1))) ≤ t := by omega
      rw [show i + 1 - 10 = (i - 10) + 1 by omega, Nat.pow_succ]
      have s4 := Nat.mul_le_mul_right (2 ^ (i - 10)) s3
      generalize 2 ^ (i - 10) = y at *
      generalize t * a / (b * (i + 1)) = w at *
      have e1 : w * (y * 2) = 2 * w * y := by grind
      omega
theorem pz_nr {a b T N : Nat} {sg : Nat → Int} {y : Rat} (hb : 1 ≤ b) (ha : a ≤ 5 * b) (hT : 1000000 ≤ T) (hN : 9765625 * T < 2 ^ (N - 10)) (hN2 : 10 ≤ N) (hy : ∀ i, eu y i = ((sg i : Int) : Rat) * eu ((a : Rat) / (b : Rat)) i) (hs : ∀ i, sg i = 1 ∨ sg i = -1) : ∀ (n i t : Nat) (s : Int), n + i = N → pzI a b T i t →
    i ≤ (pz a b sg n i t s).2 ∧ (pz a b sg n i t s).2 ≤ N ∧ ∀ m, (pz a b sg n i t s).2 ≤ m → ((pz a b sg n i t s).1 : Rat) - (s : Rat) - (T : Rat) * (es y m - es y i) ≤ 12 * ((((pz a b sg n i t s).2 : Nat) : Rat) - (i : Rat)) + 36 ∧ -(((pz a b sg n i t s).1 : Rat) - (s : Rat) - (T : Rat) * (es y m - es y i)) ≤ 12 * ((((pz a b sg n i t s).2 : Nat) : Rat) - (i : Rat)) + 36 := by
  have hTr := Rat.natCast_nonneg (a := T)
  have hx : (0 : Rat) ≤ (a : Rat) / (b : Rat) := by rw [Rat.div_def]; exact Rat.mul_nonneg Rat.natCast_nonneg (Rat.le_of_lt (Rat.inv_pos.mpr (Rat.natCast_pos.mpr hb)))
  have hbp : (0 : Rat) < (b : Rat) := Rat.natCast_pos.mpr hb
  have ex : (a : Rat) / (b : Rat) * (b : Rat) = (a : Rat) := Rat.div_mul_cancel (Rat.ne_of_gt hbp)
  have hx5 : (a : Rat) / (b : Rat) ≤ 5 := by
    refine Rat.le_of_mul_le_mul_right (c := (b : Rat)) ?_ hbp
    rw [ex]
    have := nc_le ha
    rw [nc_mul] at this
    exact this
  have hab : ∀ i, -eu ((a : Rat) / (b : Rat)) i ≤ eu y i ∧ eu y i ≤ eu ((a : Rat) / (b : Rat)) i := by
    intro i
    have h := eu_nn hx i
    rw [hy i]
    rcases hs i with q | q
    · rw [q, show ((1 : Int) : Rat) = 1 from rfl]; constructor <;> grind
    · rw [q, show ((-1 : Int) : Rat) = -1 from rfl]; constructor <;> grind
  have hdf : ∀ i m, i ≤ m → -(es ((a : Rat) / (b : Rat)) m - es ((a : Rat) / (b : Rat)) i) ≤ es y m - es y i ∧ es y m - es y i ≤ es ((a : Rat) / (b : Rat)) m - es ((a : Rat) / (b : Rat)) i := by
    intro i m
    induction m with
    | zero =>
      intro h
      have e : i = 0 := by omega
      subst e
      constructor <;> grind
    | succ m ih =>
      intro h
      by_cases e : i = m + 1
      · subst e
        constructor <;> grind
      · obtain ⟨h1, h2⟩ := ih (by omega)
        obtain ⟨h3, h4⟩ := hab m
        rw [es_s, es_s]
        constructor <;> grind
  have fin : ∀ (n i t : Nat) (s : Int), t = 0 → n + i = N → pzI a b T i t → i ≤ (pz a b sg n i t s).2 ∧ (pz a b sg n i t s).2 ≤ N ∧ ∀ m, (pz a b sg n i t s).2 ≤ m → ((pz a b sg n i t s).1 : Rat) - (s : Rat) - (T : Rat) * (es y m - es y i) ≤ 12 * ((((pz a b sg n i t s).2 : Nat) : Rat) - (i : Rat)) + 36 ∧ -(((pz a b sg n i t s).1 : Rat) - (s : Rat) - (T : Rat) * (es y m - es y i)) ≤ 12 * ((((pz a b sg n i t s).2 : Nat) : Rat) - (i : Rat)) + 36 := by
    intro n i t s t0 hn hI
    rw [pz_0 t0]
    refine ⟨Nat.le_refl _, by show i ≤ N; omega, fun m hm => ?_⟩
    have hm : i ≤ m := hm
    obtain ⟨-, i2, i3, -⟩ := hI
    subst t0
    have i2 : (T : Rat) * eu ((a : Rat) / (b : Rat)) i ≤ 0 + (eEr i : Rat) := i2
    have e12 : (eEr i : Rat) ≤ 12 := nc_le (j := 12) (eEr_12 i)
    -- the ratio is small behind i
    have hr : 2 * ((a : Rat) / (b : Rat)) ≤ (i : Rat) + 2 ∧ (a : Rat) / (b : Rat) ≤ (i : Rat) + 1 := by
      have hi0 := Rat.natCast_nonneg (a := i)
      rcases Nat.lt_or_ge 9 i with q | q
      · have : (10 : Rat) ≤ (i : Rat) := nc_le (i := 10) (by omega)
        constructor <;> grind
      · have hle : a ≤ b := by
          rcases Nat.lt_or_ge b a with w | w
          · have w1 := i3 w q
            have w2 := fc_9 q
            have w3 : 1 ≤ T / fc i := (Nat.le_div_iff_mul_le (fc_pos i)).mpr (by omega)
            omega
          · exact w
        have h1 : (a : Rat) / (b : Rat) ≤ 1 := by
          refine Rat.le_of_mul_le_mul_right (c := (b : Rat)) ?_ hbp
          rw [ex]
          have := nc_le hle
          grind
        constructor <;> grind
    obtain ⟨d1, d2⟩ := hdf i m hm
    have hsum : es ((a : Rat) / (b : Rat)) m - es ((a : Rat) / (b : Rat)) i ≤ 3 * eu ((a : Rat) / (b : Rat)) i := by
      have hn0 := eu_nn hx i
      by_cases e : m = i
      · subst e; grind
      · have g1 : ((i + 1 : Nat) : Rat) = (i : Rat) + 1 := nc_succ i
        have t1 := es_tl hx (n := i + 1) (by rw [g1]; grind) m (by omega)
        rw [es_s] at t1
        have t2 := eu_s ((a : Rat) / (b : Rat)) i
        have t3 : eu ((a : Rat) / (b : Rat)) (i + 1) ≤ eu ((a : Rat) / (b : Rat)) i := by
          refine Rat.le_of_mul_le_mul_left (c := (i : Rat) + 1) ?_ (nc_pos i)
          have := Rat.mul_le_mul_of_nonneg_right hr.2 hn0
          grind
        grind
    have b1 := Rat.mul_le_mul_of_nonneg_left hsum hTr
    have b2 := Rat.mul_le_mul_of_nonneg_left d1 hTr
    have b3 := Rat.mul_le_mul_of_nonneg_left d2 hTr
    show (s : Rat) - (s : Rat) - _ ≤ 12 * ((i : Rat) - (i : Rat)) + 36 ∧ -((s : Rat) - (s : Rat) - _) ≤ 12 * ((i : Rat) - (i : Rat)) + 36
    generalize es y m - es y i = d at *
    generalize es ((a : Rat) / (b : Rat)) m - es ((a : Rat) / (b : Rat)) i = d' at *
    constructor <;> grind
  intro n
  induction n with
  | zero =>
    intro i t s hn hI
    refine fin 0 i t s ?_ hn hI
    obtain ⟨-, -, -, -, h5⟩ := hI
    have h6 := h5 (by omega)
    have e : i = N := by omega
    rw [e] at h6
    rcases Nat.eq_zero_or_pos t with q | q
    · exact q
    · have := Nat.mul_le_mul_right (2 ^ (N - 10)) q
      omega
  | succ n ih =>
    intro i t s hn hI
    by_cases t0 : t = 0
    · exact fin (n + 1) i t s t0 hn hI
    rw [pz_s t0]
    obtain ⟨k1, k2, k3⟩ := ih (i + 1) (t * a / (b * (i + 1))) (s + sg i * (t : Int)) (by omega) (hI.s hb ha)
    refine ⟨by omega, k2, fun m hm => ?_⟩
    obtain ⟨j1, j2⟩ := k3 m hm
    obtain ⟨i1, i2, -⟩ := hI
    have e12 : (eEr i : Rat) ≤ 12 := nc_le (j := 12) (eEr_12 i)
    generalize pz a b sg n (i + 1) (t * a / (b * (i + 1))) (s + sg i * (t : Int)) = R at *
    have e1 : ((s + sg i * (t : Int) : Int) : Rat) = (s : Rat) + ((sg i : Int) : Rat) * (t : Rat) := by rw [Rat.intCast_add, Rat.intCast_mul, ic_nc]
    have e2 : (T : Rat) * (es y m - es y i) = (T : Rat) * (es y m - es y (i + 1)) + ((sg i : Int) : Rat) * ((T : Rat) * eu ((a : Rat) / (b : Rat)) i) := by
      rw [es_s, hy i]; grind
    rw [e1, nc_succ] at j1 j2
    rw [e2]
    generalize (T : Rat) * eu ((a : Rat) / (b : Rat)) i = u at *
    generalize (T : Rat) * (es y m - es y (i + 1)) = d at *
    rcases hs i with q | q
    · rw [q, show ((1 : Int) : Rat) = 1 from rfl] at j1 j2 ⊢
      constructor <;> grind
    · rw [q, show ((-1 : Int) : Rat) = -1 from rfl] at j1 j2 ⊢
      constructor <;> grind
theorem pzI_0 {a b T : Nat} : pzI a b T 0 T := by
  refine ⟨?_, ?_, fun _ _ => ?_, fun _ => ?_, fun h => absurd h (by decide)⟩
  · show (T : Rat) ≤ (T : Rat) * 1; grind
  · show (T : Rat) * 1 ≤ (T : Rat) + ((0 : Nat) : Rat)
    rw [show ((0 : Nat) : Rat) = 0 from rfl]; grind
  · show T / 1 ≤ T; rw [Nat.div_one]; exact Nat.le_refl _
  · rw [Nat.pow_zero]; omega
/-- its sum at pl places is near -/
theorem pz_near {a b pl N : Nat} {sg : Nat → Int} {y : Rat} (hb : 1 ≤ b) (ha : a ≤ 5 * b) (hpl : 6 ≤ pl) (hN : 9765625 * 10 ^ pl < 2 ^ (N - 10)) (hN2 : 10 ≤ N) (hy : ∀ i, eu y i = ((sg i : Int) : Rat) * eu ((a : Rat) / (b : Rat)) i) (hs : ∀ i, sg i = 1 ∨ sg i = -1) : (pz a b sg N 0 (10 ^ pl) 0).2 ≤ N ∧ nr (es y) (pz a b sg N 0 (10 ^ pl) 0).1 pl (12 * (pz a b sg N 0 (10 ^ pl) 0).2 + 36) := by
  have hT : 1000000 ≤ 10 ^ pl := Nat.le_trans (show 1000000 ≤ 10 ^ 6 by decide) (Nat.pow_le_pow_right (by decide) hpl)
  obtain ⟨-, k2, k3⟩ := pz_nr (y := y) hb ha hT hN hN2 hy hs N 0 (10 ^ pl) 0 rfl pzI_0
  refine ⟨k2, (pz a b sg N 0 (10 ^ pl) 0).2, fun m hm => ?_⟩
  obtain ⟨j1, j2⟩ := k3 m hm
  generalize pz a b sg N 0 (10 ^ pl) 0 = R at *
  have e0 : es y 0 = 0 := rfl
  have e1 : ((0 : Int) : Rat) = 0 := rfl
  have e2 : ((0 : Nat) : Rat) = 0 := rfl
  have e3 : ((12 * R.2 + 36 : Nat) : Rat) = 12 * (R.2 : Rat) + 36 := by rw [nc_add, nc_mul]; rfl
  rw [e0, e1, e2] at j1 j2
  rw [e3]
  generalize es y m = d at *
  constructor <;> grind
