/-! The arctangent's and artanh's members: how near their sums are -/
/-- 1 / x^(2 i + 1) -/
def tv (x : Nat) : Nat → Rat
  | 0 => 1 / (x : Rat)
  | i + 1 => tv x i / ((x * x : Nat) : Rat)
def tg (alt : Bool) (i : Nat) : Rat := if alt = true ∧ i % 2 = 1 then -1 else 1
def tS (x : Nat) (alt : Bool) : Nat → Rat := sm (fun i => tg alt i * (tv x i / ((2 * i + 1 : Nat) : Rat)))
theorem tS_s (x : Nat) (alt : Bool) (n : Nat) : tS x alt (n + 1) = tS x alt n + tg alt n * (tv x n / ((2 * n + 1 : Nat) : Rat)) := rfl
theorem fl_dv {t d : Nat} {y : Rat} (hd : 0 < d) (h1 : (t : Rat) ≤ y) (h2 : y < (t : Rat) + 1) : ((t / d : Nat) : Rat) ≤ y / (d : Rat) ∧ y / (d : Rat) < ((t / d : Nat) : Rat) + 1 := by
  have hp : (0 : Rat) < (d : Rat) := Rat.natCast_pos.mpr hd
  have e := Rat.div_mul_cancel (a := y) (Rat.ne_of_gt hp)
  have a1 := Nat.div_add_mod t d
  have a2 := Nat.mod_lt t hd
  have b1 : d * (t / d) ≤ t := by omega
  have b2 : t + 1 ≤ d * (t / d) + d := by omega
  have c1 := nc_le b1
  have c2 := nc_le b2
  rw [nc_mul] at c1
  rw [nc_add, nc_add, nc_mul] at c2
  have c3 : ((1 : Nat) : Rat) = 1 := rfl
  rw [c3] at c2
  generalize ((t / d : Nat) : Rat) = q at *
  constructor
  · refine Rat.le_of_mul_le_mul_right (c := (d : Rat)) ?_ hp
    grind
  · refine Rat.lt_of_mul_lt_mul_right (c := (d : Rat)) ?_ (Rat.le_of_lt hp)
    grind
theorem tv_nn (x : Nat) : ∀ i, 0 ≤ tv x i := by
  have h : ∀ y : Nat, (0 : Rat) ≤ (y : Rat)⁻¹ := by
    intro y
    rcases Nat.eq_zero_or_pos y with e | e
    · subst e; show (0 : Rat) ≤ (0 : Rat)⁻¹; grind
    · exact Rat.le_of_lt (Rat.inv_pos.mpr (Rat.natCast_pos.mpr e))
  intro i
  induction i with
  | zero => show 0 ≤ 1 / (x : Rat); rw [Rat.div_def]; exact Rat.mul_nonneg (by decide) (h x)
  | succ i ih => show 0 ≤ tv x i / ((x * x : Nat) : Rat); rw [Rat.div_def]; exact Rat.mul_nonneg ih (h _)
theorem tv_4 {x : Nat} (hx : 2 ≤ x) (i : Nat) : 4 * tv x (i + 1) ≤ tv x i := by
  have h1 := tv_nn x (i + 1)
  have hxx : 4 ≤ x * x := Nat.mul_le_mul hx hx
  have hp : (0 : Rat) < ((x * x : Nat) : Rat) := Rat.natCast_pos.mpr (by omega)
  have e : tv x (i + 1) * ((x * x : Nat) : Rat) = tv x i := Rat.div_mul_cancel (Rat.ne_of_gt hp)
  have h4 : (4 : Rat) ≤ ((x * x : Nat) : Rat) := nc_le (i := 4) hxx
  have := Rat.mul_le_mul_of_nonneg_left h4 h1
  grind
theorem tm_ab (x : Nat) (alt : Bool) (i : Nat) : -(tv x i) ≤ tg alt i * (tv x i / ((2 * i + 1 : Nat) : Rat)) ∧ tg alt i * (tv x i / ((2 * i + 1 : Nat) : Rat)) ≤ tv x i := by
  have h1 := tv_nn x i
  have hp : (0 : Rat) < ((2 * i + 1 : Nat) : Rat) := Rat.natCast_pos.mpr (by omega)
  have e := Rat.div_mul_cancel (a := tv x i) (Rat.ne_of_gt hp)
  have h2 : (1 : Rat) ≤ ((2 * i + 1 : Nat) : Rat) := nc_le (i := 1) (by omega)
  have h3 : 0 ≤ tv x i / ((2 * i + 1 : Nat) : Rat) := by rw [Rat.div_def]; exact Rat.mul_nonneg h1 (Rat.le_of_lt (Rat.inv_pos.mpr hp))
  have h4 := Rat.mul_le_mul_of_nonneg_left h2 h3
  generalize tv x i / ((2 * i + 1 : Nat) : Rat) = y at *
  unfold tg
  split <;> constructor <;> grind
theorem tS_tl {x : Nat} (hx : 2 ≤ x) (alt : Bool) {i : Nat} : ∀ m, i ≤ m → 3 * (tS x alt m - tS x alt i) ≤ 4 * tv x i - 4 * tv x m ∧ -(3 * (tS x alt m - tS x alt i)) ≤ 4 * tv x i - 4 * tv x m := by
  intro m
  induction m with
  | zero =>
    intro h
    have e : i = 0 := by omega
    subst e
    constructor <;> grind
  | succ m ih =>
    intro h
    by_cases e : i = m + 1
    · subst e
      constructor <;> grind
    · obtain ⟨h1, h2⟩ := ih (by omega)
      obtain ⟨h3, h4⟩ := tm_ab x alt m
      have h5 := tv_4 hx m
      rw [tS_s]
      constructor <;> grind
theorem mm_nr {x : Nat} {alt : Bool} {T : Rat} (hT : 0 ≤ T) (hx : 2 ≤ x) : ∀ (n i t : Nat) (s : Int), t < 4 ^ n → (t : Rat) ≤ T * tv x i → T * tv x i < (t : Rat) + 1 →
    i ≤ (mmGo x alt n i t s).2 ∧ (mmGo x alt n i t s).2 ≤ i + n ∧ ∀ m, (mmGo x alt n i t s).2 ≤ m → ((mmGo x alt n i t s).1 : Rat) - (s : Rat) - T * (tS x alt m - tS x alt i) ≤ (((mmGo x alt n i t s).2 : Nat) : Rat) - (i : Rat) + 2 ∧ -(((mmGo x alt n i t s).1 : Rat) - (s : Rat) - T * (tS x alt m - tS x alt i)) ≤ (((mmGo x alt n i t s).2 : Nat) : Rat) - (i : Rat) + 2 := by
  have fin : ∀ (n i t : Nat) (s : Int), t = 0 → T * tv x i < (t : Rat) + 1 → i ≤ (mmGo x alt n i t s).2 ∧ (mmGo x alt n i t s).2 ≤ i + n ∧ ∀ m, (mmGo x alt n i t s).2 ≤ m → ((mmGo x alt n i t s).1 : Rat) - (s : Rat) - T * (tS x alt m - tS x alt i) ≤ (((mmGo x alt n i t s).2 : Nat) : Rat) - (i : Rat) + 2 ∧ -(((mmGo x alt n i t s).1 : Rat) - (s : Rat) - T * (tS x alt m - tS x alt i)) ≤ (((mmGo x alt n i t s).2 : Nat) : Rat) - (i : Rat) + 2 := by
    intro n i t s t0 h2
    rw [mmGo_0 t0]
    refine ⟨Nat.le_refl _, Nat.le_add_right _ _, fun m hm => ?_⟩
    obtain ⟨a1, a2⟩ := tS_tl hx alt m hm
    have b1 := Rat.mul_le_mul_of_nonneg_left a1 hT
    have b2 := Rat.mul_le_mul_of_nonneg_left a2 hT
    have b3 := Rat.mul_nonneg hT (tv_nn x m)
    subst t0
    have h2 : T * tv x i < 0 + 1 := h2
    show (s : Rat) - (s : Rat) - _ ≤ (i : Rat) - (i : Rat) + 2 ∧ -((s : Rat) - (s : Rat) - _) ≤ (i : Rat) - (i : Rat) + 2
    generalize tS x alt m - tS x alt i = d at *
    constructor <;> grind
  intro n
  induction n with
  | zero =>
    intro i t s ht h1 h2
    rw [Nat.pow_zero] at ht
    exact fin 0 i t s (by omega) h2
  | succ n ih =>
    intro i t s ht h1 h2
    by_cases t0 : t = 0
    · exact fin (n + 1) i t s t0 h2
    rw [mmGo_s t0]
    have hxx : 4 ≤ x * x := Nat.mul_le_mul hx hx
    have ed : t / x / x = t / (x * x) := Nat.div_div_eq_div_mul ..
    rw [ed]
    have hd4 : t / (x * x) < 4 ^ n := by
      refine (Nat.div_lt_iff_lt_mul (by omega)).mpr ?_
      have e4 : (4 : Nat) ^ (n + 1) = 4 ^ n * 4 := Nat.pow_succ ..
      exact Nat.lt_of_lt_of_le (by omega) (Nat.mul_le_mul_left (4 ^ n) hxx)
    obtain ⟨f1, f2⟩ := fl_dv (d := x * x) (by omega) h1 h2
    have ev : T * tv x (i + 1) = T * tv x i / ((x * x : Nat) : Rat) := by
      show T * (tv x i / ((x * x : Nat) : Rat)) = _
      rw [Rat.div_def, Rat.div_def]; grind
    rw [← ev] at f1 f2
    obtain ⟨g1, g2⟩ := fl_dv (d := 2 * i + 1) (by omega) h1 h2
    obtain ⟨k1, k2, k3⟩ := ih (i + 1) (t / (x * x)) (s + (if alt = true ∧ i % 2 = 1 then -1 else 1) * ((t / (2 * i + 1) : Nat) : Int)) hd4 f1 f2
    refine ⟨by omega, by omega, fun m hm => ?_⟩
    obtain ⟨j1, j2⟩ := k3 m hm
    generalize mmGo x alt n (i + 1) (t / (x * x)) (s + (if alt = true ∧ i % 2 = 1 then -1 else 1) * ((t / (2 * i + 1) : Nat) : Int)) = R at *
    have es' : ((s + (if alt = true ∧ i % 2 = 1 then -1 else 1) * ((t / (2 * i + 1) : Nat) : Int) : Int) : Rat) = (s : Rat) + tg alt i * ((t / (2 * i + 1) : Nat) : Rat) := by
      rw [Rat.intCast_add, Rat.intCast_mul, ic_nc]
      unfold tg
      split <;> rfl
    have et : T * (tS x alt m - tS x alt i) = T * (tS x alt m - tS x alt (i + 1)) + tg alt i * (T * tv x i / ((2 * i + 1 : Nat) : Rat)) := by
      rw [tS_s, Rat.div_def, Rat.div_def]; grind
    rw [es', nc_succ] at j1 j2
    rw [et]
    generalize T * tv x i / ((2 * i + 1 : Nat) : Rat) = y at *
    generalize ((t / (2 * i + 1) : Nat) : Rat) = q at *
    generalize T * (tS x alt m - tS x alt (i + 1)) = d at *
    unfold tg at *
    split at j1
    · next hc =>
      rw [if_pos hc] at j2
      rw [if_pos hc]
      constructor <;> grind
    · next hc =>
      rw [if_neg hc] at j2
      rw [if_neg hc]
      constructor <;> grind
/-- mmGo's sum at pl places is near -/
theorem mm_near {x : Nat} {alt : Bool} {pl n : Nat} (hx : 2 ≤ x) (hn : 10 ^ pl < 4 ^ n) : (mmGo x alt n 0 (10 ^ pl / x) 0).2 ≤ n ∧ nr (tS x alt) (mmGo x alt n 0 (10 ^ pl / x) 0).1 pl ((mmGo x alt n 0 (10 ^ pl / x) 0).2 + 2) := by
  have hT := Rat.le_of_lt (ten_pos pl)
  obtain ⟨a1, a2⟩ := fl_dv (t := 10 ^ pl) (d := x) (y := ((10 ^ pl : Nat) : Rat)) (by omega) Rat.le_refl (by grind)
  have ev : ((10 ^ pl : Nat) : Rat) * tv x 0 = ((10 ^ pl : Nat) : Rat) / (x : Rat) := by
    show ((10 ^ pl : Nat) : Rat) * (1 / (x : Rat)) = _
    rw [Rat.div_def, Rat.div_def]; grind
  rw [← ev] at a1 a2
  obtain ⟨-, k2, k3⟩ := mm_nr (alt := alt) hT hx n 0 (10 ^ pl / x) 0 (Nat.lt_of_le_of_lt (Nat.div_le_self _ _) hn) a1 a2
  rw [Nat.zero_add] at k2
  refine ⟨k2, (mmGo x alt n 0 (10 ^ pl / x) 0).2, fun m hm => ?_⟩
  obtain ⟨j1, j2⟩ := k3 m hm
  generalize mmGo x alt n 0 (10 ^ pl / x) 0 = R at *
  have e0 : tS x alt 0 = 0 := rfl
  have e1 : ((0 : Int) : Rat) = 0 := rfl
  have e2 : ((0 : Nat) : Rat) = 0 := rfl
  have e3 : ((R.2 + 2 : Nat) : Rat) = (R.2 : Rat) + 2 := by rw [nc_add]; rfl
  rw [e0, e1, e2] at j1 j2
  rw [e3]
  generalize tS x alt m = d at *
  constructor <;> grind
theorem tan_mm {x : Nat} {alt : Bool} : ∀ (n i t P M : Nat), ((tanGo x alt n i t P M).1 : Int) - ((tanGo x alt n i t P M).2 : Int) = (mmGo x alt n i t ((P : Int) - (M : Int))).1 := by
  intro n
  induction n with
  | zero => intro i t P M; rfl
  | succ n ih =>
    intro i t P M
    by_cases h : t = 0
    · have e : tanGo x alt (n + 1) i t P M = (P, M) := if_pos h
      rw [e, mmGo_0 h]
    · rw [mmGo_s h, Nat.div_div_eq_div_mul]
      by_cases g : alt = true ∧ i % 2 = 1
      · rw [tanGo_M h g, ih, if_pos g]
        congr 2
        omega
      · rw [tanGo_P h g, ih, if_neg g]
        congr 2
        omega
