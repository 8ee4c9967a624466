/-! Sums over Rat; the powers of e -/
def sm (f : Nat → Rat) : Nat → Rat
  | 0 => 0
  | n + 1 => sm f n + f n
theorem sm_congr {f g : Nat → Rat} : ∀ n, (∀ i, i < n → f i = g i) → sm f n = sm g n := by
  intro n
  induction n with
  | zero => intro _; rfl
  | succ n ih =>
    intro h
    show sm f n + f n = sm g n + g n
    rw [ih (fun i hi => h i (by omega)), h n (by omega)]
theorem sm_add {f g : Nat → Rat} : ∀ n, sm (fun i => f i + g i) n = sm f n + sm g n := by
  intro n
  induction n with
  | zero => show (0 : Rat) = 0 + 0; grind
  | succ n ih =>
    show sm (fun i => f i + g i) n + (f n + g n) = sm f n + f n + (sm g n + g n)
    rw [ih]; grind
theorem sm_mul {f : Nat → Rat} {c : Rat} : ∀ n, sm (fun i => c * f i) n = c * sm f n := by
  intro n
  induction n with
  | zero => show (0 : Rat) = c * 0; grind
  | succ n ih =>
    show sm (fun i => c * f i) n + c * f n = c * (sm f n + f n)
    rw [ih]; grind
theorem sm_first {f : Nat → Rat} : ∀ n, sm f (n + 1) = f 0 + sm (fun i => f (i + 1)) n := by
  intro n
  induction n with
  | zero => show (0 : Rat) + f 0 = f 0 + 0; grind
  | succ n ih =>
    show sm f (n + 1) + f (n + 1) = f 0 + (sm (fun i => f (i + 1)) n + f (n + 1))
    rw [ih]; grind
theorem sm_le {f g : Nat → Rat} : ∀ n, (∀ i, i < n → f i ≤ g i) → sm f n ≤ sm g n := by
  intro n
  induction n with
  | zero => intro _; exact Rat.le_refl
  | succ n ih =>
    intro h
    have h1 := ih (fun i hi => h i (by omega))
    have h2 := h n (by omega)
    show sm f n + f n ≤ sm g n + g n
    grind
theorem sm_mono {f : Nat → Rat} (h : ∀ i, 0 ≤ f i) : ∀ n m, n ≤ m → sm f n ≤ sm f m := by
  intro n m
  induction m with
  | zero => intro q; rw [show n = 0 by omega]; exact Rat.le_refl
  | succ m ih =>
    intro q
    by_cases e : n = m + 1
    · rw [e]; exact Rat.le_refl
    · have h1 := ih (by omega)
      have h2 := h m
      show sm f n ≤ sm f m + f m
      grind
theorem nc_pos (i : Nat) : (0 : Rat) < (i : Rat) + 1 := by
  have := Rat.natCast_nonneg (a := i)
  grind
theorem nc_add (i j : Nat) : ((i + j : Nat) : Rat) = (i : Rat) + (j : Rat) := Rat.natCast_add i j
theorem nc_mul (i j : Nat) : ((i * j : Nat) : Rat) = (i : Rat) * (j : Rat) := Rat.natCast_mul i j
theorem nc_succ (i : Nat) : ((i + 1 : Nat) : Rat) = (i : Rat) + 1 := by rw [nc_add]; rfl
theorem nc_le {i j : Nat} (h : i ≤ j) : (i : Rat) ≤ (j : Rat) := Rat.natCast_le_natCast.mpr h
theorem nc_lt {i j : Nat} (h : i < j) : (i : Rat) < (j : Rat) := Rat.natCast_lt_natCast.mpr h
/-- x^i / i! -/
def eu (x : Rat) : Nat → Rat
  | 0 => 1
  | i + 1 => eu x i * (x / ((i : Rat) + 1))
def es (x : Rat) (n : Nat) : Rat := sm (eu x) n
theorem es_s (x : Rat) (n : Nat) : es x (n + 1) = es x n + eu x n := rfl
theorem eu_s (x : Rat) (i : Nat) : ((i : Rat) + 1) * eu x (i + 1) = x * eu x i := by
  have h := nc_pos i
  show ((i : Rat) + 1) * (eu x i * (x / ((i : Rat) + 1))) = x * eu x i
  have e : x / ((i : Rat) + 1) * ((i : Rat) + 1) = x := Rat.div_mul_cancel (Rat.ne_of_gt h)
  grind
theorem dv_nn {x : Rat} (hx : 0 ≤ x) (i : Nat) : 0 ≤ x / ((i : Rat) + 1) := by
  have h := nc_pos i
  rw [Rat.div_def]
  exact Rat.mul_nonneg hx (Rat.le_of_lt (Rat.inv_pos.mpr h))
theorem eu_nn {x : Rat} (hx : 0 ≤ x) : ∀ i, 0 ≤ eu x i := by
  intro i
  induction i with
  | zero => show (0 : Rat) ≤ 1; decide
  | succ i ih => exact Rat.mul_nonneg ih (dv_nn hx i)
theorem es_nn {x : Rat} (hx : 0 ≤ x) (n : Nat) : 0 ≤ es x n := sm_mono (eu_nn hx) 0 n (Nat.zero_le _)
theorem es_mono {x : Rat} (hx : 0 ≤ x) {n m : Nat} (h : n ≤ m) : es x n ≤ es x m := sm_mono (eu_nn hx) n m h
def tT (x y : Rat) (n : Nat) : Rat := sm (fun i => eu x i * eu y (n - i)) (n + 1)
theorem tT_s (x y : Rat) (n : Nat) : ((n : Rat) + 1) * tT x y (n + 1) = (x + y) * tT x y n := by
  have h1 : ((n : Rat) + 1) * tT x y (n + 1) = sm (fun i => (i : Rat) * eu x i * eu y (n + 1 - i)) (n + 2) + sm (fun i => eu x i * (((n + 1 - i : Nat) : Rat) * eu y (n + 1 - i))) (n + 2) := by
    unfold tT
    rw [← sm_mul, ← sm_add]
    apply sm_congr
    intro i hi
    obtain ⟨d, hd⟩ : ∃ d, n + 1 = i + d := ⟨n + 1 - i, by omega⟩
    have e1 : n + 1 - i = d := by omega
    have e2 : (n : Rat) + 1 = (i : Rat) + (d : Rat) := by rw [← nc_succ, ← nc_add, hd]
    rw [e1, e2]
    grind
  have h2 : sm (fun i => (i : Rat) * eu x i * eu y (n + 1 - i)) (n + 2) = x * tT x y n := by
    rw [sm_first]
    unfold tT
    rw [← sm_mul]
    have e0 : ((0 : Nat) : Rat) * eu x 0 * eu y (n + 1 - 0) = 0 := by
      rw [show ((0 : Nat) : Rat) = 0 from rfl]; grind
    rw [e0, Rat.zero_add]
    apply sm_congr
    intro i hi
    have e1 : n + 1 - (i + 1) = n - i := by omega
    have e2 := eu_s x i
    show ((i + 1 : Nat) : Rat) * eu x (i + 1) * eu y (n + 1 - (i + 1)) = _
    rw [e1, nc_succ, e2]
    grind
  have h3 : sm (fun i => eu x i * (((n + 1 - i : Nat) : Rat) * eu y (n + 1 - i))) (n + 2) = y * tT x y n := by
    show sm (fun i => eu x i * (((n + 1 - i : Nat) : Rat) * eu y (n + 1 - i))) (n + 1) + eu x (n + 1) * (((n + 1 - (n + 1) : Nat) : Rat) * eu y (n + 1 - (n + 1))) = _
    have e0 : ((n + 1 - (n + 1) : Nat) : Rat) = 0 := by rw [Nat.sub_self]; rfl
    rw [e0]
    unfold tT
    rw [← sm_mul]
    have e3 : sm (fun i => eu x i * (((n + 1 - i : Nat) : Rat) * eu y (n + 1 - i))) (n + 1) = sm (fun i => y * (eu x i * eu y (n - i))) (n + 1) := by
      apply sm_congr
      intro i hi
      have e1 : n + 1 - i = (n - i) + 1 := by omega
      have e2 := eu_s y (n - i)
      show eu x i * (((n + 1 - i : Nat) : Rat) * eu y (n + 1 - i)) = _
      rw [e1, nc_succ, e2]
      grind
    rw [e3]
    grind
  rw [h1, h2, h3]
  grind
theorem tT_eq (x y : Rat) : ∀ n, tT x y n = eu (x + y) n := by
  intro n
  induction n with
  | zero => show (0 : Rat) + 1 * 1 = 1; grind
  | succ n ih =>
    have h1 := tT_s x y n
    have h2 := eu_s (x + y) n
    have h3 := nc_pos n
    rw [ih] at h1
    have h4 : ((n : Rat) + 1) * tT x y (n + 1) = ((n : Rat) + 1) * eu (x + y) (n + 1) := by rw [h1, h2]
    refine Rat.le_antisymm (Rat.le_of_mul_le_mul_left (c := (n : Rat) + 1) ?_ h3) (Rat.le_of_mul_le_mul_left (c := (n : Rat) + 1) ?_ h3)
    · rw [h4]; exact Rat.le_refl
    · rw [h4]; exact Rat.le_refl
def cQ (x y : Rat) (n : Nat) : Rat := sm (fun i => eu x i * es y (n - i)) n
theorem cQ_s (x y : Rat) (n : Nat) : cQ x y (n + 1) = cQ x y n + tT x y n := by
  have h1 : cQ x y (n + 1) = sm (fun i => eu x i * es y (n - i)) (n + 1) + tT x y n := by
    unfold cQ tT
    rw [← sm_add]
    apply sm_congr
    intro i hi
    have e1 : n + 1 - i = (n - i) + 1 := by omega
    rw [e1, es_s]
    grind
  rw [h1]
  show sm (fun i => eu x i * es y (n - i)) n + eu x n * es y (n - n) + tT x y n = cQ x y n + tT x y n
  have e0 : es y (n - n) = 0 := by rw [Nat.sub_self]; rfl
  rw [e0]
  unfold cQ
  grind
theorem cQ_eq (x y : Rat) : ∀ n, cQ x y n = es (x + y) n := by
  intro n
  induction n with
  | zero => rfl
  | succ n ih => rw [cQ_s, ih, tT_eq, es_s]
theorem es_prod (x y : Rat) (n : Nat) : es x n * es y n = sm (fun i => eu x i * es y n) n := by
  have : sm (fun i => es y n * eu x i) n = es y n * es x n := sm_mul n
  rw [Rat.mul_comm, ← this]
  apply sm_congr
  intro i _
  grind
/-- both sides of e^(x + y), for x and y not below 0 -/
theorem es_lo {x y : Rat} (hx : 0 ≤ x) (hy : 0 ≤ y) (n : Nat) : es (x + y) n ≤ es x n * es y n := by
  rw [← cQ_eq, es_prod]
  refine sm_le n (fun i hi => ?_)
  exact Rat.mul_le_mul_of_nonneg_left (es_mono hy (by omega)) (eu_nn hx i)
theorem es_hi {x y : Rat} (hx : 0 ≤ x) (hy : 0 ≤ y) (n : Nat) : es x n * es y n ≤ es (x + y) (n + n) := by
  rw [← cQ_eq, es_prod]
  unfold cQ
  have h1 : sm (fun i => eu x i * es y n) n ≤ sm (fun i => eu x i * es y (n + n - i)) n :=
    sm_le n (fun i hi => Rat.mul_le_mul_of_nonneg_left (es_mono hy (by omega)) (eu_nn hx i))
  have h2 : sm (fun i => eu x i * es y (n + n - i)) n ≤ sm (fun i => eu x i * es y (n + n - i)) (n + n) :=
    sm_mono (fun i => Rat.mul_nonneg (eu_nn hx i) (es_nn hy _)) n (n + n) (by omega)
  exact Rat.le_trans h1 h2
theorem eu_ng {x : Rat} (hx : 0 ≤ x) : ∀ i, eu (-x) i = (if i % 2 = 1 then -1 else 1) * eu x i := by
  intro i
  induction i with
  | zero => show (1 : Rat) = 1 * 1; grind
  | succ i ih =>
    show eu (-x) i * (-x / ((i : Rat) + 1)) = (if (i + 1) % 2 = 1 then -1 else 1) * (eu x i * (x / ((i : Rat) + 1)))
    have e : -x / ((i : Rat) + 1) = -(x / ((i : Rat) + 1)) := by rw [Rat.div_def, Rat.div_def, Rat.neg_mul]
    rw [ih, e]
    generalize x / ((i : Rat) + 1) = c
    by_cases h : i % 2 = 1
    · rw [if_pos h, if_neg (by omega)]; grind
    · rw [if_neg h, if_pos (by omega)]; grind
theorem eu_ab {x : Rat} (hx : 0 ≤ x) (i : Nat) : -eu x i ≤ eu (-x) i ∧ eu (-x) i ≤ eu x i := by
  have h := eu_nn hx i
  rw [eu_ng hx]
  by_cases q : i % 2 = 1
  · rw [if_pos q]; constructor <;> grind
  · rw [if_neg q]; constructor <;> grind
theorem es_df {x : Rat} (hx : 0 ≤ x) {m : Nat} : ∀ n, m ≤ n → -(es x n - es x m) ≤ es (-x) n - es (-x) m ∧ es (-x) n - es (-x) m ≤ es x n - es x m := by
  intro n
  induction n with
  | zero =>
    intro h
    have e : m = 0 := by omega
    subst e
    constructor <;> grind
  | succ n ih =>
    intro h
    by_cases e : m = n + 1
    · subst e
      constructor <;> grind
    · obtain ⟨h1, h2⟩ := ih (by omega)
      obtain ⟨h3, h4⟩ := eu_ab hx n
      rw [es_s, es_s]
      constructor <;> grind
theorem eu_0 : ∀ i, eu 0 (i + 1) = 0 := by
  intro i
  show eu 0 i * (0 / ((i : Rat) + 1)) = 0
  rw [Rat.div_def]; grind
theorem es_0 : ∀ n, es 0 (n + 1) = 1 := by
  intro n
  induction n with
  | zero => show (0 : Rat) + 1 = 1; grind
  | succ n ih => rw [es_s, ih, eu_0]; grind
/-- e^x e^(-x) -/
theorem es_inv {x : Rat} (hx : 0 ≤ x) (n : Nat) : -(es (x + x) (n + 1 + (n + 1)) - es (x + x) (n + 1)) ≤ es x (n + 1) * es (-x) (n + 1) - 1 ∧ es x (n + 1) * es (-x) (n + 1) - 1 ≤ es (x + x) (n + 1 + (n + 1)) - es (x + x) (n + 1) := by
  have e0 : es 0 (n + 1) = 1 := es_0 n
  have e1 : cQ x (-x) (n + 1) = 1 := by rw [cQ_eq, show x + -x = 0 by grind]; exact e0
  have e2 : cQ x x (n + 1) = es (x + x) (n + 1) := cQ_eq x x (n + 1)
  have hh := es_hi hx hx (n + 1)
  have ha : es x (n + 1) * es (-x) (n + 1) - cQ x (-x) (n + 1) = sm (fun i => eu x i * (es (-x) (n + 1) - es (-x) (n + 1 - i))) (n + 1) := by
    have : sm (fun i => eu x i * (es (-x) (n + 1) - es (-x) (n + 1 - i))) (n + 1) + cQ x (-x) (n + 1) = es x (n + 1) * es (-x) (n + 1) := by
      unfold cQ
      rw [← sm_add, es_prod]
      apply sm_congr
      intro i _
      grind
    grind
  have hb : es x (n + 1) * es x (n + 1) - cQ x x (n + 1) = sm (fun i => eu x i * (es x (n + 1) - es x (n + 1 - i))) (n + 1) := by
    have : sm (fun i => eu x i * (es x (n + 1) - es x (n + 1 - i))) (n + 1) + cQ x x (n + 1) = es x (n + 1) * es x (n + 1) := by
      unfold cQ
      rw [← sm_add, es_prod]
      apply sm_congr
      intro i _
      grind
    grind
  have hu : sm (fun i => eu x i * (es (-x) (n + 1) - es (-x) (n + 1 - i))) (n + 1) ≤ sm (fun i => eu x i * (es x (n + 1) - es x (n + 1 - i))) (n + 1) :=
    sm_le _ (fun i hi => Rat.mul_le_mul_of_nonneg_left (es_df hx (n + 1) (by omega)).2 (eu_nn hx i))
  have hl : sm (fun i => -1 * (eu x i * (es x (n + 1) - es x (n + 1 - i)))) (n + 1) ≤ sm (fun i => eu x i * (es (-x) (n + 1) - es (-x) (n + 1 - i))) (n + 1) := by
    refine sm_le _ (fun i hi => ?_)
    have := Rat.mul_le_mul_of_nonneg_left (es_df hx (n + 1) (show n + 1 - i ≤ n + 1 by omega)).1 (eu_nn hx i)
    grind
  rw [sm_mul] at hl
  rw [← ha, ← hb] at hu
  rw [← ha, ← hb] at hl
  rw [e1, e2] at hu hl
  constructor <;> grind
/-- what is left behind n, for x at most 10 -/
theorem eu_hf {x : Rat} (hx : 0 ≤ x) {j : Nat} (h : 2 * x ≤ (j : Rat) + 1) : 2 * eu x (j + 1) ≤ eu x j := by
  have h1 := eu_s x j
  have h2 := nc_pos j
  have h3 := eu_nn hx j
  refine Rat.le_of_mul_le_mul_left (c := (j : Rat) + 1) ?_ h2
  have h4 := Rat.mul_le_mul_of_nonneg_right h h3
  grind
theorem es_tl {x : Rat} (hx : 0 ≤ x) {n : Nat} (h : 2 * x ≤ (n : Rat) + 1) : ∀ m, n ≤ m → es x m - es x n ≤ 2 * eu x n := by
  have key : ∀ m, n ≤ m → es x m + 2 * eu x m ≤ es x n + 2 * eu x n := by
    intro m
    induction m with
    | zero => intro q; rw [show n = 0 by omega]; exact Rat.le_refl
    | succ m ih =>
      intro q
      by_cases e : n = m + 1
      · rw [e]; exact Rat.le_refl
      · have h1 := ih (by omega)
        have h2 : (n : Rat) ≤ (m : Rat) := nc_le (by omega)
        have h3 := eu_hf (j := m) hx (by grind)
        rw [es_s]
        grind
  intro m q
  have h1 := key m q
  have h2 := eu_nn hx m
  grind
theorem eu_sm {x : Rat} (hx : 0 ≤ x) (h10 : x ≤ 10) : ∀ T : Nat, ∃ n0, 20 ≤ n0 ∧ ∀ n, n0 ≤ n → (T : Rat) * eu x n ≤ 1 := by
  have hhalf : ∀ k, (2 ^ k : Nat) * eu x (20 + k) ≤ eu x 20 := by
    intro k
    induction k with
    | zero => rw [Nat.pow_zero]; show (1 : Rat) * _ ≤ _; grind
    | succ k ih =>
      have h1 : (20 : Rat) ≤ ((20 + k : Nat) : Rat) := nc_le (i := 20) (by omega)
      have h2 := eu_hf (j := 20 + k) hx (by grind)
      have h3 : ((2 ^ (k + 1) : Nat) : Rat) = ((2 ^ k : Nat) : Rat) * 2 := by rw [Nat.pow_succ, nc_mul]; rfl
      have h4 := Rat.natCast_nonneg (a := 2 ^ k)
      have h5 := Rat.mul_le_mul_of_nonneg_left h2 h4
      rw [show 20 + (k + 1) = 20 + k + 1 from rfl, h3]
      grind
  intro T
  obtain ⟨U, hU⟩ : ∃ U : Nat, eu x 20 ≤ (U : Rat) := by
    obtain ⟨U, hU⟩ : ∃ U : Int, eu x 20 < ((U : Int) : Rat) := ⟨(eu x 20).floor + 1, Rat.lt_floor_add_one _⟩
    refine ⟨U.toNat, ?_⟩
    have h0 := eu_nn hx 20
    have h1 : (0 : Int) ≤ U := by
      have : (0 : Rat) < ((U : Int) : Rat) := by grind
      have := Rat.intCast_pos.mp this
      omega
    have h2 : ((U.toNat : Nat) : Rat) = ((U : Int) : Rat) := by
      rw [← Rat.intCast_natCast, Int.toNat_of_nonneg h1]
    grind
  refine ⟨20 + T * U, by omega, fun n hn => ?_⟩
  obtain ⟨k, hk⟩ : ∃ k, n = 20 + k := ⟨n - 20, by omega⟩
  subst hk
  have h1 := hhalf k
  have h2 : T * U ≤ 2 ^ k := Nat.le_trans (show T * U ≤ k by omega) (Nat.le_of_lt Nat.lt_two_pow_self)
  have h3 : (T : Rat) * (U : Rat) ≤ ((2 ^ k : Nat) : Rat) := by rw [← nc_mul]; exact nc_le h2
  have h4 := eu_nn hx (20 + k)
  have hT := Rat.natCast_nonneg (a := T)
  rcases Nat.eq_zero_or_pos U with hz | hz
  · subst hz
    have h0 : eu x 20 ≤ 0 := hU
    have hp : (0 : Rat) < ((2 ^ k : Nat) : Rat) := Rat.natCast_pos.mpr (Nat.pow_pos (by decide))
    have h5 : eu x (20 + k) ≤ 0 := by
      refine Rat.le_of_mul_le_mul_left (c := ((2 ^ k : Nat) : Rat)) ?_ hp
      grind
    have h6 : eu x (20 + k) = 0 := Rat.le_antisymm h5 h4
    rw [h6]
    grind
  · have hUp : (0 : Rat) < (U : Rat) := Rat.natCast_pos.mpr hz
    refine Rat.le_of_mul_le_mul_left (c := (U : Rat)) ?_ hUp
    have h5 := Rat.mul_le_mul_of_nonneg_right h3 h4
    grind
/-- T (e^x e^(-x) - 1) lies within 1 -/
theorem es_one {x : Rat} (hx : 0 ≤ x) (h5 : x ≤ 5) (T : Nat) : ∃ n0, ∀ n, n0 ≤ n → (T : Rat) - 1 ≤ (T : Rat) * (es x n * es (-x) n) ∧ (T : Rat) * (es x n * es (-x) n) ≤ (T : Rat) + 1 := by
  have hy : 0 ≤ x + x := by grind
  obtain ⟨n0, hn, h⟩ := eu_sm hy (by grind) (2 * T)
  refine ⟨n0 + 1, fun n hnn => ?_⟩
  obtain ⟨k, hk⟩ : ∃ k, n = k + 1 := ⟨n - 1, by omega⟩
  subst hk
  have h20 : (20 : Rat) ≤ ((k + 1 : Nat) : Rat) := nc_le (i := 20) (by omega)
  have h1 := es_tl hy (n := k + 1) (by grind) (k + 1 + (k + 1)) (by omega)
  obtain ⟨h2, h3⟩ := es_inv hx k
  have h4 := h (k + 1) (by omega)
  have h6 : ((2 * T : Nat) : Rat) = 2 * (T : Rat) := by rw [nc_mul]; rfl
  rw [h6] at h4
  have hT := Rat.natCast_nonneg (a := T)
  have h7 : (T : Rat) * (es (x + x) (k + 1 + (k + 1)) - es (x + x) (k + 1)) ≤ 1 := by
    have := Rat.mul_le_mul_of_nonneg_left h1 hT
    grind
  have h8 := Rat.mul_le_mul_of_nonneg_left h2 hT
  have h9 := Rat.mul_le_mul_of_nonneg_left h3 hT
  generalize es x (k + 1) * es (-x) (k + 1) = w at *
  constructor <;> grind
