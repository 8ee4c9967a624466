/-! The digits of all numbers, as the kernel is to compute them -/
/-- arctan and artanh of 1 / x: two members a step; xx = x * x, d = 2 i + 1 -/
noncomputable def tk (xx n : Nat) : Nat → Nat → Nat → Nat → Bool := @Nat.rec (fun _ => Nat → Nat → Nat → Nat → Bool) (fun _ _ _ _ => false) (fun _ ih d t P M => cond (Nat.ble 1 t) (ih (Nat.add d 4) (Nat.div (Nat.div t xx) xx) (Nat.add P (Nat.div t d)) (Nat.add M (Nat.div (Nat.div t xx) (Nat.add d 2)))) (and (okZ (Nat.add P M)) (okZ (Nat.sub P M)))) n
theorem tk_s (xx n d t P M : Nat) : tk xx (n + 1) d t P M = cond (Nat.ble 1 t) (tk xx n (d + 4) (t / xx / xx) (P + t / d) (M + t / xx / (d + 2))) (okZ (P + M) && okZ (P - M)) := rfl
noncomputable def tkY (T x : Nat) : Bool := tk (Nat.mul x x) 900 1 (Nat.div T x) 0 0
theorem tkY_e (T x : Nat) : tkY T x = tk (x * x) 900 (2 * 0 + 1) (T / x) 0 0 := rfl
noncomputable def tkX (x : Nat) : Bool := tkY (10 ^ 520) x
noncomputable def tkR (lo n : Nat) : Bool := @Nat.rec (fun _ => Bool) true (fun k ih => and (tkX (Nat.add lo k)) ih) n
theorem tkR_s (lo n : Nat) : tkR lo (n + 1) = (tkX (lo + n) && tkR lo n) := rfl
theorem tkR_e {lo : Nat} : ∀ n, tkR lo n = true → ∀ k, k < n → tkX (lo + k) = true := by
  intro n
  induction n with
  | zero => intro _ k hk; omega
  | succ n ih =>
    intro h k hk
    rw [tkR_s, Bool.and_eq_true] at h
    by_cases e : k = n
    · rw [e]; exact h.1
    · exact ih h.2 k (by omega)
theorem cd_t (a b : Bool) : cond true a b = a := rfl
theorem cd_f (a b : Bool) : cond false a b = b := rfl
theorem tk_mm {x : Nat} : ∀ (n i t P M : Nat), i % 2 = 0 → tk (x * x) n (2 * i + 1) t P M = true → ∀ m, 2 * n ≤ m →
    (∃ z : Nat, (mmGo x false m i t ((P : Int) + (M : Int))).1 = (z : Int) ∧ okZ z = true) ∧ (∃ z : Nat, (mmGo x true m i t ((P : Int) - (M : Int))).1 = (z : Int) ∧ okZ z = true) := by
  intro n
  induction n with
  | zero => intro i t P M _ h; cases h
  | succ n ih =>
    intro i t P M hi h m hm
    rw [tk_s] at h
    by_cases h0 : t = 0
    · subst h0
      rw [show Nat.ble 1 0 = false from rfl, cd_f, Bool.and_eq_true] at h
      rw [mmGo_0 rfl, mmGo_0 rfl]
      have hPM : M ≤ P := by
        rcases Nat.lt_or_ge P M with q | q
        · have h2 := h.2
          rw [show P - M = 0 by omega] at h2
          exact absurd h2 (by decide +kernel)
        · exact q
      exact ⟨⟨P + M, by show (P : Int) + (M : Int) = _; omega, h.1⟩, ⟨P - M, by show (P : Int) - (M : Int) = _; omega, h.2⟩⟩
    · have hb : Nat.ble 1 t = true := Nat.ble_eq_true_of_le (by omega)
      rw [hb, cd_t] at h
      have h : tk (x * x) n (2 * i + 1 + 4) (t / (x * x) / (x * x)) (P + t / (2 * i + 1)) (M + t / (x * x) / (2 * i + 1 + 2)) = true := h
      obtain ⟨m', hm'⟩ : ∃ m', m = m' + 1 + 1 := ⟨m - 2, by omega⟩
      subst hm'
      have r := ih (i + 2) _ _ _ (by omega) (by rw [show 2 * (i + 2) + 1 = 2 * i + 1 + 4 by omega]; exact h) m' (by omega)
      have hne : ¬ (i % 2 = 1) := by omega
      have hod : (i + 1) % 2 = 1 := by omega
      rw [mmGo_s h0, mmGo_s h0, Nat.div_div_eq_div_mul, if_neg (fun q => by cases q.1), if_neg (fun q => hne q.2)]
      by_cases h1 : t / (x * x) = 0
      · have z1 : t / (x * x) / (x * x) = 0 := by rw [h1, Nat.zero_div]
        have z2 : t / (x * x) / (2 * i + 1 + 2) = 0 := by rw [h1, Nat.zero_div]
        rw [z1, z2, mmGo_0 rfl, mmGo_0 rfl] at r
        rw [mmGo_0 h1, mmGo_0 h1]
        obtain ⟨⟨a, a1, a2⟩, ⟨c, c1, c2⟩⟩ := r
        refine ⟨⟨a, ?_, a2⟩, ⟨c, ?_, c2⟩⟩
        · rw [← a1]
          show (P : Int) + (M : Int) + 1 * _ = _ + _
          push_cast
          omega
        · rw [← c1]
          show (P : Int) - (M : Int) + 1 * _ = _ - _
          push_cast
          omega
      · rw [mmGo_s h1, mmGo_s h1, Nat.div_div_eq_div_mul, if_neg (fun q => by cases q.1), if_pos ⟨rfl, hod⟩]
        rw [show 2 * (i + 1) + 1 = 2 * i + 1 + 2 by omega]
        generalize t / (2 * i + 1) = u at *
        generalize t / (x * x) / (2 * i + 1 + 2) = v at *
        obtain ⟨⟨a, a1, a2⟩, ⟨c, c1, c2⟩⟩ := r
        refine ⟨⟨a, ?_, a2⟩, ⟨c, ?_, c2⟩⟩
        · rw [← a1]
          congr 2
          push_cast
          omega
        · rw [← c1]
          congr 2
          push_cast
          omega
theorem tk_ok {x : Nat} (hx : 2 ≤ x) (h : tkX x = true) (alt : Bool) : ∃ (z e0 : Nat), nr (tS x alt) (z : Int) 520 e0 ∧ e0 ≤ 10 ^ 19 ∧ okZ z = true := by
  unfold tkX at h
  rw [tkY_e] at h
  obtain ⟨⟨a, a1, a2⟩, ⟨c, c1, c2⟩⟩ := tk_mm (x := x) 900 0 (10 ^ 520 / x) 0 0 rfl h 3000 (by decide)
  obtain ⟨k1, k2⟩ := mm_near (x := x) (alt := alt) (pl := 520) (n := 3000) hx (p4 (by decide) (by decide))
  cases alt
  · have a1 : (mmGo x false 3000 0 (10 ^ 520 / x) 0).1 = (a : Int) := a1
    rw [a1] at k2
    exact ⟨a, 10 ^ 19, k2.mono (Nat.le_trans (Nat.add_le_add_right k1 2) (by decide)), Nat.le_refl _, a2⟩
  · have c1 : (mmGo x true 3000 0 (10 ^ 520 / x) 0).1 = (c : Int) := c1
    rw [c1] at k2
    exact ⟨c, 10 ^ 19, k2.mono (Nat.le_trans (Nat.add_le_add_right k1 2) (by decide)), Nat.le_refl _, c2⟩
/-- e^(1 / b) -/
noncomputable def px (b n : Nat) : Nat → Nat → Nat → Nat := @Nat.rec (fun _ => Nat → Nat → Nat → Nat) (fun _ _ s => s) (fun _ ih i t s => cond (Nat.ble 1 t) (ih (Nat.add i 1) (Nat.div t (Nat.mul b (Nat.add i 1))) (Nat.add s t)) s) n
theorem px_s (b n i t s : Nat) : px b (n + 1) i t s = cond (Nat.ble 1 t) (px b n (i + 1) (t / (b * (i + 1))) (s + t)) s := rfl
theorem px_pz {b : Nat} : ∀ (n i t s : Nat), ((px b n i t s : Nat) : Int) = (pz 1 b (fun _ => 1) n i t (s : Int)).1 := by
  intro n
  induction n with
  | zero => intro i t s; rfl
  | succ n ih =>
    intro i t s
    rw [px_s]
    by_cases h : t = 0
    · subst h
      rw [pz_0 rfl]; rfl
    · rw [pz_s h, Nat.ble_eq_true_of_le (show 1 ≤ t by omega), Nat.mul_one]
      show ((px b n (i + 1) (t / (b * (i + 1))) (s + t) : Nat) : Int) = _
      rw [ih]
      congr 2
      push_cast
      omega
/-- T the scale, TT its square, l and h a number's ends; its inverse is looked at too; the ends are near enough at the end, so they are before it -/
noncomputable def pk (T TT l1 h1 n : Nat) : Nat → Nat → Bool := @Nat.rec (fun _ => Nat → Nat → Bool) (fun l h => Nat.ble (Nat.sub h l) (nat_lit 1000000000000000000)) (fun _ ih l h => and (Nat.ble (nat_lit 1) (Nat.mul (okN l) (okN (Nat.div TT h)))) (ih (Nat.div (Nat.mul l l1) T) (Nat.add (Nat.div (Nat.mul h h1) T) (nat_lit 1)))) n
theorem pk_s (T TT l1 h1 n l h : Nat) : pk T TT l1 h1 (n + 1) l h = (Nat.ble 1 (okN l * okN (TT / h)) && pk T TT l1 h1 n (l * l1 / T) (h * h1 / T + 1)) := rfl
theorem pk_0 (T TT l1 h1 l h : Nat) : pk T TT l1 h1 0 l h = Nat.ble (h - l) 1000000000000000000 := rfl
noncomputable def pkV (T b w : Nat) : Bool := and (Nat.ble T (Nat.sub w 30000)) (pk T (Nat.mul T T) (Nat.sub w 30000) (Nat.add w 30000) (Nat.mul 5 b) (Nat.sub w 30000) (Nat.add w 30000))
theorem pkV_e (T b w : Nat) : pkV T b w = (Nat.ble T (w - 30000) && pk T (T * T) (w - 30000) (w + 30000) (5 * b) (w - 30000) (w + 30000)) := rfl
noncomputable def pkU (T b : Nat) : Bool := pkV T b (px b 1800 0 T 0)
noncomputable def pkB (b : Nat) : Bool := pkU (10 ^ 520) b
noncomputable def pkR (lo n : Nat) : Bool := @Nat.rec (fun _ => Bool) true (fun k ih => and (pkB (Nat.add lo k)) ih) n
theorem pkR_s (lo n : Nat) : pkR lo (n + 1) = (pkB (lo + n) && pkR lo n) := rfl
theorem pkR_e {lo : Nat} : ∀ n, pkR lo n = true → ∀ k, k < n → pkB (lo + k) = true := by
  intro n
  induction n with
  | zero => intro _ k hk; omega
  | succ n ih =>
    intro h k hk
    rw [pkR_s, Bool.and_eq_true] at h
    by_cases e : k = n
    · rw [e]; exact h.1
    · exact ih h.2 k (by omega)
/-- T e^x lies between l and h, from some member on -/
def btw (T : Nat) (x : Rat) (l h : Nat) : Prop := ∃ n0, ∀ n, n0 ≤ n → (l : Rat) ≤ (T : Rat) * es x n ∧ (T : Rat) * es x n ≤ (h : Rat)
theorem btw_mul {T : Nat} {x y : Rat} {l h l1 h1 : Nat} (hT : 0 < T) (hx : 0 ≤ x) (hy : 0 ≤ y) (a : btw T x l h) (c : btw T y l1 h1) : btw T (x + y) (l * l1 / T) (h * h1 / T + 1) := by
  obtain ⟨n0, a⟩ := a
  obtain ⟨n1, c⟩ := c
  have hTp : (0 : Rat) < (T : Rat) := Rat.natCast_pos.mpr hT
  have hl0 := Rat.natCast_nonneg (a := l)
  have hl1 := Rat.natCast_nonneg (a := l1)
  refine ⟨n0 + n1 + (n0 + n1), fun n hn => ⟨?_, ?_⟩⟩
  · obtain ⟨a1, -⟩ := a (n0 + n1) (by omega)
    obtain ⟨c1, -⟩ := c (n0 + n1) (by omega)
    have m1 := es_hi hx hy (n0 + n1)
    have m2 : es (x + y) (n0 + n1 + (n0 + n1)) ≤ es (x + y) n := es_mono (by grind) hn
    have f := nc_le (Nat.div_mul_le_self (l * l1) T)
    rw [nc_mul, nc_mul] at f
    have p1 : (l : Rat) * (l1 : Rat) ≤ ((T : Rat) * es x (n0 + n1)) * ((T : Rat) * es y (n0 + n1)) := by
      have q1 := Rat.mul_le_mul_of_nonneg_right a1 hl1
      have q2 := Rat.mul_le_mul_of_nonneg_left c1 (show 0 ≤ (T : Rat) * es x (n0 + n1) by grind)
      exact Rat.le_trans q1 q2
    have p2 := Rat.mul_le_mul_of_nonneg_left (Rat.le_trans m1 m2) (Rat.le_of_lt (Rat.mul_pos hTp hTp))
    refine Rat.le_of_mul_le_mul_right (c := (T : Rat)) ?_ hTp
    grind
  · obtain ⟨a0, a2⟩ := a n (by omega)
    obtain ⟨c0, c2⟩ := c n (by omega)
    have m1 := es_lo hx hy n
    have f : h * h1 ≤ (h * h1 / T + 1) * T := by
      have := Nat.div_add_mod (h * h1) T
      have := Nat.mod_lt (h * h1) hT
      rw [Nat.add_mul, Nat.one_mul, Nat.mul_comm (h * h1 / T)]
      omega
    have f := nc_le f
    rw [nc_mul, nc_mul] at f
    have hh : 0 ≤ (T : Rat) * es x n := Rat.le_trans hl0 a0
    have hh1 : 0 ≤ (T : Rat) * es y n := Rat.le_trans hl1 c0
    have p1 : ((T : Rat) * es x n) * ((T : Rat) * es y n) ≤ (h : Rat) * (h1 : Rat) := by
      have q1 := Rat.mul_le_mul_of_nonneg_right a2 hh1
      have q2 := Rat.mul_le_mul_of_nonneg_left c2 (Rat.natCast_nonneg (a := h))
      exact Rat.le_trans q1 q2
    have p2 := Rat.mul_le_mul_of_nonneg_left m1 (Rat.le_of_lt (Rat.mul_pos hTp hTp))
    refine Rat.le_of_mul_le_mul_right (c := (T : Rat)) ?_ hTp
    grind
theorem pk_w {T TT l1 h1 : Nat} (hT : 0 < T) (hl1 : T ≤ l1) (h11 : l1 ≤ h1) : ∀ (n l h : Nat), l ≤ h → pk T TT l1 h1 n l h = true → h - l ≤ 1000000000000000000 := by
  intro n
  induction n with
  | zero =>
    intro l h _ hp
    rw [pk_0] at hp
    exact Nat.le_of_ble_eq_true hp
  | succ n ih =>
    intro l h hlh hp
    rw [pk_s, Bool.and_eq_true] at hp
    have f1 := Nat.div_mul_le_self (l * l1) T
    have f2 : h * h1 < (h * h1 / T + 1) * T := by
      have := Nat.div_add_mod (h * h1) T
      have := Nat.mod_lt (h * h1) hT
      rw [Nat.add_mul, Nat.one_mul, Nat.mul_comm (h * h1 / T)]
      omega
    have m1 : h * l1 ≤ h * h1 := Nat.mul_le_mul_left h h11
    have m2 : (h - l) * T ≤ (h - l) * l1 := Nat.mul_le_mul_left _ hl1
    have m3 : l * l1 + (h - l) * l1 = h * l1 := by rw [← Nat.add_mul]; congr 1; omega
    have m4 : (l * l1 / T + (h - l)) * T ≤ (h * h1 / T + 1) * T := by rw [Nat.add_mul]; omega
    have m5 := Nat.le_of_mul_le_mul_right m4 hT
    have r := ih _ _ (by omega) hp.2
    omega
/-- the two ends of the inverse -/
theorem iv_w {T l h : Nat} (hT : 0 < T) (hTl : T ≤ l) (hlh : l ≤ h) (hw : h - l ≤ T) : T * T / l ≤ T * T / h + (h - l) + 1 := by
  have hl : 0 < l := by omega
  have hh : 0 < h := by omega
  have a1 := Nat.div_mul_le_self (T * T) l
  have a2 : T * T < (T * T / h + 1) * h := by
    have := Nat.div_add_mod (T * T) h
    have := Nat.mod_lt (T * T) hh
    rw [Nat.add_mul, Nat.one_mul, Nat.mul_comm (T * T / h)]
    omega
  have a3 : T * T / h ≤ T := by
    refine Nat.div_le_of_le_mul ?_
    exact Nat.mul_le_mul_right T (by omega)
  generalize T * T / l = A at *
  generalize T * T / h = B at *
  have a4 : (B + 1) * h = (B + 1) * l + (B + 1) * (h - l) := by rw [← Nat.mul_add]; congr 1; omega
  have a5 : (B + 1) * (h - l) ≤ l * (h - l) + (h - l) := by
    have := Nat.mul_le_mul_right (h - l) (show B + 1 ≤ l + 1 by omega)
    rw [Nat.add_mul l 1, Nat.one_mul] at this
    exact this
  rcases Nat.lt_or_ge (B + (h - l) + 1) A with q | q
  · have a6 := Nat.mul_le_mul_right l (show B + (h - l) + 2 ≤ A by omega)
    have a7 : (B + (h - l) + 2) * l = (B + 1) * l + l * (h - l) + l := by grind
    omega
  · exact q
/-- a checked number, and its inverse -/
def good (x : Rat) : Prop := ∃ (z e0 : Nat), nr (es x) (z : Int) 520 e0 ∧ e0 ≤ 10 ^ 19 ∧ okZ z = true
theorem pc_good {x : Rat} {l h : Nat} (hx : 0 ≤ x) (h5 : x ≤ 5) (hb : btw (10 ^ 520) x l h) (c1 : 10 ^ 520 ≤ l) (c2 : okZ l = true) (c3 : h - l ≤ 10 ^ 18) (c4 : okZ (10 ^ 520 * 10 ^ 520 / h) = true) : good x ∧ good (-x) := by
  have c18 : 10 ^ 18 ≤ 10 ^ 520 := Nat.pow_le_pow_right (by decide) (by decide)
  obtain ⟨n0, hb⟩ := hb
  have hlh : l ≤ h := by
    obtain ⟨b1, b2⟩ := hb n0 (Nat.le_refl _)
    exact Rat.natCast_le_natCast.mp (Rat.le_trans b1 b2)
  have c5 : 10 ^ 520 * 10 ^ 520 / l ≤ 10 ^ 520 * 10 ^ 520 / h + (10 ^ 18 + 1) := by
    have := iv_w (T := 10 ^ 520) (Nat.pow_pos (by decide)) c1 hlh (Nat.le_trans c3 c18)
    generalize 10 ^ 520 * 10 ^ 520 / l = A at *
    generalize 10 ^ 520 * 10 ^ 520 / h = B at *
    omega
  refine ⟨⟨l, 10 ^ 18, ⟨n0, fun n hn => ?_⟩, by decide, c2⟩, ⟨10 ^ 520 * 10 ^ 520 / h, 10 ^ 18 + 1 + 2, ?_, by decide, c4⟩⟩
  · obtain ⟨b1, b2⟩ := hb n hn
    rw [ic_nc]
    have w1 : h ≤ l + 10 ^ 18 := by omega
    have w1 := nc_le w1
    rw [nc_add] at w1
    have w2 := Rat.natCast_nonneg (a := 10 ^ 18)
    constructor <;> grind
  · obtain ⟨n1, g⟩ := es_one hx h5 (10 ^ 520)
    have hT0 : 0 < 10 ^ 520 := Nat.pow_pos (by decide)
    refine ⟨n0 + n1, fun n hn => ?_⟩
    obtain ⟨b1, b2⟩ := hb n (by omega)
    obtain ⟨g1, g2⟩ := g n (by omega)
    have hl : 0 < l := by omega
    have hh : 0 < h := by omega
    have k1 : 10 ^ 520 * 10 ^ 520 / h * h ≤ 10 ^ 520 * 10 ^ 520 := Nat.div_mul_le_self _ _
    have k2 : 10 ^ 520 * 10 ^ 520 ≤ (10 ^ 520 * 10 ^ 520 / l + 1) * l := by
      have := Nat.div_add_mod (10 ^ 520 * 10 ^ 520) l
      have := Nat.mod_lt (10 ^ 520 * 10 ^ 520) hl
      rw [Nat.add_mul, Nat.one_mul, Nat.mul_comm (10 ^ 520 * 10 ^ 520 / l)]
      omega
    have k3 := c5
    have r1 := nc_le k1
    have r2 := nc_le k2
    have r3 := nc_le k3
    rw [nc_mul, nc_mul] at r1
    rw [nc_mul, nc_mul, nc_succ] at r2
    rw [nc_add] at r3
    have e18 : ((10 ^ 18 + 1 + 2 : Nat) : Rat) = ((10 ^ 18 + 1 : Nat) : Rat) + 2 := by rw [nc_add]; rfl
    rw [ic_nc, e18]
    have hTp : (0 : Rat) < ((10 ^ 520 : Nat) : Rat) := Rat.natCast_pos.mpr hT0
    have hlp : (0 : Rat) < (l : Rat) := Rat.natCast_pos.mpr hl
    have hhp : (0 : Rat) < (h : Rat) := Rat.natCast_pos.mpr hh
    have hTl := nc_le c1
    have hTh := nc_le (Nat.le_trans c1 hlh)
    have hW0 := Rat.natCast_nonneg (a := 10 ^ 18 + 1)
    have hT2 : (2 : Rat) ≤ ((10 ^ 520 : Nat) : Rat) := nc_le (i := 2) (Nat.le_trans (show 2 ≤ 10 ^ 1 by decide) (Nat.pow_le_pow_right (by decide) (by decide)))
    generalize ((10 ^ 520 * 10 ^ 520 / h : Nat) : Rat) = kh at *
    generalize ((10 ^ 520 * 10 ^ 520 / l : Nat) : Rat) = kl at *
    generalize ((10 ^ 18 + 1 : Nat) : Rat) = W at *
    generalize ((10 ^ 520 : Nat) : Rat) = T at *
    generalize (l : Rat) = l' at *
    generalize (h : Rat) = h' at *
    generalize es x n = P at *
    generalize es (-x) n = M at *
    -- T M (T P) = T (T P M)
    have n1 := Rat.mul_le_mul_of_nonneg_left g1 (Rat.le_of_lt hTp)
    have n2 := Rat.mul_le_mul_of_nonneg_left g2 (Rat.le_of_lt hTp)
    have n3 := Rat.mul_le_mul_of_nonneg_left (show 1 ≤ T - 1 by grind) (Rat.le_of_lt hTp)
    have q : 0 ≤ T * M := by
      rcases Rat.le_total (a := 0) (b := T * M) with q | q
      · exact q
      · have : T * M * (T * P) ≤ 0 * (T * P) := Rat.mul_le_mul_of_nonneg_right q (by grind)
        grind
    have m1 := Rat.mul_le_mul_of_nonneg_left b2 q
    have m2 := Rat.mul_le_mul_of_nonneg_left b1 q
    have m3 := Rat.mul_le_mul_of_nonneg_right r3 (Rat.le_of_lt hlp)
    have m4 := Rat.mul_nonneg hW0 (Rat.le_of_lt hhp)
    constructor
    · refine Rat.le_of_mul_le_mul_right (c := h') ?_ hhp
      grind
    · refine Rat.le_of_mul_le_mul_right (c := l') ?_ hlp
      grind
theorem pk_good {b l1 h1 : Nat} (hb : 1 ≤ b) (c : btw (10 ^ 520) (((1 : Nat) : Rat) / (b : Rat)) l1 h1) (hl1 : 10 ^ 520 ≤ l1) (h11 : l1 ≤ h1) : ∀ (n a l h : Nat), a + n ≤ 5 * b + 1 → 10 ^ 520 ≤ l → l ≤ h → btw (10 ^ 520) ((a : Rat) / (b : Rat)) l h → pk (10 ^ 520) (10 ^ 520 * 10 ^ 520) l1 h1 n l h = true → ∀ k, k < n → good (((a + k : Nat) : Rat) / (b : Rat)) ∧ good (-(((a + k : Nat) : Rat) / (b : Rat))) := by
  have hT : 0 < 10 ^ 520 := Nat.pow_pos (by decide)
  intro n
  induction n with
  | zero => intro a l h _ _ _ _ _ k hk; omega
  | succ n ih =>
    intro a l h ha hTl hlh hbt hp k hk
    have hw := pk_w hT hl1 h11 (n + 1) l h hlh hp
    rw [pk_s, Bool.and_eq_true] at hp
    have hq : 0 < okN l * okN (10 ^ 520 * 10 ^ 520 / h) := Nat.le_of_ble_eq_true hp.1
    cases k with
    | zero =>
      obtain ⟨x0, x5⟩ := x_5 (a := a) (b := b) hb (by omega)
      exact pc_good x0 x5 hbt hTl (okZ_of (Nat.pos_of_mul_pos_right hq)) (Nat.le_trans hw (by decide)) (okZ_of (Nat.pos_of_mul_pos_left hq))
    | succ k =>
      obtain ⟨x0, -⟩ := x_5 (a := a) (b := b) hb (by omega)
      obtain ⟨y0, -⟩ := x_5 (a := 1) (b := b) hb (by omega)
      have m := btw_mul hT x0 y0 hbt c
      have e : (a : Rat) / (b : Rat) + ((1 : Nat) : Rat) / (b : Rat) = ((a + 1 : Nat) : Rat) / (b : Rat) := by
        rw [nc_add, Rat.div_def, Rat.div_def, Rat.div_def, Rat.add_mul]
      rw [e] at m
      have g1 : 10 ^ 520 ≤ l * l1 / 10 ^ 520 := by
        refine (Nat.le_div_iff_mul_le hT).mpr ?_
        exact Nat.mul_le_mul hTl hl1
      have g2 : l * l1 / 10 ^ 520 ≤ h * h1 / 10 ^ 520 + 1 := Nat.le_succ_of_le (Nat.div_le_div_right (Nat.mul_le_mul hlh h11))
      have r := ih (a + 1) _ _ (by omega) g1 g2 m hp.2 k (by omega)
      rw [show a + (k + 1) = a + 1 + k by omega]
      exact r
theorem pkB_good {b : Nat} (hb : 1 ≤ b) (h : pkB b = true) : ∀ a, 1 ≤ a → a ≤ 5 * b → good ((a : Rat) / (b : Rat)) ∧ good (-((a : Rat) / (b : Rat))) := by
  intro a ha ha5
  obtain ⟨k1, k2⟩ := pz_near (a := 1) (b := b) (pl := 520) (N := 1800) (sg := fun _ => 1) (y := ((1 : Nat) : Rat) / (b : Rat)) hb (by omega) (by decide) (by decide +kernel) (by decide) (fun i => by show _ = (1 : Rat) * _; grind) (fun _ => Or.inl rfl)
  have e := px_pz (b := b) 1800 0 (10 ^ 520) 0
  rw [show ((0 : Nat) : Int) = 0 from rfl] at e
  rw [← e] at k2
  have k2 := k2.mono (E := 30000) (by omega)
  unfold pkB pkU at h
  rw [pkV_e, Bool.and_eq_true] at h
  generalize px b 1800 0 (10 ^ 520) 0 = w at *
  have hTw : 10 ^ 520 ≤ w - 30000 := Nat.le_of_ble_eq_true h.1
  have h := h.2
  have hbt : btw (10 ^ 520) (((1 : Nat) : Rat) / (b : Rat)) (w - 30000) (w + 30000) := by
    obtain ⟨n0, k2⟩ := k2
    refine ⟨n0, fun n hn => ?_⟩
    obtain ⟨j1, j2⟩ := k2 n hn
    rw [ic_nc] at j1 j2
    have e3 : ((w + 30000 : Nat) : Rat) = (w : Rat) + ((30000 : Nat) : Rat) := nc_add ..
    rw [e3]
    refine ⟨?_, j2⟩
    rcases Nat.lt_or_ge w 30000 with q | q
    · rw [show w - 30000 = 0 by omega]
      obtain ⟨x0, -⟩ := x_5 (a := 1) (b := b) hb (by omega)
      exact Rat.mul_nonneg (Rat.le_of_lt (ten_pos 520)) (es_nn x0 n)
    · have e4 : (w : Rat) = ((w - 30000 : Nat) : Rat) + ((30000 : Nat) : Rat) := by rw [← nc_add]; congr 1; omega
      grind
  have r := pk_good hb hbt hTw (by omega) (5 * b) 1 (w - 30000) (w + 30000) (by omega) hTw (by omega) hbt h (a - 1) (by omega)
  rw [show 1 + (a - 1) = a by omega] at r
  exact r
/-- all of it, out of the two tables -/
theorem TBok_of (ht : ∀ x, 2 ≤ x → x ≤ 100000 → tkX x = true) (hp : ∀ b, 501 ≤ b → b ≤ 1000 → pkB b = true) : TBok := by
  intro kd a b hok ha0
  rcases hok with ⟨hk, hb, hb2, ha⟩ | ⟨hk, ha, ha2⟩
  · have e1 : serS kd a b = es ((a : Rat) / (b : Rat)) := if_pos hk
    have a0 := ha0 hk
    obtain ⟨g1, g2⟩ : good ((a.natAbs : Rat) / (b.toNat : Rat)) ∧ good (-((a.natAbs : Rat) / (b.toNat : Rat))) := by
      generalize hn : b.toNat = n at *
      have hn1 : 1 ≤ n := by omega
      have hn2 : n ≤ 1000 := by omega
      have d1 := Nat.div_add_mod 1000 n
      have d2 := Nat.mod_lt 1000 (show 0 < n by omega)
      have d3 : 1 ≤ 1000 / n := (Nat.le_div_iff_mul_le (by omega)).mpr (by omega)
      generalize hk : 1000 / n = k at *
      have d4 : n ≤ n * k := Nat.le_mul_of_pos_right n (by omega)
      have d5 : a.natAbs ≤ a.natAbs * k := Nat.le_mul_of_pos_right _ (by omega)
      have d6 : a.natAbs * k ≤ 5 * (n * k) := by
        have := Nat.mul_le_mul_right k ha
        rw [Nat.mul_assoc] at this
        exact this
      have g := pkB_good (b := n * k) (by omega) (hp (n * k) (by omega) (by omega)) (a.natAbs * k) (by omega) d6
      have hkp : (k : Rat) ≠ 0 := Rat.ne_of_gt (Rat.natCast_pos.mpr (by omega))
      have hnp : (n : Rat) ≠ 0 := Rat.ne_of_gt (Rat.natCast_pos.mpr (by omega))
      have e : ((a.natAbs * k : Nat) : Rat) / ((n * k : Nat) : Rat) = (a.natAbs : Rat) / (n : Rat) := by
        rw [nc_mul, nc_mul, Rat.div_def, Rat.div_def, Rat.inv_mul_rev]
        have := Rat.mul_inv_cancel _ hkp
        grind
      rw [e] at g
      exact g
    have eb : ((b : Int) : Rat) = ((b.toNat : Nat) : Rat) := by rw [← ic_nc, Int.toNat_of_nonneg (by omega)]
    rw [e1, eb]
    rcases Int.lt_or_le a 0 with h | h
    · have ea : ((a : Int) : Rat) = -((a.natAbs : Nat) : Rat) := by rw [← ic_nc, ← Rat.intCast_neg]; congr 1; omega
      have ed : -((a.natAbs : Nat) : Rat) / (b.toNat : Rat) = -(((a.natAbs : Nat) : Rat) / (b.toNat : Rat)) := by rw [Rat.div_def, Rat.div_def, Rat.neg_mul]
      rw [ea, ed]
      exact g2
    · have ea : ((a : Int) : Rat) = ((a.natAbs : Nat) : Rat) := by rw [← ic_nc]; congr 1; omega
      rw [ea]
      exact g1
  · have hk4 : ¬ kd = 4 := by omega
    have e1 : serS kd a b = tS a.toNat (decide (kd = 2)) := if_neg hk4
    rw [e1]
    exact tk_ok (by omega) (ht a.toNat (by omega) (by omega)) _
