/-! Both sides find the same floors, if the digits of each number are as they should be -/
def serS (kd : Nat) (a b : Int) : Nat → Rat := if kd = 4 then es ((a : Rat) / (b : Rat)) else tS a.toNat (decide (kd = 2))
/-- each number is known to 520 places, and its digits there are as they should be -/
def TBok : Prop := ∀ kd a b, serOk kd a b → (kd = 4 → a ≠ 0) → ∃ (z : Nat) (e0 : Nat), nr (serS kd a b) (z : Int) 520 e0 ∧ e0 ≤ 10 ^ 19 ∧ okZ z = true
def sgn (neg : Bool) (i : Nat) : Int := if neg = true ∧ i % 2 = 1 then -1 else 1
theorem sgn_1 (neg : Bool) (i : Nat) : sgn neg i = 1 ∨ sgn neg i = -1 := by unfold sgn; split <;> simp
theorem pow_pz {a b : Nat} {neg : Bool} : ∀ (n i t P M : Nat), ((powGo a b neg n i t P M).1 : Int) - ((powGo a b neg n i t P M).2 : Int) = (pz a b (sgn neg) n i t ((P : Int) - (M : Int))).1 := by
  intro n
  induction n with
  | zero => intro i t P M; rfl
  | succ n ih =>
    intro i t P M
    by_cases h : t = 0
    · have e : powGo a b neg (n + 1) i t P M = (P, M) := if_pos h
      rw [e, pz_0 h]
    · rw [pz_s h]
      by_cases g : neg = true ∧ i % 2 = 1
      · have e : sgn neg i = -1 := if_pos g
        rw [powGo_M h g, ih, e]
        congr 2
        omega
      · have e : sgn neg i = 1 := if_neg g
        rw [powGo_P h g, ih, e]
        congr 2
        omega
theorem eu_sgn {a b : Int} (hb : 1 ≤ b) : ∀ i, eu ((a : Rat) / (b : Rat)) i = ((sgn (decide (a < 0)) i : Int) : Rat) * eu ((a.natAbs : Rat) / (b.toNat : Rat)) i := by
  intro i
  have eb : ((b : Int) : Rat) = ((b.toNat : Nat) : Rat) := by rw [← ic_nc, Int.toNat_of_nonneg (by omega)]
  have hx : (0 : Rat) ≤ (a.natAbs : Rat) / (b.toNat : Rat) := by
    rw [Rat.div_def]
    exact Rat.mul_nonneg Rat.natCast_nonneg (Rat.le_of_lt (Rat.inv_pos.mpr (Rat.natCast_pos.mpr (by omega))))
  rw [eb]
  rcases Int.lt_or_le a 0 with h | h
  · have ea : ((a : Int) : Rat) = -((a.natAbs : Nat) : Rat) := by
      rw [← ic_nc, ← Rat.intCast_neg]; congr 1; omega
    have ed : -((a.natAbs : Nat) : Rat) / (b.toNat : Rat) = -(((a.natAbs : Nat) : Rat) / (b.toNat : Rat)) := by rw [Rat.div_def, Rat.div_def, Rat.neg_mul]
    rw [ea, ed, eu_ng hx, decide_eq_true h]
    unfold sgn
    by_cases q : i % 2 = 1
    · rw [if_pos q, if_pos ⟨rfl, q⟩]; rfl
    · rw [if_neg q, if_neg (fun w => q w.2)]; rfl
  · have ea : ((a : Int) : Rat) = ((a.natAbs : Nat) : Rat) := by
      rw [← ic_nc]; congr 1; omega
    rw [ea, decide_eq_false (by omega)]
    unfold sgn
    rw [if_neg (fun w => by cases w.1)]
    show _ = (1 : Rat) * _
    grind
theorem p870 {pl N : Nat} (h : pl ≤ 1250) (hN : 6999 ≤ N) : 9765625 * 10 ^ pl < 2 ^ (N - 10) := by
  have h1 : 10 ^ pl ≤ 10 ^ 1250 := Nat.pow_le_pow_right (by decide) h
  have h2 : 9765625 * 10 ^ 1250 < 2 ^ 6989 := by decide +kernel
  have h3 : 2 ^ 6989 ≤ 2 ^ (N - 10) := Nat.pow_le_pow_right (by decide) (by omega)
  exact Nat.lt_of_le_of_lt (Nat.mul_le_mul_left _ h1) (Nat.lt_of_lt_of_le h2 h3)
theorem p4 {pl N : Nat} (h : pl ≤ 1250) (hN : 3000 ≤ N) : 10 ^ pl < 4 ^ N := by
  have h1 : 10 ^ pl ≤ 10 ^ 1250 := Nat.pow_le_pow_right (by decide) h
  have h2 : 10 ^ 1250 < 4 ^ 3000 := by decide +kernel
  exact Nat.lt_of_le_of_lt h1 (Nat.lt_of_lt_of_le h2 (Nat.pow_le_pow_right (by decide) hN))
/-- the class's sums are near -/
theorem ser_near {kd : Nat} {a b : Int} {pl : Nat} (hok : serOk kd a b) (h6 : 6 ≤ pl) (hpl : pl ≤ 1250) : nr (serS kd a b) (serD kd a b pl) pl 1000000 := by
  rcases hok with ⟨hk, hb, hb2, ha⟩ | ⟨hk, ha, ha2⟩
  · have e1 : serS kd a b = es ((a : Rat) / (b : Rat)) := if_pos hk
    have e2 : serD kd a b pl = ((powS a b.toNat pl).1 : Int) - ((powS a b.toNat pl).2 : Int) := if_pos hk
    have e3 := pow_pz (a := a.natAbs) (b := b.toNat) (neg := decide (a < 0)) 10000 0 (10 ^ pl) 0 0
    have e4 : serD kd a b pl = (pz a.natAbs b.toNat (sgn (decide (a < 0))) 10000 0 (10 ^ pl) 0).1 := by rw [e2]; exact e3
    obtain ⟨k1, k2⟩ := pz_near (a := a.natAbs) (b := b.toNat) (pl := pl) (N := 10000) (sg := sgn (decide (a < 0))) (by omega) ha h6 (p870 hpl (by decide)) (by decide) (eu_sgn hb) (sgn_1 _)
    rw [e1, e4]
    exact k2.mono (by omega)
  · have hk4 : ¬ kd = 4 := by omega
    have e1 : serS kd a b = tS a.toNat (decide (kd = 2)) := if_neg hk4
    have e2 : serD kd a b pl = ((tanS a.toNat (decide (kd = 2)) pl).1 : Int) - ((tanS a.toNat (decide (kd = 2)) pl).2 : Int) := if_neg hk4
    have e3 := tan_mm (x := a.toNat) (alt := decide (kd = 2)) 10000 0 (10 ^ pl / a.toNat) 0 0
    have e4 : serD kd a b pl = (mmGo a.toNat (decide (kd = 2)) 10000 0 (10 ^ pl / a.toNat) 0).1 := by rw [e2]; exact e3
    obtain ⟨k1, k2⟩ := mm_near (x := a.toNat) (alt := decide (kd = 2)) (pl := pl) (n := 10000) (by omega) (p4 hpl (by decide))
    rw [e1, e4]
    exact k2.mono (by omega)
theorem pw_pz {a b : Nat} : ∀ (n i t s : Nat), ((pwGo a b n (i + 1) t (s + t)).1 : Int) = (pz a b (fun _ => 1) (n + 1) i t (s : Int)).1 ∧ (pz a b (fun _ => 1) (n + 1) i t (s : Int)).2 ≤ (pwGo a b n (i + 1) t (s + t)).2 := by
  intro n
  induction n with
  | zero =>
    intro i t s
    by_cases h : t = 0
    · subst h
      rw [pz_0 rfl, pwGo_0 rfl]
      exact ⟨rfl, by show i ≤ i + 1; omega⟩
    · rw [pz_s h]
      show ((s + t : Nat) : Int) = (s : Int) + 1 * (t : Int) ∧ i + 1 ≤ i + 1
      exact ⟨by omega, Nat.le_refl _⟩
  | succ n ih =>
    intro i t s
    by_cases h : t = 0
    · subst h
      rw [pz_0 rfl, pwGo_0 rfl]
      exact ⟨rfl, by show i ≤ i + 1; omega⟩
    · rw [pz_s h, pwGo_s h]
      have e : (s : Int) + 1 * (t : Int) = ((s + t : Nat) : Int) := by omega
      rw [e]
      exact ih (i + 1) (t * a / (b * (i + 1))) (s + t)
theorem pw_c {a b : Nat} : ∀ (n k t s : Nat), (pwGo a b n k t s).2 ≤ k + n := by
  intro n
  induction n with
  | zero => intro k t s; exact Nat.le_refl _
  | succ n ih =>
    intro k t s
    by_cases h : t = 0
    · rw [pwGo_0 h]; show k ≤ _; omega
    · rw [pwGo_s h]
      have := ih (k + 1) (t * a / (b * k)) (s + t * a / (b * k))
      omega
/-- the other side of 1: T / e^x -/
theorem inv_core {T G k e P M : Rat} (hT : 1 ≤ T) (hG : T ≤ G) (h1 : G - e ≤ T * P) (h2 : T * P ≤ G + e) (hP : 1 ≤ P) (m1 : T - 1 ≤ T * (P * M)) (m2 : T * (P * M) ≤ T + 1) (k1 : k * G ≤ T * T) (k2 : T * T ≤ (k + 1) * G) : k - (2 * e + 2) ≤ T * M ∧ T * M ≤ k + (2 * e + 2) := by
  have hT0 : 0 < T := by grind
  have hG0 : 0 < G := by grind
  have he : 0 ≤ e := by grind
  have hM0 : 0 ≤ M := by
    rcases Rat.le_total (a := 0) (b := M) with q | q
    · exact q
    · have a1 : P * M ≤ 1 * M := by
        have := Rat.mul_le_mul_of_nonneg_right hP (show 0 ≤ -M by grind)
        grind
      have a2 : T * (P * M) ≤ T * M := by
        have := Rat.mul_le_mul_of_nonneg_left a1 (Rat.le_of_lt hT0)
        grind
      have a3 : 0 ≤ T * M := by grind
      refine Rat.le_of_mul_le_mul_left (c := T) ?_ hT0
      grind
  have hM2 : M ≤ 2 := by
    refine Rat.le_of_mul_le_mul_left (c := T) ?_ hT0
    have a1 := Rat.mul_le_mul_of_nonneg_right hP hM0
    have a2 := Rat.mul_le_mul_of_nonneg_left a1 (Rat.le_of_lt hT0)
    grind
  -- T M G = T (T P M) + (G - T P) T M
  have hTM : 0 ≤ T * M := Rat.mul_nonneg (Rat.le_of_lt hT0) hM0
  have hTM2 : T * M ≤ 2 * T := by
    have := Rat.mul_le_mul_of_nonneg_left hM2 (Rat.le_of_lt hT0)
    grind
  have n1 := Rat.mul_le_mul_of_nonneg_left m1 (Rat.le_of_lt hT0)
  have n2 := Rat.mul_le_mul_of_nonneg_left m2 (Rat.le_of_lt hT0)
  have d1 := Rat.mul_le_mul_of_nonneg_right (show G - T * P ≤ e by grind) hTM
  have d2 := Rat.mul_le_mul_of_nonneg_right (show T * P - G ≤ e by grind) hTM
  have d3 := Rat.mul_le_mul_of_nonneg_left hTM2 he
  have d4 := Rat.mul_le_mul_of_nonneg_left hG he
  have q1 : T * M * G ≤ T * T + T + 2 * (e * T) := by grind
  have q2 : T * T - T - 2 * (e * T) ≤ T * M * G := by grind
  constructor
  · refine Rat.le_of_mul_le_mul_right (c := G) ?_ hG0
    grind
  · refine Rat.le_of_mul_le_mul_right (c := G) ?_ hG0
    grind
theorem inv_near {x : Rat} {G : Nat} {pl e : Nat} (hx : 0 ≤ x) (h5 : x ≤ 5) (hG : 10 ^ pl ≤ G) (h : nr (es x) (G : Int) pl e) : nr (es (-x)) (((10 ^ pl * 10 ^ pl / G : Nat) : Nat) : Int) pl (2 * e + 2) := by
  obtain ⟨n0, h⟩ := h
  obtain ⟨n1, g⟩ := es_one hx h5 (10 ^ pl)
  refine ⟨n0 + n1 + 1, fun n hn => ?_⟩
  obtain ⟨h1, h2⟩ := h n (by omega)
  obtain ⟨g1, g2⟩ := g n (by omega)
  have hP : 1 ≤ es x n := by
    have a1 : es x 1 ≤ es x n := es_mono hx (by omega)
    have a2 : es x 1 = 1 := by show (0 : Rat) + 1 = 1; grind
    grind
  have hT : (1 : Rat) ≤ ((10 ^ pl : Nat) : Rat) := nc_le (i := 1) (Nat.pow_pos (by decide))
  have hG' := nc_le hG
  have hGp : 0 < G := Nat.lt_of_lt_of_le (Nat.pow_pos (by decide)) hG
  have k1 : 10 ^ pl * 10 ^ pl / G * G ≤ 10 ^ pl * 10 ^ pl := Nat.div_mul_le_self _ _
  have k2 : 10 ^ pl * 10 ^ pl ≤ (10 ^ pl * 10 ^ pl / G + 1) * G := by
    have := Nat.div_add_mod (10 ^ pl * 10 ^ pl) G
    have := Nat.mod_lt (10 ^ pl * 10 ^ pl) hGp
    rw [Nat.add_mul, Nat.one_mul, Nat.mul_comm (10 ^ pl * 10 ^ pl / G)]
    omega
  have r1 := nc_le k1
  have r2 := nc_le k2
  rw [nc_mul, nc_mul] at r1
  rw [nc_mul, nc_mul, nc_succ] at r2
  rw [ic_nc] at h1 h2
  have r := inv_core hT hG' h1 h2 hP g1 g2 r1 r2
  have e2 : ((2 * e + 2 : Nat) : Rat) = 2 * (e : Rat) + 2 := by rw [nc_add, nc_mul]; rfl
  rw [ic_nc, e2]
  exact r
theorem x_5 {a b : Nat} (hb : 1 ≤ b) (ha : a ≤ 5 * b) : 0 ≤ (a : Rat) / (b : Rat) ∧ (a : Rat) / (b : Rat) ≤ 5 := by
  have hbp : (0 : Rat) < (b : Rat) := Rat.natCast_pos.mpr hb
  refine ⟨by rw [Rat.div_def]; exact Rat.mul_nonneg Rat.natCast_nonneg (Rat.le_of_lt (Rat.inv_pos.mpr hbp)), ?_⟩
  refine Rat.le_of_mul_le_mul_right (c := (b : Rat)) ?_ hbp
  rw [Rat.div_mul_cancel (Rat.ne_of_gt hbp)]
  have := nc_le ha
  rw [nc_mul] at this
  exact this
/-- the reference's sums are near -/
theorem ff_near {kd : Nat} {a b : Int} {pl : Nat} (hok : serOk kd a b) (ha0 : kd = 4 → a ≠ 0) (h6 : 6 ≤ pl) (hpl : pl ≤ 1250) : ffO kd a b (10 ^ pl) ≤ 10000000 ∧ nr (serS kd a b) (ffG kd a b (10 ^ pl)) pl (ffO kd a b (10 ^ pl)) := by
  rcases hok with ⟨hk, hb, hb2, ha⟩ | ⟨hk, ha, ha2⟩
  · have e1 : serS kd a b = es ((a : Rat) / (b : Rat)) := if_pos hk
    have e2 : ffG kd a b (10 ^ pl) = pwS a b.toNat (10 ^ pl) := if_pos hk
    have e3 : ffO kd a b (10 ^ pl) = pwO a b.toNat (10 ^ pl) := if_pos hk
    have a0 := ha0 hk
    have hb1 : 1 ≤ b.toNat := by omega
    have pp := pw_pz (a := a.natAbs) (b := b.toNat) 6999 0 (10 ^ pl) 0
    rw [Nat.zero_add, Nat.zero_add] at pp
    have pc := pw_c (a := a.natAbs) (b := b.toNat) 6999 1 (10 ^ pl) (10 ^ pl)
    have pm := pwGo_m (a := a.natAbs) (b := b.toNat) 6999 1 (10 ^ pl) (10 ^ pl)
    obtain ⟨k1, k2⟩ := pz_near (a := a.natAbs) (b := b.toNat) (pl := pl) (N := 7000) (sg := fun _ => 1) (y := (a.natAbs : Rat) / (b.toNat : Rat)) hb1 ha h6 (p870 hpl (by decide)) (by decide) (fun i => by show _ = (1 : Rat) * _; grind) (fun _ => Or.inl rfl)
    have pp1 := pp.1
    have pp2 := pp.2
    rw [show ((0 : Nat) : Int) = 0 from rfl] at pp1 pp2
    rw [← pp1] at k2
    have eS : pwS a b.toNat (10 ^ pl) = if 0 < a then ((pwGo a.natAbs b.toNat 6999 1 (10 ^ pl) (10 ^ pl)).1 : Int) else qdn (((10 ^ pl : Nat) : Int) * ((10 ^ pl : Nat) : Int)) ((pwGo a.natAbs b.toNat 6999 1 (10 ^ pl) (10 ^ pl)).1 : Int) := rfl
    have eO : pwO a b.toNat (10 ^ pl) = if 0 < a then 200 * (pwGo a.natAbs b.toNat 6999 1 (10 ^ pl) (10 ^ pl)).2 + 200 else 200 * (pwGo a.natAbs b.toNat 6999 1 (10 ^ pl) (10 ^ pl)).2 + 200 + 4 := rfl
    rw [e1, e2, e3, eS, eO]
    generalize pz a.natAbs b.toNat (fun _ => 1) 7000 0 (10 ^ pl) 0 = R at *
    generalize pwGo a.natAbs b.toNat 6999 1 (10 ^ pl) (10 ^ pl) = W at *
    have eb : ((b : Int) : Rat) = ((b.toNat : Nat) : Rat) := by rw [← ic_nc, Int.toNat_of_nonneg (by omega)]
    by_cases hp : 0 < a
    · rw [if_pos hp, if_pos hp]
      have ea : ((a : Int) : Rat) = ((a.natAbs : Nat) : Rat) := by rw [← ic_nc]; congr 1; omega
      rw [ea, eb]
      exact ⟨by omega, k2.mono (by omega)⟩
    · rw [if_neg hp, if_neg hp]
      have ea : ((a : Int) : Rat) = -((a.natAbs : Nat) : Rat) := by rw [← ic_nc, ← Rat.intCast_neg]; congr 1; omega
      have ed : -((a.natAbs : Nat) : Rat) / (b.toNat : Rat) = -(((a.natAbs : Nat) : Rat) / (b.toNat : Rat)) := by rw [Rat.div_def, Rat.div_def, Rat.neg_mul]
      have hT0 : 0 < 10 ^ pl := Nat.pow_pos (by decide)
      have eq : qdn (((10 ^ pl : Nat) : Int) * ((10 ^ pl : Nat) : Int)) (W.1 : Int) = ((10 ^ pl * 10 ^ pl / W.1 : Nat) : Int) := by
        rw [qdn_pos (by omega)]
        push_cast
        rfl
      obtain ⟨x0, x5⟩ := x_5 hb1 ha
      have iv := inv_near x0 x5 pm k2
      rw [ea, eb, ed, eq]
      exact ⟨by omega, iv.mono (by omega)⟩
  · have hk4 : ¬ kd = 4 := by omega
    have e1 : serS kd a b = tS a.toNat (decide (kd = 2)) := if_neg hk4
    have e2 : ffG kd a b (10 ^ pl) = (mmGo a.toNat (decide (kd = 2)) 3000 0 (10 ^ pl / a.toNat) 0).1 := if_neg hk4
    have e3 : ffO kd a b (10 ^ pl) = 4 * (mmGo a.toNat (decide (kd = 2)) 3000 0 (10 ^ pl / a.toNat) 0).2 + 8 := if_neg hk4
    obtain ⟨k1, k2⟩ := mm_near (x := a.toNat) (alt := decide (kd = 2)) (pl := pl) (n := 3000) (by omega) (p4 hpl (by decide))
    rw [e1, e2, e3]
    exact ⟨by omega, k2.mono (by omega)⟩
theorem shr_d (v : Int) (g : Nat) : shr v g (-1) = v / ((10 ^ g : Nat) : Int) := if_pos rfl
theorem rf_F {kd : Nat} {a b : Int} {p : Nat} (hTB : TBok) (hok : serOk kd a b) (ha0 : kd = 4 → a ≠ 0) (hp1 : 1 ≤ p) (hp : p ≤ 480) : ∀ n g, n ≤ 5 → g * 2 ^ n = 384 → isF (serS kd a b) (rfGo (serD kd a b) p n g) p := by
  obtain ⟨z, e0, z1, z2, z3⟩ := hTB kd a b hok ha0
  intro n
  induction n with
  | zero =>
    intro g _ hg
    rw [Nat.pow_zero, Nat.mul_one] at hg
    subst hg
    have hn := ser_near (pl := p + 384) hok (by omega) (by omega)
    have hs := settle (E := 1000000) z1 z2 z3 hn (Nat.le_refl _) (by decide) hp1 hp (by decide)
    show isF _ (shr (serD kd a b (p + 384) - 1000000) 384 (-1)) p
    rw [shr_d]
    exact isF_of hn (Nat.le_refl _) rfl hs.symm
  | succ n ih =>
    intro g hn5 hg
    have h6 : 12 ≤ g ∧ g ≤ 384 := by
      have : 2 ^ (n + 1) ≤ 2 ^ 5 := Nat.pow_le_pow_right (by decide) hn5
      have h2 : 1 ≤ 2 ^ (n + 1) := Nat.pow_pos (by decide)
      have h3 : (2 : Nat) ^ 5 = 32 := by decide
      rw [h3] at this
      constructor
      · rcases Nat.lt_or_ge g 12 with q | q
        · have := Nat.mul_le_mul (show g ≤ 11 by omega) this
          omega
        · exact q
      · have := Nat.mul_le_mul_left g h2
        omega
    have hn := ser_near (pl := p + g) hok (by omega) (by omega)
    show isF _ (if shr (serD kd a b (p + g) + 1000000) g (-1) = shr (serD kd a b (p + g) - 1000000) g (-1) then shr (serD kd a b (p + g) - 1000000) g (-1) else rfGo (serD kd a b) p n (2 * g)) p
    by_cases hc : shr (serD kd a b (p + g) + 1000000) g (-1) = shr (serD kd a b (p + g) - 1000000) g (-1)
    · rw [if_pos hc, shr_d]
      rw [shr_d, shr_d] at hc
      exact isF_of hn (Nat.le_refl _) rfl hc
    · rw [if_neg hc]
      exact ih (2 * g) (by omega) (by rw [← hg, Nat.pow_succ]; grind)
theorem rfl_F {kd : Nat} {a b : Int} {p : Nat} (hTB : TBok) (hok : serOk kd a b) (ha0 : kd = 4 → a ≠ 0) (hp1 : 1 ≤ p) (hp : p ≤ 480) : isF (serS kd a b) (rfl' kd a b p) p := rf_F hTB hok ha0 hp1 hp 5 12 (by decide) (by decide)
/-- e^0 -/
theorem ser_0 {b : Int} {pl : Nat} : serD 4 0 b pl = ((10 ^ pl : Nat) : Int) := by
  have hT : ¬ 10 ^ pl = 0 := Nat.ne_of_gt (Nat.pow_pos (by decide))
  have e2 : serD 4 0 b pl = ((powS 0 b.toNat pl).1 : Int) - ((powS 0 b.toNat pl).2 : Int) := if_pos rfl
  have e3 := pow_pz (a := 0) (b := b.toNat) (neg := decide ((0 : Int) < 0)) 10000 0 (10 ^ pl) 0 0
  rw [e2]
  refine Eq.trans e3 ?_
  rw [pz_s hT]
  have e4 : 10 ^ pl * 0 / (b.toNat * (0 + 1)) = 0 := by rw [Nat.mul_zero, Nat.zero_div]
  rw [pz_0 e4]
  show ((0 : Nat) : Int) - ((0 : Nat) : Int) + sgn (decide ((0 : Int) < 0)) 0 * ((10 ^ pl : Nat) : Int) = _
  have e5 : sgn (decide ((0 : Int) < 0)) 0 = 1 := by decide
  rw [e5]
  omega
theorem rf_0 {b : Int} {p : Nat} : ∀ n g, 12 ≤ g → rfGo (serD 4 0 b) p n g = ((10 ^ p : Nat) : Int) - 1 := by
  have key : ∀ g, 12 ≤ g → shr (serD 4 0 b (p + g) - 1000000) g (-1) = ((10 ^ p : Nat) : Int) - 1 ∧ shr (serD 4 0 b (p + g) + 1000000) g (-1) = ((10 ^ p : Nat) : Int) := by
    intro g hg
    have hG : 0 < 10 ^ g := Nat.pow_pos (by decide)
    have h12 : 10 ^ 12 ≤ 10 ^ g := Nat.pow_le_pow_right (by decide) hg
    have e : ((10 ^ (p + g) : Nat) : Int) = ((10 ^ p : Nat) : Int) * ((10 ^ g : Nat) : Int) := by rw [Nat.pow_add]; push_cast; rfl
    have h12' : (1000000000000 : Int) ≤ ((10 ^ g : Nat) : Int) := by
      have : (10 : Nat) ^ 12 = 1000000000000 := by decide
      omega
    rw [shr_d, shr_d, ser_0, e]
    generalize ((10 ^ p : Nat) : Int) = A at *
    constructor
    · refine ed_is hG ?_ ?_
      · rw [Int.sub_mul]; omega
      · rw [Int.sub_add_cancel]; omega
    · refine ed_is hG ?_ ?_
      · omega
      · rw [Int.add_mul]; omega
  intro n
  induction n with
  | zero => intro g hg; exact (key g hg).1
  | succ n ih =>
    intro g hg
    obtain ⟨k1, k2⟩ := key g hg
    show (if shr (serD 4 0 b (p + g) + 1000000) g (-1) = shr (serD 4 0 b (p + g) - 1000000) g (-1) then _ else rfGo (serD 4 0 b) p n (2 * g)) = _
    rw [k1, k2, if_neg (by omega)]
    exact ih (2 * g) (by omega)
theorem FLok_of (hTB : TBok) : FLok := by
  intro kd a b hok p q hp1 hpq hq
  by_cases h0 : kd = 4 ∧ a = 0
  · obtain ⟨rfl, rfl⟩ := h0
    have e1 : rfl' 4 0 b q = ((10 ^ q : Nat) : Int) - 1 := rf_0 5 12 (by decide)
    have e2 : rfl' 4 0 b p = ((10 ^ p : Nat) : Int) - 1 := rf_0 5 12 (by decide)
    have hG : 0 < 10 ^ (q - p) := Nat.pow_pos (by decide)
    have hp0 : 0 < 10 ^ p := Nat.pow_pos (by decide)
    have e3 : ((10 ^ q : Nat) : Int) = ((10 ^ p : Nat) : Int) * ((10 ^ (q - p) : Nat) : Int) := by
      rw [show q = p + (q - p) by omega, Nat.pow_add, Nat.add_sub_cancel_left]; push_cast; rfl
    rw [e1, e2, shr_d, e3]
    refine ⟨ed_is hG ?_ ?_, by omega⟩
    · rw [Int.sub_mul]; omega
    · rw [Int.sub_add_cancel]; omega
  · have ha0 : kd = 4 → a ≠ 0 := fun e f => h0 ⟨e, f⟩
    have f1 := rfl_F hTB hok ha0 (show 1 ≤ q by omega) hq
    have f2 := rfl_F hTB hok ha0 hp1 (show p ≤ 480 by omega)
    refine ⟨?_, ?_⟩
    · rw [shr_d]
      exact isF_u (isF_dn f1 hpq) f2
    · refine isF_nn f2 ?_
      obtain ⟨z, e0, z1, z2, z3⟩ := hTB kd a b hok ha0
      obtain ⟨n0, z1⟩ := z1
      refine ⟨n0, fun n hn => ?_⟩
      obtain ⟨y1, -⟩ := z1 n hn
      have y2 : e0 ≤ z := by
        obtain ⟨w1, -⟩ := (okZ_e z3).1
        have w2 := Nat.mod_le z (10 ^ 40)
        have w3 : 10 ^ 19 ≤ 10 ^ (40 - 20) := by decide
        omega
      have y3 := nc_le y2
      rw [ic_nc] at y1
      refine Rat.le_of_mul_le_mul_left (c := ((10 ^ 520 : Nat) : Rat)) ?_ (ten_pos 520)
      rw [Rat.mul_zero]
      grind
theorem ff_F {kd : Nat} {a b : Int} {p : Nat} (hTB : TBok) (hok : serOk kd a b) (ha0 : kd = 4 → a ≠ 0) (hp1 : 1 ≤ p) (hp : p ≤ 480) : ∀ n m, m + 18 * n = 738 → 18 ≤ m → isF (serS kd a b) (ffGo kd a b p n m) p := by
  obtain ⟨z, e0, z1, z2, z3⟩ := hTB kd a b hok ha0
  intro n
  induction n with
  | zero =>
    intro m hm h18
    obtain ⟨o1, hn⟩ := ff_near (pl := p + m) hok ha0 (by omega) (by omega)
    have hs := settle (E := ffO kd a b (10 ^ (p + m))) z1 z2 z3 hn (Nat.le_refl _) o1 hp1 hp (by omega)
    show isF _ (ffL kd a b p m) p
    unfold ffL
    rw [qten.1, shr_d]
    exact isF_of hn (Nat.le_refl _) rfl hs.symm
  | succ n ih =>
    intro m hm h18
    obtain ⟨o1, hn⟩ := ff_near (pl := p + m) hok ha0 (by omega) (by omega)
    show isF _ (if ffL kd a b p m = ffH kd a b p m then ffL kd a b p m else ffGo kd a b p n (m + 18)) p
    by_cases hc : ffL kd a b p m = ffH kd a b p m
    · rw [if_pos hc]
      unfold ffL ffH at hc
      unfold ffL
      rw [qten.1, shr_d]
      rw [qten.1, qten.1, shr_d, shr_d] at hc
      exact isF_of hn (Nat.le_refl _) rfl hc.symm
    · rw [if_neg hc]
      exact ih (m + 18) (by omega) (by omega)
theorem FFok_of (hTB : TBok) : FFok := by
  intro kd a b hok ha0 p hp1 hp
  refine ⟨⟨20, by decide, ?_⟩, ?_⟩
  · obtain ⟨z, e0, z1, z2, z3⟩ := hTB kd a b hok ha0
    obtain ⟨o1, hn⟩ := ff_near (pl := p + 378) hok ha0 (by omega) (by omega)
    have hs := settle (E := ffO kd a b (10 ^ (p + 378))) z1 z2 z3 hn (Nat.le_refl _) o1 hp1 hp (by decide)
    show ffL kd a b p 378 = ffH kd a b p 378
    unfold ffL ffH
    rw [qten.1, qten.1, shr_d, shr_d]
    exact hs
  · exact isF_u (ff_F hTB hok ha0 hp1 hp 40 18 (by decide) (by decide)) (rfl_F hTB hok ha0 hp1 hp)
