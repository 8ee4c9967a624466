/-! Numbers as rows of Rats: near, floor; when two floors agree -/
def nr (S : Nat → Rat) (w : Int) (pl e : Nat) : Prop := ∃ n0, ∀ n, n0 ≤ n → (w : Rat) - (e : Rat) ≤ ((10 ^ pl : Nat) : Rat) * S n ∧ ((10 ^ pl : Nat) : Rat) * S n ≤ (w : Rat) + (e : Rat)
def isF (S : Nat → Rat) (f : Int) (p : Nat) : Prop := ∃ n0, ∀ n, n0 ≤ n → (f : Rat) ≤ ((10 ^ p : Nat) : Rat) * S n ∧ ((10 ^ p : Nat) : Rat) * S n < (f : Rat) + 1
theorem nr.mono {S : Nat → Rat} {w : Int} {pl e E : Nat} (h : nr S w pl e) (he : e ≤ E) : nr S w pl E := by
  obtain ⟨n0, h⟩ := h
  refine ⟨n0, fun n hn => ?_⟩
  obtain ⟨h1, h2⟩ := h n hn
  have := nc_le he
  constructor <;> grind
theorem ten_pos (p : Nat) : (0 : Rat) < ((10 ^ p : Nat) : Rat) := Rat.natCast_pos.mpr (Nat.pow_pos (by decide))
theorem ten_add (p q : Nat) : ((10 ^ (p + q) : Nat) : Rat) = ((10 ^ p : Nat) : Rat) * ((10 ^ q : Nat) : Rat) := by rw [Nat.pow_add, nc_mul]
theorem ic_nc (n : Nat) : ((n : Int) : Rat) = (n : Rat) := Rat.intCast_natCast n
theorem ed_le {x : Int} {D : Nat} (hD : 0 < D) : (x / (D : Int)) * (D : Int) ≤ x := by
  have := Int.mul_ediv_self_le (x := x) (k := (D : Int)) (by omega)
  rw [Int.mul_comm]; exact this
theorem ed_lt {x : Int} {D : Nat} (hD : 0 < D) : x < (x / (D : Int) + 1) * (D : Int) := by
  have := Int.lt_mul_ediv_self_add (x := x) (k := (D : Int)) (by omega)
  rw [Int.add_mul, Int.one_mul, Int.mul_comm (x / (D : Int))]; exact this
theorem ed_is {x f : Int} {D : Nat} (hD : 0 < D) (h1 : f * (D : Int) ≤ x) (h2 : x < (f + 1) * (D : Int)) : x / (D : Int) = f := by
  have a := Int.le_ediv_of_mul_le (c := (D : Int)) (by omega) h1
  have b := Int.ediv_lt_of_lt_mul (c := (D : Int)) (by omega) h2
  omega
theorem isF_of {S : Nat → Rat} {w f : Int} {p g e E : Nat} (h : nr S w (p + g) e) (he : e ≤ E) (h1 : (w - (E : Int)) / ((10 ^ g : Nat) : Int) = f) (h2 : (w + (E : Int)) / ((10 ^ g : Nat) : Int) = f) : isF S f p := by
  have hD : 0 < 10 ^ g := Nat.pow_pos (by decide)
  have a1 := ed_le (x := w - (E : Int)) hD
  have a2 := ed_lt (x := w + (E : Int)) hD
  rw [h1] at a1
  rw [h2] at a2
  have b1 : (f : Rat) * ((10 ^ g : Nat) : Rat) ≤ (w : Rat) - (E : Rat) := by
    have := Rat.intCast_le_intCast.mpr a1
    rw [Rat.intCast_mul, Rat.intCast_sub, ic_nc, ic_nc] at this
    exact this
  have b2 : (w : Rat) + (E : Rat) < ((f : Rat) + 1) * ((10 ^ g : Nat) : Rat) := by
    have := Rat.intCast_lt_intCast.mpr a2
    rw [Rat.intCast_mul, Rat.intCast_add, Rat.intCast_add, ic_nc, ic_nc] at this
    exact this
  obtain ⟨n0, h⟩ := h
  refine ⟨n0, fun n hn => ?_⟩
  obtain ⟨c1, c2⟩ := h n hn
  rw [ten_add] at c1 c2
  have hE := nc_le he
  have hp := ten_pos g
  generalize ((10 ^ p : Nat) : Rat) = P at *
  generalize ((10 ^ g : Nat) : Rat) = G at *
  generalize S n = s at *
  constructor
  · refine Rat.le_of_mul_le_mul_right (c := G) ?_ hp
    grind
  · refine Rat.lt_of_mul_lt_mul_right (c := G) ?_ (Rat.le_of_lt hp)
    grind
theorem isF_u {S : Nat → Rat} {f f' : Int} {p : Nat} (h : isF S f p) (g : isF S f' p) : f = f' := by
  obtain ⟨n0, h⟩ := h
  obtain ⟨n1, g⟩ := g
  obtain ⟨a1, a2⟩ := h (n0 + n1) (by omega)
  obtain ⟨b1, b2⟩ := g (n0 + n1) (by omega)
  have c1 : (f : Rat) < ((f' + 1 : Int) : Rat) := by rw [Rat.intCast_add]; show (f : Rat) < (f' : Rat) + 1; grind
  have c2 : (f' : Rat) < ((f + 1 : Int) : Rat) := by rw [Rat.intCast_add]; show (f' : Rat) < (f : Rat) + 1; grind
  have d1 := Rat.intCast_lt_intCast.mp c1
  have d2 := Rat.intCast_lt_intCast.mp c2
  omega
theorem isF_dn {S : Nat → Rat} {f : Int} {p q : Nat} (h : isF S f q) (hpq : p ≤ q) : isF S (f / ((10 ^ (q - p) : Nat) : Int)) p := by
  obtain ⟨g, hg⟩ : ∃ g, q = p + g := ⟨q - p, by omega⟩
  subst hg
  rw [Nat.add_sub_cancel_left]
  have hD : 0 < 10 ^ g := Nat.pow_pos (by decide)
  have a1 := ed_le (x := f) hD
  have a2 := ed_lt (x := f) hD
  generalize f / ((10 ^ g : Nat) : Int) = k at *
  have b1 : (k : Rat) * ((10 ^ g : Nat) : Rat) ≤ (f : Rat) := by
    have := Rat.intCast_le_intCast.mpr a1
    rw [Rat.intCast_mul, ic_nc] at this
    exact this
  have b2 : (f : Rat) + 1 ≤ ((k : Rat) + 1) * ((10 ^ g : Nat) : Rat) := by
    have a3 : f + 1 ≤ (k + 1) * ((10 ^ g : Nat) : Int) := a2
    have := Rat.intCast_le_intCast.mpr a3
    rw [Rat.intCast_mul, Rat.intCast_add, Rat.intCast_add, ic_nc] at this
    exact this
  obtain ⟨n0, h⟩ := h
  refine ⟨n0, fun n hn => ?_⟩
  obtain ⟨c1, c2⟩ := h n hn
  rw [ten_add] at c1 c2
  have hp := ten_pos g
  generalize ((10 ^ p : Nat) : Rat) = P at *
  generalize ((10 ^ g : Nat) : Rat) = G at *
  generalize S n = s at *
  constructor
  · refine Rat.le_of_mul_le_mul_right (c := G) ?_ hp
    grind
  · refine Rat.lt_of_mul_lt_mul_right (c := G) ?_ (Rat.le_of_lt hp)
    grind
theorem isF_nn {S : Nat → Rat} {f : Int} {p : Nat} (h : isF S f p) (hS : ∃ n0, ∀ n, n0 ≤ n → 0 ≤ S n) : 0 ≤ f := by
  obtain ⟨n0, h⟩ := h
  obtain ⟨n1, g⟩ := hS
  obtain ⟨a1, a2⟩ := h (n0 + n1) (by omega)
  have b := g (n0 + n1) (by omega)
  have c := Rat.mul_nonneg (Rat.le_of_lt (ten_pos p)) b
  have d : ((0 : Int) : Rat) < ((f + 1 : Int) : Rat) := by rw [Rat.intCast_add]; show (0 : Rat) < (f : Rat) + 1; grind
  have := Rat.intCast_lt_intCast.mp d
  omega
theorem nr_cmp {S : Nat → Rat} {w v : Int} {a b e d : Nat} (h : nr S w a e) (g : nr S v b d) : (w - (e : Int)) * ((10 ^ b : Nat) : Int) ≤ (v + (d : Int)) * ((10 ^ a : Nat) : Int) := by
  obtain ⟨n0, h⟩ := h
  obtain ⟨n1, g⟩ := g
  obtain ⟨h1, -⟩ := h (n0 + n1) (by omega)
  obtain ⟨-, g2⟩ := g (n0 + n1) (by omega)
  refine Rat.intCast_le_intCast.mp ?_
  rw [Rat.intCast_mul, Rat.intCast_mul, Rat.intCast_sub, Rat.intCast_add, ic_nc, ic_nc, ic_nc, ic_nc]
  have pa := Rat.le_of_lt (ten_pos a)
  have pb := Rat.le_of_lt (ten_pos b)
  generalize ((10 ^ a : Nat) : Rat) = Pa at *
  generalize ((10 ^ b : Nat) : Rat) = Pb at *
  generalize S (n0 + n1) = s at *
  have x1 := Rat.mul_le_mul_of_nonneg_right h1 pb
  have x2 := Rat.mul_le_mul_of_nonneg_right g2 pa
  grind
/-- twenty digits behind each of the places 480 and 240, of a number as it is known to 520 places: neither all 0 nor all 9 (the number moved up a little: what is left is not small) -/
def okN (z : Nat) : Nat := Nat.mul (Nat.div (Nat.mod (Nat.add z (nat_lit 100000000000000000000000000000000000000000000000000000000000000000000000000000000000000000000000000000000000000000000000000000000000000000000000000000000000000000000000000000000000000000000000000000000000000000000000000000000000000000000000100000000000000000000)) (nat_lit 10000000000000000000000000000000000000000)) (nat_lit 300000000000000000000)) (Nat.div (Nat.mod (Nat.add z (nat_lit 100000000000000000000000000000000000000000000000000000000000000000000000000000000000000000000000000000000000000000000000000000000000000000000000000000000000000000000000000000000000000000000000000000000000000000000000000000000000000000000000100000000000000000000)) (nat_lit 10000000000000000000000000000000000000000000000000000000000000000000000000000000000000000000000000000000000000000000000000000000000000000000000000000000000000000000000000000000000000000000000000000000000000000000000000000000000000000000000000000000000000000000000000000000000000000)) (nat_lit 300000000000000000000000000000000000000000000000000000000000000000000000000000000000000000000000000000000000000000000000000000000000000000000000000000000000000000000000000000000000000000000000000000000000000000000000000000000000000000000000000000000000000000000))
def okZ (z : Nat) : Bool := Nat.ble (nat_lit 1) (okN z)
def okp (W z : Nat) : Prop := 10 ^ (W - 20) ≤ z % 10 ^ W ∧ z % 10 ^ W + 10 ^ (W - 20) ≤ 10 ^ W
theorem okZ_of {z : Nat} (h : 1 ≤ okN z) : okZ z = true := Nat.ble_eq_true_of_le h
theorem ok_w {z c d k M : Nat} (hk : 0 < k) (h : 1 ≤ (z + c) % M / k) (hd : d ≤ c) (hc : c + d ≤ k) (hM : k ≤ M) : d ≤ z % M ∧ z % M + d ≤ M := by
  have h1 : k ≤ (z + c) % M := by
    have := (Nat.le_div_iff_mul_le hk).mp h
    omega
  have hz := Nat.mod_lt z (show 0 < M by omega)
  have e : (z + c) % M = (z % M + c) % M := by rw [Nat.mod_add_mod]
  rcases Nat.lt_or_ge (z % M + c) M with q | q
  · rw [e, Nat.mod_eq_of_lt q] at h1
    omega
  · have e2 : (z % M + c) % M = z % M + c - M := by
      rw [Nat.mod_eq_sub_mod q, Nat.mod_eq_of_lt (by omega)]
    rw [e, e2] at h1
    omega
theorem okZ_e {z : Nat} (h : okZ z = true) : okp 40 z ∧ okp 280 z := by
  have h : 1 ≤ okN z := Nat.le_of_ble_eq_true h
  have h : 0 < ((z + (nat_lit 100000000000000000000000000000000000000000000000000000000000000000000000000000000000000000000000000000000000000000000000000000000000000000000000000000000000000000000000000000000000000000000000000000000000000000000000000000000000000000000000100000000000000000000)) % (nat_lit 10000000000000000000000000000000000000000) / (nat_lit 300000000000000000000)) * ((z + (nat_lit 100000000000000000000000000000000000000000000000000000000000000000000000000000000000000000000000000000000000000000000000000000000000000000000000000000000000000000000000000000000000000000000000000000000000000000000000000000000000000000000000100000000000000000000)) % (nat_lit 10000000000000000000000000000000000000000000000000000000000000000000000000000000000000000000000000000000000000000000000000000000000000000000000000000000000000000000000000000000000000000000000000000000000000000000000000000000000000000000000000000000000000000000000000000000000000000) / (nat_lit 300000000000000000000000000000000000000000000000000000000000000000000000000000000000000000000000000000000000000000000000000000000000000000000000000000000000000000000000000000000000000000000000000000000000000000000000000000000000000000000000000000000000000000000)) := h
  have a1 := Nat.pos_of_mul_pos_right h
  have a2 := Nat.pos_of_mul_pos_left h
  have e1 : (nat_lit 10000000000000000000000000000000000000000 : Nat) = 10 ^ 40 := by decide +kernel
  have e2 : (nat_lit 10000000000000000000000000000000000000000000000000000000000000000000000000000000000000000000000000000000000000000000000000000000000000000000000000000000000000000000000000000000000000000000000000000000000000000000000000000000000000000000000000000000000000000000000000000000000000000 : Nat) = 10 ^ 280 := by decide +kernel
  have e3 : (z + (nat_lit 100000000000000000000000000000000000000000000000000000000000000000000000000000000000000000000000000000000000000000000000000000000000000000000000000000000000000000000000000000000000000000000000000000000000000000000000000000000000000000000000100000000000000000000)) % 10 ^ 40 = (z + 10 ^ 20) % 10 ^ 40 := by
    rw [show (nat_lit 100000000000000000000000000000000000000000000000000000000000000000000000000000000000000000000000000000000000000000000000000000000000000000000000000000000000000000000000000000000000000000000000000000000000000000000000000000000000000000000000100000000000000000000 : Nat) = 10 ^ 20 + 10 ^ 40 * 10 ^ 220 by decide +kernel, ← Nat.add_assoc, Nat.add_mul_mod_self_left]
  rw [e1, e3] at a1
  rw [e2] at a2
  exact ⟨ok_w (d := 10 ^ 20) (by decide +kernel) a1 (by decide +kernel) (by decide +kernel) (by decide +kernel), ok_w (d := 10 ^ 260) (by decide +kernel) a2 (by decide +kernel) (by decide +kernel) (by decide +kernel)⟩
theorem set_core {z w f : Int} {e e0 E B G M : Int} (hM : 0 < M) (hs : (e + E + 1) * M ≤ (B - e0) * G) (hz1 : f * M + B ≤ z) (hz2 : z + B ≤ (f + 1) * M) (hG : 0 < G) (h1 : (z - e0) * G ≤ (w + e) * M) (h2 : (w - e) * M ≤ (z + e0) * G) : f * G ≤ w - E ∧ w + E < (f + 1) * G := by
  have a1 := Int.mul_le_mul_of_nonneg_right hz1 (Int.le_of_lt hG)
  have a2 := Int.mul_le_mul_of_nonneg_right hz2 (Int.le_of_lt hG)
  constructor
  · refine Int.le_of_mul_le_mul_right (a := M) ?_ hM
    grind
  · have : (w + E + 1) * M ≤ ((f + 1) * G) * M := by grind
    have := Int.le_of_mul_le_mul_right this hM
    omega
theorem settleP {S : Nat → Rat} {z : Nat} {w : Int} {p g e e0 E P W : Nat} (hW : 40 ≤ W) (hPW : P + W = 520) (hpP : p ≤ P) (hd : P - p ≤ 239) (hz : nr S (z : Int) 520 e0) (he0 : e0 ≤ 10 ^ 19) (ok : okp W z) (hw : nr S w (p + g) e) (he : e ≤ E) (hE : E ≤ 10000000) (hg : 378 ≤ g) : (w - (E : Int)) / ((10 ^ g : Nat) : Int) = (w + (E : Int)) / ((10 ^ g : Nat) : Int) := by
  obtain ⟨k1, k2⟩ := ok
  have hG : 0 < 10 ^ g := Nat.pow_pos (by decide)
  have c1 := nr_cmp hz hw
  have c2 := nr_cmp hw hz
  have e520 : 10 ^ 520 = 10 ^ p * (10 ^ (P - p) * 10 ^ W) := by rw [← Nat.pow_add, ← Nat.pow_add, show p + (P - p + W) = 520 by omega]
  rw [e520, Nat.pow_add] at c1 c2
  have hp0 : 0 < 10 ^ p := Nat.pow_pos (by decide)
  have hD0 : 0 < 10 ^ (P - p) := Nat.pow_pos (by decide)
  have hV0 : 0 < 10 ^ W := Nat.pow_pos (by decide)
  -- the sizes
  have sz : (e + E + 1) * (10 ^ (P - p) * 10 ^ W) + e0 * 10 ^ g ≤ 10 ^ (W - 20) * 10 ^ g := by
    have s1 : 10 ^ (P - p) ≤ 10 ^ 239 := Nat.pow_le_pow_right (by decide) hd
    have s2 : 10 ^ W = 10 ^ 21 * 10 ^ (W - 21) := by rw [← Nat.pow_add, show 21 + (W - 21) = W by omega]
    have s3 : 10 ^ (W - 20) = 10 * 10 ^ (W - 21) := by rw [← Nat.pow_succ', show (W - 21).succ = W - 20 by omega]
    have s4 : 10 ^ 19 ≤ 10 ^ (W - 21) := Nat.pow_le_pow_right (by decide) (by omega)
    have s5 : 10 ^ 268 ≤ 10 ^ g := Nat.pow_le_pow_right (by decide) (by omega)
    have s6 : (e + E + 1) * (10 ^ (P - p) * 10 ^ W) ≤ 10 ^ (W - 21) * 10 ^ g := by
      calc (e + E + 1) * (10 ^ (P - p) * 10 ^ W) ≤ 10 ^ 8 * (10 ^ 239 * 10 ^ W) := Nat.mul_le_mul (by omega) (Nat.mul_le_mul_right _ s1)
        _ = 10 ^ (W - 21) * 10 ^ 268 := by rw [s2, ← Nat.pow_add, ← Nat.pow_add, ← Nat.pow_add, ← Nat.pow_add, show 8 + (239 + (21 + (W - 21))) = W - 21 + 268 by omega]
        _ ≤ 10 ^ (W - 21) * 10 ^ g := Nat.mul_le_mul_left _ s5
    have s7 : e0 * 10 ^ g ≤ 10 ^ (W - 21) * 10 ^ g := Nat.mul_le_mul_right _ (Nat.le_trans he0 s4)
    rw [s3, Nat.mul_assoc]
    generalize 10 ^ (W - 21) * 10 ^ g = y at *
    omega
  generalize 10 ^ p = A at *
  generalize 10 ^ (P - p) = D at *
  generalize 10 ^ g = G at *
  generalize 10 ^ (W - 20) = B at *
  generalize 10 ^ W = V at *
  have hz1 := Nat.div_add_mod z V
  have hz2 := Nat.div_add_mod (z / V) D
  have hz3 := Nat.mod_lt (z / V) hD0
  generalize hQ : z / V = Q at *
  generalize hr : z % V = r at *
  generalize hf : Q / D = f at *
  generalize hq : Q % D = q at *
  have hM : (0 : Int) < ((D * V : Nat) : Int) := by
    have := Nat.mul_pos hD0 hV0
    omega
  have z1 : (f : Int) * ((D * V : Nat) : Int) + (B : Int) ≤ (z : Int) := by
    have x1 : D * f * V ≤ Q * V := Nat.mul_le_mul_right V (by omega)
    have x2 : D * f * V = f * (D * V) := by grind
    have x3 : Q * V = V * Q := Nat.mul_comm _ _
    have x4 : f * (D * V) + B ≤ z := by omega
    exact_mod_cast x4
  have z2 : (z : Int) + (B : Int) ≤ ((f : Int) + 1) * ((D * V : Nat) : Int) := by
    have x1 : (Q + 1) * V ≤ (D * f + D) * V := Nat.mul_le_mul_right V (by omega)
    have x2 : (D * f + D) * V = (f + 1) * (D * V) := by grind
    have x3 : (Q + 1) * V = V * Q + V := by grind
    have x4 : z + B ≤ (f + 1) * (D * V) := by omega
    exact_mod_cast x4
  have ss : ((e : Int) + (E : Int) + 1) * ((D * V : Nat) : Int) ≤ ((B : Int) - (e0 : Int)) * (G : Int) := by
    have x1 : ((e + E + 1) * (D * V) + e0 * G : Nat) ≤ (B * G : Nat) := sz
    have x2 : (((e + E + 1) * (D * V) + e0 * G : Nat) : Int) ≤ ((B * G : Nat) : Int) := by exact_mod_cast x1
    have x3 : (((e + E + 1) * (D * V) + e0 * G : Nat) : Int) = ((e : Int) + (E : Int) + 1) * ((D * V : Nat) : Int) + (e0 : Int) * (G : Int) := by push_cast; rfl
    have x4 : ((B * G : Nat) : Int) = (B : Int) * (G : Int) := by push_cast; rfl
    rw [x3, x4] at x2
    rw [Int.sub_mul]
    omega
  have d1 : ((z : Int) - (e0 : Int)) * (G : Int) ≤ (w + (e : Int)) * ((D * V : Nat) : Int) := by
    refine Int.le_of_mul_le_mul_right (a := (A : Int)) ?_ (by omega)
    have x1 : ((A * G : Nat) : Int) = (A : Int) * (G : Int) := by push_cast; rfl
    have x2 : ((A * (D * V) : Nat) : Int) = (A : Int) * ((D * V : Nat) : Int) := by push_cast; rfl
    rw [x1, x2] at c1
    grind
  have d2 : (w - (e : Int)) * ((D * V : Nat) : Int) ≤ ((z : Int) + (e0 : Int)) * (G : Int) := by
    refine Int.le_of_mul_le_mul_right (a := (A : Int)) ?_ (by omega)
    have x1 : ((A * G : Nat) : Int) = (A : Int) * (G : Int) := by push_cast; rfl
    have x2 : ((A * (D * V) : Nat) : Int) = (A : Int) * ((D * V : Nat) : Int) := by push_cast; rfl
    rw [x1, x2] at c2
    grind
  obtain ⟨r1, r2⟩ := set_core (E := (E : Int)) hM ss z1 z2 (by omega) d1 d2
  have r3 : w - (E : Int) < ((f : Int) + 1) * (G : Int) := by omega
  have r4 : (f : Int) * (G : Int) ≤ w + (E : Int) := by omega
  rw [ed_is hG r1 r3, ed_is hG r4 r2]
theorem settle {S : Nat → Rat} {z : Nat} {w : Int} {p g e e0 E : Nat} (hz : nr S (z : Int) 520 e0) (he0 : e0 ≤ 10 ^ 19) (ok : okZ z = true) (hw : nr S w (p + g) e) (he : e ≤ E) (hE : E ≤ 10000000) (hp1 : 1 ≤ p) (hp : p ≤ 480) (hg : 378 ≤ g) : (w - (E : Int)) / ((10 ^ g : Nat) : Int) = (w + (E : Int)) / ((10 ^ g : Nat) : Int) := by
  have ok := okZ_e ok
  rcases Nat.lt_or_ge 240 p with h | h
  · exact settleP (P := 480) (W := 40) (by decide) rfl hp (by omega) hz he0 ok.1 hw he hE hg
  · exact settleP (P := 240) (W := 280) (by decide) rfl h (by omega) hz he0 ok.2 hw he hE hg
