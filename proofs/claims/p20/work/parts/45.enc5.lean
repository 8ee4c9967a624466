/-! EnclosedDigits$Encloser: fillCorners -/
def cdn (dv : Bool) (p : Nat) (x y : Int) : Int := if dv then qdn (x * 10 ^ p) y else shr (x * y) p (-1)
def cup (dv : Bool) (p : Nat) (x y : Int) : Int := if dv then qup (x * 10 ^ p) y else shr (x * y) p 1
def nmin (n : Nat) (a c : Int) : Int := if n = 0 ∨ c < a then c else a
def nmax (n : Nat) (a c : Int) : Int := if n = 0 ∨ a < c then c else a
theorem nmin_i {n : Nat} {a c : Int} : nmin (n + 1) (nmin n a c) c = nmin n a c := by
  unfold nmin
  by_cases h : n = 0 ∨ c < a
  · rw [if_pos h]; split <;> rfl
  · rw [if_neg h, if_neg (fun q => by rcases q with q | q; omega; exact h (Or.inr q))]
theorem nmax_i {n : Nat} {a c : Int} : nmax (n + 1) (nmax n a c) c = nmax n a c := by
  unfold nmax
  by_cases h : n = 0 ∨ a < c
  · rw [if_pos h]; split <;> rfl
  · rw [if_neg h, if_neg (fun q => by rcases q with q | q; omega; exact h (Or.inr q))]
theorem mul_lt {a b n m : Nat} (h : a < BB ^ n) (g : b < BB ^ m) : a * b < BB ^ (n + m + 1) := by
  have q1 : a * b ≤ BB ^ n * BB ^ m := Nat.mul_le_mul (Nat.le_of_lt h) (Nat.le_of_lt g)
  rw [← Nat.pow_add] at q1
  exact Nat.lt_of_le_of_lt q1 ((Nat.pow_lt_pow_iff_right (by decide)).mpr (by omega))
theorem shr_abs (v : Int) (p : Nat) (tw : Int) : (shr v p tw).natAbs ≤ v.natAbs := by
  have hp : 0 < 10 ^ p := Nat.pow_pos (by decide)
  unfold shr
  split
  · exact fl_abs v hp
  · have := fl_abs (-v) hp
    omega
theorem cor_lt {dv : Bool} {p : Nat} {x y : Int} (hx : x.natAbs < BB ^ 90) (hy : y.natAbs < BB ^ 90) (hp : p ≤ 480) : (cdn dv p x y).natAbs < BB ^ 200 ∧ (cup dv p x y).natAbs < BB ^ 200 := by
  have h1 := op_lt hx hp
  have h2 := qdn_le (x * 10 ^ p) y
  have h3 : (x * 10 ^ p).natAbs / y.natAbs + 1 < BB ^ 200 := Nat.lt_of_le_of_lt (Nat.succ_le_succ (Nat.div_le_self _ _)) (pw_s h1 (by decide))
  have h4 : (x * y).natAbs < BB ^ 200 := by rw [Int.natAbs_mul]; exact lp_le (mul_lt hx hy) (by decide)
  unfold cdn cup
  cases dv
  · exact ⟨Nat.lt_of_le_of_lt (shr_abs (x * y) p (-1)) h4, Nat.lt_of_le_of_lt (shr_abs (x * y) p 1) h4⟩
  · exact ⟨Nat.lt_of_le_of_lt h2.1 h3, Nat.lt_of_le_of_lt h2.2 h3⟩
section enc5
variable {X : en_X} {z : Nat → Nat} {N : Nat} {e bn se : Nat} {ρ : en_S} {Q : Option Value → en_S → Prop} {v l v1 l1 v2 l2 p : Nat} {kd f s at' fa kd1 f1 s1 at1 op1 fa1 kd2 f2 s2 at2 op2 fa2 : Int32} {a b a1 b1 a2 b2 : Int} {dv : Bool} {i j lf rg : Nat}
/-- the locals of fillCorners in its loops -/
abbrev fcL (e v v1 v2 p : Nat) (dv : Bool) (lf rg i j : Nat) : List (Nat × Value) := [(0, .ref e), (1, .ref v), (2, .ref v1), (3, .ref v2), (4, .int (nI p)), (5, .int (nI (if dv then 1 else 0))), (6, .int (nI lf)), (7, .int (nI rg)), (8, .int (nI i)), (9, .int (nI j))]
theorem cor_3 {σ : en_S} {S : Nat → en_B} {U : Nat → Int} {c d : Int} (h : zW X z N σ S U) (ho : eO σ z e bn se) (hv : vO σ z v l kd a b f s at' 0 fa) (hvl : v < σ.1) (h10 : 10 ≤ l) (hl : l + 3 ≤ N) (hi : i < 2) (hj : j < 2) (x1 : U 0 = c) (x2 : U 1 = d) (zc : c.natAbs < BB ^ 200) (zd : d.natAbs < BB ^ 200)
    (k : ∀ σ' S' U', zW X z N σ' S' U' → U' l = nmin (i + j) (U l) c → U' (l + 1) = nmax (i + j) (U (l + 1)) d → (∀ k, 10 ≤ k → k ≠ l → k ≠ l + 1 → U' k = U k) → bw_St (zD z N) σ S σ' S' → WA X M_X2_fillCorners ρ 243 (fcL e v v1 v2 p dv lf rg i j) [] σ' Q) :
    WA X M_X2_fillCorners ρ 177 (fcL e v v1 v2 p dv lf rg i j) [] σ Q := by
  have up : ∀ σ' S' U', zW X z N σ' S' U' → U' l = nmin (i + j) (U l) c → (∀ k, k ≠ l → U' k = U k) → bw_St (zD z N) σ S σ' S' → WA X M_X2_fillCorners ρ 210 (fcL e v v1 v2 p dv lf rg i j) [] σ' Q := by
    intro σ1 S1 U1 w1 y1 y2 t1
    obtain ⟨ho1, ho2, ho3, ho4⟩ := eO.st ho t1 h.R
    have hv := bw_obj t1 h.R hvl hv (by decide)
    have hvl := Nat.lt_of_lt_of_le hvl t1.1
    have e1 : U1 1 = d := (y2 1 (by omega)).trans x2
    have eh : U1 (l + 1) = U (l + 1) := y2 _ (by omega)
    have go : nmax (i + j) (U (l + 1)) d = d → WA X M_X2_fillCorners ρ 232 (fcL e v v1 v2 p dv lf rg i j) [] σ1 Q := by
      intro em
      have i1 := w1.big (i := l + 1) (by omega)
      refine wa_aload_n q_X2_fillCorners_232 rfl ?_
      refine wa_getf q_X2_fillCorners_233 f_RX2_114 (by assumption) rfl ?_
      refine wa_aload_n q_X2_fillCorners_236 rfl ?_
      refine wa_getf q_X2_fillCorners_237 f_RX2_32 (by assumption) rfl ?_
      refine wa_callV q_X2_fillCorners_240 g_X2_fillCorners_240 w_X1_copy (by assumption) rfl (av := [_]) rfl rfl (lk rfl) (Calls.mono (Z_copy w1 (i := l + 1) (j := 1) (by omega) (by omega) (by omega) (by rw [e1]; exact lp_le zd (by decide))) ?_)
      rintro _ σ2 ⟨rfl, S2, w2, t2⟩
      rw [e1] at w2
      exact wa_lv (k σ2 S2 _ w2 (by rw [uV_n (by omega)]; exact y1) (by rw [uV_s, em]) (fun k k1 k2 k3 => by rw [uV_n k3]; exact y2 k k2) (t1.tr t2)) rfl
    refine wa_iload q_X2_fillCorners_210 rfl ?_
    refine wa_iload q_X2_fillCorners_212 rfl ?_
    refine wn_iadd q_X2_fillCorners_214 ?_
    refine wn_if_eq q_X2_fillCorners_215 (by omega) (fun hx => ?_) (fun hx => ?_)
    · exact go (if_pos (Or.inl hx))
    · have i1 := w1.big (i := 1) (by omega)
      refine wa_aload_n q_X2_fillCorners_218 rfl ?_
      refine wa_getf q_X2_fillCorners_219 f_RX2_32 (by assumption) rfl ?_
      refine wa_aload_n q_X2_fillCorners_222 rfl ?_
      refine wa_getf q_X2_fillCorners_223 f_RX2_114 (by assumption) rfl ?_
      refine wa_callV q_X2_fillCorners_226 g_X2_fillCorners_226 w_X1_compare (by assumption) rfl (av := [_]) rfl rfl (lk rfl) (Calls.mono (Z_cmp w1 (i := 1) (j := l + 1) (by omega) (by omega)) ?_)
      rintro _ _ ⟨rfl, rfl⟩
      rw [e1, eh]
      refine wa_if_le q_X2_fillCorners_229 (fun hy => ?_) (fun hy => ?_)
      · have hle : d ≤ U (l + 1) := by
          unfold cmpI at hy
          split at hy
          · omega
          · split at hy
            · omega
            · exact absurd hy (by decide)
        exact wa_lv (k _ S1 U1 w1 y1 (by rw [eh]; unfold nmax; rw [if_neg (by omega)]) (fun k _ k2 _ => y2 k k2) t1) rfl
      · have hgt : U (l + 1) < d := by
          unfold cmpI at hy
          split at hy
          · exact absurd (by decide) hy
          · split at hy
            · exact absurd (by decide) hy
            · omega
        exact go (if_pos (Or.inr hgt))
  obtain ⟨ho1, ho2, ho3, ho4⟩ := ho
  have go : nmin (i + j) (U l) c = c → WA X M_X2_fillCorners ρ 199 (fcL e v v1 v2 p dv lf rg i j) [] σ Q := by
    intro em
    have i1 := h.big (i := l) (by omega)
    refine wa_aload_n q_X2_fillCorners_199 rfl ?_
    refine wa_getf q_X2_fillCorners_200 f_RX2_107 (by assumption) rfl ?_
    refine wa_aload_n q_X2_fillCorners_203 rfl ?_
    refine wa_getf q_X2_fillCorners_204 f_RX2_28 (by assumption) rfl ?_
    refine wa_callV q_X2_fillCorners_207 g_X2_fillCorners_207 w_X1_copy (by assumption) rfl (av := [_]) rfl rfl (lk rfl) (Calls.mono (Z_copy h (i := l) (j := 0) (by omega) (by omega) (by omega) (by rw [x1]; exact lp_le zc (by decide))) ?_)
    rintro _ σ2 ⟨rfl, S2, w2, t2⟩
    rw [x1] at w2
    exact wa_lv (up σ2 S2 _ w2 (by rw [uV_s, em]) (fun k k1 => uV_n k1) t2) rfl
  refine wa_iload q_X2_fillCorners_177 rfl ?_
  refine wa_iload q_X2_fillCorners_179 rfl ?_
  refine wn_iadd q_X2_fillCorners_181 ?_
  refine wn_if_eq q_X2_fillCorners_182 (by omega) (fun hx => ?_) (fun hx => ?_)
  · exact go (if_pos (Or.inl hx))
  · have i1 := h.big (i := 0) (by omega)
    refine wa_aload_n q_X2_fillCorners_185 rfl ?_
    refine wa_getf q_X2_fillCorners_186 f_RX2_28 (by assumption) rfl ?_
    refine wa_aload_n q_X2_fillCorners_189 rfl ?_
    refine wa_getf q_X2_fillCorners_190 f_RX2_107 (by assumption) rfl ?_
    refine wa_callV q_X2_fillCorners_193 g_X2_fillCorners_193 w_X1_compare (by assumption) rfl (av := [_]) rfl rfl (lk rfl) (Calls.mono (Z_cmp h (i := 0) (j := l) (by omega) (by omega)) ?_)
    rintro _ _ ⟨rfl, rfl⟩
    rw [x1]
    refine wa_if_ge q_X2_fillCorners_196 (fun hy => ?_) (fun hy => ?_)
    · have hle : U l ≤ c := by
        unfold cmpI at hy
        split at hy
        · exact absurd hy (by decide)
        · omega
      exact wa_lv (up _ S U h (by unfold nmin; rw [if_neg (by omega)]) (fun _ _ => rfl) (bw_St.rf _ _ _)) rfl
    · have hgt : c < U l := by
        unfold cmpI at hy
        split at hy
        · assumption
        · split at hy
          · exact absurd (by decide) hy
          · exact absurd (by decide) hy
      exact go (if_pos (Or.inr hgt))
theorem cor_2 {σ : en_S} {S : Nat → en_B} {U : Nat → Int} {x y : Nat} (h : zW X z N σ S U) (ho : eO σ z e bn se) (hv : vO σ z v l kd a b f s at' 0 fa) (hvl : v < σ.1) (h10 : 10 ≤ l) (hl : l + 3 ≤ N) (hi : i < 2) (hj : j < 2) (hp : p ≤ 480) (hx10 : 10 ≤ x) (hy10 : 10 ≤ y) (hxl : x < l) (hyl : y < l) (zx : (U x).natAbs < BB ^ 90) (zy : (U y).natAbs < BB ^ 90) (hnz : dv = true → U y ≠ 0)
    (k : ∀ σ' S' U', zW X z N σ' S' U' → U' l = nmin (i + j) (U l) (cdn dv p (U x) (U y)) → U' (l + 1) = nmax (i + j) (U (l + 1)) (cup dv p (U x) (U y)) → (∀ k, 10 ≤ k → k ≠ l → k ≠ l + 1 → U' k = U k) → bw_St (zD z N) σ S σ' S' → WA X M_X2_fillCorners ρ 243 (fcL e v v1 v2 p dv lf rg i j) [] σ' Q) :
    WA X M_X2_fillCorners ρ 131 ((11, .ref (z y)) :: (10, .ref (z x)) :: fcL e v v1 v2 p dv lf rg i j) [] σ Q := by
  obtain ⟨zc, zd⟩ := cor_lt (dv := dv) zx zy hp
  have ho' := ho
  obtain ⟨ho1, ho2, ho3, ho4⟩ := ho
  have fin : ∀ (σ2 : en_S) (S2 : Nat → en_B) (U2 : Nat → Int), zW X z N σ2 S2 U2 → U2 0 = cdn dv p (U x) (U y) → U2 1 = cup dv p (U x) (U y) → (∀ k, 10 ≤ k → U2 k = U k) → bw_St (zD z N) σ S σ2 S2 → WA X M_X2_fillCorners ρ 177 (fcL e v v1 v2 p dv lf rg i j) [] σ2 Q := by
    intro σ2 S2 U2 w2 x1 x2 x3 t2
    exact cor_3 w2 (ho'.st t2 h.R) (bw_obj t2 h.R hvl hv (by decide)) (Nat.lt_of_lt_of_le hvl t2.1) h10 hl hi hj x1 x2 zc zd (fun σ' S' U' w' y1 y2 y3 t' => k σ' S' U' w' (by rw [y1, x3 l h10]) (by rw [y2, x3 (l + 1) (by omega)]) (fun k k1 k2 k3 => (y3 k k1 k2 k3).trans (x3 k k1)) (t2.tr t'))
  refine wa_iload q_X2_fillCorners_131 rfl ?_
  cases dv
  · refine wn_if_eq q_X2_fillCorners_133 (by decide) (fun hx => ?_) (fun hx => absurd hx (by decide))
    refine wa_aload_n q_X2_fillCorners_167 rfl ?_
    refine wa_aload q_X2_fillCorners_168 rfl ?_
    refine wa_aload q_X2_fillCorners_170 rfl ?_
    refine wa_iload q_X2_fillCorners_172 rfl ?_
    refine wa_callV q_X2_fillCorners_174 g_X2_fillCorners_174 w_X2_multiplyBothWays (by assumption) rfl (av := [_, _, _]) rfl rfl (lk rfl) (Calls.mono (Z_mulBoth h ho' (i := x) (j := y) (by omega) (by omega) hx10 hy10 hp zx zy) ?_)
    rintro _ σ2 ⟨rfl, S2, U2, w2, x1, x2, x3, t2⟩
    exact wa_lv (fin σ2 S2 U2 w2 x1 x2 (fun k hk => x3 k (by simp; omega)) t2) rfl
  · refine wn_if_eq q_X2_fillCorners_133 (by decide) (fun hx => absurd hx (by decide)) (fun hx => ?_)
    have i1 := h.big (i := 2) (by omega)
    refine wa_aload_n q_X2_fillCorners_136 rfl ?_
    refine wa_getf q_X2_fillCorners_137 f_RX2_35 (by assumption) rfl ?_
    refine wa_aload q_X2_fillCorners_140 rfl ?_
    refine wa_callV q_X2_fillCorners_142 g_X2_fillCorners_142 w_X1_copy (by assumption) rfl (av := [_]) rfl rfl (lk rfl) (Calls.mono (Z_copy h (i := 2) (j := x) (by omega) (by omega) (by omega) (lp_le zx (by decide))) ?_)
    rintro _ σ1 ⟨rfl, S1, w1, t1⟩
    obtain ⟨ho1, ho2, ho3, ho4⟩ := eO.st ⟨ho1, ho2, ho3, ho4⟩ t1 h.R
    have i2 := w1.big (i := 2) (by omega)
    have hsm := op_lt zx hp
    refine wa_aload_n q_X2_fillCorners_145 rfl ?_
    refine wa_getf q_X2_fillCorners_146 f_RX2_35 (by assumption) rfl ?_
    refine wa_iload q_X2_fillCorners_149 rfl ?_
    refine wa_callV q_X2_fillCorners_151 g_X2_fillCorners_151 w_X1_shiftUp (by assumption) rfl (av := [_]) rfl rfl (lk rfl) (Calls.mono (Z_shiftUp w1 (i := 2) (by omega) (by omega) (by rw [uV_s]; rw [Int.natAbs_mul, Int.natAbs_pow] at hsm; exact lp_le hsm (by decide))) ?_)
    rintro _ σ2 ⟨rfl, S2, w2, t2⟩
    rw [uV_s] at w2
    obtain ⟨ho1, ho2, ho3, ho4⟩ := eO.st ⟨ho1, ho2, ho3, ho4⟩ t2 w1.R
    obtain ⟨U2, hU2⟩ : ∃ U2, U2 = uV (uV U 2 (U x)) 2 (U x * 10 ^ p) := ⟨_, rfl⟩
    rw [← hU2] at w2
    have y1 : U2 2 = U x * 10 ^ p := by rw [hU2, uV_s]
    have y2 : ∀ k, 10 ≤ k → U2 k = U k := fun k hk => by rw [hU2, uV_n (by omega), uV_n (by omega)]
    clear hU2
    refine wa_aload_n q_X2_fillCorners_154 rfl ?_
    refine wa_aload_n q_X2_fillCorners_155 rfl ?_
    refine wa_getf q_X2_fillCorners_156 f_RX2_35 (by assumption) rfl ?_
    refine wa_aload q_X2_fillCorners_159 rfl ?_
    refine wa_callV q_X2_fillCorners_161 g_X2_fillCorners_161 w_X2_divideBothWays (by assumption) rfl (av := [_, _]) rfl rfl (lk rfl) (Calls.mono (Z_divBoth w2 ⟨ho1, ho2, ho3, ho4⟩ (i := 2) (j := y) (by omega) (by omega) (by omega) (by decide) (by simp; omega) (by rw [y2 y hy10]; exact hnz rfl) (by rw [y1]; exact lp_le hsm (by decide)) (by rw [y2 y hy10]; exact lp_le zy (by decide))) ?_)
    rintro _ σ3 ⟨rfl, S3, U3, w3, x1, x2, x3, t3⟩
    rw [y1, y2 y hy10] at x1 x2
    refine wa_goto q_X2_fillCorners_164 ?_
    exact wa_lv (fin σ3 S3 U3 w3 x1 x2 (fun k hk => (x3 k (by simp; omega)).trans (y2 k hk)) (t1.tr (t2.tr t3))) rfl
theorem cor_1 {σ : en_S} {S : Nat → en_B} {U : Nat → Int} (h : zW X z N σ S U) (ho : eO σ z e bn se) (hv : vO σ z v l kd a b f s at' 0 fa) (hvl : v < σ.1) (hv1 : vO σ z v1 l1 kd1 a1 b1 f1 s1 at1 op1 fa1) (hv2 : vO σ z v2 l2 kd2 a2 b2 f2 s2 at2 op2 fa2) (h10 : 10 ≤ l1) (h20 : 10 ≤ l2) (hl : l + 3 ≤ N) (hl1 : l1 + 3 ≤ l) (hl2 : l2 + 3 ≤ l) (hi : i < 2) (hj : j < 2) (hp : p ≤ 480)
    (zx : (U (l1 + i)).natAbs < BB ^ 90) (zy : (U (l2 + j)).natAbs < BB ^ 90) (hnz : dv = true → U (l2 + j) ≠ 0)
    (k : ∀ σ' S' U', zW X z N σ' S' U' → U' l = nmin (i + j) (U l) (cdn dv p (U (l1 + i)) (U (l2 + j))) → U' (l + 1) = nmax (i + j) (U (l + 1)) (cup dv p (U (l1 + i)) (U (l2 + j))) → (∀ k, 10 ≤ k → k ≠ l → k ≠ l + 1 → U' k = U k) → bw_St (zD z N) σ S σ' S' → WA X M_X2_fillCorners ρ 243 (fcL e v v1 v2 p dv lf rg i j) [] σ' Q) :
    WA X M_X2_fillCorners ρ 95 (fcL e v v1 v2 p dv lf rg i j) [] σ Q := by
  have g2 := cor_2 (lf := lf) (rg := rg) (v1 := v1) (v2 := v2) (ρ := ρ) (Q := Q) (x := l1 + i) (y := l2 + j) h ho hv hvl (by omega) hl hi hj hp (by omega) (by omega) (by omega) (by omega) zx zy hnz k
  have g1 : WA X M_X2_fillCorners ρ 113 ((10, .ref (z (l1 + i))) :: fcL e v v1 v2 p dv lf rg i j) [] σ Q := by
    refine wa_iload q_X2_fillCorners_113 rfl ?_
    refine wn_if_ne q_X2_fillCorners_115 (by omega) (fun hx => ?_) (fun hx => ?_)
    · have e1 : j = 1 := by omega
      subst e1
      refine wa_aload_n q_X2_fillCorners_125 rfl ?_
      refine wa_getf q_X2_fillCorners_126 f_RX2_114 (by assumption) rfl ?_
      refine wa_astore q_X2_fillCorners_129 (by decide) ?_
      exact wa_lv g2 rfl
    · subst hx
      refine wa_aload_n q_X2_fillCorners_118 rfl ?_
      refine wa_getf q_X2_fillCorners_119 f_RX2_107 (by assumption) rfl ?_
      refine wa_goto q_X2_fillCorners_122 ?_
      refine wa_astore q_X2_fillCorners_129 (by decide) ?_
      exact wa_lv g2 rfl
  refine wa_iload q_X2_fillCorners_95 rfl ?_
  refine wn_if_ne q_X2_fillCorners_97 (by omega) (fun hx => ?_) (fun hx => ?_)
  · have e1 : i = 1 := by omega
    subst e1
    refine wa_aload_n q_X2_fillCorners_107 rfl ?_
    refine wa_getf q_X2_fillCorners_108 f_RX2_114 (by assumption) rfl ?_
    refine wa_astore q_X2_fillCorners_111 (by decide) ?_
    exact wa_lv g1 rfl
  · subst hx
    refine wa_aload_n q_X2_fillCorners_100 rfl ?_
    refine wa_getf q_X2_fillCorners_101 f_RX2_107 (by assumption) rfl ?_
    refine wa_goto q_X2_fillCorners_104 ?_
    refine wa_astore q_X2_fillCorners_111 (by decide) ?_
    exact wa_lv g1 rfl
/-- the inner loop -/
theorem cor_in {σ : en_S} {S : Nat → en_B} {U : Nat → Int} (h : zW X z N σ S U) (ho : eO σ z e bn se) (hv : vO σ z v l kd a b f s at' 0 fa) (hvl : v < σ.1) (hv1 : vO σ z v1 l1 kd1 a1 b1 f1 s1 at1 op1 fa1) (hvl1 : v1 < σ.1) (hv2 : vO σ z v2 l2 kd2 a2 b2 f2 s2 at2 op2 fa2) (hvl2 : v2 < σ.1) (h10 : 10 ≤ l1) (h20 : 10 ≤ l2) (hl : l + 3 ≤ N) (hl1 : l1 + 3 ≤ l) (hl2 : l2 + 3 ≤ l) (hi : i < 2) (hp : p ≤ 480)
    (zx : (U (l1 + i)).natAbs < BB ^ 90) (zy : (U l2).natAbs < BB ^ 90) (zy1 : (U (l2 + 1)).natAbs < BB ^ 90) (hnz : dv = true → U l2 ≠ 0 ∧ U (l2 + 1) ≠ 0) (hrg : rg = 2 ∨ rg = 1 ∧ U l2 = U (l2 + 1))
    (k : ∀ σ' S' U' j', zW X z N σ' S' U' → U' l = nmin (i + 1) (nmin i (U l) (cdn dv p (U (l1 + i)) (U l2))) (cdn dv p (U (l1 + i)) (U (l2 + 1))) → U' (l + 1) = nmax (i + 1) (nmax i (U (l + 1)) (cup dv p (U (l1 + i)) (U l2))) (cup dv p (U (l1 + i)) (U (l2 + 1))) → (∀ k, 10 ≤ k → k ≠ l → k ≠ l + 1 → U' k = U k) → bw_St (zD z N) σ S σ' S' → WA X M_X2_fillCorners ρ 249 (fcL e v v1 v2 p dv lf rg i j') [] σ' Q) :
    WA X M_X2_fillCorners ρ 88 (fcL e v v1 v2 p dv lf rg i 0) [] σ Q := by
  refine wa_iload q_X2_fillCorners_88 rfl ?_
  refine wa_iload q_X2_fillCorners_90 rfl ?_
  refine wn_icmp_ge q_X2_fillCorners_92 (by omega) (by omega) (fun hx => ?_) (fun hx => ?_)
  · omega
  refine cor_1 (j := 0) h ho hv hvl hv1 hv2 h10 h20 hl hl1 hl2 hi (by decide) hp zx zy (fun q => (hnz q).1) (fun σ1 S1 U1 w1 y1 y2 y3 t1 => ?_)
  have ho := ho.st t1 h.R
  have hv := bw_obj t1 h.R hvl hv (by decide)
  have hv1 := bw_obj t1 h.R hvl1 hv1 (by decide)
  have hv2 := bw_obj t1 h.R hvl2 hv2 (by decide)
  have hvl := Nat.lt_of_lt_of_le hvl t1.1
  have hvl1 := Nat.lt_of_lt_of_le hvl1 t1.1
  have hvl2 := Nat.lt_of_lt_of_le hvl2 t1.1
  refine wn_iinc q_X2_fillCorners_243 rfl (by decide) ?_
  refine wa_goto q_X2_fillCorners_246 ?_
  refine wa_iload q_X2_fillCorners_88 rfl ?_
  refine wa_iload q_X2_fillCorners_90 rfl ?_
  refine wn_icmp_ge q_X2_fillCorners_92 (by omega) (by omega) (fun hx => ?_) (fun hx => ?_)
  · have e1 : U l2 = U (l2 + 1) := by rcases hrg with q | ⟨_, q⟩; omega; exact q
    refine wa_lv (k σ1 S1 U1 1 w1 ?_ ?_ y3 t1) rfl
    · rw [← e1, nmin_i]; exact y1
    · rw [← e1, nmax_i]; exact y2
  · have y4 : U1 (l1 + i) = U (l1 + i) := y3 _ (by omega) (by omega) (by omega)
    have y5 : U1 (l2 + 1) = U (l2 + 1) := y3 _ (by omega) (by omega) (by omega)
    refine wa_lv (lv' := fcL e v v1 v2 p dv lf rg i 1) ?_ rfl
    refine cor_1 (j := 1) w1 ho hv hvl hv1 hv2 h10 h20 hl hl1 hl2 hi (by decide) hp (by rw [y4]; exact zx) (by rw [y5]; exact zy1) (fun q => by rw [y5]; exact (hnz q).2) (fun σ2 S2 U2 w2 x1 x2 x3 t2 => ?_)
    rw [y4, y5, y1] at x1
    rw [y4, y5, y2] at x2
    refine wn_iinc q_X2_fillCorners_243 rfl (by decide) ?_
    refine wa_goto q_X2_fillCorners_246 ?_
    refine wa_iload q_X2_fillCorners_88 rfl ?_
    refine wa_iload q_X2_fillCorners_90 rfl ?_
    refine wn_icmp_ge q_X2_fillCorners_92 (by omega) (by omega) (fun hy => ?_) (fun hy => ?_)
    · exact wa_lv (k σ2 S2 U2 2 w2 x1 x2 (fun k k1 k2 k3 => (x3 k k1 k2 k3).trans (y3 k k1 k2 k3)) (t1.tr t2)) rfl
    · omega
/-- both ends of a product or a quotient -/
def crL (dv : Bool) (p : Nat) (a b c d : Int) : Int := nmin 1 (nmin 1 (nmin 1 (cdn dv p a c) (cdn dv p a d)) (cdn dv p b c)) (cdn dv p b d)
def crH (dv : Bool) (p : Nat) (a b c d : Int) : Int := nmax 1 (nmax 1 (nmax 1 (cup dv p a c) (cup dv p a d)) (cup dv p b c)) (cup dv p b d)
theorem sg_le {v : Int} : sgI v ≤ 0 ↔ v ≤ 0 := by
  rcases sgI_c v with ⟨q, g⟩ | ⟨q, g⟩ | ⟨q, g⟩ <;> rw [g]
  · exact ⟨fun _ => by omega, fun _ => by decide⟩
  · exact ⟨fun _ => by omega, fun _ => by decide⟩
  · exact ⟨fun h => absurd h (by decide), fun h => by omega⟩
theorem sg_ge {v : Int} : 0 ≤ sgI v ↔ 0 ≤ v := by
  rcases sgI_c v with ⟨q, g⟩ | ⟨q, g⟩ | ⟨q, g⟩ <;> rw [g]
  · exact ⟨fun h => absurd h (by decide), fun h => by omega⟩
  · exact ⟨fun _ => by omega, fun _ => by decide⟩
  · exact ⟨fun _ => by omega, fun _ => by decide⟩
theorem F_exactZ {σ : en_S} {S : Nat → en_B} {U : Nat → Int} {op1 : Int32} (h : zW X z N σ S U) (hv1 : vO σ z v1 l1 kd1 a1 b1 f1 s1 at1 op1 fa1) (hl : l1 + 3 ≤ N) : Calls X M_X2_isExact [.ref v1] σ (fun res τ => res = some (.int (nI (if U l1 = U (l1 + 1) then 1 else 0))) ∧ τ = σ) := by
  obtain ⟨h0, V, h1, h2⟩ := h
  have := F_exact h1 hv1 (zD_m (N := N) (by omega)) (zD_m (N := N) (by omega))
  rw [h2 l1 (by omega), h2 (l1 + 1) (by omega)] at this
  exact this
set_option maxHeartbeats 1000000 in
theorem G_corn {σ : en_S} {S : Nat → en_B} {U : Nat → Int} (h : zW X z N σ S U) (ho : eO σ z e bn se) (hk : kd = nI (if dv then 9 else 8)) (hv : vO σ z v l kd a b f s at' 0 fa) (hvl : v < σ.1) (hv1 : vO σ z v1 l1 kd1 a1 b1 f1 s1 at1 op1 fa1) (hvl1 : v1 < σ.1) (hv2 : vO σ z v2 l2 kd2 a2 b2 f2 s2 at2 op2 fa2) (hvl2 : v2 < σ.1) (h10 : 10 ≤ l1) (h20 : 10 ≤ l2) (hl : l + 3 ≤ N) (hl1 : l1 + 3 ≤ l) (hl2 : l2 + 3 ≤ l) (hp : p ≤ 480)
    (z1 : (U l1).natAbs < BB ^ 90) (z2 : (U (l1 + 1)).natAbs < BB ^ 90) (z3 : (U l2).natAbs < BB ^ 90) (z4 : (U (l2 + 1)).natAbs < BB ^ 90) (hle : U l2 ≤ U (l2 + 1)) :
    Calls X M_X2_fillCorners [.ref e, .ref v, .ref v1, .ref v2, .int (nI p)] σ (fun res τ => res = none ∧ ((dv = true ∧ (U l2 ≤ 0 ∧ 0 ≤ U (l2 + 1)) ∧ vO τ z v l kd a b f s at' 1 fa ∧ (∀ q, q ≠ v → look τ q = look σ q) ∧ τ.1 = σ.1 ∧ τ.2.1 = σ.2.1) ∨ ((dv = true → ¬ (U l2 ≤ 0 ∧ 0 ≤ U (l2 + 1))) ∧ Fil X z N σ S U l (crL dv p (U l1) (U (l1 + 1)) (U l2) (U (l2 + 1))) (crH dv p (U l1) (U (l1 + 1)) (U l2) (U (l2 + 1))) τ))) := by
  obtain ⟨QQ, hQQ⟩ : ∃ QQ : Option Value → en_S → Prop, QQ = (fun res τ => res = none ∧ ((dv = true ∧ (U l2 ≤ 0 ∧ 0 ≤ U (l2 + 1)) ∧ vO τ z v l kd a b f s at' 1 fa ∧ (∀ q, q ≠ v → look τ q = look σ q) ∧ τ.1 = σ.1 ∧ τ.2.1 = σ.2.1) ∨ ((dv = true → ¬ (U l2 ≤ 0 ∧ 0 ≤ U (l2 + 1))) ∧ Fil X z N σ S U l (crL dv p (U l1) (U (l1 + 1)) (U l2) (U (l2 + 1))) (crH dv p (U l1) (U (l1 + 1)) (U l2) (U (l2 + 1))) τ))) := ⟨_, rfl⟩
  rw [← hQQ]
  -- behind the test
  have main : (dv = true → ¬ (U l2 ≤ 0 ∧ 0 ≤ U (l2 + 1))) → WA X M_X2_fillCorners σ 47 [(5, .int (nI (if dv then 1 else 0))), (0, .ref e), (1, .ref v), (2, .ref v1), (3, .ref v2), (4, .int (nI p))] [] σ QQ := by
    intro hop
    have hnz : dv = true → U l2 ≠ 0 ∧ U (l2 + 1) ≠ 0 := fun q => ⟨fun y => hop q ⟨by omega, by omega⟩, fun y => hop q ⟨by omega, by omega⟩⟩
    have loop : ∀ lf rg, (lf = 2 ∨ lf = 1 ∧ U l1 = U (l1 + 1)) → (rg = 2 ∨ rg = 1 ∧ U l2 = U (l2 + 1)) → WA X M_X2_fillCorners σ 78 [(8, .int (nI 0)), (7, .int (nI rg)), (6, .int (nI lf)), (5, .int (nI (if dv then 1 else 0))), (0, .ref e), (1, .ref v), (2, .ref v1), (3, .ref v2), (4, .int (nI p))] [] σ QQ := by
      intro lf rg hlf hrg
      refine wa_iload q_X2_fillCorners_78 rfl ?_
      refine wa_iload q_X2_fillCorners_80 rfl ?_
      refine wn_icmp_ge q_X2_fillCorners_82 (by omega) (by omega) (fun hx => ?_) (fun hx => ?_)
      · omega
      refine wa_iconst q_X2_fillCorners_85 (v := nI 0) (by decide) ?_
      refine wa_istore q_X2_fillCorners_86 (by decide) ?_
      refine wa_lv (lv' := fcL e v v1 v2 p dv lf rg 0 0) ?_ rfl
      refine cor_in (i := 0) h ho hv hvl hv1 hvl1 hv2 hvl2 h10 h20 hl hl1 hl2 (by decide) hp z1 z3 z4 hnz hrg (fun σ1 S1 U1 j1 w1 y1 y2 y3 t1 => ?_)
      have ho := ho.st t1 h.R
      have hv := bw_obj t1 h.R hvl hv (by decide)
      have hv1 := bw_obj t1 h.R hvl1 hv1 (by decide)
      have hv2 := bw_obj t1 h.R hvl2 hv2 (by decide)
      have hvl := Nat.lt_of_lt_of_le hvl t1.1
      have hvl1 := Nat.lt_of_lt_of_le hvl1 t1.1
      have hvl2 := Nat.lt_of_lt_of_le hvl2 t1.1
      have y1 : U1 l = nmin 1 (cdn dv p (U l1) (U l2)) (cdn dv p (U l1) (U (l2 + 1))) := y1
      have y2 : U1 (l + 1) = nmax 1 (cup dv p (U l1) (U l2)) (cup dv p (U l1) (U (l2 + 1))) := y2
      refine wn_iinc q_X2_fillCorners_249 rfl (by decide) ?_
      refine wa_goto q_X2_fillCorners_252 ?_
      refine wa_iload q_X2_fillCorners_78 rfl ?_
      refine wa_iload q_X2_fillCorners_80 rfl ?_
      refine wn_icmp_ge q_X2_fillCorners_82 (by omega) (by omega) (fun hx => ?_) (fun hx => ?_)
      · have e1 : U l1 = U (l1 + 1) := by rcases hlf with q | ⟨_, q⟩; omega; exact q
        refine wa_vret q_X2_fillCorners_255 rfl ?_
        rw [hQQ]
        refine ⟨rfl, Or.inr ⟨hop, S1, U1, w1, ?_, ?_, y3, t1⟩⟩
        · rw [y1, ← e1]; unfold crL nmin; simp only [Nat.one_ne_zero, false_or]
          (repeat' split) <;> omega
        · rw [y2, ← e1]; unfold crH nmax; simp only [Nat.one_ne_zero, false_or]
          (repeat' split) <;> omega
      · have u1 : U1 (l1 + 1) = U (l1 + 1) := y3 _ (by omega) (by omega) (by omega)
        have u2 : U1 l2 = U l2 := y3 _ (by omega) (by omega) (by omega)
        have u3 : U1 (l2 + 1) = U (l2 + 1) := y3 _ (by omega) (by omega) (by omega)
        refine wa_iconst q_X2_fillCorners_85 (v := nI 0) (by decide) ?_
        refine wa_istore q_X2_fillCorners_86 (by decide) ?_
        refine wa_lv (lv' := fcL e v v1 v2 p dv lf rg 1 0) ?_ rfl
        refine cor_in (i := 1) w1 ho hv hvl hv1 hvl1 hv2 hvl2 h10 h20 hl hl1 hl2 (by decide) hp (by rw [u1]; exact z2) (by rw [u2]; exact z3) (by rw [u3]; exact z4) (by rw [u2, u3]; exact hnz) (by rw [u2, u3]; exact hrg) (fun σ2 S2 U2 j2 w2 x1 x2 x3 t2 => ?_)
        rw [u1, u2, u3, y1] at x1
        rw [u1, u2, u3, y2] at x2
        refine wn_iinc q_X2_fillCorners_249 rfl (by decide) ?_
        refine wa_goto q_X2_fillCorners_252 ?_
        refine wa_iload q_X2_fillCorners_78 rfl ?_
        refine wa_iload q_X2_fillCorners_80 rfl ?_
        refine wn_icmp_ge q_X2_fillCorners_82 (by omega) (by omega) (fun hy => ?_) (fun hy => ?_)
        · refine wa_vret q_X2_fillCorners_255 rfl ?_
          rw [hQQ]
          refine ⟨rfl, Or.inr ⟨hop, S2, U2, w2, ?_, ?_, fun k k1 k2 k3 => (x3 k k1 k2 k3).trans (y3 k k1 k2 k3), t1.tr t2⟩⟩
          · rw [x1]; unfold crL nmin; simp only [Nat.one_ne_zero, Nat.succ_ne_zero, false_or]
          · rw [x2]; unfold crH nmax; simp only [Nat.one_ne_zero, Nat.succ_ne_zero, false_or]
        · omega
    have rgt : ∀ lf, (lf = 2 ∨ lf = 1 ∧ U l1 = U (l1 + 1)) → WA X M_X2_fillCorners σ 61 [(6, .int (nI lf)), (5, .int (nI (if dv then 1 else 0))), (0, .ref e), (1, .ref v), (2, .ref v1), (3, .ref v2), (4, .int (nI p))] [] σ QQ := by
      intro lf hlf
      refine wa_aload_n q_X2_fillCorners_61 rfl ?_
      refine wa_callS q_X2_fillCorners_62 g_X2_fillCorners_62 w_X2_isExact (av := [_]) rfl rfl (lk rfl) (Calls.mono (F_exactZ h hv2 (by omega)) ?_)
      rintro _ _ ⟨rfl, rfl⟩
      by_cases ex : U l2 = U (l2 + 1)
      · rw [if_pos ex]
        refine wn_if_eq q_X2_fillCorners_65 (by decide) (fun hx => absurd hx (by decide)) (fun hx => ?_)
        refine wa_iconst q_X2_fillCorners_68 (v := nI 1) (by decide) ?_
        refine wa_goto q_X2_fillCorners_69 ?_
        refine wa_istore q_X2_fillCorners_73 (by decide) ?_
        refine wa_iconst q_X2_fillCorners_75 (v := nI 0) (by decide) ?_
        refine wa_istore q_X2_fillCorners_76 (by decide) ?_
        exact wa_lv (loop lf 1 hlf (Or.inr ⟨rfl, ex⟩)) rfl
      · rw [if_neg ex]
        refine wn_if_eq q_X2_fillCorners_65 (by decide) (fun hx => ?_) (fun hx => absurd hx (by decide))
        refine wa_iconst q_X2_fillCorners_72 (v := nI 2) (by decide) ?_
        refine wa_istore q_X2_fillCorners_73 (by decide) ?_
        refine wa_iconst q_X2_fillCorners_75 (v := nI 0) (by decide) ?_
        refine wa_istore q_X2_fillCorners_76 (by decide) ?_
        exact wa_lv (loop lf 2 hlf (Or.inl rfl)) rfl
    refine wa_aload_n q_X2_fillCorners_47 rfl ?_
    refine wa_callS q_X2_fillCorners_48 g_X2_fillCorners_48 w_X2_isExact (av := [_]) rfl rfl (lk rfl) (Calls.mono (F_exactZ h hv1 (by omega)) ?_)
    rintro _ _ ⟨rfl, rfl⟩
    by_cases ex : U l1 = U (l1 + 1)
    · rw [if_pos ex]
      refine wn_if_eq q_X2_fillCorners_51 (by decide) (fun hx => absurd hx (by decide)) (fun hx => ?_)
      refine wa_iconst q_X2_fillCorners_54 (v := nI 1) (by decide) ?_
      refine wa_goto q_X2_fillCorners_55 ?_
      refine wa_istore q_X2_fillCorners_59 (by decide) ?_
      exact wa_lv (rgt 1 (Or.inr ⟨rfl, ex⟩)) rfl
    · rw [if_neg ex]
      refine wn_if_eq q_X2_fillCorners_51 (by decide) (fun hx => ?_) (fun hx => absurd hx (by decide))
      refine wa_iconst q_X2_fillCorners_58 (v := nI 2) (by decide) ?_
      refine wa_istore q_X2_fillCorners_59 (by decide) ?_
      exact wa_lv (rgt 2 (Or.inl rfl)) rfl
  refine Calls.of rfl (lk rfl) ?_
  refine wa_aload_n q_X2_fillCorners_0 rfl ?_
  refine wa_getf q_X2_fillCorners_1 f_RX2_68 (by assumption) rfl ?_
  refine wa_bipush q_X2_fillCorners_4 (v := nI 8) (by decide) ?_
  subst hk
  cases dv
  · refine wn_icmp_eq q_X2_fillCorners_6 (by decide) (by decide) (fun hx => ?_) (fun hx => absurd rfl hx)
    refine wa_iconst q_X2_fillCorners_13 (v := nI 0) (by decide) ?_
    refine wa_istore q_X2_fillCorners_14 (by decide) ?_
    refine wa_iload q_X2_fillCorners_16 rfl ?_
    refine wn_if_eq q_X2_fillCorners_18 (by decide) (fun hx => ?_) (fun hx => absurd hx (by decide))
    exact wa_lv (main (fun q => absurd q (by decide))) rfl
  · refine wn_icmp_eq q_X2_fillCorners_6 (by decide) (by decide) (fun hx => absurd hx (by decide)) (fun hx => ?_)
    refine wa_iconst q_X2_fillCorners_9 (v := nI 1) (by decide) ?_
    refine wa_goto q_X2_fillCorners_10 ?_
    refine wa_istore q_X2_fillCorners_14 (by decide) ?_
    refine wa_iload q_X2_fillCorners_16 rfl ?_
    refine wn_if_eq q_X2_fillCorners_18 (by decide) (fun hx => absurd hx (by decide)) (fun hx => ?_)
    have i1 := h.big (i := l2) (by omega)
    have i2 := h.big (i := l2 + 1) (by omega)
    refine wa_aload_n q_X2_fillCorners_21 rfl ?_
    refine wa_getf q_X2_fillCorners_22 f_RX2_107 (by assumption) rfl ?_
    refine wa_getf q_X2_fillCorners_25 f_RX2_169 (by assumption) rfl ?_
    refine wa_if_gt q_X2_fillCorners_28 (fun hy => ?_) (fun hy => ?_)
    · refine wa_lv (main (fun _ q => ?_)) rfl
      have := sg_le.mpr q.1
      exact absurd hy (Int32.not_lt.mpr this)
    · have hy1 : U l2 ≤ 0 := sg_le.mp (Int32.not_lt.mp hy)
      refine wa_aload_n q_X2_fillCorners_31 rfl ?_
      refine wa_getf q_X2_fillCorners_32 f_RX2_114 (by assumption) rfl ?_
      refine wa_getf q_X2_fillCorners_35 f_RX2_169 (by assumption) rfl ?_
      refine wa_if_lt q_X2_fillCorners_38 (fun hw => ?_) (fun hw => ?_)
      · refine wa_lv (main (fun _ q => ?_)) rfl
        have := sg_ge.mpr q.2
        exact absurd hw (Int32.not_lt.mpr this)
      · have hw1 : 0 ≤ U (l2 + 1) := sg_ge.mp (Int32.not_lt.mp hw)
        refine wa_aload_n q_X2_fillCorners_41 rfl ?_
        refine wa_iconst q_X2_fillCorners_42 (v := nI 1) (by decide) ?_
        refine wn_putf q_X2_fillCorners_43 p_RX2_75 (by assumption) (lk rfl) rfl rfl rfl (fun σ_p1 p1 f_p1 e1_p1 e2_p1 => ?_)
        refine wa_vret q_X2_fillCorners_46 rfl ?_
        rw [hQQ]
        exact ⟨rfl, Or.inl ⟨rfl, ⟨hy1, hw1⟩, p1, f_p1, e1_p1, e2_p1⟩⟩
end enc5
