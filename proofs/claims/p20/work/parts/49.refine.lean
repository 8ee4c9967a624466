/-! A step that may also change the cells of E; EnclosedDigits$Series: refine -/
def bw_Sx (E : Nat → Prop) (D : List Nat) (σ : en_S) (S : Nat → en_B) (τ : en_S) (T : Nat → en_B) : Prop :=
  σ.1 ≤ τ.1 ∧ (∀ q, q < σ.1 → q ∉ D → (∀ d ∈ D, q ≠ (S d).1) → ¬ E q → look τ q = look σ q) ∧ (∀ d ∈ D, (T d).1 = (S d).1 ∨ σ.1 ≤ (T d).1) ∧ 8 * τ.1 + bw_tot D S ≤ 8 * σ.1 + bw_tot D T ∧ τ.2.1 + 2 * bw_tot D S ≤ σ.2.1 + 2 * bw_tot D T
theorem bw_St.x {E : Nat → Prop} {D : List Nat} {σ τ : en_S} {S T : Nat → en_B} (h : bw_St D σ S τ T) : bw_Sx E D σ S τ T := ⟨h.1, fun q q1 q2 q3 _ => h.2.1 q q1 q2 q3, h.2.2⟩
theorem bw_Sx.rf {E : Nat → Prop} (D : List Nat) (σ : en_S) (S : Nat → en_B) : bw_Sx E D σ S σ S := (bw_St.rf D σ S).x
theorem bw_Sx.tr {E : Nat → Prop} {D : List Nat} {σ τ υ : en_S} {S T U : Nat → en_B} (h : bw_Sx E D σ S τ T) (g : bw_Sx E D τ T υ U) : bw_Sx E D σ S υ U := by
  obtain ⟨h1, h2, h3, h4, h5⟩ := h
  obtain ⟨g1, g2, g3, g4, g5⟩ := g
  refine ⟨Nat.le_trans h1 g1, fun q q1 q2 q3 q4 => ?_, fun d hd => ?_, by omega, by omega⟩
  · rw [g2 q (by omega) q2 (fun d hd e => ?_) q4]
    · exact h2 q q1 q2 q3 q4
    · rcases h3 d hd with w | w
      · exact q3 d hd (e.trans w)
      · omega
  · rcases g3 d hd with w | w
    · rcases h3 d hd with v | v
      · exact Or.inl (w.trans v)
      · exact Or.inr (by omega)
    · exact Or.inr (by omega)
theorem bw_Sx.put {E : Nat → Prop} {D : List Nat} {σ τ : en_S} {S : Nat → en_B} {a : Nat} (hf : ∀ q, q ≠ a → look τ q = look σ q) (ha : E a) (e1 : τ.1 = σ.1) (e2 : τ.2.1 = σ.2.1) : bw_Sx E D σ S τ S :=
  ⟨by omega, fun q _ _ _ q4 => hf q (fun e => q4 (e ▸ ha)), fun _ _ => Or.inl rfl, by omega, by omega⟩
theorem bw_Sx.mono {E F : Nat → Prop} {D : List Nat} {σ τ : en_S} {S T : Nat → en_B} (h : bw_Sx E D σ S τ T) (g : ∀ q, E q → F q) : bw_Sx F D σ S τ T := ⟨h.1, fun q q1 q2 q3 q4 => h.2.1 q q1 q2 q3 (fun e => q4 (g q e)), h.2.2⟩
theorem bw_othx {E : Nat → Prop} {X : en_X} {D : List Nat} {σ τ : en_S} {S T : Nat → en_B} {a : Nat} {en : va_E} (s : bw_Sx E D σ S τ T) (h : bw_R X D σ S) (hq : a < σ.1) (hE : ¬ E a) (hl : look σ a = some en) (h1 : ∀ l, en ≠ .inr (1, l)) (h2 : ∀ n d, en ≠ ar X n d) : look τ a = some en := by
  obtain ⟨g1, g2⟩ := bw_no h hl h1 h2
  rw [s.2.1 a hq g1 g2 hE]; exact hl
theorem eO.x {E : Nat → Prop} {X : en_X} {σ τ : en_S} {z : Nat → Nat} {D : List Nat} {S T : Nat → en_B} {e bn se : Nat} (h : eO σ z e bn se) (s : bw_Sx E D σ S τ T) (w : bw_R X D σ S) (h1 : ¬ E e) (h2 : ¬ E bn) : eO τ z e bn se :=
  ⟨bw_othx s w h.2.1 h1 h.1 (fun l e => by cases e) (fun n d e => by cases e), Nat.lt_of_lt_of_le h.2.1 s.1, bw_othx s w h.2.2.2 h2 h.2.2.1 (fun l e => by cases e) (fun n d e => by cases e), Nat.lt_of_lt_of_le h.2.2.2 s.1⟩
theorem sO.x {E : Nat → Prop} {X : en_X} {σ τ : en_S} {z : Nat → Nat} {D : List Nat} {S T : Nat → en_B} {se : Nat} (h : sO σ z se) (s : bw_Sx E D σ S τ T) (w : bw_R X D σ S) (h1 : ¬ E se) : sO τ z se :=
  ⟨bw_othx s w h.2 h1 h.1 (fun l e => by cases e) (fun n d e => by cases e), Nat.lt_of_lt_of_le h.2 s.1⟩
def serD (kd : Nat) (a b : Int) (pl : Nat) : Int := if kd = 4 then ((powS a b.toNat pl).1 : Int) - ((powS a b.toNat pl).2 : Int) else ((tanS a.toNat (decide (kd = 2)) pl).1 : Int) - ((tanS a.toNat (decide (kd = 2)) pl).2 : Int)
def rfGo (D : Nat → Int) (p : Nat) : Nat → Nat → Int
  | 0, g => shr (D (p + g) - 1000000) g (-1)
  | n + 1, g => if shr (D (p + g) + 1000000) g (-1) = shr (D (p + g) - 1000000) g (-1) then shr (D (p + g) - 1000000) g (-1) else rfGo D p n (2 * g)
def rfl' (kd : Nat) (a b : Int) (p : Nat) : Int := rfGo (serD kd a b) p 5 12
def serOk (kd : Nat) (a b : Int) : Prop := (kd = 4 ∧ 1 ≤ b ∧ b ≤ 1000 ∧ a.natAbs ≤ 5 * b.toNat) ∨ ((kd = 2 ∨ kd = 3) ∧ 2 ≤ a ∧ a ≤ 100000)
theorem cmp0 {x y : Int} : cmpI x y = 0 ↔ x = y := by
  unfold cmpI
  constructor
  · intro h
    split at h
    · exact absurd h (by decide)
    · split at h
      · assumption
      · exact absurd h (by decide)
  · intro h
    rw [if_neg (by omega), if_pos h]
section refi
variable {X : en_X} {z : Nat → Nat} {N : Nat} {se v l kd p fa : Nat} {a b : Int} {f s at' op : Int32}
theorem G_ser {σ : en_S} {S : Nat → en_B} {U : Nat → Int} {g : Nat} {Q : Option Value → en_S → Prop} {ρ : en_S} {lv : List (Nat × Value)} (hlv : lv = [(0, .ref se), (1, .ref v), (2, .int (nI p)), (3, .int (nI g))] ∨ ∃ i, lv = [(4, .int (nI i)), (0, .ref se), (1, .ref v), (2, .int (nI p)), (3, .int (nI g))]) (h : zW X z N σ S U) (hs : sO σ z se) (hv : vO σ z v l (nI kd) a b f s at' op (nI fa)) (hok : serOk kd a b) (hN : 15 ≤ N) (hpg : p + g ≤ 870) (u2 : U 12 = 0) (u3 : U 13 = 0)
    (k : ∀ σ' S' U', zW X z N σ' S' U' → U' 12 - U' 13 = serD kd a b (p + g) → (U' 12).natAbs ≤ 10 ^ 878 → (U' 13).natAbs ≤ 10 ^ 878 → (∀ j, j < 10 ∨ 14 ≤ j → U' j = U j) → bw_St (zD z N) σ S σ' S' → WA X M_X4_refine ρ 95 lv [] σ' Q) :
    WA X M_X4_refine ρ 45 lv [] σ Q := by
  obtain ⟨s1, s2⟩ := hs
  have hp : 10 ^ 874 ≤ 10 ^ 878 := Nat.pow_le_pow_right (by decide) (by decide)
  have main : ∀ i', lv = [(0, .ref se), (1, .ref v), (2, .int (nI p)), (3, .int (nI g))] ∨ lv = [(4, .int (nI i')), (0, .ref se), (1, .ref v), (2, .int (nI p)), (3, .int (nI g))] → WA X M_X4_refine ρ 45 lv [] σ Q := by
    intro i' hl
    rcases hok with ⟨rfl, hb, hb2, ha⟩ | ⟨hk, ha, ha2⟩
    · have eb : b = (b.toNat : Int) := by omega
      rw [eb] at hv
      have hD : ∀ pl, serD 4 a b pl = ((powS a b.toNat pl).1 : Int) - ((powS a b.toNat pl).2 : Int) := fun pl => if_pos rfl
      rcases hl with hl | hl <;> subst hl
      all_goals
        refine wa_aload_n q_X4_refine_45 rfl ?_
        refine wa_getf q_X4_refine_46 f_RX4_45 (by assumption) rfl ?_
        refine wa_iconst q_X4_refine_49 (v := nI 4) (by decide) ?_
        refine wn_icmp_ne q_X4_refine_50 (by decide) (by decide) (fun hx => absurd rfl hx) (fun _ => ?_)
        refine wa_aload_n q_X4_refine_53 rfl ?_
        refine wa_aload_n q_X4_refine_54 rfl ?_
        refine wa_getf q_X4_refine_55 f_RX4_48 (by assumption) rfl ?_
        refine wa_aload_n q_X4_refine_58 rfl ?_
        refine wa_getf q_X4_refine_59 f_RX4_52 (by assumption) rfl ?_
        refine wa_iload_n q_X4_refine_62 rfl ?_
        refine wa_iload_n q_X4_refine_63 rfl ?_
        refine wn_iadd q_X4_refine_64 ?_
        rw [← lN_lZ]
        refine wa_callV q_X4_refine_65 g_X4_refine_65 w_X4_sumPower (by assumption) rfl (av := [_, _, _]) rfl rfl (lk rfl) (Calls.mono (G_pow h ⟨s1, s2⟩ hN (b := b.toNat) (by omega) (by omega) ha hpg u2 u3) ?_)
        rintro _ σ1 ⟨rfl, S1, U1, w1, x1, x2, x3, x4, x5, t1⟩
        refine wa_goto q_X4_refine_68 ?_
        exact k σ1 S1 U1 w1 (by rw [hD, x1, x2]) (by rw [x1]; exact x3) (by rw [x2]; exact x4) x5 t1
    · have ea : a = (a.toNat : Int) := by omega
      have hD : ∀ pl, serD kd a b pl = ((tanS a.toNat (decide (kd = 2)) pl).1 : Int) - ((tanS a.toNat (decide (kd = 2)) pl).2 : Int) := fun pl => if_neg (by omega)
      rw [ea] at hv
      rcases hl with hl | hl <;> subst hl
      all_goals
        refine wa_aload_n q_X4_refine_45 rfl ?_
        refine wa_getf q_X4_refine_46 f_RX4_45 (by assumption) rfl ?_
        refine wa_iconst q_X4_refine_49 (v := nI 4) (by decide) ?_
        refine wn_icmp_ne q_X4_refine_50 (by omega) (by decide) (fun _ => ?_) (fun hx => by omega)
        refine wa_aload_n q_X4_refine_71 rfl ?_
        refine wa_aload_n q_X4_refine_72 rfl ?_
        refine wa_getf q_X4_refine_73 f_RX4_48 (by assumption) rfl ?_
        refine wa_aload_n q_X4_refine_76 rfl ?_
        refine wa_getf q_X4_refine_77 f_RX4_45 (by assumption) rfl ?_
        refine wa_iconst q_X4_refine_80 (v := nI 2) (by decide) ?_
        rw [← lN_lZ]
        refine wn_icmp_ne q_X4_refine_81 (by omega) (by decide) (fun hx => ?_) (fun hx => ?_)
        · refine wa_iconst q_X4_refine_88 (v := nI 0) (by decide) ?_
          refine wa_iload_n q_X4_refine_89 rfl ?_
          refine wa_iload_n q_X4_refine_90 rfl ?_
          refine wn_iadd q_X4_refine_91 ?_
          have hG := G_tan h ⟨s1, s2⟩ hN (x := a.toNat) (alt := false) (pl := p + g) (by omega) (by omega) hpg u2 u3
          refine wa_callV q_X4_refine_92 g_X4_refine_92 w_X4_sumTangent (by assumption) rfl (av := [_, _, _]) rfl rfl (lk rfl) (Calls.mono hG ?_)
          rintro _ σ1 ⟨rfl, S1, U1, w1, x1, x2, x3, x4, x5, t1⟩
          exact k σ1 S1 U1 w1 (by rw [hD, x1, x2, show decide (kd = 2) = false from decide_eq_false hx]) (by rw [x1]; exact Nat.le_trans x3 hp) (by rw [x2]; exact Nat.le_trans x4 hp) x5 t1
        · refine wa_iconst q_X4_refine_84 (v := nI 1) (by decide) ?_
          refine wa_goto q_X4_refine_85 ?_
          refine wa_iload_n q_X4_refine_89 rfl ?_
          refine wa_iload_n q_X4_refine_90 rfl ?_
          refine wn_iadd q_X4_refine_91 ?_
          have hG := G_tan h ⟨s1, s2⟩ hN (x := a.toNat) (alt := true) (pl := p + g) (by omega) (by omega) hpg u2 u3
          refine wa_callV q_X4_refine_92 g_X4_refine_92 w_X4_sumTangent (by assumption) rfl (av := [_, _, _]) rfl rfl (lk rfl) (Calls.mono hG ?_)
          rintro _ σ1 ⟨rfl, S1, U1, w1, x1, x2, x3, x4, x5, t1⟩
          exact k σ1 S1 U1 w1 (by rw [hD, x1, x2, show decide (kd = 2) = true from decide_eq_true hx]) (by rw [x1]; exact Nat.le_trans x3 hp) (by rw [x2]; exact Nat.le_trans x4 hp) x5 t1
  rcases hlv with q | ⟨i, q⟩
  · exact main 0 (Or.inl q)
  · exact main i (Or.inr q)
theorem pg2 {i : Nat} (h : i ≤ 5) : 12 * 2 ^ i ≤ 384 := by
  have : i = 0 ∨ i = 1 ∨ i = 2 ∨ i = 3 ∨ i = 4 ∨ i = 5 := by omega
  rcases this with q | q | q | q | q | q <;> subst q <;> decide
set_option maxHeartbeats 1000000 in
theorem rf_body {ρ σ : en_S} {S : Nat → en_B} {U : Nat → Int} {Q : Option Value → en_S → Prop} {i g : Nat} (hok : serOk kd a b) (h15 : 15 ≤ l) (hN : l + 3 ≤ N) (hp : p ≤ 480) (hfa : fa < p) (hE : se ≠ v) (hi : i ≤ 5) (hg : g = 12 * 2 ^ i) (h : zW X z N σ S U) (hs : sO σ z se) (hv : vO σ z v l (nI kd) a b f s at' op (nI fa)) (hvl : v < σ.1) (u4 : U 14 = 1000000)
    (kd1 : (shr (serD kd a b (p + g) + 1000000) g (-1) = shr (serD kd a b (p + g) - 1000000) g (-1) ∨ i = 5) → ∀ σ' S' U', zW X z N σ' S' U' → vO σ' z v l (nI kd) a b f s at' op (nI p) → U' (l + 2) = shr (serD kd a b (p + g) - 1000000) g (-1) → (U' (l + 2)).natAbs < BB ^ 200 → (∀ j, j < 10 ∨ 15 ≤ j → j ≠ l + 2 → U' j = U j) → bw_Sx (fun q => q = v) (zD z N) σ S σ' S' → Q none σ')
    (kn : ¬ shr (serD kd a b (p + g) + 1000000) g (-1) = shr (serD kd a b (p + g) - 1000000) g (-1) → i ≠ 5 → ∀ σ' S' U', zW X z N σ' S' U' → sO σ' z se → vO σ' z v l (nI kd) a b f s at' op (nI fa) → v < σ'.1 → U' 14 = 1000000 → (∀ j, j < 10 ∨ 15 ≤ j → j ≠ l + 2 → U' j = U j) → bw_St (zD z N) σ S σ' S' → WA X M_X4_refine ρ 16 [(4, .int (nI (i + 1))), (0, .ref se), (1, .ref v), (2, .int (nI p)), (3, .int (nI (2 * g)))] [] σ' Q) :
    WA X M_X4_refine ρ 16 [(4, .int (nI i)), (0, .ref se), (1, .ref v), (2, .int (nI p)), (3, .int (nI g))] [] σ Q := by
  have hb1 : 10 ^ 878 ≤ BB ^ 98 := Nat.le_trans (Nat.pow_le_pow_right (by decide) (by decide)) lb_1
  have hb2 : BB ^ 98 + BB ^ 98 + 2000000 < BB ^ 100 := by
    have q0 : BB ^ 98 + BB ^ 98 + 2000000 ≤ BB ^ 99 := by
      rw [Nat.pow_succ]
      have q : 1 ≤ BB ^ 98 := Nat.pow_pos (by decide)
      have hB : BB = 1000000000 := rfl
      generalize BB ^ 98 = K at *
      rw [hB]
      omega
    exact Nat.lt_of_le_of_lt q0 ((Nat.pow_lt_pow_iff_right (by decide)).mpr (by decide))
  have hb3 : BB ^ 100 < BB ^ 200 := (Nat.pow_lt_pow_iff_right (by decide)).mpr (by decide)
  have hb4 : BB ^ 200 < BB ^ 250 := (Nat.pow_lt_pow_iff_right (by decide)).mpr (by decide)
  have hg2 : g ≤ 384 := by rw [hg]; exact pg2 hi
  have e6 : (1000000 : Int).natAbs = 1000000 := by decide
  have hb6 : (1000000 : Int).natAbs < BB ^ 250 := by rw [e6]; exact Nat.lt_of_lt_of_le (show 1000000 < BB ^ 1 by decide) (pw_mono (by decide))
  obtain ⟨s1, s2⟩ := hs
  have i1 := h.big (i := 12) (by omega)
  refine wa_iload q_X4_refine_16 rfl ?_
  refine wa_bipush q_X4_refine_18 (v := nI 6) (by decide) ?_
  refine wn_icmp_ge q_X4_refine_20 (by omega) (by omega) (fun hc => ?_) (fun hc => ?_)
  · omega
  refine wa_aload_n q_X4_refine_23 rfl ?_
  refine wa_getf q_X4_refine_24 f_RX4_36 (by assumption) rfl ?_
  refine wa_iload_n q_X4_refine_27 rfl ?_
  refine wn_icmp_ge q_X4_refine_28 (by omega) (by omega) (fun hc => ?_) (fun hc => ?_)
  · omega
  refine wa_aload_n q_X4_refine_31 rfl ?_
  refine wa_getf q_X4_refine_32 f_RX4_21 (by assumption) rfl ?_
  refine wa_callV q_X4_refine_35 g_X4_refine_35 w_X1_clear (by assumption) rfl (av := []) rfl rfl (lk rfl) (Calls.mono (Z_clear h (i := 12) (by omega)) ?_)
  rintro _ σ1 ⟨rfl, S1, w1, t1⟩
  obtain ⟨s1, s2⟩ := sO.st ⟨s1, s2⟩ t1 h.R
  have hv := bw_obj t1 h.R hvl hv (by decide)
  have hvl := Nat.lt_of_lt_of_le hvl t1.1
  have i2 := w1.big (i := 13) (by omega)
  refine wa_aload_n q_X4_refine_38 rfl ?_
  refine wa_getf q_X4_refine_39 f_RX4_24 (by assumption) rfl ?_
  refine wa_callV q_X4_refine_42 g_X4_refine_42 w_X1_clear (by assumption) rfl (av := []) rfl rfl (lk rfl) (Calls.mono (Z_clear w1 (i := 13) (by omega)) ?_)
  rintro _ σ2 ⟨rfl, S2, w2, t2⟩
  have hs := sO.st ⟨s1, s2⟩ t2 w1.R
  have hv := bw_obj t2 w1.R hvl hv (by decide)
  have hvl := Nat.lt_of_lt_of_le hvl t2.1
  refine wa_lv (lv' := [(4, .int (nI i)), (0, .ref se), (1, .ref v), (2, .int (nI p)), (3, .int (nI g))]) ?_ rfl
  refine G_ser (Or.inr ⟨i, rfl⟩) w2 hs hv hok (by omega) (by omega) (by rw [uV_n (by decide), uV_s]) uV_s (fun σ3 S3 U3 w3 x1 x2 x3 x4 t3 => ?_)
  have hs := hs.st t3 w2.R
  have hv := bw_obj t3 w2.R hvl hv (by decide)
  have hvl := Nat.lt_of_lt_of_le hvl t3.1
  have y3 : ∀ j, j < 10 ∨ 14 ≤ j → U3 j = U j := fun j hj => by rw [x4 j hj, uV_n (by omega), uV_n (by omega)]
  generalize hD : serD kd a b (p + g) = Dv at *
  have hDb : Dv.natAbs ≤ BB ^ 98 + BB ^ 98 := by omega
  have sA := t1.tr (t2.tr t3)
  clear x4
  obtain ⟨s1, s2⟩ := hs
  have i3 := w3.big (i := 12) (by omega)
  refine wa_aload_n q_X4_refine_95 rfl ?_
  refine wa_getf q_X4_refine_96 f_RX4_21 (by assumption) rfl ?_
  refine wa_aload_n q_X4_refine_99 rfl ?_
  refine wa_getf q_X4_refine_100 f_RX4_24 (by assumption) rfl ?_
  refine wa_callV q_X4_refine_103 g_X4_refine_103 w_X1_subtract (by assumption) rfl (av := [_]) rfl rfl (lk rfl) (Calls.mono (Z_sub w3 (i := 12) (j := 13) (by omega) (by omega) (by decide) (by omega) (by omega)) ?_)
  rintro _ σ4 ⟨rfl, S4, w4, t4⟩
  rw [x1] at w4
  obtain ⟨s1, s2⟩ := sO.st ⟨s1, s2⟩ t4 w3.R
  have hv := bw_obj t4 w3.R hvl hv (by decide)
  have hvl := Nat.lt_of_lt_of_le hvl t4.1
  have i4 := w4.big (i := l + 2) (by omega)
  refine wa_aload_n q_X4_refine_106 rfl ?_
  refine wa_getf q_X4_refine_107 f_RX4_67 (by assumption) rfl ?_
  refine wa_aload_n q_X4_refine_110 rfl ?_
  refine wa_getf q_X4_refine_111 f_RX4_21 (by assumption) rfl ?_
  refine wa_callV q_X4_refine_114 g_X4_refine_114 w_X1_copy (by assumption) rfl (av := [_]) rfl rfl (lk rfl) (Calls.mono (Z_copy w4 (i := l + 2) (j := 12) (by omega) (by omega) (by omega) (by rw [uV_s]; omega)) ?_)
  rintro _ σ5 ⟨rfl, S5, w5, t5⟩
  rw [uV_s] at w5
  obtain ⟨s1, s2⟩ := sO.st ⟨s1, s2⟩ t5 w4.R
  have hv := bw_obj t5 w4.R hvl hv (by decide)
  have hvl := Nat.lt_of_lt_of_le hvl t5.1
  have i5 := w5.big (i := l + 2) (by omega)
  have e14 : uV (uV U3 12 Dv) (l + 2) Dv 14 = 1000000 := by rw [uV_n (by omega), uV_n (by omega), y3 14 (by omega)]; exact u4
  refine wa_aload_n q_X4_refine_117 rfl ?_
  refine wa_getf q_X4_refine_118 f_RX4_67 (by assumption) rfl ?_
  refine wa_aload_n q_X4_refine_121 rfl ?_
  refine wa_getf q_X4_refine_122 f_RX4_27 (by assumption) rfl ?_
  refine wa_callV q_X4_refine_125 g_X4_refine_125 w_X1_subtract (by assumption) rfl (av := [_]) rfl rfl (lk rfl) (Calls.mono (Z_sub w5 (i := l + 2) (j := 14) (by omega) (by omega) (by omega) (by rw [uV_s]; omega) (by rw [e14]; exact hb6)) ?_)
  rintro _ σ6 ⟨rfl, S6, w6, t6⟩
  rw [uV_s, e14] at w6
  obtain ⟨s1, s2⟩ := sO.st ⟨s1, s2⟩ t6 w5.R
  have hv := bw_obj t6 w5.R hvl hv (by decide)
  have hvl := Nat.lt_of_lt_of_le hvl t6.1
  have i6 := w6.big (i := l + 2) (by omega)
  refine wa_aload_n q_X4_refine_128 rfl ?_
  refine wa_getf q_X4_refine_129 f_RX4_67 (by assumption) rfl ?_
  refine wa_iload_n q_X4_refine_132 rfl ?_
  refine wa_iconst q_X4_refine_133 (v := sgI (-1)) (by decide) ?_
  refine wa_callV q_X4_refine_134 g_X4_refine_134 w_X1_shrink (by assumption) rfl (av := [_, _]) rfl rfl (lk rfl) (Calls.mono (Z_shrink w6 (i := l + 2) (by omega) (by omega) (Or.inr rfl) (by rw [uV_s]; omega)) ?_)
  rintro _ σ7 ⟨rfl, S7, w7, t7⟩
  rw [uV_s] at w7
  obtain ⟨s1, s2⟩ := sO.st ⟨s1, s2⟩ t7 w6.R
  have hv := bw_obj t7 w6.R hvl hv (by decide)
  have hvl := Nat.lt_of_lt_of_le hvl t7.1
  obtain ⟨U7, hU7⟩ : ∃ U7, U7 = uV (uV (uV (uV U3 12 Dv) (l + 2) Dv) (l + 2) (Dv - 1000000)) (l + 2) (shr (Dv - 1000000) g (-1)) := ⟨_, rfl⟩
  rw [← hU7] at w7
  have z1 : U7 12 = Dv := by rw [hU7, uV_n (by omega), uV_n (by omega), uV_n (by omega), uV_s]
  have z2 : U7 (l + 2) = shr (Dv - 1000000) g (-1) := by rw [hU7, uV_s]
  have z3 : ∀ j, j < 10 ∨ 14 ≤ j → j ≠ l + 2 → U7 j = U j := fun j hj hj2 => by rw [hU7, uV_n hj2, uV_n hj2, uV_n hj2, uV_n (by omega), y3 j hj]
  clear hU7
  have z4 : U7 14 = 1000000 := by rw [z3 14 (by omega) (by omega)]; exact u4
  have hb5 : (shr (Dv - 1000000) g (-1)).natAbs < BB ^ 100 := Nat.lt_of_le_of_lt (shr_abs _ _ _) (by omega)
  have sB := sA.tr (t4.tr (t5.tr (t6.tr t7)))
  have i7 := w7.big (i := 12) (by omega)
  refine wa_aload_n q_X4_refine_137 rfl ?_
  refine wa_getf q_X4_refine_138 f_RX4_21 (by assumption) rfl ?_
  refine wa_aload_n q_X4_refine_141 rfl ?_
  refine wa_getf q_X4_refine_142 f_RX4_27 (by assumption) rfl ?_
  refine wa_callV q_X4_refine_145 g_X4_refine_145 w_X1_add (by assumption) rfl (av := [_]) rfl rfl (lk rfl) (Calls.mono (Z_add w7 (i := 12) (j := 14) (by omega) (by omega) (by decide) (by rw [z1]; omega) (by rw [z4]; exact hb6)) ?_)
  rintro _ σ8 ⟨rfl, S8, w8, t8⟩
  rw [z1, z4] at w8
  obtain ⟨s1, s2⟩ := sO.st ⟨s1, s2⟩ t8 w7.R
  have hv := bw_obj t8 w7.R hvl hv (by decide)
  have hvl := Nat.lt_of_lt_of_le hvl t8.1
  have i8 := w8.big (i := 12) (by omega)
  refine wa_aload_n q_X4_refine_148 rfl ?_
  refine wa_getf q_X4_refine_149 f_RX4_21 (by assumption) rfl ?_
  refine wa_iload_n q_X4_refine_152 rfl ?_
  refine wa_iconst q_X4_refine_153 (v := sgI (-1)) (by decide) ?_
  refine wa_callV q_X4_refine_154 g_X4_refine_154 w_X1_shrink (by assumption) rfl (av := [_, _]) rfl rfl (lk rfl) (Calls.mono (Z_shrink w8 (i := 12) (by omega) (by omega) (Or.inr rfl) (by rw [uV_s]; omega)) ?_)
  rintro _ σ9 ⟨rfl, S9, w9, t9⟩
  rw [uV_s] at w9
  have hs9 := sO.st ⟨s1, s2⟩ t9 w8.R
  obtain ⟨s1, s2⟩ := hs9
  have hv := bw_obj t9 w8.R hvl hv (by decide)
  have hvl := Nat.lt_of_lt_of_le hvl t9.1
  obtain ⟨U9, hU9⟩ : ∃ U9, U9 = uV (uV U7 12 (Dv + 1000000)) 12 (shr (Dv + 1000000) g (-1)) := ⟨_, rfl⟩
  rw [← hU9] at w9
  have v1 : U9 12 = shr (Dv + 1000000) g (-1) := by rw [hU9, uV_s]
  have v2 : U9 (l + 2) = shr (Dv - 1000000) g (-1) := by rw [hU9, uV_n (by omega), uV_n (by omega), z2]
  have v3 : ∀ j, j < 10 ∨ 14 ≤ j → j ≠ l + 2 → U9 j = U j := fun j hj hj2 => by rw [hU9, uV_n (by omega), uV_n (by omega), z3 j hj hj2]
  clear hU9
  have sC := sB.tr (t8.tr t9)
  have i9 := w9.big (i := 12) (by omega)
  -- settled: fineAt is set, the loop ends
  have done : (shr (Dv + 1000000) g (-1) = shr (Dv - 1000000) g (-1) ∨ i = 5) → WA X M_X4_refine ρ 177 [(4, .int (nI i)), (0, .ref se), (1, .ref v), (2, .int (nI p)), (3, .int (nI g))] [] σ9 Q := by
    intro hd
    refine wa_aload_n q_X4_refine_177 rfl ?_
    refine wa_iload_n q_X4_refine_178 rfl ?_
    refine wn_putf q_X4_refine_179 p_RX4_36 (by assumption) (lk rfl) rfl rfl rfl (fun σ_p1 p1 f_p1 e1_p1 e2_p1 => ?_)
    have w10 := w9.ext f_p1 hv (by decide) e1_p1
    have fin := kd1 hd σ_p1 S9 U9 w10 p1 v2 (by rw [v2]; omega) (fun j hj hj2 => v3 j (by omega) hj2) (sC.x.tr (bw_Sx.put f_p1 rfl e1_p1 e2_p1))
    refine wa_iload_n q_X4_refine_182 rfl ?_
    refine wa_iconst q_X4_refine_183 (v := nI 2) (by decide) ?_
    refine wn_imul q_X4_refine_184 ?_
    refine wa_istore_n q_X4_refine_185 (by decide) ?_
    refine wn_iinc q_X4_refine_186 rfl (by decide) ?_
    refine wa_goto q_X4_refine_189 ?_
    refine wa_iload q_X4_refine_16 rfl ?_
    refine wa_bipush q_X4_refine_18 (v := nI 6) (by decide) ?_
    refine wn_icmp_ge q_X4_refine_20 (by omega) (by omega) (fun hc => ?_) (fun hc => ?_)
    · refine wa_vret q_X4_refine_192 rfl ?_
      exact fin
    · refine wa_aload_n q_X4_refine_23 rfl ?_
      refine wa_getf q_X4_refine_24 f_RX4_36 (by assumption) rfl ?_
      refine wa_iload_n q_X4_refine_27 rfl ?_
      refine wn_icmp_ge q_X4_refine_28 (by omega) (by omega) (fun hc => ?_) (fun hc => ?_)
      · refine wa_vret q_X4_refine_192 rfl ?_
        exact fin
      · omega
  refine wa_aload_n q_X4_refine_157 rfl ?_
  refine wa_getf q_X4_refine_158 f_RX4_21 (by assumption) rfl ?_
  refine wa_aload_n q_X4_refine_161 rfl ?_
  refine wa_getf q_X4_refine_162 f_RX4_67 (by assumption) rfl ?_
  refine wa_callV q_X4_refine_165 g_X4_refine_165 w_X1_compare (by assumption) rfl (av := [_]) rfl rfl (lk rfl) (Calls.mono (Z_cmp w9 (i := 12) (j := l + 2) (by omega) (by omega)) ?_)
  rintro _ _ ⟨rfl, rfl⟩
  rw [v1, v2]
  refine wa_if_eq q_X4_refine_168 (fun hx => ?_) (fun hx => ?_)
  · exact wa_lv (done (Or.inl (cmp0.mp hx))) rfl
  · refine wa_iload q_X4_refine_171 rfl ?_
    refine wa_iconst q_X4_refine_173 (v := nI 5) (by decide) ?_
    refine wn_icmp_ne q_X4_refine_174 (by omega) (by decide) (fun hy => ?_) (fun hy => ?_)
    · refine wa_iload_n q_X4_refine_182 rfl ?_
      refine wa_iconst q_X4_refine_183 (v := nI 2) (by decide) ?_
      refine wn_imul q_X4_refine_184 ?_
      refine wa_istore_n q_X4_refine_185 (by decide) ?_
      refine wn_iinc q_X4_refine_186 rfl (by decide) ?_
      refine wa_goto q_X4_refine_189 ?_
      have e2 : g * 2 = 2 * g := Nat.mul_comm _ _
      rw [e2]
      exact wa_lv (kn (fun q => hx (cmp0.mpr q)) hy _ S9 U9 w9 ⟨s1, s2⟩ hv hvl (by rw [v3 14 (by omega) (by omega)]; exact u4) (fun j hj hj2 => v3 j (by omega) hj2) sC) rfl
    · exact wa_lv (done (Or.inr hy)) rfl
theorem rf_loop {ρ σ0 : en_S} {S0 : Nat → en_B} {U0 : Nat → Int} {Q : Option Value → en_S → Prop} (hok : serOk kd a b) (h15 : 15 ≤ l) (hN : l + 3 ≤ N) (hp : p ≤ 480) (hfa : fa < p) (hE : se ≠ v) :
    ∀ (n i g : Nat) (σ : en_S) (S : Nat → en_B) (U : Nat → Int), n + i = 5 → g = 12 * 2 ^ i → zW X z N σ S U → sO σ z se → vO σ z v l (nI kd) a b f s at' op (nI fa) → v < σ.1 → U 14 = 1000000 → (∀ j, j < 10 ∨ 15 ≤ j → j ≠ l + 2 → U j = U0 j) → bw_St (zD z N) σ0 S0 σ S →
      (∀ σ' S' U', zW X z N σ' S' U' → vO σ' z v l (nI kd) a b f s at' op (nI p) → U' (l + 2) = rfGo (serD kd a b) p n g → (U' (l + 2)).natAbs < BB ^ 200 → (∀ j, j < 10 ∨ 15 ≤ j → j ≠ l + 2 → U' j = U0 j) → bw_Sx (fun q => q = v) (zD z N) σ0 S0 σ' S' → Q none σ') →
      WA X M_X4_refine ρ 16 [(4, .int (nI i)), (0, .ref se), (1, .ref v), (2, .int (nI p)), (3, .int (nI g))] [] σ Q := by
  intro n
  induction n with
  | zero =>
    intro i g σ S U hni hg h hs hv hvl u4 hfr hst k
    refine rf_body hok h15 hN hp hfa hE (by omega) hg h hs hv hvl u4 (fun _ σ' S' U' c1 c2 c3 c4 c5 c6 => ?_) (fun _ q => absurd (by omega) q)
    exact k σ' S' U' c1 c2 c3 c4 (fun j hj hj2 => (c5 j hj hj2).trans (hfr j hj hj2)) (hst.x.tr c6)
  | succ n ih =>
    intro i g σ S U hni hg h hs hv hvl u4 hfr hst k
    refine rf_body hok h15 hN hp hfa hE (by omega) hg h hs hv hvl u4 (fun hd σ' S' U' c1 c2 c3 c4 c5 c6 => ?_) (fun hne hi4 σ' S' U' c1 c2 c3 c4 c5 c6 c7 => ?_)
    · refine k σ' S' U' c1 c2 ?_ c4 (fun j hj hj2 => (c5 j hj hj2).trans (hfr j hj hj2)) (hst.x.tr c6)
      rw [c3]
      exact (if_pos (hd.resolve_right (by omega))).symm
    · refine ih (i + 1) (2 * g) σ' S' U' (by omega) (by rw [hg, Nat.pow_succ]; omega) c1 c2 c3 c4 c5 (fun j hj hj2 => (c6 j hj hj2).trans (hfr j hj hj2)) (hst.tr c7) (fun σ2 S2 U2 d1 d2 d3 d4 d5 d6 => k σ2 S2 U2 d1 d2 (d3.trans (if_neg hne).symm) d4 d5 d6)
theorem G_refine {σ : en_S} {S : Nat → en_B} {U : Nat → Int} (h : zW X z N σ S U) (hs : sO σ z se) (hv : vO σ z v l (nI kd) a b f s at' op (nI fa)) (hvl : v < σ.1) (hok : serOk kd a b) (h15 : 15 ≤ l) (hN : l + 3 ≤ N) (hp : p ≤ 480) (hfa : fa ≤ 480) :
    Calls X M_X4_refine [.ref se, .ref v, .int (nI p)] σ (fun res τ => res = none ∧ ∃ S' U' q, zW X z N τ S' U' ∧ vO τ z v l (nI kd) a b f s at' op (nI q) ∧ ((p ≤ fa ∧ q = fa ∧ U' (l + 2) = U (l + 2)) ∨ (fa < p ∧ q = p ∧ U' (l + 2) = rfl' kd a b p ∧ (U' (l + 2)).natAbs < BB ^ 200)) ∧ (∀ j, j < 10 ∨ 15 ≤ j → j ≠ l + 2 → U' j = U j) ∧ bw_Sx (fun q => q = v) (zD z N) σ S τ S') := by
  obtain ⟨s1, s2⟩ := hs
  have hE : se ≠ v := fun e => by rw [e, hv] at s1; cases s1
  have i1 := h.big (i := 14) (by omega)
  refine Calls.of rfl (lk rfl) ?_
  refine wa_bipush q_X4_refine_0 (v := nI 12) (by decide) ?_
  refine wa_istore_n q_X4_refine_2 (by decide) ?_
  refine wa_aload_n q_X4_refine_3 rfl ?_
  refine wa_getf q_X4_refine_4 f_RX4_27 (by assumption) rfl ?_
  refine wa_ldc2 q_X4_refine_7 (v := lZ 1000000) k_RX4_30 ?_
  refine wa_callV q_X4_refine_10 g_X4_refine_10 w_X1_setLong (by assumption) rfl (av := [_]) rfl rfl (lk rfl) (Calls.mono (Z_setL h (i := 14) (by omega) (by decide) (by decide)) ?_)
  rintro _ σ1 ⟨rfl, S1, w1, t1⟩
  have hs := sO.st ⟨s1, s2⟩ t1 h.R
  have hv := bw_obj t1 h.R hvl hv (by decide)
  have hvl := Nat.lt_of_lt_of_le hvl t1.1
  refine wa_iconst q_X4_refine_13 (v := nI 0) (by decide) ?_
  refine wa_istore q_X4_refine_14 (by decide) ?_
  by_cases hc : fa < p
  · exact wa_lv (rf_loop (σ0 := σ) (S0 := S) (U0 := U) hok h15 hN hp hc hE 5 0 12 σ1 S1 _ rfl rfl w1 hs hv hvl uV_s (fun j hj _ => uV_n (by omega)) t1 (fun σ' S' U' c1 c2 c3 c4 c5 c6 => ⟨rfl, S', U', p, c1, c2, Or.inr ⟨hc, rfl, c3, c4⟩, c5, c6⟩)) rfl
  · refine wa_iload q_X4_refine_16 rfl ?_
    refine wa_bipush q_X4_refine_18 (v := nI 6) (by decide) ?_
    refine wn_icmp_ge q_X4_refine_20 (by omega) (by omega) (fun hx => ?_) (fun hx => ?_)
    · omega
    refine wa_aload_n q_X4_refine_23 rfl ?_
    refine wa_getf q_X4_refine_24 f_RX4_36 (by assumption) rfl ?_
    refine wa_iload_n q_X4_refine_27 rfl ?_
    refine wn_icmp_ge q_X4_refine_28 (by omega) (by omega) (fun hx => ?_) (fun hx => ?_)
    · refine wa_vret q_X4_refine_192 rfl ?_
      exact ⟨rfl, S1, _, fa, w1, hv, Or.inl ⟨by omega, rfl, uV_n (by omega)⟩, fun j hj _ => uV_n (by omega), t1.x⟩
    · omega
end refi
