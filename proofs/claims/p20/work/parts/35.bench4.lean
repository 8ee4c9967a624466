/-! EnclosedDigits$Bench: the loop of divide -/
theorem uB_c {S : Nat → en_B} {a b : Nat} {x y : en_B} (h : a ≠ b) : uB (uB S a x) b y = uB (uB S b y) a x := by
  funext q; unfold uB
  by_cases h1 : q = a
  · subst h1; rw [if_neg h, if_pos rfl, if_pos rfl]
  · by_cases h2 : q = b
    · subst h2; rw [if_pos rfl, if_neg h1, if_pos rfl]
    · rw [if_neg h2, if_neg h1, if_neg h1, if_neg h2]
/-- n + 1 limbs from j on replaced -/
theorem vl_seg {d e : Nat → Nat} {m n j x V : Nat} (hm : n + j < m) (he : ∀ q, q < j ∨ j + n < q → e q = d q) (h0 : e (n + j) = 0) (hw : vl (fun i => e (j + i)) n + x * V = vl (fun i => d (j + i)) (n + 1)) : vl e m + x * V * BB ^ j = vl d m := by
  have s1 := vl_add d j (m - j)
  have s2 := vl_add e j (m - j)
  rw [Nat.add_sub_cancel' (by omega)] at s1 s2
  have s3 := vl_add (fun i => d (j + i)) (n + 1) (m - j - (n + 1))
  have s4 := vl_add (fun i => e (j + i)) (n + 1) (m - j - (n + 1))
  rw [Nat.add_sub_cancel' (by omega)] at s3 s4
  have c1 : vl e j = vl d j := vl_congr (fun i hi => he i (Or.inl hi))
  have c2 : vl (fun i => e (j + (n + 1 + i))) (m - j - (n + 1)) = vl (fun i => d (j + (n + 1 + i))) (m - j - (n + 1)) := vl_congr (fun i hi => he _ (Or.inr (by omega)))
  have c3 : vl (fun i => e (j + i)) (n + 1) = vl (fun i => e (j + i)) n := by
    show vl (fun i => e (j + i)) n + e (j + n) * BB ^ n = _
    rw [Nat.add_comm j n, h0, Nat.zero_mul, Nat.add_zero]
  rw [s1, s2, s3, s4, c1, c2, c3, ← hw]
  generalize vl (fun i => e (j + i)) n = A
  generalize vl (fun i => d (j + (n + 1 + i))) (m - j - (n + 1)) = B
  generalize vl d j = C
  generalize BB ^ j = P
  generalize BB ^ (n + 1) = R
  grind
section bench4
variable {X : en_X} {D : List Nat} {T0 : Nat → en_B}
theorem C_div_loop {ρ σ0 : en_S} {b0 dv ds pt bt rs q n m pl r1 n1 rq nq A sc : Nat} {sg1 sgq : Int32} {lv4 : Value} {Q : Option Value → en_S → Prop} (h1 : dv ∈ D) (h2 : ds ∈ D) (h3 : q ∈ D) (hne : dv ≠ ds) (hqv : q ≠ dv) (hqs : q ≠ ds) (hn : (T0 ds).2.2.1 = n) (hn2 : 2 ≤ n) (hmp : m = n + pl) (hv : ∀ i, i < n → (T0 ds).2.2.2.1 i < BB) (htop : BB ≤ 2 * (T0 ds).2.2.2.1 (n - 1)) (S0 : Nat → en_B)
    (k : ∀ (σ1 : en_S) (d1 qd : Nat → Nat), bw_R X D σ1 (uB (uB T0 dv (r1, n1, m, d1, sg1)) q (rq, nq, pl, qd, sgq)) → bw_St D σ0 S0 σ1 (uB (uB T0 dv (r1, n1, m, d1, sg1)) q (rq, nq, pl, qd, sgq)) → (∀ i, i < m → d1 i < BB) → (∀ i, i < pl → qd i < BB) → vl d1 m < vl (T0 ds).2.2.2.1 n → vl d1 m + vl (T0 ds).2.2.2.1 n * vl qd pl = A → look σ1 b0 = some (nE dv ds pt bt rs) → b0 < σ1.1 → WA X M_X0_divide ρ 215 [(6, .int (nI sc)), (4, lv4), (3, .ref q), (0, .ref b0)] [] σ1 Q) :
    ∀ (t : Nat) (σ : en_S) (d1 qd : Nat → Nat), t ≤ pl → bw_R X D σ (uB (uB T0 dv (r1, n1, m, d1, sg1)) q (rq, nq, pl, qd, sgq)) → bw_St D σ0 S0 σ (uB (uB T0 dv (r1, n1, m, d1, sg1)) q (rq, nq, pl, qd, sgq)) → (∀ i, i < m → d1 i < BB) → (∀ i, i < pl → qd i < BB) → (∀ i, n + t ≤ i → i < m → d1 i = 0) → vl (fun i => d1 (t + i)) n < vl (T0 ds).2.2.2.1 n → vl d1 m + vl (T0 ds).2.2.2.1 n * (BB ^ t * vl (fun i => qd (t + i)) (pl - t)) = A → look σ b0 = some (nE dv ds pt bt rs) → b0 < σ.1 →
      WA X M_X0_divide ρ 191 [(7, .int (iZ ((t : Int) - 1))), (6, .int (nI sc)), (4, lv4), (3, .ref q), (0, .ref b0)] [] σ Q := by
  have hB : BB = 1000000000 := rfl
  intro t
  induction t with
  | zero =>
    intro σ d1 qd ht w st hd hq hz hw hA hb hbl
    refine wa_iload q_X0_divide_191 rfl ?_
    refine wa_if_lt q_X0_divide_193 (fun hc => ?_) (fun hc => absurd (by decide) hc)
    have e1 : vl d1 m = vl d1 n := vl_pad (by omega) (fun i i1 i2 => hz i (by omega) i2)
    simp only [Nat.zero_add, Nat.pow_zero, Nat.one_mul, Nat.sub_zero] at hw hA
    exact wa_lv (k σ d1 qd w st hd hq (by rw [e1]; exact hw) hA hb hbl) rfl
  | succ t ih =>
    intro σ d1 qd ht w st hd hq hz hw hA hb hbl
    have e0 : iZ (((t + 1 : Nat) : Int) - 1) = nI t := by rw [nI_iZ]; congr 1; omega
    rw [e0]
    obtain ⟨q1, q2, q3, q4, q5, q6, q7⟩ := w.1 q h3
    rw [uB_s] at q1 q2 q3 q4 q5 q7
    have q1 : look σ q = some (bE sgq pl rq) := q1
    have q2 : look σ rq = some (ar X nq qd) := q2
    have q5 : nq ≤ 512 := q5
    have q3 : pl ≤ nq := q3
    have hSv : uB (uB T0 dv (r1, n1, m, d1, sg1)) q (rq, nq, pl, qd, sgq) dv = (r1, n1, m, d1, sg1) := by rw [uB_n (fun z => hqv z.symm), uB_s]
    have hSs : uB (uB T0 dv (r1, n1, m, d1, sg1)) q (rq, nq, pl, qd, sgq) ds = T0 ds := by rw [uB_n (fun z => hqs z.symm), uB_n (fun z => hne z.symm)]
    have hU : vl (fun i => d1 (t + i)) (n + 1) < vl (T0 ds).2.2.2.1 n * BB := by
      rw [vl_low]
      have c1 : vl (fun i => d1 (t + (i + 1))) n = vl (fun i => d1 (t + 1 + i)) n := vl_congr (fun i _ => by rw [show t + (i + 1) = t + 1 + i by omega])
      rw [c1]
      have c2 := hd t (by omega)
      have c3 : BB * (vl (fun i => d1 (t + 1 + i)) n + 1) ≤ BB * vl (T0 ds).2.2.2.1 n := Nat.mul_le_mul_left _ hw
      rw [Nat.mul_add, Nat.mul_one] at c3
      rw [Nat.mul_comm (vl (T0 ds).2.2.2.1 n)]
      show d1 (t + 0) + _ < _
      rw [Nat.add_zero]
      omega
    refine wa_iload q_X0_divide_191 rfl ?_
    refine wn_if_lt q_X0_divide_193 (by omega) (fun hc => ?_) (fun hc => ?_)
    · exact absurd hc id
    · refine wa_aload_n q_X0_divide_196 rfl ?_
      refine wa_getf q_X0_divide_197 f_RX0_69 (by assumption) rfl ?_
      refine wa_iload q_X0_divide_200 rfl ?_
      refine wa_aload_n q_X0_divide_202 rfl ?_
      refine wa_iload q_X0_divide_203 rfl ?_
      refine wa_callV q_X0_divide_205 g_X0_divide_205 w_X0_takeAway hb rfl (av := [_]) rfl rfl (lk rfl) (Calls.mono (C_take (n := n) (j := t) w hb hbl h1 h2 hne (by rw [hSs]; exact hn) hn2 (by rw [hSv]; show n + t < m; omega) (by rw [hSv]; exact hd) (by rw [hSs]; exact hv) (by rw [hSs]; exact htop) (by rw [hSv, hSs]; exact hU)) ?_)
      rintro _ σ1 ⟨rfl, d2, g1, g2, g3, g4, g5, g6⟩
      rw [hSv] at g1 g3 g4 g5 g6
      rw [hSs] at g3
      rw [hSv, hSs]
      have g1 : ∀ i, i < m → d2 i < BB := g1
      have g3 : vl (fun i => d2 (t + i)) n = vl (fun i => d1 (t + i)) (n + 1) % vl (T0 ds).2.2.2.1 n := g3
      have g4 : ∀ q, q < t ∨ t + n < q → d2 q = d1 q := g4
      have ec : uB (uB (uB T0 dv (r1, n1, m, d1, sg1)) q (rq, nq, pl, qd, sgq)) dv (r1, n1, m, d2, sg1) = uB (uB T0 dv (r1, n1, m, d2, sg1)) q (rq, nq, pl, qd, sgq) := by
        rw [uB_c hqv, uB_u]
      have g5 : bw_R X D σ1 (uB (uB T0 dv (r1, n1, m, d2, sg1)) q (rq, nq, pl, qd, sgq)) := by rw [← ec]; exact g5
      have g6 : bw_St D σ (uB (uB T0 dv (r1, n1, m, d1, sg1)) q (rq, nq, pl, qd, sgq)) σ1 (uB (uB T0 dv (r1, n1, m, d2, sg1)) q (rq, nq, pl, qd, sgq)) := by rw [← ec]; exact g6
      have hb1 := bw_obj g6 w hbl hb (by decide)
      have hbl1 : b0 < σ1.1 := Nat.lt_of_lt_of_le hbl g6.1
      have hVp : 0 < vl (T0 ds).2.2.2.1 n := by omega
      have hdm := Nat.div_add_mod (vl (fun i => d1 (t + i)) (n + 1)) (vl (T0 ds).2.2.2.1 n)
      have hql : vl (fun i => d1 (t + i)) (n + 1) / vl (T0 ds).2.2.2.1 n < BB := Nat.div_lt_of_lt_mul hU
      have hml := Nat.mod_lt (vl (fun i => d1 (t + i)) (n + 1)) hVp
      have hseg := vl_seg (d := d1) (e := d2) (m := m) (n := n) (j := t) (x := vl (fun i => d1 (t + i)) (n + 1) / vl (T0 ds).2.2.2.1 n) (V := vl (T0 ds).2.2.2.1 n) (by omega) g4 g2 (by rw [g3, Nat.mul_comm, Nat.add_comm]; exact hdm)
      obtain ⟨p1, p2, p3, p4, p5, p6, p7⟩ := g5.1 q h3
      rw [uB_s] at p1 p2
      have p1 : look σ1 q = some (bE sgq pl rq) := p1
      have p2 : look σ1 rq = some (ar X nq qd) := p2
      have hbq := ne_oa hb1 p2
      have hqq := ne_oa p1 p2
      generalize vl (fun i => d1 (t + i)) (n + 1) / vl (T0 ds).2.2.2.1 n = x at *
      refine wn_iast q_X0_divide_208 (by assumption) (by omega) (by omega) (fun σ_hr1 hr1 f_hr1 e1_hr1 e2_hr1 => ?_)
      have st2 := bw_R.keep (a := q) (sz := pl) (d := un qd t x) (sg := sgq) g5 h3 (by rw [uB_s]; exact (f_hr1 q hqq).trans p1) (by rw [uB_s]; exact hr1) (by rw [uB_s]; exact q3) (fun y y1 y2 => by rw [uB_s] at y2; exact f_hr1 y y2) (by omega) (by omega)
      rw [uB_u, uB_s] at st2
      have st2w : bw_R X D σ_hr1 (uB (uB T0 dv (r1, n1, m, d2, sg1)) q (rq, nq, pl, un qd t x, sgq)) := st2.1
      have st2s : bw_St D σ1 (uB (uB T0 dv (r1, n1, m, d2, sg1)) q (rq, nq, pl, qd, sgq)) σ_hr1 (uB (uB T0 dv (r1, n1, m, d2, sg1)) q (rq, nq, pl, un qd t x, sgq)) := st2.2
      refine wa_iinc q_X0_divide_209 rfl (v := iZ ((t : Int) - 1)) (by rw [nI_iZ]; exact iZ_add _ _) (by decide) ?_
      refine wa_goto q_X0_divide_212 ?_
      refine wa_lv (ih σ_hr1 d2 (un qd t x) (by omega) st2w (st.tr (g6.tr st2s)) g1 (un_lt hq hql) (fun i i1 i2 => ?_) (by rw [g3]; exact hml) ?_ ((f_hr1 b0 hbq).trans hb1) (by omega)) rfl
      · by_cases ei : i = n + t
        · rw [ei]; exact g2
        · rw [g4 i (by omega)]; exact hz i (by omega) i2
      · have es : pl - t = pl - (t + 1) + 1 := by omega
        rw [es, vl_low]
        show vl d2 m + _ * (BB ^ t * (un qd t x (t + 0) + _)) = A
        rw [Nat.add_zero, un_s]
        have c2 : vl (fun i => un qd t x (t + (i + 1))) (pl - (t + 1)) = vl (fun i => qd (t + 1 + i)) (pl - (t + 1)) := vl_congr (fun i _ => by rw [un_n (by omega), show t + (i + 1) = t + 1 + i by omega])
        rw [c2, ← hA, ← hseg, Nat.pow_succ]
        generalize vl d2 m = a1
        generalize vl (T0 ds).2.2.2.1 n = a2
        generalize vl (fun i => qd (t + 1 + i)) (pl - (t + 1)) = a3
        generalize BB ^ t = a4
        grind
end bench4
