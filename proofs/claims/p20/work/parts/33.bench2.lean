/-! EnclosedDigits$Bench: takeAway -/
theorem ar_eq {X : en_X} {n : Nat} {d e : Nat → Nat} (h : ∀ i, nI (d i) = nI (e i)) : ar X n d = ar X n e := by
  unfold ar
  rw [show (fun i => nI (d i)) = (fun i => nI (e i)) from funext h]
theorem tk_step {g v c w q p l c' : Nat} (hg : g < BB) (hv : v < BB) (hc : c < BB) (hw : w < BB) (hq : q = (g * v + c) / BB) (hp : p = g * v + c - q * BB) (h : (p ≤ w ∧ l = w - p ∧ c' = q) ∨ (w < p ∧ l = w + BB - p ∧ c' = q + 1)) : l < BB ∧ c' < BB ∧ l + (g * v + c) = w + c' * BB := by
  have hB : BB = 1000000000 := rfl
  have h1 : g * v ≤ 999999999 * 999999999 := Nat.mul_le_mul (by omega) (by omega)
  have h2 := Nat.div_add_mod (g * v + c) BB
  have h3 := Nat.mod_lt (g * v + c) BB_pos
  rw [← hq] at h2
  have h4 : BB * q = q * BB := Nat.mul_comm _ _
  have h5 : (q + 1) * BB = q * BB + BB := by rw [Nat.add_mul, Nat.one_mul]
  have h6 : q ≤ 999999999 := by
    rcases Nat.lt_or_ge 999999999 q with z | z
    · have : 1000000000 * BB ≤ q * BB := Nat.mul_le_mul_right _ z
      omega
    · exact z
  rcases h with ⟨a, b, e⟩ | ⟨a, b, e⟩
  · subst e; refine ⟨by omega, by omega, by omega⟩
  · subst e
    refine ⟨by omega, ?_, by omega⟩
    rcases Nat.lt_or_ge q 999999999 with z | z
    · omega
    · have z : q = 999999999 := by omega
      rw [z] at h2 h4 hp
      have : (999999999 : Nat) * BB = 999999999000000000 := rfl
      omega
section bench2
variable {X : en_X} {σ : en_S} {D : List Nat} {S : Nat → en_B}
theorem C_take_loop {ρ σ0 : en_S} {b0 dv ds pt bt rs r rd n j m nd nn g : Nat} {d e : Nat → Nat} {sg sgd : Int32} {Q : Option Value → en_S → Prop} (hnn : nn ≤ 512) (hm : m ≤ nn) (hj : n + j < m) (hnd : nd ≤ 512) (hsd : n ≤ nd) (hg : g < BB) (hd : ∀ i, i < n → d (j + i) < BB) (he : ∀ i, i < n → e i < BB) (kb : look σ0 b0 = some (nE dv ds pt bt rs)) (kv : look σ0 dv = some (bE sg m r)) (ks : look σ0 ds = some (bE sgd n rd)) (kd : look σ0 rd = some (ar X nd e)) (hbr : b0 ≠ r) (hvr : dv ≠ r) (hsr : ds ≠ r) (hrr : rd ≠ r)
    (k : ∀ (σ1 : en_S) (d1 : Nat → Nat) (c : Nat), look σ1 r = some (ar X nn d1) → c < BB → (∀ i, i < n → d1 (j + i) < BB) → vl (fun i => d1 (j + i)) n + g * vl e n = vl (fun i => d (j + i)) n + c * BB ^ n → (∀ q, q < j ∨ j + n ≤ q → d1 q = d q) → (∀ q, q ≠ r → look σ1 q = look σ0 q) → σ1.1 = σ0.1 → σ1.2.1 = σ0.2.1 → WA X M_X0_takeAway ρ 142 [(5, .long (lN c)), (3, .long (lN g)), (2, .int (nI n)), (1, .int (nI j)), (0, .ref b0)] [] σ1 Q) :
    ∀ (t i c : Nat) (σ : en_S) (d1 : Nat → Nat), n - i = t → i ≤ n → c < BB → look σ r = some (ar X nn d1) → (∀ q, q < i → d1 (j + q) < BB) → vl (fun q => d1 (j + q)) i + g * vl e i = vl (fun q => d (j + q)) i + c * BB ^ i → (∀ q, q < j ∨ j + i ≤ q → d1 q = d q) → (∀ q, q ≠ r → look σ q = look σ0 q) → σ.1 = σ0.1 → σ.2.1 = σ0.2.1 →
      WA X M_X0_takeAway ρ 43 [(7, .int (nI i)), (5, .long (lN c)), (3, .long (lN g)), (2, .int (nI n)), (1, .int (nI j)), (0, .ref b0)] [] σ Q := by
  have hB : BB = 1000000000 := rfl
  intro t
  induction t with
  | zero =>
    intro i c σ d1 ht hi hc hr h1 h2 h3 h4 h5 h6
    have e : i = n := by omega
    subst e
    refine wa_iload q_X0_takeAway_43 rfl ?_
    refine wa_iload_n q_X0_takeAway_45 rfl ?_
    refine wn_icmp_ge q_X0_takeAway_46 (by omega) (by omega) (fun hx => ?_) (fun hx => ?_)
    · exact wa_lv (k σ d1 c hr hc h1 h2 h3 h4 h5 h6) rfl
    · exact absurd hx (by omega)
  | succ t ih =>
    intro i c σ d1 ht hi hc hr h1 h2 h3 h4 h5 h6
    have hb := (h4 b0 hbr).trans kb
    have hv := (h4 dv hvr).trans kv
    have hs := (h4 ds hsr).trans ks
    have hrd := (h4 rd hrr).trans kd
    have hdi : d1 (i + j) = d (j + i) := by rw [Nat.add_comm]; exact h3 _ (Or.inr (Nat.le_refl _))
    have hdl := hd i (by omega)
    have hel := he i (by omega)
    have hprod : g * e i ≤ 999999999 * 999999999 := Nat.mul_le_mul (by omega) (by omega)
    refine wa_iload q_X0_takeAway_43 rfl ?_
    refine wa_iload_n q_X0_takeAway_45 rfl ?_
    refine wn_icmp_ge q_X0_takeAway_46 (by omega) (by omega) (fun hx => ?_) (fun hx => ?_)
    · exact absurd hx (by omega)
    · refine wa_lload_n q_X0_takeAway_49 rfl ?_
      refine wa_aload_n q_X0_takeAway_50 rfl ?_
      refine wa_getf q_X0_takeAway_51 f_RX0_18 (by assumption) rfl ?_
      refine wa_getf q_X0_takeAway_54 f_RX0_69 (by assumption) rfl ?_
      refine wa_iload q_X0_takeAway_57 rfl ?_
      refine wn_iald q_X0_takeAway_59 (by assumption) (by omega) (by omega) ?_
      refine wn_i2l q_X0_takeAway_60 (by omega) ?_
      refine wn_lmul q_X0_takeAway_61 ?_
      refine wa_lload q_X0_takeAway_62 rfl ?_
      refine wn_ladd q_X0_takeAway_64 ?_
      refine wa_lstore q_X0_takeAway_65 (by decide) ?_
      refine wa_lload q_X0_takeAway_67 rfl ?_
      refine wa_ldc2 q_X0_takeAway_69 k_RX0_83 ?_
      refine wn_ldiv q_X0_takeAway_72 (by omega) (by omega) (by omega) ?_
      refine wa_lstore q_X0_takeAway_73 (by decide) ?_
      refine wa_aload_n q_X0_takeAway_75 rfl ?_
      refine wa_getf q_X0_takeAway_76 f_RX0_12 (by assumption) rfl ?_
      refine wa_getf q_X0_takeAway_79 f_RX0_69 (by assumption) rfl ?_
      refine wa_iload q_X0_takeAway_82 rfl ?_
      refine wa_iload_n q_X0_takeAway_84 rfl ?_
      refine wn_iadd q_X0_takeAway_85 ?_
      refine wn_iald q_X0_takeAway_86 (by assumption) (by omega) (by omega) ?_
      rw [hdi]
      refine wn_i2l q_X0_takeAway_87 (by omega) ?_
      refine wa_lload q_X0_takeAway_88 rfl ?_
      refine wa_lload q_X0_takeAway_90 rfl ?_
      refine wa_ldc2 q_X0_takeAway_92 k_RX0_83 ?_
      refine wn_lmul q_X0_takeAway_95 ?_
      have hle : (g * e i + c) / 1000000000 * 1000000000 ≤ g * e i + c := Nat.div_mul_le_self _ _
      refine wn_lsub q_X0_takeAway_96 hle ?_
      refine wa_lsub q_X0_takeAway_97 ?_
      have hpb : g * e i + c - (g * e i + c) / 1000000000 * 1000000000 < 1000000000 := by
        have := Nat.div_add_mod (g * e i + c) 1000000000
        have := Nat.mod_lt (g * e i + c) (show 0 < 1000000000 by decide)
        omega
      rw [show lN (d (j + i)) - lN (g * e i + c - (g * e i + c) / 1000000000 * 1000000000) = lZ ((d (j + i) : Int) - (g * e i + c - (g * e i + c) / 1000000000 * 1000000000 : Nat)) by rw [lN_lZ, lN_lZ, lZ_sub]]
      refine wa_lstore q_X0_takeAway_98 (by decide) ?_
      have hk : ∀ l c', ((g * e i + c - (g * e i + c) / 1000000000 * 1000000000 ≤ d (j + i) ∧ l = d (j + i) - (g * e i + c - (g * e i + c) / 1000000000 * 1000000000) ∧ c' = (g * e i + c) / 1000000000) ∨ (d (j + i) < g * e i + c - (g * e i + c) / 1000000000 * 1000000000 ∧ l = d (j + i) + BB - (g * e i + c - (g * e i + c) / 1000000000 * 1000000000) ∧ c' = (g * e i + c) / 1000000000 + 1)) → WA X M_X0_takeAway ρ 121 [(10, .long (lN l)), (7, .int (nI i)), (5, .long (lN c')), (3, .long (lN g)), (2, .int (nI n)), (1, .int (nI j)), (0, .ref b0)] [] σ Q := by
        intro l c' hl
        obtain ⟨t1, t2, t3⟩ := tk_step hg hel hc hdl rfl rfl hl
        clear hl
        refine wa_aload_n q_X0_takeAway_121 rfl ?_
        refine wa_getf q_X0_takeAway_122 f_RX0_12 (by assumption) rfl ?_
        refine wa_getf q_X0_takeAway_125 f_RX0_69 (by assumption) rfl ?_
        refine wa_iload q_X0_takeAway_128 rfl ?_
        refine wa_iload_n q_X0_takeAway_130 rfl ?_
        refine wn_iadd q_X0_takeAway_131 ?_
        refine wa_lload q_X0_takeAway_132 rfl ?_
        refine wn_l2i q_X0_takeAway_134 ?_
        refine wn_iast q_X0_takeAway_135 (by assumption) (by omega) (by omega) (fun σ_hr1 hr1 f_hr1 e1_hr1 e2_hr1 => ?_)
        refine wn_iinc q_X0_takeAway_136 rfl (by decide) ?_
        refine wa_goto q_X0_takeAway_139 ?_
        refine wa_lv (ih (i + 1) c' σ_hr1 _ (by omega) (by omega) t2 hr1 (fun q hq => ?_) ?_ (fun q hq => ?_) (fun q hq => (f_hr1 q hq).trans (h4 q hq)) (by omega) (by omega)) rfl
        · by_cases eq : q = i
          · rw [eq]; show (if j + i = i + j then _ else _) < BB; rw [if_pos (by omega)]; exact t1
          · rw [un_n (by omega)]; exact h1 q (by omega)
        · have e1 : vl (fun q => un d1 (i + j) l (j + q)) (i + 1) = vl (fun q => d1 (j + q)) i + l * BB ^ i := by
            show vl _ i + un _ _ _ (j + i) * _ = _
            rw [Nat.add_comm j i, un_s, vl_congr (e := fun q => d1 (j + q)) (fun q hq => un_n (by omega))]
          have e2 : vl (fun q => d (j + q)) (i + 1) = vl (fun q => d (j + q)) i + d (j + i) * BB ^ i := rfl
          have e3 : vl e (i + 1) = vl e i + e i * BB ^ i := rfl
          rw [e1, e2, e3, Nat.pow_succ]
          generalize vl (fun q => d1 (j + q)) i = A at *
          generalize vl (fun q => d (j + q)) i = A2 at *
          generalize vl e i = A3 at *
          generalize BB ^ i = P at *
          grind
        · rw [un_n (by omega)]; exact h3 q (by omega)
      generalize hpp : g * e i + c - (g * e i + c) / 1000000000 * 1000000000 = p at *
      refine wa_lload q_X0_takeAway_100 rfl ?_
      refine wa_lconst q_X0_takeAway_102 (v := lN 0) (by decide) ?_
      refine wa_lcmp q_X0_takeAway_103 ?_
      refine wa_if_ge q_X0_takeAway_104 (fun hge => ?_) (fun hge => ?_)
      · rw [lg_cmp_ge, lN_lZ, lZ_le (by decide) (by decide) (by omega) (by omega)] at hge
        have h0 : ((0 : Nat) : Int) = 0 := rfl
        rw [show lZ ((d (j + i) : Int) - (p : Nat)) = lN (d (j + i) - p) by rw [lN_lZ]; congr 1; omega]
        exact wa_lv (hk (d (j + i) - p) ((g * e i + c) / 1000000000) (Or.inl ⟨by omega, rfl, rfl⟩)) rfl
      · rw [lg_cmp_ge, lN_lZ, lZ_le (by decide) (by decide) (by omega) (by omega)] at hge
        have h0 : ((0 : Nat) : Int) = 0 := rfl
        refine wa_lload q_X0_takeAway_107 rfl ?_
        refine wa_ldc2 q_X0_takeAway_109 k_RX0_83 ?_
        refine wa_ladd q_X0_takeAway_112 ?_
        rw [show lZ ((d (j + i) : Int) - (p : Nat)) + lN 1000000000 = lN (d (j + i) + 1000000000 - p) by rw [lN_lZ, lN_lZ, lZ_add]; congr 1; omega]
        refine wa_lstore q_X0_takeAway_113 (by decide) ?_
        refine wa_lload q_X0_takeAway_115 rfl ?_
        refine wa_lconst q_X0_takeAway_117 (v := lN 1) (by decide) ?_
        refine wn_ladd q_X0_takeAway_118 ?_
        refine wa_lstore q_X0_takeAway_119 (by decide) ?_
        exact wa_lv (hk (d (j + i) + 1000000000 - p) ((g * e i + c) / 1000000000 + 1) (Or.inr ⟨by omega, rfl, rfl⟩)) rfl
theorem tk_end {A W V Wn U P g c : Nat} (h1 : A + g * V = W + c * P) (hU : U = W + Wn * P) (hA : A < P) (hV : V ≤ P) (hV2 : V < P) (hlow : U < (g + 1) * V) (hup : g * V ≤ U + V) : (g * V ≤ U ∧ c = Wn ∧ A = U - g * V) ∨ (U < g * V ∧ c = Wn + 1 ∧ A + (g * V - U) = P) := by
  have e1 : (g + 1) * V = g * V + V := by rw [Nat.add_mul, Nat.one_mul]
  rcases Nat.lt_or_ge U (g * V) with h | h
  · refine Or.inr ⟨h, ?_⟩
    have hc : c = Wn + 1 := by
      rcases Nat.lt_trichotomy c (Wn + 1) with z | z | z
      · have : c * P ≤ Wn * P := Nat.mul_le_mul_right _ (by omega)
        omega
      · exact z
      · have : (Wn + 2) * P ≤ c * P := Nat.mul_le_mul_right _ (by omega)
        have : (Wn + 2) * P = Wn * P + 2 * P := Nat.add_mul _ _ _
        omega
    subst hc
    have : (Wn + 1) * P = Wn * P + P := by rw [Nat.add_mul, Nat.one_mul]
    exact ⟨rfl, by omega⟩
  · refine Or.inl ⟨h, ?_⟩
    have hc : c = Wn := by
      rcases Nat.lt_trichotomy c Wn with z | z | z
      · have : (c + 1) * P ≤ Wn * P := Nat.mul_le_mul_right _ z
        have : (c + 1) * P = c * P + P := by rw [Nat.add_mul, Nat.one_mul]
        omega
      · exact z
      · have : (Wn + 1) * P ≤ c * P := Nat.mul_le_mul_right _ z
        have : (Wn + 1) * P = Wn * P + P := by rw [Nat.add_mul, Nat.one_mul]
        omega
    subst hc
    exact ⟨rfl, by omega⟩
end bench2
