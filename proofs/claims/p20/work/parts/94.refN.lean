/-! The reference: what its arrays say of the VALUES; need -/
/-- what the arrays say of the i-th VALUE -/
def mK (K : Nat → Int32) (N1 N2 : Nat → Int64) (kd fs sn : Nat → Nat) (A B : Nat → Int) (i : Nat) : Prop :=
  K i = nI (kd i) ∧ (kd i ≤ 4 → N1 i = lZ (A i)) ∧ (kd i = 1 ∨ kd i = 4 → N2 i = lZ (B i)) ∧ (5 ≤ kd i → N1 i = lN (fs i)) ∧ (6 ≤ kd i → N2 i = lN (sn i)) ∧ (kd i = 4 → A i ≠ 0)
/-- nothing but the reference's own cells has changed -/
def mFr (M : Nat → Nat) (σ τ : en_S) : Prop := (∀ q, q ≠ M 0 → (∀ i, i ∈ arrs → q ≠ M i) → look τ q = look σ q) ∧ τ.1 = σ.1 ∧ τ.2.1 = σ.2.1
section ref25
variable {X : en_X} {σ τ υ σ1 : en_S} {M : Nat → Nat} {O : Int32 × Int32 × Int32 × Int32 × Int32} {C Z : Nat → Nat} {G : Nat → Int32} {V : Nat → Int} {K K' : Nat → Int32} {N1 N2 Pa Fo N' : Nat → Int64} {Op Nd P' : Nat → Bool}
theorem mFr.rf : mFr M σ σ := ⟨fun _ _ _ => rfl, rfl, rfl⟩
theorem mFr.tr (h : mFr M σ τ) (g : mFr M τ υ) : mFr M σ υ := ⟨fun q a b => (g.1 q a b).trans (h.1 q a b), g.2.1.trans h.2.1, g.2.2.trans h.2.2⟩
theorem mSt.fr (h : mSt M σ τ) : mFr M σ τ := ⟨fun q _ b => h.1 q (b 1 (by decide)) (b 2 (by decide)) (b 3 (by decide)), h.2.1, h.2.2⟩
theorem mFr.put {i : Nat} (hi : i ∈ arrs) (hf : ∀ b, b ≠ M i → look σ1 b = look σ b) (e1 : σ1.1 = σ.1) (e2 : σ1.2.1 = σ.2.1) : mFr M σ σ1 := ⟨fun q _ b => hf q (b i hi), e1, e2⟩
theorem mFr.put0 (hf : ∀ b, b ≠ M 0 → look σ1 b = look σ b) (e1 : σ1.1 = σ.1) (e2 : σ1.2.1 = σ.2.1) : mFr M σ σ1 := ⟨fun q a _ => hf q a, e1, e2⟩
theorem rV.oth {w : Nat} (h : rV X σ M O C Z G V) (hf : ∀ b, b ≠ w → look σ1 b = look σ b) (h0 : M 0 ≠ w) (h1 : M 1 ≠ w) (h2 : M 2 ≠ w) (h3 : M 3 ≠ w) : rV X σ1 M O C Z G V := by
  obtain ⟨⟨a0, a1, a2, a3, n⟩, hv⟩ := h
  exact ⟨⟨(hf _ h0).trans a0, (hf _ h1).trans a1, (hf _ h2).trans a2, (hf _ h3).trans a3, n⟩, hv⟩
theorem ne_oi {a r : Nat} {o : Nat × List Value} {x} (h : look σ a = some (.inr o)) (g : look σ r = some (.inl x)) : a ≠ r := by
  intro e
  rw [e, g] at h
  cases h
theorem mA.s4 (h : mA X σ M K N1 N2 Op Nd Pa Fo) (g : look σ1 (M 4) = some (gA X 60 K')) (hf : ∀ b, b ≠ M 4 → look σ1 b = look σ b) : mA X σ1 M K' N1 N2 Op Nd Pa Fo := by
  obtain ⟨h4, h5, h6, h7, h8, h11, h14, hD⟩ := h
  have n : ∀ i, i ∈ arrs → i ≠ 4 → look σ1 (M i) = look σ (M i) := fun i hi hn => hf _ (hD i hi 4 (by decide) hn)
  exact ⟨g, (n 5 (by decide) (by decide)).trans h5, (n 6 (by decide) (by decide)).trans h6, (n 7 (by decide) (by decide)).trans h7, (n 8 (by decide) (by decide)).trans h8, (n 11 (by decide) (by decide)).trans h11, (n 14 (by decide) (by decide)).trans h14, hD⟩
theorem mA.s5 (h : mA X σ M K N1 N2 Op Nd Pa Fo) (g : look σ1 (M 5) = some (gL X 60 N')) (hf : ∀ b, b ≠ M 5 → look σ1 b = look σ b) : mA X σ1 M K N' N2 Op Nd Pa Fo := by
  obtain ⟨h4, h5, h6, h7, h8, h11, h14, hD⟩ := h
  have n : ∀ i, i ∈ arrs → i ≠ 5 → look σ1 (M i) = look σ (M i) := fun i hi hn => hf _ (hD i hi 5 (by decide) hn)
  exact ⟨(n 4 (by decide) (by decide)).trans h4, g, (n 6 (by decide) (by decide)).trans h6, (n 7 (by decide) (by decide)).trans h7, (n 8 (by decide) (by decide)).trans h8, (n 11 (by decide) (by decide)).trans h11, (n 14 (by decide) (by decide)).trans h14, hD⟩
theorem mA.s6 (h : mA X σ M K N1 N2 Op Nd Pa Fo) (g : look σ1 (M 6) = some (gL X 60 N')) (hf : ∀ b, b ≠ M 6 → look σ1 b = look σ b) : mA X σ1 M K N1 N' Op Nd Pa Fo := by
  obtain ⟨h4, h5, h6, h7, h8, h11, h14, hD⟩ := h
  have n : ∀ i, i ∈ arrs → i ≠ 6 → look σ1 (M i) = look σ (M i) := fun i hi hn => hf _ (hD i hi 6 (by decide) hn)
  exact ⟨(n 4 (by decide) (by decide)).trans h4, (n 5 (by decide) (by decide)).trans h5, g, (n 7 (by decide) (by decide)).trans h7, (n 8 (by decide) (by decide)).trans h8, (n 11 (by decide) (by decide)).trans h11, (n 14 (by decide) (by decide)).trans h14, hD⟩
theorem mA.s7 (h : mA X σ M K N1 N2 Op Nd Pa Fo) (g : look σ1 (M 7) = some (gZ X 60 P')) (hf : ∀ b, b ≠ M 7 → look σ1 b = look σ b) : mA X σ1 M K N1 N2 P' Nd Pa Fo := by
  obtain ⟨h4, h5, h6, h7, h8, h11, h14, hD⟩ := h
  have n : ∀ i, i ∈ arrs → i ≠ 7 → look σ1 (M i) = look σ (M i) := fun i hi hn => hf _ (hD i hi 7 (by decide) hn)
  exact ⟨(n 4 (by decide) (by decide)).trans h4, (n 5 (by decide) (by decide)).trans h5, (n 6 (by decide) (by decide)).trans h6, g, (n 8 (by decide) (by decide)).trans h8, (n 11 (by decide) (by decide)).trans h11, (n 14 (by decide) (by decide)).trans h14, hD⟩
theorem mA.s8 (h : mA X σ M K N1 N2 Op Nd Pa Fo) (g : look σ1 (M 8) = some (gZ X 60 P')) (hf : ∀ b, b ≠ M 8 → look σ1 b = look σ b) : mA X σ1 M K N1 N2 Op P' Pa Fo := by
  obtain ⟨h4, h5, h6, h7, h8, h11, h14, hD⟩ := h
  have n : ∀ i, i ∈ arrs → i ≠ 8 → look σ1 (M i) = look σ (M i) := fun i hi hn => hf _ (hD i hi 8 (by decide) hn)
  exact ⟨(n 4 (by decide) (by decide)).trans h4, (n 5 (by decide) (by decide)).trans h5, (n 6 (by decide) (by decide)).trans h6, (n 7 (by decide) (by decide)).trans h7, g, (n 11 (by decide) (by decide)).trans h11, (n 14 (by decide) (by decide)).trans h14, hD⟩
theorem mA.s11 (h : mA X σ M K N1 N2 Op Nd Pa Fo) (g : look σ1 (M 11) = some (gL X 40 N')) (hf : ∀ b, b ≠ M 11 → look σ1 b = look σ b) : mA X σ1 M K N1 N2 Op Nd N' Fo := by
  obtain ⟨h4, h5, h6, h7, h8, h11, h14, hD⟩ := h
  have n : ∀ i, i ∈ arrs → i ≠ 11 → look σ1 (M i) = look σ (M i) := fun i hi hn => hf _ (hD i hi 11 (by decide) hn)
  exact ⟨(n 4 (by decide) (by decide)).trans h4, (n 5 (by decide) (by decide)).trans h5, (n 6 (by decide) (by decide)).trans h6, (n 7 (by decide) (by decide)).trans h7, (n 8 (by decide) (by decide)).trans h8, g, (n 14 (by decide) (by decide)).trans h14, hD⟩
theorem mA.s14 (h : mA X σ M K N1 N2 Op Nd Pa Fo) (g : look σ1 (M 14) = some (gL X 40 N')) (hf : ∀ b, b ≠ M 14 → look σ1 b = look σ b) : mA X σ1 M K N1 N2 Op Nd Pa N' := by
  obtain ⟨h4, h5, h6, h7, h8, h11, h14, hD⟩ := h
  have n : ∀ i, i ∈ arrs → i ≠ 14 → look σ1 (M i) = look σ (M i) := fun i hi hn => hf _ (hD i hi 14 (by decide) hn)
  exact ⟨(n 4 (by decide) (by decide)).trans h4, (n 5 (by decide) (by decide)).trans h5, (n 6 (by decide) (by decide)).trans h6, (n 7 (by decide) (by decide)).trans h7, (n 8 (by decide) (by decide)).trans h8, (n 11 (by decide) (by decide)).trans h11, g, hD⟩
/-- the object's own fields change -/
theorem mA.s0 {o : Nat × List Value} (h : mA X σ M K N1 N2 Op Nd Pa Fo) (a0 : look σ (M 0) = some (.inr o)) (hf : ∀ b, b ≠ M 0 → look σ1 b = look σ b) : mA X σ1 M K N1 N2 Op Nd Pa Fo := by
  obtain ⟨h4, h5, h6, h7, h8, h11, h14, hD⟩ := h
  exact ⟨(hf _ (ne_oi a0 h4).symm).trans h4, (hf _ (ne_oi a0 h5).symm).trans h5, (hf _ (ne_oi a0 h6).symm).trans h6, (hf _ (ne_oi a0 h7).symm).trans h7, (hf _ (ne_oi a0 h8).symm).trans h8, (hf _ (ne_oi a0 h11).symm).trans h11, (hf _ (ne_oi a0 h14).symm).trans h14, hD⟩
theorem rV.s0 {O' : Int32 × Int32 × Int32 × Int32 × Int32} (h : rV X σ M O C Z G V) (g : look σ1 (M 0) = some (rE M O')) (hf : ∀ b, b ≠ M 0 → look σ1 b = look σ b) : rV X σ1 M O' C Z G V := by
  obtain ⟨⟨a0, a1, a2, a3, n⟩, hv⟩ := h
  exact ⟨⟨g, (hf _ (ne_oi a0 a1).symm).trans a1, (hf _ (ne_oi a0 a2).symm).trans a2, (hf _ (ne_oi a0 a3).symm).trans a3, n⟩, hv⟩
theorem rV.o8 {i : Nat} {x} (h : rV X σ M O C Z G V) (hD : mD M) (hi : i ∈ arrs) (h3 : 3 < i) (g : look σ (M i) = some (.inl x)) (hf : ∀ b, b ≠ M i → look σ1 b = look σ b) : rV X σ1 M O C Z G V := by
  obtain ⟨m1, m2, m3⟩ := hD.no hi h3
  exact h.oth hf (ne_oi h.1.1 g) m1.symm m2.symm m3.symm
end ref25
section ref26
variable {X : en_X} {M : Nat → Nat} {O : Int32 × Int32 × Int32 × Int32 × Int32} {C Z : Nat → Nat} {G : Nat → Int32} {V : Nat → Int} {K : Nat → Int32} {N1 N2 Pa Fo : Nat → Int64} {Op : Nat → Bool} {cnt v : Nat} {kd fs sn : Nat → Nat} {A B : Nat → Int}
/-- what the marks say for the VALUES above t -/
def ndI (Nd : Nat → Bool) (kd fs sn : Nat → Nat) (v t : Nat) : Prop := Nd v = true ∧ ∀ j, t ≤ j → j ≤ v → Nd j = true → 5 ≤ kd j → Nd (fs j) = true ∧ Nd (sn j) = true
theorem nd_1 {ρ σ0 : en_S} {Q : Option Value → en_S → Prop} (hc : O.2.1 = nI cnt) (hcnt : cnt ≤ 60) (hv : v < cnt)
    (k : ∀ (σ : en_S) (Nd : Nat → Bool), rV X σ M O C Z G V → mA X σ M K N1 N2 Op Nd Pa Fo → (∀ j, j < cnt → Nd j = decide (j = v)) → mFr M σ0 σ → WA X M_X7_need ρ 32 [(0, .ref (M 0)), (1, .int (nI v))] [] σ Q) :
    ∀ (n i : Nat) (σ : en_S) (Nd : Nat → Bool), n + i = cnt → rV X σ M O C Z G V → mA X σ M K N1 N2 Op Nd Pa Fo → (∀ j, j < i → Nd j = decide (j = v)) → mFr M σ0 σ → WA X M_X7_need ρ 2 [(2, .int (nI i)), (0, .ref (M 0)), (1, .int (nI v))] [] σ Q := by
  intro n
  induction n with
  | zero =>
    intro i σ Nd hn h hA hj hF
    obtain ⟨a0, a1, a2, a3, -⟩ := id h.1
    refine wa_iload_n q_X7_need_2 rfl ?_
    refine wa_aload_n q_X7_need_3 rfl ?_
    refine wa_getf q_X7_need_4 f_RX7_90 (by assumption) rfl ?_
    show WA X M_X7_need ρ 7 _ [.int O.2.1, .int (nI i)] σ Q
    rw [hc]
    refine wn_icmp_ge q_X7_need_7 (by omega) (by omega) (fun hx => ?_) (fun hx => ?_)
    · exact wa_lv (k σ Nd h hA (fun j hj2 => hj j (by omega)) hF) rfl
    · omega
  | succ n ih =>
    intro i σ Nd hn h hA hj hF
    obtain ⟨a0, a1, a2, a3, -⟩ := id h.1
    obtain ⟨k4, k5, k6, k7, k8, k11, k14, hD⟩ := id hA
    have fin : ∀ (b : Bool), b = decide (i = v) → WA X M_X7_need ρ 25 [(2, .int (nI i)), (0, .ref (M 0)), (1, .int (nI v))] [.int (nI (if b then 1 else 0)), .int (nI i), .ref (M 8)] σ Q := by
      intro b hb
      refine wn_zast q_X7_need_25 k8 (by omega) (fun σ1 g1 f1 e1 e2 => ?_)
      refine wn_iinc q_X7_need_26 rfl (by decide) ?_
      refine wa_goto q_X7_need_29 ?_
      refine wa_lv (ih (i + 1) σ1 (upB Nd i b) (by omega) (h.o8 hD (by decide) (by decide) k8 f1) (hA.s8 g1 f1) (fun j hj2 => ?_) (hF.tr (mFr.put (by decide) f1 e1 e2))) rfl
      by_cases e : j = i
      · subst e; rw [upB_s]; exact hb
      · rw [upB_n e]; exact hj j (by omega)
    refine wa_iload_n q_X7_need_2 rfl ?_
    refine wa_aload_n q_X7_need_3 rfl ?_
    refine wa_getf q_X7_need_4 f_RX7_90 (by assumption) rfl ?_
    show WA X M_X7_need ρ 7 _ [.int O.2.1, .int (nI i)] σ Q
    rw [hc]
    refine wn_icmp_ge q_X7_need_7 (by omega) (by omega) (fun hx => ?_) (fun hx => ?_)
    · omega
    refine wa_aload_n q_X7_need_10 rfl ?_
    refine wa_getf q_X7_need_11 f_RX7_34 (by assumption) rfl ?_
    refine wa_iload_n q_X7_need_14 rfl ?_
    refine wa_iload_n q_X7_need_15 rfl ?_
    refine wa_iload_n q_X7_need_16 rfl ?_
    refine wn_icmp_ne q_X7_need_17 (by omega) (by omega) (fun hy => ?_) (fun hy => ?_)
    · refine wa_iconst q_X7_need_24 (v := nI 0) (by decide) ?_
      exact fin false (by simp [hy])
    · refine wa_iconst q_X7_need_20 (v := nI 1) (by decide) ?_
      refine wa_goto q_X7_need_21 ?_
      exact fin true (by simp [hy])
theorem nd_2 {ρ σ0 : en_S} {Q : Option Value → en_S → Prop} (hcnt : cnt ≤ 60) (hv : v < cnt) (hok : ∀ i, i < cnt → vOk kd fs sn A B i ∧ mK K N1 N2 kd fs sn A B i)
    (k : ∀ (σ : en_S) (Nd : Nat → Bool), rV X σ M O C Z G V → mA X σ M K N1 N2 Op Nd Pa Fo → ndI Nd kd fs sn v 0 → mFr M σ0 σ → Q none σ) :
    ∀ (t : Nat) (σ : en_S) (Nd : Nat → Bool), t ≤ v + 1 → rV X σ M O C Z G V → mA X σ M K N1 N2 Op Nd Pa Fo → ndI Nd kd fs sn v t → mFr M σ0 σ → WA X M_X7_need ρ 34 [(2, .int (nI t + (-1))), (0, .ref (M 0)), (1, .int (nI v))] [] σ Q := by
  intro t
  induction t with
  | zero =>
    intro σ Nd ht h hA hN hF
    refine wa_iload_n q_X7_need_34 rfl ?_
    refine wa_if_lt q_X7_need_35 (fun _ => ?_) (fun hx => absurd (by decide) hx)
    refine wa_vret q_X7_need_100 rfl ?_
    exact k σ Nd h hA hN hF
  | succ t ih =>
    intro σ Nd ht h hA hN hF
    rw [pk_m1]
    obtain ⟨vk, mk⟩ := hok t (by omega)
    obtain ⟨v9, -, -, -, v5, v55⟩ := vk
    obtain ⟨m1, -, -, m4, m5, -⟩ := mk
    obtain ⟨a0, a1, a2, a3, -⟩ := id h.1
    obtain ⟨k4, k5, k6, k7, k8, k11, k14, hD⟩ := id hA
    have low : ∀ (σ' : en_S) (Nd' : Nat → Bool), rV X σ' M O C Z G V → mA X σ' M K N1 N2 Op Nd' Pa Fo → ndI Nd' kd fs sn v t → mFr M σ0 σ' → WA X M_X7_need ρ 94 [(2, .int (nI t)), (0, .ref (M 0)), (1, .int (nI v))] [] σ' Q := by
      intro σ' Nd' h' hA' hN' hF'
      refine wa_iinc q_X7_need_94 rfl rfl (by decide) ?_
      refine wa_goto q_X7_need_97 ?_
      exact wa_lv (ih σ' Nd' (by omega) h' hA' hN' hF') rfl
    refine wa_iload_n q_X7_need_34 rfl ?_
    refine wn_if_lt q_X7_need_35 (by omega) (fun hx => ?_) (fun hx => ?_)
    · exact absurd hx id
    refine wa_aload_n q_X7_need_38 rfl ?_
    refine wa_getf q_X7_need_39 f_RX7_34 (by assumption) rfl ?_
    refine wa_iload_n q_X7_need_42 rfl ?_
    refine wn_zald q_X7_need_43 k8 (by omega) ?_
    cases hb : Nd t
    · refine wn_if_eq q_X7_need_44 (by decide) (fun _ => ?_) (fun z => absurd z (by decide))
      refine wa_lv (low σ Nd h hA ⟨hN.1, fun j j1 j2 j3 j4 => ?_⟩ hF) rfl
      have : j ≠ t := fun e => by rw [e, hb] at j3; cases j3
      exact hN.2 j (by omega) j2 j3 j4
    · refine wn_if_eq q_X7_need_44 (by decide) (fun z => absurd z (by decide)) (fun _ => ?_)
      refine wa_aload_n q_X7_need_47 rfl ?_
      refine wa_getf q_X7_need_48 f_RX7_20 (by assumption) rfl ?_
      refine wa_iload_n q_X7_need_51 rfl ?_
      refine wn_gald q_X7_need_52 (by assumption) (by omega) ?_
      rw [m1]
      refine wa_iconst q_X7_need_53 (v := nI 5) (by decide) ?_
      refine wn_icmp_lt q_X7_need_54 (by omega) (by decide) (fun hy => ?_) (fun hy => ?_)
      · refine wa_lv (low σ Nd h hA ⟨hN.1, fun j j1 j2 j3 j4 => ?_⟩ hF) rfl
        have : j ≠ t := fun e => by subst e; omega
        exact hN.2 j (by omega) j2 j3 j4
      · obtain ⟨c1, c2⟩ := v5 hy
        refine wa_aload_n q_X7_need_57 rfl ?_
        refine wa_getf q_X7_need_58 f_RX7_34 (by assumption) rfl ?_
        refine wa_aload_n q_X7_need_61 rfl ?_
        refine wa_getf q_X7_need_62 f_RX7_23 (by assumption) rfl ?_
        refine wa_iload_n q_X7_need_65 rfl ?_
        refine wn_glald q_X7_need_66 k5 (by omega) ?_
        rw [m4 hy]
        refine wn_l2i q_X7_need_67 ?_
        refine wa_iconst q_X7_need_68 (v := nI 1) (by decide) ?_
        refine wn_zast (b := true) q_X7_need_69 k8 (by omega) (fun σ1 g1 f1 e1 e2 => ?_)
        have h1 := h.o8 hD (by decide) (by decide) k8 f1
        have hA1 := hA.s8 g1 f1
        have hF1 := hF.tr (mFr.put (by decide) f1 e1 e2)
        obtain ⟨b0, b1, b2, b3, -⟩ := id h1.1
        obtain ⟨r4, r5, r6, r7, r8, r11, r14, -⟩ := id hA1
        have up : ∀ (P : Nat → Bool) (w : Nat), (∀ j, P j = true → upB P w true j = true) := fun P w j hj => by
          by_cases e : j = w
          · subst e; exact upB_s
          · rw [upB_n e]; exact hj
        have dn : ∀ (P : Nat → Bool) (w j : Nat), j ≠ w → upB P w true j = true → P j = true := fun P w j hj hp => by rw [upB_n hj] at hp; exact hp
        refine wa_aload_n q_X7_need_70 rfl ?_
        refine wa_getf q_X7_need_71 f_RX7_20 (by assumption) rfl ?_
        refine wa_iload_n q_X7_need_74 rfl ?_
        refine wn_gald q_X7_need_75 (by assumption) (by omega) ?_
        rw [m1]
        refine wa_bipush q_X7_need_76 (v := nI 6) (by decide) ?_
        refine wn_icmp_lt q_X7_need_78 (by omega) (by decide) (fun hz => ?_) (fun hz => ?_)
        · refine wa_lv (low σ1 _ h1 hA1 ⟨up _ _ _ hN.1, fun j j1 j2 j3 j4 => ?_⟩ hF1) rfl
          by_cases e : j = t
          · subst e
            rw [v55 (by omega)]
            exact ⟨upB_s, upB_s⟩
          · obtain ⟨w1, w2⟩ := hN.2 j (by omega) j2 (dn _ _ j (by omega) j3) j4
            exact ⟨up _ _ _ w1, up _ _ _ w2⟩
        · refine wa_aload_n q_X7_need_81 rfl ?_
          refine wa_getf q_X7_need_82 f_RX7_34 (by assumption) rfl ?_
          refine wa_aload_n q_X7_need_85 rfl ?_
          refine wa_getf q_X7_need_86 f_RX7_27 (by assumption) rfl ?_
          refine wa_iload_n q_X7_need_89 rfl ?_
          refine wn_glald q_X7_need_90 r6 (by omega) ?_
          rw [m5 hz]
          refine wn_l2i q_X7_need_91 ?_
          refine wa_iconst q_X7_need_92 (v := nI 1) (by decide) ?_
          refine wn_zast (b := true) q_X7_need_93 r8 (by omega) (fun σ2 g2 f2 e3 e4 => ?_)
          refine wa_lv (low σ2 _ (h1.o8 hD (by decide) (by decide) r8 f2) (hA1.s8 g2 f2) ⟨up _ _ _ (up _ _ _ hN.1), fun j j1 j2 j3 j4 => ?_⟩ (hF1.tr (mFr.put (by decide) f2 e3 e4))) rfl
          by_cases e : j = t
          · subst e
            exact ⟨up _ _ _ upB_s, upB_s⟩
          · obtain ⟨w1, w2⟩ := hN.2 j (by omega) j2 (dn _ _ j (by omega) (dn _ _ j (by omega) j3)) j4
            exact ⟨up _ _ _ (up _ _ _ w1), up _ _ _ (up _ _ _ w2)⟩
theorem R_need {σ : en_S} {Nd : Nat → Bool} (h : rV X σ M O C Z G V) (hA : mA X σ M K N1 N2 Op Nd Pa Fo) (hc : O.2.1 = nI cnt) (hcnt : cnt ≤ 60) (hv : v < cnt) (hok : ∀ i, i < cnt → vOk kd fs sn A B i ∧ mK K N1 N2 kd fs sn A B i) :
    Calls X M_X7_need [.ref (M 0), .int (nI v)] σ (fun res τ => res = none ∧ ∃ Nd', rV X τ M O C Z G V ∧ mA X τ M K N1 N2 Op Nd' Pa Fo ∧ ndI Nd' kd fs sn v 0 ∧ mFr M σ τ) := by
  refine Calls.of rfl (lk rfl) ?_
  refine wa_iconst q_X7_need_0 (v := nI 0) (by decide) ?_
  refine wa_istore_n q_X7_need_1 (by decide) ?_
  refine wa_lv (nd_1 (σ0 := σ) hc hcnt hv (fun σ1 Nd1 h1 hA1 hj1 hF1 => ?_) cnt 0 σ Nd (by omega) h hA (fun j hj => by omega) mFr.rf) rfl
  refine wa_iload_n q_X7_need_32 rfl ?_
  refine wa_istore_n q_X7_need_33 (by decide) ?_
  refine wa_lv (nd_2 (σ0 := σ) hcnt hv hok (fun σ2 Nd2 h2 hA2 hN2 hF2 => ⟨rfl, Nd2, h2, hA2, hN2, hF2⟩) (v + 1) σ1 Nd1 (Nat.le_refl _) h1 hA1 ⟨by rw [hj1 v hv]; simp, fun j j1 j2 => by omega⟩ hF1) ?_
  rw [pk_m1]; rfl
end ref26
