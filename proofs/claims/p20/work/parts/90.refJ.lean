/-! The reference: sumOfMembers, whole -/
theorem t_4 {T : Nat} (h : T < BB ^ 200) : T < 4 ^ 3000 := by
  have := Nat.pow_le_pow_left (show BB ≤ 4 ^ 15 by decide) 200
  rw [← Nat.pow_mul] at this
  exact Nat.lt_of_lt_of_le h this
abbrev gL (X : en_X) (n : Nat) (f : Nat → Int64) : va_E := .inl (X.2.2.1.2.1, n, .inr (.inl f))
section ref19
variable {X : en_X} {σ : en_S} {M : Nat → Nat} {O : Int32 × Int32 × Int32 × Int32 × Int32} {C Z : Nat → Nat} {G : Nat → Int32} {V : Nat → Int}
theorem wn_glald {y : en_M} {ρ : en_S} {pc nx : Nat} {lv : List (Nat × Value)} {st : List Value} {Q : Option Value → en_S → Prop} {a j n : Nat} {f : Nat → Int64} (q : decode y.2.1 pc = .ok (.laload, 1) ∧ pc + 1 = nx) (h : look σ a = some (gL X n f)) (hj : j < n ∧ n < 2 ^ 31) (k : WA X y ρ nx lv (.long (f j) :: st) σ Q) : WA X y ρ pc lv (.int (nI j) :: .ref a :: st) σ Q :=
  wa_lald q h (vp_in_nI hj.1 hj.2) (by rw [nI_clamp (by omega)]; exact k)
theorem R_mem {x u T : Nat} {alt : Bool} {K : Nat → Int32} {N1 : Nat → Int64} (h : rV X σ M O C Z G V) (hx : 2 ≤ x) (hx2 : x ≤ 100000) (hu : u < 60) (hK : alt = true ↔ K u = nI 2) (hN : N1 u = lN x) (hT : T < BB ^ 200) (v7 : V 7 = (T : Int)) (m1 : M 4 ≠ M 1) (m2 : M 4 ≠ M 2) (m3 : M 4 ≠ M 3) (hk : look σ (M 4) = some (gA X 60 K)) (ho : look σ (M 5) = some (gL X 60 N1)) :
    Calls X M_X7_sumOfMembers [.ref (M 0), .int (nI u)] σ (fun res τ => res = some (.long (lN (4 * (mmGo x alt 3000 0 (T / x) 0).2 + 8))) ∧ (mmGo x alt 3000 0 (T / x) 0).2 ≤ 100000 ∧ (mmGo x alt 3000 0 (T / x) 0).1.natAbs ≤ 100000 * T ∧ ∃ C' Z' G' V', rV X τ M O C' Z' G' V' ∧ V' 6 = (mmGo x alt 3000 0 (T / x) 0).1 ∧ (∀ j, 7 ≤ j → V' j = V j) ∧ mSt M σ τ) := by
  have hB : BB = 1000000000 := rfl
  obtain ⟨a0, a1, a2, a3, n1, n2, n3⟩ := id h.1
  have hq : T / x ≤ T := Nat.div_le_self _ _
  refine Calls.of rfl (lk rfl) ?_
  refine wa_aload_n q_X7_sumOfMembers_0 rfl ?_
  refine wa_getf q_X7_sumOfMembers_1 f_RX7_23 (by assumption) rfl ?_
  refine wa_iload_n q_X7_sumOfMembers_4 rfl ?_
  refine wn_glald q_X7_sumOfMembers_5 ho (by omega) ?_
  rw [hN]
  refine wa_lstore_n q_X7_sumOfMembers_6 (by decide) ?_
  refine wa_aload_n q_X7_sumOfMembers_7 rfl ?_
  refine wa_bipush q_X7_sumOfMembers_8 (v := nI 7) (by decide) ?_
  refine wa_iconst q_X7_sumOfMembers_10 (v := nI 0) (by decide) ?_
  refine wa_callV q_X7_sumOfMembers_11 g_X7_sumOfMembers_11 w_X7_copyTo (by assumption) rfl (av := [_, _]) rfl rfl (lk rfl) (Calls.mono (R_copy h (a := 7) (b := 0) (by decide) (by decide)) ?_)
  rintro _ σ1 ⟨rfl, C1, Z1, G1, h1, s1⟩
  rw [v7] at h1
  obtain ⟨b0, b1, b2, b3, -⟩ := id h1.1
  refine wa_aload_n q_X7_sumOfMembers_14 rfl ?_
  refine wa_iconst q_X7_sumOfMembers_15 (v := nI 0) (by decide) ?_
  refine wa_lload_n q_X7_sumOfMembers_16 rfl ?_
  refine wa_callV q_X7_sumOfMembers_17 g_X7_sumOfMembers_17 w_X7_bySmall (by assumption) rfl (av := [_, _]) rfl rfl (lk rfl) (Calls.mono (R_divS h1 (r := 0) (f := x) (by decide) (by omega) (by omega)) ?_)
  rintro _ σ2 ⟨rfl, C2, Z2, G2, h2, s2⟩
  rw [uV_s, ← Int.ofNat_tdiv] at h2
  obtain ⟨c0, c1, c2, c3, -⟩ := id h2.1
  refine wa_lstore q_X7_sumOfMembers_20 (by decide) ?_
  refine wa_aload_n q_X7_sumOfMembers_22 rfl ?_
  refine wa_bipush q_X7_sumOfMembers_23 (v := nI 6) (by decide) ?_
  refine wa_lconst q_X7_sumOfMembers_25 (v := lZ 0) (by decide) ?_
  refine wa_callV q_X7_sumOfMembers_26 g_X7_sumOfMembers_26 w_X7_setTo (by assumption) rfl (av := [_, _]) rfl rfl (lk rfl) (Calls.mono (R_set h2 (r := 6) (by decide) (by decide) (by decide)) ?_)
  rintro _ σ3 ⟨rfl, C3, Z3, G3, h3, s3⟩
  refine wa_lconst q_X7_sumOfMembers_29 (v := lN 0) (by decide) ?_
  refine wa_lstore q_X7_sumOfMembers_30 (by decide) ?_
  have hL := mem_loop (X := X) (M := M) (O := O) (ρ := σ) (σ0 := σ) (V0 := V) (T := T) (Q := fun res τ => res = some (.long (lN (4 * (mmGo x alt 3000 0 (T / x) 0).2 + 8))) ∧ (mmGo x alt 3000 0 (T / x) 0).2 ≤ 100000 ∧ (mmGo x alt 3000 0 (T / x) 0).1.natAbs ≤ 100000 * T ∧ ∃ C' Z' G' V', rV X τ M O C' Z' G' V' ∧ V' 6 = (mmGo x alt 3000 0 (T / x) 0).1 ∧ (∀ j, 7 ≤ j → V' j = V j) ∧ mSt M σ τ) hx hx2 hu hK hT m1 m2 m3 hk 3000 0 (T / x) 0 (lN (((T : Int)).natAbs % x)) σ3 C3 Z3 G3 _ (by decide) (Nat.lt_of_le_of_lt hq (t_4 hT)) hq (Nat.zero_le _) h3 (by rw [uV_n (by decide), uV_s]) uV_s (fun j hj => by rw [uV_n (by omega), uV_n (by omega), uV_n (by omega)]) (s1.tr (s2.tr s3)) (fun τ C' Z' G' V' g1 g2 g3 g4 g5 g6 => ⟨rfl, g4, g3, C', Z', G', V', g1, g2, g5, g6⟩)
  exact wa_lv hL rfl
end ref19
