/-! The reference: order -/
section ref35
variable {X : en_X} {M : Nat → Nat} {cnt : Nat} {kd fs sn : Nat → Nat} {A B : Nat → Int} {K : Nat → Int32} {N1 N2 Pa Fo : Nat → Int64} {cd o3 o4 : Int32} {u v : Nat}
theorem cmp_l {x y : Int} {w : Int} (wl : -2147483648 ≤ w) (wh : w < 2147483648) (w0 : w < 0 ↔ x < y) : 0 ≤ iZ w ↔ ¬ x < y := by
  rw [← w0, show (0 : Int32) = iZ 0 from rfl, iZ_le (by decide) (by decide) wl wh]
  omega
set_option maxHeartbeats 1000000 in
theorem odr_loop {ρ σ0 : en_S} {V0 : Nat → Int} {Q : Option Value → en_S → Prop} (hFF : FFok) (hFL : FLok) (hcnt : cnt ≤ 60) (hu : u < cnt) (hv : v < cnt) (hok : ∀ i, i < cnt → vOk kd fs sn A B i ∧ mK K N1 N2 kd fs sn A B i) :
    ∀ (t p : Nat) (σ : en_S) (C Z : Nat → Nat) (G : Nat → Int32) (V : Nat → Int) (Op Nd : Nat → Bool), 10 * 2 ^ (10 - t) ≤ p → 1 ≤ p → p ≤ 2000 → t ≤ 10 → rV X σ M (cd, nI cnt, o3, o4, nI 0) C Z G V → mA X σ M K N1 N2 Op Nd Pa Fo → (∀ s, 13 ≤ s → s < 16 → V s = V0 s) → mFr M σ0 σ →
      (∀ (τ : en_S) (C Z : Nat → Nat) (G : Nat → Int32) (V : Nat → Int) (Op Nd : Nat → Bool), odF kd fs sn A B u v t p = none → rV X τ M (cd, nI cnt, o3, o4, nI 0) C Z G V → mA X τ M K N1 N2 Op Nd Pa Fo → (∀ s, 13 ≤ s → s < 16 → V s = V0 s) → mFr M σ0 τ → Q (some (.int (-3))) τ) →
      (∀ (τ : en_S) (C Z : Nat → Nat) (G : Nat → Int32) (V : Nat → Int) (Op Nd : Nat → Bool) (q D : Nat), odF kd fs sn A B u v t p = some (q, D) → q ≤ 480 → rV X τ M (cd, nI cnt, o3, o4, nI q) C Z G V → mA X τ M K N1 N2 Op Nd Pa Fo → (∀ s, 13 ≤ s → s < 16 → V s = V0 s) → mFr M σ0 τ → Q (some (.int (nI D))) τ) →
      WA X M_X7_order ρ 35 [(4, .int (nI p)), (3, .int (-3)), (0, .ref (M 0)), (1, .int (nI u)), (2, .int (nI v))] [] σ Q := by
  intro t
  induction t with
  | zero =>
    intro p σ C Z G V Op Nd hp1 hp2 hp3 ht h hA vo hF k0 k1
    have : 10 * 2 ^ (10 - 0) = 10240 := by decide
    omega
  | succ t ih =>
    intro p σ C Z G V Op Nd hp1 hp2 hp3 ht h hA vo hF k0 k1
    have eD : odF kd fs sn A B u v (t + 1) p = if 480 < p then none else match enc kd fs sn A B p u, enc kd fs sn A B p v with
      | some x, some y => if y.2 < x.1 then some (p, 1) else if x.2 < y.1 then some (p, 0) else odF kd fs sn A B u v t (p * 2)
      | _, _ => odF kd fs sn A B u v t (p * 2) := rfl
    rw [eD] at k0 k1
    have hpw : 10 * 2 ^ (10 - t) ≤ p * 2 := by
      have e : 10 - t = (10 - (t + 1)) + 1 := by omega
      rw [e, Nat.pow_succ]
      omega
    obtain ⟨a0, a1, a2, a3, -⟩ := id h.1
    refine wa_iload q_X7_order_35 rfl ?_
    refine wa_sipush q_X7_order_37 (v := nI 480) (by decide) ?_
    refine wn_icmp_gt q_X7_order_40 (by omega) (by decide) (fun hx => ?_) (fun hx => ?_)
    · refine wa_iload_n q_X7_order_206 rfl ?_
      refine wa_iret q_X7_order_207 rfl ?_
      exact k0 σ C Z G V Op Nd (if_pos hx) h hA vo hF
    rw [if_neg (by omega)] at k0 k1
    refine wa_aload_n q_X7_order_43 rfl ?_
    refine wa_getf q_X7_order_44 f_RX7_167 (by assumption) rfl ?_
    refine wn_if_ne q_X7_order_47 (by decide) (fun q => absurd q (by decide)) (fun _ => ?_)
    refine wa_aload_n q_X7_order_50 rfl ?_
    refine wa_iload_n q_X7_order_51 rfl ?_
    refine wa_iload q_X7_order_52 rfl ?_
    refine wa_callV q_X7_order_54 g_X7_order_54 w_X7_isEnclosed (by assumption) rfl (av := [_, _]) rfl rfl (lk rfl) (Calls.mono (R_encl hFF hFL h hA rfl hcnt hu hok (by omega) (by omega)) ?_)
    intro res τ hq
    obtain ⟨C1, Z1, G1, V1, Op1, Nd1, h1, hA1, o1, hF1, hq⟩ := hq
    have vo1 : ∀ s, 13 ≤ s → s < 16 → V1 s = V0 s := fun s x1 x2 => (o1 s x1 (by omega)).trans (vo s x1 x2)
    have hvj : ∀ i, i < cnt → ∀ j, j ≤ i → vOk kd fs sn A B j := fun i hi j hj => (hok j (by omega)).1
    cases he : enc kd fs sn A B p u with
    | none =>
      rw [he] at hq k0 k1
      have hq : res = some (.int (nI 0)) := hq
      subst hq
      refine wn_if_ne q_X7_order_57 (by decide) (fun q => absurd q (by decide)) (fun _ => ?_)
      refine wa_goto q_X7_order_60 ?_
      refine wa_iconst q_X7_order_197 (v := nI 2) (by decide) ?_
      refine wa_iload q_X7_order_198 rfl ?_
      refine wn_imul q_X7_order_200 ?_
      refine wa_istore q_X7_order_201 (by decide) ?_
      refine wa_goto q_X7_order_203 ?_
      rw [Nat.mul_comm 2 p]
      exact wa_lv (ih (p * 2) τ C1 Z1 G1 V1 Op1 Nd1 hpw (by omega) (by omega) (by omega) h1 hA1 vo1 (hF.tr hF1) k0 k1) rfl
    | some x =>
      rw [he] at hq k0 k1
      obtain ⟨q0, q1, q2⟩ := hq
      subst q0
      have hbx := enc_b hFL (by omega) (by omega) (hvj u hu) he
      obtain ⟨b0, b1, b2, b3, -⟩ := id h1.1
      refine wn_if_ne q_X7_order_57 (by decide) (fun _ => ?_) (fun q => absurd q (by decide))
      refine wa_aload_n q_X7_order_63 rfl ?_
      refine wa_iload_n q_X7_order_64 rfl ?_
      refine wa_callS q_X7_order_65 g_X7_order_65 w_X7_low (av := [_]) rfl rfl (lk rfl) (Calls.mono R_low ?_)
      rintro _ _ ⟨rfl, rfl⟩
      refine wa_bipush q_X7_order_68 (v := nI 6) (by decide) ?_
      refine wa_callV q_X7_order_70 g_X7_order_70 w_X7_copyTo (by assumption) rfl (av := [_, _]) rfl rfl (lk rfl) (Calls.mono (R_copy h1 (a := 20 + 2 * u) (b := 6) (by omega) (by decide)) ?_)
      rintro _ σ2 ⟨rfl, C2, Z2, G2, h2, s2⟩
      rw [q1] at h2
      obtain ⟨c0, c1, c2, c3, -⟩ := id h2.1
      refine wa_aload_n q_X7_order_73 rfl ?_
      refine wa_iload_n q_X7_order_74 rfl ?_
      refine wa_callS q_X7_order_75 g_X7_order_75 w_X7_low (av := [_]) rfl rfl (lk rfl) (Calls.mono R_low ?_)
      rintro _ _ ⟨rfl, rfl⟩
      refine wa_iconst q_X7_order_78 (v := nI 1) (by decide) ?_
      refine wn_iadd q_X7_order_79 ?_
      refine wa_bipush q_X7_order_80 (v := nI 7) (by decide) ?_
      refine wa_callV q_X7_order_82 g_X7_order_82 w_X7_copyTo (by assumption) rfl (av := [_, _]) rfl rfl (lk rfl) (Calls.mono (R_copy h2 (a := 20 + 2 * u + 1) (b := 7) (by omega) (by decide)) ?_)
      rintro _ σ3 ⟨rfl, C3, Z3, G3, h3, s3⟩
      rw [uV_n (show 20 + 2 * u + 1 ≠ 6 by omega), q2] at h3
      obtain ⟨d0, d1, d2, d3, -⟩ := id h3.1
      refine wa_aload_n q_X7_order_85 rfl ?_
      refine wa_bipush q_X7_order_86 (v := nI 6) (by decide) ?_
      refine wa_bipush q_X7_order_88 (v := nI 16) (by decide) ?_
      refine wa_callV q_X7_order_90 g_X7_order_90 w_X7_copyTo (by assumption) rfl (av := [_, _]) rfl rfl (lk rfl) (Calls.mono (R_copy h3 (a := 6) (b := 16) (by decide) (by decide)) ?_)
      rintro _ σ4 ⟨rfl, C4, Z4, G4, h4, s4⟩
      rw [uV_n (show (6 : Nat) ≠ 7 by decide), uV_s] at h4
      obtain ⟨i0, i1, i2, i3, -⟩ := id h4.1
      refine wa_aload_n q_X7_order_93 rfl ?_
      refine wa_bipush q_X7_order_94 (v := nI 7) (by decide) ?_
      refine wa_bipush q_X7_order_96 (v := nI 17) (by decide) ?_
      refine wa_callV q_X7_order_98 g_X7_order_98 w_X7_copyTo (by assumption) rfl (av := [_, _]) rfl rfl (lk rfl) (Calls.mono (R_copy h4 (a := 7) (b := 17) (by decide) (by decide)) ?_)
      rintro _ σ5 ⟨rfl, C5, Z5, G5, h5, s5⟩
      rw [uV_n (show (7 : Nat) ≠ 16 by decide), uV_s] at h5
      have e16 : uV (uV (uV (uV V1 6 x.1) 7 x.2) 16 x.1) 17 x.2 16 = x.1 := by rw [uV_n (by decide), uV_s]
      have e17 : uV (uV (uV (uV V1 6 x.1) 7 x.2) 16 x.1) 17 x.2 17 = x.2 := uV_s
      have vo5 : ∀ s, 13 ≤ s → s < 16 → uV (uV (uV (uV V1 6 x.1) 7 x.2) 16 x.1) 17 x.2 s = V0 s := fun s y1 y2 => by rw [uV_n (by omega), uV_n (by omega), uV_n (by omega), uV_n (by omega)]; exact vo1 s y1 y2
      generalize uV (uV (uV (uV V1 6 x.1) 7 x.2) 16 x.1) 17 x.2 = V5 at *
      have hA5 := (((hA1.st s2).st s3).st s4).st s5
      have hF5 := hF.tr (hF1.tr (s2.fr.tr (s3.fr.tr (s4.fr.tr s5.fr))))
      obtain ⟨j0, j1, j2, j3, -⟩ := id h5.1
      refine wa_aload_n q_X7_order_101 rfl ?_
      refine wa_iload_n q_X7_order_102 rfl ?_
      refine wa_iload q_X7_order_103 rfl ?_
      refine wa_callV q_X7_order_105 g_X7_order_105 w_X7_isEnclosed (by assumption) rfl (av := [_, _]) rfl rfl (lk rfl) (Calls.mono (R_encl hFF hFL h5 hA5 rfl hcnt hv hok (by omega) (by omega)) ?_)
      intro res τ' hq
      obtain ⟨C6, Z6, G6, V6, Op6, Nd6, h6, hA6, o6, hF6, hq⟩ := hq
      have vo6 : ∀ s, 13 ≤ s → s < 16 → V6 s = V0 s := fun s x1 x2 => (o6 s x1 (by omega)).trans (vo5 s x1 x2)
      cases he2 : enc kd fs sn A B p v with
      | none =>
        rw [he2] at hq k0 k1
        have hq : res = some (.int (nI 0)) := hq
        subst hq
        refine wn_if_ne q_X7_order_108 (by decide) (fun q => absurd q (by decide)) (fun _ => ?_)
        refine wa_goto q_X7_order_111 ?_
        refine wa_iconst q_X7_order_197 (v := nI 2) (by decide) ?_
        refine wa_iload q_X7_order_198 rfl ?_
        refine wn_imul q_X7_order_200 ?_
        refine wa_istore q_X7_order_201 (by decide) ?_
        refine wa_goto q_X7_order_203 ?_
        rw [Nat.mul_comm 2 p]
        exact wa_lv (ih (p * 2) τ' C6 Z6 G6 V6 Op6 Nd6 hpw (by omega) (by omega) (by omega) h6 hA6 vo6 (hF5.tr hF6) k0 k1) rfl
      | some y =>
        rw [he2] at hq k0 k1
        obtain ⟨q0, q3, q4⟩ := hq
        subst q0
        have hby := enc_b hFL (by omega) (by omega) (hvj v hv) he2
        have g16 : V6 16 = x.1 := (o6 16 (by decide) (by decide)).trans e16
        have g17 : V6 17 = x.2 := (o6 17 (by decide) (by decide)).trans e17
        obtain ⟨l0, l1, l2, l3, -⟩ := id h6.1
        refine wn_if_ne q_X7_order_108 (by decide) (fun _ => ?_) (fun q => absurd q (by decide))
        refine wa_aload_n q_X7_order_114 rfl ?_
        refine wa_bipush q_X7_order_115 (v := nI 17) (by decide) ?_
        refine wa_iload_n q_X7_order_117 rfl ?_
        refine wa_callS q_X7_order_118 g_X7_order_118 w_X7_low (av := [_]) rfl rfl (lk rfl) (Calls.mono R_low ?_)
        rintro _ τ' ⟨rfl, rfl⟩
        refine wa_callV q_X7_order_121 g_X7_order_121 w_X7_compareTo (by assumption) rfl (av := [_, _]) rfl rfl (lk rfl) (Calls.mono (R_cmp h6 (a := 17) (b := 20 + 2 * v) (by decide) (by omega)) ?_)
        rintro _ τ' ⟨⟨w, rfl, wl, wh, w0, w00⟩, rfl⟩
        rw [g17, q3] at w0
        have cl := cmp_l wl wh w0
        -- behind: less and greater are known
        have aft : ∀ (ls gr : Bool), (ls = true ↔ x.2 < y.1) → (gr = true ↔ y.2 < x.1) → WA X M_X7_order ρ 156 [(6, .int (nI (if gr then 1 else 0))), (5, .int (nI (if ls then 1 else 0))), (4, .int (nI p)), (3, .int (-3)), (0, .ref (M 0)), (1, .int (nI u)), (2, .int (nI v))] [] τ' Q := by
          intro ls gr hl hg
          have done : ∀ (D : Nat) (lv : List (Nat × Value)) (b : Bool × Bool), (if y.2 < x.1 then some (p, 1) else if x.2 < y.1 then some (p, 0) else odF kd fs sn A B u v t (p * 2)) = some (p, D) → b = (ls, gr) → (ls = true ∨ gr = true) → lv = [(3, .int (nI D)), (6, .int (nI (if gr then 1 else 0))), (5, .int (nI (if ls then 1 else 0))), (4, .int (nI p)), (0, .ref (M 0)), (1, .int (nI u)), (2, .int (nI v))] → WA X M_X7_order ρ 177 lv [] τ' Q := by
            intro D lv b hD _ hlg elv
            subst elv
            have st : ∀ lv2, lv2 = [(3, .int (nI D)), (6, .int (nI (if gr then 1 else 0))), (5, .int (nI (if ls then 1 else 0))), (4, .int (nI p)), (0, .ref (M 0)), (1, .int (nI u)), (2, .int (nI v))] → WA X M_X7_order ρ 188 lv2 [.ref (M 0)] τ' Q := by
              intro lv2 e2
              subst e2
              refine wa_iload q_X7_order_188 rfl ?_
              refine wa_goto q_X7_order_190 ?_
              refine wn_putf q_X7_order_194 p_RX7_167 (by assumption) (lk rfl) rfl rfl rfl (fun σ_p7 p7 f_p7 e1_p7 e2_p7 => ?_)
              have h7 := h6.s0 (O' := (cd, nI cnt, o3, o4, nI p)) p7 f_p7
              have hA7 := hA6.s0 l0 f_p7
              have kk := k1 σ_p7 C6 Z6 G6 V6 Op6 Nd6 p D hD (by omega) h7 hA7 vo6 (hF5.tr (hF6.tr (mFr.put0 f_p7 e1_p7 e2_p7)))
              obtain ⟨r0, r1, r2, r3, -⟩ := id h7.1
              refine wa_iconst q_X7_order_197 (v := nI 2) (by decide) ?_
              refine wa_iload q_X7_order_198 rfl ?_
              refine wn_imul q_X7_order_200 ?_
              refine wa_istore q_X7_order_201 (by decide) ?_
              refine wa_goto q_X7_order_203 ?_
              refine wa_iload q_X7_order_35 rfl ?_
              refine wa_sipush q_X7_order_37 (v := nI 480) (by decide) ?_
              refine wn_icmp_gt q_X7_order_40 (by omega) (by decide) (fun _ => ?_) (fun _ => ?_)
              · refine wa_iload_n q_X7_order_206 rfl ?_
                refine wa_iret q_X7_order_207 rfl ?_
                exact kk
              refine wa_aload_n q_X7_order_43 rfl ?_
              refine wa_getf q_X7_order_44 f_RX7_167 (by assumption) rfl ?_
              refine wn_if_ne q_X7_order_47 (by omega) (fun _ => ?_) (fun q => by omega)
              refine wa_iload_n q_X7_order_206 rfl ?_
              refine wa_iret q_X7_order_207 rfl ?_
              exact kk
            refine wa_aload_n q_X7_order_177 rfl ?_
            refine wa_iload q_X7_order_178 rfl ?_
            cases hls : ls
            · have hgr : gr = true := hlg.resolve_left (fun q => by rw [hls] at q; cases q)
              refine wn_if_ne q_X7_order_180 (by decide) (fun q => absurd q (by decide)) (fun _ => ?_)
              refine wa_iload q_X7_order_183 rfl ?_
              rw [hgr]
              refine wn_if_eq q_X7_order_185 (by decide) (fun q => absurd q (by decide)) (fun _ => ?_)
              exact st _ (by rw [hls, hgr])
            · refine wn_if_ne q_X7_order_180 (by decide) (fun _ => ?_) (fun q => absurd q (by decide))
              exact st _ (by rw [hls])
          refine wa_iload q_X7_order_156 rfl ?_
          cases hls : ls
          · have nl : ¬ x.2 < y.1 := fun q => by have := hl.mpr q; rw [hls] at this; cases this
            refine wn_if_eq q_X7_order_158 (by decide) (fun _ => ?_) (fun q => absurd q (by decide))
            refine wa_iload q_X7_order_165 rfl ?_
            cases hgr : gr
            · have ng : ¬ y.2 < x.1 := fun q => by have := hg.mpr q; rw [hgr] at this; cases this
              refine wn_if_eq q_X7_order_167 (by decide) (fun _ => ?_) (fun q => absurd q (by decide))
              refine wa_bipush q_X7_order_174 (v := -3) (by decide) ?_
              refine wa_istore_n q_X7_order_176 (by decide) ?_
              refine wa_aload_n q_X7_order_177 rfl ?_
              refine wa_iload q_X7_order_178 rfl ?_
              refine wn_if_ne q_X7_order_180 (by decide) (fun q => absurd q (by decide)) (fun _ => ?_)
              refine wa_iload q_X7_order_183 rfl ?_
              refine wn_if_eq q_X7_order_185 (by decide) (fun _ => ?_) (fun q => absurd q (by decide))
              refine wa_iconst q_X7_order_193 (v := nI 0) (by decide) ?_
              refine wn_putf q_X7_order_194 p_RX7_167 (by assumption) (lk rfl) rfl rfl rfl (fun σ_p7 p7 f_p7 e1_p7 e2_p7 => ?_)
              have h7 := h6.s0 (O' := (cd, nI cnt, o3, o4, nI 0)) p7 f_p7
              have hA7 := hA6.s0 l0 f_p7
              refine wa_iconst q_X7_order_197 (v := nI 2) (by decide) ?_
              refine wa_iload q_X7_order_198 rfl ?_
              refine wn_imul q_X7_order_200 ?_
              refine wa_istore q_X7_order_201 (by decide) ?_
              refine wa_goto q_X7_order_203 ?_
              rw [Nat.mul_comm 2 p]
              have er : (if y.2 < x.1 then some (p, 1) else if x.2 < y.1 then some (p, 0) else odF kd fs sn A B u v t (p * 2)) = odF kd fs sn A B u v t (p * 2) := by rw [if_neg ng, if_neg nl]
              exact wa_lv (ih (p * 2) σ_p7 C6 Z6 G6 V6 Op6 Nd6 hpw (by omega) (by omega) (by omega) h7 hA7 vo6 (hF5.tr (hF6.tr (mFr.put0 f_p7 e1_p7 e2_p7))) (fun τ C Z G V Op Nd r => k0 τ C Z G V Op Nd (er.trans r)) (fun τ C Z G V Op Nd q' D r => k1 τ C Z G V Op Nd q' D (er.trans r))) rfl
            · have gg := hg.mp hgr
              refine wn_if_eq q_X7_order_167 (by decide) (fun q => absurd q (by decide)) (fun _ => ?_)
              refine wa_iconst q_X7_order_170 (v := nI 1) (by decide) ?_
              refine wa_goto q_X7_order_171 ?_
              refine wa_istore_n q_X7_order_176 (by decide) ?_
              exact wa_lv (done 1 _ (ls, gr) (if_pos gg) rfl (Or.inr hgr) (by rw [hls, hgr])) rfl
          · have ll := hl.mp hls
            have ng : ¬ y.2 < x.1 := by omega
            refine wn_if_eq q_X7_order_158 (by decide) (fun q => absurd q (by decide)) (fun _ => ?_)
            refine wa_iconst q_X7_order_161 (v := nI 0) (by decide) ?_
            refine wa_goto q_X7_order_162 ?_
            refine wa_istore_n q_X7_order_176 (by decide) ?_
            exact wa_lv (done 0 _ (ls, gr) (by rw [if_neg ng, if_pos ll]) rfl (Or.inl hls) (by rw [hls])) rfl
        have mid : ∀ (ls : Bool), (ls = true ↔ x.2 < y.1) → WA X M_X7_order ρ 132 [(4, .int (nI p)), (3, .int (-3)), (0, .ref (M 0)), (1, .int (nI u)), (2, .int (nI v))] [.int (nI (if ls then 1 else 0))] τ' Q := by
          intro ls hl
          refine wa_istore q_X7_order_132 (by decide) ?_
          refine wa_aload_n q_X7_order_134 rfl ?_
          refine wa_iload_n q_X7_order_135 rfl ?_
          refine wa_callS q_X7_order_136 g_X7_order_136 w_X7_low (av := [_]) rfl rfl (lk rfl) (Calls.mono R_low ?_)
          rintro _ _ ⟨rfl, rfl⟩
          refine wa_iconst q_X7_order_139 (v := nI 1) (by decide) ?_
          refine wn_iadd q_X7_order_140 ?_
          refine wa_bipush q_X7_order_141 (v := nI 16) (by decide) ?_
          refine wa_callV q_X7_order_143 g_X7_order_143 w_X7_compareTo (by assumption) rfl (av := [_, _]) rfl rfl (lk rfl) (Calls.mono (R_cmp h6 (a := 20 + 2 * v + 1) (b := 16) (by omega) (by decide)) ?_)
          rintro _ _ ⟨⟨w', rfl, wl', wh', w0', w00'⟩, rfl⟩
          rw [g16, q4] at w0'
          have cg := cmp_l wl' wh' w0'
          refine wa_if_ge q_X7_order_146 (fun z => ?_) (fun z => ?_)
          · refine wa_iconst q_X7_order_153 (v := nI 0) (by decide) ?_
            refine wa_istore q_X7_order_154 (by decide) ?_
            exact wa_lv (aft ls false hl ⟨fun q => (by cases q), fun q => absurd q (cg.mp z)⟩) rfl
          · refine wa_iconst q_X7_order_149 (v := nI 1) (by decide) ?_
            refine wa_goto q_X7_order_150 ?_
            refine wa_istore q_X7_order_154 (by decide) ?_
            exact wa_lv (aft ls true hl ⟨fun _ => Decidable.byContradiction (fun q => z (cg.mpr q)), fun _ => rfl⟩) rfl
        refine wa_if_ge q_X7_order_124 (fun z => ?_) (fun z => ?_)
        · refine wa_iconst q_X7_order_131 (v := nI 0) (by decide) ?_
          exact wa_lv (mid false ⟨fun q => (by cases q), fun q => absurd q (cl.mp z)⟩) rfl
        · refine wa_iconst q_X7_order_127 (v := nI 1) (by decide) ?_
          refine wa_goto q_X7_order_128 ?_
          exact wa_lv (mid true ⟨fun _ => Decidable.byContradiction (fun q => z (cl.mpr q)), fun _ => rfl⟩) rfl
end ref35
section ref36
variable {X : en_X} {σ τ : en_S} {M : Nat → Nat} {cnt : Nat} {kd fs sn : Nat → Nat} {A B : Nat → Int} {hd : Bool} {td lo hi : Int} {qc : Nat} {qs : Nat → Int} {sa : Nat}
theorem T_order {w x : Int32} (hFF : FFok) (hFL : FLok) (h : mW X σ M cnt kd fs sn A B hd td lo hi qc qs sa) :
    Calls X M_X7_order [.ref (M 0), .int w, .int x] σ (fun res τ => mFr M σ τ ∧ ((((∀ v, v < cnt → w ≠ nI v) ∨ (∀ v, v < cnt → x ≠ nI v)) ∧ res = some (.int (-1)) ∧ mW X τ M cnt kd fs sn A B hd td lo hi qc qs sa) ∨ (∃ u v, u < cnt ∧ w = nI u ∧ v < cnt ∧ x = nI v ∧ ((ods kd fs sn A B u v = none ∧ res = some (.int (-3)) ∧ mW X τ M cnt kd fs sn A B hd td lo hi qc qs 0) ∨ (∃ q D, ods kd fs sn A B u v = some (q, D) ∧ res = some (.int (nI D)) ∧ mW X τ M cnt kd fs sn A B hd td lo hi qc qs q))))) := by
  obtain ⟨cd, a0⟩ := h.ob
  have hc := h.c60
  obtain ⟨QQ, hQQ⟩ : ∃ QQ : Option Value → en_S → Prop, QQ = (fun res τ => mFr M σ τ ∧ ((((∀ v, v < cnt → w ≠ nI v) ∨ (∀ v, v < cnt → x ≠ nI v)) ∧ res = some (.int (-1)) ∧ mW X τ M cnt kd fs sn A B hd td lo hi qc qs sa) ∨ (∃ u v, u < cnt ∧ w = nI u ∧ v < cnt ∧ x = nI v ∧ ((ods kd fs sn A B u v = none ∧ res = some (.int (-3)) ∧ mW X τ M cnt kd fs sn A B hd td lo hi qc qs 0) ∨ (∃ q D, ods kd fs sn A B u v = some (q, D) ∧ res = some (.int (nI D)) ∧ mW X τ M cnt kd fs sn A B hd td lo hi qc qs q))))) := ⟨_, rfl⟩
  rw [← hQQ]
  refine Calls.of rfl (lk rfl) ?_
  refine wa_aload_n q_X7_order_0 rfl ?_
  refine wa_iconst q_X7_order_1 (v := nI 0) (by decide) ?_
  refine wn_putf q_X7_order_2 p_RX7_43 (by assumption) (lk rfl) rfl rfl rfl (fun σ_p1 p1 f_p1 e1_p1 e2_p1 => ?_)
  have hF := mFr.put0 f_p1 e1_p1 e2_p1
  have h1 := h.c0 (fun _ _ => p1) f_p1
  have no : ((∀ v, v < cnt → w ≠ nI v) ∨ (∀ v, v < cnt → x ≠ nI v)) → WA X M_X7_order σ 21 (lv_args 0 [.ref (M 0), .int w, .int x]) [] σ_p1 QQ := by
    intro hq
    refine wa_iconst q_X7_order_21 (v := -1) (by decide) ?_
    refine wa_iret q_X7_order_22 rfl ?_
    rw [hQQ]
    exact ⟨hF, Or.inl ⟨hq, rfl, h1⟩⟩
  refine wa_aload_n q_X7_order_5 rfl ?_
  refine wa_iload_n q_X7_order_6 rfl ?_
  refine wa_callV q_X7_order_7 g_X7_order_7 w_X7_isValue (by assumption) rfl (av := [_]) rfl rfl (lk rfl) (Calls.mono (R_isVal p1 hc) ?_)
  rintro _ τ1 ⟨hres, eτ⟩
  rw [eτ]
  rcases hres with ⟨u, hu, eu, rfl⟩ | ⟨hu, rfl⟩
  rotate_left
  · refine wn_if_eq q_X7_order_10 (by decide) (fun _ => ?_) (fun q => absurd q (by decide))
    exact no (Or.inl hu)
  refine wn_if_eq q_X7_order_10 (by decide) (fun q => absurd q (by decide)) (fun _ => ?_)
  refine wa_aload_n q_X7_order_13 rfl ?_
  refine wa_iload_n q_X7_order_14 rfl ?_
  refine wa_callV q_X7_order_15 g_X7_order_15 w_X7_isValue (by assumption) rfl (av := [_]) rfl rfl (lk rfl) (Calls.mono (R_isVal p1 hc) ?_)
  rintro _ τ2 ⟨hres, eτ2⟩
  rw [eτ2]
  rcases hres with ⟨v, hv, ev, rfl⟩ | ⟨hv, rfl⟩
  rotate_left
  · refine wn_if_ne q_X7_order_18 (by decide) (fun q => absurd q (by decide)) (fun _ => ?_)
    exact no (Or.inr hv)
  refine wn_if_ne q_X7_order_18 (by decide) (fun _ => ?_) (fun q => absurd q (by decide))
  subst eu ev
  obtain ⟨cd', C, Z, G, V, K, N1, N2, Op, Nd, Pa, Fo, g, gA, ⟨c1, c2, c3⟩, wo, ⟨v1, v2, v3⟩, wp⟩ := id h1
  obtain ⟨b0, b1, b2, b3, -⟩ := id g.1
  refine wa_aload_n q_X7_order_23 rfl ?_
  refine wa_iconst q_X7_order_24 (v := nI 0) (by decide) ?_
  refine wn_putf q_X7_order_25 p_RX7_167 (by assumption) (lk rfl) rfl rfl rfl (fun σ_p2 p2 f_p2 e1_p2 e2_p2 => ?_)
  have h2 := g.s0 (O' := (cd', nI cnt, nI (if hd then 1 else 0), nI qc, nI 0)) p2 f_p2
  have hA2 := gA.s0 b0 f_p2
  refine wa_bipush q_X7_order_28 (v := -3) (by decide) ?_
  refine wa_istore_n q_X7_order_30 (by decide) ?_
  refine wa_bipush q_X7_order_31 (v := nI 10) (by decide) ?_
  refine wa_istore q_X7_order_33 (by decide) ?_
  refine wa_lv (odr_loop (σ0 := σ) (V0 := V) hFF hFL hc hu hv wo 10 10 σ_p2 C Z G V Op Nd (by omega) (by omega) (by omega) (by decide) h2 hA2 (fun _ _ _ => rfl) (hF.tr (mFr.put0 f_p2 e1_p2 e2_p2)) (fun τ C' Z' G' V' Op' Nd' r1 r2 r3 r4 r5 => ?_) (fun τ C' Z' G' V' Op' Nd' q D r1 r0 r2 r3 r4 r5 => ?_)) rfl
  · rw [hQQ]
    exact ⟨r5, Or.inr ⟨u, v, hu, rfl, hv, rfl, Or.inl ⟨r1, rfl, cd', C', Z', G', V', K, N1, N2, Op', Nd', Pa, Fo, r2, r3, ⟨c1, c2, by decide⟩, wo, ⟨(r4 13 (by decide) (by decide)).trans v1, (r4 14 (by decide) (by decide)).trans v2, (r4 15 (by decide) (by decide)).trans v3⟩, wp⟩⟩⟩
  · rw [hQQ]
    exact ⟨r5, Or.inr ⟨u, v, hu, rfl, hv, rfl, Or.inr ⟨q, D, r1, rfl, cd', C', Z', G', V', K, N1, N2, Op', Nd', Pa, Fo, r2, r3, ⟨c1, c2, r0⟩, wo, ⟨(r4 13 (by decide) (by decide)).trans v1, (r4 14 (by decide) (by decide)).trans v2, (r4 15 (by decide) (by decide)).trans v3⟩, wp⟩⟩⟩
end ref36
