/-! EnclosedDigits: make, walked -/
section mak2
variable {X : en_X} {σ τ : en_S} {ms me : Nat} {K : Nat → Nat} {cnt : Nat} {kd fs sn : Nat → Nat} {A B : Nat → Int} {tl qc : Nat} {qs : Nat → Int} {sa P0 P1 : Nat} {z va : Nat → Nat} {mk : Nat} {S T : Nat → en_B} {U U' : Nat → Int} {at' op fa : Nat → Nat} {o1 u1 r1 o2 u2 r2 : Nat} {g : Nat → Int64}
theorem zW.extA {N a : Nat} {en : va_E} (h : zW X z N σ S U) (hf : ∀ q, q ≠ a → look τ q = look σ q) (hl : look σ a = some en) (h1 : ∀ l, en ≠ .inr (1, l)) (h2 : ∀ n d, en ≠ ar X n d) (e1 : τ.1 = σ.1) : zW X z N τ S U := by
  obtain ⟨h0, V, g1, g2⟩ := h
  obtain ⟨y1, y2⟩ := bw_no g1.1 hl h1 h2
  exact ⟨h0, V, ⟨g1.1.ext hf y1 y2 e1, g1.2⟩, g2⟩
/-- one more VALUE's room is made, behind those that are used -/
theorem cWi.grow {v : Nat} {g2 : Nat → Option Nat} (h : cWi X σ ms me K cnt kd fs sn A B tl qc qs sa P0 P1 z va mk S U at' op fa o1 u1 r1 o2 u2 r2 g) (hc : cnt = mk) (hm : mk < 60) (hve : v = σ.1) (hz : zW X (zx z (28 + 3 * mk) (v + 1)) (28 + 3 * mk + 3) τ (Sx S v) (Ux U (28 + 3 * mk))) (hv : look τ v = some (vE 0 0 0 0 0 0 0 (v + 1) (v + 1 + 2) 0 (v + 1 + 4))) (hsl : look τ (K 1) = some (sA X 60 g2)) (hg2 : ∀ i, i < 60 → g2 i = if i < mk + 1 then some (un va mk v i) else none) (hf : ∀ q, q < σ.1 → q ≠ K 1 → look τ q = look σ q) (e1 : τ.1 = σ.1 + 7) (e2 : τ.2.1 = σ.2.1 + 44) :
    cWi X τ ms me K cnt (un kd mk 0) (un fs mk 0) (un sn mk 0) (unI A mk 0) (unI B mk 0) tl qc qs sa P0 P1 (zx z (28 + 3 * mk) (v + 1)) (un va mk v) (mk + 1) (Sx S v) (Ux U (28 + 3 * mk)) (un at' mk 0) (un op mk 0) (un fa mk 0) o1 u1 r1 o2 u2 r2 g := by
  obtain ⟨⟨a1, a2⟩, ⟨w1, w2, w3, w4, w5⟩, ⟨f1, f2, f3⟩, ⟨q1, q2, q3, q4, q5⟩, ⟨c1, c2, c3, c4, c5, c6, c7, c8⟩, ⟨k1, k2, k3, k4, k5⟩, p1, p2⟩ := h
  have eN : 28 + 3 * (mk + 1) = 28 + 3 * mk + 3 := by omega
  have zlo : ∀ i, i < 28 + 3 * mk → zx z (28 + 3 * mk) (v + 1) i = z i := fun i hi => if_pos hi
  have ulo : ∀ i, i < 28 + 3 * mk → Ux U (28 + 3 * mk) i = U i := fun i hi => if_pos hi
  have zlt : ∀ i, i < 28 + 3 * mk → z i < σ.1 := fun i hi => w1.lt hi
  obtain ⟨⟨gg, y1, y2⟩, y3, y4, y5, y6, y7⟩ := id w4
  have nn : ∀ {q ci : Nat} {l : List Value}, look σ q = some (.inr (ci, l)) → q ≠ K 1 := fun {q ci l} hl e => by rw [e, y1] at hl; cases hl
  have nl : ∀ {q : Nat} {g : Nat → Int64}, look σ q = some (lA X 40 g) → q ≠ K 1 := fun {q g} hl e => by
    rw [e, y1] at hl
    have := congrArg (fun (w : va_E) => match w with | Sum.inl q => (match q.2.2 with | Sum.inr (Sum.inl _) => true | _ => false) | _ => true) (Option.some.inj hl)
    cases this
  have fx : ∀ {fr b o u r : Nat}, fO σ z fr b o u r → b + 4 ≤ 28 → fO τ (zx z (28 + 3 * mk) (v + 1)) fr b o u r := by
    intro fr b o u r h hb
    obtain ⟨x1, x2, x3, x4, x5, x6, x7, x8⟩ := h
    refine ⟨?_, by omega, x3, x4, x5, x6, x7, x8⟩
    rw [hf _ x2 (nn x1), x1, zlo o (by omega), zlo u (by omega), zlo r (by omega), zlo b (by omega)]
  have tot : bw_tot (zD (zx z (28 + 3 * mk) (v + 1)) (28 + 3 * mk + 3)) (Sx S v) = bw_tot (zD z (28 + 3 * mk)) S + 8 * 3 := tot_more (fun i hi => by rw [hve]; exact zlt i hi) (by omega) 3
  refine ⟨⟨?_, by omega⟩, ⟨by rw [eN]; exact hz, ⟨?_, by have := w2.2.1; omega, ?_, by have := w2.2.2.2; omega⟩, ⟨?_, by have := w3.2; omega⟩, ⟨⟨g2, hsl, hg2⟩, by omega, fun i hi => ?_, fun i j hi hj e => ?_, by omega, fun i hi => ?_⟩, fun j hj => ?_⟩, ⟨fx f1 (by decide), fx f2 (by decide), f3⟩, ⟨(hf _ q2 (nl q1)).trans q1, by omega, (hf _ q4 (nl q3)).trans q3, by omega, q5⟩, ⟨by omega, fun j hj => ?_, c3, c4, c5, ?_, ?_, ?_⟩, ⟨k1, fun i hi => ?_, fun i hi => ?_, by omega, k5⟩, ?_, ?_⟩
  · rw [hf _ a2 (nn a1), a1, zlo 15 (by omega), zlo 16 (by omega), zlo 17 (by omega), zlo 18 (by omega), zlo 19 (by omega)]
  · rw [hf _ w2.2.1 (nn w2.1), w2.1, zlo 0 (by omega), zlo 1 (by omega), zlo 2 (by omega), zlo 3 (by omega), zlo 4 (by omega)]
  · rw [hf _ w2.2.2.2 (nn w2.2.2.1), w2.2.2.1, zlo 5 (by omega), zlo 6 (by omega), zlo 7 (by omega), zlo 8 (by omega), zlo 9 (by omega)]
  · rw [hf _ w3.2 (nn w3.1), w3.1, zlo 10 (by omega), zlo 11 (by omega), zlo 12 (by omega), zlo 13 (by omega), zlo 14 (by omega)]
  · by_cases e : i = mk
    · subst e
      refine ⟨?_, by rw [un_s]; omega⟩
      rw [un_s, hv]
      show _ = some (vEi _ _ _ _ _ _ _ _ _ i)
      unfold vEi
      rw [un_s, un_s, un_s, un_s, un_s, un_s, unI_s, unI_s]
      unfold zx
      rw [if_neg (by omega), if_neg (by omega), if_neg (by omega)]
      rw [show v + 1 + 2 * (28 + 3 * i - (28 + 3 * i)) = v + 1 by omega, show v + 1 + 2 * (28 + 3 * i + 1 - (28 + 3 * i)) = v + 1 + 2 by omega, show v + 1 + 2 * (28 + 3 * i + 2 - (28 + 3 * i)) = v + 1 + 4 by omega]
      rfl
    · have hi' : i < mk := by omega
      rw [un_n e]
      refine ⟨?_, by have := (y4 i hi').2; omega⟩
      rw [hf _ (y4 i hi').2 (nn (y4 i hi').1), (y4 i hi').1]
      show some (vEi _ _ _ _ _ _ _ _ _ i) = some (vEi _ _ _ _ _ _ _ _ _ i)
      unfold vEi
      rw [un_n e, un_n e, un_n e, un_n e, un_n e, un_n e, unI_n e, unI_n e, zlo _ (by omega), zlo _ (by omega), zlo _ (by omega)]
  · by_cases ei : i = mk
    · by_cases ej : j = mk
      · omega
      · rw [ei, un_s, un_n ej] at e
        have := (y4 j (by omega)).2
        omega
    · by_cases ej : j = mk
      · rw [ej, un_s, un_n ei] at e
        have := (y4 i (by omega)).2
        omega
      · rw [un_n ei, un_n ej] at e
        exact y5 i j (by omega) (by omega) e
  · by_cases e : i = mk
    · subst e; rw [un_s, un_s, un_s, un_s, un_s, un_s]; decide
    · rw [un_n e, un_n e, un_n e, un_n e, un_n e, un_n e]; exact y7 i (by omega)
  · exact (w5 j hj).cg (fun i hi => ⟨un_n (by omega), un_n (by omega), un_n (by omega), unI_n (by omega), unI_n (by omega)⟩) (un_n (by omega)) (un_n (by omega)) (un_n (by omega)) (ulo _ (by omega)) (ulo _ (by omega)) (ulo _ (by omega))
  · exact (c2 j hj).cg ⟨un_n (by omega), un_n (by omega), un_n (by omega), unI_n (by omega), unI_n (by omega)⟩
  · rw [ulo 17 (by omega)]; exact c6
  · rw [ulo 18 (by omega)]; exact c7
  · rw [ulo 19 (by omega)]; exact c8
  · by_cases e : i < 28 + 3 * mk
    · rw [zlo i e]
      have : Sx S v (z i) = S (z i) := if_pos (by rw [hve]; exact zlt i e)
      rw [this]
      exact k2 i e
    · have ez : zx z (28 + 3 * mk) (v + 1) i = v + 1 + 2 * (i - (28 + 3 * mk)) := if_neg e
      rw [ez]
      have es : (Sx S v (v + 1 + 2 * (i - (28 + 3 * mk)))).1 = v + 1 + 2 * (i - (28 + 3 * mk)) + 1 := by
        unfold Sx
        rw [if_neg (by omega)]
      rw [es]
      exact ⟨Or.inr (by omega), Or.inr (by omega)⟩
  · by_cases e : i = mk
    · rw [e, un_s]; exact Or.inr (by omega)
    · rw [un_n e]; exact k3 i (by omega)
  · rw [eN, tot]; omega
  · rw [eN, tot]; omega
theorem un_u {d : Nat → Nat} {k x y : Nat} : un (un d k x) k y = un d k y := by
  funext j; unfold un; split <;> rfl
theorem unI_u {d : Nat → Int} {k : Nat} {x y : Int} : unI (unI d k x) k y = unI d k y := by
  funext j; unfold unI; split <;> rfl
set_option maxHeartbeats 1000000 in
theorem M_tail {ρ : en_S} {Q : Option Value → en_S → Prop} {k f s : Nat} {a b : Int} (h : cWi X σ ms me K cnt kd fs sn A B tl qc qs sa P0 P1 z va mk S U at' op fa o1 u1 r1 o2 u2 r2 g) (hc : cnt < mk) (hok : vOk (un kd cnt k) (un fs cnt f) (un sn cnt s) (unI A cnt a) (unI B cnt b) cnt) (hf : f < 100) (hs : s < 100)
    (kk : ∀ τ, cWi X τ ms me K (cnt + 1) (un kd cnt k) (un fs cnt f) (un sn cnt s) (unI A cnt a) (unI B cnt b) tl qc qs sa P0 P1 z va mk S U (un at' cnt 0) op (un fa cnt 0) o1 u1 r1 o2 u2 r2 g → Frm ms me σ τ → Q (some (.int (nI cnt))) τ) :
    WA X M_X6_make ρ 48 [(8, .ref (va cnt)), (0, .ref (K 0)), (1, .int (nI k)), (2, .long (lZ a)), (4, .long (lZ b)), (6, .int (nI f)), (7, .int (nI s))] [] σ Q := by
  obtain ⟨⟨a1, a2⟩, ⟨w1, w2, w3, w4, w5⟩, ⟨f1, f2, f3⟩, ⟨q1, q2, q3, q4, q5⟩, ⟨c1, c2, c3, c4, c5, c6, c7, c8⟩, ⟨k1, k2, k3, k4, k5⟩, p1, p2⟩ := h
  have hv := w4.at hc
  have hvl := w4.lt hc
  have hmk := w4.2.2.2.2.1
  have hk9 : k ≤ 9 := by have := hok.1; rw [un_s] at this; exact this
  refine wa_aload q_X6_make_48 rfl ?_
  refine wa_iload_n q_X6_make_50 rfl ?_
  refine wa_lload_n q_X6_make_51 rfl ?_
  refine wa_lload q_X6_make_52 rfl ?_
  refine wa_callV q_X6_make_54 g_X6_make_54 w_X5_become (by assumption) rfl (av := [_, _, _]) rfl rfl (lk rfl) (Calls.mono (C_become hv) ?_)
  rintro _ σ1 ⟨rfl, v1, g1, e1, e2⟩
  refine wa_aload q_X6_make_57 rfl ?_
  refine wa_iload q_X6_make_59 rfl ?_
  refine wa_iload q_X6_make_61 rfl ?_
  refine wa_callV q_X6_make_63 g_X6_make_63 w_X5_stemFrom (by assumption) rfl (av := [_, _]) rfl rfl (lk rfl) (Calls.mono (C_stem v1) ?_)
  rintro _ σ2 ⟨rfl, v2, g2, e3, e4⟩
  have gg : ∀ q, q ≠ va cnt → look σ2 q = look σ q := fun q hq => (g2 q hq).trans (g1 q hq)
  have n1 : σ2.1 = σ.1 := by omega
  have nv : ∀ {q ci : Nat} {l : List Value}, look σ q = some (.inr (ci, l)) → ci ≠ 5 → q ≠ va cnt := fun {q ci l} hl hc5 e => by rw [e, hv] at hl; cases hl; exact hc5 rfl
  have na : ∀ {q : Nat} {y : ClassId × vp_A}, look σ q = some (.inl y) → q ≠ va cnt := fun {q y} hl e => by rw [e, hv] at hl; cases hl
  have o0 := (gg _ (nv a1 (by decide))).trans a1
  refine wa_aload_n q_X6_make_66 rfl ?_
  refine wa_dup q_X6_make_67 rfl ?_
  refine wa_getf q_X6_make_68 f_RX6_67 (by assumption) rfl ?_
  refine wa_iconst q_X6_make_71 (v := nI 1) (by decide) ?_
  refine wn_iadd q_X6_make_72 ?_
  refine wn_putf q_X6_make_73 p_RX6_67 (by assumption) (lk rfl) rfl rfl rfl (fun σ_p3 p3 f_p3 e1_p3 e2_p3 => ?_)
  refine wa_aload_n q_X6_make_76 rfl ?_
  refine wa_getf q_X6_make_77 f_RX6_67 (by assumption) rfl ?_
  refine wa_iconst q_X6_make_80 (v := nI 1) (by decide) ?_
  refine wn_isub q_X6_make_81 (by omega) ?_
  refine wa_iret q_X6_make_82 rfl ?_
  have hV2 : vW X σ2 z (K 1) va mk (un kd cnt k) (un fs cnt f) (un sn cnt s) (un at' cnt 0) op (un fa cnt 0) (unI A cnt a) (unI B cnt b) := w4.set2 hc (by
    rw [v2]
    show _ = some (vEi _ _ _ _ _ _ _ _ _ cnt)
    unfold vEi
    rw [un_s, un_s, un_s, un_s, un_s, unI_s, unI_s]; rfl) gg n1 (fun j hj => ⟨un_n hj, un_n hj, un_n hj, unI_n hj, unI_n hj⟩) (fun j hj => ⟨un_n hj, rfl, un_n hj⟩) (by
    have hb := w4.2.2.2.2.2 cnt hc
    rw [un_s, un_s, un_s, un_s, un_s]
    exact ⟨hk9, hf, hs, by decide, hb.2.2.2.2.1, by decide⟩)
  have hI2 : eI X z (28 + 3 * mk) (K 2) (K 3) (K 4) (K 1) va mk (cnt + 1) (un kd cnt k) (un fs cnt f) (un sn cnt s) (unI A cnt a) (unI B cnt b) σ2 S U (un at' cnt 0) op (un fa cnt 0) := by
    refine ⟨w1.ext gg hv (by decide) n1, w2.ext gg hv (by decide) (by decide) n1, ⟨(gg _ (nv w3.1 (by decide))).trans w3.1, by have := w3.2; omega⟩, hV2, fun j hj => ?_⟩
    by_cases e : j = cnt
    · subst e
      exact ⟨fun q => absurd un_s q, fun q => absurd un_s q⟩
    · exact (w5 j (by omega)).cg (fun i hi => ⟨un_n (by omega), un_n (by omega), un_n (by omega), unI_n (by omega), unI_n (by omega)⟩) (un_n e) rfl (un_n e) rfl rfl rfl
  have nf : ∀ {q ci : Nat} {l : List Value}, look σ2 q = some (.inr (ci, l)) → ci ≠ 6 → q ≠ K 0 := fun {q ci l} hl hc6 e => by rw [e, o0] at hl; cases hl; exact hc6 rfl
  have nl : ∀ {q : Nat} {y : ClassId × vp_A}, look σ2 q = some (.inl y) → q ≠ K 0 := fun {q y} hl e => by rw [e, o0] at hl; cases hl
  have f1' := (gg _ (nv f1.1 (by decide))).trans f1.1
  have f2' := (gg _ (nv f2.1 (by decide))).trans f2.1
  have q1' := (gg _ (na q1)).trans q1
  have q3' := (gg _ (na q3)).trans q3
  refine kk σ_p3 ⟨⟨p3, by omega⟩, hI2.ext f_p3 o0 (Or.inl rfl) e1_p3, ⟨⟨(f_p3 _ (nf f1' (by decide))).trans f1', by have := f1.2.1; omega, f1.2.2⟩, ⟨(f_p3 _ (nf f2' (by decide))).trans f2', by have := f2.2.1; omega, f2.2.2⟩, f3⟩, ⟨(f_p3 _ (nl q1')).trans q1', by omega, (f_p3 _ (nl q3')).trans q3', by omega, q5⟩, ⟨by omega, fun j hj => ?_, c3, c4, c5, c6, c7, c8⟩, ⟨k1, k2, k3, by omega, k5⟩, by omega, by omega⟩ (fun q x1 x2 => ?_)
  · by_cases e : j = cnt
    · subst e; exact hok
    · exact (c2 j (by omega)).cg ⟨un_n e, un_n e, un_n e, unI_n e, unI_n e⟩
  · refine (f_p3 q (fun e => ?_)).trans (gg q (fun e => ?_))
    · have := k1 0 (by decide); unfold outR at this; omega
    · have := k3 cnt hc; unfold outR at this; omega
set_option maxHeartbeats 1000000 in
theorem H_make {td lo hi : Int} {k f s : Nat} {a b : Int} (h : cW X σ ms me K cnt kd fs sn A B tl td lo hi qc qs sa P0 P1) (hok : vOk (un kd cnt k) (un fs cnt f) (un sn cnt s) (unI A cnt a) (unI B cnt b) cnt) (hf : f < 100) (hs : s < 100) :
    Calls X M_X6_make [.ref (K 0), .int (nI k), .long (lZ a), .long (lZ b), .int (nI f), .int (nI s)] σ (fun res τ => (cnt = 60 ∧ res = some (.int (-2)) ∧ τ = σ) ∨ (cnt < 60 ∧ res = some (.int (nI cnt)) ∧ cW X τ ms me K (cnt + 1) (un kd cnt k) (un fs cnt f) (un sn cnt s) (unI A cnt a) (unI B cnt b) tl td lo hi qc qs sa P0 P1 ∧ Frm ms me σ τ)) := by
  have hc60 := h.c60
  obtain ⟨z, va, mk, S, U, at', op, fa, o1, u1, r1, o2, u2, r2, g, hw, he⟩ := h
  have ho := hw.1.1
  have w4 := hw.2.1.2.2.2.1
  obtain ⟨⟨gg, y1, y2⟩, y3, y4, y5, y6, y7⟩ := id w4
  have hcm := hw.2.2.2.2.1.1
  refine Calls.of rfl (lk rfl) ?_
  refine wa_aload_n q_X6_make_0 rfl ?_
  refine wa_getf q_X6_make_1 f_RX6_67 (by assumption) rfl ?_
  refine wa_bipush q_X6_make_4 (v := nI 60) (by decide) ?_
  refine wn_icmp_lt q_X6_make_6 (by omega) (by omega) (fun hx => ?_) (fun hx => ?_)
  · refine wa_aload_n q_X6_make_12 rfl ?_
    refine wa_getf q_X6_make_13 f_RX6_11 (by assumption) rfl ?_
    refine wa_aload_n q_X6_make_16 rfl ?_
    refine wa_getf q_X6_make_17 f_RX6_67 (by assumption) rfl ?_
    by_cases hm : cnt < mk
    · refine wn_aald q_X6_make_20 y1 hx (by decide) (by rw [y2 cnt hx, if_pos hm]) ?_
      refine wa_astore q_X6_make_21 (by decide) ?_
      refine wa_aload q_X6_make_23 rfl ?_
      refine wa_ifnonnull q_X6_make_25 ?_
      exact wa_lv (M_tail hw hm hok hf hs (fun τ c1 c2 => Or.inr ⟨hx, rfl, ⟨z, va, mk, S, U, _, _, _, o1, u1, r1, o2, u2, r2, g, c1, he⟩, c2⟩)) rfl
    · have hcm' : cnt = mk := by omega
      refine wn_aaldN q_X6_make_20 y1 hx (by decide) (by rw [y2 cnt hx, if_neg hm]) ?_
      refine wa_astoreN q_X6_make_21 (by decide) ?_
      refine wa_aloadN q_X6_make_23 rfl ?_
      refine wa_ifnonnullN q_X6_make_25 ?_
      refine wn_new q_X6_make_28 n_RX6_9 (fun σ1 a1 b1 c1 d1 => ?_)
      refine wa_dup q_X6_make_31 rfl ?_
      refine wa_callIN q_X6_make_32 g_X6_make_32 w_X5_init ⟨rfl, rfl⟩ (av := []) rfl rfl (lk rfl) (Calls.mono (C_X5_init (s := σ.1 + 1) a1 (by omega) (by omega)) ?_)
      rintro _ σ2 ⟨rfl, a2, b2, c2, d2, e2⟩
      have fr2 : ∀ q, q < σ.1 → look σ2 q = look σ q := fun q hq => (c2 q (by omega) (by omega)).trans (b1 q (by omega))
      have ho2 := (fr2 _ hw.1.2).trans ho
      have y12 := (fr2 _ y3).trans y1
      have hz2 : zW X (zx z (28 + 3 * mk) (σ.1 + 1)) (28 + 3 * mk + 3) σ2 (Sx S σ.1) (Ux U (28 + 3 * mk)) := zW.more hw.2.1.1 b2 (by omega) (by omega) fr2
      refine wa_astore q_X6_make_35 (by decide) ?_
      refine wa_aload_n q_X6_make_37 rfl ?_
      refine wa_getf q_X6_make_38 f_RX6_11 (by assumption) rfl ?_
      refine wa_aload_n q_X6_make_41 rfl ?_
      refine wa_getf q_X6_make_42 f_RX6_67 (by assumption) rfl ?_
      refine wa_aload q_X6_make_45 rfl ?_
      refine wa_aast (f := gg) q_X6_make_47 y12 a2 (vp_in_nI (by omega) (by decide)) ?_
      rw [nI_clamp (by omega)]
      obtain ⟨σ3, hσ3⟩ : ∃ σ3, σ3 = put σ2 (K 1) (.inl (X.2.2.1.2.2.2, 60, .inr (.inr (.inr (.inr (va_up gg cnt (some σ.1))))))) := ⟨_, rfl⟩
      have l1 : look σ3 (K 1) = some (sA X 60 (va_up gg cnt (some σ.1))) := by rw [hσ3]; exact look_same y12
      have l2 : ∀ q, q ≠ K 1 → look σ3 q = look σ2 q := fun q hq => by rw [hσ3]; exact look_ne hq
      have l3 : σ3.1 = σ2.1 := by rw [hσ3]; rfl
      have l4 : σ3.2.1 = σ2.2.1 := by rw [hσ3]; rfl
      rw [← hσ3]
      clear hσ3
      have hK1 : K 1 < σ.1 := y3
      have hz3 := hz2.extA l2 y12 (fun l e => by cases e) (fun n d e => sA_ar e) l3
      have hg := cWi.grow (v := σ.1) (τ := σ3) hw hcm' (by omega) rfl hz3 ((l2 _ (by omega)).trans a2) l1 (fun i hi => by
        unfold va_up un
        by_cases e : i = mk
        · rw [if_pos (by omega), if_pos (by omega), if_pos e]
        · rw [if_neg (by omega), y2 i hi, if_neg e]
          by_cases e2 : i < mk
          · rw [if_pos e2, if_pos (by omega)]
          · rw [if_neg e2, if_neg (by omega)]) (fun q x1 x2 => (l2 q x2).trans (fr2 q x1)) (by omega) (by omega)
      have hok' : vOk (un (un kd mk 0) cnt k) (un (un fs mk 0) cnt f) (un (un sn mk 0) cnt s) (unI (unI A mk 0) cnt a) (unI (unI B mk 0) cnt b) cnt := by
        rw [← hcm', un_u, un_u, un_u, unI_u, unI_u]; exact hok
      have hfrm : Frm ms me σ σ3 := fun q x1 x2 => by
        have k1 := hw.2.2.2.2.2.1
        have := k1.1 1 (by decide)
        unfold outR at this
        have := k1.2.2.2.1
        exact (l2 q (by omega)).trans (fr2 q (by omega))
      have hl : un va mk σ.1 cnt = σ.1 := by rw [hcm', un_s]
      have hM := M_tail (ρ := σ) hg (by omega) hok' hf hs (Q := fun res τ => (cnt = 60 ∧ res = some (.int (-2)) ∧ τ = σ) ∨ (cnt < 60 ∧ res = some (.int (nI cnt)) ∧ cW X τ ms me K (cnt + 1) (un kd cnt k) (un fs cnt f) (un sn cnt s) (unI A cnt a) (unI B cnt b) tl td lo hi qc qs sa P0 P1 ∧ Frm ms me σ τ)) (fun τ c1 c2 => by
        rw [← hcm', un_u, un_u, un_u, unI_u, unI_u, hcm'] at c1
        rw [hcm']
        refine Or.inr ⟨by omega, rfl, ⟨_, _, _, _, _, _, _, _, o1, u1, r1, o2, u2, r2, g, c1, ?_⟩, fun q x1 x2 => (c2 q x1 x2).trans (hfrm q x1 x2)⟩
        have ulo : ∀ i, i < 28 + 3 * mk → Ux U (28 + 3 * mk) i = U i := fun i hi => if_pos hi
        rw [ulo 17 (by omega), ulo 18 (by omega), ulo 19 (by omega)]; exact he)
      rw [hl] at hM
      exact wa_lv hM rfl
  · refine wa_bipush q_X6_make_9 (v := -2) (by decide) ?_
    refine wa_iret q_X6_make_11 rfl ?_
    exact Or.inl ⟨by omega, rfl, rfl⟩
end mak2
