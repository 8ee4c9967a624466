/-! EnclosedDigits$Encloser: enclosed, its loop and its contract -/
theorem lim_s {q : Int × Int} (h : q.1.natAbs < 10 ^ 800 ∧ q.2.natAbs < 10 ^ 800) : lim (some q) = some q := by
  simp only [lim]
  rw [if_pos h]
theorem lim_n {q : Int × Int} (h : ¬ (q.1.natAbs < 10 ^ 800 ∧ q.2.natAbs < 10 ^ 800)) : lim (some q) = none := by
  simp only [lim]
  rw [if_neg h]
section encl2
variable {X : en_X} {z : Nat → Nat} {sl : Nat} {va : Nat → Nat} {mk N : Nat} {kd fs sn : Nat → Nat} {A B : Nat → Int} {e bn se v p i cnt : Nat} {M : Int64} {ρ : en_S} {Q : Option Value → en_S → Prop}
theorem wa_astoreV {y : en_M} {σ : en_S} {pc nx i : Nat} {lv : List (Nat × Value)} {st : List Value} {w : Value} (hw : w = .null ∨ ∃ a, w = .ref a) (q : decode y.2.1 pc = .ok (.astore i, 2) ∧ pc + 2 = nx) (hn : i < y.2.2.1) (k : WA X y ρ nx (en_s1 lv i w) st σ Q) : WA X y ρ pc lv (w :: st) σ Q := by
  rcases hw with rfl | ⟨a, rfl⟩
  · exact wa_astoreN q hn k
  · exact wa_astore q hn k
theorem cOk.keep {at' op fa at2 op2 fa2 : Nat → Nat} {U U' : Nat → Int} {j : Nat} (h : cOk kd fs sn at' op fa A B U j) (h1 : at2 j = at' j) (h2 : op2 j = op j) (h3 : fa2 j = fa j) (h4 : U' (28 + 3 * j) = U (28 + 3 * j)) (h5 : U' (28 + 3 * j + 1) = U (28 + 3 * j + 1)) (h6 : U' (28 + 3 * j + 2) = U (28 + 3 * j + 2)) : cOk kd fs sn at2 op2 fa2 A B U' j := by
  unfold cOk
  rw [h1, h2, h3, h4, h5, h6]
  exact h
/-- what stands while values are enclosed -/
def eI (X : en_X) (z : Nat → Nat) (N : Nat) (e bn se sl : Nat) (va : Nat → Nat) (mk cnt : Nat) (kd fs sn : Nat → Nat) (A B : Nat → Int) (σ : en_S) (S : Nat → en_B) (U : Nat → Int) (at' op fa : Nat → Nat) : Prop :=
  zW X z N σ S U ∧ eO σ z e bn se ∧ sO σ z se ∧ vW X σ z sl va mk kd fs sn at' op fa A B ∧ (∀ j, j < cnt → cOk kd fs sn at' op fa A B U j)
theorem eI.st {σ τ : en_S} {S T : Nat → en_B} {U U' : Nat → Int} {at' op fa : Nat → Nat} (h : eI X z N e bn se sl va mk cnt kd fs sn A B σ S U at' op fa) (hz : zW X z N τ T U') (s : bw_St (zD z N) σ S τ T) (hU : ∀ j, 28 ≤ j → U' j = U j) : eI X z N e bn se sl va mk cnt kd fs sn A B τ T U' at' op fa := by
  obtain ⟨h1, h2, h3, h4, h5⟩ := h
  exact ⟨hz, h2.st s h1.R, h3.st s h1.R, h4.st s h1.R, fun j hj => (h5 j hj).keep rfl rfl rfl (hU _ (by omega)) (hU _ (by omega)) (hU _ (by omega))⟩
set_option maxHeartbeats 2000000 in
theorem E_body {σ : en_S} {S : Nat → en_B} {U : Nat → Int} {at' op fa : Nat → Nat} (hFL : FLok) (h : eI X z N e bn se sl va mk cnt kd fs sn A B σ S U at' op fa) (hi : i < cnt) (hc : cnt ≤ mk) (hN : N = 28 + 3 * mk) (hp1 : 1 ≤ p) (hp : p ≤ 480) (hok : ∀ j, j < cnt → vOk kd fs sn A B j) (hpt : 5 ≤ kd i → at' (fs i) = p ∧ at' (sn i) = p)
    (k : ∀ σ' S' U' op' fa' w8 w9, eI X z N e bn se sl va mk cnt kd fs sn A B σ' S' U' (un at' i p) op' fa' → (∀ j, 15 ≤ j → j < 28 → U' j = U j) → bw_Sx (vX va mk) (zD z N) σ S σ' S' → WA X M_X2_enclosed ρ 309 (enL e sl v p M i (va i) w8 w9) [] σ' Q) :
    WA X M_X2_enclosed ρ 53 [(7, .ref (va i)), (6, .int (nI i)), (4, .long M), (0, .ref e), (1, .ref sl), (2, .int (nI v)), (3, .int (nI p))] [] σ Q := by
  obtain ⟨hz, ho, hs, hV, hck⟩ := h
  have hv := hV.at (i := i) (by omega)
  have hb := hV.2.2.2.2.2 i (by omega)
  obtain ⟨o1, o2, o3, o4, o5, o6⟩ := hok i hi
  -- behind both parts
  have main : ∀ w8 w9, (5 ≤ kd i → w8 = .ref (va (fs i)) ∧ w9 = .ref (va (sn i))) → WA X M_X2_enclosed ρ 79 (enL e sl v p M i (va i) w8 w9) [] σ Q := by
    intro w8 w9 hw
    refine wa_aload q_X2_enclosed_79 rfl ?_
    refine wa_iload_n q_X2_enclosed_81 rfl ?_
    refine wn_putf q_X2_enclosed_82 p_RX2_65 (by assumption) (lk rfl) rfl rfl rfl (fun σ_p1 p1 f_p1 e1_p1 e2_p1 => ?_)
    have hz1 := hz.ext f_p1 hv (by decide) e1_p1
    have t1 : bw_Sx (fun q => q = va i) (zD z N) σ S σ_p1 S := bw_Sx.put f_p1 rfl e1_p1 e2_p1
    have hV1 : vW X σ_p1 z sl va mk kd fs sn (un at' i p) op fa A B := hV.set (by omega) (by
      rw [p1]
      show _ = some (vEi _ _ _ _ _ _ _ _ _ i)
      unfold vEi
      rw [un_s]; rfl) f_p1 e1_p1 (fun j hj => ⟨un_n hj, rfl, rfl⟩) ⟨by rw [un_s]; exact hp, hb.2.2.2.2.1, hb.2.2.2.2.2⟩
    have hv1 := hV1.at (i := i) (by omega)
    have hE : ∀ q, q = va i → vX va mk q := fun q hq => ⟨i, by omega, hq⟩
    have hne := vX_no hV ho.1 (by decide)
    have hnb := vX_no hV ho.2.2.1 (by decide)
    have hns := vX_no hV hs.1 (by decide)
    have keep : ∀ (σ2 : en_S) (S2 : Nat → en_B) (U2 : Nat → Int) (op2 fa2 : Nat → Nat), zW X z N σ2 S2 U2 → vW X σ2 z sl va mk kd fs sn (un at' i p) op2 fa2 A B → cOk kd fs sn (un at' i p) op2 fa2 A B U2 i → (∀ j, j ≠ i → op2 j = op j ∧ fa2 j = fa j) → (∀ j, 15 ≤ j → j ≠ 28 + 3 * i → j ≠ 28 + 3 * i + 1 → j ≠ 28 + 3 * i + 2 → U2 j = U j) → bw_Sx (fun q => q = va i) (zD z N) σ S σ2 S2 → WA X M_X2_enclosed ρ 309 (enL e sl v p M i (va i) w8 w9) [] σ2 Q := by
      intro σ2 S2 U2 op2 fa2 w2 v2 c2 hj hfr t2
      have t2 := t2.mono hE
      refine k σ2 S2 U2 op2 fa2 w8 w9 ⟨w2, ho.x t2 hz.R hne hnb, hs.x t2 hz.R hns, v2, fun j hjc => ?_⟩ (fun j j1 j2 => hfr j j1 (by omega) (by omega) (by omega)) t2
      by_cases e : j = i
      · subst e; exact c2
      · exact (hck j hjc).keep (un_n e) (hj j e).1 (hj j e).2 (hfr _ (by omega) (by omega) (by omega) (by omega)) (hfr _ (by omega) (by omega) (by omega) (by omega)) (hfr _ (by omega) (by omega) (by omega) (by omega))
    -- it is opn at once, or filled
    have setO : ∀ o, o < 2 → (o = 1 → 5 ≤ kd i ∧ (op (fs i) = 1 ∨ op (sn i) = 1)) → (o = 0 → 5 ≤ kd i → op (fs i) = 0 ∧ op (sn i) = 0) → WA X M_X2_enclosed ρ 117 (enL e sl v p M i (va i) w8 w9) [.int (nI o), .ref (va i)] σ_p1 Q := by
      intro o ho2 h1 h0
      refine wn_putf q_X2_enclosed_117 p_RX2_75 hv1 (lk rfl) (nar01 ho2) (fit01 ho2) rfl (fun σ2 p2 f2 g1 g2 => ?_)
      have hz2 := hz1.ext f2 hv1 (by decide) g1
      have t2 : bw_Sx (fun q => q = va i) (zD z N) σ S σ2 S := t1.tr (bw_Sx.put f2 rfl g1 g2)
      have hV2 : vW X σ2 z sl va mk kd fs sn (un at' i p) (un op i o) fa A B := hV1.set (by omega) (by
        rw [p2]
        show _ = some (vEi _ _ _ _ _ _ _ _ _ i)
        unfold vEi
        rw [un_s, un_s]; rfl) f2 g1 (fun j hj => ⟨rfl, un_n hj, rfl⟩) ⟨by rw [un_s]; exact hp, by rw [un_s]; exact ho2, hb.2.2.2.2.2⟩
      have hv2 := hV2.at (i := i) (by omega)
      refine wa_aload q_X2_enclosed_120 rfl ?_
      refine wa_getf q_X2_enclosed_122 f_RX2_75 (by assumption) rfl ?_
      rw [un_s]
      refine wn_if_eq q_X2_enclosed_125 (by omega) (fun hx => ?_) (fun hx => ?_)
      · have ho3 := ho.x (t2.mono hE) hz.R hne hnb
        have hs3 := hs.x (t2.mono hE) hz.R hns
        refine E_fill hFL hz2 ho3 hs3 hV2 (by omega) hN hp1 hp (fun j hj => hok j (by omega)) (by rw [un_s]; exact hx) (hck i hi).2 (fun h5 => ?_) (fun σ3 S3 U3 op3 fa3 g => ?_)
        · obtain ⟨f1, f2⟩ := o5 h5
          obtain ⟨a1, a2⟩ := hpt h5
          obtain ⟨b1, b2⟩ := h0 hx h5
          refine ⟨(hw h5).1, (hw h5).2, ?_, ?_⟩
          · have := (hck (fs i) (by omega)).1 (by omega)
            rw [a1] at this
            rcases this with q | q
            · omega
            · exact q.2
          · have := (hck (sn i) (by omega)).1 (by omega)
            rw [a2] at this
            rcases this with q | q
            · omega
            · exact q.2
        · obtain ⟨g1, g2, g3, g4, g5, g6, g7⟩ := g
          refine E_end g1 g2 (by omega) hN (fun σ4 o4 b1 b2 w4 v4 f4 e4 e5 => ?_)
          refine keep σ4 S3 U3 _ fa3 w4 v4 ⟨fun _ => ?_, g5⟩ (fun j hj => ⟨(un_n hj).trans ((g4 j hj).1.trans (un_n hj)), (g4 j hj).2⟩) g6 (t2.tr (g7.tr (bw_Sx.put f4 rfl e4 e5)))
          rw [un_s, un_s, enc_eq (hok i hi)]
          rcases g3 with ⟨c1, c2⟩ | ⟨c1, c2⟩
          · left
            exact ⟨by omega, by rw [c2]; rfl⟩
          · rw [c2]
            by_cases cb : (U3 (28 + 3 * i)).natAbs < 10 ^ 800 ∧ (U3 (28 + 3 * i + 1)).natAbs < 10 ^ 800
            · right
              exact ⟨b2.mpr ⟨c1, cb⟩, lim_s cb⟩
            · left
              have hne0 : o4 ≠ 0 := fun q => cb (b2.mp q).2
              exact ⟨by omega, lim_n cb⟩
      · have h1' := h1 (by omega)
        obtain ⟨f1, f2⟩ := o5 h1'.1
        obtain ⟨a1, a2⟩ := hpt h1'.1
        refine wa_goto q_X2_enclosed_128 ?_
        refine keep σ2 S U _ fa hz2 hV2 ⟨fun _ => Or.inl ⟨by rw [un_s]; omega, ?_⟩, (hck i hi).2⟩ (fun j hj => ⟨un_n hj, rfl⟩) (fun _ _ _ _ _ => rfl) t2
        rw [un_s, enc_eq (hok i hi), raw_n h1'.1 ?_]
        · rfl
        · rcases h1'.2 with q | q
          · left
            have := (hck (fs i) (by omega)).1 (by omega)
            rw [a1] at this
            rcases this with w | w
            · exact w.2
            · omega
          · right
            have := (hck (sn i) (by omega)).1 (by omega)
            rw [a2] at this
            rcases this with w | w
            · exact w.2
            · omega
    refine wa_aload q_X2_enclosed_85 rfl ?_
    refine wa_aload q_X2_enclosed_87 rfl ?_
    refine wa_getf q_X2_enclosed_89 f_RX2_68 (by assumption) rfl ?_
    refine wa_iconst q_X2_enclosed_92 (v := nI 5) (by decide) ?_
    refine wn_icmp_lt q_X2_enclosed_93 (by omega) (by decide) (fun hx => ?_) (fun hx => ?_)
    · refine wa_iconst q_X2_enclosed_116 (v := nI 0) (by decide) ?_
      exact setO 0 (by decide) (fun q => absurd q (by decide)) (fun _ q => by omega)
    · obtain ⟨f1, f2⟩ := o5 hx
      obtain ⟨e8, e9⟩ := hw hx
      subst e8
      subst e9
      have hbf := hV.2.2.2.2.2 (fs i) (by omega)
      have hbs := hV.2.2.2.2.2 (sn i) (by omega)
      have one : (op (fs i) = 1 ∨ op (sn i) = 1) → WA X M_X2_enclosed ρ 112 (enL e sl v p M i (va i) (.ref (va (fs i))) (.ref (va (sn i)))) [.ref (va i)] σ_p1 Q := fun hq => by
        refine wa_iconst q_X2_enclosed_112 (v := nI 1) (by decide) ?_
        refine wa_goto q_X2_enclosed_113 ?_
        exact setO 1 (by decide) (fun _ => ⟨hx, hq⟩) (fun q => absurd q (by decide))
      refine wa_aload q_X2_enclosed_96 rfl ?_
      refine wa_callS q_X2_enclosed_98 g_X2_enclosed_98 w_X2_isOpen (av := [_]) rfl rfl (lk rfl) (Calls.mono (F_open hV1 (i := fs i) (by omega)) ?_)
      rintro _ _ ⟨rfl, rfl⟩
      refine wn_if_ne q_X2_enclosed_101 (by omega) (fun hy => ?_) (fun hy => ?_)
      · exact one (Or.inl (by omega))
      · refine wa_aload q_X2_enclosed_104 rfl ?_
        refine wa_callS q_X2_enclosed_106 g_X2_enclosed_106 w_X2_isOpen (av := [_]) rfl rfl (lk rfl) (Calls.mono (F_open hV1 (i := sn i) (by omega)) ?_)
        rintro _ _ ⟨rfl, rfl⟩
        refine wn_if_eq q_X2_enclosed_109 (by omega) (fun hw => ?_) (fun hw => ?_)
        · refine wa_iconst q_X2_enclosed_116 (v := nI 0) (by decide) ?_
          exact setO 0 (by decide) (fun q => absurd q (by decide)) (fun _ _ => ⟨hy, hw⟩)
        · exact one (Or.inr (by omega))
  by_cases h5 : 5 ≤ kd i
  · obtain ⟨f1, f2⟩ := o5 h5
    refine wa_aload_n q_X2_enclosed_53 rfl ?_
    refine wa_aload q_X2_enclosed_54 rfl ?_
    refine wa_getf q_X2_enclosed_56 f_RX2_52 (by assumption) rfl ?_
    refine wa_iload q_X2_enclosed_59 rfl ?_
    refine wa_callS q_X2_enclosed_61 g_X2_enclosed_61 w_X2_partOf (av := [_, _, _]) rfl rfl (lk rfl) (Calls.mono (F_part hV (c := fs i) (i := i) (by omega) (by omega)) ?_)
    rintro _ _ ⟨rfl, rfl⟩
    refine wa_astore q_X2_enclosed_64 (by decide) ?_
    refine wa_aload_n q_X2_enclosed_66 rfl ?_
    refine wa_aload q_X2_enclosed_67 rfl ?_
    refine wa_getf q_X2_enclosed_69 f_RX2_62 (by assumption) rfl ?_
    refine wa_iload q_X2_enclosed_72 rfl ?_
    refine wa_callS q_X2_enclosed_74 g_X2_enclosed_74 w_X2_partOf (av := [_, _, _]) rfl rfl (lk rfl) (Calls.mono (F_part hV (c := sn i) (i := i) (by omega) (by omega)) ?_)
    rintro _ _ ⟨rfl, rfl⟩
    refine wa_astore q_X2_enclosed_77 (by decide) ?_
    exact wa_lv (main _ _ (fun _ => ⟨rfl, rfl⟩)) rfl
  · refine wa_aload_n q_X2_enclosed_53 rfl ?_
    refine wa_aload q_X2_enclosed_54 rfl ?_
    refine wa_getf q_X2_enclosed_56 f_RX2_52 (by assumption) rfl ?_
    refine wa_iload q_X2_enclosed_59 rfl ?_
    refine wa_callS q_X2_enclosed_61 g_X2_enclosed_61 w_X2_partOf (av := [_, _, _]) rfl rfl (lk rfl) (Calls.mono (F_partA hV (c := fs i) (i := i) (by omega) (by omega)) ?_)
    rintro r8 _ ⟨hr8, rfl⟩
    obtain ⟨w8, rfl, hw8⟩ : ∃ w8, r8 = some w8 ∧ (w8 = .null ∨ ∃ a, w8 = .ref a) := by
      rcases hr8 with q | ⟨b, q⟩
      · exact ⟨_, q, Or.inl rfl⟩
      · exact ⟨_, q, Or.inr ⟨b, rfl⟩⟩
    refine wa_astoreV hw8 q_X2_enclosed_64 (by decide) ?_
    refine wa_aload_n q_X2_enclosed_66 rfl ?_
    refine wa_aload q_X2_enclosed_67 rfl ?_
    refine wa_getf q_X2_enclosed_69 f_RX2_62 (by assumption) rfl ?_
    refine wa_iload q_X2_enclosed_72 rfl ?_
    refine wa_callS q_X2_enclosed_74 g_X2_enclosed_74 w_X2_partOf (av := [_, _, _]) rfl rfl (lk rfl) (Calls.mono (F_partA hV (c := sn i) (i := i) (by omega) (by omega)) ?_)
    rintro r9 _ ⟨hr9, rfl⟩
    obtain ⟨w9, rfl, hw9⟩ : ∃ w9, r9 = some w9 ∧ (w9 = .null ∨ ∃ a, w9 = .ref a) := by
      rcases hr9 with q | ⟨b, q⟩
      · exact ⟨_, q, Or.inl rfl⟩
      · exact ⟨_, q, Or.inr ⟨b, rfl⟩⟩
    refine wa_astoreV hw9 q_X2_enclosed_77 (by decide) ?_
    have hm := main w8 w9 (fun q => absurd q h5)
    rcases hw8 with rfl | ⟨a8, rfl⟩
    · exact wa_lv hm rfl
    · exact wa_lv hm rfl
theorem E_loop {σ0 : en_S} {S0 : Nat → en_B} {U0 : Nat → Int} {at0 : Nat → Nat} (hFL : FLok) (hv : v < cnt) (hc : cnt ≤ mk) (hN : N = 28 + 3 * mk) (hp1 : 1 ≤ p) (hp : p ≤ 480) (hok : ∀ j, j < cnt → vOk kd fs sn A B j) (hM : mkI M v p 0 kd fs sn at0)
    (k : ∀ σ' S' U' at2 op2 fa2, eI X z N e bn se sl va mk cnt kd fs sn A B σ' S' U' at2 op2 fa2 → at2 v = p → (∀ j, at2 j = at0 j ∨ at2 j = p) → (∀ j, 15 ≤ j → j < 28 → U' j = U0 j) → bw_Sx (vX va mk) (zD z N) σ0 S0 σ' S' → Q (some (.ref (va v))) σ') :
    ∀ (t i : Nat) (σ : en_S) (S : Nat → en_B) (U : Nat → Int) (at' op fa : Nat → Nat), t + i = v + 1 → eI X z N e bn se sl va mk cnt kd fs sn A B σ S U at' op fa → (∀ j, b64 M j = false → at' j = at0 j) → (∀ j, j < i → b64 M j = true → at' j = p) → (∀ j, i ≤ j → at' j = at0 j) → (∀ j, 15 ≤ j → j < 28 → U j = U0 j) → bw_Sx (vX va mk) (zD z N) σ0 S0 σ S →
      WA X M_X2_enclosed ρ 23 [(6, .int (nI i)), (4, .long M), (0, .ref e), (1, .ref sl), (2, .int (nI v)), (3, .int (nI p))] [] σ Q := by
  intro t
  induction t with
  | zero =>
    intro i σ S U at' op fa hti h q1 q2 q3 hfr hst
    obtain ⟨hz, ho, hs, hV, hck⟩ := id h
    obtain ⟨⟨g, h1, h2⟩, h3, h4, h5, h6, h7⟩ := hV
    refine wa_iload q_X2_enclosed_23 rfl ?_
    refine wa_iload_n q_X2_enclosed_25 rfl ?_
    refine wn_icmp_gt q_X2_enclosed_26 (by omega) (by omega) (fun hx => ?_) (fun hx => ?_)
    · refine wa_aload_n q_X2_enclosed_315 rfl ?_
      refine wa_iload_n q_X2_enclosed_316 rfl ?_
      refine wn_aald q_X2_enclosed_317 h1 (by omega) (by decide) (by rw [h2 v (by omega), if_pos (by omega)]) ?_
      refine wa_aret q_X2_enclosed_318 rfl (Or.inl ⟨_, rfl⟩) (Or.inr ⟨_, rfl⟩) ?_
      refine k σ S U at' op fa h ?_ (fun j => ?_) hfr hst
      · rcases hM.1 with w | w
        · exact q2 v (by omega) w
        · cases hb : b64 M v
          · rw [q1 v hb]; exact w.2
          · exact q2 v (by omega) hb
      · cases hb : b64 M j
        · exact Or.inl (q1 j hb)
        · by_cases hj : j < i
          · exact Or.inr (q2 j hj hb)
          · exact Or.inl (q3 j (by omega))
    · omega
  | succ t ih =>
    intro i σ S U at' op fa hti h q1 q2 q3 hfr hst
    obtain ⟨hz, ho, hs, hV, hck⟩ := id h
    have hmk := hV.2.2.2.2.1
    obtain ⟨⟨g, h1, h2⟩, h3, h4, h5, h6, h7⟩ := id hV
    refine wa_iload q_X2_enclosed_23 rfl ?_
    refine wa_iload_n q_X2_enclosed_25 rfl ?_
    refine wn_icmp_gt q_X2_enclosed_26 (by omega) (by omega) (fun hx => ?_) (fun hx => ?_)
    · omega
    refine wa_aload_n q_X2_enclosed_29 rfl ?_
    refine wa_iload q_X2_enclosed_30 rfl ?_
    refine wn_aald q_X2_enclosed_32 h1 (by omega) (by decide) (by rw [h2 i (by omega), if_pos (by omega)]) ?_
    refine wa_astore q_X2_enclosed_33 (by decide) ?_
    refine wa_aload q_X2_enclosed_35 rfl ?_
    refine wa_ifnull q_X2_enclosed_37 ?_
    refine wa_lload q_X2_enclosed_40 rfl ?_
    refine wa_iload q_X2_enclosed_42 rfl ?_
    refine wa_callS q_X2_enclosed_44 g_X2_enclosed_44 w_X2_isMarked (av := [_, _]) rfl rfl (lk rfl) (Calls.mono (F_marked (i := i) (by omega)) ?_)
    rintro _ _ ⟨rfl, rfl⟩
    cases hb : b64 M i
    · refine wn_if_ne q_X2_enclosed_47 (by decide) (fun q => absurd q (by decide)) (fun _ => ?_)
      refine wa_goto q_X2_enclosed_50 ?_
      refine wn_iinc q_X2_enclosed_309 rfl (by decide) ?_
      refine wa_goto q_X2_enclosed_312 ?_
      refine wa_lv (ih (i + 1) _ S U at' op fa (by omega) h q1 (fun j j1 j2 => ?_) (fun j j1 => q3 j (by omega)) hfr hst) rfl
      by_cases e : j = i
      · rw [e, hb] at j2; cases j2
      · exact q2 j (by omega) j2
    · refine wn_if_ne q_X2_enclosed_47 (by decide) (fun _ => ?_) (fun q => absurd q (by decide))
      have hmi := hM.2 i (Nat.zero_le _) (by omega) hb
      refine wa_lv (lv' := [(7, .ref (va i)), (6, .int (nI i)), (4, .long M), (0, .ref e), (1, .ref sl), (2, .int (nI v)), (3, .int (nI p))]) ?_ rfl
      refine E_body hFL h (by omega) hc hN hp1 hp hok (fun k5 => ?_) (fun σ2 S2 U2 op2 fa2 w8 w9 g1 g2 g3 => ?_)
      · obtain ⟨-, -, -, -, o5, -⟩ := hok i (by omega)
        obtain ⟨f1, f2⟩ := o5 k5
        have part : ∀ c, c < i → (b64 M c = true ∨ 0 ≤ c ∧ at0 c = p) → at' c = p := by
          intro c hc hw
          cases hbc : b64 M c
          · rw [q1 c hbc]
            rcases hw with w | w
            · rw [hbc] at w; cases w
            · exact w.2
          · exact q2 c hc hbc
        exact ⟨part _ f1 (hmi.2 k5).1, part _ f2 (hmi.2 k5).2⟩
      · refine wn_iinc q_X2_enclosed_309 rfl (by decide) ?_
        refine wa_goto q_X2_enclosed_312 ?_
        refine wa_lv (ih (i + 1) σ2 S2 U2 _ op2 fa2 (by omega) g1 (fun j hj => ?_) (fun j j1 j2 => ?_) (fun j j1 => ?_) (fun j j1 j2 => (g2 j j1 j2).trans (hfr j j1 j2)) (hst.tr g3)) rfl
        · have e : j ≠ i := fun q => by rw [q, hb] at hj; cases hj
          rw [un_n e]; exact q1 j hj
        · by_cases e : j = i
          · rw [e, un_s]
          · rw [un_n e]; exact q2 j (by omega) j2
        · rw [un_n (by omega)]; exact q3 j (by omega)
/-- the enclosure of the v-th VALUE at p is found -/
theorem G_encl {σ : en_S} {S : Nat → en_B} {U : Nat → Int} {at' op fa : Nat → Nat} (hFL : FLok) (h : eI X z N e bn se sl va mk cnt kd fs sn A B σ S U at' op fa) (hv : v < cnt) (hc : cnt ≤ mk) (hN : N = 28 + 3 * mk) (hp1 : 1 ≤ p) (hp : p ≤ 480) (hok : ∀ j, j < cnt → vOk kd fs sn A B j) :
    Calls X M_X2_enclosed [.ref e, .ref sl, .int (nI v), .int (nI p)] σ (fun res τ => res = some (.ref (va v)) ∧ ∃ S' U' at2 op2 fa2, eI X z N e bn se sl va mk cnt kd fs sn A B τ S' U' at2 op2 fa2 ∧ at2 v = p ∧ (∀ j, at2 j = at' j ∨ at2 j = p) ∧ (∀ j, 15 ≤ j → j < 28 → U' j = U j) ∧ bw_Sx (vX va mk) (zD z N) σ S τ S') := by
  obtain ⟨hz, ho, hs, hV, hck⟩ := id h
  have hmk := hV.2.2.2.2.1
  obtain ⟨⟨g, h1, h2⟩, h3, h4, h5, h6, h7⟩ := id hV
  refine Calls.of rfl (lk rfl) ?_
  refine wa_iload_n q_X2_enclosed_0 rfl ?_
  refine wn_if_lt q_X2_enclosed_1 (by omega) (fun hx => ?_) (fun hx => ?_)
  · exact absurd hx id
  refine wa_iload_n q_X2_enclosed_4 rfl ?_
  refine wa_aload_n q_X2_enclosed_5 rfl ?_
  refine wn_aalen q_X2_enclosed_6 h1 ?_
  refine wn_icmp_lt q_X2_enclosed_7 (by omega) (by omega) (fun hx => ?_) (fun hx => ?_)
  · refine wa_aload_n q_X2_enclosed_12 rfl ?_
    refine wa_iload_n q_X2_enclosed_13 rfl ?_
    refine wa_iload_n q_X2_enclosed_14 rfl ?_
    refine wa_callS q_X2_enclosed_15 g_X2_enclosed_15 w_X2_neededFor (av := [_, _, _]) rfl rfl (lk rfl) (Calls.mono (F_need hV (v := v) (p := p) (by omega) hp (fun j hj h5 => by obtain ⟨-, -, -, -, o5, -⟩ := hok j (by omega); exact o5 h5)) ?_)
    rintro _ _ ⟨⟨M, rfl, hM⟩, rfl⟩
    refine wa_lstore q_X2_enclosed_18 (by decide) ?_
    refine wa_iconst q_X2_enclosed_20 (v := nI 0) (by decide) ?_
    refine wa_istore q_X2_enclosed_21 (by decide) ?_
    exact wa_lv (E_loop hFL hv hc hN hp1 hp hok hM (fun σ' S' U' a2 o2 f2 c1 c2 c3 c4 c5 => ⟨rfl, S', U', a2, o2, f2, c1, c2, c3, c4, c5⟩) (v + 1) 0 _ S U at' op fa rfl h (fun _ _ => rfl) (fun j hj => by omega) (fun _ _ => rfl) (fun _ _ _ => rfl) (bw_Sx.rf _ _ _)) rfl
  · omega
end encl2
