/-! EnclosedDigits: its world, its constructor -/
def lA (X : en_X) (n : Nat) (g : Nat → Int64) : va_E := .inl (X.2.2.1.2.1, n, .inr (.inl g))
theorem lA_ar {X : en_X} {n m : Nat} {g : Nat → Int64} {d : Nat → Nat} (e : lA X n g = ar X m d) : False := by
  have := congrArg (fun (w : va_E) => match w with | Sum.inl q => (match q.2.2 with | Sum.inl _ => true | _ => false) | _ => true) e
  cases this
abbrev mE (sl cnt e sh st td tl lb hb lf hf tq fq qc sa : Nat) : va_E := .inr (6, [.ref sl, .int (nI cnt), .ref e, .ref sh, .ref st, .ref td, .int (nI tl), .ref lb, .ref hb, .ref lf, .ref hf, .ref tq, .ref fq, .int (nI qc), .int (nI sa)])
def outR (ms me q : Nat) : Prop := q < ms ∨ me ≤ q
/-- where things stand: 0 the object, 1 slots, 2 encloser, 3 bench, 4 series, 5, 6 the fractions, 7, 8 the rows of quotients -/
def cWi (X : en_X) (σ : en_S) (ms me : Nat) (K : Nat → Nat) (cnt : Nat) (kd fs sn : Nat → Nat) (A B : Nat → Int) (tl qc : Nat) (qs : Nat → Int) (sa P0 P1 : Nat) (z va : Nat → Nat) (mk : Nat) (S : Nat → en_B) (U : Nat → Int) (at' op fa : Nat → Nat) (o1 u1 r1 o2 u2 r2 : Nat) (g : Nat → Int64) : Prop :=
  (look σ (K 0) = some (mE (K 1) cnt (K 2) (z 15) (z 16) (z 17) tl (z 18) (z 19) (K 5) (K 6) (K 7) (K 8) qc sa) ∧ K 0 < σ.1) ∧
  eI X z (28 + 3 * mk) (K 2) (K 3) (K 4) (K 1) va mk cnt kd fs sn A B σ S U at' op fa ∧
  (fO σ z (K 5) 20 o1 u1 r1 ∧ fO σ z (K 6) 24 o2 u2 r2 ∧ K 5 ≠ K 6) ∧
  (look σ (K 7) = some (lA X 40 (fun i => lZ (qs i))) ∧ K 7 < σ.1 ∧ look σ (K 8) = some (lA X 40 g) ∧ K 8 < σ.1 ∧ K 7 ≠ K 8) ∧
  (cnt ≤ mk ∧ (∀ j, j < cnt → vOk kd fs sn A B j) ∧ tl < 2 ^ 31 ∧ qc ≤ 40 ∧ sa ≤ 480 ∧ (U 17).natAbs < BB ^ 200 ∧ (U 18).natAbs < BB ^ 200 ∧ (U 19).natAbs < BB ^ 200) ∧
  ((∀ i, i < 9 → outR ms me (K i)) ∧ (∀ i, i < 28 + 3 * mk → outR ms me (z i) ∧ outR ms me (S (z i)).1) ∧ (∀ i, i < mk → outR ms me (va i)) ∧ me ≤ σ.1 ∧ ms ≤ me) ∧
  (8 * σ.1 ≤ P0 + bw_tot (zD z (28 + 3 * mk)) S + 32 * mk ∧ σ.2.1 ≤ P1 + 2 * bw_tot (zD z (28 + 3 * mk)) S)
def cW (X : en_X) (σ : en_S) (ms me : Nat) (K : Nat → Nat) (cnt : Nat) (kd fs sn : Nat → Nat) (A B : Nat → Int) (tl : Nat) (td lo hi : Int) (qc : Nat) (qs : Nat → Int) (sa P0 P1 : Nat) : Prop :=
  ∃ z va mk S U at' op fa o1 u1 r1 o2 u2 r2 g, cWi X σ ms me K cnt kd fs sn A B tl qc qs sa P0 P1 z va mk S U at' op fa o1 u1 r1 o2 u2 r2 g ∧ U 17 = td ∧ U 18 = lo ∧ U 19 = hi
theorem zW.mk {X : en_X} {σ : en_S} {z : Nat → Nat} {N : Nat} (hI : zI z N) (hb : ∀ i, i < N → look σ (z i) = some (bE 0 0 (z i + 1)) ∧ look σ (z i + 1) = some (ar X 8 (fun _ => 0)) ∧ z i + 1 < σ.1) : zW X z N σ (fun a => (a + 1, 8, 0, fun _ => 0, 0)) (fun _ => 0) := by
  refine ⟨hI, fun _ => 0, ⟨⟨fun a ha => ?_, fun a _ b _ e => by have e : a + 1 = b + 1 := e; omega⟩, fun a ha => ?_⟩, fun _ _ => rfl⟩
  · obtain ⟨i, hi, rfl⟩ := zD_e ha
    obtain ⟨h1, h2, h3⟩ := hb i hi
    exact ⟨h1, h2, Nat.zero_le _, Nat.le_refl _, by show 8 ≤ 512; decide, by omega, h3⟩
  · exact ⟨rfl, rfl, fun i hi => absurd hi (Nat.not_lt_zero _), Or.inl rfl⟩
/-- the places of the first 28 numbers, counted from the first cell that the constructor makes -/
def zoff : List Nat := [24, 26, 28, 30, 32, 3, 5, 7, 9, 11, 14, 16, 18, 20, 22, 34, 36, 38, 40, 42, 51, 45, 47, 49, 60, 54, 56, 58]
def z0 (s i : Nat) : Nat := s + zoff.getD i 0
def koff : List Nat := [1, 2, 13, 44, 53, 62, 63]
def K0 (a s i : Nat) : Nat := match i with
  | 0 => a
  | 1 => s
  | 2 => s + 1
  | 3 => s + 2
  | 4 => s + 13
  | 5 => s + 44
  | 6 => s + 53
  | 7 => s + 62
  | _ => s + 63
theorem zoff_inj : ∀ i, i < 28 → ∀ j, j < 28 → zoff.getD i 0 = zoff.getD j 0 → i = j := by decide +kernel
theorem zoff_cl : ∀ i, i < 28 → (∃ k, k < 5 ∧ zoff.getD i 0 = 3 + 2 * k) ∨ (∃ k, k < 5 ∧ zoff.getD i 0 = 14 + 2 * k) ∨ (∃ k, k < 5 ∧ zoff.getD i 0 = 24 + 2 * k) ∨ (∃ k, k < 5 ∧ zoff.getD i 0 = 34 + 2 * k) ∨ (∃ k, k < 4 ∧ zoff.getD i 0 = 45 + 2 * k) ∨ (∃ k, k < 4 ∧ zoff.getD i 0 = 54 + 2 * k) := by decide +kernel
section main0
variable {X : en_X}
set_option maxHeartbeats 2000000 in
theorem C_X6_init {σ : en_S} {a s : Nat} (ha : look σ a = some (.inr (6, [.null, .int 0, .null, .null, .null, .null, .int 0, .null, .null, .null, .null, .null, .null, .int 0, .int 0]))) (hal : a < σ.1) (hs : σ.1 = s) :
    Calls X M_X6_init [.ref a] σ (fun res τ => res = none ∧ τ.1 = s + 64 ∧ (∀ q, q ≠ a → q < s → look τ q = look σ q) ∧ cW X τ (s + 64) (s + 64) (K0 a s) 0 (fun _ => 0) (fun _ => 0) (fun _ => 0) (fun _ => 0) (fun _ => 0) 0 0 0 0 0 (fun _ => 0) 0 (8 * s + 600) (σ.2.1 + 600)) := by
  refine Calls.of rfl (lk rfl) ?_
  refine wa_aload_n q_X6_init_0 rfl ?_
  refine wa_objInit q_X6_init_1 o_RX6_1 (lk rfl) (lk rfl) ?_
  refine wa_aload_n q_X6_init_4 rfl ?_
  refine wa_bipush q_X6_init_5 (v := nI 60) (by decide) ?_
  refine wa_newq (N := 60) q_X6_init_7 c_RX6_9 (by decide) (by decide) (by decide) ?_
  obtain ⟨σ1, hσ1⟩ : ∃ σ1, σ1 = fresh σ 60 (.inl (X.2.2.1.2.2.2, 60, .inr (.inr (.inr (.inr (fun _ => none)))))) := ⟨_, rfl⟩
  have a1 : look σ1 s = some (sA X 60 (fun _ => none)) := by rw [hσ1, ← hs]; exact look_fresh
  have b1 : ∀ q, q ≠ s → look σ1 q = look σ q := fun q hq => by rw [hσ1]; exact look_old (by omega)
  have c1 : σ1.1 = s + 1 := by rw [hσ1, ← hs]; rfl
  have d1 : σ1.2.1 = σ.2.1 + 60 := by rw [hσ1]; rfl
  rw [← hσ1]
  clear hσ1
  have h1 := (b1 a (by omega)).trans ha
  refine wn_putF q_X6_init_10 p_RX6_11 rfl (fun C T N w => by cases w; rfl) h1 (lk rfl) rfl rfl rfl (fun σ2 p2 f2 u2 v2 => ?_)
  have sl2 := (f2 s (by omega)).trans a1
  have fr2 : ∀ q, q ≠ a → q < s → look σ2 q = look σ q := fun q w1 w2 => (f2 q w1).trans (b1 q (by omega))
  refine wa_aload_n q_X6_init_13 rfl ?_
  refine wn_new q_X6_init_14 n_RX6_15 (fun σ3 a3 b3 c3 d3 => ?_)
  have n2 : σ2.1 = s + 1 := by omega
  refine wa_dup q_X6_init_17 rfl ?_
  refine wa_callIN q_X6_init_18 g_X6_init_18 w_X2_init ⟨rfl, rfl⟩ (av := []) rfl rfl (lk rfl) (Calls.mono (C_X2_init (s := s + 2) a3 (by omega) (by omega)) ?_)
  rintro _ σ4 ⟨rfl, e1, e2, e3, e4, e5, e6, e7, e8, e9⟩
  rw [n2] at e1 e7 b3
  have h4 := (e7 a (by omega) (by omega)).trans ((b3 a (by omega)).trans p2)
  refine wn_putF q_X6_init_21 p_RX6_18 rfl (fun C T N w => by cases w; rfl) h4 (lk rfl) rfl rfl rfl (fun σ5 p5 f5 u5 v5 => ?_)
  have n5 : σ5.1 = s + 34 := by omega
  have g5 : ∀ q, q ≠ a → q < s + 1 → look σ5 q = look σ2 q := fun q w1 w2 => (f5 q w1).trans ((e7 q (by omega) (by omega)).trans (b3 q (by omega)))
  have sl5 := (g5 s (by omega) (by omega)).trans sl2
  have fr5 : ∀ q, q ≠ a → q < s → look σ5 q = look σ q := fun q w1 w2 => (g5 q w1 (by omega)).trans (fr2 q w1 w2)
  have en5 := (f5 (s + 1) (by omega)).trans e1
  have bn5 := (f5 (s + 2) (by omega)).trans e2
  have bb5 := e3.keep (a := a) (by omega) f5
  have se5 := (f5 (s + 2 + 11) (by omega)).trans e4
  have sb5 := e5.keep (a := a) (by omega) f5
  have eb5 := e6.keep (a := a) (by omega) f5
  clear e1 e2 e3 e4 e5 e6 e7 sl2 fr2 g5 b3 a1 b1 h1
  have b0 : bigs X σ5 (s + 34) 0 := fun k hk => absurd hk (Nat.not_lt_zero _)
  have fz : ∀ q, q ≠ a → q < s + 34 → look σ5 q = look σ5 q := fun _ _ _ => rfl
  refine wa_aload_n q_X6_init_24 rfl ?_
  refine wn_big q_X6_init_25 n_RX6_22 q_X6_init_28 q_X6_init_29 g_X6_init_29 w_X1_init (lk rfl) (fun σ7 x7 y7 c7 d7 e7 => ?_)
  have h7 := (c7 a (by omega) (by omega)).trans p5
  refine wn_putF q_X6_init_32 p_RX6_25 rfl (fun C T N w => by cases w; rfl) h7 (lk rfl) rfl rfl rfl (fun σ8 p8 f8 u8 v8 => ?_)
  have b8 : bigs X σ8 (s + 34) 1 := (b0.add (by omega) x7 y7 c7).keep (by omega) f8
  have z8 : ∀ q, q ≠ a → q < s + 34 → look σ8 q = look σ5 q := fun q w1 w2 => (f8 q w1).trans ((c7 q (by omega) (by omega)).trans (fz q w1 w2))
  refine wa_aload_n q_X6_init_35 rfl ?_
  refine wn_big q_X6_init_36 n_RX6_22 q_X6_init_39 q_X6_init_40 g_X6_init_40 w_X1_init (lk rfl) (fun σ9 x9 y9 c9 d9 e9 => ?_)
  have h9 := (c9 a (by omega) (by omega)).trans p8
  refine wn_putF q_X6_init_43 p_RX6_29 rfl (fun C T N w => by cases w; rfl) h9 (lk rfl) rfl rfl rfl (fun σA pA fA uA vA => ?_)
  have bA : bigs X σA (s + 34) 2 := (b8.add (by omega) x9 y9 c9).keep (by omega) fA
  have zA : ∀ q, q ≠ a → q < s + 34 → look σA q = look σ5 q := fun q w1 w2 => (fA q w1).trans ((c9 q (by omega) (by omega)).trans (z8 q w1 w2))
  refine wa_aload_n q_X6_init_46 rfl ?_
  refine wn_big q_X6_init_47 n_RX6_22 q_X6_init_50 q_X6_init_51 g_X6_init_51 w_X1_init (lk rfl) (fun σB xB yB cB dB eB => ?_)
  have hB := (cB a (by omega) (by omega)).trans pA
  refine wn_putF q_X6_init_54 p_RX6_32 rfl (fun C T N w => by cases w; rfl) hB (lk rfl) rfl rfl rfl (fun σC pC fC uC vC => ?_)
  have bC : bigs X σC (s + 34) 3 := (bA.add (by omega) xB yB cB).keep (by omega) fC
  have zC : ∀ q, q ≠ a → q < s + 34 → look σC q = look σ5 q := fun q w1 w2 => (fC q w1).trans ((cB q (by omega) (by omega)).trans (zA q w1 w2))
  refine wa_aload_n q_X6_init_57 rfl ?_
  refine wn_big q_X6_init_58 n_RX6_22 q_X6_init_61 q_X6_init_62 g_X6_init_62 w_X1_init (lk rfl) (fun σD xD yD cD dD eD => ?_)
  have hD := (cD a (by omega) (by omega)).trans pC
  refine wn_putF q_X6_init_65 p_RX6_35 rfl (fun C T N w => by cases w; rfl) hD (lk rfl) rfl rfl rfl (fun σE pE fE uE vE => ?_)
  have bE' : bigs X σE (s + 34) 4 := (bC.add (by omega) xD yD cD).keep (by omega) fE
  have zE : ∀ q, q ≠ a → q < s + 34 → look σE q = look σ5 q := fun q w1 w2 => (fE q w1).trans ((cD q (by omega) (by omega)).trans (zC q w1 w2))
  refine wa_aload_n q_X6_init_68 rfl ?_
  refine wn_big q_X6_init_69 n_RX6_22 q_X6_init_72 q_X6_init_73 g_X6_init_73 w_X1_init (lk rfl) (fun σF xF yF cF dF eF => ?_)
  have hF := (cF a (by omega) (by omega)).trans pE
  refine wn_putF q_X6_init_76 p_RX6_38 rfl (fun C T N w => by cases w; rfl) hF (lk rfl) rfl rfl rfl (fun σG pG fG uG vG => ?_)
  have bG : bigs X σG (s + 34) 5 := (bE'.add (by omega) xF yF cF).keep (by omega) fG
  have zG : ∀ q, q ≠ a → q < s + 34 → look σG q = look σ5 q := fun q w1 w2 => (fG q w1).trans ((cF q (by omega) (by omega)).trans (zE q w1 w2))
  have nG : σG.1 = s + 44 := by omega
  refine wa_aload_n q_X6_init_79 rfl ?_
  refine wn_new q_X6_init_80 n_RX6_41 (fun σH aH bH cH dH => ?_)
  refine wa_dup q_X6_init_83 rfl ?_
  refine wa_callIN q_X6_init_84 g_X6_init_84 w_X3_init ⟨rfl, rfl⟩ (av := []) rfl rfl (lk rfl) (Calls.mono (C_X3_init (s := s + 45) aH (by omega) (by omega)) ?_)
  rintro _ σI ⟨rfl, i1, i2, i3, i4, i5⟩
  rw [nG] at i1 i3 bH
  have hI := (i3 a (by omega) (by omega)).trans ((bH a (by omega)).trans pG)
  refine wn_putF q_X6_init_87 p_RX6_44 rfl (fun C T N w => by cases w; rfl) hI (lk rfl) rfl rfl rfl (fun σJ pJ fJ uJ vJ => ?_)
  have zJ : ∀ q, q ≠ a → q < s + 44 → look σJ q = look σG q := fun q w1 w2 => (fJ q w1).trans ((i3 q (by omega) (by omega)).trans (bH q (by omega)))
  have lfJ := (fJ (s + 44) (by omega)).trans i1
  have lbJ := i2.keep (a := a) (by omega) fJ
  have nJ : σJ.1 = s + 53 := by omega
  refine wa_aload_n q_X6_init_90 rfl ?_
  refine wn_new q_X6_init_91 n_RX6_41 (fun σK aK bK cK dK => ?_)
  refine wa_dup q_X6_init_94 rfl ?_
  refine wa_callIN q_X6_init_95 g_X6_init_95 w_X3_init ⟨rfl, rfl⟩ (av := []) rfl rfl (lk rfl) (Calls.mono (C_X3_init (s := s + 54) aK (by omega) (by omega)) ?_)
  rintro _ σL ⟨rfl, l1, l2, l3, l4, l5⟩
  rw [nJ] at l1 l3 bK
  have hL := (l3 a (by omega) (by omega)).trans ((bK a (by omega)).trans pJ)
  refine wn_putF q_X6_init_98 p_RX6_48 rfl (fun C T N w => by cases w; rfl) hL (lk rfl) rfl rfl rfl (fun σM pM fM uM vM => ?_)
  have zM : ∀ q, q ≠ a → q < s + 53 → look σM q = look σJ q := fun q w1 w2 => (fM q w1).trans ((l3 q (by omega) (by omega)).trans (bK q (by omega)))
  have hfM := (fM (s + 53) (by omega)).trans l1
  have hbM := l2.keep (a := a) (by omega) fM
  have nM : σM.1 = s + 62 := by omega
  refine wa_aload_n q_X6_init_101 rfl ?_
  refine wa_bipush q_X6_init_102 (v := nI 40) (by decide) ?_
  refine wa_newl (N := 40) q_X6_init_104 (by decide) (by decide) (by decide) ?_
  obtain ⟨σN, hσN⟩ : ∃ σN, σN = fresh σM 40 (.inl (X.2.2.1.2.1, 40, .inr (.inl (fun _ => 0)))) := ⟨_, rfl⟩
  have aN : look σN (s + 62) = some (lA X 40 (fun _ => 0)) := by rw [hσN, ← nM]; exact look_fresh
  have bN : ∀ q, q ≠ s + 62 → look σN q = look σM q := fun q hq => by rw [hσN]; exact look_old (by omega)
  have cN : σN.1 = s + 63 := by rw [hσN]; show σM.1 + 1 = _; omega
  have dN : σN.2.1 = σM.2.1 + 40 := by rw [hσN]; rfl
  rw [← hσN, nM]
  clear hσN
  have hN := (bN a (by omega)).trans pM
  refine wn_putF q_X6_init_106 p_RX6_51 rfl (fun C T N w => by cases w; rfl) hN (lk rfl) rfl rfl rfl (fun σO pO fO uO vO => ?_)
  refine wa_aload_n q_X6_init_109 rfl ?_
  refine wa_bipush q_X6_init_110 (v := nI 40) (by decide) ?_
  refine wa_newl (N := 40) q_X6_init_112 (by decide) (by decide) (by decide) ?_
  obtain ⟨σP, hσP⟩ : ∃ σP, σP = fresh σO 40 (.inl (X.2.2.1.2.1, 40, .inr (.inl (fun _ => 0)))) := ⟨_, rfl⟩
  have nO : σO.1 = s + 63 := by omega
  have aP : look σP (s + 63) = some (lA X 40 (fun _ => 0)) := by rw [hσP, ← nO]; exact look_fresh
  have bP : ∀ q, q ≠ s + 63 → look σP q = look σO q := fun q hq => by rw [hσP]; exact look_old (by omega)
  have cP : σP.1 = s + 64 := by rw [hσP]; show σO.1 + 1 = _; omega
  have dP : σP.2.1 = σO.2.1 + 40 := by rw [hσP]; rfl
  rw [← hσP, nO]
  clear hσP
  have hP := (bP a (by omega)).trans pO
  refine wn_putF q_X6_init_114 p_RX6_55 rfl (fun C T N w => by cases w; rfl) hP (lk rfl) rfl rfl rfl (fun σQ pQ fQ uQ vQ => ?_)
  have zQ : ∀ q, q ≠ a → q < s + 62 → look σQ q = look σM q := fun q w1 w2 => (fQ q w1).trans ((bP q (by omega)).trans ((fO q w1).trans (bN q (by omega))))
  have tqQ : look σQ (s + 62) = some (lA X 40 (fun _ => 0)) := (fQ _ (by omega)).trans ((bP _ (by omega)).trans ((fO _ (by omega)).trans aN))
  have fqQ : look σQ (s + 63) = some (lA X 40 (fun _ => 0)) := (fQ _ (by omega)).trans aP
  have zz : ∀ q, q ≠ a → q < s + 34 → look σQ q = look σ5 q := fun q w1 w2 => (zQ q w1 (by omega)).trans ((zM q w1 (by omega)).trans ((zJ q w1 (by omega)).trans (zG q w1 w2)))
  have nQ : σQ.1 = s + 64 := by omega
  have hobj : look σQ a = some (mE s 0 (s + 1) (s + 34) (s + 36) (s + 38) 0 (s + 40) (s + 42) (s + 44) (s + 53) (s + 62) (s + 63) 0 0) := by
    rw [pQ]
    simp only [List.set_cons_succ, List.set_cons_zero]
    rw [(show σ.1 = s from hs), (show σ2.1 = s + 1 from n2), (show σ5.1 = s + 34 from n5), (show σ8.1 = s + 36 from by omega), (show σA.1 = s + 38 from by omega), (show σC.1 = s + 40 from by omega), (show σE.1 = s + 42 from by omega), nG, nJ]
    rfl
  have q1 : bigs X σQ (s + 3) 5 := bb5.cp (fun q w1 w2 => zz q (by omega) (by omega))
  have q2 : bigs X σQ (s + 14) 5 := sb5.cp (fun q w1 w2 => zz q (by omega) (by omega))
  have q3 : bigs X σQ (s + 24) 5 := eb5.cp (fun q w1 w2 => zz q (by omega) (by omega))
  have q4 : bigs X σQ (s + 34) 5 := bG.cp (fun q w1 w2 => (zQ q (by omega) (by omega)).trans ((zM q (by omega) (by omega)).trans (zJ q (by omega) (by omega))))
  have q5 : bigs X σQ (s + 45) 4 := lbJ.cp (fun q w1 w2 => (zQ q (by omega) (by omega)).trans (zM q (by omega) (by omega)))
  have q6 : bigs X σQ (s + 54) 4 := hbM.cp (fun q w1 w2 => zQ q (by omega) (by omega))
  have hz : zW X (z0 s) 28 σQ (fun a => (a + 1, 8, 0, fun _ => 0, 0)) (fun _ => 0) := by
    refine zW.mk (fun i j hi hj e => zoff_inj i hi j hj (by unfold z0 at e; omega)) (fun i hi => ?_)
    unfold z0
    rcases zoff_cl i hi with ⟨k, hk, e⟩ | ⟨k, hk, e⟩ | ⟨k, hk, e⟩ | ⟨k, hk, e⟩ | ⟨k, hk, e⟩ | ⟨k, hk, e⟩ <;> rw [e, ← Nat.add_assoc]
    · exact ⟨(q1 k hk).1, (q1 k hk).2, by omega⟩
    · exact ⟨(q2 k hk).1, (q2 k hk).2, by omega⟩
    · exact ⟨(q3 k hk).1, (q3 k hk).2, by omega⟩
    · exact ⟨(q4 k hk).1, (q4 k hk).2, by omega⟩
    · exact ⟨(q5 k hk).1, (q5 k hk).2, by omega⟩
    · exact ⟨(q6 k hk).1, (q6 k hk).2, by omega⟩
  have hzl : ∀ i, i < 28 → z0 s i + 1 < s + 64 := fun i hi => by
    unfold z0
    rcases zoff_cl i hi with ⟨k, hk, e⟩ | ⟨k, hk, e⟩ | ⟨k, hk, e⟩ | ⟨k, hk, e⟩ | ⟨k, hk, e⟩ | ⟨k, hk, e⟩ <;> omega
  refine wa_vret q_X6_init_117 rfl ?_
  refine ⟨rfl, nQ, fun q w1 w2 => (zz q w1 (by omega)).trans (fr5 q w1 w2), z0 s, fun _ => 0, 0, (fun a => (a + 1, 8, 0, fun _ => 0, 0)), (fun _ => 0), fun _ => 0, fun _ => 0, fun _ => 0, 21, 22, 23, 25, 26, 27, fun _ => 0, ⟨⟨hobj, by show a < _; omega⟩, ⟨hz, ?_, ?_, ?_, fun j hj => absurd hj (Nat.not_lt_zero _)⟩, ⟨?_, ?_, by show s + 44 ≠ s + 53; omega⟩, ⟨tqQ, by show s + 62 < _; omega, fqQ, by show s + 63 < _; omega, by show s + 62 ≠ s + 63; omega⟩, ⟨Nat.le_refl _, fun j hj => absurd hj (Nat.not_lt_zero _), by decide, by decide, by decide, Nat.pow_pos (by decide), Nat.pow_pos (by decide), Nat.pow_pos (by decide)⟩, ⟨fun i hi => ?_, fun i hi => ?_, fun i hi => absurd hi (Nat.not_lt_zero _), by omega, Nat.le_refl _⟩, ?_, ?_⟩, rfl, rfl, rfl⟩
  · exact ⟨(zz (s + 1) (by omega) (by omega)).trans en5, by show s + 1 < _; omega, (zz (s + 2) (by omega) (by omega)).trans bn5, by show s + 2 < _; omega⟩
  · exact ⟨(zz (s + 2 + 11) (by omega) (by omega)).trans se5, by show s + 13 < _; omega⟩
  · exact ⟨⟨_, (zz s (by omega) (by omega)).trans sl5, fun i hi => (if_neg (Nat.not_lt_zero _)).symm⟩, by show s < _; omega, fun i hi => absurd hi (Nat.not_lt_zero _), fun i j hi => absurd hi (Nat.not_lt_zero _), by decide, fun i hi => absurd hi (Nat.not_lt_zero _)⟩
  · exact ⟨(zQ (s + 44) (by omega) (by omega)).trans ((zM (s + 44) (by omega) (by omega)).trans lfJ), by show s + 44 < _; omega, by decide, by decide, by decide, by decide, by decide, by decide⟩
  · exact ⟨(zQ (s + 53) (by omega) (by omega)).trans hfM, by show s + 53 < _; omega, by decide, by decide, by decide, by decide, by decide, by decide⟩
  · left
    have : i = 0 ∨ i = 1 ∨ i = 2 ∨ i = 3 ∨ i = 4 ∨ i = 5 ∨ i = 6 ∨ i = 7 ∨ i = 8 := by omega
    rcases this with q | q | q | q | q | q | q | q | q <;> subst q
    · show a < s + 64; omega
    · show s < s + 64; omega
    · show s + 1 < s + 64; omega
    · show s + 2 < s + 64; omega
    · show s + 13 < s + 64; omega
    · show s + 44 < s + 64; omega
    · show s + 53 < s + 64; omega
    · show s + 62 < s + 64; omega
    · show s + 63 < s + 64; omega
  · have := hzl i hi
    exact ⟨Or.inl (by omega), Or.inl this⟩
  · omega
  · omega
end main0
