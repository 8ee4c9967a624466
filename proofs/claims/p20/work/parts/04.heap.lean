/-! Rows of WA: fields, arrays, objects made, calls, returns, the entry. -/
/-- entry i of the pool of class own is field k of class number ci -/
def en_F (own : String) (i ci k : Nat) : Prop := ∃ (C : String) (T : u_T) (N : Nat), vwCl[ci]? = some (C, T, N) ∧ k < N ∧ (T k).1 = C ∧ Cond.fieldLink own i C (T k).2.1 (T k).2.2.1 ∈ en_tbl ∧ ∀ w ∈ u_ws C T N, w ∈ en_tbl
def en_Fp (own : String) (i ci k : Nat) (fin : Bool) (ty : FieldType) : Prop := ∃ (C : String) (T : u_T) (N : Nat) (ty0 : Nat → FieldType), vwCl[ci]? = some (C, T, N) ∧ k < N ∧ (T k).1 = C ∧ Cond.fieldLink own i C (T k).2.1 (T k).2.2.1 ∈ en_tbl ∧ (∀ w ∈ u_ws C T N, w ∈ en_tbl) ∧ (∀ k, k < N → parseFieldDescriptor (T k).2.2.1 = some (ty0 k)) ∧ (∀ a, a < N → ∀ b, b < N → a ≠ b → (T a).2.1 ≠ (T b).2.1) ∧ (T k).2.2.2 = fin ∧ parseFieldDescriptor (T k).2.2.1 = some ty
def en_N (own : String) (i ci N : Nat) (fs : List Value) : Prop := ∃ (C : String) (T : u_T) (ty : Nat → FieldType), vwCl[ci]? = some (C, T, N) ∧ Cond.classLink own i C ∈ en_tbl ∧ Cond.instantiable C N ∈ en_tbl ∧ Cond.initialized C ∈ en_tbl ∧ (∀ w ∈ u_ws C T N, w ∈ en_tbl) ∧ (∀ k, k < N → parseFieldDescriptor (T k).2.2.1 = some (ty k)) ∧ ∀ j, j < N → defaultValue (ty j) = vp_V fs j
/-- the words of a call of f out of y, by entry i of the pool, n arguments beside the receiver -/
def en_C (y f : en_M) (i n : Nat) : Prop := (Cond.methodLink y.1.cls i f.1 ∈ en_tbl ∧ Cond.initialized f.1.cls ∈ en_tbl ∧ Cond.code f.1 f.2.1 f.2.2.1 f.2.2.2.1 ∈ en_tbl) ∧ (f.1.cls ≠ "java/lang/invoke/MethodHandle" ∧ f.1.cls ≠ "java/lang/invoke/VarHandle" ∧ (parseMethodDescriptor f.1.desc).map (fun d => d.parameters.length) = some n) ∧ f.2.2.2.2.1 + 1 ≤ y.2.2.2.2.1 ∧ 8 + (f.2.2.1 + 11) + f.2.2.2.2.2 ≤ y.2.2.2.2.2
section en_heap
variable {X : en_X} {y : en_M} {ρ σ : en_S} {pc nx : Nat} {lv : List (Nat × Value)} {st : List Value} {Q : Option Value → en_S → Prop}
theorem wa_getf {i ci k a : Nat} {fs : List Value} {v : Value} (q : decode y.2.1 pc = .ok (.getfield i, 3) ∧ pc + 3 = nx) (f : en_F y.1.cls i ci k) (h : look σ a = some (.inr (ci, fs))) (hv : fs[k]? = some v) (kw : WA X y ρ nx lv (v :: st) σ Q) : WA X y ρ pc lv (.ref a :: st) σ Q := by
  obtain ⟨e0, rfl⟩ := q
  obtain ⟨C, T, N, f1, f2, f3, f4, f5⟩ := f
  obtain ⟨r, τ, hQ, h1, h2, kk⟩ := kw
  refine ⟨r, τ, hQ, h1, h2, fun p e s m args below meth c H locs ls G a1 a2 hR hS hl => ?_⟩
  exact va_get G.1 G.2.1 (G.2.2.2.2.2.1) f5 G.2.2.2.2.1 G.2.2.2.2.2.2.1.1 hR.2.2.1 _ (en_lw_ix h) f1 k f2 (G.2.2.2.2.2.1 _ f4) (fun x hx => by rw [f3] at hx; exact hx) hv e0 (kk p e s m args below meth c H locs ls G a1 a2 hR hS hl)
theorem wa_putf {i ci k a : Nat} {fs : List Value} {v : Value} {ty : FieldType} (q : decode y.2.1 pc = .ok (.putfield i, 3) ∧ pc + 3 = nx) (f : en_Fp y.1.cls i ci k false ty) (h : look σ a = some (.inr (ci, fs))) (hk : k < fs.length) (hn : narrow ty v = v) (hfit : fits ty v = true) (kw : WA X y ρ nx lv st (put σ a (.inr (ci, fs.set k v))) Q) : WA X y ρ pc lv (v :: .ref a :: st) σ Q := by
  obtain ⟨e0, rfl⟩ := q
  obtain ⟨C, T, N, ty0, f1, f2, f3, f4, f5, f6, f7, f8, f9⟩ := f
  obtain ⟨r, τ, hQ, h1, h2, kk⟩ := kw
  refine ⟨r, τ, hQ, h1, h2, fun p e s m args below meth c H locs ls G a1 a2 hR hS hl => ?_⟩
  refine va_put G.1 G.2.1 (G.2.2.2.2.2.1) f5 ty0 f6 f7 G.2.2.2.2.1 G.2.2.2.2.2.2.1.1 hR.2.2.1 hR.2.2.2 (en_Sself hS) _ (en_lw_ix h) f1 k f2 (G.2.2.2.2.2.1 _ f4) (fun x hx => by rw [f3] at hx; exact hx) f8 f9 hn hfit hk e0 (fun H1 locs1 g1 g2 g3 => en_bd fun hb => ?_)
  obtain ⟨R1, S1⟩ := en_after G a1 hR hS g1 g2 g3 hb
  exact kk p e s m args below meth c H1 locs1 ls G a1 a2 R1 S1 hl
theorem wa_putF {i ci k a : Nat} {fs : List Value} {v : Value} {ty : FieldType} (q : decode y.2.1 pc = .ok (.putfield i, 3) ∧ pc + 3 = nx) (f : en_Fp y.1.cls i ci k true ty) (hy : y.1.name = "<init>") (hC : ∀ C T N, vwCl[ci]? = some (C, T, N) → C = y.1.cls) (h : look σ a = some (.inr (ci, fs))) (hk : k < fs.length) (hn : narrow ty v = v) (hfit : fits ty v = true) (kw : WA X y ρ nx lv st (put σ a (.inr (ci, fs.set k v))) Q) : WA X y ρ pc lv (v :: .ref a :: st) σ Q := by
  obtain ⟨e0, rfl⟩ := q
  obtain ⟨C, T, N, ty0, f1, f2, f3, f4, f5, f6, f7, f8, f9⟩ := f
  obtain ⟨r, τ, hQ, h1, h2, kk⟩ := kw
  refine ⟨r, τ, hQ, h1, h2, fun p e s m args below meth c H locs ls G a1 a2 hR hS hl => ?_⟩
  refine va_putF G.1 G.2.1 (G.2.2.2.2.2.1) f5 ty0 f6 f7 G.2.2.2.2.1 G.2.2.2.2.2.2.1.1 hR.2.2.1 hR.2.2.2 (en_Sself hS) _ (en_lw_ix h) f1 k f2 (G.2.2.2.2.2.1 _ f4) (fun x hx => by rw [f3] at hx; exact hx) f8 (G.2.2.2.2.2.2.2.2.2.trans hy) (f3.trans (hC C T N f1)) f9 hn hfit hk e0 (fun H1 locs1 g1 g2 g3 => en_bd fun hb => ?_)
  obtain ⟨R1, S1⟩ := en_after G a1 hR hS g1 g2 g3 hb
  exact kk p e s m args below meth c H1 locs1 ls G a1 a2 R1 S1 hl
-- arrays: loads
theorem wa_iald {a n : Nat} {f : Nat → Int32} {i : Int32} (q : decode y.2.1 pc = .ok (.iaload, 1) ∧ pc + 1 = nx) (h : look σ a = some (.inl (X.2.2.1.1, n, .inl f))) (hi : vp_in i n) (kw : WA X y ρ nx lv (.int (f i.toNatClampNeg) :: st) σ Q) : WA X y ρ pc lv (.int i :: .ref a :: st) σ Q := by
  obtain ⟨e0, rfl⟩ := q
  obtain ⟨r, τ, hQ, h1, h2, kk⟩ := kw
  exact ⟨r, τ, hQ, h1, h2, fun p e s m args below meth c H locs ls G a1 a2 hR hS hl => va_iald G.1 G.2.1 G.2.2.2.2.2.2.1.1 hR.2.2.1 _ 0 (en_lw_ix h) rfl hi e0 (kk p e s m args below meth c H locs ls G a1 a2 hR hS hl)⟩
theorem wa_zald {a n : Nat} {f : Nat → Int32} {i : Int32} (q : decode y.2.1 pc = .ok (.baload, 1) ∧ pc + 1 = nx) (h : look σ a = some (.inl (X.2.2.1.2.2.1, n, .inl f))) (hi : vp_in i n) (kw : WA X y ρ nx lv (.int (f i.toNatClampNeg) :: st) σ Q) : WA X y ρ pc lv (.int i :: .ref a :: st) σ Q := by
  obtain ⟨e0, rfl⟩ := q
  obtain ⟨r, τ, hQ, h1, h2, kk⟩ := kw
  exact ⟨r, τ, hQ, h1, h2, fun p e s m args below meth c H locs ls G a1 a2 hR hS hl => va_zald G.1 G.2.1 G.2.2.2.2.2.2.1.1 hR.2.2.1 _ 2 (en_lw_ix h) rfl hi e0 (kk p e s m args below meth c H locs ls G a1 a2 hR hS hl)⟩
theorem wa_lald {a n : Nat} {f : Nat → Int64} {i : Int32} (q : decode y.2.1 pc = .ok (.laload, 1) ∧ pc + 1 = nx) (h : look σ a = some (.inl (X.2.2.1.2.1, n, .inr (.inl f)))) (hi : vp_in i n) (kw : WA X y ρ nx lv (.long (f i.toNatClampNeg) :: st) σ Q) : WA X y ρ pc lv (.int i :: .ref a :: st) σ Q := by
  obtain ⟨e0, rfl⟩ := q
  obtain ⟨r, τ, hQ, h1, h2, kk⟩ := kw
  exact ⟨r, τ, hQ, h1, h2, fun p e s m args below meth c H locs ls G a1 a2 hR hS hl => va_lald G.1 G.2.1 G.2.2.2.2.2.2.1.1 hR.2.2.1 _ 1 (en_lw_ix h) rfl hi e0 (kk p e s m args below meth c H locs ls G a1 a2 hR hS hl)⟩
theorem wa_aald {a n : Nat} {f : Nat → Option Nat} {i : Int32} (q : decode y.2.1 pc = .ok (.aaload, 1) ∧ pc + 1 = nx) (h : look σ a = some (.inl (X.2.2.1.2.2.2, n, .inr (.inr (.inr (.inr f)))))) (hi : vp_in i n) (kw : WA X y ρ nx lv (va_rf (f i.toNatClampNeg) :: st) σ Q) : WA X y ρ pc lv (.int i :: .ref a :: st) σ Q := by
  obtain ⟨e0, rfl⟩ := q
  obtain ⟨r, τ, hQ, h1, h2, kk⟩ := kw
  exact ⟨r, τ, hQ, h1, h2, fun p e s m args below meth c H locs ls G a1 a2 hR hS hl => va_aldq G.1 G.2.1 G.2.2.2.2.2.2.1.1 hR.2.2.1 _ 3 (en_lw_ix h) rfl hi e0 (kk p e s m args below meth c H locs ls G a1 a2 hR hS hl)⟩
theorem wa_alen {a t0 : Nat} {cA : ClassId} {x : vp_A} {ty : FieldType} (q : decode y.2.1 pc = .ok (.arraylength, 1) ∧ pc + 1 = nx) (h : look σ a = some (.inl (cA, x))) (ht : (en_tys X)[t0]? = some (cA, ty)) (kw : WA X y ρ nx lv (.int (Int32.ofNat x.1) :: st) σ Q) : WA X y ρ pc lv (.ref a :: st) σ Q := by
  obtain ⟨e0, rfl⟩ := q
  obtain ⟨r, τ, hQ, h1, h2, kk⟩ := kw
  exact ⟨r, τ, hQ, h1, h2, fun p e s m args below meth c H locs ls G a1 a2 hR hS hl => va_alen G.1 G.2.1 G.2.2.2.2.2.2.1.1 hR.2.2.1 _ t0 (en_lw_ix h) ht rfl e0 (kk p e s m args below meth c H locs ls G a1 a2 hR hS hl)⟩
-- arrays: stores
theorem wa_iast {a n : Nat} {f : Nat → Int32} {i x : Int32} (q : decode y.2.1 pc = .ok (.iastore, 1) ∧ pc + 1 = nx) (h : look σ a = some (.inl (X.2.2.1.1, n, .inl f))) (hi : vp_in i n) (kw : WA X y ρ nx lv st (put σ a (.inl (X.2.2.1.1, n, .inl (upd f i.toNatClampNeg x)))) Q) : WA X y ρ pc lv (.int x :: .int i :: .ref a :: st) σ Q := by
  obtain ⟨e0, rfl⟩ := q
  obtain ⟨r, τ, hQ, h1, h2, kk⟩ := kw
  refine ⟨r, τ, hQ, h1, h2, fun p e s m args below meth c H locs ls G a1 a2 hR hS hl => ?_⟩
  refine va_iast G.1 G.2.1 G.2.2.2.2.2.2.1.1 hR.2.2.1 hR.2.2.2 (en_Sself hS) _ 0 (en_lw_ix h) rfl hi e0 (fun H1 locs1 g1 g2 g3 => en_bd fun hb => ?_)
  obtain ⟨R1, S1⟩ := en_after G a1 hR hS g1 g2 g3 hb
  exact kk p e s m args below meth c H1 locs1 ls G a1 a2 R1 S1 hl
theorem wa_zast {a n : Nat} {f : Nat → Int32} {i x : Int32} (q : decode y.2.1 pc = .ok (.bastore, 1) ∧ pc + 1 = nx) (h : look σ a = some (.inl (X.2.2.1.2.2.1, n, .inl f))) (hi : vp_in i n) (kw : WA X y ρ nx lv st (put σ a (.inl (X.2.2.1.2.2.1, n, .inl (upd f i.toNatClampNeg (vp_nar .boolean x))))) Q) : WA X y ρ pc lv (.int x :: .int i :: .ref a :: st) σ Q := by
  obtain ⟨e0, rfl⟩ := q
  obtain ⟨r, τ, hQ, h1, h2, kk⟩ := kw
  refine ⟨r, τ, hQ, h1, h2, fun p e s m args below meth c H locs ls G a1 a2 hR hS hl => ?_⟩
  refine va_zast G.1 G.2.1 G.2.2.2.2.2.2.1.1 hR.2.2.1 hR.2.2.2 (en_Sself hS) _ 2 (en_lw_ix h) rfl hi e0 (fun H1 locs1 g1 g2 g3 => en_bd fun hb => ?_)
  obtain ⟨R1, S1⟩ := en_after G a1 hR hS g1 g2 g3 hb
  exact kk p e s m args below meth c H1 locs1 ls G a1 a2 R1 S1 hl
theorem wa_last {a n : Nat} {f : Nat → Int64} {i : Int32} {x : Int64} (q : decode y.2.1 pc = .ok (.lastore, 1) ∧ pc + 1 = nx) (h : look σ a = some (.inl (X.2.2.1.2.1, n, .inr (.inl f)))) (hi : vp_in i n) (kw : WA X y ρ nx lv st (put σ a (.inl (X.2.2.1.2.1, n, .inr (.inl (vp_updL f i.toNatClampNeg x))))) Q) : WA X y ρ pc lv (.long x :: .int i :: .ref a :: st) σ Q := by
  obtain ⟨e0, rfl⟩ := q
  obtain ⟨r, τ, hQ, h1, h2, kk⟩ := kw
  refine ⟨r, τ, hQ, h1, h2, fun p e s m args below meth c H locs ls G a1 a2 hR hS hl => ?_⟩
  refine va_last G.1 G.2.1 G.2.2.2.2.2.2.1.1 hR.2.2.1 hR.2.2.2 (en_Sself hS) _ 1 (en_lw_ix h) rfl hi e0 (fun H1 locs1 g1 g2 g3 => en_bd fun hb => ?_)
  obtain ⟨R1, S1⟩ := en_after G a1 hR hS g1 g2 g3 hb
  exact kk p e s m args below meth c H1 locs1 ls G a1 a2 R1 S1 hl
theorem wa_aast {a n b : Nat} {f : Nat → Option Nat} {i : Int32} {fs : List Value} (q : decode y.2.1 pc = .ok (.aastore, 1) ∧ pc + 1 = nx) (h : look σ a = some (.inl (X.2.2.1.2.2.2, n, .inr (.inr (.inr (.inr f)))))) (hb : look σ b = some (.inr (5, fs))) (hi : vp_in i n) (kw : WA X y ρ nx lv st (put σ a (.inl (X.2.2.1.2.2.2, n, .inr (.inr (.inr (.inr (va_up f i.toNatClampNeg (some b)))))))) Q) : WA X y ρ pc lv (.ref b :: .int i :: .ref a :: st) σ Q := by
  obtain ⟨e0, rfl⟩ := q
  obtain ⟨r, τ, hQ, h1, h2, kk⟩ := kw
  refine ⟨r, τ, hQ, h1, h2, fun p e s m args below meth c H locs ls G a1 a2 hR hS hl => ?_⟩
  refine va_astq G.1 G.2.1 G.2.2.2.2.2.2.1.1 hR.2.2.1 hR.2.2.2 (en_Sself hS) _ 3 _ 5 (r := (RX5, TX5, 11)) (en_lw_ix h) rfl (en_lw_ix hb) rfl hi e0 (fun H1 locs1 g1 g2 g3 => en_bd fun hb => ?_)
  obtain ⟨R1, S1⟩ := en_after G a1 hR hS g1 g2 g3 hb
  exact kk p e s m args below meth c H1 locs1 ls G a1 a2 R1 S1 hl
theorem wa_copyi {i a0 a n0 n1 : Nat} {f g : Nat → Int32} {sp dp n : Int32} (q : decode y.2.1 pc = .ok (.invokestatic i, 3) ∧ pc + 3 = nx) (w : Cond.methodLink y.1.cls i arraycopyName ∈ en_tbl) (hf : 1 ≤ y.2.2.2.2.1) (hw : (st.map fun v => v.category).sum + (nativeFrameWords "java/lang/System" "arraycopy" 5 + 11) ≤ y.2.2.2.2.2)
    (h0 : look σ a0 = some (.inl (X.2.2.1.1, n0, .inl f))) (h1 : look σ a = some (.inl (X.2.2.1.1, n1, .inl g))) (c1 : ¬ sp < 0) (c2 : ¬ dp < 0) (c3 : ¬ n < 0) (c4 : sp.toNatClampNeg + n.toNatClampNeg ≤ n0) (c5 : dp.toNatClampNeg + n.toNatClampNeg ≤ n1)
    (kw : WA X y ρ nx lv st (put σ a (.inl (X.2.2.1.1, n1, .inl (va_cpy f g sp.toNatClampNeg dp.toNatClampNeg n.toNatClampNeg)))) Q) : WA X y ρ pc lv (.int n :: .int dp :: .ref a :: .int sp :: .ref a0 :: st) σ Q := by
  obtain ⟨e0, rfl⟩ := q
  obtain ⟨r, τ, hQ, o1, o2, kk⟩ := kw
  refine ⟨r, τ, hQ, o1, o2, fun p e s m args below meth c H locs ls G a1 a2 hR hS hl => ?_⟩
  refine va_copyi G.1 G.2.1 (G.2.2.2.1.trans hl.1.symm) G.2.2.2.2.1 (G.2.2.2.2.2.1 _ w) (G.2.2.2.2.2.1 _ (by decide +kernel)) (G.2.2.2.2.2.1 _ (by decide +kernel)) (G.2.2.2.2.2.1 _ (by decide +kernel)) G.2.2.2.2.2.2.1.1 hR.2.2.1 hR.2.2.2 (en_Sself hS) _ _ 0 0 (en_lw_ix h0) (en_lw_ix h1) rfl rfl rfl c1 c2 c3 c4 c5 (fun _ _ => rfl) hf hw e0 (fun H1 locs1 g1 g2 g3 => en_bd fun hb => ?_)
  obtain ⟨R1, S1⟩ := en_after G a1 hR hS g1 g2 g3 hb
  exact kk p e s m args below meth c H1 locs1 ls G a1 a2 R1 S1 hl
theorem wa_copyl {i a0 a n0 n1 : Nat} {f g : Nat → Int64} {sp dp n : Int32} (q : decode y.2.1 pc = .ok (.invokestatic i, 3) ∧ pc + 3 = nx) (w : Cond.methodLink y.1.cls i arraycopyName ∈ en_tbl) (hf : 1 ≤ y.2.2.2.2.1) (hw : (st.map fun v => v.category).sum + (nativeFrameWords "java/lang/System" "arraycopy" 5 + 11) ≤ y.2.2.2.2.2)
    (h0 : look σ a0 = some (.inl (X.2.2.1.2.1, n0, .inr (.inl f)))) (h1 : look σ a = some (.inl (X.2.2.1.2.1, n1, .inr (.inl g)))) (c1 : ¬ sp < 0) (c2 : ¬ dp < 0) (c3 : ¬ n < 0) (c4 : sp.toNatClampNeg + n.toNatClampNeg ≤ n0) (c5 : dp.toNatClampNeg + n.toNatClampNeg ≤ n1)
    (kw : WA X y ρ nx lv st (put σ a (.inl (X.2.2.1.2.1, n1, .inr (.inl (va_cpy f g sp.toNatClampNeg dp.toNatClampNeg n.toNatClampNeg))))) Q) : WA X y ρ pc lv (.int n :: .int dp :: .ref a :: .int sp :: .ref a0 :: st) σ Q := by
  obtain ⟨e0, rfl⟩ := q
  obtain ⟨r, τ, hQ, o1, o2, kk⟩ := kw
  refine ⟨r, τ, hQ, o1, o2, fun p e s m args below meth c H locs ls G a1 a2 hR hS hl => ?_⟩
  refine va_copyl G.1 G.2.1 (G.2.2.2.1.trans hl.1.symm) G.2.2.2.2.1 (G.2.2.2.2.2.1 _ w) (G.2.2.2.2.2.1 _ (by decide +kernel)) (G.2.2.2.2.2.1 _ (by decide +kernel)) (G.2.2.2.2.2.1 _ (by decide +kernel)) G.2.2.2.2.2.2.1.1 hR.2.2.1 hR.2.2.2 (en_Sself hS) _ _ 1 1 (en_lw_ix h0) (en_lw_ix h1) rfl rfl rfl c1 c2 c3 c4 c5 (fun _ _ => rfl) hf hw e0 (fun H1 locs1 g1 g2 g3 => en_bd fun hb => ?_)
  obtain ⟨R1, S1⟩ := en_after G a1 hR hS g1 g2 g3 hb
  exact kk p e s m args below meth c H1 locs1 ls G a1 a2 R1 S1 hl
-- what is made
theorem wa_new {i ci N : Nat} {fs : List Value} (q : decode y.2.1 pc = .ok (.new i, 3) ∧ pc + 3 = nx) (f : en_N y.1.cls i ci N fs) (kw : WA X y ρ nx lv (.ref σ.1 :: st) (fresh σ N (.inr (ci, fs))) Q) : WA X y ρ pc lv st σ Q := by
  obtain ⟨e0, rfl⟩ := q
  obtain ⟨C, T, ty, f1, f2, f3, f4, f5, f6, f7⟩ := f
  obtain ⟨r, τ, hQ, h1, h2, kk⟩ := kw
  have h1' : σ.1 + 1 ≤ τ.1 := h1
  have h2' : σ.2.1 + N ≤ τ.2.1 := h2
  refine ⟨r, τ, hQ, by omega, by omega, fun p e s m args below meth c H locs ls G a1 a2 hR hS hl => ?_⟩
  have hKn := G.2.2.2.2.2.2.1.1.1 ci _ f1
  refine W.newcK G.1 G.2.1 G.2.2.2.2.1 (G.2.2.2.2.2.1 _ f2) (G.2.2.2.2.2.1 _ f3) (G.2.2.2.2.2.1 _ f4) rfl e0 (by show σ.1 - ρ.1 + 1 ≤ τ.1 - ρ.1; omega) (by show σ.2.1 - ρ.2.1 + N ≤ τ.2.1 - ρ.2.1; omega) hKn.2.1 hR.1 fun H1 kC hkC g1 z1 o1 => ?_
  rw [← hR.1] at g1 z1 o1
  obtain ⟨R1, S1⟩ := en_freshR (n := N) (en := .inr (ci, fs)) G hR hS z1 o1 ⟨_, f1, (u_born ty G.2.2.2.2.2.1 f5 hKn hkC g1 f6).to f7⟩
  exact W.cs (by show σ.1 - ρ.1 + 1 = σ.1 + 1 - ρ.1; omega) (by show σ.2.1 - ρ.2.1 + N = σ.2.1 + N - ρ.2.1; omega) (kk p e s m args below meth c H1 locs ls G (by show ρ.1 ≤ σ.1 + 1; omega) (by show ρ.2.1 ≤ σ.2.1 + N; omega) R1 S1 hl)
theorem en_newa {atype : ArrayType} {ty : FieldType} {t0 : Nat} {cA : ClassId} {n : Int32} {N : Nat} {a0 : vp_A} (q : decode y.2.1 pc = .ok (.newarray atype, 2) ∧ pc + 2 = nx) (hw : Cond.arrayClass ty ∈ en_tbl) (hty : newarray.typeOf atype = ty) (ht : (en_tys X)[t0]? = some (cA, ty)) (hra : ∀ U cB, va_RA U cB ty → U.vm.findClass ("[" ++ ty.toString) = some cB) (ha : vp_cell cA a0 = arrV cA N (fun _ => defaultValue ty)) (hn : ¬ n < 0) (hN : n.toNatClampNeg = N) (hb : N * componentBytes ty ≤ 536870912)
    (kw : WA X y ρ nx lv (.ref σ.1 :: st) (fresh σ N (.inl (cA, a0))) Q) : WA X y ρ pc lv (.int n :: st) σ Q := by
  obtain ⟨e0, rfl⟩ := q
  obtain ⟨r, τ, hQ, h1, h2, kk⟩ := kw
  have h1' : σ.1 + 1 ≤ τ.1 := h1
  have h2' : σ.2.1 + N ≤ τ.2.1 := h2
  subst hty
  refine ⟨r, τ, hQ, by omega, by omega, fun p e s m args below meth c H locs ls G a1 a2 hR hS hl => ?_⟩
  refine va_newaK G.1 G.2.1 (G.2.2.2.2.2.1 _ hw) rfl e0 rfl hn hN hb (by show σ.1 - ρ.1 + 1 ≤ τ.1 - ρ.1; omega) (by show σ.2.1 - ρ.2.1 + N ≤ τ.2.1 - ρ.2.1; omega) hR.1 fun H1 cB g1 z1 o1 g2 g3 => ?_
  rw [← hR.1] at g1 z1 o1
  have hcB : cB = cA := by
    have h3 := hra _ _ (G.2.2.2.2.2.2.1.1.2 t0 _ ht).2
    exact Option.some.inj (g3.symm.trans h3)
  subst hcB
  obtain ⟨R1, S1⟩ := en_freshR (n := N) (en := .inl (cB, a0)) G hR hS z1 o1 (by show H1[H.size]? = some (vp_cell cB a0); rw [ha]; exact g1)
  exact W.cs (by show σ.1 - ρ.1 + 1 = σ.1 + 1 - ρ.1; omega) (by show σ.2.1 - ρ.2.1 + N = σ.2.1 + N - ρ.2.1; omega) (kk p e s m args below meth c H1 locs ls G (by show ρ.1 ≤ σ.1 + 1; omega) (by show ρ.2.1 ≤ σ.2.1 + N; omega) R1 S1 hl)
theorem wa_newi {n : Int32} {N : Nat} (q : decode y.2.1 pc = .ok (.newarray .int, 2) ∧ pc + 2 = nx) (hn : ¬ n < 0) (hN : n.toNatClampNeg = N) (hb : N ≤ 100000000) (kw : WA X y ρ nx lv (.ref σ.1 :: st) (fresh σ N (.inl (X.2.2.1.1, N, .inl (fun _ => 0)))) Q) : WA X y ρ pc lv (.int n :: st) σ Q :=
  en_newa (ty := .int) (t0 := 0) q (by decide +kernel) rfl rfl (fun U cB h => h) rfl hn hN (by have : componentBytes .int = 4 := rfl; rw [this]; omega) kw
theorem wa_newl {n : Int32} {N : Nat} (q : decode y.2.1 pc = .ok (.newarray .long, 2) ∧ pc + 2 = nx) (hn : ¬ n < 0) (hN : n.toNatClampNeg = N) (hb : N ≤ 10000000) (kw : WA X y ρ nx lv (.ref σ.1 :: st) (fresh σ N (.inl (X.2.2.1.2.1, N, .inr (.inl (fun _ => 0))))) Q) : WA X y ρ pc lv (.int n :: st) σ Q :=
  en_newa (ty := .long) (t0 := 1) q (by decide +kernel) rfl rfl (fun U cB h => h) rfl hn hN (by have : componentBytes .long = 8 := rfl; rw [this]; omega) kw
theorem wa_newz {n : Int32} {N : Nat} (q : decode y.2.1 pc = .ok (.newarray .boolean, 2) ∧ pc + 2 = nx) (hn : ¬ n < 0) (hN : n.toNatClampNeg = N) (hb : N ≤ 100000000) (kw : WA X y ρ nx lv (.ref σ.1 :: st) (fresh σ N (.inl (X.2.2.1.2.2.1, N, .inl (fun _ => 0)))) Q) : WA X y ρ pc lv (.int n :: st) σ Q :=
  en_newa (ty := .boolean) (t0 := 2) q (by decide +kernel) rfl rfl (fun U cB h => h) rfl hn hN (by have : componentBytes .boolean = 1 := rfl; rw [this]; omega) kw
end en_heap
section en_calls
variable {X : en_X} {y f : en_M} {ρ σ : en_S} {pc nx : Nat} {lv : List (Nat × Value)} {st stk : List Value} {Q : Option Value → en_S → Prop}
theorem en_blind (X : en_X) (av : List Value) (σ : en_S) : FrameBlind (en_Pc X av σ) := by
  intro a U g mk h
  obtain ⟨h1, h2, h3⟩ := h
  exact ⟨h1, (en_fix.same (u := U) (U := U.calling g mk a) rfl h2 : en_fix X (U.calling g mk a) U.heap), h3⟩
/-- what a caller has at hand for its callee's start -/
theorem en_pre {p : Program} {s : State} {m : MethodId} {args : Array Value} {meth : Method} {c : Code} {H : Heap} {locs : List Loc} (av : List Value) (G : en_G X y ρ p s m args meth c) (hR : en_R X σ H) (hS : va_S (en_A X) s.heap H locs) : PreS s H (en_Pc X av σ) av := by
  refine ⟨en_blind X av σ, fun U hU hW => ⟨rfl, ?_, by rw [hU]; exact hR⟩⟩
  rw [hU]
  exact (G.2.2.2.2.2.2.1.kept (fun q h1 h2 => hS.2.1 q h1 h2)).moved hW
theorem en_run {p : Program} {e : Env} {s : State} {m : MethodId} {args : Array Value} {below : List Frame} {meth : Method} {c : Code} {H : Heap} {locs : List Loc} {ls : Array Slot} {r r1 : Option Value} {τ τ1 : en_S} {a : Array Value} (G : en_G X y ρ p s m args meth c) (a1 : ρ.1 ≤ σ.1) (a2 : ρ.2.1 ≤ σ.2.1) (o1 : σ.1 ≤ τ1.1) (o2 : σ.2.1 ≤ τ1.2.1) (hS : va_S (en_A X) s.heap H locs) (hl : lv_has ls y.2.2.1 lv)
    (run : va_Run p X.1 e (en_rm y ρ τ) s m args below meth c H locs (σ.1 - ρ.1) (σ.2.1 - ρ.2.1) (τ1.1 - σ.1) (τ1.2.1 - σ.2.1) (F0 m pc ls stk) st (en_Qc X r1 τ1 a) (en_A X))
    (kk : ∀ (H : Heap) (locs : List Loc), ρ.1 ≤ τ1.1 → ρ.2.1 ≤ τ1.2.1 → en_R X τ1 H → va_S (en_A X) s.heap H locs → W p X.1 e (en_rm y ρ τ) s m args below meth c H locs (τ1.1 - ρ.1) (τ1.2.1 - ρ.2.1) (MQ below (en_Qc X r τ) args s (τ.1 - ρ.1) (τ.2.1 - ρ.2.1) (en_A X)) (F0 m (pc + 3) ls (r1.toList ++ st))) :
    W p X.1 e (en_rm y ρ τ) s m args below meth c H locs (σ.1 - ρ.1) (σ.2.1 - ρ.2.1) (MQ below (en_Qc X r τ) args s (τ.1 - ρ.1) (τ.2.1 - ρ.2.1) (en_A X)) (F0 m pc ls stk) := by
  intro T hT X'
  obtain ⟨v, st₀, t, T', L, h0, X2, hL, e1, e2, ⟨hv, hR1, hF⟩, stp⟩ := run T hT X'
  cases hv
  have hS1 : va_S (en_A X) s.heap T'.heap (locs ++ L) := by
    rw [e1]
    refine ⟨Nat.le_trans hS.1 (by rw [← h0]; exact hF.1), fun q h1 h2 => ?_, fun q hq => ?_⟩
    · rw [hF.2 q (by rw [h0]; exact Nat.lt_of_lt_of_le h1 hS.1) h2, h0]
      exact hS.2.1 q h1 h2
    · rcases List.mem_append.mp hq with h | h
      · exact hS.2.2 q h
      · exact hL q h
  have c1 : σ.1 - ρ.1 + (τ1.1 - σ.1) = τ1.1 - ρ.1 := by omega
  have c2 : σ.2.1 - ρ.2.1 + (τ1.2.1 - σ.2.1) = τ1.2.1 - ρ.2.1 := by omega
  rw [c1, c2] at X2
  obtain ⟨t2, b1, b2⟩ := kk T'.heap (locs ++ L) (by omega) (by omega) (by rw [e1]; exact hR1) hS1 T' rfl X2
  exact ⟨t2, stp t2 b1, b2⟩
theorem en_cB {p : Program} {s : State} {m : MethodId} {args : Array Value} {meth : Method} {c : Code} {τ τ1 : en_S} {i n : Nat} (G : en_G X y ρ p s m args meth c) (g : en_C y f i n) : CallB (en_rm y ρ τ) s args y.1.cls i f.1 f.2.1 f.2.2.1 f.2.2.2.1 (en_ws f) (en_rm f σ τ1) (τ1.1 - σ.1) (τ1.2.1 - σ.2.1) n := by
  obtain ⟨⟨g1, g2, g3⟩, g4, g5, g6⟩ := g
  have hts := G.2.2.2.2.2.1
  refine callB_of n hts (ws := en_ws f) (fun w hw => ?_) rfl rfl rfl (hts _ g2) (hts _ g1) g4 ⟨g5, g6⟩
  rcases List.mem_cons.mp hw with rfl | h
  · exact ⟨g3, good_of_word (en_good _ g3)⟩
  · exact ⟨h, good_of_word (en_good _ h)⟩
theorem wa_callV {i n ci b : Nat} {av fs : List Value} {T : u_T} {N : Nat} (q : decode y.2.1 pc = .ok (.invokevirtual i, 3) ∧ pc + 3 = nx) (g : en_C y f i n) (w : Cond.instanceMethod f.1 ∈ en_tbl ∧ Cond.selects f.1.cls f.1 f.1 ∈ en_tbl) (hb : look σ b = some (.inr (ci, fs))) (hc : vwCl[ci]? = some (f.1.cls, T, N)) (hn : av.length = n) (hst : stk = av.reverse ++ .ref b :: st) (hw : (st.map fun v => v.category).sum ≤ 8)
    (k : Calls X f (.ref b :: av) σ (fun r τ => WA X y ρ nx lv (r.toList ++ st) τ Q)) : WA X y ρ pc lv stk σ Q := by
  obtain ⟨e0, rfl⟩ := q
  obtain ⟨r1, τ1, ⟨r, τ, hQ, h1, h2, kk⟩, o1, o2, hM⟩ := k
  refine ⟨r, τ, hQ, by omega, by omega, fun p e s m args below meth c H locs ls G a1 a2 hR hS hl => ?_⟩
  refine en_run (stk := stk) (τ1 := τ1) (r1 := r1) G a1 a2 o1 o2 hS hl (va_runV (As := av) (rest := st) (g := F0 m pc ls stk) ⟨G.1, G.2.1, G.2.2.2.1, G.2.2.2.2.1, G.2.2.2.2.2.1⟩ hM ⟨en_cB G g, G.2.2.2.2.2.1 _ w.1, G.2.2.2.2.2.1 _ w.2⟩ ⟨(en_pre (.ref b :: av) G hR hS).1, va_recv G.2.2.2.2.2.2.1.1 hR.2.2.1 hc (en_lw_ix hb), (en_pre (.ref b :: av) G hR hS).2⟩ rfl hn hl.1 hst (lv_room hw) e0 ⟨by show σ.1 - ρ.1 + (τ1.1 - σ.1) ≤ τ.1 - ρ.1; omega, by show σ.2.1 - ρ.2.1 + (τ1.2.1 - σ.2.1) ≤ τ.2.1 - ρ.2.1; omega⟩) (fun H1 locs1 b1 b2 R1 S1 => kk p e s m args below meth c H1 locs1 ls G b1 b2 R1 S1 hl)
theorem wa_callS {i n : Nat} {av : List Value} (q : decode y.2.1 pc = .ok (.invokestatic i, 3) ∧ pc + 3 = nx) (g : en_C y f i n) (w : Cond.static f.1 ∈ en_tbl) (hn : av.length = n) (hst : stk = av.reverse ++ st) (hw : (st.map fun v => v.category).sum ≤ 8)
    (k : Calls X f av σ (fun r τ => WA X y ρ nx lv (r.toList ++ st) τ Q)) : WA X y ρ pc lv stk σ Q := by
  obtain ⟨e0, rfl⟩ := q
  obtain ⟨r1, τ1, ⟨r, τ, hQ, h1, h2, kk⟩, o1, o2, hM⟩ := k
  refine ⟨r, τ, hQ, by omega, by omega, fun p e s m args below meth c H locs ls G a1 a2 hR hS hl => ?_⟩
  refine en_run (stk := stk) (τ1 := τ1) (r1 := r1) G a1 a2 o1 o2 hS hl (va_runS (As := av) (rest := st) (g := F0 m pc ls stk) ⟨G.1, G.2.1, G.2.2.2.1, G.2.2.2.2.1, G.2.2.2.2.2.1⟩ hM ⟨en_cB G g, G.2.2.2.2.2.1 _ w⟩ (en_pre av G hR hS) rfl hn hl.1 hst (lv_room hw) e0 ⟨by show σ.1 - ρ.1 + (τ1.1 - σ.1) ≤ τ.1 - ρ.1; omega, by show σ.2.1 - ρ.2.1 + (τ1.2.1 - σ.2.1) ≤ τ.2.1 - ρ.2.1; omega⟩) (fun H1 locs1 b1 b2 R1 S1 => kk p e s m args below meth c H1 locs1 ls G b1 b2 R1 S1 hl)
theorem wa_callI {i n b : Nat} {av : List Value} (q : decode y.2.1 pc = .ok (.invokespecial i, 3) ∧ pc + 3 = nx) (g : en_C y f i n) (w : Cond.instanceMethod f.1 ∈ en_tbl) (hy : f.1.name = "<init>" ∧ f.2.2.2.1 = none) (hn : av.length = n) (hst : stk = av.reverse ++ .ref b :: st) (hw : (st.map fun v => v.category).sum ≤ 8)
    (k : Calls X f (.ref b :: av) σ (fun r τ => WA X y ρ nx lv (r.toList ++ st) τ Q)) : WA X y ρ pc lv stk σ Q := by
  obtain ⟨e0, rfl⟩ := q
  obtain ⟨r1, τ1, ⟨r, τ, hQ, h1, h2, kk⟩, o1, o2, hM⟩ := k
  refine ⟨r, τ, hQ, by omega, by omega, fun p e s m args below meth c H locs ls G a1 a2 hR hS hl => ?_⟩
  refine en_run (stk := stk) (τ1 := τ1) (r1 := r1) G a1 a2 o1 o2 hS hl (va_runI (As := av) (rest := st) (g := F0 m pc ls stk) ⟨G.1, G.2.1, G.2.2.2.1, G.2.2.2.2.1, G.2.2.2.2.2.1⟩ hM ⟨hy.2 ▸ en_cB G g, hy.1, G.2.2.2.2.2.1 _ w⟩ (en_pre (.ref b :: av) G hR hS) rfl hn hl.1 hst (lv_room hw) e0 ⟨by show σ.1 - ρ.1 + (τ1.1 - σ.1) ≤ τ.1 - ρ.1; omega, by show σ.2.1 - ρ.2.1 + (τ1.2.1 - σ.2.1) ≤ τ.2.1 - ρ.2.1; omega⟩) (fun H1 locs1 b1 b2 R1 S1 => kk p e s m args below meth c H1 locs1 ls G b1 b2 R1 S1 hl)
/-- a private constructor of a nest mate -/
def en_CN (y f : en_M) (i n : Nat) (host : String) : Prop := (Cond.methodLinkNest y.1.cls i f.1 host ∈ en_nest ∧ Cond.initialized f.1.cls ∈ en_tbl ∧ Cond.code f.1 f.2.1 f.2.2.1 none ∈ en_tbl) ∧ (f.1.cls ≠ "java/lang/invoke/MethodHandle" ∧ f.1.cls ≠ "java/lang/invoke/VarHandle" ∧ (parseMethodDescriptor f.1.desc).map (fun d => d.parameters.length) = some n) ∧ f.2.2.2.2.1 + 1 ≤ y.2.2.2.2.1 ∧ 8 + (f.2.2.1 + 11) + f.2.2.2.2.2 ≤ y.2.2.2.2.2
theorem wa_callIN {i n b : Nat} {host : String} {av : List Value} (q : decode y.2.1 pc = .ok (.invokespecial i, 3) ∧ pc + 3 = nx) (g : en_CN y f i n host) (w : Cond.instanceMethod f.1 ∈ en_tbl) (hy : f.1.name = "<init>" ∧ f.2.2.2.1 = none) (hn : av.length = n) (hst : stk = av.reverse ++ .ref b :: st) (hw : (st.map fun v => v.category).sum ≤ 8)
    (k : Calls X f (.ref b :: av) σ (fun r τ => WA X y ρ nx lv (r.toList ++ st) τ Q)) : WA X y ρ pc lv stk σ Q := by
  obtain ⟨e0, rfl⟩ := q
  obtain ⟨r1, τ1, ⟨r, τ, hQ, h1, h2, kk⟩, o1, o2, hM⟩ := k
  obtain ⟨⟨g1, g2, g3⟩, g4, g5, g6⟩ := g
  refine ⟨r, τ, hQ, by omega, by omega, fun p e s m args below meth c H locs ls G a1 a2 hR hS hl => ?_⟩
  have hts := G.2.2.2.2.2.1
  have hG : GoodIn en_tbl (en_ws f) := fun w hw => by
    rcases List.mem_cons.mp hw with rfl | h
    · rw [hy.2]; exact ⟨g3, good_of_word (en_good _ g3)⟩
    · exact ⟨h, good_of_word (en_good _ h)⟩
  refine en_run (stk := stk) (τ1 := τ1) (r1 := r1) G a1 a2 o1 o2 hS hl (va_runIN (As := av) (rest := st) (g := F0 m pc ls stk) ⟨G.1, G.2.1, G.2.2.2.1, G.2.2.2.2.1, G.2.2.2.2.2.1⟩ hM ⟨va_cnB n hts hG (by rw [← hy.2]; rfl) rfl rfl (G.2.2.2.2.2.2.1.2.2.2.2.2.2 _ g1) (hts _ g2) g4 ⟨g5, g6⟩, hy.1, hts _ w⟩ (en_pre (.ref b :: av) G hR hS) rfl hn hl.1 hst (lv_room hw) e0 ⟨by show σ.1 - ρ.1 + (τ1.1 - σ.1) ≤ τ.1 - ρ.1; omega, by show σ.2.1 - ρ.2.1 + (τ1.2.1 - σ.2.1) ≤ τ.2.1 - ρ.2.1; omega⟩) (fun H1 locs1 b1 b2 R1 S1 => kk p e s m args below meth c H1 locs1 ls G b1 b2 R1 S1 hl)
theorem wa_objInit {i a : Nat} (q : decode y.2.1 pc = .ok (.invokespecial i, 3) ∧ pc + 3 = nx) (w : Cond.methodLink y.1.cls i Lib.objectInit ∈ en_tbl) (hf : 1 ≤ y.2.2.2.2.1) (hw : (st.map fun v => v.category).sum + 12 ≤ y.2.2.2.2.2) (k : WA X y ρ nx lv st σ Q) : WA X y ρ pc lv (.ref a :: st) σ Q := by
  obtain ⟨e0, rfl⟩ := q
  obtain ⟨r, τ, hQ, h1, h2, kk⟩ := k
  refine ⟨r, τ, hQ, h1, h2, fun p e s m args below meth c H locs ls G a1 a2 hR hS hl => ?_⟩
  exact W.objInit G.1 G.2.1 G.2.2.2.2.1 (G.2.2.2.2.2.1 _ w) (G.2.2.2.2.2.1 _ (by decide +kernel)) (G.2.2.2.2.2.1 _ (by decide +kernel)) rfl (hl.1.trans G.2.2.2.1.symm) rfl e0 hf (by show 2 * 0 + _ + 12 ≤ y.2.2.2.2.2; omega) (kk p e s m args below meth c H locs ls G a1 a2 hR hS hl)
-- returns
theorem en_ret {p : Program} {s : State} {m : MethodId} {args : Array Value} {meth : Method} {c : Code} {H : Heap} {locs : List Loc} (r : Option Value) (G : en_G X y ρ p s m args meth c) (hR : en_R X σ H) (hS : va_S (en_A X) s.heap H locs) : ∀ t : State, t.heap = H → s.WarmedH t.vm → en_Qc X r σ args s (.returned r) t := fun t ht _ => ⟨rfl, by rw [ht]; exact hR, hS.F ht⟩
theorem wa_iret {v : Int32} (q : decode y.2.1 pc = .ok (.ireturn, 1) ∧ pc + 1 = nx) (hr : y.2.2.2.1 = some .int) (h : Q (some (.int v)) σ) : WA X y ρ pc lv [.int v] σ Q := by
  refine ⟨_, σ, h, Nat.le_refl _, Nat.le_refl _, fun p e s m args below meth c H locs ls G a1 a2 hR hS hl => ?_⟩
  exact W.iret G.1 G.2.1 (G.2.2.1.trans hr) (en_ret _ G hR hS) hS.2.2 q.1 (hlocks := G.2.2.2.2.2.2.2.1)
theorem wa_zret {v : Int32} {ty : FieldType} (q : decode y.2.1 pc = .ok (.ireturn, 1) ∧ pc + 1 = nx) (hr : y.2.2.2.1 = some ty) (hn : narrow ty (.int v) = .int v) (h : Q (some (.int v)) σ) : WA X y ρ pc lv [.int v] σ Q := by
  refine ⟨_, σ, h, Nat.le_refl _, Nat.le_refl _, fun p e s m args below meth c H locs ls G a1 a2 hR hS hl => ?_⟩
  exact W.zret G.1 G.2.1 (G.2.2.1.trans hr) hn (en_ret _ G hR hS) hS.2.2 q.1 (hlocks := G.2.2.2.2.2.2.2.1)
theorem wa_lret {v : Int64} (q : decode y.2.1 pc = .ok (.lreturn, 1) ∧ pc + 1 = nx) (hr : y.2.2.2.1 = some .long) (h : Q (some (.long v)) σ) : WA X y ρ pc lv [.long v] σ Q := by
  refine ⟨_, σ, h, Nat.le_refl _, Nat.le_refl _, fun p e s m args below meth c H locs ls G a1 a2 hR hS hl => ?_⟩
  exact W.lret G.1 G.2.1 (G.2.2.1.trans hr) (en_ret _ G hR hS) hS.2.2 q.1 (hlocks := G.2.2.2.2.2.2.2.1)
theorem wa_aret {v : Value} {rt : FieldType} (q : decode y.2.1 pc = .ok (.areturn, 1) ∧ pc + 1 = nx) (hr : y.2.2.2.1 = some rt) (hrt : (∃ n, rt = .object n) ∨ ∃ t, rt = .array t) (hv : v = .null ∨ ∃ a, v = .ref a) (h : Q (some v) σ) : WA X y ρ pc lv [v] σ Q := by
  refine ⟨_, σ, h, Nat.le_refl _, Nat.le_refl _, fun p e s m args below meth c H locs ls G a1 a2 hR hS hl => ?_⟩
  exact W.aret G.1 G.2.1 (G.2.2.1.trans hr) hrt hv (en_ret _ G hR hS) hS.2.2 q.1 (hlocks := G.2.2.2.2.2.2.2.1)
theorem wa_vret (q : decode y.2.1 pc = .ok (.return_, 1) ∧ pc + 1 = nx) (hr : y.2.2.2.1 = none) (h : Q none σ) : WA X y ρ pc lv [] σ Q := by
  refine ⟨_, σ, h, Nat.le_refl _, Nat.le_refl _, fun p e s m args below meth c H locs ls G a1 a2 hR hS hl => ?_⟩
  exact W.vret G.1 G.2.1 (G.2.2.1.trans hr) (en_ret _ G hR hS) hS.2.2 q.1 (hlocks := G.2.2.2.2.2.2.2.1)
/-- the entry: a method's contract out of its walk -/
theorem Calls.of {av : List Value} (hy : plainName y.1.cls = true) (hsz : (lg_sl av).length ≤ y.2.2.1) (h : WA X y σ 0 (lv_args 0 av) [] σ Q) : Calls X y av σ Q := by
  obtain ⟨r, τ, hQ, h1, h2, kk⟩ := h
  refine ⟨r, τ, hQ, h1, h2, ?_⟩
  refine Met.ofW (cc := y.2.1) (maxL := y.2.2.1) (ret := y.2.2.2.1) (ws' := en_tbl) hy rfl ?_
  intro p e s m args below meth c s₁ B hml hv
  obtain ⟨rfl, hfix, hR⟩ := hv
  have hts := atoms_spec (ws := en_ws y) B.pre
  have hl := lv_entry av hsz
  rw [lg_entry_eq]
  have K := kk p e s m av.toArray below meth c s.heap [] _ ⟨B.exec, B.bytes, B.returns, hml, findClass_of_methodNamed B.named, fun w hw => hts w (List.mem_cons_of_mem _ hw), hfix, B.notSynchronized, hR.1, (name_of_methodNamed B.named B.method).1⟩ (Nat.le_refl _) (Nat.le_refl _) hR va_S.rf hl
  rw [Nat.sub_self, Nat.sub_self] at K
  exact K
end en_calls
