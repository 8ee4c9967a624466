/-! Rows of WA: the static array, the script, switches, Math, an array of references. -/
section en_more
variable {X : en_X} {y f : en_M} {ρ σ : en_S} {pc nx : Nat} {lv : List (Nat × Value)} {st stk : List Value} {Q : Option Value → en_S → Prop}
theorem wa_tensN {i : Nat} {host : String} (q : decode y.2.1 pc = .ok (.getstatic i, 3) ∧ pc + 3 = nx) (w : Cond.fieldLinkNest y.1.cls i RX6 "TENS" "[I" host ∈ en_nest) (k : WA X y ρ nx lv (.ref X.2.2.2.2.1 :: st) σ Q) : WA X y ρ pc lv st σ Q := by
  obtain ⟨e0, rfl⟩ := q
  obtain ⟨r, τ, hQ, h1, h2, kk⟩ := k
  exact ⟨r, τ, hQ, h1, h2, fun p e s m args below meth c H locs ls G a1 a2 hR hS hl => va_getsN G.1 G.2.1 G.2.2.2.2.2.2.1.2.1 hS G.2.2.2.2.1 (va_Nw.use rfl (G.2.2.2.2.2.2.1.2.2.2.2.2.2 _ w)) (fun x hx => hx) e0 (kk p e s m args below meth c H locs ls G a1 a2 hR hS hl)⟩
theorem wa_tens {i : Nat} (q : decode y.2.1 pc = .ok (.getstatic i, 3) ∧ pc + 3 = nx) (w : Cond.fieldLink y.1.cls i RX6 "TENS" "[I" ∈ en_tbl) (k : WA X y ρ nx lv (.ref X.2.2.2.2.1 :: st) σ Q) : WA X y ρ pc lv st σ Q := by
  obtain ⟨e0, rfl⟩ := q
  obtain ⟨r, τ, hQ, h1, h2, kk⟩ := k
  exact ⟨r, τ, hQ, h1, h2, fun p e s m args below meth c H locs ls G a1 a2 hR hS hl => va_gets G.1 G.2.1 G.2.2.2.2.2.2.1.2.1 hS G.2.2.2.2.1 (G.2.2.2.2.2.1 _ w) (fun x hx => hx) e0 (kk p e s m args below meth c H locs ls G a1 a2 hR hS hl)⟩
theorem wa_tald {i : Int32} (q : decode y.2.1 pc = .ok (.iaload, 1) ∧ pc + 1 = nx) (hi : vp_in i 9) (k : WA X y ρ nx lv (.int (en_tens i.toNatClampNeg) :: st) σ Q) : WA X y ρ pc lv (.int i :: .ref X.2.2.2.2.1 :: st) σ Q := by
  obtain ⟨e0, rfl⟩ := q
  obtain ⟨r, τ, hQ, h1, h2, kk⟩ := k
  exact ⟨r, τ, hQ, h1, h2, fun p e s m args below meth c H locs ls G a1 a2 hR hS hl => va_ti G.1 G.2.1 G.2.2.2.2.2.2.1.2.2.1 hS hi rfl e0 (kk p e s m args below meth c H locs ls G a1 a2 hR hS hl)⟩
theorem wa_talen (q : decode y.2.1 pc = .ok (.arraylength, 1) ∧ pc + 1 = nx) (k : WA X y ρ nx lv (.int 9 :: st) σ Q) : WA X y ρ pc lv (.ref X.2.2.2.2.1 :: st) σ Q := by
  obtain ⟨e0, rfl⟩ := q
  obtain ⟨r, τ, hQ, h1, h2, kk⟩ := k
  exact ⟨r, τ, hQ, h1, h2, fun p e s m args below meth c H locs ls G a1 a2 hR hS hl => va_tlen G.1 G.2.1 G.2.2.2.2.2.2.1.2.2.1 hS rfl e0 (kk p e s m args below meth c H locs ls G a1 a2 hR hS hl)⟩
theorem en_scr {p : Program} {s : State} {m : MethodId} {args : Array Value} {meth : Method} {c : Code} (G : en_G X y ρ p s m args meth c) : va_X X.2.2.2.2.2.1 X.2.2.2.2.2.2.1 X.2.2.2.2.2.2.2 s s.heap ∧ X.2.2.2.2.2.1 < s.heap.size ∧ ¬ en_A X X.2.2.2.2.2.1 := by
  obtain ⟨-, -, -, h4, h5, -⟩ := G.2.2.2.2.2.2.1
  refine ⟨h4, ?_, Nat.not_le.mpr h5⟩
  obtain ⟨scr, g, -⟩ := h4
  exact (Array.getElem?_eq_some_iff.mp g).1
theorem wa_sld {i : Int32} (q : decode y.2.1 pc = .ok (.iaload, 1) ∧ pc + 1 = nx) (hi : vp_in i X.2.2.2.2.2.2.1) (k : WA X y ρ nx lv (.int (X.2.2.2.2.2.2.2 i.toNatClampNeg) :: st) σ Q) : WA X y ρ pc lv (.int i :: .ref X.2.2.2.2.2.1 :: st) σ Q := by
  obtain ⟨e0, rfl⟩ := q
  obtain ⟨r, τ, hQ, h1, h2, kk⟩ := k
  exact ⟨r, τ, hQ, h1, h2, fun p e s m args below meth c H locs ls G a1 a2 hR hS hl => va_sld G.1 G.2.1 (en_scr G).1 (en_scr G).2.1 (en_scr G).2.2 hS hi e0 (kk p e s m args below meth c H locs ls G a1 a2 hR hS hl)⟩
theorem wa_slen (q : decode y.2.1 pc = .ok (.arraylength, 1) ∧ pc + 1 = nx) (k : WA X y ρ nx lv (.int (Int32.ofNat X.2.2.2.2.2.2.1) :: st) σ Q) : WA X y ρ pc lv (.ref X.2.2.2.2.2.1 :: st) σ Q := by
  obtain ⟨e0, rfl⟩ := q
  obtain ⟨r, τ, hQ, h1, h2, kk⟩ := k
  exact ⟨r, τ, hQ, h1, h2, fun p e s m args below meth c H locs ls G a1 a2 hR hS hl => va_slen G.1 G.2.1 (en_scr G).1 (en_scr G).2.1 (en_scr G).2.2 hS e0 (kk p e s m args below meth c H locs ls G a1 a2 hR hS hl)⟩
theorem wa_tabIn {dflt lo hi off : Int} {offs : Array Int} {len tgt : Nat} {x : Int32} (q : decode y.2.1 pc = .ok (.tableswitch dflt lo hi offs, len)) (c1 : ¬ x.toInt < lo) (c2 : ¬ hi < x.toInt) (ho : offs[(x.toInt - lo).toNat]? = some off) (ht : (pc : Int) + off = (tgt : Int)) (k : WA X y ρ tgt lv st σ Q) : WA X y ρ pc lv (.int x :: st) σ Q := by
  obtain ⟨r, τ, hQ, h1, h2, kk⟩ := k
  exact ⟨r, τ, hQ, h1, h2, fun p e s m args below meth c H locs ls G a1 a2 hR hS hl => lv_tableIn G.1 G.2.1 q c1 c2 ho ht (kk p e s m args below meth c H locs ls G a1 a2 hR hS hl)⟩
theorem wa_tabOut {dflt lo hi : Int} {offs : Array Int} {len tgt : Nat} {x : Int32} (q : decode y.2.1 pc = .ok (.tableswitch dflt lo hi offs, len)) (c1 : x.toInt < lo ∨ hi < x.toInt) (ht : (pc : Int) + dflt = (tgt : Int)) (k : WA X y ρ tgt lv st σ Q) : WA X y ρ pc lv (.int x :: st) σ Q := by
  obtain ⟨r, τ, hQ, h1, h2, kk⟩ := k
  exact ⟨r, τ, hQ, h1, h2, fun p e s m args below meth c H locs ls G a1 a2 hR hS hl => lv_tableOut G.1 G.2.1 q c1 ht (kk p e s m args below meth c H locs ls G a1 a2 hR hS hl)⟩
theorem wa_mmax {i : Nat} {x w : Int32} (q : decode y.2.1 pc = .ok (.invokestatic i, 3) ∧ pc + 3 = nx) (wd : Cond.methodLink y.1.cls i Lib.Math.max.name ∈ en_tbl) (hf : 1 ≤ y.2.2.2.2.1) (hw : (st.map fun v => v.category).sum + 13 ≤ y.2.2.2.2.2) (k : WA X y ρ nx lv (.int (if x < w then w else x) :: st) σ Q) : WA X y ρ pc lv (.int w :: .int x :: st) σ Q := by
  obtain ⟨e0, rfl⟩ := q
  obtain ⟨r, τ, hQ, h1, h2, kk⟩ := k
  exact ⟨r, τ, hQ, h1, h2, fun p e s m args below meth c H locs ls G a1 a2 hR hS hl => va_mmax G.1 G.2.1 (G.2.2.2.1.trans hl.1.symm) G.2.2.2.2.1 (G.2.2.2.2.2.1 _ wd) (G.2.2.2.2.2.1 _ (by decide +kernel)) (G.2.2.2.2.2.1 _ (by decide +kernel)) (G.2.2.2.2.2.1 _ (by decide +kernel)) hf hw (by show σ.1 - ρ.1 ≤ τ.1 - ρ.1; omega) (by show σ.2.1 - ρ.2.1 ≤ τ.2.1 - ρ.2.1; omega) e0 (kk p e s m args below meth c H locs ls G a1 a2 hR hS hl)⟩
theorem wa_mmin {i : Nat} {x w : Int32} (q : decode y.2.1 pc = .ok (.invokestatic i, 3) ∧ pc + 3 = nx) (wd : Cond.methodLink y.1.cls i Lib.Math.min.name ∈ en_tbl) (hf : 1 ≤ y.2.2.2.2.1) (hw : (st.map fun v => v.category).sum + 13 ≤ y.2.2.2.2.2) (k : WA X y ρ nx lv (.int (if w < x then w else x) :: st) σ Q) : WA X y ρ pc lv (.int w :: .int x :: st) σ Q := by
  obtain ⟨e0, rfl⟩ := q
  obtain ⟨r, τ, hQ, h1, h2, kk⟩ := k
  exact ⟨r, τ, hQ, h1, h2, fun p e s m args below meth c H locs ls G a1 a2 hR hS hl => va_mmin G.1 G.2.1 (G.2.2.2.1.trans hl.1.symm) G.2.2.2.2.1 (G.2.2.2.2.2.1 _ wd) (G.2.2.2.2.2.1 _ (by decide +kernel)) (G.2.2.2.2.2.1 _ (by decide +kernel)) (G.2.2.2.2.2.1 _ (by decide +kernel)) hf hw (by show σ.1 - ρ.1 ≤ τ.1 - ρ.1; omega) (by show σ.2.1 - ρ.2.1 ≤ τ.2.1 - ρ.2.1; omega) e0 (kk p e s m args below meth c H locs ls G a1 a2 hR hS hl)⟩
theorem wa_mabs {i : Nat} {x : Int32} (q : decode y.2.1 pc = .ok (.invokestatic i, 3) ∧ pc + 3 = nx) (wd : Cond.methodLink y.1.cls i Lib.Math.abs.name ∈ en_tbl) (hf : 1 ≤ y.2.2.2.2.1) (hw : (st.map fun v => v.category).sum + 13 ≤ y.2.2.2.2.2) (k : WA X y ρ nx lv (.int (if 0 ≤ x then x else 0 - x) :: st) σ Q) : WA X y ρ pc lv (.int x :: st) σ Q := by
  obtain ⟨e0, rfl⟩ := q
  obtain ⟨r, τ, hQ, h1, h2, kk⟩ := k
  exact ⟨r, τ, hQ, h1, h2, fun p e s m args below meth c H locs ls G a1 a2 hR hS hl => va_mabs G.1 G.2.1 (G.2.2.2.1.trans hl.1.symm) G.2.2.2.2.1 (G.2.2.2.2.2.1 _ wd) (G.2.2.2.2.2.1 _ (by decide +kernel)) (G.2.2.2.2.2.1 _ (by decide +kernel)) (G.2.2.2.2.2.1 _ (by decide +kernel)) hf hw (by show σ.1 - ρ.1 ≤ τ.1 - ρ.1; omega) (by show σ.2.1 - ρ.2.1 ≤ τ.2.1 - ρ.2.1; omega) e0 (kk p e s m args below meth c H locs ls G a1 a2 hR hS hl)⟩
theorem wa_mabsL {i : Nat} {x : Int64} (q : decode y.2.1 pc = .ok (.invokestatic i, 3) ∧ pc + 3 = nx) (wd : Cond.methodLink y.1.cls i Lib.MathLoose.abs_long.x ∈ en_tbl) (hf : 1 ≤ y.2.2.2.2.1) (hw : (st.map fun v => v.category).sum + 13 ≤ y.2.2.2.2.2) (k : WA X y ρ nx lv (.long (if 0 < x then x else -x) :: st) σ Q) : WA X y ρ pc lv (.long x :: st) σ Q := by
  obtain ⟨e0, rfl⟩ := q
  obtain ⟨r, τ, hQ, h1, h2, kk⟩ := k
  exact ⟨r, τ, hQ, h1, h2, fun p e s m args below meth c H locs ls G a1 a2 hR hS hl => va_mabs_long G.1 G.2.1 (G.2.2.2.1.trans hl.1.symm) G.2.2.2.2.1 (G.2.2.2.2.2.1 _ wd) (G.2.2.2.2.2.1 _ (by decide +kernel)) (G.2.2.2.2.2.1 _ (by decide +kernel)) (G.2.2.2.2.2.1 _ (by decide +kernel)) hf hw (by show σ.1 - ρ.1 ≤ τ.1 - ρ.1; omega) (by show σ.2.1 - ρ.2.1 ≤ τ.2.1 - ρ.2.1; omega) e0 (kk p e s m args below meth c H locs ls G a1 a2 hR hS hl)⟩
theorem wa_mminL {i : Nat} {x w : Int64} (q : decode y.2.1 pc = .ok (.invokestatic i, 3) ∧ pc + 3 = nx) (wd : Cond.methodLink y.1.cls i Lib.MathLoose.min_long.x ∈ en_tbl) (hf : 1 ≤ y.2.2.2.2.1) (hw : (st.map fun v => v.category).sum + 15 ≤ y.2.2.2.2.2) (k : WA X y ρ nx lv (.long (if w < x then w else x) :: st) σ Q) : WA X y ρ pc lv (.long w :: .long x :: st) σ Q := by
  obtain ⟨e0, rfl⟩ := q
  obtain ⟨r, τ, hQ, h1, h2, kk⟩ := k
  exact ⟨r, τ, hQ, h1, h2, fun p e s m args below meth c H locs ls G a1 a2 hR hS hl => va_mmin_long G.1 G.2.1 (G.2.2.2.1.trans hl.1.symm) G.2.2.2.2.1 (G.2.2.2.2.2.1 _ wd) (G.2.2.2.2.2.1 _ (by decide +kernel)) (G.2.2.2.2.2.1 _ (by decide +kernel)) (G.2.2.2.2.2.1 _ (by decide +kernel)) hf hw (by show σ.1 - ρ.1 ≤ τ.1 - ρ.1; omega) (by show σ.2.1 - ρ.2.1 ≤ τ.2.1 - ρ.2.1; omega) e0 (kk p e s m args below meth c H locs ls G a1 a2 hR hS hl)⟩
theorem wa_newq {i : Nat} {n : Int32} {N : Nat} (q : decode y.2.1 pc = .ok (.anewarray i, 3) ∧ pc + 3 = nx) (w : Cond.classLink y.1.cls i RX5 ∈ en_tbl) (hn : ¬ n < 0) (hN : n.toNatClampNeg = N) (hb : N ≤ 100000000) (kw : WA X y ρ nx lv (.ref σ.1 :: st) (fresh σ N (.inl (X.2.2.1.2.2.2, N, .inr (.inr (.inr (.inr (fun _ => none))))))) Q) : WA X y ρ pc lv (.int n :: st) σ Q := by
  obtain ⟨e0, rfl⟩ := q
  obtain ⟨r, τ, hQ, h1, h2, kk⟩ := kw
  have h1' : σ.1 + 1 ≤ τ.1 := h1
  have h2' : σ.2.1 + N ≤ τ.2.1 := h2
  subst hN
  refine ⟨r, τ, hQ, by omega, by omega, fun p e s m args below meth c H locs ls G a1 a2 hR hS hl => ?_⟩
  refine W.anew G.1 G.2.1 G.2.2.2.2.1 (G.2.2.2.2.2.1 _ w) (va_AO.use G.2.2.2.2.2.2.1.2.2.2.2.2.1) rfl e0 rfl hn (by omega) (by show σ.1 - ρ.1 + 1 ≤ τ.1 - ρ.1; omega) (by show σ.2.1 - ρ.2.1 + n.toNatClampNeg ≤ τ.2.1 - ρ.2.1; omega) fun cA kA comp f1 f2 f3 f4 => ?_
  have hcA : cA = X.2.2.1.2.2.2 := by
    obtain ⟨-, kB, cB, b1, b2, b3, b4⟩ := G.2.2.2.2.2.2.1.1.2 3 _ rfl
    exact Option.some.inj (f1.symm.trans b4)
  subst hcA
  obtain ⟨H1, hH1⟩ : ∃ H1, H1 = H.push ({ cls := X.2.2.1.2.2.2, slots := Array.replicate n.toNatClampNeg .null, vm := .none } : Cell) := ⟨_, rfl⟩
  have z1 : H1.size = H.size + 1 := by rw [hH1, Array.size_push]
  have g1 : H1[H.size]? = some (arrV X.2.2.1.2.2.2 n.toNatClampNeg (fun _ => .null)) := by rw [hH1, Array.getElem?_push_size, ← arrV_new]
  have o1 : ∀ q : Nat, q < H.size → H1[q]? = H[q]? := fun q hq => by rw [hH1, Array.getElem?_push, if_neg (Nat.ne_of_lt hq)]
  obtain ⟨R1, S1⟩ := en_freshR (n := n.toNatClampNeg) (en := .inl (X.2.2.1.2.2.2, n.toNatClampNeg, .inr (.inr (.inr (.inr (fun _ => none)))))) G hR hS z1 o1 (by show H1[H.size]? = some (vp_cell _ _); rw [vp_cell_q]; exact g1)
  rw [← hH1]
  have hsz : H.size = σ.1 := hR.1
  rw [hsz]
  exact W.cs (by show σ.1 - ρ.1 + 1 = σ.1 + 1 - ρ.1; omega) (by show σ.2.1 - ρ.2.1 + n.toNatClampNeg = σ.2.1 + n.toNatClampNeg - ρ.2.1; omega) (kk p e s m args below meth c H1 locs ls G (by show ρ.1 ≤ σ.1 + 1; omega) (by show ρ.2.1 ≤ σ.2.1 + _; omega) R1 S1 hl)
theorem wa_acmp_ne {rx rw : Nat} {off : Int} {tgt : Nat} (q : decode y.2.1 pc = .ok (.if_acmp .ne off, 3) ∧ pc + 3 = nx ∧ (pc : Int) + off = (tgt : Int)) (kt : ¬ rx = rw → WA X y ρ tgt lv st σ Q) (kf : rx = rw → WA X y ρ nx lv st σ Q) : WA X y ρ pc lv (.ref rw :: .ref rx :: st) σ Q := by
  obtain ⟨e0, rfl, e2⟩ := q
  by_cases hc : rx = rw
  · obtain ⟨r, τ, hQ, h1, h2, kk⟩ := kf hc
    exact ⟨r, τ, hQ, h1, h2, fun p e s m args below meth c H locs ls G a1 a2 hR hS hl => lv_acmp_ne (rx := some rx) (ry := some rw) G.1 G.2.1 e0 e2 (fun z => absurd (by rw [hc]) z) (fun _ => kk p e s m args below meth c H locs ls G a1 a2 hR hS hl)⟩
  · obtain ⟨r, τ, hQ, h1, h2, kk⟩ := kt hc
    exact ⟨r, τ, hQ, h1, h2, fun p e s m args below meth c H locs ls G a1 a2 hR hS hl => lv_acmp_ne (rx := some rx) (ry := some rw) G.1 G.2.1 e0 e2 (fun _ => kk p e s m args below meth c H locs ls G a1 a2 hR hS hl) (fun z => absurd (Option.some.inj z) hc)⟩
end en_more
