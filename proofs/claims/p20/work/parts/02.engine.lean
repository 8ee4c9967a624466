/-! A judgement WA of a method's walk, over a store that is a list of cells with the next free address and the slots used: every end of the walk (answer, store) is known ahead of it, so that what a method makes is counted exactly. -/
/-- a method: name, bytes, locals, what it returns, frames and words of locals that it may nest -/
abbrev en_M : Type := MethodName × ByteArray × Nat × Option FieldType × Nat × Nat
/-- a store: the next free address, the slots used so far, the cells -/
abbrev en_S : Type := Nat × Nat × va_W
/-- launch; class numbers; the classes of int[], long[], boolean[], Value[]; the first cell that is ours; TENS; the script, its length, its ints -/
abbrev en_X : Type := Launch × va_G × (ClassId × ClassId × ClassId × ClassId) × Nat × Nat × Nat × Nat × (Nat → Int32)
/-- the words that every warmer state keeps; those of private members among nest mates, which are kept otherwise -/
def en_tbl : List Cond := lw_tbl.filter goodWord
def en_isN : Cond → Bool
  | .methodLinkNest _ _ _ _ => true
  | .fieldLinkNest _ _ _ _ _ _ => true
  | _ => false
def en_nest : List Cond := lw_tbl.filter en_isN
def en_A (X : en_X) : Nat → Prop := fun q => X.2.2.2.1 ≤ q
def en_tys (X : en_X) : List (ClassId × FieldType) := [(X.2.2.1.1, .int), (X.2.2.1.2.1, .long), (X.2.2.1.2.2.1, .boolean), (X.2.2.1.2.2.2, .object RX5)]
def en_tens (j : Nat) : Int32 := Int32.ofNat (10 ^ j)
def en_fix (X : en_X) (U : State) (H : Heap) : Prop :=
  va_K X.2.1 vwCl (en_tys X) U ∧ va_Z RX6 "TENS" "[I" (.ref X.2.2.2.2.1) (en_A X) U H ∧ va_T .int X.2.2.2.2.1 9 (fun j => .int (en_tens j)) (en_A X) U H ∧ va_X X.2.2.2.2.2.1 X.2.2.2.2.2.2.1 X.2.2.2.2.2.2.2 U H ∧ X.2.2.2.2.2.1 < X.2.2.2.1 ∧ va_AO RX5 U ∧ ∀ w ∈ en_nest, va_Nw w U
def en_R (X : en_X) (σ : en_S) (H : Heap) : Prop := H.size = σ.1 ∧ X.2.2.2.1 ≤ σ.1 ∧ va_P X.2.1 vwCl σ.2.2 H ∧ va_D (en_A X) σ.2.2
def en_ws (y : en_M) : List Cond := .code y.1 y.2.1 y.2.2.1 y.2.2.2.1 :: en_tbl
def en_Pc (X : en_X) (av : List Value) (σ : en_S) : Array Value → State → Prop := fun a U => a = av.toArray ∧ en_fix X U U.heap ∧ en_R X σ U.heap
def en_Qc (X : en_X) (r : Option Value) (τ : en_S) : Array Value → State → Outcome → State → Prop := fun _ st o t => o = .returned r ∧ en_R X τ t.heap ∧ va_F (en_A X) st t
def en_rm (y : en_M) (σ τ : en_S) : Room := { frames := y.2.2.2.2.1, cells := τ.1 - σ.1, slots := τ.2.1 - σ.2.1, locals := y.2.2.2.2.2 }
def en_G (X : en_X) (y : en_M) (ρ : en_S) (p : Program) (s : State) (m : MethodId) (args : Array Value) (meth : Method) (c : Code) : Prop :=
  p.tables.exec = Jvm.exec ∧ c.code = y.2.1 ∧ meth.sig.returnType = y.2.2.2.1 ∧ c.maxLocals = y.2.2.1 ∧ s.vm.findClass y.1.cls = some m.cls ∧ (∀ w ∈ en_tbl, w.before args s = true) ∧ en_fix X s s.heap ∧ meth.locks = false ∧ s.heap.size = ρ.1 ∧ meth.name = y.1.name
/-- the method y, entered at the store ρ, now at pc with these locals, this stack, the store σ, comes to an end with an answer and a store of which Q holds -/
def WA (X : en_X) (y : en_M) (ρ : en_S) (pc : Nat) (lv : List (Nat × Value)) (st : List Value) (σ : en_S) (Q : Option Value → en_S → Prop) : Prop :=
  ∃ (r : Option Value) (τ : en_S), Q r τ ∧ σ.1 ≤ τ.1 ∧ σ.2.1 ≤ τ.2.1 ∧
    ∀ (p : Program) (e : Env) (s : State) (m : MethodId) (args : Array Value) (below : List Frame) (meth : Method) (c : Code) (H : Heap) (locs : List Loc) (ls : Array Slot),
      en_G X y ρ p s m args meth c → ρ.1 ≤ σ.1 → ρ.2.1 ≤ σ.2.1 → en_R X σ H → va_S (en_A X) s.heap H locs → lv_has ls y.2.2.1 lv →
      W p X.1 e (en_rm y ρ τ) s m args below meth c H locs (σ.1 - ρ.1) (σ.2.1 - ρ.2.1) (MQ below (en_Qc X r τ) args s (τ.1 - ρ.1) (τ.2.1 - ρ.2.1) (en_A X)) (F0 m pc ls st)
/-- a call of y with these arguments at the store σ ends with an answer and a store of which Q holds -/
def Calls (X : en_X) (y : en_M) (av : List Value) (σ : en_S) (Q : Option Value → en_S → Prop) : Prop :=
  ∃ (r : Option Value) (τ : en_S), Q r τ ∧ σ.1 ≤ τ.1 ∧ σ.2.1 ≤ τ.2.1 ∧ Met X.1 y.1 (en_ws y) (en_rm y σ τ) (en_Pc X av σ) (en_Qc X r τ) (τ.1 - σ.1) (τ.2.1 - σ.2.1) (en_A X)
theorem Calls.mono {X : en_X} {y : en_M} {av : List Value} {σ : en_S} {Q Q' : Option Value → en_S → Prop} (h : Calls X y av σ Q) (k : ∀ r τ, Q r τ → Q' r τ) : Calls X y av σ Q' := by
  obtain ⟨r, τ, hQ, h1, h2, h3⟩ := h
  exact ⟨r, τ, k r τ hQ, h1, h2, h3⟩
theorem WA.mono {X : en_X} {y : en_M} {ρ σ : en_S} {pc : Nat} {lv : List (Nat × Value)} {st : List Value} {Q Q' : Option Value → en_S → Prop} (h : WA X y ρ pc lv st σ Q) (k : ∀ r τ, Q r τ → Q' r τ) : WA X y ρ pc lv st σ Q' := by
  obtain ⟨r, τ, hQ, h1, h2, h3⟩ := h
  exact ⟨r, τ, k r τ hQ, h1, h2, h3⟩
-- locals
def en_lk : List (Nat × Value) → Nat → Option Value
  | [], _ => none
  | q :: l, i => if q.1 = i then some q.2 else en_lk l i
theorem en_lk_ix {lv : List (Nat × Value)} {i : Nat} {v : Value} (h : en_lk lv i = some v) : ∃ j : Nat, lv[j]? = some (i, v) := by
  induction lv with
  | nil => cases h
  | cons q l ih =>
    unfold en_lk at h
    by_cases hq : q.1 = i
    · rw [if_pos hq] at h
      refine ⟨0, ?_⟩
      cases h
      subst hq
      rfl
    · rw [if_neg hq] at h
      obtain ⟨j, hj⟩ := ih h
      exact ⟨j + 1, by simpa using hj⟩
theorem en_lk_at {ls : Array Slot} {n : Nat} {lv : List (Nat × Value)} {i : Nat} {v : Value} (hl : lv_has ls n lv) (h : en_lk lv i = some v) : ls[i]? = some (.val v) := by
  obtain ⟨j, hj⟩ := en_lk_ix h
  exact lv_at hl j hj
def en_s1 (lv : List (Nat × Value)) (i : Nat) (v : Value) : List (Nat × Value) := (i, v) :: lv.filter (fun q => !(q.1 == i) && !(q.1 + 1 == i && q.2.category == 2))
def en_s2 (lv : List (Nat × Value)) (i : Nat) (v : Value) : List (Nat × Value) := (i, v) :: lv.filter (fun q => !(q.1 == i) && (!(q.1 == i + 1) && !(q.1 + 1 == i && q.2.category == 2)))
theorem wa_lv {X : en_X} {y : en_M} {ρ σ : en_S} {pc : Nat} {lv lv' : List (Nat × Value)} {st : List Value} {Q : Option Value → en_S → Prop} (k : WA X y ρ pc lv' st σ Q) (h : lv'.map (fun q => en_lk lv q.1) = lv'.map (fun q => some q.2)) : WA X y ρ pc lv st σ Q := by
  obtain ⟨r, τ, hQ, h1, h2, kk⟩ := k
  refine ⟨r, τ, hQ, h1, h2, fun p e s m args below meth c H locs ls G a1 a2 hR hS hl => kk p e s m args below meth c H locs ls G a1 a2 hR hS ⟨hl.1, hl.2.1, fun q hq => ?_⟩⟩
  have h3 := List.map_inj_left.mp h q hq
  exact en_lk_at hl h3
-- cells
def en_lw : va_W → Nat → Option va_E
  | [], _ => none
  | q :: w, a => if q.1 = a then some q.2 else en_lw w a
def en_pw : va_W → Nat → va_E → va_W
  | [], _, _ => []
  | q :: w, a, e => if q.1 = a then (a, e) :: w else q :: en_pw w a e
def en_ix : va_W → Nat → Nat
  | [], _ => 0
  | q :: w, a => if q.1 = a then 0 else en_ix w a + 1
theorem en_lw_ix {w : va_W} {a : Nat} {e : va_E} (h : en_lw w a = some e) : w[en_ix w a]? = some (a, e) := by
  induction w with
  | nil => cases h
  | cons q l ih =>
    unfold en_lw at h
    unfold en_ix
    by_cases hq : q.1 = a
    · rw [if_pos hq] at h ⊢
      cases h
      subst hq
      rfl
    · rw [if_neg hq] at h ⊢
      simpa using ih h
theorem en_pw_eq (w : va_W) (a : Nat) (e : va_E) : en_pw w a e = w.set (en_ix w a) (a, e) := by
  induction w with
  | nil => rfl
  | cons q l ih =>
    unfold en_pw en_ix
    by_cases hq : q.1 = a
    · rw [if_pos hq, if_pos hq]; rfl
    · rw [if_neg hq, if_neg hq, ih]; rfl
theorem en_lw_same {w : va_W} {a : Nat} {e e0 : va_E} (h : en_lw w a = some e0) : en_lw (en_pw w a e) a = some e := by
  induction w with
  | nil => cases h
  | cons q l ih =>
    unfold en_lw at h
    unfold en_pw
    by_cases hq : q.1 = a
    · rw [if_pos hq]; simp [en_lw]
    · rw [if_neg hq] at h ⊢
      unfold en_lw
      rw [if_neg hq]
      exact ih h
theorem en_lw_ne {w : va_W} {a b : Nat} {e : va_E} (h : b ≠ a) : en_lw (en_pw w a e) b = en_lw w b := by
  induction w with
  | nil => rfl
  | cons q l ih =>
    unfold en_pw
    by_cases hq : q.1 = a
    · rw [if_pos hq]
      unfold en_lw
      rw [if_neg (fun z => h z.symm), if_neg (fun z => h (z.symm.trans hq))]
    · rw [if_neg hq]
      unfold en_lw
      rw [ih]
def look (σ : en_S) (a : Nat) : Option va_E := en_lw σ.2.2 a
def put (σ : en_S) (a : Nat) (e : va_E) : en_S := (σ.1, σ.2.1, en_pw σ.2.2 a e)
def fresh (σ : en_S) (n : Nat) (e : va_E) : en_S := (σ.1 + 1, σ.2.1 + n, (σ.1, e) :: σ.2.2)
theorem look_same {σ : en_S} {a : Nat} {e e0 : va_E} (h : look σ a = some e0) : look (put σ a e) a = some e := en_lw_same h
theorem look_ne {σ : en_S} {a b : Nat} {e : va_E} (h : b ≠ a) : look (put σ a e) b = look σ b := en_lw_ne h
theorem look_fresh {σ : en_S} {n : Nat} {e : va_E} : look (fresh σ n e) σ.1 = some e := by simp [look, fresh, en_lw]
theorem look_old {σ : en_S} {n : Nat} {e : va_E} {b : Nat} (h : b ≠ σ.1) : look (fresh σ n e) b = look σ b := by
  show en_lw ((σ.1, e) :: σ.2.2) b = en_lw σ.2.2 b
  conv => lhs; unfold en_lw
  rw [if_neg (fun z => h z.symm)]
-- the machine's side
section en_mach
variable {p : Program} {l : Launch} {e : Env} {R : Room} {s : State} {m : MethodId} {args : Array Value} {below : List Frame} {meth : Method} {c : Code} {H : Heap} {locs : List Loc} {cells slots : Nat} {Q : State → Prop}
theorem en_bd {g : JFrame} (k : H.size ≤ s.heap.size + cells → W p l e R s m args below meth c H locs cells slots Q g) : W p l e R s m args below meth c H locs cells slots Q g := fun T hT X => k (by rw [← hT]; exact X.heapSize) T hT X
end en_mach
theorem en_Sself {A : Nat → Prop} {H0 H : Heap} {locs : List Loc} (h : va_S A H0 H locs) : va_S A H H locs := ⟨Nat.le_refl _, fun _ _ _ => rfl, h.2.2⟩
theorem en_Strans {A : Nat → Prop} {H0 H H1 : Heap} {locs locs1 : List Loc} (h : va_S A H0 H locs) (g : va_S A H H1 locs1) : va_S A H0 H1 locs1 := ⟨Nat.le_trans h.1 g.1, fun q h1 h2 => (g.2.1 q (Nat.lt_of_lt_of_le h1 h.1) h2).trans (h.2.1 q h1 h2), g.2.2⟩
theorem en_fix.kept {X : en_X} {U : State} {H H1 : Heap} (h : en_fix X U H) (hq : ∀ q : Nat, q < H.size → ¬ en_A X q → H1[q]? = H[q]?) : en_fix X U H1 := by
  obtain ⟨h1, h2, h3, h4, h5, h6⟩ := h
  refine ⟨h1, h2.kept hq, h3.kept hq, h4.kept (hq _ ?_ (Nat.not_le.mpr h5)), h5, h6⟩
  obtain ⟨scr, g, -⟩ := h4
  exact (Array.getElem?_eq_some_iff.mp g).1
theorem en_nw {w : Cond} (h : en_isN w = true) {s U : State} (hW : s.WarmedH U.vm) (hZ : va_Nw w s) : va_Nw w U := by
  cases w with
  | methodLinkNest a i x k => exact va_Nw.warmM hW hZ
  | fieldLinkNest a i b n d k => exact va_Nw.warmF hW hZ
  | _ => cases h
theorem en_nwT {w : Cond} (h : en_isN w = true) : w.onTables = true := by
  cases w with
  | methodLinkNest a i x k => rfl
  | fieldLinkNest a i b n d k => rfl
  | _ => cases h
theorem en_fix.moved {X : en_X} {u U : State} {H : Heap} (hW : u.WarmedH U.vm) (h : en_fix X u H) : en_fix X U H := by
  obtain ⟨h1, h2, h3, h4, h5, h6, h7⟩ := h
  have hvm := hW.alike
  exact ⟨h1.moved hvm, h2.moved hvm, h3.moved hvm, h4.moved hvm, h5, h6.moved hvm, fun w hw => en_nw (List.mem_filter.mp hw).2 hW (h7 w hw)⟩
theorem en_fix.same {X : en_X} {u U : State} {H : Heap} (hvm : u.vm = U.vm) (h : en_fix X u H) : en_fix X U H := by
  obtain ⟨h1, h2, h3, h4, h5, h6, h7⟩ := h
  have hv : u.vm.Alike U.vm := by rw [← hvm]; exact Vm.Alike.refl _
  exact ⟨h1.moved hv, h2.moved hv, h3.moved hv, h4.moved hv, h5, h6.moved hv, fun w hw => va_Nw.same (en_nwT (List.mem_filter.mp hw).2) hvm (h7 w hw)⟩
theorem en_good : ∀ w ∈ en_tbl, goodWord w = true := fun _ h => (List.mem_filter.mp h).2
theorem en_after {X : en_X} {y : en_M} {ρ σ : en_S} {p : Program} {s : State} {m : MethodId} {args : Array Value} {meth : Method} {c : Code} {H H1 : Heap} {locs locs1 : List Loc} {a : Nat} {en : va_E} (G : en_G X y ρ p s m args meth c) (a1 : ρ.1 ≤ σ.1) (hR : en_R X σ H) (hS : va_S (en_A X) s.heap H locs)
    (g1 : va_P X.2.1 vwCl (σ.2.2.set (en_ix σ.2.2 a) (a, en)) H1) (g2 : va_D (en_A X) (σ.2.2.set (en_ix σ.2.2 a) (a, en))) (g3 : va_S (en_A X) H H1 locs1) (hb : H1.size ≤ s.heap.size + (σ.1 - ρ.1)) : en_R X (put σ a en) H1 ∧ va_S (en_A X) s.heap H1 locs1 := by
  obtain ⟨r1, r2, r3, r4⟩ := hR
  have hz : s.heap.size = ρ.1 := G.2.2.2.2.2.2.2.2.1
  refine ⟨⟨?_, r2, ?_, ?_⟩, en_Strans hS g3⟩
  · show H1.size = σ.1
    have := g3.1
    omega
  · show va_P X.2.1 vwCl (en_pw σ.2.2 a en) H1
    rw [en_pw_eq]; exact g1
  · show va_D (en_A X) (en_pw σ.2.2 a en)
    rw [en_pw_eq]; exact g2
theorem en_freshR {X : en_X} {y : en_M} {ρ σ : en_S} {p : Program} {s : State} {m : MethodId} {args : Array Value} {meth : Method} {c : Code} {H H1 : Heap} {locs : List Loc} {n : Nat} {en : va_E} (G : en_G X y ρ p s m args meth c) (hR : en_R X σ H) (hS : va_S (en_A X) s.heap H locs)
    (z1 : H1.size = H.size + 1) (o1 : ∀ q : Nat, q < H.size → H1[q]? = H[q]?) (he : va_at X.2.1 vwCl (H.size, en) H1) : en_R X (fresh σ n en) H1 ∧ va_S (en_A X) s.heap H1 locs := by
  obtain ⟨r1, r2, r3, r4⟩ := hR
  refine ⟨⟨by show H1.size = σ.1 + 1; omega, by show _ ≤ σ.1 + 1; omega, ?_, ?_⟩, ⟨by have := hS.1; omega, fun q h1 h2 => (o1 q (Nat.lt_of_lt_of_le h1 hS.1)).trans (hS.2.1 q h1 h2), hS.2.2⟩⟩
  · intro k q hk
    match k, hk with
    | 0, hk =>
      cases hk
      show va_at X.2.1 vwCl (σ.1, en) H1
      rw [← r1]; exact he
    | k + 1, hk =>
      have hk : σ.2.2[k]? = some q := by simpa [fresh] using hk
      exact (r3 k q hk).kept (o1 _ (r3 k q hk).lt)
  · have h0 : ∀ (k : Nat) (q : Nat × va_E), σ.2.2[k]? = some q → q.1 < σ.1 := fun k q hk => by rw [← r1]; exact (r3 k q hk).lt
    refine ⟨fun i j x z hi hj hxz => ?_, fun k q hk => ?_⟩
    · match i, j, hi, hj with
      | 0, 0, _, _ => rfl
      | 0, j + 1, hi, hj =>
        have hj : σ.2.2[j]? = some z := by simpa [fresh] using hj
        have := h0 j z hj
        cases hi
        have hxz : σ.1 = z.1 := hxz
        omega
      | i + 1, 0, hi, hj =>
        have hi : σ.2.2[i]? = some x := by simpa [fresh] using hi
        have := h0 i x hi
        cases hj
        have hxz : x.1 = σ.1 := hxz
        omega
      | i + 1, j + 1, hi, hj =>
        have hi : σ.2.2[i]? = some x := by simpa [fresh] using hi
        have hj : σ.2.2[j]? = some z := by simpa [fresh] using hj
        rw [r4.1 i j x z hi hj hxz]
    · match k, hk with
      | 0, hk =>
        cases hk
        exact r2
      | k + 1, hk =>
        have hk : σ.2.2[k]? = some q := by simpa [fresh] using hk
        exact r4.2 k q hk
