/-! Rows over numbers nI n, lN n (n : Nat), and rows that leave a new store, with what it holds. -/
def ar (X : en_X) (n : Nat) (d : Nat → Nat) : va_E := .inl (X.2.2.1.1, n, .inl (fun i => nI (d i)))
def un (d : Nat → Nat) (k x : Nat) : Nat → Nat := fun j => if j = k then x else d j
theorem un_s {d : Nat → Nat} {k x : Nat} : un d k x k = x := if_pos rfl
theorem un_n {d : Nat → Nat} {k x j : Nat} (h : j ≠ k) : un d k x j = d j := if_neg h
theorem upd_nI (d : Nat → Nat) (k x : Nat) : upd (fun i => nI (d i)) k (nI x) = fun i => nI (un d k x i) := by
  funext j; unfold upd un; by_cases h : j = k <;> simp [h]
theorem nI_surj (x : Int32) : ∃ n : Nat, n < 2 ^ 32 ∧ x = nI n := ⟨x.toBitVec.toNat, x.toBitVec.isLt, by
  show x = Int32.ofNat _
  apply Int32.toBitVec_inj.mp
  simp [Int32.ofNat]⟩
theorem lk {a b : Nat} (h : Nat.ble a b = true) : a ≤ b := Nat.le_of_ble_eq_true h
section en_n
variable {X : en_X} {y f : en_M} {ρ σ : en_S} {pc nx : Nat} {lv : List (Nat × Value)} {st stk : List Value} {Q : Option Value → en_S → Prop}
theorem wn_iadd {a b : Nat} (q : decode y.2.1 pc = .ok (.iadd, 1) ∧ pc + 1 = nx) (k : WA X y ρ nx lv (.int (nI (a + b)) :: st) σ Q) : WA X y ρ pc lv (.int (nI b) :: .int (nI a) :: st) σ Q := wa_iadd q (by rw [nI_add]; exact k)
theorem wn_imul {a b : Nat} (q : decode y.2.1 pc = .ok (.imul, 1) ∧ pc + 1 = nx) (k : WA X y ρ nx lv (.int (nI (a * b)) :: st) σ Q) : WA X y ρ pc lv (.int (nI b) :: .int (nI a) :: st) σ Q := wa_imul q (by rw [pk_mul]; exact k)
theorem wn_isub {a b : Nat} (q : decode y.2.1 pc = .ok (.isub, 1) ∧ pc + 1 = nx) (h : b ≤ a) (k : WA X y ρ nx lv (.int (nI (a - b)) :: st) σ Q) : WA X y ρ pc lv (.int (nI b) :: .int (nI a) :: st) σ Q := wa_isub q (by rw [pk_sub h]; exact k)
theorem wn_idiv {a b : Nat} (q : decode y.2.1 pc = .ok (.idiv, 1) ∧ pc + 1 = nx) (ha : a < 2 ^ 31) (h0 : 0 < b) (hb : b < 2 ^ 31) (k : WA X y ρ nx lv (.int (nI (a / b)) :: st) σ Q) : WA X y ρ pc lv (.int (nI b) :: .int (nI a) :: st) σ Q := wa_idiv q (nI_ne0 h0 hb) (by rw [pk_div ha h0 hb]; exact k)
theorem wn_irem {a b : Nat} (q : decode y.2.1 pc = .ok (.irem, 1) ∧ pc + 1 = nx) (ha : a < 2 ^ 31) (h0 : 0 < b) (hb : b < 2 ^ 31) (k : WA X y ρ nx lv (.int (nI (a % b)) :: st) σ Q) : WA X y ρ pc lv (.int (nI b) :: .int (nI a) :: st) σ Q := wa_irem q (nI_ne0 h0 hb) (by rw [pk_rem ha h0 hb]; exact k)
theorem wn_ladd {a b : Nat} (q : decode y.2.1 pc = .ok (.ladd, 1) ∧ pc + 1 = nx) (k : WA X y ρ nx lv (.long (lN (a + b)) :: st) σ Q) : WA X y ρ pc lv (.long (lN b) :: .long (lN a) :: st) σ Q := wa_ladd q (by rw [lN_add]; exact k)
theorem wn_lmul {a b : Nat} (q : decode y.2.1 pc = .ok (.lmul, 1) ∧ pc + 1 = nx) (k : WA X y ρ nx lv (.long (lN (a * b)) :: st) σ Q) : WA X y ρ pc lv (.long (lN b) :: .long (lN a) :: st) σ Q := wa_lmul q (by rw [lN_mul]; exact k)
theorem wn_lsub {a b : Nat} (q : decode y.2.1 pc = .ok (.lsub, 1) ∧ pc + 1 = nx) (h : b ≤ a) (k : WA X y ρ nx lv (.long (lN (a - b)) :: st) σ Q) : WA X y ρ pc lv (.long (lN b) :: .long (lN a) :: st) σ Q := wa_lsub q (by rw [lN_sub h]; exact k)
theorem wn_ldiv {a b : Nat} (q : decode y.2.1 pc = .ok (.ldiv, 1) ∧ pc + 1 = nx) (ha : a < 2 ^ 63) (h0 : 0 < b) (hb : b < 2 ^ 63) (k : WA X y ρ nx lv (.long (lN (a / b)) :: st) σ Q) : WA X y ρ pc lv (.long (lN b) :: .long (lN a) :: st) σ Q := wa_ldiv q (fun z => by have := (pk_lEQ hb (by decide : 0 < 2 ^ 63)).mp z; omega) (by rw [pk_lDiv ha h0 hb]; exact k)
theorem wn_lrem {a b : Nat} (q : decode y.2.1 pc = .ok (.lrem, 1) ∧ pc + 1 = nx) (ha : a < 2 ^ 63) (h0 : 0 < b) (hb : b < 2 ^ 63) (k : WA X y ρ nx lv (.long (lN (a % b)) :: st) σ Q) : WA X y ρ pc lv (.long (lN b) :: .long (lN a) :: st) σ Q := wa_lrem q (fun z => by have := (pk_lEQ hb (by decide : 0 < 2 ^ 63)).mp z; omega) (by rw [pk_lRem ha h0 hb]; exact k)
theorem wn_i2l {a : Nat} (q : decode y.2.1 pc = .ok (.i2l, 1) ∧ pc + 1 = nx) (ha : a < 2 ^ 31) (k : WA X y ρ nx lv (.long (lN a) :: st) σ Q) : WA X y ρ pc lv (.int (nI a) :: st) σ Q := wa_i2l q (nI_l ha) k
theorem wn_l2i {a : Nat} (q : decode y.2.1 pc = .ok (.l2i, 1) ∧ pc + 1 = nx) (k : WA X y ρ nx lv (.int (nI a) :: st) σ Q) : WA X y ρ pc lv (.long (lN a) :: st) σ Q := wa_l2i q (lN_i a) k
theorem wn_iinc {i j : Nat} (q : decode y.2.1 pc = .ok (.iinc i 1, 3) ∧ pc + 3 = nx) (hv : en_lk lv i = some (.int (nI j))) (hn : i < y.2.2.1) (k : WA X y ρ nx (en_s1 lv i (.int (nI (j + 1)))) st σ Q) : WA X y ρ pc lv st σ Q := wa_iinc q hv (by rw [nI_succ]; rfl) hn k
theorem wn_idec {i j : Nat} (q : decode y.2.1 pc = .ok (.iinc i (-1), 3) ∧ pc + 3 = nx) (hv : en_lk lv i = some (.int (nI (j + 1)))) (hn : i < y.2.2.1) (k : WA X y ρ nx (en_s1 lv i (.int (nI j))) st σ Q) : WA X y ρ pc lv st σ Q := wa_iinc q hv (by rw [← pk_m1 j]; rfl) hn k
theorem wn_icmp_eq {a b : Nat} {off : Int} {tgt : Nat} (q : decode y.2.1 pc = .ok (.if_icmp .eq off, 3) ∧ pc + 3 = nx ∧ (pc : Int) + off = (tgt : Int)) (ha : a < 2 ^ 31) (hb : b < 2 ^ 31) (kt : a = b → WA X y ρ tgt lv st σ Q) (kf : a ≠ b → WA X y ρ nx lv st σ Q) : WA X y ρ pc lv (.int (nI b) :: .int (nI a) :: st) σ Q := wa_icmp_eq q (fun z => kt ((nI_eq ha hb).mp z)) (fun z => kf (fun w => z ((nI_eq ha hb).mpr w)))
theorem wn_icmp_ne {a b : Nat} {off : Int} {tgt : Nat} (q : decode y.2.1 pc = .ok (.if_icmp .ne off, 3) ∧ pc + 3 = nx ∧ (pc : Int) + off = (tgt : Int)) (ha : a < 2 ^ 31) (hb : b < 2 ^ 31) (kt : a ≠ b → WA X y ρ tgt lv st σ Q) (kf : a = b → WA X y ρ nx lv st σ Q) : WA X y ρ pc lv (.int (nI b) :: .int (nI a) :: st) σ Q := wa_icmp_ne q (fun z => kt (fun w => z ((nI_eq ha hb).mpr w))) (fun z => kf ((nI_eq ha hb).mp z))
theorem wn_icmp_lt {a b : Nat} {off : Int} {tgt : Nat} (q : decode y.2.1 pc = .ok (.if_icmp .lt off, 3) ∧ pc + 3 = nx ∧ (pc : Int) + off = (tgt : Int)) (ha : a < 2 ^ 31) (hb : b < 2 ^ 31) (kt : a < b → WA X y ρ tgt lv st σ Q) (kf : b ≤ a → WA X y ρ nx lv st σ Q) : WA X y ρ pc lv (.int (nI b) :: .int (nI a) :: st) σ Q := wa_icmp_lt q (fun z => kt ((nI_ltI ha hb).mp z)) (fun z => kf (by have := mt (nI_ltI ha hb).mpr z; omega))
theorem wn_icmp_ge {a b : Nat} {off : Int} {tgt : Nat} (q : decode y.2.1 pc = .ok (.if_icmp .ge off, 3) ∧ pc + 3 = nx ∧ (pc : Int) + off = (tgt : Int)) (ha : a < 2 ^ 31) (hb : b < 2 ^ 31) (kt : b ≤ a → WA X y ρ tgt lv st σ Q) (kf : a < b → WA X y ρ nx lv st σ Q) : WA X y ρ pc lv (.int (nI b) :: .int (nI a) :: st) σ Q := wa_icmp_ge q (fun z => kt ((nI_leI hb ha).mp z)) (fun z => kf (by have := mt (nI_leI hb ha).mpr z; omega))
theorem wn_icmp_gt {a b : Nat} {off : Int} {tgt : Nat} (q : decode y.2.1 pc = .ok (.if_icmp .gt off, 3) ∧ pc + 3 = nx ∧ (pc : Int) + off = (tgt : Int)) (ha : a < 2 ^ 31) (hb : b < 2 ^ 31) (kt : b < a → WA X y ρ tgt lv st σ Q) (kf : a ≤ b → WA X y ρ nx lv st σ Q) : WA X y ρ pc lv (.int (nI b) :: .int (nI a) :: st) σ Q := wa_icmp_gt q (fun z => kt ((nI_ltI hb ha).mp z)) (fun z => kf (by have := mt (nI_ltI hb ha).mpr z; omega))
theorem wn_icmp_le {a b : Nat} {off : Int} {tgt : Nat} (q : decode y.2.1 pc = .ok (.if_icmp .le off, 3) ∧ pc + 3 = nx ∧ (pc : Int) + off = (tgt : Int)) (ha : a < 2 ^ 31) (hb : b < 2 ^ 31) (kt : a ≤ b → WA X y ρ tgt lv st σ Q) (kf : b < a → WA X y ρ nx lv st σ Q) : WA X y ρ pc lv (.int (nI b) :: .int (nI a) :: st) σ Q := wa_icmp_le q (fun z => kt ((nI_leI ha hb).mp z)) (fun z => kf (by have := mt (nI_leI ha hb).mpr z; omega))
theorem wn_if_eq {a : Nat} {off : Int} {tgt : Nat} (q : decode y.2.1 pc = .ok (.ifCond .eq off, 3) ∧ pc + 3 = nx ∧ (pc : Int) + off = (tgt : Int)) (ha : a < 2 ^ 31) (kt : a = 0 → WA X y ρ tgt lv st σ Q) (kf : 0 < a → WA X y ρ nx lv st σ Q) : WA X y ρ pc lv (.int (nI a) :: st) σ Q := by
  have h0 : 0 < 2 ^ 31 := by decide
  exact wa_if_eq q (fun z => kt ((nI_eq ha h0).mp z)) (fun z => kf (Nat.pos_of_ne_zero (fun w => z ((nI_eq ha h0).mpr w))))
theorem wn_if_ne {a : Nat} {off : Int} {tgt : Nat} (q : decode y.2.1 pc = .ok (.ifCond .ne off, 3) ∧ pc + 3 = nx ∧ (pc : Int) + off = (tgt : Int)) (ha : a < 2 ^ 31) (kt : 0 < a → WA X y ρ tgt lv st σ Q) (kf : a = 0 → WA X y ρ nx lv st σ Q) : WA X y ρ pc lv (.int (nI a) :: st) σ Q := by
  have h0 : 0 < 2 ^ 31 := by decide
  exact wa_if_ne q (fun z => kt (Nat.pos_of_ne_zero (fun w => z ((nI_eq ha h0).mpr w)))) (fun z => kf ((nI_eq ha h0).mp z))
theorem wn_if_lt {a : Nat} {off : Int} {tgt : Nat} (q : decode y.2.1 pc = .ok (.ifCond .lt off, 3) ∧ pc + 3 = nx ∧ (pc : Int) + off = (tgt : Int)) (ha : a < 2 ^ 31) (kt : False → WA X y ρ tgt lv st σ Q) (kf : True → WA X y ρ nx lv st σ Q) : WA X y ρ pc lv (.int (nI a) :: st) σ Q := wa_if_lt q (fun z => absurd z (nI_pos ha)) (fun _ => kf trivial)
theorem wn_if_ge {a : Nat} {off : Int} {tgt : Nat} (q : decode y.2.1 pc = .ok (.ifCond .ge off, 3) ∧ pc + 3 = nx ∧ (pc : Int) + off = (tgt : Int)) (ha : a < 2 ^ 31) (kt : True → WA X y ρ tgt lv st σ Q) (kf : False → WA X y ρ nx lv st σ Q) : WA X y ρ pc lv (.int (nI a) :: st) σ Q := wa_if_ge q (fun _ => kt trivial) (fun z => absurd (nI_pos' ha) z)
theorem wn_if_gt {a : Nat} {off : Int} {tgt : Nat} (q : decode y.2.1 pc = .ok (.ifCond .gt off, 3) ∧ pc + 3 = nx ∧ (pc : Int) + off = (tgt : Int)) (ha : a < 2 ^ 31) (kt : 0 < a → WA X y ρ tgt lv st σ Q) (kf : a = 0 → WA X y ρ nx lv st σ Q) : WA X y ρ pc lv (.int (nI a) :: st) σ Q := by
  have h0 : 0 < 2 ^ 31 := by decide
  exact wa_if_gt q (fun z => kt ((nI_ltI h0 ha).mp z)) (fun z => kf (by have := mt (nI_ltI h0 ha).mpr z; omega))
theorem wn_if_le {a : Nat} {off : Int} {tgt : Nat} (q : decode y.2.1 pc = .ok (.ifCond .le off, 3) ∧ pc + 3 = nx ∧ (pc : Int) + off = (tgt : Int)) (ha : a < 2 ^ 31) (kt : a = 0 → WA X y ρ tgt lv st σ Q) (kf : 0 < a → WA X y ρ nx lv st σ Q) : WA X y ρ pc lv (.int (nI a) :: st) σ Q := by
  have h0 : 0 < 2 ^ 31 := by decide
  exact wa_if_le q (fun z => kt (Nat.le_zero.mp ((nI_leI ha h0).mp z))) (fun z => kf (by have := mt (nI_leI ha h0).mpr z; omega))
theorem wn_putf {i ci k a : Nat} {fs : List Value} {v : Value} {ty : FieldType} (q : decode y.2.1 pc = .ok (.putfield i, 3) ∧ pc + 3 = nx) (f : en_Fp y.1.cls i ci k false ty) (h : look σ a = some (.inr (ci, fs))) (hk : k < fs.length) (hn : narrow ty v = v) (hfit : fits ty v = true) {fs' : List Value} (hfs : fs.set k v = fs')
    (kw : ∀ σ1 : en_S, look σ1 a = some (.inr (ci, fs')) → (∀ b, b ≠ a → look σ1 b = look σ b) → σ1.1 = σ.1 → σ1.2.1 = σ.2.1 → WA X y ρ nx lv st σ1 Q) : WA X y ρ pc lv (v :: .ref a :: st) σ Q := wa_putf q f h hk hn hfit (kw _ (hfs ▸ look_same h) (fun _ hb => look_ne hb) rfl rfl)
theorem wn_putF {i ci k a : Nat} {fs : List Value} {v : Value} {ty : FieldType} (q : decode y.2.1 pc = .ok (.putfield i, 3) ∧ pc + 3 = nx) (f : en_Fp y.1.cls i ci k true ty) (hy : y.1.name = "<init>") (hC : ∀ C T N, vwCl[ci]? = some (C, T, N) → C = y.1.cls) (h : look σ a = some (.inr (ci, fs))) (hk : k < fs.length) (hn : narrow ty v = v) (hfit : fits ty v = true) {fs' : List Value} (hfs : fs.set k v = fs')
    (kw : ∀ σ1 : en_S, look σ1 a = some (.inr (ci, fs')) → (∀ b, b ≠ a → look σ1 b = look σ b) → σ1.1 = σ.1 → σ1.2.1 = σ.2.1 → WA X y ρ nx lv st σ1 Q) : WA X y ρ pc lv (v :: .ref a :: st) σ Q := wa_putF q f hy hC h hk hn hfit (kw _ (hfs ▸ look_same h) (fun _ hb => look_ne hb) rfl rfl)
theorem wn_iald {a n j : Nat} {d : Nat → Nat} (q : decode y.2.1 pc = .ok (.iaload, 1) ∧ pc + 1 = nx) (h : look σ a = some (ar X n d)) (hj : j < n) (hn : n < 2 ^ 31) (kw : WA X y ρ nx lv (.int (nI (d j)) :: st) σ Q) : WA X y ρ pc lv (.int (nI j) :: .ref a :: st) σ Q := wa_iald (f := fun i => nI (d i)) q h (vp_in_nI hj hn) (by rw [nI_clamp (by omega)]; exact kw)
theorem wn_alen {a n : Nat} {d : Nat → Nat} (q : decode y.2.1 pc = .ok (.arraylength, 1) ∧ pc + 1 = nx) (h : look σ a = some (ar X n d)) (kw : WA X y ρ nx lv (.int (nI n) :: st) σ Q) : WA X y ρ pc lv (.ref a :: st) σ Q := wa_alen (t0 := 0) q h rfl kw
theorem wn_iast {a n j x : Nat} {d : Nat → Nat} (q : decode y.2.1 pc = .ok (.iastore, 1) ∧ pc + 1 = nx) (h : look σ a = some (ar X n d)) (hj : j < n) (hn : n < 2 ^ 31)
    (kw : ∀ σ1 : en_S, look σ1 a = some (ar X n (un d j x)) → (∀ b, b ≠ a → look σ1 b = look σ b) → σ1.1 = σ.1 → σ1.2.1 = σ.2.1 → WA X y ρ nx lv st σ1 Q) : WA X y ρ pc lv (.int (nI x) :: .int (nI j) :: .ref a :: st) σ Q := by
  refine wa_iast (f := fun i => nI (d i)) q h (vp_in_nI hj hn) ?_
  rw [nI_clamp (by omega), upd_nI]
  exact kw _ (look_same h) (fun _ hb => look_ne hb) rfl rfl
theorem wn_newi {N : Nat} (q : decode y.2.1 pc = .ok (.newarray .int, 2) ∧ pc + 2 = nx) (hN : N ≤ 100000000)
    (kw : ∀ σ1 : en_S, look σ1 σ.1 = some (ar X N (fun _ => 0)) → (∀ b, b ≠ σ.1 → look σ1 b = look σ b) → σ1.1 = σ.1 + 1 → σ1.2.1 = σ.2.1 + N → WA X y ρ nx lv (.ref σ.1 :: st) σ1 Q) : WA X y ρ pc lv (.int (nI N) :: st) σ Q :=
  wa_newi (N := N) q (nI_pos (by omega)) (nI_clamp (by omega)) hN (kw _ look_fresh (fun _ hb => look_old hb) rfl rfl)
theorem wn_new {i ci N : Nat} {fs : List Value} (q : decode y.2.1 pc = .ok (.new i, 3) ∧ pc + 3 = nx) (f : en_N y.1.cls i ci N fs)
    (kw : ∀ σ1 : en_S, look σ1 σ.1 = some (.inr (ci, fs)) → (∀ b, b ≠ σ.1 → look σ1 b = look σ b) → σ1.1 = σ.1 + 1 → σ1.2.1 = σ.2.1 + N → WA X y ρ nx lv (.ref σ.1 :: st) σ1 Q) : WA X y ρ pc lv st σ Q :=
  wa_new q f (kw _ look_fresh (fun _ hb => look_old hb) rfl rfl)
theorem va_cpy_nI (f g : Nat → Nat) (sp dp n : Nat) : va_cpy (fun i => nI (f i)) (fun i => nI (g i)) sp dp n = fun i => nI (va_cpy f g sp dp n i) := by
  funext j; unfold va_cpy; split <;> rfl
theorem wn_copyi {i a0 a n0 n1 sp dp n : Nat} {f g : Nat → Nat} (q : decode y.2.1 pc = .ok (.invokestatic i, 3) ∧ pc + 3 = nx) (w : Cond.methodLink y.1.cls i arraycopyName ∈ en_tbl) (hf : 1 ≤ y.2.2.2.2.1) (hw : (st.map fun v => v.category).sum + (nativeFrameWords "java/lang/System" "arraycopy" 5 + 11) ≤ y.2.2.2.2.2)
    (h0 : look σ a0 = some (ar X n0 f)) (h1 : look σ a = some (ar X n1 g)) (c0 : n0 < 2 ^ 31) (c1 : n1 < 2 ^ 31) (c4 : sp + n ≤ n0) (c5 : dp + n ≤ n1)
    (kw : ∀ σ1 : en_S, look σ1 a = some (ar X n1 (va_cpy f g sp dp n)) → (∀ b, b ≠ a → look σ1 b = look σ b) → σ1.1 = σ.1 → σ1.2.1 = σ.2.1 → WA X y ρ nx lv st σ1 Q) : WA X y ρ pc lv (.int (nI n) :: .int (nI dp) :: .ref a :: .int (nI sp) :: .ref a0 :: st) σ Q := by
  refine wa_copyi (f := fun i => nI (f i)) (g := fun i => nI (g i)) q w hf hw h0 h1 (nI_pos (by omega)) (nI_pos (by omega)) (nI_pos (by omega)) (by rw [nI_clamp (by omega), nI_clamp (by omega)]; exact c4) (by rw [nI_clamp (by omega), nI_clamp (by omega)]; exact c5) ?_
  rw [nI_clamp (by omega), nI_clamp (by omega), nI_clamp (by omega), va_cpy_nI]
  exact kw _ (look_same h1) (fun _ hb => look_ne hb) rfl rfl
theorem wn_mmax {i a b : Nat} (q : decode y.2.1 pc = .ok (.invokestatic i, 3) ∧ pc + 3 = nx) (wd : Cond.methodLink y.1.cls i Lib.Math.max.name ∈ en_tbl) (hf : 1 ≤ y.2.2.2.2.1) (hw : (st.map fun v => v.category).sum + 13 ≤ y.2.2.2.2.2) (ha : a < 2 ^ 31) (hb : b < 2 ^ 31) (k : WA X y ρ nx lv (.int (nI (max a b)) :: st) σ Q) : WA X y ρ pc lv (.int (nI b) :: .int (nI a) :: st) σ Q := by
  refine wa_mmax q wd hf hw ?_
  rcases Nat.lt_or_ge a b with h | h
  · rw [if_pos ((nI_ltI ha hb).mpr h)]; rw [Nat.max_eq_right (Nat.le_of_lt h)] at k; exact k
  · rw [if_neg (fun z => by have := (nI_ltI ha hb).mp z; omega)]; rw [Nat.max_eq_left h] at k; exact k
theorem wn_mmin {i a b : Nat} (q : decode y.2.1 pc = .ok (.invokestatic i, 3) ∧ pc + 3 = nx) (wd : Cond.methodLink y.1.cls i Lib.Math.min.name ∈ en_tbl) (hf : 1 ≤ y.2.2.2.2.1) (hw : (st.map fun v => v.category).sum + 13 ≤ y.2.2.2.2.2) (ha : a < 2 ^ 31) (hb : b < 2 ^ 31) (k : WA X y ρ nx lv (.int (nI (min a b)) :: st) σ Q) : WA X y ρ pc lv (.int (nI b) :: .int (nI a) :: st) σ Q := by
  refine wa_mmin q wd hf hw ?_
  rcases Nat.lt_or_ge b a with h | h
  · rw [if_pos ((nI_ltI hb ha).mpr h)]; rw [Nat.min_eq_right (Nat.le_of_lt h)] at k; exact k
  · rw [if_neg (fun z => by have := (nI_ltI hb ha).mp z; omega)]; rw [Nat.min_eq_left h] at k; exact k
theorem wn_tald {j : Nat} (q : decode y.2.1 pc = .ok (.iaload, 1) ∧ pc + 1 = nx) (hj : j < 9) (k : WA X y ρ nx lv (.int (nI (10 ^ j)) :: st) σ Q) : WA X y ρ pc lv (.int (nI j) :: .ref X.2.2.2.2.1 :: st) σ Q := wa_tald q (vp_in_nI hj (by decide)) (by rw [nI_clamp (by omega)]; exact k)
theorem wn_lcmp_lt {a b p2 : Nat} {off : Int} {tgt : Nat} (q : decode y.2.1 pc = .ok (.lcmp, 1) ∧ pc + 1 = p2) (q2 : decode y.2.1 p2 = .ok (.ifCond .lt off, 3) ∧ p2 + 3 = nx ∧ (p2 : Int) + off = (tgt : Int)) (ha : a < 2 ^ 63) (hb : b < 2 ^ 63) (kt : a < b → WA X y ρ tgt lv st σ Q) (kf : b ≤ a → WA X y ρ nx lv st σ Q) : WA X y ρ pc lv (.long (lN b) :: .long (lN a) :: st) σ Q := by
  have hL : lN a < lN b ↔ a < b := pk_lLT ha hb
  have hG : lN b < lN a ↔ b < a := pk_lLT hb ha
  have hE : lN a = lN b ↔ a = b := pk_lEQ ha hb
  refine wa_lcmp q (wa_if_lt q2 (fun z => kt ?_) (fun z => kf ?_))
  all_goals (unfold lg_cmp at z; rcases Nat.lt_trichotomy a b with h | h | h)
  all_goals first | omega | (exfalso; revert z; first | (rw [if_neg (fun w => by have := hG.mp w; omega), if_neg (fun w => by have := hE.mp w; omega)]; decide) | (rw [if_neg (fun w => by have := hG.mp w; omega), if_pos (hE.mpr h)]; decide) | (rw [if_pos (hG.mpr h)]; decide))
theorem wn_lcmp_ge {a b p2 : Nat} {off : Int} {tgt : Nat} (q : decode y.2.1 pc = .ok (.lcmp, 1) ∧ pc + 1 = p2) (q2 : decode y.2.1 p2 = .ok (.ifCond .ge off, 3) ∧ p2 + 3 = nx ∧ (p2 : Int) + off = (tgt : Int)) (ha : a < 2 ^ 63) (hb : b < 2 ^ 63) (kt : b ≤ a → WA X y ρ tgt lv st σ Q) (kf : a < b → WA X y ρ nx lv st σ Q) : WA X y ρ pc lv (.long (lN b) :: .long (lN a) :: st) σ Q := by
  have hL : lN a < lN b ↔ a < b := pk_lLT ha hb
  have hG : lN b < lN a ↔ b < a := pk_lLT hb ha
  have hE : lN a = lN b ↔ a = b := pk_lEQ ha hb
  refine wa_lcmp q (wa_if_ge q2 (fun z => kt ?_) (fun z => kf ?_))
  all_goals (unfold lg_cmp at z; rcases Nat.lt_trichotomy a b with h | h | h)
  all_goals first | omega | (exfalso; revert z; first | (rw [if_neg (fun w => by have := hG.mp w; omega), if_neg (fun w => by have := hE.mp w; omega)]; decide) | (rw [if_neg (fun w => by have := hG.mp w; omega), if_pos (hE.mpr h)]; decide) | (rw [if_pos (hG.mpr h)]; decide))
theorem wn_lcmp_gt {a b p2 : Nat} {off : Int} {tgt : Nat} (q : decode y.2.1 pc = .ok (.lcmp, 1) ∧ pc + 1 = p2) (q2 : decode y.2.1 p2 = .ok (.ifCond .gt off, 3) ∧ p2 + 3 = nx ∧ (p2 : Int) + off = (tgt : Int)) (ha : a < 2 ^ 63) (hb : b < 2 ^ 63) (kt : b < a → WA X y ρ tgt lv st σ Q) (kf : a ≤ b → WA X y ρ nx lv st σ Q) : WA X y ρ pc lv (.long (lN b) :: .long (lN a) :: st) σ Q := by
  have hL : lN a < lN b ↔ a < b := pk_lLT ha hb
  have hG : lN b < lN a ↔ b < a := pk_lLT hb ha
  have hE : lN a = lN b ↔ a = b := pk_lEQ ha hb
  refine wa_lcmp q (wa_if_gt q2 (fun z => kt ?_) (fun z => kf ?_))
  all_goals (unfold lg_cmp at z; rcases Nat.lt_trichotomy a b with h | h | h)
  all_goals first | omega | (exfalso; revert z; first | (rw [if_neg (fun w => by have := hG.mp w; omega), if_neg (fun w => by have := hE.mp w; omega)]; decide) | (rw [if_neg (fun w => by have := hG.mp w; omega), if_pos (hE.mpr h)]; decide) | (rw [if_pos (hG.mpr h)]; decide))
theorem wn_lcmp_le {a b p2 : Nat} {off : Int} {tgt : Nat} (q : decode y.2.1 pc = .ok (.lcmp, 1) ∧ pc + 1 = p2) (q2 : decode y.2.1 p2 = .ok (.ifCond .le off, 3) ∧ p2 + 3 = nx ∧ (p2 : Int) + off = (tgt : Int)) (ha : a < 2 ^ 63) (hb : b < 2 ^ 63) (kt : a ≤ b → WA X y ρ tgt lv st σ Q) (kf : b < a → WA X y ρ nx lv st σ Q) : WA X y ρ pc lv (.long (lN b) :: .long (lN a) :: st) σ Q := by
  have hL : lN a < lN b ↔ a < b := pk_lLT ha hb
  have hG : lN b < lN a ↔ b < a := pk_lLT hb ha
  have hE : lN a = lN b ↔ a = b := pk_lEQ ha hb
  refine wa_lcmp q (wa_if_le q2 (fun z => kt ?_) (fun z => kf ?_))
  all_goals (unfold lg_cmp at z; rcases Nat.lt_trichotomy a b with h | h | h)
  all_goals first | omega | (exfalso; revert z; first | (rw [if_neg (fun w => by have := hG.mp w; omega), if_neg (fun w => by have := hE.mp w; omega)]; decide) | (rw [if_neg (fun w => by have := hG.mp w; omega), if_pos (hE.mpr h)]; decide) | (rw [if_pos (hG.mpr h)]; decide))
theorem wn_lcmp_eq {a b p2 : Nat} {off : Int} {tgt : Nat} (q : decode y.2.1 pc = .ok (.lcmp, 1) ∧ pc + 1 = p2) (q2 : decode y.2.1 p2 = .ok (.ifCond .eq off, 3) ∧ p2 + 3 = nx ∧ (p2 : Int) + off = (tgt : Int)) (ha : a < 2 ^ 63) (hb : b < 2 ^ 63) (kt : a = b → WA X y ρ tgt lv st σ Q) (kf : a ≠ b → WA X y ρ nx lv st σ Q) : WA X y ρ pc lv (.long (lN b) :: .long (lN a) :: st) σ Q := by
  have hL : lN a < lN b ↔ a < b := pk_lLT ha hb
  have hG : lN b < lN a ↔ b < a := pk_lLT hb ha
  have hE : lN a = lN b ↔ a = b := pk_lEQ ha hb
  refine wa_lcmp q (wa_if_eq q2 (fun z => kt ?_) (fun z => kf ?_))
  all_goals (unfold lg_cmp at z; rcases Nat.lt_trichotomy a b with h | h | h)
  all_goals first | omega | (exfalso; revert z; first | (rw [if_neg (fun w => by have := hG.mp w; omega), if_neg (fun w => by have := hE.mp w; omega)]; decide) | (rw [if_neg (fun w => by have := hG.mp w; omega), if_pos (hE.mpr h)]; decide) | (rw [if_pos (hG.mpr h)]; decide))
theorem wn_lcmp_ne {a b p2 : Nat} {off : Int} {tgt : Nat} (q : decode y.2.1 pc = .ok (.lcmp, 1) ∧ pc + 1 = p2) (q2 : decode y.2.1 p2 = .ok (.ifCond .ne off, 3) ∧ p2 + 3 = nx ∧ (p2 : Int) + off = (tgt : Int)) (ha : a < 2 ^ 63) (hb : b < 2 ^ 63) (kt : a ≠ b → WA X y ρ tgt lv st σ Q) (kf : a = b → WA X y ρ nx lv st σ Q) : WA X y ρ pc lv (.long (lN b) :: .long (lN a) :: st) σ Q := by
  have hL : lN a < lN b ↔ a < b := pk_lLT ha hb
  have hG : lN b < lN a ↔ b < a := pk_lLT hb ha
  have hE : lN a = lN b ↔ a = b := pk_lEQ ha hb
  refine wa_lcmp q (wa_if_ne q2 (fun z => kt ?_) (fun z => kf ?_))
  all_goals (unfold lg_cmp at z; rcases Nat.lt_trichotomy a b with h | h | h)
  all_goals first | omega | (exfalso; revert z; first | (rw [if_neg (fun w => by have := hG.mp w; omega), if_neg (fun w => by have := hE.mp w; omega)]; decide) | (rw [if_neg (fun w => by have := hG.mp w; omega), if_pos (hE.mpr h)]; decide) | (rw [if_pos (hG.mpr h)]; decide))
end en_n
