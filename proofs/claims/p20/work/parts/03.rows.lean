section en_rows
variable {X : en_X} {y : en_M} {ρ σ : en_S} {pc nx : Nat} {lv : List (Nat × Value)} {st : List Value} {Q : Option Value → en_S → Prop}
theorem wa_iconst {n : Int} (q : decode y.2.1 pc = .ok (.iconst n, 1) ∧ pc + 1 = nx) {v : Int32} (hv : Int32.ofInt n = v) (k : WA X y ρ nx lv (.int v :: st) σ Q) : WA X y ρ pc lv (st) σ Q := by
  obtain ⟨e0, rfl⟩ := q
  obtain ⟨r, τ, hQ, h1, h2, kk⟩ := k
  exact ⟨r, τ, hQ, h1, h2, fun p e s m args below meth c H locs ls G a1 a2 hR hS hl => lv_iconst G.1 G.2.1 e0 hv (kk p e s m args below meth c H locs ls G a1 a2 hR hS hl)⟩
theorem wa_bipush {n : Int} (q : decode y.2.1 pc = .ok (.bipush n, 2) ∧ pc + 2 = nx) {v : Int32} (hv : (Int8.ofInt n).toInt32 = v) (k : WA X y ρ nx lv (.int v :: st) σ Q) : WA X y ρ pc lv (st) σ Q := by
  obtain ⟨e0, rfl⟩ := q
  obtain ⟨r, τ, hQ, h1, h2, kk⟩ := k
  exact ⟨r, τ, hQ, h1, h2, fun p e s m args below meth c H locs ls G a1 a2 hR hS hl => lv_bipush G.1 G.2.1 e0 hv (kk p e s m args below meth c H locs ls G a1 a2 hR hS hl)⟩
theorem wa_sipush {n : Int} (q : decode y.2.1 pc = .ok (.sipush n, 3) ∧ pc + 3 = nx) {v : Int32} (hv : (Int16.ofInt n).toInt32 = v) (k : WA X y ρ nx lv (.int v :: st) σ Q) : WA X y ρ pc lv (st) σ Q := by
  obtain ⟨e0, rfl⟩ := q
  obtain ⟨r, τ, hQ, h1, h2, kk⟩ := k
  exact ⟨r, τ, hQ, h1, h2, fun p e s m args below meth c H locs ls G a1 a2 hR hS hl => lv_sipush G.1 G.2.1 e0 hv (kk p e s m args below meth c H locs ls G a1 a2 hR hS hl)⟩
theorem wa_lconst {n : Fin 2} (q : decode y.2.1 pc = .ok (.lconst n, 1) ∧ pc + 1 = nx) {v : Int64} (hv : Int64.ofNat (n : Nat) = v) (k : WA X y ρ nx lv (.long v :: st) σ Q) : WA X y ρ pc lv (st) σ Q := by
  obtain ⟨e0, rfl⟩ := q
  obtain ⟨r, τ, hQ, h1, h2, kk⟩ := k
  exact ⟨r, τ, hQ, h1, h2, fun p e s m args below meth c H locs ls G a1 a2 hR hS hl => lv_lconst G.1 G.2.1 e0 hv (kk p e s m args below meth c H locs ls G a1 a2 hR hS hl)⟩
theorem wa_null  (q : decode y.2.1 pc = .ok (.aconst_null, 1) ∧ pc + 1 = nx) (k : WA X y ρ nx lv (.null :: st) σ Q) : WA X y ρ pc lv (st) σ Q := by
  obtain ⟨e0, rfl⟩ := q
  obtain ⟨r, τ, hQ, h1, h2, kk⟩ := k
  exact ⟨r, τ, hQ, h1, h2, fun p e s m args below meth c H locs ls G a1 a2 hR hS hl => lv_null G.1 G.2.1 e0 (kk p e s m args below meth c H locs ls G a1 a2 hR hS hl)⟩
theorem wa_ldc {i : Nat} {v : Int32} (q : decode y.2.1 pc = .ok (.ldc i, 2) ∧ pc + 2 = nx) (hc : Cond.constant y.1.cls i v ∈ en_tbl) (k : WA X y ρ nx lv (.int v :: st) σ Q) : WA X y ρ pc lv (st) σ Q := by
  obtain ⟨e0, rfl⟩ := q
  obtain ⟨r, τ, hQ, h1, h2, kk⟩ := k
  exact ⟨r, τ, hQ, h1, h2, fun p e s m args below meth c H locs ls G a1 a2 hR hS hl => lv_ldc G.1 G.2.1 G.2.2.2.2.1 (G.2.2.2.2.2.1 _ hc) e0 (kk p e s m args below meth c H locs ls G a1 a2 hR hS hl)⟩
theorem wa_ldc2 {i : Nat} {v : Int64} (q : decode y.2.1 pc = .ok (.ldc2_w i, 3) ∧ pc + 3 = nx) (hc : Cond.constantLong y.1.cls i v ∈ en_tbl) (k : WA X y ρ nx lv (.long v :: st) σ Q) : WA X y ρ pc lv (st) σ Q := by
  obtain ⟨e0, rfl⟩ := q
  obtain ⟨r, τ, hQ, h1, h2, kk⟩ := k
  exact ⟨r, τ, hQ, h1, h2, fun p e s m args below meth c H locs ls G a1 a2 hR hS hl => lv_ldc2 G.1 G.2.1 G.2.2.2.2.1 (G.2.2.2.2.2.1 _ hc) e0 (kk p e s m args below meth c H locs ls G a1 a2 hR hS hl)⟩
theorem wa_iload_n {i : Fin 4} {x : Int32} (q : decode y.2.1 pc = .ok (.iload_n i, 1) ∧ pc + 1 = nx) (hv : en_lk lv (i : Nat) = some (.int x)) (k : WA X y ρ nx lv (.int x :: st) σ Q) : WA X y ρ pc lv (st) σ Q := by
  obtain ⟨e0, rfl⟩ := q
  obtain ⟨r, τ, hQ, h1, h2, kk⟩ := k
  exact ⟨r, τ, hQ, h1, h2, fun p e s m args below meth c H locs ls G a1 a2 hR hS hl => lv_iload_n G.1 G.2.1 e0 rfl (en_lk_at hl hv) (kk p e s m args below meth c H locs ls G a1 a2 hR hS hl)⟩
theorem wa_iload {i : Nat} {x : Int32} (q : decode y.2.1 pc = .ok (.iload i, 2) ∧ pc + 2 = nx) (hv : en_lk lv i = some (.int x)) (k : WA X y ρ nx lv (.int x :: st) σ Q) : WA X y ρ pc lv (st) σ Q := by
  obtain ⟨e0, rfl⟩ := q
  obtain ⟨r, τ, hQ, h1, h2, kk⟩ := k
  exact ⟨r, τ, hQ, h1, h2, fun p e s m args below meth c H locs ls G a1 a2 hR hS hl => lv_iload G.1 G.2.1 e0 (en_lk_at hl hv) (kk p e s m args below meth c H locs ls G a1 a2 hR hS hl)⟩
theorem wa_lload_n {i : Fin 4} {x : Int64} (q : decode y.2.1 pc = .ok (.lload_n i, 1) ∧ pc + 1 = nx) (hv : en_lk lv (i : Nat) = some (.long x)) (k : WA X y ρ nx lv (.long x :: st) σ Q) : WA X y ρ pc lv (st) σ Q := by
  obtain ⟨e0, rfl⟩ := q
  obtain ⟨r, τ, hQ, h1, h2, kk⟩ := k
  exact ⟨r, τ, hQ, h1, h2, fun p e s m args below meth c H locs ls G a1 a2 hR hS hl => lv_lload_n G.1 G.2.1 e0 rfl (en_lk_at hl hv) (kk p e s m args below meth c H locs ls G a1 a2 hR hS hl)⟩
theorem wa_lload {i : Nat} {x : Int64} (q : decode y.2.1 pc = .ok (.lload i, 2) ∧ pc + 2 = nx) (hv : en_lk lv i = some (.long x)) (k : WA X y ρ nx lv (.long x :: st) σ Q) : WA X y ρ pc lv (st) σ Q := by
  obtain ⟨e0, rfl⟩ := q
  obtain ⟨r, τ, hQ, h1, h2, kk⟩ := k
  exact ⟨r, τ, hQ, h1, h2, fun p e s m args below meth c H locs ls G a1 a2 hR hS hl => lv_lload G.1 G.2.1 e0 (en_lk_at hl hv) (kk p e s m args below meth c H locs ls G a1 a2 hR hS hl)⟩
theorem wa_aload_n {i : Fin 4} {a : Nat} (q : decode y.2.1 pc = .ok (.aload_n i, 1) ∧ pc + 1 = nx) (hv : en_lk lv (i : Nat) = some (.ref a)) (k : WA X y ρ nx lv (.ref a :: st) σ Q) : WA X y ρ pc lv (st) σ Q := by
  obtain ⟨e0, rfl⟩ := q
  obtain ⟨r, τ, hQ, h1, h2, kk⟩ := k
  exact ⟨r, τ, hQ, h1, h2, fun p e s m args below meth c H locs ls G a1 a2 hR hS hl => lv_aload_n G.1 G.2.1 e0 rfl (en_lk_at hl hv) (kk p e s m args below meth c H locs ls G a1 a2 hR hS hl)⟩
theorem wa_aload {i : Nat} {a : Nat} (q : decode y.2.1 pc = .ok (.aload i, 2) ∧ pc + 2 = nx) (hv : en_lk lv i = some (.ref a)) (k : WA X y ρ nx lv (.ref a :: st) σ Q) : WA X y ρ pc lv (st) σ Q := by
  obtain ⟨e0, rfl⟩ := q
  obtain ⟨r, τ, hQ, h1, h2, kk⟩ := k
  exact ⟨r, τ, hQ, h1, h2, fun p e s m args below meth c H locs ls G a1 a2 hR hS hl => lv_aload G.1 G.2.1 e0 (en_lk_at hl hv) (kk p e s m args below meth c H locs ls G a1 a2 hR hS hl)⟩
theorem wa_aload_nN {i : Fin 4} (q : decode y.2.1 pc = .ok (.aload_n i, 1) ∧ pc + 1 = nx) (hv : en_lk lv (i : Nat) = some .null) (k : WA X y ρ nx lv (.null :: st) σ Q) : WA X y ρ pc lv (st) σ Q := by
  obtain ⟨e0, rfl⟩ := q
  obtain ⟨r, τ, hQ, h1, h2, kk⟩ := k
  exact ⟨r, τ, hQ, h1, h2, fun p e s m args below meth c H locs ls G a1 a2 hR hS hl => lv_aload_nN G.1 G.2.1 e0 rfl (en_lk_at hl hv) (kk p e s m args below meth c H locs ls G a1 a2 hR hS hl)⟩
theorem wa_aloadN {i : Nat} (q : decode y.2.1 pc = .ok (.aload i, 2) ∧ pc + 2 = nx) (hv : en_lk lv i = some .null) (k : WA X y ρ nx lv (.null :: st) σ Q) : WA X y ρ pc lv (st) σ Q := by
  obtain ⟨e0, rfl⟩ := q
  obtain ⟨r, τ, hQ, h1, h2, kk⟩ := k
  exact ⟨r, τ, hQ, h1, h2, fun p e s m args below meth c H locs ls G a1 a2 hR hS hl => lv_aloadN G.1 G.2.1 e0 (en_lk_at hl hv) (kk p e s m args below meth c H locs ls G a1 a2 hR hS hl)⟩
theorem wa_istore_n {i : Fin 4} {x : Int32} (q : decode y.2.1 pc = .ok (.istore_n i, 1) ∧ pc + 1 = nx) (hn : (i : Nat) < y.2.2.1) (k : WA X y ρ nx (en_s1 lv (i : Nat) (.int x)) st σ Q) : WA X y ρ pc lv (.int x :: st) σ Q := by
  obtain ⟨e0, rfl⟩ := q
  obtain ⟨r, τ, hQ, h1, h2, kk⟩ := k
  exact ⟨r, τ, hQ, h1, h2, fun p e s m args below meth c H locs ls G a1 a2 hR hS hl => lv_istore_n G.1 G.2.1 e0 rfl hl hn rfl (fun ls' hl' => kk p e s m args below meth c H locs ls' G a1 a2 hR hS hl')⟩
theorem wa_istore {i : Nat} {x : Int32} (q : decode y.2.1 pc = .ok (.istore i, 2) ∧ pc + 2 = nx) (hn : i < y.2.2.1) (k : WA X y ρ nx (en_s1 lv i (.int x)) st σ Q) : WA X y ρ pc lv (.int x :: st) σ Q := by
  obtain ⟨e0, rfl⟩ := q
  obtain ⟨r, τ, hQ, h1, h2, kk⟩ := k
  exact ⟨r, τ, hQ, h1, h2, fun p e s m args below meth c H locs ls G a1 a2 hR hS hl => lv_istore G.1 G.2.1 e0 hl hn rfl (fun ls' hl' => kk p e s m args below meth c H locs ls' G a1 a2 hR hS hl')⟩
theorem wa_lstore_n {i : Fin 4} {x : Int64} (q : decode y.2.1 pc = .ok (.lstore_n i, 1) ∧ pc + 1 = nx) (hn : (i : Nat) + 1 < y.2.2.1) (k : WA X y ρ nx (en_s2 lv (i : Nat) (.long x)) st σ Q) : WA X y ρ pc lv (.long x :: st) σ Q := by
  obtain ⟨e0, rfl⟩ := q
  obtain ⟨r, τ, hQ, h1, h2, kk⟩ := k
  exact ⟨r, τ, hQ, h1, h2, fun p e s m args below meth c H locs ls G a1 a2 hR hS hl => lv_lstore_n G.1 G.2.1 e0 rfl hl hn rfl (fun ls' hl' => kk p e s m args below meth c H locs ls' G a1 a2 hR hS hl')⟩
theorem wa_lstore {i : Nat} {x : Int64} (q : decode y.2.1 pc = .ok (.lstore i, 2) ∧ pc + 2 = nx) (hn : i + 1 < y.2.2.1) (k : WA X y ρ nx (en_s2 lv i (.long x)) st σ Q) : WA X y ρ pc lv (.long x :: st) σ Q := by
  obtain ⟨e0, rfl⟩ := q
  obtain ⟨r, τ, hQ, h1, h2, kk⟩ := k
  exact ⟨r, τ, hQ, h1, h2, fun p e s m args below meth c H locs ls G a1 a2 hR hS hl => lv_lstore G.1 G.2.1 e0 hl hn rfl (fun ls' hl' => kk p e s m args below meth c H locs ls' G a1 a2 hR hS hl')⟩
theorem wa_astore_n {i : Fin 4} {a : Nat} (q : decode y.2.1 pc = .ok (.astore_n i, 1) ∧ pc + 1 = nx) (hn : (i : Nat) < y.2.2.1) (k : WA X y ρ nx (en_s1 lv (i : Nat) (.ref a)) st σ Q) : WA X y ρ pc lv (.ref a :: st) σ Q := by
  obtain ⟨e0, rfl⟩ := q
  obtain ⟨r, τ, hQ, h1, h2, kk⟩ := k
  exact ⟨r, τ, hQ, h1, h2, fun p e s m args below meth c H locs ls G a1 a2 hR hS hl => lv_astore_n G.1 G.2.1 e0 rfl hl hn rfl (fun ls' hl' => kk p e s m args below meth c H locs ls' G a1 a2 hR hS hl')⟩
theorem wa_astore {i : Nat} {a : Nat} (q : decode y.2.1 pc = .ok (.astore i, 2) ∧ pc + 2 = nx) (hn : i < y.2.2.1) (k : WA X y ρ nx (en_s1 lv i (.ref a)) st σ Q) : WA X y ρ pc lv (.ref a :: st) σ Q := by
  obtain ⟨e0, rfl⟩ := q
  obtain ⟨r, τ, hQ, h1, h2, kk⟩ := k
  exact ⟨r, τ, hQ, h1, h2, fun p e s m args below meth c H locs ls G a1 a2 hR hS hl => lv_astore G.1 G.2.1 e0 hl hn rfl (fun ls' hl' => kk p e s m args below meth c H locs ls' G a1 a2 hR hS hl')⟩
theorem wa_astore_nN {i : Fin 4} (q : decode y.2.1 pc = .ok (.astore_n i, 1) ∧ pc + 1 = nx) (hn : (i : Nat) < y.2.2.1) (k : WA X y ρ nx (en_s1 lv (i : Nat) .null) st σ Q) : WA X y ρ pc lv (.null :: st) σ Q := by
  obtain ⟨e0, rfl⟩ := q
  obtain ⟨r, τ, hQ, h1, h2, kk⟩ := k
  exact ⟨r, τ, hQ, h1, h2, fun p e s m args below meth c H locs ls G a1 a2 hR hS hl => lv_astore_nN G.1 G.2.1 e0 rfl hl hn rfl (fun ls' hl' => kk p e s m args below meth c H locs ls' G a1 a2 hR hS hl')⟩
theorem wa_astoreN {i : Nat} (q : decode y.2.1 pc = .ok (.astore i, 2) ∧ pc + 2 = nx) (hn : i < y.2.2.1) (k : WA X y ρ nx (en_s1 lv i .null) st σ Q) : WA X y ρ pc lv (.null :: st) σ Q := by
  obtain ⟨e0, rfl⟩ := q
  obtain ⟨r, τ, hQ, h1, h2, kk⟩ := k
  exact ⟨r, τ, hQ, h1, h2, fun p e s m args below meth c H locs ls G a1 a2 hR hS hl => lv_astoreN G.1 G.2.1 e0 hl hn rfl (fun ls' hl' => kk p e s m args below meth c H locs ls' G a1 a2 hR hS hl')⟩
theorem wa_iinc {i : Nat} {n : Int} {x v : Int32} (q : decode y.2.1 pc = .ok (.iinc i n, 3) ∧ pc + 3 = nx) (hv : en_lk lv i = some (.int x)) (he : x + Int32.ofInt n = v) (hn : i < y.2.2.1) (k : WA X y ρ nx (en_s1 lv i (.int v)) st σ Q) : WA X y ρ pc lv st σ Q := by
  obtain ⟨e0, rfl⟩ := q
  obtain ⟨r, τ, hQ, h1, h2, kk⟩ := k
  obtain ⟨j, hj⟩ := en_lk_ix hv
  exact ⟨r, τ, hQ, h1, h2, fun p e s m args below meth c H locs ls G a1 a2 hR hS hl => lv_iinc G.1 G.2.1 e0 hl hj he hn rfl (fun ls' hl' => kk p e s m args below meth c H locs ls' G a1 a2 hR hS hl')⟩
theorem wa_iadd {x w : Int32} (q : decode y.2.1 pc = .ok (.iadd, 1) ∧ pc + 1 = nx) (k : WA X y ρ nx lv (.int (x + w) :: st) σ Q) : WA X y ρ pc lv (.int w :: .int x :: st) σ Q := by
  obtain ⟨e0, rfl⟩ := q
  obtain ⟨r, τ, hQ, h1, h2, kk⟩ := k
  exact ⟨r, τ, hQ, h1, h2, fun p e s m args below meth c H locs ls G a1 a2 hR hS hl => lv_iadd G.1 G.2.1 e0 (kk p e s m args below meth c H locs ls G a1 a2 hR hS hl)⟩
theorem wa_isub {x w : Int32} (q : decode y.2.1 pc = .ok (.isub, 1) ∧ pc + 1 = nx) (k : WA X y ρ nx lv (.int (x - w) :: st) σ Q) : WA X y ρ pc lv (.int w :: .int x :: st) σ Q := by
  obtain ⟨e0, rfl⟩ := q
  obtain ⟨r, τ, hQ, h1, h2, kk⟩ := k
  exact ⟨r, τ, hQ, h1, h2, fun p e s m args below meth c H locs ls G a1 a2 hR hS hl => lv_isub G.1 G.2.1 e0 (kk p e s m args below meth c H locs ls G a1 a2 hR hS hl)⟩
theorem wa_imul {x w : Int32} (q : decode y.2.1 pc = .ok (.imul, 1) ∧ pc + 1 = nx) (k : WA X y ρ nx lv (.int (x * w) :: st) σ Q) : WA X y ρ pc lv (.int w :: .int x :: st) σ Q := by
  obtain ⟨e0, rfl⟩ := q
  obtain ⟨r, τ, hQ, h1, h2, kk⟩ := k
  exact ⟨r, τ, hQ, h1, h2, fun p e s m args below meth c H locs ls G a1 a2 hR hS hl => lv_imul G.1 G.2.1 e0 (kk p e s m args below meth c H locs ls G a1 a2 hR hS hl)⟩
theorem wa_iand {x w : Int32} (q : decode y.2.1 pc = .ok (.iand, 1) ∧ pc + 1 = nx) (k : WA X y ρ nx lv (.int (x &&& w) :: st) σ Q) : WA X y ρ pc lv (.int w :: .int x :: st) σ Q := by
  obtain ⟨e0, rfl⟩ := q
  obtain ⟨r, τ, hQ, h1, h2, kk⟩ := k
  exact ⟨r, τ, hQ, h1, h2, fun p e s m args below meth c H locs ls G a1 a2 hR hS hl => lv_iand G.1 G.2.1 e0 (kk p e s m args below meth c H locs ls G a1 a2 hR hS hl)⟩
theorem wa_idiv {x w : Int32} (q : decode y.2.1 pc = .ok (.idiv, 1) ∧ pc + 1 = nx) (hne : ¬ w = 0) (k : WA X y ρ nx lv (.int (x / w) :: st) σ Q) : WA X y ρ pc lv (.int w :: .int x :: st) σ Q := by
  obtain ⟨e0, rfl⟩ := q
  obtain ⟨r, τ, hQ, h1, h2, kk⟩ := k
  exact ⟨r, τ, hQ, h1, h2, fun p e s m args below meth c H locs ls G a1 a2 hR hS hl => lv_idiv G.1 G.2.1 e0 hne (kk p e s m args below meth c H locs ls G a1 a2 hR hS hl)⟩
theorem wa_irem {x w : Int32} (q : decode y.2.1 pc = .ok (.irem, 1) ∧ pc + 1 = nx) (hne : ¬ w = 0) (k : WA X y ρ nx lv (.int (x - x / w * w) :: st) σ Q) : WA X y ρ pc lv (.int w :: .int x :: st) σ Q := by
  obtain ⟨e0, rfl⟩ := q
  obtain ⟨r, τ, hQ, h1, h2, kk⟩ := k
  exact ⟨r, τ, hQ, h1, h2, fun p e s m args below meth c H locs ls G a1 a2 hR hS hl => lv_irem G.1 G.2.1 e0 hne (kk p e s m args below meth c H locs ls G a1 a2 hR hS hl)⟩
theorem wa_ineg {x : Int32} (q : decode y.2.1 pc = .ok (.ineg, 1) ∧ pc + 1 = nx) (k : WA X y ρ nx lv (.int (-x) :: st) σ Q) : WA X y ρ pc lv (.int x :: st) σ Q := by
  obtain ⟨e0, rfl⟩ := q
  obtain ⟨r, τ, hQ, h1, h2, kk⟩ := k
  exact ⟨r, τ, hQ, h1, h2, fun p e s m args below meth c H locs ls G a1 a2 hR hS hl => lv_ineg G.1 G.2.1 e0 (kk p e s m args below meth c H locs ls G a1 a2 hR hS hl)⟩
theorem wa_ladd {x w : Int64} (q : decode y.2.1 pc = .ok (.ladd, 1) ∧ pc + 1 = nx) (k : WA X y ρ nx lv (.long (x + w) :: st) σ Q) : WA X y ρ pc lv (.long w :: .long x :: st) σ Q := by
  obtain ⟨e0, rfl⟩ := q
  obtain ⟨r, τ, hQ, h1, h2, kk⟩ := k
  exact ⟨r, τ, hQ, h1, h2, fun p e s m args below meth c H locs ls G a1 a2 hR hS hl => lv_ladd G.1 G.2.1 e0 (kk p e s m args below meth c H locs ls G a1 a2 hR hS hl)⟩
theorem wa_lsub {x w : Int64} (q : decode y.2.1 pc = .ok (.lsub, 1) ∧ pc + 1 = nx) (k : WA X y ρ nx lv (.long (x - w) :: st) σ Q) : WA X y ρ pc lv (.long w :: .long x :: st) σ Q := by
  obtain ⟨e0, rfl⟩ := q
  obtain ⟨r, τ, hQ, h1, h2, kk⟩ := k
  exact ⟨r, τ, hQ, h1, h2, fun p e s m args below meth c H locs ls G a1 a2 hR hS hl => lv_lsub G.1 G.2.1 e0 (kk p e s m args below meth c H locs ls G a1 a2 hR hS hl)⟩
theorem wa_lmul {x w : Int64} (q : decode y.2.1 pc = .ok (.lmul, 1) ∧ pc + 1 = nx) (k : WA X y ρ nx lv (.long (x * w) :: st) σ Q) : WA X y ρ pc lv (.long w :: .long x :: st) σ Q := by
  obtain ⟨e0, rfl⟩ := q
  obtain ⟨r, τ, hQ, h1, h2, kk⟩ := k
  exact ⟨r, τ, hQ, h1, h2, fun p e s m args below meth c H locs ls G a1 a2 hR hS hl => lv_lmul G.1 G.2.1 e0 (kk p e s m args below meth c H locs ls G a1 a2 hR hS hl)⟩
theorem wa_land {x w : Int64} (q : decode y.2.1 pc = .ok (.land, 1) ∧ pc + 1 = nx) (k : WA X y ρ nx lv (.long (x &&& w) :: st) σ Q) : WA X y ρ pc lv (.long w :: .long x :: st) σ Q := by
  obtain ⟨e0, rfl⟩ := q
  obtain ⟨r, τ, hQ, h1, h2, kk⟩ := k
  exact ⟨r, τ, hQ, h1, h2, fun p e s m args below meth c H locs ls G a1 a2 hR hS hl => lv_land G.1 G.2.1 e0 (kk p e s m args below meth c H locs ls G a1 a2 hR hS hl)⟩
theorem wa_lor {x w : Int64} (q : decode y.2.1 pc = .ok (.lor, 1) ∧ pc + 1 = nx) (k : WA X y ρ nx lv (.long (x ||| w) :: st) σ Q) : WA X y ρ pc lv (.long w :: .long x :: st) σ Q := by
  obtain ⟨e0, rfl⟩ := q
  obtain ⟨r, τ, hQ, h1, h2, kk⟩ := k
  exact ⟨r, τ, hQ, h1, h2, fun p e s m args below meth c H locs ls G a1 a2 hR hS hl => lv_lor G.1 G.2.1 e0 (kk p e s m args below meth c H locs ls G a1 a2 hR hS hl)⟩
theorem wa_lxor {x w : Int64} (q : decode y.2.1 pc = .ok (.lxor, 1) ∧ pc + 1 = nx) (k : WA X y ρ nx lv (.long (x ^^^ w) :: st) σ Q) : WA X y ρ pc lv (.long w :: .long x :: st) σ Q := by
  obtain ⟨e0, rfl⟩ := q
  obtain ⟨r, τ, hQ, h1, h2, kk⟩ := k
  exact ⟨r, τ, hQ, h1, h2, fun p e s m args below meth c H locs ls G a1 a2 hR hS hl => lv_lxor G.1 G.2.1 e0 (kk p e s m args below meth c H locs ls G a1 a2 hR hS hl)⟩
theorem wa_ldiv {x w : Int64} (q : decode y.2.1 pc = .ok (.ldiv, 1) ∧ pc + 1 = nx) (hne : ¬ w = 0) (k : WA X y ρ nx lv (.long (x / w) :: st) σ Q) : WA X y ρ pc lv (.long w :: .long x :: st) σ Q := by
  obtain ⟨e0, rfl⟩ := q
  obtain ⟨r, τ, hQ, h1, h2, kk⟩ := k
  exact ⟨r, τ, hQ, h1, h2, fun p e s m args below meth c H locs ls G a1 a2 hR hS hl => lv_ldiv G.1 G.2.1 e0 hne (kk p e s m args below meth c H locs ls G a1 a2 hR hS hl)⟩
theorem wa_lrem {x w : Int64} (q : decode y.2.1 pc = .ok (.lrem, 1) ∧ pc + 1 = nx) (hne : ¬ w = 0) (k : WA X y ρ nx lv (.long (x - x / w * w) :: st) σ Q) : WA X y ρ pc lv (.long w :: .long x :: st) σ Q := by
  obtain ⟨e0, rfl⟩ := q
  obtain ⟨r, τ, hQ, h1, h2, kk⟩ := k
  exact ⟨r, τ, hQ, h1, h2, fun p e s m args below meth c H locs ls G a1 a2 hR hS hl => lv_lrem G.1 G.2.1 e0 hne (kk p e s m args below meth c H locs ls G a1 a2 hR hS hl)⟩
theorem wa_lneg {x : Int64} (q : decode y.2.1 pc = .ok (.lneg, 1) ∧ pc + 1 = nx) (k : WA X y ρ nx lv (.long (-x) :: st) σ Q) : WA X y ρ pc lv (.long x :: st) σ Q := by
  obtain ⟨e0, rfl⟩ := q
  obtain ⟨r, τ, hQ, h1, h2, kk⟩ := k
  exact ⟨r, τ, hQ, h1, h2, fun p e s m args below meth c H locs ls G a1 a2 hR hS hl => lv_lneg G.1 G.2.1 e0 (kk p e s m args below meth c H locs ls G a1 a2 hR hS hl)⟩
theorem wa_ishr {x w : Int32} (q : decode y.2.1 pc = .ok (.ishr, 1) ∧ pc + 1 = nx) (k : WA X y ρ nx lv (.int (x >>> (w &&& 31)) :: st) σ Q) : WA X y ρ pc lv (.int w :: .int x :: st) σ Q := by
  obtain ⟨e0, rfl⟩ := q
  obtain ⟨r, τ, hQ, h1, h2, kk⟩ := k
  exact ⟨r, τ, hQ, h1, h2, fun p e s m args below meth c H locs ls G a1 a2 hR hS hl => lv_ishr G.1 G.2.1 e0 (kk p e s m args below meth c H locs ls G a1 a2 hR hS hl)⟩
theorem wa_lshl {x v : Int64} {w : Int32} (q : decode y.2.1 pc = .ok (.lshl, 1) ∧ pc + 1 = nx) (hv : x <<< (w.toInt64 &&& 63) = v) (k : WA X y ρ nx lv (.long v :: st) σ Q) : WA X y ρ pc lv (.int w :: .long x :: st) σ Q := by
  obtain ⟨e0, rfl⟩ := q
  obtain ⟨r, τ, hQ, h1, h2, kk⟩ := k
  exact ⟨r, τ, hQ, h1, h2, fun p e s m args below meth c H locs ls G a1 a2 hR hS hl => lv_lshl G.1 G.2.1 e0 hv (kk p e s m args below meth c H locs ls G a1 a2 hR hS hl)⟩
theorem wa_lushr {x v : Int64} {w : Int32} (q : decode y.2.1 pc = .ok (.lushr, 1) ∧ pc + 1 = nx) (hv : (x.toUInt64 >>> (w.toInt64.toUInt64 &&& Int64.toUInt64 63)).toInt64 = v) (k : WA X y ρ nx lv (.long v :: st) σ Q) : WA X y ρ pc lv (.int w :: .long x :: st) σ Q := by
  obtain ⟨e0, rfl⟩ := q
  obtain ⟨r, τ, hQ, h1, h2, kk⟩ := k
  exact ⟨r, τ, hQ, h1, h2, fun p e s m args below meth c H locs ls G a1 a2 hR hS hl => lv_lushr G.1 G.2.1 e0 hv (kk p e s m args below meth c H locs ls G a1 a2 hR hS hl)⟩
theorem wa_i2l {x : Int32} {v : Int64} (q : decode y.2.1 pc = .ok (.i2l, 1) ∧ pc + 1 = nx) (hv : x.toInt64 = v) (k : WA X y ρ nx lv (.long v :: st) σ Q) : WA X y ρ pc lv (.int x :: st) σ Q := by
  obtain ⟨e0, rfl⟩ := q
  obtain ⟨r, τ, hQ, h1, h2, kk⟩ := k
  exact ⟨r, τ, hQ, h1, h2, fun p e s m args below meth c H locs ls G a1 a2 hR hS hl => lv_i2l G.1 G.2.1 e0 hv (kk p e s m args below meth c H locs ls G a1 a2 hR hS hl)⟩
theorem wa_l2i {x : Int64} {v : Int32} (q : decode y.2.1 pc = .ok (.l2i, 1) ∧ pc + 1 = nx) (hv : x.toInt32 = v) (k : WA X y ρ nx lv (.int v :: st) σ Q) : WA X y ρ pc lv (.long x :: st) σ Q := by
  obtain ⟨e0, rfl⟩ := q
  obtain ⟨r, τ, hQ, h1, h2, kk⟩ := k
  exact ⟨r, τ, hQ, h1, h2, fun p e s m args below meth c H locs ls G a1 a2 hR hS hl => lv_l2i G.1 G.2.1 e0 hv (kk p e s m args below meth c H locs ls G a1 a2 hR hS hl)⟩
theorem wa_lcmp {x w : Int64} (q : decode y.2.1 pc = .ok (.lcmp, 1) ∧ pc + 1 = nx) (k : WA X y ρ nx lv (.int (lg_cmp x w) :: st) σ Q) : WA X y ρ pc lv (.long w :: .long x :: st) σ Q := by
  obtain ⟨e0, rfl⟩ := q
  obtain ⟨r, τ, hQ, h1, h2, kk⟩ := k
  exact ⟨r, τ, hQ, h1, h2, fun p e s m args below meth c H locs ls G a1 a2 hR hS hl => W.lcmp G.1 G.2.1 e0 (kk p e s m args below meth c H locs ls G a1 a2 hR hS hl)⟩
theorem wa_dup {v : Value} (q : decode y.2.1 pc = .ok (.dup, 1) ∧ pc + 1 = nx) (hc : v.category = 1) (k : WA X y ρ nx lv (v :: v :: st) σ Q) : WA X y ρ pc lv (v :: st) σ Q := by
  obtain ⟨e0, rfl⟩ := q
  obtain ⟨r, τ, hQ, h1, h2, kk⟩ := k
  exact ⟨r, τ, hQ, h1, h2, fun p e s m args below meth c H locs ls G a1 a2 hR hS hl => lv_dup G.1 G.2.1 e0 hc (kk p e s m args below meth c H locs ls G a1 a2 hR hS hl)⟩
theorem wa_pop {v : Value} (q : decode y.2.1 pc = .ok (.pop, 1) ∧ pc + 1 = nx) (hc : v.category = 1) (k : WA X y ρ nx lv (st) σ Q) : WA X y ρ pc lv (v :: st) σ Q := by
  obtain ⟨e0, rfl⟩ := q
  obtain ⟨r, τ, hQ, h1, h2, kk⟩ := k
  exact ⟨r, τ, hQ, h1, h2, fun p e s m args below meth c H locs ls G a1 a2 hR hS hl => lv_pop G.1 G.2.1 e0 hc (kk p e s m args below meth c H locs ls G a1 a2 hR hS hl)⟩
theorem wa_pop2 {v : Value} (q : decode y.2.1 pc = .ok (.pop2, 1) ∧ pc + 1 = nx) (hc : v.category = 2) (k : WA X y ρ nx lv (st) σ Q) : WA X y ρ pc lv (v :: st) σ Q := by
  obtain ⟨e0, rfl⟩ := q
  obtain ⟨r, τ, hQ, h1, h2, kk⟩ := k
  exact ⟨r, τ, hQ, h1, h2, fun p e s m args below meth c H locs ls G a1 a2 hR hS hl => lv_pop2_2 G.1 G.2.1 e0 hc (kk p e s m args below meth c H locs ls G a1 a2 hR hS hl)⟩
theorem wa_dup2 {v w : Value} (q : decode y.2.1 pc = .ok (.dup2, 1) ∧ pc + 1 = nx) (hc : v.category = 1) (hd : w.category = 1) (k : WA X y ρ nx lv (v :: w :: v :: w :: st) σ Q) : WA X y ρ pc lv (v :: w :: st) σ Q := by
  obtain ⟨e0, rfl⟩ := q
  obtain ⟨r, τ, hQ, h1, h2, kk⟩ := k
  exact ⟨r, τ, hQ, h1, h2, fun p e s m args below meth c H locs ls G a1 a2 hR hS hl => lv_dup2_11 G.1 G.2.1 e0 hc hd (kk p e s m args below meth c H locs ls G a1 a2 hR hS hl)⟩
theorem wa_if_eq {x : Int32} {off : Int} {tgt : Nat} (q : decode y.2.1 pc = .ok (.ifCond .eq off, 3) ∧ pc + 3 = nx ∧ (pc : Int) + off = (tgt : Int)) (kt : x = 0 → WA X y ρ tgt lv st σ Q) (kf : ¬ x = 0 → WA X y ρ nx lv st σ Q) : WA X y ρ pc lv (.int x :: st) σ Q := by
  obtain ⟨e0, rfl, e2⟩ := q
  rcases Classical.em (x = 0) with hc | hc
  · obtain ⟨r, τ, hQ, h1, h2, kk⟩ := kt hc
    exact ⟨r, τ, hQ, h1, h2, fun p e s m args below meth c H locs ls G a1 a2 hR hS hl => lv_if_eq G.1 G.2.1 e0 e2 (fun _ => (kk p e s m args below meth c H locs ls G a1 a2 hR hS hl)) (fun z => by first | exact absurd hc z | exact absurd z hc)⟩
  · obtain ⟨r, τ, hQ, h1, h2, kk⟩ := kf (by first | exact hc | exact Int32.not_le.mp hc | exact Int32.not_lt.mp hc | exact Classical.not_not.mp hc)
    exact ⟨r, τ, hQ, h1, h2, fun p e s m args below meth c H locs ls G a1 a2 hR hS hl => lv_if_eq G.1 G.2.1 e0 e2 (fun z => absurd z hc) (fun _ => (kk p e s m args below meth c H locs ls G a1 a2 hR hS hl))⟩
theorem wa_if_ne {x : Int32} {off : Int} {tgt : Nat} (q : decode y.2.1 pc = .ok (.ifCond .ne off, 3) ∧ pc + 3 = nx ∧ (pc : Int) + off = (tgt : Int)) (kt : ¬ x = 0 → WA X y ρ tgt lv st σ Q) (kf : x = 0 → WA X y ρ nx lv st σ Q) : WA X y ρ pc lv (.int x :: st) σ Q := by
  obtain ⟨e0, rfl, e2⟩ := q
  rcases Classical.em (¬ x = 0) with hc | hc
  · obtain ⟨r, τ, hQ, h1, h2, kk⟩ := kt hc
    exact ⟨r, τ, hQ, h1, h2, fun p e s m args below meth c H locs ls G a1 a2 hR hS hl => lv_if_ne G.1 G.2.1 e0 e2 (fun _ => (kk p e s m args below meth c H locs ls G a1 a2 hR hS hl)) (fun z => by first | exact absurd hc z | exact absurd z hc)⟩
  · obtain ⟨r, τ, hQ, h1, h2, kk⟩ := kf (by first | exact hc | exact Int32.not_le.mp hc | exact Int32.not_lt.mp hc | exact Classical.not_not.mp hc)
    exact ⟨r, τ, hQ, h1, h2, fun p e s m args below meth c H locs ls G a1 a2 hR hS hl => lv_if_ne G.1 G.2.1 e0 e2 (fun z => absurd z hc) (fun _ => (kk p e s m args below meth c H locs ls G a1 a2 hR hS hl))⟩
theorem wa_if_lt {x : Int32} {off : Int} {tgt : Nat} (q : decode y.2.1 pc = .ok (.ifCond .lt off, 3) ∧ pc + 3 = nx ∧ (pc : Int) + off = (tgt : Int)) (kt : x < 0 → WA X y ρ tgt lv st σ Q) (kf : ¬ x < 0 → WA X y ρ nx lv st σ Q) : WA X y ρ pc lv (.int x :: st) σ Q := by
  obtain ⟨e0, rfl, e2⟩ := q
  rcases Classical.em (x < 0) with hc | hc
  · obtain ⟨r, τ, hQ, h1, h2, kk⟩ := kt hc
    exact ⟨r, τ, hQ, h1, h2, fun p e s m args below meth c H locs ls G a1 a2 hR hS hl => lv_if_lt G.1 G.2.1 e0 e2 (fun _ => (kk p e s m args below meth c H locs ls G a1 a2 hR hS hl)) (fun z => by first | exact absurd hc z | exact absurd z hc)⟩
  · obtain ⟨r, τ, hQ, h1, h2, kk⟩ := kf (by first | exact hc | exact Int32.not_le.mp hc | exact Int32.not_lt.mp hc | exact Classical.not_not.mp hc)
    exact ⟨r, τ, hQ, h1, h2, fun p e s m args below meth c H locs ls G a1 a2 hR hS hl => lv_if_lt G.1 G.2.1 e0 e2 (fun z => absurd z hc) (fun _ => (kk p e s m args below meth c H locs ls G a1 a2 hR hS hl))⟩
theorem wa_if_ge {x : Int32} {off : Int} {tgt : Nat} (q : decode y.2.1 pc = .ok (.ifCond .ge off, 3) ∧ pc + 3 = nx ∧ (pc : Int) + off = (tgt : Int)) (kt : 0 ≤ x → WA X y ρ tgt lv st σ Q) (kf : ¬ 0 ≤ x → WA X y ρ nx lv st σ Q) : WA X y ρ pc lv (.int x :: st) σ Q := by
  obtain ⟨e0, rfl, e2⟩ := q
  rcases Classical.em (0 ≤ x) with hc | hc
  · obtain ⟨r, τ, hQ, h1, h2, kk⟩ := kt hc
    exact ⟨r, τ, hQ, h1, h2, fun p e s m args below meth c H locs ls G a1 a2 hR hS hl => lv_if_ge G.1 G.2.1 e0 e2 (fun _ => (kk p e s m args below meth c H locs ls G a1 a2 hR hS hl)) (fun z => by first | exact absurd hc z | exact absurd z hc)⟩
  · obtain ⟨r, τ, hQ, h1, h2, kk⟩ := kf (by first | exact hc | exact Int32.not_le.mp hc | exact Int32.not_lt.mp hc | exact Classical.not_not.mp hc)
    exact ⟨r, τ, hQ, h1, h2, fun p e s m args below meth c H locs ls G a1 a2 hR hS hl => lv_if_ge G.1 G.2.1 e0 e2 (fun z => absurd z hc) (fun _ => (kk p e s m args below meth c H locs ls G a1 a2 hR hS hl))⟩
theorem wa_if_gt {x : Int32} {off : Int} {tgt : Nat} (q : decode y.2.1 pc = .ok (.ifCond .gt off, 3) ∧ pc + 3 = nx ∧ (pc : Int) + off = (tgt : Int)) (kt : 0 < x → WA X y ρ tgt lv st σ Q) (kf : ¬ 0 < x → WA X y ρ nx lv st σ Q) : WA X y ρ pc lv (.int x :: st) σ Q := by
  obtain ⟨e0, rfl, e2⟩ := q
  rcases Classical.em (0 < x) with hc | hc
  · obtain ⟨r, τ, hQ, h1, h2, kk⟩ := kt hc
    exact ⟨r, τ, hQ, h1, h2, fun p e s m args below meth c H locs ls G a1 a2 hR hS hl => lv_if_gt G.1 G.2.1 e0 e2 (fun _ => (kk p e s m args below meth c H locs ls G a1 a2 hR hS hl)) (fun z => by first | exact absurd hc z | exact absurd z hc)⟩
  · obtain ⟨r, τ, hQ, h1, h2, kk⟩ := kf (by first | exact hc | exact Int32.not_le.mp hc | exact Int32.not_lt.mp hc | exact Classical.not_not.mp hc)
    exact ⟨r, τ, hQ, h1, h2, fun p e s m args below meth c H locs ls G a1 a2 hR hS hl => lv_if_gt G.1 G.2.1 e0 e2 (fun z => absurd z hc) (fun _ => (kk p e s m args below meth c H locs ls G a1 a2 hR hS hl))⟩
theorem wa_if_le {x : Int32} {off : Int} {tgt : Nat} (q : decode y.2.1 pc = .ok (.ifCond .le off, 3) ∧ pc + 3 = nx ∧ (pc : Int) + off = (tgt : Int)) (kt : x ≤ 0 → WA X y ρ tgt lv st σ Q) (kf : ¬ x ≤ 0 → WA X y ρ nx lv st σ Q) : WA X y ρ pc lv (.int x :: st) σ Q := by
  obtain ⟨e0, rfl, e2⟩ := q
  rcases Classical.em (x ≤ 0) with hc | hc
  · obtain ⟨r, τ, hQ, h1, h2, kk⟩ := kt hc
    exact ⟨r, τ, hQ, h1, h2, fun p e s m args below meth c H locs ls G a1 a2 hR hS hl => lv_if_le G.1 G.2.1 e0 e2 (fun _ => (kk p e s m args below meth c H locs ls G a1 a2 hR hS hl)) (fun z => by first | exact absurd hc z | exact absurd z hc)⟩
  · obtain ⟨r, τ, hQ, h1, h2, kk⟩ := kf (by first | exact hc | exact Int32.not_le.mp hc | exact Int32.not_lt.mp hc | exact Classical.not_not.mp hc)
    exact ⟨r, τ, hQ, h1, h2, fun p e s m args below meth c H locs ls G a1 a2 hR hS hl => lv_if_le G.1 G.2.1 e0 e2 (fun z => absurd z hc) (fun _ => (kk p e s m args below meth c H locs ls G a1 a2 hR hS hl))⟩
theorem wa_icmp_eq {x w : Int32} {off : Int} {tgt : Nat} (q : decode y.2.1 pc = .ok (.if_icmp .eq off, 3) ∧ pc + 3 = nx ∧ (pc : Int) + off = (tgt : Int)) (kt : x = w → WA X y ρ tgt lv st σ Q) (kf : ¬ x = w → WA X y ρ nx lv st σ Q) : WA X y ρ pc lv (.int w :: .int x :: st) σ Q := by
  obtain ⟨e0, rfl, e2⟩ := q
  rcases Classical.em (x = w) with hc | hc
  · obtain ⟨r, τ, hQ, h1, h2, kk⟩ := kt hc
    exact ⟨r, τ, hQ, h1, h2, fun p e s m args below meth c H locs ls G a1 a2 hR hS hl => lv_icmp_eq G.1 G.2.1 e0 e2 (fun _ => (kk p e s m args below meth c H locs ls G a1 a2 hR hS hl)) (fun z => by first | exact absurd hc z | exact absurd z hc)⟩
  · obtain ⟨r, τ, hQ, h1, h2, kk⟩ := kf (by first | exact hc | exact Int32.not_le.mp hc | exact Int32.not_lt.mp hc | exact Classical.not_not.mp hc)
    exact ⟨r, τ, hQ, h1, h2, fun p e s m args below meth c H locs ls G a1 a2 hR hS hl => lv_icmp_eq G.1 G.2.1 e0 e2 (fun z => absurd z hc) (fun _ => (kk p e s m args below meth c H locs ls G a1 a2 hR hS hl))⟩
theorem wa_icmp_ne {x w : Int32} {off : Int} {tgt : Nat} (q : decode y.2.1 pc = .ok (.if_icmp .ne off, 3) ∧ pc + 3 = nx ∧ (pc : Int) + off = (tgt : Int)) (kt : ¬ x = w → WA X y ρ tgt lv st σ Q) (kf : x = w → WA X y ρ nx lv st σ Q) : WA X y ρ pc lv (.int w :: .int x :: st) σ Q := by
  obtain ⟨e0, rfl, e2⟩ := q
  rcases Classical.em (¬ x = w) with hc | hc
  · obtain ⟨r, τ, hQ, h1, h2, kk⟩ := kt hc
    exact ⟨r, τ, hQ, h1, h2, fun p e s m args below meth c H locs ls G a1 a2 hR hS hl => lv_icmp_ne G.1 G.2.1 e0 e2 (fun _ => (kk p e s m args below meth c H locs ls G a1 a2 hR hS hl)) (fun z => by first | exact absurd hc z | exact absurd z hc)⟩
  · obtain ⟨r, τ, hQ, h1, h2, kk⟩ := kf (by first | exact hc | exact Int32.not_le.mp hc | exact Int32.not_lt.mp hc | exact Classical.not_not.mp hc)
    exact ⟨r, τ, hQ, h1, h2, fun p e s m args below meth c H locs ls G a1 a2 hR hS hl => lv_icmp_ne G.1 G.2.1 e0 e2 (fun z => absurd z hc) (fun _ => (kk p e s m args below meth c H locs ls G a1 a2 hR hS hl))⟩
theorem wa_icmp_lt {x w : Int32} {off : Int} {tgt : Nat} (q : decode y.2.1 pc = .ok (.if_icmp .lt off, 3) ∧ pc + 3 = nx ∧ (pc : Int) + off = (tgt : Int)) (kt : x < w → WA X y ρ tgt lv st σ Q) (kf : ¬ x < w → WA X y ρ nx lv st σ Q) : WA X y ρ pc lv (.int w :: .int x :: st) σ Q := by
  obtain ⟨e0, rfl, e2⟩ := q
  rcases Classical.em (x < w) with hc | hc
  · obtain ⟨r, τ, hQ, h1, h2, kk⟩ := kt hc
    exact ⟨r, τ, hQ, h1, h2, fun p e s m args below meth c H locs ls G a1 a2 hR hS hl => lv_icmp_lt G.1 G.2.1 e0 e2 (fun _ => (kk p e s m args below meth c H locs ls G a1 a2 hR hS hl)) (fun z => by first | exact absurd hc z | exact absurd z hc)⟩
  · obtain ⟨r, τ, hQ, h1, h2, kk⟩ := kf (by first | exact hc | exact Int32.not_le.mp hc | exact Int32.not_lt.mp hc | exact Classical.not_not.mp hc)
    exact ⟨r, τ, hQ, h1, h2, fun p e s m args below meth c H locs ls G a1 a2 hR hS hl => lv_icmp_lt G.1 G.2.1 e0 e2 (fun z => absurd z hc) (fun _ => (kk p e s m args below meth c H locs ls G a1 a2 hR hS hl))⟩
theorem wa_icmp_ge {x w : Int32} {off : Int} {tgt : Nat} (q : decode y.2.1 pc = .ok (.if_icmp .ge off, 3) ∧ pc + 3 = nx ∧ (pc : Int) + off = (tgt : Int)) (kt : w ≤ x → WA X y ρ tgt lv st σ Q) (kf : ¬ w ≤ x → WA X y ρ nx lv st σ Q) : WA X y ρ pc lv (.int w :: .int x :: st) σ Q := by
  obtain ⟨e0, rfl, e2⟩ := q
  rcases Classical.em (w ≤ x) with hc | hc
  · obtain ⟨r, τ, hQ, h1, h2, kk⟩ := kt hc
    exact ⟨r, τ, hQ, h1, h2, fun p e s m args below meth c H locs ls G a1 a2 hR hS hl => lv_icmp_ge G.1 G.2.1 e0 e2 (fun _ => (kk p e s m args below meth c H locs ls G a1 a2 hR hS hl)) (fun z => by first | exact absurd hc z | exact absurd z hc)⟩
  · obtain ⟨r, τ, hQ, h1, h2, kk⟩ := kf (by first | exact hc | exact Int32.not_le.mp hc | exact Int32.not_lt.mp hc | exact Classical.not_not.mp hc)
    exact ⟨r, τ, hQ, h1, h2, fun p e s m args below meth c H locs ls G a1 a2 hR hS hl => lv_icmp_ge G.1 G.2.1 e0 e2 (fun z => absurd z hc) (fun _ => (kk p e s m args below meth c H locs ls G a1 a2 hR hS hl))⟩
theorem wa_icmp_gt {x w : Int32} {off : Int} {tgt : Nat} (q : decode y.2.1 pc = .ok (.if_icmp .gt off, 3) ∧ pc + 3 = nx ∧ (pc : Int) + off = (tgt : Int)) (kt : w < x → WA X y ρ tgt lv st σ Q) (kf : ¬ w < x → WA X y ρ nx lv st σ Q) : WA X y ρ pc lv (.int w :: .int x :: st) σ Q := by
  obtain ⟨e0, rfl, e2⟩ := q
  rcases Classical.em (w < x) with hc | hc
  · obtain ⟨r, τ, hQ, h1, h2, kk⟩ := kt hc
    exact ⟨r, τ, hQ, h1, h2, fun p e s m args below meth c H locs ls G a1 a2 hR hS hl => lv_icmp_gt G.1 G.2.1 e0 e2 (fun _ => (kk p e s m args below meth c H locs ls G a1 a2 hR hS hl)) (fun z => by first | exact absurd hc z | exact absurd z hc)⟩
  · obtain ⟨r, τ, hQ, h1, h2, kk⟩ := kf (by first | exact hc | exact Int32.not_le.mp hc | exact Int32.not_lt.mp hc | exact Classical.not_not.mp hc)
    exact ⟨r, τ, hQ, h1, h2, fun p e s m args below meth c H locs ls G a1 a2 hR hS hl => lv_icmp_gt G.1 G.2.1 e0 e2 (fun z => absurd z hc) (fun _ => (kk p e s m args below meth c H locs ls G a1 a2 hR hS hl))⟩
theorem wa_icmp_le {x w : Int32} {off : Int} {tgt : Nat} (q : decode y.2.1 pc = .ok (.if_icmp .le off, 3) ∧ pc + 3 = nx ∧ (pc : Int) + off = (tgt : Int)) (kt : x ≤ w → WA X y ρ tgt lv st σ Q) (kf : ¬ x ≤ w → WA X y ρ nx lv st σ Q) : WA X y ρ pc lv (.int w :: .int x :: st) σ Q := by
  obtain ⟨e0, rfl, e2⟩ := q
  rcases Classical.em (x ≤ w) with hc | hc
  · obtain ⟨r, τ, hQ, h1, h2, kk⟩ := kt hc
    exact ⟨r, τ, hQ, h1, h2, fun p e s m args below meth c H locs ls G a1 a2 hR hS hl => lv_icmp_le G.1 G.2.1 e0 e2 (fun _ => (kk p e s m args below meth c H locs ls G a1 a2 hR hS hl)) (fun z => by first | exact absurd hc z | exact absurd z hc)⟩
  · obtain ⟨r, τ, hQ, h1, h2, kk⟩ := kf (by first | exact hc | exact Int32.not_le.mp hc | exact Int32.not_lt.mp hc | exact Classical.not_not.mp hc)
    exact ⟨r, τ, hQ, h1, h2, fun p e s m args below meth c H locs ls G a1 a2 hR hS hl => lv_icmp_le G.1 G.2.1 e0 e2 (fun z => absurd z hc) (fun _ => (kk p e s m args below meth c H locs ls G a1 a2 hR hS hl))⟩
theorem wa_goto {off : Int} {tgt : Nat} (q : decode y.2.1 pc = .ok (.goto off, 3) ∧ pc + 3 = nx ∧ (pc : Int) + off = (tgt : Int)) (k : WA X y ρ tgt lv st σ Q) : WA X y ρ pc lv st σ Q := by
  obtain ⟨e0, -, e2⟩ := q
  obtain ⟨r, τ, hQ, h1, h2, kk⟩ := k
  exact ⟨r, τ, hQ, h1, h2, fun p e s m args below meth c H locs ls G a1 a2 hR hS hl => lv_goto G.1 G.2.1 e0 e2 (kk p e s m args below meth c H locs ls G a1 a2 hR hS hl)⟩
theorem wa_ifnull {a : Nat} {off : Int} {tgt : Nat} (q : decode y.2.1 pc = .ok (.ifnull off, 3) ∧ pc + 3 = nx ∧ (pc : Int) + off = (tgt : Int)) (k : WA X y ρ nx lv (st) σ Q) : WA X y ρ pc lv (.ref a :: st) σ Q := by
  obtain ⟨e0, rfl, -⟩ := q
  obtain ⟨r, τ, hQ, h1, h2, kk⟩ := k
  exact ⟨r, τ, hQ, h1, h2, fun p e s m args below meth c H locs ls G a1 a2 hR hS hl => lv_ifnull G.1 G.2.1 e0 (kk p e s m args below meth c H locs ls G a1 a2 hR hS hl)⟩
theorem wa_ifnullN {off : Int} {tgt : Nat} (q : decode y.2.1 pc = .ok (.ifnull off, 3) ∧ pc + 3 = nx ∧ (pc : Int) + off = (tgt : Int)) (k : WA X y ρ tgt lv st σ Q) : WA X y ρ pc lv (.null :: st) σ Q := by
  obtain ⟨e0, -, e2⟩ := q
  obtain ⟨r, τ, hQ, h1, h2, kk⟩ := k
  exact ⟨r, τ, hQ, h1, h2, fun p e s m args below meth c H locs ls G a1 a2 hR hS hl => lv_ifnullN G.1 G.2.1 e0 e2 (kk p e s m args below meth c H locs ls G a1 a2 hR hS hl)⟩
theorem wa_ifnonnull {a : Nat} {off : Int} {tgt : Nat} (q : decode y.2.1 pc = .ok (.ifnonnull off, 3) ∧ pc + 3 = nx ∧ (pc : Int) + off = (tgt : Int)) (k : WA X y ρ tgt lv st σ Q) : WA X y ρ pc lv (.ref a :: st) σ Q := by
  obtain ⟨e0, -, e2⟩ := q
  obtain ⟨r, τ, hQ, h1, h2, kk⟩ := k
  exact ⟨r, τ, hQ, h1, h2, fun p e s m args below meth c H locs ls G a1 a2 hR hS hl => lv_ifnonnull G.1 G.2.1 e0 e2 (kk p e s m args below meth c H locs ls G a1 a2 hR hS hl)⟩
theorem wa_ifnonnullN {off : Int} {tgt : Nat} (q : decode y.2.1 pc = .ok (.ifnonnull off, 3) ∧ pc + 3 = nx ∧ (pc : Int) + off = (tgt : Int)) (k : WA X y ρ nx lv (st) σ Q) : WA X y ρ pc lv (.null :: st) σ Q := by
  obtain ⟨e0, rfl, -⟩ := q
  obtain ⟨r, τ, hQ, h1, h2, kk⟩ := k
  exact ⟨r, τ, hQ, h1, h2, fun p e s m args below meth c H locs ls G a1 a2 hR hS hl => lv_ifnonnullN G.1 G.2.1 e0 (kk p e s m args below meth c H locs ls G a1 a2 hR hS hl)⟩
end en_rows
