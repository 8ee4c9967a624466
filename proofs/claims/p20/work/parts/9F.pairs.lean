/-! Both sides of a call -/
def tlOk (hd : Bool) (td : Int) (tl : Nat) : Prop := (hd = false ∧ tl = 0) ∨ (hd = true ∧ ∃ c, isD td.natAbs c ∧ tl = max 1 c)
def inR (ms me : Nat) (M : Nat → Nat) : Prop := ∀ i, i = 0 ∨ i ∈ arrs → ms ≤ M i ∧ M i < me
/-- class and reference stand for the same -/
def lwI (X : en_X) (σ : en_S) (ms me : Nat) (K M : Nat → Nat) (P0 P1 : Nat) : Prop :=
  inR ms me M ∧ ∃ cnt kd fs sn A B hd tl td lo hi qc qs sa, cW X σ ms me K cnt kd fs sn A B tl td lo hi qc qs sa P0 P1 ∧ mW X σ M cnt kd fs sn A B hd td lo hi qc qs sa ∧ tlOk hd td tl
section pairs
variable {X : en_X} {σ τ τ1 τ2 : en_S} {ms me : Nat} {K M : Nat → Nat} {P0 P1 : Nat} {cnt : Nat} {kd fs sn : Nat → Nat} {A B : Nat → Int} {hd : Bool} {tl : Nat} {td lo hi : Int} {qc : Nat} {qs : Nat → Int} {sa : Nat}
theorem mW.ext (h : mW X σ M cnt kd fs sn A B hd td lo hi qc qs sa) (hf : ∀ i, i = 0 ∨ i ∈ arrs → look τ (M i) = look σ (M i)) : mW X τ M cnt kd fs sn A B hd td lo hi qc qs sa := by
  obtain ⟨cd, C, Z, G, V, K, N1, N2, Op, Nd, Pa, Fo, ⟨⟨a0, a1, a2, a3, an⟩, av⟩, ⟨h4, h5, h6, h7, h8, h11, h14, hD⟩, r⟩ := h
  have g : ∀ i, i ∈ arrs → look τ (M i) = look σ (M i) := fun i hi => hf i (Or.inr hi)
  exact ⟨cd, C, Z, G, V, K, N1, N2, Op, Nd, Pa, Fo, ⟨⟨(hf 0 (Or.inl rfl)).trans a0, (g 1 (by decide)).trans a1, (g 2 (by decide)).trans a2, (g 3 (by decide)).trans a3, an⟩, av⟩, ⟨(g 4 (by decide)).trans h4, (g 5 (by decide)).trans h5, (g 6 (by decide)).trans h6, (g 7 (by decide)).trans h7, (g 8 (by decide)).trans h8, (g 11 (by decide)).trans h11, (g 14 (by decide)).trans h14, hD⟩, r⟩
theorem mW.frm (h : mW X σ M cnt kd fs sn A B hd td lo hi qc qs sa) (hM : inR ms me M) (hf : Frm ms me σ τ) : mW X τ M cnt kd fs sn A B hd td lo hi qc qs sa := h.ext (fun i hi => hf _ (hM i hi).1 (hM i hi).2)
theorem cW.mfr (h : cW X σ ms me K cnt kd fs sn A B tl td lo hi qc qs sa P0 P1) (hM : inR ms me M) (hf : mFr M σ τ) : cW X τ ms me K cnt kd fs sn A B tl td lo hi qc qs sa P0 P1 :=
  h.ref (fun q hq => hf.1 q (fun e => by have := hM 0 (Or.inl rfl); omega) (fun i hi e => by have := hM i (Or.inr hi); omega)) hf.2.1 hf.2.2
theorem lwI.obK (h : lwI X σ ms me K M P0 P1) : ∃ fs, look σ (K 0) = some (.inr (6, fs)) := by
  obtain ⟨-, cnt, kd, fs, sn, A, B, hd, tl, td, lo, hi, qc, qs, sa, hc, -⟩ := h
  obtain ⟨a, b, c, d, e, f, ho, -⟩ := hc.ob
  exact ⟨_, ho⟩
theorem mW.obM (h : mW X σ M cnt kd fs sn A B hd td lo hi qc qs sa) : ∃ l, look σ (M 0) = some (.inr (7, l)) := by
  obtain ⟨cd, ho⟩ := h.ob
  exact ⟨_, ho⟩
theorem pair_make {k f s : Nat} {a b : Int} {r1 : Option Value} (hM : inR ms me M) (hc : cW X σ ms me K cnt kd fs sn A B tl td lo hi qc qs sa P0 P1) (hm : mW X σ M cnt kd fs sn A B hd td lo hi qc qs sa) (ht : tlOk hd td tl) (h1 : Mk X σ τ1 ms me K cnt kd fs sn A B tl td lo hi qc qs sa P0 P1 k f s a b r1) :
    ∃ v : Int32, r1 = some (.int v) ∧ mW X τ1 M cnt kd fs sn A B hd td lo hi qc qs sa ∧ ∀ r2 τ2, Mm X τ1 τ2 M cnt kd fs sn A B hd td lo hi qc qs sa k f s a b r2 → r2 = some (.int v) ∧ lwI X τ2 ms me K M P0 P1 := by
  rcases h1 with ⟨q1, rfl, rfl⟩ | ⟨q1, rfl, q3, q4⟩
  · refine ⟨-2, rfl, hm, fun r2 τ2 h2 => ?_⟩
    obtain ⟨f1, ⟨w1, rfl, w3⟩ | ⟨w1, -⟩⟩ := h2
    · exact ⟨rfl, hM, cnt, kd, fs, sn, A, B, hd, tl, td, lo, hi, qc, qs, sa, hc.mfr hM f1, w3, ht⟩
    · omega
  · refine ⟨nI cnt, rfl, hm.frm hM q4, fun r2 τ2 h2 => ?_⟩
    obtain ⟨f1, ⟨w1, -⟩ | ⟨w1, rfl, w3⟩⟩ := h2
    · omega
    · exact ⟨rfl, hM, _, _, _, _, _, _, hd, tl, td, lo, hi, qc, qs, sa, q3.mfr hM f1, w3, ht⟩
theorem P_whole {w : Int64} (h : lwI X σ ms me K M P0 P1) : Calls X M_X6_whole [.ref (K 0), .long w] σ (fun r1 τ1 => ∃ (v : Int32) (l : List Value), r1 = some (.int v) ∧ look τ1 (M 0) = some (.inr (7, l)) ∧ Calls X M_X7_whole [.ref (M 0), .long w] τ1 (fun r2 τ2 => r2 = some (.int v) ∧ lwI X τ2 ms me K M P0 P1)) := by
  obtain ⟨hM, cnt, kd, fs, sn, A, B, hd, tl, td, lo, hi, qc, qs, sa, hc, hm, ht⟩ := h
  refine Calls.mono (H_whole hc) (fun r1 τ1 h1 => ?_)
  obtain ⟨v, e, hm1, hh⟩ := pair_make hM hc hm ht h1
  obtain ⟨l, ol⟩ := hm1.obM
  exact ⟨v, l, e, ol, Calls.mono (T_whole hm1) hh⟩
theorem P_ratio {w z : Int64} (h : lwI X σ ms me K M P0 P1) : Calls X M_X6_ratio [.ref (K 0), .long w, .long z] σ (fun r1 τ1 => ∃ (v : Int32) (l : List Value), r1 = some (.int v) ∧ look τ1 (M 0) = some (.inr (7, l)) ∧ Calls X M_X7_ratio [.ref (M 0), .long w, .long z] τ1 (fun r2 τ2 => r2 = some (.int v) ∧ lwI X τ2 ms me K M P0 P1)) := by
  obtain ⟨hM, cnt, kd, fs, sn, A, B, hd, tl, td, lo, hi, qc, qs, sa, hc, hm, ht⟩ := h
  refine Calls.mono (H_ratio hc) (fun r1 τ1 h1 => ?_)
  rcases h1 with ⟨q0, rfl, rfl⟩ | ⟨q0, h1⟩
  · obtain ⟨l, ol⟩ := hm.obM
    refine ⟨-1, l, rfl, ol, Calls.mono (T_ratio hm) (fun r2 τ2 h2 => ?_)⟩
    rcases h2 with ⟨-, rfl, f1, w3⟩ | ⟨w0, -⟩
    · exact ⟨rfl, hM, cnt, kd, fs, sn, A, B, hd, tl, td, lo, hi, qc, qs, sa, hc.mfr hM f1, w3, ht⟩
    · exact absurd q0 w0
  · obtain ⟨v, e, hm1, hh⟩ := pair_make hM hc hm ht h1
    obtain ⟨l, ol⟩ := hm1.obM
    refine ⟨v, l, e, ol, Calls.mono (T_ratio hm1) (fun r2 τ2 h2 => ?_)⟩
    rcases h2 with ⟨w0, -⟩ | ⟨-, h2⟩
    · exact absurd w0 q0
    · exact hh r2 τ2 h2
theorem P_arctan {w : Int32} (h : lwI X σ ms me K M P0 P1) : Calls X M_X6_arctan [.ref (K 0), .int w] σ (fun r1 τ1 => ∃ (v : Int32) (l : List Value), r1 = some (.int v) ∧ look τ1 (M 0) = some (.inr (7, l)) ∧ Calls X M_X7_arctan [.ref (M 0), .int w] τ1 (fun r2 τ2 => r2 = some (.int v) ∧ lwI X τ2 ms me K M P0 P1)) := by
  obtain ⟨hM, cnt, kd, fs, sn, A, B, hd, tl, td, lo, hi, qc, qs, sa, hc, hm, ht⟩ := h
  refine Calls.mono (H_arctan hc) (fun r1 τ1 h1 => ?_)
  rcases h1 with ⟨q0, rfl, rfl⟩ | ⟨q0, h1⟩
  · obtain ⟨l, ol⟩ := hm.obM
    refine ⟨-1, l, rfl, ol, Calls.mono (T_arctan hm) (fun r2 τ2 h2 => ?_)⟩
    rcases h2 with ⟨-, rfl, f1, w3⟩ | ⟨w0, -⟩
    · exact ⟨rfl, hM, cnt, kd, fs, sn, A, B, hd, tl, td, lo, hi, qc, qs, sa, hc.mfr hM f1, w3, ht⟩
    · exact absurd q0 w0
  · obtain ⟨v, e, hm1, hh⟩ := pair_make hM hc hm ht h1
    obtain ⟨l, ol⟩ := hm1.obM
    refine ⟨v, l, e, ol, Calls.mono (T_arctan hm1) (fun r2 τ2 h2 => ?_)⟩
    rcases h2 with ⟨w0, -⟩ | ⟨-, h2⟩
    · exact absurd w0 q0
    · exact hh r2 τ2 h2
theorem P_artanh {w : Int32} (h : lwI X σ ms me K M P0 P1) : Calls X M_X6_artanh [.ref (K 0), .int w] σ (fun r1 τ1 => ∃ (v : Int32) (l : List Value), r1 = some (.int v) ∧ look τ1 (M 0) = some (.inr (7, l)) ∧ Calls X M_X7_artanh [.ref (M 0), .int w] τ1 (fun r2 τ2 => r2 = some (.int v) ∧ lwI X τ2 ms me K M P0 P1)) := by
  obtain ⟨hM, cnt, kd, fs, sn, A, B, hd, tl, td, lo, hi, qc, qs, sa, hc, hm, ht⟩ := h
  refine Calls.mono (H_artanh hc) (fun r1 τ1 h1 => ?_)
  rcases h1 with ⟨q0, rfl, rfl⟩ | ⟨q0, h1⟩
  · obtain ⟨l, ol⟩ := hm.obM
    refine ⟨-1, l, rfl, ol, Calls.mono (T_artanh hm) (fun r2 τ2 h2 => ?_)⟩
    rcases h2 with ⟨-, rfl, f1, w3⟩ | ⟨w0, -⟩
    · exact ⟨rfl, hM, cnt, kd, fs, sn, A, B, hd, tl, td, lo, hi, qc, qs, sa, hc.mfr hM f1, w3, ht⟩
    · exact absurd q0 w0
  · obtain ⟨v, e, hm1, hh⟩ := pair_make hM hc hm ht h1
    obtain ⟨l, ol⟩ := hm1.obM
    refine ⟨v, l, e, ol, Calls.mono (T_artanh hm1) (fun r2 τ2 h2 => ?_)⟩
    rcases h2 with ⟨w0, -⟩ | ⟨-, h2⟩
    · exact absurd w0 q0
    · exact hh r2 τ2 h2
theorem P_power {w z : Int32} (h : lwI X σ ms me K M P0 P1) : Calls X M_X6_power [.ref (K 0), .int w, .int z] σ (fun r1 τ1 => ∃ (v : Int32) (l : List Value), r1 = some (.int v) ∧ look τ1 (M 0) = some (.inr (7, l)) ∧ Calls X M_X7_power [.ref (M 0), .int w, .int z] τ1 (fun r2 τ2 => r2 = some (.int v) ∧ lwI X τ2 ms me K M P0 P1)) := by
  obtain ⟨hM, cnt, kd, fs, sn, A, B, hd, tl, td, lo, hi, qc, qs, sa, hc, hm, ht⟩ := h
  refine Calls.mono (H_power hc) (fun r1 τ1 h1 => ?_)
  rcases h1 with ⟨q0, rfl, rfl⟩ | ⟨q0, h1⟩
  · obtain ⟨l, ol⟩ := hm.obM
    refine ⟨-1, l, rfl, ol, Calls.mono (T_power hm) (fun r2 τ2 h2 => ?_)⟩
    rcases h2 with ⟨-, rfl, f1, w3⟩ | ⟨w0, -⟩
    · exact ⟨rfl, hM, cnt, kd, fs, sn, A, B, hd, tl, td, lo, hi, qc, qs, sa, hc.mfr hM f1, w3, ht⟩
    · exact absurd q0 w0
  · obtain ⟨v, e, hm1, hh⟩ := pair_make hM hc hm ht h1
    obtain ⟨l, ol⟩ := hm1.obM
    refine ⟨v, l, e, ol, Calls.mono (T_power hm1) (fun r2 τ2 h2 => ?_)⟩
    rcases h2 with ⟨w0, -⟩ | ⟨-, h2⟩
    · exact absurd w0 q0
    · exact hh r2 τ2 h2
theorem P_root {w : Int32} (h : lwI X σ ms me K M P0 P1) : Calls X M_X6_root [.ref (K 0), .int w] σ (fun r1 τ1 => ∃ (v : Int32) (l : List Value), r1 = some (.int v) ∧ look τ1 (M 0) = some (.inr (7, l)) ∧ Calls X M_X7_root [.ref (M 0), .int w] τ1 (fun r2 τ2 => r2 = some (.int v) ∧ lwI X τ2 ms me K M P0 P1)) := by
  obtain ⟨hM, cnt, kd, fs, sn, A, B, hd, tl, td, lo, hi, qc, qs, sa, hc, hm, ht⟩ := h
  have h60 := hc.c60
  refine Calls.mono (H_root hc) (fun r1 τ1 h1 => ?_)
  rcases h1 with ⟨q0, rfl, rfl⟩ | ⟨u, hu, rfl, h1⟩
  · obtain ⟨l, ol⟩ := hm.obM
    refine ⟨-1, l, rfl, ol, Calls.mono (T_root hm) (fun r2 τ2 h2 => ?_)⟩
    rcases h2 with ⟨-, rfl, f1, w3⟩ | ⟨u, hu, e, -⟩
    · exact ⟨rfl, hM, cnt, kd, fs, sn, A, B, hd, tl, td, lo, hi, qc, qs, sa, hc.mfr hM f1, w3, ht⟩
    · exact absurd e (q0 u hu)
  · obtain ⟨v, e, hm1, hh⟩ := pair_make hM hc hm ht h1
    obtain ⟨l, ol⟩ := hm1.obM
    refine ⟨v, l, e, ol, Calls.mono (T_root hm1) (fun r2 τ2 h2 => ?_)⟩
    rcases h2 with ⟨w0, -⟩ | ⟨u', hu', e', h2⟩
    · exact absurd rfl (w0 u hu)
    · have : u = u' := (nI_eq (by omega) (by omega)).mp e'
      subst this
      exact hh r2 τ2 h2
theorem P_join {w x z : Int32} (h : lwI X σ ms me K M P0 P1) : Calls X M_X6_join [.ref (K 0), .int w, .int x, .int z] σ (fun r1 τ1 => ∃ (v : Int32) (l : List Value), r1 = some (.int v) ∧ look τ1 (M 0) = some (.inr (7, l)) ∧ Calls X M_X7_join [.ref (M 0), .int w, .int x, .int z] τ1 (fun r2 τ2 => r2 = some (.int v) ∧ lwI X τ2 ms me K M P0 P1)) := by
  obtain ⟨hM, cnt, kd, fs, sn, A, B, hd, tl, td, lo, hi, qc, qs, sa, hc, hm, ht⟩ := h
  have h60 := hc.c60
  refine Calls.mono (H_join hc) (fun r1 τ1 h1 => ?_)
  rcases h1 with ⟨q0, rfl, rfl⟩ | ⟨k, u, y, hk, rfl, hu, rfl, hy, rfl, h1⟩
  · obtain ⟨l, ol⟩ := hm.obM
    refine ⟨-1, l, rfl, ol, Calls.mono (T_join hm) (fun r2 τ2 h2 => ?_)⟩
    rcases h2 with ⟨-, rfl, f1, w3⟩ | ⟨k, u, y, hk, e1, hu, e2, hy, e3, -⟩
    · exact ⟨rfl, hM, cnt, kd, fs, sn, A, B, hd, tl, td, lo, hi, qc, qs, sa, hc.mfr hM f1, w3, ht⟩
    · rcases q0 with q | q | q | q
      · rw [e1] at q; exact absurd q (nI_pos (by omega))
      · rw [e1] at q
        have : 3 < k := (nI_ltI (by decide) (by omega)).mp q
        omega
      · exact absurd e2 (q u hu)
      · exact absurd e3 (q y hy)
  · obtain ⟨v, e, hm1, hh⟩ := pair_make hM hc hm ht h1
    obtain ⟨l, ol⟩ := hm1.obM
    refine ⟨v, l, e, ol, Calls.mono (T_join hm1) (fun r2 τ2 h2 => ?_)⟩
    rcases h2 with ⟨q0, -⟩ | ⟨k', u', y', hk', e1, hu', e2, hy', e3, h2⟩
    · rcases q0 with q | q | q | q
      · exact absurd q (nI_pos (by omega))
      · have : 3 < k := (nI_ltI (by decide) (by omega)).mp q
        omega
      · exact absurd rfl (q u hu)
      · exact absurd rfl (q y hy)
    · have a1 : k = k' := (nI_eq (by omega) (by omega)).mp e1
      have a2 : u = u' := (nI_eq (by omega) (by omega)).mp e2
      have a3 : y = y' := (nI_eq (by omega) (by omega)).mp e3
      subst a1 a2 a3
      exact hh r2 τ2 h2
theorem P_drop {w : Int32} (h : lwI X σ ms me K M P0 P1) : Calls X M_X6_drop [.ref (K 0), .int w] σ (fun r1 τ1 => ∃ (v : Int32) (l : List Value), r1 = some (.int v) ∧ look τ1 (M 0) = some (.inr (7, l)) ∧ Calls X M_X7_drop [.ref (M 0), .int w] τ1 (fun r2 τ2 => (∃ v2 : Int32, r2 = some (.int v2)) ∧ lwI X τ2 ms me K M P0 P1)) := by
  obtain ⟨hM, cnt, kd, fs, sn, A, B, hd, tl, td, lo, hi, qc, qs, sa, hc, hm, ht⟩ := h
  have h60 := hc.c60
  refine Calls.mono (H_drop hc) (fun r1 τ1 h1 => ?_)
  rcases h1 with ⟨q0, rfl, rfl⟩ | ⟨f, hf, rfl, rfl, q3, q4⟩
  · obtain ⟨l, ol⟩ := hm.obM
    refine ⟨-1, l, rfl, ol, Calls.mono (T_drop hm) (fun r2 τ2 h2 => ?_)⟩
    obtain ⟨f1, ⟨-, rfl, w3⟩ | ⟨f, hf, e, -⟩⟩ := h2
    · exact ⟨⟨_, rfl⟩, hM, cnt, kd, fs, sn, A, B, hd, tl, td, lo, hi, qc, qs, sa, hc.mfr hM f1, w3, ht⟩
    · rw [e] at q0
      rcases q0 with q | q
      · exact absurd q (nI_pos (by omega))
      · have := (nI_ltI (by omega) (by omega)).mp q
        omega
  · have hm1 := hm.frm hM q4
    obtain ⟨l, ol⟩ := hm1.obM
    refine ⟨_, l, rfl, ol, Calls.mono (T_drop hm1) (fun r2 τ2 h2 => ?_)⟩
    obtain ⟨f1, ⟨q0, -⟩ | ⟨f', hf', e, rfl, w3⟩⟩ := h2
    · rcases q0 with q | q
      · exact absurd q (nI_pos (by omega))
      · have := (nI_ltI (by omega) (by omega)).mp q
        omega
    · have a1 : f = f' := (nI_eq (by omega) (by omega)).mp e
      subst a1
      exact ⟨⟨_, rfl⟩, hM, f, kd, fs, sn, A, B, hd, tl, td, lo, hi, qc, qs, sa, q3.mfr hM f1, w3, ht⟩
theorem P_values (h : lwI X σ ms me K M P0 P1) : Calls X M_X6_values [.ref (K 0)] σ (fun r1 τ1 => ∃ (v : Int32) (l : List Value), r1 = some (.int v) ∧ look τ1 (M 0) = some (.inr (7, l)) ∧ Calls X M_X7_values [.ref (M 0)] τ1 (fun r2 τ2 => r2 = some (.int v) ∧ lwI X τ2 ms me K M P0 P1)) := by
  obtain ⟨hM, cnt, kd, fs, sn, A, B, hd, tl, td, lo, hi, qc, qs, sa, hc, hm, ht⟩ := h
  refine Calls.mono (H_values hc) (fun r1 τ1 h1 => ?_)
  obtain ⟨rfl, rfl⟩ := h1
  obtain ⟨l, ol⟩ := hm.obM
  refine ⟨_, l, rfl, ol, Calls.mono (T_values hm) (fun r2 τ2 h2 => ?_)⟩
  obtain ⟨rfl, f1, w3⟩ := h2
  exact ⟨rfl, hM, cnt, kd, fs, sn, A, B, hd, tl, td, lo, hi, qc, qs, sa, hc.mfr hM f1, w3, ht⟩
theorem P_many (h : lwI X σ ms me K M P0 P1) : Calls X M_X6_many [.ref (K 0)] σ (fun r1 τ1 => ∃ (v : Int32) (l : List Value), r1 = some (.int v) ∧ look τ1 (M 0) = some (.inr (7, l)) ∧ Calls X M_X7_many [.ref (M 0)] τ1 (fun r2 τ2 => r2 = some (.int v) ∧ lwI X τ2 ms me K M P0 P1)) := by
  obtain ⟨hM, cnt, kd, fs, sn, A, B, hd, tl, td, lo, hi, qc, qs, sa, hc, hm, ht⟩ := h
  refine Calls.mono (H_many hc) (fun r1 τ1 h1 => ?_)
  obtain ⟨rfl, rfl⟩ := h1
  obtain ⟨l, ol⟩ := hm.obM
  refine ⟨_, l, rfl, ol, Calls.mono (T_many hm) (fun r2 τ2 h2 => ?_)⟩
  obtain ⟨rfl, f1, w3⟩ := h2
  exact ⟨rfl, hM, cnt, kd, fs, sn, A, B, hd, tl, td, lo, hi, qc, qs, sa, hc.mfr hM f1, w3, ht⟩
theorem P_precision (h : lwI X σ ms me K M P0 P1) : Calls X M_X6_precision [.ref (K 0)] σ (fun r1 τ1 => ∃ (v : Int32) (l : List Value), r1 = some (.int v) ∧ look τ1 (M 0) = some (.inr (7, l)) ∧ Calls X M_X7_precision [.ref (M 0)] τ1 (fun r2 τ2 => r2 = some (.int v) ∧ lwI X τ2 ms me K M P0 P1)) := by
  obtain ⟨hM, cnt, kd, fs, sn, A, B, hd, tl, td, lo, hi, qc, qs, sa, hc, hm, ht⟩ := h
  refine Calls.mono (H_prec hc) (fun r1 τ1 h1 => ?_)
  obtain ⟨rfl, rfl⟩ := h1
  obtain ⟨l, ol⟩ := hm.obM
  refine ⟨_, l, rfl, ol, Calls.mono (T_prec hm) (fun r2 τ2 h2 => ?_)⟩
  obtain ⟨rfl, f1, w3⟩ := h2
  exact ⟨rfl, hM, cnt, kd, fs, sn, A, B, hd, tl, td, lo, hi, qc, qs, sa, hc.mfr hM f1, w3, ht⟩
theorem P_digit {w : Int32} (h : lwI X σ ms me K M P0 P1) : Calls X M_X6_digit [.ref (K 0), .int w] σ (fun r1 τ1 => ∃ (v : Int32) (l : List Value), r1 = some (.int v) ∧ look τ1 (M 0) = some (.inr (7, l)) ∧ Calls X M_X7_digit [.ref (M 0), .int w] τ1 (fun r2 τ2 => r2 = some (.int v) ∧ lwI X τ2 ms me K M P0 P1)) := by
  obtain ⟨hM, cnt, kd, fs, sn, A, B, hd, tl, td, lo, hi, qc, qs, sa, hc, hm, ht⟩ := h
  refine Calls.mono (H_digit hc) (fun r1 τ1 h1 => ?_)
  obtain ⟨rfl, rfl⟩ := h1
  obtain ⟨l, ol⟩ := hm.obM
  refine ⟨_, l, rfl, ol, Calls.mono (T_digit hm) (fun r2 τ2 h2 => ?_)⟩
  obtain ⟨rfl, f1, w3⟩ := h2
  exact ⟨rfl, hM, cnt, kd, fs, sn, A, B, hd, tl, td, lo, hi, qc, qs, sa, hc.mfr hM f1, w3, ht⟩
theorem P_bound {w x : Int32} (h : lwI X σ ms me K M P0 P1) : Calls X M_X6_bound [.ref (K 0), .int w, .int x] σ (fun r1 τ1 => ∃ (v : Int32) (l : List Value), r1 = some (.int v) ∧ look τ1 (M 0) = some (.inr (7, l)) ∧ Calls X M_X7_bound [.ref (M 0), .int w, .int x] τ1 (fun r2 τ2 => r2 = some (.int v) ∧ lwI X τ2 ms me K M P0 P1)) := by
  obtain ⟨hM, cnt, kd, fs, sn, A, B, hd, tl, td, lo, hi, qc, qs, sa, hc, hm, ht⟩ := h
  refine Calls.mono (H_bound hc) (fun r1 τ1 h1 => ?_)
  obtain ⟨rfl, rfl⟩ := h1
  obtain ⟨l, ol⟩ := hm.obM
  refine ⟨_, l, rfl, ol, Calls.mono (T_bound hm) (fun r2 τ2 h2 => ?_)⟩
  obtain ⟨rfl, f1, w3⟩ := h2
  exact ⟨rfl, hM, cnt, kd, fs, sn, A, B, hd, tl, td, lo, hi, qc, qs, sa, hc.mfr hM f1, w3, ht⟩
theorem P_quotient {w : Int32} (h : lwI X σ ms me K M P0 P1) : Calls X M_X6_quotient [.ref (K 0), .int w] σ (fun r1 τ1 => ∃ (v : Int64) (l : List Value), r1 = some (.long v) ∧ look τ1 (M 0) = some (.inr (7, l)) ∧ Calls X M_X7_quotient [.ref (M 0), .int w] τ1 (fun r2 τ2 => r2 = some (.long v) ∧ lwI X τ2 ms me K M P0 P1)) := by
  obtain ⟨hM, cnt, kd, fs, sn, A, B, hd, tl, td, lo, hi, qc, qs, sa, hc, hm, ht⟩ := h
  refine Calls.mono (H_quot hc) (fun r1 τ1 h1 => ?_)
  obtain ⟨rfl, rfl⟩ := h1
  obtain ⟨l, ol⟩ := hm.obM
  refine ⟨_, l, rfl, ol, Calls.mono (T_quot hm) (fun r2 τ2 h2 => ?_)⟩
  obtain ⟨rfl, f1, w3⟩ := h2
  exact ⟨rfl, hM, cnt, kd, fs, sn, A, B, hd, tl, td, lo, hi, qc, qs, sa, hc.mfr hM f1, w3, ht⟩
theorem P_length (h : lwI X σ ms me K M P0 P1) : Calls X M_X6_length [.ref (K 0)] σ (fun r1 τ1 => ∃ (v : Int32) (l : List Value), r1 = some (.int v) ∧ look τ1 (M 0) = some (.inr (7, l)) ∧ Calls X M_X7_length [.ref (M 0)] τ1 (fun r2 τ2 => r2 = some (.int v) ∧ lwI X τ2 ms me K M P0 P1)) := by
  obtain ⟨hM, cnt, kd, fs, sn, A, B, hd, tl, td, lo, hi, qc, qs, sa, hc, hm, ht⟩ := h
  refine Calls.mono (H_length hc) (fun r1 τ1 h1 => ?_)
  obtain ⟨rfl, rfl⟩ := h1
  obtain ⟨l, ol⟩ := hm.obM
  refine ⟨_, l, rfl, ol, Calls.mono (T_length hm) (fun r2 τ2 h2 => ?_)⟩
  obtain ⟨h2, f1, w3⟩ := h2
  refine ⟨?_, hM, cnt, kd, fs, sn, A, B, hd, tl, td, lo, hi, qc, qs, sa, hc.mfr hM f1, w3, ht⟩
  rcases ht with ⟨t1, t2⟩ | ⟨t1, c, t2, t3⟩
  · rcases h2 with ⟨-, rfl⟩ | ⟨e, -⟩
    · rw [t2]
    · rw [t1] at e; cases e
  · rcases h2 with ⟨e, -⟩ | ⟨-, c', rfl, hc'⟩
    · rw [t1] at e; cases e
    · have e : c' = tl := by
        rw [t3]
        rcases hc' with ⟨z1, z2⟩ | ⟨z1, z2⟩
        · rw [z1] at t2
          rcases t2.2 with q | q
          · rw [q, z2]; rfl
          · have : 0 < 10 ^ (c - 1) := Nat.pow_pos (by decide)
            have q : 10 ^ (c - 1) ≤ 0 := q
            omega
        · have e1 := isD_u z2 t2
          have e2 : c ≠ 0 := fun q => by
            rw [q] at t2
            have := t2.1
            rw [Nat.pow_zero] at this
            omega
          omega
      rw [e]
theorem P_enclose {w x : Int32} (hFF : FFok) (hFL : FLok) (h : lwI X σ ms me K M P0 P1) : Calls X M_X6_enclose [.ref (K 0), .int w, .int x] σ (fun r1 τ1 => ∃ (v : Int32) (l : List Value), r1 = some (.int v) ∧ look τ1 (M 0) = some (.inr (7, l)) ∧ Calls X M_X7_enclose [.ref (M 0), .int w, .int x] τ1 (fun r2 τ2 => r2 = some (.int v) ∧ lwI X τ2 ms me K M P0 P1)) := by
  obtain ⟨hM, cnt, kd, fs, sn, A, B, hd, tl, td, lo, hi, qc, qs, sa, hc, hm, ht⟩ := h
  have h60 := hc.c60
  refine Calls.mono (H_enclose hFL hc) (fun r1 τ1 h1 => ?_)
  rcases h1 with ⟨q0, rfl, rfl⟩ | ⟨u, p, hu, rfl, hp1, hp2, rfl, hF, h1⟩
  · obtain ⟨l, ol⟩ := hm.obM
    refine ⟨-1, l, rfl, ol, Calls.mono (T_enclose hFF hFL hm) (fun r2 τ2 h2 => ?_)⟩
    obtain ⟨f1, ⟨-, rfl, w3⟩ | ⟨u, p, hu, e1, hp1, hp2, e2, -⟩⟩ := h2
    · exact ⟨rfl, hM, cnt, kd, fs, sn, A, B, hd, tl, td, lo, hi, qc, qs, sa, hc.mfr hM f1, w3, ht⟩
    · rcases q0 with q | q | q
      · exact absurd e1 (q u hu)
      · rw [e2] at q
        have : p < 1 := (nI_ltI (by omega) (by decide)).mp q
        omega
      · rw [e2] at q
        have : 480 < p := (nI_ltI (by decide) (by omega)).mp q
        omega
  · have hm1 := hm.frm hM hF
    obtain ⟨l, ol⟩ := hm1.obM
    have key : ∀ (r2 : Option Value) (τ2 : en_S), (mFr M τ1 τ2 ∧ ((((∀ v, v < cnt → nI u ≠ nI v) ∨ nI p < 1 ∨ 480 < nI p) ∧ r2 = some (.int (-1)) ∧ mW X τ2 M cnt kd fs sn A B hd td lo hi qc qs sa) ∨ (∃ v p', v < cnt ∧ nI u = nI v ∧ 1 ≤ p' ∧ p' ≤ 480 ∧ nI p = nI p' ∧ ((enc kd fs sn A B p' v = none ∧ r2 = some (.int (-3)) ∧ mW X τ2 M cnt kd fs sn A B hd td lo hi qc qs sa) ∨ (∃ L H, enc kd fs sn A B p' v = some (L, H) ∧ r2 = some (.int (nI 1)) ∧ mW X τ2 M cnt kd fs sn A B hd td L H qc qs sa))))) → mFr M τ1 τ2 ∧ ((enc kd fs sn A B p u = none ∧ r2 = some (.int (-3)) ∧ mW X τ2 M cnt kd fs sn A B hd td lo hi qc qs sa) ∨ (∃ L H, enc kd fs sn A B p u = some (L, H) ∧ r2 = some (.int (nI 1)) ∧ mW X τ2 M cnt kd fs sn A B hd td L H qc qs sa)) := by
      intro r2 τ2 h2
      obtain ⟨f1, ⟨q0, -⟩ | ⟨u', p', hu', e1, hp1', hp2', e2, h2⟩⟩ := h2
      · rcases q0 with q | q | q
        · exact absurd rfl (q u hu)
        · have : p < 1 := (nI_ltI (by omega) (by decide)).mp q
          omega
        · have : 480 < p := (nI_ltI (by decide) (by omega)).mp q
          omega
      · have a1 : u = u' := (nI_eq (by omega) (by omega)).mp e1
        have a2 : p = p' := (nI_eq (by omega) (by omega)).mp e2
        subst a1 a2
        exact ⟨f1, h2⟩
    rcases h1 with ⟨he, rfl, q3⟩ | ⟨L, H, he, rfl, q3⟩
    · refine ⟨_, l, rfl, ol, Calls.mono (T_enclose hFF hFL hm1) (fun r2 τ2 h2 => ?_)⟩
      obtain ⟨f1, ⟨-, rfl, w3⟩ | ⟨L, H, he2, -⟩⟩ := key r2 τ2 h2
      · exact ⟨rfl, hM, cnt, kd, fs, sn, A, B, hd, tl, td, lo, hi, qc, qs, sa, q3.mfr hM f1, w3, ht⟩
      · rw [he] at he2; cases he2
    · refine ⟨_, l, rfl, ol, Calls.mono (T_enclose hFF hFL hm1) (fun r2 τ2 h2 => ?_)⟩
      obtain ⟨f1, ⟨he2, -⟩ | ⟨L', H', he2, rfl, w3⟩⟩ := key r2 τ2 h2
      · rw [he] at he2; cases he2
      · rw [he] at he2
        cases he2
        exact ⟨rfl, hM, cnt, kd, fs, sn, A, B, hd, tl, td, L, H, qc, qs, sa, q3.mfr hM f1, w3, ht⟩
theorem P_digits {w x : Int32} (hFF : FFok) (hFL : FLok) (h : lwI X σ ms me K M P0 P1) : Calls X M_X6_digits [.ref (K 0), .int w, .int x] σ (fun r1 τ1 => ∃ (v : Int32) (l : List Value), r1 = some (.int v) ∧ look τ1 (M 0) = some (.inr (7, l)) ∧ Calls X M_X7_digits [.ref (M 0), .int w, .int x] τ1 (fun r2 τ2 => r2 = some (.int v) ∧ lwI X τ2 ms me K M P0 P1)) := by
  obtain ⟨hM, cnt, kd, fs, sn, A, B, hd, tl, td, lo, hi, qc, qs, sa, hc, hm, ht⟩ := h
  have h60 := hc.c60
  refine Calls.mono (H_digits hFL hc) (fun r1 τ1 h1 => ?_)
  rcases h1 with ⟨q0, rfl, rfl⟩ | ⟨u, p, hu, rfl, hp, rfl, hF, h1⟩
  · obtain ⟨l, ol⟩ := hm.obM
    refine ⟨-1, l, rfl, ol, Calls.mono (T_digits hFF hFL hm) (fun r2 τ2 h2 => ?_)⟩
    obtain ⟨f1, ⟨-, rfl, w3⟩ | ⟨u, p, hu, e1, hp, e2, -⟩⟩ := h2
    · exact ⟨rfl, hM, cnt, kd, fs, sn, A, B, hd, tl, td, lo, hi, qc, qs, sa, hc.mfr hM f1, w3, ht⟩
    · rcases q0 with q | q | q
      · exact absurd e1 (q u hu)
      · rw [e2] at q; exact absurd q (nI_pos (by omega))
      · rw [e2] at q
        have : 400 < p := (nI_ltI (by decide) (by omega)).mp q
        omega
  · have hm1 := hm.frm hM hF
    obtain ⟨l, ol⟩ := hm1.obM
    have key : ∀ u' p', u' < cnt → nI u = nI u' → p' ≤ 400 → nI p = nI p' → u = u' ∧ p = p' := fun u' p' x1 x2 x3 x4 => ⟨(nI_eq (by omega) (by omega)).mp x2, (nI_eq (by omega) (by omega)).mp x4⟩
    have nob : ¬ ((∀ v, v < cnt → nI u ≠ nI v) ∨ nI p < 0 ∨ 400 < nI p) := fun q0 => by
      rcases q0 with q | q | q
      · exact absurd rfl (q u hu)
      · exact absurd q (nI_pos (by omega))
      · have : 400 < p := (nI_ltI (by decide) (by omega)).mp q
        omega
    rcases h1 with ⟨he, rfl, q3⟩ | ⟨q, D, c, he, hD, rfl, q3⟩
    · refine ⟨_, l, rfl, ol, Calls.mono (T_digits hFF hFL hm1) (fun r2 τ2 h2 => ?_)⟩
      obtain ⟨f1, ⟨w0, -⟩ | ⟨u', p', x1, x2, x3, x4, h2⟩⟩ := h2
      · exact absurd w0 nob
      · obtain ⟨a1, a2⟩ := key u' p' x1 x2 x3 x4
        subst a1 a2
        rcases h2 with ⟨-, rfl, w3⟩ | ⟨q, D, he2, -⟩
        · exact ⟨rfl, hM, cnt, kd, fs, sn, A, B, hd, tl, td, lo, hi, qc, qs, 0, q3.mfr hM f1, w3, ht⟩
        · rw [he] at he2; cases he2
    · refine ⟨_, l, rfl, ol, Calls.mono (T_digits hFF hFL hm1) (fun r2 τ2 h2 => ?_)⟩
      obtain ⟨f1, ⟨w0, -⟩ | ⟨u', p', x1, x2, x3, x4, h2⟩⟩ := h2
      · exact absurd w0 nob
      · obtain ⟨a1, a2⟩ := key u' p' x1 x2 x3 x4
        subst a1 a2
        rcases h2 with ⟨he2, -⟩ | ⟨q', D', he2, rfl, w3⟩
        · rw [he] at he2; cases he2
        · rw [he] at he2
          cases he2
          exact ⟨rfl, hM, cnt, kd, fs, sn, A, B, true, _, D, lo, hi, qc, qs, q, q3.mfr hM f1, w3, Or.inr ⟨rfl, c, hD, rfl⟩⟩
theorem P_order {w x : Int32} (hFF : FFok) (hFL : FLok) (h : lwI X σ ms me K M P0 P1) : Calls X M_X6_order [.ref (K 0), .int w, .int x] σ (fun r1 τ1 => ∃ (v : Int32) (l : List Value), r1 = some (.int v) ∧ look τ1 (M 0) = some (.inr (7, l)) ∧ Calls X M_X7_order [.ref (M 0), .int w, .int x] τ1 (fun r2 τ2 => r2 = some (.int v) ∧ lwI X τ2 ms me K M P0 P1)) := by
  obtain ⟨hM, cnt, kd, fs, sn, A, B, hd, tl, td, lo, hi, qc, qs, sa, hc, hm, ht⟩ := h
  have h60 := hc.c60
  refine Calls.mono (H_order hFL hc) (fun r1 τ1 h1 => ?_)
  rcases h1 with ⟨q0, rfl, rfl⟩ | ⟨u, p, hu, rfl, hp, rfl, hF, h1⟩
  · obtain ⟨l, ol⟩ := hm.obM
    refine ⟨-1, l, rfl, ol, Calls.mono (T_order hFF hFL hm) (fun r2 τ2 h2 => ?_)⟩
    obtain ⟨f1, ⟨-, rfl, w3⟩ | ⟨u, p, hu, e1, hp, e2, -⟩⟩ := h2
    · exact ⟨rfl, hM, cnt, kd, fs, sn, A, B, hd, tl, td, lo, hi, qc, qs, sa, hc.mfr hM f1, w3, ht⟩
    · rcases q0 with q | q
      · exact absurd e1 (q u hu)
      · exact absurd e2 (q p hp)
  · have hm1 := hm.frm hM hF
    obtain ⟨l, ol⟩ := hm1.obM
    have key : ∀ u' p', u' < cnt → nI u = nI u' → p' < cnt → nI p = nI p' → u = u' ∧ p = p' := fun u' p' x1 x2 x3 x4 => ⟨(nI_eq (by omega) (by omega)).mp x2, (nI_eq (by omega) (by omega)).mp x4⟩
    have nob : ¬ ((∀ v, v < cnt → nI u ≠ nI v) ∨ (∀ v, v < cnt → nI p ≠ nI v)) := fun q0 => by
      rcases q0 with q | q
      · exact absurd rfl (q u hu)
      · exact absurd rfl (q p hp)
    rcases h1 with ⟨he, rfl, q3⟩ | ⟨q, D, he, rfl, q3⟩
    · refine ⟨_, l, rfl, ol, Calls.mono (T_order hFF hFL hm1) (fun r2 τ2 h2 => ?_)⟩
      obtain ⟨f1, ⟨w0, -⟩ | ⟨u', p', x1, x2, x3, x4, h2⟩⟩ := h2
      · exact absurd w0 nob
      · obtain ⟨a1, a2⟩ := key u' p' x1 x2 x3 x4
        subst a1 a2
        rcases h2 with ⟨-, rfl, w3⟩ | ⟨q, D, he2, -⟩
        · exact ⟨rfl, hM, cnt, kd, fs, sn, A, B, hd, tl, td, lo, hi, qc, qs, 0, q3.mfr hM f1, w3, ht⟩
        · rw [he] at he2; cases he2
    · refine ⟨_, l, rfl, ol, Calls.mono (T_order hFF hFL hm1) (fun r2 τ2 h2 => ?_)⟩
      obtain ⟨f1, ⟨w0, -⟩ | ⟨u', p', x1, x2, x3, x4, h2⟩⟩ := h2
      · exact absurd w0 nob
      · obtain ⟨a1, a2⟩ := key u' p' x1 x2 x3 x4
        subst a1 a2
        rcases h2 with ⟨he2, -⟩ | ⟨q', D', he2, rfl, w3⟩
        · rw [he] at he2; cases he2
        · rw [he] at he2
          cases he2
          exact ⟨rfl, hM, cnt, kd, fs, sn, A, B, hd, tl, td, lo, hi, qc, qs, q, q3.mfr hM f1, w3, ht⟩
theorem P_quotients {w x : Int32} (hFF : FFok) (hFL : FLok) (h : lwI X σ ms me K M P0 P1) : Calls X M_X6_quotients [.ref (K 0), .int w, .int x] σ (fun r1 τ1 => ∃ (v : Int32) (l : List Value), r1 = some (.int v) ∧ look τ1 (M 0) = some (.inr (7, l)) ∧ Calls X M_X7_quotients [.ref (M 0), .int w, .int x] τ1 (fun r2 τ2 => r2 = some (.int v) ∧ lwI X τ2 ms me K M P0 P1)) := by
  obtain ⟨hM, cnt, kd, fs, sn, A, B, hd, tl, td, lo, hi, qc, qs, sa, hc, hm, ht⟩ := h
  have h60 := hc.c60
  refine Calls.mono (H_quots hFL hc) (fun r1 τ1 h1 => ?_)
  rcases h1 with ⟨q0, rfl, rfl⟩ | ⟨u, p, hu, rfl, hp1, hp, rfl, hF, h1⟩
  · obtain ⟨l, ol⟩ := hm.obM
    refine ⟨-1, l, rfl, ol, Calls.mono (T_quots hFF hFL hm) (fun r2 τ2 h2 => ?_)⟩
    obtain ⟨f1, ⟨-, rfl, w3⟩ | ⟨u, p, hu, e1, hp1, hp, e2, -⟩⟩ := h2
    · exact ⟨rfl, hM, cnt, kd, fs, sn, A, B, hd, tl, td, lo, hi, qc, qs, sa, hc.mfr hM f1, w3, ht⟩
    · rcases q0 with q | q | q
      · exact absurd e1 (q u hu)
      · rw [e2] at q
        have : p < 1 := (nI_ltI (by omega) (by decide)).mp q
        omega
      · rw [e2] at q
        have : 40 < p := (nI_ltI (by decide) (by omega)).mp q
        omega
  · have hm1 := hm.frm hM hF
    obtain ⟨l, ol⟩ := hm1.obM
    have key : ∀ u' p', u' < cnt → nI u = nI u' → p' ≤ 40 → nI p = nI p' → u = u' ∧ p = p' := fun u' p' x1 x2 x3 x4 => ⟨(nI_eq (by omega) (by omega)).mp x2, (nI_eq (by omega) (by omega)).mp x4⟩
    have nob : ¬ ((∀ v, v < cnt → nI u ≠ nI v) ∨ nI p < 1 ∨ 40 < nI p) := fun q0 => by
      rcases q0 with q | q | q
      · exact absurd rfl (q u hu)
      · have : p < 1 := (nI_ltI (by omega) (by decide)).mp q
        omega
      · have : 40 < p := (nI_ltI (by decide) (by omega)).mp q
        omega
    rcases h1 with ⟨he, rfl, q3⟩ | ⟨q, D, he, rfl, q3⟩
    · refine ⟨_, l, rfl, ol, Calls.mono (T_quots hFF hFL hm1) (fun r2 τ2 h2 => ?_)⟩
      obtain ⟨f1, ⟨w0, -⟩ | ⟨u', p', x1, x2, xa, x3, x4, h2⟩⟩ := h2
      · exact absurd w0 nob
      · obtain ⟨a1, a2⟩ := key u' p' x1 x2 x3 x4
        subst a1 a2
        rcases h2 with ⟨-, rfl, w3⟩ | ⟨q, D, he2, -⟩
        · exact ⟨rfl, hM, cnt, kd, fs, sn, A, B, hd, tl, td, lo, hi, qc, qs, 0, q3.mfr hM f1, w3, ht⟩
        · rw [he] at he2; cases he2
    · refine ⟨_, l, rfl, ol, Calls.mono (T_quots hFF hFL hm1) (fun r2 τ2 h2 => ?_)⟩
      obtain ⟨f1, ⟨w0, -⟩ | ⟨u', p', x1, x2, xa, x3, x4, h2⟩⟩ := h2
      · exact absurd w0 nob
      · obtain ⟨a1, a2⟩ := key u' p' x1 x2 x3 x4
        subst a1 a2
        rcases h2 with ⟨he2, -⟩ | ⟨q', D', he2, rfl, w3⟩
        · rw [he] at he2; cases he2
        · rw [he] at he2
          cases he2
          exact ⟨rfl, hM, cnt, kd, fs, sn, A, B, hd, tl, td, lo, hi, p, _, q, q3.mfr hM f1, w3, ht⟩
end pairs
