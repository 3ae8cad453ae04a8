/-! ===== the calls that change: write, close, change, anew ===== -/
theorem s_10 : ¬ nI 1 = nI 0 := by decide
/-- the class but for its Column -/
def RepX (m : ml_M) (n : Nat) (ss : Nat → s_S) (t : Nat) (τ : s_S) (tl : Nat) (tx : Nat → Nat) : Prop := RepH m n ss ∧ m 1 2 = nI t ∧ (t = 1 → RepC m 8 τ) ∧ m 52 1 = nI tl ∧ ∀ k, k < tl → m 53 k = nI (tx k)
def s_nx (n : Nat) : Nat := if n = 6 then 6 else n + 1
theorem RepH_of {m m' : ml_M} {n : Nat} {ss : Nat → s_S} (h : RepH m n ss) (e : ∀ a, 14 ≤ a → a ≤ 51 → m' a = m a) : RepH m' n ss := by
  obtain ⟨hn, g2, o, ho, g1, hs⟩ := h
  refine ⟨hn, by rw [e 14 (by decide) (by decide)]; exact g2, o, ho, by rw [e 14 (by decide) (by decide)]; exact g1, fun j hj => ?_⟩
  have hm : (o + j) % 6 < 6 := Nat.mod_lt _ (by decide)
  exact RepC_of (hs j hj) (fun a h1 h2 => e a (by omega) (by omega))
theorem RepX_of {m m' : ml_M} {n : Nat} {ss : Nat → s_S} {t : Nat} {τ : s_S} {tl : Nat} {tx : Nat → Nat} (h : RepX m n ss t τ tl tx) (e : ∀ a, a = 1 ∨ (8 ≤ a ∧ a ≤ 53) → m' a = m a) : RepX m' n ss t τ tl tx := by
  obtain ⟨h1, h2, h3, h4, h5⟩ := h
  refine ⟨RepH_of h1 (fun a _ _ => e a (by omega)), by rw [e 1 (by omega)]; exact h2, fun ht => RepC_of (h3 ht) (fun a _ _ => e a (by omega)), by rw [e 52 (by omega)]; exact h4, fun k hk => by rw [e 53 (by omega)]; exact h5 k hk⟩
section SPK
variable {Ln : Nat} {xs : Nat → Int32} {u : mj_U} {m : ml_M} {lm : ml_J} {Φ : mj_R → mj_W → Prop} {σ τ : s_S} {n t tl v k b p : Nat} {ss : Nat → s_S} {tx : Nat → Nat} {x y : Int32}
theorem sp_push (h0 : s_ok σ) (h : RepC m 2 σ) (hx : RepX m n ss t τ tl tx) : ∃ m', RepC m' 2 σ ∧ RepX m' (s_nx n) (s_push n ss σ) t τ tl tx ∧ (∀ a, a < 14 ∨ 52 ≤ a → m' a = m a) ∧ ∀ Φ : mj_R → mj_W → Prop, wp Ln xs 12 0 [.ref 14, .ref 2, mj_hole] [] (u, ml_h m lm) Φ = Φ (.inl none) (u, ml_h m' lm) := by
  obtain ⟨h1, h2, h3, h4, h5⟩ := hx
  obtain ⟨m', r, fr, e⟩ := sp12 (Ln := Ln) (xs := xs) (u := u) (lm := lm) h0 h h1
  refine ⟨m', RepC_of h (fun a _ _ => fr a (by omega)), ⟨r, by rw [fr 1 (by omega)]; exact h2, fun ht => RepC_of (h3 ht) (fun a _ _ => fr a (by omega)), by rw [fr 52 (by omega)]; exact h4, fun k hk => by rw [fr 53 (by omega)]; exact h5 k hk⟩, fr, e⟩
theorem sp96_t (h0 : s_ok σ) (h : RepC m 2 σ) (hc : s_can σ) : wp Ln xs 96 0 [.ref 2] [] (u, ml_h m lm) Φ = Φ (.inl (some (.int (nI 1)))) (u, ml_h m lm) := by
  obtain ⟨g5, g6, g7, g8, g1, g2, g3, g4, gs⟩ := h
  have hT := s_tot_le h0
  rw [sp96 (f := s_len σ) (c := σ 3) h0.1 g6 g5 g2 (s_sum_tot σ) (by omega) (gs 1 (by decide)) (by have := h0.2.2.2.2.2.2.2.1; omega), s_tot_sub, if_pos (show σ 0 < 12 ∨ σ 1 + 1 < σ 3 from hc)]
theorem sp96_f (h0 : s_ok σ) (h : RepC m 2 σ) (hc : ¬ s_can σ) : wp Ln xs 96 0 [.ref 2] [] (u, ml_h m lm) Φ = Φ (.inl (some (.int (nI 0)))) (u, ml_h m lm) := by
  obtain ⟨g5, g6, g7, g8, g1, g2, g3, g4, gs⟩ := h
  have hT := s_tot_le h0
  rw [sp96 (f := s_len σ) (c := σ 3) h0.1 g6 g5 g2 (s_sum_tot σ) (by omega) (gs 1 (by decide)) (by have := h0.2.2.2.2.2.2.2.1; omega), s_tot_sub, if_neg (show ¬ (σ 0 < 12 ∨ σ 1 + 1 < σ 3) from hc)]
theorem sp95_a (h : x < nI 0 ∨ nI 999 < x) : wp Ln xs 95 0 [.ref 1, .int x] [] (u, ml_h m lm) Φ = Φ (.inr 0) ((u.1, u.2.1 + 1, u.2.2 + 6), ml_h m lm) := by
  rw [x95_0, sp82_f h, mk_v, x95_4, if_neg (fun z => z rfl), x95_7]
theorem sp95_s (h0 : s_ok σ) (h : RepC m 2 σ) (hv : v ≤ 999) (hc : ¬ s_can σ) : wp Ln xs 95 0 [.ref 1, .int (nI v)] [] (u, ml_h m lm) Φ = Φ (.inr 1) ((u.1, u.2.1 + 1, u.2.2 + 6), ml_h m lm) := by
  rw [x95_0, sp82_t hv, mk_v, x95_4, if_pos s_10, x95_17, sp96_f h0 h hc, mk_v, x95_24, if_neg (fun z => z rfl), x95_27]
theorem sp95_k (h0 : s_ok σ) (h : RepC m 2 σ) (hx : RepX m n ss t τ tl tx) (hv : v ≤ 999) (hc : s_can σ) : ∃ m', RepC m' 2 (s_put σ v) ∧ RepX m' (s_nx n) (s_push n ss σ) t τ tl tx ∧ (∀ a, 72 ≤ a → m' a = m a) ∧ ∀ Φ : mj_R → mj_W → Prop, wp Ln xs 95 0 [.ref 1, .int (nI v)] [] (u, ml_h m lm) Φ = Φ (.inl (some (.int (nI (s_tot σ + 1))))) (u, ml_h m' lm) := by
  obtain ⟨m1, r1, q1, f1, e1⟩ := sp_push (Ln := Ln) (xs := xs) (u := u) (lm := lm) h0 h hx
  obtain ⟨m2, r2, f2, e2⟩ := sp97 (Ln := Ln) (xs := xs) (u := u) (lm := lm) h0 hv hc r1
  refine ⟨m2, r2, RepX_of q1 (fun a ha => f2 a (by omega)), fun a ha => by rw [f2 a (by omega), f1 a (by omega)], fun Φ => ?_⟩
  rw [x95_0, sp82_t hv, mk_v, x95_4, if_pos s_10, x95_17, sp96_t h0 h hc, mk_v, x95_24, if_pos s_10, x95_37, e1, mk_n, x95_48, e2, mk_n, x95_53, r2.1, s_put_tot h0 hc]
theorem sp104_s (h0 : s_ok σ) (h : RepC m 2 σ) (hc : σ 1 = 0 ∨ σ 0 = 12) : wp Ln xs 104 0 [.ref 1] [] (u, ml_h m lm) Φ = Φ (.inr 1) ((u.1, u.2.1 + 1, u.2.2 + 6), ml_h m lm) := by
  obtain ⟨g5, g6, g7, g8, g1, g2, g3, g4, gs⟩ := h
  have k0 := h0.1
  have k1 := h0.2.1
  rw [x104_0, sp36 (f := s_len σ) k0 g6 g5 g2 (s_sum_tot σ), s_tot_sub, mk_v, x104_7]
  by_cases c : σ 1 = 0
  · rw [c, if_pos rfl, x104_22]
  · rw [if_neg (by rw [nI_eq (by omega) (by omega)]; exact c), x104_10, g6, hc.resolve_left c, if_neg (nI_nlt (Nat.le_refl _) (by decide)), x104_22]
theorem sp104_k (h0 : s_ok σ) (h : RepC m 2 σ) (hx : RepX m n ss t τ tl tx) (h1 : 1 ≤ σ 1) (hc : σ 0 < 12) : ∃ m', RepC m' 2 (s_ct σ) ∧ RepX m' (s_nx n) (s_push n ss σ) t τ tl tx ∧ (∀ a, 72 ≤ a → m' a = m a) ∧ ∀ Φ : mj_R → mj_W → Prop, wp Ln xs 104 0 [.ref 1] [] (u, ml_h m lm) Φ = Φ (.inl (some (.int (nI (s_frm (s_ct σ) (σ 0)))))) (u, ml_h m' lm) := by
  obtain ⟨m1, r1, q1, f1, e1⟩ := sp_push (Ln := Ln) (xs := xs) (u := u) (lm := lm) h0 h hx
  obtain ⟨m2, m3, r3, f3, e6, e2, e3⟩ := spct (Ln := Ln) (xs := xs) (u := u) (lm := lm) (s_ok_6 h0) h1 hc r1
  have k1 := h0.2.1
  have q0 : s_ct σ 0 = σ 0 + 1 := by
    unfold s_ct
    rw [s_wa_o (by decide) (by omega) (by omega), s_ctp_0]
  refine ⟨m3, r3, RepX_of q1 (fun a ha => f3 a (by omega)), fun a ha => by rw [f3 a (by omega), f1 a (by omega)], fun Φ => ?_⟩
  have h9 := h
  obtain ⟨g5, g6, g7, g8, g1, g2, g3, g4, gs⟩ := h9
  have z6 := r3.2.1
  rw [q0] at z6
  rw [x104_0, sp36 (f := s_len σ) h0.1 g6 g5 g2 (s_sum_tot σ), s_tot_sub, mk_v, x104_7, if_neg (by rw [nI_eq (by omega) (by omega)]; omega), x104_10, g6, if_pos (nI_lt hc (by decide)), x104_32, e1, mk_n, x104_43, e2, mk_n, x104_50, e6, pk_sub (by omega), Nat.add_sub_cancel, e3, mk_n, x104_63, z6, pk_sub (by omega), Nat.add_sub_cancel, sp42 hc, mk_v, r3.2.2.2.2.2.2.1 (σ 0) (by rw [q0]; omega), x104_79]
theorem sp103_i (h : RepC m 2 σ) (hi : x < nI 0 ∨ nI (s_tot σ) ≤ x) : wp Ln xs 103 0 [.ref 1, .int x, .int y, mj_hole] [] (u, ml_h m lm) Φ = Φ (.inr 2) ((u.1, u.2.1 + 1, u.2.2 + 6), ml_h m lm) := by
  rw [x103_0, sp73_f h.1 hi, mk_v, x103_8, if_neg (fun z => z rfl), x103_11]
theorem sp103_a (h0 : s_ok σ) (h : RepC m 2 σ) (hk : k < s_tot σ) (hy : y < nI 0 ∨ nI 999 < y) : wp Ln xs 103 0 [.ref 1, .int (nI k), .int y, mj_hole] [] (u, ml_h m lm) Φ = Φ (.inr 0) ((u.1, u.2.1 + 1, u.2.2 + 6), ml_h m lm) := by
  have hT := s_tot_le h0
  rw [x103_0, sp73_t h.1 (by omega) hk, mk_v, x103_8, if_pos s_10, x103_21, sp82_f hy, mk_v, x103_25, if_neg (fun z => z rfl), x103_28]
theorem s_cv_rep (h0 : s_ok σ) (h : RepC m 2 σ) : RepC (ml_s m 3 k (nI v)) 2 (s_cv σ k v) := by
  obtain ⟨g5, g6, g7, g8, g1, g2, g3, g4, gs⟩ := h
  have k0 := h0.1
  unfold RepC
  rw [s_cv_tot k0, s_cv_o (j := 0) (by decide), s_cv_o (j := 5) (by decide), s_cv_o (j := 6) (by decide)]
  refine ⟨?_, ?_, ?_, ?_, fun j hj => ?_, fun b hb => ?_, fun b hb => ?_, fun b hb => ?_, fun j hj => ?_⟩
  · rw [ml_s_a (by decide), g5]
  · rw [ml_s_a (by decide), g6]
  · rw [ml_s_a (by decide), g7]
  · rw [ml_s_a (by decide), g8]
  · rw [s_cv_val]
    by_cases c : j = k
    · rw [if_pos c, c, ml_s_s]
    · rw [if_neg c, ml_s_k c]
      exact g1 j hj
  · rw [ml_s_a (by decide), s_cv_len (by omega)]
    exact g2 b hb
  · rw [ml_s_a (by decide)]
    unfold s_frm
    rw [s_cv_o (by omega)]
    exact g3 b hb
  · rw [ml_s_a (by decide)]
    unfold s_rom
    rw [s_cv_o (by omega)]
    exact g4 b hb
  · rw [ml_s_a (by decide), s_cv_o (by omega)]
    exact gs j hj
theorem s_in_rep {z : Nat} (h : RepC m 2 σ) : RepC (ml_s m 2 7 (nI z)) 2 (s_upd σ 5 z) := by
  have e : ∀ k, k ≠ 5 → s_upd σ 5 z k = σ k := fun k hk => s_upd_n hk
  have el : s_len (s_upd σ 5 z) = s_len σ := by
    funext b
    exact e _ (by omega)
  have et : s_tot (s_upd σ 5 z) = s_tot σ := by
    show s_sum (s_len (s_upd σ 5 z)) (s_upd σ 5 z 0) + s_upd σ 5 z 1 = _
    rw [el, e 0 (by decide), e 1 (by decide)]
    rfl
  obtain ⟨g5, g6, g7, g8, g1, g2, g3, g4, gs⟩ := h
  unfold RepC s_frm s_rom s_val
  rw [et, el, e 0 (by decide), e 6 (by decide), s_upd_s]
  refine ⟨?_, ?_, ml_s_s _ _ _ _, ?_, fun j hj => ?_, fun b hb => ?_, fun b hb => ?_, fun b hb => ?_, fun j hj => ?_⟩
  · rw [ml_s_k (by decide), g5]
  · rw [ml_s_k (by decide), g6]
  · rw [ml_s_k (by decide), g8]
  · rw [ml_s_a (by decide), e _ (by omega)]
    exact g1 j hj
  · rw [ml_s_a (by decide)]
    exact g2 b hb
  · rw [ml_s_a (by decide), e _ (by omega)]
    exact g3 b hb
  · rw [ml_s_a (by decide), e _ (by omega)]
    exact g4 b hb
  · rw [ml_s_a (by decide), e _ (by omega)]
    exact gs j hj
theorem sp18' (h0 : s_ok σ) (h : RepC m 2 σ) (hb : b < σ 0) : ∃ m', RepC m' 2 (s_wa σ b) ∧ (∀ a, a < 2 ∨ (7 < a ∧ a < 58) ∨ 60 < a → m' a = m a) ∧ ∀ Φ : mj_R → mj_W → Prop, wp Ln xs 18 0 [.ref 1, .int (nI b)] [] (u, ml_h m lm) Φ = Φ (.inl none) (u, ml_h m' lm) := by
  obtain ⟨m', r, f, e⟩ := sp18 (Ln := Ln) (xs := xs) (u := u) (lm := lm) (s_oke_of (fun _ => False) h0) (RepCe_of (fun _ => False) h) hb
  exact ⟨m', (RepCe_0 (fun c z => z.1)).mp r, f, e⟩
theorem sp103_k (h0 : s_ok σ) (h : RepC m 2 σ) (hx : RepX m n ss t τ tl tx) (hk : k < s_tot σ) (hv : v ≤ 999) : ∃ m', RepC m' 2 (s_rp σ k v) ∧ RepX m' (s_nx n) (s_push n ss σ) t τ tl tx ∧ (∀ a, 72 ≤ a → m' a = m a) ∧ ∀ Φ : mj_R → mj_W → Prop, wp Ln xs 103 0 [.ref 1, .int (nI k), .int (nI v), mj_hole] [] (u, ml_h m lm) Φ = Φ (.inl (some (.int (nI (s_oc σ k v))))) (u, ml_h m' lm) := by
  obtain ⟨m1, r1, q1, f1, e1⟩ := sp_push (Ln := Ln) (xs := xs) (u := u) (lm := lm) h0 h hx
  obtain ⟨m2, _, f2, e2⟩ := sp101 (Ln := Ln) (xs := xs) (u := u) (lm := lm) h0 r1 hk hv
  have hT := s_tot_le h0
  have r2 : RepC m2 2 σ := RepC_of r1 (fun a _ _ => f2 a (by omega) (by omega) (by omega))
  have r3 := s_cv_rep (k := k) (v := v) h0 r2
  have o3 := s_cv_ok (k := k) h0 hv
  have start : ∀ Φ : mj_R → mj_W → Prop, wp Ln xs 103 0 [.ref 1, .int (nI k), .int (nI v), mj_hole] [] (u, ml_h m lm) Φ = wp Ln xs 103 68 [.ref 1, .int (nI k), .int (nI v), .int (nI (s_oc σ k v))] [] (u, ml_h (ml_s m2 3 k (nI v)) lm) Φ := fun Φ => by
    rw [x103_0, sp73_t h.1 (by omega) hk, mk_v, x103_8, if_pos s_10, x103_21, sp82_t hv, mk_v, x103_25, if_pos s_10, x103_38, e1, mk_n, x103_49, e2, mk_v, x103_55, put_3 (by omega), mk_n]
  have ho := s_oc_lt σ k v
  have hoc : s_oc σ k v = 0 ∨ s_oc σ k v = 1 ∨ s_oc σ k v = 2 := by omega
  unfold s_rp
  rcases hoc with c | c | c
  · rw [c] at start ⊢
    rw [if_pos rfl]
    refine ⟨_, r3, RepX_of q1 (fun a ha => by rw [ml_s_row (by omega), f2 a (by omega) (by omega) (by omega)]), fun a ha => by rw [ml_s_row (by omega), f2 a (by omega) (by omega) (by omega), f1 a (by omega)], fun Φ => ?_⟩
    rw [start, x103_68, if_pos (by decide), x103_89, if_pos (by decide), x103_106]
  · rw [c] at start ⊢
    rw [if_neg (by decide), if_pos rfl]
    refine ⟨_, s_in_rep r3, RepX_of q1 (fun a ha => by rw [ml_s_row (by omega), ml_s_row (by omega), f2 a (by omega) (by omega) (by omega)]), fun a ha => by rw [ml_s_row (by omega), ml_s_row (by omega), f2 a (by omega) (by omega) (by omega), f1 a (by omega)], fun Φ => ?_⟩
    rw [start, x103_68, if_neg (by decide), x103_73, x103_106, r3.2.2.1, nI_add, s_cv_o (by decide)]
  · have hb : s_bk σ k < σ 0 := by
      have hl := s_bk_le σ k
      have : s_bk σ k ≠ σ 0 := fun z => by
        unfold s_oc at c
        rw [if_pos z] at c
        exact absurd c (by decide)
      omega
    obtain ⟨m4, r4, f4, e4⟩ := sp18' (Ln := Ln) (xs := xs) (u := u) (lm := lm) o3 r3 (b := s_bk σ k) (by rw [s_cv_o (by decide)]; exact hb)
    rw [c] at start ⊢
    rw [if_neg (by decide), if_neg (by decide)]
    refine ⟨m4, r4, RepX_of q1 (fun a ha => by rw [f4 a (by omega), ml_s_row (by omega), f2 a (by omega) (by omega) (by omega)]), fun a ha => by rw [f4 a (by omega), ml_s_row (by omega), f2 a (by omega) (by omega) (by omega), f1 a (by omega)], fun Φ => ?_⟩
    have e44 : ∀ Φ : mj_R → mj_W → Prop, wp Ln xs 75 0 [.ref 2, .int (nI k), mj_hole, mj_hole] [] (u, ml_h (ml_s m2 3 k (nI v)) lm) Φ = Φ (.inl (some (.int (if s_bk σ k = σ 0 then -1 else nI (s_bk σ k))))) (u, ml_h (ml_s m2 3 k (nI v)) lm) := fun Φ => sp75 (f := s_len σ) h0.1 (by rw [ml_s_a (by decide)]; exact r2.2.1) (fun i hi => by rw [ml_s_a (by decide)]; exact r2.2.2.2.2.2.1 i hi) (by have := s_sum_tot σ; omega) (by omega)
    rw [start, x103_68, if_pos (by decide), x103_89, if_neg (by decide), x103_94, e44, if_neg (by omega), mk_v, x103_103, e4, mk_n, x103_106]
theorem sp10_i (h : RepC m 2 σ) (hi : x < nI 0 ∨ nI (σ 0) ≤ x) : wp Ln xs 10 0 [.ref 1, .int x, mj_hole] [] (u, ml_h m lm) Φ = Φ (.inr 2) ((u.1, u.2.1 + 1, u.2.2 + 6), ml_h m lm) := by
  rw [x10_0, sp11_f h.2.1 hi, mk_v, x10_8, if_neg (fun z => z rfl), x10_11]
theorem sp10_k (h0 : s_ok σ) (h : RepC m 2 σ) (hx : RepX m n ss t τ tl tx) (hb : b < σ 0) : ∃ m', RepC m' 2 (s_wa σ b) ∧ RepX m' (s_nx n) (s_push n ss σ) t τ tl tx ∧ (∀ a, 72 ≤ a → m' a = m a) ∧ ∀ Φ : mj_R → mj_W → Prop, wp Ln xs 10 0 [.ref 1, .int (nI b), mj_hole] [] (u, ml_h m lm) Φ = Φ (.inl (some (.int (nI (s_rom σ b) - nI (s_rom (s_wa σ b) b))))) (u, ml_h m' lm) := by
  obtain ⟨m1, r1, q1, f1, e1⟩ := sp_push (Ln := Ln) (xs := xs) (u := u) (lm := lm) h0 h hx
  obtain ⟨m2, r2, f2, e2⟩ := sp18' (Ln := Ln) (xs := xs) (u := u) (lm := lm) h0 r1 hb
  have k0 := h0.1
  refine ⟨m2, r2, RepX_of q1 (fun a ha => f2 a (by omega)), fun a ha => by rw [f2 a (by omega), f1 a (by omega)], fun Φ => ?_⟩
  rw [x10_0, sp11_t h.2.1 k0 hb, mk_v, x10_8, if_pos s_10, x10_21, e1, mk_n, x10_32, sp16 (by omega), mk_v, x10_40, e2, mk_n, x10_46, sp16 (by omega), mk_v, x10_55, r1.2.2.2.2.2.2.2.1 b hb, r2.2.2.2.2.2.2.2.1 b (by rw [s_wa_o (by decide) (by omega) (by omega)]; exact hb)]
end SPK
