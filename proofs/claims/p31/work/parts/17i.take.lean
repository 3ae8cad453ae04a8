/-! ===== the tail closed, a value taken in, a value changed ===== -/
theorem s_ix (x : Int32) {n : Nat} (hn : n < 2 ^ 31) : (∃ j, j < n ∧ x = nI j) ∨ (x < nI 0 ∨ nI n ≤ x) := by
  rcases pk_ix x hn with h | h | h
  · exact Or.inr (Or.inl (by rw [nI_0]; exact h))
  · exact Or.inr (Or.inr h)
  · exact Or.inl h
theorem s_ix2 (x : Int32) {n : Nat} (hn : n + 1 < 2 ^ 31) : (∃ j, j ≤ n ∧ x = nI j) ∨ (x < nI 0 ∨ nI n < x) := by
  rcases s_ix x hn with ⟨j, hj, e⟩ | h | h
  · exact Or.inl ⟨j, by omega, e⟩
  · exact Or.inr (Or.inl h)
  · exact Or.inr (Or.inr (Int32.lt_of_lt_of_le (nI_lt (Nat.lt_succ_self n) hn) h))
def s_ctp (σ : s_S) : s_S := s_upd (s_upd (s_upd σ (7 + σ 0) (σ 1)) 0 (σ 0 + 1)) 1 0
/-- the tail closed -/
def s_ct (σ : s_S) : s_S := s_wa (s_ctp σ) (σ 0)
def s_pt (σ : s_S) (v : Nat) : s_S := s_upd (s_upd σ (43 + s_tot σ) v) 1 (σ 1 + 1)
/-- a value taken in -/
def s_put (σ : s_S) (v : Nat) : s_S := if σ 1 + 1 < σ 3 then s_pt σ v else s_ct (s_pt σ v)
def s_can (σ : s_S) : Prop := σ 0 < 12 ∨ σ 1 + 1 < σ 3
/-- s_ok with up to 16 values of the tail -/
def s_ok6 (σ : s_S) : Prop := σ 0 ≤ 12 ∧ σ 1 ≤ 16 ∧ (∀ b, b < σ 0 → 1 ≤ s_len σ b ∧ s_len σ b ≤ 16 ∧ s_frm σ b ≤ 4 ∧ s_rom σ b ≤ 1000) ∧ (∀ k, k < s_tot σ → s_val σ k ≤ 999) ∧ 1 ≤ σ 2 ∧ σ 2 ≤ 16 ∧ 2 ≤ σ 3 ∧ σ 3 ≤ 16 ∧ σ 4 ≤ 31 ∧ σ 4 % 2 = 1
theorem s_ok_6 {σ : s_S} (h : s_ok σ) : s_ok6 σ := ⟨h.1, Nat.le_succ_of_le h.2.1, h.2.2⟩
theorem s_6_ok {σ : s_S} (h : s_ok6 σ) (h1 : σ 1 ≤ 15) : s_ok σ := ⟨h.1, h1, h.2.2⟩
theorem s_ctp_0 (σ : s_S) : s_ctp σ 0 = σ 0 + 1 := by
  unfold s_ctp
  rw [s_upd_n (by decide), s_upd_s]
theorem s_ctp_1 (σ : s_S) : s_ctp σ 1 = 0 := s_upd_s _ _ _
theorem s_ctp_o {σ : s_S} {k : Nat} (h0 : k ≠ 0) (h1 : k ≠ 1) (h2 : k ≠ 7 + σ 0) : s_ctp σ k = σ k := by
  unfold s_ctp
  rw [s_upd_n h1, s_upd_n h0, s_upd_n h2]
theorem s_ctp_len {σ : s_S} {b : Nat} : s_len (s_ctp σ) b = if b = σ 0 then σ 1 else s_len σ b := by
  unfold s_len s_ctp
  rw [s_upd_n (by omega), s_upd_n (by omega)]
  by_cases h : b = σ 0
  · rw [if_pos h, h, s_upd_s]
  · rw [if_neg h, s_upd_n (by omega)]
theorem s_ctp_tot (σ : s_S) : s_tot (s_ctp σ) = s_tot σ := by
  have e : s_sum (s_len (s_ctp σ)) (σ 0) = s_sum (s_len σ) (σ 0) := s_sum_congr _ (fun i hi => by rw [s_ctp_len, if_neg (by omega)])
  show s_sum (s_len (s_ctp σ)) (s_ctp σ 0) + s_ctp σ 1 = s_sum (s_len σ) (σ 0) + σ 1
  rw [s_ctp_0, s_ctp_1, s_sum, s_ctp_len, if_pos rfl, e, Nat.add_zero]
theorem s_ctp_ok {σ : s_S} (h : s_ok6 σ) (h1 : 1 ≤ σ 1) (h12 : σ 0 < 12) : s_oke (s_ctp σ) (fun c => c = σ 0) := by
  obtain ⟨k0, k1, k3, k4, k5⟩ := h
  unfold s_oke
  rw [s_ctp_0, s_ctp_1, s_ctp_tot, s_ctp_o (k := 2) (by decide) (by decide) (by omega), s_ctp_o (k := 3) (by decide) (by decide) (by omega), s_ctp_o (k := 4) (by decide) (by decide) (by omega)]
  refine ⟨by omega, by decide, fun b hb => ?_, fun b hb hE => ?_, fun k hk => ?_, k5⟩
  · rw [s_ctp_len]
    by_cases hc : b = σ 0
    · rw [if_pos hc]
      exact ⟨h1, k1⟩
    · rw [if_neg hc]
      have := k3 b (by omega)
      exact ⟨this.1, this.2.1⟩
  · unfold s_frm s_rom
    rw [s_ctp_o (by omega) (by omega) (by omega), s_ctp_o (by omega) (by omega) (by omega)]
    exact (k3 b (by omega)).2.2
  · unfold s_val
    rw [s_ctp_o (by omega) (by omega) (by omega)]
    exact k4 k hk
theorem s_ct_ok {σ : s_S} (h : s_ok6 σ) (h1 : 1 ≤ σ 1) (h12 : σ 0 < 12) : s_ok (s_ct σ) :=
  (s_oke_0 (fun b z => z.2 z.1)).mp (s_wa_ok (s_ctp_ok h h1 h12) (by rw [s_ctp_0]; omega))
theorem s_ct_tot {σ : s_S} (h12 : σ 0 < 12) : s_tot (s_ct σ) = s_tot σ := by
  unfold s_ct
  rw [s_wa_tot h12 (by rw [s_ctp_0]; omega), s_ctp_tot]
theorem s_ctp_rep {m : ml_M} {σ : s_S} (h0 : σ 0 < 12) (h : RepC m 2 σ) : RepCe (ml_s (ml_s m 4 (σ 0) (nI (σ 1))) 2 6 (nI (σ 0 + 1))) 2 (s_ctp σ) (fun c => c = σ 0) := by
  obtain ⟨g5, g6, g7, g8, g1, g2, g3, g4, gs⟩ := h
  unfold RepCe
  rw [s_ctp_0, s_ctp_tot, s_ctp_o (k := 5) (by decide) (by decide) (by omega), s_ctp_o (k := 6) (by decide) (by decide) (by omega)]
  refine ⟨?_, ?_, ?_, ?_, fun k hk => ?_, fun b hb => ?_, fun b hb hE => ?_, fun b hb hE => ?_, fun k hk => ?_⟩
  · rw [ml_s_k (by decide), ml_s_a (by decide), g5]
  · rw [ml_s_s]
  · rw [ml_s_k (by decide), ml_s_a (by decide), g7]
  · rw [ml_s_k (by decide), ml_s_a (by decide), g8]
  · rw [ml_s_a (by decide), ml_s_a (by decide), g1 k hk]
    unfold s_val
    rw [s_ctp_o (by omega) (by omega) (by omega)]
  · rw [ml_s_a (by decide), s_ctp_len]
    by_cases hc : b = σ 0
    · rw [if_pos hc, hc, ml_s_s]
    · rw [if_neg hc, ml_s_k hc]
      exact g2 b (by omega)
  · rw [ml_s_a (by decide), ml_s_a (by decide)]
    unfold s_frm
    rw [s_ctp_o (by omega) (by omega) (by omega)]
    exact g3 b (by omega)
  · rw [ml_s_a (by decide), ml_s_a (by decide)]
    unfold s_rom
    rw [s_ctp_o (by omega) (by omega) (by omega)]
    exact g4 b (by omega)
  · rw [ml_s_a (by decide), ml_s_a (by decide), s_ctp_o (by omega) (by omega) (by omega)]
    exact gs k hk
theorem s_pt_o {σ : s_S} {v k : Nat} (h1 : k ≠ 1) (h2 : k < 43) : s_pt σ v k = σ k := by
  unfold s_pt
  rw [s_upd_n h1, s_upd_n (by omega)]
theorem s_pt_1 (σ : s_S) (v : Nat) : s_pt σ v 1 = σ 1 + 1 := s_upd_s _ _ _
theorem s_pt_len {σ : s_S} {v b : Nat} (hb : b < 12) : s_len (s_pt σ v) b = s_len σ b := s_pt_o (by omega) (by omega)
theorem s_pt_val (σ : s_S) (v k : Nat) : s_val (s_pt σ v) k = if k = s_tot σ then v else s_val σ k := by
  unfold s_val s_pt
  rw [s_upd_n (by omega)]
  by_cases h : k = s_tot σ
  · rw [if_pos h, h, s_upd_s]
  · rw [if_neg h, s_upd_n (by omega)]
theorem s_pt_tot {σ : s_S} (v : Nat) (h : σ 0 ≤ 12) : s_tot (s_pt σ v) = s_tot σ + 1 := by
  have e : s_sum (s_len (s_pt σ v)) (σ 0) = s_sum (s_len σ) (σ 0) := s_sum_congr _ (fun i hi => s_pt_len (by omega))
  show s_sum (s_len (s_pt σ v)) (s_pt σ v 0) + s_pt σ v 1 = s_sum (s_len σ) (σ 0) + σ 1 + 1
  rw [s_pt_o (by decide) (by decide), s_pt_1, e]
  omega
theorem s_pt_ok {σ : s_S} {v : Nat} (h : s_ok σ) (hv : v ≤ 999) : s_ok6 (s_pt σ v) := by
  obtain ⟨k0, k1, k3, k4, k5⟩ := h
  unfold s_ok6
  rw [s_pt_1, s_pt_tot v k0, s_pt_o (k := 0) (by decide) (by decide), s_pt_o (k := 2) (by decide) (by decide), s_pt_o (k := 3) (by decide) (by decide), s_pt_o (k := 4) (by decide) (by decide)]
  refine ⟨k0, by omega, fun b hb => ?_, fun k hk => ?_, k5⟩
  · unfold s_len s_frm s_rom
    rw [s_pt_o (by omega) (by omega), s_pt_o (by omega) (by omega), s_pt_o (by omega) (by omega)]
    exact k3 b hb
  · rw [s_pt_val]
    split
    · exact hv
    · exact k4 k (by omega)
theorem s_can_tot {σ : s_S} (h : s_ok σ) (hc : s_can σ) : s_tot σ ≤ 206 := by
  have h1 := s_sum_le (f := s_len σ) (c := 16) (σ 0) (fun i hi => (h.2.2.1 i hi).2.1)
  have h2 := h.1
  have h3 := h.2.1
  have h4 := h.2.2.2.2.2.2.2.1
  unfold s_tot
  rcases hc with hc | hc <;> omega
theorem s_put_ok {σ : s_S} {v : Nat} (h : s_ok σ) (hv : v ≤ 999) (hc : s_can σ) : s_ok (s_put σ v) := by
  have h3 := h.2.2.2.2.2.2.2.1
  unfold s_put
  by_cases c : σ 1 + 1 < σ 3
  · rw [if_pos c]
    exact s_6_ok (s_pt_ok h hv) (by rw [s_pt_1]; omega)
  · rw [if_neg c]
    refine s_ct_ok (s_pt_ok h hv) (by rw [s_pt_1]; omega) ?_
    rw [s_pt_o (by decide) (by decide)]
    exact hc.resolve_right c
theorem s_put_tot {σ : s_S} {v : Nat} (h : s_ok σ) (hc : s_can σ) : s_tot (s_put σ v) = s_tot σ + 1 := by
  unfold s_put
  by_cases c : σ 1 + 1 < σ 3
  · rw [if_pos c, s_pt_tot v h.1]
  · rw [if_neg c, s_ct_tot (by rw [s_pt_o (by decide) (by decide)]; exact hc.resolve_right c), s_pt_tot v h.1]
theorem s_pt_rep {m : ml_M} {σ : s_S} {v : Nat} (h0 : s_ok σ) (h : RepC m 2 σ) : RepC (ml_s (ml_s m 3 (s_tot σ) (nI v)) 2 5 (nI (s_tot σ + 1))) 2 (s_pt σ v) := by
  have k0 := h0.1
  obtain ⟨g5, g6, g7, g8, g1, g2, g3, g4, gs⟩ := h
  unfold RepC
  rw [s_pt_tot v k0, s_pt_o (k := 0) (by decide) (by decide), s_pt_o (k := 5) (by decide) (by decide), s_pt_o (k := 6) (by decide) (by decide)]
  refine ⟨?_, ?_, ?_, ?_, fun k hk => ?_, fun b hb => ?_, fun b hb => ?_, fun b hb => ?_, fun k hk => ?_⟩
  · rw [ml_s_s]
  · rw [ml_s_k (by decide), ml_s_a (by decide), g6]
  · rw [ml_s_k (by decide), ml_s_a (by decide), g7]
  · rw [ml_s_k (by decide), ml_s_a (by decide), g8]
  · rw [ml_s_a (by decide), s_pt_val]
    by_cases hc : k = s_tot σ
    · rw [if_pos hc, hc, ml_s_s]
    · rw [if_neg hc, ml_s_k hc]
      exact g1 k (by omega)
  · rw [ml_s_a (by decide), ml_s_a (by decide), s_pt_len (by omega)]
    exact g2 b hb
  · rw [ml_s_a (by decide), ml_s_a (by decide)]
    unfold s_frm
    rw [s_pt_o (by omega) (by omega)]
    exact g3 b hb
  · rw [ml_s_a (by decide), ml_s_a (by decide)]
    unfold s_rom
    rw [s_pt_o (by omega) (by omega)]
    exact g4 b hb
  · rw [ml_s_a (by decide), ml_s_a (by decide), s_pt_o (by omega) (by omega)]
    exact gs k hk
section SPI
variable {Ln : Nat} {xs : Nat → Int32} {u : mj_U} {m : ml_M} {lm : ml_J} {Φ : mj_R → mj_W → Prop} {σ : s_S} {v k b : Nat} {x y : Int32}
theorem sp82_t (hv : v ≤ 999) : wp Ln xs 82 0 [.int (nI v)] [] (u, ml_h m lm) Φ = Φ (.inl (some (.int (nI 1)))) (u, ml_h m lm) := by
  simp (disch := omega) only [nI_leI, nI_ltI, nI_eq, nI_add, pk_sub, pk_mul, if_pos, if_neg, mk_v, mk_n, Nat.reduceAdd, Nat.reduceMul, Nat.reduceSub, Nat.reduceLT, Nat.reduceLeDiff, Nat.reduceEqDiff, if_true, if_false, not_true_eq_false, not_false_eq_true, Nat.add_zero, Nat.zero_add, x82_0, x82_4, x82_11, x82_15]
theorem sp82_f (h : x < nI 0 ∨ nI 999 < x) : wp Ln xs 82 0 [.int x] [] (u, ml_h m lm) Φ = Φ (.inl (some (.int (nI 0)))) (u, ml_h m lm) := by
  rw [x82_0, x82_4, x82_15]
  by_cases h0 : x < nI 0
  · rw [if_pos h0]
  · rw [if_neg h0, if_pos (h.resolve_left h0)]
theorem sp31_t (hv : v < 3) : wp Ln xs 31 0 [.int (nI v)] [] (u, ml_h m lm) Φ = Φ (.inl (some (.int (nI 1)))) (u, ml_h m lm) := by
  simp (disch := omega) only [nI_leI, nI_ltI, nI_eq, nI_add, pk_sub, pk_mul, if_pos, if_neg, mk_v, mk_n, Nat.reduceAdd, Nat.reduceMul, Nat.reduceSub, Nat.reduceLT, Nat.reduceLeDiff, Nat.reduceEqDiff, if_true, if_false, not_true_eq_false, not_false_eq_true, Nat.add_zero, Nat.zero_add, x31_0, x31_4, x31_9, x31_13]
theorem sp31_f (h : x < nI 0 ∨ nI 3 ≤ x) : wp Ln xs 31 0 [.int x] [] (u, ml_h m lm) Φ = Φ (.inl (some (.int (nI 0)))) (u, ml_h m lm) := by
  rw [x31_0, x31_4, x31_13]
  by_cases h0 : x < nI 0
  · rw [if_pos h0]
  · rw [if_neg h0, if_pos (h.resolve_left h0)]
theorem spct (h0 : s_ok6 σ) (h1 : 1 ≤ σ 1) (h12 : σ 0 < 12) (h : RepC m 2 σ) : ∃ m1 m2, RepC m2 2 (s_ct σ) ∧ (∀ a, a < 2 ∨ (7 < a ∧ a < 58) ∨ 60 < a → m2 a = m a) ∧ m1 2 6 = nI (σ 0 + 1) ∧ (∀ Φ : mj_R → mj_W → Prop, wp Ln xs 98 0 [.ref 2, mj_hole] [] (u, ml_h m lm) Φ = Φ (.inl none) (u, ml_h m1 lm)) ∧ ∀ Φ : mj_R → mj_W → Prop, wp Ln xs 18 0 [.ref 1, .int (nI (σ 0))] [] (u, ml_h m1 lm) Φ = Φ (.inl none) (u, ml_h m2 lm) := by
  obtain ⟨m2, r2, fr, e⟩ := sp18 (Ln := Ln) (xs := xs) (u := u) (lm := lm) (s_ctp_ok h0 h1 h12) (s_ctp_rep h12 h) (b := σ 0) (by rw [s_ctp_0]; omega)
  refine ⟨_, m2, (RepCe_0 (fun b z => z.2 z.1)).mp r2, fun a ha => by rw [fr a ha, ml_s_row (by omega), ml_s_row (by omega)], ml_s_s _ _ _ _, fun Φ => ?_, e⟩
  obtain ⟨g5, g6, g7, g8, g1, g2, g3, g4, gs⟩ := h
  rw [sp98 (f := s_len σ) h12 g6 g5 g2 (s_sum_tot σ), s_tot_sub]
theorem sp97 (h0 : s_ok σ) (hv : v ≤ 999) (hc : s_can σ) (h : RepC m 2 σ) : ∃ m', RepC m' 2 (s_put σ v) ∧ (∀ a, a < 2 ∨ (7 < a ∧ a < 58) ∨ 60 < a → m' a = m a) ∧ ∀ Φ : mj_R → mj_W → Prop, wp Ln xs 97 0 [.ref 1, .int (nI v)] [] (u, ml_h m lm) Φ = Φ (.inl none) (u, ml_h m' lm) := by
  have hT := s_can_tot h0 hc
  have r1 := s_pt_rep (v := v) h0 h
  have o6 := s_pt_ok (v := v) h0 hv
  have g5 := h.1
  have gs : m 7 1 = nI (σ 3) := h.2.2.2.2.2.2.2.2 1 (by decide)
  have k3 := h0.2.2.2.2.2.2.1
  have k3b := h0.2.2.2.2.2.2.2.1
  have k1 := h0.2.1
  have q0 : s_pt σ v 0 = σ 0 := s_pt_o (by decide) (by decide)
  have q23 : ∀ (m' : ml_M) (Φ : mj_R → mj_W → Prop), RepC m' 2 (s_pt σ v) → wp Ln xs 36 0 [.ref 2] [] (u, ml_h m' lm) Φ = Φ (.inl (some (.int (nI (σ 1 + 1))))) (u, ml_h m' lm) := fun m' Φ r => by
    obtain ⟨z5, z6, z7, z8, z1, z2, z3, z4, zs⟩ := r
    rw [sp36 (f := s_len (s_pt σ v)) (by rw [q0]; exact h0.1) z6 z5 z2 (s_sum_tot _), s_tot_sub, s_pt_1]
  unfold s_put
  by_cases c : σ 1 + 1 < σ 3
  · rw [if_pos c]
    refine ⟨_, r1, fun a ha => by rw [ml_s_row (by omega), ml_s_row (by omega)], fun Φ => ?_⟩
    rw [x97_0, g5, put_3 (by omega), mk_n, x97_18, ml_s_a (by decide), g5, nI_add, q23 _ _ r1, mk_v, x97_38, sp33 (by decide), mk_v, x97_46, ml_s_a (by decide), ml_s_a (by decide), gs, if_pos (nI_lt c (by omega)), x97_69]
  · rw [if_neg c]
    obtain ⟨m1, m2, r2, fr, e6, e1, e2⟩ := spct (Ln := Ln) (xs := xs) (u := u) (lm := lm) o6 (by rw [s_pt_1]; omega) (by rw [q0]; exact hc.resolve_right c) r1
    refine ⟨m2, r2, fun a ha => by rw [fr a ha, ml_s_row (by omega), ml_s_row (by omega)], fun Φ => ?_⟩
    rw [q0] at e6 e2
    rw [x97_0, g5, put_3 (by omega), mk_n, x97_18, ml_s_a (by decide), g5, nI_add, q23 _ _ r1, mk_v, x97_38, sp33 (by decide), mk_v, x97_46, ml_s_a (by decide), ml_s_a (by decide), gs, if_neg (nI_nlt (by omega) (by omega)), x97_49, e1, mk_n, x97_56, e6, pk_sub (by omega), Nat.add_sub_cancel, e2, mk_n, x97_69]
end SPI
