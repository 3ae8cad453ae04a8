/-! ===== sizeShare and meanBits ===== -/
theorem s_wg_b {σ : s_S} (h0 : s_ok σ) (hT : s_tot σ ≠ 0) : 7 ≤ s_wg σ ∧ s_wg σ < 2 ^ 14 := by
  have h1 := s_sum_le (f := s_rom σ) (c := 1000) (σ 0) (fun i hi => (h0.2.2.1 i hi).2.2.2)
  have h2 := h0.1
  have h3 := h0.2.1
  have h4 : σ 0 ≠ 0 ∨ σ 1 ≠ 0 := by
    rcases Nat.eq_zero_or_pos (σ 0) with k | k
    · right
      intro k1
      apply hT
      unfold s_tot
      rw [k, k1]
      rfl
    · left
      omega
  unfold s_wg
  omega
theorem nI_int {n : Nat} (h : n < 2 ^ 31) : (nI n).toInt = n := Int32.toInt_ofNat_of_lt h
theorem fd_i2d {n : Nat} (h1 : 0 < n) (h2 : n < 2 ^ 14) : ∃ c q, fl_D (FP.i2d (nI n)) c q ∧ -52 ≤ q ∧ q ≤ -38 := by
  obtain ⟨c, q, e, e1, e2⟩ := fl_int fl_64 (i := (nI n).toInt) (K := 13) (by rw [nI_int (by omega)]; omega) (by rw [nI_int (by omega)]; omega) (by decide) (by decide)
  refine ⟨c, q, ?_, by omega, by omega⟩
  show fl_N _ _ _ (UInt64.ofNat (FP.Core.fromInt FP.Core.b64 (nI n).toInt)).toNat _ _
  rw [fd_of e]
  exact e
theorem ff_i2f {n : Nat} (h1 : 0 < n) (h2 : n < 2 ^ 14) : ∃ c q, fl_F (FP.i2f (nI n)) c q ∧ -23 ≤ q ∧ q ≤ -9 := by
  obtain ⟨c, q, e, e1, e2⟩ := fl_int fl_32 (i := (nI n).toInt) (K := 13) (by rw [nI_int (by omega)]; omega) (by rw [nI_int (by omega)]; omega) (by decide) (by decide)
  refine ⟨c, q, ?_, by omega, by omega⟩
  show fl_N _ _ _ (UInt32.ofNat (FP.Core.fromInt FP.Core.b32 (nI n).toInt)).toNat _ _
  rw [ff_of e]
  exact e
theorem fd_quo {a b : Nat} (h1 : 0 < a) (h2 : a < 2 ^ 14) (h3 : 0 < b) (h4 : b < 2 ^ 14) : ∃ c q, fl_D (FP.ddiv (FP.i2d (nI a)) (FP.i2d (nI b))) c q ∧ -132 ≤ q ∧ q ≤ 28 := by
  obtain ⟨c, q, e, e1, e2⟩ := fd_i2d h1 h2
  obtain ⟨c', q', e', e1', e2'⟩ := fd_i2d h3 h4
  obtain ⟨d, r, f, f1, f2⟩ := fl_quo fl_64 e e' (by omega) (by omega)
  refine ⟨d, r, ?_, by omega, by omega⟩
  show fl_N _ _ _ (UInt64.ofNat (FP.Core.div FP.Core.b64 _ _)).toNat _ _
  rw [fd_of f]
  exact f
theorem ff_quo {a b : Nat} (h1 : 0 < a) (h2 : a < 2 ^ 14) (h3 : 0 < b) (h4 : b < 2 ^ 14) : ∃ c q, fl_F (FP.fdiv (FP.i2f (nI a)) (FP.i2f (nI b))) c q ∧ -83 ≤ q ∧ q ≤ 37 := by
  obtain ⟨c, q, e, e1, e2⟩ := ff_i2f h1 h2
  obtain ⟨c', q', e', e1', e2'⟩ := ff_i2f h3 h4
  obtain ⟨d, r, f, f1, f2⟩ := fl_quo fl_32 e e' (by omega) (by omega)
  refine ⟨d, r, ?_, by omega, by omega⟩
  show fl_N _ _ _ (UInt32.ofNat (FP.Core.div FP.Core.b32 _ _)).toNat _ _
  rw [ff_of f]
  exact f
theorem fd_ten {n : Nat} (h : n < 208) : FP.dmul 4621819117588971520 (FP.i2d (nI n)) = FP.i2d (nI (10 * n)) := (by decide +kernel : ∀ n, n < 208 → FP.dmul 4621819117588971520 (FP.i2d (nI n)) = FP.i2d (nI (10 * n))) n h
def s_shv (σ : s_S) : UInt64 := if s_tot σ = 0 then FP.dconst1 else FP.ddiv (FP.i2d (nI (s_wg σ))) (FP.i2d (nI (10 * s_tot σ)))
def s_mnv (σ : s_S) : UInt32 := if s_tot σ = 0 then FP.fconst0 else FP.fdiv (FP.i2f (nI (s_wg σ))) (FP.i2f (nI (s_tot σ)))
theorem s_shv_D {σ : s_S} (h0 : s_ok σ) : ∃ c q, fl_D (s_shv σ) c q ∧ -132 ≤ q ∧ q ≤ 28 := by
  unfold s_shv
  have hT := s_tot_le h0
  split
  · exact ⟨2 ^ 52, -52, ⟨by decide, by decide, by decide, by decide, by decide +kernel⟩, by decide, by decide⟩
  · next h =>
    have hw := s_wg_b h0 h
    exact fd_quo (by omega) (by omega) (by omega) (by omega)
theorem s_mnv_F {σ : s_S} (h0 : s_ok σ) (h : s_tot σ ≠ 0) : ∃ c q, fl_F (s_mnv σ) c q ∧ -83 ≤ q ∧ q ≤ 37 := by
  unfold s_mnv
  have hT := s_tot_le h0
  have hw := s_wg_b h0 h
  rw [if_neg h]
  exact ff_quo (by omega) (by omega) (by omega) (by omega)
section SHARE
variable {Ln : Nat} {xs : Nat → Int32} {u : mj_U} {m : ml_M} {lm : ml_J} {Φ : mj_R → mj_W → Prop} {σ : s_S}
theorem sp52 (h0 : s_ok σ) (h : RepC m 2 σ) : wp Ln xs 52 0 [.ref 1] [] (u, ml_h m lm) Φ = Φ (.inl (some (.double (s_shv σ)))) (u, ml_h m lm) := by
  have hT := s_tot_le h0
  rw [x52_0, h.1]
  unfold s_shv
  by_cases k : s_tot σ = 0
  · rw [k, if_neg (fun z => z rfl), x52_10, if_pos rfl]
  · have hw := s_wg_b h0 k
    obtain ⟨c, q, e, e1, e2⟩ := fd_quo (a := s_wg σ) (b := 10 * s_tot σ) (by omega) (by omega) (by omega) (by omega)
    obtain ⟨c', q', e', e1', e2'⟩ := fd_i2d (n := 10 * s_tot σ) (by omega) (by omega)
    have hk : ¬ nI (s_tot σ) = nI 0 := fun z => k ((nI_eq (by omega) (by decide)).mp z)
    rw [if_pos hk, x52_12, sp37 h0 h, mk_v, if_neg k]
    have e3 := fd_ten (n := s_tot σ) (by omega)
    rw [x52_16 (by rw [h.1, e3]; exact fd_nan e') (by rw [h.1, e3]; exact fd_nan e), h.1, e3]
theorem sp53 (h0 : s_ok σ) (h : RepC m 2 σ) : wp Ln xs 53 0 [.ref 1] [] (u, ml_h m lm) Φ = Φ (.inl (some (.float (s_mnv σ)))) (u, ml_h m lm) := by
  have hT := s_tot_le h0
  rw [x53_0, h.1]
  unfold s_mnv
  by_cases k : s_tot σ = 0
  · rw [k, if_neg (fun z => z rfl), x53_10, if_pos rfl]
  · have hw := s_wg_b h0 k
    obtain ⟨c, q, e, e1, e2⟩ := ff_quo (a := s_wg σ) (b := s_tot σ) (by omega) (by omega) (by omega) (by omega)
    have hk : ¬ nI (s_tot σ) = nI 0 := fun z => k ((nI_eq (by omega) (by decide)).mp z)
    rw [if_pos hk, x53_12, sp37 h0 h, mk_v, if_neg k]
    rw [x53_16 (by rw [h.1]; exact ff_nan e), h.1]
end SHARE
