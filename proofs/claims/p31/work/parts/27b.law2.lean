/-! ===== p31's law: a block ===== -/
theorem q_lk {σ : s_S} {b i : Nat} (h0 : s_ok σ) (hb : b < σ 0) (hi : i < s_len σ b) : 1 ≤ s_lk σ (s_sum (s_len σ) b + i) ∧ s_lk σ (s_sum (s_len σ) b + i) ≤ 16 := by
  have hl := h0.2.2.1 b hb
  have h1 := s_rn_le (s_blf σ b) (i + 1)
  have h2 := q_rn_pos (s_blf σ b) i
  unfold s_lk
  rw [q_bk hb hi, Nat.add_sub_cancel_left]
  split
  · omega
  · split
    · omega
    · split
      · omega
      · split <;> omega
theorem q_lk_t {σ : s_S} {k : Nat} (h : s_sum (s_len σ) (σ 0) ≤ k) : s_lk σ k = 1 := by
  unfold s_lk
  rw [if_pos (q_bk_t h)]
section LW2
variable {Ln : Nat} {xs : Nat → Int32} {u : mj_U} {m : ml_M} {lm : ml_J} {Ψ : mj_R → mj_W → Prop} {σ τ : s_S} {n t k b w p q v : Nat} {ss : Nat → s_S} {x2 x3 : Int32}
theorem k58_a (h0 : s_ok σ) (hb : b < σ 0) (g : ∀ m', HD m' σ n ss t τ → wp Ln xs 58 44 [.ref 1, .int (nI b), .int x2, .int x3, .int (nI (s_sum (s_len σ) b)), .int (nI b), mj_hole] [] (u, ml_h m' lm) Ψ) : ∀ (d k : Nat) (m : ml_M), k + d = b → HD m σ n ss t τ → wp Ln xs 58 20 [.ref 1, .int (nI b), .int x2, .int x3, .int (nI (s_sum (s_len σ) k)), .int (nI k), mj_hole] [] (u, ml_h m lm) Ψ
  | 0, k, m, e, hm => by
    have k0 := h0.1
    obtain rfl : k = b := by omega
    rw [x58_20, if_pos (by rw [nI_leI (by omega) (by omega)]; omega)]
    exact g m hm
  | d + 1, k, m, e, hm => by
    have k0 := h0.1
    rw [x58_20, if_neg (by rw [nI_leI (by omega) (by omega)]; omega)]
    rw [x58_26]
    refine k56_1 h0 hm (by omega) fun m hm => ?_
    rw [mk_v, x58_35, nI_add, nI_add]
    exact k58_a h0 hb g d (k + 1) m (by omega) hm
theorem k58_b (h0 : s_ok σ) (hb : b < σ 0) (g : ∀ m', HD m' σ n ss t τ → Ψ (.inl (some (.int (nI 1)))) (u, ml_h m' lm)) : ∀ (d i : Nat) (m : ml_M), i + d = s_len σ b → HD m σ n ss t τ → wp Ln xs 58 243 [.ref 1, .int (nI b), .int (nI (s_len σ b)), .int x3, .int (nI (s_sum (s_len σ) b)), .int (nI 1), .int (nI i)] [] (u, ml_h m lm) Ψ
  | 0, i, m, e, hm => by
    have hl := h0.2.2.1 b hb
    obtain rfl : i = s_len σ b := by omega
    by_cases c1 : s_len σ b = 1
    · have hs := q_bs1 c1
      rw [x58_243, if_pos (by rw [nI_leI (by omega) (by omega)]; omega)]
      rw [x58_363, if_neg (by decide)]
      rw [x58_368]
      refine k77 h0 hm hb fun m hm => ?_
      rw [mk_v, hs]
      rw [x58_373, if_neg ((fun z => z rfl))]
      rw [x58_377, x58_382, if_neg (by rw [nI_eq (by omega) (by omega)]; omega)]
      rw [x58_387, x58_392, if_neg (fun z => z rfl)]
      rw [x58_395]
      exact g m hm
    · have hs := q_bs (σ := σ) (b := b) (by omega)
      have hm1 : s_m1 (s_bs σ b) = nI (s_bs σ b) := if_neg (by omega)
      rw [x58_243, if_pos (by rw [nI_leI (by omega) (by omega)]; omega)]
      rw [x58_363, if_neg (by decide)]
      rw [x58_368]
      refine k77 h0 hm hb fun m hm => ?_
      rw [mk_v, hm1]
      rw [x58_373, if_pos (s_nm1 (by omega))]
      rw [x58_381, x58_382, if_pos (by rw [nI_eq (by omega) (by omega)]; omega)]
      rw [x58_391, x58_392, if_neg (fun z => z rfl)]
      rw [x58_395]
      exact g m hm
  | d + 1, i, m, e, hm => by
    have k0 := h0.1
    have hl := h0.2.2.1 b hb
    have hT := s_tot_le h0
    have hend := s_end_le hb
    have hi : i < s_len σ b := by omega
    have hk : s_sum (s_len σ) b + i < s_tot σ := by omega
    have hbk := q_bk hb hi
    have hlk := q_lk h0 hb hi
    have hv := h0.2.2.2.1 _ hk
    have hlo : s_lo (s_blf σ b) (s_len σ b) ≤ s_val σ (s_sum (s_len σ) b + i) := s_lo_p (f := s_blf σ b) _ i hi
    have hhi : s_val σ (s_sum (s_len σ) b + i) ≤ s_hi (s_blf σ b) (s_len σ b) := s_hi_p (f := s_blf σ b) _ i hi
    have hh := q_lohi h0 hb
    rw [x58_243, if_neg (by rw [nI_leI (by omega) (by omega)]; omega)]
    rw [x58_249, if_neg (by decide)]
    rw [x58_254, nI_add]
    refine k72_1 h0 hm hk fun m hm => ?_
    rw [mk_v, hbk, if_neg (show ¬ b = σ 0 by omega)]
    rw [x58_264, if_neg (fun z => z rfl)]
    rw [x58_268, nI_add]
    refine k72_2 h0 hm hk fun m hm => ?_
    rw [mk_v, hbk, Nat.add_sub_cancel_left]
    rw [x58_278, if_neg (fun z => z rfl)]
    rw [x58_283, nI_add]
    refine k72_0 h0 hm hk fun m hm => ?_
    rw [mk_v, x58_293]
    refine k56_4 h0 hm hb fun m hm => ?_
    rw [mk_v, x58_299, if_neg (by rw [nI_ltI (by omega) (by omega)]; omega)]
    rw [x58_302, nI_add]
    refine k72_0 h0 hm hk fun m hm => ?_
    rw [mk_v, x58_312]
    refine k56_5 h0 hm hb fun m hm => ?_
    rw [mk_v, x58_318, if_neg (by rw [nI_ltI (by omega) (by omega)]; omega)]
    rw [x58_321, nI_add]
    refine k72_3 h0 hm hk fun m hm => ?_
    rw [mk_v, x58_331, if_neg (by rw [nI_ltI (by omega) (by omega)]; omega)]
    rw [x58_335, nI_add]
    refine k72_3 h0 hm hk fun m hm => ?_
    rw [mk_v, x58_345, if_neg (by rw [nI_ltI (by omega) (by omega)]; omega)]
    rw [x58_350, x58_355, nI_add]
    exact k58_b h0 hb g d (i + 1) m (by omega) hm
theorem k58 (h0 : s_ok σ) (hm : HD m σ n ss t τ) (hJ : q_J σ q_n) (hb : b < σ 0) (g : ∀ m', HD m' σ n ss t τ → Ψ (.inl (some (.int (nI 1)))) (u, ml_h m' lm)) : wp Ln xs 58 0 [.ref 1, .int (nI b), mj_hole, mj_hole, mj_hole, mj_hole, mj_hole] [] (u, ml_h m lm) Ψ := by
  have k0 := h0.1
  have hl := h0.2.2.1 b hb
  have hv := s_blf_le (s_oke_of (fun _ => False) h0) hb
  have hj := hJ b hb (fun z => z)
  have h10 : 10 ≤ s_ub σ b := q_sz_10 hl.1
  have hz4 : 4 + s_un (s_blf σ b) (s_len σ b) * 10 + s_len σ b * s_wd (s_un (s_blf σ b) (s_len σ b) - 1) ≤ 1000 := s_sz_le (fo := 4) hl.2.1 hl.1 hv
  have hun : 0 < s_un (s_blf σ b) (s_len σ b) := by
    have := s_un_pos (s_blf σ b) (s_len σ b - 1)
    rwa [show s_len σ b - 1 + 1 = s_len σ b by omega] at this
  have hur := q_un_rn (s_blf σ b) (s_len σ b)
  have hrn := s_rn_le (s_blf σ b) (s_len σ b)
  have hlh := s_lo_hi (s_blf σ b) (s_len σ b)
  have hh := q_lohi h0 hb
  have hbn := q_bits_n (σ := σ) (b := b) hl.1
  have h01 := q_bits_01 σ b
  have hy1 := h01 (s_ub σ b - 1) (by omega)
  have hy0 := h01 0 (by omega)
  have hpk := q_pk_al (b := b) h0
  rw [x58_0]
  refine k56_1 h0 hm hb fun m hm => ?_
  rw [mk_v, x58_6]
  refine k56_2 h0 hm hb fun m hm => ?_
  rw [mk_v, x58_13]
  refine k58_a h0 hb (fun m hm => ?_) b 0 m (by omega) hm
  rw [x58_44, if_neg (by rw [nI_ltI (by omega) (by omega)]; omega)]
  rw [x58_49, if_neg (by rw [nI_ltI (by omega) (by omega)]; omega)]
  rw [x58_55]
  refine k56_0 h0 hm hb fun m hm => ?_
  rw [mk_v, x58_64]
  refine k59 h0 hm hb hl.2.2.1 fun m hm => ?_
  rw [mk_v, x58_67, if_neg (fun z => z rfl)]
  rw [x58_70]
  refine k56_3 h0 hm hb fun m hm => ?_
  rw [mk_v, x58_77, if_neg (by rw [nI_ltI (by omega) (by omega)]; omega)]
  rw [x58_80]
  refine k59_0 h0 hm hb fun m hm => ?_
  rw [mk_v, x58_86, if_neg (fun z => z (by rw [pk_mul, Nat.mul_comm]))]
  rw [x58_93]
  refine k59_2 h0 hm hb fun m hm => ?_
  rw [mk_v, x58_99]
  refine k56_6 h0 hm hb fun m hm => ?_
  rw [mk_v, x58_108, if_neg (fun z => z (by rw [pk_mul, Nat.mul_comm]))]
  rw [x58_112]
  refine k59_4 h0 hm hb fun m hm => ?_
  rw [mk_v, x58_118, if_neg (by rw [nI_ltI (by omega) (by omega)]; omega)]
  rw [x58_123]
  refine k56_6 h0 hm hb fun m hm => ?_
  rw [mk_v, x58_130]
  refine k56_7 h0 hm hb fun m hm => ?_
  rw [mk_v, x58_137, if_neg (by rw [nI_ltI (by omega) (by omega)]; omega)]
  rw [x58_140]
  refine k56_4 h0 hm hb fun m hm => ?_
  rw [mk_v, x58_146]
  refine k56_5 h0 hm hb fun m hm => ?_
  rw [mk_v, x58_152, if_neg (by rw [nI_ltI (by omega) (by omega)]; omega)]
  rw [x58_155]
  refine k56_9 h0 hm hb fun m hm => ?_
  rw [mk_v, x58_162, if_neg (fun z => z rfl)]
  rw [x58_167]
  refine k56_8 h0 hm hb fun m hm => ?_
  rw [mk_v, x58_175]
  refine k60 h0 hm hpk.1 fun m hm => ?_
  rw [mk_v, if_pos hpk.2]
  rw [x58_178, if_neg (by decide)]
  rw [x58_181, x58_186, if_neg (by decide)]
  rw [x58_193]
  refine k62 h0 hm hb (by omega) fun m hm => ?_
  rw [mk_v, if_neg (show ¬ s_ub σ b < (s_bits σ b).1 by omega)]
  rw [x58_199, if_neg (fun z => z rfl)]
  rw [x58_203, pk_sub (show 1 ≤ s_ub σ b by omega)]
  refine k62 h0 hm hb (by omega) fun m hm => ?_
  rw [mk_v, if_pos (show s_ub σ b - 1 < (s_bits σ b).1 by omega)]
  rw [x58_211, if_neg (by rw [nI_ltI (by omega) (by omega)]; omega)]
  rw [x58_214]
  refine k62 h0 hm hb (by omega) fun m hm => ?_
  rw [mk_v, if_pos (show 0 < (s_bits σ b).1 by omega)]
  rw [x58_220, if_neg (by rw [nI_ltI (by omega) (by omega)]; omega)]
  rw [x58_223]
  refine k62 h0 hm hb (by omega) fun m hm => ?_
  rw [mk_v, if_pos (show 0 < (s_bits σ b).1 by omega)]
  rw [x58_229, if_neg (by rw [nI_leI (by omega) (by omega)]; omega)]
  rw [x58_233, x58_238]
  exact k58_b h0 hb g (s_len σ b) 0 m (by omega) hm
end LW2
