/-! ===== p31's law: matching, and all that holds ===== -/
theorem q_m1 (k : Nat) : nI k + (-1) = nI k - nI 1 := by
  rw [Int32.sub_eq_add_neg]
  congr 1
theorem q_mc_s (p q : Nat) (f : Nat → Nat) (k : Nat) : s_sum (s_mc p q f) (k + 1) = s_sum (s_mc p q f) k + s_iw p q (f k) := rfl
section LW3
variable {Ln : Nat} {xs : Nat → Int32} {u : mj_U} {m : ml_M} {lm : ml_J} {Ψ : mj_R → mj_W → Prop} {σ τ : s_S} {n t k b w p q v : Nat} {ss : Nat → s_S} {x1 x2 x3 x4 x5 x6 x7 x8 : Int32}
theorem k80_l (h0 : s_ok σ) (hp : p ≤ 999) (hq : q ≤ 999) (g : ∀ m' v6, HD m' σ n ss t τ → wp Ln xs 80 81 [.ref 1, .int (nI p), .int (nI q), .int (nI (s_sum (s_mc p q (s_val σ)) (s_tot σ))), .int (s_n1 (s_tot σ) (s_mf p q (s_val σ) (s_tot σ) 0)), .int (nI 0 - nI 1), v6] [] (u, ml_h m' lm) Ψ) : ∀ (k d : Nat) (m : ml_M) (v6 : Value), k + d = s_tot σ → HD m σ n ss t τ → wp Ln xs 80 14 [.ref 1, .int (nI p), .int (nI q), .int (nI (s_sum (s_mc p q (s_val σ)) (s_tot σ) - s_sum (s_mc p q (s_val σ)) k)), .int (s_n1 (s_tot σ) (s_mf p q (s_val σ) d k)), .int (nI k - nI 1), v6] [] (u, ml_h m lm) Ψ
  | 0, d, m, v6, e, hm => by
    obtain rfl : d = s_tot σ := by omega
    have e0 : s_sum (s_mc p q (s_val σ)) 0 = 0 := rfl
    rw [e0, Nat.sub_zero]
    rw [x80_14, if_pos (by decide)]
    exact g m v6 hm
  | k + 1, d, m, v6, e, hm => by
    have hT := s_tot_le h0
    have hk : k < s_tot σ := by omega
    have hv := h0.2.2.2.1 k hk
    have hmono := s_sum_mono (f := s_mc p q (s_val σ)) (show k + 1 ≤ s_tot σ by omega)
    have hs := q_mc_s p q (s_val σ) k
    rw [pk_sub (show 1 ≤ k + 1 by omega), Nat.add_sub_cancel]
    by_cases c : p ≤ s_val σ k ∧ s_val σ k ≤ q
    · have hi : s_iw p q (s_val σ k) = 1 := if_pos c
      have hf : s_mf p q (s_val σ) (d + 1) k = k := if_pos c
      have ih := fun m v6 hm => k80_l h0 hp hq g k (d + 1) m v6 (by omega) hm
      have hn : s_n1 (s_tot σ) k = nI k := if_neg (by omega)
      rw [hf, hn] at ih
      have hc := c.1
      have hc2 := c.2
      rw [x80_14, if_neg (by rw [nI_ltI (by omega) (by omega)]; omega)]
      rw [x80_19]
      refine k72_0 h0 hm hk fun m hm => ?_
      rw [mk_v, x80_26, if_neg (by rw [nI_ltI (by omega) (by omega)]; omega)]
      rw [x80_30]
      refine k72_0 h0 hm hk fun m hm => ?_
      rw [mk_v, x80_37, if_neg (by rw [nI_ltI (by omega) (by omega)]; omega)]
      rw [x80_41, x80_46, if_neg (by decide)]
      rw [x80_54, x80_59, if_neg (by decide)]
      rw [x80_66, x80_73, q_m1, nI_add]
      rw [show s_sum (s_mc p q (s_val σ)) (s_tot σ) - s_sum (s_mc p q (s_val σ)) (k + 1) + 1 = s_sum (s_mc p q (s_val σ)) (s_tot σ) - s_sum (s_mc p q (s_val σ)) k by omega]
      exact ih m _ hm
    · have hi : s_iw p q (s_val σ k) = 0 := if_neg c
      have hf : s_mf p q (s_val σ) (d + 1) k = s_mf p q (s_val σ) d (k + 1) := if_neg c
      have ih := fun m v6 hm => k80_l h0 hp hq g k (d + 1) m v6 (by omega) hm
      rw [hf] at ih
      have eS : s_sum (s_mc p q (s_val σ)) (s_tot σ) - s_sum (s_mc p q (s_val σ)) (k + 1) = s_sum (s_mc p q (s_val σ)) (s_tot σ) - s_sum (s_mc p q (s_val σ)) k := by omega
      rw [eS]
      by_cases c1 : s_val σ k < p
      · rw [x80_14, if_neg (by rw [nI_ltI (by omega) (by omega)]; omega)]
        rw [x80_19]
        refine k72_0 h0 hm hk fun m hm => ?_
        rw [mk_v, x80_26, if_pos (by rw [nI_ltI (by omega) (by omega)]; omega)]
        rw [x80_45, x80_46, if_pos (rfl)]
        rw [x80_58, x80_59, if_pos (rfl)]
        rw [x80_71, x80_73, q_m1, nI_add, Nat.add_zero]
        exact ih m _ hm
      · rw [x80_14, if_neg (by rw [nI_ltI (by omega) (by omega)]; omega)]
        rw [x80_19]
        refine k72_0 h0 hm hk fun m hm => ?_
        rw [mk_v, x80_26, if_neg (by rw [nI_ltI (by omega) (by omega)]; omega)]
        rw [x80_30]
        refine k72_0 h0 hm hk fun m hm => ?_
        rw [mk_v, x80_37, if_pos (by rw [nI_ltI (by omega) (by omega)]; omega)]
        rw [x80_45, x80_46, if_pos (rfl)]
        rw [x80_58, x80_59, if_pos (rfl)]
        rw [x80_71, x80_73, q_m1, nI_add, Nat.add_zero]
        exact ih m _ hm
theorem k80 (h0 : s_ok σ) (hm : HD m σ n ss t τ) (hp : p ≤ 999) (hq : q ≤ 999) (g : ∀ m', HD m' σ n ss t τ → Ψ (.inl (some (.int (nI 1)))) (u, ml_h m' lm)) : wp Ln xs 80 0 [.ref 1, .int (nI p), .int (nI q), mj_hole, mj_hole, mj_hole, mj_hole] [] (u, ml_h m lm) Ψ := by
  have hT := s_tot_le h0
  have k0 := h0.1
  have k1 := h0.2.1
  have hlo := q_ls_lo σ p q
  have hhi := q_ls_hi h0 p q
  rw [x80_0]
  refine k34_0 h0 hm fun m hm => ?_
  rw [mk_v, x80_10]
  have e0 : s_sum (s_mc p q (s_val σ)) (s_tot σ) - s_sum (s_mc p q (s_val σ)) (s_tot σ) = 0 := Nat.sub_self _
  have e1 : s_n1 (s_tot σ) (s_mf p q (s_val σ) 0 (s_tot σ)) = -1 := if_pos rfl
  have h := k80_l (Ln := Ln) (xs := xs) (u := u) (lm := lm) (Ψ := Ψ) (n := n) (ss := ss) (t := t) (τ := τ) h0 hp hq (fun m v6 hm => by
    rw [x80_81]
    refine k81_0 h0 hm hp hq fun m hm => ?_
    rw [mk_v, x80_88, if_neg (fun z => z rfl)]
    rw [x80_92]
    refine k81_1 h0 hm hp hq fun m hm => ?_
    rw [mk_v, x80_99, if_neg (fun z => z rfl)]
    rw [x80_103]
    refine k81_3 h0 hm hp hq fun m hm => ?_
    rw [mk_v, x80_110, if_neg (fun z => z rfl)]
    rw [x80_115]
    refine k81_2 h0 hm hp hq fun m hm => ?_
    rw [mk_v, x80_122]
    refine k34_1 h0 hm fun m hm => ?_
    rw [mk_v, x80_127]
    refine k34_2 h0 hm fun m hm => ?_
    rw [mk_v, x80_132, nI_add, if_neg (by rw [nI_ltI (by omega) (by omega)]; omega)]
    rw [x80_136]
    refine k81_2 h0 hm hp hq fun m hm => ?_
    rw [mk_v, x80_143]
    refine k34_0 h0 hm fun m hm => ?_
    rw [mk_v, x80_148]
    refine k34_1 h0 hm fun m hm => ?_
    rw [mk_v, x80_155, pk_mul, nI_add, if_neg (by rw [nI_ltI (by omega) (by omega)]; omega)]
    rw [x80_160]
    exact g m hm) (s_tot σ) 0 m mj_hole rfl hm
  rw [e0, e1] at h
  exact h
theorem k55_a (h0 : s_ok σ) (hJ : q_J σ q_n) (g : ∀ m', HD m' σ n ss t τ → wp Ln xs 55 80 [.ref 1, .int x1, .int (nI (s_sum (s_rom σ) (σ 0))), .int (nI (s_sum (s_rom σ) (σ 0)) - nI (s_sum (s_ub σ) (σ 0))), .int (nI (s_sum (s_len σ) (σ 0))), .int (nI 0), .int (nI (σ 0)), mj_hole, mj_hole] [] (u, ml_h m' lm) Ψ) : ∀ (d b : Nat) (m : ml_M), b + d = σ 0 → HD m σ n ss t τ → wp Ln xs 55 13 [.ref 1, .int x1, .int (nI (s_sum (s_rom σ) b)), .int (nI (s_sum (s_rom σ) b) - nI (s_sum (s_ub σ) b)), .int (nI (s_sum (s_len σ) b)), .int (nI 0), .int (nI b), mj_hole, mj_hole] [] (u, ml_h m lm) Ψ
  | 0, b, m, e, hm => by
    have k0 := h0.1
    obtain rfl : b = σ 0 := by omega
    rw [x55_13]
    refine k34_1 h0 hm fun m hm => ?_
    rw [mk_v, x55_20, if_pos (by rw [nI_leI (by omega) (by omega)]; omega)]
    exact g m hm
  | d + 1, b, m, e, hm => by
    have k0 := h0.1
    have hb : b < σ 0 := by omega
    rw [x55_13]
    refine k34_1 h0 hm fun m hm => ?_
    rw [mk_v, x55_20, if_neg (by rw [nI_leI (by omega) (by omega)]; omega)]
    rw [x55_23]
    refine k56_3 h0 hm hb fun m hm => ?_
    rw [mk_v, x55_31]
    refine k56_3 h0 hm hb fun m hm => ?_
    rw [mk_v, x55_41]
    refine k56_2 h0 hm hb fun m hm => ?_
    rw [mk_v, x55_48]
    refine k56_1 h0 hm hb fun m hm => ?_
    rw [mk_v, x55_60]
    refine k58 h0 hm hJ hb fun m hm => ?_
    rw [mk_v, x55_69, if_pos (by decide)]
    rw [x55_74, s_sub4, nI_add, nI_add, nI_add, nI_add]
    exact k55_a h0 hJ g d (b + 1) m (by omega) hm
theorem k55_b (h0 : s_ok σ) (g : ∀ m', HD m' σ n ss t τ → wp Ln xs 55 157 [.ref 1, .int x1, .int x2, .int x3, .int (nI (s_sum (s_len σ) (σ 0))), .int (nI (s_sum (s_val σ) (s_tot σ))), .int (nI (s_tot σ)), mj_hole, mj_hole] [] (u, ml_h m' lm) Ψ) : ∀ (d k : Nat) (m : ml_M), k + d = s_tot σ → HD m σ n ss t τ → wp Ln xs 55 83 [.ref 1, .int x1, .int x2, .int x3, .int (nI (s_sum (s_len σ) (σ 0))), .int (nI (s_sum (s_val σ) k)), .int (nI k), mj_hole, mj_hole] [] (u, ml_h m lm) Ψ
  | 0, k, m, e, hm => by
    have hT := s_tot_le h0
    obtain rfl : k = s_tot σ := by omega
    rw [x55_83]
    refine k34_0 h0 hm fun m hm => ?_
    rw [mk_v, x55_90, if_pos (by rw [nI_leI (by omega) (by omega)]; omega)]
    exact g m hm
  | d + 1, k, m, e, hm => by
    have hT := s_tot_le h0
    have hV := s_sum_tot σ
    have hk : k < s_tot σ := by omega
    by_cases c : k < s_sum (s_len σ) (σ 0)
    · rw [x55_83]
      refine k34_0 h0 hm fun m hm => ?_
      rw [mk_v, x55_90, if_neg (by rw [nI_leI (by omega) (by omega)]; omega)]
      rw [x55_93]
      refine k72_0 h0 hm hk fun m hm => ?_
      rw [mk_v, x55_102, if_pos (by rw [nI_ltI (by omega) (by omega)]; omega)]
      rw [x55_151, nI_add, nI_add]
      exact k55_b h0 g d (k + 1) m (by omega) hm
    · have c2 : s_sum (s_len σ) (σ 0) ≤ k := by omega
      rw [x55_83]
      refine k34_0 h0 hm fun m hm => ?_
      rw [mk_v, x55_90, if_neg (by rw [nI_leI (by omega) (by omega)]; omega)]
      rw [x55_93]
      refine k72_0 h0 hm hk fun m hm => ?_
      rw [mk_v, x55_102, if_neg (by rw [nI_ltI (by omega) (by omega)]; omega)]
      rw [x55_112]
      refine k72_1 h0 hm hk fun m hm => ?_
      rw [mk_v, q_bk_t c2, if_pos rfl]
      rw [x55_119, if_neg (fun z => z rfl)]
      rw [x55_123]
      refine k72_2 h0 hm hk fun m hm => ?_
      rw [mk_v, q_bk_t c2]
      rw [x55_130, if_neg (fun z => z (pk_sub c2).symm)]
      rw [x55_138]
      refine k72_3 h0 hm hk fun m hm => ?_
      rw [mk_v, q_lk_t c2]
      rw [x55_145, if_pos (rfl)]
      rw [x55_151, nI_add, nI_add]
      exact k55_b h0 g d (k + 1) m (by omega) hm
theorem k55 (h0 : s_ok σ) (hm : HD m σ n ss t τ) (hJ : q_J σ q_n) (g : ∀ m', HD m' σ n ss t τ → Ψ (.inl (some (.int (nI 1)))) (u, ml_h m' lm)) : wp Ln xs 55 0 [.ref 1, .int x1, mj_hole, mj_hole, mj_hole, mj_hole, mj_hole, mj_hole, mj_hole] [] (u, ml_h m lm) Ψ := by
  have hT := s_tot_le h0
  have k0 := h0.1
  have k1 := h0.2.1
  obtain ⟨K1, K2, K3, K4, K5⟩ := q_K h0
  obtain ⟨p, hp, ep⟩ := sp79 (Ln := Ln) (xs := xs) x1 (N := 1000) (by decide) (by decide)
  obtain ⟨q, hq, eq⟩ := sp79 (Ln := Ln) (xs := xs) (x1 >>> (nI 9 &&& 31)) (N := 1000) (by decide) (by decide)
  obtain ⟨c, r, hD, _, _⟩ := s_shv_D h0
  have hgt : ¬ Op.cmpValue (FP.dcmp (s_shv σ) FP.dconst0) .l ≤ nI 0 := by
    rw [fd_gt0 hD]
    decide
  have hp9 : p ≤ 999 := by omega
  have hq9 : q ≤ 999 := by omega
  rw [x55_0]
  have z0 : nI (s_sum (s_rom σ) 0) - nI (s_sum (s_ub σ) 0) = nI 0 := by
    show nI 0 - nI 0 = nI 0
    decide
  refine Eq.mp (congrArg (fun z => wp Ln xs 55 13 [.ref 1, .int x1, .int (nI 0), .int z, .int (nI 0), .int (nI 0), .int (nI 0), mj_hole, mj_hole] [] (u, ml_h m lm) Ψ) z0) (k55_a h0 hJ (fun m hm => ?_) (σ 0) 0 m (by omega) hm)
  rw [x55_80]
  refine k55_b h0 (fun m hm => ?_) (s_tot σ) 0 m (by omega) hm
  rw [x55_157]
  refine k34_0 h0 hm fun m hm => ?_
  rw [mk_v, x55_162]
  refine k34_2 h0 hm fun m hm => ?_
  rw [mk_v, x55_169, if_neg (fun z => z (by rw [nI_add]; rfl))]
  rw [x55_173]
  refine k34_1 h0 hm fun m hm => ?_
  rw [mk_v, x55_178, if_neg (by rw [nI_ltI (by omega) (by omega)]; omega)]
  rw [x55_183]
  refine k34_2 h0 hm fun m hm => ?_
  rw [mk_v, x55_188, if_neg (by rw [nI_ltI (by omega) (by omega)]; omega)]
  rw [x55_193]
  refine k34_3 h0 hm fun m hm => ?_
  rw [mk_v, x55_198]
  refine k34_1 h0 hm fun m hm => ?_
  rw [mk_v, x55_206]
  refine k34_2 h0 hm fun m hm => ?_
  rw [mk_v, x55_215, if_neg (fun z => z (by rw [pk_mul, pk_mul, nI_add, nI_add]; rfl))]
  rw [x55_220]
  refine k34_6 h0 hm fun m hm => ?_
  rw [mk_v, x55_226, if_neg (fun z => z rfl)]
  rw [x55_230]
  refine k34_7 h0 hm fun m hm => ?_
  rw [mk_v, x55_236, if_neg (fun z => z rfl)]
  rw [x55_241]
  refine k52 h0 hm fun m hm => ?_
  rw [mk_v, x55_245, if_neg (hgt)]
  rw [x55_250, x55_255, ep, mk_v]
  rw [x55_264, eq, mk_v]
  rw [x55_276, if_neg (by decide)]
  rw [x55_283]
  refine k80 h0 hm hp9 hq9 fun m hm => ?_
  rw [mk_v, x55_291, if_neg (by decide)]
  rw [x55_294]
  refine k80 h0 hm hq9 hp9 fun m hm => ?_
  rw [mk_v, x55_302, if_neg (by decide)]
  rw [x55_305]
  refine k80 h0 hm hp9 hp9 fun m hm => ?_
  rw [mk_v, x55_313, if_neg (by decide)]
  rw [x55_316]
  refine k81_0 h0 hm (by decide) (by decide) fun m hm => ?_
  rw [mk_v, q_mc_all h0]
  rw [x55_325]
  refine k34_0 h0 hm fun m hm => ?_
  rw [mk_v, x55_330, if_neg (fun z => z rfl)]
  rw [x55_333]
  refine k81_2 h0 hm (by decide) (by decide) fun m hm => ?_
  rw [mk_v, q_ls_all h0]
  rw [x55_342]
  refine k34_1 h0 hm fun m hm => ?_
  rw [mk_v, x55_347]
  refine k34_2 h0 hm fun m hm => ?_
  rw [mk_v, x55_352, if_neg (fun z => z (nI_add _ _).symm)]
  rw [x55_356, x55_361, if_neg (by decide)]
  rw [x55_368]
  refine k44_0 h0 hm fun m hm => ?_
  rw [mk_v, x55_373]
  refine k44_1 h0 hm fun m hm => ?_
  rw [mk_v, x55_378, if_neg (fun z => z rfl)]
  by_cases cT : s_tot σ = 0
  · have cK := K2.mpr cT
    rw [x55_381]
    refine k44_2 h0 hm fun m hm => ?_
    rw [mk_v, x55_386, if_neg (fun z => z (by rw [cK]))]
    rw [x55_389, x55_394]
    refine k34_0 h0 hm fun m hm => ?_
    rw [mk_v, x55_399, if_neg (fun z => z (by rw [cT]))]
    rw [x55_402, x55_407, if_neg (fun z => z rfl)]
    rw [x55_410]
    refine k44_2 h0 hm fun m hm => ?_
    rw [mk_v, x55_417]
    refine k34_0 h0 hm fun m hm => ?_
    rw [mk_v, x55_423, pk_mul, if_neg (by rw [nI_ltI (by omega) (by omega)]; omega)]
    rw [x55_426]
    refine k44_0 h0 hm fun m hm => ?_
    rw [mk_v, x55_431]
    refine k44_2 h0 hm fun m hm => ?_
    rw [mk_v, x55_438, pk_mul, if_neg (by rw [nI_ltI (by omega) (by omega)]; omega)]
    rw [x55_442]
    refine k44_0 h0 hm fun m hm => ?_
    rw [mk_v, x55_447]
    refine k34_0 h0 hm fun m hm => ?_
    rw [mk_v, x55_454, pk_mul, if_neg (by rw [nI_ltI (by omega) (by omega)]; omega)]
    rw [x55_458]
    exact g m hm
  · have cK : ¬ s_K σ % 1000 = 0 := fun z => cT (K2.mp z)
    rw [x55_381]
    refine k44_2 h0 hm fun m hm => ?_
    rw [mk_v, x55_386, if_pos (by rw [nI_eq (by omega) (by omega)]; omega)]
    rw [x55_393, x55_394]
    refine k34_0 h0 hm fun m hm => ?_
    rw [mk_v, x55_399, if_pos (by rw [nI_eq (by omega) (by omega)]; omega)]
    rw [x55_406, x55_407, if_neg (fun z => z rfl)]
    rw [x55_410]
    refine k44_2 h0 hm fun m hm => ?_
    rw [mk_v, x55_417]
    refine k34_0 h0 hm fun m hm => ?_
    rw [mk_v, x55_423, pk_mul, if_neg (by rw [nI_ltI (by omega) (by omega)]; omega)]
    rw [x55_426]
    refine k44_0 h0 hm fun m hm => ?_
    rw [mk_v, x55_431]
    refine k44_2 h0 hm fun m hm => ?_
    rw [mk_v, x55_438, pk_mul, if_neg (by rw [nI_ltI (by omega) (by omega)]; omega)]
    rw [x55_442]
    refine k44_0 h0 hm fun m hm => ?_
    rw [mk_v, x55_447]
    refine k34_0 h0 hm fun m hm => ?_
    rw [mk_v, x55_454, pk_mul, if_neg (by rw [nI_ltI (by omega) (by omega)]; omega)]
    rw [x55_458]
    exact g m hm
end LW3
