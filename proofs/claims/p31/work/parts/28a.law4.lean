/-! ===== p31's law: values written and changed ===== -/
def q_St (σ : s_S) : Prop := s_ok σ ∧ q_J σ q_n
theorem q_nx {n : Nat} (h : n ≤ 6) : s_nx n ≤ 6 := by
  unfold s_nx
  split <;> omega
section LW4
variable {Ln : Nat} {xs : Nat → Int32} {u : mj_U} {m : ml_M} {lm : ml_J} {Ψ : mj_R → mj_W → Prop} {σ τ : s_S} {n t k b w p q v : Nat} {ss : Nat → s_S} {x1 x2 x3 x4 x5 x6 x7 x8 : Int32}
theorem k93_l {N : Nat} (hN : N ≤ 6) : ∀ (d k : Nat) (σ : s_S) (n : Nat) (ss : Nat → s_S) (m : ml_M) (v4 v5 v6 v7 v8 : Value), k + d = N → q_St σ → n ≤ 6 → HD m σ n ss t τ → (∀ m' σ' n' ss', q_St σ' → s_tot σ ≤ s_tot σ' → n' ≤ 6 → HD m' σ' n' ss' t τ → Ψ (.inl (some (.int (nI 1)))) (u, ml_h m' lm)) → wp Ln xs 93 14 [.ref 1, .int x1, .int (nI N), .int (nI k), v4, v5, v6, v7, v8] [] (u, ml_h m lm) Ψ
  | 0, k, σ, n, ss, m, v4, v5, v6, v7, v8, e, hs, hn, hm, g => by
    obtain rfl : k = N := by omega
    rw [x93_14, if_pos (by rw [nI_leI (by omega) (by omega)]; omega)]
    rw [x93_156]
    exact g m σ n ss hs (Nat.le_refl _) hn hm
  | d + 1, k, σ, n, ss, m, v4, v5, v6, v7, v8, e, hs, hn, hm, g => by
    have h0 := hs.1
    have k0 := h0.1
    have k1 := h0.2.1
    have k3 := h0.2.2.2.2.2.2.2.1
    obtain ⟨v, hv, ev⟩ := sp94 (Ln := Ln) (xs := xs) (x1 >>> (nI k &&& 31))
    by_cases cl : σ 1 + 1 < σ 3
    · have hc : s_can σ := Or.inr cl
      have h1 := s_put_ok (v := v) h0 hv hc
      have hT := s_put_tot (v := v) h0 hc
      obtain ⟨e1, e0⟩ := q_put_t (v := v) cl
      rw [x93_14, if_neg (by rw [nI_leI (by omega) (by omega)]; omega)]
      rw [x93_19]
      refine k34_0 h0 hm fun m hm => ?_
      rw [mk_v, x93_24]
      refine k34_2 h0 hm fun m hm => ?_
      rw [mk_v, x93_31]
      refine k34_1 h0 hm fun m hm => ?_
      rw [mk_v, x93_38]
      refine k61_1 hm fun m hm => ?_
      rw [mk_v, x93_49, nI_add, if_pos (by rw [nI_ltI (by omega) (by omega)]; omega)]
      rw [x93_56, x93_57, if_pos (rfl)]
      rw [x93_73, ev, mk_v]
      rw [x93_79]
      refine k95 h0 hm hv hc fun m hm => ?_
      rw [mk_v, x93_87, if_neg (fun z => z (nI_add _ _).symm)]
      rw [x93_94]
      refine k72_0 h1 hm (by omega) fun m hm => ?_
      rw [mk_v, q_put_val h0 hc]
      rw [x93_101, if_neg (fun z => z rfl)]
      rw [x93_106]
      refine k34_2 h1 hm fun m hm => ?_
      rw [mk_v, x93_111, if_pos (rfl)]
      rw [x93_120, x93_124, if_neg (fun z => z (by rw [e1, nI_add]))]
      rw [x93_127]
      refine k34_1 h1 hm fun m hm => ?_
      rw [mk_v, x93_132, if_pos (rfl)]
      rw [x93_143, x93_144, if_pos (by rw [e0, nI_add, Nat.add_zero])]
      rw [x93_150, nI_add]
      exact k93_l hN d (k + 1) _ _ _ m _ _ _ _ _ (by omega) ⟨h1, q_put_J h0 hv hc hs.2⟩ (q_nx hn) hm (fun m' σ' n' ss' a b => g m' σ' n' ss' a (by omega))
    · by_cases c12 : σ 0 = 12
      · rw [x93_14, if_neg (by rw [nI_leI (by omega) (by omega)]; omega)]
        rw [x93_19]
        refine k34_0 h0 hm fun m hm => ?_
        rw [mk_v, x93_24]
        refine k34_2 h0 hm fun m hm => ?_
        rw [mk_v, x93_31]
        refine k34_1 h0 hm fun m hm => ?_
        rw [mk_v, x93_38]
        refine k61_1 hm fun m hm => ?_
        rw [mk_v, x93_49, nI_add, if_neg (by rw [nI_ltI (by omega) (by omega)]; omega)]
        rw [x93_52, x93_57, if_neg (by decide)]
        rw [x93_64, if_neg (fun z => z (by rw [c12]))]
        rw [x93_71]
        exact g m σ n ss hs (Nat.le_refl _) hn hm
      · have hc : s_can σ := Or.inl (by omega)
        have h1 := s_put_ok (v := v) h0 hv hc
        have hT := s_put_tot (v := v) h0 hc
        obtain ⟨e1, e0⟩ := q_put_c (v := v) cl (by omega)
        rw [x93_14, if_neg (by rw [nI_leI (by omega) (by omega)]; omega)]
        rw [x93_19]
        refine k34_0 h0 hm fun m hm => ?_
        rw [mk_v, x93_24]
        refine k34_2 h0 hm fun m hm => ?_
        rw [mk_v, x93_31]
        refine k34_1 h0 hm fun m hm => ?_
        rw [mk_v, x93_38]
        refine k61_1 hm fun m hm => ?_
        rw [mk_v, x93_49, nI_add, if_neg (by rw [nI_ltI (by omega) (by omega)]; omega)]
        rw [x93_52, x93_57, if_neg (by decide)]
        rw [x93_64, if_pos (by rw [nI_eq (by omega) (by omega)]; omega)]
        rw [x93_73, ev, mk_v]
        rw [x93_79]
        refine k95 h0 hm hv hc fun m hm => ?_
        rw [mk_v, x93_87, if_neg (fun z => z (nI_add _ _).symm)]
        rw [x93_94]
        refine k72_0 h1 hm (by omega) fun m hm => ?_
        rw [mk_v, q_put_val h0 hc]
        rw [x93_101, if_neg (fun z => z rfl)]
        rw [x93_106]
        refine k34_2 h1 hm fun m hm => ?_
        rw [mk_v, x93_111, if_neg (by decide)]
        rw [x93_116, x93_124, if_neg (fun z => z (by rw [e1]))]
        rw [x93_127]
        refine k34_1 h1 hm fun m hm => ?_
        rw [mk_v, x93_132, if_neg (by decide)]
        rw [x93_139, x93_144, if_pos (by rw [e0, nI_add])]
        rw [x93_150, nI_add]
        exact k93_l hN d (k + 1) _ _ _ m _ _ _ _ _ (by omega) ⟨h1, q_put_J h0 hv hc hs.2⟩ (q_nx hn) hm (fun m' σ' n' ss' a b => g m' σ' n' ss' a (by omega))
theorem k93 (hs : q_St σ) (hn : n ≤ 6) (hm : HD m σ n ss t τ) (g : ∀ m' σ' n' ss', q_St σ' → s_tot σ ≤ s_tot σ' → n' ≤ 6 → HD m' σ' n' ss' t τ → Ψ (.inl (some (.int (nI 1)))) (u, ml_h m' lm)) : wp Ln xs 93 0 [.ref 1, .int x1, mj_hole, mj_hole, mj_hole, mj_hole, mj_hole, mj_hole, mj_hole] [] (u, ml_h m lm) Ψ := by
  obtain ⟨r, hr, er⟩ := sp79 (Ln := Ln) (xs := xs) (x1 >>> (nI 13 &&& 31)) (N := 6) (by decide) (by decide)
  rw [x93_0, er, mk_v]
  rw [x93_10, nI_add]
  exact k93_l (by omega) (1 + r) 0 σ n ss m _ _ _ _ _ (by omega) hs hn hm g
theorem k99 (hs : q_St σ) (hn : n ≤ 6) (hm : HD m σ n ss t τ) (hk : k < s_tot σ) (hv : v ≤ 999) (g : ∀ m' σ' n' ss', q_St σ' → n' ≤ 6 → HD m' σ' n' ss' t τ → Ψ (.inl (some (.int (nI 1)))) (u, ml_h m' lm)) : wp Ln xs 99 0 [.ref 1, .int (nI k), .int (nI v), mj_hole, mj_hole, mj_hole, mj_hole, mj_hole, mj_hole, mj_hole, mj_hole] [] (u, ml_h m lm) Ψ := by
  have h0 := hs.1
  have k0 := h0.1
  have hT := s_tot_le h0
  have hvk := h0.2.2.2.1 k hk
  have h1 := s_rp_ok (k := k) h0 hv
  have hJ := q_rp_J (k := k) h0 hv hs.2
  obtain ⟨r1, r2, r3⟩ := q_rp_v (k := k) (v := v) h0
  obtain ⟨e5, e6⟩ := q_rp_5 (k := k) (v := v) h0
  have hk1 : k < s_tot (s_rp σ k v) := by omega
  have ho := s_oc_lt σ k v
  have hl := s_bk_le σ k
  have hoc : s_oc σ k v = 0 ∨ s_oc σ k v = 1 ∨ s_oc σ k v = 2 := by omega
  rcases hoc with c | c | c
  · have cb := q_oc_0.mp c
    rw [c, if_neg (by decide), Nat.add_zero] at e5 e6
    by_cases cv : s_val σ k = v
    · rw [x99_0]
      refine k100_0 h0 hm hk hv fun m hm => ?_
      rw [mk_v, x99_7]
      refine k100_1 h0 hm hk hv fun m hm => ?_
      rw [mk_v, x99_15]
      refine k34_3 h0 hm fun m hm => ?_
      rw [mk_v, x99_22]
      refine k34_4 h0 hm fun m hm => ?_
      rw [mk_v, x99_29]
      refine k34_5 h0 hm fun m hm => ?_
      rw [mk_v, x99_36]
      refine k72_1 h0 hm hk fun m hm => ?_
      rw [mk_v, if_pos cb]
      rw [x99_44]
      refine k72_0 h0 hm hk fun m hm => ?_
      rw [mk_v, x99_52]
      refine k103 h0 hm hk hv fun m hm => ?_
      rw [mk_v, x99_60, if_neg (fun z => z rfl)]
      rw [x99_64]
      refine k72_0 h1 hm hk1 fun m hm => ?_
      rw [mk_v, r1]
      rw [x99_70, if_neg (fun z => z rfl)]
      rw [x99_74]
      refine k34_3 h1 hm fun m hm => ?_
      rw [mk_v, x99_79, if_neg (fun z => z (q_da _ _).symm)]
      rw [x99_87]
      refine k34_4 h1 hm fun m hm => ?_
      rw [mk_v, x99_92, if_pos (by rw [c]; decide)]
      rw [x99_103, x99_104, if_neg (fun z => z (by rw [e5, nI_add, Nat.add_zero]))]
      rw [x99_108]
      refine k34_5 h1 hm fun m hm => ?_
      rw [mk_v, x99_113, if_pos (by rw [c]; decide)]
      rw [x99_124, x99_125, if_neg (fun z => z (by rw [e6, nI_add, Nat.add_zero]))]
      rw [x99_129, if_neg (fun z => z (by rw [c]))]
      rw [x99_133, x99_138, if_neg (by decide)]
      rw [x99_143, x99_148, if_neg (fun z => z rfl)]
      rw [x99_151, if_neg (fun z => z (by rw [cv]))]
      rw [x99_157, if_neg (by rw [c]; decide)]
      rw [x99_162, x99_167, if_neg (by decide)]
      rw [x99_174, if_pos (by rw [c]; decide)]
      rw [x99_214]
      exact g m _ _ _ ⟨h1, hJ⟩ (q_nx hn) hm
    · rw [x99_0]
      refine k100_0 h0 hm hk hv fun m hm => ?_
      rw [mk_v, x99_7]
      refine k100_1 h0 hm hk hv fun m hm => ?_
      rw [mk_v, x99_15]
      refine k34_3 h0 hm fun m hm => ?_
      rw [mk_v, x99_22]
      refine k34_4 h0 hm fun m hm => ?_
      rw [mk_v, x99_29]
      refine k34_5 h0 hm fun m hm => ?_
      rw [mk_v, x99_36]
      refine k72_1 h0 hm hk fun m hm => ?_
      rw [mk_v, if_pos cb]
      rw [x99_44]
      refine k72_0 h0 hm hk fun m hm => ?_
      rw [mk_v, x99_52]
      refine k103 h0 hm hk hv fun m hm => ?_
      rw [mk_v, x99_60, if_neg (fun z => z rfl)]
      rw [x99_64]
      refine k72_0 h1 hm hk1 fun m hm => ?_
      rw [mk_v, r1]
      rw [x99_70, if_neg (fun z => z rfl)]
      rw [x99_74]
      refine k34_3 h1 hm fun m hm => ?_
      rw [mk_v, x99_79, if_neg (fun z => z (q_da _ _).symm)]
      rw [x99_87]
      refine k34_4 h1 hm fun m hm => ?_
      rw [mk_v, x99_92, if_pos (by rw [c]; decide)]
      rw [x99_103, x99_104, if_neg (fun z => z (by rw [e5, nI_add, Nat.add_zero]))]
      rw [x99_108]
      refine k34_5 h1 hm fun m hm => ?_
      rw [mk_v, x99_113, if_pos (by rw [c]; decide)]
      rw [x99_124, x99_125, if_neg (fun z => z (by rw [e6, nI_add, Nat.add_zero]))]
      rw [x99_129, if_neg (fun z => z (by rw [c]))]
      rw [x99_133, x99_138, if_neg (by decide)]
      rw [x99_143, x99_148, if_neg (fun z => z rfl)]
      rw [x99_151, if_pos (by rw [nI_eq (by omega) (by omega)]; omega)]
      rw [x99_162, x99_167, if_neg (by decide)]
      rw [x99_174, if_pos (by rw [c]; decide)]
      rw [x99_214]
      exact g m _ _ _ ⟨h1, hJ⟩ (q_nx hn) hm
  · have cb : ¬ s_bk σ k = σ 0 := fun z => by
      rw [q_oc_0.mpr z] at c
      exact absurd c (by decide)
    rw [c] at e5 e6
    rw [if_pos rfl] at e5
    rw [if_neg (by decide), Nat.add_zero] at e6
    by_cases cv : s_val σ k = v
    · rw [x99_0]
      refine k100_0 h0 hm hk hv fun m hm => ?_
      rw [mk_v, x99_7]
      refine k100_1 h0 hm hk hv fun m hm => ?_
      rw [mk_v, x99_15]
      refine k34_3 h0 hm fun m hm => ?_
      rw [mk_v, x99_22]
      refine k34_4 h0 hm fun m hm => ?_
      rw [mk_v, x99_29]
      refine k34_5 h0 hm fun m hm => ?_
      rw [mk_v, x99_36]
      refine k72_1 h0 hm hk fun m hm => ?_
      rw [mk_v, if_neg cb]
      rw [x99_44]
      refine k72_0 h0 hm hk fun m hm => ?_
      rw [mk_v, x99_52]
      refine k103 h0 hm hk hv fun m hm => ?_
      rw [mk_v, x99_60, if_neg (fun z => z rfl)]
      rw [x99_64]
      refine k72_0 h1 hm hk1 fun m hm => ?_
      rw [mk_v, r1]
      rw [x99_70, if_neg (fun z => z rfl)]
      rw [x99_74]
      refine k34_3 h1 hm fun m hm => ?_
      rw [mk_v, x99_79, if_neg (fun z => z (q_da _ _).symm)]
      rw [x99_87]
      refine k34_4 h1 hm fun m hm => ?_
      rw [mk_v, x99_92, if_neg (fun z => z (by rw [c]))]
      rw [x99_99, x99_104, if_neg (fun z => z (by rw [e5, nI_add]))]
      rw [x99_108]
      refine k34_5 h1 hm fun m hm => ?_
      rw [mk_v, x99_113, if_pos (by rw [c]; decide)]
      rw [x99_124, x99_125, if_neg (fun z => z (by rw [e6, nI_add, Nat.add_zero]))]
      rw [x99_129, if_pos (by rw [c]; decide)]
      rw [x99_137, x99_138, if_pos (by rw [nI_leI (by omega) (by omega)]; omega)]
      rw [x99_147, x99_148, if_neg (fun z => z rfl)]
      rw [x99_151, if_neg (fun z => z (by rw [cv]))]
      rw [x99_157, if_neg (by rw [c]; decide)]
      rw [x99_162, x99_167, if_neg (by decide)]
      rw [x99_174, if_pos (by rw [c]; decide)]
      rw [x99_214]
      exact g m _ _ _ ⟨h1, hJ⟩ (q_nx hn) hm
    · rw [x99_0]
      refine k100_0 h0 hm hk hv fun m hm => ?_
      rw [mk_v, x99_7]
      refine k100_1 h0 hm hk hv fun m hm => ?_
      rw [mk_v, x99_15]
      refine k34_3 h0 hm fun m hm => ?_
      rw [mk_v, x99_22]
      refine k34_4 h0 hm fun m hm => ?_
      rw [mk_v, x99_29]
      refine k34_5 h0 hm fun m hm => ?_
      rw [mk_v, x99_36]
      refine k72_1 h0 hm hk fun m hm => ?_
      rw [mk_v, if_neg cb]
      rw [x99_44]
      refine k72_0 h0 hm hk fun m hm => ?_
      rw [mk_v, x99_52]
      refine k103 h0 hm hk hv fun m hm => ?_
      rw [mk_v, x99_60, if_neg (fun z => z rfl)]
      rw [x99_64]
      refine k72_0 h1 hm hk1 fun m hm => ?_
      rw [mk_v, r1]
      rw [x99_70, if_neg (fun z => z rfl)]
      rw [x99_74]
      refine k34_3 h1 hm fun m hm => ?_
      rw [mk_v, x99_79, if_neg (fun z => z (q_da _ _).symm)]
      rw [x99_87]
      refine k34_4 h1 hm fun m hm => ?_
      rw [mk_v, x99_92, if_neg (fun z => z (by rw [c]))]
      rw [x99_99, x99_104, if_neg (fun z => z (by rw [e5, nI_add]))]
      rw [x99_108]
      refine k34_5 h1 hm fun m hm => ?_
      rw [mk_v, x99_113, if_pos (by rw [c]; decide)]
      rw [x99_124, x99_125, if_neg (fun z => z (by rw [e6, nI_add, Nat.add_zero]))]
      rw [x99_129, if_pos (by rw [c]; decide)]
      rw [x99_137, x99_138, if_pos (by rw [nI_leI (by omega) (by omega)]; omega)]
      rw [x99_147, x99_148, if_neg (fun z => z rfl)]
      rw [x99_151, if_pos (by rw [nI_eq (by omega) (by omega)]; omega)]
      rw [x99_162, x99_167, if_neg (by decide)]
      rw [x99_174, if_pos (by rw [c]; decide)]
      rw [x99_214]
      exact g m _ _ _ ⟨h1, hJ⟩ (q_nx hn) hm
  · have cb : ¬ s_bk σ k = σ 0 := fun z => by
      rw [q_oc_0.mpr z] at c
      exact absurd c (by decide)
    have cv : ¬ s_val σ k = v := fun z => by
      have := q_oc_same h0 hs.2 z
      omega
    obtain ⟨hb, hA⟩ := q_rp_An (k := k) (v := v) h0 c
    have hb1 : s_bk σ k < s_rp σ k v 0 := by omega
    rw [c] at e5 e6
    rw [if_neg (by decide), Nat.add_zero] at e5
    rw [if_pos rfl] at e6
    rw [x99_0]
    refine k100_0 h0 hm hk hv fun m hm => ?_
    rw [mk_v, x99_7]
    refine k100_1 h0 hm hk hv fun m hm => ?_
    rw [mk_v, x99_15]
    refine k34_3 h0 hm fun m hm => ?_
    rw [mk_v, x99_22]
    refine k34_4 h0 hm fun m hm => ?_
    rw [mk_v, x99_29]
    refine k34_5 h0 hm fun m hm => ?_
    rw [mk_v, x99_36]
    refine k72_1 h0 hm hk fun m hm => ?_
    rw [mk_v, if_neg cb]
    rw [x99_44]
    refine k72_0 h0 hm hk fun m hm => ?_
    rw [mk_v, x99_52]
    refine k103 h0 hm hk hv fun m hm => ?_
    rw [mk_v, x99_60, if_neg (fun z => z rfl)]
    rw [x99_64]
    refine k72_0 h1 hm hk1 fun m hm => ?_
    rw [mk_v, r1]
    rw [x99_70, if_neg (fun z => z rfl)]
    rw [x99_74]
    refine k34_3 h1 hm fun m hm => ?_
    rw [mk_v, x99_79, if_neg (fun z => z (q_da _ _).symm)]
    rw [x99_87]
    refine k34_4 h1 hm fun m hm => ?_
    rw [mk_v, x99_92, if_pos (by rw [c]; decide)]
    rw [x99_103, x99_104, if_neg (fun z => z (by rw [e5, nI_add, Nat.add_zero]))]
    rw [x99_108]
    refine k34_5 h1 hm fun m hm => ?_
    rw [mk_v, x99_113, if_neg (fun z => z (by rw [c]))]
    rw [x99_120, x99_125, if_neg (fun z => z (by rw [e6, nI_add]))]
    rw [x99_129, if_pos (by rw [c]; decide)]
    rw [x99_137, x99_138, if_pos (by rw [nI_leI (by omega) (by omega)]; omega)]
    rw [x99_147, x99_148, if_neg (fun z => z rfl)]
    rw [x99_151, if_pos (by rw [nI_eq (by omega) (by omega)]; omega)]
    rw [x99_162, x99_167, if_neg (by decide)]
    rw [x99_174, if_neg (fun z => z (by rw [c]))]
    rw [x99_179]
    refine k56_2 h1 hm hb1 fun m hm => ?_
    rw [mk_v, x99_186]
    refine k56_3 h1 hm hb1 fun m hm => ?_
    rw [mk_v, x99_193, if_neg (fun z => z (by rw [hA.2]))]
    rw [x99_196]
    refine k56_0 h1 hm hb1 fun m hm => ?_
    rw [mk_v, x99_203]
    refine k56_8 h1 hm hb1 fun m hm => ?_
    rw [mk_v, x99_211, if_neg (fun z => z (by rw [hA.1]))]
    rw [x99_214]
    exact g m _ _ _ ⟨h1, hJ⟩ (q_nx hn) hm
end LW4
