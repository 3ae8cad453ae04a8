/-! ===== the law: the operations that need no wrapper ===== -/
theorem fd_self {z c q} (h : fl_D z c q) : FP.dcmp z z = some .eq := by
  show FP.Core.cmp FP.Core.b64 z.toNat z.toNat = _
  unfold FP.Core.cmp
  rw [fl_dec fl_64 h]
  unfold FP.Core.order
  simp only []
  rw [Int.compare_eq_eq.2 rfl]
theorem ff_wide {z c q} (h : fl_F z c q) (h1 : -83 ≤ q) (h2 : q ≤ 37) : ∃ c' q', fl_D (FP.f2d z) c' q' := by
  have hd : FP.Core.decode FP.Core.b32 z.toNat = .fin false c q := fl_dec fl_32 h
  have hn : FP.Core.fIsNaN z = false := by
    unfold FP.Core.fIsNaN FP.Core.isNaN
    rw [hd]
    rfl
  have e : FP.f2d z = UInt64.ofNat (FP.Core.encode FP.Core.b64 (FP.Core.roundRatio FP.Core.b64 false c 1 q)) := by
    unfold FP.f2d
    rw [hn, if_neg (by decide)]
    show UInt64.ofNat (FP.Core.encode FP.Core.b64 (FP.Core.round FP.Core.b64 (FP.Core.decode FP.Core.b32 z.toNat))) = _
    rw [hd]
    rfl
  have b1 := h.1
  have b2 := h.2.1
  obtain ⟨x, y, e1, e2, e3, e4⟩ := fl_lead (A := c) (B := 1) (by omega) (by decide)
  have hx := fl_pos x
  have k1 : y = 0 := by
    rcases e2 with e2 | e2
    · subst e2
      cases y with
      | zero => rfl
      | succ y =>
        rw [Nat.pow_zero, Nat.pow_succ] at e4
        have : c * 2 ≤ c * (2 ^ y * 2) := Nat.mul_le_mul_left _ (by have := fl_pos y; omega)
        omega
    · exact e2
  subst k1
  have k2 : x < 24 := by
    refine (Nat.pow_lt_pow_iff_right (by decide : 1 < 2)).1 ?_
    rw [Nat.pow_zero, Nat.mul_one, Nat.one_mul] at e3
    omega
  obtain ⟨c', q', d1, d2, d3, d4, d5⟩ := fl_round fl_64 false (A := c) (B := 1) (e := q) (by omega) (by decide) (by omega) (by omega)
  have f := fl_enc fl_64 d2 d3 (q := q') (by omega) (by omega)
  refine ⟨c', q', ?_⟩
  rw [e, d1]
  show fl_N _ _ _ (UInt64.ofNat _).toNat _ _
  rw [fd_of f]
  exact f
section OPS2
variable {Ln : Nat} {xs : Nat → Int32} {u : mj_U} {m : ml_M} {lm : ml_J} {σ τ : s_S} {n t tl j : Nat} {ss : Nat → s_S} {tx : Nat → Nat} {v5 v6 v7 : Value}
theorem st_9 (h : INVs m σ n ss t τ tl tx) : s_step Ln xs 692 j v5 v6 v7 u m lm := by
  obtain ⟨h0, hss, ht, hτ, hl, hx, hC, hX, hM, hY, z1, z2⟩ := h
  obtain ⟨m1, C1, X1, f1, g1⟩ := sp10_k (Ln := Ln) (xs := xs) (u := u) (lm := lm) hC hX
  obtain ⟨m2, M2, Y2, f2, g2⟩ := sp189_k (Ln := Ln) (xs := xs) (u := u) (lm := lm) (M_up f1 hM) (Y_up f1 hY)
  refine ⟨u, m2, lm, v5, v6, v7, ⟨_, _, _, _, _, _, _, h0, hss, ht, hτ, (by decide : 0 ≤ 60), (fun k hk => absurd hk (Nat.not_lt_zero k)), RepC_of C1 (fun a _ h2 => f2 a (by omega)), RepX_of X1 (fun a ha => f2 a (by omega)), M2, Y2, by rw [f2 79 (by decide), f1 79 (by decide)]; exact z1, by rw [f2 80 (by decide), f1 80 (by decide)]; exact z2⟩, Or.inl rfl, fun Φ => ?_⟩
  rw [x0_692, g1, mk_v, x0_696, g2, mk_v, x0_700, if_pos rfl]
theorem st_10 (h : INVs m σ n ss t τ tl tx) : s_step Ln xs 705 j v5 v6 v7 u m lm := by
  obtain ⟨h0, hss, ht, hτ, hl, hx, hC, hX, hM, hY, z1, z2⟩ := h
  obtain ⟨m2, M2, Y2, f2, g2⟩ := sp190_k (Ln := Ln) (xs := xs) (u := u) (lm := lm) hM hY hl hx
  refine ⟨u, m2, lm, v5, v6, v7, ⟨_, _, _, _, _, _, _, h0, hss, ht, hτ, hl, hx, RepC_of hC (fun a _ h2 => f2 a (by omega)), RepX_of hX (fun a ha => f2 a (by omega)), M2, Y2, by rw [f2 79 (by decide)]; exact z1, by rw [f2 80 (by decide)]; exact z2⟩, Or.inl rfl, fun Φ => ?_⟩
  rw [x0_705, sp11_k hX hl hx, mk_v, x0_709, g2, mk_v, x0_713, if_pos rfl]
theorem st_12 (h : INVs m σ n ss t τ tl tx) : s_step Ln xs 762 j v5 v6 v7 u m lm := by
  obtain ⟨h0, hss, ht, hτ, hl, hx, hC, hX, hM, hY, z1, z2⟩ := h
  obtain ⟨m1, C1, X1, f1, g1⟩ := sp17_k (Ln := Ln) (xs := xs) (u := u) (lm := lm) h0 hC hX
  obtain ⟨m2, M2, Y2, f2, g2⟩ := sp199_k (Ln := Ln) (xs := xs) (u := u) (lm := lm) (M_up f1 hM) (Y_up f1 hY) h0
  refine ⟨u, m2, lm, v5, v6, v7, ⟨_, _, _, _, _, _, _, h0, hss, (by decide : 1 ≤ 1), (fun _ => h0), hl, hx, RepC_of C1 (fun a _ h2 => f2 a (by omega)), RepX_of X1 (fun a ha => f2 a (by omega)), M2, Y2, by rw [f2 79 (by decide), f1 79 (by decide)]; exact z1, by rw [f2 80 (by decide), f1 80 (by decide)]; exact z2⟩, Or.inl rfl, fun Φ => ?_⟩
  rw [x0_762, g1, mk_v, x0_766, g2, mk_v, x0_770, if_pos rfl]
theorem st_25 (h : INVs m σ n ss t τ tl tx) : s_step Ln xs 1519 j v5 v6 v7 u m lm := by
  have H := h
  obtain ⟨h0, hss, ht, hτ, hl, hx, hC, hX, hM, hY, z1, z2⟩ := h
  obtain ⟨c, q, e, -, -⟩ := s_shv_D h0
  refine ⟨u, ml_s m 72 8 (nI 0), lm, .double (s_shv σ), mj_hole, .double (s_shv σ), ⟨_, _, _, _, _, _, _, INVs_8 H⟩, Or.inl rfl, fun Φ => ?_⟩
  rw [x0_1519, sp20 h0 hC, mk_v, x0_1523, sp229 h0 hM, mk_v, x0_1529, fd_self e, if_pos (by decide), x0_1557]
theorem st_26 (h : INVs m σ n ss t τ tl tx) : s_step Ln xs 1560 j v5 v6 v7 u m lm := by
  have H := h
  obtain ⟨h0, hss, ht, hτ, hl, hx, hC, hX, hM, hY, z1, z2⟩ := h
  have hN : FP.f2d (s_mnv σ) &&& 0x7fffffffffffffff ≤ 0x7ff0000000000000 ∧ FP.dcmp (FP.f2d (s_mnv σ)) (FP.f2d (s_mnv σ)) = some .eq := by
    by_cases k : s_tot σ = 0
    · rw [show s_mnv σ = FP.fconst0 from if_pos k]
      decide +kernel
    · obtain ⟨c, q, e, q1, q2⟩ := s_mnv_F h0 k
      obtain ⟨c', q', e'⟩ := ff_wide e q1 q2
      exact ⟨fd_nan e', fd_self e'⟩
  refine ⟨u, ml_s m 72 8 (nI 0), lm, .double (FP.f2d (s_mnv σ)), mj_hole, .double (FP.f2d (s_mnv σ)), ⟨_, _, _, _, _, _, _, INVs_8 H⟩, Or.inl rfl, fun Φ => ?_⟩
  rw [x0_1560, sp25 h0 hC, mk_v, x0_1564 hN.1, sp231 h0 hM, mk_v, x0_1571 hN.1, hN.2, if_pos (by decide), x0_1600]
theorem st_27 (h : INVs m σ n ss t τ tl tx) : s_step Ln xs 1603 j v5 v6 v7 u m lm := by
  obtain ⟨h0, hss, ht, hτ, hl, hx, hC, hX, hM, hY, z1, z2⟩ := h
  obtain ⟨m1, f1, g1⟩ := sp26 (Ln := Ln) (xs := xs) (u := u) (lm := lm) h0 hC hX.1.2.1 hX.2.1 ht hX.2.2.2.1 hl hX.2.2.2.2
  have f : ∀ a, 72 ≤ a → m1 a = m a := fun a ha => f1 a (by omega)
  obtain ⟨m2, F2, d1, d2, g2⟩ := sp233 (Ln := Ln) (xs := xs) (u := u) (lm := lm) h0 (M_up f hM) (Y_up f hY) ht hl (by rw [f 79 (by decide)]; exact z1) (by rw [f 80 (by decide)]; exact z2)
  have Y2 := RepY_of (m' := m2) (Y_up f hY) (F2.2 2 (by decide) (by decide)) (F2.2 4 (by decide) (by decide)) (F2.2 7 (by decide) (by decide)) (F2.1 74 (by decide) (by decide) (by decide) (by decide)) (F2.1 75 (by decide) (by decide) (by decide) (by decide)) (F2.1 77 (by decide) (by decide) (by decide) (by decide))
  refine ⟨u, m2, ml_sj lm 72 17 (s_dg σ n t tl tx), v5, v6, v7, ⟨_, _, _, _, _, _, _, h0, hss, ht, hτ, hl, hx, RepC_of hC (fun a _ h2 => by rw [F2.1 a (by omega) (by omega) (by omega) (by omega), f1 a (by omega)]), RepX_of hX (fun a ha => by rw [F2.1 a (by omega) (by omega) (by omega) (by omega), f1 a (by omega)]), FM_M F2 (M_up f hM), Y2, d1, d2⟩, Or.inl rfl, fun Φ => ?_⟩
  rw [x0_1603, g1, mk_v, x0_1607, g2, mk_v, x0_1611, s_lg, if_pos rfl]
end OPS2
