/-! ===== the law: what holds between two steps, and each pair of calls ===== -/
def INVs (m : ml_M) (σ : s_S) (n : Nat) (ss : Nat → s_S) (t : Nat) (τ : s_S) (tl : Nat) (tx : Nat → Nat) : Prop := s_ok σ ∧ (∀ j, j < n → s_ok (ss j)) ∧ t ≤ 1 ∧ (t = 1 → s_ok τ) ∧ tl ≤ 60 ∧ (∀ k, k < tl → tx k ≤ 126) ∧ RepC m 2 σ ∧ RepX m n ss t τ tl tx ∧ (∀ k, k < 251 → m 73 k = nI (σ k)) ∧ RepY m n ss t τ tl tx ∧ m 79 0 = nI 0 ∧ m 80 0 = nI 0
def INV (m : ml_M) : Prop := ∃ σ n ss t τ tl tx, INVs m σ n ss t τ tl tx
def s_ule (u u' : mj_U) : Prop := u' = u ∨ u' = (u.1, u.2.1 + 1, u.2.2 + 6)
/-- a call of the class and the call of the Model that it is held against -/
def s_pair (Ln : Nat) (xs : Nat → Int32) (W : Nat) (LW : List Value) (M : Nat) (LM : List Value) (u : mj_U) (m : ml_M) (lm : ml_J) : Prop :=
  ∃ u1 m1 lm1 m2 lm2 r v, INV m2 ∧ s_ule u u1 ∧ r < 3 ∧ m2 72 8 = nI r ∧ (r = 0 → lm2 81 0 = v.toInt64) ∧ (∀ Φ : mj_R → mj_W → Prop, wp Ln xs W 0 LW [] (u, ml_h m lm) Φ = Φ (.inl (some (.int (nI r)))) (u1, ml_h m1 lm1)) ∧ (∀ Φ : mj_R → mj_W → Prop, wp Ln xs M 0 LM [] (u1, ml_h m1 lm1) Φ = Φ (.inl (some (.int v))) (u1, ml_h m2 lm2))
theorem INVs_8 {m : ml_M} {σ : s_S} {n : Nat} {ss : Nat → s_S} {t : Nat} {τ : s_S} {tl : Nat} {tx : Nat → Nat} {v : Int32} (h : INVs m σ n ss t τ tl tx) : INVs (ml_s m 72 8 v) σ n ss t τ tl tx := by
  obtain ⟨a1, a2, a3, a4, a5, a6, a7, a8, a9, b1, b2, b3⟩ := h
  exact ⟨a1, a2, a3, a4, a5, a6, RepC_of a7 (fun a _ h2 => ml_s_row (by omega)), RepX_of a8 (fun a ha => ml_s_row (by omega)), s_hF a9 (ml_s_row (by decide)), RepY_8 b1, by rw [ml_s_a (by decide)]; exact b2, by rw [ml_s_a (by decide)]; exact b3⟩
theorem s_le_ex {y : Int32} {N : Nat} (hN : N < 2 ^ 31) (c : ¬ (y < nI 0 ∨ nI N < y)) : ∃ v, v ≤ N ∧ y = nI v := by
  have c1 : ¬ y.toInt < (nI 0).toInt := fun z => c (Or.inl (Int32.lt_iff_toInt_lt.2 z))
  have c2 : ¬ (nI N).toInt < y.toInt := fun z => c (Or.inr (Int32.lt_iff_toInt_lt.2 z))
  rw [nI_int (by omega)] at c1 c2
  refine ⟨y.toInt.toNat, by omega, Int32.toInt_inj.1 ?_⟩
  rw [nI_int (by omega)]
  omega
theorem s_lt_ex {y : Int32} {N : Nat} (hN : N < 2 ^ 31) (c : ¬ (y < nI 0 ∨ nI N ≤ y)) : ∃ v, v < N ∧ y = nI v := by
  have c1 : ¬ y.toInt < (nI 0).toInt := fun z => c (Or.inl (Int32.lt_iff_toInt_lt.2 z))
  have c2 : ¬ (nI N).toInt ≤ y.toInt := fun z => c (Or.inr (Int32.le_iff_toInt_le.2 z))
  rw [nI_int (by omega)] at c1 c2
  refine ⟨y.toInt.toNat, by omega, Int32.toInt_inj.1 ?_⟩
  rw [nI_int (by omega)]
  omega
theorem s_ge_ex {y : Int32} {A N : Nat} (hN : N < 2 ^ 31) (hA : A ≤ N) (c : ¬ (y < nI A ∨ nI N < y)) : ∃ v, A ≤ v ∧ v ≤ N ∧ y = nI v := by
  have c1 : ¬ y.toInt < (nI A).toInt := fun z => c (Or.inl (Int32.lt_iff_toInt_lt.2 z))
  have c2 : ¬ (nI N).toInt < y.toInt := fun z => c (Or.inr (Int32.lt_iff_toInt_lt.2 z))
  rw [nI_int (by omega)] at c1 c2
  refine ⟨y.toInt.toNat, by omega, by omega, Int32.toInt_inj.1 ?_⟩
  rw [nI_int (by omega)]
  omega
theorem s_0_ex {y : Int32} (c : ¬ y < nI 0) : ∃ v, v < 2 ^ 31 ∧ y = nI v := by
  have c1 : ¬ y.toInt < (nI 0).toInt := fun z => c (Int32.lt_iff_toInt_lt.2 z)
  rw [nI_int (by omega)] at c1
  have c2 := y.toInt_lt
  refine ⟨y.toInt.toNat, by omega, Int32.toInt_inj.1 ?_⟩
  rw [nI_int (by omega)]
  omega
theorem sj_81 {lm : ml_J} {y : Int64} : ml_sj lm 81 0 y 81 0 = y := if_pos ⟨rfl, rfl⟩
theorem s_push_ok {n : Nat} {ss : Nat → s_S} {σ : s_S} (h : ∀ j, j < n → s_ok (ss j)) (h0 : s_ok σ) (hn : n ≤ 6) : ∀ j, j < s_nx n → s_ok (s_push n ss σ j) := fun j hj => by
  unfold s_push
  unfold s_nx at hj
  by_cases c : n = 6
  · rw [if_pos c] at hj ⊢
    split
    · exact h0
    · exact h _ (by omega)
  · rw [if_neg c] at hj ⊢
    split
    · exact h0
    · exact h _ (by omega)
section PAIRS
variable {Ln : Nat} {xs : Nat → Int32} {u u1 : mj_U} {m m1 m2 : ml_M} {lm : ml_J} {σ τ σ' τ' : s_S} {n t tl n' t' tl' : Nat} {ss ss' : Nat → s_S} {tx tx' : Nat → Nat} {W M : Nat} {LW LM : List Value} {v x y z : Int32}
/-- both throw -/
theorem pair_e {r : Nat} (h : INVs m σ n ss t τ tl tx) (hr : r = 1 ∨ r = 2) (A : ∀ Φ : mj_R → mj_W → Prop, wp Ln xs W 0 LW [] (u, ml_h m lm) Φ = Φ (.inl (some (.int (nI r)))) ((u.1, u.2.1 + 1, u.2.2 + 6), ml_h m lm)) (B : ∀ (u : mj_U) (Φ : mj_R → mj_W → Prop), wp Ln xs M 0 LM [] (u, ml_h m lm) Φ = Φ (.inl (some (.int (nI 0)))) (u, ml_h (ml_s m 72 8 (nI r)) lm)) : s_pair Ln xs W LW M LM u m lm :=
  ⟨_, _, _, _, _, r, nI 0, ⟨_, _, _, _, _, _, _, INVs_8 h⟩, Or.inr rfl, by omega, ml_s_s _ _ _ _, fun e => by omega, A, fun Φ => B _ Φ⟩
/-- both do it -/
theorem pair_k (h0 : s_ok σ') (hss : ∀ j, j < n' → s_ok (ss' j)) (ht : t' ≤ 1) (hτ : t' = 1 → s_ok τ') (hl : tl' ≤ 60) (hx : ∀ k, k < tl' → tx' k ≤ 126) (hC : RepC m1 2 σ') (hX : RepX m1 n' ss' t' τ' tl' tx') (f1 : ∀ a, 72 ≤ a → m1 a = m a) (hM : ∀ k, k < 251 → m2 73 k = nI (σ' k)) (hY : RepY m2 n' ss' t' τ' tl' tx') (e8 : m2 72 8 = nI 0) (f2 : ∀ a, a < 72 ∨ 78 < a → m2 a = m1 a) (z1 : m 79 0 = nI 0) (z2 : m 80 0 = nI 0)
    (A : ∀ Φ : mj_R → mj_W → Prop, wp Ln xs W 0 LW [] (u, ml_h m lm) Φ = Φ (.inl (some (.int (nI 0)))) (u, ml_h m1 (ml_sj lm 81 0 v.toInt64))) (B : ∀ (Φ : mj_R → mj_W → Prop), wp Ln xs M 0 LM [] (u, ml_h m1 (ml_sj lm 81 0 v.toInt64)) Φ = Φ (.inl (some (.int v))) (u, ml_h m2 (ml_sj lm 81 0 v.toInt64))) : s_pair Ln xs W LW M LM u m lm :=
  ⟨_, _, _, _, _, 0, v, ⟨_, _, _, _, _, _, _, h0, hss, ht, hτ, hl, hx, RepC_of hC (fun a _ h2 => f2 a (by omega)), RepX_of hX (fun a ha => f2 a (by omega)), hM, hY, by rw [f2 79 (by decide), f1 79 (by decide)]; exact z1, by rw [f2 80 (by decide), f1 80 (by decide)]; exact z2⟩, Or.inl rfl, by decide, e8, fun _ => sj_81, A, B⟩
theorem Y_up (f1 : ∀ a, 72 ≤ a → m1 a = m a) (hY : RepY m n ss t τ tl tx) : RepY m1 n ss t τ tl tx := RepY_of hY (by rw [f1 72 (by decide)]) (by rw [f1 72 (by decide)]) (by rw [f1 72 (by decide)]) (f1 74 (by decide)) (f1 75 (by decide)) (f1 77 (by decide))
theorem M_up (f1 : ∀ a, 72 ≤ a → m1 a = m a) (hM : ∀ k, k < 251 → m 73 k = nI (σ k)) : ∀ k, k < 251 → m1 73 k = nI (σ k) := s_hF hM (f1 73 (by decide))
/-- both only look -/
theorem pair_l (h : INVs m σ n ss t τ tl tx) (f1 : ∀ a, a < 56 ∨ 71 < a → m1 a = m a) (hM : ∀ k, k < 251 → m2 73 k = nI (σ k)) (hY : RepY m2 n ss t τ tl tx) (e8 : m2 72 8 = nI 0) (f2 : ∀ a, a < 72 ∨ 78 < a → m2 a = m1 a)
    (A : ∀ Φ : mj_R → mj_W → Prop, wp Ln xs W 0 LW [] (u, ml_h m lm) Φ = Φ (.inl (some (.int (nI 0)))) (u, ml_h m1 (ml_sj lm 81 0 v.toInt64))) (B : ∀ (Φ : mj_R → mj_W → Prop), wp Ln xs M 0 LM [] (u, ml_h m1 (ml_sj lm 81 0 v.toInt64)) Φ = Φ (.inl (some (.int v))) (u, ml_h m2 (ml_sj lm 81 0 v.toInt64))) : s_pair Ln xs W LW M LM u m lm := by
  obtain ⟨a1, a2, a3, a4, a5, a6, a7, a8, a9, b1, b2, b3⟩ := h
  exact pair_k a1 a2 a3 a4 a5 a6 (RepC_of a7 (fun a _ h2 => f1 a (by omega))) (RepX_of a8 (fun a ha => f1 a (by omega))) (fun a ha => f1 a (by omega)) hM hY e8 f2 b2 b3 A B
/-- both only look, and the Model notes nothing else -/
theorem pair_l8 (h : INVs m σ n ss t τ tl tx) (f1 : ∀ a, a < 56 ∨ 71 < a → m1 a = m a)
    (A : ∀ Φ : mj_R → mj_W → Prop, wp Ln xs W 0 LW [] (u, ml_h m lm) Φ = Φ (.inl (some (.int (nI 0)))) (u, ml_h m1 (ml_sj lm 81 0 v.toInt64))) (B : (∀ k, k < 251 → m1 73 k = nI (σ k)) → RepY m1 n ss t τ tl tx → ∀ (Φ : mj_R → mj_W → Prop), wp Ln xs M 0 LM [] (u, ml_h m1 (ml_sj lm 81 0 v.toInt64)) Φ = Φ (.inl (some (.int v))) (u, ml_h (ml_s m1 72 8 (nI 0)) (ml_sj lm 81 0 v.toInt64))) : s_pair Ln xs W LW M LM u m lm := by
  have f : ∀ a, 72 ≤ a → m1 a = m a := fun a ha => f1 a (by omega)
  have hM := M_up f h.2.2.2.2.2.2.2.2.1
  have hY := Y_up f h.2.2.2.2.2.2.2.2.2.1
  exact pair_l h f1 (s_hF hM (ml_s_row (by decide))) (RepY_8 hY) (ml_s_s _ _ _ _) (fun a ha => ml_s_row (by omega)) A (B hM hY)
theorem pr_0 (h : INVs m σ n ss t τ tl tx) : s_pair Ln xs 81 [.ref 1, .int y, .ref 81, mj_hole] 150 [.ref 72, .int y] u m lm := by
  have H := h
  obtain ⟨h0, hss, ht, hτ, hl, hx, hC, hX, hM, hY, z1, z2⟩ := h
  by_cases c : y < nI 0 ∨ nI 999 < y
  · exact pair_e H (Or.inl rfl) (we81_0 (fun Φ => sp82_a c)) (fun u Φ => sp150_a c)
  · obtain ⟨v, hv, rfl⟩ := s_le_ex (by decide) c
    by_cases c2 : s_can σ
    · obtain ⟨m1, C1, X1, f1, g1⟩ := sp82_k (Ln := Ln) (xs := xs) (u := u) (lm := lm) h0 hC hX hv c2
      obtain ⟨m2, M2, Y2, e8, f2, g2⟩ := sp150_k (Ln := Ln) (xs := xs) (u := u) (lm := ml_sj lm 81 0 (nI (s_tot σ + 1)).toInt64) (M_up f1 hM) (Y_up f1 hY) h0 hv c2
      exact pair_k (s_put_ok h0 hv c2) (s_push_ok hss h0 hX.1.1) ht hτ hl hx C1 X1 f1 M2 Y2 e8 f2 z1 z2 (wk81 g1) g2
    · exact pair_e H (Or.inr rfl) (we81_1 (fun Φ => sp82_s h0 hC hv c2)) (fun u Φ => sp150_s hM h0 hv c2)
theorem pr_1 (h : INVs m σ n ss t τ tl tx) : s_pair Ln xs 90 [.ref 1, .ref 81, mj_hole] 174 [.ref 72] u m lm := by
  have H := h
  obtain ⟨h0, hss, ht, hτ, hl, hx, hC, hX, hM, hY, z1, z2⟩ := h
  have k0 := h0.1
  by_cases c : σ 1 = 0 ∨ σ 0 = 12
  · exact pair_e H (Or.inl rfl) (we90_1 (fun Φ => sp91_s h0 hC c)) (fun u Φ => sp174_s hM h0 c)
  · obtain ⟨m1, C1, X1, f1, g1⟩ := sp91_k (Ln := Ln) (xs := xs) (u := u) (lm := lm) h0 hC hX (by omega) (by omega)
    obtain ⟨m2, M2, Y2, e8, f2, g2⟩ := sp174_k (Ln := Ln) (xs := xs) (u := u) (lm := ml_sj lm 81 0 (nI (s_frm (s_ct σ) (σ 0))).toInt64) (M_up f1 hM) (Y_up f1 hY) h0 (by omega) (by omega)
    exact pair_k (s_ct_ok (s_ok_6 h0) (by omega) (by omega)) (s_push_ok hss h0 hX.1.1) ht hτ hl hx C1 X1 f1 M2 Y2 e8 f2 z1 z2 (wk90 g1) g2
theorem pr_2 (h : INVs m σ n ss t τ tl tx) : s_pair Ln xs 92 [.ref 1, .int x, .int y, .ref 81, mj_hole] 175 [.ref 72, .int x, .int y] u m lm := by
  have H := h
  obtain ⟨h0, hss, ht, hτ, hl, hx, hC, hX, hM, hY, z1, z2⟩ := h
  have hT := s_tot_le h0
  by_cases c : x < nI 0 ∨ nI (s_tot σ) ≤ x
  · exact pair_e H (Or.inl rfl) (we92_2 (fun Φ => sp93_i hC c)) (fun u Φ => sp175_i hM h0 c)
  · obtain ⟨k, hk, rfl⟩ := s_lt_ex (by omega) c
    by_cases c2 : y < nI 0 ∨ nI 999 < y
    · exact pair_e H (Or.inr rfl) (we92_0 (fun Φ => sp93_a h0 hC hk c2)) (fun u Φ => sp175_a hM h0 hk c2)
    · obtain ⟨v, hv, rfl⟩ := s_le_ex (by decide) c2
      obtain ⟨m1, C1, X1, f1, g1⟩ := sp93_k (Ln := Ln) (xs := xs) (u := u) (lm := lm) h0 hC hX hk hv
      obtain ⟨m2, M2, Y2, e8, f2, g2⟩ := sp175_k (Ln := Ln) (xs := xs) (u := u) (lm := ml_sj lm 81 0 (nI (s_oc σ k v)).toInt64) (M_up f1 hM) (Y_up f1 hY) h0 hk hv
      exact pair_k (s_rp_ok h0 hv) (s_push_ok hss h0 hX.1.1) ht hτ hl hx C1 X1 f1 M2 Y2 e8 f2 z1 z2 (wk92 g1) g2
theorem pr_3 (h : INVs m σ n ss t τ tl tx) : s_pair Ln xs 96 [.ref 1, .int x, .ref 81, mj_hole] 178 [.ref 72, .int x, mj_hole] u m lm := by
  have H := h
  obtain ⟨h0, hss, ht, hτ, hl, hx, hC, hX, hM, hY, z1, z2⟩ := h
  have k0 := h0.1
  by_cases c : x < nI 0 ∨ nI (σ 0) ≤ x
  · exact pair_e H (Or.inl rfl) (we96_2 (fun Φ => sp97_i hC c)) (fun u Φ => sp178_i hM h0 c)
  · obtain ⟨b, hb, rfl⟩ := s_lt_ex (by omega) c
    obtain ⟨m1, C1, X1, f1, g1⟩ := sp97_k (Ln := Ln) (xs := xs) (u := u) (lm := lm) h0 hC hX hb
    obtain ⟨m2, M2, Y2, e8, f2, g2⟩ := sp178_k (Ln := Ln) (xs := xs) (u := u) (lm := ml_sj lm 81 0 (nI (s_rom σ b) - nI (s_rom (s_wa σ b) b)).toInt64) (M_up f1 hM) (Y_up f1 hY) h0 hb
    exact pair_k (s_wa_okk h0 hb) (s_push_ok hss h0 hX.1.1) ht hτ hl hx C1 X1 f1 M2 Y2 e8 f2 z1 z2 (wk96 g1) g2
theorem pr_4 (h : INVs m σ n ss t τ tl tx) : s_pair Ln xs 99 [.ref 1, .int x, .ref 81, mj_hole] 180 [.ref 72, .int x, mj_hole] u m lm := by
  have H := h
  obtain ⟨h0, hss, ht, hτ, hl, hx, hC, hX, hM, hY, z1, z2⟩ := h
  have k0 := h0.1
  by_cases c : x < nI 0 ∨ nI (σ 0) ≤ x
  · exact pair_e H (Or.inl rfl) (we99_2 (fun Φ => sp100_i h0 hC c)) (fun u Φ => sp180_i hM (s_pr2 (by omega) c))
  · obtain ⟨b, hb, rfl⟩ := s_lt_ex (by omega) c
    by_cases c1 : b + 1 = σ 0
    · have c4 : nI (σ 0) - nI 2 < nI b := by
        by_cases e : σ 0 = 1
        · rw [e, show b = 0 by omega]
          decide
        · rw [pk_sub (by omega)]
          exact nI_lt (by omega) (by omega)
      exact pair_e H (Or.inl rfl) (we99_2 (fun Φ => sp100_j h0 hC c1)) (fun u Φ => sp180_i hM (Or.inr c4))
    · have hb1 : b + 1 < σ 0 := by omega
      by_cases c2 : 16 < s_len σ b + s_len σ (b + 1)
      · exact pair_e H (Or.inr rfl) (we99_1 (fun Φ => sp100_s h0 hC hb1 c2)) (fun u Φ => sp180_s hM h0 hb1 c2)
      · have c3 : s_len σ b + s_len σ (b + 1) ≤ 16 := by omega
        obtain ⟨m1, C1, X1, f1, g1⟩ := sp100_k (Ln := Ln) (xs := xs) (u := u) (lm := lm) h0 hC hX hb1 c3
        obtain ⟨m2, M2, Y2, e8, f2, g2⟩ := sp180_k (Ln := Ln) (xs := xs) (u := u) (lm := ml_sj lm 81 0 (nI (s_frm (s_jn σ b) b)).toInt64) (M_up f1 hM) (Y_up f1 hY) h0 hb1 c3
        exact pair_k (s_jn_ok h0 hb1 c3) (s_push_ok hss h0 hX.1.1) ht hτ hl hx C1 X1 f1 M2 Y2 e8 f2 z1 z2 (wk99 g1) g2
theorem pr_5 (h : INVs m σ n ss t τ tl tx) : s_pair Ln xs 103 [.ref 1, .int x, .int y, .ref 81, mj_hole] 182 [.ref 72, .int x, .int y, mj_hole, mj_hole] u m lm := by
  have H := h
  obtain ⟨h0, hss, ht, hτ, hl, hx, hC, hX, hM, hY, z1, z2⟩ := h
  have k0 := h0.1
  by_cases c : x < nI 0 ∨ nI (σ 0) ≤ x
  · exact pair_e H (Or.inl rfl) (we103_2 (fun Φ => sp104_i hC c)) (fun u Φ => sp182_i hM h0 c)
  · obtain ⟨b, hb, rfl⟩ := s_lt_ex (by omega) c
    have l := h0.2.2.1 b hb
    by_cases c1 : y < nI 1 ∨ nI (s_len σ b) ≤ y
    · exact pair_e H (Or.inl rfl) (we103_2 (fun Φ => sp104_j h0 hC hb c1)) (fun u Φ => sp182_j hM h0 hb c1)
    · obtain ⟨p, hp, rfl⟩ := s_lt_ex (N := s_len σ b) (y := y) (by omega) (fun z => c1 (z.imp (fun q => Int32.lt_trans q (by decide)) id))
      have hp1 : 1 ≤ p := by
        refine Nat.le_of_not_lt fun q => c1 (Or.inl (nI_lt q (by decide)))
      by_cases c2 : σ 0 < 12
      · obtain ⟨m1, C1, X1, f1, g1⟩ := sp104_k (Ln := Ln) (xs := xs) (u := u) (lm := lm) h0 hC hX hb hp1 hp c2
        obtain ⟨m2, M2, Y2, e8, f2, g2⟩ := sp182_k (Ln := Ln) (xs := xs) (u := u) (lm := ml_sj lm 81 0 (s_gn σ b p).toInt64) (M_up f1 hM) (Y_up f1 hY) h0 hb hp1 hp c2
        exact pair_k (s_spl_ok h0 c2 hb hp1 hp) (s_push_ok hss h0 hX.1.1) ht hτ hl hx C1 X1 f1 M2 Y2 e8 f2 z1 z2 (wk103 g1) g2
      · exact pair_e H (Or.inr rfl) (we103_1 (fun Φ => sp104_s h0 hC hb hp1 hp c2)) (fun u Φ => sp182_s hM h0 hb hp1 hp c2)
theorem pr_6 (h : INVs m σ n ss t τ tl tx) : s_pair Ln xs 106 [.ref 1, .int x, .ref 81, mj_hole] 186 [.ref 72, .int x, mj_hole, mj_hole, mj_hole, mj_hole] u m lm := by
  have H := h
  obtain ⟨h0, hss, ht, hτ, hl, hx, hC, hX, hM, hY, z1, z2⟩ := h
  have k0 := h0.1
  by_cases c : x < nI 0 ∨ nI (σ 0) ≤ x
  · exact pair_e H (Or.inl rfl) (we106_2 (fun Φ => sp107_i hC c)) (fun u Φ => sp186_i hM h0 c)
  · obtain ⟨b, hb, rfl⟩ := s_lt_ex (by omega) c
    obtain ⟨m1, C1, X1, f1, g1⟩ := sp107_k (Ln := Ln) (xs := xs) (u := u) (lm := lm) h0 hC hX hb
    obtain ⟨m2, M2, Y2, e8, f2, g2⟩ := sp186_k (Ln := Ln) (xs := xs) (u := u) (lm := ml_sj lm 81 0 (nI (s_len σ b)).toInt64) (M_up f1 hM) (Y_up f1 hY) h0 hb
    exact pair_k (s_dp_ok h0 hb) (s_push_ok hss h0 hX.1.1) ht hτ hl hx C1 X1 f1 M2 Y2 e8 f2 z1 z2 (wk106 g1) g2
theorem pr_7 (h : INVs m σ n ss t τ tl tx) : s_pair Ln xs 109 [.ref 1, .int x, .int y, .ref 81, mj_hole] 187 [.ref 72, .int x, .int y, mj_hole, mj_hole] u m lm := by
  have H := h
  obtain ⟨h0, hss, ht, hτ, hl, hx, hC, hX, hM, hY, z1, z2⟩ := h
  by_cases c : x < nI 0 ∨ nI 3 ≤ x
  · exact pair_e H (Or.inl rfl) (we109_2 (fun Φ => sp110_i c)) (fun u Φ => sp187_i c)
  · obtain ⟨s, hs, rfl⟩ := s_lt_ex (by decide) c
    by_cases c1 : y < nI 0 ∨ nI 31 < y
    · have c3 : y < nI 0 ∨ nI 31 < y ∨ ∃ v, v ≤ 31 ∧ y = nI v ∧ ¬ s_isv s v := c1.imp id Or.inl
      exact pair_e H (Or.inr rfl) (we109_0 (fun Φ => sp110_a hs c3)) (fun u Φ => sp187_a hs c3)
    · obtain ⟨v, hv, rfl⟩ := s_le_ex (by decide) c1
      by_cases c2 : s_isv s v
      · obtain ⟨m1, C1, X1, f1, g1⟩ := sp110_k (Ln := Ln) (xs := xs) (u := u) (lm := lm) h0 hC hX hs c2
        obtain ⟨m2, M2, Y2, e8, f2, g2⟩ := sp187_k (Ln := Ln) (xs := xs) (u := u) (lm := ml_sj lm 81 0 (nI (σ (2 + s))).toInt64) (M_up f1 hM) (Y_up f1 hY) hs c2
        exact pair_k (s_st_ok h0 hs c2) (s_push_ok hss h0 hX.1.1) ht hτ hl hx C1 X1 f1 M2 Y2 e8 f2 z1 z2 (wk109 g1) g2
      · have c3 : nI v < nI 0 ∨ nI 31 < nI v ∨ ∃ w, w ≤ 31 ∧ nI v = nI w ∧ ¬ s_isv s w := Or.inr (Or.inr ⟨v, hv, rfl, c2⟩)
        exact pair_e H (Or.inr rfl) (we109_0 (fun Φ => sp110_a hs c3)) (fun u Φ => sp187_a hs c3)
theorem pr_8 (h : INVs m σ n ss t τ tl tx) : s_pair Ln xs 113 [.ref 1, .int y, .ref 81, mj_hole] 188 [.ref 72, .int y] u m lm := by
  have H := h
  obtain ⟨h0, hss, ht, hτ, hl, hx, hC, hX, hM, hY, z1, z2⟩ := h
  by_cases c : y < nI 33 ∨ nI 126 < y
  · exact pair_e H (Or.inl rfl) (we113_0 (fun Φ => sp114_a c)) (fun u Φ => sp188_a c)
  · obtain ⟨v, hv1, hv2, rfl⟩ := s_ge_ex (by decide) (by decide) c
    by_cases c2 : tl = 60
    · exact pair_e H (Or.inr rfl) (we113_1 (fun Φ => sp114_s hX hv1 hv2 c2)) (fun u Φ => sp188_s hY hv1 hv2 c2)
    · have c3 : tl < 60 := by omega
      obtain ⟨m1, C1, X1, f1, g1⟩ := sp114_k (Ln := Ln) (xs := xs) (u := u) (lm := lm) hC hX hv1 hv2 c3
      obtain ⟨m2, M2, Y2, e8, f2, g2⟩ := sp188_k (Ln := Ln) (xs := xs) (u := u) (lm := ml_sj lm 81 0 (nI (tl + 1)).toInt64) (M_up f1 hM) (Y_up f1 hY) hv1 hv2 c3
      refine pair_k h0 hss ht hτ (by omega) (fun k hk => ?_) C1 X1 f1 M2 Y2 e8 f2 z1 z2 (wk113 g1) g2
      unfold s_ap
      split
      · exact hv2
      · exact hx k (by omega)
theorem s_wh_ne7 {c : Nat → Nat} {L : Nat} (h : s_wh c L) : s_dfa c L ≠ 7 := by
  unfold s_wh at h
  omega
theorem pr_11 (h : INVs m σ n ss t τ tl tx) : s_pair Ln xs 116 [.ref 1, .ref 81, mj_hole] 198 [.ref 72, mj_hole] u m lm := by
  have H := h
  obtain ⟨h0, hss, ht, hτ, hl, hx, hC, hX, hM, hY, z1, z2⟩ := h
  by_cases c : s_wh tx tl
  · obtain ⟨m1, C1, X1, f1, g1⟩ := sp117_k (Ln := Ln) (xs := xs) (u := u) (lm := lm) h0 hC hX hl hx c
    obtain ⟨m2, M2, Y2, e8, f2, g2⟩ := sp198_k (Ln := Ln) (xs := xs) (u := u) (lm := ml_sj lm 81 0 (nI (s_fin tx σ tl).2).toInt64) (M_up f1 hM) (Y_up f1 hY) h0 hl hx c
    exact pair_k (s_fin_ok h0 (s_wh_ne7 c)) (s_push_ok hss h0 hX.1.1) ht hτ (by omega) (fun k hk => by omega) C1 X1 f1 M2 Y2 e8 f2 z1 z2 (wk116 g1) g2
  · obtain ⟨m2, M2, Y2, e8, f2, g2⟩ := sp198_a (Ln := Ln) (xs := xs) (u := (u.1, u.2.1 + 1, u.2.2 + 6)) (lm := lm) hM hY hl hx c
    exact ⟨_, _, _, _, _, 1, nI 0, ⟨_, _, _, _, _, _, _, h0, hss, ht, hτ, hl, hx, RepC_of hC (fun a _ h2 => f2 a (by omega)), RepX_of hX (fun a ha => f2 a (by omega)), M2, Y2, by rw [f2 79 (by decide)]; exact z1, by rw [f2 80 (by decide)]; exact z2⟩, Or.inr rfl, by decide, e8, fun e => absurd e (by decide), we116_0 (fun Φ => sp117_a hl hX.2.2.2.1 hX.2.2.2.2 hx c), g2⟩
theorem pr_13 (h : INVs m σ n ss t τ tl tx) : s_pair Ln xs 121 [.ref 1, .ref 81, mj_hole] 200 [.ref 72] u m lm := by
  have H := h
  obtain ⟨h0, hss, ht, hτ, hl, hx, hC, hX, hM, hY, z1, z2⟩ := h
  rcases (show t = 0 ∨ t = 1 by omega) with rfl | rfl
  · exact pair_e H (Or.inl rfl) (we121_1 (fun Φ => sp122_s hX)) (fun u Φ => sp200_s hY)
  · obtain ⟨m1, C1, X1, f1, g1⟩ := sp122_k (Ln := Ln) (xs := xs) (u := u) (lm := lm) h0 (hτ rfl) hC hX
    obtain ⟨m2, M2, Y2, e8, f2, g2⟩ := sp200_k (Ln := Ln) (xs := xs) (u := u) (lm := ml_sj lm 81 0 (nI (s_tot τ)).toInt64) (M_up f1 hM) (Y_up f1 hY) (hτ rfl)
    exact pair_k (hτ rfl) (s_push_ok hss h0 hX.1.1) ht hτ hl hx C1 X1 f1 M2 Y2 e8 f2 z1 z2 (wk121 g1) g2
theorem pr_14 (h : INVs m σ n ss t τ tl tx) : s_pair Ln xs 123 [.ref 1, .ref 81, mj_hole] 201 [.ref 72] u m lm := by
  have H := h
  obtain ⟨h0, hss, ht, hτ, hl, hx, hC, hX, hM, hY, z1, z2⟩ := h
  cases n with
  | zero => exact pair_e H (Or.inl rfl) (we123_1 (fun Φ => sp124_s hX)) (fun u Φ => sp201_s hY)
  | succ n =>
    obtain ⟨m1, C1, X1, f1, g1⟩ := sp124_k (Ln := Ln) (xs := xs) (u := u) (lm := lm) (hss n (by omega)) hX
    obtain ⟨m2, M2, Y2, e8, f2, g2⟩ := sp201_k (Ln := Ln) (xs := xs) (u := u) (lm := ml_sj lm 81 0 (nI n).toInt64) (Y_up f1 hY)
    exact pair_k (hss n (by omega)) (fun j hj => hss j (by omega)) ht hτ hl hx C1 X1 f1 M2 Y2 e8 f2 z1 z2 (wk123 g1) g2
theorem pr_15 (h : INVs m σ n ss t τ tl tx) : s_pair Ln xs 126 [.ref 1, .int x, .int y, .ref 81, mj_hole] 202 [.ref 72, .int x, .int y] u m lm := by
  have H := h
  obtain ⟨h0, hss, ht, hτ, hl, hx, hC, hX, hM, hY, z1, z2⟩ := h
  have hT := s_tot_le h0
  by_cases c : x < nI 0 ∨ nI (s_tot σ) ≤ x
  · exact pair_e H (Or.inl rfl) (we126_2 (fun Φ => sp127_i hC c)) (fun u Φ => sp202_i hM h0 c)
  · obtain ⟨k, hk, rfl⟩ := s_lt_ex (by omega) c
    by_cases c2 : y < nI 0 ∨ nI 3 < y
    · exact pair_e H (Or.inr rfl) (we126_0 (fun Φ => sp127_a h0 hC hk c2)) (fun u Φ => sp202_a hM h0 hk c2)
    · obtain ⟨w, hw, rfl⟩ := s_le_ex (by decide) c2
      obtain ⟨m1, f1, g1⟩ := sp127_k (Ln := Ln) (xs := xs) (u := u) (lm := lm) h0 hC hk hw
      exact pair_l8 H f1 (wk126 g1) (fun M1 _ Φ => sp202_k M1 h0 hk hw)
theorem pr_16 (h : INVs m σ n ss t τ tl tx) : s_pair Ln xs 128 [.ref 1, .int x, .int y, .ref 81, mj_hole] 205 [.ref 72, .int x, .int y] u m lm := by
  have H := h
  obtain ⟨h0, hss, ht, hτ, hl, hx, hC, hX, hM, hY, z1, z2⟩ := h
  have k0 := h0.1
  by_cases c : x < nI 0 ∨ nI (σ 0) ≤ x
  · exact pair_e H (Or.inl rfl) (we128_2 (fun Φ => sp129_i hC c)) (fun u Φ => sp205_i hM h0 c)
  · obtain ⟨k, hk, rfl⟩ := s_lt_ex (by omega) c
    by_cases c2 : y < nI 0 ∨ nI 9 < y
    · exact pair_e H (Or.inr rfl) (we128_0 (fun Φ => sp129_a h0 hC hk c2)) (fun u Φ => sp205_a hM h0 hk c2)
    · obtain ⟨w, hw, rfl⟩ := s_le_ex (by decide) c2
      obtain ⟨m1, f1, g1⟩ := sp129_k (Ln := Ln) (xs := xs) (u := u) (lm := lm) h0 hC hk hw
      exact pair_l8 H f1 (wk128 g1) (fun M1 _ Φ => sp205_k M1 h0 hk hw)
theorem pr_17 (h : INVs m σ n ss t τ tl tx) : s_pair Ln xs 130 [.ref 1, .int x, .int y, .ref 81, mj_hole] 207 [.ref 72, .int x, .int y] u m lm := by
  have H := h
  obtain ⟨h0, hss, ht, hτ, hl, hx, hC, hX, hM, hY, z1, z2⟩ := h
  have k0 := h0.1
  by_cases c : x < nI 0 ∨ nI (σ 0) ≤ x
  · exact pair_e H (Or.inl rfl) (we130_2 (fun Φ => sp131_i hC c)) (fun u Φ => sp207_i hM h0 c)
  · obtain ⟨k, hk, rfl⟩ := s_lt_ex (by omega) c
    by_cases c2 : y < nI 0 ∨ nI 4 < y
    · exact pair_e H (Or.inr rfl) (we130_0 (fun Φ => sp131_a h0 hC hk c2)) (fun u Φ => sp207_a hM h0 hk c2)
    · obtain ⟨w, hw, rfl⟩ := s_le_ex (by decide) c2
      obtain ⟨m1, f1, g1⟩ := sp131_k (Ln := Ln) (xs := xs) (u := u) (lm := lm) h0 hC hk hw
      exact pair_l8 H f1 (wk130 g1) (fun M1 _ Φ => sp207_k M1 h0 hk hw)
theorem pr_18 (h : INVs m σ n ss t τ tl tx) : s_pair Ln xs 132 [.ref 1, .int x, .int y, .ref 81, mj_hole] 208 [.ref 72, .int x, .int y] u m lm := by
  have H := h
  obtain ⟨h0, hss, ht, hτ, hl, hx, hC, hX, hM, hY, z1, z2⟩ := h
  have k0 := h0.1
  by_cases c : x < nI 0 ∨ nI (σ 0) ≤ x
  · exact pair_e H (Or.inl rfl) (we132_2 (fun Φ => sp133_i hC c)) (fun u Φ => sp208_i hM h0 c)
  · obtain ⟨b, hb, rfl⟩ := s_lt_ex (by omega) c
    by_cases c2 : y < nI 0
    · exact pair_e H (Or.inr rfl) (we132_0 (fun Φ => sp133_a h0 hC hb c2)) (fun u Φ => sp208_a hM h0 hb c2)
    · obtain ⟨k, hk, rfl⟩ := s_0_ex c2
      obtain ⟨m1, f1, g1⟩ := sp133_k (Ln := Ln) (xs := xs) (u := u) (lm := lm) h0 hC hb hk
      have f : ∀ a, 72 ≤ a → m1 a = m a := fun a ha => f1 a (by omega)
      obtain ⟨m2, M2, Y2, e8, f2, g2⟩ := sp208_k (Ln := Ln) (xs := xs) (u := u) (lm := ml_sj lm 81 0 (if k < (s_bits σ b).1 then nI ((s_bits σ b).2 k) else -1).toInt64) (M_up f hM) (Y_up f hY) h0 hb hk
      exact pair_l H f1 M2 Y2 e8 f2 (wk132 g1) g2
theorem pr_19 (h : INVs m σ n ss t τ tl tx) : s_pair Ln xs 134 [.ref 1, .int y, .ref 81, mj_hole] 214 [.ref 72, .int y] u m lm := by
  have H := h
  obtain ⟨h0, hss, ht, hτ, hl, hx, hC, hX, hM, hY, z1, z2⟩ := h
  by_cases c : y < nI 0 ∨ nI 8 < y
  · exact pair_e H (Or.inl rfl) (we134_0 (fun Φ => sp135_a c)) (fun u Φ => sp214_a c)
  · obtain ⟨w, hw, rfl⟩ := s_le_ex (by decide) c
    obtain ⟨m1, f1, g1⟩ := sp135_k (Ln := Ln) (xs := xs) (u := u) (lm := lm) h0 hC hX.1.2.1 hw
    exact pair_l8 H f1 (wk134 g1) (fun M1 Y1 Φ => sp214_k M1 h0 Y1.2.1 hw)
theorem pr_20 (h : INVs m σ n ss t τ tl tx) : s_pair Ln xs 136 [.ref 1, .int x, .ref 81, mj_hole] 219 [.ref 72, .int x] u m lm := by
  have H := h
  obtain ⟨h0, hss, ht, hτ, hl, hx, hC, hX, hM, hY, z1, z2⟩ := h
  by_cases c : x < nI 0 ∨ nI 3 ≤ x
  · exact pair_e H (Or.inl rfl) (we136_2 (fun Φ => sp137_i c)) (fun u Φ => sp219_i c)
  · obtain ⟨w, hw, rfl⟩ := s_lt_ex (by decide) c
    exact pair_l8 H (fun _ _ => rfl) (wk136 (fun Φ => sp137_k hC hw)) (fun M1 Y1 Φ => sp219_k M1 hw)
theorem pr_21 (h : INVs m σ n ss t τ tl tx) : s_pair Ln xs 138 [.ref 1, .int x, .int y, .int z, .ref 81, mj_hole] 220 [.ref 72, .int x, .int y, .int z] u m lm := by
  have H := h
  obtain ⟨h0, hss, ht, hτ, hl, hx, hC, hX, hM, hY, z1, z2⟩ := h
  by_cases c : x < nI 0 ∨ nI 999 < x
  · exact pair_e H (Or.inl rfl) (we138_0 (fun Φ => sp139_a c)) (fun u Φ => sp220_a c)
  · obtain ⟨p, hp, rfl⟩ := s_le_ex (by decide) c
    by_cases c2 : y < nI 0 ∨ nI 999 < y
    · exact pair_e H (Or.inl rfl) (we138_0 (fun Φ => sp139_b hp c2)) (fun u Φ => sp220_b hp c2)
    · obtain ⟨q, hq, rfl⟩ := s_le_ex (by decide) c2
      by_cases c3 : z < nI 0 ∨ nI 3 < z
      · exact pair_e H (Or.inl rfl) (we138_0 (fun Φ => sp139_c hp hq c3)) (fun u Φ => sp220_c hp hq c3)
      · obtain ⟨w, hw, rfl⟩ := s_le_ex (by decide) c3
        obtain ⟨m1, f1, g1⟩ := sp139_k (Ln := Ln) (xs := xs) (u := u) (lm := lm) h0 hC hp hq hw
        exact pair_l8 H f1 (wk138 g1) (fun M1 Y1 Φ => sp220_k M1 h0 hp hq hw)
theorem pr_22 (h : INVs m σ n ss t τ tl tx) : s_pair Ln xs 141 [.ref 1, .int x, .int y, .int z, .ref 81, mj_hole] 223 [.ref 72, .int x, .int y, .int z, mj_hole, mj_hole, mj_hole] u m lm := by
  have H := h
  obtain ⟨h0, hss, ht, hτ, hl, hx, hC, hX, hM, hY, z1, z2⟩ := h
  have hT := s_tot_le h0
  by_cases c : x < nI 0 ∨ nI (s_tot σ) ≤ x
  · exact pair_e H (Or.inl rfl) (we141_2 (fun Φ => sp142_i hC c)) (fun u Φ => sp223_i hM h0 c)
  · obtain ⟨k, hk, rfl⟩ := s_lt_ex (by omega) c
    by_cases c2 : y < nI 0 ∨ nI 999 < y
    · exact pair_e H (Or.inr rfl) (we141_0 (fun Φ => sp142_a h0 hC hk c2)) (fun u Φ => sp223_a hM h0 hk c2)
    · obtain ⟨v, hv, rfl⟩ := s_le_ex (by decide) c2
      by_cases c3 : z < nI 0 ∨ nI 1 < z
      · exact pair_e H (Or.inr rfl) (we141_0 (fun Φ => sp142_b h0 hC hk hv c3)) (fun u Φ => sp223_b hM h0 hk hv c3)
      · obtain ⟨w, hw, rfl⟩ := s_le_ex (by decide) c3
        obtain ⟨m1, f1, g1⟩ := sp142_k (Ln := Ln) (xs := xs) (u := u) (lm := lm) h0 hC hk hv hw
        have f : ∀ a, 72 ≤ a → m1 a = m a := fun a ha => f1 a (by omega)
        obtain ⟨m2, M2, Y2, e8, f2, g2⟩ := sp223_k (Ln := Ln) (xs := xs) (u := u) (lm := ml_sj lm 81 0 (if w = 0 then nI (s_oc σ k v) else s_mr σ k v).toInt64) (M_up f hM) (Y_up f hY) h0 hk hv hw
        exact pair_l H f1 M2 Y2 e8 f2 (wk141 g1) g2
theorem pr_23 (h : INVs m σ n ss t τ tl tx) : s_pair Ln xs 144 [.ref 1, .int x, .ref 81, mj_hole] 224 [.ref 72, .int x] u m lm := by
  have H := h
  obtain ⟨h0, hss, ht, hτ, hl, hx, hC, hX, hM, hY, z1, z2⟩ := h
  have k0 := h0.1
  by_cases c : x < nI 0 ∨ nI (σ 0) ≤ x
  · exact pair_e H (Or.inl rfl) (we144_2 (fun Φ => sp145_i hC c)) (fun u Φ => sp224_i hM h0 c)
  · obtain ⟨b, hb, rfl⟩ := s_lt_ex (by omega) c
    obtain ⟨m1, f1, g1⟩ := sp145_k (Ln := Ln) (xs := xs) (u := u) (lm := lm) h0 hC hb
    exact pair_l8 H f1 (wk144 g1) (fun M1 Y1 Φ => sp224_k M1 h0 hb)
theorem pr_24 (h : INVs m σ n ss t τ tl tx) : s_pair Ln xs 146 [.ref 1, .int y, .ref 81, mj_hole] 226 [.ref 72, .int y] u m lm := by
  have H := h
  obtain ⟨h0, hss, ht, hτ, hl, hx, hC, hX, hM, hY, z1, z2⟩ := h
  by_cases c : y < nI 0 ∨ nI 2 < y
  · exact pair_e H (Or.inl rfl) (we146_0 (fun Φ => sp147_a c)) (fun u Φ => sp226_a c)
  · obtain ⟨w, hw, rfl⟩ := s_le_ex (by decide) c
    obtain ⟨m1, f1, g1⟩ := sp147_k (Ln := Ln) (xs := xs) (u := u) (lm := lm) h0 hC hw
    have f : ∀ a, 72 ≤ a → m1 a = m a := fun a ha => f1 a (by omega)
    obtain ⟨m2, M2, Y2, d1, d2, e8, f2, g2⟩ := sp226_k (Ln := Ln) (xs := xs) (u := u) (lm := ml_sj lm 81 0 (nI (s_lt σ w)).toInt64) (M_up f hM) (Y_up f hY) h0 (by rw [f 79 (by decide)]; exact z1) (by rw [f 80 (by decide)]; exact z2) hw
    exact ⟨_, _, _, _, _, 0, nI (s_lt σ w), ⟨_, _, _, _, _, _, _, h0, hss, ht, hτ, hl, hx, RepC_of hC (fun a _ h2 => by rw [f2 a (by omega), f1 a (by omega)]), RepX_of hX (fun a ha => by rw [f2 a (by omega), f1 a (by omega)]), M2, Y2, d1, d2⟩, Or.inl rfl, by decide, e8, fun _ => sj_81, wk146 g1, g2⟩
end PAIRS
