/-! ===== parting: the Model ===== -/
/-- the weights of the values ahead of t -/
def s_F (σ : s_S) : Nat → Nat := s_fw (s_w σ) (s_tot σ) (s_tot σ)
theorem s_F_mm {σ : s_S} (h0 : s_ok σ) {t : Nat} (ht : t ≤ s_tot σ) : s_mm (s_w σ) 0 t (s_F σ t) := (s_fw_v (s_w_ok h0) (s_tot_le h0) (s_tot σ) (Nat.le_refl _)).1 t ht
/-- the offers for t, by the lengths of the last block -/
def s_fx (σ : s_S) (t : Nat) : Nat → Nat := fun l => s_F σ (t - (l + 1)) + s_w σ (t - (l + 1)) (l + 1)
theorem s_fx_b {σ : s_S} (h0 : s_ok σ) {t l : Nat} (ht : t ≤ s_tot σ) (hl : l < 16) (hlt : l + 1 ≤ t) : ∃ n q, s_fx σ t l = 1000 * q + n ∧ n < 999 ∧ 7 ≤ q ∧ q ≤ 300000 := by
  have hT := s_tot_le h0
  obtain ⟨n, q, b1, b2, b3, b4, b5⟩ := s_mm_b (s_w_ok h0) (show t - (l + 1) ≤ s_tot σ by omega) (s_F_mm h0 (show t - (l + 1) ≤ s_tot σ by omega))
  obtain ⟨q2, c1, c2, c3⟩ := s_w_ok h0 (t - (l + 1)) (l + 1) (by omega) (by omega) (by omega)
  refine ⟨n + 1, q + q2, ?_, by omega, by omega, by omega⟩
  unfold s_fx
  omega
theorem s_fx_mi {σ : s_S} (h0 : s_ok σ) {t : Nat} (ht : t ≤ s_tot σ) : ∀ l, l < 16 → l + 1 ≤ t → ∃ n q, s_mi 1000000000 (s_fx σ t) (l + 1) = 1000 * q + n ∧ n < 999 ∧ 7 ≤ q ∧ q ≤ 300000
  | 0, hl, hlt => by
    obtain ⟨n, q, b1, b2, b3, b4⟩ := s_fx_b h0 ht hl hlt
    refine ⟨n, q, ?_, b2, b3, b4⟩
    rw [s_mi, s_mi, if_pos (by omega), b1]
  | l + 1, hl, hlt => by
    obtain ⟨n, q, b1, b2, b3, b4⟩ := s_fx_b h0 ht hl hlt
    have ih := s_fx_mi h0 ht l (by omega) (by omega)
    rw [s_mi]
    split
    · exact ⟨n, q, b1, b2, b3, b4⟩
    · exact ih
theorem s_fx_F {σ : s_S} (h0 : s_ok σ) {t : Nat} (h1 : 0 < t) (ht : t ≤ s_tot σ) : s_mi 1000000000 (s_fx σ t) (s_mn t) = s_F σ t := by
  have hmn := s_mn_le t
  have hmn2 : ∀ l, 1 ≤ l → l ≤ 16 → l ≤ t → l - 1 < s_mn t := fun l a b c => by
    unfold s_mn
    split <;> omega
  have hle := s_mi_le (x0 := 1000000000) (x := s_fx σ t) (s_mn t)
  refine s_mm_u (s_mm_l (A := s_w σ) (B := s_F σ) h1 (fun l a b c => s_F_mm h0 (by omega)) ?_ (fun l a b c => ?_)) (s_F_mm h0 ht)
  · rcases s_mi_at (x0 := 1000000000) (x := s_fx σ t) (s_mn t) with k | ⟨j, k1, k2⟩
    · have k3 := hle.2 0 (by have := hmn2 1 (Nat.le_refl _) (by decide) (by omega); omega)
      obtain ⟨n, q, b1, b2, b3, b4⟩ := s_fx_b h0 ht (l := 0) (by decide) (by omega)
      rw [k] at k3
      omega
    · exact ⟨j + 1, by omega, by omega, by omega, k2⟩
  · have e := hle.2 (l - 1) (hmn2 l a b c)
    unfold s_fx at e
    rw [show l - 1 + 1 = l by omega] at e
    exact e
section CPB
variable {Ln : Nat} {xs : Nat → Int32} {u : mj_U} {m : ml_M} {lm : ml_J} {Φ : mj_R → mj_W → Prop} {σ τ : s_S} {n t tl v k b w T i : Nat} {y z : Int32}
/-- the rows of the Model up to t, and l offers for t -/
def RF (m : ml_M) (σ : s_S) (t l : Nat) : Prop := (∀ j, j < t → m 79 j = nI (s_F σ j / 1000) ∧ m 80 j = nI (s_F σ j % 1000)) ∧ (l = 0 → m 79 t = nI 0) ∧ (0 < l → m 79 t = nI (s_mi 1000000000 (s_fx σ t) l / 1000) ∧ m 80 t = nI (s_mi 1000000000 (s_fx σ t) l % 1000))
theorem sp228_i (h0 : s_ok σ) (ht0 : 0 < t) (ht : t ≤ s_tot σ) {x1 : Int32} : ∀ (d l : Nat) (m : ml_M) (v4 v5 v6 v7 : Value), l + d = s_mn t → (∀ k, k < 251 → m 73 k = nI (σ k)) → RF m σ t l → ∃ m', RF m' σ t (s_mn t) ∧ (∀ a, a ≠ 79 → a ≠ 80 → m' a = m a) ∧ ∃ w4 w5 w6 w7, ∀ Φ : mj_R → mj_W → Prop, wp Ln xs 228 21 [.ref 72, .int x1, .int (nI t), .int (nI (l + 1)), v4, v5, v6, v7] [] (u, ml_h m lm) Φ = wp Ln xs 228 174 [.ref 72, .int x1, .int (nI t), .int (nI (s_mn t + 1)), w4, w5, w6, w7] [] (u, ml_h m' lm) Φ
  | 0, l, m, v4, v5, v6, v7, h, hM, hR => by
    have hT := s_tot_le h0
    have hmn := s_mn_le t
    obtain rfl : l = s_mn t := by omega
    refine ⟨m, hR, fun _ _ _ => rfl, v4, v5, v6, v7, fun Φ => ?_⟩
    rw [x228_21]
    by_cases c : 16 < s_mn t + 1
    · rw [if_pos (nI_lt c (by omega))]
    · rw [if_neg (nI_nlt (by omega) (by decide)), x228_27, if_pos (nI_lt (by
        have : s_mn t = t := by
          unfold s_mn at c ⊢
          split at c
          · rw [if_pos (by assumption)]
          · omega
        omega) (by omega))]
  | d + 1, l, m, v4, v5, v6, v7, h, hM, hR => by
    have hT := s_tot_le h0
    have hmn := s_mn_le t
    have h4 := h0.2.2.2.2.2.2.2.2.1
    have hv : ∀ j, j < l + 1 → s_fv σ (t - (l + 1)) j ≤ 999 := fun j hj => h0.2.2.2.1 _ (by omega)
    have hli := s_li_le (σ 4) (s_sz (s_fv σ (t - (l + 1))) (l + 1)) 4
    have hsz := s_sz_le (f := s_fv σ (t - (l + 1))) (n := l + 1) (fo := s_li (σ 4) (s_sz (s_fv σ (t - (l + 1))) (l + 1)) 4) (by omega) (by omega) hv
    obtain ⟨n1, q1, a1, a2, a3, a4⟩ := s_fx_b h0 ht (l := l) (by omega) (by omega)
    obtain ⟨e79, e80⟩ := hR.1 (t - (l + 1)) (by omega)
    have hdm := Nat.div_add_mod (s_F σ (t - (l + 1))) 1000
    have hfx : s_fx σ t l = s_F σ (t - (l + 1)) + (1000 * (7 + s_sz (s_fv σ (t - (l + 1))) (l + 1) (s_li (σ 4) (s_sz (s_fv σ (t - (l + 1))) (l + 1)) 4)) + 1) := rfl
    obtain ⟨nF, qF, f1, f2, f3, f4, f5⟩ := s_mm_b (s_w_ok h0) (show t - (l + 1) ≤ s_tot σ by omega) (s_F_mm h0 (show t - (l + 1) ≤ s_tot σ by omega))
    have d1 : s_F σ (t - (l + 1)) / 1000 = qF := by omega
    have d2 : s_F σ (t - (l + 1)) % 1000 = nF := by omega
    have hfx2 : s_fx σ t l = 1000 * (qF + s_sz (s_fv σ (t - (l + 1))) (l + 1) (s_li (σ 4) (s_sz (s_fv σ (t - (l + 1))) (l + 1)) 4) + 7) + (nF + 1) := by omega
    have d3 : s_fx σ t l / 1000 = qF + s_sz (s_fv σ (t - (l + 1))) (l + 1) (s_li (σ 4) (s_sz (s_fv σ (t - (l + 1))) (l + 1)) 4) + 7 := by
      rw [hfx2]
      omega
    have d4 : s_fx σ t l % 1000 = nF + 1 := by
      rw [hfx2]
      omega
    have eits : s_F σ (t - (l + 1)) / 1000 + s_sz (s_fv σ (t - (l + 1))) (l + 1) (s_li (σ 4) (s_sz (s_fv σ (t - (l + 1))) (l + 1)) 4) + 7 = s_fx σ t l / 1000 := by rw [d1, d3]
    have eblk : s_F σ (t - (l + 1)) % 1000 + 1 = s_fx σ t l % 1000 := by rw [d2, d4]
    have start : ∀ Φ : mj_R → mj_W → Prop, wp Ln xs 228 21 [.ref 72, .int x1, .int (nI t), .int (nI (l + 1)), v4, v5, v6, v7] [] (u, ml_h m lm) Φ = if m 79 t = nI 0 then wp Ln xs 228 117 [.ref 72, .int x1, .int (nI t), .int (nI (l + 1)), .int (nI (t - (l + 1))), .int (nI (s_fx σ t l / 1000)), .int (nI (s_fx σ t l % 1000)), v7] [] (u, ml_h m lm) Φ else wp Ln xs 228 84 [.ref 72, .int x1, .int (nI t), .int (nI (l + 1)), .int (nI (t - (l + 1))), .int (nI (s_fx σ t l / 1000)), .int (nI (s_fx σ t l % 1000)), v7] [] (u, ml_h m lm) Φ := fun Φ => by
      rw [x228_21, if_neg (nI_nlt (by omega) (by decide)), x228_27, if_neg (nI_nlt (by omega) (by omega)), x228_32, pk_sub (by omega), x228_43 (by omega), e79, sp163 hM (by omega) (by omega) (by omega) hv (by omega), mk_v, x228_52, sp164 hM (by omega) (by omega) (by omega) hv hli, mk_v, x228_58, nI_add, nI_add, eits, x228_70 (by omega), e80, nI_add, eblk, x228_80 (by omega)]
    have yes : ∀ Φ : mj_R → mj_W → Prop, wp Ln xs 228 117 [.ref 72, .int x1, .int (nI t), .int (nI (l + 1)), .int (nI (t - (l + 1))), .int (nI (s_fx σ t l / 1000)), .int (nI (s_fx σ t l % 1000)), v7] [] (u, ml_h m lm) Φ = wp Ln xs 228 21 [.ref 72, .int x1, .int (nI t), .int (nI (l + 1 + 1)), .int (nI (t - (l + 1))), .int (nI (s_fx σ t l / 1000)), .int (nI (s_fx σ t l % 1000)), .int (nI 1)] [] (u, ml_h (ml_s (ml_s m 79 t (nI (s_fx σ t l / 1000))) 80 t (nI (s_fx σ t l % 1000))) lm) Φ := fun Φ => by
      rw [x228_117, x228_122, if_neg s_10, x228_134, x228_145 (by omega), if_neg s_10, x228_156, x228_167 (by omega), nI_add]
    have no : ∀ Φ : mj_R → mj_W → Prop, wp Ln xs 228 121 [.ref 72, .int x1, .int (nI t), .int (nI (l + 1)), .int (nI (t - (l + 1))), .int (nI (s_fx σ t l / 1000)), .int (nI (s_fx σ t l % 1000)), v7] [] (u, ml_h m lm) Φ = wp Ln xs 228 21 [.ref 72, .int x1, .int (nI t), .int (nI (l + 1 + 1)), .int (nI (t - (l + 1))), .int (nI (s_fx σ t l / 1000)), .int (nI (s_fx σ t l % 1000)), .int (nI 0)] [] (u, ml_h m lm) Φ := fun Φ => by
      have e1 : ml_s (ml_s m 79 t (m 79 t)) 80 t (m 80 t) = m := by
        funext a j
        rw [ml_s_eq, ml_s_eq]
        by_cases c : a = 80 ∧ j = t
        · rw [if_pos c, c.1, c.2]
        · rw [if_neg c]
          by_cases c2 : a = 79 ∧ j = t
          · rw [if_pos c2, c2.1, c2.2]
          · rw [if_neg c2]
      rw [x228_121, x228_122, if_pos rfl, x228_139, x228_144 (by omega), x228_145 (by omega), if_pos rfl, x228_161, x228_166 (by omega), ml_s_a (by decide), x228_167 (by omega), e1, nI_add]
    have yesR : (l = 0 ∨ s_fx σ t l < s_mi 1000000000 (s_fx σ t) l) → RF (ml_s (ml_s m 79 t (nI (s_fx σ t l / 1000))) 80 t (nI (s_fx σ t l % 1000))) σ t (l + 1) := fun hc => by
      have e : s_mi 1000000000 (s_fx σ t) (l + 1) = s_fx σ t l := by
        rw [s_mi]
        rcases hc with c | c
        · subst c
          rw [s_mi, if_pos (by omega)]
        · rw [if_pos c]
      refine ⟨fun j hj => ?_, fun z => absurd z (Nat.succ_ne_zero l), fun _ => ?_⟩
      · rw [ml_s_a (by decide), ml_s_k (by omega), ml_s_k (by omega), ml_s_a (by decide)]
        exact hR.1 j hj
      · rw [e, ml_s_a (by decide), ml_s_s, ml_s_s]
        exact ⟨rfl, rfl⟩
    have hM2 : ∀ k, k < 251 → ml_s (ml_s m 79 t (nI (s_fx σ t l / 1000))) 80 t (nI (s_fx σ t l % 1000)) 73 k = nI (σ k) := s_hF hM (by rw [ml_s_row (by decide), ml_s_row (by decide)])
    by_cases hl0 : l = 0
    · obtain ⟨m', g1, g2, w4, w5, w6, w7, g3⟩ := sp228_i h0 ht0 ht (x1 := x1) d (l + 1) _ (.int (nI (t - (l + 1)))) (.int (nI (s_fx σ t l / 1000))) (.int (nI (s_fx σ t l % 1000))) (.int (nI 1)) (by omega) hM2 (yesR (Or.inl hl0))
      refine ⟨m', g1, fun a ha hb => by rw [g2 a ha hb, ml_s_row hb, ml_s_row ha], w4, w5, w6, w7, fun Φ => ?_⟩
      rw [start, hR.2.1 hl0, if_pos rfl, yes]
      exact g3 Φ
    · obtain ⟨l', hl'⟩ : ∃ l', l = l' + 1 := ⟨l - 1, by omega⟩
      obtain ⟨n2, q2, b1, b2, b3, b4⟩ := s_fx_mi h0 ht l' (by omega) (by omega)
      rw [← hl'] at b1
      obtain ⟨m79, m80⟩ := hR.2.2 (by omega)
      have e2 : s_mi 1000000000 (s_fx σ t) (l + 1) = if s_fx σ t l < s_mi 1000000000 (s_fx σ t) l then s_fx σ t l else s_mi 1000000000 (s_fx σ t) l := rfl
      by_cases hc : s_fx σ t l < s_mi 1000000000 (s_fx σ t) l
      · obtain ⟨m', g1, g2, w4, w5, w6, w7, g3⟩ := sp228_i h0 ht0 ht (x1 := x1) d (l + 1) _ (.int (nI (t - (l + 1)))) (.int (nI (s_fx σ t l / 1000))) (.int (nI (s_fx σ t l % 1000))) (.int (nI 1)) (by omega) hM2 (yesR (Or.inr hc))
        refine ⟨m', g1, fun a ha hb => by rw [g2 a ha hb, ml_s_row hb, ml_s_row ha], w4, w5, w6, w7, fun Φ => ?_⟩
        have to117 : ∀ Φ : mj_R → mj_W → Prop, wp Ln xs 228 84 [.ref 72, .int x1, .int (nI t), .int (nI (l + 1)), .int (nI (t - (l + 1))), .int (nI (s_fx σ t l / 1000)), .int (nI (s_fx σ t l % 1000)), v7] [] (u, ml_h m lm) Φ = wp Ln xs 228 117 [.ref 72, .int x1, .int (nI t), .int (nI (l + 1)), .int (nI (t - (l + 1))), .int (nI (s_fx σ t l / 1000)), .int (nI (s_fx σ t l % 1000)), v7] [] (u, ml_h m lm) Φ := fun Φ => by
          rw [x228_84, x228_91 (by omega), m79]
          by_cases c1 : s_fx σ t l / 1000 < s_mi 1000000000 (s_fx σ t) l / 1000
          · rw [if_pos (nI_lt c1 (by omega))]
          · rw [if_neg (nI_nlt (by omega) (by omega)), x228_95, x228_102 (by omega), m79, show s_fx σ t l / 1000 = s_mi 1000000000 (s_fx σ t) l / 1000 by omega, if_neg (fun z => z rfl), x228_106, x228_113 (by omega), m80, if_neg (nI_ge (by omega) (by omega))]
        rw [start, m79, if_neg (by rw [nI_eq (by omega) (by omega)]; omega), to117, yes]
        exact g3 Φ
      · rw [if_neg hc] at e2
        obtain ⟨m', g1, g2, w4, w5, w6, w7, g3⟩ := sp228_i h0 ht0 ht (x1 := x1) d (l + 1) m (.int (nI (t - (l + 1)))) (.int (nI (s_fx σ t l / 1000))) (.int (nI (s_fx σ t l % 1000))) (.int (nI 0)) (by omega) hM ⟨hR.1, fun z => absurd z (Nat.succ_ne_zero l), fun _ => by rw [e2]; exact ⟨m79, m80⟩⟩
        refine ⟨m', g1, g2, w4, w5, w6, w7, fun Φ => ?_⟩
        have to121 : ∀ Φ : mj_R → mj_W → Prop, wp Ln xs 228 84 [.ref 72, .int x1, .int (nI t), .int (nI (l + 1)), .int (nI (t - (l + 1))), .int (nI (s_fx σ t l / 1000)), .int (nI (s_fx σ t l % 1000)), v7] [] (u, ml_h m lm) Φ = wp Ln xs 228 121 [.ref 72, .int x1, .int (nI t), .int (nI (l + 1)), .int (nI (t - (l + 1))), .int (nI (s_fx σ t l / 1000)), .int (nI (s_fx σ t l % 1000)), v7] [] (u, ml_h m lm) Φ := fun Φ => by
          rw [x228_84, x228_91 (by omega), m79, if_neg (nI_nlt (by omega) (by omega)), x228_95, x228_102 (by omega), m79]
          by_cases c1 : s_fx σ t l / 1000 = s_mi 1000000000 (s_fx σ t) l / 1000
          · rw [c1, if_neg (fun z => z rfl), x228_106, x228_113 (by omega), m80, if_pos (nI_le (by omega) (by omega))]
          · rw [if_pos (by rw [nI_eq (by omega) (by omega)]; exact c1)]
        rw [start, m79, if_neg (by rw [nI_eq (by omega) (by omega)]; omega), to121, no]
        exact g3 Φ
theorem sp228_l (h0 : s_ok σ) : ∀ (d t : Nat) (m : ml_M) (v3 v4 v5 v6 v7 : Value), t + 1 + d = s_tot σ + 1 → (∀ k, k < 251 → m 73 k = nI (σ k)) → (∀ j, j < t + 1 → m 79 j = nI (s_F σ j / 1000) ∧ m 80 j = nI (s_F σ j % 1000)) → ∃ m', (∀ j, j < s_tot σ + 1 → m' 79 j = nI (s_F σ j / 1000) ∧ m' 80 j = nI (s_F σ j % 1000)) ∧ (∀ a, a ≠ 79 → a ≠ 80 → m' a = m a) ∧ ∀ Φ : mj_R → mj_W → Prop, wp Ln xs 228 7 [.ref 72, .int (nI (s_tot σ)), .int (nI (t + 1)), v3, v4, v5, v6, v7] [] (u, ml_h m lm) Φ = Φ (.inl none) (u, ml_h m' lm)
  | 0, t, m, v3, v4, v5, v6, v7, h, hM, hR => by
    have hT := s_tot_le h0
    obtain rfl : t = s_tot σ := by omega
    refine ⟨m, hR, fun _ _ _ => rfl, fun Φ => ?_⟩
    rw [x228_7, if_pos (nI_lt (by omega) (by omega)), x228_180]
  | d + 1, t, m, v3, v4, v5, v6, v7, h, hM, hR => by
    have hT := s_tot_le h0
    have hR1 : RF (ml_s m 79 (t + 1) (nI 0)) σ (t + 1) 0 := ⟨fun j hj => by rw [ml_s_k (by omega), ml_s_a (by decide)]; exact hR j hj, fun _ => ml_s_s _ _ _ _, fun z => absurd z (Nat.lt_irrefl 0)⟩
    have hmn := s_mn_le (t + 1)
    have hmn0 : 0 < s_mn (t + 1) := by
      unfold s_mn
      split <;> omega
    obtain ⟨m1, r1, f1, w4, w5, w6, w7, g1⟩ := sp228_i (Ln := Ln) (xs := xs) (u := u) (lm := lm) h0 (show 0 < t + 1 by omega) (show t + 1 ≤ s_tot σ by omega) (x1 := nI (s_tot σ)) (s_mn (t + 1)) 0 _ v4 v5 v6 v7 (by omega) (s_hF hM (ml_s_row (by decide))) hR1
    have e := r1.2.2 hmn0
    rw [s_fx_F h0 (show 0 < t + 1 by omega) (show t + 1 ≤ s_tot σ by omega)] at e
    obtain ⟨m2, r2, f2, g2⟩ := sp228_l h0 d (t + 1) m1 (.int (nI (s_mn (t + 1) + 1))) w4 w5 w6 w7 (by omega) (s_hF hM (by rw [f1 73 (by decide) (by decide), ml_s_row (by decide)])) (fun j hj => by
      by_cases c : j = t + 1
      · rw [c]
        exact e
      · exact r1.1 j (by omega))
    refine ⟨m2, r2, fun a ha hb => by rw [f2 a ha hb, f1 a ha hb, ml_s_row ha], fun Φ => ?_⟩
    rw [x228_7, if_neg (nI_nlt (by omega) (by omega)), x228_12, x228_18 (by omega)]
    refine (g1 Φ).trans ?_
    rw [x228_174, nI_add]
    exact g2 Φ
theorem s_F_0 {σ : s_S} (h0 : s_ok σ) : s_F σ 0 = 0 := s_mm_u (s_F_mm h0 (Nat.zero_le _)) (s_mm_0 _ 0)
theorem sp227 (hM : ∀ k, k < 251 → m 73 k = nI (σ k)) (h0 : s_ok σ) (h1 : m 79 0 = nI 0) (h2 : m 80 0 = nI 0) (hw : w ≤ 2) : ∃ m', m' 79 0 = nI 0 ∧ m' 80 0 = nI 0 ∧ (∀ a, a ≠ 79 → a ≠ 80 → m' a = m a) ∧ ∀ Φ : mj_R → mj_W → Prop, wp Ln xs 227 0 [.ref 72, .int (nI w)] [] (u, ml_h m lm) Φ = Φ (.inl (some (.int (nI (s_lt σ w))))) (u, ml_h m' lm) := by
  have hT := s_tot_le h0
  obtain ⟨m1, r1, f1, g1⟩ := sp228_l (Ln := Ln) (xs := xs) (u := u) (lm := lm) h0 (s_tot σ) 0 m mj_hole mj_hole mj_hole mj_hole mj_hole (by omega) hM (fun j hj => by
    obtain rfl : j = 0 := by omega
    rw [s_F_0 h0, h1, h2]
    exact ⟨rfl, rfl⟩)
  obtain ⟨a1, a2⟩ := r1 0 (by omega)
  rw [s_F_0 h0] at a1 a2
  obtain ⟨b1, b2⟩ := r1 (s_tot σ) (by omega)
  have hM1 := s_hF hM (f1 73 (by decide) (by decide))
  refine ⟨m1, a1, a2, f1, fun Φ => ?_⟩
  have eK : s_F σ (s_tot σ) = s_K σ := rfl
  rw [eK] at b1 b2
  rw [x227_0, x228_0, sp158 hM h0.1, mk_v, x228_4]
  refine (g1 _).trans ?_
  rw [mk_n, x227_4]
  unfold s_lt
  by_cases c : w = 2
  · rw [c, if_neg (fun z => z rfl), x227_9, sp158 hM1 h0.1, mk_v, x227_17 (by omega), b2, if_pos rfl]
  · rw [if_pos (by rw [nI_eq (by omega) (by decide)]; exact c), x227_21, sp158 hM1 h0.1, mk_v, x227_29 (by omega), b1, if_neg c]
theorem sp226_a (h : y < nI 0 ∨ nI 2 < y) : wp Ln xs 226 0 [.ref 72, .int y] [] (u, ml_h m lm) Φ = Φ (.inl (some (.int (nI 0)))) (u, ml_h (ml_s m 72 8 (nI 1)) lm) := by
  rw [x226_0, sp152_f h, mk_v, x226_7, if_pos rfl, x226_14, x226_15, sp154_e s_10, mk_v, x226_18, if_pos rfl, x226_29]
theorem sp226_k {ss : Nat → s_S} {tx : Nat → Nat} (hM : ∀ k, k < 251 → m 73 k = nI (σ k)) (hy : RepY m n ss t τ tl tx) (h0 : s_ok σ) (h1 : m 79 0 = nI 0) (h2 : m 80 0 = nI 0) (hw : w ≤ 2) : ∃ m', (∀ k, k < 251 → m' 73 k = nI (σ k)) ∧ RepY m' n ss t τ tl tx ∧ m' 79 0 = nI 0 ∧ m' 80 0 = nI 0 ∧ m' 72 8 = nI 0 ∧ (∀ a, a < 72 ∨ 80 < a → m' a = m a) ∧ ∀ Φ : mj_R → mj_W → Prop, wp Ln xs 226 0 [.ref 72, .int (nI w)] [] (u, ml_h m lm) Φ = Φ (.inl (some (.int (nI (s_lt σ w))))) (u, ml_h m' lm) := by
  have hM8 := s_h8 (v := nI 0) hM
  obtain ⟨m1, a1, a2, f1, g1⟩ := sp227 (Ln := Ln) (xs := xs) (u := u) (lm := lm) hM8 h0 (by rw [ml_s_a (by decide)]; exact h1) (by rw [ml_s_a (by decide)]; exact h2) hw
  have hy8 : RepY (ml_s m 72 8 (nI 0)) n ss t τ tl tx := RepY_8 hy
  have f72 := f1 72 (by decide) (by decide)
  refine ⟨m1, s_hF hM8 (f1 73 (by decide) (by decide)), RepY_of hy8 (by rw [f72]) (by rw [f72]) (by rw [f72]) (f1 74 (by decide) (by decide)) (f1 75 (by decide) (by decide)) (f1 77 (by decide) (by decide)), a1, a2, by rw [f72, ml_s_s], fun a ha => by rw [f1 a (by omega) (by omega), ml_s_row (by omega)], fun Φ => ?_⟩
  rw [x226_0, sp152_t (Nat.zero_le _) hw (by decide), mk_v, x226_7, if_neg s_10, x226_10, x226_15, sp154_k, mk_v, x226_18, if_neg s_10, x226_21, g1, mk_v, x226_26]
end CPB
