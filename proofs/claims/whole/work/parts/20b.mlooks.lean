/-! ===== looks: the Model ===== -/
section LKB
variable {Ln : Nat} {xs : Nat → Int32} {u : mj_U} {m : ml_M} {lm : ml_J} {Φ : mj_R → mj_W → Prop} {σ τ : s_S} {n t tl v k b w : Nat} {ss : Nat → s_S} {tx : Nat → Nat} {x y z : Int32}
theorem s_h8 {v : Int32} (hM : ∀ k, k < 251 → m 73 k = nI (σ k)) : ∀ k, k < 251 → ml_s m 72 8 v 73 k = nI (σ k) := s_hF hM (ml_s_row (by decide))
theorem sp216_l (hM : ∀ k, k < 251 → m 73 k = nI (σ k)) (h0 : σ 0 ≤ 12) : ∀ d b, b + d = σ 0 → wp Ln xs 216 12 [.ref 72, .int (nI (s_sum (s_rom σ) b + 7 * b + 10 * σ 1)), .int (nI b)] [] (u, ml_h m lm) Φ = Φ (.inl (some (.int (nI (s_wg σ))))) (u, ml_h m lm)
  | 0, b, h => by
    obtain rfl : b = σ 0 := by omega
    rw [x216_12, hM 0 (by decide), if_pos (nI_le (Nat.le_refl _) (by omega)), x216_43]
    rfl
  | d + 1, b, h => by
    have e31 : m 73 (31 + b) = nI (s_rom σ b) := hM _ (by omega)
    have ih := sp216_l hM h0 d (b + 1) (by omega)
    have e : s_sum (s_rom σ) b + 7 * b + 10 * σ 1 + (s_rom σ b + 7) = s_sum (s_rom σ) (b + 1) + 7 * (b + 1) + 10 * σ 1 := by
      rw [s_sum]
      omega
    rw [x216_12, hM 0 (by decide), if_neg (nI_ge (by omega) (by omega)), x216_22, nI_add, x216_31 (by omega), e31, nI_add, nI_add, nI_add, e]
    exact ih
theorem sp216 (hM : ∀ k, k < 251 → m 73 k = nI (σ k)) (h0 : σ 0 ≤ 12) : wp Ln xs 216 0 [.ref 72, mj_hole, mj_hole] [] (u, ml_h m lm) Φ = Φ (.inl (some (.int (nI (s_wg σ))))) (u, ml_h m lm) := by
  have h := sp216_l (Ln := Ln) (xs := xs) (u := u) (lm := lm) (Φ := Φ) hM h0 (σ 0) 0 (by omega)
  rw [show s_sum (s_rom σ) 0 + 7 * 0 + 10 * σ 1 = 10 * σ 1 by rw [s_sum]; omega] at h
  rw [x216_0, hM 1 (by decide), pk_mul]
  exact h
theorem sp217_l (hM : ∀ k, k < 251 → m 73 k = nI (σ k)) (h0 : s_ok σ) : ∀ d b, b + d = σ 0 → wp Ln xs 217 4 [.ref 72, .int (nI (s_sum (s_rom σ) b) - nI (s_sum (s_ub σ) b)), .int (nI b)] [] (u, ml_h m lm) Φ = Φ (.inl (some (.int (nI (s_sum (s_rom σ) (σ 0)) - nI (s_sum (s_ub σ) (σ 0)))))) (u, ml_h m lm)
  | 0, b, h => by
    obtain rfl : b = σ 0 := by omega
    rw [x217_4, hM 0 (by decide), if_pos (nI_le (Nat.le_refl _) (by have := h0.1; omega)), x217_38]
  | d + 1, b, h => by
    have k0 := h0.1
    have hb : b < σ 0 := by omega
    have hT := s_tot_le h0
    have hend := s_end_le hb
    have l := h0.2.2.1 b hb
    have hv := s_blf_le (s_oke_of (fun _ => False) h0) hb
    have e31 : m 73 (31 + b) = nI (s_rom σ b) := hM _ (by omega)
    have ih := sp217_l hM h0 d (b + 1) (by omega)
    rw [x217_4, hM 0 (by decide), if_neg (nI_ge (by omega) (by omega)), x217_14, nI_add, x217_23 (by omega), e31, sp173 hM (by omega) (by omega) l.2.1 (by omega) hv l.2.2.1, mk_v, x217_29, s_sub4, nI_add, nI_add, nI_add]
    exact ih
theorem sp217 (hM : ∀ k, k < 251 → m 73 k = nI (σ k)) (h0 : s_ok σ) : wp Ln xs 217 0 [.ref 72, mj_hole, mj_hole] [] (u, ml_h m lm) Φ = Φ (.inl (some (.int (nI (s_sum (s_rom σ) (σ 0)) - nI (s_sum (s_ub σ) (σ 0)))))) (u, ml_h m lm) := by
  have h := sp217_l (Ln := Ln) (xs := xs) (u := u) (lm := lm) (Φ := Φ) hM h0 (σ 0) 0 (by omega)
  rw [show nI (s_sum (s_rom σ) 0) - nI (s_sum (s_ub σ) 0) = nI 0 from Int32.sub_self _] at h
  rw [x217_0]
  exact h
theorem sp218_l (hM : ∀ k, k < 251 → m 73 k = nI (σ k)) (h0 : s_ok σ) : ∀ d k, k + d = s_tot σ → wp Ln xs 218 4 [.ref 72, .int (nI (s_sum (s_val σ) k)), .int (nI k)] [] (u, ml_h m lm) Φ = Φ (.inl (some (.int (nI (s_sum (s_val σ) (s_tot σ)))))) (u, ml_h m lm)
  | 0, k, h => by
    have hT := s_tot_le h0
    obtain rfl : k = s_tot σ := by omega
    rw [x218_4, sp158 hM h0.1, mk_v, x218_9, if_pos (nI_le (Nat.le_refl _) (by omega)), x218_30]
  | d + 1, k, h => by
    have hT := s_tot_le h0
    have e : m 73 (43 + k) = nI (s_val σ k) := hM _ (by omega)
    rw [x218_4, sp158 hM h0.1, mk_v, x218_9, if_neg (nI_ge (by omega) (by omega)), x218_12, nI_add, x218_21 (by omega), e, nI_add, nI_add]
    exact sp218_l hM h0 d (k + 1) (by omega)
theorem sp218 (hM : ∀ k, k < 251 → m 73 k = nI (σ k)) (h0 : s_ok σ) : wp Ln xs 218 0 [.ref 72, mj_hole, mj_hole] [] (u, ml_h m lm) Φ = Φ (.inl (some (.int (nI (s_sum (s_val σ) (s_tot σ)))))) (u, ml_h m lm) := by
  rw [x218_0]
  exact sp218_l hM h0 (s_tot σ) 0 (by omega)
theorem sp215 (hM : ∀ k, k < 251 → m 73 k = nI (σ k)) (h0 : s_ok σ) (hn : m 72 2 = nI n) (hw : w ≤ 8) : wp Ln xs 215 0 [.ref 72, .int (nI w)] [] (u, ml_h m lm) Φ = Φ (.inl (some (.int (s_cn σ n w)))) (u, ml_h m lm) := by
  have : w = 0 ∨ w = 1 ∨ w = 2 ∨ w = 3 ∨ w = 4 ∨ w = 5 ∨ w = 6 ∨ w = 7 ∨ w = 8 := by omega
  rcases this with rfl | rfl | rfl | rfl | rfl | rfl | rfl | rfl | rfl
  · rw [x215_0, x215_1_0, x215_48, sp158 hM h0.1, mk_v, x215_52]
    rfl
  · rw [x215_0, x215_1_1, x215_53, pk_sub (by decide), x215_60 (by decide), hM _ (by decide)]
    rfl
  · rw [x215_0, x215_1_2, x215_53, pk_sub (by decide), x215_60 (by decide), hM _ (by decide)]
    rfl
  · rw [x215_0, x215_1_3, x215_62, sp216 hM h0.1, mk_v, x215_66]
    rfl
  · rw [x215_0, x215_1_4, x215_67, hM _ (by decide)]
    rfl
  · rw [x215_0, x215_1_5, x215_74, hM _ (by decide)]
    rfl
  · rw [x215_0, x215_1_6, x215_82, sp217 hM h0, mk_v, x215_86]
    rfl
  · rw [x215_0, x215_1_7, x215_87, sp218 hM h0, mk_v, x215_91]
    rfl
  · rw [x215_0, x215_1_8, x215_92, hn]
    rfl
theorem sp204 (hM : ∀ k, k < 251 → m 73 k = nI (σ k)) (h0 : s_ok σ) (hk : k < s_tot σ) : wp Ln xs 204 0 [.ref 72, .int (nI k), mj_hole, mj_hole, mj_hole] [] (u, ml_h m lm) Φ = Φ (.inl (some (.int (nI (s_lk σ k))))) (u, ml_h m lm) := by
  have k0 := h0.1
  have hT := s_tot_le h0
  have hle := s_bk_le σ k
  have hst := s_start_le h0 k hk
  rw [x204_0, sp177 hM h0 (by omega), mk_v, x204_5, sp159 hM (by omega), mk_v, x204_11, hM 0 (by decide)]
  unfold s_lk
  by_cases c : s_bk σ k = σ 0
  · rw [c, if_neg (fun z => z rfl), x204_22, x204_35, if_pos (by decide), x204_56, if_pos (by decide), x204_70, if_pos (by decide), x204_80, if_pos rfl]
  · have hb : s_bk σ k < σ 0 := by omega
    have hend := s_end_le hb
    obtain ⟨i1, i2⟩ := s_bk_in hb
    have l := h0.2.2.1 _ hb
    have hv := s_blf_le (s_oke_of (fun _ => False) h0) hb
    have e19 : m 73 (19 + s_bk σ k) = nI (s_frm σ (s_bk σ k)) := hM _ (by omega)
    rw [if_pos (by rw [nI_eq (by omega) (by omega)]; exact c), x204_26, nI_add, x204_34 (by omega), e19, if_neg c]
    generalize s_bk σ k = B at *
    have : s_frm σ B = 0 ∨ s_frm σ B = 1 ∨ s_frm σ B = 2 ∨ s_frm σ B = 3 ∨ s_frm σ B = 4 := by omega
    rcases this with e | e | e | e | e
    · rw [e, x204_35, if_pos (by decide), x204_56, if_pos (by decide), x204_70, if_pos (by decide), x204_80]
      rfl
    · rw [e, x204_35, if_pos (by decide), x204_56, if_pos (by decide), x204_70, if_pos (by decide), x204_80]
      rfl
    · rw [e, x204_35, if_neg (fun z => z rfl), x204_43, pk_sub hst, nI_add, sp168 (a := s_sum (s_len σ) B) hM (by omega) (by omega) (fun i hi => hv i (by omega)), mk_v, x204_53]
      rfl
    · rw [e, x204_35, if_pos (by decide), x204_56, if_neg (fun z => z rfl), x204_62, pk_sub hst, nI_add]
      rfl
    · rw [e, x204_35, if_pos (by decide), x204_56, if_pos (by decide), x204_70, if_neg (fun z => z rfl), x204_76]
      rfl
theorem sp203 (hM : ∀ k, k < 251 → m 73 k = nI (σ k)) (h0 : s_ok σ) (hk : k < s_tot σ) (hw : w ≤ 3) : wp Ln xs 203 0 [.ref 72, .int (nI k), .int (nI w), mj_hole] [] (u, ml_h m lm) Φ = Φ (.inl (some (.int (s_vt σ k w)))) (u, ml_h m lm) := by
  have k0 := h0.1
  have hT := s_tot_le h0
  have hle := s_bk_le σ k
  have hst := s_start_le h0 k hk
  rw [x203_0, sp177 hM h0 (by omega), mk_v, x203_5]
  have : w = 0 ∨ w = 1 ∨ w = 2 ∨ w = 3 := by omega
  rcases this with rfl | rfl | rfl | rfl
  · rw [x203_7_0, x203_32, nI_add, x203_40 (by omega), hM _ (by omega)]
    rfl
  · have e : s_vt σ k 1 = if s_bk σ k = σ 0 then -1 else nI (s_bk σ k) := rfl
    rw [e, x203_7_1, x203_42, hM 0 (by decide)]
    by_cases c : s_bk σ k = σ 0
    · rw [c, if_neg (fun z => z rfl), x203_52, if_pos rfl]
    · rw [if_pos (by rw [nI_eq (by omega) (by omega)]; exact c), x203_56, if_neg c]
  · rw [x203_7_2, x203_58, sp159 hM (by omega), mk_v, x203_64, pk_sub hst]
    rfl
  · rw [x203_7_3, x203_66, sp204 hM h0 hk, mk_v, x203_71]
    rfl
theorem sp206 (hM : ∀ k, k < 251 → m 73 k = nI (σ k)) (h0 : s_ok σ) (hb : b < σ 0) (hw : w ≤ 9) : wp Ln xs 206 0 [.ref 72, .int (nI b), .int (nI w), mj_hole, mj_hole] [] (u, ml_h m lm) Φ = Φ (.inl (some (.int (nI (s_bt σ b w))))) (u, ml_h m lm) := by
  have k0 := h0.1
  have hT := s_tot_le h0
  have hend := s_end_le hb
  have l := h0.2.2.1 b hb
  have hv := s_blf_le (s_oke_of (fun _ => False) h0) hb
  have e7 : m 73 (7 + b) = nI (s_len σ b) := hM _ (by omega)
  have k5 := h0.2.2.2.2
  rw [x206_0, sp159 hM (by omega), mk_v, x206_5, nI_add, x206_14 (by omega), e7]
  have : w = 0 ∨ w = 1 ∨ w = 2 ∨ w = 3 ∨ w = 4 ∨ w = 5 ∨ w = 6 ∨ w = 7 ∨ w = 8 ∨ w = 9 := by omega
  rcases this with rfl | rfl | rfl | rfl | rfl | rfl | rfl | rfl | rfl | rfl
  · rw [x206_18_0, x206_68, nI_add, x206_76 (by omega), hM _ (by omega)]
    rfl
  · rw [x206_18_1, x206_78]
    rfl
  · rw [x206_18_2, x206_81, sp173 hM (by omega) (by omega) l.2.1 (by omega) hv l.2.2.1, mk_v, x206_86]
    rfl
  · rw [x206_18_3, x206_87, nI_add, x206_95 (by omega), hM _ (by omega)]
    rfl
  · rw [x206_18_4, x206_97, sp166 (a := s_sum (s_len σ) b) hM (by omega) (by omega) hv, mk_v, x206_104]
    rfl
  · rw [x206_18_5, x206_105, sp165 (a := s_sum (s_len σ) b) hM (by omega) (by omega) hv, mk_v, x206_112]
    rfl
  · rw [x206_18_6, x206_113, sp168 (a := s_sum (s_len σ) b) hM (by omega) (by omega) hv, mk_v, x206_120]
    rfl
  · rw [x206_18_7, x206_121, sp171 (a := s_sum (s_len σ) b) hM (by omega) hv, mk_v, x206_128]
    rfl
  · rw [x206_18_8, x206_129, sp162 (a := s_sum (s_len σ) b) hM (by omega) l.2.1 (by omega) hv (by omega) (by omega) (by omega), mk_v, x206_136]
    rfl
  · rw [x206_18_9, x206_137]
    rfl
theorem s_gn_le {p q : Nat} (hr : s_rom σ b ≤ 1000) (hp : s_rr (σ 2) (σ 4) (s_blf σ b) (s_len σ b) p ≤ 2000) (hq : s_rr (σ 2) (σ 4) (s_blf σ b) (s_len σ b) q ≤ 2000) : s_gn σ b p ≤ s_gn σ b q ↔ s_rr (σ 2) (σ 4) (s_blf σ b) (s_len σ b) q ≤ s_rr (σ 2) (σ 4) (s_blf σ b) (s_len σ b) p := by
  unfold s_gn
  rw [Int32.sub_sub, Int32.sub_sub, nI_add, nI_add, Int32.le_iff_toInt_le, pk_sub_toInt (by omega) (by omega), pk_sub_toInt (by omega) (by omega)]
  omega
theorem sp225_l (hM : ∀ k, k < 251 → m 73 k = nI (σ k)) (h0 : s_ok σ) (hb : b < σ 0) : ∀ d q, q + 1 + d = s_len σ b → wp Ln xs 225 4 [.ref 72, .int (nI b), .int (s_m1 (s_bp (s_rr (σ 2) (σ 4) (s_blf σ b) (s_len σ b)) q)), .int (nI (q + 1))] [] (u, ml_h m lm) Φ = Φ (.inl (some (.int (s_m1 (s_bs σ b))))) (u, ml_h m lm)
  | 0, q, h => by
    have k0 := h0.1
    have l := h0.2.2.1 b hb
    have e7 : m 73 (7 + b) = nI (s_len σ b) := hM _ (by omega)
    have e : q = s_len σ b - 1 := by omega
    rw [x225_4, nI_add, x225_13 (by omega), e7, if_pos (nI_le (by omega) (by omega)), x225_49, e]
    rfl
  | d + 1, q, h => by
    have k0 := h0.1
    have l := h0.2.2.1 b hb
    have hv := s_blf_le (s_oke_of (fun _ => False) h0) hb
    have e7 : m 73 (7 + b) = nI (s_len σ b) := hM _ (by omega)
    have ih := sp225_l hM h0 hb d (q + 1) (by omega)
    have hq := s_bp_le (s_rr (σ 2) (σ 4) (s_blf σ b) (s_len σ b)) q
    have hz := s_rr_le (sa := σ 2) (al := σ 4) (f := s_blf σ b) (p := q + 1) l.2.1 (by omega) (by omega) hv
    rw [s_bp] at ih
    rw [x225_4, nI_add, x225_13 (by omega), e7, if_neg (nI_ge (by omega) (by omega)), x225_17]
    by_cases c : s_bp (s_rr (σ 2) (σ 4) (s_blf σ b) (s_len σ b)) q = 0
    · rw [c] at ih ⊢
      rw [if_pos (Or.inl rfl)] at ih
      rw [if_pos (show s_m1 0 = -1 from rfl), x225_37, x225_42, nI_add]
      have e : s_m1 (q + 1) = nI (q + 1) := if_neg (by omega)
      rw [e] at ih
      exact ih
    · have hz2 := s_rr_le (sa := σ 2) (al := σ 4) (f := s_blf σ b) (p := s_bp (s_rr (σ 2) (σ 4) (s_blf σ b) (s_len σ b)) q) l.2.1 (by omega) (by omega) hv
      have em : s_m1 (s_bp (s_rr (σ 2) (σ 4) (s_blf σ b) (s_len σ b)) q) = nI (s_bp (s_rr (σ 2) (σ 4) (s_blf σ b) (s_len σ b)) q) := if_neg c
      rw [em]
      rw [if_neg (s_nm1 (by omega)), x225_22, sp183 hM h0 hb (by omega) (by omega), mk_v, x225_28, sp183 hM h0 hb (by omega) (by omega), mk_v, x225_34]
      have hg := s_gn_le (σ := σ) (b := b) (p := q + 1) (q := s_bp (s_rr (σ 2) (σ 4) (s_blf σ b) (s_len σ b)) q) l.2.2.2 hz hz2
      by_cases c2 : s_rr (σ 2) (σ 4) (s_blf σ b) (s_len σ b) (q + 1) < s_rr (σ 2) (σ 4) (s_blf σ b) (s_len σ b) (s_bp (s_rr (σ 2) (σ 4) (s_blf σ b) (s_len σ b)) q)
      · rw [if_pos (Or.inr c2)] at ih
        rw [if_neg (fun z => by have := hg.mp z; omega), x225_37, x225_42, nI_add]
        have e : s_m1 (q + 1) = nI (q + 1) := if_neg (by omega)
        rw [e] at ih
        exact ih
      · rw [if_neg (fun z => z.elim c c2), em] at ih
        rw [if_pos (hg.mpr (by omega)), x225_41, x225_42, nI_add]
        exact ih
theorem sp225 (hM : ∀ k, k < 251 → m 73 k = nI (σ k)) (h0 : s_ok σ) (hb : b < σ 0) : wp Ln xs 225 0 [.ref 72, .int (nI b), mj_hole, mj_hole] [] (u, ml_h m lm) Φ = Φ (.inl (some (.int (s_m1 (s_bs σ b))))) (u, ml_h m lm) := by
  have l := h0.2.2.1 b hb
  rw [x225_0]
  exact sp225_l hM h0 hb (s_len σ b - 1) 0 (by omega)
/-! the calls -/
theorem sp202_i (hM : ∀ k, k < 251 → m 73 k = nI (σ k)) (h0 : s_ok σ) (h : x < nI 0 ∨ nI (s_tot σ) ≤ x) : wp Ln xs 202 0 [.ref 72, .int x, .int y] [] (u, ml_h m lm) Φ = Φ (.inl (some (.int (nI 0)))) (u, ml_h (ml_s m 72 8 (nI 1)) lm) := by
  have hT := s_tot_le h0
  rw [x202_0, sp158 hM h0.1, mk_v, x202_7, sp152_f (s_in_pr (by omega) h), mk_v, x202_12, if_neg (fun z => z rfl), x202_15, x202_33, sp154_e s_10, mk_v, x202_36, if_pos rfl, x202_48]
theorem sp202_a (hM : ∀ k, k < 251 → m 73 k = nI (σ k)) (h0 : s_ok σ) (hk : k < s_tot σ) (h : y < nI 0 ∨ nI 3 < y) : wp Ln xs 202 0 [.ref 72, .int (nI k), .int y] [] (u, ml_h m lm) Φ = Φ (.inl (some (.int (nI 0)))) (u, ml_h (ml_s m 72 8 (nI 2)) lm) := by
  have hT := s_tot_le h0
  rw [x202_0, sp158 hM h0.1, mk_v, x202_7, pk_sub (by omega), sp152_t (Nat.zero_le _) (by omega) (by omega), mk_v, x202_12, if_pos s_10, x202_19, sp152_f h, mk_v, x202_25, if_neg (fun z => z rfl), x202_28, x202_33, sp154_e (by decide), mk_v, x202_36, if_pos rfl, x202_48]
theorem sp202_k (hM : ∀ k, k < 251 → m 73 k = nI (σ k)) (h0 : s_ok σ) (hk : k < s_tot σ) (hw : w ≤ 3) : wp Ln xs 202 0 [.ref 72, .int (nI k), .int (nI w)] [] (u, ml_h m lm) Φ = Φ (.inl (some (.int (s_vt σ k w)))) (u, ml_h (ml_s m 72 8 (nI 0)) lm) := by
  have hT := s_tot_le h0
  rw [x202_0, sp158 hM h0.1, mk_v, x202_7, pk_sub (by omega), sp152_t (Nat.zero_le _) (by omega) (by omega), mk_v, x202_12, if_pos s_10, x202_19, sp152_t (Nat.zero_le _) hw (by decide), mk_v, x202_25, if_pos s_10, x202_32, x202_33, sp154_k, mk_v, x202_36, if_neg s_10, x202_39, sp203 (s_h8 hM) h0 hk hw, mk_v, x202_45]
theorem sp205_i (hM : ∀ k, k < 251 → m 73 k = nI (σ k)) (h0 : s_ok σ) (h : x < nI 0 ∨ nI (σ 0) ≤ x) : wp Ln xs 205 0 [.ref 72, .int x, .int y] [] (u, ml_h m lm) Φ = Φ (.inl (some (.int (nI 0)))) (u, ml_h (ml_s m 72 8 (nI 1)) lm) := by
  rw [x205_0, sp179_f hM h0.1 h, mk_v, x205_6, if_neg (fun z => z rfl), x205_9, x205_28, sp154_e s_10, mk_v, x205_31, if_pos rfl, x205_43]
theorem sp205_a (hM : ∀ k, k < 251 → m 73 k = nI (σ k)) (h0 : s_ok σ) (hb : b < σ 0) (h : y < nI 0 ∨ nI 9 < y) : wp Ln xs 205 0 [.ref 72, .int (nI b), .int y] [] (u, ml_h m lm) Φ = Φ (.inl (some (.int (nI 0)))) (u, ml_h (ml_s m 72 8 (nI 2)) lm) := by
  rw [x205_0, sp179_t hM h0.1 hb, mk_v, x205_6, if_pos s_10, x205_13, sp152_f h, mk_v, x205_20, if_neg (fun z => z rfl), x205_23, x205_28, sp154_e (by decide), mk_v, x205_31, if_pos rfl, x205_43]
theorem sp205_k (hM : ∀ k, k < 251 → m 73 k = nI (σ k)) (h0 : s_ok σ) (hb : b < σ 0) (hw : w ≤ 9) : wp Ln xs 205 0 [.ref 72, .int (nI b), .int (nI w)] [] (u, ml_h m lm) Φ = Φ (.inl (some (.int (nI (s_bt σ b w))))) (u, ml_h (ml_s m 72 8 (nI 0)) lm) := by
  rw [x205_0, sp179_t hM h0.1 hb, mk_v, x205_6, if_pos s_10, x205_13, sp152_t (Nat.zero_le _) hw (by decide), mk_v, x205_20, if_pos s_10, x205_27, x205_28, sp154_k, mk_v, x205_31, if_neg s_10, x205_34, sp206 (s_h8 hM) h0 hb hw, mk_v, x205_40]
theorem sp207_i (hM : ∀ k, k < 251 → m 73 k = nI (σ k)) (h0 : s_ok σ) (h : x < nI 0 ∨ nI (σ 0) ≤ x) : wp Ln xs 207 0 [.ref 72, .int x, .int y] [] (u, ml_h m lm) Φ = Φ (.inl (some (.int (nI 0)))) (u, ml_h (ml_s m 72 8 (nI 1)) lm) := by
  rw [x207_0, sp179_f hM h0.1 h, mk_v, x207_6, if_neg (fun z => z rfl), x207_9, x207_27, sp154_e s_10, mk_v, x207_30, if_pos rfl, x207_55]
theorem sp207_a (hM : ∀ k, k < 251 → m 73 k = nI (σ k)) (h0 : s_ok σ) (hb : b < σ 0) (h : y < nI 0 ∨ nI 4 < y) : wp Ln xs 207 0 [.ref 72, .int (nI b), .int y] [] (u, ml_h m lm) Φ = Φ (.inl (some (.int (nI 0)))) (u, ml_h (ml_s m 72 8 (nI 2)) lm) := by
  rw [x207_0, sp179_t hM h0.1 hb, mk_v, x207_6, if_pos s_10, x207_13, sp152_f h, mk_v, x207_19, if_neg (fun z => z rfl), x207_22, x207_27, sp154_e (by decide), mk_v, x207_30, if_pos rfl, x207_55]
theorem sp207_k (hM : ∀ k, k < 251 → m 73 k = nI (σ k)) (h0 : s_ok σ) (hb : b < σ 0) (hw : w ≤ 4) : wp Ln xs 207 0 [.ref 72, .int (nI b), .int (nI w)] [] (u, ml_h m lm) Φ = Φ (.inl (some (.int (nI (s_sz (s_blf σ b) (s_len σ b) w))))) (u, ml_h (ml_s m 72 8 (nI 0)) lm) := by
  have k0 := h0.1
  have hT := s_tot_le h0
  have hend := s_end_le hb
  have l := h0.2.2.1 b hb
  have hv := s_blf_le (s_oke_of (fun _ => False) h0) hb
  have hM8 := s_h8 (v := nI 0) hM
  have e7 : ml_s m 72 8 (nI 0) 73 (7 + b) = nI (s_len σ b) := hM8 _ (by omega)
  rw [x207_0, sp179_t hM h0.1 hb, mk_v, x207_6, if_pos s_10, x207_13, sp152_t (Nat.zero_le _) hw (by decide), mk_v, x207_19, if_pos s_10, x207_26, x207_27, sp154_k, mk_v, x207_30, if_neg s_10, x207_33, sp159 hM8 (by omega), mk_v, x207_40, nI_add, x207_48 (by omega), e7, sp164 (a := s_sum (s_len σ) b) hM8 (by omega) l.2.1 (by omega) hv hw, mk_v, x207_52]
  rfl
theorem sp214_a (h : y < nI 0 ∨ nI 8 < y) : wp Ln xs 214 0 [.ref 72, .int y] [] (u, ml_h m lm) Φ = Φ (.inl (some (.int (nI 0)))) (u, ml_h (ml_s m 72 8 (nI 1)) lm) := by
  rw [x214_0, sp152_f h, mk_v, x214_8, if_pos rfl, x214_15, x214_16, sp154_e s_10, mk_v, x214_19, if_pos rfl, x214_30]
theorem sp214_k (hM : ∀ k, k < 251 → m 73 k = nI (σ k)) (h0 : s_ok σ) (hn : m 72 2 = nI n) (hw : w ≤ 8) : wp Ln xs 214 0 [.ref 72, .int (nI w)] [] (u, ml_h m lm) Φ = Φ (.inl (some (.int (s_cn σ n w)))) (u, ml_h (ml_s m 72 8 (nI 0)) lm) := by
  rw [x214_0, sp152_t (Nat.zero_le _) hw (by decide), mk_v, x214_8, if_neg s_10, x214_11, x214_16, sp154_k, mk_v, x214_19, if_neg s_10, x214_22, sp215 (s_h8 hM) h0 (by rw [ml_s_k (by decide)]; exact hn) hw, mk_v, x214_27]
theorem sp219_i (h : x < nI 0 ∨ nI 3 ≤ x) : wp Ln xs 219 0 [.ref 72, .int x] [] (u, ml_h m lm) Φ = Φ (.inl (some (.int (nI 0)))) (u, ml_h (ml_s m 72 8 (nI 1)) lm) := by
  rw [x219_0, sp152_f (h.elim Or.inl (fun z => Or.inr (Int32.lt_of_lt_of_le (show nI 2 < nI 3 by decide) z))), mk_v, x219_7, if_pos rfl, x219_14, x219_15, sp154_e s_10, mk_v, x219_18, if_pos rfl, x219_32]
theorem sp219_k (hM : ∀ k, k < 251 → m 73 k = nI (σ k)) (hw : w < 3) : wp Ln xs 219 0 [.ref 72, .int (nI w)] [] (u, ml_h m lm) Φ = Φ (.inl (some (.int (nI (σ (2 + w)))))) (u, ml_h (ml_s m 72 8 (nI 0)) lm) := by
  rw [x219_0, sp152_t (Nat.zero_le _) (show w ≤ 2 by omega) (by decide), mk_v, x219_7, if_neg s_10, x219_10, x219_15, sp154_k, mk_v, x219_18, if_neg s_10, x219_21, nI_add, x219_28 (by omega), s_h8 hM _ (by omega)]
theorem sp224_i (hM : ∀ k, k < 251 → m 73 k = nI (σ k)) (h0 : s_ok σ) (h : x < nI 0 ∨ nI (σ 0) ≤ x) : wp Ln xs 224 0 [.ref 72, .int x] [] (u, ml_h m lm) Φ = Φ (.inl (some (.int (nI 0)))) (u, ml_h (ml_s m 72 8 (nI 1)) lm) := by
  rw [x224_0, sp179_f hM h0.1 h, mk_v, x224_6, if_pos rfl, x224_13, x224_14, sp154_e s_10, mk_v, x224_17, if_pos rfl, x224_28]
theorem sp224_k (hM : ∀ k, k < 251 → m 73 k = nI (σ k)) (h0 : s_ok σ) (hb : b < σ 0) : wp Ln xs 224 0 [.ref 72, .int (nI b)] [] (u, ml_h m lm) Φ = Φ (.inl (some (.int (s_m1 (s_bs σ b))))) (u, ml_h (ml_s m 72 8 (nI 0)) lm) := by
  rw [x224_0, sp179_t hM h0.1 hb, mk_v, x224_6, if_neg s_10, x224_9, x224_14, sp154_k, mk_v, x224_17, if_neg s_10, x224_20, sp225 (s_h8 hM) h0 hb, mk_v, x224_25]
theorem sp223_i (hM : ∀ k, k < 251 → m 73 k = nI (σ k)) (h0 : s_ok σ) (h : x < nI 0 ∨ nI (s_tot σ) ≤ x) : wp Ln xs 223 0 [.ref 72, .int x, .int y, .int z, mj_hole, mj_hole, mj_hole] [] (u, ml_h m lm) Φ = Φ (.inl (some (.int (nI 0)))) (u, ml_h (ml_s m 72 8 (nI 1)) lm) := by
  have hT := s_tot_le h0
  rw [x223_0, sp158 hM h0.1, mk_v, x223_7, sp152_f (s_in_pr (by omega) h), mk_v, x223_12, if_neg (fun z => z rfl), x223_15, x223_40, sp154_e s_10, mk_v, x223_43, if_neg (fun z => z rfl), x223_46]
theorem sp223_a (hM : ∀ k, k < 251 → m 73 k = nI (σ k)) (h0 : s_ok σ) (hk : k < s_tot σ) (h : y < nI 0 ∨ nI 999 < y) : wp Ln xs 223 0 [.ref 72, .int (nI k), .int y, .int z, mj_hole, mj_hole, mj_hole] [] (u, ml_h m lm) Φ = Φ (.inl (some (.int (nI 0)))) (u, ml_h (ml_s m 72 8 (nI 2)) lm) := by
  have hT := s_tot_le h0
  rw [x223_0, sp158 hM h0.1, mk_v, x223_7, pk_sub (by omega), sp152_t (Nat.zero_le _) (by omega) (by omega), mk_v, x223_12, if_pos s_10, x223_19, sp151_f h, mk_v, x223_23, if_pos rfl, x223_35, x223_40, sp154_e (by decide), mk_v, x223_43, if_neg (fun z => z rfl), x223_46]
theorem sp223_b (hM : ∀ k, k < 251 → m 73 k = nI (σ k)) (h0 : s_ok σ) (hk : k < s_tot σ) (hv : v ≤ 999) (h : z < nI 0 ∨ nI 1 < z) : wp Ln xs 223 0 [.ref 72, .int (nI k), .int (nI v), .int z, mj_hole, mj_hole, mj_hole] [] (u, ml_h m lm) Φ = Φ (.inl (some (.int (nI 0)))) (u, ml_h (ml_s m 72 8 (nI 2)) lm) := by
  have hT := s_tot_le h0
  rw [x223_0, sp158 hM h0.1, mk_v, x223_7, pk_sub (by omega), sp152_t (Nat.zero_le _) (by omega) (by omega), mk_v, x223_12, if_pos s_10, x223_19, sp151_t hv, mk_v, x223_23, if_neg s_10, x223_26, sp152_f h, mk_v, x223_32, if_neg (fun z => z rfl), x223_35, x223_40, sp154_e (by decide), mk_v, x223_43, if_neg (fun z => z rfl), x223_46]
theorem sp223_k (hM : ∀ k, k < 251 → m 73 k = nI (σ k)) (hy : RepY m n ss t τ tl tx) (h0 : s_ok σ) (hk : k < s_tot σ) (hv : v ≤ 999) (hw : w ≤ 1) : ∃ m', (∀ k, k < 251 → m' 73 k = nI (σ k)) ∧ RepY m' n ss t τ tl tx ∧ m' 72 8 = nI 0 ∧ (∀ a, a < 72 ∨ 78 < a → m' a = m a) ∧ ∀ Φ : mj_R → mj_W → Prop, wp Ln xs 223 0 [.ref 72, .int (nI k), .int (nI v), .int (nI w), mj_hole, mj_hole, mj_hole] [] (u, ml_h m lm) Φ = Φ (.inl (some (.int (if w = 0 then nI (s_oc σ k v) else s_mr σ k v)))) (u, ml_h m' lm) := by
  have hT := s_tot_le h0
  have hM1 : ∀ k, k < 251 → ml_cp (ml_s m 72 8 (nI 0)) 73 76 0 0 251 73 k = nI (σ k) := s_hF hM (by rw [ml_cp_n (by decide), ml_s_row (by decide)])
  obtain ⟨m2, hM2, f2, e2⟩ := sp176 (Ln := Ln) (xs := xs) (u := u) (lm := lm) hM1 h0 hk hv
  have f3 : ∀ a, a ≠ 72 → a ≠ 73 → a ≠ 76 → ml_cp m2 76 73 0 0 251 a = m a := fun a h1 h2 h3 => by rw [ml_cp_n h2, f2 a h2, ml_cp_n h3, ml_s_row h1]
  have f72 : ml_cp m2 76 73 0 0 251 72 = ml_s m 72 8 (nI 0) 72 := by rw [ml_cp_n (by decide), f2 72 (by decide), ml_cp_n (by decide)]
  have hr := (s_rp_ok (k := k) h0 hv).1
  refine ⟨ml_cp m2 76 73 0 0 251, fun j hj => ?_, RepY_of hy (by rw [f72, ml_s_k (by decide)]) (by rw [f72, ml_s_k (by decide)]) (by rw [f72, ml_s_k (by decide)]) (f3 74 (by decide) (by decide) (by decide)) (f3 75 (by decide) (by decide) (by decide)) (f3 77 (by decide) (by decide) (by decide)), by rw [f72, ml_s_s], fun a ha => f3 a (by omega) (by omega) (by omega), fun Φ => ?_⟩
  · have e := ml_cp_in (m := m2) (r := 76) (q := 73) (sp := 0) (dp := 0) hj
    rw [Nat.zero_add] at e
    have e9 := ml_cp_in (m := ml_s m 72 8 (nI 0)) (r := 73) (q := 76) (sp := 0) (dp := 0) hj
    rw [Nat.zero_add] at e9
    rw [e, f2 76 (by decide), e9, ml_s_a (by decide)]
    exact hM j hj
  · have start : wp Ln xs 223 0 [.ref 72, .int (nI k), .int (nI v), .int (nI w), mj_hole, mj_hole, mj_hole] [] (u, ml_h m lm) Φ = wp Ln xs 223 97 [.ref 72, .int (nI k), .int (nI v), .int (nI w), .int (nI (s_wg σ)), .int (nI (s_oc σ k v)), .int (nI (s_wg (s_rp σ k v)) - nI (s_wg σ))] [] (u, ml_h (ml_cp m2 76 73 0 0 251) lm) Φ := by
      rw [x223_0, sp158 hM h0.1, mk_v, x223_7, pk_sub (by omega), sp152_t (Nat.zero_le _) (by omega) (by omega), mk_v, x223_12, if_pos s_10, x223_19, sp151_t hv, mk_v, x223_23, if_neg s_10, x223_26, sp152_t (Nat.zero_le _) hw (by decide), mk_v, x223_32, if_pos s_10, x223_39, x223_40, sp154_k, mk_v, x223_43, if_pos s_10, x223_48, sp156 ml_ia_73 (by decide) ml_ia_76 (by decide) (by decide) (by rw [ml_n_73]; decide) (by rw [ml_n_76]; decide), mk_n, x223_61, sp216 hM1 h0.1, mk_v, x223_65, e2, mk_v, x223_73, sp216 hM2 hr, mk_v, x223_79, sp156 ml_ia_76 (by decide) ml_ia_73 (by decide) (by decide) (by rw [ml_n_76]; decide) (by rw [ml_n_73]; decide), mk_n]
    rw [start, x223_97]
    have hw2 : w = 0 ∨ w = 1 := by omega
    rcases hw2 with rfl | rfl
    · rw [if_neg (fun z => z rfl), x223_101, if_pos rfl]
    · rw [if_pos s_10, x223_106, if_neg (by decide)]
      rfl
end LKB
