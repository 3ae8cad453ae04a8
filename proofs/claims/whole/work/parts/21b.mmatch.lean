/-! ===== matching: the Model ===== -/
section MCB
variable {Ln : Nat} {xs : Nat → Int32} {u : mj_U} {m : ml_M} {lm : ml_J} {Φ : mj_R → mj_W → Prop} {σ τ : s_S} {n t tl v k b w p q : Nat} {y z y1 y2 x6 : Int32}
theorem sp222 (hM : ∀ k, k < 251 → m 73 k = nI (σ k)) (h0 : s_ok σ) (hb : b < σ 0) (hp : p ≤ 999) (hq : q ≤ 999) : wp Ln xs 222 0 [.ref 72, .int (nI b), .int (nI p), .int (nI q), mj_hole, mj_hole, mj_hole, mj_hole, mj_hole] [] (u, ml_h m lm) Φ = Φ (.inl (some (.int (nI (s_ls σ p q b))))) (u, ml_h m lm) := by
  have k0 := h0.1
  have hT := s_tot_le h0
  have hend := s_end_le hb
  have l := h0.2.2.1 b hb
  have hv := s_blf_le (s_oke_of (fun _ => False) h0) hb
  have hlo := s_lo_le (f := s_blf σ b) (s_len σ b) (hv 0 (by omega)) hv
  have hhi := s_hi_le (f := s_blf σ b) (s_len σ b) (hv 0 (by omega)) hv
  have e7 : m 73 (7 + b) = nI (s_len σ b) := hM _ (by omega)
  have e19 : m 73 (19 + b) = nI (s_frm σ b) := hM _ (by omega)
  have eb : s_fv σ (s_sum (s_len σ) b) = s_blf σ b := rfl
  rw [x222_0, sp159 hM (by omega), mk_v, x222_5, nI_add, x222_15 (by omega), e7, sp166 (a := s_sum (s_len σ) b) hM (by omega) (by omega) hv, mk_v, x222_26, sp165 (a := s_sum (s_len σ) b) hM (by omega) (by omega) hv, mk_v, x222_36, eb]
  unfold s_ls
  by_cases c1 : q < p
  · rw [if_pos (nI_lt c1 (by omega)), x222_67, if_pos (Or.inl c1)]
  · rw [if_neg (nI_nlt (by omega) (by omega)), x222_43]
    by_cases c2 : s_hi (s_blf σ b) (s_len σ b) < p
    · rw [if_pos (nI_lt c2 (by omega)), x222_67, if_pos (Or.inr (Or.inl c2))]
    · rw [if_neg (nI_nlt (by omega) (by omega)), x222_49]
      by_cases c3 : q < s_lo (s_blf σ b) (s_len σ b)
      · rw [if_pos (nI_lt c3 (by omega)), x222_67, if_pos (Or.inr (Or.inr (Or.inl c3)))]
      · rw [if_neg (nI_nlt (by omega) (by omega)), x222_55]
        have go : ¬ (p ≤ s_lo (s_blf σ b) (s_len σ b) ∧ s_hi (s_blf σ b) (s_len σ b) ≤ q) → wp Ln xs 222 69 [.ref 72, .int (nI b), .int (nI p), .int (nI q), .int (nI (s_sum (s_len σ) b)), .int (nI (s_len σ b)), .int (nI (s_lo (s_blf σ b) (s_len σ b))), .int (nI (s_hi (s_blf σ b) (s_len σ b))), mj_hole] [] (u, ml_h m lm) Φ = Φ (.inl (some (.int (nI (if q < p ∨ s_hi (s_blf σ b) (s_len σ b) < p ∨ q < s_lo (s_blf σ b) (s_len σ b) ∨ (p ≤ s_lo (s_blf σ b) (s_len σ b) ∧ s_hi (s_blf σ b) (s_len σ b) ≤ q) then 1 else 1 + (if s_frm σ b = 2 then s_rn (s_blf σ b) (s_len σ b) else if s_frm σ b = 4 then s_un (s_blf σ b) (s_len σ b) + s_len σ b else s_len σ b)))))) (u, ml_h m lm) := fun c => by
          rw [if_neg (by omega), x222_69, nI_add, x222_77 (by omega), e19]
          by_cases f2 : s_frm σ b = 2
          · rw [f2, if_neg (fun z => z rfl), x222_87, sp168 (a := s_sum (s_len σ) b) hM (by omega) (by omega) hv, mk_v, x222_95, x222_120, nI_add, if_pos rfl]
            rfl
          · rw [if_pos (by rw [nI_eq (by omega) (by decide)]; exact f2), x222_98, if_neg f2]
            by_cases f4 : s_frm σ b = 4
            · rw [f4, if_neg (fun z => z rfl), x222_104, sp171 (a := s_sum (s_len σ) b) hM (by omega) hv, mk_v, x222_112, x222_120, nI_add, nI_add, if_pos rfl]
              rfl
            · rw [if_pos (by rw [nI_eq (by omega) (by decide)]; exact f4), x222_118, x222_120, nI_add, if_neg f4]
        by_cases c4 : s_lo (s_blf σ b) (s_len σ b) < p
        · rw [if_pos (nI_lt c4 (by omega)), go (fun z => by omega)]
        · rw [if_neg (nI_nlt (by omega) (by omega)), x222_61]
          by_cases c5 : q < s_hi (s_blf σ b) (s_len σ b)
          · rw [if_pos (nI_lt c5 (by omega)), go (fun z => by omega)]
          · rw [if_neg (nI_nlt (by omega) (by omega)), x222_67, if_pos (by omega)]
theorem sp221_a (hM : ∀ k, k < 251 → m 73 k = nI (σ k)) (h0 : s_ok σ) (hp : p ≤ 999) (hq : q ≤ 999) {x3 : Int32} : ∀ (k c d : Nat) (v8 : Value), k + d = s_tot σ → s_sum (s_mc p q (s_val σ)) k + c = s_sum (s_mc p q (s_val σ)) (s_tot σ) → ∃ w8, wp Ln xs 221 22 [.ref 72, .int (nI p), .int (nI q), .int x3, .int (nI c), .int (s_n1 (s_tot σ) (s_mf p q (s_val σ) d k)), .int x6, .int (nI k - nI 1), v8] [] (u, ml_h m lm) Φ = wp Ln xs 221 79 [.ref 72, .int (nI p), .int (nI q), .int x3, .int (nI (s_sum (s_mc p q (s_val σ)) (s_tot σ))), .int (s_n1 (s_tot σ) (s_mf p q (s_val σ) (s_tot σ) 0)), .int x6, .int (-1), w8] [] (u, ml_h m lm) Φ
  | 0, c, d, v8, h, hc => by
    obtain rfl : d = s_tot σ := by omega
    rw [s_sum, Nat.zero_add] at hc
    refine ⟨v8, ?_⟩
    rw [show (nI 0 : Int32) - nI 1 = -1 by decide, x221_22, if_pos (by decide), hc]
  | k + 1, c, d, v8, h, hc => by
    have hT := s_tot_le h0
    have b1 := h0.2.2.2.1 k (by omega)
    have e : m 73 (43 + k) = nI (s_val σ k) := hM _ (by omega)
    rw [s_sum] at hc
    have em : s_mf p q (s_val σ) (d + 1) k = if p ≤ s_val σ k ∧ s_val σ k ≤ q then k else s_mf p q (s_val σ) d (k + 1) := rfl
    by_cases hm : p ≤ s_val σ k ∧ s_val σ k ≤ q
    · have e1 : s_mc p q (s_val σ) k = 1 := if_pos hm
      rw [e1] at hc
      obtain ⟨w8, ih⟩ := sp221_a hM h0 hp hq (x3 := x3) k (c + 1) (d + 1) (.int (nI 1)) (by omega) (by omega)
      refine ⟨w8, ?_⟩
      rw [em, if_pos hm] at ih
      have en : s_n1 (s_tot σ) k = nI k := if_neg (by omega)
      rw [en] at ih
      rw [pk_sub (by omega), Nat.add_sub_cancel, x221_22, if_neg (nI_nlt (Nat.zero_le _) (by omega)), x221_27, nI_add, x221_36 (by omega), e, sp152_t hm.1 hm.2 (by omega), mk_v, x221_42, if_neg s_10, x221_51, x221_56, if_neg s_10, x221_64, x221_71, nI_add, ← Int32.sub_eq_add_neg (nI k) 1]
      exact ih
    · have e1 : s_mc p q (s_val σ) k = 0 := if_neg hm
      rw [e1] at hc
      obtain ⟨w8, ih⟩ := sp221_a hM h0 hp hq (x3 := x3) k c (d + 1) (.int (nI 0)) (by omega) (by omega)
      refine ⟨w8, ?_⟩
      rw [em, if_neg hm] at ih
      rw [pk_sub (by omega), Nat.add_sub_cancel, x221_22, if_neg (nI_nlt (Nat.zero_le _) (by omega)), x221_27, nI_add, x221_36 (by omega), e, sp152_f (by rw [nI_ltI (by omega) (by omega), nI_ltI (by omega) (by omega)]; omega), mk_v, x221_42, if_pos rfl, x221_55, x221_56, if_pos rfl, x221_69, x221_71, nI_add, Nat.add_zero, ← Int32.sub_eq_add_neg (nI k) 1]
      exact ih
theorem sp221_b (hM : ∀ k, k < 251 → m 73 k = nI (σ k)) (h0 : s_ok σ) (hp : p ≤ 999) (hq : q ≤ 999) {x3 x4 x5 : Int32} {v8 : Value} : ∀ d b, b + d = σ 0 → wp Ln xs 221 82 [.ref 72, .int (nI p), .int (nI q), .int x3, .int x4, .int x5, .int (nI (σ 1 + s_sum (s_ls σ p q) b)), .int (nI b), v8] [] (u, ml_h m lm) Φ = wp Ln xs 221 112 [.ref 72, .int (nI p), .int (nI q), .int x3, .int x4, .int x5, .int (nI (s_sum (s_ls σ p q) (σ 0) + σ 1)), .int (nI (σ 0)), v8] [] (u, ml_h m lm) Φ
  | 0, b, h => by
    obtain rfl : b = σ 0 := by omega
    rw [x221_82, hM 0 (by decide), if_pos (nI_le (Nat.le_refl _) (by have := h0.1; omega)), Nat.add_comm (σ 1)]
  | d + 1, b, h => by
    have k0 := h0.1
    rw [x221_82, hM 0 (by decide), if_neg (nI_ge (by omega) (by omega)), x221_93, sp222 hM h0 (by omega) hp hq, mk_v, x221_103, nI_add, nI_add, Nat.add_assoc]
    exact sp221_b hM h0 hp hq d (b + 1) (by omega)
theorem sp221 (hM : ∀ k, k < 251 → m 73 k = nI (σ k)) (h0 : s_ok σ) (hp : p ≤ 999) (hq : q ≤ 999) (hw : w ≤ 3) : wp Ln xs 221 0 [.ref 72, .int (nI p), .int (nI q), .int (nI w), mj_hole, mj_hole, mj_hole, mj_hole, mj_hole] [] (u, ml_h m lm) Φ = Φ (.inl (some (.int (s_mt σ p q w)))) (u, ml_h m lm) := by
  have hT := s_tot_le h0
  obtain ⟨w8, ha⟩ := sp221_a (Ln := Ln) (xs := xs) (u := u) (lm := lm) (Φ := Φ) (x6 := nI (σ 1)) (x3 := nI w) hM h0 hp hq (s_tot σ) 0 0 mj_hole (by omega) (by omega)
  have hn : s_n1 (s_tot σ) (s_mf p q (s_val σ) 0 (s_tot σ)) = -1 := if_pos rfl
  rw [hn] at ha
  have hb := sp221_b (Ln := Ln) (xs := xs) (u := u) (lm := lm) (Φ := Φ) (x3 := nI w) (x4 := nI (s_sum (s_mc p q (s_val σ)) (s_tot σ))) (x5 := s_n1 (s_tot σ) (s_mf p q (s_val σ) (s_tot σ) 0)) (v8 := w8) hM h0 hp hq (σ 0) 0 (by omega)
  rw [x221_0, hM 1 (by decide), sp158 hM h0.1, mk_v, x221_18]
  refine ha.trans ?_
  rw [x221_79]
  refine hb.trans ?_
  have : w = 0 ∨ w = 1 ∨ w = 2 ∨ w = 3 := by omega
  rcases this with rfl | rfl | rfl | rfl
  · rw [x221_112, if_neg (nI_ge (by decide) (by decide)), x221_117]
    rfl
  · rw [x221_112, if_neg (nI_ge (by decide) (by decide)), x221_117]
    rfl
  · rw [x221_112, if_pos (nI_le (by decide) (by decide)), x221_122, if_neg (fun z => z rfl), x221_127]
    rfl
  · rw [x221_112, if_pos (nI_le (by decide) (by decide)), x221_122, if_pos (by decide), x221_132]
    rfl
theorem sp220_a (h : y < nI 0 ∨ nI 999 < y) : wp Ln xs 220 0 [.ref 72, .int y, .int y1, .int y2] [] (u, ml_h m lm) Φ = Φ (.inl (some (.int (nI 0)))) (u, ml_h (ml_s m 72 8 (nI 1)) lm) := by
  rw [x220_0, sp151_f h, mk_v, x220_5, if_pos rfl, x220_28, x220_29, sp154_e s_10, mk_v, x220_32, if_pos rfl, x220_45]
theorem sp220_b (hp : p ≤ 999) (h : y1 < nI 0 ∨ nI 999 < y1) : wp Ln xs 220 0 [.ref 72, .int (nI p), .int y1, .int y2] [] (u, ml_h m lm) Φ = Φ (.inl (some (.int (nI 0)))) (u, ml_h (ml_s m 72 8 (nI 1)) lm) := by
  rw [x220_0, sp151_t hp, mk_v, x220_5, if_neg s_10, x220_8, sp151_f h, mk_v, x220_12, if_pos rfl, x220_28, x220_29, sp154_e s_10, mk_v, x220_32, if_pos rfl, x220_45]
theorem sp220_c (hp : p ≤ 999) (hq : q ≤ 999) (h : y2 < nI 0 ∨ nI 3 < y2) : wp Ln xs 220 0 [.ref 72, .int (nI p), .int (nI q), .int y2] [] (u, ml_h m lm) Φ = Φ (.inl (some (.int (nI 0)))) (u, ml_h (ml_s m 72 8 (nI 1)) lm) := by
  rw [x220_0, sp151_t hp, mk_v, x220_5, if_neg s_10, x220_8, sp151_t hq, mk_v, x220_12, if_neg s_10, x220_15, sp152_f h, mk_v, x220_21, if_pos rfl, x220_28, x220_29, sp154_e s_10, mk_v, x220_32, if_pos rfl, x220_45]
theorem sp220_k (hM : ∀ k, k < 251 → m 73 k = nI (σ k)) (h0 : s_ok σ) (hp : p ≤ 999) (hq : q ≤ 999) (hw : w ≤ 3) : wp Ln xs 220 0 [.ref 72, .int (nI p), .int (nI q), .int (nI w)] [] (u, ml_h m lm) Φ = Φ (.inl (some (.int (s_mt σ p q w)))) (u, ml_h (ml_s m 72 8 (nI 0)) lm) := by
  rw [x220_0, sp151_t hp, mk_v, x220_5, if_neg s_10, x220_8, sp151_t hq, mk_v, x220_12, if_neg s_10, x220_15, sp152_t (Nat.zero_le _) hw (by decide), mk_v, x220_21, if_neg s_10, x220_24, x220_29, sp154_k, mk_v, x220_32, if_neg s_10, x220_35, sp221 (s_h8 hM) h0 hp hq hw, mk_v, x220_42]
end MCB
