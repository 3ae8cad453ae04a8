/-! ===== looks: what is told ===== -/
theorem s_sub4 (a b c d : Int32) : (a - b) + (c - d) = (a + c) - (b + d) := by
  rw [Int32.eq_sub_iff_add_eq, Int32.add_assoc, ← Int32.add_assoc (c - d), Int32.add_comm (c - d) b, Int32.add_assoc b, ← Int32.add_assoc, Int32.sub_add_cancel, Int32.sub_add_cancel]
theorem s_dif {X Y a c : Nat} (h : X + a = Y + c) : nI X - nI Y = nI c - nI a := by
  rw [Int32.sub_eq_iff_eq_add, ← Int32.add_left_inj (nI a), nI_add, h, Int32.add_assoc, Int32.add_comm (nI Y), ← Int32.add_assoc, Int32.sub_add_cancel, nI_add, Nat.add_comm]
/-- the looks that a value takes -/
def s_lk (σ : s_S) (k : Nat) : Nat := if s_bk σ k = σ 0 then 1 else if s_frm σ (s_bk σ k) = 2 then s_rn (s_blf σ (s_bk σ k)) (k - s_sum (s_len σ) (s_bk σ k) + 1) else if s_frm σ (s_bk σ k) = 3 then k - s_sum (s_len σ) (s_bk σ k) + 1 else if s_frm σ (s_bk σ k) = 4 then 2 else 1
/-- something of a value -/
def s_vt (σ : s_S) (k w : Nat) : Int32 := match w with
  | 0 => nI (s_val σ k)
  | 1 => if s_bk σ k = σ 0 then -1 else nI (s_bk σ k)
  | 2 => nI (k - s_sum (s_len σ) (s_bk σ k))
  | _ => nI (s_lk σ k)
/-- something of a block -/
def s_bt (σ : s_S) (b w : Nat) : Nat := match w with
  | 0 => s_frm σ b
  | 1 => s_len σ b
  | 2 => s_sz (s_blf σ b) (s_len σ b) (s_frm σ b)
  | 3 => s_rom σ b
  | 4 => s_lo (s_blf σ b) (s_len σ b)
  | 5 => s_hi (s_blf σ b) (s_len σ b)
  | 6 => s_rn (s_blf σ b) (s_len σ b)
  | 7 => s_un (s_blf σ b) (s_len σ b)
  | 8 => s_pkb σ b
  | _ => s_sum (s_len σ) b
def s_wg (σ : s_S) : Nat := s_sum (s_rom σ) (σ 0) + 7 * σ 0 + 10 * σ 1
def s_ub (σ : s_S) : Nat → Nat := fun b => s_sz (s_blf σ b) (s_len σ b) (s_frm σ b)
def s_cn (σ : s_S) (n w : Nat) : Int32 := match w with
  | 0 => nI (s_tot σ)
  | 1 => nI (σ 0)
  | 2 => nI (σ 1)
  | 3 => nI (s_wg σ)
  | 4 => nI (σ 5)
  | 5 => nI (σ 6)
  | 6 => nI (s_sum (s_rom σ) (σ 0)) - nI (s_sum (s_ub σ) (σ 0))
  | 7 => nI (s_sum (s_val σ) (s_tot σ))
  | _ => nI n
theorem s_start_le {σ : s_S} (h : s_ok σ) (k : Nat) (hk : k < s_tot σ) : s_sum (s_len σ) (s_bk σ k) ≤ k := by
  have hl := s_bk_le σ k
  by_cases c : s_bk σ k = σ 0
  · have := s_bk_tail c
    rw [c]
    exact this
  · exact (s_bk_in (by omega)).1
section LKA
variable {Ln : Nat} {xs : Nat → Int32} {u : mj_U} {m : ml_M} {lm : ml_J} {Φ : mj_R → mj_W → Prop} {σ τ : s_S} {n t tl v k b w : Nat} {ss : Nat → s_S} {tx : Nat → Nat} {x y z : Int32}
theorem sp40 (h0 : s_ok σ) (h : RepC m 2 σ) (hb : b < σ 0) : ∃ m', RepS m' 56 (s_blf σ b) (s_len σ b) ∧ (∀ a, a ≠ 56 → a ≠ 57 → m' a = m a) ∧ ∀ Φ : mj_R → mj_W → Prop, wp Ln xs 40 0 [.ref 1, .int (nI b)] [] (u, ml_h m lm) Φ = Φ (.inl none) (u, ml_h m' lm) := by
  have hv := s_blf_le (s_oke_of (fun _ => False) h0) hb
  have hend := s_end_le hb
  have hT := s_tot_le h0
  have k0 := h0.1
  obtain ⟨g5, g6, g7, g8, g1, g2, g3, g4, gs⟩ := h
  obtain ⟨m1, r, fr, e⟩ := sp41 (Ln := Ln) (xs := xs) (u := u) (lm := lm) (m := m) (p := 56) (r := 3) (s := s_sum (s_len σ) b) (n := s_len σ b) (f := s_blf σ b) ml_sh_56 ml_ia_3 (by decide) (by decide) (by decide) (h0.2.2.1 b hb).2.1 (by rw [ml_n_3]; omega) hv (fun i hi => g1 _ (by omega))
  refine ⟨m1, r, fr, fun Φ => ?_⟩
  rw [x40_0, sp19 (f := s_len σ) (by omega) (fun i hi => g2 i (by omega)), mk_v, x40_19, sp20 (by omega), mk_v, g2 b hb, x40_27, e, mk_n, x40_30]
theorem sp37 (h0 : s_ok σ) (h : RepC m 2 σ) : wp Ln xs 37 0 [.ref 1] [] (u, ml_h m lm) Φ = Φ (.inl (some (.int (nI (s_wg σ))))) (u, ml_h m lm) := by
  obtain ⟨g5, g6, g7, g8, g1, g2, g3, g4, gs⟩ := h
  rw [x37_0, sp38 (f := s_rom σ) h0.1 g6 g4, mk_v, x37_7, g6, sp36 (f := s_len σ) h0.1 g6 g5 g2 (s_sum_tot σ), s_tot_sub, mk_v, x37_27, pk_mul, pk_mul, nI_add, nI_add]
  rfl
theorem sp39_l (h0 : s_ok σ) : ∀ (d b : Nat) (m : ml_M), b + d = σ 0 → RepC m 2 σ → ∃ m', (∀ a, a ≠ 56 → a ≠ 57 → m' a = m a) ∧ ∀ Φ : mj_R → mj_W → Prop, wp Ln xs 39 4 [.ref 1, .int (nI (s_sum (s_ub σ) b)), .int (nI b)] [] (u, ml_h m lm) Φ = Φ (.inl (some (.int (nI (s_sum (s_ub σ) (σ 0)))))) (u, ml_h m' lm)
  | 0, b, m, hd, h => by
    obtain rfl : b = σ 0 := by omega
    refine ⟨m, fun _ _ _ => rfl, fun Φ => ?_⟩
    rw [x39_4, h.2.1, if_pos (nI_le (Nat.le_refl _) (by have := h0.1; omega)), x39_44]
  | d + 1, b, m, hd, h => by
    have k0 := h0.1
    have hb : b < σ 0 := by omega
    have l := h0.2.2.1 b hb
    have hv := s_blf_le (s_oke_of (fun _ => False) h0) hb
    obtain ⟨m1, r1, f1, e1⟩ := sp40 (Ln := Ln) (xs := xs) (u := u) (lm := lm) h0 h hb
    have h1 : RepC m1 2 σ := RepC_of h (fun a _ _ => f1 a (by omega) (by omega))
    obtain ⟨m2, f2, e2⟩ := sp39_l h0 d (b + 1) m1 (by omega) h1
    refine ⟨m2, fun a ha hb => by rw [f2 a ha hb, f1 a ha hb], fun Φ => ?_⟩
    rw [x39_4, h.2.1, if_neg (nI_ge hb (by omega)), x39_15, e1, mk_n, x39_20, sp42 (by omega), mk_v, h1.2.2.2.2.2.2.1 b hb, x39_33, sp27 ml_sh_56 r1 (by omega) l.2.1 hv l.2.2.1, mk_v, x39_36, nI_add, nI_add]
    exact e2 Φ
theorem sp39 (h0 : s_ok σ) (h : RepC m 2 σ) : ∃ m', (∀ a, a ≠ 56 → a ≠ 57 → m' a = m a) ∧ ∀ Φ : mj_R → mj_W → Prop, wp Ln xs 39 0 [.ref 1, mj_hole, mj_hole] [] (u, ml_h m lm) Φ = Φ (.inl (some (.int (nI (s_sum (s_ub σ) (σ 0)))))) (u, ml_h m' lm) := by
  obtain ⟨m1, f1, e1⟩ := sp39_l (Ln := Ln) (xs := xs) (u := u) (lm := lm) h0 (σ 0) 0 m (by omega) h
  refine ⟨m1, f1, fun Φ => ?_⟩
  rw [x39_0]
  exact e1 Φ
theorem sp35 (h0 : s_ok σ) (h : RepC m 2 σ) (hn : m 14 2 = nI n) (hw : w ≤ 8) : ∃ m', (∀ a, a ≠ 56 → a ≠ 57 → m' a = m a) ∧ ∀ Φ : mj_R → mj_W → Prop, wp Ln xs 35 0 [.ref 1, .int (nI w)] [] (u, ml_h m lm) Φ = Φ (.inl (some (.int (s_cn σ n w)))) (u, ml_h m' lm) := by
  have hT := s_tot_le h0
  have h9 := h
  obtain ⟨g5, g6, g7, g8, g1, g2, g3, g4, gs⟩ := h
  have : w = 0 ∨ w = 1 ∨ w = 2 ∨ w = 3 ∨ w = 4 ∨ w = 5 ∨ w = 6 ∨ w = 7 ∨ w = 8 := by omega
  rcases this with rfl | rfl | rfl | rfl | rfl | rfl | rfl | rfl | rfl
  · refine ⟨m, fun _ _ _ => rfl, fun Φ => ?_⟩
    rw [x35_0, x35_1_0, x35_48, g5]
    rfl
  · refine ⟨m, fun _ _ _ => rfl, fun Φ => ?_⟩
    rw [x35_0, x35_1_1, x35_56, g6]
    rfl
  · refine ⟨m, fun _ _ _ => rfl, fun Φ => ?_⟩
    rw [x35_0, x35_1_2, x35_64, sp36 (f := s_len σ) h0.1 g6 g5 g2 (s_sum_tot σ), s_tot_sub, mk_v, x35_71]
    rfl
  · refine ⟨m, fun _ _ _ => rfl, fun Φ => ?_⟩
    rw [x35_0, x35_1_3, x35_72, sp37 h0 h9, mk_v, x35_76]
    rfl
  · refine ⟨m, fun _ _ _ => rfl, fun Φ => ?_⟩
    rw [x35_0, x35_1_4, x35_77, g7]
    rfl
  · refine ⟨m, fun _ _ _ => rfl, fun Φ => ?_⟩
    rw [x35_0, x35_1_5, x35_85, g8]
    rfl
  · obtain ⟨m1, f1, e1⟩ := sp39 (Ln := Ln) (xs := xs) (u := u) (lm := lm) h0 h9
    refine ⟨m1, f1, fun Φ => ?_⟩
    rw [x35_0, x35_1_6, x35_93, sp38 (f := s_rom σ) h0.1 g6 g4, mk_v, x35_100, e1, mk_v, x35_104]
    rfl
  · refine ⟨m, fun _ _ _ => rfl, fun Φ => ?_⟩
    rw [x35_0, x35_1_7, x35_106, sp43 (f := s_val σ) hT g5 g1, mk_v, x35_113]
    rfl
  · refine ⟨m, fun _ _ _ => rfl, fun Φ => ?_⟩
    rw [x35_0, x35_1_8, x35_114, hn]
    rfl
theorem sp76 (h0 : s_ok σ) (h : RepC m 2 σ) (hk : k < s_tot σ) (hb : s_bk σ k < σ 0) : ∃ m', (∀ a, a ≠ 56 → a ≠ 57 → m' a = m a) ∧ ∀ Φ : mj_R → mj_W → Prop, wp Ln xs 76 0 [.ref 1, .int (nI (s_bk σ k)), .int (nI (k - s_sum (s_len σ) (s_bk σ k)))] [] (u, ml_h m lm) Φ = Φ (.inl (some (.int (nI (s_lk σ k))))) (u, ml_h m' lm) := by
  have k0 := h0.1
  have hT := s_tot_le h0
  have hend := s_end_le hb
  obtain ⟨i1, i2⟩ := s_bk_in hb
  have l := h0.2.2.1 _ hb
  have hv := s_blf_le (s_oke_of (fun _ => False) h0) hb
  obtain ⟨g5, g6, g7, g8, g1, g2, g3, g4, gs⟩ := h
  unfold s_lk
  rw [if_neg (by omega)]
  generalize s_bk σ k = B at *
  have : s_frm σ B = 0 ∨ s_frm σ B = 1 ∨ s_frm σ B = 2 ∨ s_frm σ B = 3 ∨ s_frm σ B = 4 := by omega
  rcases this with e | e | e | e | e
  · refine ⟨m, fun _ _ _ => rfl, fun Φ => ?_⟩
    rw [x76_0, sp42 (by omega), mk_v, g3 B hb, e, x76_8_0, x76_75]
    rfl
  · refine ⟨m, fun _ _ _ => rfl, fun Φ => ?_⟩
    rw [x76_0, sp42 (by omega), mk_v, g3 B hb, e, x76_8_1, x76_75]
    rfl
  · obtain ⟨m1, r, fr, e1⟩ := sp41 (Ln := Ln) (xs := xs) (u := u) (lm := lm) (m := m) (p := 56) (r := 3) (s := s_sum (s_len σ) B) (n := k - s_sum (s_len σ) B + 1) (f := s_blf σ B) ml_sh_56 ml_ia_3 (by decide) (by decide) (by decide) (by omega) (by rw [ml_n_3]; omega) (fun i hi => hv i (by omega)) (fun i hi => g1 _ (by omega))
    refine ⟨m1, fr, fun Φ => ?_⟩
    rw [x76_0, sp42 (by omega), mk_v, g3 B hb, e, x76_8_2, x76_36, sp19 (f := s_len σ) (by omega) (fun i hi => g2 i (by omega)), mk_v, x76_55, nI_add, e1, mk_n, x76_61, r.2.2.2.1]
    rfl
  · refine ⟨m, fun _ _ _ => rfl, fun Φ => ?_⟩
    rw [x76_0, sp42 (by omega), mk_v, g3 B hb, e, x76_8_3, x76_69, nI_add]
    rfl
  · refine ⟨m, fun _ _ _ => rfl, fun Φ => ?_⟩
    rw [x76_0, sp42 (by omega), mk_v, g3 B hb, e, x76_8_4, x76_73]
    rfl
theorem sp74 (h0 : s_ok σ) (h : RepC m 2 σ) (hk : k < s_tot σ) (hw : w ≤ 3) : ∃ m', (∀ a, a ≠ 56 → a ≠ 57 → m' a = m a) ∧ ∀ Φ : mj_R → mj_W → Prop, wp Ln xs 74 0 [.ref 1, .int (nI k), .int (nI w), mj_hole, mj_hole] [] (u, ml_h m lm) Φ = Φ (.inl (some (.int (s_vt σ k w)))) (u, ml_h m' lm) := by
  have k0 := h0.1
  have hT := s_tot_le h0
  have hle := s_bk_le σ k
  have hst := s_start_le h0 k hk
  have h9 := h
  obtain ⟨g5, g6, g7, g8, g1, g2, g3, g4, gs⟩ := h
  have e44 : ∀ Φ : mj_R → mj_W → Prop, wp Ln xs 75 0 [.ref 2, .int (nI k), mj_hole, mj_hole] [] (u, ml_h m lm) Φ = Φ (.inl (some (.int (if s_bk σ k = σ 0 then -1 else nI (s_bk σ k))))) (u, ml_h m lm) := fun Φ => sp75 (f := s_len σ) k0 g6 g2 (by have := s_sum_tot σ; omega) (by omega)
  have start : ∀ Φ : mj_R → mj_W → Prop, wp Ln xs 74 0 [.ref 1, .int (nI k), .int (nI w), mj_hole, mj_hole] [] (u, ml_h m lm) Φ = wp Ln xs 74 35 [.ref 1, .int (nI k), .int (nI w), .int (if s_bk σ k = σ 0 then -1 else nI (s_bk σ k)), .int (nI (s_sum (s_len σ) (s_bk σ k)))] [.int (nI w)] (u, ml_h m lm) Φ := fun Φ => by
    rw [x74_0, e44, mk_v, x74_8]
    by_cases c : s_bk σ k = σ 0
    · rw [if_pos c, if_neg (fun z => z rfl), x74_18, g6, x74_29, sp19 (f := s_len σ) k0 g2, mk_v, x74_32, c]
    · rw [if_neg c, if_pos (s_nm1 (by omega)), x74_28, x74_29, sp19 (f := s_len σ) (by omega) (fun i hi => g2 i (by omega)), mk_v, x74_32]
  have : w = 0 ∨ w = 1 ∨ w = 2 ∨ w = 3 := by omega
  rcases this with rfl | rfl | rfl | rfl
  · refine ⟨m, fun _ _ _ => rfl, fun Φ => ?_⟩
    rw [start, x74_35_0, x74_60, at_3 (by omega), mk_v, g1 k hk, x74_71]
    rfl
  · refine ⟨m, fun _ _ _ => rfl, fun Φ => ?_⟩
    rw [start, x74_35_1, x74_72]
    rfl
  · refine ⟨m, fun _ _ _ => rfl, fun Φ => ?_⟩
    rw [start, x74_35_2, x74_74, pk_sub hst]
    rfl
  · by_cases c : s_bk σ k = σ 0
    · refine ⟨m, fun _ _ _ => rfl, fun Φ => ?_⟩
      have e : s_vt σ k 3 = nI 1 := by
        show nI (s_lk σ k) = nI 1
        unfold s_lk
        rw [if_pos c]
      rw [start, x74_35_3, x74_79, if_pos c, if_neg (fun z => z rfl), x74_84, e]
    · obtain ⟨m1, f1, e1⟩ := sp76 (Ln := Ln) (xs := xs) (u := u) (lm := lm) h0 h9 hk (by omega)
      refine ⟨m1, f1, fun Φ => ?_⟩
      rw [start, x74_35_3, x74_79, if_neg c, if_pos (s_nm1 (by omega)), x74_88, pk_sub hst, e1, mk_v, x74_97]
      rfl
theorem sp57 (h0 : s_ok σ) (h : RepC m 2 σ) (hb : b < σ 0) (hw : w ≤ 9) : ∃ m', (∀ a, a < 56 ∨ 60 < a → m' a = m a) ∧ ∀ Φ : mj_R → mj_W → Prop, wp Ln xs 57 0 [.ref 1, .int (nI b), .int (nI w)] [] (u, ml_h m lm) Φ = Φ (.inl (some (.int (nI (s_bt σ b w))))) (u, ml_h m' lm) := by
  have k0 := h0.1
  have hT := s_tot_le h0
  have hend := s_end_le hb
  have l := h0.2.2.1 b hb
  have hv := s_blf_le (s_oke_of (fun _ => False) h0) hb
  obtain ⟨m1, r1, f1, e1⟩ := sp40 (Ln := Ln) (xs := xs) (u := u) (lm := lm) h0 h hb
  have h1 : RepC m1 2 σ := RepC_of h (fun a _ _ => f1 a (by omega) (by omega))
  have fr : ∀ a, a < 56 ∨ 60 < a → m1 a = m a := fun a ha => f1 a (by omega) (by omega)
  obtain ⟨g5, g6, g7, g8, g1, g2, g3, g4, gs⟩ := h1
  obtain ⟨r0, rn, r3, r5, r6, rg⟩ := r1
  obtain ⟨r3, r4, _⟩ := r3 (by omega)
  have : w = 0 ∨ w = 1 ∨ w = 2 ∨ w = 3 ∨ w = 4 ∨ w = 5 ∨ w = 6 ∨ w = 7 ∨ w = 8 ∨ w = 9 := by omega
  rcases this with rfl | rfl | rfl | rfl | rfl | rfl | rfl | rfl | rfl | rfl
  · refine ⟨m1, fr, fun Φ => ?_⟩
    rw [x57_0, e1, mk_n, x57_5, x57_6_0, x57_56, sp42 (by omega), mk_v, g3 b hb, x57_64]
    rfl
  · refine ⟨m1, fr, fun Φ => ?_⟩
    rw [x57_0, e1, mk_n, x57_5, x57_6_1, x57_65, sp20 (by omega), mk_v, g2 b hb, x57_73]
    rfl
  · refine ⟨m1, fr, fun Φ => ?_⟩
    rw [x57_0, e1, mk_n, x57_5, x57_6_2, x57_74, sp42 (by omega), mk_v, g3 b hb, x57_86, sp27 ml_sh_56 ⟨r0, rn, fun z => ⟨r3, r4, by assumption⟩, r5, r6, rg⟩ (by omega) l.2.1 hv l.2.2.1, mk_v, x57_89]
    rfl
  · refine ⟨m1, fr, fun Φ => ?_⟩
    rw [x57_0, e1, mk_n, x57_5, x57_6_3, x57_90, sp16 (by omega), mk_v, g4 b hb, x57_98]
    rfl
  · refine ⟨m1, fr, fun Φ => ?_⟩
    rw [x57_0, e1, mk_n, x57_5, x57_6_4, x57_99, r3]
    rfl
  · refine ⟨m1, fr, fun Φ => ?_⟩
    rw [x57_0, e1, mk_n, x57_5, x57_6_5, x57_107, r4]
    rfl
  · refine ⟨m1, fr, fun Φ => ?_⟩
    rw [x57_0, e1, mk_n, x57_5, x57_6_6, x57_115, r5]
    rfl
  · refine ⟨m1, fr, fun Φ => ?_⟩
    rw [x57_0, e1, mk_n, x57_5, x57_6_7, x57_123, r0]
    rfl
  · obtain ⟨m2, ⟨a1, a2⟩, f2, e2⟩ := sp21 (Ln := Ln) (xs := xs) (u := u) (lm := lm) (m := m1) (n := s_len σ b) (f := s_blf σ b) (r := 3) (s := s_sum (s_len σ) b) (sa := σ 2) (al := σ 4) ml_ia_3 (by decide) (Or.inl (by decide)) (by omega) l.2.1 (by rw [ml_n_3]; omega) hv (fun i hi => g1 _ (by omega)) (gs 0 (by decide)) (by have := h0.2.2.2.2; omega) (by have := h0.2.2.2.2; omega) (gs 2 (by decide)) (by have := h0.2.2.2.2; omega)
    refine ⟨m2, fun a ha => by rw [f2 a (by omega), fr a ha], fun Φ => ?_⟩
    rw [x57_0, e1, mk_n, x57_5, x57_6_8, x57_131, sp19 (f := s_len σ) (by omega) (fun i hi => g2 i (by omega)), mk_v, x57_150, sp20 (by omega), mk_v, g2 b hb, x57_158, e2, mk_n, x57_168, a1]
    rfl
  · refine ⟨m1, fr, fun Φ => ?_⟩
    rw [x57_0, e1, mk_n, x57_5, x57_6_9, x57_176, sp19 (f := s_len σ) (by omega) (fun i hi => g2 i (by omega)), mk_v, x57_184]
    rfl
/-! the calls -/
theorem s_nle {N : Nat} (h : x < nI 0 ∨ nI N < x) (c : ¬ x < nI 0) : ¬ x ≤ nI N := fun z => Int32.lt_irrefl (Int32.lt_of_lt_of_le (h.resolve_left c) z)
theorem sp72_i (h : RepC m 2 σ) (hi : x < nI 0 ∨ nI (s_tot σ) ≤ x) : wp Ln xs 72 0 [.ref 1, .int x, .int y] [] (u, ml_h m lm) Φ = Φ (.inr 2) ((u.1, u.2.1 + 1, u.2.2 + 6), ml_h m lm) := by
  rw [x72_0, sp73_f h.1 hi, mk_v, x72_8, if_neg (fun z => z rfl), x72_11]
theorem sp72_a (h0 : s_ok σ) (h : RepC m 2 σ) (hk : k < s_tot σ) (hy : y < nI 0 ∨ nI 3 < y) : wp Ln xs 72 0 [.ref 1, .int (nI k), .int y] [] (u, ml_h m lm) Φ = Φ (.inr 0) ((u.1, u.2.1 + 1, u.2.2 + 6), ml_h m lm) := by
  have hT := s_tot_le h0
  rw [x72_0, sp73_t h.1 (by omega) hk, mk_v, x72_8, if_pos s_10, x72_21]
  by_cases c : y < nI 0
  · rw [if_pos c, x72_30]
  · rw [if_neg c, x72_25, if_neg (s_nle hy c), x72_30]
theorem sp72_k (h0 : s_ok σ) (h : RepC m 2 σ) (hk : k < s_tot σ) (hw : w ≤ 3) : ∃ m', (∀ a, a < 56 ∨ 71 < a → m' a = m a) ∧ ∀ Φ : mj_R → mj_W → Prop, wp Ln xs 72 0 [.ref 1, .int (nI k), .int (nI w)] [] (u, ml_h m lm) Φ = Φ (.inl (some (.int (s_vt σ k w)))) (u, ml_h m' lm) := by
  have hT := s_tot_le h0
  obtain ⟨m1, f1, e1⟩ := sp74 (Ln := Ln) (xs := xs) (u := u) (lm := lm) h0 h hk hw
  refine ⟨m1, fun a ha => f1 a (by omega) (by omega), fun Φ => ?_⟩
  rw [x72_0, sp73_t h.1 (by omega) hk, mk_v, x72_8, if_pos s_10, x72_21, if_neg (nI_nlt (Nat.zero_le _) (by omega)), x72_25, if_pos (nI_le hw (by decide)), x72_40, e1, mk_v, x72_46]
theorem sp56_i (h : RepC m 2 σ) (hi : x < nI 0 ∨ nI (σ 0) ≤ x) : wp Ln xs 56 0 [.ref 1, .int x, .int y] [] (u, ml_h m lm) Φ = Φ (.inr 2) ((u.1, u.2.1 + 1, u.2.2 + 6), ml_h m lm) := by
  rw [x56_0, sp11_f h.2.1 hi, mk_v, x56_8, if_neg (fun z => z rfl), x56_11]
theorem sp56_a (h0 : s_ok σ) (h : RepC m 2 σ) (hb : b < σ 0) (hy : y < nI 0 ∨ nI 9 < y) : wp Ln xs 56 0 [.ref 1, .int (nI b), .int y] [] (u, ml_h m lm) Φ = Φ (.inr 0) ((u.1, u.2.1 + 1, u.2.2 + 6), ml_h m lm) := by
  rw [x56_0, sp11_t h.2.1 h0.1 hb, mk_v, x56_8, if_pos s_10, x56_21]
  by_cases c : y < nI 0
  · rw [if_pos c, x56_31]
  · rw [if_neg c, x56_25, if_neg (s_nle hy c), x56_31]
theorem sp56_k (h0 : s_ok σ) (h : RepC m 2 σ) (hb : b < σ 0) (hw : w ≤ 9) : ∃ m', (∀ a, a < 56 ∨ 71 < a → m' a = m a) ∧ ∀ Φ : mj_R → mj_W → Prop, wp Ln xs 56 0 [.ref 1, .int (nI b), .int (nI w)] [] (u, ml_h m lm) Φ = Φ (.inl (some (.int (nI (s_bt σ b w))))) (u, ml_h m' lm) := by
  obtain ⟨m1, f1, e1⟩ := sp57 (Ln := Ln) (xs := xs) (u := u) (lm := lm) h0 h hb hw
  refine ⟨m1, fun a ha => f1 a (by omega), fun Φ => ?_⟩
  rw [x56_0, sp11_t h.2.1 h0.1 hb, mk_v, x56_8, if_pos s_10, x56_21, if_neg (nI_nlt (Nat.zero_le _) (by omega)), x56_25, if_pos (nI_le hw (by decide)), x56_42, e1, mk_v, x56_48]
theorem sp59_i (h : RepC m 2 σ) (hi : x < nI 0 ∨ nI (σ 0) ≤ x) : wp Ln xs 59 0 [.ref 1, .int x, .int y] [] (u, ml_h m lm) Φ = Φ (.inr 2) ((u.1, u.2.1 + 1, u.2.2 + 6), ml_h m lm) := by
  rw [x59_0, sp11_f h.2.1 hi, mk_v, x59_8, if_neg (fun z => z rfl), x59_11]
theorem sp59_a (h0 : s_ok σ) (h : RepC m 2 σ) (hb : b < σ 0) (hy : y < nI 0 ∨ nI 4 < y) : wp Ln xs 59 0 [.ref 1, .int (nI b), .int y] [] (u, ml_h m lm) Φ = Φ (.inr 0) ((u.1, u.2.1 + 1, u.2.2 + 6), ml_h m lm) := by
  rw [x59_0, sp11_t h.2.1 h0.1 hb, mk_v, x59_8, if_pos s_10, x59_21]
  by_cases c : y < nI 0
  · rw [if_pos c, x59_30]
  · have h5 : ¬ y < nI 5 := fun z => by
      obtain ⟨j, hj, e⟩ := nI_of (show ¬ y < 0 by rw [← nI_0]; exact c)
      subst e
      have h4 := hy.resolve_left c
      rw [nI_ltI (by omega) hj] at h4
      rw [nI_ltI hj (by omega)] at z
      omega
    rw [if_neg c, x59_25, if_neg h5, x59_30]
theorem sp59_k (h0 : s_ok σ) (h : RepC m 2 σ) (hb : b < σ 0) (hw : w ≤ 4) : ∃ m', (∀ a, a < 56 ∨ 71 < a → m' a = m a) ∧ ∀ Φ : mj_R → mj_W → Prop, wp Ln xs 59 0 [.ref 1, .int (nI b), .int (nI w)] [] (u, ml_h m lm) Φ = Φ (.inl (some (.int (nI (s_sz (s_blf σ b) (s_len σ b) w))))) (u, ml_h m' lm) := by
  have l := h0.2.2.1 b hb
  have hv := s_blf_le (s_oke_of (fun _ => False) h0) hb
  obtain ⟨m1, r1, f1, e1⟩ := sp40 (Ln := Ln) (xs := xs) (u := u) (lm := lm) h0 h hb
  refine ⟨m1, fun a ha => f1 a (by omega) (by omega), fun Φ => ?_⟩
  rw [x59_0, sp11_t h.2.1 h0.1 hb, mk_v, x59_8, if_pos s_10, x59_21, if_neg (nI_nlt (Nat.zero_le _) (by omega)), x59_25, if_pos (nI_lt (by omega) (by decide)), x59_41, e1, mk_n, x59_46, sp27 ml_sh_56 r1 (by omega) l.2.1 hv hw, mk_v, x59_54]
theorem sp34_a (hy : y < nI 0 ∨ nI 8 < y) : wp Ln xs 34 0 [.ref 1, .int y] [] (u, ml_h m lm) Φ = Φ (.inr 0) ((u.1, u.2.1 + 1, u.2.2 + 6), ml_h m lm) := by
  rw [x34_0]
  by_cases c : y < nI 0
  · rw [if_pos c, x34_10]
  · rw [if_neg c, x34_4, if_neg (s_nle hy c), x34_10]
theorem sp34_k (h0 : s_ok σ) (h : RepC m 2 σ) (hn : m 14 2 = nI n) (hw : w ≤ 8) : ∃ m', (∀ a, a < 56 ∨ 71 < a → m' a = m a) ∧ ∀ Φ : mj_R → mj_W → Prop, wp Ln xs 34 0 [.ref 1, .int (nI w)] [] (u, ml_h m lm) Φ = Φ (.inl (some (.int (s_cn σ n w)))) (u, ml_h m' lm) := by
  obtain ⟨m1, f1, e1⟩ := sp35 (Ln := Ln) (xs := xs) (u := u) (lm := lm) h0 h hn hw
  refine ⟨m1, fun a ha => f1 a (by omega) (by omega), fun Φ => ?_⟩
  rw [x34_0, if_neg (nI_nlt (Nat.zero_le _) (by omega)), x34_4, if_pos (nI_le hw (by decide)), x34_21, e1, mk_v, x34_26]
theorem sp61_i (hi : x < nI 0 ∨ nI 3 ≤ x) : wp Ln xs 61 0 [.ref 1, .int x] [] (u, ml_h m lm) Φ = Φ (.inr 2) ((u.1, u.2.1 + 1, u.2.2 + 6), ml_h m lm) := by
  rw [x61_0, sp31_f hi, mk_v, x61_4, if_neg (fun z => z rfl), x61_7]
theorem sp61_k (h : RepC m 2 σ) (hw : w < 3) : wp Ln xs 61 0 [.ref 1, .int (nI w)] [] (u, ml_h m lm) Φ = Φ (.inl (some (.int (nI (σ (2 + w)))))) (u, ml_h m lm) := by
  rw [x61_0, sp31_t hw, mk_v, x61_4, if_pos s_10, x61_17, sp33 hw, mk_v, h.2.2.2.2.2.2.2.2 w hw, x61_25]
/-- by how many bits a change makes the column greater -/
def s_mr (σ : s_S) (k v : Nat) : Int32 := nI (s_wg (s_rp σ k v)) - nI (s_wg σ)
theorem s_wg_cv {k v : Nat} (h : σ 0 ≤ 12) : s_wg (s_cv σ k v) = s_wg σ := by
  have e : s_sum (s_rom (s_cv σ k v)) (σ 0) = s_sum (s_rom σ) (σ 0) := s_sum_congr _ (fun i hi => s_cv_o (by omega))
  unfold s_wg
  rw [s_cv_o (by decide), s_cv_o (by decide), e]
theorem s_sum_1 {f g : Nat → Nat} {b : Nat} : ∀ n, b < n → (∀ i, i < n → i ≠ b → g i = f i) → s_sum g n + f b = s_sum f n + g b
  | 0, h, _ => absurd h (Nat.not_lt_zero b)
  | n + 1, h, e => by
    rw [s_sum, s_sum]
    by_cases c : b = n
    · subst c
      rw [s_sum_congr b (fun i hi => e i (by omega) (by omega))]
      omega
    · have ih := s_sum_1 n (by omega) (fun i hi hn => e i (by omega) hn)
      rw [e n (by omega) (by omega)]
      omega
theorem s_wg_wa (h : σ 0 ≤ 12) (hb : b < σ 0) : s_wg (s_wa σ b) + s_rom σ b = s_wg σ + s_sz (s_blf σ b) (s_len σ b) (s_pkb σ b) := by
  have e := s_sum_1 (f := s_rom σ) (g := s_rom (s_wa σ b)) (σ 0) hb (fun i hi hn => by rw [s_wa_rom (by omega) (by omega), if_neg hn])
  rw [s_wa_rom (by omega) (by omega), if_pos rfl] at e
  unfold s_wg
  rw [s_wa_o (by decide) (by omega) (by omega), s_wa_o (by decide) (by omega) (by omega)]
  omega
theorem sp100_i (h : RepC m 2 σ) (hi : x < nI 0 ∨ nI (s_tot σ) ≤ x) : wp Ln xs 100 0 [.ref 1, .int x, .int y, .int z, mj_hole] [] (u, ml_h m lm) Φ = Φ (.inr 2) ((u.1, u.2.1 + 1, u.2.2 + 6), ml_h m lm) := by
  rw [x100_0, sp73_f h.1 hi, mk_v, x100_8, if_neg (fun z => z rfl), x100_11]
theorem sp100_a (h0 : s_ok σ) (h : RepC m 2 σ) (hk : k < s_tot σ) (hy : y < nI 0 ∨ nI 999 < y) : wp Ln xs 100 0 [.ref 1, .int (nI k), .int y, .int z, mj_hole] [] (u, ml_h m lm) Φ = Φ (.inr 0) ((u.1, u.2.1 + 1, u.2.2 + 6), ml_h m lm) := by
  have hT := s_tot_le h0
  rw [x100_0, sp73_t h.1 (by omega) hk, mk_v, x100_8, if_pos s_10, x100_21, sp82_f hy, mk_v, x100_25, if_pos rfl, x100_37]
theorem sp100_b (h0 : s_ok σ) (h : RepC m 2 σ) (hk : k < s_tot σ) (hv : v ≤ 999) (hz : z < nI 0 ∨ nI 1 < z) : wp Ln xs 100 0 [.ref 1, .int (nI k), .int (nI v), .int z, mj_hole] [] (u, ml_h m lm) Φ = Φ (.inr 0) ((u.1, u.2.1 + 1, u.2.2 + 6), ml_h m lm) := by
  have hT := s_tot_le h0
  rw [x100_0, sp73_t h.1 (by omega) hk, mk_v, x100_8, if_pos s_10, x100_21, sp82_t hv, mk_v, x100_25, if_neg s_10, x100_28]
  by_cases c : z < nI 0
  · rw [if_pos c, x100_37]
  · rw [if_neg c, x100_32, if_neg (s_nle hz c), x100_37]
theorem sp100_k (h0 : s_ok σ) (h : RepC m 2 σ) (hk : k < s_tot σ) (hv : v ≤ 999) (hw : w ≤ 1) : ∃ m', (∀ a, a < 56 ∨ 71 < a → m' a = m a) ∧ ∀ Φ : mj_R → mj_W → Prop, wp Ln xs 100 0 [.ref 1, .int (nI k), .int (nI v), .int (nI w), mj_hole] [] (u, ml_h m lm) Φ = Φ (.inl (some (.int (if w = 0 then nI (s_oc σ k v) else s_mr σ k v)))) (u, ml_h m' lm) := by
  have hT := s_tot_le h0
  have k0 := h0.1
  have hle := s_bk_le σ k
  have ho := s_oc_lt σ k v
  have hok := s_cv_ok (k := k) (v := v) h0 hv
  obtain ⟨m1, r1, f1, e1⟩ := sp101 (Ln := Ln) (xs := xs) (u := u) (lm := lm) h0 h hk hv
  have h1 : RepC m1 2 σ := RepC_of h (fun a _ _ => f1 a (by omega) (by omega) (by omega))
  have start : ∀ Φ : mj_R → mj_W → Prop, wp Ln xs 100 0 [.ref 1, .int (nI k), .int (nI v), .int (nI w), mj_hole] [] (u, ml_h m lm) Φ = wp Ln xs 100 54 [.ref 1, .int (nI k), .int (nI v), .int (nI w), mj_hole] [.int (nI (s_oc σ k v))] (u, ml_h m1 lm) Φ := fun Φ => by
    rw [x100_0, sp73_t h.1 (by omega) hk, mk_v, x100_8, if_pos s_10, x100_21, sp82_t hv, mk_v, x100_25, if_neg s_10, x100_28, if_neg (nI_nlt (Nat.zero_le _) (by omega)), x100_32, if_pos (nI_le hw (by decide)), x100_48, e1, mk_v]
  have hw2 : w = 0 ∨ w = 1 := by omega
  rcases hw2 with rfl | rfl
  · refine ⟨m1, fun a ha => f1 a (by omega) (by omega) (by omega), fun Φ => ?_⟩
    rw [start, x100_54, if_neg (fun z => z rfl), x100_60, if_pos rfl]
  · rw [if_neg (by decide)]
    by_cases c2 : s_oc σ k v = 2
    · have hb : s_bk σ k < σ 0 := by
        have : s_bk σ k ≠ σ 0 := fun z => by
          unfold s_oc at c2
          rw [if_pos z] at c2
          exact absurd c2 (by decide)
        omega
      have hbl := s_blf_le (s_oke_of (fun _ => False) hok) (b := s_bk σ k) (by rw [s_cv_o (by decide)]; exact hb)
      rw [s_cv_len (by omega)] at hbl
      obtain ⟨m2, f2, e2⟩ := sp102 (Ln := Ln) (xs := xs) (u := u) (lm := lm) h0 h1 hb (r1 hb) hbl
      have e44 : ∀ Φ : mj_R → mj_W → Prop, wp Ln xs 75 0 [.ref 2, .int (nI k), mj_hole, mj_hole] [] (u, ml_h m1 lm) Φ = Φ (.inl (some (.int (if s_bk σ k = σ 0 then -1 else nI (s_bk σ k))))) (u, ml_h m1 lm) := fun Φ => sp75 (f := s_len σ) k0 h1.2.1 h1.2.2.2.2.2.1 (by have := s_sum_tot σ; omega) (by omega)
      refine ⟨m2, fun a ha => by rw [f2 a (by omega), f1 a (by omega) (by omega) (by omega)], fun Φ => ?_⟩
      rw [start, x100_54, if_pos s_10, c2, x100_63, if_neg (fun z => z rfl), x100_69, e44, if_neg (by omega), mk_v, x100_78, e2, mk_v, x100_81]
      have e5 := s_wg_wa (σ := s_cv σ k v) (b := s_bk σ k) (by rw [s_cv_o (by decide)]; exact k0) (by rw [s_cv_o (by decide)]; exact hb)
      have e6 : s_rom (s_cv σ k v) (s_bk σ k) = s_rom σ (s_bk σ k) := s_cv_o (by omega)
      have e7 : s_pkb (s_cv σ k v) (s_bk σ k) = s_pk (σ 2) (σ 4) (s_blf (s_cv σ k v) (s_bk σ k)) (s_len σ (s_bk σ k)) := by
        unfold s_pkb
        rw [s_cv_o (by decide), s_cv_o (by decide), s_cv_len (by omega)]
      rw [s_wg_cv k0, e6, s_cv_len (by omega), e7] at e5
      have e8 : s_rp σ k v = s_wa (s_cv σ k v) (s_bk σ k) := by
        unfold s_rp
        rw [c2, if_neg (by decide), if_neg (by decide)]
      unfold s_mr
      rw [e8, s_dif e5]
    · have e8 : s_wg (s_rp σ k v) = s_wg σ := by
        unfold s_rp
        by_cases c0 : s_oc σ k v = 0
        · rw [if_pos c0, s_wg_cv k0]
        · rw [if_neg c0, if_pos (by omega)]
          refine Eq.trans ?_ (s_wg_cv (k := k) (v := v) k0)
          have q : s_sum (s_rom (s_upd (s_cv σ k v) 5 (σ 5 + 1))) (s_upd (s_cv σ k v) 5 (σ 5 + 1) 0) = s_sum (s_rom (s_cv σ k v)) (s_cv σ k v 0) := by
            rw [s_upd_n (by decide)]
            exact s_sum_congr _ (fun i hi => s_upd_n (by omega))
          unfold s_wg
          rw [q, s_upd_n (by decide), s_upd_n (by decide)]
      refine ⟨m1, fun a ha => f1 a (by omega) (by omega) (by omega), fun Φ => ?_⟩
      rw [start, x100_54, if_pos s_10, x100_63, if_pos (by rw [nI_eq (by omega) (by decide)]; exact c2), x100_84]
      unfold s_mr
      rw [e8, Int32.sub_self, nI_0]
theorem sp77_i (h : RepC m 2 σ) (hi : x < nI 0 ∨ nI (σ 0) ≤ x) : wp Ln xs 77 0 [.ref 1, .int x] [] (u, ml_h m lm) Φ = Φ (.inr 2) ((u.1, u.2.1 + 1, u.2.2 + 6), ml_h m lm) := by
  rw [x77_0, sp11_f h.2.1 hi, mk_v, x77_8, if_neg (fun z => z rfl), x77_11]
theorem sp77_k (h0 : s_ok σ) (h : RepC m 2 σ) (hb : b < σ 0) : ∃ m', (∀ a, a < 56 ∨ 71 < a → m' a = m a) ∧ ∀ Φ : mj_R → mj_W → Prop, wp Ln xs 77 0 [.ref 1, .int (nI b)] [] (u, ml_h m lm) Φ = Φ (.inl (some (.int (s_m1 (s_bs σ b))))) (u, ml_h m' lm) := by
  obtain ⟨m1, f1, e1⟩ := sp78 (Ln := Ln) (xs := xs) (u := u) (lm := lm) h0 h hb
  refine ⟨m1, fun a ha => f1 a (by omega), fun Φ => ?_⟩
  rw [x77_0, sp11_t h.2.1 h0.1 hb, mk_v, x77_8, if_pos s_10, x77_21, e1, mk_v, x77_26]
end LKA
