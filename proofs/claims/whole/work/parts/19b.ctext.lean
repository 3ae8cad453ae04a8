/-! ===== texts: the class ===== -/
section CTX
variable {Ln : Nat} {xs : Nat → Int32} {u : mj_U} {m : ml_M} {lm : ml_J} {Φ : mj_R → mj_W → Prop} {σ τ : s_S} {n t tl v k L p s x : Nat} {ss : Nat → s_S} {tx c : Nat → Nat} {y : Int32}
theorem sp15_t (h : 48 ≤ x ∧ x ≤ 57) : wp Ln xs 15 0 [.int (nI x)] [] (u, ml_h m lm) Φ = Φ (.inl (some (.int (nI 1)))) (u, ml_h m lm) := by
  rw [x15_0, if_neg (nI_nlt h.1 (by omega)), x15_6, if_neg (nI_nlt h.2 (by omega)), x15_12]
theorem sp15_f (hx : x < 2 ^ 31) (h : ¬ (48 ≤ x ∧ x ≤ 57)) : wp Ln xs 15 0 [.int (nI x)] [] (u, ml_h m lm) Φ = Φ (.inl (some (.int (nI 0)))) (u, ml_h m lm) := by
  rw [x15_0]
  by_cases h1 : x < 48
  · rw [if_pos (nI_lt h1 (by omega)), x15_16]
  · rw [if_neg (nI_nlt (by omega) (by omega)), x15_6, if_pos (nI_lt (by omega) (by omega)), x15_16]
theorem sp16 (hx : x < 2 ^ 31) : wp Ln xs 16 0 [.int (nI x)] [] (u, ml_h m lm) Φ = Φ (.inl (some (.int (nI (s_bv x))))) (u, ml_h m lm) := by
  have e1 := nI_eq (a := x) (b := 42) hx (by decide)
  have e2 := nI_eq (a := x) (b := 44) hx (by decide)
  rw [x16_0]
  rcases s_bv_i x with ⟨h, e⟩ | ⟨h, e⟩ | ⟨h, h2, e⟩
  · rw [if_neg (fun z => z (e1.mpr h)), x16_6, e]
  · rw [if_pos (fun z => by have := e1.mp z; omega), x16_10, if_neg (fun z => z (e2.mpr h)), x16_16, e]
  · rw [if_pos (fun z => h (e1.mp z)), x16_10, if_pos (fun z => h2 (e2.mp z)), x16_20, e]
theorem sp14 (hs : s ≤ 7) (hx : x < 2 ^ 31) : wp Ln xs 14 0 [.int (nI s), .int (nI x)] [] (u, ml_h m lm) Φ = Φ (.inl (some (.int (nI (s_bh s x))))) (u, ml_h m lm) := by
  have e48 := nI_eq (a := x) (b := 48) hx (by decide)
  have e49 := nI_eq (a := x) (b := 49) hx (by decide)
  have e44 := nI_eq (a := x) (b := 44) hx (by decide)
  have : s = 0 ∨ s = 1 ∨ s = 2 ∨ s = 3 ∨ s = 4 ∨ s = 5 ∨ s = 6 ∨ s = 7 := by omega
  rw [x14_0]
  rcases this with rfl | rfl | rfl | rfl | rfl | rfl | rfl | rfl
  · rw [x14_1_0, x14_44]
    by_cases h : x = 48
    · rw [if_neg (fun z => z (e48.mpr h)), x14_50, show s_bh 0 x = 3 from if_pos h]
    · rw [if_pos (fun z => h (e48.mp z)), x14_54]
      by_cases hd : 48 ≤ x ∧ x ≤ 57
      · rw [sp15_t hd, mk_v, x14_58, if_neg s_10, x14_61, show s_bh 0 x = 1 from (if_neg h).trans (if_pos hd)]
      · rw [sp15_f hx hd, mk_v, x14_58, if_pos rfl, x14_65, show s_bh 0 x = 7 from (if_neg h).trans (if_neg hd)]
  · rw [x14_1_1, x14_68]
    by_cases hd : 48 ≤ x ∧ x ≤ 57
    · rw [sp15_t hd, mk_v, x14_72, if_neg s_10, x14_75, show s_bh 1 x = 2 from if_pos hd]
    · rw [sp15_f hx hd, mk_v, x14_72, if_pos rfl, x14_79, sp16 hx, mk_v, x14_83, show s_bh 1 x = s_bv x from if_neg hd]
  · rw [x14_1_2, x14_84]
    by_cases hd : 48 ≤ x ∧ x ≤ 57
    · rw [sp15_t hd, mk_v, x14_88, if_neg s_10, x14_91, show s_bh 2 x = 3 from if_pos hd]
    · rw [sp15_f hx hd, mk_v, x14_88, if_pos rfl, x14_95, sp16 hx, mk_v, x14_99, show s_bh 2 x = s_bv x from if_neg hd]
  · rw [x14_1_3, x14_100, sp16 hx, mk_v, x14_104]
    rfl
  · rw [x14_1_4, x14_105]
    by_cases h : x = 49
    · rw [if_neg (fun z => z (e49.mpr h)), x14_111, show s_bh 4 x = 5 from if_pos h]
    · rw [if_pos (fun z => h (e49.mp z)), x14_115]
      by_cases h5 : x < 50
      · rw [if_pos (nI_lt h5 (by omega)), x14_132, show s_bh 4 x = 7 from (if_neg h).trans (if_neg (by omega))]
      · rw [if_neg (nI_nlt (by omega) (by omega)), x14_121]
        by_cases h6 : 57 < x
        · rw [if_pos (nI_lt h6 (by omega)), x14_132, show s_bh 4 x = 7 from (if_neg h).trans (if_neg (by omega))]
        · rw [if_neg (nI_nlt (by omega) (by omega)), x14_127, show s_bh 4 x = 6 from (if_neg h).trans (if_pos ⟨by omega, by omega⟩)]
  · rw [x14_1_5, x14_135]
    by_cases h5 : x < 48
    · rw [if_pos (nI_lt h5 (by omega)), x14_152, show s_bh 5 x = 7 from if_neg (by omega)]
    · rw [if_neg (nI_nlt (by omega) (by omega)), x14_141]
      by_cases h6 : 54 < x
      · rw [if_pos (nI_lt h6 (by omega)), x14_152, show s_bh 5 x = 7 from if_neg (by omega)]
      · rw [if_neg (nI_nlt (by omega) (by omega)), x14_147, show s_bh 5 x = 6 from if_pos ⟨by omega, by omega⟩]
  · rw [x14_1_6, x14_155]
    by_cases h : x = 44
    · rw [if_neg (fun z => z (e44.mpr h)), x14_161, show s_bh 6 x = 0 from if_pos h]
    · rw [if_pos (fun z => h (e44.mp z)), x14_165, show s_bh 6 x = 7 from if_neg h]
  · rw [x14_1_7, x14_168]
    rfl
theorem sp12_l (hL : L ≤ 60) (h1 : m 52 1 = nI L) (hc : ∀ k, k < L → m 53 k = nI (c k)) (hb : ∀ k, k < L → c k ≤ 126) : ∀ d k, k + d = L → s_dfa c k ≠ 7 → wp Ln xs 12 4 [.ref 52, .int (nI (s_dfa c k)), .int (nI k)] [] (u, ml_h m lm) Φ = Φ (.inl (some (.int (nI (s_fe c L))))) (u, ml_h m lm)
  | 0, k, h, h7 => by
    obtain rfl : k = L := by omega
    rw [x12_4, h1, if_pos (nI_le (Nat.le_refl _) (by omega)), x12_39, h1, ← s_fe_u (Nat.le_refl k) h7 (Or.inl rfl)]
  | d + 1, k, h, h7 => by
    have b1 := hb k (by omega)
    have b2 := s_dfa_le c (k + 1)
    rw [x12_4, h1, if_neg (nI_ge (by omega) (by omega)), x12_12, at_53 (by omega), mk_v, hc k (by omega), x12_21, sp14 (s_dfa_le c k) (by omega), mk_v]
    show wp Ln xs 12 24 _ [.int (nI (s_dfa c (k + 1)))] _ _ = _
    by_cases h8 : s_dfa c (k + 1) = 7
    · rw [h8, x12_24, if_neg (fun z => z rfl), x12_31, ← s_fe_u (show k ≤ L by omega) h7 (Or.inr h8)]
    · rw [x12_24, if_pos (by rw [nI_eq (by omega) (by decide)]; exact h8), x12_33, nI_add]
      exact sp12_l hL h1 hc hb d (k + 1) (by omega) h8
theorem sp12 (hL : L ≤ 60) (h1 : m 52 1 = nI L) (hc : ∀ k, k < L → m 53 k = nI (c k)) (hb : ∀ k, k < L → c k ≤ 126) : wp Ln xs 12 0 [.ref 52, mj_hole, mj_hole] [] (u, ml_h m lm) Φ = Φ (.inl (some (.int (nI (s_fe c L))))) (u, ml_h m lm) := by
  rw [x12_0]
  exact sp12_l hL h1 hc hb L 0 (by omega) (show ¬ (0 : Nat) = 7 by decide)
theorem sp118_l (hL : L ≤ 60) (h1 : m 52 1 = nI L) (hc : ∀ k, k < L → m 53 k = nI (c k)) (hb : ∀ k, k < L → c k ≤ 126) : ∀ d k, k + d = L → wp Ln xs 118 4 [.ref 52, .int (nI (s_dfa c k)), .int (nI k)] [] (u, ml_h m lm) Φ = wp Ln xs 118 31 [.ref 52, .int (nI (s_dfa c L)), .int (nI L)] [] (u, ml_h m lm) Φ
  | 0, k, h => by
    obtain rfl : k = L := by omega
    rw [x118_4, h1, if_pos (nI_le (Nat.le_refl _) (by omega))]
  | d + 1, k, h => by
    have b1 := hb k (by omega)
    rw [x118_4, h1, if_neg (nI_ge (by omega) (by omega)), x118_12, at_53 (by omega), mk_v, hc k (by omega), x118_21, sp14 (s_dfa_le c k) (by omega), mk_v, x118_24, nI_add]
    exact sp118_l hL h1 hc hb d (k + 1) (by omega)
theorem sp118_t (hL : L ≤ 60) (h1 : m 52 1 = nI L) (hc : ∀ k, k < L → m 53 k = nI (c k)) (hb : ∀ k, k < L → c k ≤ 126) (hw : s_wh c L) : wp Ln xs 118 0 [.ref 52, mj_hole, mj_hole] [] (u, ml_h m lm) Φ = Φ (.inl (some (.int (nI 1)))) (u, ml_h m lm) := by
  have e := sp118_l (Ln := Ln) (xs := xs) (u := u) (lm := lm) (Φ := Φ) hL h1 hc hb L 0 (by omega)
  rw [x118_0]
  refine e.trans ?_
  unfold s_wh at hw
  rcases hw with h | h | h | h
  · rw [h, x118_31, if_pos rfl, x118_52]
  · rw [h, x118_31, if_neg (by decide), x118_36, if_pos rfl, x118_52]
  · rw [h, x118_31, if_neg (by decide), x118_36, if_neg (by decide), x118_41, if_pos rfl, x118_52]
  · rw [h, x118_31, if_neg (by decide), x118_36, if_neg (by decide), x118_41, if_neg (by decide), x118_46, if_neg (fun z => z rfl), x118_52]
theorem sp118_f (hL : L ≤ 60) (h1 : m 52 1 = nI L) (hc : ∀ k, k < L → m 53 k = nI (c k)) (hb : ∀ k, k < L → c k ≤ 126) (hw : ¬ s_wh c L) : wp Ln xs 118 0 [.ref 52, mj_hole, mj_hole] [] (u, ml_h m lm) Φ = Φ (.inl (some (.int (nI 0)))) (u, ml_h m lm) := by
  have e := sp118_l (Ln := Ln) (xs := xs) (u := u) (lm := lm) (Φ := Φ) hL h1 hc hb L 0 (by omega)
  have b := s_dfa_le c L
  rw [x118_0]
  refine e.trans ?_
  unfold s_wh at hw
  rw [x118_31, if_neg (by rw [nI_eq (by omega) (by decide)]; omega), x118_36, if_neg (by rw [nI_eq (by omega) (by decide)]; omega), x118_41, if_neg (by rw [nI_eq (by omega) (by decide)]; omega), x118_46, if_pos (by rw [nI_eq (by omega) (by decide)]; omega), x118_56]
theorem sp120 {x y : Int32} (hk : k < 30) (h4 : m 52 4 = nI k) : wp Ln xs 120 0 [.ref 52, .int x, .int y] [] (u, ml_h m lm) Φ = Φ (.inl none) (u, ml_h (ml_s (ml_s (ml_s m 54 k x) 55 k y) 52 4 (nI (k + 1))) lm) := by
  rw [x120_0, h4, put_54 hk, mk_n, x120_12, ml_s_a (by decide), h4, put_55 hk, mk_n, x120_24, ml_s_a (by decide), ml_s_a (by decide), h4, nI_add]
/-- the rows of the parts hold the first n of these -/
def RepP (m : ml_M) (n : Nat) (f g : Nat → Nat) : Prop := m 52 4 = nI n ∧ ∀ j, j < n → m 54 j = nI (f j) ∧ m 55 j = nI (g j)
theorem RepP_ap {f g : Nat → Nat} {a b : Nat} (h : RepP m n f g) : RepP (ml_s (ml_s (ml_s m 54 n (nI a)) 55 n (nI b)) 52 4 (nI (n + 1))) (n + 1) (s_ap f n a) (s_ap g n b) := by
  refine ⟨ml_s_s _ _ _ _, fun j hj => ?_⟩
  unfold s_ap
  by_cases c : j = n
  · subst c
    rw [if_pos rfl, if_pos rfl, ml_s_a (by decide), ml_s_a (by decide), ml_s_s, ml_s_a (by decide), ml_s_s]
    exact ⟨rfl, rfl⟩
  · rw [if_neg c, if_neg c, ml_s_a (by decide), ml_s_a (by decide), ml_s_k c, ml_s_a (by decide), ml_s_k c, ml_s_a (by decide)]
    exact h.2 j (by omega)
def s_nv (c : Nat → Nat) (k : Nat) : Int32 := if s_vv c k = 0 then -1 else nI (s_vv c k - 1)
/-- a part put into the rows -/
theorem sp119_p {L : Nat} (hk7 : s_dfa c k ≠ 7) (hp : s_pc c k < 30) (hR : RepP m (s_pc c k) (s_fv1 c k) (s_fn1 c k)) {x3 x4 : Int32} : wp Ln xs 119 78 [.ref 52, .int (nI (s_num c k)), .int (s_nv c k), .int x3, .int x4] [] (u, ml_h m lm) Φ = wp Ln xs 119 106 [.ref 52, .int (nI 0), .int (-1), .int x3, .int x4] [] (u, ml_h (ml_s (ml_s (ml_s m 54 (s_pc c k) (nI (s_pv c k))) 55 (s_pc c k) (nI (s_pn c k))) 52 4 (nI (s_pc c k + 1))) lm) Φ := by
  have ht := s_ti_c c k
  unfold s_ti at ht
  unfold s_nv s_pv s_pn
  by_cases h : s_vv c k = 0
  · rw [if_pos h, if_pos h, if_pos h, x119_78, if_neg (fun z => z rfl), x119_84, x119_89, if_neg (fun z => z rfl), x119_94, x119_99, sp120 hp hR.1, mk_n, x119_102]
  · rw [if_neg h, if_neg h, if_neg h, x119_78, if_pos (s_nm1 (by omega)), x119_88, x119_89, if_pos (s_nm1 (by omega)), x119_98, x119_99, sp120 hp hR.1, mk_n, x119_102]
theorem sp119_l (hL : L ≤ 60) (hb : ∀ k, k < L → c k ≤ 126) (h7 : s_dfa c L ≠ 7) (h00 : s_dfa c L ≠ 0) {row : Nat → Int32} (hc : ∀ k, k < L → row k = nI (c k)) : ∀ (d k : Nat) (m : ml_M) (v4 : Value), k + d = L → m 52 1 = nI L → m 53 = row → RepP m (s_pc c k) (s_fv1 c k) (s_fn1 c k) → ∃ m', RepP m' (s_pc c L + 1) (s_ap (s_fv1 c L) (s_pc c L) (s_pv c L)) (s_ap (s_fn1 c L) (s_pc c L) (s_pn c L)) ∧ m' 52 1 = nI L ∧ (∀ a, a ≠ 52 → a ≠ 54 → a ≠ 55 → m' a = m a) ∧ ∀ Φ : mj_R → mj_W → Prop, wp Ln xs 119 11 [.ref 52, .int (nI (s_num c k)), .int (s_nv c k), .int (nI k), v4] [] (u, ml_h m lm) Φ = Φ (.inl none) (u, ml_h m' lm)
  | 0, k, m, v4, h, h1, h3, hR => by
    obtain rfl : k = L := by omega
    have hp := s_pc_le c k h7
    rw [if_neg h00] at hp
    have hp2 : s_pc c k < 30 := by omega
    refine ⟨_, RepP_ap hR, by rw [ml_s_k (by decide), ml_s_a (by decide), ml_s_a (by decide), h1], fun a ha hb hc => by rw [ml_s_row ha, ml_s_row hc, ml_s_row hb], fun Φ => ?_⟩
    rw [x119_11, h1, if_neg (nI_nlt (Nat.le_refl _) (by omega)), x119_19, h1, if_pos (nI_le (Nat.le_refl _) (by omega)), x119_38, x119_40, sp15_f (by decide) (by decide), mk_v, x119_47, if_pos rfl, x119_64, if_pos (by decide), sp119_p (L := k) h7 hp2 hR, x119_106, nI_add, x119_11, ml_s_k (by decide), ml_s_a (by decide), ml_s_a (by decide), h1, if_pos (nI_lt (Nat.lt_succ_self k) (by omega)), x119_112]
  | d + 1, k, m, v4, h, h1, h3, hR => by
    have b1 := hb k (by omega)
    have hk7 := s_dfa_n h7 (show k ≤ L by omega)
    have hk8 := s_dfa_n h7 (show k + 1 ≤ L by omega)
    have ht := s_ti_c c k
    unfold s_ti at ht
    have start : ∀ Φ : mj_R → mj_W → Prop, wp Ln xs 119 11 [.ref 52, .int (nI (s_num c k)), .int (s_nv c k), .int (nI k), v4] [] (u, ml_h m lm) Φ = wp Ln xs 119 40 [.ref 52, .int (nI (s_num c k)), .int (s_nv c k), .int (nI k), v4] [.int (nI (c k))] (u, ml_h m lm) Φ := fun Φ => by
      rw [x119_11, h1, if_neg (nI_nlt (by omega) (by omega)), x119_19, h1, if_neg (nI_ge (by omega) (by omega)), x119_27, at_53 (by omega), mk_v, h3, hc k (by omega), x119_35]
    by_cases hd : 48 ≤ c k ∧ c k ≤ 57
    · have e1 : s_pc c (k + 1) = s_pc c k := if_pos (Or.inl hd)
      have e2 : s_fv1 c (k + 1) = s_fv1 c k := if_pos (Or.inl hd)
      have e3 : s_fn1 c (k + 1) = s_fn1 c k := if_pos (Or.inl hd)
      have e4 : s_num c (k + 1) = 10 * s_num c k + c k - 48 := if_pos hd
      have e5 : s_vv c (k + 1) = s_vv c k := if_pos hd
      have e6 : s_nv c (k + 1) = s_nv c k := by
        unfold s_nv
        rw [e5]
      obtain ⟨m', r, g1, fr, e⟩ := sp119_l hL hb h7 h00 hc d (k + 1) m (.int (nI (c k))) (by omega) h1 h3 (by rw [e1, e2, e3]; exact hR)
      refine ⟨m', r, g1, fr, fun Φ => ?_⟩
      have e9 := e Φ
      rw [e4, e6] at e9
      rw [start, x119_40, sp15_t hd, mk_v, x119_47, if_neg s_10, x119_50, pk_mul, nI_add, pk_sub (by omega), x119_106, nI_add]
      exact e9
    · by_cases h42 : c k = 42
      · have e1 : s_pc c (k + 1) = s_pc c k := if_pos (Or.inr h42)
        have e2 : s_fv1 c (k + 1) = s_fv1 c k := if_pos (Or.inr h42)
        have e3 : s_fn1 c (k + 1) = s_fn1 c k := if_pos (Or.inr h42)
        have e4 : s_num c (k + 1) = 0 := if_neg hd
        have e5 : s_vv c (k + 1) = s_num c k + 1 := (if_neg hd).trans (if_pos h42)
        have e6 : s_nv c (k + 1) = nI (s_num c k) := by
          unfold s_nv
          rw [e5, if_neg (by omega), Nat.add_sub_cancel]
        obtain ⟨m', r, g1, fr, e⟩ := sp119_l hL hb h7 h00 hc d (k + 1) m (.int (nI (c k))) (by omega) h1 h3 (by rw [e1, e2, e3]; exact hR)
        refine ⟨m', r, g1, fr, fun Φ => ?_⟩
        have e9 := e Φ
        rw [e4, e6] at e9
        rw [start, x119_40, sp15_f (by omega) hd, mk_v, x119_47, if_pos rfl, x119_64, if_neg (fun z => z (by rw [h42])), x119_71, x119_106, nI_add]
        exact e9
      · have hn : ¬ ((48 ≤ c k ∧ c k ≤ 57) ∨ c k = 42) := fun z => z.elim hd h42
        have e1 : s_pc c (k + 1) = s_pc c k + 1 := if_neg hn
        have e2 : s_fv1 c (k + 1) = s_ap (s_fv1 c k) (s_pc c k) (s_pv c k) := if_neg hn
        have e3 : s_fn1 c (k + 1) = s_ap (s_fn1 c k) (s_pc c k) (s_pn c k) := if_neg hn
        have e4 : s_num c (k + 1) = 0 := if_neg hd
        have e5 : s_vv c (k + 1) = 0 := (if_neg hd).trans (if_neg h42)
        have e6 : s_nv c (k + 1) = -1 := by
          unfold s_nv
          rw [e5, if_pos rfl]
        have hp := s_pc_le c (k + 1) hk8
        rw [e1] at hp
        have hR2 := RepP_ap (a := s_pv c k) (b := s_pn c k) hR
        rw [← e1, ← e2, ← e3] at hR2
        obtain ⟨m', r, g1, fr, e⟩ := sp119_l hL hb h7 h00 hc d (k + 1) _ (.int (nI (c k))) (by omega) (by rw [ml_s_k (by decide), ml_s_a (by decide), ml_s_a (by decide), h1]) (by rw [ml_s_row (by decide), ml_s_row (by decide), ml_s_row (by decide), h3]) hR2
        refine ⟨m', r, g1, fun a ha hb hc => by rw [fr a ha hb hc, ml_s_row ha, ml_s_row hc, ml_s_row hb], fun Φ => ?_⟩
        have e9 := e Φ
        rw [e4, e6] at e9
        rw [start, x119_40, sp15_f (by omega) hd, mk_v, x119_47, if_pos rfl, x119_64, if_pos (by rw [nI_eq (by omega) (by decide)]; exact h42), sp119_p (L := L) hk7 (by omega) hR, x119_106, nI_add, ← e1]
        exact e9
theorem sp119 (hL : L ≤ 60) (h1 : m 52 1 = nI L) (hc : ∀ k, k < L → m 53 k = nI (c k)) (hb : ∀ k, k < L → c k ≤ 126) (h7 : s_dfa c L ≠ 7) (h00 : s_dfa c L ≠ 0) : ∃ m', RepP m' (s_pc c L + 1) (s_ap (s_fv1 c L) (s_pc c L) (s_pv c L)) (s_ap (s_fn1 c L) (s_pc c L) (s_pn c L)) ∧ m' 52 1 = nI L ∧ (∀ a, a ≠ 52 → a ≠ 54 → a ≠ 55 → m' a = m a) ∧ ∀ Φ : mj_R → mj_W → Prop, wp Ln xs 119 0 [.ref 52, mj_hole, mj_hole, mj_hole, mj_hole] [] (u, ml_h m lm) Φ = Φ (.inl none) (u, ml_h m' lm) := by
  obtain ⟨m', r, g1, fr, e⟩ := sp119_l (Ln := Ln) (xs := xs) (u := u) (lm := lm) hL hb h7 h00 (row := m 53) hc L 0 (ml_s m 52 4 (nI 0)) mj_hole (by omega) (by rw [ml_s_k (by decide), h1]) (ml_s_row (by decide)) ⟨ml_s_s _ _ _ _, fun j hj => absurd hj (Nat.not_lt_zero j)⟩
  refine ⟨m', r, g1, fun a ha hb hc => by rw [fr a ha hb hc, ml_s_row ha], fun Φ => ?_⟩
  rw [x119_0]
  exact e Φ
/-! load -/
theorem sp117_i {x2 : Int32} {q : s_S × Nat} (hv : v ≤ 999) (ht : t < 2 ^ 31) (hq : s_ok q.1) : ∀ (d i : Nat) (m : ml_M), i + d = t → RepC m 2 (s_wt v i q).1 → ∃ m' x5, RepC m' 2 (s_wt v t q).1 ∧ (∀ a, a < 2 ∨ (7 < a ∧ a < 58) ∨ 60 < a → m' a = m a) ∧ ∀ Φ : mj_R → mj_W → Prop, wp Ln xs 117 81 [.ref 1, .int (nI (s_wt v i q).2), .int x2, .int (nI v), .int (nI t), .int (nI i)] [] (u, ml_h m lm) Φ = wp Ln xs 117 112 [.ref 1, .int (nI (s_wt v t q).2), .int x2, .int (nI v), .int (nI t), .int x5] [] (u, ml_h m' lm) Φ
  | 0, i, m, h, hR => by
    obtain rfl : i = t := by omega
    refine ⟨m, nI i, hR, fun _ _ => rfl, fun Φ => ?_⟩
    rw [x117_81, if_pos (nI_le (Nat.le_refl _) (by omega))]
  | d + 1, i, m, h, hR => by
    have ho := s_wt_ok hv hq i
    by_cases hc : s_can (s_wt v i q).1
    · obtain ⟨m1, r1, f1, e1⟩ := sp87 (Ln := Ln) (xs := xs) (u := u) (lm := lm) ho hv hc hR
      have es : s_wt v (i + 1) q = (s_put (s_wt v i q).1 v, (s_wt v i q).2 + 1) := s_w1_y hc
      obtain ⟨m2, x5, r2, f2, e2⟩ := sp117_i (x2 := x2) hv ht hq d (i + 1) m1 (by omega) (by rw [es]; exact r1)
      refine ⟨m2, x5, r2, fun a ha => by rw [f2 a ha, f1 a ha], fun Φ => ?_⟩
      have e9 := e2 Φ
      rw [es] at e9
      rw [x117_81, if_neg (nI_ge (by omega) ht), x117_88, sp84_t ho hR hc, mk_v, x117_95, if_neg s_10, x117_98, e1, mk_n, x117_103, nI_add, nI_add]
      exact e9
    · have es : s_wt v t q = s_wt v i q := by
        have := s_wt_d hc (d + 1)
        rwa [h] at this
      refine ⟨m, nI i, by rw [es]; exact hR, fun _ _ => rfl, fun Φ => ?_⟩
      rw [es, x117_81, if_neg (nI_ge (by omega) ht), x117_88, sp84_f ho hR hc, mk_v, x117_95, if_pos rfl]
theorem s_fo_ok {f g : Nat → Nat} {q : s_S × Nat} (h : s_ok q.1) : ∀ n, (∀ j, j < n → f j ≤ 999) → s_ok (s_fo f g q n).1
  | 0, _ => h
  | n + 1, hf => s_wt_ok (hf n (by omega)) (s_fo_ok h n (fun j hj => hf j (by omega))) _
theorem sp117_o {P : Nat} {f g : Nat → Nat} {q : s_S × Nat} {row4 row5 : Nat → Int32} (hP : P ≤ 30) (hq : s_ok q.1) (hf : ∀ j, j < P → f j ≤ 999 ∧ g j ≤ 16) (h4 : ∀ j, j < P → row4 j = nI (f j) ∧ row5 j = nI (g j)) : ∀ (d j : Nat) (m : ml_M) (v3 v4 v5 : Value), j + d = P → m 52 4 = nI P → m 54 = row4 → m 55 = row5 → RepC m 2 (s_fo f g q j).1 → ∃ m', RepC m' 2 (s_fo f g q P).1 ∧ (∀ a, a < 2 ∨ (7 < a ∧ a < 58) ∨ 60 < a → m' a = m a) ∧ ∃ w3 w4 w5, ∀ Φ : mj_R → mj_W → Prop, wp Ln xs 117 42 [.ref 1, .int (nI (s_fo f g q j).2), .int (nI j), v3, v4, v5] [] (u, ml_h m lm) Φ = wp Ln xs 117 118 [.ref 1, .int (nI (s_fo f g q P).2), .int (nI P), w3, w4, w5] [] (u, ml_h m' lm) Φ
  | 0, j, m, v3, v4, v5, h, hm4, hr4, hr5, hR => by
    obtain rfl : j = P := by omega
    refine ⟨m, hR, fun _ _ => rfl, v3, v4, v5, fun Φ => ?_⟩
    rw [x117_42, hm4, if_pos (nI_le (Nat.le_refl _) (by omega))]
  | d + 1, j, m, v3, v4, v5, h, hm4, hr4, hr5, hR => by
    have hj := hf j (by omega)
    have ho := s_fo_ok (g := g) hq j (fun i hi => (hf i (by omega)).1)
    have h45 := h4 j (by omega)
    obtain ⟨m1, x5, r1, f1, e1⟩ := sp117_i (Ln := Ln) (xs := xs) (u := u) (lm := lm) (x2 := nI j) (q := s_fo f g q j) (t := g j) hj.1 (by omega) ho (g j) 0 m (by omega) hR
    obtain ⟨m2, r2, f2, w3, w4, w5, e2⟩ := sp117_o hP hq hf h4 d (j + 1) m1 (.int (nI (f j))) (.int (nI (g j))) (.int x5) (by omega) (by rw [f1 52 (by omega)]; exact hm4) (by rw [f1 54 (by omega)]; exact hr4) (by rw [f1 55 (by omega)]; exact hr5) r1
    refine ⟨m2, r2, fun a ha => by rw [f2 a ha, f1 a ha], w3, w4, w5, fun Φ => ?_⟩
    have e9 := e2 Φ
    have e8 := e1 Φ
    rw [x117_42, hm4, if_neg (nI_ge (by omega) (by omega)), x117_53, at_54 (by omega), mk_v, hr4, h45.1, x117_64, at_55 (by omega), mk_v, hr5, h45.2, x117_76]
    refine e8.trans ?_
    rw [x117_112, nI_add]
    exact e9
theorem sp117_a (hL : L ≤ 60) (h1 : m 52 1 = nI L) (hc : ∀ k, k < L → m 53 k = nI (c k)) (hb : ∀ k, k < L → c k ≤ 126) (hw : ¬ s_wh c L) : wp Ln xs 117 0 [.ref 1, mj_hole, mj_hole, mj_hole, mj_hole, mj_hole] [] (u, ml_h m lm) Φ = Φ (.inr 0) ((u.1, u.2.1 + 1, u.2.2 + 6), ml_h m lm) := by
  rw [x117_0, sp118_f hL h1 hc hb hw, mk_v, x117_7, if_neg (fun z => z rfl), x117_10]
theorem s_f1_le {c : Nat → Nat} : ∀ k, s_dfa c k ≠ 7 → ∀ j, j < s_pc c k → s_fv1 c k j ≤ 999 ∧ s_fn1 c k j ≤ 16
  | 0, _, j, hj => absurd hj (Nat.not_lt_zero j)
  | k + 1, h7, j, hj => by
    have h6 := s_dfa_n h7 (Nat.le_succ k)
    have ih := s_f1_le k h6
    rw [s_pc] at hj
    rw [s_fv1, s_fn1]
    by_cases h : (48 ≤ c k ∧ c k ≤ 57) ∨ c k = 42
    · rw [if_pos h] at hj
      rw [if_pos h, if_pos h]
      exact ih j hj
    · rw [if_neg h] at hj
      rw [if_neg h, if_neg h]
      unfold s_ap
      by_cases e : j = s_pc c k
      · rw [if_pos e, if_pos e]
        exact s_pv_le h6
      · rw [if_neg e, if_neg e]
        exact ih j (by omega)
theorem sp117_k (h0 : s_ok σ) (h : RepC m 2 σ) (hx : RepX m n ss t τ tl tx) (hL : tl ≤ 60) (hb : ∀ k, k < tl → tx k ≤ 126) (hw : s_wh tx tl) : ∃ m', RepC m' 2 (s_fin tx σ tl).1 ∧ RepX m' (s_nx n) (s_push n ss σ) t τ 0 tx ∧ (∀ a, 72 ≤ a → m' a = m a) ∧ ∀ Φ : mj_R → mj_W → Prop, wp Ln xs 117 0 [.ref 1, mj_hole, mj_hole, mj_hole, mj_hole, mj_hole] [] (u, ml_h m lm) Φ = Φ (.inl (some (.int (nI (s_fin tx σ tl).2)))) (u, ml_h m' lm) := by
  have h7 := s_wh_7 hw
  have hx0 := hx
  obtain ⟨m1, r1, q1, f1, e1⟩ := sp_push (Ln := Ln) (xs := xs) (u := u) (lm := lm) h0 h hx
  obtain ⟨m2, r2, g2, f2, e2⟩ := sp119 (Ln := Ln) (xs := xs) (u := u) (lm := lm) hL q1.2.2.2.1 q1.2.2.2.2 hb h7 (by unfold s_wh at hw; omega)
  have hpc : s_pc tx tl + 1 ≤ 30 := by
    have hp := s_pc_le tx tl h7
    unfold s_wh at hw
    rw [if_neg (by omega)] at hp
    omega
  have rc2 : RepC m2 2 (s_fo (s_ap (s_fv1 tx tl) (s_pc tx tl) (s_pv tx tl)) (s_ap (s_fn1 tx tl) (s_pc tx tl) (s_pn tx tl)) (σ, 0) 0).1 := RepC_of r1 (fun a _ _ => f2 a (by omega) (by omega) (by omega))
  obtain ⟨m3, r3, f3, w3, w4, w5, e3⟩ := sp117_o (Ln := Ln) (xs := xs) (u := u) (lm := lm) (q := (σ, 0)) (row4 := m2 54) (row5 := m2 55) hpc h0 (fun j hj => by
    unfold s_ap
    by_cases e : j = s_pc tx tl
    · rw [if_pos e, if_pos e]
      exact s_pv_le h7
    · rw [if_neg e, if_neg e]
      exact s_f1_le tl h7 j (by omega)) r2.2 (s_pc tx tl + 1) 0 m2 mj_hole mj_hole mj_hole (by omega) r2.1 rfl rfl rc2
  have efin : s_fo (s_ap (s_fv1 tx tl) (s_pc tx tl) (s_pv tx tl)) (s_ap (s_fn1 tx tl) (s_pc tx tl) (s_pn tx tl)) (σ, 0) (s_pc tx tl + 1) = s_fin tx σ tl := by
    rw [s_fo_ap, s_fo_ld]
    rfl
  rw [efin] at r3
  have q3 : RepX m2 (s_nx n) (s_push n ss σ) t τ tl tx := by
    obtain ⟨z1, z2, z3, z4, z5⟩ := q1
    exact ⟨RepH_of z1 (fun a _ _ => f2 a (by omega) (by omega) (by omega)), by rw [f2 1 (by decide) (by decide) (by decide)]; exact z2, fun ht => RepC_of (z3 ht) (fun a _ _ => f2 a (by omega) (by omega) (by omega)), g2, fun k hk => by rw [f2 53 (by decide) (by decide) (by decide)]; exact z5 k hk⟩
  have q4 := RepX_of q3 (fun a ha => f3 a (by omega))
  refine ⟨ml_s m3 52 1 (nI 0), RepC_of r3 (fun a _ _ => ml_s_row (by omega)), ?_, fun a ha => by rw [ml_s_row (by omega), f3 a (by omega), f2 a (by omega) (by omega) (by omega), f1 a (by omega)], fun Φ => ?_⟩
  · obtain ⟨z1, z2, z3, z4, z5⟩ := q4
    exact ⟨RepH_of z1 (fun a _ _ => ml_s_row (by omega)), by rw [ml_s_a (by decide)]; exact z2, fun ht => RepC_of (z3 ht) (fun a _ _ => ml_s_row (by omega)), ml_s_s _ _ _ _, fun k hk => absurd hk (Nat.not_lt_zero k)⟩
  · have e9 := e3 Φ
    rw [efin] at e9
    rw [x117_0, sp118_t hL hx0.2.2.2.1 hx0.2.2.2.2 hb hw, mk_v, x117_7, if_pos s_10, x117_20, e1, mk_n, x117_31, e2, mk_n, x117_38]
    refine e9.trans ?_
    rw [x117_118]
theorem sp10_k (h : RepC m 2 σ) (hx : RepX m n ss t τ tl tx) : ∃ m', RepC m' 2 σ ∧ RepX m' n ss t τ 0 tx ∧ (∀ a, 72 ≤ a → m' a = m a) ∧ ∀ Φ : mj_R → mj_W → Prop, wp Ln xs 10 0 [.ref 1, mj_hole] [] (u, ml_h m lm) Φ = Φ (.inl (some (.int (nI tl)))) (u, ml_h m' lm) := by
  obtain ⟨z1, z2, z3, z4, z5⟩ := hx
  refine ⟨ml_s m 52 1 (nI 0), RepC_of h (fun a _ _ => ml_s_row (by omega)), ⟨RepH_of z1 (fun a _ _ => ml_s_row (by omega)), by rw [ml_s_a (by decide)]; exact z2, fun ht => RepC_of (z3 ht) (fun a _ _ => ml_s_row (by omega)), ml_s_s _ _ _ _, fun k hk => absurd hk (Nat.not_lt_zero k)⟩, fun a ha => ml_s_row (by omega), fun Φ => ?_⟩
  rw [x10_0, z4]
theorem sp11_k (hx : RepX m n ss t τ tl tx) (hL : tl ≤ 60) (hb : ∀ k, k < tl → tx k ≤ 126) : wp Ln xs 11 0 [.ref 1] [] (u, ml_h m lm) Φ = Φ (.inl (some (.int (nI (s_fe tx tl))))) (u, ml_h m lm) := by
  rw [x11_0, sp12 hL hx.2.2.2.1 hx.2.2.2.2 hb, mk_v, x11_7]
theorem sp114_a (h : y < nI 33 ∨ nI 126 < y) : wp Ln xs 114 0 [.ref 1, .int y] [] (u, ml_h m lm) Φ = Φ (.inr 0) ((u.1, u.2.1 + 1, u.2.2 + 6), ml_h m lm) := by
  rw [x114_0]
  by_cases c : y < nI 33
  · rw [if_pos c, x114_12]
  · rw [if_neg c, x114_6, if_neg (fun z => Int32.lt_irrefl (Int32.lt_of_le_of_lt z (h.resolve_left c))), x114_12]
theorem sp114_s (hx : RepX m n ss t τ tl tx) (h1 : 33 ≤ v) (h2 : v ≤ 126) (hL : tl = 60) : wp Ln xs 114 0 [.ref 1, .int (nI v)] [] (u, ml_h m lm) Φ = Φ (.inr 1) ((u.1, u.2.1 + 1, u.2.2 + 6), ml_h m lm) := by
  rw [x114_0, if_neg (nI_nlt h1 (by omega)), x114_6, if_pos (nI_le h2 (by omega)), x114_22, hx.2.2.2.1, hL, if_neg (nI_nlt (Nat.le_refl _) (by decide)), x114_34]
theorem sp114_k (h : RepC m 2 σ) (hx : RepX m n ss t τ tl tx) (h1 : 33 ≤ v) (h2 : v ≤ 126) (hL : tl < 60) : ∃ m', RepC m' 2 σ ∧ RepX m' n ss t τ (tl + 1) (s_ap tx tl v) ∧ (∀ a, 72 ≤ a → m' a = m a) ∧ ∀ Φ : mj_R → mj_W → Prop, wp Ln xs 114 0 [.ref 1, .int (nI v)] [] (u, ml_h m lm) Φ = Φ (.inl (some (.int (nI (tl + 1))))) (u, ml_h m' lm) := by
  obtain ⟨z1, z2, z3, z4, z5⟩ := hx
  refine ⟨ml_s (ml_s m 53 tl (nI v)) 52 1 (nI (tl + 1)), RepC_of h (fun a _ _ => by rw [ml_s_row (by omega), ml_s_row (by omega)]), ⟨RepH_of z1 (fun a _ _ => by rw [ml_s_row (by omega), ml_s_row (by omega)]), by rw [ml_s_a (by decide), ml_s_a (by decide)]; exact z2, fun ht => RepC_of (z3 ht) (fun a _ _ => by rw [ml_s_row (by omega), ml_s_row (by omega)]), ml_s_s _ _ _ _, fun k hk => ?_⟩, fun a ha => by rw [ml_s_row (by omega), ml_s_row (by omega)], fun Φ => ?_⟩
  · rw [ml_s_a (by decide)]
    unfold s_ap
    by_cases c : k = tl
    · rw [if_pos c, c, ml_s_s]
    · rw [if_neg c, ml_s_k c]
      exact z5 k (by omega)
  · rw [x114_0, if_neg (nI_nlt h1 (by omega)), x114_6, if_pos (nI_le h2 (by omega)), x114_22, z4, if_pos (nI_lt hL (by decide)), x114_44, x115_0, z4, put_53 hL, mk_n, x115_12, ml_s_a (by decide), z4, nI_add, mk_n, x114_52, ml_s_s]
end CTX
