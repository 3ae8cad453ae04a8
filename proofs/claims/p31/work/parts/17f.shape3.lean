/-! ===== Shape: taking in, sizes, the lightest form, ranks ===== -/
theorem s_un_pos (f : Nat → Nat) : ∀ n, 0 < s_un f (n + 1)
  | 0 => Nat.zero_lt_one
  | n + 1 => by
    have := s_un_pos f n
    rw [s_un]
    omega
def s_sz (f : Nat → Nat) (n fo : Nat) : Nat := match fo with
  | 0 => n * 10
  | 1 => 14 + n * s_wd (s_hi f n - s_lo f n)
  | 2 => s_rn f n * 14
  | 3 => 14 + (n - 1) * s_wd (s_ts f n)
  | _ => 4 + s_un f n * 10 + n * s_wd (s_un f n - 1)
/-- of the forms up to k the lightest that a allows -/
def s_li (a : Nat) (z : Nat → Nat) : Nat → Nat
  | 0 => 0
  | k + 1 => if a / 2 ^ (k + 1) % 2 = 1 ∧ z (k + 1) < z (s_li a z k) then k + 1 else s_li a z k
theorem s_li_le (a : Nat) (z : Nat → Nat) : ∀ k, s_li a z k ≤ k
  | 0 => Nat.le_refl _
  | k + 1 => by
    have := s_li_le a z k
    rw [s_li]
    split <;> omega
theorem s_lo1 (f : Nat → Nat) : s_lo f 1 = f 0 := by
  rw [s_lo, s_lo]
  exact if_neg (Nat.lt_irrefl _)
theorem s_hi1 (f : Nat → Nat) : s_hi f 1 = f 0 := by
  rw [s_hi, s_hi]
  exact if_neg (Nat.lt_irrefl _)
theorem s_and1 {q : Nat} (h : q < 2 ^ 31) : nI q &&& nI 1 = nI (q % 2) := pk_andN (by omega) 1 rfl
theorem s_wd_le : ∀ (b n : Nat), n < 2 ^ b → s_wd n ≤ b
  | 0, n, h => by
    obtain rfl : n = 0 := by rw [Nat.pow_zero] at h; omega
    rw [s_wd0]
    exact Nat.le_refl _
  | b + 1, n, h => by
    by_cases h0 : n = 0
    · subst h0
      rw [s_wd0]
      exact Nat.zero_le _
    · rw [s_wdS h0]
      rw [Nat.pow_succ] at h
      have := s_wd_le b (n / 2) (by omega)
      omega
theorem s_sz_le {f : Nat → Nat} {n fo : Nat} (hn : n ≤ 16) (h0 : 0 < n) (hb : ∀ i, i < n → f i ≤ 999) : s_sz f n fo ≤ 1000 := by
  have h1 := s_hi_le n (hb 0 h0) hb
  have h2 := s_wd_le 10 (s_hi f n - s_lo f n) (by omega)
  have h3 := s_rn_le f n
  have h4 := s_un_le f n
  have h5 := s_wd_le 5 (s_un f n - 1) (by omega)
  have h6 := s_wd_le 11 (s_ts f n) (by have := s_ts_le n hb; omega)
  have q1 : n * s_wd (s_hi f n - s_lo f n) ≤ 16 * 10 := Nat.mul_le_mul hn h2
  have q2 : (n - 1) * s_wd (s_ts f n) ≤ 15 * 11 := Nat.mul_le_mul (by omega) h6
  have q3 : n * s_wd (s_un f n - 1) ≤ 16 * 5 := Nat.mul_le_mul hn h5
  unfold s_sz
  split <;> omega
section SPF
variable {Ln : Nat} {xs : Nat → Int32} {u : mj_U} {m : ml_M} {lm : ml_J} {Φ : mj_R → mj_W → Prop} {p n : Nat} {f : Nat → Nat}
theorem sp22 (f : Nat → Nat) (hp : ml_sh p) : ∃ m', RepS m' p f 0 ∧ (∀ a, a ≠ p → m' a = m a) ∧ ∀ Φ : mj_R → mj_W → Prop, wp Ln xs 22 0 [.ref p] [] (u, ml_h m lm) Φ = Φ (.inl none) (u, ml_h m' lm) := by
  refine ⟨_, ⟨?_, ?_, fun h => absurd h (Nat.lt_irrefl _), ?_, ?_, f, ⟨fun i j _ h => absurd h (Nat.not_lt_zero _), fun i h => absurd h (Nat.not_lt_zero _), fun i h => absurd h (Nat.not_lt_zero _), fun _ => rfl⟩, fun i h => absurd h (Nat.not_lt_zero _)⟩, fun a ha => ?_, fun Φ => x22_0 hp⟩
  · rw [ml_s_k (by decide), ml_s_k (by decide), ml_s_k (by decide), ml_s_s]
    rfl
  · rw [ml_s_k (by decide), ml_s_k (by decide), ml_s_s]
  · rw [ml_s_k (by decide), ml_s_s]
    rfl
  · rw [ml_s_s]
    rfl
  · rw [ml_s_row ha, ml_s_row ha, ml_s_row ha, ml_s_row ha]
theorem sp23_k (hp : ml_sh p) (hn : n < 16) (hb : ∀ i, i < n + 1 → f i ≤ 999) (h : RepS m p f n) : ∀ Φ : mj_R → mj_W → Prop, wp Ln xs 23 0 [.ref p, .int (nI (f n))] [] (u, ml_h m lm) Φ = wp Ln xs 25 0 [.ref p, .int (nI (f n)), mj_hole, mj_hole] [] (u, ml_h (ml_s (ml_s (if n = 0 then ml_s (ml_s (ml_s m p 3 (nI (f n))) p 4 (nI (f n))) p 5 (nI 1) else ml_s (ml_s (ml_s (ml_s m p 3 (nI (s_lo f (n + 1)))) p 4 (nI (s_hi f (n + 1)))) p 5 (nI (s_rn f (n + 1)))) p 6 (nI (s_ts f (n + 1)))) p 7 (nI (f n))) p 2 (nI (n + 1))) lm) (mk Ln xs 23 126 [.ref p, .int (nI (f n))] [] Φ) := by
  intro Φ
  obtain ⟨h1, h2, h3, h5, h6, hg⟩ := h
  have hx := hb n (by omega)
  rw [x23_0 hp, h2]
  by_cases hc : n = 0
  · subst hc
    simp (disch := omega) only [nI_leI, nI_ltI, nI_eq, nI_add, pk_sub, pk_mul, if_pos, if_neg, mk_v, mk_n, Nat.reduceAdd, Nat.reduceMul, Nat.reduceSub, Nat.reduceLT, Nat.reduceLeDiff, Nat.reduceEqDiff, if_true, if_false, not_true_eq_false, not_false_eq_true, Nat.add_zero, Nat.zero_add, x23_7 hp, x23_109 hp, ml_s_k, h2]
  · obtain ⟨h3, h4, h7⟩ := h3 (by omega)
    have hy := hb (n - 1) (by omega)
    have hl := s_lo_le n (hb 0 (by omega)) (fun i hi => hb i (by omega))
    have hh := s_hi_le n (hb 0 (by omega)) (fun i hi => hb i (by omega))
    have ht := s_ts_le n (fun i hi => hb i (by omega))
    have hs := s_st_le hy hx
    have hr := s_rn_le f n
    rw [s_lo, s_hi, s_rn, s_ts, if_neg hc, if_neg hc]
    by_cases c1 : f n < s_lo f n <;> by_cases c2 : s_hi f n < f n <;> by_cases c3 : f n = f (n - 1) <;> by_cases c4 : s_ts f n < s_st (f (n - 1)) (f n) <;> simp (disch := omega) only [nI_leI, nI_ltI, nI_eq, nI_add, pk_sub, pk_mul, if_pos, if_neg, mk_v, mk_n, Nat.reduceAdd, Nat.reduceMul, Nat.reduceSub, Nat.reduceLT, Nat.reduceLeDiff, Nat.reduceEqDiff, if_true, if_false, not_true_eq_false, not_false_eq_true, Nat.add_zero, Nat.zero_add, x23_25 hp, x23_34, x23_38 hp, x23_42 hp, x23_54, x23_58 hp, x23_62 hp, x23_74 hp, x23_81 hp, x23_87 hp, x23_103 hp, x23_109 hp, sp_step, ml_s_k, h2, h3, h4, h5, h6, h7]
theorem sp23 (hp : ml_sh p) (hn : n < 16) (hb : ∀ i, i < n + 1 → f i ≤ 999) (h : RepS m p f n) : ∃ m', RepS m' p f (n + 1) ∧ (∀ a, a ≠ p → a ≠ p + 1 → m' a = m a) ∧ ∀ Φ : mj_R → mj_W → Prop, wp Ln xs 23 0 [.ref p, .int (nI (f n))] [] (u, ml_h m lm) Φ = Φ (.inl none) (u, ml_h m' lm) := by
  have hk := sp23_k (Ln := Ln) (xs := xs) (u := u) (lm := lm) hp hn hb h
  obtain ⟨h1, h2, h3, h5, h6, hg⟩ := h
  have hpp : p + 1 ≠ p := by omega
  generalize hM : ml_s (ml_s (if n = 0 then ml_s (ml_s (ml_s m p 3 (nI (f n))) p 4 (nI (f n))) p 5 (nI 1) else ml_s (ml_s (ml_s (ml_s m p 3 (nI (s_lo f (n + 1)))) p 4 (nI (s_hi f (n + 1)))) p 5 (nI (s_rn f (n + 1)))) p 6 (nI (s_ts f (n + 1)))) p 7 (nI (f n))) p 2 (nI (n + 1)) = M at hk
  have f1 : M p 1 = m p 1 := by
    rw [← hM, ml_s_k (by decide), ml_s_k (by decide)]
    split
    · rw [ml_s_k (by decide), ml_s_k (by decide), ml_s_k (by decide)]
    · rw [ml_s_k (by decide), ml_s_k (by decide), ml_s_k (by decide), ml_s_k (by decide)]
  have fr : ∀ a, a ≠ p → M a = m a := by
    intro a ha
    rw [← hM, ml_s_row ha, ml_s_row ha]
    split
    · rw [ml_s_row ha, ml_s_row ha, ml_s_row ha]
    · rw [ml_s_row ha, ml_s_row ha, ml_s_row ha, ml_s_row ha]
  have f2 : M p 2 = nI (n + 1) := by rw [← hM, ml_s_s]
  have f7 : M p 7 = nI (f n) := by rw [← hM, ml_s_k (by decide), ml_s_s]
  have f3 : M p 3 = nI (s_lo f (n + 1)) := by
    rw [← hM, ml_s_k (by decide), ml_s_k (by decide)]
    split
    · rename_i hc
      subst hc
      rw [ml_s_k (by decide), ml_s_k (by decide), ml_s_s, Nat.zero_add, s_lo1]
    · rw [ml_s_k (by decide), ml_s_k (by decide), ml_s_k (by decide), ml_s_s]
  have f4 : M p 4 = nI (s_hi f (n + 1)) := by
    rw [← hM, ml_s_k (by decide), ml_s_k (by decide)]
    split
    · rename_i hc
      subst hc
      rw [ml_s_k (by decide), ml_s_s, Nat.zero_add, s_hi1]
    · rw [ml_s_k (by decide), ml_s_k (by decide), ml_s_s]
  have f5 : M p 5 = nI (s_rn f (n + 1)) := by
    rw [← hM, ml_s_k (by decide), ml_s_k (by decide)]
    split
    · rename_i hc
      subst hc
      rw [ml_s_s]
      rfl
    · rw [ml_s_k (by decide), ml_s_s]
  have f6 : M p 6 = nI (s_ts f (n + 1)) := by
    rw [← hM, ml_s_k (by decide), ml_s_k (by decide)]
    split
    · rename_i hc
      subst hc
      rw [ml_s_k (by decide), ml_s_k (by decide), ml_s_k (by decide), h6]
      rfl
    · rw [ml_s_s]
  obtain ⟨m', g1, gg, gf, e⟩ := sp25 (Ln := Ln) (xs := xs) (u := u) (lm := lm) (m := M) hp hn hb (by rw [f1, h1]) (by rw [fr (p + 1) hpp]; exact hg)
  refine ⟨m', ⟨g1, ?_, fun _ => ⟨?_, ?_, ?_⟩, ?_, ?_, gg⟩, fun a ha ha1 => ?_, fun Φ => ?_⟩
  · rw [gf p 2 (by omega) (Or.inr (by decide)), f2]
  · rw [gf p 3 (by omega) (Or.inr (by decide)), f3]
  · rw [gf p 4 (by omega) (Or.inr (by decide)), f4]
  · rw [gf p 7 (by omega) (Or.inr (by decide)), f7, Nat.add_sub_cancel]
  · rw [gf p 5 (by omega) (Or.inr (by decide)), f5]
  · rw [gf p 6 (by omega) (Or.inr (by decide)), f6]
  · rw [← fr a ha]
    funext k
    exact gf a k ha1 (Or.inl ha)
  · rw [hk, e, mk_n, x23_129]
/-- the first n of a row taken in -/
theorem sp41_l {r s : Nat} (hp : ml_sh p) (hr : ml_ia r) (hr0 : r ≠ 0) (h1 : r ≠ p) (h2 : r ≠ p + 1) (hn : n ≤ 16) (hs : s + n ≤ ml_n r) (hb : ∀ i, i < n → f i ≤ 999) {row : Nat → Int32} (hf : ∀ i, i < n → row (s + i) = nI (f i)) : ∀ (d k : Nat) (m : ml_M), k + d = n → m r = row → RepS m p f k → ∃ m', RepS m' p f n ∧ (∀ a, a ≠ p → a ≠ p + 1 → m' a = m a) ∧ ∀ Φ : mj_R → mj_W → Prop, wp Ln xs 41 7 [.ref p, .ref r, .int (nI s), .int (nI n), .int (nI k)] [] (u, ml_h m lm) Φ = Φ (.inl none) (u, ml_h m' lm)
  | 0, k, m, h, hm, hR => by
    obtain rfl : k = n := by omega
    refine ⟨m, hR, fun _ _ _ => rfl, fun Φ => ?_⟩
    rw [x41_7]
    simp (disch := omega) only [nI_leI, nI_ltI, nI_eq, nI_add, pk_sub, pk_mul, if_pos, if_neg, mk_v, mk_n, Nat.reduceAdd, Nat.reduceMul, Nat.reduceSub, Nat.reduceLT, Nat.reduceLeDiff, Nat.reduceEqDiff, if_true, if_false, not_true_eq_false, not_false_eq_true, Nat.add_zero, Nat.zero_add, x41_31]
  | d + 1, k, m, h, hm, hR => by
    obtain ⟨m1, hR1, fr1, e1⟩ := sp23 (Ln := Ln) (xs := xs) (u := u) (lm := lm) hp (by omega) (fun i hi => hb i (by omega)) hR
    obtain ⟨m2, hR2, fr2, e2⟩ := sp41_l hp hr hr0 h1 h2 hn hs hb hf d (k + 1) m1 (by omega) (by rw [fr1 r h1 h2, hm]) hR1
    refine ⟨m2, hR2, fun a ha hb => by rw [fr2 a ha hb, fr1 a ha hb], fun Φ => ?_⟩
    have hv : m r (s + k) = nI (f k) := by rw [hm]; exact hf k (by omega)
    rw [x41_7]
    simp (disch := omega) only [nI_leI, nI_ltI, nI_eq, nI_add, pk_sub, pk_mul, if_pos, if_neg, mk_v, mk_n, Nat.reduceAdd, Nat.reduceMul, Nat.reduceSub, Nat.reduceLT, Nat.reduceLeDiff, Nat.reduceEqDiff, if_true, if_false, not_true_eq_false, not_false_eq_true, Nat.add_zero, Nat.zero_add, x41_13]
    rw [sp_at hr hr0 (by omega), mk_v, hv, x41_22 hp, e1, mk_n, x41_25, nI_add, e2]
theorem sp41 {r s : Nat} (hp : ml_sh p) (hr : ml_ia r) (hr0 : r ≠ 0) (h1 : r ≠ p) (h2 : r ≠ p + 1) (hn : n ≤ 16) (hs : s + n ≤ ml_n r) (hb : ∀ i, i < n → f i ≤ 999) (hf : ∀ i, i < n → m r (s + i) = nI (f i)) : ∃ m', RepS m' p f n ∧ (∀ a, a ≠ p → a ≠ p + 1 → m' a = m a) ∧ ∀ Φ : mj_R → mj_W → Prop, wp Ln xs 41 0 [.ref p, .ref r, .int (nI s), .int (nI n), mj_hole] [] (u, ml_h m lm) Φ = Φ (.inl none) (u, ml_h m' lm) := by
  obtain ⟨m1, hR1, fr1, e1⟩ := sp22 (Ln := Ln) (xs := xs) (u := u) (lm := lm) (m := m) f hp
  obtain ⟨m2, hR2, fr2, e2⟩ := sp41_l (Ln := Ln) (xs := xs) (u := u) (lm := lm) hp hr hr0 h1 h2 hn hs hb hf n 0 m1 (by omega) (fr1 r h1) hR1
  refine ⟨m2, hR2, fun a ha hb => by rw [fr2 a ha hb, fr1 a ha], fun Φ => ?_⟩
  rw [x41_0 hp, e1, mk_n, x41_4, e2]
/-- the bits in a form -/
theorem sp27 {fo : Nat} (hp : ml_sh p) (h : RepS m p f n) (h0 : 0 < n) (hn : n ≤ 16) (hb : ∀ i, i < n → f i ≤ 999) (hf : fo ≤ 4) : wp Ln xs 27 0 [.ref p, .int (nI fo)] [] (u, ml_h m lm) Φ = Φ (.inl (some (.int (nI (s_sz f n fo))))) (u, ml_h m lm) := by
  obtain ⟨g1, g2, g3, g5, g6, _⟩ := h
  obtain ⟨g3, g4, _⟩ := g3 h0
  have hh := s_hi_le n (hb 0 h0) hb
  have hl := s_lo_hi f n
  have ht := s_ts_le n hb
  have hu := s_un_le f n
  obtain ⟨q, rfl⟩ : ∃ q, n = q + 1 := ⟨n - 1, by omega⟩
  have hu0 := s_un_pos f q
  rw [x27_0]
  have : fo = 0 ∨ fo = 1 ∨ fo = 2 ∨ fo = 3 ∨ fo = 4 := by omega
  rcases this with rfl | rfl | rfl | rfl | rfl
  · rw [x27_1_0, x27_104 hp, g2, pk_mul, s_sz]
  · rw [x27_1_1, x27_32 hp, g4, g3, pk_sub hl, sp_width (by omega), mk_v, x27_50, g2, pk_mul, nI_add, s_sz]
  · rw [x27_1_2, x27_53 hp, g5, pk_mul, s_sz]
  · rw [x27_1_3, x27_61 hp, g6, sp_width (by omega), mk_v, x27_76, g2, pk_sub (by omega), pk_mul, nI_add, s_sz]
  · rw [x27_1_4, x27_79 hp, g1, pk_sub hu0, sp_width (by omega), mk_v, x27_101, g2, pk_mul, pk_mul, nI_add, nI_add, s_sz]
    all_goals (intros; omega)
/-- the lightest form that is allowed -/
theorem sp26_l {a : Nat} (hp : ml_sh p) (h : RepS m p f n) (h0 : 0 < n) (hn : n ≤ 16) (hb : ∀ i, i < n → f i ≤ 999) (ha : a < 2 ^ 31) : ∀ (d k : Nat) (v5 : Value), k + d = 4 → wp Ln xs 26 11 [.ref p, .int (nI a), .int (nI (s_li a (s_sz f n) k)), .int (nI (s_sz f n (s_li a (s_sz f n) k))), .int (nI (k + 1)), v5] [] (u, ml_h m lm) Φ = Φ (.inl (some (.int (nI (s_li a (s_sz f n) 4))))) (u, ml_h m lm)
  | 0, k, v5, e => by
    obtain rfl : k = 4 := by omega
    rw [x26_11]
    simp (disch := omega) only [nI_leI, nI_ltI, nI_eq, nI_add, pk_sub, pk_mul, if_pos, if_neg, mk_v, mk_n, Nat.reduceAdd, Nat.reduceMul, Nat.reduceSub, Nat.reduceLT, Nat.reduceLeDiff, Nat.reduceEqDiff, if_true, if_false, not_true_eq_false, not_false_eq_true, Nat.add_zero, Nat.zero_add, x26_53]
  | d + 1, k, v5, e => by
    have hd : a / 2 ^ (k + 1) < 2 ^ 31 := Nat.lt_of_le_of_lt (Nat.div_le_self _ _) ha
    have z1 := s_sz_le (fo := k + 1) hn h0 hb
    have z2 := s_sz_le (fo := s_li a (s_sz f n) k) hn h0 hb
    have hm : a / 2 ^ (k + 1) % 2 < 2 := Nat.mod_lt _ (by decide)
    have ih := fun v5 => sp26_l hp h h0 hn hb ha d (k + 1) v5 (by omega)
    rw [s_li] at ih
    rw [x26_11, if_neg (nI_ge (by omega) (by omega)), x26_17, s_shr ha (by omega), s_and1 hd]
    generalize hq : a / 2 ^ (k + 1) % 2 = q at hm ih ⊢
    by_cases c1 : q = 1
    · by_cases c2 : s_sz f n (k + 1) < s_sz f n (s_li a (s_sz f n) k)
      · rw [if_pos ⟨c1, c2⟩] at ih
        subst c1
        simp (disch := omega) only [nI_leI, nI_ltI, nI_eq, nI_add, pk_sub, pk_mul, if_pos, if_neg, mk_v, mk_n, Nat.reduceAdd, Nat.reduceMul, Nat.reduceSub, Nat.reduceLT, Nat.reduceLeDiff, Nat.reduceEqDiff, if_true, if_false, not_true_eq_false, not_false_eq_true, Nat.add_zero, Nat.zero_add, x26_27 hp, sp27 hp h h0 hn hb, x26_33, x26_41, x26_47]
        exact ih _
      · rw [if_neg (fun z => c2 z.2)] at ih
        subst c1
        simp (disch := omega) only [nI_leI, nI_ltI, nI_eq, nI_add, pk_sub, pk_mul, if_pos, if_neg, mk_v, mk_n, Nat.reduceAdd, Nat.reduceMul, Nat.reduceSub, Nat.reduceLT, Nat.reduceLeDiff, Nat.reduceEqDiff, if_true, if_false, not_true_eq_false, not_false_eq_true, Nat.add_zero, Nat.zero_add, x26_27 hp, sp27 hp h h0 hn hb, x26_33, x26_47]
        exact ih _
    · rw [if_neg (fun z => c1 z.1)] at ih
      simp (disch := omega) only [nI_leI, nI_ltI, nI_eq, nI_add, pk_sub, pk_mul, if_pos, if_neg, mk_v, mk_n, Nat.reduceAdd, Nat.reduceMul, Nat.reduceSub, Nat.reduceLT, Nat.reduceLeDiff, Nat.reduceEqDiff, if_true, if_false, not_true_eq_false, not_false_eq_true, Nat.add_zero, Nat.zero_add, x26_47]
      exact ih _
theorem sp26 {a : Nat} (hp : ml_sh p) (h : RepS m p f n) (h0 : 0 < n) (hn : n ≤ 16) (hb : ∀ i, i < n → f i ≤ 999) (ha : a < 2 ^ 31) : wp Ln xs 26 0 [.ref p, .int (nI a), mj_hole, mj_hole, mj_hole, mj_hole] [] (u, ml_h m lm) Φ = Φ (.inl (some (.int (nI (s_li a (s_sz f n) 4))))) (u, ml_h m lm) := by
  rw [x26_0 hp, sp27 hp h h0 hn hb (by omega), mk_v, x26_7]
  exact sp26_l hp h h0 hn hb ha 4 0 _ (by omega)
/-- the rank of a value -/
theorem sp70_l {g : Nat → Nat} {U x : Nat} (hp : ml_sh p) (hU : m p 1 = nI U) (hU2 : U ≤ 16) (hg : ∀ i, i < U → m (p + 1) i = nI (g i)) (hgb : ∀ i, i < U → g i < 2 ^ 31) (hx : x < 2 ^ 31) (hs : ∀ i j, i < j → j < U → g i < g j) : ∀ d k : Nat, k + d = U → k ≤ s_rk g x U → wp Ln xs 70 4 [.ref p, .int (nI x), .int (nI k), .int (nI k)] [] (u, ml_h m lm) Φ = Φ (.inl (some (.int (nI (s_rk g x U))))) (u, ml_h m lm)
  | 0, k, e, hk => by
    obtain rfl : k = U := by omega
    have := s_rk_le g x k
    have hk2 : s_rk g x k = k := by omega
    rw [x70_4 hp, hU]
    simp (disch := omega) only [nI_leI, nI_ltI, nI_eq, nI_add, pk_sub, pk_mul, if_pos, if_neg, mk_v, mk_n, Nat.reduceAdd, Nat.reduceMul, Nat.reduceSub, Nat.reduceLT, Nat.reduceLeDiff, Nat.reduceEqDiff, if_true, if_false, not_true_eq_false, not_false_eq_true, Nat.add_zero, Nat.zero_add, x70_33, hk2]
  | d + 1, k, e, hk => by
    have hl := s_rk_low (x := x) U hs k (by omega)
    have b1 := hgb k (by omega)
    have b3 := hg k (by omega)
    rw [x70_4 hp, hU]
    simp (disch := omega) only [nI_leI, nI_ltI, nI_eq, nI_add, pk_sub, pk_mul, if_pos, if_neg, mk_v, mk_n, Nat.reduceAdd, Nat.reduceMul, Nat.reduceSub, Nat.reduceLT, Nat.reduceLeDiff, Nat.reduceEqDiff, if_true, if_false, not_true_eq_false, not_false_eq_true, Nat.add_zero, Nat.zero_add, x70_12 hp]
    rw [sp_at (ml_sh_ia hp) (Nat.succ_ne_zero _) (by rw [ml_sh_n hp]; omega), mk_v, b3, x70_20]
    by_cases c : g k < x
    · have := hl.mpr c
      simp (disch := omega) only [nI_leI, nI_ltI, nI_eq, nI_add, pk_sub, pk_mul, if_pos, if_neg, mk_v, mk_n, Nat.reduceAdd, Nat.reduceMul, Nat.reduceSub, Nat.reduceLT, Nat.reduceLeDiff, Nat.reduceEqDiff, if_true, if_false, not_true_eq_false, not_false_eq_true, Nat.add_zero, Nat.zero_add, x70_24]
      exact sp70_l hp hU hU2 hg hgb hx hs d (k + 1) (by omega) (by omega)
    · have h9 : s_rk g x U = k := by
        have : ¬ k < s_rk g x U := fun z => c (hl.mp z)
        omega
      simp (disch := omega) only [nI_leI, nI_ltI, nI_eq, nI_add, pk_sub, pk_mul, if_pos, if_neg, mk_v, mk_n, Nat.reduceAdd, Nat.reduceMul, Nat.reduceSub, Nat.reduceLT, Nat.reduceLeDiff, Nat.reduceEqDiff, if_true, if_false, not_true_eq_false, not_false_eq_true, Nat.add_zero, Nat.zero_add, x70_33, h9]
theorem sp70 {x : Nat} (hp : ml_sh p) (h : RepS m p f n) (hn : n ≤ 16) (hb : ∀ i, i < n → f i ≤ 999) (hx : x < 2 ^ 31) : wp Ln xs 70 0 [.ref p, .int (nI x), mj_hole, mj_hole] [] (u, ml_h m lm) Φ = Φ (.inl (some (.int (nI (s_rank f x n))))) (u, ml_h m lm) := by
  obtain ⟨g1, g2, g3, g5, g6, g, hs, hg⟩ := h
  have hu := s_un_le f n
  rw [x70_0, ← hs.2.2.2 x]
  refine sp70_l hp g1 (by omega) hg (fun i hi => ?_) hx hs.1 (s_un f n) 0 (by omega) (Nat.zero_le _)
  obtain ⟨k, hk, e⟩ := hs.2.1 i hi
  have := hb k hk
  omega
end SPF
