/-! ===== Column: what its methods come to ===== -/
theorem ml_s_s (m : ml_M) (a k : Nat) (v : Int32) : ml_s m a k v a k = v := if_pos ⟨rfl, rfl⟩
theorem ml_s_a {m : ml_M} {a k a' k' : Nat} {v : Int32} (h : a' ≠ a) : ml_s m a k v a' k' = m a' k' := if_neg fun z => h z.1
theorem ml_s_k {m : ml_M} {a k a' k' : Nat} {v : Int32} (h : k' ≠ k) : ml_s m a k v a' k' = m a' k' := if_neg fun z => h z.2
/-- sums -/
def s_sum (f : Nat → Nat) : Nat → Nat
  | 0 => 0
  | n + 1 => s_sum f n + f n
theorem s_sum_le {f : Nat → Nat} {c : Nat} : ∀ n, (∀ i, i < n → f i ≤ c) → s_sum f n ≤ n * c
  | 0, _ => Nat.zero_le _
  | n + 1, h => by
    have := s_sum_le n (fun i hi => h i (by omega))
    have h2 := h n (by omega)
    rw [s_sum, Nat.succ_mul]
    omega
theorem s_sum_mono {f : Nat → Nat} {a b : Nat} (h : a ≤ b) : s_sum f a ≤ s_sum f b := by
  induction h with
  | refl => exact Nat.le_refl _
  | step _ ih => exact Nat.le_trans ih (Nat.le_add_right _ _)
theorem s_sum_congr {f g : Nat → Nat} : ∀ n, (∀ i, i < n → f i = g i) → s_sum f n = s_sum g n
  | 0, _ => rfl
  | n + 1, h => by rw [s_sum, s_sum, s_sum_congr n (fun i hi => h i (by omega)), h n (by omega)]
/-- the block of an index; n for the tail -/
def s_bo (f : Nat → Nat) (x : Nat) : Nat → Nat → Nat
  | 0, k => k
  | d + 1, k => if x < s_sum f (k + 1) then k else s_bo f x d (k + 1)
def s_blk (f : Nat → Nat) (n x : Nat) : Nat := s_bo f x n 0
theorem s_bo_le {f : Nat → Nat} {x : Nat} : ∀ d k, k ≤ s_bo f x d k ∧ s_bo f x d k ≤ k + d
  | 0, k => ⟨Nat.le_refl _, Nat.le_refl _⟩
  | d + 1, k => by
    rw [s_bo]
    have := s_bo_le (f := f) (x := x) d (k + 1)
    split <;> omega
section SPB
variable {Ln : Nat} {xs : Nat → Int32} {u : mj_U} {m : ml_M} {lm : ml_J} {Φ : mj_R → mj_W → Prop} {f g : Nat → Nat} {b nb T k : Nat} {x : Int32}
theorem sp19_l (hb : b ≤ 12) (hf : ∀ i, i < b → m 4 i = nI (f i)) : ∀ n k : Nat, k + n = b → wp Ln xs 19 4 [.ref 2, .int (nI b), .int (nI (s_sum f k)), .int (nI k)] [] (u, ml_h m lm) Φ = Φ (.inl (some (.int (nI (s_sum f b))))) (u, ml_h m lm)
  | 0, k, h => by
    obtain rfl : k = b := by omega
    rw [x19_4]
    simp (disch := omega) only [nI_leI, nI_ltI, nI_eq, nI_add, pk_sub, pk_mul, if_pos, if_neg, mk_v, mk_n, Nat.reduceAdd, Nat.reduceMul, Nat.reduceSub, Nat.reduceLT, Nat.reduceLeDiff, Nat.reduceEqDiff, if_true, if_false, not_true_eq_false, not_false_eq_true, Nat.add_zero, Nat.zero_add, x19_0, x19_9, x19_18, x19_26]
  | n + 1, k, h => by
    rw [x19_4]
    simp (disch := omega) only [nI_leI, nI_ltI, nI_eq, nI_add, pk_sub, pk_mul, if_pos, if_neg, mk_v, mk_n, Nat.reduceAdd, Nat.reduceMul, Nat.reduceSub, Nat.reduceLT, Nat.reduceLeDiff, Nat.reduceEqDiff, if_true, if_false, not_true_eq_false, not_false_eq_true, Nat.add_zero, Nat.zero_add, x19_0, x19_9, x19_18, x19_26, at_4, hf]
    exact sp19_l hb hf n (k + 1) (by omega)
theorem sp19 (hb : b ≤ 12) (hf : ∀ i, i < b → m 4 i = nI (f i)) : wp Ln xs 19 0 [.ref 2, .int (nI b), mj_hole, mj_hole] [] (u, ml_h m lm) Φ = Φ (.inl (some (.int (nI (s_sum f b))))) (u, ml_h m lm) := by
  rw [x19_0]
  exact sp19_l hb hf b 0 (by omega)
theorem sp38_l (hb : nb ≤ 12) (h6 : m 2 6 = nI nb) (hf : ∀ i, i < nb → m 6 i = nI (f i)) : ∀ n k : Nat, k + n = nb → wp Ln xs 38 4 [.ref 2, .int (nI (s_sum f k)), .int (nI k)] [] (u, ml_h m lm) Φ = Φ (.inl (some (.int (nI (s_sum f nb))))) (u, ml_h m lm)
  | 0, k, h => by
    obtain rfl : k = nb := by omega
    rw [x38_4, h6]
    simp (disch := omega) only [nI_leI, nI_ltI, nI_eq, nI_add, pk_sub, pk_mul, if_pos, if_neg, mk_v, mk_n, Nat.reduceAdd, Nat.reduceMul, Nat.reduceSub, Nat.reduceLT, Nat.reduceLeDiff, Nat.reduceEqDiff, if_true, if_false, not_true_eq_false, not_false_eq_true, Nat.add_zero, Nat.zero_add, x38_0, x38_12, x38_21, x38_29]
  | n + 1, k, h => by
    rw [x38_4, h6]
    simp (disch := omega) only [nI_leI, nI_ltI, nI_eq, nI_add, pk_sub, pk_mul, if_pos, if_neg, mk_v, mk_n, Nat.reduceAdd, Nat.reduceMul, Nat.reduceSub, Nat.reduceLT, Nat.reduceLeDiff, Nat.reduceEqDiff, if_true, if_false, not_true_eq_false, not_false_eq_true, Nat.add_zero, Nat.zero_add, x38_0, x38_12, x38_21, x38_29, at_6, hf]
    exact sp38_l hb h6 hf n (k + 1) (by omega)
theorem sp38 (hb : nb ≤ 12) (h6 : m 2 6 = nI nb) (hf : ∀ i, i < nb → m 6 i = nI (f i)) : wp Ln xs 38 0 [.ref 2, mj_hole, mj_hole] [] (u, ml_h m lm) Φ = Φ (.inl (some (.int (nI (s_sum f nb))))) (u, ml_h m lm) := by
  rw [x38_0]
  exact sp38_l hb h6 hf nb 0 (by omega)
theorem sp43_l (hT : T ≤ 207) (h5 : m 2 5 = nI T) (hf : ∀ i, i < T → m 3 i = nI (f i)) : ∀ n k : Nat, k + n = T → wp Ln xs 43 4 [.ref 2, .int (nI (s_sum f k)), .int (nI k)] [] (u, ml_h m lm) Φ = Φ (.inl (some (.int (nI (s_sum f T))))) (u, ml_h m lm)
  | 0, k, h => by
    obtain rfl : k = T := by omega
    rw [x43_4, h5]
    simp (disch := omega) only [nI_leI, nI_ltI, nI_eq, nI_add, pk_sub, pk_mul, if_pos, if_neg, mk_v, mk_n, Nat.reduceAdd, Nat.reduceMul, Nat.reduceSub, Nat.reduceLT, Nat.reduceLeDiff, Nat.reduceEqDiff, if_true, if_false, not_true_eq_false, not_false_eq_true, Nat.add_zero, Nat.zero_add, x43_0, x43_12, x43_21, x43_29]
  | n + 1, k, h => by
    rw [x43_4, h5]
    simp (disch := omega) only [nI_leI, nI_ltI, nI_eq, nI_add, pk_sub, pk_mul, if_pos, if_neg, mk_v, mk_n, Nat.reduceAdd, Nat.reduceMul, Nat.reduceSub, Nat.reduceLT, Nat.reduceLeDiff, Nat.reduceEqDiff, if_true, if_false, not_true_eq_false, not_false_eq_true, Nat.add_zero, Nat.zero_add, x43_0, x43_12, x43_21, x43_29, at_3, hf]
    exact sp43_l hT h5 hf n (k + 1) (by omega)
theorem sp43 (hT : T ≤ 207) (h5 : m 2 5 = nI T) (hf : ∀ i, i < T → m 3 i = nI (f i)) : wp Ln xs 43 0 [.ref 2, mj_hole, mj_hole] [] (u, ml_h m lm) Φ = Φ (.inl (some (.int (nI (s_sum f T))))) (u, ml_h m lm) := by
  rw [x43_0]
  exact sp43_l hT h5 hf T 0 (by omega)
theorem sp20 (hk : k < 12) : wp Ln xs 20 0 [.ref 2, .int (nI k)] [] (u, ml_h m lm) Φ = Φ (.inl (some (.int (m 4 k)))) (u, ml_h m lm) := by
  rw [x20_0, at_4 hk, mk_v, x20_8]
theorem sp42 (hk : k < 12) : wp Ln xs 42 0 [.ref 2, .int (nI k)] [] (u, ml_h m lm) Φ = Φ (.inl (some (.int (m 5 k)))) (u, ml_h m lm) := by
  rw [x42_0, at_5 hk, mk_v, x42_8]
theorem sp16 (hk : k < 12) : wp Ln xs 16 0 [.ref 2, .int (nI k)] [] (u, ml_h m lm) Φ = Φ (.inl (some (.int (m 6 k)))) (u, ml_h m lm) := by
  rw [x16_0, at_6 hk, mk_v, x16_8]
theorem sp33 (hk : k < 3) : wp Ln xs 33 0 [.ref 2, .int (nI k)] [] (u, ml_h m lm) Φ = Φ (.inl (some (.int (m 7 k)))) (u, ml_h m lm) := by
  rw [x33_0, at_7 hk, mk_v, x33_8]
theorem sp36 (hb : nb ≤ 12) (h6 : m 2 6 = nI nb) (h5 : m 2 5 = nI T) (hf : ∀ i, i < nb → m 4 i = nI (f i)) (hT : s_sum f nb ≤ T) : wp Ln xs 36 0 [.ref 2] [] (u, ml_h m lm) Φ = Φ (.inl (some (.int (nI (T - s_sum f nb))))) (u, ml_h m lm) := by
  rw [x36_0, h6, sp19 hb hf, mk_v, x36_12, h5, pk_sub hT]
theorem sp75_l {y : Nat} (hb : nb ≤ 12) (h6 : m 2 6 = nI nb) (hf : ∀ i, i < nb → m 4 i = nI (f i)) (hs : s_sum f nb < 2 ^ 31) (hy : y < 2 ^ 31) : ∀ n k : Nat, k + n = nb → wp Ln xs 75 4 [.ref 2, .int (nI y), .int (nI (s_sum f k)), .int (nI k)] [] (u, ml_h m lm) Φ = Φ (.inl (some (.int (if s_bo f y n k = nb then -1 else nI (s_bo f y n k))))) (u, ml_h m lm)
  | 0, k, h => by
    obtain rfl : k = nb := by omega
    rw [x75_4, h6]
    simp (disch := omega) only [nI_leI, nI_ltI, nI_eq, nI_add, pk_sub, pk_mul, if_pos, if_neg, mk_v, mk_n, Nat.reduceAdd, Nat.reduceMul, Nat.reduceSub, Nat.reduceLT, Nat.reduceLeDiff, Nat.reduceEqDiff, if_true, if_false, not_true_eq_false, not_false_eq_true, Nat.add_zero, Nat.zero_add, x75_0, x75_12, x75_21, x75_28, x75_30, x75_36, s_bo]
  | n + 1, k, h => by
    have hq : s_sum f k + f k ≤ s_sum f nb := s_sum_mono (f := f) (show k + 1 ≤ nb by omega)
    rw [x75_4, h6]
    simp (disch := omega) only [nI_leI, nI_ltI, nI_eq, nI_add, pk_sub, pk_mul, if_pos, if_neg, mk_v, mk_n, Nat.reduceAdd, Nat.reduceMul, Nat.reduceSub, Nat.reduceLT, Nat.reduceLeDiff, Nat.reduceEqDiff, if_true, if_false, not_true_eq_false, not_false_eq_true, Nat.add_zero, Nat.zero_add, x75_0, x75_12, x75_28, x75_30, x75_36, at_4, hf]
    rw [x75_21, nI_add, s_bo]
    by_cases hc : y < s_sum f (k + 1)
    · have hc2 : y < s_sum f k + f k := hc
      rw [if_pos hc]
      simp (disch := omega) only [nI_leI, nI_ltI, nI_eq, nI_add, pk_sub, pk_mul, if_pos, if_neg, mk_v, mk_n, Nat.reduceAdd, Nat.reduceMul, Nat.reduceSub, Nat.reduceLT, Nat.reduceLeDiff, Nat.reduceEqDiff, if_true, if_false, not_true_eq_false, not_false_eq_true, Nat.add_zero, Nat.zero_add, x75_0, x75_12, x75_21, x75_28, x75_30, x75_36]
    · have hc2 : ¬ y < s_sum f k + f k := hc
      rw [if_neg hc]
      simp (disch := omega) only [nI_leI, nI_ltI, nI_eq, nI_add, pk_sub, pk_mul, if_pos, if_neg, mk_v, mk_n, Nat.reduceAdd, Nat.reduceMul, Nat.reduceSub, Nat.reduceLT, Nat.reduceLeDiff, Nat.reduceEqDiff, if_true, if_false, not_true_eq_false, not_false_eq_true, Nat.add_zero, Nat.zero_add, x75_0, x75_12, x75_21, x75_28, x75_30, x75_36]
      exact sp75_l hb h6 hf hs hy n (k + 1) (by omega)
theorem sp75 {y : Nat} (hb : nb ≤ 12) (h6 : m 2 6 = nI nb) (hf : ∀ i, i < nb → m 4 i = nI (f i)) (hs : s_sum f nb < 2 ^ 31) (hy : y < 2 ^ 31) : wp Ln xs 75 0 [.ref 2, .int (nI y), mj_hole, mj_hole] [] (u, ml_h m lm) Φ = Φ (.inl (some (.int (if s_blk f nb y = nb then -1 else nI (s_blk f nb y))))) (u, ml_h m lm) := by
  rw [x75_0]
  exact sp75_l hb h6 hf hs hy nb 0 (by omega)
theorem sp96 {c : Nat} (hb : nb ≤ 12) (h6 : m 2 6 = nI nb) (h5 : m 2 5 = nI T) (hf : ∀ i, i < nb → m 4 i = nI (f i)) (hT : s_sum f nb ≤ T) (hT2 : T < 2 ^ 20) (hc : m 7 1 = nI c) (hc2 : c < 2 ^ 20) : wp Ln xs 96 0 [.ref 2] [] (u, ml_h m lm) Φ = Φ (.inl (some (.int (if nb < 12 ∨ T - s_sum f nb + 1 < c then nI 1 else nI 0)))) (u, ml_h m lm) := by
  rw [x96_0, h6]
  by_cases h : nb < 12
  · simp (disch := omega) only [nI_leI, nI_ltI, nI_eq, nI_add, pk_sub, pk_mul, if_pos, if_neg, mk_v, mk_n, Nat.reduceAdd, Nat.reduceMul, Nat.reduceSub, Nat.reduceLT, Nat.reduceLeDiff, Nat.reduceEqDiff, if_true, if_false, not_true_eq_false, not_false_eq_true, Nat.add_zero, Nat.zero_add, x96_0, x96_9, x96_13, x96_20, x96_23, x96_27]
  · by_cases h2 : T - s_sum f nb + 1 < c
    · simp (disch := omega) only [nI_leI, nI_ltI, nI_eq, nI_add, pk_sub, pk_mul, if_pos, if_neg, mk_v, mk_n, Nat.reduceAdd, Nat.reduceMul, Nat.reduceSub, Nat.reduceLT, Nat.reduceLeDiff, Nat.reduceEqDiff, if_true, if_false, not_true_eq_false, not_false_eq_true, Nat.add_zero, Nat.zero_add, x96_0, x96_9, x96_13, x96_20, x96_23, x96_27, sp36 hb h6 h5 hf hT, sp33, hc]
    · simp (disch := omega) only [nI_leI, nI_ltI, nI_eq, nI_add, pk_sub, pk_mul, if_pos, if_neg, mk_v, mk_n, Nat.reduceAdd, Nat.reduceMul, Nat.reduceSub, Nat.reduceLT, Nat.reduceLeDiff, Nat.reduceEqDiff, if_true, if_false, not_true_eq_false, not_false_eq_true, Nat.add_zero, Nat.zero_add, x96_0, x96_9, x96_13, x96_20, x96_23, x96_27, sp36 hb h6 h5 hf hT, sp33, hc]
theorem sp73_t (h5 : m 2 5 = nI T) (hT : T < 2 ^ 31) (hk : k < T) : wp Ln xs 73 0 [.ref 2, .int (nI k)] [] (u, ml_h m lm) Φ = Φ (.inl (some (.int (nI 1)))) (u, ml_h m lm) := by
  simp (disch := omega) only [nI_leI, nI_ltI, nI_eq, nI_add, pk_sub, pk_mul, if_pos, if_neg, mk_v, mk_n, Nat.reduceAdd, Nat.reduceMul, Nat.reduceSub, Nat.reduceLT, Nat.reduceLeDiff, Nat.reduceEqDiff, if_true, if_false, not_true_eq_false, not_false_eq_true, Nat.add_zero, Nat.zero_add, x73_0, x73_4, x73_12, x73_16, h5]
theorem sp73_f (h5 : m 2 5 = nI T) (h : x < nI 0 ∨ nI T ≤ x) : wp Ln xs 73 0 [.ref 2, .int x] [] (u, ml_h m lm) Φ = Φ (.inl (some (.int (nI 0)))) (u, ml_h m lm) := by
  rw [x73_0, x73_4, x73_16, h5]
  by_cases h0 : x < nI 0
  · rw [if_pos h0]
  · rw [if_neg h0, if_pos (h.resolve_left h0)]
theorem sp11_t (h6 : m 2 6 = nI nb) (hb : nb ≤ 12) (hk : k < nb) : wp Ln xs 11 0 [.ref 2, .int (nI k)] [] (u, ml_h m lm) Φ = Φ (.inl (some (.int (nI 1)))) (u, ml_h m lm) := by
  simp (disch := omega) only [nI_leI, nI_ltI, nI_eq, nI_add, pk_sub, pk_mul, if_pos, if_neg, mk_v, mk_n, Nat.reduceAdd, Nat.reduceMul, Nat.reduceSub, Nat.reduceLT, Nat.reduceLeDiff, Nat.reduceEqDiff, if_true, if_false, not_true_eq_false, not_false_eq_true, Nat.add_zero, Nat.zero_add, x11_0, x11_4, x11_12, x11_16, h6]
theorem sp11_f (h6 : m 2 6 = nI nb) (h : x < nI 0 ∨ nI nb ≤ x) : wp Ln xs 11 0 [.ref 2, .int x] [] (u, ml_h m lm) Φ = Φ (.inl (some (.int (nI 0)))) (u, ml_h m lm) := by
  rw [x11_0, x11_4, x11_16, h6]
  by_cases h0 : x < nI 0
  · rw [if_pos h0]
  · rw [if_neg h0, if_pos (h.resolve_left h0)]
theorem sp98 (hb : nb < 12) (h6 : m 2 6 = nI nb) (h5 : m 2 5 = nI T) (hf : ∀ i, i < nb → m 4 i = nI (f i)) (hT : s_sum f nb ≤ T) : wp Ln xs 98 0 [.ref 2, mj_hole] [] (u, ml_h m lm) Φ = Φ (.inl none) (u, ml_h (ml_s (ml_s m 4 nb (nI (T - s_sum f nb))) 2 6 (nI (nb + 1))) lm) := by
  rw [x98_0, sp36 (by omega) h6 h5 hf hT, mk_v, x98_4, h6, put_4 hb, mk_n, x98_17, ml_s_a (by decide), h6, nI_add]
theorem sp112 {t : Nat} (hk : k < 12) (ht : t < 12) : wp Ln xs 112 0 [.ref 2, .int (nI k), .int (nI t)] [] (u, ml_h m lm) Φ = Φ (.inl none) (u, ml_h (ml_s (ml_s (ml_s m 4 t (m 4 k)) 5 t (m 5 k)) 6 t (m 6 k)) lm) := by
  simp (disch := omega) only [nI_leI, nI_ltI, nI_eq, nI_add, pk_sub, pk_mul, if_pos, if_neg, mk_v, mk_n, Nat.reduceAdd, Nat.reduceMul, Nat.reduceSub, Nat.reduceLT, Nat.reduceLeDiff, Nat.reduceEqDiff, if_true, if_false, not_true_eq_false, not_false_eq_true, Nat.add_zero, Nat.zero_add, x112_0, x112_13, x112_16, x112_29, x112_32, x112_45, x112_48, at_4, at_5, at_6, put_4, put_5, put_6, ml_s_a]
/-- the slots from b on, up to i, each from the one behind -/
def s_dn (m : ml_M) (b i : Nat) : ml_M := fun a k => if (4 ≤ a ∧ a ≤ 6) ∧ b ≤ k ∧ k < i then m a (k + 1) else m a k
theorem s_dn_0 (m : ml_M) (b : Nat) : s_dn m b b = m := by
  funext a k
  exact if_neg (fun z => by omega)
theorem s_dn_s (m : ml_M) (b i : Nat) (h : b ≤ i) : ml_s (ml_s (ml_s (s_dn m b i) 4 i (s_dn m b i 4 (i + 1))) 5 i (s_dn m b i 5 (i + 1))) 6 i (s_dn m b i 6 (i + 1)) = s_dn m b (i + 1) := by
  funext a k
  by_cases ha : 4 ≤ a ∧ a ≤ 6
  · by_cases hk : k = i
    · subst hk
      have e : a = 4 ∨ a = 5 ∨ a = 6 := by omega
      have e2 : s_dn m b (k + 1) a k = m a (k + 1) := if_pos ⟨ha, h, by omega⟩
      have e3 : ∀ a, s_dn m b k a (k + 1) = m a (k + 1) := fun a => if_neg (fun z => by omega)
      rw [e2, e3, e3, e3]
      rcases e with rfl | rfl | rfl
      · rw [ml_s_a (by decide), ml_s_a (by decide), ml_s_s]
      · rw [ml_s_a (by decide), ml_s_s]
      · rw [ml_s_s]
    · rw [ml_s_k hk, ml_s_k hk, ml_s_k hk]
      unfold s_dn
      by_cases hc : b ≤ k ∧ k < i
      · rw [if_pos ⟨ha, hc⟩, if_pos ⟨ha, hc.1, by omega⟩]
      · rw [if_neg (fun z => hc z.2), if_neg (fun z => by omega)]
  · rw [ml_s_a (fun z => ha (by omega)), ml_s_a (fun z => ha (by omega)), ml_s_a (fun z => ha (by omega))]
    unfold s_dn
    rw [if_neg (fun z => ha z.1), if_neg (fun z => ha z.1)]
theorem s_dn_2 (m : ml_M) (b i k : Nat) : s_dn m b i 2 k = m 2 k := if_neg (fun z => by omega)
theorem sp111_l (hb : nb ≤ 12) (h6 : m 2 6 = nI nb) {y : Int32} (h0 : b < nb) : ∀ n k : Nat, k + n + 1 = nb → b ≤ k → wp Ln xs 111 2 [.ref 2, .int y, .int (nI k)] [] (u, ml_h (s_dn m b k) lm) Φ = Φ (.inl none) (u, ml_h (ml_s (s_dn m b (nb - 1)) 2 6 (nI (nb - 1))) lm)
  | 0, k, h, _ => by
    obtain rfl : nb = k + 1 := by omega
    rw [x111_2, s_dn_2, h6]
    simp (disch := omega) only [nI_leI, nI_ltI, nI_eq, nI_add, pk_sub, pk_mul, if_pos, if_neg, mk_v, mk_n, Nat.reduceAdd, Nat.reduceMul, Nat.reduceSub, Nat.reduceLT, Nat.reduceLeDiff, Nat.reduceEqDiff, if_true, if_false, not_true_eq_false, not_false_eq_true, Nat.add_zero, Nat.zero_add, x111_26, s_dn_2, h6, Nat.add_sub_cancel]
  | n + 1, k, h, hk => by
    rw [x111_2, s_dn_2, h6]
    simp (disch := omega) only [nI_leI, nI_ltI, nI_eq, nI_add, pk_sub, pk_mul, if_pos, if_neg, mk_v, mk_n, Nat.reduceAdd, Nat.reduceMul, Nat.reduceSub, Nat.reduceLT, Nat.reduceLeDiff, Nat.reduceEqDiff, if_true, if_false, not_true_eq_false, not_false_eq_true, Nat.add_zero, Nat.zero_add, x111_12, x111_20, sp112]
    rw [s_dn_s m b k hk]
    exact sp111_l hb h6 h0 n (k + 1) (by omega) (by omega)
theorem sp111 (hb : nb ≤ 12) (h6 : m 2 6 = nI nb) (h0 : b < nb) : wp Ln xs 111 0 [.ref 2, .int (nI b), mj_hole] [] (u, ml_h m lm) Φ = Φ (.inl none) (u, ml_h (ml_s (s_dn m b (nb - 1)) 2 6 (nI (nb - 1))) lm) := by
  rw [x111_0]
  have h := sp111_l (Ln := Ln) (xs := xs) (u := u) (lm := lm) (Φ := Φ) hb h6 (y := nI b) h0 (nb - 1 - b) b (by omega) (Nat.le_refl _)
  rwa [s_dn_0] at h
/-- the slots behind b, from i on, each from the one ahead -/
def s_up (m : ml_M) (i nb : Nat) : ml_M := fun a k => if (4 ≤ a ∧ a ≤ 6) ∧ i < k ∧ k ≤ nb then m a (k - 1) else m a k
theorem s_up_0 (m : ml_M) (b : Nat) : s_up m b b = m := by
  funext a k
  exact if_neg (fun z => by omega)
theorem s_up_s (m : ml_M) (i nb : Nat) (h : i < nb) : ml_s (ml_s (ml_s (s_up m (i + 1) nb) 4 (i + 1) (s_up m (i + 1) nb 4 i)) 5 (i + 1) (s_up m (i + 1) nb 5 i)) 6 (i + 1) (s_up m (i + 1) nb 6 i) = s_up m i nb := by
  funext a k
  by_cases ha : 4 ≤ a ∧ a ≤ 6
  · by_cases hk : k = i + 1
    · subst hk
      have e : a = 4 ∨ a = 5 ∨ a = 6 := by omega
      have e2 : s_up m i nb a (i + 1) = m a i := if_pos ⟨ha, by omega, by omega⟩
      have e3 : ∀ a, s_up m (i + 1) nb a i = m a i := fun a => if_neg (fun z => by omega)
      rw [e2, e3, e3, e3]
      rcases e with rfl | rfl | rfl
      · rw [ml_s_a (by decide), ml_s_a (by decide), ml_s_s]
      · rw [ml_s_a (by decide), ml_s_s]
      · rw [ml_s_s]
    · rw [ml_s_k hk, ml_s_k hk, ml_s_k hk]
      unfold s_up
      by_cases hc : i + 1 < k ∧ k ≤ nb
      · rw [if_pos ⟨ha, hc⟩, if_pos ⟨ha, by omega, hc.2⟩]
      · rw [if_neg (fun z => hc z.2), if_neg (fun z => by omega)]
  · rw [ml_s_a (fun z => ha (by omega)), ml_s_a (fun z => ha (by omega)), ml_s_a (fun z => ha (by omega))]
    unfold s_up
    rw [if_neg (fun z => ha z.1), if_neg (fun z => ha z.1)]
theorem s_up_2 (m : ml_M) (b i k : Nat) : s_up m b i 2 k = m 2 k := if_neg (fun z => by omega)
theorem sp115_l (hb : nb < 12) (h6 : m 2 6 = nI nb) (h0 : b ≤ nb) : ∀ n k : Nat, b + n = k → k ≤ nb → wp Ln xs 115 5 [.ref 2, .int (nI b), .int (nI k)] [] (u, ml_h (s_up m k nb) lm) Φ = Φ (.inl none) (u, ml_h (ml_s (s_up m b nb) 2 6 (nI (nb + 1))) lm)
  | 0, k, h, _ => by
    obtain rfl : k = b := by omega
    rw [x115_5]
    simp (disch := omega) only [nI_leI, nI_ltI, nI_eq, nI_add, pk_sub, pk_mul, if_pos, if_neg, mk_v, mk_n, Nat.reduceAdd, Nat.reduceMul, Nat.reduceSub, Nat.reduceLT, Nat.reduceLeDiff, Nat.reduceEqDiff, if_true, if_false, not_true_eq_false, not_false_eq_true, Nat.add_zero, Nat.zero_add, x115_24, s_up_2, h6]
  | n + 1, k, h, hk => by
    obtain ⟨j, rfl⟩ : ∃ j, k = j + 1 := ⟨k - 1, by omega⟩
    rw [x115_5]
    simp (disch := omega) only [nI_leI, nI_ltI, nI_eq, nI_add, pk_sub, pk_mul, if_pos, if_neg, mk_v, mk_n, Nat.reduceAdd, Nat.reduceMul, Nat.reduceSub, Nat.reduceLT, Nat.reduceLeDiff, Nat.reduceEqDiff, if_true, if_false, not_true_eq_false, not_false_eq_true, Nat.add_zero, Nat.zero_add, x115_10, Nat.add_sub_cancel, sp112]
    rw [s_up_s m j nb (by omega), x115_18, pk_m1]
    exact sp115_l hb h6 h0 n j (by omega) (by omega)
theorem sp115 (hb : nb < 12) (h6 : m 2 6 = nI nb) (h0 : b ≤ nb) : wp Ln xs 115 0 [.ref 2, .int (nI b), mj_hole] [] (u, ml_h m lm) Φ = Φ (.inl none) (u, ml_h (ml_s (s_up m b nb) 2 6 (nI (nb + 1))) lm) := by
  rw [x115_0, h6]
  have h := sp115_l (Ln := Ln) (xs := xs) (u := u) (lm := lm) (Φ := Φ) hb h6 h0 (nb - b) nb (by omega) (Nat.le_refl _)
  rwa [s_up_0] at h
/-- the values from b on, up to i, each from the one c behind -/
def s_rm (m : ml_M) (b c i : Nat) : ml_M := fun a k => if a = 3 ∧ b ≤ k ∧ k < i then m a (k + c) else m a k
theorem s_rm_0 (m : ml_M) (b c : Nat) : s_rm m b c b = m := by
  funext a k
  exact if_neg (fun z => by omega)
theorem s_rm_s (m : ml_M) (b c i : Nat) (h : b ≤ i) : ml_s (s_rm m b c i) 3 i (s_rm m b c i 3 (i + c)) = s_rm m b c (i + 1) := by
  funext a k
  by_cases hc : a = 3 ∧ k = i
  · obtain ⟨rfl, rfl⟩ := hc
    have e2 : s_rm m b c (k + 1) 3 k = m 3 (k + c) := if_pos ⟨rfl, h, by omega⟩
    have e3 : s_rm m b c k 3 (k + c) = m 3 (k + c) := if_neg (fun z => by omega)
    rw [ml_s_s, e2, e3]
  · rw [ml_s_eq, if_neg hc]
    unfold s_rm
    by_cases hd : a = 3 ∧ b ≤ k ∧ k < i
    · rw [if_pos hd, if_pos ⟨hd.1, hd.2.1, by omega⟩]
    · rw [if_neg hd, if_neg (fun z => by omega)]
theorem s_rm_2 (m : ml_M) (b c i k : Nat) : s_rm m b c i 2 k = m 2 k := if_neg (fun z => by omega)
theorem sp119_l {c : Nat} (hT : T ≤ 207) (h5 : m 2 5 = nI T) {y : Int32} (h0 : b + c ≤ T) : ∀ n k : Nat, k + c + n = T → b ≤ k → wp Ln xs 119 2 [.ref 2, .int y, .int (nI c), .int (nI k)] [] (u, ml_h (s_rm m b c k) lm) Φ = Φ (.inl none) (u, ml_h (ml_s (s_rm m b c (T - c)) 2 5 (nI (T - c))) lm)
  | 0, k, h, _ => by
    obtain rfl : T = k + c := by omega
    rw [x119_2]
    simp (disch := omega) only [nI_leI, nI_ltI, nI_eq, nI_add, pk_sub, pk_mul, if_pos, if_neg, mk_v, mk_n, Nat.reduceAdd, Nat.reduceMul, Nat.reduceSub, Nat.reduceLT, Nat.reduceLeDiff, Nat.reduceEqDiff, if_true, if_false, not_true_eq_false, not_false_eq_true, Nat.add_zero, Nat.zero_add, x119_36, s_rm_2, h5, Nat.add_sub_cancel]
  | n + 1, k, h, hk => by
    rw [x119_2]
    simp (disch := omega) only [nI_leI, nI_ltI, nI_eq, nI_add, pk_sub, pk_mul, if_pos, if_neg, mk_v, mk_n, Nat.reduceAdd, Nat.reduceMul, Nat.reduceSub, Nat.reduceLT, Nat.reduceLeDiff, Nat.reduceEqDiff, if_true, if_false, not_true_eq_false, not_false_eq_true, Nat.add_zero, Nat.zero_add, x119_12, x119_27, x119_30, s_rm_2, h5, at_3, put_3]
    rw [s_rm_s m b c k hk]
    exact sp119_l hT h5 h0 n (k + 1) (by omega) (by omega)
theorem sp119 {c : Nat} (hT : T ≤ 207) (h5 : m 2 5 = nI T) (h0 : b + c ≤ T) : wp Ln xs 119 0 [.ref 2, .int (nI b), .int (nI c), mj_hole] [] (u, ml_h m lm) Φ = Φ (.inl none) (u, ml_h (ml_s (s_rm m b c (T - c)) 2 5 (nI (T - c))) lm) := by
  rw [x119_0]
  have h := sp119_l (Ln := Ln) (xs := xs) (u := u) (lm := lm) (Φ := Φ) hT h5 (y := nI b) h0 (T - c - b) b (by omega) (Nat.le_refl _)
  rwa [s_rm_0] at h
end SPB
