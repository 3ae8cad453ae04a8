/-! ===== the Model: sizes ===== -/
/-- the values from a on -/
def s_fv (σ : s_S) (a : Nat) : Nat → Nat := fun i => s_val σ (a + i)
section MDA
variable {Ln : Nat} {xs : Nat → Int32} {u : mj_U} {m : ml_M} {lm : ml_J} {Φ : mj_R → mj_W → Prop} {σ : s_S} {a n k b v fo : Nat} {x y : Int32}
theorem sp152_t {p q : Nat} (h1 : p ≤ v) (h2 : v ≤ q) (hq : q < 2 ^ 31) : wp Ln xs 152 0 [.int (nI v), .int (nI p), .int (nI q)] [] (u, ml_h m lm) Φ = Φ (.inl (some (.int (nI 1)))) (u, ml_h m lm) := by
  simp (disch := omega) only [nI_leI, nI_ltI, nI_eq, nI_add, pk_sub, pk_mul, if_pos, if_neg, mk_v, mk_n, Nat.reduceAdd, Nat.reduceMul, Nat.reduceSub, Nat.reduceLT, Nat.reduceLeDiff, Nat.reduceEqDiff, if_true, if_false, not_true_eq_false, not_false_eq_true, Nat.add_zero, Nat.zero_add, x152_0, x152_5, x152_10, x152_14]
theorem sp152_f {p q : Int32} (h : x < p ∨ q < x) : wp Ln xs 152 0 [.int x, .int p, .int q] [] (u, ml_h m lm) Φ = Φ (.inl (some (.int (nI 0)))) (u, ml_h m lm) := by
  rw [x152_0, x152_5, x152_14]
  by_cases h0 : x < p
  · rw [if_pos h0]
  · rw [if_neg h0, if_pos (h.resolve_left h0)]
theorem sp151_t (hv : v ≤ 999) : wp Ln xs 151 0 [.int (nI v)] [] (u, ml_h m lm) Φ = Φ (.inl (some (.int (nI 1)))) (u, ml_h m lm) := by
  rw [x151_0, sp152_t (Nat.zero_le _) hv (by decide), mk_v, x151_8 rfl]
theorem sp151_f (h : x < nI 0 ∨ nI 999 < x) : wp Ln xs 151 0 [.int x] [] (u, ml_h m lm) Φ = Φ (.inl (some (.int (nI 0)))) (u, ml_h m lm) := by
  rw [x151_0, sp152_f h, mk_v, x151_8 rfl]
theorem sp154_k : wp Ln xs 154 0 [.ref 72, .int (nI 0)] [] (u, ml_h m lm) Φ = Φ (.inl (some (.int (nI 1)))) (u, ml_h (ml_s m 72 8 (nI 0)) lm) := by
  rw [x154_0, if_neg (fun z => z rfl), x154_9]
theorem sp154_e (h : ¬ x = nI 0) : wp Ln xs 154 0 [.ref 72, .int x] [] (u, ml_h m lm) Φ = Φ (.inl (some (.int (nI 0)))) (u, ml_h (ml_s m 72 8 x) lm) := by
  rw [x154_0, if_pos h, x154_13]
theorem sp159_l (hM : ∀ k, k < 251 → m 73 k = nI (σ k)) (hb : b ≤ 12) : ∀ d k, k + d = b → wp Ln xs 159 4 [.ref 72, .int (nI b), .int (nI (s_sum (s_len σ) k)), .int (nI k)] [] (u, ml_h m lm) Φ = Φ (.inl (some (.int (nI (s_sum (s_len σ) b))))) (u, ml_h m lm)
  | 0, k, h => by
    obtain rfl : k = b := by omega
    rw [x159_4, if_pos (nI_le (Nat.le_refl _) (by omega)), x159_27]
  | d + 1, k, h => by
    rw [x159_4, if_neg (nI_ge (by omega) (by omega)), x159_9, nI_add, x159_18 (by omega), hM _ (by omega), nI_add, nI_add]
    exact sp159_l hM hb d (k + 1) (by omega)
theorem sp159 (hM : ∀ k, k < 251 → m 73 k = nI (σ k)) (hb : b ≤ 12) : wp Ln xs 159 0 [.ref 72, .int (nI b), mj_hole, mj_hole] [] (u, ml_h m lm) Φ = Φ (.inl (some (.int (nI (s_sum (s_len σ) b))))) (u, ml_h m lm) := by
  rw [x159_0]
  exact sp159_l hM hb b 0 (by omega)
theorem sp158 (hM : ∀ k, k < 251 → m 73 k = nI (σ k)) (hb : σ 0 ≤ 12) : wp Ln xs 158 0 [.ref 72] [] (u, ml_h m lm) Φ = Φ (.inl (some (.int (nI (s_tot σ))))) (u, ml_h m lm) := by
  rw [x158_0, hM 0 (by decide), sp159 hM hb, mk_v, x158_10, hM 1 (by decide), nI_add]
  rfl
theorem sp167_l : ∀ (n k : Nat), n < 2 ^ 31 → wp Ln xs 167 4 [.int x, .int (nI k), .int (nI n)] [] (u, ml_h m lm) Φ = Φ (.inl (some (.int (nI (k + s_wd n))))) (u, ml_h m lm) := by
  intro n
  induction n using Nat.strongRecOn with
  | ind n ih =>
    intro k hn
    by_cases h0 : n = 0
    · subst h0
      rw [x167_4, if_pos (nI_le (Nat.le_refl _) (by decide)), x167_18, s_wd0, Nat.add_zero]
    · have e := s_shr (n := n) (k := 1) hn (by decide)
      rw [Nat.pow_one] at e
      rw [x167_4, if_neg (nI_ge (by omega) hn), x167_8, nI_add, e, ih (n / 2) (by omega) (k + 1) (by omega), s_wdS h0, show k + 1 + s_wd (n / 2) = k + (s_wd (n / 2) + 1) by omega]
theorem sp167 (h : n < 2 ^ 31) : wp Ln xs 167 0 [.int (nI n), mj_hole, mj_hole] [] (u, ml_h m lm) Φ = Φ (.inl (some (.int (nI (s_wd n))))) (u, ml_h m lm) := by
  rw [x167_0, sp167_l n 0 h, Nat.zero_add]
theorem sp166_l (hM : ∀ k, k < 251 → m 73 k = nI (σ k)) (ha : a + n ≤ 208) (hv : ∀ i, i < n → s_fv σ a i ≤ 999) : ∀ d k, k + d = n → wp Ln xs 166 13 [.ref 72, .int (nI a), .int (nI n), .int (nI (s_lo (s_fv σ a) k)), .int (nI (a + k))] [] (u, ml_h m lm) Φ = Φ (.inl (some (.int (nI (s_lo (s_fv σ a) n))))) (u, ml_h m lm)
  | 0, k, h => by
    obtain rfl : k = n := by omega
    rw [x166_13, nI_add, if_pos (nI_le (Nat.le_refl _) (by omega)), x166_56]
  | d + 1, k, h => by
    have h1 := hv k (by omega)
    have h2 := s_lo_le (f := s_fv σ a) (c := 999) k (hv 0 (by omega)) (fun i hi => hv i (by omega))
    have e : m 73 (43 + (a + k)) = nI (s_fv σ a k) := hM _ (by omega)
    have ih := sp166_l hM ha hv d (k + 1) (by omega)
    rw [s_lo] at ih
    rw [x166_13, nI_add, if_neg (nI_ge (by omega) (by omega)), x166_21, nI_add, x166_30 (by omega), e]
    by_cases c : s_fv σ a k < s_lo (s_fv σ a) k
    · rw [if_neg (nI_ge c (by omega)), x166_35, nI_add, x166_44 (by omega), x166_49, nI_add, e]
      rw [if_pos c] at ih
      exact ih
    · rw [if_pos (nI_le (by omega) (by omega)), x166_48, x166_49, nI_add]
      rw [if_neg c] at ih
      exact ih
theorem sp166 (hM : ∀ k, k < 251 → m 73 k = nI (σ k)) (h0 : 0 < n) (ha : a + n ≤ 208) (hv : ∀ i, i < n → s_fv σ a i ≤ 999) : wp Ln xs 166 0 [.ref 72, .int (nI a), .int (nI n), mj_hole, mj_hole] [] (u, ml_h m lm) Φ = Φ (.inl (some (.int (nI (s_lo (s_fv σ a) n))))) (u, ml_h m lm) := by
  rw [x166_0, nI_add, x166_8 (by omega), hM _ (by omega)]
  exact sp166_l hM ha hv n 0 (by omega)
theorem sp165_l (hM : ∀ k, k < 251 → m 73 k = nI (σ k)) (ha : a + n ≤ 208) (hv : ∀ i, i < n → s_fv σ a i ≤ 999) : ∀ d k, k + d = n → wp Ln xs 165 13 [.ref 72, .int (nI a), .int (nI n), .int (nI (s_hi (s_fv σ a) k)), .int (nI (a + k))] [] (u, ml_h m lm) Φ = Φ (.inl (some (.int (nI (s_hi (s_fv σ a) n))))) (u, ml_h m lm)
  | 0, k, h => by
    obtain rfl : k = n := by omega
    rw [x165_13, nI_add, if_pos (nI_le (Nat.le_refl _) (by omega)), x165_56]
  | d + 1, k, h => by
    have h1 := hv k (by omega)
    have h2 := s_hi_le (f := s_fv σ a) (c := 999) k (hv 0 (by omega)) (fun i hi => hv i (by omega))
    have e : m 73 (43 + (a + k)) = nI (s_fv σ a k) := hM _ (by omega)
    have ih := sp165_l hM ha hv d (k + 1) (by omega)
    rw [s_hi] at ih
    rw [x165_13, nI_add, if_neg (nI_ge (by omega) (by omega)), x165_21, nI_add, x165_30 (by omega), e]
    by_cases c : s_hi (s_fv σ a) k < s_fv σ a k
    · rw [if_neg (nI_ge c (by omega)), x165_35, nI_add, x165_44 (by omega), x165_49, nI_add, e]
      rw [if_pos c] at ih
      exact ih
    · rw [if_pos (nI_le (by omega) (by omega)), x165_48, x165_49, nI_add]
      rw [if_neg c] at ih
      exact ih
theorem sp165 (hM : ∀ k, k < 251 → m 73 k = nI (σ k)) (h0 : 0 < n) (ha : a + n ≤ 208) (hv : ∀ i, i < n → s_fv σ a i ≤ 999) : wp Ln xs 165 0 [.ref 72, .int (nI a), .int (nI n), mj_hole, mj_hole] [] (u, ml_h m lm) Φ = Φ (.inl (some (.int (nI (s_hi (s_fv σ a) n))))) (u, ml_h m lm) := by
  rw [x165_0, nI_add, x165_8 (by omega), hM _ (by omega)]
  exact sp165_l hM ha hv n 0 (by omega)
theorem sp168_l (hM : ∀ k, k < 251 → m 73 k = nI (σ k)) (ha : a + n ≤ 208) (hv : ∀ i, i < n → s_fv σ a i ≤ 999) : ∀ d k, k + 1 + d = n → wp Ln xs 168 7 [.ref 72, .int (nI a), .int (nI n), .int (nI (s_rn (s_fv σ a) (k + 1))), .int (nI (a + (k + 1)))] [] (u, ml_h m lm) Φ = Φ (.inl (some (.int (nI (s_rn (s_fv σ a) n))))) (u, ml_h m lm)
  | 0, k, h => by
    obtain rfl : n = k + 1 := by omega
    rw [x168_7, nI_add, if_pos (nI_le (Nat.le_refl _) (by omega)), x168_54]
  | d + 1, k, h => by
    have h1 := hv k (by omega)
    have h2 := hv (k + 1) (by omega)
    have e : m 73 (43 + (a + (k + 1))) = nI (s_fv σ a (k + 1)) := hM _ (by omega)
    have e2 : m 73 (43 + (a + (k + 1)) - 1) = nI (s_fv σ a k) := hM _ (by omega)
    have ih := sp168_l hM ha hv d (k + 1) (by omega)
    rw [s_rn, if_neg (Nat.succ_ne_zero _), Nat.add_sub_cancel] at ih
    rw [x168_7, nI_add, if_neg (nI_ge (by omega) (by omega)), x168_15, nI_add, x168_25 (by omega), nI_add, pk_sub (by omega), x168_37 (by omega), e, e2]
    by_cases c : s_fv σ a (k + 1) = s_fv σ a k
    · rw [if_pos (by rw [c]), x168_45, x168_46, nI_add, nI_add]
      rw [if_pos c] at ih
      exact ih
    · rw [if_neg (by rw [nI_eq (by omega) (by omega)]; exact c), x168_41, x168_46, nI_add, nI_add]
      rw [if_neg c] at ih
      exact ih
theorem sp168 (hM : ∀ k, k < 251 → m 73 k = nI (σ k)) (h0 : 0 < n) (ha : a + n ≤ 208) (hv : ∀ i, i < n → s_fv σ a i ≤ 999) : wp Ln xs 168 0 [.ref 72, .int (nI a), .int (nI n), mj_hole, mj_hole] [] (u, ml_h m lm) Φ = Φ (.inl (some (.int (nI (s_rn (s_fv σ a) n))))) (u, ml_h m lm) := by
  rw [x168_0, nI_add]
  exact sp168_l hM ha hv (n - 1) 0 (by omega)
theorem sp170 (hM : ∀ k, k < 251 → m 73 k = nI (σ k)) (ha : a + (k + 1) < 208) (h1 : s_fv σ a k ≤ 999) (h2 : s_fv σ a (k + 1) ≤ 999) : wp Ln xs 170 0 [.ref 72, .int (nI (a + (k + 1))), mj_hole] [] (u, ml_h m lm) Φ = Φ (.inl (some (.int (nI (s_st (s_fv σ a k) (s_fv σ a (k + 1))))))) (u, ml_h m lm) := by
  have e : m 73 (43 + (a + (k + 1))) = nI (s_fv σ a (k + 1)) := hM _ (by omega)
  have e2 : m 73 (43 + (a + (k + 1)) - 1) = nI (s_fv σ a k) := hM _ (by omega)
  rw [x170_0, nI_add, x170_8 (by omega), nI_add, pk_sub (by omega), x170_19 (by omega), e, e2]
  generalize s_fv σ a k = p at h1
  generalize s_fv σ a (k + 1) = q at h2
  by_cases h : p ≤ q
  · rw [pk_sub h, if_pos (nI_le (Nat.zero_le _) (by omega)), x170_35, pk_mul, s_st, if_pos h]
  · have hs : nI q - nI p < nI 0 := pk_sneg (by omega) (by omega)
    rw [if_neg (fun z => Int32.lt_irrefl (Int32.lt_of_lt_of_le hs z)), x170_26, s_st, if_neg h]
    congr 5
    obtain ⟨c, hc, hc0⟩ : ∃ c, p = q + c ∧ 0 < c := ⟨p - q, by omega, by omega⟩
    subst hc
    rw [show q + c - q = c by omega, ← pk_sub (show 1 ≤ 2 * c by omega), ← pk_mul, ← nI_add]
    congr 1
    have e : nI q - (nI q + nI c) = -nI c := by
      rw [Int32.sub_eq_add_neg, Int32.neg_add, Int32.sub_eq_add_neg, ← Int32.add_assoc, Int32.add_right_neg, Int32.zero_add]
    rw [e, show (-2 : Int32) = -(nI 2) from by decide, Int32.neg_mul_neg]
theorem sp169_l (hM : ∀ k, k < 251 → m 73 k = nI (σ k)) (ha : a + n ≤ 208) (hv : ∀ i, i < n → s_fv σ a i ≤ 999) : ∀ d k, k + 1 + d = n → wp Ln xs 169 7 [.ref 72, .int (nI a), .int (nI n), .int (nI (s_ts (s_fv σ a) (k + 1))), .int (nI (a + (k + 1)))] [] (u, ml_h m lm) Φ = Φ (.inl (some (.int (nI (s_ts (s_fv σ a) n))))) (u, ml_h m lm)
  | 0, k, h => by
    obtain rfl : n = k + 1 := by omega
    rw [x169_7, nI_add, if_pos (nI_le (Nat.le_refl _) (by omega)), x169_42]
  | d + 1, k, h => by
    have h1 := hv k (by omega)
    have h2 := hv (k + 1) (by omega)
    have h3 := s_ts_le (f := s_fv σ a) (c := 999) (k + 1) (fun i hi => hv i (by omega))
    have h4 := s_st_le h1 h2
    have ih := sp169_l hM ha hv d (k + 1) (by omega)
    rw [s_ts, if_neg (Nat.succ_ne_zero _), Nat.add_sub_cancel] at ih
    rw [x169_7, nI_add, if_neg (nI_ge (by omega) (by omega)), x169_15, sp170 hM (by omega) h1 h2, mk_v, x169_21]
    by_cases c : s_ts (s_fv σ a) (k + 1) < s_st (s_fv σ a k) (s_fv σ a (k + 1))
    · rw [if_neg (nI_ge c (by omega)), x169_25, sp170 hM (by omega) h1 h2, mk_v, x169_31, x169_35, nI_add]
      rw [if_pos c] at ih
      exact ih
    · rw [if_pos (nI_le (by omega) (by omega)), x169_34, x169_35, nI_add]
      rw [if_neg c] at ih
      exact ih
theorem sp169 (hM : ∀ k, k < 251 → m 73 k = nI (σ k)) (h0 : 0 < n) (ha : a + n ≤ 208) (hv : ∀ i, i < n → s_fv σ a i ≤ 999) : wp Ln xs 169 0 [.ref 72, .int (nI a), .int (nI n), mj_hole, mj_hole] [] (u, ml_h m lm) Φ = Φ (.inl (some (.int (nI (s_ts (s_fv σ a) n))))) (u, ml_h m lm) := by
  rw [x169_0, nI_add]
  exact sp169_l hM ha hv (n - 1) 0 (by omega)
theorem sp172_l (hM : ∀ k, k < 251 → m 73 k = nI (σ k)) (ha : a + n < 208) (hv : ∀ i, i < n + 1 → s_fv σ a i ≤ 999) : ∀ d k, k + d = n → wp Ln xs 172 5 [.ref 72, .int (nI a), .int (nI (a + n)), .int (if s_in (s_fv σ a) (s_fv σ a n) k = true then nI 0 else nI 1), .int (nI (a + k))] [] (u, ml_h m lm) Φ = Φ (.inl (some (.int (if s_in (s_fv σ a) (s_fv σ a n) n = true then nI 0 else nI 1)))) (u, ml_h m lm)
  | 0, k, h => by
    obtain rfl : k = n := by omega
    rw [x172_5, if_pos (nI_le (Nat.le_refl _) (by omega)), x172_49]
    by_cases c : s_in (s_fv σ a) (s_fv σ a k) k = true
    · rw [if_pos c]
      rfl
    · rw [if_neg c]
      rfl
  | d + 1, k, h => by
    have h1 := hv k (by omega)
    have h2 := hv n (by omega)
    have e : m 73 (43 + (a + k)) = nI (s_fv σ a k) := hM _ (by omega)
    have e2 : m 73 (43 + (a + n)) = nI (s_fv σ a n) := hM _ (by omega)
    have ih := sp172_l hM ha hv d (k + 1) (by omega)
    rw [s_in] at ih
    rw [x172_5, if_neg (nI_ge (by omega) (by omega)), x172_11]
    by_cases c : s_in (s_fv σ a) (s_fv σ a n) k = true
    · rw [if_pos c, if_pos rfl, x172_41, x172_42, nI_add]
      rw [c, Bool.true_or, if_pos rfl] at ih
      exact ih
    · rw [if_neg c, if_neg s_10, x172_15, nI_add, x172_24 (by omega), nI_add, x172_33 (by omega), e, e2]
      rw [Bool.eq_false_iff.mpr c, Bool.false_or] at ih
      by_cases c2 : s_fv σ a k = s_fv σ a n
      · rw [if_pos (by rw [c2]), x172_41, x172_42, nI_add]
        rw [if_pos (beq_iff_eq.mpr c2)] at ih
        exact ih
      · rw [if_neg (by rw [nI_eq (by omega) (by omega)]; exact c2), x172_37, x172_42, nI_add]
        rw [if_neg (fun z => c2 (beq_iff_eq.mp z))] at ih
        exact ih
theorem sp172 (hM : ∀ k, k < 251 → m 73 k = nI (σ k)) (ha : a + n < 208) (hv : ∀ i, i < n + 1 → s_fv σ a i ≤ 999) : wp Ln xs 172 0 [.ref 72, .int (nI a), .int (nI (a + n)), mj_hole, mj_hole] [] (u, ml_h m lm) Φ = Φ (.inl (some (.int (if s_in (s_fv σ a) (s_fv σ a n) n = true then nI 0 else nI 1)))) (u, ml_h m lm) := by
  rw [x172_0]
  exact sp172_l hM ha hv n 0 (by omega)
theorem sp171_l (hM : ∀ k, k < 251 → m 73 k = nI (σ k)) (ha : a + n ≤ 208) (hv : ∀ i, i < n → s_fv σ a i ≤ 999) : ∀ d k, k + d = n → wp Ln xs 171 5 [.ref 72, .int (nI a), .int (nI n), .int (nI (s_un (s_fv σ a) k)), .int (nI (a + k))] [] (u, ml_h m lm) Φ = Φ (.inl (some (.int (nI (s_un (s_fv σ a) n))))) (u, ml_h m lm)
  | 0, k, h => by
    obtain rfl : k = n := by omega
    rw [x171_5, nI_add, if_pos (nI_le (Nat.le_refl _) (by omega)), x171_37]
  | d + 1, k, h => by
    have ih := sp171_l hM ha hv d (k + 1) (by omega)
    rw [s_un] at ih
    rw [x171_5, nI_add, if_neg (nI_ge (by omega) (by omega)), x171_13, sp172 hM (by omega) (fun i hi => hv i (by omega)), mk_v, x171_21]
    by_cases c : s_in (s_fv σ a) (s_fv σ a k) k = true
    · rw [if_pos c, if_pos rfl, x171_28, x171_29, nI_add, nI_add]
      rw [if_pos c] at ih
      exact ih
    · rw [if_neg c, if_neg s_10, x171_24, x171_29, nI_add, nI_add]
      rw [if_neg c] at ih
      exact ih
theorem sp171 (hM : ∀ k, k < 251 → m 73 k = nI (σ k)) (ha : a + n ≤ 208) (hv : ∀ i, i < n → s_fv σ a i ≤ 999) : wp Ln xs 171 0 [.ref 72, .int (nI a), .int (nI n), mj_hole, mj_hole] [] (u, ml_h m lm) Φ = Φ (.inl (some (.int (nI (s_un (s_fv σ a) n))))) (u, ml_h m lm) := by
  rw [x171_0]
  exact sp171_l hM ha hv n 0 (by omega)
/-- the bits in a form -/
theorem sp164 (hM : ∀ k, k < 251 → m 73 k = nI (σ k)) (h0 : 0 < n) (hn : n ≤ 16) (ha : a + n ≤ 208) (hv : ∀ i, i < n → s_fv σ a i ≤ 999) (hf : fo ≤ 4) : wp Ln xs 164 0 [.ref 72, .int (nI fo), .int (nI a), .int (nI n)] [] (u, ml_h m lm) Φ = Φ (.inl (some (.int (nI (s_sz (s_fv σ a) n fo))))) (u, ml_h m lm) := by
  have hh := s_hi_le (f := s_fv σ a) n (hv 0 h0) hv
  have hl := s_lo_hi (s_fv σ a) n
  have ht := s_ts_le (f := s_fv σ a) n hv
  have hu := s_un_le (s_fv σ a) n
  obtain ⟨q, rfl⟩ : ∃ q, n = q + 1 := ⟨n - 1, by omega⟩
  have hu0 := s_un_pos (s_fv σ a) q
  rw [x164_0]
  have : fo = 0 ∨ fo = 1 ∨ fo = 2 ∨ fo = 3 ∨ fo = 4 := by omega
  rcases this with rfl | rfl | rfl | rfl | rfl
  · rw [x164_1_0, x164_32, pk_mul, s_sz, Nat.mul_comm]
  · rw [x164_1_1, x164_37, sp165 hM h0 ha hv, mk_v, x164_46, sp166 hM h0 ha hv, mk_v, x164_52, pk_sub hl, sp167 (by omega), mk_v, x164_56, pk_mul, nI_add, s_sz]
  · rw [x164_1_2, x164_59, sp168 hM h0 ha hv, mk_v, x164_67, pk_mul, s_sz, Nat.mul_comm]
  · rw [x164_1_3, x164_69, sp169 hM h0 ha hv, mk_v, x164_80, sp167 (by omega), mk_v, x164_83, pk_sub (by omega), pk_mul, nI_add, s_sz]
  · rw [x164_1_4, x164_86, sp171 hM ha hv, mk_v, x164_95, sp171 hM ha hv, mk_v, x164_104, pk_sub hu0, sp167 (by omega), mk_v, x164_109, pk_mul, pk_mul, nI_add, nI_add, s_sz, Nat.mul_comm 10]
    all_goals (intros; omega)
theorem sp163_l (hM : ∀ k, k < 251 → m 73 k = nI (σ k)) (h0 : 0 < n) (hn : n ≤ 16) (ha : a + n ≤ 208) (hv : ∀ i, i < n → s_fv σ a i ≤ 999) (h4 : σ 4 < 2 ^ 31) : ∀ (d k : Nat) (v5 : Value), k + d = 4 → wp Ln xs 163 5 [.ref 72, .int (nI a), .int (nI n), .int (nI (s_li (σ 4) (s_sz (s_fv σ a) n) k)), .int (nI (k + 1)), v5] [] (u, ml_h m lm) Φ = Φ (.inl (some (.int (nI (s_li (σ 4) (s_sz (s_fv σ a) n) 4))))) (u, ml_h m lm)
  | 0, k, v5, e => by
    obtain rfl : k = 4 := by omega
    rw [x163_5, if_pos (nI_le (by decide) (by decide)), x163_69]
  | d + 1, k, v5, e => by
    have hd : σ 4 / 2 ^ (k + 1) < 2 ^ 31 := Nat.lt_of_le_of_lt (Nat.div_le_self _ _) h4
    have z1 := s_sz_le (fo := k + 1) hn h0 hv
    have z2 := s_sz_le (fo := s_li (σ 4) (s_sz (s_fv σ a) n) k) hn h0 hv
    have hl := s_li_le (σ 4) (s_sz (s_fv σ a) n) k
    have hm : σ 4 / 2 ^ (k + 1) % 2 < 2 := Nat.mod_lt _ (by decide)
    have ih := fun v5 => sp163_l hM h0 hn ha hv h4 d (k + 1) v5 (by omega)
    rw [s_li] at ih
    rw [x163_5, if_neg (nI_ge (by omega) (by omega)), x163_11, hM 4 (by decide), s_shr h4 (by omega), s_and1 hd]
    generalize hq : σ 4 / 2 ^ (k + 1) % 2 = q at hm ih ⊢
    by_cases c1 : q = 1
    · rw [c1, if_neg (fun z => z rfl), x163_26, x163_31, if_neg s_10, x163_38, sp164 hM h0 hn ha hv (by omega), mk_v, x163_46, sp164 hM h0 hn ha hv (by omega), mk_v, x163_53]
      by_cases c2 : s_sz (s_fv σ a) n (k + 1) < s_sz (s_fv σ a) n (s_li (σ 4) (s_sz (s_fv σ a) n) k)
      · rw [if_pos ⟨c1, c2⟩] at ih
        rw [if_neg (nI_ge c2 (by omega)), x163_56, x163_62, nI_add]
        exact ih _
      · rw [if_neg (fun z => c2 z.2)] at ih
        rw [if_pos (nI_le (by omega) (by omega)), x163_61, x163_62, nI_add]
        exact ih _
    · rw [if_neg (fun z => c1 z.1)] at ih
      rw [if_pos (by rw [nI_eq (by omega) (by omega)]; exact c1), x163_30, x163_31, if_pos rfl, x163_61, x163_62, nI_add]
      exact ih _
theorem sp163 (hM : ∀ k, k < 251 → m 73 k = nI (σ k)) (h0 : 0 < n) (hn : n ≤ 16) (ha : a + n ≤ 208) (hv : ∀ i, i < n → s_fv σ a i ≤ 999) (h4 : σ 4 < 2 ^ 31) : wp Ln xs 163 0 [.ref 72, .int (nI a), .int (nI n), mj_hole, mj_hole, mj_hole] [] (u, ml_h m lm) Φ = Φ (.inl (some (.int (nI (s_li (σ 4) (s_sz (s_fv σ a) n) 4))))) (u, ml_h m lm) := by
  rw [x163_0]
  exact sp163_l hM h0 hn ha hv h4 4 0 _ (by omega)
theorem sp162 (hM : ∀ k, k < 251 → m 73 k = nI (σ k)) (h0 : 0 < n) (hn : n ≤ 16) (ha : a + n ≤ 208) (hv : ∀ i, i < n → s_fv σ a i ≤ 999) (h4 : σ 4 < 2 ^ 31) (h2 : 0 < σ 2) (h22 : σ 2 < 2 ^ 31) : wp Ln xs 162 0 [.ref 72, .int (nI a), .int (nI n)] [] (u, ml_h m lm) Φ = Φ (.inl (some (.int (nI (s_pk (σ 2) (σ 4) (s_fv σ a) n))))) (u, ml_h m lm) := by
  unfold s_pk
  rw [x162_0, hM 2 (by decide)]
  by_cases c : n < σ 2
  · rw [if_neg (nI_ge c (by omega)), x162_12, x162_22, sp163 hM h0 hn ha hv h4, mk_v, x162_25, if_pos c]
  · rw [if_pos (nI_le (by omega) (by omega)), x162_16, hM 2 (by decide), x162_22, sp163 hM h2 (by omega) (by omega) (fun i hi => hv i (by omega)) h4, mk_v, x162_25, if_neg c]
theorem sp184 (hM : ∀ k, k < 251 → m 73 k = nI (σ k)) (h0 : 0 < n) (hn : n ≤ 16) (ha : a + n ≤ 208) (hv : ∀ i, i < n → s_fv σ a i ≤ 999) (h4 : σ 4 < 2 ^ 31) (h2 : 0 < σ 2) (h22 : σ 2 < 2 ^ 31) : wp Ln xs 184 0 [.ref 72, .int (nI a), .int (nI n)] [] (u, ml_h m lm) Φ = Φ (.inl (some (.int (nI (s_sz (s_fv σ a) n (s_pk (σ 2) (σ 4) (s_fv σ a) n)))))) (u, ml_h m lm) := by
  have hl : s_pk (σ 2) (σ 4) (s_fv σ a) n ≤ 4 := s_li_le _ _ _
  rw [x184_0, sp162 hM h0 hn ha hv h4 h2 h22, mk_v, x184_7, sp164 hM h0 hn ha hv hl, mk_v, x184_12]
theorem sp173 (hM : ∀ k, k < 251 → m 73 k = nI (σ k)) (hb : b < 12) (h0 : 0 < s_len σ b) (hn : s_len σ b ≤ 16) (ha : s_sum (s_len σ) b + s_len σ b ≤ 208) (hv : ∀ i, i < s_len σ b → s_blf σ b i ≤ 999) (hf : s_frm σ b ≤ 4) : wp Ln xs 173 0 [.ref 72, .int (nI b)] [] (u, ml_h m lm) Φ = Φ (.inl (some (.int (nI (s_sz (s_blf σ b) (s_len σ b) (s_frm σ b)))))) (u, ml_h m lm) := by
  have e1 : m 73 (19 + b) = nI (s_frm σ b) := hM _ (by omega)
  have e2 : m 73 (7 + b) = nI (s_len σ b) := hM _ (by omega)
  rw [x173_0, nI_add, x173_9 (by omega), e1, sp159 hM (by omega), mk_v, x173_15, nI_add, x173_23 (by omega), e2, sp164 (fo := s_frm σ b) hM h0 hn ha hv hf, mk_v, x173_27]
  rfl
end MDA
