/-! ===== a state in a Column and in a row of the Model; copies; the ring ===== -/
abbrev s_S : Type := Nat → Nat
def s_len (σ : s_S) (b : Nat) : Nat := σ (7 + b)
def s_frm (σ : s_S) (b : Nat) : Nat := σ (19 + b)
def s_rom (σ : s_S) (b : Nat) : Nat := σ (31 + b)
def s_val (σ : s_S) (k : Nat) : Nat := σ (43 + k)
def s_tot (σ : s_S) : Nat := s_sum (s_len σ) (σ 0) + σ 1
def s_ok (σ : s_S) : Prop := σ 0 ≤ 12 ∧ σ 1 ≤ 15 ∧ (∀ b, b < σ 0 → 1 ≤ s_len σ b ∧ s_len σ b ≤ 16 ∧ s_frm σ b ≤ 4 ∧ s_rom σ b ≤ 1000) ∧ (∀ k, k < s_tot σ → s_val σ k ≤ 999) ∧ 1 ≤ σ 2 ∧ σ 2 ≤ 16 ∧ 2 ≤ σ 3 ∧ σ 3 ≤ 16 ∧ σ 4 ≤ 31 ∧ σ 4 % 2 = 1
theorem s_tot_le {σ : s_S} (h : s_ok σ) : s_tot σ ≤ 207 := by
  have h1 := s_sum_le (f := s_len σ) (c := 16) (σ 0) (fun i hi => (h.2.2.1 i hi).2.1)
  have h2 := h.1
  have h3 := h.2.1
  unfold s_tot
  omega
theorem s_sum_tot (σ : s_S) : s_sum (s_len σ) (σ 0) ≤ s_tot σ := Nat.le_add_right _ _
theorem s_tot_sub (σ : s_S) : s_tot σ - s_sum (s_len σ) (σ 0) = σ 1 := by
  unfold s_tot
  omega
/-- a Column at p holds this state -/
def RepC (m : ml_M) (p : Nat) (σ : s_S) : Prop := m p 5 = nI (s_tot σ) ∧ m p 6 = nI (σ 0) ∧ m p 7 = nI (σ 5) ∧ m p 8 = nI (σ 6) ∧ (∀ k, k < s_tot σ → m (p + 1) k = nI (s_val σ k)) ∧ (∀ b, b < σ 0 → m (p + 2) b = nI (s_len σ b)) ∧ (∀ b, b < σ 0 → m (p + 3) b = nI (s_frm σ b)) ∧ (∀ b, b < σ 0 → m (p + 4) b = nI (s_rom σ b)) ∧ (∀ k, k < 3 → m (p + 5) k = nI (σ (2 + k)))
/-- row q of the Model holds it, from o on -/
def RepM (m : ml_M) (q o : Nat) (σ : s_S) : Prop := ∀ k, k < 251 → m q (o + k) = nI (σ k)
theorem RepC_of {m m' : ml_M} {p : Nat} {σ : s_S} (h : RepC m p σ) (e : ∀ a, p ≤ a → a ≤ p + 5 → m' a = m a) : RepC m' p σ := by
  unfold RepC at h ⊢
  rw [e p (by omega) (by omega), e (p + 1) (by omega) (by omega), e (p + 2) (by omega) (by omega), e (p + 3) (by omega) (by omega), e (p + 4) (by omega) (by omega), e (p + 5) (by omega) (by omega)]
  exact h
theorem RepM_of {m m' : ml_M} {q o : Nat} {σ : s_S} (h : RepM m q o σ) (e : m' q = m q) : RepM m' q o σ := by
  unfold RepM at h ⊢
  rw [e]
  exact h
theorem ml_s_row {m : ml_M} {a k a' : Nat} {v : Int32} (h : a' ≠ a) : ml_s m a k v a' = m a' := by
  funext k'
  exact ml_s_a h
theorem ml_cp_row {m : ml_M} {r q n a : Nat} (h : a ≠ q) : ml_cp m r q 0 0 n a = m a := by
  funext k
  exact if_neg (fun z => h z.1)
theorem ml_cp_i {m : ml_M} {r q n k : Nat} (h : k < n) : ml_cp m r q 0 0 n q k = m r k := by
  unfold ml_cp
  rw [if_pos ⟨rfl, Nat.zero_le _, by omega⟩, Nat.zero_add, Nat.sub_zero]
section SPC
variable {Ln : Nat} {xs : Nat → Int32} {u : mj_U} {m : ml_M} {lm : ml_J} {Φ : mj_R → mj_W → Prop}
theorem sp15 {r q n : Nat} (hr : ml_ia r) (hr0 : r ≠ 0) (hq : ml_ia q) (hq0 : q ≠ 0) (h1 : ml_n r = n) (h2 : ml_n q = n) : wp Ln xs 15 0 [.ref r, .ref q] [] (u, ml_h m lm) Φ = Φ (.inl none) (u, ml_h (ml_cp m r q 0 0 n) lm) := by
  rw [x15_0 hr hr0 hq hq0, h1, h2, ite_self, nI_0, x15_11 hr hq (by omega) (by omega)]
theorem sp14 {p q : Nat} {σ : s_S} (hp : ml_co p) (hq : ml_co q) (hd : p + 6 ≤ q ∨ q + 6 ≤ p) (h0 : s_ok σ) (h : RepC m q σ) : ∃ m', RepC m' p σ ∧ (∀ a, a < p ∨ p + 5 < a → m' a = m a) ∧ ∀ Φ : mj_R → mj_W → Prop, wp Ln xs 14 0 [.ref p, .ref q] [] (u, ml_h m lm) Φ = Φ (.inl none) (u, ml_h m' lm) := by
  have hT := s_tot_le h0
  have hN := h0.1
  obtain ⟨g5, g6, g7, g8, g1, g2, g3, g4, gs⟩ := h
  refine ⟨ml_s (ml_s (ml_s (ml_s (ml_cp (ml_cp (ml_cp (ml_cp (ml_cp m (q + 1) (p + 1) 0 0 207) (q + 2) (p + 2) 0 0 12) (q + 3) (p + 3) 0 0 12) (q + 4) (p + 4) 0 0 12) (q + 5) (p + 5) 0 0 3) p 5 (m q 5)) p 6 (m q 6)) p 7 (m q 7)) p 8 (m q 8), ?_, ?_, ?_⟩
  · refine ⟨?_, ?_, ?_, ?_, fun k hk => ?_, fun k hk => ?_, fun k hk => ?_, fun k hk => ?_, fun k hk => ?_⟩
    · rw [ml_s_k (by decide), ml_s_k (by decide), ml_s_k (by decide), ml_s_s, g5]
    · rw [ml_s_k (by decide), ml_s_k (by decide), ml_s_s, g6]
    · rw [ml_s_k (by decide), ml_s_s, g7]
    · rw [ml_s_s, g8]
    · rw [ml_s_a (by omega), ml_s_a (by omega), ml_s_a (by omega), ml_s_a (by omega), ml_cp_row (by omega), ml_cp_row (by omega), ml_cp_row (by omega), ml_cp_row (by omega), ml_cp_i (by omega), g1 k hk]
    · rw [ml_s_a (by omega), ml_s_a (by omega), ml_s_a (by omega), ml_s_a (by omega), ml_cp_row (by omega), ml_cp_row (by omega), ml_cp_row (by omega), ml_cp_i (by omega), ml_cp_row (by omega), g2 k hk]
    · rw [ml_s_a (by omega), ml_s_a (by omega), ml_s_a (by omega), ml_s_a (by omega), ml_cp_row (by omega), ml_cp_row (by omega), ml_cp_i (by omega), ml_cp_row (by omega), ml_cp_row (by omega), g3 k hk]
    · rw [ml_s_a (by omega), ml_s_a (by omega), ml_s_a (by omega), ml_s_a (by omega), ml_cp_row (by omega), ml_cp_i (by omega), ml_cp_row (by omega), ml_cp_row (by omega), ml_cp_row (by omega), g4 k hk]
    · rw [ml_s_a (by omega), ml_s_a (by omega), ml_s_a (by omega), ml_s_a (by omega), ml_cp_i (by omega), ml_cp_row (by omega), ml_cp_row (by omega), ml_cp_row (by omega), ml_cp_row (by omega), gs k hk]
  · intro a ha
    rw [ml_s_row (by omega), ml_s_row (by omega), ml_s_row (by omega), ml_s_row (by omega), ml_cp_row (by omega), ml_cp_row (by omega), ml_cp_row (by omega), ml_cp_row (by omega), ml_cp_row (by omega)]
  · intro Φ
    have e1 : p + 1 ≠ 0 := by omega
    rw [x14_0 hq hp, sp15 (ml_co_ia1 hq) (by omega) (ml_co_ia1 hp) (by omega) (ml_co_n1 hq) (ml_co_n1 hp), mk_n, x14_11 hq hp, sp15 (ml_co_ia2 hq) (by omega) (ml_co_ia2 hp) (by omega) (ml_co_n2 hq) (ml_co_n2 hp), mk_n, x14_22 hq hp, sp15 (ml_co_ia3 hq) (by omega) (ml_co_ia3 hp) (by omega) (ml_co_n3 hq) (ml_co_n3 hp), mk_n, x14_33 hq hp, sp15 (ml_co_ia4 hq) (by omega) (ml_co_ia4 hp) (by omega) (ml_co_n4 hq) (ml_co_n4 hp), mk_n, x14_44 hq hp, sp15 (ml_co_ia5 hq) (by omega) (ml_co_ia5 hp) (by omega) (ml_co_n5 hq) (ml_co_n5 hp), mk_n, x14_55 hq hp]
    have hqp : q ≠ p := by omega
    simp only [ml_s_a hqp]
    rw [ml_cp_row (show q ≠ p + 5 by omega), ml_cp_row (show q ≠ p + 4 by omega), ml_cp_row (show q ≠ p + 3 by omega), ml_cp_row (show q ≠ p + 2 by omega), ml_cp_row (show q ≠ p + 1 by omega)]
/-- the place of a slot in the ring -/
theorem sp13 {k : Nat} (hk : k < 2 ^ 20) : wp Ln xs 13 0 [.ref 14, .int (nI k), mj_hole] [] (u, ml_h m lm) Φ = Φ (.inl (some (.ref (16 + 6 * (k % 6))))) (u, ml_h m lm) := by
  have h6 : k % 6 < 6 := Nat.mod_lt _ (by decide)
  rw [x13_0, pk_rem (by omega) (by decide) (by decide)]
  simp (disch := omega) only [nI_leI, nI_ltI, nI_eq, nI_add, pk_sub, pk_mul, if_pos, if_neg, mk_v, mk_n, Nat.reduceAdd, Nat.reduceMul, Nat.reduceSub, Nat.reduceLT, Nat.reduceLeDiff, Nat.reduceEqDiff, if_true, if_false, not_true_eq_false, not_false_eq_true, Nat.add_zero, Nat.zero_add, x13_9, x13_18, x13_23]
theorem ml_co_ring {k : Nat} (hk : k < 6) : ml_co (16 + 6 * k) := by
  have : k = 0 ∨ k = 1 ∨ k = 2 ∨ k = 3 ∨ k = 4 ∨ k = 5 := by omega
  rcases this with rfl | rfl | rfl | rfl | rfl | rfl
  · exact ml_co_16
  · exact ml_co_22
  · exact ml_co_28
  · exact ml_co_34
  · exact ml_co_40
  · exact ml_co_46
/-- the ring holds these states, the oldest first -/
def RepH (m : ml_M) (n : Nat) (ss : Nat → s_S) : Prop := n ≤ 6 ∧ m 14 2 = nI n ∧ ∃ o, o < 6 ∧ m 14 1 = nI o ∧ ∀ j, j < n → RepC m (16 + 6 * ((o + j) % 6)) (ss j)
/-- what save makes of the saved states -/
def s_push (n : Nat) (ss : Nat → s_S) (σ : s_S) : Nat → s_S := fun j => if n = 6 then (if j = 5 then σ else ss (j + 1)) else (if j = n then σ else ss j)
theorem sp12 {n : Nat} {ss : Nat → s_S} {σ : s_S} (h0 : s_ok σ) (h : RepC m 2 σ) (hh : RepH m n ss) : ∃ m', RepH m' (if n = 6 then 6 else n + 1) (s_push n ss σ) ∧ (∀ a, a < 14 ∨ 52 ≤ a → m' a = m a) ∧ ∀ Φ : mj_R → mj_W → Prop, wp Ln xs 12 0 [.ref 14, .ref 2, mj_hole] [] (u, ml_h m lm) Φ = Φ (.inl none) (u, ml_h m' lm) := by
  obtain ⟨hn, g2, o, ho, g1, hs⟩ := hh
  have hm : (o + n) % 6 < 6 := Nat.mod_lt _ (by decide)
  obtain ⟨m', r, fr, e⟩ := sp14 (Ln := Ln) (xs := xs) (u := u) (lm := lm) (ml_co_ring hm) ml_co_2 (Or.inr (by omega)) h0 h
  have a14 : m' 14 = m 14 := fr 14 (by omega)
  by_cases hc : n = 6
  · subst hc
    refine ⟨ml_s m' 14 1 (nI ((o + 1) % 6)), ⟨by rw [if_pos rfl]; omega, ?_, (o + 1) % 6, Nat.mod_lt _ (by decide), ml_s_s _ _ _ _, fun j hj => ?_⟩, fun a ha => ?_, fun Φ => ?_⟩
    · rw [ml_s_k (by decide), a14, g2, if_pos rfl]
    · rw [if_pos rfl] at hj
      have em : ((o + 1) % 6 + j) % 6 = (o + 1 + j) % 6 := by omega
      rw [em]
      unfold s_push
      rw [if_pos rfl]
      by_cases hj5 : j = 5
      · subst hj5
        rw [if_pos rfl, show o + 1 + 5 = o + 6 by omega]
        exact RepC_of r (fun a _ _ => ml_s_row (by omega))
      · rw [if_neg hj5]
        have h9 := hs (j + 1) (by omega)
        rw [show o + (j + 1) = o + 1 + j by omega] at h9
        refine RepC_of h9 (fun a h1 h2 => ?_)
        rw [ml_s_row (by omega), fr a (by omega)]
    · rw [ml_s_row (by omega), fr a (by omega)]
    · rw [x12_0, g1, g2, nI_add, sp13 (by omega), mk_v, x12_13 (ml_co_ring hm), e, mk_n, x12_23, a14, g2]
      simp (disch := omega) only [nI_leI, nI_ltI, nI_eq, nI_add, pk_sub, pk_mul, if_pos, if_neg, mk_v, mk_n, Nat.reduceAdd, Nat.reduceMul, Nat.reduceSub, Nat.reduceLT, Nat.reduceLeDiff, Nat.reduceEqDiff, if_true, if_false, not_true_eq_false, not_false_eq_true, Nat.add_zero, Nat.zero_add]
      rw [x12_45, a14, g1, nI_add, pk_rem (by omega) (by decide) (by decide)]
  · refine ⟨ml_s m' 14 2 (nI (n + 1)), ⟨by rw [if_neg hc]; omega, ?_, o, ho, ?_, fun j hj => ?_⟩, fun a ha => ?_, fun Φ => ?_⟩
    · rw [ml_s_s, if_neg hc]
    · rw [ml_s_k (by decide), a14, g1]
    · rw [if_neg hc] at hj
      unfold s_push
      rw [if_neg hc]
      by_cases hjn : j = n
      · subst hjn
        rw [if_pos rfl]
        exact RepC_of r (fun a _ _ => ml_s_row (by omega))
      · rw [if_neg hjn]
        refine RepC_of (hs j (by omega)) (fun a h1 h2 => ?_)
        rw [ml_s_row (by omega), fr a (by omega)]
    · rw [ml_s_row (by omega), fr a (by omega)]
    · rw [x12_0, g1, g2, nI_add, sp13 (by omega), mk_v, x12_13 (ml_co_ring hm), e, mk_n, x12_23, a14, g2]
      simp (disch := omega) only [nI_leI, nI_ltI, nI_eq, nI_add, pk_sub, pk_mul, if_pos, if_neg, mk_v, mk_n, Nat.reduceAdd, Nat.reduceMul, Nat.reduceSub, Nat.reduceLT, Nat.reduceLeDiff, Nat.reduceEqDiff, if_true, if_false, not_true_eq_false, not_false_eq_true, Nat.add_zero, Nat.zero_add]
      rw [x12_32, a14, g2, nI_add]
theorem sp117 {n : Nat} {ss : Nat → s_S} (h0 : s_ok (ss n)) (hh : RepH m (n + 1) ss) : ∃ m', RepH m' n ss ∧ RepC m' 2 (ss n) ∧ (∀ a, a < 2 ∨ 7 < a → a ≠ 14 → m' a = m a) ∧ ∀ Φ : mj_R → mj_W → Prop, wp Ln xs 117 0 [.ref 14, .ref 2, mj_hole] [] (u, ml_h m lm) Φ = Φ (.inl none) (u, ml_h m' lm) := by
  obtain ⟨hn, g2, o, ho, g1, hs⟩ := hh
  have hm : (o + n) % 6 < 6 := Nat.mod_lt _ (by decide)
  have hr : RepC (ml_s m 14 2 (nI n)) (16 + 6 * ((o + n) % 6)) (ss n) := RepC_of (hs n (by omega)) (fun a h1 h2 => ml_s_row (by omega))
  obtain ⟨m', r, fr, e⟩ := sp14 (Ln := Ln) (xs := xs) (u := u) (lm := lm) ml_co_2 (ml_co_ring hm) (Or.inl (by omega)) h0 hr
  refine ⟨m', ⟨by omega, ?_, o, ho, ?_, fun j hj => ?_⟩, r, fun a ha hb => ?_, fun Φ => ?_⟩
  · rw [fr 14 (by omega), ml_s_s]
  · rw [fr 14 (by omega), ml_s_k (by decide), g1]
  · refine RepC_of (hs j (by omega)) (fun a h1 h2 => ?_)
    rw [fr a (by omega), ml_s_row (by omega)]
  · rw [fr a (by omega), ml_s_row hb]
  · rw [x117_0, g2]
    simp (disch := omega) only [nI_leI, nI_ltI, nI_eq, nI_add, pk_sub, pk_mul, if_pos, if_neg, mk_v, mk_n, Nat.reduceAdd, Nat.reduceMul, Nat.reduceSub, Nat.reduceLT, Nat.reduceLeDiff, Nat.reduceEqDiff, if_true, if_false, not_true_eq_false, not_false_eq_true, Nat.add_zero, Nat.zero_add]
    rw [x117_7, g2, pk_sub (by omega), Nat.add_sub_cancel, ml_s_s, ml_s_k (by decide), g1, nI_add, sp13 (by omega), mk_v, x117_30, e, mk_n, x117_40]
end SPC
