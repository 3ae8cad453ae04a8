/-! ===== Shape: what its methods come to ===== -/
/-- a Shape at p that has taken in the first n of f -/
def RepS (m : ml_M) (p : Nat) (f : Nat → Nat) (n : Nat) : Prop := m p 1 = nI (s_un f n) ∧ m p 2 = nI n ∧ (0 < n → m p 3 = nI (s_lo f n) ∧ m p 4 = nI (s_hi f n) ∧ m p 7 = nI (f (n - 1))) ∧ m p 5 = nI (s_rn f n) ∧ m p 6 = nI (s_ts f n) ∧ ∃ g, s_srt f n (s_un f n) g ∧ ∀ i, i < s_un f n → m (p + 1) i = nI (g i)
theorem RepS_of {m m' : ml_M} {p : Nat} {f : Nat → Nat} {n : Nat} (h : RepS m p f n) (e : m' p = m p) (e1 : m' (p + 1) = m (p + 1)) : RepS m' p f n := by
  unfold RepS at h ⊢
  rw [e, e1]
  exact h
/-- row a from k on, up to U, each from the one ahead -/
def s_us (m : ml_M) (q k U : Nat) : ml_M := fun a j => if a = q ∧ k < j ∧ j ≤ U then m a (j - 1) else m a j
theorem s_us_0 (m : ml_M) (q U : Nat) : s_us m q U U = m := by
  funext a j
  exact if_neg (fun z => by omega)
theorem s_us_a {m : ml_M} {q k U a j : Nat} (h : a ≠ q) : s_us m q k U a j = m a j := if_neg (fun z => h z.1)
theorem s_us_s (m : ml_M) (q j U : Nat) (h : j < U) : ml_s (s_us m q (j + 1) U) q (j + 1) (s_us m q (j + 1) U q j) = s_us m q j U := by
  funext a i
  by_cases ha : a = q
  · subst ha
    by_cases hi : i = j + 1
    · subst hi
      have e1 : s_us m a j U a (j + 1) = m a j := if_pos ⟨rfl, by omega, by omega⟩
      have e2 : s_us m a (j + 1) U a j = m a j := if_neg (fun z => by omega)
      rw [ml_s_s, e1, e2]
    · rw [ml_s_k hi]
      unfold s_us
      by_cases hc : j + 1 < i ∧ i ≤ U
      · rw [if_pos ⟨rfl, hc⟩, if_pos ⟨rfl, by omega, hc.2⟩]
      · rw [if_neg (fun z => hc z.2), if_neg (fun z => by omega)]
  · rw [ml_s_a ha, s_us_a ha, s_us_a ha]
section SPE
variable {Ln : Nat} {xs : Nat → Int32} {u : mj_U} {m : ml_M} {lm : ml_J} {Φ : mj_R → mj_W → Prop} {p U x : Nat} {f g : Nat → Nat}
theorem sp25_l1 (hp : ml_sh p) (hU : m p 1 = nI U) (hU2 : U ≤ 16) (hg : ∀ i, i < U → m (p + 1) i = nI (g i)) (hgb : ∀ i, i < U → g i < 2 ^ 31) (hx : x < 2 ^ 31) (hne : ∀ i, i < U → g i ≠ x) : ∀ d k : Nat, k + d = U → wp Ln xs 25 4 [.ref p, .int (nI x), .int (nI (s_rk g x k)), .int (nI k)] [] (u, ml_h m lm) Φ = wp Ln xs 25 51 [.ref p, .int (nI x), .int (nI (s_rk g x U)), .int (nI U)] [] (u, ml_h m lm) Φ
  | 0, k, h => by
    obtain rfl : k = U := by omega
    rw [x25_4 hp, hU]
    simp (disch := omega) only [nI_leI, nI_ltI, nI_eq, nI_add, pk_sub, pk_mul, if_pos, if_neg, mk_v, mk_n, Nat.reduceAdd, Nat.reduceMul, Nat.reduceSub, Nat.reduceLT, Nat.reduceLeDiff, Nat.reduceEqDiff, if_true, if_false, not_true_eq_false, not_false_eq_true, Nat.add_zero, Nat.zero_add]
  | d + 1, k, h => by
    have b1 := hgb k (by omega)
    have b2 := hne k (by omega)
    have b3 := hg k (by omega)
    have ih := sp25_l1 hp hU hU2 hg hgb hx hne d (k + 1) (by omega)
    rw [s_rk] at ih
    rw [x25_4 hp, hU]
    by_cases hc : g k < x
    · rw [if_pos hc] at ih
      simp (disch := omega) only [nI_leI, nI_ltI, nI_eq, nI_add, pk_sub, pk_mul, if_pos, if_neg, mk_v, mk_n, Nat.reduceAdd, Nat.reduceMul, Nat.reduceSub, Nat.reduceLT, Nat.reduceLeDiff, Nat.reduceEqDiff, if_true, if_false, not_true_eq_false, not_false_eq_true, Nat.add_zero, Nat.zero_add, x25_12 hp, x25_21 hp, x25_26 hp, x25_32 hp, x25_37 hp, x25_42, x25_45, b3]
      exact ih
    · rw [if_neg hc] at ih
      simp (disch := omega) only [nI_leI, nI_ltI, nI_eq, nI_add, pk_sub, pk_mul, if_pos, if_neg, mk_v, mk_n, Nat.reduceAdd, Nat.reduceMul, Nat.reduceSub, Nat.reduceLT, Nat.reduceLeDiff, Nat.reduceEqDiff, if_true, if_false, not_true_eq_false, not_false_eq_true, Nat.add_zero, Nat.zero_add, x25_12 hp, x25_21 hp, x25_26 hp, x25_32 hp, x25_37 hp, x25_42, x25_45, b3]
      exact ih
theorem sp25_f (hp : ml_sh p) (hU : m p 1 = nI U) (hU2 : U ≤ 16) (hg : ∀ i, i < U → m (p + 1) i = nI (g i)) (hgb : ∀ i, i < U → g i < 2 ^ 31) (hx : x < 2 ^ 31) : ∀ (d k r : Nat), k + d = U → (∃ i, k ≤ i ∧ i < U ∧ g i = x) → wp Ln xs 25 4 [.ref p, .int (nI x), .int (nI r), .int (nI k)] [] (u, ml_h m lm) Φ = Φ (.inl none) (u, ml_h m lm)
  | 0, k, r, h, he => by
    obtain ⟨i, h1, h2, _⟩ := he
    omega
  | d + 1, k, r, h, he => by
    have b1 := hgb k (by omega)
    have b3 := hg k (by omega)
    rw [x25_4 hp, hU]
    by_cases hq : g k = x
    · simp (disch := omega) only [nI_leI, nI_ltI, nI_eq, nI_add, pk_sub, pk_mul, if_pos, if_neg, mk_v, mk_n, Nat.reduceAdd, Nat.reduceMul, Nat.reduceSub, Nat.reduceLT, Nat.reduceLeDiff, Nat.reduceEqDiff, if_true, if_false, not_true_eq_false, not_false_eq_true, Nat.add_zero, Nat.zero_add, x25_12 hp, x25_21 hp, x25_26 hp, x25_31, b3]
    · have he2 : ∃ i, k + 1 ≤ i ∧ i < U ∧ g i = x := by
        obtain ⟨i, h1, h2, h3⟩ := he
        refine ⟨i, ?_, h2, h3⟩
        by_cases hik : i = k
        · exact absurd (hik ▸ h3) hq
        · omega
      by_cases hc : g k < x
      · simp (disch := omega) only [nI_leI, nI_ltI, nI_eq, nI_add, pk_sub, pk_mul, if_pos, if_neg, mk_v, mk_n, Nat.reduceAdd, Nat.reduceMul, Nat.reduceSub, Nat.reduceLT, Nat.reduceLeDiff, Nat.reduceEqDiff, if_true, if_false, not_true_eq_false, not_false_eq_true, Nat.add_zero, Nat.zero_add, x25_12 hp, x25_21 hp, x25_26 hp, x25_32 hp, x25_37 hp, x25_42, x25_45, b3]
        exact sp25_f hp hU hU2 hg hgb hx d (k + 1) (r + 1) (by omega) he2
      · simp (disch := omega) only [nI_leI, nI_ltI, nI_eq, nI_add, pk_sub, pk_mul, if_pos, if_neg, mk_v, mk_n, Nat.reduceAdd, Nat.reduceMul, Nat.reduceSub, Nat.reduceLT, Nat.reduceLeDiff, Nat.reduceEqDiff, if_true, if_false, not_true_eq_false, not_false_eq_true, Nat.add_zero, Nat.zero_add, x25_12 hp, x25_21 hp, x25_26 hp, x25_32 hp, x25_37 hp, x25_42, x25_45, b3]
        exact sp25_f hp hU hU2 hg hgb hx d (k + 1) r (by omega) he2
theorem sp25_l2 {r : Nat} (hp : ml_sh p) (hU : m p 1 = nI U) (hU2 : U < 16) (hr : r ≤ U) : ∀ d k : Nat, r + d = k → k ≤ U → wp Ln xs 25 69 [.ref p, .int (nI x), .int (nI r), .int (nI k)] [] (u, ml_h (s_us m (p + 1) k U) lm) Φ = Φ (.inl none) (u, ml_h (ml_s (ml_s (s_us m (p + 1) r U) (p + 1) r (nI x)) p 1 (nI (U + 1))) lm)
  | 0, k, h, hk => by
    obtain rfl : k = r := by omega
    rw [x25_69]
    have hpp : p ≠ p + 1 := by omega
    simp (disch := omega) only [nI_leI, nI_ltI, nI_eq, nI_add, pk_sub, pk_mul, if_pos, if_neg, mk_v, mk_n, Nat.reduceAdd, Nat.reduceMul, Nat.reduceSub, Nat.reduceLT, Nat.reduceLeDiff, Nat.reduceEqDiff, if_true, if_false, not_true_eq_false, not_false_eq_true, Nat.add_zero, Nat.zero_add, x25_94 hp, x25_100 hp, ml_s_a hpp, s_us_a hpp, hU]
  | d + 1, k, h, hk => by
    obtain ⟨j, rfl⟩ : ∃ j, k = j + 1 := ⟨k - 1, by omega⟩
    rw [x25_69]
    simp (disch := omega) only [nI_leI, nI_ltI, nI_eq, nI_add, pk_sub, pk_mul, if_pos, if_neg, mk_v, mk_n, Nat.reduceAdd, Nat.reduceMul, Nat.reduceSub, Nat.reduceLT, Nat.reduceLeDiff, Nat.reduceEqDiff, if_true, if_false, not_true_eq_false, not_false_eq_true, Nat.add_zero, Nat.zero_add, x25_74 hp, Nat.add_sub_cancel, x25_86 hp, x25_87 hp]
    rw [s_us_s m (p + 1) j U (by omega), pk_m1]
    exact sp25_l2 hp hU hU2 hr d j (by omega) (by omega)
theorem sp25 {n : Nat} (hp : ml_sh p) (hn : n < 16) (hb : ∀ i, i < n + 1 → f i ≤ 999) (hU : m p 1 = nI (s_un f n)) (hg : ∃ g, s_srt f n (s_un f n) g ∧ ∀ i, i < s_un f n → m (p + 1) i = nI (g i)) : ∃ m', m' p 1 = nI (s_un f (n + 1)) ∧ (∃ g, s_srt f (n + 1) (s_un f (n + 1)) g ∧ ∀ i, i < s_un f (n + 1) → m' (p + 1) i = nI (g i)) ∧ (∀ a k, a ≠ p + 1 → a ≠ p ∨ k ≠ 1 → m' a k = m a k) ∧ ∀ Φ : mj_R → mj_W → Prop, wp Ln xs 25 0 [.ref p, .int (nI (f n)), mj_hole, mj_hole] [] (u, ml_h m lm) Φ = Φ (.inl none) (u, ml_h m' lm) := by
  obtain ⟨g, hs, hg⟩ := hg
  have hUn := s_un_le f n
  have hx := hb n (by omega)
  have hgb : ∀ i, i < s_un f n → g i < 2 ^ 31 := fun i hi => by
    obtain ⟨k, hk, e⟩ := hs.2.1 i hi
    have := hb k (by omega)
    omega
  by_cases he : ∃ i, i < s_un f n ∧ g i = f n
  · obtain ⟨hin, hs2⟩ := s_srt_in hs he
    have eU : s_un f (n + 1) = s_un f n := by rw [s_un, if_pos hin, Nat.add_zero]
    refine ⟨m, by rw [eU, hU], ⟨g, by rw [eU]; exact hs2, by rw [eU]; exact hg⟩, fun _ _ _ _ => rfl, fun Φ => ?_⟩
    rw [x25_0]
    obtain ⟨i, hi, e⟩ := he
    exact sp25_f hp hU (by omega) hg hgb (by omega) (s_un f n) 0 0 (by omega) ⟨i, Nat.zero_le _, hi, e⟩
  · have hne : ∀ i, i < s_un f n → g i ≠ f n := fun i hi e => he ⟨i, hi, e⟩
    obtain ⟨hin, hs2⟩ := s_srt_new hs hne
    have hr := s_rk_le g (f n) (s_un f n)
    have eU : s_un f (n + 1) = s_un f n + 1 := by rw [s_un, hin]; rfl
    have hpp : p ≠ p + 1 := by omega
    refine ⟨ml_s (ml_s (s_us m (p + 1) (s_rk g (f n) (s_un f n)) (s_un f n)) (p + 1) (s_rk g (f n) (s_un f n)) (nI (f n))) p 1 (nI (s_un f n + 1)), by rw [ml_s_s, eU], ⟨_, by rw [eU]; exact hs2, fun i hi => ?_⟩, fun a k ha hk => ?_, fun Φ => ?_⟩
    · rw [eU] at hi
      rw [ml_s_a (by omega)]
      unfold s_ins
      by_cases c1 : i = s_rk g (f n) (s_un f n)
      · subst c1
        rw [ml_s_s, if_neg (Nat.lt_irrefl _), if_pos rfl]
      · rw [ml_s_k c1]
        unfold s_us
        by_cases c2 : i < s_rk g (f n) (s_un f n)
        · rw [if_pos c2, if_neg (fun z => by omega)]
          exact hg i (by omega)
        · rw [if_neg c2, if_neg c1, if_pos ⟨rfl, by omega, by omega⟩]
          exact hg (i - 1) (by omega)
    · have e1 : ml_s (ml_s (s_us m (p + 1) (s_rk g (f n) (s_un f n)) (s_un f n)) (p + 1) (s_rk g (f n) (s_un f n)) (nI (f n))) p 1 (nI (s_un f n + 1)) a k = ml_s (s_us m (p + 1) (s_rk g (f n) (s_un f n)) (s_un f n)) (p + 1) (s_rk g (f n) (s_un f n)) (nI (f n)) a k := by
        rcases hk with hk | hk
        · exact ml_s_a hk
        · exact ml_s_k hk
      rw [e1, ml_s_a ha, s_us_a ha]
    · rw [x25_0]
      have h1 := sp25_l1 (Ln := Ln) (xs := xs) (u := u) (lm := lm) (Φ := Φ) (g := g) (x := f n) hp hU (by omega) hg hgb (by omega) hne (s_un f n) 0 (by omega)
      rw [s_rk] at h1
      rw [h1, x25_51 hp, hU]
      simp (disch := omega) only [nI_leI, nI_ltI, nI_eq, nI_add, pk_sub, pk_mul, if_pos, if_neg, mk_v, mk_n, Nat.reduceAdd, Nat.reduceMul, Nat.reduceSub, Nat.reduceLT, Nat.reduceLeDiff, Nat.reduceEqDiff, if_true, if_false, not_true_eq_false, not_false_eq_true, Nat.add_zero, Nat.zero_add, x25_64 hp, hU]
      have h2 := sp25_l2 (Ln := Ln) (xs := xs) (u := u) (lm := lm) (Φ := Φ) (x := f n) hp hU (by omega) hr (s_un f n - s_rk g (f n) (s_un f n)) (s_un f n) (by omega) (Nat.le_refl _)
      rw [s_us_0] at h2
      exact h2
end SPE
