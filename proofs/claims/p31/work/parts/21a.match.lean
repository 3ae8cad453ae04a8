/-! ===== matching ===== -/
def s_iw (p q x : Nat) : Nat := if p ≤ x ∧ x ≤ q then 1 else 0
def s_mc (p q : Nat) (f : Nat → Nat) : Nat → Nat := fun i => s_iw p q (f i)
/-- the first one from k on, of d, that matches -/
def s_mf (p q : Nat) (f : Nat → Nat) : Nat → Nat → Nat
  | 0, k => k
  | d + 1, k => if p ≤ f k ∧ f k ≤ q then k else s_mf p q f d (k + 1)
theorem s_mf_le {p q : Nat} {f : Nat → Nat} : ∀ d k, k ≤ s_mf p q f d k ∧ s_mf p q f d k ≤ k + d
  | 0, k => ⟨Nat.le_refl _, Nat.le_refl _⟩
  | d + 1, k => by
    have := s_mf_le (p := p) (q := q) (f := f) d (k + 1)
    rw [s_mf]
    split <;> omega
def s_n1 (n r : Nat) : Int32 := if r = n then -1 else nI r
/-- the looks that matching takes in a block -/
def s_ls (σ : s_S) (p q : Nat) : Nat → Nat := fun b => if q < p ∨ s_hi (s_blf σ b) (s_len σ b) < p ∨ q < s_lo (s_blf σ b) (s_len σ b) ∨ (p ≤ s_lo (s_blf σ b) (s_len σ b) ∧ s_hi (s_blf σ b) (s_len σ b) ≤ q) then 1 else 1 + (if s_frm σ b = 2 then s_rn (s_blf σ b) (s_len σ b) else if s_frm σ b = 4 then s_un (s_blf σ b) (s_len σ b) + s_len σ b else s_len σ b)
def s_mt (σ : s_S) (p q w : Nat) : Int32 := match w with
  | 0 => nI (s_sum (s_mc p q (s_val σ)) (s_tot σ))
  | 1 => nI (s_sum (s_mc p q (s_val σ)) (s_tot σ))
  | 2 => nI (s_sum (s_ls σ p q) (σ 0) + σ 1)
  | _ => s_n1 (s_tot σ) (s_mf p q (s_val σ) (s_tot σ) 0)
theorem s_sum_sp (F : Nat → Nat) (a : Nat) : ∀ n, s_sum F (a + n) = s_sum F a + s_sum (fun i => F (a + i)) n
  | 0 => rfl
  | n + 1 => by rw [show a + (n + 1) = a + n + 1 by omega, s_sum, s_sum_sp F a n, s_sum, Nat.add_assoc]
theorem s_lo_p {f : Nat → Nat} : ∀ n i, i < n → s_lo f n ≤ f i
  | 0, i, h => absurd h (Nat.not_lt_zero i)
  | n + 1, i, h => by
    rw [s_lo]
    by_cases c : i = n
    · subst c
      split <;> omega
    · have := s_lo_p (f := f) n i (by omega)
      split <;> omega
theorem s_hi_p {f : Nat → Nat} : ∀ n i, i < n → f i ≤ s_hi f n
  | 0, i, h => absurd h (Nat.not_lt_zero i)
  | n + 1, i, h => by
    rw [s_hi]
    by_cases c : i = n
    · subst c
      split <;> omega
    · have := s_hi_p (f := f) n i (by omega)
      split <;> omega
theorem s_mc_1 {p q : Nat} {f : Nat → Nat} : ∀ n, (∀ i, i < n → p ≤ f i ∧ f i ≤ q) → s_sum (s_mc p q f) n = n
  | 0, _ => rfl
  | n + 1, h => by
    rw [s_sum, s_mc_1 n (fun i hi => h i (by omega))]
    unfold s_mc s_iw
    rw [if_pos (h n (by omega))]
theorem s_mc_0 {p q : Nat} {f : Nat → Nat} : ∀ n, (∀ i, i < n → ¬ (p ≤ f i ∧ f i ≤ q)) → s_sum (s_mc p q f) n = 0
  | 0, _ => rfl
  | n + 1, h => by
    rw [s_sum, s_mc_0 n (fun i hi => h i (by omega))]
    unfold s_mc s_iw
    rw [if_neg (h n (by omega))]
theorem s_mc_in {p q : Nat} {f : Nat → Nat} {n : Nat} (h1 : p ≤ s_lo f n) (h2 : s_hi f n ≤ q) : s_sum (s_mc p q f) n = n := s_mc_1 n (fun i hi => ⟨Nat.le_trans h1 (s_lo_p n i hi), Nat.le_trans (s_hi_p n i hi) h2⟩)
theorem s_mc_out {p q : Nat} {f : Nat → Nat} {n : Nat} (h : q < p ∨ s_hi f n < p ∨ q < s_lo f n) : s_sum (s_mc p q f) n = 0 := s_mc_0 n (fun i hi => by
  have a := s_lo_p (f := f) n i hi
  have b := s_hi_p (f := f) n i hi
  omega)
theorem s_rk_q {g : Nat → Nat} {p q : Nat} (h : p ≤ q) : ∀ n, s_rk g p n + s_sum (s_mc p q g) n = s_rk g (q + 1) n
  | 0 => rfl
  | n + 1 => by
    have ih := s_rk_q (g := g) h n
    rw [s_rk, s_rk, s_sum]
    unfold s_mc s_iw
    unfold s_mc s_iw at ih
    by_cases c1 : g n < p
    · rw [if_pos c1, if_neg (by omega), if_pos (by omega)]
      omega
    · by_cases c2 : g n ≤ q
      · rw [if_neg c1, if_pos (by omega), if_pos (by omega)]
        omega
      · rw [if_neg c1, if_neg (by omega), if_neg (by omega)]
        omega
/-- the rank of one of them is its place -/
theorem s_rk_at {g : Nat → Nat} {U i : Nat} (hs : ∀ i j, i < j → j < U → g i < g j) (hi : i < U) : s_rk g (g i) U = i := by
  have h1 := (s_rk_low (x := g i) U hs i hi).mp
  have h2 : ¬ i < s_rk g (g i) U := fun z => Nat.lt_irrefl _ (h1 z)
  by_cases h0 : i = 0
  · omega
  · have h3 := (s_rk_low (x := g i) U hs (i - 1) (by omega)).mpr (hs (i - 1) i (by omega) hi)
    omega
theorem s_rk_mem {g : Nat → Nat} {U i y : Nat} (hs : ∀ i j, i < j → j < U → g i < g j) (hi : i < U) : s_rk g (g i) U < s_rk g y U ↔ g i < y := by
  rw [s_rk_at hs hi]
  exact s_rk_low U hs i hi
section MCA
variable {Ln : Nat} {xs : Nat → Int32} {u : mj_U} {m : ml_M} {lm : ml_J} {Φ : mj_R → mj_W → Prop} {σ τ : s_S} {n t tl v k b w p q H K st x : Nat} {f : Nat → Nat} {y z y1 y2 : Int32}
theorem sp87 (hx : x < 2 ^ 31) (hp : p < 2 ^ 31) (hq : q < 2 ^ 31) : wp Ln xs 87 0 [.int (nI x), .int (nI p), .int (nI q)] [] (u, ml_h m lm) Φ = Φ (.inl (some (.int (nI (s_iw p q x))))) (u, ml_h m lm) := by
  unfold s_iw
  rw [x87_0]
  by_cases c1 : x < p
  · rw [if_pos (nI_lt c1 hp), x87_14, if_neg (by omega)]
  · rw [if_neg (nI_nlt (by omega) hx), x87_5]
    by_cases c2 : q < x
    · rw [if_pos (nI_lt c2 hx), x87_14, if_neg (by omega)]
    · rw [if_neg (nI_nlt (by omega) hq), x87_10, if_pos (by omega)]
theorem s_iw_01 (p q x : Nat) : s_iw p q x = 0 ∨ s_iw p q x = 1 := by
  unfold s_iw
  split
  · exact Or.inr rfl
  · exact Or.inl rfl
/-- hits and looks put -/
def s_hl (m : ml_M) (H K : Nat) : ml_M := ml_s (ml_s m 61 1 (nI H)) 61 2 (nI K)
theorem s_hl_1 (m : ml_M) (H K : Nat) : s_hl m H K 61 1 = nI H := by
  unfold s_hl
  rw [ml_s_k (by decide), ml_s_s]
theorem s_hl_2 (m : ml_M) (H K : Nat) : s_hl m H K 61 2 = nI K := ml_s_s _ _ _ _
theorem s_hl_n {m : ml_M} {H K a : Nat} (h : a ≠ 61) : s_hl m H K a = m a := by
  unfold s_hl
  rw [ml_s_row h, ml_s_row h]
theorem s_hl_k (m : ml_M) (H K K' : Nat) : ml_s (s_hl m H K) 61 2 (nI K') = s_hl m H K' := by
  funext a j
  unfold s_hl
  by_cases h : a = 61 ∧ j = 2
  · obtain ⟨rfl, rfl⟩ := h
    rw [ml_s_s, ml_s_s]
  · rw [ml_s_eq, if_neg h, ml_s_eq, if_neg h, ml_s_eq (v := nI K'), if_neg h]
theorem s_hl_h (m : ml_M) (H K H' : Nat) : ml_s (s_hl m H K) 61 1 (nI H') = s_hl m H' K := by
  funext a j
  unfold s_hl
  by_cases h : a = 61
  · subst h
    by_cases h1 : j = 1
    · subst h1
      rw [ml_s_s, ml_s_k (by decide), ml_s_s]
    · by_cases h2 : j = 2
      · subst h2
        rw [ml_s_k (by decide), ml_s_s, ml_s_s]
      · rw [ml_s_k h1, ml_s_k h2, ml_s_k h1, ml_s_k h2, ml_s_k h1]
  · rw [ml_s_a h, ml_s_a h, ml_s_a h, ml_s_a h, ml_s_a h]
theorem s_hl_0 (h1 : m 61 1 = nI H) (h2 : m 61 2 = nI K) : s_hl m H K = m := by
  funext a j
  unfold s_hl
  by_cases h : a = 61
  · subst h
    by_cases c2 : j = 2
    · subst c2
      rw [ml_s_s, h2]
    · rw [ml_s_k c2]
      by_cases c1 : j = 1
      · subst c1
        rw [ml_s_s, h1]
      · rw [ml_s_k c1]
  · rw [ml_s_a h, ml_s_a h]
theorem sp89_l (hp : p < 2 ^ 31) (hq : q < 2 ^ 31) (hs : st + n ≤ 207) (hf : ∀ i, i < n → m 3 (st + i) = nI (f i)) (hv : ∀ i, i < n → f i ≤ 999) : ∀ d j, j + d = n → wp Ln xs 89 3 [.ref 61, .ref 3, .int (nI st), .int (nI (st + n)), .int (nI p), .int (nI q), .int (nI (st + j))] [] (u, ml_h (s_hl m (H + s_sum (s_mc p q f) j) (K + j)) lm) Φ = Φ (.inl none) (u, ml_h (s_hl m (H + s_sum (s_mc p q f) n) (K + n)) lm)
  | 0, j, h => by
    obtain rfl : j = n := by omega
    rw [x89_3, if_pos (nI_le (Nat.le_refl _) (by omega)), x89_51]
  | d + 1, j, h => by
    have b1 := hv j (by omega)
    have ih := sp89_l hp hq hs hf hv d (j + 1) (by omega)
    rw [x89_3, if_neg (nI_ge (by omega) (by omega)), x89_9, s_hl_2, nI_add, s_hl_k, at_3 (by omega), mk_v, s_hl_n (by decide), hf j (by omega), x89_25, sp87 (by omega) hp hq, mk_v, x89_32]
    rw [s_sum] at ih
    rcases s_iw_01 p q (f j) with e | e
    · rw [e, if_pos rfl, x89_45, nI_add]
      have e2 : s_mc p q f j = 0 := e
      rw [e2] at ih
      exact ih
    · rw [e, if_neg s_10, x89_35, s_hl_1, nI_add, s_hl_h, x89_45, nI_add]
      have e2 : s_mc p q f j = 1 := e
      rw [e2] at ih
      exact ih
theorem sp89 (hp : p < 2 ^ 31) (hq : q < 2 ^ 31) (hs : st + n ≤ 207) (hf : ∀ i, i < n → m 3 (st + i) = nI (f i)) (hv : ∀ i, i < n → f i ≤ 999) (h1 : m 61 1 = nI H) (h2 : m 61 2 = nI K) : wp Ln xs 89 0 [.ref 61, .ref 3, .int (nI st), .int (nI (st + n)), .int (nI p), .int (nI q), mj_hole] [] (u, ml_h m lm) Φ = Φ (.inl none) (u, ml_h (s_hl m (H + s_sum (s_mc p q f) n) (K + n)) lm) := by
  have h := sp89_l (Ln := Ln) (xs := xs) (u := u) (lm := lm) (Φ := Φ) (H := H) (K := K) hp hq hs hf hv n 0 (by omega)
  rw [show s_hl m (H + s_sum (s_mc p q f) 0) (K + 0) = m from s_hl_0 h1 h2] at h
  rw [x89_0]
  exact h
theorem sp86_l (hp : p < 2 ^ 31) (hq : q < 2 ^ 31) (hs : st + n ≤ 207) (hf : ∀ i, i < n → m 3 (st + i) = nI (f i)) (hv : ∀ i, i < n → f i ≤ 999) : ∀ d j, j + d = n → wp Ln xs 86 6 [.ref 61, .ref 3, .int (nI st), .int (nI (st + n)), .int (nI p), .int (nI q), .int (if j = 0 then nI 0 else nI (s_iw p q (f (j - 1)))), .int (nI (st + j))] [] (u, ml_h (s_hl m (H + s_sum (s_mc p q f) j) (K + s_rn f j)) lm) Φ = Φ (.inl none) (u, ml_h (s_hl m (H + s_sum (s_mc p q f) n) (K + s_rn f n)) lm)
  | 0, j, h => by
    obtain rfl : j = n := by omega
    rw [x86_6, if_pos (nI_le (Nat.le_refl _) (by omega)), x86_81]
  | d + 1, j, h => by
    have b1 := hv j (by omega)
    have ih := sp86_l hp hq hs hf hv d (j + 1) (by omega)
    rw [s_sum, s_rn, if_neg (Nat.succ_ne_zero j), Nat.add_sub_cancel] at ih
    have tail : ∀ K' : Nat, wp Ln xs 86 6 [.ref 61, .ref 3, .int (nI st), .int (nI (st + n)), .int (nI p), .int (nI q), .int (nI (s_iw p q (f j))), .int (nI (st + (j + 1)))] [] (u, ml_h (s_hl m (H + (s_sum (s_mc p q f) j + s_mc p q f j)) K') lm) Φ = Φ (.inl none) (u, ml_h (s_hl m (H + s_sum (s_mc p q f) n) (K + s_rn f n)) lm) → wp Ln xs 86 60 [.ref 61, .ref 3, .int (nI st), .int (nI (st + n)), .int (nI p), .int (nI q), .int (nI (s_iw p q (f j))), .int (nI (st + j))] [] (u, ml_h (s_hl m (H + s_sum (s_mc p q f) j) K') lm) Φ = Φ (.inl none) (u, ml_h (s_hl m (H + s_sum (s_mc p q f) n) (K + s_rn f n)) lm) := fun K' ih => by
      rw [x86_60]
      rcases s_iw_01 p q (f j) with e | e
      · have e2 : s_mc p q f j = 0 := e
        rw [e2, e] at ih
        rw [e, if_pos rfl, x86_75, nI_add]
        exact ih
      · have e2 : s_mc p q f j = 1 := e
        rw [e2, e] at ih
        rw [e, if_neg s_10, x86_65, s_hl_1, nI_add, s_hl_h, x86_75, nI_add]
        exact ih
    rw [x86_6, if_neg (nI_ge (by omega) (by omega)), x86_12]
    by_cases h0 : j = 0
    · subst h0
      rw [if_pos rfl] at ih
      rw [if_pos (by rw [Nat.add_zero]), x86_35, s_hl_2, nI_add, s_hl_k, at_3 (by omega), mk_v, s_hl_n (by decide), hf 0 (by omega), x86_51, sp87 (by omega) hp hq, mk_v, x86_58]
      exact tail _ ih
    · have b2 := hv (j - 1) (by omega)
      rw [if_neg h0] at ih
      rw [if_neg (by rw [nI_eq (by omega) (by omega)]; omega), x86_18, at_3 (by omega), mk_v, s_hl_n (by decide), hf j (by omega), x86_24, pk_sub (by omega), show st + j - 1 = st + (j - 1) by omega, at_3 (by omega), mk_v, s_hl_n (by decide), hf (j - 1) (by omega), x86_32, if_neg h0]
      by_cases c : f j = f (j - 1)
      · rw [if_pos c] at ih
        rw [if_pos (by rw [c]), ← c]
        exact tail _ ih
      · rw [if_neg c] at ih
        rw [if_neg (by rw [nI_eq (by omega) (by omega)]; exact c), x86_35, s_hl_2, nI_add, s_hl_k, at_3 (by omega), mk_v, s_hl_n (by decide), hf j (by omega), x86_51, sp87 (by omega) hp hq, mk_v, x86_58]
        exact tail _ ih
theorem sp86 (hp : p < 2 ^ 31) (hq : q < 2 ^ 31) (hs : st + n ≤ 207) (hf : ∀ i, i < n → m 3 (st + i) = nI (f i)) (hv : ∀ i, i < n → f i ≤ 999) (h1 : m 61 1 = nI H) (h2 : m 61 2 = nI K) : wp Ln xs 86 0 [.ref 61, .ref 3, .int (nI st), .int (nI (st + n)), .int (nI p), .int (nI q), mj_hole, mj_hole] [] (u, ml_h m lm) Φ = Φ (.inl none) (u, ml_h (s_hl m (H + s_sum (s_mc p q f) n) (K + s_rn f n)) lm) := by
  have h := sp86_l (Ln := Ln) (xs := xs) (u := u) (lm := lm) (Φ := Φ) (H := H) (K := K) hp hq hs hf hv n 0 (by omega)
  rw [show s_hl m (H + s_sum (s_mc p q f) 0) (K + s_rn f 0) = m from s_hl_0 h1 h2, if_pos rfl] at h
  rw [x86_0]
  exact h
theorem sp88_a {g : Nat → Nat} {U : Nat} (hp : p < 2 ^ 31) (hq : q < 2 ^ 31) (hU : m 62 1 = nI U) (hU2 : U ≤ 16) (hg : ∀ i, i < U → m 63 i = nI (g i)) (hgb : ∀ i, i < U → g i ≤ 999) : ∀ (d i : Nat) (v9 : Value), i + d = U → ∃ w9, wp Ln xs 88 9 [.ref 61, .ref 3, .int y1, .int y2, .int (nI p), .int (nI q), .int (nI (s_rk g p i)), .int (nI (s_sum (s_mc p q g) i)), .int (nI i), v9] [] (u, ml_h (s_hl m H (K + i)) lm) Φ = wp Ln xs 88 74 [.ref 61, .ref 3, .int y1, .int y2, .int (nI p), .int (nI q), .int (nI (s_rk g p U)), .int (nI (s_sum (s_mc p q g) U)), .int (nI U), w9] [] (u, ml_h (s_hl m H (K + U)) lm) Φ
  | 0, i, v9, h => by
    obtain rfl : i = U := by omega
    refine ⟨v9, ?_⟩
    rw [x88_9, s_hl_n (by decide), hU, if_pos (nI_le (Nat.le_refl _) (by omega))]
  | d + 1, i, v9, h => by
    have b1 := hgb i (by omega)
    obtain ⟨w9, ih⟩ := sp88_a hp hq hU hU2 hg hgb d (i + 1) (.int (nI (g i))) (by omega)
    refine ⟨w9, ?_⟩
    rw [s_rk, s_sum] at ih
    rw [x88_9, s_hl_n (by decide), hU, if_neg (nI_ge (by omega) (by omega)), x88_21, s_hl_2, nI_add, s_hl_k, at_63 (by omega), mk_v, s_hl_n (by decide), hg i (by omega), x88_43]
    by_cases c1 : g i < p
    · have e2 : s_mc p q g i = 0 := if_neg (by omega)
      rw [if_pos c1, e2] at ih
      rw [if_neg (nI_ge c1 hp), x88_52, nI_add, x88_68, nI_add]
      exact ih
    · rw [if_neg c1] at ih
      rw [if_pos (nI_le (by omega) (by omega)), x88_58]
      by_cases c2 : q < g i
      · have e2 : s_mc p q g i = 0 := if_neg (by omega)
        rw [e2] at ih
        rw [if_pos (nI_lt c2 (by omega)), x88_68, nI_add]
        exact ih
      · have e2 : s_mc p q g i = 1 := if_pos (by omega)
        rw [e2] at ih
        rw [if_neg (nI_nlt (by omega) hq), x88_65, nI_add, x88_68, nI_add]
        exact ih
theorem sp88_b {N : Nat} (hpq : p ≤ q) (hp : p < 2 ^ 31) (hq : q < 2 ^ 31) (hn : n ≤ 16) (hs : st + n ≤ 207) (hf : ∀ i, i < n → m 3 (st + i) = nI (f i)) (hv : ∀ i, i < n → f i ≤ 999) (hR : RepS m 62 f n) {g : Nat → Nat} (hg : s_srt f n (s_un f n) g) : ∀ (d j : Nat) (v9 : Value), j + d = n → wp Ln xs 88 77 [.ref 61, .ref 3, .int y1, .int (nI (st + n)), .int (nI p), .int (nI q), .int (nI (s_rk g p (s_un f n))), .int (nI (s_sum (s_mc p q g) (s_un f n))), .int (nI (st + j)), v9] [] (u, ml_h (s_hl m (H + s_sum (s_mc p q f) j) (K + N + j)) lm) Φ = Φ (.inl none) (u, ml_h (s_hl m (H + s_sum (s_mc p q f) n) (K + N + n)) lm)
  | 0, j, v9, h => by
    obtain rfl : j = n := by omega
    rw [x88_77, if_pos (nI_le (Nat.le_refl _) (by omega)), x88_141]
  | d + 1, j, v9, h => by
    have b1 := hv j (by omega)
    have hu := s_un_le f n
    have hrk := s_rk_le g p (s_un f n)
    have hrq := s_rk_le g (q + 1) (s_un f n)
    have hadd := s_rk_q (g := g) hpq (s_un f n)
    have hR2 : RepS (s_hl m (H + s_sum (s_mc p q f) j) (K + N + j + 1)) 62 f n := RepS_of hR (s_hl_n (by decide)) (s_hl_n (by decide))
    have hrank : s_rank f (f j) n = s_rk g (f j) (s_un f n) := (hg.2.2.2 (f j)).symm
    have hrf := s_rk_le g (f j) (s_un f n)
    obtain ⟨i, hi, ei⟩ := hg.2.2.1 j (by omega)
    have m1 := s_rk_mem (y := p) hg.1 hi
    have m2 := s_rk_mem (y := q + 1) hg.1 hi
    rw [ei] at m1 m2
    have ih := fun v9 => sp88_b (N := N) hpq hp hq hn hs hf hv hR hg d (j + 1) v9 (by omega)
    rw [s_sum] at ih
    rw [x88_77, if_neg (nI_ge (by omega) (by omega)), x88_83, s_hl_2, nI_add, s_hl_k, at_3 (by omega), mk_v, s_hl_n (by decide), hf j (by omega), x88_103, sp70 ml_sh_62 hR2 hn hv (by omega), hrank, mk_v, x88_106]
    by_cases c1 : s_rk g (f j) (s_un f n) < s_rk g p (s_un f n)
    · have e2 : s_mc p q f j = 0 := if_neg (by have := m1.mp c1; omega)
      rw [e2] at ih
      rw [if_pos (nI_lt c1 (by omega)), x88_135, nI_add]
      exact ih _
    · rw [if_neg (nI_nlt (by omega) (by omega)), x88_115, nI_add, hadd]
      by_cases c2 : s_rk g (f j) (s_un f n) < s_rk g (q + 1) (s_un f n)
      · have e2 : s_mc p q f j = 1 := if_pos (by
          have a1 := m2.mp c2
          have a2 : ¬ f j < p := fun z => c1 (m1.mpr z)
          omega)
        rw [e2] at ih
        rw [if_neg (nI_ge c2 (by omega)), x88_125, s_hl_1, nI_add, s_hl_h, x88_135, nI_add]
        exact ih _
      · have e2 : s_mc p q f j = 0 := if_neg (by
          have a1 : ¬ f j < q + 1 := fun z => c2 (m2.mpr z)
          omega)
        rw [e2] at ih
        rw [if_pos (nI_le (by omega) (by omega)), x88_135, nI_add]
        exact ih _
theorem sp88 (hpq : p ≤ q) (hp : p < 2 ^ 31) (hq : q < 2 ^ 31) (hn : n ≤ 16) (hs : st + n ≤ 207) (hf : ∀ i, i < n → m 3 (st + i) = nI (f i)) (hv : ∀ i, i < n → f i ≤ 999) (hR : RepS m 62 f n) (h1 : m 61 1 = nI H) (h2 : m 61 2 = nI K) : wp Ln xs 88 0 [.ref 61, .ref 3, .int (nI st), .int (nI (st + n)), .int (nI p), .int (nI q), mj_hole, mj_hole, mj_hole, mj_hole] [] (u, ml_h m lm) Φ = Φ (.inl none) (u, ml_h (s_hl m (H + s_sum (s_mc p q f) n) (K + (s_un f n + n))) lm) := by
  have hu := s_un_le f n
  have hR0 := hR
  obtain ⟨r1, r2, r3, r5, r6, g, hg, hgm⟩ := hR0
  have hgb : ∀ i, i < s_un f n → g i ≤ 999 := fun i hi => by
    obtain ⟨k, hk, e⟩ := hg.2.1 i hi
    have := hv k hk
    omega
  obtain ⟨w9, ha⟩ := sp88_a (Ln := Ln) (xs := xs) (u := u) (lm := lm) (Φ := Φ) (H := H) (K := K) (y1 := nI st) (y2 := nI (st + n)) hp hq r1 (by omega) hgm hgb (s_un f n) 0 mj_hole (by omega)
  rw [show s_hl m H (K + 0) = m from s_hl_0 h1 h2] at ha
  have hb := sp88_b (Ln := Ln) (xs := xs) (u := u) (lm := lm) (Φ := Φ) (H := H) (K := K) (N := s_un f n) (y1 := nI st) hpq hp hq hn hs hf hv hR hg n 0 w9 (by omega)
  rw [x88_0]
  refine ha.trans ?_
  rw [x88_74, ← Nat.add_assoc]
  exact hb
/-- a block -/
theorem sp85 (h0 : s_ok σ) (h : RepC m 2 σ) (hb : b < σ 0) (hpq : p ≤ q) (hp : p < 2 ^ 31) (hq : q < 2 ^ 31) (hR : RepS m 62 (s_blf σ b) (s_len σ b)) (h1 : m 61 1 = nI H) (h2 : m 61 2 = nI K) : wp Ln xs 85 0 [.ref 61, .ref 2, .int (nI b), .int (nI (s_sum (s_len σ) b)), .int (nI p), .int (nI q), mj_hole] [] (u, ml_h m lm) Φ = Φ (.inl none) (u, ml_h (s_hl m (H + s_sum (s_mc p q (s_blf σ b)) (s_len σ b)) (K + (if s_frm σ b = 2 then s_rn (s_blf σ b) (s_len σ b) else if s_frm σ b = 4 then s_un (s_blf σ b) (s_len σ b) + s_len σ b else s_len σ b))) lm) := by
  have k0 := h0.1
  have hT := s_tot_le h0
  have hend := s_end_le hb
  have l := h0.2.2.1 b hb
  have hv := s_blf_le (s_oke_of (fun _ => False) h0) hb
  obtain ⟨g5, g6, g7, g8, g1, g2, g3, g4, gs⟩ := h
  have hf : ∀ i, i < s_len σ b → m 3 (s_sum (s_len σ) b + i) = nI (s_blf σ b i) := fun i hi => g1 _ (by omega)
  rw [x85_0, sp20 (by omega), mk_v, g2 b hb, x85_6, nI_add, sp42 (by omega), mk_v, g3 b hb]
  have : s_frm σ b = 0 ∨ s_frm σ b = 1 ∨ s_frm σ b = 2 ∨ s_frm σ b = 3 ∨ s_frm σ b = 4 := by omega
  rcases this with e | e | e | e | e
  · rw [e, x85_14_0, x85_76, sp89 hp hq (by omega) hf hv h1 h2, mk_n, x85_91]
    rfl
  · rw [e, x85_14_1, x85_76, sp89 hp hq (by omega) hf hv h1 h2, mk_n, x85_91]
    rfl
  · rw [e, x85_14_2, x85_40, sp86 hp hq (by omega) hf hv h1 h2, mk_n, x85_55]
    rfl
  · rw [e, x85_14_3, x85_76, sp89 hp hq (by omega) hf hv h1 h2, mk_n, x85_91]
    rfl
  · rw [e, x85_14_4, x85_58, sp88 hpq hp hq l.2.1 (by omega) hf hv hR h1 h2, mk_n, x85_73]
    rfl
theorem sp84_l (h0 : s_ok σ) (hp : p ≤ 999) (hq : q ≤ 999) : ∀ (d b : Nat) (m : ml_M) (v6 : Value), b + d = σ 0 → RepC m 2 σ → m 61 1 = nI (s_sum (s_mc p q (s_val σ)) (s_sum (s_len σ) b)) → m 61 2 = nI (s_sum (s_ls σ p q) b) → ∃ m' w6, RepC m' 2 σ ∧ m' 61 1 = nI (s_sum (s_mc p q (s_val σ)) (s_sum (s_len σ) (σ 0))) ∧ m' 61 2 = nI (s_sum (s_ls σ p q) (σ 0)) ∧ (∀ a, a < 61 ∨ 63 < a → m' a = m a) ∧ ∀ Φ : mj_R → mj_W → Prop, wp Ln xs 84 16 [.ref 61, .ref 2, .int (nI p), .int (nI q), .int (nI (s_sum (s_len σ) b)), .int (nI b), v6] [] (u, ml_h m lm) Φ = wp Ln xs 84 153 [.ref 61, .ref 2, .int (nI p), .int (nI q), .int (nI (s_sum (s_len σ) (σ 0))), .int (nI (σ 0)), w6] [] (u, ml_h m' lm) Φ
  | 0, b, m, v6, hd, h, h1, h2 => by
    obtain rfl : b = σ 0 := by omega
    refine ⟨m, v6, h, h1, h2, fun _ _ => rfl, fun Φ => ?_⟩
    rw [x84_16, h.2.1, if_pos (nI_le (Nat.le_refl _) (by have := h0.1; omega))]
  | d + 1, b, m, v6, hd, h, h1, h2 => by
    have k0 := h0.1
    have hb : b < σ 0 := by omega
    have hT := s_tot_le h0
    have hend := s_end_le hb
    have l := h0.2.2.1 b hb
    have hv := s_blf_le (s_oke_of (fun _ => False) h0) hb
    have hlo := s_lo_le (f := s_blf σ b) (s_len σ b) (hv 0 (by omega)) hv
    have hhi := s_hi_le (f := s_blf σ b) (s_len σ b) (hv 0 (by omega)) hv
    have hlh := s_lo_hi (s_blf σ b) (s_len σ b)
    obtain ⟨m1, r1, f1, e1⟩ := sp41 (Ln := Ln) (xs := xs) (u := u) (lm := lm) (m := m) (p := 62) (r := 3) (s := s_sum (s_len σ) b) (n := s_len σ b) (f := s_blf σ b) ml_sh_62 ml_ia_3 (by decide) (by decide) (by decide) l.2.1 (by rw [ml_n_3]; omega) hv (fun i hi => h.2.2.2.2.1 _ (by omega))
    have hc1 : RepC m1 2 σ := RepC_of h (fun a _ _ => f1 a (by omega) (by omega))
    have a1 : m1 61 1 = nI (s_sum (s_mc p q (s_val σ)) (s_sum (s_len σ) b)) := by rw [f1 61 (by decide) (by decide), h1]
    have a2 : m1 61 2 = nI (s_sum (s_ls σ p q) b) := by rw [f1 61 (by decide) (by decide), h2]
    have start : ∀ Φ : mj_R → mj_W → Prop, wp Ln xs 84 16 [.ref 61, .ref 2, .int (nI p), .int (nI q), .int (nI (s_sum (s_len σ) b)), .int (nI b), v6] [] (u, ml_h m lm) Φ = wp Ln xs 84 54 [.ref 61, .ref 2, .int (nI p), .int (nI q), .int (nI (s_sum (s_len σ) b)), .int (nI b), .int (nI (s_sum (s_len σ) (b + 1)))] [] (u, ml_h m1 lm) Φ := fun Φ => by
      rw [x84_16, h.2.1, if_neg (nI_ge hb (by omega)), x84_25, sp20 (by omega), mk_v, h.2.2.2.2.2.1 b hb, x84_33, nI_add, pk_sub (by omega), show s_sum (s_len σ) b + s_len σ b - s_sum (s_len σ) b = s_len σ b by omega, e1, mk_n]
      rfl
    have hsum : s_sum (s_mc p q (s_val σ)) (s_sum (s_len σ) (b + 1)) = s_sum (s_mc p q (s_val σ)) (s_sum (s_len σ) b) + s_sum (s_mc p q (s_blf σ b)) (s_len σ b) := s_sum_sp (s_mc p q (s_val σ)) (s_sum (s_len σ) b) (s_len σ b)
    have hm2 : ml_s m1 61 2 (nI (s_sum (s_ls σ p q) b + 1)) = s_hl m1 (s_sum (s_mc p q (s_val σ)) (s_sum (s_len σ) b)) (s_sum (s_ls σ p q) b + 1) := by
      rw [← s_hl_k m1 _ (s_sum (s_ls σ p q) b), s_hl_0 a1 a2]
    obtain ⟨r0, rn, r3, r5, r6, rg⟩ := r1
    obtain ⟨r3, r4, r7⟩ := r3 (by omega)
    have r1 : RepS m1 62 (s_blf σ b) (s_len σ b) := ⟨r0, rn, fun _ => ⟨r3, r4, r7⟩, r5, r6, rg⟩
    -- the block's own hits and looks
    have key : ∃ c l, (c = s_sum (s_mc p q (s_blf σ b)) (s_len σ b)) ∧ s_ls σ p q b = 1 + l ∧ ∀ Φ : mj_R → mj_W → Prop, wp Ln xs 84 54 [.ref 61, .ref 2, .int (nI p), .int (nI q), .int (nI (s_sum (s_len σ) b)), .int (nI b), .int (nI (s_sum (s_len σ) (b + 1)))] [] (u, ml_h m1 lm) Φ = wp Ln xs 84 143 [.ref 61, .ref 2, .int (nI p), .int (nI q), .int (nI (s_sum (s_len σ) b)), .int (nI b), .int (nI (s_sum (s_len σ) (b + 1)))] [] (u, ml_h (s_hl m1 (s_sum (s_mc p q (s_val σ)) (s_sum (s_len σ) b) + c) (s_sum (s_ls σ p q) b + 1 + l)) lm) Φ := by
      by_cases cin : p ≤ s_lo (s_blf σ b) (s_len σ b) ∧ s_hi (s_blf σ b) (s_len σ b) ≤ q
      · refine ⟨s_len σ b, 0, (s_mc_in cin.1 cin.2).symm, if_pos (Or.inr (Or.inr (Or.inr cin))), fun Φ => ?_⟩
        rw [x84_54, a2, nI_add, hm2, s_hl_n (by decide), r3, if_neg (nI_nlt cin.1 (by omega)), x84_75, s_hl_n (by decide), r4, if_neg (nI_nlt cin.2 (by omega)), x84_86, s_hl_1, s_hl_n (by decide), rn, nI_add, s_hl_h]
      · have go : ∀ Φ : mj_R → mj_W → Prop, wp Ln xs 84 54 [.ref 61, .ref 2, .int (nI p), .int (nI q), .int (nI (s_sum (s_len σ) b)), .int (nI b), .int (nI (s_sum (s_len σ) (b + 1)))] [] (u, ml_h m1 lm) Φ = wp Ln xs 84 105 [.ref 61, .ref 2, .int (nI p), .int (nI q), .int (nI (s_sum (s_len σ) b)), .int (nI b), .int (nI (s_sum (s_len σ) (b + 1)))] [] (u, ml_h (s_hl m1 (s_sum (s_mc p q (s_val σ)) (s_sum (s_len σ) b)) (s_sum (s_ls σ p q) b + 1)) lm) Φ := fun Φ => by
          rw [x84_54, a2, nI_add, hm2, s_hl_n (by decide), r3]
          by_cases c1 : s_lo (s_blf σ b) (s_len σ b) < p
          · rw [if_pos (nI_lt c1 (by omega))]
          · rw [if_neg (nI_nlt (by omega) (by omega)), x84_75, s_hl_n (by decide), r4, if_pos (nI_lt (by omega) (by omega))]
        by_cases cout : q < p ∨ s_hi (s_blf σ b) (s_len σ b) < p ∨ q < s_lo (s_blf σ b) (s_len σ b)
        · refine ⟨0, 0, (s_mc_out cout).symm, if_pos (by omega), fun Φ => ?_⟩
          rw [go, x84_105]
          by_cases c1 : q < p
          · rw [if_pos (nI_lt c1 (by omega))]
            rfl
          · rw [if_neg (nI_nlt (by omega) (by omega)), x84_110, s_hl_n (by decide), r4]
            by_cases c2 : s_hi (s_blf σ b) (s_len σ b) < p
            · rw [if_pos (nI_lt c2 (by omega))]
              rfl
            · rw [if_neg (nI_nlt (by omega) (by omega)), x84_121, s_hl_n (by decide), r3, if_pos (nI_lt (by omega) (by omega))]
              rfl
        · refine ⟨_, _, rfl, if_neg (by omega), fun Φ => ?_⟩
          have hR2 : RepS (s_hl m1 (s_sum (s_mc p q (s_val σ)) (s_sum (s_len σ) b)) (s_sum (s_ls σ p q) b + 1)) 62 (s_blf σ b) (s_len σ b) := RepS_of r1 (s_hl_n (by decide)) (s_hl_n (by decide))
          have hc2 : RepC (s_hl m1 (s_sum (s_mc p q (s_val σ)) (s_sum (s_len σ) b)) (s_sum (s_ls σ p q) b + 1)) 2 σ := RepC_of hc1 (fun a _ _ => s_hl_n (by omega))
          have e64 := fun Φ => sp85 (Ln := Ln) (xs := xs) (u := u) (lm := lm) (Φ := Φ) h0 hc2 hb (show p ≤ q by omega) (show p < 2 ^ 31 by omega) (show q < 2 ^ 31 by omega) hR2 (s_hl_1 _ _ _) (s_hl_2 _ _ _)
          have hh : ∀ A B C D : Nat, s_hl (s_hl m1 A B) C D = s_hl m1 C D := fun A B C D => by
            have z1 : s_hl (s_hl m1 A B) C D = ml_s (ml_s (s_hl m1 A B) 61 1 (nI C)) 61 2 (nI D) := rfl
            rw [z1, s_hl_h, s_hl_k]
          rw [go, x84_105, if_neg (nI_nlt (by omega) (by omega)), x84_110, s_hl_n (by decide), r4, if_neg (nI_nlt (by omega) (by omega)), x84_121, s_hl_n (by decide), r3, if_neg (nI_nlt (by omega) (by omega)), x84_132, e64, mk_n, hh]
    obtain ⟨c, lk, hc, hlk, ek⟩ := key
    obtain ⟨m3, w6, g1, g2, g3, g4, g5⟩ := sp84_l h0 hp hq d (b + 1) (s_hl m1 (s_sum (s_mc p q (s_val σ)) (s_sum (s_len σ) b) + c) (s_sum (s_ls σ p q) b + 1 + lk)) (.int (nI (s_sum (s_len σ) (b + 1)))) (by omega) (RepC_of hc1 (fun a _ _ => s_hl_n (by omega))) (by rw [s_hl_1, hsum, hc]) (by rw [s_hl_2, s_sum, hlk, Nat.add_assoc])
    refine ⟨m3, w6, g1, g2, g3, fun a ha => by rw [g4 a ha, s_hl_n (by omega), f1 a (by omega) (by omega)], fun Φ => ?_⟩
    rw [start, ek, x84_143, nI_add]
    exact g5 Φ
theorem sp84 (h0 : s_ok σ) (h : RepC m 2 σ) (hp : p ≤ 999) (hq : q ≤ 999) : ∃ m', m' 61 1 = nI (s_sum (s_mc p q (s_val σ)) (s_tot σ)) ∧ m' 61 2 = nI (s_sum (s_ls σ p q) (σ 0) + σ 1) ∧ (∀ a, a < 61 ∨ 63 < a → m' a = m a) ∧ ∀ Φ : mj_R → mj_W → Prop, wp Ln xs 84 0 [.ref 61, .ref 2, .int (nI p), .int (nI q), mj_hole, mj_hole, mj_hole] [] (u, ml_h m lm) Φ = Φ (.inl none) (u, ml_h m' lm) := by
  have hT := s_tot_le h0
  have hst := s_sum_tot σ
  have ht := s_tot_sub σ
  have e0 : ml_s (ml_s m 61 1 (nI 0)) 61 2 (nI 0) = s_hl m 0 0 := rfl
  obtain ⟨m1, w6, g1, g2, g3, g4, g5⟩ := sp84_l (Ln := Ln) (xs := xs) (u := u) (lm := lm) h0 hp hq (σ 0) 0 (s_hl m 0 0) mj_hole (by omega) (RepC_of h (fun a _ _ => s_hl_n (by omega))) (s_hl_1 _ _ _) (s_hl_2 _ _ _)
  have hs : s_sum (s_mc p q (s_val σ)) (s_tot σ) = s_sum (s_mc p q (s_val σ)) (s_sum (s_len σ) (σ 0)) + s_sum (s_mc p q (fun i => s_val σ (s_sum (s_len σ) (σ 0) + i))) (σ 1) := s_sum_sp (s_mc p q (s_val σ)) (s_sum (s_len σ) (σ 0)) (σ 1)
  refine ⟨s_hl m1 (s_sum (s_mc p q (s_val σ)) (s_sum (s_len σ) (σ 0)) + s_sum (s_mc p q (fun i => s_val σ (s_sum (s_len σ) (σ 0) + i))) (σ 1)) (s_sum (s_ls σ p q) (σ 0) + σ 1), by rw [s_hl_1, hs], s_hl_2 _ _ _, fun a ha => by rw [s_hl_n (by omega), g4 a ha, s_hl_n (by omega)], fun Φ => ?_⟩
  have g6 := g5 Φ
  rw [x84_0, e0]
  refine g6.trans ?_
  rw [x84_153, g1.1, show s_tot σ = s_sum (s_len σ) (σ 0) + σ 1 from rfl, sp89 (f := fun i => s_val σ (s_sum (s_len σ) (σ 0) + i)) (by omega) (by omega) (by omega) (fun i hi => g1.2.2.2.2.1 _ (by omega)) (fun i hi => h0.2.2.2.1 _ (by omega)) g2 g3, mk_n, x84_169]
theorem sp90_l (h0 : s_ok σ) (h : RepC m 2 σ) (hp : p ≤ 999) (hq : q ≤ 999) : ∀ d k, k + d = s_tot σ → wp Ln xs 90 6 [.ref 61, .ref 2, .int (nI p), .int (nI q), .int (nI (s_sum (s_mc p q (s_val σ)) k)), .int (nI k)] [] (u, ml_h m lm) Φ = Φ (.inl (some (.int (nI (s_sum (s_mc p q (s_val σ)) (s_tot σ)))))) (u, ml_h m lm)
  | 0, k, hd => by
    have hT := s_tot_le h0
    obtain rfl : k = s_tot σ := by omega
    rw [x90_6, h.1, if_pos (nI_le (Nat.le_refl _) (by omega)), x90_41]
  | d + 1, k, hd => by
    have hT := s_tot_le h0
    have b1 := h0.2.2.2.1 k (by omega)
    have ih := sp90_l h0 h hp hq d (k + 1) (by omega)
    rw [s_sum] at ih
    rw [x90_6, h.1, if_neg (nI_ge (by omega) (by omega)), x90_15, at_3 (by omega), mk_v, h.2.2.2.2.1 k (by omega), x90_24, sp87 (by omega) (by omega) (by omega), mk_v, x90_29]
    rcases s_iw_01 p q (s_val σ k) with e | e
    · have e2 : s_mc p q (s_val σ) k = 0 := e
      rw [e2] at ih
      rw [e, if_pos rfl, x90_35, nI_add]
      exact ih
    · have e2 : s_mc p q (s_val σ) k = 1 := e
      rw [e2] at ih
      rw [e, if_neg s_10, x90_32, nI_add, x90_35, nI_add]
      exact ih
theorem sp91_l (h0 : s_ok σ) (h : RepC m 2 σ) (hp : p ≤ 999) (hq : q ≤ 999) : ∀ d k, k + d = s_tot σ → wp Ln xs 91 3 [.ref 61, .ref 2, .int (nI p), .int (nI q), .int (nI k)] [] (u, ml_h m lm) Φ = Φ (.inl (some (.int (s_n1 (s_tot σ) (s_mf p q (s_val σ) d k))))) (u, ml_h m lm)
  | 0, k, hd => by
    have hT := s_tot_le h0
    obtain rfl : k = s_tot σ := by omega
    rw [x91_3, h.1, if_pos (nI_le (Nat.le_refl _) (by omega)), x91_38, s_mf]
    unfold s_n1
    rw [if_pos rfl]
  | d + 1, k, hd => by
    have hT := s_tot_le h0
    have b1 := h0.2.2.2.1 k (by omega)
    have ih := sp91_l h0 h hp hq d (k + 1) (by omega)
    rw [x91_3, h.1, if_neg (nI_ge (by omega) (by omega)), x91_12, at_3 (by omega), mk_v, h.2.2.2.2.1 k (by omega), x91_21, sp87 (by omega) (by omega) (by omega), mk_v, x91_26, s_mf]
    unfold s_iw
    by_cases c : p ≤ s_val σ k ∧ s_val σ k ≤ q
    · rw [if_pos c, if_neg s_10, x91_29, if_pos c]
      unfold s_n1
      rw [if_neg (by omega)]
    · rw [if_neg c, if_pos rfl, x91_32, nI_add, if_neg c]
      exact ih
theorem sp83 (h0 : s_ok σ) (h : RepC m 2 σ) (hp : p ≤ 999) (hq : q ≤ 999) (hw : w ≤ 3) : ∃ m', (∀ a, a < 61 ∨ 63 < a → m' a = m a) ∧ ∀ Φ : mj_R → mj_W → Prop, wp Ln xs 83 0 [.ref 1, .int (nI p), .int (nI q), .int (nI w)] [] (u, ml_h m lm) Φ = Φ (.inl (some (.int (s_mt σ p q w)))) (u, ml_h m' lm) := by
  have : w = 0 ∨ w = 1 ∨ w = 2 ∨ w = 3 := by omega
  obtain ⟨m1, g1, g2, g3, g4⟩ := sp84 (Ln := Ln) (xs := xs) (u := u) (lm := lm) h0 h hp hq
  rcases this with rfl | rfl | rfl | rfl
  · refine ⟨m1, g3, fun Φ => ?_⟩
    rw [x83_0, x83_1_0, x83_28, g4, mk_n, x83_41, g1]
    rfl
  · refine ⟨m, fun _ _ => rfl, fun Φ => ?_⟩
    have e := sp90_l (Ln := Ln) (xs := xs) (u := u) (lm := lm) (Φ := mk Ln xs 83 59 [.ref 1, .int (nI p), .int (nI q), .int (nI 1)] [] Φ) h0 h hp hq (s_tot σ) 0 (by omega)
    rw [x83_0, x83_1_1, x83_49, x90_0]
    refine Eq.trans e ?_
    rw [mk_v, x83_62]
    rfl
  · refine ⟨m1, g3, fun Φ => ?_⟩
    rw [x83_0, x83_1_2, x83_63, g4, mk_n, x83_76, g2]
    rfl
  · refine ⟨m, fun _ _ => rfl, fun Φ => ?_⟩
    rw [x83_0, x83_1_3, x83_84, x91_0, sp91_l h0 h hp hq (s_tot σ) 0 (by omega), mk_v, x83_97]
    rfl
theorem sp81_a (hx : y < nI 0 ∨ nI 999 < y) : wp Ln xs 81 0 [.ref 1, .int y, .int y1, .int y2] [] (u, ml_h m lm) Φ = Φ (.inr 0) ((u.1, u.2.1 + 1, u.2.2 + 6), ml_h m lm) := by
  rw [x81_0, sp82_f hx, mk_v, x81_4, if_pos rfl, x81_23]
theorem sp81_b (hp : p ≤ 999) (hx : y1 < nI 0 ∨ nI 999 < y1) : wp Ln xs 81 0 [.ref 1, .int (nI p), .int y1, .int y2] [] (u, ml_h m lm) Φ = Φ (.inr 0) ((u.1, u.2.1 + 1, u.2.2 + 6), ml_h m lm) := by
  rw [x81_0, sp82_t hp, mk_v, x81_4, if_neg s_10, x81_7, sp82_f hx, mk_v, x81_11, if_pos rfl, x81_23]
theorem sp81_c (hp : p ≤ 999) (hq : q ≤ 999) (hx : y2 < nI 0 ∨ nI 3 < y2) : wp Ln xs 81 0 [.ref 1, .int (nI p), .int (nI q), .int y2] [] (u, ml_h m lm) Φ = Φ (.inr 0) ((u.1, u.2.1 + 1, u.2.2 + 6), ml_h m lm) := by
  rw [x81_0, sp82_t hp, mk_v, x81_4, if_neg s_10, x81_7, sp82_t hq, mk_v, x81_11, if_neg s_10, x81_14]
  by_cases c : y2 < nI 0
  · rw [if_pos c, x81_23]
  · rw [if_neg c, x81_18, if_neg (s_nle hx c), x81_23]
theorem sp81_k (h0 : s_ok σ) (h : RepC m 2 σ) (hp : p ≤ 999) (hq : q ≤ 999) (hw : w ≤ 3) : ∃ m', (∀ a, a < 56 ∨ 71 < a → m' a = m a) ∧ ∀ Φ : mj_R → mj_W → Prop, wp Ln xs 81 0 [.ref 1, .int (nI p), .int (nI q), .int (nI w)] [] (u, ml_h m lm) Φ = Φ (.inl (some (.int (s_mt σ p q w)))) (u, ml_h m' lm) := by
  obtain ⟨m1, f1, e1⟩ := sp83 (Ln := Ln) (xs := xs) (u := u) (lm := lm) h0 h hp hq hw
  refine ⟨m1, fun a ha => f1 a (by omega), fun Φ => ?_⟩
  rw [x81_0, sp82_t hp, mk_v, x81_4, if_neg s_10, x81_7, sp82_t hq, mk_v, x81_11, if_neg s_10, x81_14, if_neg (nI_nlt (Nat.zero_le _) (by omega)), x81_18, if_pos (nI_le hw (by decide)), x81_34, e1, mk_v, x81_41]
end MCA
