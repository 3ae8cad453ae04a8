/-! ===== p31, pure: sizes, picks, places, bits ===== -/
theorem q_un_rn (f : Nat → Nat) : ∀ n, s_un f n ≤ s_rn f n
  | 0 => Nat.le_refl _
  | n + 1 => by
    have ih := q_un_rn f n
    rw [s_un, s_rn]
    by_cases h : n = 0
    · subst h
      have e : s_un f 0 = 0 := rfl
      rw [if_pos rfl, e]
      split <;> omega
    · rw [if_neg h]
      by_cases c : f n = f (n - 1)
      · have hi : s_in f (f n) n = true := (s_in_iff n).mpr ⟨n - 1, by omega, c.symm⟩
        rw [if_pos hi, if_pos c]
        omega
      · rw [if_neg c]
        split <;> omega
theorem q_rn_pos (f : Nat → Nat) : ∀ n, 0 < s_rn f (n + 1)
  | 0 => Nat.zero_lt_one
  | n + 1 => by
    have := q_rn_pos f n
    rw [s_rn, if_neg (Nat.succ_ne_zero n)]
    omega
theorem q_sz_10 {f : Nat → Nat} {n fo : Nat} (h : 0 < n) : 10 ≤ s_sz f n fo := by
  obtain ⟨k, rfl⟩ : ∃ k, n = k + 1 := ⟨n - 1, by omega⟩
  have h1 := q_rn_pos f k
  have h2 := s_un_pos f k
  unfold s_sz
  split <;> omega
theorem q_li_min {al : Nat} {z : Nat → Nat} : ∀ K k, k ≤ K → (k = 0 ∨ al / 2 ^ k % 2 = 1) → z (s_li al z K) ≤ z k
  | 0, k, h, _ => by
    obtain rfl : k = 0 := by omega
    exact Nat.le_refl _
  | K + 1, k, h, a => by
    rw [s_li]
    by_cases c : k = K + 1
    · subst c
      have ha : al / 2 ^ (K + 1) % 2 = 1 := a.resolve_left (Nat.succ_ne_zero K)
      by_cases d : z (K + 1) < z (s_li al z K)
      · rw [if_pos ⟨ha, d⟩]
        exact Nat.le_refl _
      · rw [if_neg (fun y => d y.2)]
        omega
    · have ih := q_li_min (al := al) (z := z) K k (by omega) a
      split <;> omega
theorem q_li_all {al : Nat} {z : Nat → Nat} (h : al % 2 = 1) : ∀ K, al / 2 ^ (s_li al z K) % 2 = 1
  | 0 => by
    have e : s_li al z 0 = 0 := rfl
    rw [e, Nat.pow_zero, Nat.div_one]
    exact h
  | K + 1 => by
    rw [s_li]
    split
    · next c => exact c.1
    · exact q_li_all h K
theorem q_bo {f : Nat → Nat} {x b : Nat} (h1 : s_sum f b ≤ x) (h2 : x < s_sum f b + f b) : ∀ d k, k ≤ b → b < k + d → s_bo f x d k = b
  | 0, k, a, c => by omega
  | d + 1, k, a, c => by
    rw [s_bo]
    by_cases e : k = b
    · subst e
      exact if_pos h2
    · have h3 := s_sum_mono (f := f) (show k + 1 ≤ b by omega)
      rw [if_neg (by omega)]
      exact q_bo h1 h2 d (k + 1) (by omega) (by omega)
theorem q_bt {f : Nat → Nat} {x n : Nat} (h1 : s_sum f n ≤ x) : ∀ d k, k + d = n → s_bo f x d k = n
  | 0, k, a => by
    rw [s_bo]
    omega
  | d + 1, k, a => by
    have h3 := s_sum_mono (f := f) (show k + 1 ≤ n by omega)
    rw [s_bo, if_neg (by omega)]
    exact q_bt h1 d (k + 1) (by omega)
/-- the block of an index in it; the tail -/
theorem q_bk {σ : s_S} {b i : Nat} (hb : b < σ 0) (hi : i < s_len σ b) : s_bk σ (s_sum (s_len σ) b + i) = b := q_bo (f := s_len σ) (Nat.le_add_right _ _) (by omega) (σ 0) 0 (Nat.zero_le _) (by omega)
theorem q_bk_t {σ : s_S} {k : Nat} (h : s_sum (s_len σ) (σ 0) ≤ k) : s_bk σ k = σ 0 := q_bt (f := s_len σ) h (σ 0) 0 (by omega)
/-! bits are 0 or 1, and as many as the size says -/
def q_01 (B : s_B) : Prop := ∀ j, j < B.1 → B.2 j < 2
theorem q_fd (x : Nat) : ∀ w B, q_01 B → q_01 (s_fd x w B)
  | 0, B, h => h
  | w + 1, B, h => by
    rw [s_fd]
    refine q_fd x w _ (fun j hj => ?_)
    have hj2 : j < B.1 + 1 := hj
    show s_ap B.2 B.1 (x / 2 ^ w % 2) j < 2
    unfold s_ap
    by_cases c : j = B.1
    · rw [if_pos c]
      exact Nat.mod_lt _ (by decide)
    · rw [if_neg c]
      exact h j (by omega)
theorem q_bl (g : Nat → Nat) (w : Nat) : ∀ j B, q_01 B → q_01 (s_bl g w j B)
  | 0, B, h => h
  | j + 1, B, h => by
    rw [s_bl]
    exact q_fd _ _ _ (q_bl g w j B h)
theorem q_e : q_01 s_e := fun j hj => absurd hj (Nat.not_lt_zero j)
theorem q_rb (f : Nat → Nat) (n : Nat) : ∀ j, q_01 (s_rb f n j).1
  | 0 => q_e
  | j + 1 => by
    have ih := q_rb f n j
    rw [s_rb]
    split
    · exact q_fd _ _ _ (q_fd _ _ _ ih)
    · exact ih
theorem q_bits_01 (σ : s_S) (b : Nat) : q_01 (s_bits σ b) := by
  unfold s_bits
  split
  · exact q_bl _ _ _ _ q_e
  · exact q_bl _ _ _ _ (q_fd _ _ _ (q_fd _ _ _ q_e))
  · exact q_rb _ _ _
  · exact q_bl _ _ _ _ (q_fd _ _ _ (q_fd _ _ _ q_e))
  · exact q_bl _ _ _ _ (q_bl _ _ _ _ (q_fd _ _ _ q_e))
theorem q_rb_n (f : Nat → Nat) (n : Nat) : ∀ j, j < n → (s_rb f n j).1.1 + 14 = 14 * s_rn f (j + 1)
  | 0, _ => rfl
  | j + 1, h => by
    have ih := q_rb_n f n j (by omega)
    rw [s_rb, s_rn, if_neg (Nat.succ_ne_zero j), Nat.add_sub_cancel]
    by_cases c : f (j + 1) = f j
    · rw [if_neg (fun z => z.elim (by omega) (fun y => y c)), if_pos c]
      exact ih
    · rw [if_pos (Or.inr c), if_neg c, s_fd_1, s_fd_1]
      omega
theorem q_rb_all (f : Nat → Nat) (n : Nat) (h : 0 < n) : (s_rb f n n).1.1 = 14 * s_rn f n := by
  obtain ⟨k, rfl⟩ : ∃ k, n = k + 1 := ⟨n - 1, by omega⟩
  have e := q_rb_n f (k + 1) k (by omega)
  rw [s_rb, if_pos (Or.inl rfl), s_fd_1, s_fd_1]
  omega
theorem q_bits_n {σ : s_S} {b : Nat} (h : 0 < s_len σ b) : (s_bits σ b).1 = s_ub σ b := by
  have e0 : s_e.1 = 0 := rfl
  have hc : s_frm σ b = 0 ∨ s_frm σ b = 1 ∨ s_frm σ b = 2 ∨ s_frm σ b = 3 ∨ ∃ k, s_frm σ b = k + 4 := by
    by_cases c : s_frm σ b < 4
    · omega
    · exact Or.inr (Or.inr (Or.inr (Or.inr ⟨s_frm σ b - 4, by omega⟩)))
  unfold s_bits s_ub s_sz
  rcases hc with h9 | h9 | h9 | h9 | ⟨k, h9⟩ <;> rw [h9]
  · show (s_bl (s_blf σ b) 10 (s_len σ b) s_e).1 = s_len σ b * 10
    rw [s_bl_1, e0]
    omega
  · show (s_bl _ _ (s_len σ b) (s_fd _ 4 (s_fd _ 10 s_e))).1 = 14 + s_len σ b * s_wd (s_hi (s_blf σ b) (s_len σ b) - s_lo (s_blf σ b) (s_len σ b))
    rw [s_bl_1, s_fd_1, s_fd_1, e0]
  · show (s_rb (s_blf σ b) (s_len σ b) (s_len σ b)).1.1 = s_rn (s_blf σ b) (s_len σ b) * 14
    rw [q_rb_all _ _ h]
    omega
  · show (s_bl _ _ (s_len σ b - 1) (s_fd _ 4 (s_fd _ 10 s_e))).1 = 14 + (s_len σ b - 1) * s_wd (s_ts (s_blf σ b) (s_len σ b))
    rw [s_bl_1, s_fd_1, s_fd_1, e0]
  · show (s_bl _ _ (s_len σ b) (s_bl _ 10 (s_un (s_blf σ b) (s_len σ b)) (s_fd _ 4 s_e))).1 = 4 + s_un (s_blf σ b) (s_len σ b) * 10 + s_len σ b * s_wd (s_un (s_blf σ b) (s_len σ b) - 1)
    rw [s_bl_1, s_bl_1, s_fd_1, e0, Nat.zero_add]
/-! sums -/
theorem q_sum_le {f g : Nat → Nat} : ∀ n, (∀ i, i < n → f i ≤ g i) → s_sum f n ≤ s_sum g n
  | 0, _ => Nat.le_refl _
  | n + 1, h => by
    have ih := q_sum_le n (fun i hi => h i (by omega))
    have h2 := h n (by omega)
    rw [s_sum, s_sum]
    omega
theorem q_sum_add {f : Nat → Nat} {c : Nat} : ∀ n, s_sum (fun i => f i + c) n = s_sum f n + n * c
  | 0 => by rw [Nat.zero_mul]; rfl
  | n + 1 => by
    rw [s_sum, s_sum, q_sum_add n, Nat.succ_mul]
    omega
theorem q_sum_c (c : Nat) : ∀ n, s_sum (fun _ => c) n = n * c
  | 0 => by rw [Nat.zero_mul]; rfl
  | n + 1 => by rw [s_sum, q_sum_c c n, Nat.succ_mul]
/-! the looks of matching -/
theorem q_ls_1 (σ : s_S) (p q b : Nat) : 1 ≤ s_ls σ p q b := by
  unfold s_ls
  split <;> omega
theorem q_ls_n {σ : s_S} {p q b : Nat} (h : s_len σ b ≤ 16) : s_ls σ p q b ≤ s_len σ b + 17 := by
  have h1 := s_rn_le (s_blf σ b) (s_len σ b)
  have h2 := s_un_le (s_blf σ b) (s_len σ b)
  unfold s_ls
  split
  · omega
  · split
    · omega
    · split <;> omega
theorem q_ls_lo (σ : s_S) (p q : Nat) : σ 0 ≤ s_sum (s_ls σ p q) (σ 0) := by
  have h := q_sum_le (f := fun _ => 1) (g := s_ls σ p q) (σ 0) (fun i _ => q_ls_1 σ p q i)
  rw [q_sum_c, Nat.mul_one] at h
  exact h
theorem q_ls_hi {σ : s_S} (h0 : s_ok σ) (p q : Nat) : s_sum (s_ls σ p q) (σ 0) + σ 1 ≤ s_tot σ + 17 * σ 0 := by
  have h := q_sum_le (f := s_ls σ p q) (g := fun i => s_len σ i + 17) (σ 0) (fun i hi => q_ls_n (h0.2.2.1 i hi).2.1)
  rw [q_sum_add] at h
  unfold s_tot
  omega
theorem q_lohi {σ : s_S} (h0 : s_ok σ) {b : Nat} (hb : b < σ 0) : s_hi (s_blf σ b) (s_len σ b) ≤ 999 := by
  have hv := s_blf_le (s_oke_of (fun _ => False) h0) hb
  exact s_hi_le _ (hv 0 (h0.2.2.1 b hb).1) hv
theorem q_ls_all {σ : s_S} (h0 : s_ok σ) : s_sum (s_ls σ 0 999) (σ 0) = σ 0 := by
  have e : s_sum (s_ls σ 0 999) (σ 0) = s_sum (fun _ => 1) (σ 0) := s_sum_congr _ (fun b hb => by
    have h1 := q_lohi h0 hb
    show s_ls σ 0 999 b = 1
    unfold s_ls
    exact if_pos (Or.inr (Or.inr (Or.inr ⟨Nat.zero_le _, h1⟩))))
  rw [e, q_sum_c, Nat.mul_one]
theorem q_mc_all {σ : s_S} (h0 : s_ok σ) : s_sum (s_mc 0 999 (s_val σ)) (s_tot σ) = s_tot σ := s_mc_1 _ (fun i hi => ⟨Nat.zero_le _, h0.2.2.2.1 i hi⟩)
/-! the least of all partings -/
theorem q_ach_16 {w : Nat → Nat → Nat} : ∀ n i j k, s_ach w n i j k → j ≤ i + 16 * n
  | 0, i, j, k, h => by
    have := h.1
    omega
  | n + 1, i, j, k, ⟨l, k', h1, h2, h3, h4, h5⟩ => by
    have := q_ach_16 n (i + l) j k' h5
    omega
theorem q_ach_17 {w : Nat → Nat → Nat} {T : Nat} (hw : ∀ i l, 1 ≤ l → l ≤ 16 → i + l ≤ T → ∃ q, w i l = 1000 * q + 1 ∧ 17 ≤ q) : ∀ n i j k, j ≤ T → s_ach w n i j k → i + n ≤ j ∧ (n = 0 → i = j) ∧ ∃ q, k = 1000 * q + n ∧ 17 * n ≤ q
  | 0, i, j, k, _, ⟨h1, h2⟩ => ⟨by omega, fun _ => h1, 0, by omega, by omega⟩
  | n + 1, i, j, k, hj, ⟨l, k', h1, h2, h3, h4, h5⟩ => by
    obtain ⟨a1, a2, q, a3, a4⟩ := q_ach_17 hw n (i + l) j k' hj h5
    obtain ⟨q2, b1, b2⟩ := hw i l h1 h2 (by omega)
    exact ⟨by omega, fun z => absurd z (Nat.succ_ne_zero n), q + q2, by omega, by omega⟩
theorem q_sing {w : Nat → Nat → Nat} {T : Nat} (hw : ∀ i, i < T → w i 1 ≤ 17001) : ∀ d i, i + d = T → ∃ k, s_ach w d i T k ∧ k ≤ 17001 * d
  | 0, i, h => ⟨0, ⟨by omega, rfl⟩, Nat.zero_le _⟩
  | d + 1, i, h => by
    obtain ⟨k, a, b⟩ := q_sing hw d (i + 1) (by omega)
    have h1 := hw i (by omega)
    exact ⟨w i 1 + k, ⟨1, k, Nat.le_refl _, by decide, by omega, rfl, a⟩, by omega⟩
theorem q_w17 (σ : s_S) : ∀ i l, 1 ≤ l → l ≤ 16 → i + l ≤ s_tot σ → ∃ q, s_w σ i l = 1000 * q + 1 ∧ 17 ≤ q := fun i l h1 h2 h3 => by
  have h := q_sz_10 (f := s_fv σ i) (n := l) (fo := s_li (σ 4) (s_sz (s_fv σ i) l) 4) h1
  exact ⟨s_cb σ i l, rfl, by unfold s_cb; omega⟩
theorem q_w1 (σ : s_S) (i : Nat) : s_w σ i 1 ≤ 17001 := by
  have h := q_li_min (al := σ 4) (z := s_sz (s_fv σ i) 1) 4 0 (by decide) (Or.inl rfl)
  have e : s_sz (s_fv σ i) 1 0 = 10 := rfl
  unfold s_w s_cb
  omega
theorem q_K {σ : s_S} (h0 : s_ok σ) : s_tot σ ≤ 16 * (s_K σ % 1000) ∧ (s_K σ % 1000 = 0 ↔ s_tot σ = 0) ∧ 17 * (s_K σ % 1000) ≤ s_K σ / 1000 ∧ s_K σ / 1000 ≤ 17 * s_tot σ ∧ s_K σ % 1000 < 1000 := by
  have hT := s_tot_le h0
  obtain ⟨⟨n, hn⟩, hm⟩ := s_K_mm h0
  obtain ⟨a1, a2, q, a3, a4⟩ := q_ach_17 (q_w17 σ) n 0 (s_tot σ) _ (Nat.le_refl _) hn
  have a5 := q_ach_16 n 0 (s_tot σ) _ hn
  obtain ⟨k, b1, b2⟩ := q_sing (w := s_w σ) (T := s_tot σ) (fun i _ => q_w1 σ i) (s_tot σ) 0 (by omega)
  have b3 := hm _ _ b1
  have e1 : s_K σ / 1000 = q := by omega
  have e2 : s_K σ % 1000 = n := by omega
  rw [e1, e2]
  refine ⟨by omega, by omega, by omega, by omega, by omega⟩
