/-! ===== parting: the least of all partings ===== -/
/-- a parting of i to j into n blocks takes k -/
def s_ach (w : Nat → Nat → Nat) : Nat → Nat → Nat → Nat → Prop
  | 0, i, j, k => i = j ∧ k = 0
  | n + 1, i, j, k => ∃ l k', 1 ≤ l ∧ l ≤ 16 ∧ i + l ≤ j ∧ k = w i l + k' ∧ s_ach w n (i + l) j k'
theorem s_ach_sn {w : Nat → Nat → Nat} : ∀ n i j k, s_ach w n i j k → ∀ l, 1 ≤ l → l ≤ 16 → s_ach w (n + 1) i (j + l) (k + w j l)
  | 0, i, j, k, ⟨h1, h2⟩, l, a, b => by
    subst h1
    subst h2
    exact ⟨l, 0, a, b, Nat.le_refl _, by omega, rfl, rfl⟩
  | n + 1, i, j, k, ⟨l', k', h1, h2, h3, h4, h5⟩, l, a, b => ⟨l', k' + w j l, h1, h2, by omega, by omega, s_ach_sn n (i + l') j k' h5 l a b⟩
theorem s_ach_ls {w : Nat → Nat → Nat} : ∀ n i j k, s_ach w (n + 1) i j k → ∃ m l k', 1 ≤ l ∧ l ≤ 16 ∧ m + l = j ∧ i ≤ m ∧ k = k' + w m l ∧ s_ach w n i m k'
  | 0, i, j, k, ⟨l, k', h1, h2, h3, h4, h5, h6⟩ => ⟨i, l, 0, h1, h2, h5, Nat.le_refl _, by omega, rfl, rfl⟩
  | n + 1, i, j, k, ⟨l', k', h1, h2, h3, h4, h5⟩ => by
    obtain ⟨m, l, k2, a1, a2, a3, a4, a5, a6⟩ := s_ach_ls n (i + l') j k' h5
    exact ⟨m, l, w i l' + k2, a1, a2, a3, by omega, by omega, ⟨l', k2, h1, h2, by omega, rfl, a6⟩⟩
/-- what a block weighs: its bits, times 1000, and 1 -/
def s_wok (w : Nat → Nat → Nat) (T : Nat) : Prop := ∀ i l, 1 ≤ l → l ≤ 16 → i + l ≤ T → ∃ q, w i l = 1000 * q + 1 ∧ 7 ≤ q ∧ q ≤ 1007
theorem s_ach_q {w : Nat → Nat → Nat} {T : Nat} (hw : s_wok w T) : ∀ n i j k, j ≤ T → s_ach w n i j k → i + n ≤ j ∧ (n = 0 → i = j) ∧ ∃ q, k = 1000 * q + n ∧ 7 * n ≤ q ∧ q ≤ 1007 * n
  | 0, i, j, k, _, ⟨h1, h2⟩ => ⟨by omega, fun _ => h1, 0, by omega, by omega, by omega⟩
  | n + 1, i, j, k, hj, ⟨l, k', h1, h2, h3, h4, h5⟩ => by
    obtain ⟨a1, a2, q, a3, a4, a5⟩ := s_ach_q hw n (i + l) j k' hj h5
    obtain ⟨q2, b1, b2, b3⟩ := hw i l h1 h2 (by omega)
    exact ⟨by omega, fun z => absurd z (Nat.succ_ne_zero n), q + q2, by omega, by omega, by omega⟩
def s_mm (w : Nat → Nat → Nat) (i j K : Nat) : Prop := (∃ n, s_ach w n i j K) ∧ ∀ n k, s_ach w n i j k → K ≤ k
theorem s_mm_u {w : Nat → Nat → Nat} {i j K K' : Nat} (h : s_mm w i j K) (h' : s_mm w i j K') : K = K' := by
  obtain ⟨⟨n, a⟩, b⟩ := h
  obtain ⟨⟨n', a'⟩, b'⟩ := h'
  exact Nat.le_antisymm (b n' K' a') (b' n K a)
theorem s_mm_0 (w : Nat → Nat → Nat) (i : Nat) : s_mm w i i 0 := ⟨⟨0, rfl, rfl⟩, fun _ _ _ => Nat.zero_le _⟩
theorem s_mm_b {w : Nat → Nat → Nat} {T i j K : Nat} (hw : s_wok w T) (hj : j ≤ T) (h : s_mm w i j K) : ∃ n q, K = 1000 * q + n ∧ i + n ≤ j ∧ q ≤ 1007 * n ∧ 7 * n ≤ q ∧ (n = 0 → i = j) := by
  obtain ⟨⟨n, a⟩, _⟩ := h
  obtain ⟨b1, b2, q, b3, b4, b5⟩ := s_ach_q hw n i j K hj a
  exact ⟨n, q, b3, b1, b5, b4, b2⟩
/-- the least, by the last block -/
theorem s_mm_l {w A : Nat → Nat → Nat} {B : Nat → Nat} {t K : Nat} (ht : 0 < t) (hB : ∀ l, 1 ≤ l → l ≤ 16 → l ≤ t → s_mm w 0 (t - l) (B (t - l))) (h1 : ∃ l, 1 ≤ l ∧ l ≤ 16 ∧ l ≤ t ∧ K = B (t - l) + w (t - l) l) (h2 : ∀ l, 1 ≤ l → l ≤ 16 → l ≤ t → K ≤ B (t - l) + w (t - l) l) : s_mm w 0 t K := by
  obtain ⟨l, a1, a2, a3, a4⟩ := h1
  obtain ⟨⟨n, b1⟩, _⟩ := hB l a1 a2 a3
  refine ⟨⟨n + 1, ?_⟩, fun n2 k hk => ?_⟩
  · have e := s_ach_sn n 0 (t - l) _ b1 l a1 a2
    rwa [show t - l + l = t by omega, ← a4] at e
  · cases n2 with
    | zero => exact absurd hk.1 (by omega)
    | succ n2 =>
      obtain ⟨m, l2, k', c1, c2, c3, c4, c5, c6⟩ := s_ach_ls n2 0 t k hk
      have e := h2 l2 c1 c2 (by omega)
      have e2 := (hB l2 c1 c2 (by omega)).2 n2 k' (by rw [show t - l2 = m by omega]; exact c6)
      rw [show t - l2 = m by omega] at e e2
      omega
/-- the least, by the first block -/
theorem s_mm_f {w : Nat → Nat → Nat} {B : Nat → Nat} {i T K : Nat} (hi : i < T) (hB : ∀ l, 1 ≤ l → l ≤ 16 → i + l ≤ T → s_mm w (i + l) T (B (i + l))) (h1 : ∃ l, 1 ≤ l ∧ l ≤ 16 ∧ i + l ≤ T ∧ K = B (i + l) + w i l) (h2 : ∀ l, 1 ≤ l → l ≤ 16 → i + l ≤ T → K ≤ B (i + l) + w i l) : s_mm w i T K := by
  obtain ⟨l, a1, a2, a3, a4⟩ := h1
  obtain ⟨⟨n, b1⟩, _⟩ := hB l a1 a2 a3
  refine ⟨⟨n + 1, l, _, a1, a2, a3, by omega, b1⟩, fun n2 k hk => ?_⟩
  cases n2 with
  | zero => exact absurd hk.1 (by omega)
  | succ n2 =>
    obtain ⟨l2, k', c1, c2, c3, c4, c5⟩ := hk
    have e := h2 l2 c1 c2 c3
    have e2 := (hB l2 c1 c2 c3).2 n2 k' c5
    omega
/-! the running least -/
def s_mi (x0 : Nat) (x : Nat → Nat) : Nat → Nat
  | 0 => x0
  | l + 1 => if x l < s_mi x0 x l then x l else s_mi x0 x l
theorem s_mi_le {x0 : Nat} {x : Nat → Nat} : ∀ n, s_mi x0 x n ≤ x0 ∧ ∀ j, j < n → s_mi x0 x n ≤ x j
  | 0 => ⟨Nat.le_refl _, fun j h => absurd h (Nat.not_lt_zero j)⟩
  | n + 1 => by
    obtain ⟨a, b⟩ := s_mi_le (x0 := x0) (x := x) n
    rw [s_mi]
    refine ⟨?_, fun j hj => ?_⟩
    · split <;> omega
    · by_cases c : j = n
      · subst c
        split <;> omega
      · have := b j (by omega)
        split <;> omega
theorem s_mi_at {x0 : Nat} {x : Nat → Nat} : ∀ n, s_mi x0 x n = x0 ∨ ∃ j, j < n ∧ s_mi x0 x n = x j
  | 0 => Or.inl rfl
  | n + 1 => by
    have ih := s_mi_at (x0 := x0) (x := x) n
    rw [s_mi]
    by_cases c : x n < s_mi x0 x n
    · rw [if_pos c]
      exact Or.inr ⟨n, by omega, rfl⟩
    · rw [if_neg c]
      rcases ih with h | ⟨j, h1, h2⟩
      · exact Or.inl h
      · exact Or.inr ⟨j, by omega, h2⟩
/-! from the first on, by offers -/
def s_of (A : Nat → Nat) (t x : Nat) : Nat → Nat := s_ap A t (if x < A t then x else A t)
theorem s_of_s (A : Nat → Nat) (t x : Nat) : s_of A t x t = if x < A t then x else A t := if_pos rfl
theorem s_of_n {A : Nat → Nat} {t x k : Nat} (h : k ≠ t) : s_of A t x k = A k := if_neg h
def s_pi (w : Nat → Nat → Nat) (A : Nat → Nat) (i : Nat) : Nat → Nat → Nat
  | 0 => A
  | l + 1 => s_of (s_pi w A i l) (i + (l + 1)) (s_pi w A i l i + w i (l + 1))
def s_mn (a : Nat) : Nat := if a < 16 then a else 16
theorem s_mn_le (a : Nat) : s_mn a ≤ 16 ∧ s_mn a ≤ a := by
  unfold s_mn
  split <;> omega
def s_fw (w : Nat → Nat → Nat) (T : Nat) : Nat → Nat → Nat
  | 0 => fun t => if t = 0 then 0 else 1000000000
  | i + 1 => s_pi w (s_fw w T i) i (s_mn (T - i))
theorem s_pi_lo {w : Nat → Nat → Nat} {A : Nat → Nat} {i : Nat} : ∀ n t, t ≤ i → s_pi w A i n t = A t
  | 0, _, _ => rfl
  | n + 1, t, h => by rw [s_pi, s_of_n (by omega), s_pi_lo n t h]
theorem s_pi_hi {w : Nat → Nat → Nat} {A : Nat → Nat} {i : Nat} : ∀ n l, n ≤ l → s_pi w A i n (i + (l + 1)) = A (i + (l + 1))
  | 0, _, _ => rfl
  | n + 1, l, h => by rw [s_pi, s_of_n (by omega), s_pi_hi n l (by omega)]
theorem s_pi_at {w : Nat → Nat → Nat} {A : Nat → Nat} {i : Nat} : ∀ n l, l < n → s_pi w A i n (i + (l + 1)) = if A i + w i (l + 1) < A (i + (l + 1)) then A i + w i (l + 1) else A (i + (l + 1))
  | 0, l, h => absurd h (Nat.not_lt_zero l)
  | n + 1, l, h => by
    rw [s_pi]
    by_cases c : l = n
    · subst c
      rw [s_of_s, s_pi_lo l i (Nat.le_refl _), s_pi_hi l l (Nat.le_refl _)]
    · rw [s_of_n (by omega), s_pi_at n l (by omega)]
/-- the invariant of the offers -/
theorem s_fw_v {w : Nat → Nat → Nat} {T : Nat} (hw : s_wok w T) (hT : T ≤ 207) : ∀ i, i ≤ T → (∀ t, t ≤ i → s_mm w 0 t (s_fw w T i t)) ∧ ∀ t, i < t → t ≤ T → (s_fw w T i t = 1000000000 ∨ ∃ l, 1 ≤ l ∧ l ≤ 16 ∧ l ≤ t ∧ t - l < i ∧ s_fw w T i t = s_fw w T i (t - l) + w (t - l) l) ∧ ∀ l, 1 ≤ l → l ≤ 16 → l ≤ t → t - l < i → s_fw w T i t ≤ s_fw w T i (t - l) + w (t - l) l
  | 0, _ => by
    refine ⟨fun t ht => ?_, fun t h1 _ => ⟨Or.inl ?_, fun l _ _ _ h => absurd h (Nat.not_lt_zero _)⟩⟩
    · obtain rfl : t = 0 := by omega
      exact s_mm_0 w 0
    · show (if t = 0 then 0 else 1000000000) = 1000000000
      rw [if_neg (by omega)]
  | i + 1, hi => by
    obtain ⟨h1, h2⟩ := s_fw_v hw hT i (by omega)
    have hmn : ∀ l, 1 ≤ l → l ≤ 16 → i + l ≤ T → l - 1 < s_mn (T - i) := fun l a b c => by
      unfold s_mn
      split <;> omega
    have hmi := h1 i (Nat.le_refl _)
    have elo : ∀ t, t ≤ i → s_fw w T (i + 1) t = s_fw w T i t := fun t ht => s_pi_lo _ t ht
    have eat : ∀ l, 1 ≤ l → l ≤ 16 → i + l ≤ T → s_fw w T (i + 1) (i + l) = if s_fw w T i i + w i l < s_fw w T i (i + l) then s_fw w T i i + w i l else s_fw w T i (i + l) := fun l a b c => by
      have e := s_pi_at (w := w) (A := s_fw w T i) (i := i) (s_mn (T - i)) (l - 1) (hmn l a b c)
      rw [show l - 1 + 1 = l by omega] at e
      exact e
    have efar : ∀ t, i + 16 < t → s_fw w T (i + 1) t = s_fw w T i t := fun t ht => by
      have e := s_pi_hi (w := w) (A := s_fw w T i) (i := i) (s_mn (T - i)) (t - i - 1) (by have := (s_mn_le (T - i)).1; omega)
      rw [show i + (t - i - 1 + 1) = t by omega] at e
      exact e
    have key : ∀ t, i < t → t ≤ T → (s_fw w T (i + 1) t = 1000000000 ∨ ∃ l, 1 ≤ l ∧ l ≤ 16 ∧ l ≤ t ∧ t - l < i + 1 ∧ s_fw w T (i + 1) t = s_fw w T (i + 1) (t - l) + w (t - l) l) ∧ ∀ l, 1 ≤ l → l ≤ 16 → l ≤ t → t - l < i + 1 → s_fw w T (i + 1) t ≤ s_fw w T (i + 1) (t - l) + w (t - l) l := fun t ht htT => by
      obtain ⟨g1, g2⟩ := h2 t ht htT
      by_cases hfar : i + 16 < t
      · rw [efar t hfar]
        refine ⟨?_, fun l a b c d => ?_⟩
        · rcases g1 with g | ⟨l, a, b, c, d, e⟩
          · exact Or.inl g
          · exact Or.inr ⟨l, a, b, c, by omega, by rw [elo _ (by omega)]; exact e⟩
        · have hlt : t - l < i := by omega
          rw [elo _ (by omega)]
          exact g2 l a b c hlt
      · have e0 := eat (t - i) (by omega) (by omega) (by omega)
        rw [show i + (t - i) = t by omega] at e0
        rw [e0]
        refine ⟨?_, fun l a b c d => ?_⟩
        · by_cases cc : s_fw w T i i + w i (t - i) < s_fw w T i t
          · rw [if_pos cc]
            refine Or.inr ⟨t - i, by omega, by omega, by omega, by omega, ?_⟩
            rw [show t - (t - i) = i by omega, elo i (Nat.le_refl _)]
          · rw [if_neg cc]
            rcases g1 with g | ⟨l, a, b, c, d, e⟩
            · exact Or.inl g
            · exact Or.inr ⟨l, a, b, c, by omega, by rw [elo _ (by omega)]; exact e⟩
        · rw [elo _ (by omega)]
          by_cases hl : t - l = i
          · rw [hl, show l = t - i by omega]
            split <;> omega
          · have := g2 l a b c (by omega)
            split <;> omega
    refine ⟨fun t ht => ?_, fun t h3 h4 => key t (by omega) h4⟩
    by_cases hti : t ≤ i
    · rw [elo t hti]
      exact h1 t hti
    · obtain rfl : t = i + 1 := by omega
      obtain ⟨k1, k2⟩ := key (i + 1) (Nat.lt_succ_self i) hi
      refine s_mm_l (A := w) (B := s_fw w T (i + 1)) (Nat.succ_pos i) (fun l a b c => by rw [elo _ (by omega)]; exact h1 _ (by omega)) ?_ (fun l a b c => k2 l a b c (by omega))
      rcases k1 with k | ⟨l, a, b, c, d, e⟩
      · have k3 := k2 1 (Nat.le_refl _) (by decide) (by omega) (by omega)
        obtain ⟨n, q, b1, b2, b3, b4, b5⟩ := s_mm_b hw (show i ≤ T by omega) hmi
        obtain ⟨q2, c1, c2, c3⟩ := hw i 1 (Nat.le_refl _) (by decide) (by omega)
        rw [show i + 1 - 1 = i by omega, elo i (Nat.le_refl _)] at k3
        omega
      · exact ⟨l, a, b, c, e⟩
/-! from the last on -/
def s_qr (w : Nat → Nat → Nat) (T : Nat) : Nat → Nat → Nat
  | 0 => fun t => if t = T then 0 else 1000000000
  | d + 1 => s_ap (s_qr w T d) (T - (d + 1)) (s_mi 1000000000 (fun l => s_qr w T d (T - (d + 1) + (l + 1)) + w (T - (d + 1)) (l + 1)) (s_mn (d + 1)))
theorem s_qr_v {w : Nat → Nat → Nat} {T : Nat} (hw : s_wok w T) (hT : T ≤ 207) : ∀ d, d ≤ T → (∀ t, T - d ≤ t → t ≤ T → s_mm w t T (s_qr w T d t)) ∧ ∀ t, t < T - d → s_qr w T d t = 1000000000
  | 0, _ => by
    refine ⟨fun t h1 h2 => ?_, fun t h => ?_⟩
    · obtain rfl : t = T := by omega
      have e : s_qr w t 0 t = 0 := if_pos rfl
      rw [e]
      exact s_mm_0 w t
    · exact if_neg (by omega)
  | d + 1, hd => by
    obtain ⟨h1, h2⟩ := s_qr_v hw hT d (by omega)
    refine ⟨fun t a b => ?_, fun t ht => ?_⟩
    · by_cases c : t = T - (d + 1)
      · subst c
        have e : s_qr w T (d + 1) (T - (d + 1)) = s_mi 1000000000 (fun l => s_qr w T d (T - (d + 1) + (l + 1)) + w (T - (d + 1)) (l + 1)) (s_mn (d + 1)) := if_pos rfl
        rw [e]
        have hmn := s_mn_le (d + 1)
        have hmn2 : ∀ l, 1 ≤ l → l ≤ 16 → T - (d + 1) + l ≤ T → l - 1 < s_mn (d + 1) := fun l a b c => by
          unfold s_mn
          split <;> omega
        have hle := s_mi_le (x0 := 1000000000) (x := fun l => s_qr w T d (T - (d + 1) + (l + 1)) + w (T - (d + 1)) (l + 1)) (s_mn (d + 1))
        refine s_mm_f (B := s_qr w T d) (by omega) (fun l a b c => h1 _ (by omega) (by omega)) ?_ (fun l a b c => ?_)
        · rcases s_mi_at (x0 := 1000000000) (x := fun l => s_qr w T d (T - (d + 1) + (l + 1)) + w (T - (d + 1)) (l + 1)) (s_mn (d + 1)) with k | ⟨j, k1, k2⟩
          · have k3 := hle.2 0 (by have := hmn2 1 (Nat.le_refl _) (by decide) (by omega); omega)
            rw [k] at k3
            obtain ⟨n, q, b1, b2, b3, b4, b5⟩ := s_mm_b hw (Nat.le_refl T) (h1 (T - (d + 1) + 1) (by omega) (by omega))
            obtain ⟨q2, c1, c2, c3⟩ := hw (T - (d + 1)) 1 (Nat.le_refl _) (by decide) (by omega)
            have k4 : 1000000000 ≤ s_qr w T d (T - (d + 1) + 1) + w (T - (d + 1)) 1 := k3
            omega
          · exact ⟨j + 1, by omega, by omega, by omega, k2⟩
        · have := hle.2 (l - 1) (hmn2 l a b c)
          have e2 : s_mi 1000000000 (fun l => s_qr w T d (T - (d + 1) + (l + 1)) + w (T - (d + 1)) (l + 1)) (s_mn (d + 1)) ≤ s_qr w T d (T - (d + 1) + (l - 1 + 1)) + w (T - (d + 1)) (l - 1 + 1) := this
          rw [show l - 1 + 1 = l by omega] at e2
          exact e2
      · have e : s_qr w T (d + 1) t = s_qr w T d t := if_neg c
        rw [e]
        exact h1 t (by omega) b
    · have e : s_qr w T (d + 1) t = s_qr w T d t := if_neg (by omega)
      rw [e]
      exact h2 t (by omega)
/-! the weight of a block in a state -/
def s_cb (σ : s_S) (i l : Nat) : Nat := 7 + s_sz (s_fv σ i) l (s_li (σ 4) (s_sz (s_fv σ i) l) 4)
def s_w (σ : s_S) (i l : Nat) : Nat := 1000 * s_cb σ i l + 1
theorem s_w_ok {σ : s_S} (h0 : s_ok σ) : s_wok (s_w σ) (s_tot σ) := fun i l h1 h2 h3 => by
  have := s_sz_le (f := s_fv σ i) (fo := s_li (σ 4) (s_sz (s_fv σ i) l) 4) h2 (by omega) (fun j hj => h0.2.2.2.1 _ (by omega))
  refine ⟨s_cb σ i l, rfl, ?_, ?_⟩
  · unfold s_cb
    omega
  · unfold s_cb
    omega
/-- the least weight of the whole column -/
def s_K (σ : s_S) : Nat := s_fw (s_w σ) (s_tot σ) (s_tot σ) (s_tot σ)
theorem s_K_mm {σ : s_S} (h0 : s_ok σ) : s_mm (s_w σ) 0 (s_tot σ) (s_K σ) := (s_fw_v (s_w_ok h0) (s_tot_le h0) (s_tot σ) (Nat.le_refl _)).1 _ (Nat.le_refl _)
/-- what least tells -/
def s_lt (σ : s_S) (v : Nat) : Nat := if v = 2 then s_K σ % 1000 else s_K σ / 1000
