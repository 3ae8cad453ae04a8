/-! ===== Shape: what is known of values taken in one behind the other ===== -/
def s_lo (f : Nat → Nat) : Nat → Nat
  | 0 => f 0
  | n + 1 => if f n < s_lo f n then f n else s_lo f n
def s_hi (f : Nat → Nat) : Nat → Nat
  | 0 => f 0
  | n + 1 => if s_hi f n < f n then f n else s_hi f n
def s_rn (f : Nat → Nat) : Nat → Nat
  | 0 => 0
  | n + 1 => if n = 0 then 1 else s_rn f n + (if f n = f (n - 1) then 0 else 1)
def s_ts (f : Nat → Nat) : Nat → Nat
  | 0 => 0
  | n + 1 => if n = 0 then 0 else if s_ts f n < s_st (f (n - 1)) (f n) then s_st (f (n - 1)) (f n) else s_ts f n
/-- is x one of the first n -/
def s_in (f : Nat → Nat) (x : Nat) : Nat → Bool
  | 0 => false
  | n + 1 => s_in f x n || f n == x
def s_un (f : Nat → Nat) : Nat → Nat
  | 0 => 0
  | n + 1 => s_un f n + (if s_in f (f n) n = true then 0 else 1)
/-- how many unlike ones of the first n are below x -/
def s_rank (f : Nat → Nat) (x : Nat) : Nat → Nat
  | 0 => 0
  | n + 1 => s_rank f x n + (if s_in f (f n) n = true then 0 else if f n < x then 1 else 0)
/-- how many of the first n are below x -/
def s_rk (g : Nat → Nat) (x : Nat) : Nat → Nat
  | 0 => 0
  | n + 1 => s_rk g x n + (if g n < x then 1 else 0)
theorem s_in_iff {f : Nat → Nat} {x : Nat} : ∀ n, s_in f x n = true ↔ ∃ k, k < n ∧ f k = x
  | 0 => ⟨fun h => absurd h (fun z => Bool.noConfusion z), fun h => absurd h (fun ⟨k, hk, _⟩ => Nat.not_lt_zero k hk)⟩
  | n + 1 => by
    rw [s_in, Bool.or_eq_true, s_in_iff n, beq_iff_eq]
    refine ⟨?_, ?_⟩
    · rintro (⟨k, hk, e⟩ | e)
      · exact ⟨k, by omega, e⟩
      · exact ⟨n, by omega, e⟩
    · rintro ⟨k, hk, e⟩
      by_cases h : k = n
      · exact Or.inr (h ▸ e)
      · exact Or.inl ⟨k, by omega, e⟩
theorem s_un_le (f : Nat → Nat) : ∀ n, s_un f n ≤ n
  | 0 => Nat.le_refl _
  | n + 1 => by
    have := s_un_le f n
    rw [s_un]
    split <;> omega
theorem s_rk_le (g : Nat → Nat) (x : Nat) : ∀ n, s_rk g x n ≤ n
  | 0 => Nat.le_refl _
  | n + 1 => by
    have := s_rk_le g x n
    rw [s_rk]
    split <;> omega
theorem s_rk_congr {g h : Nat → Nat} {x : Nat} : ∀ n, (∀ i, i < n → g i = h i) → s_rk g x n = s_rk h x n
  | 0, _ => rfl
  | n + 1, e => by rw [s_rk, s_rk, s_rk_congr n (fun i hi => e i (by omega)), e n (by omega)]
theorem s_lo_le {f : Nat → Nat} {c : Nat} : ∀ n, f 0 ≤ c → (∀ i, i < n → f i ≤ c) → s_lo f n ≤ c
  | 0, h, _ => h
  | n + 1, h0, h => by
    have := s_lo_le n h0 (fun i hi => h i (by omega))
    have := h n (by omega)
    rw [s_lo]
    split <;> assumption
theorem s_hi_le {f : Nat → Nat} {c : Nat} : ∀ n, f 0 ≤ c → (∀ i, i < n → f i ≤ c) → s_hi f n ≤ c
  | 0, h, _ => h
  | n + 1, h0, h => by
    have := s_hi_le n h0 (fun i hi => h i (by omega))
    have := h n (by omega)
    rw [s_hi]
    split <;> assumption
theorem s_lo_hi (f : Nat → Nat) : ∀ n, s_lo f n ≤ s_hi f n
  | 0 => Nat.le_refl _
  | n + 1 => by
    have := s_lo_hi f n
    rw [s_lo, s_hi]
    split <;> split <;> omega
theorem s_rn_le (f : Nat → Nat) : ∀ n, s_rn f n ≤ n
  | 0 => Nat.le_refl _
  | n + 1 => by
    have := s_rn_le f n
    rw [s_rn]
    split
    · omega
    · split <;> omega
theorem s_st_le {a b c : Nat} (ha : a ≤ c) (hb : b ≤ c) : s_st a b ≤ 2 * c := by
  unfold s_st
  split <;> omega
theorem s_ts_le {f : Nat → Nat} {c : Nat} : ∀ n, (∀ i, i < n → f i ≤ c) → s_ts f n ≤ 2 * c
  | 0, _ => Nat.zero_le _
  | n + 1, h => by
    have h1 := s_ts_le n (fun i hi => h i (by omega))
    rw [s_ts]
    split
    · omega
    · split
      · exact s_st_le (h _ (by omega)) (h _ (by omega))
      · exact h1
/-- the first U of g are the unlike ones of the first n of f, by rising numbers -/
def s_srt (f : Nat → Nat) (n U : Nat) (g : Nat → Nat) : Prop := (∀ i j, i < j → j < U → g i < g j) ∧ (∀ i, i < U → ∃ k, k < n ∧ f k = g i) ∧ (∀ k, k < n → ∃ i, i < U ∧ g i = f k) ∧ (∀ x, s_rk g x U = s_rank f x n)
/-- x put in at r -/
def s_ins (g : Nat → Nat) (r x : Nat) : Nat → Nat := fun i => if i < r then g i else if i = r then x else g (i - 1)
theorem s_rk_low {g : Nat → Nat} {x : Nat} : ∀ U, (∀ i j, i < j → j < U → g i < g j) → ∀ i, i < U → (i < s_rk g x U ↔ g i < x)
  | 0, _, i, hi => absurd hi (Nat.not_lt_zero _)
  | U + 1, hs, i, hi => by
    have ih := s_rk_low (x := x) U (fun i j h1 h2 => hs i j h1 (by omega))
    have hU := s_rk_le g x U
    rw [s_rk]
    by_cases hg : g U < x
    · rw [if_pos hg]
      have hall : s_rk g x U = U := by
        have : ¬ s_rk g x U < U := fun hlt => by
          have h1 := (ih (s_rk g x U) hlt).mpr (Nat.lt_trans (hs _ U hlt (by omega)) hg)
          omega
        omega
      by_cases hiU : i = U
      · subst hiU
        exact ⟨fun _ => hg, fun _ => by omega⟩
      · have h1 := ih i (by omega)
        rw [← h1]
        omega
    · rw [if_neg hg]
      by_cases hiU : i = U
      · subst hiU
        exact ⟨fun h => by omega, fun h => absurd h hg⟩
      · rw [Nat.add_zero]
        exact ih i (by omega)
theorem s_rk_shift {g : Nat → Nat} {r x y : Nat} : ∀ d, s_rk (s_ins g r x) y (r + d + 1) = s_rk g y (r + d) + (if x < y then 1 else 0)
  | 0 => by
    rw [Nat.add_zero, s_rk]
    have e : s_rk (s_ins g r x) y r = s_rk g y r := s_rk_congr r (fun i hi => if_pos hi)
    have e2 : s_ins g r x r = x := by
      unfold s_ins
      rw [if_neg (Nat.lt_irrefl _), if_pos rfl]
    rw [e, e2, Nat.add_zero]
  | d + 1 => by
    have ih := s_rk_shift (g := g) (r := r) (x := x) (y := y) d
    rw [show r + (d + 1) + 1 = (r + d + 1) + 1 by omega, s_rk, ih, show r + (d + 1) = (r + d) + 1 by omega, s_rk]
    have e2 : s_ins g r x (r + d + 1) = g (r + d) := by
      unfold s_ins
      rw [if_neg (by omega), if_neg (by omega)]
      rfl
    rw [e2]
    omega
theorem s_srt_in {f g : Nat → Nat} {n U : Nat} (h : s_srt f n U g) (hx : ∃ i, i < U ∧ g i = f n) : s_in f (f n) n = true ∧ s_srt f (n + 1) U g := by
  obtain ⟨h1, h2, h3, h4⟩ := h
  obtain ⟨i, hi, e⟩ := hx
  obtain ⟨k, hk, ek⟩ := h2 i hi
  have hin : s_in f (f n) n = true := (s_in_iff n).mpr ⟨k, hk, by rw [ek, e]⟩
  refine ⟨hin, h1, fun j hj => ?_, fun j hj => ?_, fun x => ?_⟩
  · obtain ⟨k2, hk2, e2⟩ := h2 j hj
    exact ⟨k2, by omega, e2⟩
  · by_cases hjn : j = n
    · subst hjn
      exact ⟨i, hi, e⟩
    · exact h3 j (by omega)
  · rw [h4 x, s_rank, if_pos hin, Nat.add_zero]
theorem s_srt_new {f g : Nat → Nat} {n U : Nat} (h : s_srt f n U g) (hx : ∀ i, i < U → g i ≠ f n) : s_in f (f n) n = false ∧ s_srt f (n + 1) (U + 1) (s_ins g (s_rk g (f n) U) (f n)) := by
  obtain ⟨h1, h2, h3, h4⟩ := h
  have hin : s_in f (f n) n = false := by
    cases hb : s_in f (f n) n with
    | false => rfl
    | true =>
      obtain ⟨k, hk, e⟩ := (s_in_iff n).mp hb
      obtain ⟨i, hi, e2⟩ := h3 k hk
      exact absurd (e2.trans e) (hx i hi)
  have hr := s_rk_le g (f n) U
  have hlow := s_rk_low (g := g) (x := f n) U h1
  refine ⟨hin, fun i j hij hj => ?_, fun i hi => ?_, fun k hk => ?_, fun x => ?_⟩
  · unfold s_ins
    by_cases c1 : j < s_rk g (f n) U
    · rw [if_pos c1, if_pos (by omega)]
      exact h1 i j hij (by omega)
    · rw [if_neg c1]
      by_cases c2 : j = s_rk g (f n) U
      · rw [if_pos c2, if_pos (by omega)]
        exact (hlow i (by omega)).mp (by omega)
      · rw [if_neg c2]
        by_cases c3 : i < s_rk g (f n) U
        · rw [if_pos c3]
          exact h1 i (j - 1) (by omega) (by omega)
        · rw [if_neg c3]
          by_cases c4 : i = s_rk g (f n) U
          · rw [if_pos c4]
            have q1 : ¬ g (j - 1) < f n := fun z => by
              have := (hlow (j - 1) (by omega)).mpr z
              omega
            have q2 := hx (j - 1) (by omega)
            omega
          · rw [if_neg c4]
            exact h1 (i - 1) (j - 1) (by omega) (by omega)
  · unfold s_ins
    by_cases c1 : i < s_rk g (f n) U
    · rw [if_pos c1]
      obtain ⟨k, hk, e⟩ := h2 i (by omega)
      exact ⟨k, by omega, e⟩
    · rw [if_neg c1]
      by_cases c2 : i = s_rk g (f n) U
      · rw [if_pos c2]
        exact ⟨n, by omega, rfl⟩
      · rw [if_neg c2]
        obtain ⟨k, hk, e⟩ := h2 (i - 1) (by omega)
        exact ⟨k, by omega, e⟩
  · by_cases hkn : k = n
    · subst hkn
      refine ⟨s_rk g (f k) U, by omega, ?_⟩
      unfold s_ins
      rw [if_neg (Nat.lt_irrefl _), if_pos rfl]
    · obtain ⟨i, hi, e⟩ := h3 k (by omega)
      by_cases c1 : i < s_rk g (f n) U
      · refine ⟨i, by omega, ?_⟩
        unfold s_ins
        rw [if_pos c1, e]
      · refine ⟨i + 1, by omega, ?_⟩
        unfold s_ins
        rw [if_neg (by omega), if_neg (by omega)]
        exact e
  · obtain ⟨d, hd⟩ : ∃ d, U = s_rk g (f n) U + d := ⟨U - s_rk g (f n) U, by omega⟩
    have e := s_rk_shift (g := g) (r := s_rk g (f n) U) (x := f n) (y := x) d
    rw [← hd] at e
    rw [e, h4 x, s_rank, hin]
    rfl
