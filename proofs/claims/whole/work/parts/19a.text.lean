/-! ===== texts: states ===== -/
def s_bv (x : Nat) : Nat := if x = 42 then 4 else if x = 44 then 0 else 7
def s_bh (s x : Nat) : Nat := match s with
  | 0 => if x = 48 then 3 else if 48 ≤ x ∧ x ≤ 57 then 1 else 7
  | 1 => if 48 ≤ x ∧ x ≤ 57 then 2 else s_bv x
  | 2 => if 48 ≤ x ∧ x ≤ 57 then 3 else s_bv x
  | 3 => s_bv x
  | 4 => if x = 49 then 5 else if 50 ≤ x ∧ x ≤ 57 then 6 else 7
  | 5 => if 48 ≤ x ∧ x ≤ 54 then 6 else 7
  | 6 => if x = 44 then 0 else 7
  | _ => 7
def s_dfa (c : Nat → Nat) : Nat → Nat
  | 0 => 0
  | k + 1 => s_bh (s_dfa c k) (c k)
def s_num (c : Nat → Nat) : Nat → Nat
  | 0 => 0
  | k + 1 => if 48 ≤ c k ∧ c k ≤ 57 then 10 * s_num c k + c k - 48 else 0
def s_vv (c : Nat → Nat) : Nat → Nat
  | 0 => 0
  | k + 1 => if 48 ≤ c k ∧ c k ≤ 57 then s_vv c k else if c k = 42 then s_num c k + 1 else 0
/-- the part that ends ahead of k: its value, and how often -/
def s_pv (c : Nat → Nat) (k : Nat) : Nat := if s_vv c k = 0 then s_num c k else s_vv c k - 1
def s_pn (c : Nat → Nat) (k : Nat) : Nat := if s_vv c k = 0 then 1 else s_num c k
def s_ti (s n v : Nat) : Prop := (s = 0 ∧ n = 0 ∧ v = 0) ∨ (s = 1 ∧ 1 ≤ n ∧ n ≤ 9 ∧ v = 0) ∨ (s = 2 ∧ 10 ≤ n ∧ n ≤ 99 ∧ v = 0) ∨ (s = 3 ∧ (n = 0 ∨ (100 ≤ n ∧ n ≤ 999)) ∧ v = 0) ∨ (s = 4 ∧ n = 0 ∧ 1 ≤ v ∧ v ≤ 1000) ∨ (s = 5 ∧ n = 1 ∧ 1 ≤ v ∧ v ≤ 1000) ∨ (s = 6 ∧ 2 ≤ n ∧ n ≤ 16 ∧ 1 ≤ v ∧ v ≤ 1000) ∨ s = 7
theorem s_bv_i (x : Nat) : (x = 42 ∧ s_bv x = 4) ∨ (x = 44 ∧ s_bv x = 0) ∨ (x ≠ 42 ∧ x ≠ 44 ∧ s_bv x = 7) := by
  unfold s_bv
  by_cases h : x = 42
  · rw [if_pos h]
    exact Or.inl ⟨h, rfl⟩
  · rw [if_neg h]
    by_cases h2 : x = 44
    · rw [if_pos h2]
      exact Or.inr (Or.inl ⟨h2, rfl⟩)
    · rw [if_neg h2]
      exact Or.inr (Or.inr ⟨h, h2, rfl⟩)
theorem s_ti_v {s x N : Nat} (e : s_bh s x = s_bv x) (hN : N ≤ 999) : s_ti (s_bh s x) 0 (if x = 42 then N + 1 else 0) := by
  rw [e]
  rcases s_bv_i x with ⟨h, e2⟩ | ⟨h, e2⟩ | ⟨h, h2, e2⟩
  · rw [e2, if_pos h]
    exact Or.inr (Or.inr (Or.inr (Or.inr (Or.inl ⟨rfl, rfl, by omega, by omega⟩))))
  · rw [e2, if_neg (by omega)]
    exact Or.inl ⟨rfl, rfl, rfl⟩
  · exact Or.inr (Or.inr (Or.inr (Or.inr (Or.inr (Or.inr (Or.inr e2))))))
theorem s_ti_7 {s n v : Nat} (h : s = 7) : s_ti s n v := Or.inr (Or.inr (Or.inr (Or.inr (Or.inr (Or.inr (Or.inr h))))))
theorem s_ti_s {s n v x : Nat} (h : s_ti s n v) : s_ti (s_bh s x) (if 48 ≤ x ∧ x ≤ 57 then 10 * n + x - 48 else 0) (if 48 ≤ x ∧ x ≤ 57 then v else if x = 42 then n + 1 else 0) := by
  by_cases hd : 48 ≤ x ∧ x ≤ 57
  · rw [if_pos hd, if_pos hd]
    have hv7 : s_bv x = 7 := by
      have := s_bv_i x
      omega
    rcases h with ⟨rfl, h1, h2⟩ | ⟨rfl, h1, h2, h3⟩ | ⟨rfl, h1, h2, h3⟩ | ⟨rfl, h1, h2⟩ | ⟨rfl, h1, h2, h3⟩ | ⟨rfl, h1, h2, h3⟩ | ⟨rfl, h1, h2, h3, h4⟩ | rfl
    · by_cases h8 : x = 48
      · exact Or.inr (Or.inr (Or.inr (Or.inl ⟨(if_pos h8 : s_bh 0 x = 3), Or.inl (by omega), h2⟩)))
      · exact Or.inr (Or.inl ⟨((if_neg h8).trans (if_pos hd) : s_bh 0 x = 1), by omega, by omega, h2⟩)
    · exact Or.inr (Or.inr (Or.inl ⟨(if_pos hd : s_bh 1 x = 2), by omega, by omega, h3⟩))
    · exact Or.inr (Or.inr (Or.inr (Or.inl ⟨(if_pos hd : s_bh 2 x = 3), Or.inr ⟨by omega, by omega⟩, h3⟩)))
    · exact s_ti_7 hv7
    · by_cases h9 : x = 49
      · exact Or.inr (Or.inr (Or.inr (Or.inr (Or.inr (Or.inl ⟨(if_pos h9 : s_bh 4 x = 5), by omega, h2, h3⟩)))))
      · by_cases h10 : 50 ≤ x
        · exact Or.inr (Or.inr (Or.inr (Or.inr (Or.inr (Or.inr (Or.inl ⟨((if_neg h9).trans (if_pos ⟨h10, hd.2⟩) : s_bh 4 x = 6), by omega, by omega, h2, h3⟩))))))
        · exact s_ti_7 ((if_neg h9).trans (if_neg (fun z => h10 z.1)) : s_bh 4 x = 7)
    · by_cases h10 : x ≤ 54
      · exact Or.inr (Or.inr (Or.inr (Or.inr (Or.inr (Or.inr (Or.inl ⟨(if_pos ⟨hd.1, h10⟩ : s_bh 5 x = 6), by omega, by omega, h2, h3⟩))))))
      · exact s_ti_7 (if_neg (fun z => h10 z.2) : s_bh 5 x = 7)
    · exact s_ti_7 (if_neg (by omega) : s_bh 6 x = 7)
    · exact s_ti_7 rfl
  · rw [if_neg hd, if_neg hd]
    rcases h with ⟨rfl, h1, h2⟩ | ⟨rfl, h1, h2, h3⟩ | ⟨rfl, h1, h2, h3⟩ | ⟨rfl, h1, h2⟩ | ⟨rfl, h1, h2, h3⟩ | ⟨rfl, h1, h2, h3⟩ | ⟨rfl, h1, h2, h3, h4⟩ | rfl
    · exact s_ti_7 ((if_neg (by omega)).trans (if_neg hd) : s_bh 0 x = 7)
    · exact s_ti_v (if_neg hd) (by omega)
    · exact s_ti_v (if_neg hd) (by omega)
    · exact s_ti_v rfl (by omega)
    · exact s_ti_7 ((if_neg (by omega)).trans (if_neg (by omega)) : s_bh 4 x = 7)
    · exact s_ti_7 (if_neg (by omega) : s_bh 5 x = 7)
    · by_cases h44 : x = 44
      · rw [if_neg (by omega)]
        exact Or.inl ⟨(if_pos h44 : s_bh 6 x = 0), rfl, rfl⟩
      · exact s_ti_7 (if_neg h44 : s_bh 6 x = 7)
    · exact s_ti_7 rfl
/-- behind a part comes a comma or an error -/
theorem s_bh_c {s x : Nat} (hs : s ≤ 7) (h1 : ¬ ((48 ≤ x ∧ x ≤ 57) ∨ x = 42)) (h7 : s_bh s x ≠ 7) : x = 44 ∧ s_bh s x = 0 ∧ (s = 1 ∨ s = 2 ∨ s = 3 ∨ s = 6) := by
  have hd : ¬ (48 ≤ x ∧ x ≤ 57) := fun z => h1 (Or.inl z)
  have h42 : x ≠ 42 := fun z => h1 (Or.inr z)
  have hv : s_bv x ≠ 7 → x = 44 ∧ s_bv x = 0 := by
    have := s_bv_i x
    omega
  have : s = 0 ∨ s = 1 ∨ s = 2 ∨ s = 3 ∨ s = 4 ∨ s = 5 ∨ s = 6 ∨ s = 7 := by omega
  rcases this with rfl | rfl | rfl | rfl | rfl | rfl | rfl | rfl
  · exact absurd ((if_neg (by omega)).trans (if_neg hd) : s_bh 0 x = 7) h7
  · have e : s_bh 1 x = s_bv x := if_neg hd
    rw [e] at h7 ⊢
    exact ⟨(hv h7).1, (hv h7).2, Or.inl rfl⟩
  · have e : s_bh 2 x = s_bv x := if_neg hd
    rw [e] at h7 ⊢
    exact ⟨(hv h7).1, (hv h7).2, Or.inr (Or.inl rfl)⟩
  · have e : s_bh 3 x = s_bv x := rfl
    rw [e] at h7 ⊢
    exact ⟨(hv h7).1, (hv h7).2, Or.inr (Or.inr (Or.inl rfl))⟩
  · exact absurd ((if_neg (by omega)).trans (if_neg (by omega)) : s_bh 4 x = 7) h7
  · exact absurd (if_neg (by omega) : s_bh 5 x = 7) h7
  · by_cases h44 : x = 44
    · exact ⟨h44, (if_pos h44 : s_bh 6 x = 0), Or.inr (Or.inr (Or.inr rfl))⟩
    · exact absurd (if_neg h44 : s_bh 6 x = 7) h7
  · exact absurd rfl h7
theorem s_ti_c (c : Nat → Nat) : ∀ k, s_ti (s_dfa c k) (s_num c k) (s_vv c k)
  | 0 => Or.inl ⟨rfl, rfl, rfl⟩
  | k + 1 => s_ti_s (s_ti_c c k)
theorem s_dfa_le (c : Nat → Nat) (k : Nat) : s_dfa c k ≤ 7 := by
  have h := s_ti_c c k
  unfold s_ti at h
  omega
theorem s_dfa_7 {c : Nat → Nat} {k : Nat} (h : s_dfa c k = 7) : ∀ d, s_dfa c (k + d) = 7
  | 0 => h
  | d + 1 => by
    rw [show k + (d + 1) = k + d + 1 by omega, s_dfa, s_dfa_7 h d]
    rfl
theorem s_dfa_n {c : Nat → Nat} {k n : Nat} (h : s_dfa c n ≠ 7) (hk : k ≤ n) : s_dfa c k ≠ 7 := fun z => h (by
  have := s_dfa_7 z (n - k)
  rwa [show k + (n - k) = n by omega] at this)
/-- where the first error is -/
def s_fe (c : Nat → Nat) : Nat → Nat
  | 0 => 0
  | L + 1 => if s_dfa c (L + 1) = 7 then s_fe c L else L + 1
theorem s_fe_le (c : Nat → Nat) : ∀ L, s_fe c L ≤ L
  | 0 => Nat.le_refl _
  | L + 1 => by
    have := s_fe_le c L
    rw [s_fe]
    split <;> omega
theorem s_fe_p (c : Nat → Nat) : ∀ L, s_dfa c (s_fe c L) ≠ 7 ∧ (s_fe c L = L ∨ s_dfa c (s_fe c L + 1) = 7)
  | 0 => ⟨fun z => absurd (show (0 : Nat) = 7 from z) (by decide), Or.inl rfl⟩
  | L + 1 => by
    have ih := s_fe_p c L
    rw [s_fe]
    by_cases h : s_dfa c (L + 1) = 7
    · rw [if_pos h]
      refine ⟨ih.1, Or.inr ?_⟩
      rcases ih.2 with e | e
      · rw [e]
        exact h
      · exact e
    · rw [if_neg h]
      exact ⟨h, Or.inl rfl⟩
theorem s_fe_u {c : Nat → Nat} {L r : Nat} (hr : r ≤ L) (h1 : s_dfa c r ≠ 7) (h2 : r = L ∨ s_dfa c (r + 1) = 7) : r = s_fe c L := by
  have hp := s_fe_p c L
  have hl := s_fe_le c L
  have key : ∀ a b, a ≤ L → b ≤ L → s_dfa c a ≠ 7 → s_dfa c b ≠ 7 → (a = L ∨ s_dfa c (a + 1) = 7) → b ≤ a := fun a b ha hb ca cb hc => by
    rcases hc with hc | hc
    · omega
    · refine Nat.le_of_not_lt (fun z => ?_)
      exact s_dfa_n cb (show a + 1 ≤ b by omega) hc
  have a1 := key r (s_fe c L) hr hl h1 hp.1 h2
  have a2 := key (s_fe c L) r hl hr hp.1 h1 hp.2
  omega
/-- is the text whole -/
def s_wh (c : Nat → Nat) (L : Nat) : Prop := s_dfa c L = 1 ∨ s_dfa c L = 2 ∨ s_dfa c L = 3 ∨ s_dfa c L = 6
theorem s_wh_7 {c : Nat → Nat} {L : Nat} (h : s_wh c L) : s_dfa c L ≠ 7 := by
  unfold s_wh at h
  omega
/-! what is written -/
def s_w1 (v : Nat) (q : s_S × Nat) : s_S × Nat := if q.1 0 < 12 ∨ q.1 1 + 1 < q.1 3 then (s_put q.1 v, q.2 + 1) else q
def s_wt (v : Nat) : Nat → s_S × Nat → s_S × Nat
  | 0, q => q
  | t + 1, q => s_w1 v (s_wt v t q)
/-- what the parts ahead of k leave -/
def s_ld (c : Nat → Nat) (σ : s_S) : Nat → s_S × Nat
  | 0 => (σ, 0)
  | k + 1 => if (48 ≤ c k ∧ c k ≤ 57) ∨ c k = 42 then s_ld c σ k else s_wt (s_pv c k) (s_pn c k) (s_ld c σ k)
def s_fin (c : Nat → Nat) (σ : s_S) (L : Nat) : s_S × Nat := s_wt (s_pv c L) (s_pn c L) (s_ld c σ L)
theorem s_w1_y {v : Nat} {q : s_S × Nat} (h : s_can q.1) : s_w1 v q = (s_put q.1 v, q.2 + 1) := if_pos h
theorem s_w1_n {v : Nat} {q : s_S × Nat} (h : ¬ s_can q.1) : s_w1 v q = q := if_neg h
theorem s_wt_n {v : Nat} {q : s_S × Nat} (h : ¬ s_can q.1) : ∀ t, s_wt v t q = q
  | 0 => rfl
  | t + 1 => by rw [s_wt, s_wt_n h t, s_w1_n h]
theorem s_wt_d {v : Nat} {q : s_S × Nat} {i : Nat} (h : ¬ s_can (s_wt v i q).1) : ∀ d, s_wt v (i + d) q = s_wt v i q
  | 0 => rfl
  | d + 1 => by rw [show i + (d + 1) = i + d + 1 by omega, s_wt, s_wt_d h d, s_w1_n h]
theorem s_ld_d {c : Nat → Nat} {σ : s_S} {k : Nat} (h : ¬ s_can (s_ld c σ k).1) : ∀ d, s_ld c σ (k + d) = s_ld c σ k
  | 0 => rfl
  | d + 1 => by
    rw [show k + (d + 1) = k + d + 1 by omega, s_ld, s_ld_d h d, s_wt_n h, ite_self]
theorem s_pv_le {c : Nat → Nat} {k : Nat} (h : s_dfa c k ≠ 7) : s_pv c k ≤ 999 ∧ s_pn c k ≤ 16 := by
  have ht := s_ti_c c k
  unfold s_ti at ht
  unfold s_pv s_pn
  split <;> omega
theorem s_wt_ok {v : Nat} (hv : v ≤ 999) {q : s_S × Nat} (h : s_ok q.1) : ∀ t, s_ok (s_wt v t q).1
  | 0 => h
  | t + 1 => by
    have ih := s_wt_ok hv h t
    rw [s_wt]
    by_cases c : s_can (s_wt v t q).1
    · rw [s_w1_y c]
      exact s_put_ok ih hv c
    · rw [s_w1_n c]
      exact ih
theorem s_ld_ok {c : Nat → Nat} {σ : s_S} (h : s_ok σ) : ∀ k, s_dfa c k ≠ 7 → s_ok (s_ld c σ k).1
  | 0, _ => h
  | k + 1, h7 => by
    have h6 := s_dfa_n h7 (Nat.le_succ k)
    have ih := s_ld_ok h k h6
    rw [s_ld]
    split
    · exact ih
    · exact s_wt_ok (s_pv_le h6).1 ih _
theorem s_fin_ok {c : Nat → Nat} {σ : s_S} {L : Nat} (h : s_ok σ) (h7 : s_dfa c L ≠ 7) : s_ok (s_fin c σ L).1 := s_wt_ok (s_pv_le h7).1 (s_ld_ok h L h7) _
/-! the parts as a row -/
def s_pc (c : Nat → Nat) : Nat → Nat
  | 0 => 0
  | k + 1 => if (48 ≤ c k ∧ c k ≤ 57) ∨ c k = 42 then s_pc c k else s_pc c k + 1
def s_ap (f : Nat → Nat) (n x : Nat) : Nat → Nat := fun j => if j = n then x else f j
def s_fv1 (c : Nat → Nat) : Nat → Nat → Nat
  | 0 => fun _ => 0
  | k + 1 => if (48 ≤ c k ∧ c k ≤ 57) ∨ c k = 42 then s_fv1 c k else s_ap (s_fv1 c k) (s_pc c k) (s_pv c k)
def s_fn1 (c : Nat → Nat) : Nat → Nat → Nat
  | 0 => fun _ => 0
  | k + 1 => if (48 ≤ c k ∧ c k ≤ 57) ∨ c k = 42 then s_fn1 c k else s_ap (s_fn1 c k) (s_pc c k) (s_pn c k)
def s_fo (f g : Nat → Nat) (q : s_S × Nat) : Nat → s_S × Nat
  | 0 => q
  | n + 1 => s_wt (f n) (g n) (s_fo f g q n)
theorem s_fo_c {f g f' g' : Nat → Nat} {q : s_S × Nat} : ∀ n, (∀ j, j < n → f j = f' j ∧ g j = g' j) → s_fo f g q n = s_fo f' g' q n
  | 0, _ => rfl
  | n + 1, h => by rw [s_fo, s_fo, s_fo_c n (fun j hj => h j (by omega)), (h n (by omega)).1, (h n (by omega)).2]
theorem s_fo_ap {f g : Nat → Nat} {q : s_S × Nat} {n x y : Nat} : s_fo (s_ap f n x) (s_ap g n y) q (n + 1) = s_wt x y (s_fo f g q n) := by
  have e : s_fo (s_ap f n x) (s_ap g n y) q n = s_fo f g q n := s_fo_c n (fun j hj => ⟨if_neg (by omega), if_neg (by omega)⟩)
  rw [s_fo, e]
  unfold s_ap
  rw [if_pos rfl, if_pos rfl]
theorem s_fo_ld {c : Nat → Nat} {σ : s_S} : ∀ k, s_fo (s_fv1 c k) (s_fn1 c k) (σ, 0) (s_pc c k) = s_ld c σ k
  | 0 => rfl
  | k + 1 => by
    have ih := s_fo_ld (c := c) (σ := σ) k
    rw [s_fv1, s_fn1, s_pc, s_ld]
    by_cases h : (48 ≤ c k ∧ c k ≤ 57) ∨ c k = 42
    · rw [if_pos h, if_pos h, if_pos h, if_pos h, ih]
    · rw [if_neg h, if_neg h, if_neg h, if_neg h, s_fo_ap, ih]
theorem s_pc_le (c : Nat → Nat) : ∀ k, s_dfa c k ≠ 7 → 2 * s_pc c k + (if s_dfa c k = 0 then 0 else 1) ≤ k
  | 0, _ => Nat.le_refl _
  | k + 1, h7 => by
    have ih := s_pc_le c k (s_dfa_n h7 (Nat.le_succ k))
    rw [s_pc]
    by_cases h : (48 ≤ c k ∧ c k ≤ 57) ∨ c k = 42
    · rw [if_pos h]
      have : (if s_dfa c (k + 1) = 0 then 0 else 1) ≤ 1 := by split <;> decide
      omega
    · obtain ⟨e1, e2, e3⟩ := s_bh_c (s_dfa_le c k) h h7
      have e4 : s_dfa c (k + 1) = 0 := e2
      rw [if_neg h, if_pos e4]
      rw [if_neg (by omega)] at ih
      omega
