/-! ===== the Model: its state row changed ===== -/
theorem s_hU {m : ml_M} {σ : s_S} {i v : Nat} (hM : ∀ k, k < 251 → m 73 k = nI (σ k)) : ∀ k, k < 251 → ml_s m 73 i (nI v) 73 k = nI (s_upd σ i v k) := fun k hk => by
  by_cases h : k = i
  · rw [h, ml_s_s, s_upd_s]
  · rw [ml_s_k h, s_upd_n h, hM k hk]
theorem s_hF {m m' : ml_M} {σ : s_S} (hM : ∀ k, k < 251 → m 73 k = nI (σ k)) (e : m' 73 = m 73) : ∀ k, k < 251 → m' 73 k = nI (σ k) := fun k hk => by rw [e, hM k hk]
theorem s_pr {x : Int32} {N : Nat} (hN : N < 2 ^ 31) (h : nI N ≤ x) : nI N - nI 1 < x := by
  by_cases h0 : N = 0
  · subst h0
    exact Int32.lt_of_lt_of_le (by decide) h
  · rw [pk_sub (by omega)]
    exact Int32.lt_of_lt_of_le (nI_lt (by omega) hN) h
theorem s_in_pr {x : Int32} {N : Nat} (hN : N < 2 ^ 31) (h : x < nI 0 ∨ nI N ≤ x) : x < nI 0 ∨ nI N - nI 1 < x := h.elim Or.inl (fun z => Or.inr (s_pr hN z))
def s_toi (σ : s_S) (b i : Nat) : s_S := fun k => if k = 0 then σ 0 - 1 else if (7 + b ≤ k ∧ k < 7 + i) ∨ (19 + b ≤ k ∧ k < 19 + i) ∨ (31 + b ≤ k ∧ k < 31 + i) then σ (k + 1) else σ k
/-- a block taken out -/
def s_to (σ : s_S) (b : Nat) : s_S := s_toi σ b (σ 0 - 1)
theorem s_toi_0 (σ : s_S) (b : Nat) : s_toi σ b b = s_upd σ 0 (σ 0 - 1) := by
  funext k
  unfold s_toi s_upd
  by_cases h : k = 0
  · rw [if_pos h, if_pos h]
  · rw [if_neg h, if_neg h, if_neg (by omega)]
theorem s_toi_s {σ : s_S} {b i : Nat} (hb : b ≤ i) (hi : i ≤ 10) : s_upd (s_upd (s_upd (s_toi σ b i) (7 + i) (σ (7 + i + 1))) (19 + i) (σ (19 + i + 1))) (31 + i) (σ (31 + i + 1)) = s_toi σ b (i + 1) := by
  funext k
  unfold s_upd s_toi
  by_cases c1 : k = 31 + i
  · rw [if_pos c1, if_neg (by omega), if_pos (by omega), c1]
  · rw [if_neg c1]
    by_cases c2 : k = 19 + i
    · rw [if_pos c2, if_neg (by omega), if_pos (by omega), c2]
    · rw [if_neg c2]
      by_cases c3 : k = 7 + i
      · rw [if_pos c3, if_neg (by omega), if_pos (by omega), c3]
      · rw [if_neg c3]
        by_cases c0 : k = 0
        · rw [if_pos c0, if_pos c0]
        · rw [if_neg c0, if_neg c0]
          by_cases c : (7 + b ≤ k ∧ k < 7 + i) ∨ (19 + b ≤ k ∧ k < 19 + i) ∨ (31 + b ≤ k ∧ k < 31 + i)
          · rw [if_pos c, if_pos (by omega)]
          · rw [if_neg c, if_neg (by omega)]
theorem s_toi_o {σ : s_S} {b i k : Nat} (h0 : k ≠ 0) (h : ¬ ((7 + b ≤ k ∧ k < 7 + i) ∨ (19 + b ≤ k ∧ k < 19 + i) ∨ (31 + b ≤ k ∧ k < 31 + i))) : s_toi σ b i k = σ k := by
  unfold s_toi
  rw [if_neg h0, if_neg h]
/-- place made for a block: the ones behind b moved up, those from i on -/
def s_mpi (σ : s_S) (i : Nat) : s_S := fun k => if (7 + i < k ∧ k ≤ 7 + σ 0) ∨ (19 + i < k ∧ k ≤ 19 + σ 0) ∨ (31 + i < k ∧ k ≤ 31 + σ 0) then σ (k - 1) else σ k
def s_mp (σ : s_S) (b : Nat) : s_S := s_upd (s_mpi σ b) 0 (σ 0 + 1)
theorem s_mpi_0 (σ : s_S) : s_mpi σ (σ 0) = σ := by
  funext k
  unfold s_mpi
  rw [if_neg (by omega)]
theorem s_mpi_s {σ : s_S} {i : Nat} (hi : i < σ 0) (h0 : σ 0 < 12) : s_upd (s_upd (s_upd (s_mpi σ (i + 1)) (7 + (i + 1)) (σ (7 + i))) (19 + (i + 1)) (σ (19 + i))) (31 + (i + 1)) (σ (31 + i)) = s_mpi σ i := by
  funext k
  unfold s_upd s_mpi
  by_cases c1 : k = 31 + (i + 1)
  · rw [if_pos c1, if_pos (by omega), c1]
    rfl
  · rw [if_neg c1]
    by_cases c2 : k = 19 + (i + 1)
    · rw [if_pos c2, if_pos (by omega), c2]
      rfl
    · rw [if_neg c2]
      by_cases c3 : k = 7 + (i + 1)
      · rw [if_pos c3, if_pos (by omega), c3]
        rfl
      · rw [if_neg c3]
        by_cases c : (7 + (i + 1) < k ∧ k ≤ 7 + σ 0) ∨ (19 + (i + 1) < k ∧ k ≤ 19 + σ 0) ∨ (31 + (i + 1) < k ∧ k ≤ 31 + σ 0)
        · rw [if_pos c, if_pos (by omega)]
        · rw [if_neg c, if_neg (by omega)]
theorem s_mpi_o {σ : s_S} {i k : Nat} (h : ¬ ((7 + i < k ∧ k ≤ 7 + σ 0) ∨ (19 + i < k ∧ k ≤ 19 + σ 0) ∨ (31 + i < k ∧ k ≤ 31 + σ 0))) : s_mpi σ i k = σ k := by
  unfold s_mpi
  rw [if_neg h]
theorem ml_cp_0 (m : ml_M) (r q sp dp : Nat) : ml_cp m r q sp dp 0 = m := by
  funext a k
  exact if_neg (fun z => by omega)
theorem ml_cp_n {m : ml_M} {r q sp dp n a : Nat} (h : a ≠ q) : ml_cp m r q sp dp n a = m a := by
  funext k
  exact if_neg (fun z => h z.1)
theorem ml_cp_s {m : ml_M} {r q sp dp k : Nat} (h : r ≠ q) : ml_s (ml_cp m r q sp dp k) q (dp + k) (ml_cp m r q sp dp k r (sp + k)) = ml_cp m r q sp dp (k + 1) := by
  rw [ml_cp_n h]
  funext a j
  by_cases ha : a = q
  · subst ha
    by_cases hj : j = dp + k
    · subst hj
      rw [ml_s_s]
      unfold ml_cp
      rw [if_pos ⟨rfl, by omega, by omega⟩, show dp + k - dp = k by omega]
    · rw [ml_s_k hj]
      unfold ml_cp
      by_cases hc : dp ≤ j ∧ j < dp + k
      · rw [if_pos ⟨rfl, hc⟩, if_pos ⟨rfl, by omega, by omega⟩]
      · rw [if_neg (fun z => hc z.2), if_neg (fun z => by omega)]
  · rw [ml_s_a ha, ml_cp_n ha, ml_cp_n ha]
theorem ml_cp_in {m : ml_M} {r q sp dp n k : Nat} (h : k < n) : ml_cp m r q sp dp n q (dp + k) = m r (sp + k) := by
  unfold ml_cp
  rw [if_pos ⟨rfl, by omega, by omega⟩, show dp + k - dp = k by omega]
theorem ml_cp_out {m : ml_M} {r q sp dp n a k : Nat} (h : k < dp ∨ dp + n ≤ k) : ml_cp m r q sp dp n a k = m a k := if_neg (fun z => by omega)
/-- the first i numbers of the row of saved states, each from 251 behind -/
def s_sh (m : ml_M) (i : Nat) : ml_M := fun a k => if a = 74 ∧ k < i then m 74 (251 + k) else m a k
theorem s_sh_0 (m : ml_M) : s_sh m 0 = m := by
  funext a k
  exact if_neg (fun z => by omega)
theorem s_sh_n {m : ml_M} {i a : Nat} (h : a ≠ 74) : s_sh m i a = m a := by
  funext k
  exact if_neg (fun z => h z.1)
theorem s_sh_s (m : ml_M) (i : Nat) : ml_s (s_sh m i) 74 i (s_sh m i 74 (251 + i)) = s_sh m (i + 1) := by
  have e : s_sh m i 74 (251 + i) = m 74 (251 + i) := if_neg (fun z => by omega)
  rw [e]
  funext a j
  by_cases ha : a = 74
  · subst ha
    by_cases hj : j = i
    · subst hj
      rw [ml_s_s]
      unfold s_sh
      rw [if_pos ⟨rfl, by omega⟩]
    · rw [ml_s_k hj]
      unfold s_sh
      by_cases hc : j < i
      · rw [if_pos ⟨rfl, hc⟩, if_pos ⟨rfl, by omega⟩]
      · rw [if_neg (fun z => hc z.2), if_neg (fun z => by omega)]
  · rw [ml_s_a ha, s_sh_n ha, s_sh_n ha]
/-- the Model but for its state row -/
def RepY (m : ml_M) (n : Nat) (ss : Nat → s_S) (t : Nat) (τ : s_S) (tl : Nat) (tx : Nat → Nat) : Prop := n ≤ 6 ∧ m 72 2 = nI n ∧ (∀ j, j < n → RepM m 74 (251 * j) (ss j)) ∧ m 72 4 = nI t ∧ (t = 1 → RepM m 75 0 τ) ∧ m 72 7 = nI tl ∧ ∀ k, k < tl → m 77 k = nI (tx k)
theorem RepY_of {m m' : ml_M} {n : Nat} {ss : Nat → s_S} {t : Nat} {τ : s_S} {tl : Nat} {tx : Nat → Nat} (h : RepY m n ss t τ tl tx) (e2 : m' 72 2 = m 72 2) (e4 : m' 72 4 = m 72 4) (e7 : m' 72 7 = m 72 7) (f4 : m' 74 = m 74) (f5 : m' 75 = m 75) (f7 : m' 77 = m 77) : RepY m' n ss t τ tl tx := by
  obtain ⟨h0, h1, h2, h3, h4, h5, h6⟩ := h
  exact ⟨h0, by rw [e2]; exact h1, fun j hj => RepM_of (h2 j hj) f4, by rw [e4]; exact h3, fun ht => RepM_of (h4 ht) f5, by rw [e7]; exact h5, fun k hk => by rw [f7]; exact h6 k hk⟩
section MDB
variable {Ln : Nat} {xs : Nat → Int32} {u : mj_U} {m : ml_M} {lm : ml_J} {Φ : mj_R → mj_W → Prop} {σ τ : s_S} {n t tl k b v p : Nat} {ss : Nat → s_S} {tx : Nat → Nat} {x y : Int32}
theorem sp156_l {r q sp dp : Nat} (hr : ml_ia r) (hr0 : r ≠ 0) (hq : ml_ia q) (hq0 : q ≠ 0) (hrq : r ≠ q) (h1 : sp + 251 ≤ ml_n r) (h2 : dp + 251 ≤ ml_n q) : ∀ d k, k + d = 251 → wp Ln xs 156 3 [.ref r, .int (nI sp), .ref q, .int (nI dp), .int (nI k)] [] (u, ml_h (ml_cp m r q sp dp k) lm) Φ = Φ (.inl none) (u, ml_h (ml_cp m r q sp dp 251) lm)
  | 0, k, h => by
    obtain rfl : k = 251 := by omega
    rw [x156_3, if_pos (nI_le (Nat.le_refl _) (by decide)), x156_29]
  | d + 1, k, h => by
    rw [x156_3, if_neg (nI_ge (by omega) (by decide)), x156_11, nI_add, nI_add, x156_21 hr hr0 (by omega), x156_22 hq hq0 (by omega), nI_add, ml_cp_s hrq]
    exact sp156_l hr hr0 hq hq0 hrq h1 h2 d (k + 1) (by omega)
theorem sp156 {r q sp dp : Nat} (hr : ml_ia r) (hr0 : r ≠ 0) (hq : ml_ia q) (hq0 : q ≠ 0) (hrq : r ≠ q) (h1 : sp + 251 ≤ ml_n r) (h2 : dp + 251 ≤ ml_n q) : wp Ln xs 156 0 [.ref r, .int (nI sp), .ref q, .int (nI dp), mj_hole] [] (u, ml_h m lm) Φ = Φ (.inl none) (u, ml_h (ml_cp m r q sp dp 251) lm) := by
  have h := sp156_l (Ln := Ln) (xs := xs) (u := u) (m := m) (lm := lm) (Φ := Φ) hr hr0 hq hq0 hrq h1 h2 251 0 rfl
  rw [ml_cp_0] at h
  rw [x156_0]
  exact h
theorem sp155_l : ∀ d k, k + d = 1255 → wp Ln xs 155 11 [.ref 72, .int (nI k)] [] (u, ml_h (s_sh m k) lm) Φ = wp Ln xs 155 40 [.ref 72, .int (nI 1255)] [] (u, ml_h (s_sh m 1255) lm) Φ
  | 0, k, h => by
    obtain rfl : k = 1255 := by omega
    rw [x155_11, if_pos (nI_le (Nat.le_refl _) (by decide))]
  | d + 1, k, h => by
    rw [x155_11, if_neg (nI_ge (by omega) (by decide)), x155_18, nI_add, x155_32 (by omega), x155_33 (by omega), nI_add, s_sh_s]
    exact sp155_l d (k + 1) (by omega)
theorem sp155 (hM : ∀ k, k < 251 → m 73 k = nI (σ k)) (hy : RepY m n ss t τ tl tx) : ∃ m', m' 73 = m 73 ∧ RepY m' (s_nx n) (s_push n ss σ) t τ tl tx ∧ m' 72 8 = m 72 8 ∧ (∀ a, a ≠ 72 → a ≠ 74 → m' a = m a) ∧ ∀ Φ : mj_R → mj_W → Prop, wp Ln xs 155 0 [.ref 72, mj_hole] [] (u, ml_h m lm) Φ = Φ (.inl none) (u, ml_h m' lm) := by
  obtain ⟨h0, h1, h2, h3, h4, h5, h6⟩ := hy
  by_cases c : n = 6
  · subst c
    refine ⟨ml_s (ml_cp (ml_s (s_sh m 1255) 72 2 (nI 5)) 73 74 0 1255 251) 72 2 (nI 6), ?_, ⟨Nat.le_refl _, ml_s_s _ _ _ _, fun j hj k hk => ?_, ?_, fun ht => RepM_of (h4 ht) ?_, ?_, fun k hk => ?_⟩, ?_, fun a h7 h8 => ?_, fun Φ => ?_⟩
    · rw [ml_s_row (by decide), ml_cp_n (by decide), ml_s_row (by decide), s_sh_n (by decide)]
    · rw [ml_s_a (by decide)]
      unfold s_push
      rw [if_pos rfl]
      by_cases hj5 : j = 5
      · subst hj5
        rw [if_pos rfl, show 251 * 5 + k = 1255 + k by omega, ml_cp_in hk, ml_s_a (by decide), s_sh_n (by decide), Nat.zero_add]
        exact hM k hk
      · rw [if_neg hj5, ml_cp_out (by unfold s_nx at hj; rw [if_pos rfl] at hj; omega), ml_s_a (by decide)]
        have e := h2 (j + 1) (by unfold s_nx at hj; rw [if_pos rfl] at hj; omega) k hk
        unfold s_sh
        rw [if_pos ⟨rfl, by unfold s_nx at hj; rw [if_pos rfl] at hj; omega⟩, show 251 + (251 * j + k) = 251 * (j + 1) + k by omega]
        exact e
    · rw [ml_s_k (by decide), ml_cp_n (by decide), ml_s_k (by decide), s_sh_n (by decide), h3]
    · rw [ml_s_row (by decide), ml_cp_n (by decide), ml_s_row (by decide), s_sh_n (by decide)]
    · rw [ml_s_k (by decide), ml_cp_n (by decide), ml_s_k (by decide), s_sh_n (by decide), h5]
    · rw [ml_s_a (by decide), ml_cp_n (by decide), ml_s_a (by decide), s_sh_n (by decide), h6 k hk]
    · rw [ml_s_k (by decide), ml_cp_n (by decide), ml_s_k (by decide), s_sh_n (by decide)]
    · rw [ml_s_row h7, ml_cp_n h8, ml_s_row h7, s_sh_n h8]
    · have hl := sp155_l (Ln := Ln) (xs := xs) (u := u) (m := m) (lm := lm) (Φ := Φ) 1255 0 rfl
      rw [s_sh_0] at hl
      rw [x155_0, h1, if_neg (fun z => z rfl), x155_9, hl, x155_40, s_sh_n (by decide), h1, pk_sub (by decide), x155_50, ml_s_s, pk_mul, sp156 ml_ia_73 (by decide) ml_ia_74 (by decide) (by decide) (by rw [ml_n_73]; decide) (by rw [ml_n_74]; decide), mk_n, x155_70, ml_cp_n (by decide), ml_s_s, nI_add]
  · have hx : s_nx n = n + 1 := if_neg c
    rw [hx]
    refine ⟨ml_s (ml_cp m 73 74 0 (251 * n) 251) 72 2 (nI (n + 1)), ?_, ⟨by omega, ml_s_s _ _ _ _, fun j hj k hk => ?_, ?_, fun ht => RepM_of (h4 ht) ?_, ?_, fun k hk => ?_⟩, ?_, fun a h7 h8 => ?_, fun Φ => ?_⟩
    · rw [ml_s_row (by decide), ml_cp_n (by decide)]
    · rw [ml_s_a (by decide)]
      unfold s_push
      rw [if_neg c]
      by_cases hjn : j = n
      · subst hjn
        rw [if_pos rfl, ml_cp_in hk, Nat.zero_add]
        exact hM k hk
      · rw [if_neg hjn, ml_cp_out (by omega)]
        exact h2 j (by omega) k hk
    · rw [ml_s_k (by decide), ml_cp_n (by decide), h3]
    · rw [ml_s_row (by decide), ml_cp_n (by decide)]
    · rw [ml_s_k (by decide), ml_cp_n (by decide), h5]
    · rw [ml_s_a (by decide), ml_cp_n (by decide), h6 k hk]
    · rw [ml_s_k (by decide), ml_cp_n (by decide)]
    · rw [ml_s_row h7, ml_cp_n h8]
    · rw [x155_0, h1, if_pos (by rw [nI_eq (by omega) (by decide)]; exact c), x155_50, h1, pk_mul, sp156 ml_ia_73 (by decide) ml_ia_74 (by decide) (by decide) (by rw [ml_n_73]; decide) (by rw [ml_n_74]; omega), mk_n, x155_70, ml_cp_n (by decide), h1, nI_add]
/-- a block written anew -/
theorem sp161 {E : Nat → Prop} (hM : ∀ k, k < 251 → m 73 k = nI (σ k)) (h0 : s_oke σ E) (hb : b < σ 0) : ∃ m', (∀ k, k < 251 → m' 73 k = nI (s_wa σ b k)) ∧ (∀ a, a ≠ 73 → m' a = m a) ∧ ∀ Φ : mj_R → mj_W → Prop, wp Ln xs 161 0 [.ref 72, .int (nI b)] [] (u, ml_h m lm) Φ = Φ (.inl none) (u, ml_h m' lm) := by
  have hT := s_tot_lee h0
  have hv := s_blf_le h0 hb
  have hend := s_end_le hb
  obtain ⟨k0, k1, k3, k4, k5, k6, k7, k8, k9, k10, k11⟩ := h0
  have l := k3 b hb
  have hl : s_pkb σ b ≤ 4 := s_li_le _ _ _
  have e7 : m 73 (7 + b) = nI (s_len σ b) := hM _ (by omega)
  have hM1 := s_hU (i := 19 + b) (v := s_pkb σ b) hM
  have el : ∀ c, c < 12 → s_len (s_upd σ (19 + b) (s_pkb σ b)) c = s_len σ c := fun c hc => s_upd_n (by omega)
  have es : s_sum (s_len (s_upd σ (19 + b) (s_pkb σ b))) b = s_sum (s_len σ) b := s_sum_congr _ (fun i hi => el i (by omega))
  have eb : s_blf (s_upd σ (19 + b) (s_pkb σ b)) b = s_blf σ b := by
    funext i
    unfold s_blf
    rw [es]
    exact s_upd_n (by omega)
  have ef : s_frm (s_upd σ (19 + b) (s_pkb σ b)) b = s_pkb σ b := s_upd_s _ _ _
  refine ⟨_, s_hU (i := 6) (v := σ 6 + 1) (s_hU (i := 31 + b) (v := s_sz (s_blf σ b) (s_len σ b) (s_pkb σ b)) hM1), fun a ha => by rw [ml_s_row ha, ml_s_row ha, ml_s_row ha], fun Φ => ?_⟩
  have e173 := fun Φ => sp173 (Ln := Ln) (xs := xs) (u := u) (lm := lm) (Φ := Φ) (b := b) hM1 (by omega) (by rw [el b (by omega)]; omega) (by rw [el b (by omega)]; omega) (by rw [es, el b (by omega)]; omega) (by rw [el b (by omega), eb]; exact hv) (by rw [ef]; exact hl)
  rw [el b (by omega), eb, ef] at e173
  rw [x161_0, sp159 hM (by omega), mk_v, x161_14, nI_add, nI_add, x161_22 (by omega), e7, sp162 (a := s_sum (s_len σ) b) hM (by omega) l.2 (by omega) hv (by omega) (by omega) (by omega), mk_v, x161_26 (by omega)]
  show wp Ln xs 173 0 [.ref 72, .int (nI b)] [] (u, ml_h (ml_s m 73 (19 + b) (nI (s_pkb σ b))) lm) _ = _
  rw [e173, mk_v, nI_add, x161_40 (by omega), ml_s_k (show 6 ≠ 31 + b by omega), ml_s_k (show 6 ≠ 19 + b by omega), hM 6 (by decide), nI_add]
theorem sp160 (hM : ∀ k, k < 251 → m 73 k = nI (σ k)) (h0 : s_ok6 σ) (h1 : 1 ≤ σ 1) (h12 : σ 0 < 12) : ∃ m', (∀ k, k < 251 → m' 73 k = nI (s_ct σ k)) ∧ (∀ a, a ≠ 73 → m' a = m a) ∧ ∀ Φ : mj_R → mj_W → Prop, wp Ln xs 160 0 [.ref 72] [] (u, ml_h m lm) Φ = Φ (.inl none) (u, ml_h m' lm) := by
  have hM1 : ∀ k, k < 251 → ml_s (ml_s (ml_s m 73 (7 + σ 0) (nI (σ 1))) 73 0 (nI (σ 0 + 1))) 73 1 (nI 0) 73 k = nI (s_ctp σ k) := s_hU (s_hU (s_hU hM))
  obtain ⟨m', hM', fr, e⟩ := sp161 (Ln := Ln) (xs := xs) (u := u) (lm := lm) (b := σ 0) hM1 (s_ctp_ok h0 h1 h12) (by rw [s_ctp_0]; omega)
  refine ⟨m', hM', fun a ha => by rw [fr a ha, ml_s_row ha, ml_s_row ha, ml_s_row ha], fun Φ => ?_⟩
  rw [x160_0, hM 1 (by decide), hM 0 (by decide), nI_add, x160_19 (by omega), ml_s_k (show 0 ≠ 7 + σ 0 by omega), hM 0 (by decide), nI_add, ml_s_k (show 0 ≠ 1 by decide), ml_s_s, pk_sub (by omega), Nat.add_sub_cancel, e, mk_n, x160_49]
theorem sp157 (hM : ∀ k, k < 251 → m 73 k = nI (σ k)) (h0 : s_ok σ) (hv : v ≤ 999) (hc : s_can σ) : ∃ m', (∀ k, k < 251 → m' 73 k = nI (s_put σ v k)) ∧ (∀ a, a ≠ 73 → m' a = m a) ∧ ∀ Φ : mj_R → mj_W → Prop, wp Ln xs 157 0 [.ref 72, .int (nI v)] [] (u, ml_h m lm) Φ = Φ (.inl none) (u, ml_h m' lm) := by
  have hT := s_can_tot h0 hc
  have hM1 : ∀ k, k < 251 → ml_s (ml_s m 73 (43 + s_tot σ) (nI v)) 73 1 (nI (σ 1 + 1)) 73 k = nI (s_pt σ v k) := s_hU (s_hU hM)
  have k3 := h0.2.2.2.2.2.2.1
  have k3b := h0.2.2.2.2.2.2.2.1
  have k1 := h0.2.1
  have q0 : s_pt σ v 0 = σ 0 := s_pt_o (by decide) (by decide)
  unfold s_put
  by_cases c : σ 1 + 1 < σ 3
  · rw [if_pos c]
    refine ⟨_, hM1, fun a ha => by rw [ml_s_row ha, ml_s_row ha], fun Φ => ?_⟩
    rw [x157_0, sp158 hM h0.1, mk_v, x157_10, nI_add, x157_12 (by omega), ml_s_k (show 1 ≠ 43 + s_tot σ by omega), hM 1 (by decide), nI_add, ml_s_s, ml_s_k (show 3 ≠ 1 by decide), ml_s_k (show 3 ≠ 43 + s_tot σ by omega), hM 3 (by decide), if_pos (nI_lt c (by omega)), x157_42]
  · rw [if_neg c]
    obtain ⟨m2, hM2, fr, e⟩ := sp160 (Ln := Ln) (xs := xs) (u := u) (lm := lm) hM1 (s_pt_ok h0 hv) (by rw [s_pt_1]; omega) (by rw [q0]; exact hc.resolve_right c)
    refine ⟨m2, hM2, fun a ha => by rw [fr a ha, ml_s_row ha, ml_s_row ha], fun Φ => ?_⟩
    rw [x157_0, sp158 hM h0.1, mk_v, x157_10, nI_add, x157_12 (by omega), ml_s_k (show 1 ≠ 43 + s_tot σ by omega), hM 1 (by decide), nI_add, ml_s_s, ml_s_k (show 3 ≠ 1 by decide), ml_s_k (show 3 ≠ 43 + s_tot σ by omega), hM 3 (by decide), if_neg (nI_nlt (by omega) (by omega)), x157_38, e, mk_n, x157_42]
theorem sp177_l (hM : ∀ k, k < 251 → m 73 k = nI (σ k)) (h0 : σ 0 ≤ 12) (hT : s_sum (s_len σ) (σ 0) < 2 ^ 31) (hk : k < 2 ^ 31) : ∀ d b, b + d = σ 0 → wp Ln xs 177 2 [.ref 72, .int (nI k), .int (nI b)] [] (u, ml_h m lm) Φ = Φ (.inl (some (.int (nI (s_bo (s_len σ) k d b))))) (u, ml_h m lm)
  | 0, b, h => by
    obtain rfl : b = σ 0 := by omega
    rw [x177_2, hM 0 (by decide), if_pos (nI_le (Nat.le_refl _) (by omega)), x177_29]
    rfl
  | d + 1, b, h => by
    have hs : s_sum (s_len σ) (b + 1) ≤ s_sum (s_len σ) (σ 0) := s_sum_mono (by omega)
    rw [x177_2, hM 0 (by decide), if_neg (nI_ge (by omega) (by omega)), x177_12, nI_add, sp159 hM (by omega), mk_v, x177_19, s_bo]
    by_cases c : k < s_sum (s_len σ) (b + 1)
    · rw [if_pos (nI_lt c (by omega)), x177_29, if_pos c]
    · rw [if_neg (nI_nlt (by omega) (by omega)), x177_23, nI_add, if_neg c]
      exact sp177_l hM h0 hT hk d (b + 1) (by omega)
theorem sp177 (hM : ∀ k, k < 251 → m 73 k = nI (σ k)) (h0 : s_ok σ) (hk : k < 2 ^ 31) : wp Ln xs 177 0 [.ref 72, .int (nI k), mj_hole] [] (u, ml_h m lm) Φ = Φ (.inl (some (.int (nI (s_bk σ k))))) (u, ml_h m lm) := by
  have hT := s_tot_le h0
  have hs := s_sum_tot σ
  rw [x177_0]
  exact sp177_l hM h0.1 (by omega) hk (σ 0) 0 (by omega)
/-- a value changed -/
theorem sp176 (hM : ∀ k, k < 251 → m 73 k = nI (σ k)) (h0 : s_ok σ) (hk : k < s_tot σ) (hv : v ≤ 999) : ∃ m', (∀ j, j < 251 → m' 73 j = nI (s_rp σ k v j)) ∧ (∀ a, a ≠ 73 → m' a = m a) ∧ ∀ Φ : mj_R → mj_W → Prop, wp Ln xs 176 0 [.ref 72, .int (nI k), .int (nI v), mj_hole] [] (u, ml_h m lm) Φ = Φ (.inl (some (.int (nI (s_oc σ k v))))) (u, ml_h m' lm) := by
  have hT := s_tot_le h0
  have hM1 : ∀ j, j < 251 → ml_s m 73 (43 + k) (nI v) 73 j = nI (s_cv σ k v j) := s_hU hM
  have o1 := s_cv_ok (k := k) h0 hv
  have hle := s_bk_le σ k
  have k0 := h0.1
  by_cases c : s_bk σ k = σ 0
  · have hoc : s_oc σ k v = 0 := by
      unfold s_oc
      rw [if_pos c]
    unfold s_rp
    rw [hoc, if_pos rfl]
    refine ⟨_, hM1, fun a ha => ml_s_row ha, fun Φ => ?_⟩
    rw [x176_0, sp177 hM h0 (by omega), mk_v, x176_5, nI_add, x176_15 (by omega), ml_s_k (by omega), hM 0 (by decide), c, if_neg (fun z => z rfl), x176_26]
  · have hb : s_bk σ k < σ 0 := by omega
    have hb1 : s_bk σ k < s_cv σ k v 0 := by
      rw [s_cv_o (by decide)]
      exact hb
    have hv1 := s_blf_le (s_oke_of (fun _ => False) o1) hb1
    have hend := s_end_le hb1
    have hT1 := s_tot_le o1
    have ⟨l1, l2, l3, l4⟩ := o1.2.2.1 _ hb1
    have e31 : ml_s m 73 (43 + k) (nI v) 73 (31 + s_bk σ k) = nI (s_rom σ (s_bk σ k)) := by
      rw [hM1 _ (by omega), s_cv_o (by omega)]
      rfl
    have ef : s_frm (s_cv σ k v) (s_bk σ k) = s_frm σ (s_bk σ k) := s_cv_o (by omega)
    have hz := s_sz_le (f := s_blf (s_cv σ k v) (s_bk σ k)) (fo := s_frm σ (s_bk σ k)) l2 (by omega) hv1
    have start : ∀ Φ : mj_R → mj_W → Prop, wp Ln xs 176 0 [.ref 72, .int (nI k), .int (nI v), mj_hole] [] (u, ml_h m lm) Φ = wp Ln xs 176 41 [.ref 72, .int (nI k), .int (nI v), .int (nI (s_bk σ k))] [.int (nI (31 + s_bk σ k)), .ref 73, .int (nI (s_sz (s_blf (s_cv σ k v) (s_bk σ k)) (s_len σ (s_bk σ k)) (s_frm σ (s_bk σ k))))] (u, ml_h (ml_s m 73 (43 + k) (nI v)) lm) Φ := fun Φ => by
      rw [x176_0, sp177 hM h0 (by omega), mk_v, x176_5, nI_add, x176_15 (by omega), ml_s_k (by omega), hM 0 (by decide), if_pos (by rw [nI_eq (by omega) (by omega)]; exact c), x176_28, sp173 (b := s_bk σ k) hM1 (by omega) (by omega) l2 (by omega) hv1 l3, mk_v, x176_33, nI_add, s_cv_len (by omega), ef]
    rw [s_cv_len (by omega)] at hz
    by_cases c2 : s_sz (s_blf (s_cv σ k v) (s_bk σ k)) (s_len σ (s_bk σ k)) (s_frm σ (s_bk σ k)) ≤ s_rom σ (s_bk σ k)
    · have hoc : s_oc σ k v = 1 := by
        unfold s_oc
        rw [if_neg c, if_pos c2]
      unfold s_rp
      rw [hoc, if_neg (by decide), if_pos rfl]
      refine ⟨_, s_hU hM1, fun a ha => by rw [ml_s_row ha, ml_s_row ha], fun Φ => ?_⟩
      rw [start, x176_41 (by omega), e31, if_neg (nI_nlt c2 (by have := (h0.2.2.1 _ hb).2.2.2; omega)), x176_45, hM1 5 (by decide), s_cv_o (by decide), nI_add]
    · have hoc : s_oc σ k v = 2 := by
        unfold s_oc
        rw [if_neg c, if_neg c2]
      obtain ⟨m2, hM2, fr, e⟩ := sp161 (Ln := Ln) (xs := xs) (u := u) (lm := lm) (b := s_bk σ k) hM1 (s_oke_of (fun _ => False) o1) hb1
      unfold s_rp
      rw [hoc, if_neg (by decide), if_neg (by decide)]
      refine ⟨m2, hM2, fun a ha => by rw [fr a ha, ml_s_row ha], fun Φ => ?_⟩
      rw [start, x176_41 (by omega), e31, if_pos (nI_lt (by omega) (by omega)), x176_57, e, mk_n, x176_62]
theorem sp181_l (h0 : σ 0 ≤ 12) (h1 : 1 ≤ σ 0) : ∀ (d i : Nat) (m : ml_M), i + d = σ 0 - 1 → b ≤ i → (∀ k, k < 251 → m 73 k = nI (s_toi σ b i k)) → ∃ m', (∀ k, k < 251 → m' 73 k = nI (s_to σ b k)) ∧ (∀ a, a ≠ 73 → m' a = m a) ∧ ∀ Φ : mj_R → mj_W → Prop, wp Ln xs 181 12 [.ref 72, .int x, .int (nI i)] [] (u, ml_h m lm) Φ = Φ (.inl none) (u, ml_h m' lm)
  | 0, i, m, h, hb, hM => by
    obtain rfl : i = σ 0 - 1 := by omega
    refine ⟨m, hM, fun _ _ => rfl, fun Φ => ?_⟩
    have e0 : s_toi σ b (σ 0 - 1) 0 = σ 0 - 1 := if_pos rfl
    rw [x181_12, hM 0 (by decide), e0, if_pos (nI_le (Nat.le_refl _) (by omega)), x181_88]
  | d + 1, i, m, h, hb, hM => by
    have e0 : s_toi σ b i 0 = σ 0 - 1 := if_pos rfl
    have e1 : m 73 (7 + i + 1) = nI (σ (7 + i + 1)) := by rw [hM _ (by omega), s_toi_o (by omega) (by omega)]
    have e2 : m 73 (19 + i + 1) = nI (σ (19 + i + 1)) := by rw [hM _ (by omega), s_toi_o (by omega) (by omega)]
    have e3 : m 73 (31 + i + 1) = nI (σ (31 + i + 1)) := by rw [hM _ (by omega), s_toi_o (by omega) (by omega)]
    have hM1 := s_hU (i := 31 + i) (v := σ (31 + i + 1)) (s_hU (i := 19 + i) (v := σ (19 + i + 1)) (s_hU (i := 7 + i) (v := σ (7 + i + 1)) hM))
    rw [s_toi_s hb (by omega)] at hM1
    obtain ⟨m', hM', fr, e⟩ := sp181_l h0 h1 d (i + 1) _ (by omega) (by omega) hM1
    refine ⟨m', hM', fun a ha => by rw [fr a ha, ml_s_row ha, ml_s_row ha, ml_s_row ha], fun Φ => ?_⟩
    rw [x181_12, hM 0 (by decide), e0, if_neg (nI_ge (by omega) (by omega)), x181_22, nI_add, nI_add, x181_40 (by omega), e1, x181_41 (by omega), nI_add, nI_add, x181_60 (by omega), ml_s_k (by omega), e2, x181_61 (by omega), nI_add, nI_add, x181_80 (by omega), ml_s_k (by omega), ml_s_k (by omega), e3, x181_81 (by omega), nI_add]
    exact e Φ
theorem sp181 (hM : ∀ k, k < 251 → m 73 k = nI (σ k)) (h0 : σ 0 ≤ 12) (hb : b < σ 0) : ∃ m', (∀ k, k < 251 → m' 73 k = nI (s_to σ b k)) ∧ (∀ a, a ≠ 73 → m' a = m a) ∧ ∀ Φ : mj_R → mj_W → Prop, wp Ln xs 181 0 [.ref 72, .int (nI b), mj_hole] [] (u, ml_h m lm) Φ = Φ (.inl none) (u, ml_h m' lm) := by
  have hM1 := s_hU (i := 0) (v := σ 0 - 1) hM
  rw [← s_toi_0 σ b] at hM1
  obtain ⟨m', hM', fr, e⟩ := sp181_l (Ln := Ln) (xs := xs) (u := u) (lm := lm) (x := nI b) h0 (by omega) (σ 0 - 1 - b) b _ (by omega) (Nat.le_refl _) hM1
  refine ⟨m', hM', fun a ha => by rw [fr a ha, ml_s_row ha], fun Φ => ?_⟩
  rw [x181_0, hM 0 (by decide), pk_sub (by omega)]
  exact e Φ
theorem sp185_l (h0 : σ 0 < 12) : ∀ (d i : Nat) (m : ml_M), b + d = i → i ≤ σ 0 → (∀ k, k < 251 → m 73 k = nI (s_mpi σ i k)) → ∃ m', (∀ k, k < 251 → m' 73 k = nI (s_mp σ b k)) ∧ (∀ a, a ≠ 73 → m' a = m a) ∧ ∀ Φ : mj_R → mj_W → Prop, wp Ln xs 185 7 [.ref 72, .int (nI b), .int (nI i)] [] (u, ml_h m lm) Φ = Φ (.inl none) (u, ml_h m' lm)
  | 0, i, m, h, hi, hM => by
    obtain rfl : i = b := by omega
    have e0 : s_mpi σ i 0 = σ 0 := s_mpi_o (by omega)
    refine ⟨_, s_hU (i := 0) (v := σ 0 + 1) hM, fun a ha => ml_s_row ha, fun Φ => ?_⟩
    rw [x185_7, if_pos (nI_le (Nat.le_refl _) (by omega)), x185_78, hM 0 (by decide), e0, nI_add]
  | d + 1, i, m, h, hi, hM => by
    obtain ⟨j, rfl⟩ : ∃ j, i = j + 1 := ⟨i - 1, by omega⟩
    have e1 : m 73 (7 + (j + 1) - 1) = nI (σ (7 + j)) := by
      rw [show 7 + (j + 1) - 1 = 7 + j by omega, hM _ (by omega), s_mpi_o (by omega)]
    have e2 : m 73 (19 + (j + 1) - 1) = nI (σ (19 + j)) := by
      rw [show 19 + (j + 1) - 1 = 19 + j by omega, hM _ (by omega), s_mpi_o (by omega)]
    have e3 : m 73 (31 + (j + 1) - 1) = nI (σ (31 + j)) := by
      rw [show 31 + (j + 1) - 1 = 31 + j by omega, hM _ (by omega), s_mpi_o (by omega)]
    have hM1 := s_hU (i := 31 + (j + 1)) (v := σ (31 + j)) (s_hU (i := 19 + (j + 1)) (v := σ (19 + j)) (s_hU (i := 7 + (j + 1)) (v := σ (7 + j)) hM))
    rw [s_mpi_s (by omega) h0] at hM1
    obtain ⟨m', hM', fr, e⟩ := sp185_l h0 d j _ (by omega) (by omega) hM1
    refine ⟨m', hM', fun a ha => by rw [fr a ha, ml_s_row ha, ml_s_row ha, ml_s_row ha], fun Φ => ?_⟩
    rw [x185_7, if_neg (nI_ge (by omega) (by omega)), x185_12, nI_add, pk_sub (by omega), x185_30 (by omega), e1, x185_31 (by omega), nI_add, pk_sub (by omega), x185_50 (by omega), ml_s_k (by omega), e2, x185_51 (by omega), nI_add, pk_sub (by omega), x185_70 (by omega), ml_s_k (by omega), ml_s_k (by omega), e3, x185_71 (by omega), pk_m1]
    exact e Φ
theorem sp185 (hM : ∀ k, k < 251 → m 73 k = nI (σ k)) (h0 : σ 0 < 12) (hb : b < σ 0) : ∃ m', (∀ k, k < 251 → m' 73 k = nI (s_mp σ b k)) ∧ (∀ a, a ≠ 73 → m' a = m a) ∧ ∀ Φ : mj_R → mj_W → Prop, wp Ln xs 185 0 [.ref 72, .int (nI b), mj_hole] [] (u, ml_h m lm) Φ = Φ (.inl none) (u, ml_h m' lm) := by
  have hM1 := hM
  rw [← s_mpi_0 σ] at hM1
  have hM2 : ∀ k, k < 251 → m 73 k = nI (s_mpi σ (σ 0) k) := fun k hk => by rw [s_mpi_0]; exact hM k hk
  obtain ⟨m', hM', fr, e⟩ := sp185_l (Ln := Ln) (xs := xs) (u := u) (lm := lm) (b := b) h0 (σ 0 - b) (σ 0) m (by omega) (Nat.le_refl _) hM2
  refine ⟨m', hM', fr, fun Φ => ?_⟩
  rw [x185_0, hM 0 (by decide)]
  exact e Φ
/-- what a split gains, as the Model reckons it -/
def s_gn (σ : s_S) (b p : Nat) : Int32 := nI (s_rom σ b) - nI (s_rr (σ 2) (σ 4) (s_blf σ b) (s_len σ b) p) - nI 7
theorem sp183 (hM : ∀ k, k < 251 → m 73 k = nI (σ k)) (h0 : s_ok σ) (hb : b < σ 0) (h1 : 1 ≤ p) (h2 : p < s_len σ b) : wp Ln xs 183 0 [.ref 72, .int (nI b), .int (nI p), mj_hole] [] (u, ml_h m lm) Φ = Φ (.inl (some (.int (s_gn σ b p)))) (u, ml_h m lm) := by
  have hT := s_tot_le h0
  have hv := s_blf_le (s_oke_of (fun _ => False) h0) hb
  have hend := s_end_le hb
  obtain ⟨k0, k1, k3, k4, k5, k6, k7, k8, k9, k10⟩ := h0
  have ⟨l1, l2, l3, l4⟩ := k3 b hb
  have e31 : m 73 (31 + b) = nI (s_rom σ b) := hM _ (by omega)
  have e7 : m 73 (7 + b) = nI (s_len σ b) := hM _ (by omega)
  have ef : s_fv σ (s_sum (s_len σ) b + p) = fun i => s_blf σ b (p + i) := by
    funext i
    unfold s_fv s_blf
    rw [Nat.add_assoc]
  rw [x183_0, sp159 hM (by omega), mk_v, x183_5, nI_add, x183_14 (by omega), e31, sp184 (a := s_sum (s_len σ) b) hM h1 (by omega) (by omega) (fun i hi => hv i (by omega)) (by omega) (by omega) (by omega), mk_v, x183_21, nI_add, nI_add, x183_34 (by omega), e7, pk_sub (by omega), sp184 (a := s_sum (s_len σ) b + p) hM (by omega) (by omega) (by omega) (fun i hi => by rw [ef]; exact hv (p + i) (by omega)) (by omega) (by omega) (by omega), mk_v, x183_40, ef]
  unfold s_gn s_rr
  rw [← nI_add, Int32.sub_eq_add_neg (nI (s_rom σ b)) (nI _ + nI _), Int32.neg_add, Int32.sub_eq_add_neg (nI (s_rom σ b)), Int32.sub_eq_add_neg, Int32.sub_eq_add_neg, Int32.sub_eq_add_neg, Int32.add_assoc (nI (s_rom σ b)), ← Int32.sub_eq_add_neg (-_)]
  rfl
end MDB
