/-! ===== p31, pure: what the calls make of the counts, the values, the sums ===== -/
theorem q_i3 {X Y a c : Nat} (h : X + a = Y + c) : nI X = nI Y - (nI a - nI c) := by
  have e := s_dif h
  rw [Int32.sub_eq_add_neg, Int32.neg_sub, ← e, Int32.add_comm, Int32.sub_add_cancel]
theorem q_ss (a b c : Nat) : nI a - nI b - nI c = nI a - nI (b + c) := by
  rw [← nI_add, Int32.sub_eq_add_neg, Int32.sub_eq_add_neg, Int32.sub_eq_add_neg, Int32.neg_add, Int32.sub_eq_add_neg, Int32.add_assoc]
theorem q_da (a b : Int32) : a + (b - a) = b := by rw [Int32.add_comm, Int32.sub_add_cancel]
theorem q_gn_lt {a x y : Nat} (ha : a < 2 ^ 20) (hx : x < 2 ^ 20) (hy : y < 2 ^ 20) : nI a - nI x - nI 7 < nI a - nI y - nI 7 ↔ y < x := by
  rw [q_ss, q_ss, Int32.lt_iff_toInt_lt, pk_sub_toInt (by omega) (by omega), pk_sub_toInt (by omega) (by omega)]
  omega
theorem q_bp {z : Nat → Nat} : ∀ n, 0 < n → 1 ≤ s_bp z n ∧ ∀ k, 1 ≤ k → k ≤ n → z (s_bp z n) < z k ∨ (z (s_bp z n) = z k ∧ s_bp z n ≤ k)
  | 0, h => absurd h (Nat.lt_irrefl 0)
  | n + 1, _ => by
    rw [s_bp]
    by_cases c0 : n = 0
    · subst c0
      have e : s_bp z 0 = 0 := rfl
      rw [if_pos (Or.inl e)]
      refine ⟨by omega, fun k h1 h2 => Or.inr ?_⟩
      obtain rfl : k = 0 + 1 := by omega
      exact ⟨rfl, Nat.le_refl _⟩
    · obtain ⟨a, ih⟩ := q_bp (z := z) n (by omega)
      by_cases c : s_bp z n = 0 ∨ z (n + 1) < z (s_bp z n)
      · rw [if_pos c]
        have c2 := c.resolve_left (by omega)
        refine ⟨by omega, fun k h1 h2 => ?_⟩
        by_cases e : k = n + 1
        · subst e
          exact Or.inr ⟨rfl, Nat.le_refl _⟩
        · have h3 := ih k h1 (by omega)
          exact Or.inl (by omega)
      · rw [if_neg c]
        refine ⟨a, fun k h1 h2 => ?_⟩
        by_cases e : k = n + 1
        · subst e
          have hb := s_bp_le z n
          have : ¬ z (n + 1) < z (s_bp z n) := fun y => c (Or.inr y)
          omega
        · exact ih k h1 (by omega)
section QEF
variable {σ : s_S} {b c k v p : Nat}
theorem q_bs (hn : 2 ≤ s_len σ b) : 1 ≤ s_bs σ b ∧ s_bs σ b < s_len σ b ∧ ∀ k, 1 ≤ k → k < s_len σ b → s_rr (σ 2) (σ 4) (s_blf σ b) (s_len σ b) (s_bs σ b) < s_rr (σ 2) (σ 4) (s_blf σ b) (s_len σ b) k ∨ (s_rr (σ 2) (σ 4) (s_blf σ b) (s_len σ b) (s_bs σ b) = s_rr (σ 2) (σ 4) (s_blf σ b) (s_len σ b) k ∧ s_bs σ b ≤ k) := by
  obtain ⟨h1, h2⟩ := q_bp (z := s_rr (σ 2) (σ 4) (s_blf σ b) (s_len σ b)) (s_len σ b - 1) (by omega)
  have h3 := s_bp_le (s_rr (σ 2) (σ 4) (s_blf σ b) (s_len σ b)) (s_len σ b - 1)
  exact ⟨h1, by unfold s_bs; omega, fun k a c => h2 k a (by omega)⟩
theorem q_bs1 (hn : s_len σ b = 1) : s_bs σ b = 0 := by
  unfold s_bs
  rw [hn]
  rfl
theorem q_rr_b (h0 : s_ok σ) (hb : b < σ 0) (h1 : 0 < k) (h2 : k < s_len σ b) : s_rr (σ 2) (σ 4) (s_blf σ b) (s_len σ b) k < 2 ^ 20 := by
  have := s_rr_le (sa := σ 2) (al := σ 4) (h0.2.2.1 b hb).2.1 h1 h2 (s_blf_le (s_oke_of (fun _ => False) h0) hb)
  omega
/-- no place splits better than the best one -/
theorem q_gn_best (h0 : s_ok σ) (hb : b < σ 0) (hn : 2 ≤ s_len σ b) (h1 : 1 ≤ k) (h2 : k < s_len σ b) : s_gn σ b k < s_gn σ b (s_bs σ b) ∨ (s_gn σ b k = s_gn σ b (s_bs σ b) ∧ s_bs σ b ≤ k) := by
  obtain ⟨a1, a2, a3⟩ := q_bs (σ := σ) (b := b) hn
  have hr := (h0.2.2.1 b hb).2.2.2
  rcases a3 k h1 h2 with a | ⟨a, c⟩
  · exact Or.inl ((q_gn_lt (by omega) (q_rr_b h0 hb h1 h2) (q_rr_b h0 hb a1 a2)).mpr a)
  · refine Or.inr ⟨?_, c⟩
    unfold s_gn
    rw [a]
theorem q_gn_le (h0 : s_ok σ) (hb : b < σ 0) (hn : 2 ≤ s_len σ b) (h1 : 1 ≤ k) (h2 : k < s_len σ b) : ¬ s_gn σ b (s_bs σ b) < s_gn σ b k := by
  rcases q_gn_best h0 hb hn h1 h2 with a | ⟨a, _⟩
  · exact Int32.lt_asymm a
  · rw [a]
    exact Int32.lt_irrefl
/-! values and lengths -/
theorem q_wa_tot (h0 : σ 0 ≤ 12) (hb : b < 12) : s_tot (s_wa σ b) = s_tot σ := s_wa_tot hb h0
theorem q_jn_val (h0 : s_ok σ) (hb : b + 1 < σ 0) : s_val (s_jn σ b) k = s_val σ k := by
  have k0 := h0.1
  unfold s_jn
  rw [s_wa_val (by omega)]
  exact s_jp_o k0 hb (by omega) (by omega)
theorem q_jn_tot (h0 : s_ok σ) (hb : b + 1 < σ 0) : s_tot (s_jn σ b) = s_tot σ := by
  have k0 := h0.1
  unfold s_jn
  rw [s_wa_tot (by omega) (by rw [s_jp_0]; omega), s_jp_tot k0 hb]
theorem q_jn_0 (h0 : s_ok σ) (hb : b + 1 < σ 0) : s_jn σ b 0 = σ 0 - 1 := by
  have k0 := h0.1
  unfold s_jn
  rw [s_wa_o (by omega) (by omega) (by omega), s_jp_0]
theorem q_spl_val (h12 : σ 0 < 12) (hb : b < σ 0) : s_val (s_spl σ b p) k = s_val σ k := by
  unfold s_spl
  rw [s_wa_val (by omega), s_wa_val (by omega)]
  exact s_spp_o h12 hb (by omega) (by omega)
theorem q_spl_0 (h12 : σ 0 < 12) (hb : b < σ 0) : s_spl σ b p 0 = σ 0 + 1 := by
  unfold s_spl
  rw [s_wa_o (by omega) (by omega) (by omega), s_wa_o (by omega) (by omega) (by omega), s_spp_0]
theorem q_spl_tot (h12 : σ 0 < 12) (hb : b < σ 0) (hp : p ≤ s_len σ b) : s_tot (s_spl σ b p) = s_tot σ := by
  unfold s_spl
  rw [s_wa_tot (by omega) (by rw [s_wa_o (by omega) (by omega) (by omega), s_spp_0]; omega), s_wa_tot (by omega) (by rw [s_spp_0]; omega), s_spp_tot h12 hb hp]
theorem q_spl_len (h12 : σ 0 < 12) (hb : b < σ 0) : s_len (s_spl σ b p) b = p := by
  unfold s_spl
  rw [s_wa_len (by omega) (by omega), s_wa_len (by omega) (by omega)]
  exact s_spp_b
theorem q_spl_An (h0 : s_ok σ) (h12 : σ 0 < 12) (hb : b < σ 0) (h1 : 1 ≤ p) (hp : p < s_len σ b) : q_An (s_spl σ b p) b ∧ q_An (s_spl σ b p) (b + 1) := by
  have o := s_spp_ok h0 h12 hb h1 hp
  have o1 := s_wa_ok o (b := b) (by rw [s_spp_0]; omega)
  have e0 : s_wa (s_spp σ b p) b 0 = σ 0 + 1 := by rw [s_wa_o (by omega) (by omega) (by omega), s_spp_0]
  unfold s_spl
  refine ⟨q_eq_An (q_wa_eq (by omega) (by omega) (by omega)) (o1.2.2.1 b (by omega)).1 (s_wa_o (by omega) (by omega) (by omega)) (s_wa_o (by omega) (by omega) (by omega)) ?_ (q_wa_An (by omega)), q_wa_An (by omega)⟩
  have := o1.2.2.2.2.2.1
  omega
/-- the rooms behind a split -/
theorem q_spl_wg (h0 : s_ok σ) (h12 : σ 0 < 12) (hb : b < σ 0) (h1 : 1 ≤ p) (hp : p < s_len σ b) : s_wg (s_spl σ b p) + s_rom σ b = s_wg σ + (s_rr (σ 2) (σ 4) (s_blf σ b) (s_len σ b) p + 7) := by
  obtain ⟨r1, r2⟩ := s_spl_rom h0 h12 hb h1 hp
  have e0 := q_spl_0 (p := p) h12 hb
  have e1 : s_spl σ b p 1 = σ 1 := by
    unfold s_spl
    rw [s_wa_o (by omega) (by omega) (by omega), s_wa_o (by omega) (by omega) (by omega), s_spp_o h12 hb (by omega) (by omega)]
  have hlo : ∀ c, c < b → s_rom (s_spl σ b p) c = s_rom σ c := fun c hc => by
    unfold s_spl
    rw [s_wa_rom (by omega) (by omega), if_neg (by omega), s_wa_rom (by omega) (by omega), if_neg (by omega)]
    exact (s_spp_lo h12 hb hc).2.2
  have hhi : ∀ c, b + 1 < c → c ≤ σ 0 → s_rom (s_spl σ b p) c = s_rom σ (c - 1) := fun c hc hc2 => by
    unfold s_spl
    rw [s_wa_rom (by omega) (by omega), if_neg (by omega), s_wa_rom (by omega) (by omega), if_neg (by omega)]
    exact (s_spp_hi h12 hc hc2).2.2
  have a := s_sum_jn (f := s_rom (s_spl σ b p)) (g := fun i => if i = b then s_rom (s_spl σ b p) b + s_rom (s_spl σ b p) (b + 1) else s_rom σ i) (b := b) (fun i hi => by
    show (if i = b then _ else s_rom σ i) = _
    rw [if_neg (by omega), hlo i hi]) (if_pos rfl) (σ 0 - 1 - b) (fun i h1 h2 => by
    show (if i = b then _ else s_rom σ i) = _
    rw [if_neg (by omega), hhi (i + 1) (by omega) (by omega), Nat.add_sub_cancel])
  rw [show b + 1 + (σ 0 - 1 - b) + 1 = σ 0 + 1 by omega, show b + 1 + (σ 0 - 1 - b) = σ 0 by omega] at a
  have a2 := s_sum_1 (f := s_rom σ) (g := fun i => if i = b then s_rom (s_spl σ b p) b + s_rom (s_spl σ b p) (b + 1) else s_rom σ i) (b := b) (σ 0) hb (fun i hi hne => if_neg hne)
  rw [if_pos rfl, a, r1, r2] at a2
  unfold s_wg s_rr
  rw [e0, e1]
  omega
theorem q_wa_wgI (h0 : s_ok σ) (hb : b < σ 0) : nI (s_wg (s_wa σ b)) = nI (s_wg σ) - (nI (s_rom σ b) - nI (s_rom (s_wa σ b) b)) := by
  have k0 := h0.1
  have h := s_wg_wa k0 hb
  rw [s_wa_rom (by omega) (by omega), if_pos rfl]
  exact q_i3 h
theorem q_spl_wgI (h0 : s_ok σ) (h12 : σ 0 < 12) (hb : b < σ 0) (h1 : 1 ≤ p) (hp : p < s_len σ b) : nI (s_wg (s_spl σ b p)) = nI (s_wg σ) - s_gn σ b p := by
  unfold s_gn
  rw [q_ss]
  exact q_i3 (q_spl_wg h0 h12 hb h1 hp)
theorem q_st_wg {s z : Nat} (hs : s < 3) : s_wg (s_upd σ (2 + s) z) = s_wg σ := by
  have e : s_rom (s_upd σ (2 + s) z) = s_rom σ := by
    funext i
    exact s_upd_n (by omega)
  unfold s_wg
  rw [e, s_upd_n (by omega), s_upd_n (by omega)]
theorem q_ct_0 (h12 : σ 0 < 12) : s_ct σ 0 = σ 0 + 1 := by
  unfold s_ct
  rw [s_wa_o (by omega) (by omega) (by omega), s_ctp_0]
theorem q_ct_1 (h12 : σ 0 < 12) : s_ct σ 1 = 0 := by
  unfold s_ct
  rw [s_wa_o (by omega) (by omega) (by omega), s_ctp_1]
theorem q_ct_val (h12 : σ 0 < 12) : s_val (s_ct σ) k = s_val σ k := by
  unfold s_ct
  rw [s_wa_val h12]
  exact s_ctp_o (by omega) (by omega) (by omega)
theorem q_ct_An (h12 : σ 0 < 12) : q_An (s_ct σ) (σ 0) := by
  unfold s_ct
  exact q_wa_An h12
/-- a value written -/
theorem q_put_val (h0 : s_ok σ) (hc : s_can σ) : s_val (s_put σ v) (s_tot σ) = v := by
  unfold s_put
  by_cases c : σ 1 + 1 < σ 3
  · rw [if_pos c, s_pt_val, if_pos rfl]
  · rw [if_neg c, q_ct_val (by rw [s_pt_o (by decide) (by decide)]; exact hc.resolve_right c), s_pt_val, if_pos rfl]
theorem q_put_t (c : σ 1 + 1 < σ 3) : s_put σ v 1 = σ 1 + 1 ∧ s_put σ v 0 = σ 0 := by
  unfold s_put
  rw [if_pos c, s_pt_1, s_pt_o (by decide) (by decide)]
  exact ⟨rfl, rfl⟩
theorem q_put_c (c : ¬ σ 1 + 1 < σ 3) (h12 : σ 0 < 12) : s_put σ v 1 = 0 ∧ s_put σ v 0 = σ 0 + 1 := by
  have e : s_pt σ v 0 = σ 0 := s_pt_o (by decide) (by decide)
  unfold s_put
  rw [if_neg c, q_ct_1 (by omega), q_ct_0 (by omega), e]
  exact ⟨rfl, rfl⟩
/-- a value changed -/
theorem q_rp_v (h0 : s_ok σ) : s_val (s_rp σ k v) k = v ∧ s_tot (s_rp σ k v) = s_tot σ ∧ s_rp σ k v 0 = σ 0 := by
  have k0 := h0.1
  have hl := s_bk_le σ k
  have e : s_val (s_cv σ k v) k = v := by rw [s_cv_val, if_pos rfl]
  have et : s_tot (s_cv σ k v) = s_tot σ := s_cv_tot k0
  have e0 : s_cv σ k v 0 = σ 0 := s_cv_o (by decide)
  unfold s_rp
  by_cases c0 : s_oc σ k v = 0
  · rw [if_pos c0]
    exact ⟨e, et, e0⟩
  · rw [if_neg c0]
    by_cases c1 : s_oc σ k v = 1
    · rw [if_pos c1]
      refine ⟨?_, ?_, by rw [s_upd_n (by decide), e0]⟩
      · have e9 : s_upd (s_cv σ k v) 5 (σ 5 + 1) (43 + k) = s_cv σ k v (43 + k) := s_upd_n (by omega)
        exact e9.trans e
      · rw [← et]
        unfold s_tot
        rw [s_upd_n (by decide), s_upd_n (by decide)]
        congr 1
        exact s_sum_congr _ (fun i hi => s_upd_n (by omega))
    · rw [if_neg c1]
      have hb : s_bk σ k < σ 0 := by
        have : s_bk σ k ≠ σ 0 := fun z => c0 (by unfold s_oc; rw [if_pos z])
        omega
      exact ⟨by rw [s_wa_val (by omega), e], by rw [s_wa_tot (by omega) (by omega), et], by rw [s_wa_o (by omega) (by omega) (by omega), e0]⟩
theorem q_rp_5 (h0 : s_ok σ) : s_rp σ k v 5 = σ 5 + (if s_oc σ k v = 1 then 1 else 0) ∧ s_rp σ k v 6 = σ 6 + (if s_oc σ k v = 2 then 1 else 0) := by
  have k0 := h0.1
  have hl := s_bk_le σ k
  have ho := s_oc_lt σ k v
  have e5 : s_cv σ k v 5 = σ 5 := s_cv_o (by decide)
  have e6 : s_cv σ k v 6 = σ 6 := s_cv_o (by decide)
  unfold s_rp
  by_cases c0 : s_oc σ k v = 0
  · rw [if_pos c0, c0, if_neg (by decide), if_neg (by decide), e5, e6]
    exact ⟨rfl, rfl⟩
  · rw [if_neg c0]
    by_cases c1 : s_oc σ k v = 1
    · rw [if_pos c1, c1, if_pos rfl, if_neg (by decide), s_upd_s, s_upd_n (by decide), e6]
      exact ⟨rfl, rfl⟩
    · rw [if_neg c1, if_neg c1, if_pos (by omega), s_wa_6, s_wa_o (by omega) (by omega) (by omega), e5, e6]
      exact ⟨rfl, rfl⟩
theorem q_oc_0 : (s_oc σ k v = 0) ↔ s_bk σ k = σ 0 := by
  unfold s_oc
  by_cases c : s_bk σ k = σ 0
  · rw [if_pos c]
    exact ⟨fun _ => c, fun _ => rfl⟩
  · rw [if_neg c]
    refine ⟨fun h => ?_, fun h => absurd h c⟩
    split at h <;> omega
/-- the same value once more is put in place -/
theorem q_oc_same (h0 : s_ok σ) (hJ : q_J σ q_n) (h : s_val σ k = v) : s_oc σ k v ≤ 1 := by
  have hl := s_bk_le σ k
  have e : s_cv σ k v = σ := by
    funext j
    unfold s_cv
    by_cases c : j = 43 + k
    · subst c
      rw [s_upd_s, ← h]
      rfl
    · rw [s_upd_n c]
  unfold s_oc
  by_cases c : s_bk σ k = σ 0
  · rw [if_pos c]
    omega
  · have hj := hJ (s_bk σ k) (by omega) (fun z => z)
    unfold s_ub at hj
    rw [if_neg c, e, if_pos hj]
    omega
theorem q_rp_An (h0 : s_ok σ) (h : s_oc σ k v = 2) : s_bk σ k < σ 0 ∧ q_An (s_rp σ k v) (s_bk σ k) := by
  have k0 := h0.1
  have hl := s_bk_le σ k
  have hb : s_bk σ k < σ 0 := by
    have : s_bk σ k ≠ σ 0 := fun z => by
      rw [q_oc_0.mpr z] at h
      exact absurd h (by decide)
    omega
  refine ⟨hb, ?_⟩
  unfold s_rp
  rw [if_neg (by omega), if_neg (by omega)]
  exact q_wa_An (by omega)
/-- a block dropped: what stood behind it comes to its place -/
theorem q_dp_v (h0 : s_ok σ) (hb : b < σ 0) (h : s_sum (s_len σ) b + s_len σ b < s_tot σ) : s_val (s_dp σ b) (s_sum (s_len σ) b) = s_val σ (s_sum (s_len σ) b + s_len σ b) := by
  rw [s_dp_val h0.1, if_pos (by omega)]
/-- with a sample of all values the form that is picked is the lightest one -/
theorem q_An_min (h0 : s_ok σ) (hb : b < σ 0) (h : q_An σ b) (h16 : σ 2 = 16) {fo : Nat} (hf : fo ≤ 4) (ha : σ 4 / 2 ^ fo % 2 = 1) : s_ub σ b ≤ s_sz (s_blf σ b) (s_len σ b) fo := by
  have hl := h0.2.2.1 b hb
  unfold s_ub
  rw [← h.1]
  unfold s_pkb s_pk
  have e : (if s_len σ b < σ 2 then s_len σ b else σ 2) = s_len σ b := by
    split <;> omega
  rw [e]
  exact q_li_min 4 fo hf (Or.inr ha)
theorem q_pk_al (h0 : s_ok σ) : s_pkb σ b ≤ 4 ∧ σ 4 / 2 ^ s_pkb σ b % 2 = 1 := ⟨s_li_le _ _ _, q_li_all h0.2.2.2.2.2.2.2.2.2 4⟩
/-- the whole column anew, of the lightest forms: the fewest bits are no more -/
theorem q_ach_b {w : Nat → Nat → Nat} {l r : Nat → Nat} {N : Nat} (hl : ∀ c, c < N → 1 ≤ l c ∧ l c ≤ 16) (hw : ∀ c, c < N → w (s_sum l c) (l c) = 1000 * (r c + 7) + 1) : ∀ d c, c + d = N → ∃ k, s_ach w d (s_sum l c) (s_sum l N) k ∧ k + (1000 * (s_sum r c + 7 * c) + c) = 1000 * (s_sum r N + 7 * N) + N
  | 0, c, h => by
    obtain rfl : c = N := by omega
    exact ⟨0, ⟨rfl, rfl⟩, by omega⟩
  | d + 1, c, h => by
    obtain ⟨k, a, e⟩ := q_ach_b hl hw d (c + 1) (by omega)
    have h1 := hl c (by omega)
    have h2 := hw c (by omega)
    have h3 := s_sum_mono (f := l) (show c + 1 ≤ N by omega)
    refine ⟨w (s_sum l c) (l c) + k, ⟨l c, k, h1.1, h1.2, h3, rfl, a⟩, ?_⟩
    rw [s_sum] at e
    omega
theorem q_fin (h0 : s_ok σ) (h1 : σ 1 = 0) (h16 : σ 2 = 16) (h : ∀ c, c < σ 0 → q_An σ c) : s_K σ / 1000 ≤ s_wg σ := by
  have k0 := h0.1
  have hw : ∀ c, c < σ 0 → s_w σ (s_sum (s_len σ) c) (s_len σ c) = 1000 * (s_rom σ c + 7) + 1 := fun c hc => by
    have hl := h0.2.2.1 c hc
    obtain ⟨a, e⟩ := h c hc
    unfold s_w s_cb
    rw [← e]
    unfold s_ub
    rw [← a]
    unfold s_pkb s_pk
    have e2 : (if s_len σ c < σ 2 then s_len σ c else σ 2) = s_len σ c := by
      split <;> omega
    have e3 : s_blf σ c = s_fv σ (s_sum (s_len σ) c) := rfl
    rw [e2, e3]
    omega
  obtain ⟨k, a, e⟩ := q_ach_b (w := s_w σ) (l := s_len σ) (r := s_rom σ) (N := σ 0) (fun c hc => ⟨(h0.2.2.1 c hc).1, (h0.2.2.1 c hc).2.1⟩) hw (σ 0) 0 (by omega)
  have et : s_sum (s_len σ) (σ 0) = s_tot σ := by
    unfold s_tot
    omega
  have e0 : s_sum (s_len σ) 0 = 0 := rfl
  have e1 : s_sum (s_rom σ) 0 = 0 := rfl
  rw [et, e0] at a
  rw [e1] at e
  have := (s_K_mm h0).2 _ _ a
  unfold s_wg
  omega
end QEF
