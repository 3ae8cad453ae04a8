/-! ===== join, split, drop, set, keep, goBack, undo ===== -/
theorem s_sum_jn {f g : Nat → Nat} {b : Nat} (h1 : ∀ i, i < b → g i = f i) (h2 : g b = f b + f (b + 1)) : ∀ d, (∀ i, b < i → i < b + 1 + d → g i = f (i + 1)) → s_sum g (b + 1 + d) = s_sum f (b + 1 + d + 1)
  | 0, _ => by
    rw [Nat.add_zero, s_sum, s_sum, s_sum, s_sum_congr b h1, h2, Nat.add_assoc]
  | d + 1, h => by
    have ih := s_sum_jn h1 h2 d (fun i a c => h i a (by omega))
    rw [show b + 1 + (d + 1) = b + 1 + d + 1 by omega, s_sum, ih, s_sum.eq_2 f (b + 1 + d + 1), h (b + 1 + d) (by omega) (by omega)]
theorem s_sum_dr {f g : Nat → Nat} {b : Nat} (h1 : ∀ i, i < b → g i = f i) : ∀ d, (∀ i, b ≤ i → i < b + d → g i = f (i + 1)) → s_sum g (b + d) + f b = s_sum f (b + d + 1)
  | 0, _ => by
    rw [Nat.add_zero, s_sum, s_sum_congr b h1]
  | d + 1, h => by
    have ih := s_sum_dr h1 d (fun i a c => h i a (by omega))
    rw [show b + (d + 1) = b + d + 1 by omega, s_sum, s_sum.eq_2 f (b + d + 1), ← ih, h (b + d) (by omega) (by omega)]
    omega
section JNS
variable {σ : s_S} {b p k c : Nat}
theorem s_toi_i {i : Nat} (h0 : k ≠ 0) (h : (7 + b ≤ k ∧ k < 7 + i) ∨ (19 + b ≤ k ∧ k < 19 + i) ∨ (31 + b ≤ k ∧ k < 31 + i)) : s_toi σ b i k = σ (k + 1) := by
  unfold s_toi
  rw [if_neg h0, if_pos h]
def s_jp (σ : s_S) (b : Nat) : s_S := s_to (s_upd σ (7 + b + 1) (σ (7 + b + 1) + σ (7 + b))) b
/-- two blocks joined -/
def s_jn (σ : s_S) (b : Nat) : s_S := s_wa (s_jp σ b) b
theorem s_jp_0 : s_jp σ b 0 = σ 0 - 1 := by
  unfold s_jp s_to s_toi
  rw [if_pos rfl, s_upd_n (by omega)]
theorem s_jp_o (h0 : σ 0 ≤ 12) (hb : b + 1 < σ 0) (hk : k ≠ 0) (hk2 : k < 7 ∨ 43 ≤ k) : s_jp σ b k = σ k := by
  unfold s_jp s_to
  rw [s_upd_n (by omega), s_toi_o hk (by omega), s_upd_n (by omega)]
theorem s_jp_lo (h0 : σ 0 ≤ 12) (hb : b + 1 < σ 0) (hc : c < b) : s_jp σ b (7 + c) = σ (7 + c) ∧ s_jp σ b (19 + c) = σ (19 + c) ∧ s_jp σ b (31 + c) = σ (31 + c) := by
  unfold s_jp s_to
  rw [s_upd_n (by omega), s_toi_o (by omega) (by omega), s_toi_o (by omega) (by omega), s_toi_o (by omega) (by omega), s_upd_n (by omega), s_upd_n (by omega), s_upd_n (by omega)]
  exact ⟨rfl, rfl, rfl⟩
theorem s_jp_eq (hb : b + 1 < σ 0) : s_jp σ b (7 + b) = σ (7 + b + 1) + σ (7 + b) := by
  unfold s_jp s_to s_toi
  rw [s_upd_n (by omega), if_neg (by omega), if_pos (by omega), s_upd_s]
theorem s_jp_hi (h0 : σ 0 ≤ 12) (hc : b < c) (hc2 : c + 1 < σ 0) : s_jp σ b (7 + c) = σ (7 + (c + 1)) ∧ s_jp σ b (19 + c) = σ (19 + (c + 1)) ∧ s_jp σ b (31 + c) = σ (31 + (c + 1)) := by
  unfold s_jp s_to
  rw [s_upd_n (show 0 ≠ 7 + b + 1 by omega), s_toi_i (k := 7 + c) (by omega) (by omega), s_toi_i (k := 19 + c) (by omega) (by omega), s_toi_i (k := 31 + c) (by omega) (by omega), s_upd_n (by omega), s_upd_n (by omega), s_upd_n (by omega)]
  exact ⟨rfl, rfl, rfl⟩
theorem s_jp_sum (h0 : σ 0 ≤ 12) (hb : b + 1 < σ 0) : s_sum (s_len (s_jp σ b)) (σ 0 - 1) = s_sum (s_len σ) (σ 0) := by
  have e := s_sum_jn (f := s_len σ) (g := s_len (s_jp σ b)) (b := b) (fun i hi => (s_jp_lo h0 hb hi).1) (by show s_jp σ b (7 + b) = σ (7 + b) + σ (7 + (b + 1)); rw [s_jp_eq hb, Nat.add_comm]; rfl) (σ 0 - 2 - b) (fun i h1 h2 => (s_jp_hi h0 h1 (by omega)).1)
  rw [show b + 1 + (σ 0 - 2 - b) + 1 = σ 0 by omega, show b + 1 + (σ 0 - 2 - b) = σ 0 - 1 by omega] at e
  exact e
theorem s_jp_tot (h0 : σ 0 ≤ 12) (hb : b + 1 < σ 0) : s_tot (s_jp σ b) = s_tot σ := by
  show s_sum (s_len (s_jp σ b)) (s_jp σ b 0) + s_jp σ b 1 = s_sum (s_len σ) (σ 0) + σ 1
  rw [s_jp_0, s_jp_sum h0 hb, s_jp_o h0 hb (by decide) (by decide)]
theorem s_jp_ok (h : s_ok σ) (hb : b + 1 < σ 0) (hl : s_len σ b + s_len σ (b + 1) ≤ 16) : s_oke (s_jp σ b) (fun c => c = b) := by
  obtain ⟨k0, k1, k3, k4, k5⟩ := h
  unfold s_oke
  rw [s_jp_0, s_jp_tot k0 hb, s_jp_o (k := 1) k0 hb (by decide) (by decide), s_jp_o (k := 2) k0 hb (by decide) (by decide), s_jp_o (k := 3) k0 hb (by decide) (by decide), s_jp_o (k := 4) k0 hb (by decide) (by decide)]
  refine ⟨by omega, k1, fun c hc => ?_, fun c hc hE => ?_, fun k hk => ?_, k5⟩
  · by_cases h1 : c < b
    · unfold s_len
      rw [(s_jp_lo k0 hb h1).1]
      have := k3 c (by omega)
      exact ⟨this.1, this.2.1⟩
    · by_cases h2 : c = b
      · subst h2
        have e : s_len (s_jp σ c) c = s_len σ (c + 1) + s_len σ c := s_jp_eq hb
        have := (k3 c (by omega)).1
        rw [e]
        omega
      · unfold s_len
        rw [(s_jp_hi k0 (show b < c by omega) (by omega)).1]
        have := k3 (c + 1) (by omega)
        exact ⟨this.1, this.2.1⟩
  · by_cases h1 : c < b
    · unfold s_frm s_rom
      rw [(s_jp_lo k0 hb h1).2.1, (s_jp_lo k0 hb h1).2.2]
      exact (k3 c (by omega)).2.2
    · have h2 : b < c := by
        have h9 : ¬ c = b := hE
        omega
      unfold s_frm s_rom
      rw [(s_jp_hi k0 h2 (by omega)).2.1, (s_jp_hi k0 h2 (by omega)).2.2]
      exact (k3 (c + 1) (by omega)).2.2
  · unfold s_val
    rw [s_jp_o k0 hb (by omega) (by omega)]
    exact k4 k hk
theorem s_jn_ok (h : s_ok σ) (hb : b + 1 < σ 0) (hl : s_len σ b + s_len σ (b + 1) ≤ 16) : s_ok (s_jn σ b) := (s_oke_0 (fun c z => z.2 z.1)).mp (s_wa_ok (s_jp_ok h hb hl) (by rw [s_jp_0]; omega))
theorem s_jp_rep {m : ml_M} (h0 : s_ok σ) (h : RepC m 2 σ) (hb : b + 1 < σ 0) : RepCe (ml_s (ml_s (s_dn m (b + 1) (σ 0 - 1)) 2 6 (nI (σ 0 - 1))) 4 b (nI (s_len σ b + s_len σ (b + 1)))) 2 (s_jp σ b) (fun c => c = b) := by
  obtain ⟨g5, g6, g7, g8, g1, g2, g3, g4, gs⟩ := h
  have k0 := h0.1
  have hT := s_tot_le h0
  have dn3 : ∀ a k, a < 4 ∨ 6 < a → s_dn m (b + 1) (σ 0 - 1) a k = m a k := fun a k ha => if_neg (fun z => by omega)
  have dnlo : ∀ a c, c < b + 1 → s_dn m (b + 1) (σ 0 - 1) a c = m a c := fun a c hc => if_neg (fun z => by omega)
  have dnhi : ∀ a c, 4 ≤ a ∧ a ≤ 6 → b < c → c + 1 < σ 0 → s_dn m (b + 1) (σ 0 - 1) a c = m a (c + 1) := fun a c ha hc hc2 => if_pos ⟨ha, by omega, by omega⟩
  unfold RepCe
  rw [s_jp_0, s_jp_tot k0 hb, s_jp_o (k := 5) k0 hb (by decide) (by decide), s_jp_o (k := 6) k0 hb (by decide) (by decide)]
  refine ⟨?_, ?_, ?_, ?_, fun k hk => ?_, fun c hc => ?_, fun c hc hE => ?_, fun c hc hE => ?_, fun k hk => ?_⟩
  · rw [ml_s_a (by decide), ml_s_k (by decide), dn3 _ _ (by omega), g5]
  · rw [ml_s_a (by decide), ml_s_s]
  · rw [ml_s_a (by decide), ml_s_k (by decide), dn3 _ _ (by omega), g7]
  · rw [ml_s_a (by decide), ml_s_k (by decide), dn3 _ _ (by omega), g8]
  · rw [ml_s_a (by decide), ml_s_a (by decide), dn3 _ _ (by omega), g1 k hk]
    unfold s_val
    rw [s_jp_o k0 hb (by omega) (by omega)]
  · unfold s_len
    by_cases h2 : c = b
    · subst h2
      rw [ml_s_s, s_jp_eq hb, Nat.add_comm]
      rfl
    · rw [ml_s_k h2, ml_s_a (by decide)]
      by_cases h1 : c < b
      · rw [dnlo _ _ (by omega), (s_jp_lo k0 hb h1).1]
        exact g2 c (by omega)
      · rw [dnhi _ _ (by omega) (by omega) (by omega), (s_jp_hi k0 (show b < c by omega) (by omega)).1]
        exact g2 (c + 1) (by omega)
  · have h2 : ¬ c = b := hE
    rw [ml_s_a (by decide), ml_s_a (by decide)]
    unfold s_frm
    by_cases h1 : c < b
    · rw [dnlo _ _ (by omega), (s_jp_lo k0 hb h1).2.1]
      exact g3 c (by omega)
    · rw [dnhi _ _ (by omega) (by omega) (by omega), (s_jp_hi k0 (show b < c by omega) (by omega)).2.1]
      exact g3 (c + 1) (by omega)
  · have h2 : ¬ c = b := hE
    rw [ml_s_a (by decide), ml_s_a (by decide)]
    unfold s_rom
    by_cases h1 : c < b
    · rw [dnlo _ _ (by omega), (s_jp_lo k0 hb h1).2.2]
      exact g4 c (by omega)
    · rw [dnhi _ _ (by omega) (by omega) (by omega), (s_jp_hi k0 (show b < c by omega) (by omega)).2.2]
      exact g4 (c + 1) (by omega)
  · rw [ml_s_a (by decide), ml_s_a (by decide), dn3 _ _ (by omega), s_jp_o k0 hb (by omega) (by omega)]
    exact gs k hk
/-! a block split -/
def s_spp (σ : s_S) (b p : Nat) : s_S := s_upd (s_upd (s_mp σ b) (7 + b) p) (7 + b + 1) (σ (7 + b) - p)
def s_spl (σ : s_S) (b p : Nat) : s_S := s_wa (s_wa (s_spp σ b p) b) (b + 1)
theorem s_spp_0 : s_spp σ b p 0 = σ 0 + 1 := by
  unfold s_spp s_mp
  rw [s_upd_n (by omega), s_upd_n (by omega), s_upd_s]
theorem s_spp_o (h0 : σ 0 < 12) (hb : b < σ 0) (hk : k ≠ 0) (hk2 : k < 7 ∨ 43 ≤ k) : s_spp σ b p k = σ k := by
  unfold s_spp s_mp
  rw [s_upd_n (by omega), s_upd_n (by omega), s_upd_n hk, s_mpi_o (by omega)]
theorem s_spp_lo (h0 : σ 0 < 12) (hb : b < σ 0) (hc : c < b) : s_spp σ b p (7 + c) = σ (7 + c) ∧ s_spp σ b p (19 + c) = σ (19 + c) ∧ s_spp σ b p (31 + c) = σ (31 + c) := by
  unfold s_spp s_mp
  rw [s_upd_n (by omega), s_upd_n (by omega), s_upd_n (by omega), s_mpi_o (by omega), s_upd_n (by omega), s_upd_n (by omega), s_upd_n (by omega), s_mpi_o (by omega), s_upd_n (by omega), s_upd_n (by omega), s_upd_n (by omega), s_mpi_o (by omega)]
  exact ⟨rfl, rfl, rfl⟩
theorem s_spp_b : s_spp σ b p (7 + b) = p := by
  unfold s_spp
  rw [s_upd_n (by omega), s_upd_s]
theorem s_spp_b1 : s_spp σ b p (7 + (b + 1)) = σ (7 + b) - p := s_upd_s _ _ _
theorem s_spp_hi (h0 : σ 0 < 12) (hc : b + 1 < c) (hc2 : c ≤ σ 0) : s_spp σ b p (7 + c) = σ (7 + (c - 1)) ∧ s_spp σ b p (19 + c) = σ (19 + (c - 1)) ∧ s_spp σ b p (31 + c) = σ (31 + (c - 1)) := by
  unfold s_spp s_mp
  rw [s_upd_n (by omega), s_upd_n (by omega), s_upd_n (by omega), s_upd_n (by omega), s_upd_n (by omega), s_upd_n (by omega), s_upd_n (by omega), s_upd_n (by omega), s_upd_n (by omega)]
  unfold s_mpi
  rw [if_pos (by omega), if_pos (by omega), if_pos (by omega), show 7 + c - 1 = 7 + (c - 1) by omega, show 19 + c - 1 = 19 + (c - 1) by omega, show 31 + c - 1 = 31 + (c - 1) by omega]
  exact ⟨rfl, rfl, rfl⟩
theorem s_spp_sum (h0 : σ 0 < 12) (hb : b < σ 0) (hp : p ≤ s_len σ b) : s_sum (s_len (s_spp σ b p)) (σ 0 + 1) = s_sum (s_len σ) (σ 0) := by
  have e := s_sum_jn (f := s_len (s_spp σ b p)) (g := s_len σ) (b := b) (fun i hi => (s_spp_lo h0 hb hi).1.symm) (by have e1 : s_len (s_spp σ b p) b = p := s_spp_b; have e2 : s_len (s_spp σ b p) (b + 1) = s_len σ b - p := s_spp_b1; rw [e1, e2]; omega) (σ 0 - 1 - b) (fun i h1 h2 => (s_spp_hi (c := i + 1) h0 (by omega) (by omega)).1.symm)
  rw [show b + 1 + (σ 0 - 1 - b) = σ 0 by omega] at e
  exact e.symm
theorem s_spp_tot (h0 : σ 0 < 12) (hb : b < σ 0) (hp : p ≤ s_len σ b) : s_tot (s_spp σ b p) = s_tot σ := by
  show s_sum (s_len (s_spp σ b p)) (s_spp σ b p 0) + s_spp σ b p 1 = s_sum (s_len σ) (σ 0) + σ 1
  rw [s_spp_0, s_spp_sum h0 hb hp, s_spp_o h0 hb (by decide) (by decide)]
theorem s_spp_ok (h : s_ok σ) (h0 : σ 0 < 12) (hb : b < σ 0) (h1 : 1 ≤ p) (hp : p < s_len σ b) : s_oke (s_spp σ b p) (fun c => c = b ∨ c = b + 1) := by
  obtain ⟨k0, k1, k3, k4, k5⟩ := h
  have hb16 := (k3 b hb).2.1
  unfold s_oke
  rw [s_spp_0, s_spp_tot h0 hb (by omega), s_spp_o (k := 1) h0 hb (by decide) (by decide), s_spp_o (k := 2) h0 hb (by decide) (by decide), s_spp_o (k := 3) h0 hb (by decide) (by decide), s_spp_o (k := 4) h0 hb (by decide) (by decide)]
  refine ⟨by omega, k1, fun c hc => ?_, fun c hc hE => ?_, fun k hk => ?_, k5⟩
  · by_cases c1 : c < b
    · unfold s_len
      rw [(s_spp_lo h0 hb c1).1]
      have := k3 c (by omega)
      exact ⟨this.1, this.2.1⟩
    · by_cases c2 : c = b
      · subst c2
        have e : s_len (s_spp σ c p) c = p := s_spp_b
        rw [e]
        omega
      · by_cases c3 : c = b + 1
        · subst c3
          have e : s_len (s_spp σ b p) (b + 1) = s_len σ b - p := s_spp_b1
          rw [e]
          omega
        · unfold s_len
          rw [(s_spp_hi h0 (show b + 1 < c by omega) (by omega)).1]
          have := k3 (c - 1) (by omega)
          exact ⟨this.1, this.2.1⟩
  · by_cases c1 : c < b
    · unfold s_frm s_rom
      rw [(s_spp_lo h0 hb c1).2.1, (s_spp_lo h0 hb c1).2.2]
      exact (k3 c (by omega)).2.2
    · have c2 : b + 1 < c := by
        have h9 : ¬ (c = b ∨ c = b + 1) := hE
        omega
      unfold s_frm s_rom
      rw [(s_spp_hi h0 c2 (by omega)).2.1, (s_spp_hi h0 c2 (by omega)).2.2]
      exact (k3 (c - 1) (by omega)).2.2
  · unfold s_val
    rw [s_spp_o h0 hb (by omega) (by omega)]
    exact k4 k hk
theorem s_spl_ok (h : s_ok σ) (h0 : σ 0 < 12) (hb : b < σ 0) (h1 : 1 ≤ p) (hp : p < s_len σ b) : s_ok (s_spl σ b p) := by
  have o1 := s_wa_ok (s_spp_ok h h0 hb h1 hp) (b := b) (by rw [s_spp_0]; omega)
  refine (s_oke_0 (fun c z => ?_)).mp (s_wa_ok o1 (b := b + 1) (by rw [s_wa_o (by decide) (by omega) (by omega), s_spp_0]; omega))
  obtain ⟨⟨z1, z2⟩, z3⟩ := z
  rcases z1 with z1 | z1
  · exact z2 z1
  · exact z3 z1
theorem s_spp_rep {m : ml_M} (h0 : s_ok σ) (h : RepC m 2 σ) (h12 : σ 0 < 12) (hb : b < σ 0) (hp : p ≤ s_len σ b) : RepCe (ml_s (ml_s (ml_s (s_up m (b + 1) (σ 0)) 2 6 (nI (σ 0 + 1))) 4 b (nI p)) 4 (b + 1) (nI (s_len σ b - p))) 2 (s_spp σ b p) (fun c => c = b ∨ c = b + 1) := by
  obtain ⟨g5, g6, g7, g8, g1, g2, g3, g4, gs⟩ := h
  have hT := s_tot_le h0
  have dn3 : ∀ a k, a < 4 ∨ 6 < a → s_up m (b + 1) (σ 0) a k = m a k := fun a k ha => if_neg (fun z => by omega)
  have dnlo : ∀ a c, c < b + 1 → s_up m (b + 1) (σ 0) a c = m a c := fun a c hc => if_neg (fun z => by omega)
  have dnhi : ∀ a c, 4 ≤ a ∧ a ≤ 6 → b + 1 < c → c ≤ σ 0 → s_up m (b + 1) (σ 0) a c = m a (c - 1) := fun a c ha hc hc2 => if_pos ⟨ha, by omega, by omega⟩
  unfold RepCe
  rw [s_spp_0, s_spp_tot h12 hb hp, s_spp_o (k := 5) h12 hb (by decide) (by decide), s_spp_o (k := 6) h12 hb (by decide) (by decide)]
  refine ⟨?_, ?_, ?_, ?_, fun k hk => ?_, fun c hc => ?_, fun c hc hE => ?_, fun c hc hE => ?_, fun k hk => ?_⟩
  · rw [ml_s_a (by decide), ml_s_a (by decide), ml_s_k (by decide), dn3 _ _ (by omega), g5]
  · rw [ml_s_a (by decide), ml_s_a (by decide), ml_s_s]
  · rw [ml_s_a (by decide), ml_s_a (by decide), ml_s_k (by decide), dn3 _ _ (by omega), g7]
  · rw [ml_s_a (by decide), ml_s_a (by decide), ml_s_k (by decide), dn3 _ _ (by omega), g8]
  · rw [ml_s_a (by decide), ml_s_a (by decide), ml_s_a (by decide), dn3 _ _ (by omega), g1 k hk]
    unfold s_val
    rw [s_spp_o h12 hb (by omega) (by omega)]
  · unfold s_len
    by_cases c3 : c = b + 1
    · subst c3
      rw [ml_s_s, s_spp_b1]
    · by_cases c2 : c = b
      · subst c2
        rw [ml_s_k (by omega), ml_s_s, s_spp_b]
      · rw [ml_s_k c3, ml_s_k c2, ml_s_a (by decide)]
        by_cases c1 : c < b
        · rw [dnlo _ _ (by omega), (s_spp_lo h12 hb c1).1]
          exact g2 c (by omega)
        · rw [dnhi _ _ (by omega) (by omega) (by omega), (s_spp_hi h12 (show b + 1 < c by omega) (by omega)).1]
          exact g2 (c - 1) (by omega)
  · have h9 : ¬ (c = b ∨ c = b + 1) := hE
    rw [ml_s_a (by decide), ml_s_a (by decide), ml_s_a (by decide)]
    unfold s_frm
    by_cases c1 : c < b
    · rw [dnlo _ _ (by omega), (s_spp_lo h12 hb c1).2.1]
      exact g3 c (by omega)
    · rw [dnhi _ _ (by omega) (by omega) (by omega), (s_spp_hi h12 (show b + 1 < c by omega) (by omega)).2.1]
      exact g3 (c - 1) (by omega)
  · have h9 : ¬ (c = b ∨ c = b + 1) := hE
    rw [ml_s_a (by decide), ml_s_a (by decide), ml_s_a (by decide)]
    unfold s_rom
    by_cases c1 : c < b
    · rw [dnlo _ _ (by omega), (s_spp_lo h12 hb c1).2.2]
      exact g4 c (by omega)
    · rw [dnhi _ _ (by omega) (by omega) (by omega), (s_spp_hi h12 (show b + 1 < c by omega) (by omega)).2.2]
      exact g4 (c - 1) (by omega)
  · rw [ml_s_a (by decide), ml_s_a (by decide), ml_s_a (by decide), dn3 _ _ (by omega), s_spp_o h12 hb (by omega) (by omega)]
    exact gs k hk
/-- the room of both behind a split -/
theorem s_spl_rom (h : s_ok σ) (h0 : σ 0 < 12) (hb : b < σ 0) (h1 : 1 ≤ p) (hp : p < s_len σ b) : s_rom (s_spl σ b p) b = s_sz (s_blf σ b) p (s_pk (σ 2) (σ 4) (s_blf σ b) p) ∧ s_rom (s_spl σ b p) (b + 1) = s_sz (fun i => s_blf σ b (p + i)) (s_len σ b - p) (s_pk (σ 2) (σ 4) (fun i => s_blf σ b (p + i)) (s_len σ b - p)) := by
  have e0 : s_sum (s_len (s_spp σ b p)) b = s_sum (s_len σ) b := s_sum_congr _ (fun i hi => (s_spp_lo h0 hb hi).1)
  have el : s_len (s_spp σ b p) b = p := s_spp_b
  have el1 : s_len (s_spp σ b p) (b + 1) = s_len σ b - p := s_spp_b1
  have ef : s_blf (s_spp σ b p) b = s_blf σ b := by
    funext i
    unfold s_blf
    rw [e0]
    exact s_spp_o h0 hb (by omega) (by omega)
  have ef1 : s_blf (s_wa (s_spp σ b p) b) (b + 1) = fun i => s_blf σ b (p + i) := by
    funext i
    have e1 : s_sum (s_len (s_wa (s_spp σ b p) b)) (b + 1) = s_sum (s_len σ) b + p := by
      rw [s_sum_congr (g := s_len (s_spp σ b p)) (b + 1) (fun i hi => s_wa_len (by omega) (by omega)), s_sum, e0, el]
    unfold s_blf
    rw [e1, s_wa_val (by omega), Nat.add_assoc]
    exact s_spp_o h0 hb (by omega) (by omega)
  have e2 : s_wa (s_spp σ b p) b 2 = σ 2 := by rw [s_wa_o (by decide) (by omega) (by omega), s_spp_o h0 hb (by decide) (by decide)]
  have e4 : s_wa (s_spp σ b p) b 4 = σ 4 := by rw [s_wa_o (by decide) (by omega) (by omega), s_spp_o h0 hb (by decide) (by decide)]
  have q2 : s_spp σ b p 2 = σ 2 := s_spp_o h0 hb (by decide) (by decide)
  have q4 : s_spp σ b p 4 = σ 4 := s_spp_o h0 hb (by decide) (by decide)
  have ew : s_len (s_wa (s_spp σ b p) b) (b + 1) = s_len σ b - p := by rw [s_wa_len (by omega) (by omega), el1]
  unfold s_spl
  rw [s_wa_rom (by omega) (by omega), if_neg (by omega), s_wa_rom (by omega) (by omega), if_pos rfl, s_wa_rom (by omega) (by omega), if_pos rfl]
  unfold s_pkb
  rw [ef, el, q2, q4, ef1, ew, e2, e4]
  exact ⟨rfl, rfl⟩
/-! a block dropped -/
def s_dvi (σ : s_S) (st c i : Nat) : s_S := fun k => if st ≤ k ∧ k < i then σ (k + c) else σ k
def s_dv (σ : s_S) (b : Nat) : s_S := s_dvi σ (43 + s_sum (s_len σ) b) (s_len σ b) (43 + s_tot σ - s_len σ b)
def s_dp (σ : s_S) (b : Nat) : s_S := s_to (s_dv σ b) b
theorem s_dv_o (hk : k < 43) : s_dv σ b k = σ k := if_neg (fun z => by omega)
theorem s_dp_0 : s_dp σ b 0 = σ 0 - 1 := by
  unfold s_dp s_to s_toi
  rw [if_pos rfl, s_dv_o (by decide)]
theorem s_dp_o (hk : k ≠ 0) (hk2 : k < 7) : s_dp σ b k = σ k := by
  unfold s_dp s_to
  rw [s_toi_o hk (by omega), s_dv_o (by omega)]
theorem s_dp_lo (h0 : σ 0 ≤ 12) (hb : b < σ 0) (hc : c < b) : s_dp σ b (7 + c) = σ (7 + c) ∧ s_dp σ b (19 + c) = σ (19 + c) ∧ s_dp σ b (31 + c) = σ (31 + c) := by
  have e0 : s_dv σ b 0 = σ 0 := s_dv_o (by decide)
  unfold s_dp s_to
  rw [e0, s_toi_o (by omega) (by omega), s_toi_o (by omega) (by omega), s_toi_o (by omega) (by omega), s_dv_o (by omega), s_dv_o (by omega), s_dv_o (by omega)]
  exact ⟨rfl, rfl, rfl⟩
theorem s_dp_hi (h0 : σ 0 ≤ 12) (hc : b ≤ c) (hc2 : c + 1 < σ 0) : s_dp σ b (7 + c) = σ (7 + (c + 1)) ∧ s_dp σ b (19 + c) = σ (19 + (c + 1)) ∧ s_dp σ b (31 + c) = σ (31 + (c + 1)) := by
  have e0 : s_dv σ b 0 = σ 0 := s_dv_o (by decide)
  unfold s_dp s_to
  rw [e0, s_toi_i (k := 7 + c) (by omega) (by omega), s_toi_i (k := 19 + c) (by omega) (by omega), s_toi_i (k := 31 + c) (by omega) (by omega), s_dv_o (by omega), s_dv_o (by omega), s_dv_o (by omega)]
  exact ⟨rfl, rfl, rfl⟩
theorem s_dp_val (h0 : σ 0 ≤ 12) (k : Nat) : s_val (s_dp σ b) k = if s_sum (s_len σ) b ≤ k ∧ k < s_tot σ - s_len σ b then s_val σ (k + s_len σ b) else s_val σ k := by
  have e0 : s_dv σ b 0 = σ 0 := s_dv_o (by decide)
  unfold s_val s_dp s_to
  rw [e0, s_toi_o (by omega) (by omega)]
  unfold s_dv s_dvi
  by_cases hc : s_sum (s_len σ) b ≤ k ∧ k < s_tot σ - s_len σ b
  · rw [if_pos hc, if_pos (by omega), Nat.add_assoc]
  · rw [if_neg hc, if_neg (by omega)]
theorem s_dp_tot (h0 : σ 0 ≤ 12) (hb : b < σ 0) : s_tot (s_dp σ b) = s_tot σ - s_len σ b := by
  have e := s_sum_dr (f := s_len σ) (g := s_len (s_dp σ b)) (b := b) (fun i hi => (s_dp_lo h0 hb hi).1) (σ 0 - 1 - b) (fun i h1 h2 => (s_dp_hi h0 h1 (by omega)).1)
  rw [show b + (σ 0 - 1 - b) + 1 = σ 0 by omega, show b + (σ 0 - 1 - b) = σ 0 - 1 by omega] at e
  show s_sum (s_len (s_dp σ b)) (s_dp σ b 0) + s_dp σ b 1 = s_sum (s_len σ) (σ 0) + σ 1 - s_len σ b
  rw [s_dp_0, s_dp_o (by decide) (by decide), ← e]
  omega
theorem s_dp_ok (h : s_ok σ) (hb : b < σ 0) : s_ok (s_dp σ b) := by
  obtain ⟨k0, k1, k3, k4, k5⟩ := h
  have hend := s_end_le hb
  unfold s_ok
  rw [s_dp_0, s_dp_tot k0 hb, s_dp_o (k := 1) (by decide) (by decide), s_dp_o (k := 2) (by decide) (by decide), s_dp_o (k := 3) (by decide) (by decide), s_dp_o (k := 4) (by decide) (by decide)]
  refine ⟨by omega, k1, fun c hc => ?_, fun k hk => ?_, k5⟩
  · unfold s_len s_frm s_rom
    by_cases c1 : c < b
    · rw [(s_dp_lo k0 hb c1).1, (s_dp_lo k0 hb c1).2.1, (s_dp_lo k0 hb c1).2.2]
      exact k3 c (by omega)
    · rw [(s_dp_hi k0 (show b ≤ c by omega) (by omega)).1, (s_dp_hi k0 (show b ≤ c by omega) (by omega)).2.1, (s_dp_hi k0 (show b ≤ c by omega) (by omega)).2.2]
      exact k3 (c + 1) (by omega)
  · rw [s_dp_val k0]
    split
    · exact k4 _ (by omega)
    · exact k4 k (by omega)
theorem s_dp_rep {m : ml_M} (h0 : s_ok σ) (h : RepC m 2 σ) (hb : b < σ 0) : RepC (ml_s (s_dn (ml_s (s_rm m (s_sum (s_len σ) b) (s_len σ b) (s_tot σ - s_len σ b)) 2 5 (nI (s_tot σ - s_len σ b))) b (σ 0 - 1)) 2 6 (nI (σ 0 - 1))) 2 (s_dp σ b) := by
  obtain ⟨g5, g6, g7, g8, g1, g2, g3, g4, gs⟩ := h
  have k0 := h0.1
  have hend := s_end_le hb
  have rm : ∀ a k, a ≠ 3 → s_rm m (s_sum (s_len σ) b) (s_len σ b) (s_tot σ - s_len σ b) a k = m a k := fun a k ha => if_neg (fun z => ha z.1)
  have dn3 : ∀ (M : ml_M) a k, a < 4 ∨ 6 < a → s_dn M b (σ 0 - 1) a k = M a k := fun M a k ha => if_neg (fun z => by omega)
  have dnlo : ∀ (M : ml_M) a c, c < b → s_dn M b (σ 0 - 1) a c = M a c := fun M a c hc => if_neg (fun z => by omega)
  have dnhi : ∀ (M : ml_M) a c, 4 ≤ a ∧ a ≤ 6 → b ≤ c → c + 1 < σ 0 → s_dn M b (σ 0 - 1) a c = M a (c + 1) := fun M a c ha hc hc2 => if_pos ⟨ha, by omega, by omega⟩
  unfold RepC
  rw [s_dp_0, s_dp_tot k0 hb, s_dp_o (k := 5) (by decide) (by decide), s_dp_o (k := 6) (by decide) (by decide)]
  refine ⟨?_, ml_s_s _ _ _ _, ?_, ?_, fun k hk => ?_, fun c hc => ?_, fun c hc => ?_, fun c hc => ?_, fun k hk => ?_⟩
  · rw [ml_s_k (by decide), dn3 _ _ _ (by omega), ml_s_s]
  · rw [ml_s_k (by decide), dn3 _ _ _ (by omega), ml_s_k (by decide), rm _ _ (by decide), g7]
  · rw [ml_s_k (by decide), dn3 _ _ _ (by omega), ml_s_k (by decide), rm _ _ (by decide), g8]
  · rw [ml_s_a (by decide), dn3 _ _ _ (by omega), ml_s_a (by decide), s_dp_val k0]
    unfold s_rm
    by_cases hc : s_sum (s_len σ) b ≤ k
    · rw [if_pos ⟨rfl, hc, hk⟩, if_pos ⟨hc, hk⟩]
      exact g1 _ (by omega)
    · rw [if_neg (fun z => hc z.2.1), if_neg (fun z => hc z.1)]
      exact g1 k (by omega)
  · rw [show s_len (s_dp σ b) c = s_dp σ b (7 + c) from rfl, ml_s_a (by decide)]
    by_cases c1 : c < b
    · rw [dnlo _ _ _ c1, ml_s_a (by decide), rm _ _ (by decide), (s_dp_lo k0 hb c1).1]
      exact g2 c (by omega)
    · rw [dnhi _ _ _ (by omega) (by omega) (by omega), ml_s_a (by decide), rm _ _ (by decide), (s_dp_hi k0 (show b ≤ c by omega) (by omega)).1]
      exact g2 (c + 1) (by omega)
  · unfold s_frm
    rw [ml_s_a (by decide)]
    by_cases c1 : c < b
    · rw [dnlo _ _ _ c1, ml_s_a (by decide), rm _ _ (by decide), (s_dp_lo k0 hb c1).2.1]
      exact g3 c (by omega)
    · rw [dnhi _ _ _ (by omega) (by omega) (by omega), ml_s_a (by decide), rm _ _ (by decide), (s_dp_hi k0 (show b ≤ c by omega) (by omega)).2.1]
      exact g3 (c + 1) (by omega)
  · unfold s_rom
    rw [ml_s_a (by decide)]
    by_cases c1 : c < b
    · rw [dnlo _ _ _ c1, ml_s_a (by decide), rm _ _ (by decide), (s_dp_lo k0 hb c1).2.2]
      exact g4 c (by omega)
    · rw [dnhi _ _ _ (by omega) (by omega) (by omega), ml_s_a (by decide), rm _ _ (by decide), (s_dp_hi k0 (show b ≤ c by omega) (by omega)).2.2]
      exact g4 (c + 1) (by omega)
  · rw [ml_s_a (by decide), dn3 _ _ _ (by omega), ml_s_a (by decide), rm _ _ (by decide), s_dp_o (by omega) (by omega)]
    exact gs k hk
end JNS
