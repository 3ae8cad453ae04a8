/-! ===== texts: the Model ===== -/
def FT (m m' : ml_M) : Prop := (∀ a, a ≠ 72 → m' a = m a) ∧ ∀ k, k < 9 ∨ 11 < k → m' 72 k = m 72 k
theorem FT_r (m : ml_M) : FT m m := ⟨fun _ _ => rfl, fun _ _ => rfl⟩
theorem FT_t {a b c : ml_M} (h : FT a b) (g : FT b c) : FT a c := ⟨fun x hx => by rw [g.1 x hx, h.1 x hx], fun k hk => by rw [g.2 k hk, h.2 k hk]⟩
theorem FT_s {m : ml_M} {k : Nat} {v : Int32} (h : 9 ≤ k) (h2 : k ≤ 11) : FT m (ml_s m 72 k v) := ⟨fun a ha => ml_s_row ha, fun j hj => ml_s_k (by omega)⟩
/-- the text in the Model, its place at p -/
def TM (m : ml_M) (L : Nat) (c : Nat → Nat) : Prop := L ≤ 60 ∧ m 72 7 = nI L ∧ (∀ k, k < L → m 77 k = nI (c k)) ∧ ∀ k, k < L → c k ≤ 126
theorem TM_f {m m' : ml_M} {L : Nat} {c : Nat → Nat} (h : TM m L c) (g : FT m m') : TM m' L c := ⟨h.1, by rw [g.2 7 (by decide)]; exact h.2.1, fun k hk => by rw [g.1 77 (by decide)]; exact h.2.2.1 k hk, h.2.2.2⟩
theorem s_ld_s {c : Nat → Nat} {σ : s_S} {k : Nat} (h : (48 ≤ c k ∧ c k ≤ 57) ∨ c k = 42) : s_ld c σ (k + 1) = s_ld c σ k := if_pos h
section MTX
variable {Ln : Nat} {xs : Nat → Int32} {u : mj_U} {m : ml_M} {lm : ml_J} {Φ : mj_R → mj_W → Prop} {σ τ : s_S} {n t tl v k L p q s x : Nat} {ss : Nat → s_S} {tx c : Nat → Nat} {y : Int32}
theorem sp194_t {lo hi : Nat} (hT : TM m L c) (h9 : m 72 9 = nI p) (hp : p < L) (h1 : lo ≤ c p) (h2 : c p ≤ hi) (hh : hi < 2 ^ 31) : wp Ln xs 194 0 [.ref 72, .int (nI lo), .int (nI hi)] [] (u, ml_h m lm) Φ = Φ (.inl (some (.int (nI 1)))) (u, ml_h m lm) := by
  have hL := hT.1
  rw [x194_0, hT.2.1, h9, if_neg (nI_ge hp (by omega)), x194_11, h9, x194_19 (by omega), hT.2.2.1 p hp, sp152_t h1 h2 hh, mk_v, x194_25, if_neg s_10, x194_28]
theorem sp194_f {lo hi : Nat} (hT : TM m L c) (h9 : m 72 9 = nI p) (hpl : p ≤ L) (hp : p < L → c p < lo ∨ hi < c p) (hl : lo < 2 ^ 31) (hh : hi < 2 ^ 31) : wp Ln xs 194 0 [.ref 72, .int (nI lo), .int (nI hi)] [] (u, ml_h m lm) Φ = Φ (.inl (some (.int (nI 0)))) (u, ml_h m lm) := by
  have hL := hT.1
  rw [x194_0, hT.2.1, h9]
  by_cases h : L ≤ p
  · rw [if_pos (nI_le h (by omega)), x194_32]
  · have b := hT.2.2.2 p (by omega)
    rw [if_neg (nI_ge (by omega) (by omega)), x194_11, h9, x194_19 (by omega), hT.2.2.1 p (by omega), sp152_f (by rw [nI_ltI (by omega) hl, nI_ltI hh (by omega)]; exact hp (by omega)), mk_v, x194_25, if_pos rfl, x194_32]
theorem sp195_t {z : Nat} (hz : z < 2 ^ 31) (hT : TM m L c) (h9 : m 72 9 = nI p) (hp : p < L) (h1 : c p = z) : wp Ln xs 195 0 [.ref 72, .int (nI z), mj_hole] [] (u, ml_h m lm) Φ = Φ (.inl (some (.int (nI 1)))) (u, ml_h (ml_s m 72 9 (nI (p + 1))) lm) := by
  rw [x195_0, sp194_t hT h9 hp (Nat.le_of_eq h1.symm) (Nat.le_of_eq h1) hz, mk_v, x195_6, if_neg s_10, x195_16, h9, x195_21 rfl, nI_add]
theorem sp195_f {z : Nat} (hz : z < 2 ^ 31) (hT : TM m L c) (h9 : m 72 9 = nI p) (hpl : p ≤ L) (hp : p < L → c p ≠ z) : wp Ln xs 195 0 [.ref 72, .int (nI z), mj_hole] [] (u, ml_h m lm) Φ = Φ (.inl (some (.int (nI 0)))) (u, ml_h (ml_s m 72 9 (nI p)) lm) := by
  rw [x195_0, sp194_f hT h9 hpl (fun h => by have := hp h; omega) hz hz, mk_v, x195_6, if_pos rfl, x195_20, h9, x195_21 rfl, nI_add, Nat.add_zero]
/-! a value read -/
theorem sp193_x (hT : TM m L c) (h9 : m 72 9 = nI q) (h10 : m 72 10 = nI (s_num c q)) (hq : q ≤ L) (hn : s_num c q ≤ 999) (h : s_num c q = 0 ∨ (q < L → ¬ (48 ≤ c q ∧ c q ≤ 57)) ∨ (q < L ∧ (48 ≤ c q ∧ c q ≤ 57) ∧ 999 < 10 * s_num c q + c q - 48)) : wp Ln xs 193 39 [.ref 72] [] (u, ml_h m lm) Φ = Φ (.inl (some (.int (nI 1)))) (u, ml_h m lm) := by
  have hL := hT.1
  rw [x193_39, h10]
  by_cases h0 : s_num c q = 0
  · rw [h0, if_pos (nI_le (Nat.le_refl _) (by decide)), x193_120]
  · rw [if_neg (nI_ge (by omega) (by omega)), x193_46]
    rcases h.resolve_left h0 with h | ⟨h1, h2, h3⟩
    · rw [sp194_f hT h9 hq (fun z => by have := h z; omega) (by decide) (by decide), mk_v, x193_54, if_pos rfl, x193_120]
    · rw [sp194_t hT h9 h1 h2.1 h2.2 (by decide), mk_v, x193_54, if_neg s_10, x193_57, h9, h10, pk_mul, x193_72 (by omega), hT.2.2.1 q h1, nI_add, pk_sub (by omega), if_pos (nI_lt h3 (by omega)), x193_120]
theorem sp193_l (hT0 : L ≤ 60) : ∀ (d q : Nat) (m : ml_M), s_dfa c q + d = 3 → 1 ≤ s_dfa c q → q ≤ L → TM m L c → m 72 9 = nI q → m 72 10 = nI (s_num c q) → ∃ m' q', q ≤ q' ∧ q' ≤ L ∧ (s_dfa c q' = 1 ∨ s_dfa c q' = 2 ∨ s_dfa c q' = 3) ∧ (q' = L ∨ c q' = 42 ∨ c q' = 44 ∨ s_dfa c (q' + 1) = 7) ∧ FT m m' ∧ m' 72 9 = nI q' ∧ m' 72 10 = nI (s_num c q') ∧ m' 72 11 = m 72 11 ∧ (∀ σ, s_ld c σ q' = s_ld c σ q) ∧ ∀ Φ : mj_R → mj_W → Prop, wp Ln xs 193 39 [.ref 72] [] (u, ml_h m lm) Φ = Φ (.inl (some (.int (nI 1)))) (u, ml_h m' lm)
  | 0, q, m, h, h1, hq, hT, h9, h10 => by
    have ht := s_ti_c c q
    unfold s_ti at ht
    have e3 : s_dfa c q = 3 := by omega
    refine ⟨m, q, Nat.le_refl _, hq, by omega, ?_, FT_r m, h9, h10, rfl, fun _ => rfl, fun Φ => ?_⟩
    · by_cases hc : q = L
      · exact Or.inl hc
      · have e : s_dfa c (q + 1) = s_bv (c q) := by
          rw [s_dfa, e3]
          rfl
        have := s_bv_i (c q)
        omega
    · refine sp193_x hT h9 h10 hq (by omega) ?_
      by_cases hn : s_num c q = 0
      · exact Or.inl hn
      · by_cases hd : q < L ∧ 48 ≤ c q ∧ c q ≤ 57
        · exact Or.inr (Or.inr ⟨hd.1, hd.2, by omega⟩)
        · exact Or.inr (Or.inl (fun z w => hd ⟨z, w⟩))
  | d + 1, q, m, h, h1, hq, hT, h9, h10 => by
    have ht := s_ti_c c q
    unfold s_ti at ht
    by_cases hd : q < L ∧ 48 ≤ c q ∧ c q ≤ 57
    · obtain ⟨hl, hd⟩ := hd
      have e1 : s_num c (q + 1) = 10 * s_num c q + c q - 48 := if_pos hd
      have e2 : s_dfa c (q + 1) = s_dfa c q + 1 := by
        have : s_dfa c q = 1 ∨ s_dfa c q = 2 := by omega
        rw [s_dfa]
        rcases this with e | e
        · rw [e]
          exact if_pos hd
        · rw [e]
          exact if_pos hd
      have hF : FT m (ml_s (ml_s m 72 10 (nI (s_num c (q + 1)))) 72 9 (nI (q + 1))) := FT_t (FT_s (by decide) (by decide)) (FT_s (by decide) (by decide))
      obtain ⟨m', q', g1, g2, g3, g4, g5, g6, g7, g8, g9, e⟩ := sp193_l hT0 d (q + 1) _ (by omega) (by omega) (by omega) (TM_f hT hF) (ml_s_s _ _ _ _) (by rw [ml_s_k (by decide), ml_s_s])
      refine ⟨m', q', by omega, g2, g3, g4, FT_t hF g5, g6, g7, by rw [g8, ml_s_k (by decide), ml_s_k (by decide)], fun σ => by rw [g9, s_ld_s (Or.inl hd)], fun Φ => ?_⟩
      have e9 := e Φ
      rw [e1] at e9
      rw [x193_39, h10, if_neg (nI_ge (by omega) (by omega)), x193_46, sp194_t hT h9 hl hd.1 hd.2 (by decide), mk_v, x193_54, if_neg s_10, x193_57, h9, h10, pk_mul, x193_72 (by omega), hT.2.2.1 q hl, nI_add, pk_sub (by omega), if_neg (nI_nlt (by omega) (by omega)), x193_83, h9, h10, pk_mul, x193_99 (by omega), hT.2.2.1 q hl, nI_add, pk_sub (by omega), ml_s_k (show 9 ≠ 10 by decide), h9, nI_add]
      exact e9
    · refine ⟨m, q, Nat.le_refl _, hq, by omega, ?_, FT_r m, h9, h10, rfl, fun _ => rfl, fun Φ => ?_⟩
      · by_cases hc : q = L
        · exact Or.inl hc
        · have hnd : ¬ (48 ≤ c q ∧ c q ≤ 57) := fun w => hd ⟨by omega, w⟩
          have e : s_dfa c (q + 1) = s_bv (c q) := by
            have : s_dfa c q = 1 ∨ s_dfa c q = 2 := by omega
            rw [s_dfa]
            rcases this with e | e
            · rw [e]
              exact if_neg hnd
            · rw [e]
              exact if_neg hnd
          have := s_bv_i (c q)
          omega
      · exact sp193_x hT h9 h10 hq (by omega) (Or.inr (Or.inl (fun z w => hd ⟨z, w⟩)))
/-- times read -/
theorem sp196 (hT : TM m L c) (h9 : m 72 9 = nI p) (hp : p ≤ L) (h4 : s_dfa c p = 4) : ∃ m' q, p ≤ q ∧ q ≤ L ∧ FT m m' ∧ m' 72 9 = nI q ∧ m' 72 10 = m 72 10 ∧ (∀ σ, s_ld c σ q = s_ld c σ p) ∧ ((s_dfa c q = 6 ∧ s_vv c q = s_vv c p ∧ m' 72 11 = nI (s_num c q) ∧ ∀ Φ : mj_R → mj_W → Prop, wp Ln xs 196 0 [.ref 72] [] (u, ml_h m lm) Φ = Φ (.inl (some (.int (nI 1)))) (u, ml_h m' lm)) ∨ ((s_dfa c q = 4 ∨ s_dfa c q = 5) ∧ (q = L ∨ s_dfa c (q + 1) = 7) ∧ ∀ Φ : mj_R → mj_W → Prop, wp Ln xs 196 0 [.ref 72] [] (u, ml_h m lm) Φ = Φ (.inl (some (.int (nI 0)))) (u, ml_h m' lm))) := by
  have hL := hT.1
  have ht := s_ti_c c p
  unfold s_ti at ht
  by_cases hd : p < L ∧ 49 ≤ c p ∧ c p ≤ 57
  · obtain ⟨hl, h1, h2⟩ := hd
    have hdg : 48 ≤ c p ∧ c p ≤ 57 := ⟨by omega, h2⟩
    have e1 : s_num c (p + 1) = c p - 48 := by
      rw [s_num, if_pos hdg]
      omega
    have ev : s_vv c (p + 1) = s_vv c p := if_pos hdg
    have hF : FT m (ml_s (ml_s m 72 11 (nI (c p - 48))) 72 9 (nI (p + 1))) := FT_t (FT_s (by decide) (by decide)) (FT_s (by decide) (by decide))
    have hT1 := TM_f hT hF
    have start : ∀ Φ : mj_R → mj_W → Prop, wp Ln xs 196 0 [.ref 72] [] (u, ml_h m lm) Φ = if nI (c p - 48) ≤ nI 1 then wp Ln xs 196 49 [.ref 72] [] (u, ml_h (ml_s (ml_s m 72 11 (nI (c p - 48))) 72 9 (nI (p + 1))) lm) Φ else wp Ln xs 196 47 [.ref 72] [] (u, ml_h (ml_s (ml_s m 72 11 (nI (c p - 48))) 72 9 (nI (p + 1))) lm) Φ := fun Φ => by
      rw [x196_0, sp194_t hT h9 hl h1 h2 (by decide), mk_v, x196_8, if_pos s_10, x196_13, h9, x196_22 (by omega), hT.2.2.1 p hl, pk_sub hdg.1, ml_s_k (show 9 ≠ 11 by decide), h9, nI_add, ml_s_k (show 11 ≠ 9 by decide), ml_s_s]
    by_cases h49 : c p = 49
    · have e5 : s_dfa c (p + 1) = 5 := by
        rw [s_dfa, h4]
        exact if_pos h49
      by_cases hd2 : p + 1 < L ∧ 48 ≤ c (p + 1) ∧ c (p + 1) ≤ 54
      · obtain ⟨hl2, h3, h5⟩ := hd2
        have hdg2 : 48 ≤ c (p + 1) ∧ c (p + 1) ≤ 57 := ⟨h3, by omega⟩
        have e6 : s_dfa c (p + 2) = 6 := by
          rw [s_dfa, e5]
          exact if_pos ⟨h3, h5⟩
        have en : s_num c (p + 2) = 10 + c (p + 1) - 48 := by
          rw [s_num, if_pos hdg2, e1, h49]
        refine ⟨ml_s (ml_s (ml_s (ml_s m 72 11 (nI (c p - 48))) 72 9 (nI (p + 1))) 72 11 (nI (10 + c (p + 1) - 48))) 72 9 (nI (p + 1 + 1)), p + 2, by omega, by omega, FT_t hF (FT_t (FT_s (by decide) (by decide)) (FT_s (by decide) (by decide))), ml_s_s _ _ _ _, by rw [ml_s_k (by decide), ml_s_k (by decide), ml_s_k (by decide), ml_s_k (by decide)], fun σ => by rw [show p + 2 = p + 1 + 1 from rfl, s_ld_s (Or.inl hdg2), s_ld_s (Or.inl hdg)], Or.inl ⟨e6, by rw [show p + 2 = p + 1 + 1 from rfl, s_vv, if_pos hdg2, ev], by rw [ml_s_k (by decide), ml_s_s, en], fun Φ => ?_⟩⟩
        rw [start, if_pos (by rw [h49]; decide), x196_49, sp194_t hT1 (ml_s_s _ _ _ _) hl2 h3 h5 (by decide), mk_v, x196_57, if_pos s_10, x196_62, ml_s_s, x196_73 (by omega), hT1.2.2.1 (p + 1) hl2, nI_add, pk_sub (by omega), ml_s_k (show 9 ≠ 11 by decide), ml_s_s, nI_add]
      · refine ⟨_, p + 1, by omega, by omega, hF, ml_s_s _ _ _ _, by rw [ml_s_k (by decide), ml_s_k (by decide)], fun σ => s_ld_s (Or.inl hdg), Or.inr ⟨Or.inr e5, ?_, fun Φ => ?_⟩⟩
        · by_cases hc : p + 1 = L
          · exact Or.inl hc
          · refine Or.inr ?_
            rw [s_dfa, e5]
            exact if_neg (fun w => hd2 ⟨by omega, w⟩)
        · rw [start, if_pos (by rw [h49]; decide), x196_49, sp194_f hT1 (ml_s_s _ _ _ _) (by omega) (fun z => by
            have : ¬ (48 ≤ c (p + 1) ∧ c (p + 1) ≤ 54) := fun w => hd2 ⟨z, w⟩
            omega) (by decide) (by decide), mk_v, x196_57, if_neg (fun z => z rfl), x196_60]
    · have e6 : s_dfa c (p + 1) = 6 := by
        rw [s_dfa, h4]
        exact (if_neg h49).trans (if_pos ⟨by omega, h2⟩)
      refine ⟨_, p + 1, by omega, by omega, hF, ml_s_s _ _ _ _, by rw [ml_s_k (by decide), ml_s_k (by decide)], fun σ => s_ld_s (Or.inl hdg), Or.inl ⟨e6, ev, by rw [ml_s_k (by decide), ml_s_s, e1], fun Φ => ?_⟩⟩
      rw [start, if_neg (nI_ge (by omega) (by omega)), x196_47]
  · refine ⟨m, p, Nat.le_refl _, hp, FT_r m, h9, rfl, fun _ => rfl, Or.inr ⟨Or.inl h4, ?_, fun Φ => ?_⟩⟩
    · by_cases hc : p = L
      · exact Or.inl hc
      · refine Or.inr ?_
        have h5 : ¬ (49 ≤ c p ∧ c p ≤ 57) := fun w => hd ⟨by omega, w⟩
        rw [s_dfa, h4]
        exact (if_neg (by omega)).trans (if_neg (by omega))
    · rw [x196_0, sp194_f hT h9 hp (fun z => by
        have : ¬ (49 ≤ c p ∧ c p ≤ 57) := fun w => hd ⟨z, w⟩
        omega) (by decide) (by decide), mk_v, x196_8, if_neg (fun z => z rfl), x196_11]
/-- a part read -/
theorem sp192 (hT : TM m L c) (h9 : m 72 9 = nI p) (hp : p ≤ L) (h0 : s_dfa c p = 0) : ∃ m' q, p ≤ q ∧ q ≤ L ∧ FT m m' ∧ m' 72 9 = nI q ∧ (∀ σ, s_ld c σ q = s_ld c σ p) ∧ (((s_dfa c q = 1 ∨ s_dfa c q = 2 ∨ s_dfa c q = 3 ∨ s_dfa c q = 6) ∧ (q = L ∨ c q = 44 ∨ s_dfa c (q + 1) = 7) ∧ m' 72 10 = nI (s_pv c q) ∧ m' 72 11 = nI (s_pn c q) ∧ ∀ Φ : mj_R → mj_W → Prop, wp Ln xs 192 0 [.ref 72] [] (u, ml_h m lm) Φ = Φ (.inl (some (.int (nI 1)))) (u, ml_h m' lm)) ∨ ((s_dfa c q = 0 ∨ s_dfa c q = 4 ∨ s_dfa c q = 5) ∧ (q = L ∨ s_dfa c (q + 1) = 7) ∧ ∀ Φ : mj_R → mj_W → Prop, wp Ln xs 192 0 [.ref 72] [] (u, ml_h m lm) Φ = Φ (.inl (some (.int (nI 0)))) (u, ml_h m' lm))) := by
  have hL := hT.1
  have hF0 : FT m (ml_s m 72 11 (nI 1)) := FT_s (by decide) (by decide)
  have hT0 := TM_f hT hF0
  have h90 : ml_s m 72 11 (nI 1) 72 9 = nI p := by rw [ml_s_k (by decide), h9]
  have hti := s_ti_c c p
  unfold s_ti at hti
  by_cases hd : p < L ∧ 48 ≤ c p ∧ c p ≤ 57
  · obtain ⟨hl, hdg⟩ := hd
    have e1 : s_num c (p + 1) = c p - 48 := by
      rw [s_num, if_pos hdg]
      omega
    have es : s_dfa c (p + 1) = 3 ∨ s_dfa c (p + 1) = 1 := by
      rw [s_dfa, h0]
      by_cases h48 : c p = 48
      · exact Or.inl (if_pos h48)
      · exact Or.inr ((if_neg h48).trans (if_pos hdg))
    have hF1 : FT m (ml_s (ml_s (ml_s m 72 11 (nI 1)) 72 10 (nI (c p - 48))) 72 9 (nI (p + 1))) := FT_t hF0 (FT_t (FT_s (by decide) (by decide)) (FT_s (by decide) (by decide)))
    obtain ⟨m1, q, g1, g2, g3, g4, g5, g6, g7, g8, g9, e⟩ := sp193_l (Ln := Ln) (xs := xs) (u := u) (lm := lm) hL (3 - s_dfa c (p + 1)) (p + 1) _ (by omega) (by omega) (by omega) (TM_f hT hF1) (ml_s_s _ _ _ _) (by rw [ml_s_k (by decide), ml_s_s, e1])
    have hF2 := FT_t hF1 g5
    have hT2 := TM_f hT hF2
    have h11 : m1 72 11 = nI 1 := by rw [g8, ml_s_k (by decide), ml_s_k (by decide), ml_s_s]
    have hld : ∀ σ, s_ld c σ q = s_ld c σ p := fun σ => by rw [g9, s_ld_s (Or.inl hdg)]
    have start : ∀ Φ : mj_R → mj_W → Prop, wp Ln xs 192 0 [.ref 72] [] (u, ml_h m lm) Φ = wp Ln xs 195 0 [.ref 72, .int (nI 42), mj_hole] [] (u, ml_h m1 lm) (mk Ln xs 192 15 [.ref 72] [] Φ) := fun Φ => by
      rw [x192_0, x193_0, sp194_t hT0 h90 hl hdg.1 hdg.2 (by decide), mk_v, x193_8, if_pos s_10, x193_13, h90, x193_22 (by omega), hT0.2.2.1 p hl, pk_sub hdg.1, ml_s_k (show 9 ≠ 10 by decide), h90, nI_add, e, mk_v, x192_9, if_neg s_10, x192_12]
    have htq := s_ti_c c q
    unfold s_ti at htq
    by_cases h42 : q < L ∧ c q = 42
    · have e4 : s_dfa c (q + 1) = 4 := by
        have hv : s_bv (c q) = 4 := by
          have := s_bv_i (c q)
          omega
        rw [s_dfa]
        rcases g3 with h | h | h
        · rw [h]
          exact (if_neg (by omega)).trans hv
        · rw [h]
          exact (if_neg (by omega)).trans hv
        · rw [h]
          exact hv
      have evv : s_vv c (q + 1) = s_num c q + 1 := (if_neg (by omega)).trans (if_pos h42.2)
      have hF3 : FT m1 (ml_s m1 72 9 (nI (q + 1))) := FT_s (by decide) (by decide)
      obtain ⟨m2, q2, k1, k2, k3, k4, k5, k6, k7⟩ := sp196 (Ln := Ln) (xs := xs) (u := u) (lm := lm) (TM_f hT2 hF3) (ml_s_s _ _ _ _) (show q + 1 ≤ L by omega) e4
      have hF4 := FT_t hF2 (FT_t hF3 k3)
      have hld2 : ∀ σ, s_ld c σ q2 = s_ld c σ p := fun σ => by rw [k6, s_ld_s (Or.inr h42.2), hld]
      rcases k7 with ⟨a1, a2, a3, a4⟩ | ⟨a1, a2, a3⟩
      · refine ⟨m2, q2, by omega, k2, hF4, k4, hld2, Or.inl ⟨by omega, ?_, ?_, ?_, fun Φ => ?_⟩⟩
        · by_cases hc : q2 = L
          · exact Or.inl hc
          · refine Or.inr ?_
            rw [s_dfa, a1]
            by_cases h44 : c q2 = 44
            · exact Or.inl h44
            · exact Or.inr (if_neg h44)
        · unfold s_pv
          rw [a2, evv, if_neg (by omega), Nat.add_sub_cancel, k5, ml_s_k (by decide), g7]
        · unfold s_pn
          rw [a2, evv, if_neg (by omega), a3]
        · rw [start, sp195_t (by decide) hT2 g6 h42.1 h42.2, mk_v, x192_18, if_neg s_10, x192_21, a4, mk_v, x192_25, if_neg s_10, x192_28]
      · refine ⟨m2, q2, by omega, k2, hF4, k4, hld2, Or.inr ⟨by omega, a2, fun Φ => ?_⟩⟩
        rw [start, sp195_t (by decide) hT2 g6 h42.1 h42.2, mk_v, x192_18, if_neg s_10, x192_21, a3, mk_v, x192_25, if_pos rfl, x192_32]
    · have hF3 : FT m1 (ml_s m1 72 9 (nI q)) := FT_s (by decide) (by decide)
      have hv0 : s_vv c q = 0 := by omega
      refine ⟨_, q, by omega, g2, FT_t hF2 hF3, ml_s_s _ _ _ _, hld, Or.inl ⟨by omega, by omega, ?_, ?_, fun Φ => ?_⟩⟩
      · unfold s_pv
        rw [if_pos hv0, ml_s_k (by decide), g7]
      · unfold s_pn
        rw [if_pos hv0, ml_s_k (by decide), h11]
      · rw [start, sp195_f (by decide) hT2 g6 g2 (fun z w => h42 ⟨z, w⟩), mk_v, x192_18, if_pos rfl, x192_28]
  · refine ⟨_, p, Nat.le_refl _, hp, hF0, h90, fun _ => rfl, Or.inr ⟨Or.inl h0, ?_, fun Φ => ?_⟩⟩
    · by_cases hc : p = L
      · exact Or.inl hc
      · refine Or.inr ?_
        have h5 : ¬ (48 ≤ c p ∧ c p ≤ 57) := fun w => hd ⟨by omega, w⟩
        rw [s_dfa, h0]
        exact (if_neg (by omega)).trans (if_neg h5)
    · rw [x192_0, x193_0, sp194_f hT0 h90 hp (fun z => by
        have : ¬ (48 ≤ c p ∧ c p ≤ 57) := fun w => hd ⟨z, w⟩
        omega) (by decide) (by decide), mk_v, x193_8, if_neg (fun z => z rfl), x193_11, mk_v, x192_9, if_pos rfl, x192_32]
/-! the text read without writing -/
theorem s_wh_n {L : Nat} (hq : q ≤ L) (h : s_dfa c q = 0 ∨ s_dfa c q = 4 ∨ s_dfa c q = 5) (h2 : q = L ∨ s_dfa c (q + 1) = 7) : ¬ s_wh c L ∧ q = s_fe c L := by
  refine ⟨fun hw => ?_, s_fe_u hq (by omega) h2⟩
  rcases h2 with e | e
  · subst e
    unfold s_wh at hw
    omega
  · by_cases hc : q = L
    · subst hc
      unfold s_wh at hw
      omega
    · exact s_dfa_n (s_wh_7 hw) (show q + 1 ≤ L by omega) e
theorem sp191_l (hL : L ≤ 60) : ∀ (d q : Nat) (m : ml_M), L - q < d → q ≤ L → (s_dfa c q = 1 ∨ s_dfa c q = 2 ∨ s_dfa c q = 3 ∨ s_dfa c q = 6) → (q = L ∨ c q = 44 ∨ s_dfa c (q + 1) = 7) → TM m L c → m 72 9 = nI q → ∃ m', FT m m' ∧ ((s_wh c L ∧ ∀ Φ : mj_R → mj_W → Prop, wp Ln xs 191 15 [.ref 72, .int (nI 0), .int (nI 1)] [] (u, ml_h m lm) Φ = Φ (.inl (some (.int (nI 1)))) (u, ml_h m' lm)) ∨ (¬ s_wh c L ∧ m' 72 9 = nI (s_fe c L) ∧ ∀ Φ : mj_R → mj_W → Prop, wp Ln xs 191 15 [.ref 72, .int (nI 0), .int (nI 1)] [] (u, ml_h m lm) Φ = Φ (.inl (some (.int (nI 0)))) (u, ml_h m' lm)))
  | 0, q, m, h, _, _, _, _, _ => absurd h (Nat.not_lt_zero _)
  | d + 1, q, m, h, hq, hs, hn, hT, h9 => by
    by_cases hc : q = L
    · subst hc
      refine ⟨m, FT_r m, Or.inl ⟨hs, fun Φ => ?_⟩⟩
      rw [x191_15, if_neg s_10, x191_19, if_pos rfl, x191_32, h9, hT.2.1, if_neg (fun z => z rfl), x191_43]
    · have hne : ¬ nI q = nI L := by
        rw [nI_eq (by omega) (by omega)]
        exact hc
      have start : ∀ Φ : mj_R → mj_W → Prop, wp Ln xs 191 15 [.ref 72, .int (nI 0), .int (nI 1)] [] (u, ml_h m lm) Φ = wp Ln xs 195 0 [.ref 72, .int (nI 44), mj_hole] [] (u, ml_h m lm) (mk Ln xs 191 48 [.ref 72, .int (nI 0), .int (nI 1)] [] Φ) := fun Φ => by
        rw [x191_15, if_neg s_10, x191_19, if_pos rfl, x191_32, h9, hT.2.1, if_pos hne, x191_45]
      by_cases h44 : c q = 44
      · have e0 : s_dfa c (q + 1) = 0 := by
          have hv : s_bv (c q) = 0 := by
            have := s_bv_i (c q)
            omega
          rw [s_dfa]
          rcases hs with h | h | h | h
          · rw [h]
            exact (if_neg (by omega)).trans hv
          · rw [h]
            exact (if_neg (by omega)).trans hv
          · rw [h]
            exact hv
          · rw [h]
            exact if_pos h44
        have hF1 : FT m (ml_s m 72 9 (nI (q + 1))) := FT_s (by decide) (by decide)
        obtain ⟨m1, q2, g1, g2, g3, g4, g5, g6⟩ := sp192 (Ln := Ln) (xs := xs) (u := u) (lm := lm) (TM_f hT hF1) (ml_s_s _ _ _ _) (show q + 1 ≤ L by omega) e0
        have hF2 := FT_t hF1 g3
        rcases g6 with ⟨a1, a2, a3, a4, a5⟩ | ⟨a1, a2, a3⟩
        · obtain ⟨m2, b1, b2⟩ := sp191_l hL d q2 m1 (by omega) g2 a1 a2 (TM_f hT hF2) g4
          have go : ∀ Φ : mj_R → mj_W → Prop, wp Ln xs 191 15 [.ref 72, .int (nI 0), .int (nI 1)] [] (u, ml_h m lm) Φ = wp Ln xs 191 15 [.ref 72, .int (nI 0), .int (nI 1)] [] (u, ml_h m1 lm) Φ := fun Φ => by
            rw [start, sp195_t (by decide) hT h9 (by omega) h44, mk_v, x191_51, if_neg s_10, x191_54, a5, mk_v, x191_58, if_neg s_10, x191_61, x191_66]
          refine ⟨m2, FT_t hF2 b1, ?_⟩
          rcases b2 with ⟨c1, c2⟩ | ⟨c1, c2, c3⟩
          · exact Or.inl ⟨c1, fun Φ => by rw [go, c2]⟩
          · exact Or.inr ⟨c1, c2, fun Φ => by rw [go, c3]⟩
        · have hw := s_wh_n g2 a1 a2
          refine ⟨m1, hF2, Or.inr ⟨hw.1, by rw [g4, ← hw.2], fun Φ => ?_⟩⟩
          rw [start, sp195_t (by decide) hT h9 (by omega) h44, mk_v, x191_51, if_neg s_10, x191_54, a3, mk_v, x191_58, if_pos rfl, x191_65, x191_66, x191_15, if_pos rfl, x191_70]
      · have h7 : s_dfa c (q + 1) = 7 := by omega
        refine ⟨ml_s m 72 9 (nI q), FT_s (by decide) (by decide), Or.inr ⟨fun hw => s_dfa_n (s_wh_7 hw) (show q + 1 ≤ L by omega) h7, by rw [ml_s_s, ← s_fe_u hq (by omega) (Or.inr h7)], fun Φ => ?_⟩⟩
        rw [start, sp195_f (by decide) hT h9 hq (fun _ => h44), mk_v, x191_51, if_pos rfl, x191_65, x191_66, x191_15, if_pos rfl, x191_70]
theorem sp191_0 (hT : TM m L c) : ∃ m', (∀ a, a ≠ 72 → m' a = m a) ∧ (∀ k, k < 9 → m' 72 k = m 72 k) ∧ ((s_wh c L ∧ ∀ Φ : mj_R → mj_W → Prop, wp Ln xs 191 0 [.ref 72, .int (nI 0), mj_hole] [] (u, ml_h m lm) Φ = Φ (.inl (some (.int (nI 1)))) (u, ml_h m' lm)) ∨ (¬ s_wh c L ∧ m' 72 9 = nI (s_fe c L) ∧ ∀ Φ : mj_R → mj_W → Prop, wp Ln xs 191 0 [.ref 72, .int (nI 0), mj_hole] [] (u, ml_h m lm) Φ = Φ (.inl (some (.int (nI 0)))) (u, ml_h m' lm))) := by
  have hT0 : TM (ml_s (ml_s m 72 9 (nI 0)) 72 12 (nI 0)) L c := ⟨hT.1, by rw [ml_s_k (by decide), ml_s_k (by decide)]; exact hT.2.1, fun k hk => by rw [ml_s_a (by decide), ml_s_a (by decide)]; exact hT.2.2.1 k hk, hT.2.2.2⟩
  obtain ⟨m1, q2, g1, g2, g3, g4, g5, g6⟩ := sp192 (Ln := Ln) (xs := xs) (u := u) (lm := lm) (p := 0) hT0 (by rw [ml_s_k (by decide), ml_s_s]) (Nat.zero_le _) rfl
  have f1 : ∀ a, a ≠ 72 → m1 a = m a := fun a ha => by rw [g3.1 a ha, ml_s_row ha, ml_s_row ha]
  have f2 : ∀ k, k < 9 → m1 72 k = m 72 k := fun k hk => by rw [g3.2 k (by omega), ml_s_k (by omega), ml_s_k (by omega)]
  rcases g6 with ⟨a1, a2, a3, a4, a5⟩ | ⟨a1, a2, a3⟩
  · obtain ⟨m2, b1, b2⟩ := sp191_l (Ln := Ln) (xs := xs) (u := u) (lm := lm) hT.1 (L - q2 + 1) q2 m1 (by omega) g2 a1 a2 (TM_f hT0 g3) g4
    refine ⟨m2, fun a ha => by rw [b1.1 a ha, f1 a ha], fun k hk => by rw [b1.2 k (by omega), f2 k hk], ?_⟩
    have go : ∀ Φ : mj_R → mj_W → Prop, wp Ln xs 191 0 [.ref 72, .int (nI 0), mj_hole] [] (u, ml_h m lm) Φ = wp Ln xs 191 15 [.ref 72, .int (nI 0), .int (nI 1)] [] (u, ml_h m1 lm) Φ := fun Φ => by
      rw [x191_0, a5, mk_v, x191_14]
    rcases b2 with ⟨c1, c2⟩ | ⟨c1, c2, c3⟩
    · exact Or.inl ⟨c1, fun Φ => by rw [go, c2]⟩
    · exact Or.inr ⟨c1, c2, fun Φ => by rw [go, c3]⟩
  · have hw := s_wh_n g2 a1 a2
    refine ⟨m1, f1, f2, Or.inr ⟨hw.1, by rw [g4, ← hw.2], fun Φ => ?_⟩⟩
    rw [x191_0, a3, mk_v, x191_14, x191_15, if_pos rfl, x191_70]
/-! the text read with writing -/
theorem sp197_l {q : s_S × Nat} (hv : v ≤ 999) (ht : t < 2 ^ 31) (hq : s_ok q.1) : ∀ (d i : Nat) (m : ml_M), i + d = t → (∀ k, k < 251 → m 73 k = nI ((s_wt v i q).1 k)) → m 72 12 = nI (s_wt v i q).2 → m 72 10 = nI v → m 72 11 = nI t → ∃ m', (∀ k, k < 251 → m' 73 k = nI ((s_wt v t q).1 k)) ∧ m' 72 12 = nI (s_wt v t q).2 ∧ (∀ a, a ≠ 72 → a ≠ 73 → m' a = m a) ∧ (∀ k, k ≠ 12 → m' 72 k = m 72 k) ∧ ((∀ Φ : mj_R → mj_W → Prop, wp Ln xs 197 2 [.ref 72, .int (nI i)] [] (u, ml_h m lm) Φ = Φ (.inl (some (.int (nI 1)))) (u, ml_h m' lm)) ∨ (¬ s_can (s_wt v t q).1 ∧ ∀ Φ : mj_R → mj_W → Prop, wp Ln xs 197 2 [.ref 72, .int (nI i)] [] (u, ml_h m lm) Φ = Φ (.inl (some (.int (nI 0)))) (u, ml_h m' lm)))
  | 0, i, m, h, hM, h12, h10, h11 => by
    obtain rfl : i = t := by omega
    refine ⟨m, hM, h12, fun _ _ _ => rfl, fun _ _ => rfl, Or.inl (fun Φ => ?_)⟩
    rw [x197_2, h11, if_pos (nI_le (Nat.le_refl _) (by omega)), x197_43]
  | d + 1, i, m, h, hM, h12, h10, h11 => by
    have ho := s_wt_ok hv hq i
    by_cases hc : s_can (s_wt v i q).1
    · obtain ⟨m1, hM1, f1, e1⟩ := sp157 (Ln := Ln) (xs := xs) (u := u) (lm := lm) hM ho hv hc
      have es : s_wt v (i + 1) q = (s_put (s_wt v i q).1 v, (s_wt v i q).2 + 1) := s_w1_y hc
      obtain ⟨m2, g1, g2, g3, g4, g5⟩ := sp197_l hv ht hq d (i + 1) (ml_s m1 72 12 (nI ((s_wt v i q).2 + 1))) (by omega) (by rw [es]; exact s_hF hM1 (ml_s_row (by decide))) (by rw [es, ml_s_s]) (by rw [ml_s_k (by decide), f1 72 (by decide), h10]) (by rw [ml_s_k (by decide), f1 72 (by decide), h11])
      have go : ∀ Φ : mj_R → mj_W → Prop, wp Ln xs 197 2 [.ref 72, .int (nI i)] [] (u, ml_h m lm) Φ = wp Ln xs 197 2 [.ref 72, .int (nI (i + 1))] [] (u, ml_h (ml_s m1 72 12 (nI ((s_wt v i q).2 + 1))) lm) Φ := fun Φ => by
        rw [x197_2, h11, if_neg (nI_ge (by omega) ht), x197_10, sp153_t hM ho hc, mk_v, x197_14, if_pos s_10, x197_19, h10, e1, mk_n, x197_27, f1 72 (by decide), h12, nI_add, nI_add]
      refine ⟨m2, g1, g2, fun a ha hb => by rw [g3 a ha hb, ml_s_row ha, f1 a hb], fun k hk => by rw [g4 k hk, ml_s_k hk, f1 72 (by decide)], ?_⟩
      rcases g5 with g5 | ⟨g5, g6⟩
      · exact Or.inl (fun Φ => by rw [go, g5])
      · exact Or.inr ⟨g5, fun Φ => by rw [go, g6]⟩
    · have es : s_wt v t q = s_wt v i q := by
        have := s_wt_d hc (d + 1)
        rwa [h] at this
      refine ⟨m, by rw [es]; exact hM, by rw [es]; exact h12, fun _ _ _ => rfl, fun _ _ => rfl, Or.inr ⟨by rw [es]; exact hc, fun Φ => ?_⟩⟩
      rw [x197_2, h11, if_neg (nI_ge (by omega) ht), x197_10, sp153_f hM ho hc, mk_v, x197_14, if_neg (fun z => z rfl), x197_17]
theorem sp191_m (hw : s_wh c L) (h0 : s_ok σ) : ∀ (d q : Nat) (m : ml_M), L - q < d → q ≤ L → (s_dfa c q = 1 ∨ s_dfa c q = 2 ∨ s_dfa c q = 3 ∨ s_dfa c q = 6) → (q = L ∨ c q = 44 ∨ s_dfa c (q + 1) = 7) → TM m L c → m 72 9 = nI q → m 72 10 = nI (s_pv c q) → m 72 11 = nI (s_pn c q) → (∀ k, k < 251 → m 73 k = nI ((s_ld c σ q).1 k)) → m 72 12 = nI (s_ld c σ q).2 → ∃ m', (∀ k, k < 251 → m' 73 k = nI ((s_fin c σ L).1 k)) ∧ m' 72 12 = nI (s_fin c σ L).2 ∧ (∀ a, a ≠ 72 → a ≠ 73 → m' a = m a) ∧ (∀ k, k < 9 → m' 72 k = m 72 k) ∧ ∀ Φ : mj_R → mj_W → Prop, wp Ln xs 191 15 [.ref 72, .int (nI 1), .int (nI 1)] [] (u, ml_h m lm) Φ = Φ (.inl (some (.int (nI 1)))) (u, ml_h m' lm)
  | 0, q, m, h, _, _, _, _, _, _, _, _, _ => absurd h (Nat.not_lt_zero _)
  | d + 1, q, m, h, hq, hs, hn, hT, h9, h10, h11, hM, h12 => by
    have h7 := s_wh_7 hw
    have hq7 := s_dfa_n h7 hq
    have hpv := s_pv_le hq7
    have hL := hT.1
    obtain ⟨m1, g1, g2, g3, g4, g5⟩ := sp197_l (Ln := Ln) (xs := xs) (u := u) (lm := lm) (q := s_ld c σ q) hpv.1 (by omega) (s_ld_ok h0 q hq7) (s_pn c q) 0 m (by omega) hM h12 h10 h11
    have hT1 : TM m1 L c := ⟨hL, by rw [g4 7 (by decide)]; exact hT.2.1, fun k hk => by rw [g3 77 (by decide) (by decide)]; exact hT.2.2.1 k hk, hT.2.2.2⟩
    have h91 : m1 72 9 = nI q := by rw [g4 9 (by decide), h9]
    have start : ∀ Φ : mj_R → mj_W → Prop, wp Ln xs 191 15 [.ref 72, .int (nI 1), .int (nI 1)] [] (u, ml_h m lm) Φ = wp Ln xs 197 2 [.ref 72, .int (nI 0)] [] (u, ml_h m lm) (mk Ln xs 191 24 [.ref 72, .int (nI 1), .int (nI 1)] [] Φ) := fun Φ => by
      rw [x191_15, if_neg s_10, x191_19, if_neg s_10, x191_23, x197_0]
    by_cases hc : q = L
    · subst hc
      refine ⟨m1, g1, g2, g3, fun k hk => g4 k (by omega), fun Φ => ?_⟩
      rcases g5 with g5 | ⟨_, g5⟩
      · rw [start, g5, mk_v, x191_27, if_pos s_10, x191_32, h91, hT1.2.1, if_neg (fun z => z rfl), x191_43]
      · rw [start, g5, mk_v, x191_27, if_neg (fun z => z rfl), x191_30]
    · have hq8 := s_dfa_n h7 (show q + 1 ≤ L by omega)
      have h44 : c q = 44 := by omega
      have eld : s_ld c σ (q + 1) = s_wt (s_pv c q) (s_pn c q) (s_ld c σ q) := if_neg (by omega)
      rw [← eld] at g1 g2 g5
      rcases g5 with g5 | ⟨g6, g5⟩
      · have hne : ¬ nI q = nI L := by
          rw [nI_eq (by omega) (by omega)]
          exact hc
        have e0 : s_dfa c (q + 1) = 0 := by
          have hv : s_bv (c q) = 0 := by
            have := s_bv_i (c q)
            omega
          rw [s_dfa]
          rcases hs with h | h | h | h
          · rw [h]
            exact (if_neg (by omega)).trans hv
          · rw [h]
            exact (if_neg (by omega)).trans hv
          · rw [h]
            exact hv
          · rw [h]
            exact if_pos h44
        have hF1 : FT m1 (ml_s m1 72 9 (nI (q + 1))) := FT_s (by decide) (by decide)
        obtain ⟨m2, q2, b1, b2, b3, b4, b5, b6⟩ := sp192 (Ln := Ln) (xs := xs) (u := u) (lm := lm) (TM_f hT1 hF1) (ml_s_s _ _ _ _) (show q + 1 ≤ L by omega) e0
        have hF2 := FT_t hF1 b3
        rcases b6 with ⟨a1, a2, a3, a4, a5⟩ | ⟨a1, a2, a3⟩
        · obtain ⟨m3, d1, d2, d3, d4, d5⟩ := sp191_m hw h0 d q2 m2 (by omega) b2 a1 a2 (TM_f hT1 hF2) b4 a3 a4 (by rw [b5]; exact s_hF g1 (hF2.1 73 (by decide))) (by rw [b5, hF2.2 12 (by decide), g2])
          refine ⟨m3, d1, d2, fun a ha hb => by rw [d3 a ha hb, hF2.1 a ha, g3 a ha hb], fun k hk => by rw [d4 k hk, hF2.2 k (by omega), g4 k (by omega)], fun Φ => ?_⟩
          rw [start, g5, mk_v, x191_27, if_pos s_10, x191_32, h91, hT1.2.1, if_pos hne, x191_45, sp195_t (by decide) hT1 h91 (by omega) h44, mk_v, x191_51, if_neg s_10, x191_54, a5, mk_v, x191_58, if_neg s_10, x191_61, x191_66, d5]
        · exact absurd hw (s_wh_n b2 a1 a2).1
      · have efin : s_fin c σ L = s_ld c σ (q + 1) := by
          have e := s_ld_d g6 (L - (q + 1))
          rw [show q + 1 + (L - (q + 1)) = L by omega] at e
          unfold s_fin
          rw [e, s_wt_n g6]
        refine ⟨m1, by rw [efin]; exact g1, by rw [efin]; exact g2, g3, fun k hk => g4 k (by omega), fun Φ => ?_⟩
        rw [start, g5, mk_v, x191_27, if_neg (fun z => z rfl), x191_30]
theorem sp191_1 (hw : s_wh c L) (h0 : s_ok σ) (hT : TM m L c) (hM : ∀ k, k < 251 → m 73 k = nI (σ k)) : ∃ m', (∀ k, k < 251 → m' 73 k = nI ((s_fin c σ L).1 k)) ∧ m' 72 12 = nI (s_fin c σ L).2 ∧ (∀ a, a ≠ 72 → a ≠ 73 → m' a = m a) ∧ (∀ k, k < 9 → m' 72 k = m 72 k) ∧ ∀ Φ : mj_R → mj_W → Prop, wp Ln xs 191 0 [.ref 72, .int (nI 1), mj_hole] [] (u, ml_h m lm) Φ = Φ (.inl (some (.int (nI 1)))) (u, ml_h m' lm) := by
  have hT0 : TM (ml_s (ml_s m 72 9 (nI 0)) 72 12 (nI 0)) L c := ⟨hT.1, by rw [ml_s_k (by decide), ml_s_k (by decide)]; exact hT.2.1, fun k hk => by rw [ml_s_a (by decide), ml_s_a (by decide)]; exact hT.2.2.1 k hk, hT.2.2.2⟩
  obtain ⟨m1, q2, g1, g2, g3, g4, g5, g6⟩ := sp192 (Ln := Ln) (xs := xs) (u := u) (lm := lm) (p := 0) hT0 (by rw [ml_s_k (by decide), ml_s_s]) (Nat.zero_le _) rfl
  rcases g6 with ⟨a1, a2, a3, a4, a5⟩ | ⟨a1, a2, a3⟩
  · have e73 : m1 73 = m 73 := by rw [g3.1 73 (by decide), ml_s_row (by decide), ml_s_row (by decide)]
    obtain ⟨m2, d1, d2, d3, d4, d5⟩ := sp191_m (Ln := Ln) (xs := xs) (u := u) (lm := lm) hw h0 (L - q2 + 1) q2 m1 (by omega) g2 a1 a2 (TM_f hT0 g3) g4 a3 a4 (by rw [g5]; exact s_hF hM e73) (by rw [g5, g3.2 12 (by decide), ml_s_s]; rfl)
    refine ⟨m2, d1, d2, fun a ha hb => by rw [d3 a ha hb, g3.1 a ha, ml_s_row ha, ml_s_row ha], fun k hk => by rw [d4 k hk, g3.2 k (by omega), ml_s_k (by omega), ml_s_k (by omega)], fun Φ => ?_⟩
    rw [x191_0, a5, mk_v, x191_14, d5]
  · exact absurd hw (s_wh_n g2 a1 a2).1
/-! the calls -/
theorem RepY_TM (hy : RepY m n ss t τ tl tx) (hL : tl ≤ 60) (hb : ∀ k, k < tl → tx k ≤ 126) : TM m tl tx := ⟨hL, hy.2.2.2.2.2.1, hy.2.2.2.2.2.2, hb⟩
theorem sp190_k (hM : ∀ k, k < 251 → m 73 k = nI (σ k)) (hy : RepY m n ss t τ tl tx) (hL : tl ≤ 60) (hb : ∀ k, k < tl → tx k ≤ 126) : ∃ m', (∀ k, k < 251 → m' 73 k = nI (σ k)) ∧ RepY m' n ss t τ tl tx ∧ (∀ a, a < 72 ∨ 78 < a → m' a = m a) ∧ ∀ Φ : mj_R → mj_W → Prop, wp Ln xs 190 0 [.ref 72] [] (u, ml_h m lm) Φ = Φ (.inl (some (.int (nI (s_fe tx tl))))) (u, ml_h m' lm) := by
  have hy8 : RepY (ml_s m 72 8 (nI 0)) n ss t τ tl tx := RepY_8 hy
  obtain ⟨m1, f1, f2, g⟩ := sp191_0 (Ln := Ln) (xs := xs) (u := u) (lm := lm) (RepY_TM hy8 hL hb)
  refine ⟨m1, s_hF hM (by rw [f1 73 (by decide), ml_s_row (by decide)]), RepY_of hy8 (f2 2 (by decide)) (f2 4 (by decide)) (f2 7 (by decide)) (f1 74 (by decide)) (f1 75 (by decide)) (f1 77 (by decide)), fun a ha => by rw [f1 a (by omega), ml_s_row (by omega)], fun Φ => ?_⟩
  rcases g with ⟨a1, a2⟩ | ⟨a1, a2, a3⟩
  · rw [x190_0, a2, mk_v, x190_10, if_neg s_10, x190_13, f2 7 (by decide), hy8.2.2.2.2.2.1, ← s_fe_u (Nat.le_refl tl) (s_wh_7 a1) (Or.inl rfl)]
  · rw [x190_0, a3, mk_v, x190_10, if_pos rfl, x190_20, a2]
theorem sp198_a (hM : ∀ k, k < 251 → m 73 k = nI (σ k)) (hy : RepY m n ss t τ tl tx) (hL : tl ≤ 60) (hb : ∀ k, k < tl → tx k ≤ 126) (hw : ¬ s_wh tx tl) : ∃ m', (∀ k, k < 251 → m' 73 k = nI (σ k)) ∧ RepY m' n ss t τ tl tx ∧ m' 72 8 = nI 1 ∧ (∀ a, a < 72 ∨ 78 < a → m' a = m a) ∧ ∀ Φ : mj_R → mj_W → Prop, wp Ln xs 198 0 [.ref 72, mj_hole] [] (u, ml_h m lm) Φ = Φ (.inl (some (.int (nI 0)))) (u, ml_h m' lm) := by
  obtain ⟨m1, f1, f2, g⟩ := sp191_0 (Ln := Ln) (xs := xs) (u := u) (lm := lm) (RepY_TM hy hL hb)
  have hy1 : RepY m1 n ss t τ tl tx := RepY_of hy (f2 2 (by decide)) (f2 4 (by decide)) (f2 7 (by decide)) (f1 74 (by decide)) (f1 75 (by decide)) (f1 77 (by decide))
  rcases g with ⟨a1, a2⟩ | ⟨a1, a2, a3⟩
  · exact absurd a1 hw
  · refine ⟨_, s_hF hM (by rw [ml_s_row (by decide), f1 73 (by decide)]), RepY_8 hy1, ml_s_s _ _ _ _, fun a ha => by rw [ml_s_row (by omega), f1 a (by omega)], fun Φ => ?_⟩
    rw [x198_0, a3, mk_v, x198_6, if_pos rfl, x198_13, x198_14, sp154_e s_10, mk_v, x198_17, if_neg (fun z => z rfl), x198_20]
theorem sp198_k (hM : ∀ k, k < 251 → m 73 k = nI (σ k)) (hy : RepY m n ss t τ tl tx) (h0 : s_ok σ) (hL : tl ≤ 60) (hb : ∀ k, k < tl → tx k ≤ 126) (hw : s_wh tx tl) : ∃ m', (∀ k, k < 251 → m' 73 k = nI ((s_fin tx σ tl).1 k)) ∧ RepY m' (s_nx n) (s_push n ss σ) t τ 0 tx ∧ m' 72 8 = nI 0 ∧ (∀ a, a < 72 ∨ 78 < a → m' a = m a) ∧ ∀ Φ : mj_R → mj_W → Prop, wp Ln xs 198 0 [.ref 72, mj_hole] [] (u, ml_h m lm) Φ = Φ (.inl (some (.int (nI (s_fin tx σ tl).2)))) (u, ml_h m' lm) := by
  obtain ⟨m1, f1, f2, g⟩ := sp191_0 (Ln := Ln) (xs := xs) (u := u) (lm := lm) (RepY_TM hy hL hb)
  have hy1 : RepY m1 n ss t τ tl tx := RepY_of hy (f2 2 (by decide)) (f2 4 (by decide)) (f2 7 (by decide)) (f1 74 (by decide)) (f1 75 (by decide)) (f1 77 (by decide))
  rcases g with ⟨a1, a2⟩ | ⟨a1, a2, a3⟩
  · obtain ⟨m2, hM2, hy2, h82, g2, e2⟩ := sp_save (Ln := Ln) (xs := xs) (u := u) (lm := lm) (s_hF hM (f1 73 (by decide))) hy1
    obtain ⟨m3, d1, d2, d3, d4, d5⟩ := sp191_1 (Ln := Ln) (xs := xs) (u := u) (lm := lm) hw h0 (RepY_TM hy2 hL hb) hM2
    have hy3 : RepY m3 (s_nx n) (s_push n ss σ) t τ tl tx := RepY_of hy2 (d4 2 (by decide)) (d4 4 (by decide)) (d4 7 (by decide)) (d3 74 (by decide) (by decide)) (d3 75 (by decide) (by decide)) (d3 77 (by decide) (by decide))
    refine ⟨ml_s m3 72 7 (nI 0), s_hF d1 (ml_s_row (by decide)), ?_, by rw [ml_s_k (by decide), d4 8 (by decide), h82], fun a ha => by rw [ml_s_row (by omega), d3 a (by omega) (by omega), g2 a ha, f1 a (by omega)], fun Φ => ?_⟩
    · obtain ⟨y0, y1, y2, y3, y4, y5, y6⟩ := hy3
      exact ⟨y0, by rw [ml_s_k (by decide)]; exact y1, fun j hj => RepM_of (y2 j hj) (ml_s_row (by decide)), by rw [ml_s_k (by decide)]; exact y3, fun ht => RepM_of (y4 ht) (ml_s_row (by decide)), ml_s_s _ _ _ _, fun k hk => absurd hk (Nat.not_lt_zero k)⟩
    · rw [x198_0, a2, mk_v, x198_6, if_neg s_10, x198_9, x198_14, sp154_k, mk_v, x198_17, if_pos s_10, x198_22, e2, mk_n, x198_26, d5, mk_v, x198_31, if_neg s_10, x198_41, ml_s_k (by decide), d2]
  · exact absurd hw a1
theorem sp189_k (hM : ∀ k, k < 251 → m 73 k = nI (σ k)) (hy : RepY m n ss t τ tl tx) : ∃ m', (∀ k, k < 251 → m' 73 k = nI (σ k)) ∧ RepY m' n ss t τ 0 tx ∧ (∀ a, a < 72 ∨ 78 < a → m' a = m a) ∧ ∀ Φ : mj_R → mj_W → Prop, wp Ln xs 189 0 [.ref 72, mj_hole] [] (u, ml_h m lm) Φ = Φ (.inl (some (.int (nI tl)))) (u, ml_h m' lm) := by
  obtain ⟨y0, y1, y2, y3, y4, y5, y6⟩ := hy
  have r : ∀ a, a ≠ 72 → ml_s (ml_s m 72 8 (nI 0)) 72 7 (nI 0) a = m a := fun a ha => by rw [ml_s_row ha, ml_s_row ha]
  refine ⟨_, s_hF hM (r 73 (by decide)), ⟨y0, by rw [ml_s_k (by decide), ml_s_k (by decide)]; exact y1, fun j hj => RepM_of (y2 j hj) (r 74 (by decide)), by rw [ml_s_k (by decide), ml_s_k (by decide)]; exact y3, fun ht => RepM_of (y4 ht) (r 75 (by decide)), ml_s_s _ _ _ _, fun k hk => absurd hk (Nat.not_lt_zero k)⟩, fun a ha => r a (by omega), fun Φ => ?_⟩
  rw [x189_0, ml_s_k (by decide), y5]
theorem sp188_a (h : y < nI 33 ∨ nI 126 < y) : wp Ln xs 188 0 [.ref 72, .int y] [] (u, ml_h m lm) Φ = Φ (.inl (some (.int (nI 0)))) (u, ml_h (ml_s m 72 8 (nI 1)) lm) := by
  rw [x188_0, sp152_f h, mk_v, x188_9, if_neg (fun z => z rfl), x188_12, x188_30, sp154_e s_10, mk_v, x188_33, if_neg (fun z => z rfl), x188_36]
theorem sp188_s (hy : RepY m n ss t τ tl tx) (h1 : 33 ≤ v) (h2 : v ≤ 126) (hL : tl = 60) : wp Ln xs 188 0 [.ref 72, .int (nI v)] [] (u, ml_h m lm) Φ = Φ (.inl (some (.int (nI 0)))) (u, ml_h (ml_s m 72 8 (nI 2)) lm) := by
  rw [x188_0, sp152_t h1 h2 (by decide), mk_v, x188_9, if_pos s_10, x188_16, hy.2.2.2.2.2.1, hL, if_neg (fun z => z rfl), x188_25, x188_30, sp154_e (by decide), mk_v, x188_33, if_neg (fun z => z rfl), x188_36]
theorem sp188_k (hM : ∀ k, k < 251 → m 73 k = nI (σ k)) (hy : RepY m n ss t τ tl tx) (h1 : 33 ≤ v) (h2 : v ≤ 126) (hL : tl < 60) : ∃ m', (∀ k, k < 251 → m' 73 k = nI (σ k)) ∧ RepY m' n ss t τ (tl + 1) (s_ap tx tl v) ∧ m' 72 8 = nI 0 ∧ (∀ a, a < 72 ∨ 78 < a → m' a = m a) ∧ ∀ Φ : mj_R → mj_W → Prop, wp Ln xs 188 0 [.ref 72, .int (nI v)] [] (u, ml_h m lm) Φ = Φ (.inl (some (.int (nI (tl + 1))))) (u, ml_h m' lm) := by
  obtain ⟨y0, y1, y2, y3, y4, y5, y6⟩ := hy
  have r : ∀ a, a ≠ 72 → a ≠ 77 → ml_s (ml_s (ml_s m 72 8 (nI 0)) 77 tl (nI v)) 72 7 (nI (tl + 1)) a = m a := fun a ha hb => by rw [ml_s_row ha, ml_s_row hb, ml_s_row ha]
  have r2 : ∀ k, k ≠ 7 → k ≠ 8 → ml_s (ml_s (ml_s m 72 8 (nI 0)) 77 tl (nI v)) 72 7 (nI (tl + 1)) 72 k = m 72 k := fun k h1 h2 => by rw [ml_s_k h1, ml_s_a (by decide), ml_s_k h2]
  refine ⟨_, s_hF hM (r 73 (by decide) (by decide)), ⟨y0, by rw [r2 2 (by decide) (by decide)]; exact y1, fun j hj => RepM_of (y2 j hj) (r 74 (by decide) (by decide)), by rw [r2 4 (by decide) (by decide)]; exact y3, fun ht => RepM_of (y4 ht) (r 75 (by decide) (by decide)), ml_s_s _ _ _ _, fun k hk => ?_⟩, by rw [ml_s_k (by decide), ml_s_a (by decide), ml_s_s], fun a ha => r a (by omega) (by omega), fun Φ => ?_⟩
  · rw [ml_s_a (by decide)]
    unfold s_ap
    by_cases c : k = tl
    · rw [if_pos c, c, ml_s_s]
    · rw [if_neg c, ml_s_k c, ml_s_a (by decide)]
      exact y6 k (by omega)
  · rw [x188_0, sp152_t h1 h2 (by decide), mk_v, x188_9, if_pos s_10, x188_16, y5, if_pos (by rw [nI_eq (by omega) (by decide)]; omega), x188_29, x188_30, sp154_k, mk_v, x188_33, if_pos s_10, x188_38, ml_s_k (by decide), y5, x188_47 hL, ml_s_s, ml_s_a (show 72 ≠ 77 by decide), ml_s_k (show 7 ≠ 8 by decide), y5, nI_add]
end MTX
