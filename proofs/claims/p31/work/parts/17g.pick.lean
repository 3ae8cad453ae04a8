/-! ===== Pick, and a block written anew ===== -/
/-- the form that a sample picks -/
def s_pk (sa al : Nat) (f : Nat → Nat) (n : Nat) : Nat := s_li al (s_sz f (if n < sa then n else sa)) 4
section SPG
variable {Ln : Nat} {xs : Nat → Int32} {u : mj_U} {m : ml_M} {lm : ml_J} {Φ : mj_R → mj_W → Prop} {n : Nat} {f : Nat → Nat}
theorem sp21_l {r s q al P : Nat} (hr : ml_ia r) (hr0 : r ≠ 0) (h58 : r < 58 ∨ 60 < r) (h0 : 0 < n) (hn : n ≤ 16) (hs : s + n ≤ ml_n r) (hb : ∀ i, i < n → f i ≤ 999) {row row7 : Nat → Int32} (hf : ∀ i, i < n → row (s + i) = nI (f i)) (h72 : row7 2 = nI al) (hal : al < 2 ^ 31) (hq0 : 0 < q) (hq : q ≤ n) (hP : P = s_li al (s_sz f q) 4) : ∀ (d k : Nat) (m : ml_M), k + d = n → m r = row → m 7 = row7 → RepS m 59 f k → m 58 1 = nI (if q ≤ k then P else 0) → ∃ m', (m' 58 1 = nI P ∧ m' 58 2 = nI (s_sz f n P)) ∧ (∀ a, a < 58 ∨ 60 < a → m' a = m a) ∧ ∀ Φ : mj_R → mj_W → Prop, wp Ln xs 21 27 [.ref 58, .ref r, .int (nI s), .int (nI n), .ref 7, .int (nI q), .int (nI k)] [] (u, ml_h m lm) Φ = Φ (.inl none) (u, ml_h m' lm)
  | 0, k, m, h, hm, hm7, hR, hp => by
    obtain rfl : k = n := by omega
    have hP4 : P ≤ 4 := by rw [hP]; exact s_li_le _ _ _
    rw [if_pos hq] at hp
    refine ⟨ml_s m 58 2 (nI (s_sz f k P)), ⟨by rw [ml_s_k (by decide), hp], ml_s_s _ _ _ _⟩, fun a ha => ml_s_row (by omega), fun Φ => ?_⟩
    rw [x21_27, if_pos (nI_le (Nat.le_refl _) (by omega)), x21_80, hp, sp27 ml_sh_59 hR h0 hn hb hP4, mk_v, x21_92]
  | d + 1, k, m, h, hm, hm7, hR, hp => by
    obtain ⟨m1, hR1, fr1, e1⟩ := sp23 (Ln := Ln) (xs := xs) (u := u) (lm := lm) ml_sh_59 (by omega) (fun i hi => hb i (by omega)) hR
    have hv : m r (s + k) = nI (f k) := by rw [hm]; exact hf k (by omega)
    have hm1 : m1 r = row := by rw [fr1 r (by omega) (by omega), hm]
    have hm17 : m1 7 = row7 := by rw [fr1 7 (by decide) (by decide), hm7]
    have hp1 : m1 58 1 = nI (if q ≤ k then P else 0) := by rw [fr1 58 (by decide) (by decide), hp]
    by_cases hk : k + 1 = q
    · have hR2 : RepS (ml_s m1 58 1 (nI P)) 59 f (k + 1) := RepS_of hR1 (ml_s_row (by decide)) (ml_s_row (by decide))
      obtain ⟨m2, g2, fr2, e2⟩ := sp21_l hr hr0 h58 h0 hn hs hb hf h72 hal hq0 hq hP d (k + 1) (ml_s m1 58 1 (nI P)) (by omega) (by rw [ml_s_row (by omega), hm1]) (by rw [ml_s_row (by decide), hm17]) hR2 (by rw [ml_s_s, if_pos (by omega)])
      refine ⟨m2, g2, fun a ha => by rw [fr2 a ha, ml_s_row (by omega), fr1 a (by omega) (by omega)], fun Φ => ?_⟩
      have h50 : ∀ Φ : mj_R → mj_W → Prop, wp Ln xs 26 0 [.ref 59, .int (nI al), mj_hole, mj_hole, mj_hole, mj_hole] [] (u, ml_h m1 lm) Φ = Φ (.inl (some (.int (nI P)))) (u, ml_h m1 lm) := fun Φ => by
        rw [sp26 ml_sh_59 hR1 (by omega) (by omega) (fun i hi => hb i (by omega)) hal, hP, hk]
      rw [x21_27, if_neg (nI_ge (by omega) (by omega)), x21_33, nI_add, sp_at hr hr0 (by omega), mk_v, hv, x21_45, e1, mk_n, x21_48, nI_add, hk, if_neg (fun z => z rfl), x21_57, at_7 (by omega), mk_v, hm17, h72, x21_68, h50, mk_v, x21_71, x21_74, nI_add, e2]
    · have hp2 : m1 58 1 = nI (if q ≤ k + 1 then P else 0) := by
        rw [hp1]
        by_cases hc : q ≤ k
        · rw [if_pos hc, if_pos (by omega)]
        · rw [if_neg hc, if_neg (by omega)]
      obtain ⟨m2, g2, fr2, e2⟩ := sp21_l hr hr0 h58 h0 hn hs hb hf h72 hal hq0 hq hP d (k + 1) m1 (by omega) hm1 hm17 hR1 hp2
      refine ⟨m2, g2, fun a ha => by rw [fr2 a ha, fr1 a (by omega) (by omega)], fun Φ => ?_⟩
      rw [x21_27, if_neg (nI_ge (by omega) (by omega)), x21_33, nI_add, sp_at hr hr0 (by omega), mk_v, hv, x21_45, e1, mk_n, x21_48, nI_add, if_pos (by rw [nI_eq (by omega) (by omega)]; exact hk), x21_74, nI_add, e2]
theorem sp21 {r s sa al : Nat} (hr : ml_ia r) (hr0 : r ≠ 0) (h58 : r < 58 ∨ 60 < r) (h0 : 0 < n) (hn : n ≤ 16) (hs : s + n ≤ ml_n r) (hb : ∀ i, i < n → f i ≤ 999) (hf : ∀ i, i < n → m r (s + i) = nI (f i)) (h70 : m 7 0 = nI sa) (hsa0 : 0 < sa) (hsa : sa < 2 ^ 31) (h72 : m 7 2 = nI al) (hal : al < 2 ^ 31) : ∃ m', (m' 58 1 = nI (s_pk sa al f n) ∧ m' 58 2 = nI (s_sz f n (s_pk sa al f n))) ∧ (∀ a, a < 58 ∨ 60 < a → m' a = m a) ∧ ∀ Φ : mj_R → mj_W → Prop, wp Ln xs 21 0 [.ref 58, .ref r, .int (nI s), .int (nI n), .ref 7, mj_hole, mj_hole] [] (u, ml_h m lm) Φ = Φ (.inl none) (u, ml_h m' lm) := by
  have hq : (if nI sa < nI n then nI sa else nI n) = nI (if n < sa then n else sa) := by
    by_cases c : n < sa
    · rw [if_pos c, if_neg (nI_nlt (by omega) hsa)]
    · rw [if_neg c]
      by_cases c2 : sa < n
      · rw [if_pos (nI_lt c2 (by omega))]
      · obtain rfl : sa = n := by omega
        rw [ite_self]
  obtain ⟨m1, hR1, fr1, e1⟩ := sp22 (Ln := Ln) (xs := xs) (u := u) (lm := lm) (m := ml_s m 58 1 (nI 0)) f ml_sh_59
  have k0 : 0 < (if n < sa then n else sa) := by split <;> omega
  have k1 : (if n < sa then n else sa) ≤ n := by split <;> omega
  obtain ⟨m2, g2, fr2, e2⟩ := sp21_l (Ln := Ln) (xs := xs) (u := u) (lm := lm) (row := m r) (row7 := m 7) hr hr0 h58 h0 hn hs hb hf h72 hal k0 k1 rfl n 0 m1 (by omega) (by rw [fr1 r (by omega), ml_s_row (by omega)]) (by rw [fr1 7 (by decide), ml_s_row (by decide)]) hR1 (by rw [fr1 58 (by decide), ml_s_s, if_neg (by omega)])
  refine ⟨m2, g2, fun a ha => by rw [fr2 a ha, fr1 a (by omega), ml_s_row (by omega)], fun Φ => ?_⟩
  rw [x21_0, at_7 (by omega), mk_v, h70, x21_7, hq, e1, mk_n, x21_24, e2]
end SPG
