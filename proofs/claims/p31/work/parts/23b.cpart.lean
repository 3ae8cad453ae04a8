/-! ===== parting: the class ===== -/
/-- the rows of a Parting hold these weights -/
def RA (m : ml_M) (T : Nat) (A : Nat → Nat) : Prop := ∀ t, t ≤ T → m 67 t = nI (A t / 1000) ∧ m 68 t = nI (A t % 1000)
theorem RA_of {m m' : ml_M} {T : Nat} {A : Nat → Nat} (h : RA m T A) (e : m' 67 = m 67) (e2 : m' 68 = m 68) : RA m' T A := fun t ht => by rw [e, e2]; exact h t ht
theorem RA_c {m : ml_M} {T : Nat} {A B : Nat → Nat} (h : RA m T A) (e : ∀ t, t ≤ T → A t = B t) : RA m T B := fun t ht => by rw [← e t ht]; exact h t ht
theorem s_pi_le {w : Nat → Nat → Nat} {A : Nat → Nat} {i t : Nat} : ∀ n, s_pi w A i n t ≤ A t
  | 0 => Nat.le_refl _
  | n + 1 => by
    have ih := s_pi_le (w := w) (A := A) (i := i) (t := t) n
    rw [s_pi]
    by_cases c : t = i + (n + 1)
    · subst c
      rw [s_of_s]
      split <;> omega
    · rw [s_of_n c]
      exact ih
theorem s_fw_le {w : Nat → Nat → Nat} {T t : Nat} : ∀ i, s_fw w T i t ≤ 1000000000
  | 0 => by
    show (if t = 0 then 0 else 1000000000) ≤ 1000000000
    split <;> omega
  | i + 1 => Nat.le_trans (s_pi_le _) (s_fw_le i)
section CPA
variable {Ln : Nat} {xs : Nat → Int32} {u : mj_U} {m : ml_M} {lm : ml_J} {Φ : mj_R → mj_W → Prop} {σ τ : s_S} {n t tl v k b w T i : Nat} {A : Nat → Nat} {y z : Int32}
theorem sp48 {nb nn : Nat} (hT : T ≤ 207) (ht : t ≤ T) (hA : A t ≤ 1000000000) (hn : nn < 1000) (hb : nb < 2 ^ 30) (hR : RA m T A) : ∃ m', RA m' T (s_of A t (1000 * nb + nn)) ∧ (∀ a, a ≠ 67 → a ≠ 68 → m' a = m a) ∧ ∀ Φ : mj_R → mj_W → Prop, wp Ln xs 48 0 [.ref 64, .int (nI t), .int (nI nb), .int (nI nn), mj_hole] [] (u, ml_h m lm) Φ = Φ (.inl none) (u, ml_h m' lm) := by
  obtain ⟨e1, e2⟩ := hR t ht
  have hdm := Nat.div_add_mod (A t) 1000
  have hm := Nat.mod_lt (A t) (show 0 < 1000 by decide)
  have put : RA (ml_s (ml_s m 67 t (nI nb)) 68 t (nI nn)) T (s_ap A t (1000 * nb + nn)) := fun j hj => by
    unfold s_ap
    by_cases c : j = t
    · rw [if_pos c, c, ml_s_a (by decide), ml_s_s, ml_s_s, show (1000 * nb + nn) / 1000 = nb by omega, show (1000 * nb + nn) % 1000 = nn by omega]
      exact ⟨rfl, rfl⟩
    · rw [if_neg c, ml_s_a (by decide), ml_s_k c, ml_s_k c, ml_s_a (by decide)]
      exact hR j hj
  have stay : s_ap A t (A t) = A := by
    funext j
    unfold s_ap
    by_cases c : j = t
    · rw [if_pos c, c]
    · rw [if_neg c]
  have go : ∀ Φ : mj_R → mj_W → Prop, wp Ln xs 48 34 [.ref 64, .int (nI t), .int (nI nb), .int (nI nn), .int (nI (A t / 1000))] [] (u, ml_h m lm) Φ = Φ (.inl none) (u, ml_h (ml_s (ml_s m 67 t (nI nb)) 68 t (nI nn)) lm) := fun Φ => by
    rw [x48_34, put_67 (by omega), mk_n, x48_43, put_68 (by omega), mk_n, x48_52]
  unfold s_of
  by_cases c : 1000 * nb + nn < A t
  · rw [if_pos c]
    refine ⟨_, put, fun a h1 h2 => by rw [ml_s_row h2, ml_s_row h1], fun Φ => ?_⟩
    rw [x48_0, at_67 (by omega), mk_v, e1, x48_8]
    by_cases c1 : nb < A t / 1000
    · rw [if_pos (nI_lt c1 (by omega)), go]
    · rw [if_neg (nI_nlt (by omega) (by omega)), x48_16, show nb = A t / 1000 by omega, if_neg (fun z => z rfl), x48_22, at_68 (by omega), mk_v, e2, x48_31, if_neg (nI_ge (by omega) (by omega)), show A t / 1000 = nb by omega]
      have g := go Φ
      rw [show A t / 1000 = nb by omega] at g
      exact g
  · rw [if_neg c, stay]
    refine ⟨m, hR, fun _ _ _ => rfl, fun Φ => ?_⟩
    rw [x48_0, at_67 (by omega), mk_v, e1, x48_8, if_neg (nI_nlt (by omega) (by omega)), x48_16]
    by_cases c1 : nb = A t / 1000
    · rw [c1, if_neg (fun z => z rfl), x48_22, at_68 (by omega), mk_v, e2, x48_31, if_pos (nI_le (by omega) (by omega)), x48_52]
    · rw [if_pos (by rw [nI_eq (by omega) (by omega)]; exact c1), x48_52]
theorem sp46_l (hT : T ≤ 207) {y : Int32} : ∀ (d i : Nat) (m : ml_M), i + d = T + 1 → (∀ t, t < i → m 67 t = nI 1000000 ∧ m 68 t = nI 0) → ∃ m', (∀ t, t < T + 1 → m' 67 t = nI 1000000 ∧ m' 68 t = nI 0) ∧ (∀ a, a ≠ 67 → a ≠ 68 → m' a = m a) ∧ ∀ Φ : mj_R → mj_W → Prop, wp Ln xs 46 2 [.ref 64, .int y, .int (nI T), .int (nI i)] [] (u, ml_h m lm) Φ = wp Ln xs 46 32 [.ref 64, .int y, .int (nI T), .int (nI (T + 1))] [] (u, ml_h m' lm) Φ
  | 0, i, m, h, hm => by
    obtain rfl : i = T + 1 := by omega
    refine ⟨m, hm, fun _ _ _ => rfl, fun Φ => ?_⟩
    rw [x46_2, if_pos (nI_lt (by omega) (by omega))]
  | d + 1, i, m, h, hm => by
    obtain ⟨m', g1, g2, g3⟩ := sp46_l hT (y := y) d (i + 1) (ml_s (ml_s m 67 i (nI 1000000)) 68 i (nI 0)) (by omega) (fun t ht => by
      by_cases c : t = i
      · rw [c, ml_s_a (by decide), ml_s_s, ml_s_s]
        exact ⟨rfl, rfl⟩
      · rw [ml_s_a (by decide), ml_s_k c, ml_s_k c, ml_s_a (by decide)]
        exact hm t (by omega))
    refine ⟨m', g1, fun a h1 h2 => by rw [g2 a h1 h2, ml_s_row h2, ml_s_row h1], fun Φ => ?_⟩
    rw [x46_2, if_neg (nI_nlt (by omega) (by omega)), x46_7, put_67 (by omega), mk_n, x46_17, put_68 (by omega), mk_n, x46_26, nI_add]
    exact g3 Φ
theorem sp46 (hT : T ≤ 207) (hk : k ≤ T) : ∃ m', RA m' T (fun t => if t = k then 0 else 1000000000) ∧ (∀ a, a ≠ 67 → a ≠ 68 → m' a = m a) ∧ ∀ Φ : mj_R → mj_W → Prop, wp Ln xs 46 0 [.ref 64, .int (nI k), .int (nI T), mj_hole] [] (u, ml_h m lm) Φ = Φ (.inl none) (u, ml_h m' lm) := by
  obtain ⟨m1, g1, g2, g3⟩ := sp46_l (Ln := Ln) (xs := xs) (u := u) (lm := lm) hT (y := nI k) (T + 1) 0 m (by omega) (fun t ht => absurd ht (Nat.not_lt_zero t))
  refine ⟨ml_s m1 67 k (nI 0), fun t ht => ?_, fun a h1 h2 => by rw [ml_s_row h1, g2 a h1 h2], fun Φ => ?_⟩
  · obtain ⟨a1, a2⟩ := g1 t (by omega)
    show _ = nI ((if t = k then 0 else 1000000000) / 1000) ∧ _ = nI ((if t = k then 0 else 1000000000) % 1000)
    by_cases c : t = k
    · rw [if_pos c, c, ml_s_s, ml_s_a (by decide), ← c, a2]
      exact ⟨rfl, rfl⟩
    · rw [if_neg c, ml_s_k c, ml_s_a (by decide), a1, a2]
      exact ⟨rfl, rfl⟩
  · rw [x46_0]
    refine (g3 Φ).trans ?_
    rw [x46_32, put_67 (by omega), mk_n, x46_41]
theorem sp47 {f : Nat → Nat} {a : Nat} (hR : RepS m 65 f n) (h0 : 0 < n) (hn : n ≤ 16) (hv : ∀ i, i < n → f i ≤ 999) (ha : a < 2 ^ 31) : wp Ln xs 47 0 [.ref 64, .int (nI a)] [] (u, ml_h m lm) Φ = Φ (.inl (some (.int (nI (7 + s_sz f n (s_li a (s_sz f n) 4)))))) (u, ml_h m lm) := by
  have hl := s_li_le a (s_sz f n) 4
  rw [x47_0, sp26 ml_sh_65 hR h0 hn hv ha, mk_v, x47_14, sp27 ml_sh_65 hR h0 hn hv hl, mk_v, x47_17, nI_add]
/-- the weights from index i on offered -/
theorem sp49_i (h0 : s_ok σ) (hi : i < s_tot σ) (hA : ∀ t, A t ≤ 1000000000) (hAi : A i % 1000 < 999) : ∀ (d l : Nat) (m : ml_M), l + d = s_mn (s_tot σ - i) → RepC m 2 σ → RepS m 65 (s_fv σ i) l → RA m (s_tot σ) (s_pi (s_w σ) A i l) → ∃ m', RepC m' 2 σ ∧ RA m' (s_tot σ) (s_pi (s_w σ) A i (s_mn (s_tot σ - i))) ∧ (∀ a, a < 65 ∨ 68 < a → m' a = m a) ∧ ∀ Φ : mj_R → mj_W → Prop, wp Ln xs 49 48 [.ref 64, .ref 2, .int (nI (σ 4)), .int (nI i), .int (nI (s_mn (s_tot σ - i))), .int (nI (l + 1))] [] (u, ml_h m lm) Φ = wp Ln xs 49 113 [.ref 64, .ref 2, .int (nI (σ 4)), .int (nI i), .int (nI (s_mn (s_tot σ - i))), .int (nI (s_mn (s_tot σ - i) + 1))] [] (u, ml_h m' lm) Φ
  | 0, l, m, h, hC, hR, hr => by
    have hmn := s_mn_le (s_tot σ - i)
    obtain rfl : l = s_mn (s_tot σ - i) := by omega
    refine ⟨m, hC, hr, fun _ _ => rfl, fun Φ => ?_⟩
    rw [x49_48, if_pos (nI_lt (by omega) (by omega))]
  | d + 1, l, m, h, hC, hR, hr => by
    have hmn := s_mn_le (s_tot σ - i)
    have hT := s_tot_le h0
    have hv : ∀ j, j < l + 1 → s_fv σ i j ≤ 999 := fun j hj => h0.2.2.2.1 _ (by omega)
    have h4 := h0.2.2.2.2.2.2.2.2.1
    have e3 : m 3 (i + l) = nI (s_fv σ i l) := hC.2.2.2.2.1 _ (by omega)
    obtain ⟨m1, r1, f1, g1⟩ := sp23 (Ln := Ln) (xs := xs) (u := u) (lm := lm) ml_sh_65 (by omega) hv hR
    have hr1 : RA m1 (s_tot σ) (s_pi (s_w σ) A i l) := RA_of hr (f1 67 (by decide) (by decide)) (f1 68 (by decide) (by decide))
    have eAi := s_pi_lo (w := s_w σ) (A := A) (i := i) l i (Nat.le_refl _)
    obtain ⟨e67, e68⟩ := hr1 i (by omega)
    rw [eAi] at e67 e68
    have hAi2 := hA i
    have hcb := s_sz_le (f := s_fv σ i) (n := l + 1) (fo := s_li (σ 4) (s_sz (s_fv σ i) (l + 1)) 4) (by omega) (by omega) hv
    have hdm := Nat.div_add_mod (A i) 1000
    have ex : 1000 * (A i / 1000 + s_cb σ i (l + 1)) + (A i % 1000 + 1) = s_pi (s_w σ) A i l i + s_w σ i (l + 1) := by
      rw [eAi]
      unfold s_w
      omega
    have hcb2 : s_cb σ i (l + 1) ≤ 1007 := by
      unfold s_cb
      omega
    obtain ⟨m2, r2, f2, g2⟩ := sp48 (Ln := Ln) (xs := xs) (u := u) (lm := lm) (t := i + (l + 1)) (nb := A i / 1000 + s_cb σ i (l + 1)) (nn := A i % 1000 + 1) hT (by omega) (Nat.le_trans (s_pi_le _) (hA _)) (by omega) (by omega) hr1
    rw [ex] at r2
    have hC2 : RepC m2 2 σ := RepC_of hC (fun a _ _ => by rw [f2 a (by omega) (by omega), f1 a (by omega) (by omega)])
    obtain ⟨m3, r3, q3, f3, g3⟩ := sp49_i h0 hi hA hAi d (l + 1) m2 (by omega) hC2 (RepS_of r1 (f2 65 (by decide) (by decide)) (f2 66 (by decide) (by decide))) r2
    refine ⟨m3, r3, q3, fun a ha => by rw [f3 a ha, f2 a (by omega) (by omega), f1 a (by omega) (by omega)], fun Φ => ?_⟩
    rw [x49_48, if_neg (nI_nlt (by omega) (by omega)), x49_55, nI_add, pk_sub (by omega), show i + (l + 1) - 1 = i + l by omega, at_3 (by omega), mk_v, e3, x49_72, g1, mk_n, x49_75, nI_add, at_67 (by omega), mk_v, e67, x49_88, sp47 r1 (by omega) (by omega) hv (by omega), mk_v, x49_93, nI_add, at_68 (by omega), mk_v, e68, x49_102, nI_add]
    refine (g2 _).trans ?_
    rw [mk_n, x49_107, nI_add]
    exact g3 Φ
theorem s_mn_I {a : Nat} (ha : a < 2 ^ 31) : (if nI a < nI 16 then nI a else nI 16) = nI (s_mn a) := by
  unfold s_mn
  by_cases c : a < 16
  · rw [if_pos c, if_pos (nI_lt c (by decide))]
  · rw [if_neg c, if_neg (nI_nlt (by omega) ha)]
theorem sp49_l (h0 : s_ok σ) : ∀ (d i : Nat) (m : ml_M) (v4 v5 : Value), i + d = s_tot σ → RepC m 2 σ → RA m (s_tot σ) (s_fw (s_w σ) (s_tot σ) i) → ∃ m', RA m' (s_tot σ) (s_fw (s_w σ) (s_tot σ) (s_tot σ)) ∧ (∀ a, a < 65 ∨ 68 < a → m' a = m a) ∧ ∀ Φ : mj_R → mj_W → Prop, wp Ln xs 49 17 [.ref 64, .ref 2, .int (nI (σ 4)), .int (nI i), v4, v5] [] (u, ml_h m lm) Φ = Φ (.inl none) (u, ml_h m' lm)
  | 0, i, m, v4, v5, h, hC, hr => by
    have hT := s_tot_le h0
    obtain rfl : i = s_tot σ := by omega
    refine ⟨m, hr, fun _ _ => rfl, fun Φ => ?_⟩
    rw [x49_17, hC.1, if_pos (nI_le (Nat.le_refl _) (by omega)), x49_119]
  | d + 1, i, m, v4, v5, h, hC, hr => by
    have hT := s_tot_le h0
    obtain ⟨n, q, b1, b2, b3, b4, b5⟩ := s_mm_b (s_w_ok h0) (show i ≤ s_tot σ by omega) ((s_fw_v (s_w_ok h0) hT i (by omega)).1 i (Nat.le_refl _))
    obtain ⟨m1, r1, f1, g1⟩ := sp22 (Ln := Ln) (xs := xs) (u := u) (lm := lm) (m := m) (s_fv σ i) ml_sh_65
    have hC1 : RepC m1 2 σ := RepC_of hC (fun a _ _ => f1 a (by omega))
    obtain ⟨m2, r2, q2, f2, g2⟩ := sp49_i (Ln := Ln) (xs := xs) (u := u) (lm := lm) (A := s_fw (s_w σ) (s_tot σ) i) h0 (show i < s_tot σ by omega) (fun t => s_fw_le i) (by omega) (s_mn (s_tot σ - i)) 0 m1 (by omega) hC1 r1 (RA_of hr (f1 67 (by decide)) (f1 68 (by decide)))
    obtain ⟨m3, q3, f3, g3⟩ := sp49_l h0 d (i + 1) m2 (.int (nI (s_mn (s_tot σ - i)))) (.int (nI (s_mn (s_tot σ - i) + 1))) (by omega) r2 q2
    refine ⟨m3, q3, fun a ha => by rw [f3 a ha, f2 a ha, f1 a (by omega)], fun Φ => ?_⟩
    rw [x49_17, hC.1, if_neg (nI_ge (by omega) (by omega)), x49_25, hC.1, pk_sub (by omega), s_mn_I (by omega), g1, mk_n, x49_45]
    refine (g2 _).trans ?_
    rw [x49_113, nI_add]
    exact g3 Φ
theorem sp49 (h0 : s_ok σ) (h : RepC m 2 σ) : ∃ m', RepC m' 2 σ ∧ m' 67 (s_tot σ) = nI (s_K σ / 1000) ∧ m' 68 (s_tot σ) = nI (s_K σ % 1000) ∧ (∀ a, a < 65 ∨ 68 < a → m' a = m a) ∧ ∀ Φ : mj_R → mj_W → Prop, wp Ln xs 49 0 [.ref 64, .ref 2, mj_hole, mj_hole, mj_hole, mj_hole] [] (u, ml_h m lm) Φ = Φ (.inl none) (u, ml_h m' lm) := by
  have hT := s_tot_le h0
  obtain ⟨m1, r1, f1, g1⟩ := sp46 (Ln := Ln) (xs := xs) (u := u) (m := m) (lm := lm) hT (Nat.zero_le (s_tot σ))
  obtain ⟨m2, r2, f2, g2⟩ := sp49_l (Ln := Ln) (xs := xs) (u := u) (lm := lm) h0 (s_tot σ) 0 m1 mj_hole mj_hole (by omega) (RepC_of h (fun a _ _ => f1 a (by omega) (by omega))) r1
  obtain ⟨a1, a2⟩ := r2 (s_tot σ) (Nat.le_refl _)
  refine ⟨m2, RepC_of h (fun a _ _ => by rw [f2 a (by omega), f1 a (by omega) (by omega)]), a1, a2, fun a ha => by rw [f2 a ha, f1 a (by omega) (by omega)], fun Φ => ?_⟩
  rw [x49_0, sp33 (by decide), mk_v, h.2.2.2.2.2.2.2.2 2 (by decide), x49_5, h.1, g1, mk_n, x49_15]
  exact g2 Φ
/-! from the last on -/
theorem s_of_ap {B : Nat → Nat} {x0 : Nat} {x : Nat → Nat} {l y : Nat} (hy : y = x l) : s_of (s_ap B i (s_mi x0 x l)) i y = s_ap B i (s_mi x0 x (l + 1)) := by
  subst hy
  funext j
  unfold s_of
  rw [s_mi]
  unfold s_ap
  by_cases c : j = i
  · rw [if_pos c, if_pos c, if_pos rfl]
  · rw [if_neg c, if_neg c, if_neg c]
theorem sp45_i {d0 : Nat} (h0 : s_ok σ) (hd0 : d0 < s_tot σ) (hi : i = s_tot σ - (d0 + 1)) : ∀ (d l : Nat) (m : ml_M), l + d = s_mn (d0 + 1) → RepC m 2 σ → RepS m 65 (s_fv σ i) l → RA m (s_tot σ) (s_ap (s_qr (s_w σ) (s_tot σ) d0) i (s_mi 1000000000 (fun l => s_qr (s_w σ) (s_tot σ) d0 (i + (l + 1)) + s_w σ i (l + 1)) l)) → ∃ m', RepC m' 2 σ ∧ RA m' (s_tot σ) (s_ap (s_qr (s_w σ) (s_tot σ) d0) i (s_mi 1000000000 (fun l => s_qr (s_w σ) (s_tot σ) d0 (i + (l + 1)) + s_w σ i (l + 1)) (s_mn (d0 + 1)))) ∧ (∀ a, a < 65 ∨ 68 < a → m' a = m a) ∧ ∀ Φ : mj_R → mj_W → Prop, wp Ln xs 45 52 [.ref 64, .ref 2, .int (nI (σ 4)), .int (nI i), .int (nI (s_mn (d0 + 1))), .int (nI (l + 1))] [] (u, ml_h m lm) Φ = wp Ln xs 45 120 [.ref 64, .ref 2, .int (nI (σ 4)), .int (nI i), .int (nI (s_mn (d0 + 1))), .int (nI (s_mn (d0 + 1) + 1))] [] (u, ml_h m' lm) Φ
  | 0, l, m, h, hC, hR, hr => by
    have hmn := s_mn_le (d0 + 1)
    obtain rfl : l = s_mn (d0 + 1) := by omega
    refine ⟨m, hC, hr, fun _ _ => rfl, fun Φ => ?_⟩
    rw [x45_52, if_pos (nI_lt (by omega) (by omega))]
  | d + 1, l, m, h, hC, hR, hr => by
    have hmn := s_mn_le (d0 + 1)
    have hT := s_tot_le h0
    have hv : ∀ j, j < l + 1 → s_fv σ i j ≤ 999 := fun j hj => h0.2.2.2.1 _ (by omega)
    have h4 := h0.2.2.2.2.2.2.2.2.1
    have e3 : m 3 (i + l) = nI (s_fv σ i l) := hC.2.2.2.2.1 _ (by omega)
    obtain ⟨m1, r1, f1, g1⟩ := sp23 (Ln := Ln) (xs := xs) (u := u) (lm := lm) ml_sh_65 (by omega) hv hR
    have hr1 := RA_of hr (f1 67 (by decide) (by decide)) (f1 68 (by decide) (by decide))
    obtain ⟨e67, e68⟩ := hr1 (i + (l + 1)) (by omega)
    have eq1 : s_ap (s_qr (s_w σ) (s_tot σ) d0) i (s_mi 1000000000 (fun l => s_qr (s_w σ) (s_tot σ) d0 (i + (l + 1)) + s_w σ i (l + 1)) l) (i + (l + 1)) = s_qr (s_w σ) (s_tot σ) d0 (i + (l + 1)) := if_neg (by omega)
    rw [eq1] at e67 e68
    obtain ⟨n, q, b1, b2, b3, b4, b5⟩ := s_mm_b (s_w_ok h0) (Nat.le_refl (s_tot σ)) ((s_qr_v (s_w_ok h0) hT d0 (by omega)).1 (i + (l + 1)) (by omega) (by omega))
    have hcb := s_sz_le (f := s_fv σ i) (n := l + 1) (fo := s_li (σ 4) (s_sz (s_fv σ i) (l + 1)) 4) (by omega) (by omega) hv
    have hcb2 : s_cb σ i (l + 1) ≤ 1007 := by
      unfold s_cb
      omega
    have hle := s_mi_le (x0 := 1000000000) (x := fun l => s_qr (s_w σ) (s_tot σ) d0 (i + (l + 1)) + s_w σ i (l + 1)) l
    have hap : s_ap (s_qr (s_w σ) (s_tot σ) d0) i (s_mi 1000000000 (fun l => s_qr (s_w σ) (s_tot σ) d0 (i + (l + 1)) + s_w σ i (l + 1)) l) i ≤ 1000000000 := by
      unfold s_ap
      rw [if_pos rfl]
      exact hle.1
    obtain ⟨m2, r2, f2, g2⟩ := sp48 (Ln := Ln) (xs := xs) (u := u) (lm := lm) (t := i) (nb := s_qr (s_w σ) (s_tot σ) d0 (i + (l + 1)) / 1000 + s_cb σ i (l + 1)) (nn := s_qr (s_w σ) (s_tot σ) d0 (i + (l + 1)) % 1000 + 1) hT (by omega) hap (by omega) (by omega) hr1
    rw [s_of_ap (by
      show _ = s_qr (s_w σ) (s_tot σ) d0 (i + (l + 1)) + s_w σ i (l + 1)
      unfold s_w
      have hdm := Nat.div_add_mod (s_qr (s_w σ) (s_tot σ) d0 (i + (l + 1))) 1000
      unfold s_w at hdm
      omega)] at r2
    have hC2 : RepC m2 2 σ := RepC_of hC (fun a _ _ => by rw [f2 a (by omega) (by omega), f1 a (by omega) (by omega)])
    obtain ⟨m3, r3, q3, f3, g3⟩ := sp45_i h0 hd0 hi d (l + 1) m2 (by omega) hC2 (RepS_of r1 (f2 65 (by decide) (by decide)) (f2 66 (by decide) (by decide))) r2
    refine ⟨m3, r3, q3, fun a ha => by rw [f3 a ha, f2 a (by omega) (by omega), f1 a (by omega) (by omega)], fun Φ => ?_⟩
    rw [x45_52, if_neg (nI_nlt (by omega) (by omega)), x45_59, nI_add, pk_sub (by omega), show i + (l + 1) - 1 = i + l by omega, at_3 (by omega), mk_v, e3, x45_76, g1, mk_n, x45_79, nI_add, at_67 (by omega), mk_v, e67, x45_92, sp47 r1 (by omega) (by omega) hv (by omega), mk_v, x45_97, nI_add, nI_add, at_68 (by omega), mk_v, e68, x45_109, nI_add]
    refine (g2 _).trans ?_
    rw [mk_n, x45_114, nI_add]
    exact g3 Φ
theorem sp45_l (h0 : s_ok σ) : ∀ (d d0 : Nat) (m : ml_M) (v4 v5 : Value), d0 + d = s_tot σ → RepC m 2 σ → RA m (s_tot σ) (s_qr (s_w σ) (s_tot σ) d0) → ∃ m', RA m' (s_tot σ) (s_qr (s_w σ) (s_tot σ) (s_tot σ)) ∧ (∀ a, a < 65 ∨ 68 < a → m' a = m a) ∧ ∃ w3 w4 w5, ∀ Φ : mj_R → mj_W → Prop, wp Ln xs 45 25 [.ref 64, .ref 2, .int (nI (σ 4)), .int (nI d - nI 1), v4, v5] [] (u, ml_h m lm) Φ = wp Ln xs 45 126 [.ref 64, .ref 2, .int (nI (σ 4)), .int w3, w4, w5] [] (u, ml_h m' lm) Φ
  | 0, d0, m, v4, v5, h, hC, hr => by
    obtain rfl : d0 = s_tot σ := by omega
    refine ⟨m, hr, fun _ _ => rfl, nI 0 - nI 1, v4, v5, fun Φ => ?_⟩
    rw [x45_25, if_pos (by decide)]
  | d + 1, d0, m, v4, v5, h, hC, hr => by
    have hT := s_tot_le h0
    obtain ⟨q1, q2⟩ := s_qr_v (s_w_ok h0) hT d0 (by omega)
    obtain ⟨m1, r1, f1, g1⟩ := sp22 (Ln := Ln) (xs := xs) (u := u) (lm := lm) (m := m) (s_fv σ d) ml_sh_65
    have hC1 : RepC m1 2 σ := RepC_of hC (fun a _ _ => f1 a (by omega))
    have e0 : s_ap (s_qr (s_w σ) (s_tot σ) d0) d (s_mi 1000000000 (fun l => s_qr (s_w σ) (s_tot σ) d0 (d + (l + 1)) + s_w σ d (l + 1)) 0) = s_qr (s_w σ) (s_tot σ) d0 := by
      funext j
      unfold s_ap
      by_cases c : j = d
      · rw [if_pos c, c, q2 d (by omega)]
        rfl
      · rw [if_neg c]
    obtain ⟨m2, r2, k2, f2, g2⟩ := sp45_i (Ln := Ln) (xs := xs) (u := u) (lm := lm) (i := d) (d0 := d0) h0 (show d0 < s_tot σ by omega) (by omega) (s_mn (d0 + 1)) 0 m1 (by omega) hC1 r1 (by rw [e0]; exact RA_of hr (f1 67 (by decide)) (f1 68 (by decide)))
    have e1 : s_ap (s_qr (s_w σ) (s_tot σ) d0) d (s_mi 1000000000 (fun l => s_qr (s_w σ) (s_tot σ) d0 (d + (l + 1)) + s_w σ d (l + 1)) (s_mn (d0 + 1))) = s_qr (s_w σ) (s_tot σ) (d0 + 1) := by
      have ed : s_tot σ - (d0 + 1) = d := by omega
      show _ = s_ap (s_qr (s_w σ) (s_tot σ) d0) (s_tot σ - (d0 + 1)) (s_mi 1000000000 (fun l => s_qr (s_w σ) (s_tot σ) d0 (s_tot σ - (d0 + 1) + (l + 1)) + s_w σ (s_tot σ - (d0 + 1)) (l + 1)) (s_mn (d0 + 1)))
      rw [ed]
    rw [e1] at k2
    obtain ⟨m3, k3, f3, w3, w4, w5, g3⟩ := sp45_l h0 d (d0 + 1) m2 (.int (nI (s_mn (d0 + 1)))) (.int (nI (s_mn (d0 + 1) + 1))) (by omega) r2 k2
    refine ⟨m3, k3, fun a ha => by rw [f3 a ha, f2 a ha, f1 a (by omega)], w3, w4, w5, fun Φ => ?_⟩
    rw [pk_sub (by omega), Nat.add_sub_cancel, x45_25, if_neg (nI_nlt (Nat.zero_le _) (by omega)), x45_29, hC.1, pk_sub (by omega), show s_tot σ - d = d0 + 1 by omega, s_mn_I (by omega), g1, mk_n, x45_49]
    refine (g2 _).trans ?_
    rw [x45_120, ← Int32.sub_eq_add_neg (nI d) 1]
    exact g3 Φ
theorem sp45 (h0 : s_ok σ) (h : RepC m 2 σ) : ∃ m', (∀ a, a < 65 ∨ 68 < a → m' a = m a) ∧ ∀ Φ : mj_R → mj_W → Prop, wp Ln xs 45 0 [.ref 64, .ref 2, mj_hole, mj_hole, mj_hole, mj_hole] [] (u, ml_h m lm) Φ = Φ (.inl (some (.int (nI (s_K σ / 1000))))) (u, ml_h m' lm) := by
  have hT := s_tot_le h0
  obtain ⟨m1, r1, f1, g1⟩ := sp46 (Ln := Ln) (xs := xs) (u := u) (m := m) (lm := lm) hT (Nat.le_refl (s_tot σ))
  obtain ⟨m2, r2, f2, w3, w4, w5, g2⟩ := sp45_l (Ln := Ln) (xs := xs) (u := u) (lm := lm) h0 (s_tot σ) 0 m1 mj_hole mj_hole (by omega) (RepC_of h (fun a _ _ => f1 a (by omega) (by omega))) r1
  obtain ⟨a1, a2⟩ := r2 0 (Nat.zero_le _)
  have eK := s_mm_u ((s_qr_v (s_w_ok h0) hT (s_tot σ) (Nat.le_refl _)).1 0 (by omega) (Nat.zero_le _)) (s_K_mm h0)
  have c1 : m1 2 5 = nI (s_tot σ) := by rw [f1 2 (by decide) (by decide)]; exact h.1
  refine ⟨m2, fun a ha => by rw [f2 a ha, f1 a (by omega) (by omega)], fun Φ => ?_⟩
  rw [x45_0, sp33 (by decide), mk_v, h.2.2.2.2.2.2.2.2 2 (by decide), x45_5, h.1, g1, mk_n, x45_18, c1]
  refine (g2 _).trans ?_
  rw [x45_126, at_67 (by decide), mk_v, a1, x45_134, eK]
theorem sp44_a (hy : y < nI 0 ∨ nI 2 < y) : wp Ln xs 44 0 [.ref 1, .int y] [] (u, ml_h m lm) Φ = Φ (.inr 0) ((u.1, u.2.1 + 1, u.2.2 + 6), ml_h m lm) := by
  rw [x44_0]
  by_cases c : y < nI 0
  · rw [if_pos c, x44_9]
  · rw [if_neg c, x44_4, if_neg (s_nle hy c), x44_9]
theorem sp44_k (h0 : s_ok σ) (h : RepC m 2 σ) (hw : w ≤ 2) : ∃ m', (∀ a, a < 56 ∨ 71 < a → m' a = m a) ∧ ∀ Φ : mj_R → mj_W → Prop, wp Ln xs 44 0 [.ref 1, .int (nI w)] [] (u, ml_h m lm) Φ = Φ (.inl (some (.int (nI (s_lt σ w))))) (u, ml_h m' lm) := by
  have hT := s_tot_le h0
  have : w = 0 ∨ w = 1 ∨ w = 2 := by omega
  obtain ⟨m1, r1, a1, a2, f1, g1⟩ := sp49 (Ln := Ln) (xs := xs) (u := u) (lm := lm) h0 h
  rcases this with rfl | rfl | rfl
  · refine ⟨m1, fun a ha => f1 a (by omega), fun Φ => ?_⟩
    rw [x44_0, if_neg (nI_nlt (Nat.le_refl _) (by decide)), x44_4, if_pos (nI_le (by decide) (by decide)), x44_20, if_pos (by decide), x44_37, g1, mk_n, x44_48, if_neg (fun z => z rfl), x44_52, x50_0, r1.1, at_67 (by omega), mk_v, x50_11, a1, mk_v, x44_63]
    rfl
  · obtain ⟨m2, f2, g2⟩ := sp45 (Ln := Ln) (xs := xs) (u := u) (lm := lm) h0 h
    refine ⟨m2, fun a ha => f2 a (by omega), fun Φ => ?_⟩
    rw [x44_0, if_neg (nI_nlt (by decide) (by decide)), x44_4, if_pos (nI_le (by decide) (by decide)), x44_20, if_neg (fun z => z rfl), x44_25, g2, mk_v, x44_36]
    rfl
  · refine ⟨m1, fun a ha => f1 a (by omega), fun Φ => ?_⟩
    rw [x44_0, if_neg (nI_nlt (by decide) (by decide)), x44_4, if_pos (nI_le (by decide) (by decide)), x44_20, if_pos (by decide), x44_37, g1, mk_n, x44_48, if_pos (by decide), x44_66, x51_0, r1.1, at_68 (by omega), mk_v, x51_11, a2, mk_v, x44_77]
    rfl
end CPA
