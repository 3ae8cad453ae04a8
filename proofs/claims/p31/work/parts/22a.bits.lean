/-! ===== bits ===== -/
abbrev s_B : Type := Nat × (Nat → Nat)
/-- a field put behind -/
def s_fd (x : Nat) : Nat → s_B → s_B
  | 0, b => b
  | w + 1, b => s_fd x w (b.1 + 1, s_ap b.2 b.1 (x / 2 ^ w % 2))
theorem s_fd_1 (x : Nat) : ∀ w b, (s_fd x w b).1 = b.1 + w
  | 0, b => rfl
  | w + 1, b => by
    rw [s_fd, s_fd_1 x w]
    show b.1 + 1 + w = b.1 + (w + 1)
    omega
def s_bl (g : Nat → Nat) (w : Nat) : Nat → s_B → s_B
  | 0, b => b
  | j + 1, b => s_fd (g j) w (s_bl g w j b)
theorem s_bl_1 (g : Nat → Nat) (w : Nat) : ∀ j b, (s_bl g w j b).1 = b.1 + j * w
  | 0, b => by rw [Nat.zero_mul]; rfl
  | j + 1, b => by
    rw [s_bl, s_fd_1, s_bl_1 g w j, Nat.succ_mul]
    omega
theorem s_bl_c {g h : Nat → Nat} {w : Nat} {b : s_B} : ∀ j, (∀ i, i < j → g i = h i) → s_bl g w j b = s_bl h w j b
  | 0, _ => rfl
  | j + 1, e => by rw [s_bl, s_bl, s_bl_c j (fun i hi => e i (by omega)), e j (by omega)]
def s_e : s_B := (0, fun _ => 0)
/-- runs: the bits, and how many values of the run are taken -/
def s_rb (f : Nat → Nat) (n : Nat) : Nat → s_B × Nat
  | 0 => (s_e, 0)
  | j + 1 => if j + 1 = n ∨ f (j + 1) ≠ f j then (s_fd (s_rb f n j).2 4 (s_fd (f j) 10 (s_rb f n j).1), 0) else ((s_rb f n j).1, (s_rb f n j).2 + 1)
theorem s_rb_le (f : Nat → Nat) (n : Nat) : ∀ j, (s_rb f n j).1.1 ≤ 14 * j ∧ (s_rb f n j).2 ≤ j
  | 0 => ⟨Nat.le_refl _, Nat.le_refl _⟩
  | j + 1 => by
    have ih := s_rb_le f n j
    rw [s_rb]
    split
    · rw [s_fd_1, s_fd_1]
      omega
    · show (s_rb f n j).1.1 ≤ _ ∧ (s_rb f n j).2 + 1 ≤ _
      omega
/-- the unlike values by rising numbers -/
theorem s_srt_ex (f : Nat → Nat) : ∀ n, ∃ g, s_srt f n (s_un f n) g
  | 0 => ⟨f, ⟨fun i j _ h => absurd h (Nat.not_lt_zero _), fun i h => absurd h (Nat.not_lt_zero _), fun i h => absurd h (Nat.not_lt_zero _), fun _ => rfl⟩⟩
  | n + 1 => by
    obtain ⟨g, h⟩ := s_srt_ex f n
    by_cases hx : ∃ i, i < s_un f n ∧ g i = f n
    · obtain ⟨h1, h2⟩ := s_srt_in h hx
      exact ⟨g, by rw [s_un, if_pos h1]; exact h2⟩
    · obtain ⟨h1, h2⟩ := s_srt_new h (fun i hi e => hx ⟨i, hi, e⟩)
      exact ⟨_, by rw [s_un, if_neg (by rw [h1]; decide)]; exact h2⟩
noncomputable def s_gg (f : Nat → Nat) (n : Nat) : Nat → Nat := Classical.choose (s_srt_ex f n)
theorem s_gg_p (f : Nat → Nat) (n : Nat) : s_srt f n (s_un f n) (s_gg f n) := Classical.choose_spec (s_srt_ex f n)
theorem s_gg_u {f g : Nat → Nat} {n : Nat} (h : s_srt f n (s_un f n) g) : ∀ i, i < s_un f n → g i = s_gg f n i := fun i hi => by
  have hg := s_gg_p f n
  obtain ⟨k, hk, e⟩ := h.2.1 i hi
  obtain ⟨j, hj, e2⟩ := hg.2.2.1 k hk
  have a1 := s_rk_at h.1 hi
  have a2 := s_rk_at hg.1 hj
  rw [h.2.2.2] at a1
  rw [hg.2.2.2, e2, e] at a2
  have : i = j := a1.symm.trans a2
  rw [this, e2, e, this]
/-- the bits of a block in its form -/
noncomputable def s_bits (σ : s_S) (b : Nat) : s_B := match s_frm σ b with
  | 0 => s_bl (s_blf σ b) 10 (s_len σ b) s_e
  | 1 => s_bl (fun i => s_blf σ b i - s_lo (s_blf σ b) (s_len σ b)) (s_wd (s_hi (s_blf σ b) (s_len σ b) - s_lo (s_blf σ b) (s_len σ b))) (s_len σ b) (s_fd (s_wd (s_hi (s_blf σ b) (s_len σ b) - s_lo (s_blf σ b) (s_len σ b))) 4 (s_fd (s_lo (s_blf σ b) (s_len σ b)) 10 s_e))
  | 2 => (s_rb (s_blf σ b) (s_len σ b) (s_len σ b)).1
  | 3 => s_bl (fun i => s_st (s_blf σ b i) (s_blf σ b (i + 1))) (s_wd (s_ts (s_blf σ b) (s_len σ b))) (s_len σ b - 1) (s_fd (s_wd (s_ts (s_blf σ b) (s_len σ b))) 4 (s_fd (s_blf σ b 0) 10 s_e))
  | _ => s_bl (fun i => s_rank (s_blf σ b) (s_blf σ b i) (s_len σ b)) (s_wd (s_un (s_blf σ b) (s_len σ b) - 1)) (s_len σ b) (s_bl (s_gg (s_blf σ b) (s_len σ b)) 10 (s_un (s_blf σ b) (s_len σ b)) (s_fd (s_un (s_blf σ b) (s_len σ b) - 1) 4 s_e))
/-- the BitRow holds these bits -/
def RB (m : ml_M) (b : s_B) : Prop := m 69 1 = nI b.1 ∧ ∀ j, j < b.1 → m 70 j = nI (b.2 j)
theorem RB_of {m m' : ml_M} {b : s_B} (h : RB m b) (e : m' 69 = m 69) (e2 : m' 70 = m 70) : RB m' b := ⟨by rw [e]; exact h.1, fun j hj => by rw [e2]; exact h.2 j hj⟩
section BTA
variable {Ln : Nat} {xs : Nat → Int32} {u : mj_U} {m : ml_M} {lm : ml_J} {Φ : mj_R → mj_W → Prop} {σ τ : s_S} {n t tl v k b w x st : Nat} {f : Nat → Nat} {y z : Int32}
theorem sp66_l (hx : x < 2 ^ 31) {y : Int32} : ∀ (w : Nat) (m : ml_M) (B : s_B), w ≤ 31 → RB m B → B.1 + w ≤ 228 → ∃ m', RB m' (s_fd x w B) ∧ (∀ a, a ≠ 69 → a ≠ 70 → m' a = m a) ∧ ∀ Φ : mj_R → mj_W → Prop, wp Ln xs 66 4 [.ref 69, .int (nI x), .int y, .int (nI w - nI 1)] [] (u, ml_h m lm) Φ = Φ (.inl none) (u, ml_h m' lm)
  | 0, m, B, hw, hB, hl => by
    refine ⟨m, hB, fun _ _ _ => rfl, fun Φ => ?_⟩
    rw [x66_4, if_pos (by decide), x66_40]
  | w + 1, m, B, hw, hB, hl => by
    have hd : x / 2 ^ w < 2 ^ 31 := Nat.lt_of_le_of_lt (Nat.div_le_self _ _) hx
    have hB1 : RB (ml_s (ml_s m 70 B.1 (nI (x / 2 ^ w % 2))) 69 1 (nI (B.1 + 1))) (B.1 + 1, s_ap B.2 B.1 (x / 2 ^ w % 2)) := ⟨ml_s_s _ _ _ _, fun j hj => by
      rw [ml_s_a (by decide)]
      show _ = nI (if j = B.1 then x / 2 ^ w % 2 else B.2 j)
      by_cases c : j = B.1
      · rw [if_pos c, c, ml_s_s]
      · rw [if_neg c, ml_s_k c]
        exact hB.2 j (by have : j < B.1 + 1 := hj; omega)⟩
    obtain ⟨m', g1, g2, g3⟩ := sp66_l hx (y := y) w _ _ (by omega) hB1 (by show B.1 + 1 + w ≤ 228; omega)
    refine ⟨m', g1, fun a ha hb => by rw [g2 a ha hb, ml_s_row ha, ml_s_row hb], fun Φ => ?_⟩
    rw [pk_sub (by omega), Nat.add_sub_cancel, x66_4, if_neg (nI_nlt (Nat.zero_le _) (by omega)), x66_8, hB.1, s_shr hx (by omega), s_and1 hd, put_70 (by omega), mk_n, x66_24, ml_s_a (by decide), hB.1, nI_add, ← Int32.sub_eq_add_neg (nI w) 1]
    exact g3 Φ
theorem sp66 (hx : x < 2 ^ 31) (hw : w ≤ 31) {B : s_B} (hB : RB m B) (hl : B.1 + w ≤ 228) : ∃ m', RB m' (s_fd x w B) ∧ (∀ a, a ≠ 69 → a ≠ 70 → m' a = m a) ∧ ∀ Φ : mj_R → mj_W → Prop, wp Ln xs 66 0 [.ref 69, .int (nI x), .int (nI w), mj_hole] [] (u, ml_h m lm) Φ = Φ (.inl none) (u, ml_h m' lm) := by
  obtain ⟨m', g1, g2, g3⟩ := sp66_l (Ln := Ln) (xs := xs) (u := u) (lm := lm) hx (y := nI w) w m B hw hB hl
  refine ⟨m', g1, g2, fun Φ => ?_⟩
  rw [x66_0]
  exact g3 Φ
theorem sp71_l {row3 : Nat → Int32} (hn : n ≤ 16) (hs : st + n ≤ 207) (hf : ∀ i, i < n → row3 (st + i) = nI (f i)) (hv : ∀ i, i < n → f i ≤ 999) : ∀ (d j : Nat) (m : ml_M), j + d = n → m 3 = row3 → RB m (s_bl f 10 j s_e) → ∃ m', RB m' (s_bl f 10 n s_e) ∧ (∀ a, a ≠ 69 → a ≠ 70 → m' a = m a) ∧ ∀ Φ : mj_R → mj_W → Prop, wp Ln xs 71 3 [.ref 69, .ref 3, .int (nI st), .int (nI (st + n)), .int (nI (st + j))] [] (u, ml_h m lm) Φ = Φ (.inl none) (u, ml_h m' lm)
  | 0, j, m, h, h3, hB => by
    obtain rfl : j = n := by omega
    refine ⟨m, hB, fun _ _ _ => rfl, fun Φ => ?_⟩
    rw [x71_3, if_pos (nI_le (Nat.le_refl _) (by omega)), x71_27]
  | d + 1, j, m, h, h3, hB => by
    have b1 := hv j (by omega)
    have hl := s_bl_1 f 10 j s_e
    rw [show s_e.1 = 0 from rfl] at hl
    obtain ⟨m1, g1, g2, g3⟩ := sp66 (Ln := Ln) (xs := xs) (u := u) (lm := lm) (x := f j) (w := 10) (by omega) (by decide) hB (by omega)
    obtain ⟨m2, k1, k2, k3⟩ := sp71_l hn hs hf hv d (j + 1) m1 (by omega) (by rw [g2 3 (by decide) (by decide), h3]) g1
    refine ⟨m2, k1, fun a ha hb => by rw [k2 a ha hb, g2 a ha hb], fun Φ => ?_⟩
    rw [x71_3, if_neg (nI_ge (by omega) (by omega)), x71_9, at_3 (by omega), mk_v, h3, hf j (by omega), x71_16, g3, mk_n, x71_21, nI_add]
    exact k3 Φ
theorem sp65_l {row3 : Nat → Int32} {lo w : Nat} {b0 : s_B} (hn : n ≤ 16) (hs : st + n ≤ 207) (hf : ∀ i, i < n → row3 (st + i) = nI (f i)) (hv : ∀ i, i < n → f i ≤ 999) (hlo : ∀ i, i < n → lo ≤ f i) (hw : w ≤ 31) (hb0 : b0.1 + n * w ≤ 228) : ∀ (d j : Nat) (m : ml_M), j + d = n → m 3 = row3 → m 56 3 = nI lo → RB m (s_bl (fun i => f i - lo) w j b0) → ∃ m', RB m' (s_bl (fun i => f i - lo) w n b0) ∧ (∀ a, a ≠ 69 → a ≠ 70 → m' a = m a) ∧ ∀ Φ : mj_R → mj_W → Prop, wp Ln xs 65 37 [.ref 69, .ref 3, .int (nI st), .int (nI (st + n)), .ref 56, .int (nI w), .int (nI (st + j))] [] (u, ml_h m lm) Φ = Φ (.inl none) (u, ml_h m' lm)
  | 0, j, m, h, h3, h5, hB => by
    obtain rfl : j = n := by omega
    refine ⟨m, hB, fun _ _ _ => rfl, fun Φ => ?_⟩
    rw [x65_37, if_pos (nI_le (Nat.le_refl _) (by omega)), x65_67]
  | d + 1, j, m, h, h3, h5, hB => by
    have b1 := hv j (by omega)
    have b2 := hlo j (by omega)
    have hl := s_bl_1 (fun i => f i - lo) w j b0
    have hjn : (j + 1) * w ≤ n * w := Nat.mul_le_mul_right w (by omega)
    rw [Nat.succ_mul] at hjn
    obtain ⟨m1, g1, g2, g3⟩ := sp66 (Ln := Ln) (xs := xs) (u := u) (lm := lm) (x := f j - lo) (w := w) (by omega) hw hB (by omega)
    obtain ⟨m2, k1, k2, k3⟩ := sp65_l hn hs hf hv hlo hw hb0 d (j + 1) m1 (by omega) (by rw [g2 3 (by decide) (by decide), h3]) (by rw [g2 56 (by decide) (by decide), h5]) g1
    refine ⟨m2, k1, fun a ha hb => by rw [k2 a ha hb, g2 a ha hb], fun Φ => ?_⟩
    rw [x65_37, if_neg (nI_ge (by omega) (by omega)), x65_43, at_3 (by omega), mk_v, h3, hf j (by omega), x65_50, h5, pk_sub b2, g3, mk_n, x65_61, nI_add]
    exact k3 Φ
theorem sp67_l {row3 : Nat → Int32} (hn : n ≤ 16) (hs : st + n ≤ 207) (hf : ∀ i, i < n → row3 (st + i) = nI (f i)) (hv : ∀ i, i < n → f i ≤ 999) : ∀ (d j : Nat) (m : ml_M) (v6 : Value), j + d = n → m 3 = row3 → RB m (s_rb f n j).1 → ∃ m', RB m' (s_rb f n n).1 ∧ (∀ a, a ≠ 69 → a ≠ 70 → m' a = m a) ∧ ∀ Φ : mj_R → mj_W → Prop, wp Ln xs 67 6 [.ref 69, .ref 3, .int (nI st), .int (nI (st + n)), .int (nI (s_rb f n j).2), .int (nI (st + j)), v6] [] (u, ml_h m lm) Φ = Φ (.inl none) (u, ml_h m' lm)
  | 0, j, m, v6, h, h3, hB => by
    obtain rfl : j = n := by omega
    refine ⟨m, hB, fun _ _ _ => rfl, fun Φ => ?_⟩
    rw [x67_6, if_pos (nI_le (Nat.le_refl _) (by omega)), x67_70]
  | d + 1, j, m, v6, h, h3, hB => by
    have b1 := hv j (by omega)
    have hr := s_rb_le f n j
    have start : ∀ Φ : mj_R → mj_W → Prop, wp Ln xs 67 6 [.ref 69, .ref 3, .int (nI st), .int (nI (st + n)), .int (nI (s_rb f n j).2), .int (nI (st + j)), v6] [] (u, ml_h m lm) Φ = if j + 1 = n ∨ f (j + 1) ≠ f j then wp Ln xs 67 44 [.ref 69, .ref 3, .int (nI st), .int (nI (st + n)), .int (nI ((s_rb f n j).2 + 1)), .int (nI (st + j)), .int (nI (f j))] [] (u, ml_h m lm) Φ else wp Ln xs 67 64 [.ref 69, .ref 3, .int (nI st), .int (nI (st + n)), .int (nI ((s_rb f n j).2 + 1)), .int (nI (st + j)), .int (nI (f j))] [] (u, ml_h m lm) Φ := fun Φ => by
      rw [x67_6, if_neg (nI_ge (by omega) (by omega)), x67_12, at_3 (by omega), mk_v, h3, hf j (by omega), x67_18, nI_add, nI_add]
      by_cases c1 : j + 1 = n
      · rw [if_pos (show nI (st + j + 1) = nI (st + n) by rw [← c1]; rfl), if_pos (Or.inl c1)]
      · have b2 := hv (j + 1) (by omega)
        rw [if_neg (by rw [nI_eq (by omega) (by omega)]; omega), x67_31, nI_add, Nat.add_assoc, at_3 (by omega), mk_v, h3, hf (j + 1) (by omega), x67_39]
        by_cases c2 : f (j + 1) = f j
        · rw [if_pos (by rw [c2]), if_neg (fun z => z.elim c1 (fun w => w c2))]
        · rw [if_neg (by rw [nI_eq (by omega) (by omega)]; exact c2), if_pos (Or.inr c2)]
    by_cases c : j + 1 = n ∨ f (j + 1) ≠ f j
    · have e : s_rb f n (j + 1) = (s_fd (s_rb f n j).2 4 (s_fd (f j) 10 (s_rb f n j).1), 0) := if_pos c
      obtain ⟨m1, g1, g2, g3⟩ := sp66 (Ln := Ln) (xs := xs) (u := u) (lm := lm) (x := f j) (w := 10) (by omega) (by decide) hB (by omega)
      obtain ⟨m2, k1, k2, k3⟩ := sp66 (Ln := Ln) (xs := xs) (u := u) (lm := lm) (x := (s_rb f n j).2) (w := 4) (by omega) (by decide) g1 (by rw [s_fd_1]; omega)
      obtain ⟨m3, l1, l2, l3⟩ := sp67_l hn hs hf hv d (j + 1) m2 (.int (nI (f j))) (by omega) (by rw [k2 3 (by decide) (by decide), g2 3 (by decide) (by decide), h3]) (by rw [e]; exact k1)
      refine ⟨m3, l1, fun a ha hb => by rw [l2 a ha hb, k2 a ha hb, g2 a ha hb], fun Φ => ?_⟩
      have l4 := l3 Φ
      rw [e] at l4
      rw [start, if_pos c, x67_44, g3, mk_n, x67_52, pk_sub (by omega), Nat.add_sub_cancel, k3, mk_n, x67_61, x67_64, nI_add]
      exact l4
    · have e : s_rb f n (j + 1) = ((s_rb f n j).1, (s_rb f n j).2 + 1) := if_neg c
      obtain ⟨m3, l1, l2, l3⟩ := sp67_l hn hs hf hv d (j + 1) m (.int (nI (f j))) (by omega) h3 (by rw [e]; exact hB)
      refine ⟨m3, l1, l2, fun Φ => ?_⟩
      have l4 := l3 Φ
      rw [e] at l4
      rw [start, if_neg c, x67_64, nI_add]
      exact l4
theorem sp68_l {row3 : Nat → Int32} {w : Nat} {b0 : s_B} (hn : n ≤ 16) (hs : st + n ≤ 207) (hf : ∀ i, i < n → row3 (st + i) = nI (f i)) (hv : ∀ i, i < n → f i ≤ 999) (hw : w ≤ 31) (hb0 : b0.1 + (n - 1) * w ≤ 228) : ∀ (d j : Nat) (m : ml_M), j + 1 + d = n → m 3 = row3 → RB m (s_bl (fun i => s_st (f i) (f (i + 1))) w j b0) → ∃ m', RB m' (s_bl (fun i => s_st (f i) (f (i + 1))) w (n - 1) b0) ∧ (∀ a, a ≠ 69 → a ≠ 70 → m' a = m a) ∧ ∀ Φ : mj_R → mj_W → Prop, wp Ln xs 68 33 [.ref 69, .ref 3, .int (nI st), .int (nI (st + n)), .ref 56, .int (nI w), .int (nI (st + (j + 1)))] [] (u, ml_h m lm) Φ = Φ (.inl none) (u, ml_h m' lm)
  | 0, j, m, h, h3, hB => by
    obtain rfl : n = j + 1 := by omega
    refine ⟨m, hB, fun _ _ _ => rfl, fun Φ => ?_⟩
    rw [x68_33, if_pos (nI_le (Nat.le_refl _) (by omega)), x68_68]
  | d + 1, j, m, h, h3, hB => by
    have b1 := hv j (by omega)
    have b2 := hv (j + 1) (by omega)
    have b3 := s_st_le b1 b2
    have hl := s_bl_1 (fun i => s_st (f i) (f (i + 1))) w j b0
    have hjn : (j + 1) * w ≤ (n - 1) * w := Nat.mul_le_mul_right w (by omega)
    rw [Nat.succ_mul] at hjn
    obtain ⟨m1, g1, g2, g3⟩ := sp66 (Ln := Ln) (xs := xs) (u := u) (lm := lm) (x := s_st (f j) (f (j + 1))) (w := w) (by omega) hw hB (by omega)
    obtain ⟨m2, k1, k2, k3⟩ := sp68_l hn hs hf hv hw hb0 d (j + 1) m1 (by omega) (by rw [g2 3 (by decide) (by decide), h3]) g1
    refine ⟨m2, k1, fun a ha hb => by rw [k2 a ha hb, g2 a ha hb], fun Φ => ?_⟩
    rw [x68_33, if_neg (nI_ge (by omega) (by omega)), x68_39, pk_sub (by omega), show st + (j + 1) - 1 = st + j by omega, at_3 (by omega), mk_v, h3, hf j (by omega), x68_48, at_3 (by omega), mk_v, h3, hf (j + 1) (by omega), x68_54, sp_step (by omega) (by omega), mk_v, x68_57, g3, mk_n, x68_62, nI_add]
    exact k3 Φ
theorem sp69_a {U w : Nat} {b0 : s_B} {g : Nat → Nat} {row : Nat → Int32} {y1 y2 y3 : Int32} (hU : U ≤ 16) (hg : ∀ i, i < U → row i = nI (g i)) (hgb : ∀ i, i < U → g i ≤ 999) (hb0 : b0.1 + U * 10 ≤ 228) : ∀ (d j : Nat) (m : ml_M), j + d = U → m 56 1 = nI U → m 57 = row → RB m (s_bl g 10 j b0) → ∃ m', RB m' (s_bl g 10 U b0) ∧ (∀ a, a ≠ 69 → a ≠ 70 → m' a = m a) ∧ ∀ Φ : mj_R → mj_W → Prop, wp Ln xs 69 27 [.ref 69, .ref 3, .int y1, .int y2, .ref 56, .int y3, .int (nI j)] [] (u, ml_h m lm) Φ = wp Ln xs 69 59 [.ref 69, .ref 3, .int y1, .int y2, .ref 56, .int y3, .int (nI U)] [] (u, ml_h m' lm) Φ
  | 0, j, m, h, h5, h7, hB => by
    obtain rfl : j = U := by omega
    refine ⟨m, hB, fun _ _ _ => rfl, fun Φ => ?_⟩
    rw [x69_27, h5, if_pos (nI_le (Nat.le_refl _) (by omega))]
  | d + 1, j, m, h, h5, h7, hB => by
    have b1 := hgb j (by omega)
    have hl := s_bl_1 g 10 j b0
    obtain ⟨m1, g1, g2, g3⟩ := sp66 (Ln := Ln) (xs := xs) (u := u) (lm := lm) (x := g j) (w := 10) (by omega) (by decide) hB (by omega)
    obtain ⟨m2, k1, k2, k3⟩ := sp69_a (w := w) (y1 := y1) (y2 := y2) (y3 := y3) hU hg hgb hb0 d (j + 1) m1 (by omega) (by rw [g2 56 (by decide) (by decide), h5]) (by rw [g2 57 (by decide) (by decide), h7]) g1
    refine ⟨m2, k1, fun a ha hb => by rw [k2 a ha hb, g2 a ha hb], fun Φ => ?_⟩
    rw [x69_27, h5, if_neg (nI_ge (by omega) (by omega)), x69_37, at_57 (by omega), mk_v, h7, hg j (by omega), x69_48, g3, mk_n, x69_53, nI_add]
    exact k3 Φ
theorem sp69_b {row3 : Nat → Int32} {w : Nat} {b0 : s_B} (hn : n ≤ 16) (hs : st + n ≤ 207) (hf : ∀ i, i < n → row3 (st + i) = nI (f i)) (hv : ∀ i, i < n → f i ≤ 999) (hw : w ≤ 31) (hb0 : b0.1 + n * w ≤ 228) (hrk : ∀ i, s_rank f (f i) n ≤ 16) : ∀ (d j : Nat) (m : ml_M), j + d = n → m 3 = row3 → RepS m 56 f n → RB m (s_bl (fun i => s_rank f (f i) n) w j b0) → ∃ m', RB m' (s_bl (fun i => s_rank f (f i) n) w n b0) ∧ (∀ a, a ≠ 69 → a ≠ 70 → m' a = m a) ∧ ∀ Φ : mj_R → mj_W → Prop, wp Ln xs 69 62 [.ref 69, .ref 3, .int (nI st), .int (nI (st + n)), .ref 56, .int (nI w), .int (nI (st + j))] [] (u, ml_h m lm) Φ = Φ (.inl none) (u, ml_h m' lm)
  | 0, j, m, h, h3, hR, hB => by
    obtain rfl : j = n := by omega
    refine ⟨m, hB, fun _ _ _ => rfl, fun Φ => ?_⟩
    rw [x69_62, if_pos (nI_le (Nat.le_refl _) (by omega)), x69_91]
  | d + 1, j, m, h, h3, hR, hB => by
    have b1 := hv j (by omega)
    have b2 := hrk j
    have hl := s_bl_1 (fun i => s_rank f (f i) n) w j b0
    have hjn : (j + 1) * w ≤ n * w := Nat.mul_le_mul_right w (by omega)
    rw [Nat.succ_mul] at hjn
    obtain ⟨m1, g1, g2, g3⟩ := sp66 (Ln := Ln) (xs := xs) (u := u) (lm := lm) (x := s_rank f (f j) n) (w := w) (by omega) hw hB (by omega)
    obtain ⟨m2, k1, k2, k3⟩ := sp69_b hn hs hf hv hw hb0 hrk d (j + 1) m1 (by omega) (by rw [g2 3 (by decide) (by decide), h3]) (RepS_of hR (g2 56 (by decide) (by decide)) (g2 57 (by decide) (by decide))) g1
    refine ⟨m2, k1, fun a ha hb => by rw [k2 a ha hb, g2 a ha hb], fun Φ => ?_⟩
    rw [x69_62, if_neg (nI_ge (by omega) (by omega)), x69_68, at_3 (by omega), mk_v, h3, hf j (by omega), x69_77, sp70 ml_sh_56 hR hn hv (by omega), mk_v, x69_80, g3, mk_n, x69_85, nI_add]
    exact k3 Φ
theorem s_rank_le (f : Nat → Nat) (n x : Nat) : s_rank f x n ≤ n := by
  obtain ⟨g, h⟩ := s_srt_ex f n
  have a := s_rk_le g x (s_un f n)
  have b := s_un_le f n
  rw [h.2.2.2] at a
  omega
/-- the bits of a block -/
theorem sp63 (h0 : s_ok σ) (h : RepC m 2 σ) (hb : b < σ 0) : ∃ m', RB m' (s_bits σ b) ∧ RepS m' 56 (s_blf σ b) (s_len σ b) ∧ (∀ a, a < 56 ∨ (57 < a ∧ a < 69) ∨ 70 < a → m' a = m a) ∧ ∀ Φ : mj_R → mj_W → Prop, wp Ln xs 63 0 [.ref 1, .int (nI b)] [] (u, ml_h m lm) Φ = Φ (.inl none) (u, ml_h m' lm) := by
  have k0 := h0.1
  have hT := s_tot_le h0
  have hend := s_end_le hb
  have l := h0.2.2.1 b hb
  have hv := s_blf_le (s_oke_of (fun _ => False) h0) hb
  obtain ⟨m1, r1, f1, e1⟩ := sp40 (Ln := Ln) (xs := xs) (u := u) (lm := lm) h0 h hb
  have hc1 : RepC m1 2 σ := RepC_of h (fun a _ _ => f1 a (by omega) (by omega))
  have hm2 : RB (ml_s m1 69 1 (nI 0)) s_e := ⟨ml_s_s _ _ _ _, fun j hj => absurd hj (Nat.not_lt_zero j)⟩
  have hR2 : RepS (ml_s m1 69 1 (nI 0)) 56 (s_blf σ b) (s_len σ b) := RepS_of r1 (ml_s_row (by decide)) (ml_s_row (by decide))
  have hc2 : RepC (ml_s m1 69 1 (nI 0)) 2 σ := RepC_of hc1 (fun a _ _ => ml_s_row (by omega))
  have hf : ∀ i, i < s_len σ b → ml_s m1 69 1 (nI 0) 3 (s_sum (s_len σ) b + i) = nI (s_blf σ b i) := fun i hi => hc2.2.2.2.2.1 _ (by omega)
  have start : ∀ Φ : mj_R → mj_W → Prop, wp Ln xs 63 0 [.ref 1, .int (nI b)] [] (u, ml_h m lm) Φ = wp Ln xs 64 33 [.ref 69, .ref 2, .int (nI b), .ref 56, .ref 3, .int (nI (s_sum (s_len σ) b)), .int (nI (s_sum (s_len σ) b + s_len σ b))] [.int (nI (s_frm σ b))] (u, ml_h (ml_s m1 69 1 (nI 0)) lm) (mk Ln xs 63 18 [.ref 1, .int (nI b)] [] Φ) := fun Φ => by
    rw [x63_0, e1, mk_n, x63_5, x64_0, sp19 (f := s_len σ) (by omega) (fun i hi => hc1.2.2.2.2.2.1 i (by omega)), mk_v, x64_11, sp20 (by omega), mk_v, hc1.2.2.2.2.2.1 b hb, x64_20, nI_add, sp42 (by omega), mk_v, hc2.2.2.2.2.2.2.1 b hb]
  have fin : ∀ m', (∀ a, a ≠ 69 → a ≠ 70 → m' a = ml_s m1 69 1 (nI 0) a) → RepS m' 56 (s_blf σ b) (s_len σ b) ∧ (∀ a, a < 56 ∨ (57 < a ∧ a < 69) ∨ 70 < a → m' a = m a) := fun m' e => ⟨RepS_of hR2 (e 56 (by decide) (by decide)) (e 57 (by decide) (by decide)), fun a ha => by rw [e a (by omega) (by omega), ml_s_row (by omega), f1 a (by omega) (by omega)]⟩
  generalize ml_s m1 69 1 (nI 0) = M at *
  obtain ⟨r0, rn, r3, r5, r6, g, hg, hgm⟩ := hR2
  obtain ⟨r3, r4, r7⟩ := r3 (by omega)
  have hR2 : RepS M 56 (s_blf σ b) (s_len σ b) := ⟨r0, rn, fun _ => ⟨r3, r4, r7⟩, r5, r6, g, hg, hgm⟩
  have hlo := s_lo_le (f := s_blf σ b) (s_len σ b) (hv 0 (by omega)) hv
  have hhi := s_hi_le (f := s_blf σ b) (s_len σ b) (hv 0 (by omega)) hv
  have hlh := s_lo_hi (s_blf σ b) (s_len σ b)
  have hts := s_ts_le (f := s_blf σ b) (s_len σ b) hv
  have hu := s_un_le (s_blf σ b) (s_len σ b)
  unfold s_bits
  have : s_frm σ b = 0 ∨ s_frm σ b = 1 ∨ s_frm σ b = 2 ∨ s_frm σ b = 3 ∨ s_frm σ b = 4 := by omega
  rcases this with e | e | e | e | e
  · obtain ⟨m2, a1, a2, a3⟩ := sp71_l (Ln := Ln) (xs := xs) (u := u) (lm := lm) (row3 := M 3) l.2.1 (by omega) hf hv (s_len σ b) 0 M (by omega) rfl hm2
    refine ⟨m2, by rw [e]; exact a1, (fin m2 a2).1, (fin m2 a2).2, fun Φ => ?_⟩
    rw [start, e, x64_33_0, x64_119, x71_0]
    refine (a3 _).trans ?_
    rw [mk_n, x64_129, mk_n, x63_21]
  · have hw := s_wd_le 10 (s_hi (s_blf σ b) (s_len σ b) - s_lo (s_blf σ b) (s_len σ b)) (by omega)
    have hnw : s_len σ b * s_wd (s_hi (s_blf σ b) (s_len σ b) - s_lo (s_blf σ b) (s_len σ b)) ≤ 16 * 10 := Nat.mul_le_mul l.2.1 hw
    obtain ⟨m2, a1, a2, a3⟩ := sp66 (Ln := Ln) (xs := xs) (u := u) (lm := lm) (x := s_lo (s_blf σ b) (s_len σ b)) (w := 10) (by omega) (by decide) hm2 (by decide)
    obtain ⟨m3, b1, b2, b3⟩ := sp66 (Ln := Ln) (xs := xs) (u := u) (lm := lm) (x := s_wd (s_hi (s_blf σ b) (s_len σ b) - s_lo (s_blf σ b) (s_len σ b))) (w := 4) (by omega) (by decide) a1 (by rw [s_fd_1]; decide)
    obtain ⟨m4, c1, c2, c3⟩ := sp65_l (Ln := Ln) (xs := xs) (u := u) (lm := lm) (row3 := M 3) (lo := s_lo (s_blf σ b) (s_len σ b)) (w := s_wd (s_hi (s_blf σ b) (s_len σ b) - s_lo (s_blf σ b) (s_len σ b))) l.2.1 (by omega) hf hv (fun i hi => s_lo_p _ i hi) (by omega) (b0 := s_fd (s_wd (s_hi (s_blf σ b) (s_len σ b) - s_lo (s_blf σ b) (s_len σ b))) 4 (s_fd (s_lo (s_blf σ b) (s_len σ b)) 10 s_e)) (by rw [s_fd_1, s_fd_1, show s_e.1 = 0 from rfl]; omega) (s_len σ b) 0 m3 (by omega) (by rw [b2 3 (by decide) (by decide), a2 3 (by decide) (by decide)]) (by rw [b2 56 (by decide) (by decide), a2 56 (by decide) (by decide), r3]) b1
    refine ⟨m4, by rw [e]; exact c1, (fin m4 (fun a ha hb => by rw [c2 a ha hb, b2 a ha hb, a2 a ha hb])).1, (fin m4 (fun a ha hb => by rw [c2 a ha hb, b2 a ha hb, a2 a ha hb])).2, fun Φ => ?_⟩
    rw [start, e, x64_33_1, x64_64, x65_0, r4, r3, pk_sub hlh, sp_width (by omega), mk_v, x65_14, r3, a3, mk_n, x65_27, b3, mk_n, x65_34]
    refine (c3 _).trans ?_
    rw [mk_n, x64_75, mk_n, x63_21]
  · obtain ⟨m2, a1, a2, a3⟩ := sp67_l (Ln := Ln) (xs := xs) (u := u) (lm := lm) (row3 := M 3) l.2.1 (by omega) hf hv (s_len σ b) 0 M mj_hole (by omega) rfl hm2
    refine ⟨m2, by rw [e]; exact a1, (fin m2 a2).1, (fin m2 a2).2, fun Φ => ?_⟩
    rw [start, e, x64_33_2, x64_78, x67_0]
    refine (a3 _).trans ?_
    rw [mk_n, x64_88, mk_n, x63_21]
  · have hw := s_wd_le 11 (s_ts (s_blf σ b) (s_len σ b)) (by omega)
    have hnw : (s_len σ b - 1) * s_wd (s_ts (s_blf σ b) (s_len σ b)) ≤ 15 * 11 := Nat.mul_le_mul (by omega) hw
    have hv0 := hv 0 (by omega)
    obtain ⟨m2, a1, a2, a3⟩ := sp66 (Ln := Ln) (xs := xs) (u := u) (lm := lm) (x := s_blf σ b 0) (w := 10) (by omega) (by decide) hm2 (by decide)
    obtain ⟨m3, b1, b2, b3⟩ := sp66 (Ln := Ln) (xs := xs) (u := u) (lm := lm) (x := s_wd (s_ts (s_blf σ b) (s_len σ b))) (w := 4) (by omega) (by decide) a1 (by rw [s_fd_1]; decide)
    obtain ⟨m4, c1, c2, c3⟩ := sp68_l (Ln := Ln) (xs := xs) (u := u) (lm := lm) (row3 := M 3) (w := s_wd (s_ts (s_blf σ b) (s_len σ b))) l.2.1 (by omega) hf hv (by omega) (b0 := s_fd (s_wd (s_ts (s_blf σ b) (s_len σ b))) 4 (s_fd (s_blf σ b 0) 10 s_e)) (by rw [s_fd_1, s_fd_1, show s_e.1 = 0 from rfl]; omega) (s_len σ b - 1) 0 m3 (by omega) (by rw [b2 3 (by decide) (by decide), a2 3 (by decide) (by decide)]) b1
    refine ⟨m4, by rw [e]; exact c1, (fin m4 (fun a ha hb => by rw [c2 a ha hb, b2 a ha hb, a2 a ha hb])).1, (fin m4 (fun a ha hb => by rw [c2 a ha hb, b2 a ha hb, a2 a ha hb])).2, fun Φ => ?_⟩
    have hf0 := hf 0 (by omega)
    rw [Nat.add_zero] at hf0
    rw [start, e, x64_33_3, x64_91, x68_0, r6, sp_width (by omega), mk_v, x68_8, at_3 (by omega), mk_v, hf0, x68_16, a3, mk_n, x68_21, b3, mk_n, x68_28, nI_add]
    refine (c3 _).trans ?_
    rw [mk_n, x64_102, mk_n, x63_21]
  · obtain ⟨q, hq⟩ : ∃ q, s_len σ b = q + 1 := ⟨s_len σ b - 1, by omega⟩
    have hu0 : 0 < s_un (s_blf σ b) (s_len σ b) := by
      rw [hq]
      exact s_un_pos _ q
    have hw := s_wd_le 4 (s_un (s_blf σ b) (s_len σ b) - 1) (by omega)
    have hnw : s_len σ b * s_wd (s_un (s_blf σ b) (s_len σ b) - 1) ≤ 16 * 4 := Nat.mul_le_mul l.2.1 hw
    have hgb : ∀ i, i < s_un (s_blf σ b) (s_len σ b) → g i ≤ 999 := fun i hi => by
      obtain ⟨k, hk, ek⟩ := hg.2.1 i hi
      have := hv k hk
      omega
    obtain ⟨m2, a1, a2, a3⟩ := sp66 (Ln := Ln) (xs := xs) (u := u) (lm := lm) (x := s_un (s_blf σ b) (s_len σ b) - 1) (w := 4) (by omega) (by decide) hm2 (by decide)
    obtain ⟨m3, b1, b2, b3⟩ := sp69_a (Ln := Ln) (xs := xs) (u := u) (lm := lm) (w := 0) (y1 := nI (s_sum (s_len σ) b)) (y2 := nI (s_sum (s_len σ) b + s_len σ b)) (y3 := nI (s_wd (s_un (s_blf σ b) (s_len σ b) - 1))) (row := M 57) (b0 := s_fd (s_un (s_blf σ b) (s_len σ b) - 1) 4 s_e) (show s_un (s_blf σ b) (s_len σ b) ≤ 16 by omega) hgm hgb (by rw [s_fd_1, show s_e.1 = 0 from rfl]; omega) (s_un (s_blf σ b) (s_len σ b)) 0 m2 (by omega) (by rw [a2 56 (by decide) (by decide), r0]) (a2 57 (by decide) (by decide)) a1
    rw [s_bl_c _ (s_gg_u hg)] at b1
    have hR3 : RepS m3 56 (s_blf σ b) (s_len σ b) := RepS_of hR2 (by rw [b2 56 (by decide) (by decide), a2 56 (by decide) (by decide)]) (by rw [b2 57 (by decide) (by decide), a2 57 (by decide) (by decide)])
    obtain ⟨m4, c1, c2, c3⟩ := sp69_b (Ln := Ln) (xs := xs) (u := u) (lm := lm) (row3 := M 3) (w := s_wd (s_un (s_blf σ b) (s_len σ b) - 1)) l.2.1 (by omega) hf hv (by omega) (by rw [s_bl_1, s_fd_1, show s_e.1 = 0 from rfl]; omega) (fun i => Nat.le_trans (s_rank_le _ _ _) l.2.1) (s_len σ b) 0 m3 (by omega) (by rw [b2 3 (by decide) (by decide), a2 3 (by decide) (by decide)]) hR3 b1
    refine ⟨m4, by rw [e]; exact c1, (fin m4 (fun a ha hb => by rw [c2 a ha hb, b2 a ha hb, a2 a ha hb])).1, (fin m4 (fun a ha hb => by rw [c2 a ha hb, b2 a ha hb, a2 a ha hb])).2, fun Φ => ?_⟩
    rw [start, e, x64_33_4, x64_105, x69_0, r0, pk_sub hu0, sp_width (by omega), mk_v, x69_10, r0, pk_sub hu0, a3, mk_n, x69_24]
    refine (b3 _).trans ?_
    rw [x69_59]
    refine (c3 _).trans ?_
    rw [mk_n, x64_116, mk_n, x63_21]
theorem sp62_i (h : RepC m 2 σ) (hi : y < nI 0 ∨ nI (σ 0) ≤ y) : wp Ln xs 62 0 [.ref 1, .int y, .int z] [] (u, ml_h m lm) Φ = Φ (.inr 2) ((u.1, u.2.1 + 1, u.2.2 + 6), ml_h m lm) := by
  rw [x62_0, sp11_f h.2.1 hi, mk_v, x62_8, if_neg (fun z => z rfl), x62_11]
theorem sp62_a (h0 : s_ok σ) (h : RepC m 2 σ) (hb : b < σ 0) (hz : z < nI 0) : wp Ln xs 62 0 [.ref 1, .int (nI b), .int z] [] (u, ml_h m lm) Φ = Φ (.inr 0) ((u.1, u.2.1 + 1, u.2.2 + 6), ml_h m lm) := by
  rw [x62_0, sp11_t h.2.1 h0.1 hb, mk_v, x62_8, if_pos s_10, x62_21, if_neg (fun w => Int32.lt_irrefl (Int32.lt_of_lt_of_le hz w)), x62_25]
theorem s_bits_le (h0 : s_ok σ) (hb : b < σ 0) : (s_bits σ b).1 ≤ 228 := by
  have l := h0.2.2.1 b hb
  have hv := s_blf_le (s_oke_of (fun _ => False) h0) hb
  have hlo := s_lo_le (f := s_blf σ b) (s_len σ b) (hv 0 (by omega)) hv
  have hhi := s_hi_le (f := s_blf σ b) (s_len σ b) (hv 0 (by omega)) hv
  have hts := s_ts_le (f := s_blf σ b) (s_len σ b) hv
  have hu := s_un_le (s_blf σ b) (s_len σ b)
  unfold s_bits
  split
  · rw [s_bl_1, show s_e.1 = 0 from rfl]
    omega
  · have hw := s_wd_le 10 (s_hi (s_blf σ b) (s_len σ b) - s_lo (s_blf σ b) (s_len σ b)) (by omega)
    have hnw : s_len σ b * s_wd (s_hi (s_blf σ b) (s_len σ b) - s_lo (s_blf σ b) (s_len σ b)) ≤ 16 * 10 := Nat.mul_le_mul l.2.1 hw
    rw [s_bl_1, s_fd_1, s_fd_1, show s_e.1 = 0 from rfl]
    omega
  · have := s_rb_le (s_blf σ b) (s_len σ b) (s_len σ b)
    omega
  · have hw := s_wd_le 11 (s_ts (s_blf σ b) (s_len σ b)) (by omega)
    have hnw : (s_len σ b - 1) * s_wd (s_ts (s_blf σ b) (s_len σ b)) ≤ 15 * 11 := Nat.mul_le_mul (by omega) hw
    rw [s_bl_1, s_fd_1, s_fd_1, show s_e.1 = 0 from rfl]
    omega
  · have hw := s_wd_le 4 (s_un (s_blf σ b) (s_len σ b) - 1) (by omega)
    have hnw : s_len σ b * s_wd (s_un (s_blf σ b) (s_len σ b) - 1) ≤ 16 * 4 := Nat.mul_le_mul l.2.1 hw
    rw [s_bl_1, s_bl_1, s_fd_1, show s_e.1 = 0 from rfl]
    omega
theorem sp62_k (h0 : s_ok σ) (h : RepC m 2 σ) (hb : b < σ 0) (hk : k < 2 ^ 31) : ∃ m', (∀ a, a < 56 ∨ 71 < a → m' a = m a) ∧ ∀ Φ : mj_R → mj_W → Prop, wp Ln xs 62 0 [.ref 1, .int (nI b), .int (nI k)] [] (u, ml_h m lm) Φ = Φ (.inl (some (.int (if k < (s_bits σ b).1 then nI ((s_bits σ b).2 k) else -1)))) (u, ml_h m' lm) := by
  have hle := s_bits_le h0 hb
  obtain ⟨m1, g1, g2, g3, g4⟩ := sp63 (Ln := Ln) (xs := xs) (u := u) (lm := lm) h0 h hb
  refine ⟨m1, fun a ha => g3 a (by omega), fun Φ => ?_⟩
  rw [x62_0, sp11_t h.2.1 h0.1 hb, mk_v, x62_8, if_pos s_10, x62_21, if_pos (nI_le (Nat.zero_le _) hk), x62_36, g4, mk_n, x62_41, g1.1]
  by_cases c : k < (s_bits σ b).1
  · rw [if_neg (nI_ge c (by omega)), x62_52, at_70 (by omega), mk_v, g1.2 k c, x62_63, if_pos c]
  · rw [if_pos (nI_le (by omega) hk), x62_66, if_neg c]
end BTA
