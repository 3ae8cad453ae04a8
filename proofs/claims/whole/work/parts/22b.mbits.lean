/-! ===== bits: the Model ===== -/
/-- the Model's row of bits holds these -/
def RD (m : ml_M) (b : s_B) : Prop := m 72 14 = nI b.1 ∧ ∀ j, j < b.1 → m 78 j = nI (b.2 j)
/-- nothing but the bits changed -/
def FB (m m' : ml_M) : Prop := (∀ a, a ≠ 72 → a ≠ 78 → m' a = m a) ∧ ∀ k, k ≠ 14 → m' 72 k = m 72 k
theorem FB_r (m : ml_M) : FB m m := ⟨fun _ _ _ => rfl, fun _ _ => rfl⟩
theorem FB_t {a b c : ml_M} (h : FB a b) (g : FB b c) : FB a c := ⟨fun x h1 h2 => by rw [g.1 x h1 h2, h.1 x h1 h2], fun k hk => by rw [g.2 k hk, h.2 k hk]⟩
theorem s_hB {m m' : ml_M} {σ : s_S} (hM : ∀ k, k < 251 → m 73 k = nI (σ k)) (h : FB m m') : ∀ k, k < 251 → m' 73 k = nI (σ k) := s_hF hM (h.1 73 (by decide) (by decide))
section BTB
variable {Ln : Nat} {xs : Nat → Int32} {u : mj_U} {m : ml_M} {lm : ml_J} {Φ : mj_R → mj_W → Prop} {σ τ : s_S} {n t tl v k b w x a : Nat} {y z : Int32}
theorem sp211_l (hx : x < 2 ^ 31) {y : Int32} : ∀ (w : Nat) (m : ml_M) (B : s_B), w ≤ 31 → RD m B → B.1 + w ≤ 240 → ∃ m', RD m' (s_fd x w B) ∧ FB m m' ∧ ∀ Φ : mj_R → mj_W → Prop, wp Ln xs 211 4 [.ref 72, .int (nI x), .int y, .int (nI w - nI 1)] [] (u, ml_h m lm) Φ = Φ (.inl none) (u, ml_h m' lm)
  | 0, m, B, hw, hB, hl => by
    refine ⟨m, hB, FB_r m, fun Φ => ?_⟩
    rw [x211_4, if_pos (by decide), x211_38]
  | w + 1, m, B, hw, hB, hl => by
    have hd : x / 2 ^ w < 2 ^ 31 := Nat.lt_of_le_of_lt (Nat.div_le_self _ _) hx
    have hB1 : RD (ml_s (ml_s m 78 B.1 (nI (x / 2 ^ w % 2))) 72 14 (nI (B.1 + 1))) (B.1 + 1, s_ap B.2 B.1 (x / 2 ^ w % 2)) := ⟨ml_s_s _ _ _ _, fun j hj => by
      rw [ml_s_a (by decide)]
      show _ = nI (if j = B.1 then x / 2 ^ w % 2 else B.2 j)
      by_cases c : j = B.1
      · rw [if_pos c, c, ml_s_s]
      · rw [if_neg c, ml_s_k c]
        exact hB.2 j (by have : j < B.1 + 1 := hj; omega)⟩
    have hF : FB m (ml_s (ml_s m 78 B.1 (nI (x / 2 ^ w % 2))) 72 14 (nI (B.1 + 1))) := ⟨fun a h1 h2 => by rw [ml_s_row h1, ml_s_row h2], fun k hk => by rw [ml_s_k hk, ml_s_a (by decide)]⟩
    obtain ⟨m', g1, g2, g3⟩ := sp211_l hx (y := y) w _ _ (by omega) hB1 (by show B.1 + 1 + w ≤ 240; omega)
    refine ⟨m', g1, FB_t hF g2, fun Φ => ?_⟩
    rw [pk_sub (by omega), Nat.add_sub_cancel, x211_4, if_neg (nI_nlt (Nat.zero_le _) (by omega)), x211_8, hB.1, s_shr hx (by omega), s_and1 hd, x211_21 (by omega), ml_s_a (by decide), hB.1, nI_add, ← Int32.sub_eq_add_neg (nI w) 1]
    exact g3 Φ
theorem sp211 (hx : x < 2 ^ 31) (hw : w ≤ 31) {B : s_B} (hB : RD m B) (hl : B.1 + w ≤ 240) : ∃ m', RD m' (s_fd x w B) ∧ FB m m' ∧ ∀ Φ : mj_R → mj_W → Prop, wp Ln xs 211 0 [.ref 72, .int (nI x), .int (nI w), mj_hole] [] (u, ml_h m lm) Φ = Φ (.inl none) (u, ml_h m' lm) := by
  obtain ⟨m', g1, g2, g3⟩ := sp211_l (Ln := Ln) (xs := xs) (u := u) (lm := lm) hx (y := nI w) w m B hw hB hl
  refine ⟨m', g1, g2, fun Φ => ?_⟩
  rw [x211_0]
  exact g3 Φ
theorem sp213_l (hM : ∀ k, k < 251 → m 73 k = nI (σ k)) (hx : x < 2 ^ 31) (ha : a + n ≤ 207) (hv : ∀ i, i < n → s_fv σ a i ≤ 999) : ∀ d k, k + d = n → wp Ln xs 213 6 [.ref 72, .int (nI a), .int (nI n), .int (nI x), .int (nI (s_rank (s_fv σ a) x k)), .int (nI (a + k))] [] (u, ml_h m lm) Φ = Φ (.inl (some (.int (nI (s_rank (s_fv σ a) x n))))) (u, ml_h m lm)
  | 0, k, h => by
    obtain rfl : k = n := by omega
    rw [x213_6, nI_add, if_pos (nI_le (Nat.le_refl _) (by omega)), x213_54]
  | d + 1, k, h => by
    have b1 := hv k (by omega)
    have e : m 73 (43 + (a + k)) = nI (s_fv σ a k) := hM _ (by omega)
    have ih := sp213_l hM hx ha hv d (k + 1) (by omega)
    rw [s_rank] at ih
    rw [x213_6, nI_add, if_neg (nI_ge (by omega) (by omega)), x213_14, nI_add, x213_25 (by omega), e]
    by_cases c1 : s_fv σ a k < x
    · rw [if_neg (nI_ge c1 hx), x213_30, sp172 hM (by omega) (fun i hi => hv i (by omega)), mk_v, x213_37]
      by_cases c2 : s_in (s_fv σ a) (s_fv σ a k) k = true
      · rw [if_pos c2] at ih
        rw [if_pos c2, if_pos rfl, x213_44, x213_45, nI_add, nI_add]
        exact ih
      · rw [if_neg c2, if_pos c1] at ih
        rw [if_neg c2, if_neg s_10, x213_40, x213_45, nI_add, nI_add]
        exact ih
    · rw [if_neg c1, ite_self] at ih
      rw [if_pos (nI_le (by omega) (by omega)), x213_44, x213_45, nI_add, nI_add]
      exact ih
theorem sp213 (hM : ∀ k, k < 251 → m 73 k = nI (σ k)) (hx : x < 2 ^ 31) (ha : a + n ≤ 207) (hv : ∀ i, i < n → s_fv σ a i ≤ 999) : wp Ln xs 213 0 [.ref 72, .int (nI a), .int (nI n), .int (nI x), mj_hole, mj_hole] [] (u, ml_h m lm) Φ = Φ (.inl (some (.int (nI (s_rank (s_fv σ a) x n))))) (u, ml_h m lm) := by
  rw [x213_0]
  exact sp213_l hM hx ha hv n 0 (by omega)
/-! runs -/
theorem sp210_w (hM : ∀ k, k < 251 → m 73 k = nI (σ k)) (ha : a + n ≤ 207) (hv : ∀ i, i < n → s_fv σ a i ≤ 999) {k : Nat} {B : s_B} (hk : k < n) (hrb : s_rb (s_fv σ a) n k = (B, 0)) : ∀ d c, k + c + 1 + d = n → (∀ i, i ≤ c → s_fv σ a (k + i) = s_fv σ a k) → s_rb (s_fv σ a) n (k + c) = (B, c) → ∃ c', c' < n ∧ k + c' < n ∧ s_fv σ a (k + c') = s_fv σ a k ∧ s_rb (s_fv σ a) n (k + c' + 1) = (s_fd c' 4 (s_fd (s_fv σ a k) 10 B), 0) ∧ ∀ Φ : mj_R → mj_W → Prop, wp Ln xs 210 12 [.ref 72, .int (nI a), .int (nI n), .int (nI (a + k)), .int (nI (c + 1))] [] (u, ml_h m lm) Φ = wp Ln xs 210 52 [.ref 72, .int (nI a), .int (nI n), .int (nI (a + k)), .int (nI (c' + 1))] [] (u, ml_h m lm) Φ
  | 0, c, h, he, hc => by
    have e2 : s_rb (s_fv σ a) n (k + c + 1) = (s_fd (s_rb (s_fv σ a) n (k + c)).2 4 (s_fd (s_fv σ a (k + c)) 10 (s_rb (s_fv σ a) n (k + c)).1), 0) := if_pos (Or.inl (by omega))
    rw [hc, he c (Nat.le_refl _)] at e2
    refine ⟨c, by omega, by omega, he c (Nat.le_refl _), e2, fun Φ => ?_⟩
    rw [x210_12, nI_add, nI_add, if_pos (nI_le (by omega) (by omega))]
  | d + 1, c, h, he, hc => by
    have b1 := hv k hk
    have b2 := hv (k + (c + 1)) (by omega)
    have e : m 73 (43 + (a + k)) = nI (s_fv σ a k) := hM _ (by omega)
    have e' : m 73 (43 + (a + k) + (c + 1)) = nI (s_fv σ a (k + (c + 1))) := by
      rw [show 43 + (a + k) + (c + 1) = 43 + (a + (k + (c + 1))) by omega]
      exact hM _ (by omega)
    by_cases c1 : s_fv σ a (k + (c + 1)) = s_fv σ a k
    · have e3 : s_rb (s_fv σ a) n (k + (c + 1)) = ((s_rb (s_fv σ a) n (k + c)).1, (s_rb (s_fv σ a) n (k + c)).2 + 1) := if_neg (show ¬ (k + c + 1 = n ∨ s_fv σ a (k + c + 1) ≠ s_fv σ a (k + c)) from fun z => z.elim (fun w => by omega) (fun w => w (by rw [he c (Nat.le_refl _)]; exact c1)))
      rw [hc] at e3
      obtain ⟨c', g1, g2, g3, g4, g5⟩ := sp210_w hM ha hv hk hrb d (c + 1) (by omega) (fun i hi => by
        by_cases hic : i = c + 1
        · rw [hic, c1]
        · exact he i (by omega)) e3
      refine ⟨c', g1, g2, g3, g4, fun Φ => ?_⟩
      rw [x210_12, nI_add, nI_add, if_neg (nI_ge (by omega) (by omega)), x210_22, nI_add, nI_add, x210_33 (by omega), e', nI_add, x210_42 (by omega), e, c1, if_neg (fun z => z rfl), x210_46, nI_add]
      exact g5 Φ
    · have e2 : s_rb (s_fv σ a) n (k + c + 1) = (s_fd (s_rb (s_fv σ a) n (k + c)).2 4 (s_fd (s_fv σ a (k + c)) 10 (s_rb (s_fv σ a) n (k + c)).1), 0) := if_pos (Or.inr (by rw [he c (Nat.le_refl _)]; exact c1))
      rw [hc, he c (Nat.le_refl _)] at e2
      refine ⟨c, by omega, by omega, he c (Nat.le_refl _), e2, fun Φ => ?_⟩
      rw [x210_12, nI_add, nI_add, if_neg (nI_ge (by omega) (by omega)), x210_22, nI_add, nI_add, x210_33 (by omega), e', nI_add, x210_42 (by omega), e, if_pos (by rw [nI_eq (by omega) (by omega)]; exact c1)]
theorem sp210_l (hn : n ≤ 16) (ha : a + n ≤ 207) (hv : ∀ i, i < n → s_fv σ a i ≤ 999) : ∀ (d k : Nat) (m : ml_M) (v4 : Value), n - k < d → k ≤ n → (∀ j, j < 251 → m 73 j = nI (σ j)) → (s_rb (s_fv σ a) n k).2 = 0 → RD m (s_rb (s_fv σ a) n k).1 → ∃ m', RD m' (s_rb (s_fv σ a) n n).1 ∧ FB m m' ∧ ∀ Φ : mj_R → mj_W → Prop, wp Ln xs 210 2 [.ref 72, .int (nI a), .int (nI n), .int (nI (a + k)), v4] [] (u, ml_h m lm) Φ = Φ (.inl none) (u, ml_h m' lm)
  | 0, k, m, v4, h, _, _, _, _ => absurd h (Nat.not_lt_zero _)
  | d + 1, k, m, v4, h, hk, hM, h2, hB => by
    by_cases hc : k = n
    · subst hc
      refine ⟨m, hB, FB_r m, fun Φ => ?_⟩
      rw [x210_2, nI_add, if_pos (nI_le (Nat.le_refl _) (by omega)), x210_84]
    · have hkn : k < n := by omega
      have b1 := hv k hkn
      have hrle := s_rb_le (s_fv σ a) n k
      have hrb : s_rb (s_fv σ a) n k = ((s_rb (s_fv σ a) n k).1, 0) := by rw [← h2]
      have e43 : m 73 (43 + (a + k)) = nI (s_fv σ a k) := hM _ (by omega)
      obtain ⟨c', g1, g2, g3, g4, g5⟩ := sp210_w (Ln := Ln) (xs := xs) (u := u) (lm := lm) hM ha hv hkn hrb (n - k - 1) 0 (by omega) (fun i hi => by rw [show i = 0 by omega, Nat.add_zero]) hrb
      obtain ⟨m1, a1, a2, a3⟩ := sp211 (Ln := Ln) (xs := xs) (u := u) (lm := lm) (x := s_fv σ a k) (w := 10) (by omega) (by decide) hB (by omega)
      obtain ⟨m2, b1, b2, b3⟩ := sp211 (Ln := Ln) (xs := xs) (u := u) (lm := lm) (x := c') (w := 4) (by omega) (by decide) a1 (by rw [s_fd_1]; omega)
      obtain ⟨m3, d1, d2, d3⟩ := sp210_l hn ha hv d (k + c' + 1) m2 (.int (nI (c' + 1))) (by omega) (by omega) (s_hB (s_hB hM a2) b2) (by rw [g4]) (by rw [g4]; exact b1)
      refine ⟨m3, d1, FB_t a2 (FB_t b2 d2), fun Φ => ?_⟩
      have d4 := d3 Φ
      rw [show a + (k + c' + 1) = a + k + (c' + 1) by omega] at d4
      have g6 := g5 (Φ := Φ)
      rw [x210_2, nI_add, if_neg (nI_ge (by omega) (by omega)), x210_9]
      refine g6.trans ?_
      rw [x210_52, nI_add, x210_61 (by omega), e43, a3, mk_n, x210_67, pk_sub (by omega), Nat.add_sub_cancel, b3, mk_n, x210_76, nI_add]
      exact d4
theorem sp210 (hM : ∀ k, k < 251 → m 73 k = nI (σ k)) (hn : n ≤ 16) (ha : a + n ≤ 207) (hv : ∀ i, i < n → s_fv σ a i ≤ 999) (hB : RD m s_e) : ∃ m', RD m' (s_rb (s_fv σ a) n n).1 ∧ FB m m' ∧ ∀ Φ : mj_R → mj_W → Prop, wp Ln xs 210 0 [.ref 72, .int (nI a), .int (nI n), mj_hole, mj_hole] [] (u, ml_h m lm) Φ = Φ (.inl none) (u, ml_h m' lm) := by
  obtain ⟨m', g1, g2, g3⟩ := sp210_l (Ln := Ln) (xs := xs) (u := u) (lm := lm) hn ha hv (n + 1) 0 m mj_hole (by omega) (Nat.zero_le _) hM rfl hB
  refine ⟨m', g1, g2, fun Φ => ?_⟩
  rw [x210_0]
  exact g3 Φ
/-! listed -/
theorem sp212_k {g : Nat → Nat} {r : Nat} {B : s_B} {x3 : Int32} (hn : n ≤ 16) (ha : a + n ≤ 207) (hv : ∀ i, i < n → s_fv σ a i ≤ 999) (hg : s_srt (s_fv σ a) n (s_un (s_fv σ a) n) g) (hr : r < s_un (s_fv σ a) n) (hB0 : B.1 + 10 ≤ 240) : ∀ (d k : Nat) (m : ml_M), k + d = n → (∀ j, j < 251 → m 73 j = nI (σ j)) → RD m (if s_in (s_fv σ a) (g r) k = true then s_fd (g r) 10 B else B) → ∃ m', RD m' (if s_in (s_fv σ a) (g r) n = true then s_fd (g r) 10 B else B) ∧ FB m m' ∧ ∀ Φ : mj_R → mj_W → Prop, wp Ln xs 212 27 [.ref 72, .int (nI a), .int (nI n), .int x3, .int (nI r), .int (nI (a + k))] [] (u, ml_h m lm) Φ = wp Ln xs 212 88 [.ref 72, .int (nI a), .int (nI n), .int x3, .int (nI r), .int (nI (a + n))] [] (u, ml_h m' lm) Φ
  | 0, k, m, h, hM, hB => by
    obtain rfl : k = n := by omega
    refine ⟨m, hB, FB_r m, fun Φ => ?_⟩
    rw [x212_27, nI_add, if_pos (nI_le (Nat.le_refl _) (by omega))]
  | d + 1, k, m, h, hM, hB => by
    have b1 := hv k (by omega)
    have hrl := s_rank_le (s_fv σ a) n (s_fv σ a k)
    have hul := s_un_le (s_fv σ a) n
    have e43 : m 73 (43 + (a + k)) = nI (s_fv σ a k) := hM _ (by omega)
    have es : s_in (s_fv σ a) (g r) (k + 1) = (s_in (s_fv σ a) (g r) k || s_fv σ a k == g r) := rfl
    have hrk : s_rank (s_fv σ a) (s_fv σ a k) n = r ↔ s_fv σ a k = g r := by
      obtain ⟨i, hi, ei⟩ := hg.2.2.1 k (by omega)
      have a1 := s_rk_at hg.1 hi
      have a2 := s_rk_at hg.1 hr
      rw [hg.2.2.2] at a1 a2
      rw [ei] at a1
      rw [a1]
      constructor
      · intro z
        rw [← z]
        exact ei.symm
      · intro z
        rw [z] at a1
        omega
    have start : ∀ Φ : mj_R → mj_W → Prop, wp Ln xs 212 27 [.ref 72, .int (nI a), .int (nI n), .int x3, .int (nI r), .int (nI (a + k))] [] (u, ml_h m lm) Φ = wp Ln xs 212 42 [.ref 72, .int (nI a), .int (nI n), .int x3, .int (nI r), .int (nI (a + k))] [.int (if s_in (s_fv σ a) (s_fv σ a k) k = true then nI 0 else nI 1)] (u, ml_h m lm) Φ := fun Φ => by
      rw [x212_27, nI_add, if_neg (nI_ge (by omega) (by omega)), x212_35, sp172 hM (by omega) (fun i hi => hv i (by omega)), mk_v]
    by_cases c1 : s_in (s_fv σ a) (s_fv σ a k) k = true
    · have es2 : s_in (s_fv σ a) (g r) (k + 1) = s_in (s_fv σ a) (g r) k := by
        rw [es]
        by_cases c2 : s_fv σ a k = g r
        · rw [← c2, c1, Bool.true_or]
        · rw [beq_eq_false_iff_ne.mpr c2, Bool.or_false]
      obtain ⟨m', g1, g2, g3⟩ := sp212_k (x3 := x3) hn ha hv hg hr hB0 d (k + 1) m (by omega) hM (by rw [es2]; exact hB)
      refine ⟨m', g1, g2, fun Φ => ?_⟩
      rw [start, if_pos c1, x212_42, if_pos rfl, x212_82, nI_add]
      exact g3 Φ
    · have st2 : ∀ Φ : mj_R → mj_W → Prop, wp Ln xs 212 27 [.ref 72, .int (nI a), .int (nI n), .int x3, .int (nI r), .int (nI (a + k))] [] (u, ml_h m lm) Φ = wp Ln xs 212 61 [.ref 72, .int (nI a), .int (nI n), .int x3, .int (nI r), .int (nI (a + k))] [.int (nI (s_rank (s_fv σ a) (s_fv σ a k) n))] (u, ml_h m lm) Φ := fun Φ => by
        rw [start, if_neg c1, x212_42, if_neg s_10, x212_45, nI_add, x212_57 (by omega), e43, sp213 hM (by omega) ha hv, mk_v]
      by_cases c2 : s_fv σ a k = g r
      · have c3 : s_in (s_fv σ a) (g r) k = false := by
          rw [← c2]
          exact Bool.eq_false_iff.mpr c1
        have es2 : s_in (s_fv σ a) (g r) (k + 1) = true := by
          rw [es, c3, Bool.false_or]
          exact beq_iff_eq.mpr c2
        rw [c3, if_neg (by decide)] at hB
        obtain ⟨m1, a1, a2, a3⟩ := sp211 (Ln := Ln) (xs := xs) (u := u) (lm := lm) (x := s_fv σ a k) (w := 10) (by omega) (by decide) hB (by omega)
        rw [c2] at a1
        obtain ⟨m', g1, g2, g3⟩ := sp212_k (x3 := x3) hn ha hv hg hr hB0 d (k + 1) m1 (by omega) (s_hB hM a2) (by rw [es2, if_pos rfl]; exact a1)
        refine ⟨m', g1, FB_t a2 g2, fun Φ => ?_⟩
        rw [st2, x212_61, if_neg (fun z => z (by rw [hrk.mpr c2])), x212_66, nI_add, x212_76 (by omega), e43, a3, mk_n, x212_82, nI_add]
        exact g3 Φ
      · have es2 : s_in (s_fv σ a) (g r) (k + 1) = s_in (s_fv σ a) (g r) k := by
          rw [es, beq_eq_false_iff_ne.mpr c2, Bool.or_false]
        obtain ⟨m', g1, g2, g3⟩ := sp212_k (x3 := x3) hn ha hv hg hr hB0 d (k + 1) m (by omega) hM (by rw [es2]; exact hB)
        refine ⟨m', g1, g2, fun Φ => ?_⟩
        rw [st2, x212_61, if_pos (by rw [nI_eq (by omega) (by omega)]; exact fun z => c2 (hrk.mp z)), x212_82, nI_add]
        exact g3 Φ
theorem sp212_r {g : Nat → Nat} {b0 : s_B} (hn : n ≤ 16) (ha : a + n ≤ 207) (hv : ∀ i, i < n → s_fv σ a i ≤ 999) (hg : s_srt (s_fv σ a) n (s_un (s_fv σ a) n) g) (hb0 : b0.1 + s_un (s_fv σ a) n * 10 ≤ 240) : ∀ (d r : Nat) (m : ml_M) (v5 : Value), r + d = s_un (s_fv σ a) n → (∀ j, j < 251 → m 73 j = nI (σ j)) → RD m (s_bl g 10 r b0) → ∃ m' w5, RD m' (s_bl g 10 (s_un (s_fv σ a) n) b0) ∧ FB m m' ∧ ∀ Φ : mj_R → mj_W → Prop, wp Ln xs 212 18 [.ref 72, .int (nI a), .int (nI n), .int (nI (s_un (s_fv σ a) n)), .int (nI r), v5] [] (u, ml_h m lm) Φ = wp Ln xs 212 94 [.ref 72, .int (nI a), .int (nI n), .int (nI (s_un (s_fv σ a) n)), .int (nI (s_un (s_fv σ a) n)), w5] [] (u, ml_h m' lm) Φ
  | 0, r, m, v5, h, hM, hB => by
    have hul := s_un_le (s_fv σ a) n
    obtain rfl : r = s_un (s_fv σ a) n := by omega
    refine ⟨m, v5, hB, FB_r m, fun Φ => ?_⟩
    rw [x212_18, if_pos (nI_le (Nat.le_refl _) (by omega))]
  | d + 1, r, m, v5, h, hM, hB => by
    have hul := s_un_le (s_fv σ a) n
    have hl := s_bl_1 g 10 r b0
    have hin0 : s_in (s_fv σ a) (g r) 0 = false := rfl
    have hin1 : s_in (s_fv σ a) (g r) n = true := (s_in_iff n).mpr (hg.2.1 r (by omega))
    obtain ⟨m1, a1, a2, a3⟩ := sp212_k (Ln := Ln) (xs := xs) (u := u) (lm := lm) (x3 := nI (s_un (s_fv σ a) n)) (B := s_bl g 10 r b0) hn ha hv hg (show r < s_un (s_fv σ a) n by omega) (by omega) n 0 m (by omega) hM (by rw [hin0, if_neg (by decide)]; exact hB)
    rw [hin1, if_pos rfl] at a1
    obtain ⟨m2, w5, b1, b2, b3⟩ := sp212_r hn ha hv hg hb0 d (r + 1) m1 (.int (nI (a + n))) (by omega) (s_hB hM a2) a1
    refine ⟨m2, w5, b1, FB_t a2 b2, fun Φ => ?_⟩
    rw [x212_18, if_neg (nI_ge (by omega) (by omega)), x212_24]
    refine (a3 Φ).trans ?_
    rw [x212_88, nI_add]
    exact b3 Φ
theorem sp212_e {b0 : s_B} {v5 : Value} (hn : n ≤ 16) (h0 : 0 < s_un (s_fv σ a) n) (ha : a + n ≤ 207) (hv : ∀ i, i < n → s_fv σ a i ≤ 999) (hb0 : b0.1 + n * s_wd (s_un (s_fv σ a) n - 1) ≤ 240) : ∀ (d j : Nat) (m : ml_M), j + d = n → (∀ i, i < 251 → m 73 i = nI (σ i)) → RD m (s_bl (fun i => s_rank (s_fv σ a) (s_fv σ a i) n) (s_wd (s_un (s_fv σ a) n - 1)) j b0) → ∃ m', RD m' (s_bl (fun i => s_rank (s_fv σ a) (s_fv σ a i) n) (s_wd (s_un (s_fv σ a) n - 1)) n b0) ∧ FB m m' ∧ ∀ Φ : mj_R → mj_W → Prop, wp Ln xs 212 97 [.ref 72, .int (nI a), .int (nI n), .int (nI (s_un (s_fv σ a) n)), .int (nI (a + j)), v5] [] (u, ml_h m lm) Φ = Φ (.inl none) (u, ml_h m' lm)
  | 0, j, m, h, hM, hB => by
    obtain rfl : j = n := by omega
    refine ⟨m, hB, FB_r m, fun Φ => ?_⟩
    rw [x212_97, nI_add, if_pos (nI_le (Nat.le_refl _) (by omega)), x212_137]
  | d + 1, j, m, h, hM, hB => by
    have b1 := hv j (by omega)
    have hul := s_un_le (s_fv σ a) n
    have hrl := s_rank_le (s_fv σ a) n (s_fv σ a j)
    have hw := s_wd_le 4 (s_un (s_fv σ a) n - 1) (by omega)
    have e43 : m 73 (43 + (a + j)) = nI (s_fv σ a j) := hM _ (by omega)
    have hl := s_bl_1 (fun i => s_rank (s_fv σ a) (s_fv σ a i) n) (s_wd (s_un (s_fv σ a) n - 1)) j b0
    have hjn : (j + 1) * s_wd (s_un (s_fv σ a) n - 1) ≤ n * s_wd (s_un (s_fv σ a) n - 1) := Nat.mul_le_mul_right _ (by omega)
    rw [Nat.succ_mul] at hjn
    obtain ⟨m1, a1, a2, a3⟩ := sp211 (Ln := Ln) (xs := xs) (u := u) (lm := lm) (x := s_rank (s_fv σ a) (s_fv σ a j) n) (w := s_wd (s_un (s_fv σ a) n - 1)) (by omega) (by omega) hB (by omega)
    obtain ⟨m2, k1, k2, k3⟩ := sp212_e (v5 := v5) hn h0 ha hv hb0 d (j + 1) m1 (by omega) (s_hB hM a2) a1
    refine ⟨m2, k1, FB_t a2 k2, fun Φ => ?_⟩
    rw [x212_97, nI_add, if_neg (nI_ge (by omega) (by omega)), x212_105, nI_add, x212_118 (by omega), e43, sp213 hM (by omega) ha hv, mk_v, x212_122, pk_sub h0, sp167 (by omega), mk_v, x212_128, a3, mk_n, x212_131, nI_add]
    exact k3 Φ
/-! packed and plain, deltas -/
theorem sp209_p {x4 lo w b : Nat} {b0 : s_B} (h4 : x4 = 0 ∨ x4 = 1) (hn : n ≤ 16) (ha : a + n ≤ 207) (hv : ∀ i, i < n → s_fv σ a i ≤ 999) (hlo : ∀ i, i < n → lo ≤ s_fv σ a i) (hw : w ≤ 31) (hb0 : b0.1 + n * w ≤ 240) : ∀ (d j : Nat) (m : ml_M), j + d = n → (∀ i, i < 251 → m 73 i = nI (σ i)) → RD m (s_bl (fun i => s_fv σ a i - lo) w j b0) → ∃ m', RD m' (s_bl (fun i => s_fv σ a i - lo) w n b0) ∧ FB m m' ∧ ∀ Φ : mj_R → mj_W → Prop, wp Ln xs 209 160 [.ref 72, .int (nI b), .int (nI a), .int (nI n), .int (nI x4), .int (nI lo), .int (nI w), .int (nI (a + j))] [] (u, ml_h m lm) Φ = Φ (.inl none) (u, ml_h m' lm)
  | 0, j, m, h, hM, hB => by
    obtain rfl : j = n := by omega
    refine ⟨m, hB, FB_r m, fun Φ => ?_⟩
    rw [x209_160, nI_add, if_pos (nI_le (Nat.le_refl _) (by omega)), x209_220]
  | d + 1, j, m, h, hM, hB => by
    have b1 := hv j (by omega)
    have b2 := hlo j (by omega)
    have e43 : m 73 (43 + (a + j)) = nI (s_fv σ a j) := hM _ (by omega)
    have hl := s_bl_1 (fun i => s_fv σ a i - lo) w j b0
    have hjn : (j + 1) * w ≤ n * w := Nat.mul_le_mul_right w (by omega)
    rw [Nat.succ_mul] at hjn
    obtain ⟨m1, a1, a2, a3⟩ := sp211 (Ln := Ln) (xs := xs) (u := u) (lm := lm) (x := s_fv σ a j - lo) (w := w) (by omega) hw hB (by omega)
    obtain ⟨m2, k1, k2, k3⟩ := sp209_p (b := b) h4 hn ha hv hlo hw hb0 d (j + 1) m1 (by omega) (s_hB hM a2) a1
    refine ⟨m2, k1, FB_t a2 k2, fun Φ => ?_⟩
    rw [x209_160, nI_add, if_neg (nI_ge (by omega) (by omega)), x209_168, if_neg (by rw [nI_eq (by omega) (by decide)]; omega), x209_174, nI_add, x209_184 (by omega), e43, pk_sub b2, a3, mk_n, x209_193, x209_214, nI_add]
    exact k3 Φ
theorem sp209_d {lo w b : Nat} {b0 : s_B} (hn : n ≤ 16) (ha : a + n ≤ 207) (hv : ∀ i, i < n → s_fv σ a i ≤ 999) (hw : w ≤ 31) (hb0 : b0.1 + (n - 1) * w ≤ 240) : ∀ (d j : Nat) (m : ml_M), j + 1 + d = n → (∀ i, i < 251 → m 73 i = nI (σ i)) → RD m (s_bl (fun i => s_st (s_fv σ a i) (s_fv σ a (i + 1))) w j b0) → ∃ m', RD m' (s_bl (fun i => s_st (s_fv σ a i) (s_fv σ a (i + 1))) w (n - 1) b0) ∧ FB m m' ∧ ∀ Φ : mj_R → mj_W → Prop, wp Ln xs 209 160 [.ref 72, .int (nI b), .int (nI a), .int (nI n), .int (nI 3), .int (nI lo), .int (nI w), .int (nI (a + (j + 1)))] [] (u, ml_h m lm) Φ = Φ (.inl none) (u, ml_h m' lm)
  | 0, j, m, h, hM, hB => by
    obtain rfl : n = j + 1 := by omega
    refine ⟨m, hB, FB_r m, fun Φ => ?_⟩
    rw [x209_160, nI_add, if_pos (nI_le (Nat.le_refl _) (by omega)), x209_220]
  | d + 1, j, m, h, hM, hB => by
    have b1 := hv j (by omega)
    have b2 := hv (j + 1) (by omega)
    have b3 := s_st_le b1 b2
    have hl := s_bl_1 (fun i => s_st (s_fv σ a i) (s_fv σ a (i + 1))) w j b0
    have hjn : (j + 1) * w ≤ (n - 1) * w := Nat.mul_le_mul_right w (by omega)
    rw [Nat.succ_mul] at hjn
    obtain ⟨m1, a1, a2, a3⟩ := sp211 (Ln := Ln) (xs := xs) (u := u) (lm := lm) (x := s_st (s_fv σ a j) (s_fv σ a (j + 1))) (w := w) (by omega) hw hB (by omega)
    obtain ⟨m2, k1, k2, k3⟩ := sp209_d (lo := lo) (b := b) hn ha hv hw hb0 d (j + 1) m1 (by omega) (s_hB hM a2) a1
    refine ⟨m2, k1, FB_t a2 k2, fun Φ => ?_⟩
    rw [x209_160, nI_add, if_neg (nI_ge (by omega) (by omega)), x209_168, if_pos rfl, x209_196, if_neg (nI_ge (by omega) (by omega)), x209_202, sp170 hM (by omega) b1 b2, mk_v, x209_209, a3, mk_n, x209_214, nI_add]
    exact k3 Φ
/-- the bits of a block -/
theorem sp209 (hM : ∀ k, k < 251 → m 73 k = nI (σ k)) (h0 : s_ok σ) (hb : b < σ 0) : ∃ m', RD m' (s_bits σ b) ∧ FB m m' ∧ ∀ Φ : mj_R → mj_W → Prop, wp Ln xs 209 0 [.ref 72, .int (nI b), mj_hole, mj_hole, mj_hole, mj_hole, mj_hole, mj_hole] [] (u, ml_h m lm) Φ = Φ (.inl none) (u, ml_h m' lm) := by
  have k0 := h0.1
  have hT := s_tot_le h0
  have hend := s_end_le hb
  have l := h0.2.2.1 b hb
  have hv := s_blf_le (s_oke_of (fun _ => False) h0) hb
  have hv0 := hv 0 (by omega)
  have e7 : m 73 (7 + b) = nI (s_len σ b) := hM _ (by omega)
  have e19 : m 73 (19 + b) = nI (s_frm σ b) := hM _ (by omega)
  have hF : FB m (ml_s m 72 14 (nI 0)) := ⟨fun a h1 _ => ml_s_row h1, fun k hk => ml_s_k hk⟩
  have hM1 := s_hB hM hF
  have hB1 : RD (ml_s m 72 14 (nI 0)) s_e := ⟨ml_s_s _ _ _ _, fun j hj => absurd hj (Nat.not_lt_zero j)⟩
  have eb : s_fv σ (s_sum (s_len σ) b) = s_blf σ b := rfl
  have hlo := s_lo_le (f := s_blf σ b) (s_len σ b) hv0 hv
  have hhi := s_hi_le (f := s_blf σ b) (s_len σ b) hv0 hv
  have hlh := s_lo_hi (s_blf σ b) (s_len σ b)
  have hts := s_ts_le (f := s_blf σ b) (s_len σ b) hv
  have hu := s_un_le (s_blf σ b) (s_len σ b)
  have start : ∀ Φ : mj_R → mj_W → Prop, wp Ln xs 209 0 [.ref 72, .int (nI b), mj_hole, mj_hole, mj_hole, mj_hole, mj_hole, mj_hole] [] (u, ml_h m lm) Φ = if ¬ nI (s_frm σ b) = nI 2 then wp Ln xs 209 45 [.ref 72, .int (nI b), .int (nI (s_sum (s_len σ) b)), .int (nI (s_len σ b)), .int (nI (s_frm σ b)), mj_hole, mj_hole, mj_hole] [] (u, ml_h (ml_s m 72 14 (nI 0)) lm) Φ else wp Ln xs 209 38 [.ref 72, .int (nI b), .int (nI (s_sum (s_len σ) b)), .int (nI (s_len σ b)), .int (nI (s_frm σ b)), mj_hole, mj_hole, mj_hole] [] (u, ml_h (ml_s m 72 14 (nI 0)) lm) Φ := fun Φ => by
    rw [x209_0, sp159 hM (by omega), mk_v, x209_5, nI_add, x209_14 (by omega), e7, nI_add, x209_24 (by omega), e19]
  generalize ml_s m 72 14 (nI 0) = M at *
  unfold s_bits
  have : s_frm σ b = 0 ∨ s_frm σ b = 1 ∨ s_frm σ b = 2 ∨ s_frm σ b = 3 ∨ s_frm σ b = 4 := by omega
  rcases this with e | e | e | e | e
  · obtain ⟨m2, a1, a2, a3⟩ := sp209_p (Ln := Ln) (xs := xs) (u := u) (lm := lm) (x4 := 0) (lo := 0) (w := 10) (b := b) (a := s_sum (s_len σ) b) (b0 := s_e) (Or.inl rfl) l.2.1 (by omega) hv (fun i hi => Nat.zero_le _) (by decide) (by rw [show s_e.1 = 0 from rfl]; omega) (s_len σ b) 0 M (by omega) hM1 hB1
    refine ⟨m2, by rw [e]; exact a1, FB_t hF a2, fun Φ => ?_⟩
    rw [start, e, if_pos (by decide), x209_45, if_pos (by decide), x209_58, if_pos (by decide), x209_73, x209_74, if_pos (by decide), x209_97, if_pos (by decide), x209_115, x209_117, if_pos rfl, x209_157]
    exact a3 Φ
  · have hw := s_wd_le 10 (s_hi (s_blf σ b) (s_len σ b) - s_lo (s_blf σ b) (s_len σ b)) (by omega)
    have hnw : s_len σ b * s_wd (s_hi (s_blf σ b) (s_len σ b) - s_lo (s_blf σ b) (s_len σ b)) ≤ 16 * 10 := Nat.mul_le_mul l.2.1 hw
    obtain ⟨m2, a1, a2, a3⟩ := sp211 (Ln := Ln) (xs := xs) (u := u) (lm := lm) (x := s_lo (s_blf σ b) (s_len σ b)) (w := 10) (by omega) (by decide) hB1 (by decide)
    obtain ⟨m3, b1, b2, b3⟩ := sp211 (Ln := Ln) (xs := xs) (u := u) (lm := lm) (x := s_wd (s_hi (s_blf σ b) (s_len σ b) - s_lo (s_blf σ b) (s_len σ b))) (w := 4) (by omega) (by decide) a1 (by rw [s_fd_1]; decide)
    obtain ⟨m4, c1, c2, c3⟩ := sp209_p (Ln := Ln) (xs := xs) (u := u) (lm := lm) (x4 := 1) (lo := s_lo (s_blf σ b) (s_len σ b)) (w := s_wd (s_hi (s_blf σ b) (s_len σ b) - s_lo (s_blf σ b) (s_len σ b))) (b := b) (a := s_sum (s_len σ) b) (b0 := s_fd (s_wd (s_hi (s_blf σ b) (s_len σ b) - s_lo (s_blf σ b) (s_len σ b))) 4 (s_fd (s_lo (s_blf σ b) (s_len σ b)) 10 s_e)) (Or.inr rfl) l.2.1 (by omega) hv (fun i hi => s_lo_p _ i hi) (by omega) (by rw [s_fd_1, s_fd_1, show s_e.1 = 0 from rfl]; omega) (s_len σ b) 0 m3 (by omega) (s_hB (s_hB hM1 a2) b2) b1
    refine ⟨m4, by rw [e]; exact c1, FB_t hF (FB_t a2 (FB_t b2 c2)), fun Φ => ?_⟩
    rw [start, e, if_pos (by decide), x209_45, if_pos (by decide), x209_58, if_neg (fun z => z rfl), x209_64, sp166 (a := s_sum (s_len σ) b) hM1 (by omega) (by omega) hv, mk_v, x209_70, x209_74, if_neg (fun z => z rfl), x209_82, sp165 (a := s_sum (s_len σ) b) hM1 (by omega) (by omega) hv, mk_v, x209_88, eb, pk_sub hlh, sp167 (by omega), mk_v, x209_94, x209_117, if_neg s_10, x209_124, if_neg (fun z => z rfl), x209_131, x209_145, a3, mk_n, x209_150, b3, mk_n, x209_157]
    exact c3 Φ
  · obtain ⟨m2, a1, a2, a3⟩ := sp210 (Ln := Ln) (xs := xs) (u := u) (lm := lm) (a := s_sum (s_len σ) b) hM1 l.2.1 (by omega) hv hB1
    refine ⟨m2, by rw [e]; exact a1, FB_t hF a2, fun Φ => ?_⟩
    rw [start, e, if_neg (fun z => z rfl), x209_38, a3, mk_n, x209_44]
  · have hw := s_wd_le 11 (s_ts (s_blf σ b) (s_len σ b)) (by omega)
    have hnw : (s_len σ b - 1) * s_wd (s_ts (s_blf σ b) (s_len σ b)) ≤ 15 * 11 := Nat.mul_le_mul (by omega) hw
    have e43 : M 73 (43 + s_sum (s_len σ) b) = nI (s_blf σ b 0) := hM1 _ (by omega)
    obtain ⟨m2, a1, a2, a3⟩ := sp211 (Ln := Ln) (xs := xs) (u := u) (lm := lm) (x := s_blf σ b 0) (w := 10) (by omega) (by decide) hB1 (by decide)
    obtain ⟨m3, b1, b2, b3⟩ := sp211 (Ln := Ln) (xs := xs) (u := u) (lm := lm) (x := s_wd (s_ts (s_blf σ b) (s_len σ b))) (w := 4) (by omega) (by decide) a1 (by rw [s_fd_1]; decide)
    obtain ⟨m4, c1, c2, c3⟩ := sp209_d (Ln := Ln) (xs := xs) (u := u) (lm := lm) (lo := 0) (w := s_wd (s_ts (s_blf σ b) (s_len σ b))) (b := b) (a := s_sum (s_len σ) b) (b0 := s_fd (s_wd (s_ts (s_blf σ b) (s_len σ b))) 4 (s_fd (s_blf σ b 0) 10 s_e)) l.2.1 (by omega) hv (by omega) (by rw [s_fd_1, s_fd_1, show s_e.1 = 0 from rfl]; omega) (s_len σ b - 1) 0 m3 (by omega) (s_hB (s_hB hM1 a2) b2) b1
    refine ⟨m4, by rw [e]; exact c1, FB_t hF (FB_t a2 (FB_t b2 c2)), fun Φ => ?_⟩
    rw [start, e, if_pos (by decide), x209_45, if_pos (by decide), x209_58, if_pos (by decide), x209_73, x209_74, if_pos (by decide), x209_97, if_neg (fun z => z rfl), x209_103, sp169 (a := s_sum (s_len σ) b) hM1 (by omega) (by omega) hv, mk_v, x209_109, eb, sp167 (by omega), mk_v, x209_112, x209_117, if_neg (by decide), x209_124, if_pos (by decide), x209_136, nI_add, x209_144 (by omega), e43, x209_145, a3, mk_n, x209_150, b3, mk_n, x209_157, x209_160, nI_add, if_neg (nI_ge (by omega) (by omega)), x209_168, if_pos rfl, x209_196, if_pos (nI_le (Nat.le_refl _) (by omega)), x209_214, nI_add]
    exact c3 Φ
  · obtain ⟨q, hq⟩ : ∃ q, s_len σ b = q + 1 := ⟨s_len σ b - 1, by omega⟩
    have hu0 : 0 < s_un (s_blf σ b) (s_len σ b) := by
      rw [hq]
      exact s_un_pos _ q
    have hw := s_wd_le 4 (s_un (s_blf σ b) (s_len σ b) - 1) (by omega)
    have hnw : s_len σ b * s_wd (s_un (s_blf σ b) (s_len σ b) - 1) ≤ 16 * 4 := Nat.mul_le_mul l.2.1 hw
    obtain ⟨m2, a1, a2, a3⟩ := sp211 (Ln := Ln) (xs := xs) (u := u) (lm := lm) (x := s_un (s_blf σ b) (s_len σ b) - 1) (w := 4) (by omega) (by decide) hB1 (by decide)
    obtain ⟨m3, w5, b1, b2, b3⟩ := sp212_r (Ln := Ln) (xs := xs) (u := u) (lm := lm) (a := s_sum (s_len σ) b) (g := s_gg (s_blf σ b) (s_len σ b)) (b0 := s_fd (s_un (s_blf σ b) (s_len σ b) - 1) 4 s_e) l.2.1 (by omega) hv (s_gg_p _ _) (by rw [s_fd_1, show s_e.1 = 0 from rfl, eb]; omega) (s_un (s_blf σ b) (s_len σ b)) 0 m2 mj_hole (by rw [eb]; omega) (s_hB hM1 a2) a1
    obtain ⟨m4, c1, c2, c3⟩ := sp212_e (Ln := Ln) (xs := xs) (u := u) (lm := lm) (a := s_sum (s_len σ) b) (v5 := w5) (b0 := s_bl (s_gg (s_blf σ b) (s_len σ b)) 10 (s_un (s_blf σ b) (s_len σ b)) (s_fd (s_un (s_blf σ b) (s_len σ b) - 1) 4 s_e)) l.2.1 hu0 (by omega) hv (by rw [s_bl_1, s_fd_1, show s_e.1 = 0 from rfl, eb]; omega) (s_len σ b) 0 m3 (by omega) (s_hB (s_hB hM1 a2) b2) b1
    refine ⟨m4, by rw [e]; exact c1, FB_t hF (FB_t a2 (FB_t b2 c2)), fun Φ => ?_⟩
    rw [start, e, if_pos (by decide), x209_45, if_neg (fun z => z rfl), x209_51, x212_0, sp171 (a := s_sum (s_len σ) b) hM1 (by omega) hv, mk_v, x212_6, eb, pk_sub hu0, a3, mk_n, x212_15]
    refine (b3 _).trans ?_
    rw [x212_94]
    refine (c3 _).trans ?_
    rw [mk_n, x209_57]
theorem sp208_i (hM : ∀ k, k < 251 → m 73 k = nI (σ k)) (h0 : s_ok σ) (h : y < nI 0 ∨ nI (σ 0) ≤ y) : wp Ln xs 208 0 [.ref 72, .int y, .int z] [] (u, ml_h m lm) Φ = Φ (.inl (some (.int (nI 0)))) (u, ml_h (ml_s m 72 8 (nI 1)) lm) := by
  rw [x208_0, sp179_f hM h0.1 h, mk_v, x208_6, if_neg (fun z => z rfl), x208_9, x208_22, sp154_e s_10, mk_v, x208_25, if_neg (fun z => z rfl), x208_28]
theorem sp208_a (hM : ∀ k, k < 251 → m 73 k = nI (σ k)) (h0 : s_ok σ) (hb : b < σ 0) (h : z < nI 0) : wp Ln xs 208 0 [.ref 72, .int (nI b), .int z] [] (u, ml_h m lm) Φ = Φ (.inl (some (.int (nI 0)))) (u, ml_h (ml_s m 72 8 (nI 2)) lm) := by
  rw [x208_0, sp179_t hM h0.1 hb, mk_v, x208_6, if_pos s_10, x208_13, if_neg (fun w => Int32.lt_irrefl (Int32.lt_of_lt_of_le h w)), x208_17, x208_22, sp154_e (by decide), mk_v, x208_25, if_neg (fun z => z rfl), x208_28]
theorem sp208_k {ss : Nat → s_S} {tx : Nat → Nat} (hM : ∀ k, k < 251 → m 73 k = nI (σ k)) (hy : RepY m n ss t τ tl tx) (h0 : s_ok σ) (hb : b < σ 0) (hk : k < 2 ^ 31) : ∃ m', (∀ k, k < 251 → m' 73 k = nI (σ k)) ∧ RepY m' n ss t τ tl tx ∧ m' 72 8 = nI 0 ∧ (∀ a, a < 72 ∨ 78 < a → m' a = m a) ∧ ∀ Φ : mj_R → mj_W → Prop, wp Ln xs 208 0 [.ref 72, .int (nI b), .int (nI k)] [] (u, ml_h m lm) Φ = Φ (.inl (some (.int (if k < (s_bits σ b).1 then nI ((s_bits σ b).2 k) else -1)))) (u, ml_h m' lm) := by
  have hle := s_bits_le h0 hb
  have hM8 := s_h8 (v := nI 0) hM
  obtain ⟨m1, g1, g2, g3⟩ := sp209 (Ln := Ln) (xs := xs) (u := u) (lm := lm) hM8 h0 hb
  have hy8 : RepY (ml_s m 72 8 (nI 0)) n ss t τ tl tx := RepY_8 hy
  refine ⟨m1, s_hB hM8 g2, RepY_of hy8 (g2.2 2 (by decide)) (g2.2 4 (by decide)) (g2.2 7 (by decide)) (g2.1 74 (by decide) (by decide)) (g2.1 75 (by decide) (by decide)) (g2.1 77 (by decide) (by decide)), by rw [g2.2 8 (by decide), ml_s_s], fun a ha => by rw [g2.1 a (by omega) (by omega), ml_s_row (by omega)], fun Φ => ?_⟩
  rw [x208_0, sp179_t hM h0.1 hb, mk_v, x208_6, if_pos s_10, x208_13, if_pos (nI_le (Nat.zero_le _) hk), x208_21, x208_22, sp154_k, mk_v, x208_25, if_pos s_10, x208_30, g3, mk_n, x208_35, g1.1]
  by_cases c : k < (s_bits σ b).1
  · rw [if_neg (nI_ge c (by omega)), x208_43, x208_48 (by omega), g1.2 k c, if_pos c]
  · rw [if_pos (nI_le (by omega) hk), x208_52, if_neg c]
end BTB
