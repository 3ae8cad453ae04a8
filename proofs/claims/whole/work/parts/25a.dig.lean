/-! ===== the digest: what it is, and the class ===== -/
def s_it (F : Nat → Int64 → Int64) : Nat → Int64 → Int64
  | 0, h => h
  | n + 1, h => F n (s_it F n h)
def s_mx (h v : Int64) : Int64 := 31 * h + v
theorem s_it_0 {F : Nat → Int64 → Int64} {h : Int64} : s_it F 0 h = h := rfl
theorem s_it_S {F : Nat → Int64 → Int64} {n : Nat} {h : Int64} : s_it F (n + 1) h = F n (s_it F n h) := rfl
def dg_c (σ : s_S) (n : Nat) : Nat → Int64 → Int64 := fun w h => s_mx h (s_cn σ n w).toInt64
def dg_s (σ : s_S) : Nat → Int64 → Int64 := fun w h => s_mx h (nI (σ (2 + w))).toInt64
def dg_v1 (σ : s_S) (k : Nat) : Nat → Int64 → Int64 := fun w h => s_mx h (s_vt σ k w).toInt64
def dg_v (σ : s_S) : Nat → Int64 → Int64 := fun k h => s_it (dg_v1 σ k) 4 h
def dg_b1 (σ : s_S) (b : Nat) : Nat → Int64 → Int64 := fun w h => s_mx h (nI (s_bt σ b w)).toInt64
def dg_b2 (σ : s_S) (b : Nat) : Nat → Int64 → Int64 := fun i h => s_mx h (nI (s_sz (s_blf σ b) (s_len σ b) i)).toInt64
noncomputable def dg_b3 (σ : s_S) (b : Nat) : Nat → Int64 → Int64 := fun i h => s_mx h (nI ((s_bits σ b).2 i)).toInt64
noncomputable def dg_b (σ : s_S) : Nat → Int64 → Int64 := fun b h => s_mx (s_it (dg_b3 σ b) (s_bits σ b).1 (s_it (dg_b2 σ b) 5 (s_it (dg_b1 σ b) 10 h))) (s_m1 (s_bs σ b)).toInt64
theorem dg_b_S {σ : s_S} {b : Nat} {h : Int64} : s_it (dg_b σ) (b + 1) h = s_mx (s_it (dg_b3 σ b) (s_bits σ b).1 (s_it (dg_b2 σ b) 5 (s_it (dg_b1 σ b) 10 (s_it (dg_b σ) b h)))) (s_m1 (s_bs σ b)).toInt64 := rfl
def dg_m1 (σ : s_S) (p q : Nat) : Nat → Int64 → Int64 := fun w h => s_mx h (s_mt σ p q w).toInt64
def dg_l1 (σ : s_S) : Nat → Int64 → Int64 := fun w h => s_mx h (nI (s_lt σ w)).toInt64
def dg_x (tx : Nat → Nat) : Nat → Int64 → Int64 := fun k h => s_mx h (nI (tx k)).toInt64
def s_shb (σ : s_S) : Int64 := fl_bd (2 ^ 52 + (s_shv σ).toNat % 2 ^ 52) (-1074 + (((s_shv σ).toNat / 2 ^ 52 : Nat) - 1 : Int))
def s_mnb (σ : s_S) : Int32 := if s_tot σ = 0 then nI 0 else fl_bf (2 ^ 23 + (s_mnv σ).toNat % 2 ^ 23) (-149 + (((s_mnv σ).toNat / 2 ^ 23 : Nat) - 1 : Int))
noncomputable def s_dg (σ : s_S) (n t tl : Nat) (tx : Nat → Nat) : Int64 :=
  s_it (dg_x tx) tl (s_mx (s_mx (s_mx (s_mx (s_it (dg_l1 σ) 3 (s_it (dg_m1 σ 0 999) 4 (s_it (dg_m1 σ 100 499) 4 (s_it (dg_m1 σ 0 99) 4 (s_it (dg_b σ) (σ 0) (s_it (dg_v σ) (s_tot σ) (s_it (dg_s σ) 3 (s_it (dg_c σ n) 9 3631)))))))) (s_shb σ)) (s_mnb σ).toInt64) (if t = 0 then 0 else 1)) (nI tl).toInt64)
theorem fl_cq {P X m n c q} (h : fl_N P X m n c q) : c = 2 ^ P + n % 2 ^ P ∧ q = m + ((n / 2 ^ P : Nat) - 1 : Int) := by
  obtain ⟨h1, h2, h3, h4, h5⟩ := h
  rw [Nat.pow_succ] at h2
  have hp := fl_pos P
  have d1 : n / 2 ^ P = (q - m).toNat + 1 := by
    rw [h5, Nat.mul_comm, Nat.mul_add_div hp, Nat.div_eq_of_lt (by omega), Nat.add_zero]
  have d2 : n % 2 ^ P = c - 2 ^ P := by
    rw [h5, Nat.mul_comm, Nat.mul_add_mod, Nat.mod_eq_of_lt (by omega)]
  rw [d1, d2]
  omega
theorem s_shb_eq {σ : s_S} (h0 : s_ok σ) : ∃ c q, fl_D (s_shv σ) c q ∧ -132 ≤ q ∧ q ≤ 28 ∧ s_shb σ = fl_bd c q := by
  obtain ⟨c, q, h, h1, h2⟩ := s_shv_D h0
  obtain ⟨e1, e2⟩ := fl_cq h
  refine ⟨c, q, h, h1, h2, ?_⟩
  unfold s_shb
  rw [← e1, ← e2]
theorem s_mnb_eq {σ : s_S} (h0 : s_ok σ) (k : s_tot σ ≠ 0) : ∃ c q, fl_F (s_mnv σ) c q ∧ -83 ≤ q ∧ q ≤ 37 ∧ s_mnb σ = fl_bf c q := by
  obtain ⟨c, q, h, h1, h2⟩ := s_mnv_F h0 k
  obtain ⟨e1, e2⟩ := fl_cq h
  refine ⟨c, q, h, h1, h2, ?_⟩
  unfold s_mnb
  rw [if_neg k, ← e1, ← e2]
/-- scratch rows of the class -/
def FC (m m' : ml_M) : Prop := ∀ a, a < 56 ∨ 71 < a → m' a = m a
theorem FC_r (m : ml_M) : FC m m := fun _ _ => rfl
theorem FC_t {m m1 m2 : ml_M} (h : FC m m1) (g : FC m1 m2) : FC m m2 := fun a ha => (g a ha).trans (h a ha)
theorem FC_C {m m1 : ml_M} {σ : s_S} (g : FC m m1) (h : RepC m 2 σ) : RepC m1 2 σ := RepC_of h fun a _ h2 => g a (by omega)
section DIGC
variable {Ln : Nat} {xs : Nat → Int32} {u : mj_U} {m : ml_M} {lm : ml_J} {Φ : mj_R → mj_W → Prop} {σ : s_S} {n k b p q : Nat} {tx : Nat → Nat} {h y1 : Int64}
theorem sp40 {y0 y2 : Int64} : wp Ln xs 40 0 [.long y0, mj_hole, .long y2, mj_hole] [] (u, ml_h m lm) Φ = Φ (.inl (some (.long (s_mx y0 y2)))) (u, ml_h m lm) := x40_0
theorem sp26_c (h0 : s_ok σ) : ∀ (d k : Nat) (m : ml_M), k + d = 9 → RepC m 2 σ → m 14 2 = nI n → ∃ m', FC m m' ∧ ∀ Φ : mj_R → mj_W → Prop, wp Ln xs 26 6 [.ref 1, .long (s_it (dg_c σ n) k h), mj_hole, .int (nI k)] [] (u, ml_h m lm) Φ = wp Ln xs 26 29 [.ref 1, .long (s_it (dg_c σ n) 9 h), mj_hole, .int (nI 9)] [] (u, ml_h m' lm) Φ
  | 0, k, m, e, hC, hn => by
    obtain rfl : k = 9 := by omega
    exact ⟨m, FC_r m, fun Φ => by rw [x26_6, if_pos (by decide)]⟩
  | d + 1, k, m, e, hC, hn => by
    obtain ⟨m1, f1, g1⟩ := sp27 (Ln := Ln) (xs := xs) (u := u) (lm := lm) h0 hC hn (show k ≤ 8 by omega)
    have F1 : FC m m1 := fun a ha => f1 a (by omega) (by omega)
    obtain ⟨m2, f2, g2⟩ := sp26_c h0 d (k + 1) m1 (by omega) (FC_C F1 hC) (by rw [F1 14 (by decide)]; exact hn)
    refine ⟨m2, FC_t F1 f2, fun Φ => ?_⟩
    rw [x26_6, if_neg (nI_nlt (by omega) (by omega)), x26_12, g1, mk_v, x26_18, sp40, mk_v, x26_22, nI_add]
    exact g2 Φ
theorem sp26_s (hC : RepC m 2 σ) : ∀ (d k : Nat), k + d = 3 → wp Ln xs 26 31 [.ref 1, .long (s_it (dg_s σ) k h), mj_hole, .int (nI k)] [] (u, ml_h m lm) Φ = wp Ln xs 26 56 [.ref 1, .long (s_it (dg_s σ) 3 h), mj_hole, .int (nI 3)] [] (u, ml_h m lm) Φ
  | 0, k, e => by
    obtain rfl : k = 3 := by omega
    rw [x26_31, if_pos (by decide)]
  | d + 1, k, e => by
    have ih := sp26_s hC d (k + 1) (by omega)
    rw [x26_31, if_neg (nI_ge (by omega) (by omega)), x26_36, sp41 (by omega), mk_v, hC.2.2.2.2.2.2.2.2 k (by omega), x26_45, sp40, mk_v, x26_49, nI_add]
    exact ih
theorem sp26_x {tl : Nat} (h1 : m 52 1 = nI tl) (h2 : tl ≤ 60) (h3 : ∀ k, k < tl → m 53 k = nI (tx k)) : ∀ (d k : Nat), k + d = tl → wp Ln xs 26 161 [.ref 1, .long (s_it (dg_x tx) k h), mj_hole, .int (nI k)] [] (u, ml_h m lm) Φ = Φ (.inl (some (.long (s_it (dg_x tx) tl h)))) (u, ml_h m lm)
  | 0, k, e => by
    obtain rfl : k = tl := by omega
    rw [x26_161, h1, if_pos (nI_le (Nat.le_refl _) (by omega)), x26_195]
  | d + 1, k, e => by
    have ih := sp26_x h1 h2 h3 d (k + 1) (by omega)
    rw [x26_161, h1, if_neg (nI_ge (by omega) (by omega)), x26_172, at_53 (by omega), mk_v, h3 k (by omega), x26_184, sp40, mk_v, x26_188, nI_add]
    exact ih
theorem sp42_i (h0 : s_ok σ) (hk : k < s_tot σ) {y1 : Int64} : ∀ (d p : Nat) (m : ml_M), p + d = 4 → RepC m 2 σ → ∃ m', FC m m' ∧ ∀ Φ : mj_R → mj_W → Prop, wp Ln xs 42 20 [.ref 1, .long y1, mj_hole, .long (s_it (dg_v1 σ k) p h), mj_hole, .int (nI k), .int (nI p)] [] (u, ml_h m lm) Φ = wp Ln xs 42 46 [.ref 1, .long y1, mj_hole, .long (s_it (dg_v1 σ k) 4 h), mj_hole, .int (nI k), .int (nI 4)] [] (u, ml_h m' lm) Φ
  | 0, p, m, e, hC => by
    obtain rfl : p = 4 := by omega
    exact ⟨m, FC_r m, fun Φ => by rw [x42_20, if_pos (by decide)]⟩
  | d + 1, p, m, e, hC => by
    obtain ⟨m1, f1, g1⟩ := sp43 (Ln := Ln) (xs := xs) (u := u) (lm := lm) h0 hC hk (show p ≤ 3 by omega)
    have F1 : FC m m1 := fun a ha => f1 a (by omega) (by omega)
    obtain ⟨m2, f2, g2⟩ := sp42_i h0 hk (y1 := y1) d (p + 1) m1 (by omega) (FC_C F1 hC)
    refine ⟨m2, FC_t F1 f2, fun Φ => ?_⟩
    rw [x42_20, if_neg (nI_nlt (by omega) (by omega)), x42_26, g1, mk_v, x42_35, sp40, mk_v, x42_39, nI_add]
    exact g2 Φ
theorem sp42_l (h0 : s_ok σ) {y1 : Int64} : ∀ (d k : Nat) (m : ml_M) (v6 : Value), k + d = s_tot σ → RepC m 2 σ → ∃ m', FC m m' ∧ ∀ Φ : mj_R → mj_W → Prop, wp Ln xs 42 5 [.ref 1, .long y1, mj_hole, .long (s_it (dg_v σ) k h), mj_hole, .int (nI k), v6] [] (u, ml_h m lm) Φ = Φ (.inl (some (.long (s_it (dg_v σ) (s_tot σ) h)))) (u, ml_h m' lm)
  | 0, k, m, v6, e, hC => by
    have hT := s_tot_le h0
    obtain rfl : k = s_tot σ := by omega
    exact ⟨m, FC_r m, fun Φ => by rw [x42_5, hC.1, if_pos (nI_le (Nat.le_refl _) (by omega)), x42_52]⟩
  | d + 1, k, m, v6, e, hC => by
    have hT := s_tot_le h0
    obtain ⟨m1, f1, g1⟩ := sp42_i (Ln := Ln) (xs := xs) (u := u) (lm := lm) h0 (show k < s_tot σ by omega) (y1 := y1) (h := s_it (dg_v σ) k h) 4 0 m (by omega) hC
    obtain ⟨m2, f2, g2⟩ := sp42_l h0 (y1 := y1) d (k + 1) m1 (.int (nI 4)) (by omega) (FC_C f1 hC)
    refine ⟨m2, FC_t f1 f2, fun Φ => ?_⟩
    rw [x42_5, hC.1, if_neg (nI_ge (by omega) (by omega)), x42_17]
    refine (g1 _).trans ?_
    rw [x42_46, nI_add]
    exact g2 Φ
theorem sp42 (h0 : s_ok σ) (hC : RepC m 2 σ) : ∃ m', FC m m' ∧ ∀ Φ : mj_R → mj_W → Prop, wp Ln xs 42 0 [.ref 1, .long h, mj_hole, mj_hole, mj_hole, mj_hole, mj_hole] [] (u, ml_h m lm) Φ = Φ (.inl (some (.long (s_it (dg_v σ) (s_tot σ) h)))) (u, ml_h m' lm) := by
  obtain ⟨m2, f2, g2⟩ := sp42_l (Ln := Ln) (xs := xs) (u := u) (lm := lm) h0 (y1 := h) (h := h) (s_tot σ) 0 m mj_hole (by omega) hC
  refine ⟨m2, f2, fun Φ => ?_⟩
  rw [x42_0]
  exact g2 Φ
theorem sp46_1 (h0 : s_ok σ) (hb : b < σ 0) {y1 : Int64} : ∀ (d p : Nat) (m : ml_M), p + d = 10 → RepC m 2 σ → ∃ m', FC m m' ∧ ∀ Φ : mj_R → mj_W → Prop, wp Ln xs 46 20 [.ref 1, .long y1, mj_hole, .long (s_it (dg_b1 σ b) p h), mj_hole, .int (nI b), .int (nI p)] [] (u, ml_h m lm) Φ = wp Ln xs 46 47 [.ref 1, .long y1, mj_hole, .long (s_it (dg_b1 σ b) 10 h), mj_hole, .int (nI b), .int (nI 10)] [] (u, ml_h m' lm) Φ
  | 0, p, m, e, hC => by
    obtain rfl : p = 10 := by omega
    exact ⟨m, FC_r m, fun Φ => by rw [x46_20, if_pos (by decide)]⟩
  | d + 1, p, m, e, hC => by
    obtain ⟨m1, f1, g1⟩ := sp47 (Ln := Ln) (xs := xs) (u := u) (lm := lm) h0 hC hb (show p ≤ 9 by omega)
    have F1 : FC m m1 := fun a ha => f1 a (by omega)
    obtain ⟨m2, f2, g2⟩ := sp46_1 h0 hb (y1 := y1) d (p + 1) m1 (by omega) (FC_C F1 hC)
    refine ⟨m2, FC_t F1 f2, fun Φ => ?_⟩
    rw [x46_20, if_neg (nI_nlt (by omega) (by omega)), x46_27, g1, mk_v, x46_36, sp40, mk_v, x46_40, nI_add]
    exact g2 Φ
theorem sp46_2 (h0 : s_ok σ) (hb : b < σ 0) (hS : RepS m 56 (s_blf σ b) (s_len σ b)) {y1 : Int64} : ∀ (d p : Nat), p + d = 5 → wp Ln xs 46 56 [.ref 1, .long y1, mj_hole, .long (s_it (dg_b2 σ b) p h), mj_hole, .int (nI b), .int (nI p)] [] (u, ml_h m lm) Φ = wp Ln xs 46 83 [.ref 1, .long y1, mj_hole, .long (s_it (dg_b2 σ b) 5 h), mj_hole, .int (nI b), .int (nI 5)] [] (u, ml_h m lm) Φ
  | 0, p, e => by
    obtain rfl : p = 5 := by omega
    rw [x46_56, if_pos (by decide)]
  | d + 1, p, e => by
    have ih := sp46_2 h0 hb hS (y1 := y1) d (p + 1) (by omega)
    have l := h0.2.2.1 b hb
    have hv := s_blf_le (s_oke_of (fun _ => False) h0) hb
    rw [x46_56, if_neg (nI_ge (by omega) (by omega)), x46_62, sp37 ml_sh_56 hS (by omega) (by omega) hv (by omega), mk_v, x46_72, sp40, mk_v, x46_76, nI_add]
    exact ih
theorem sp46_3 (h0 : s_ok σ) (hb : b < σ 0) (hB : RB m (s_bits σ b)) {y1 : Int64} : ∀ (d p : Nat), p + d = (s_bits σ b).1 → wp Ln xs 46 86 [.ref 1, .long y1, mj_hole, .long (s_it (dg_b3 σ b) p h), mj_hole, .int (nI b), .int (nI p)] [] (u, ml_h m lm) Φ = wp Ln xs 46 122 [.ref 1, .long y1, mj_hole, .long (s_it (dg_b3 σ b) (s_bits σ b).1 h), mj_hole, .int (nI b), .int (nI (s_bits σ b).1)] [] (u, ml_h m lm) Φ
  | 0, p, e => by
    have hl := s_bits_le h0 hb
    obtain rfl : p = (s_bits σ b).1 := by omega
    rw [x46_86, hB.1, if_pos (nI_le (Nat.le_refl _) (by omega))]
  | d + 1, p, e => by
    have ih := sp46_3 h0 hb hB (y1 := y1) d (p + 1) (by omega)
    have hl := s_bits_le h0 hb
    rw [x46_86, hB.1, if_neg (nI_ge (by omega) (by omega)), x46_98, at_70 (by omega), mk_v, hB.2 p (by omega), x46_111, sp40, mk_v, x46_115, nI_add]
    exact ih
theorem sp46_l (h0 : s_ok σ) {y1 : Int64} : ∀ (d b : Nat) (m : ml_M) (v6 : Value), b + d = σ 0 → RepC m 2 σ → ∃ m', FC m m' ∧ ∀ Φ : mj_R → mj_W → Prop, wp Ln xs 46 5 [.ref 1, .long y1, mj_hole, .long (s_it (dg_b σ) b h), mj_hole, .int (nI b), v6] [] (u, ml_h m lm) Φ = Φ (.inl (some (.long (s_it (dg_b σ) (σ 0) h)))) (u, ml_h m' lm)
  | 0, b, m, v6, e, hC => by
    have hT := h0.1
    obtain rfl : b = σ 0 := by omega
    exact ⟨m, FC_r m, fun Φ => by rw [x46_5, hC.2.1, if_pos (nI_le (Nat.le_refl _) (by omega)), x46_140]⟩
  | d + 1, b, m, v6, e, hC => by
    have hT := h0.1
    have hb : b < σ 0 := by omega
    obtain ⟨m1, f1, g1⟩ := sp46_1 (Ln := Ln) (xs := xs) (u := u) (lm := lm) h0 hb (y1 := y1) (h := s_it (dg_b σ) b h) 10 0 m (by omega) hC
    have C1 := FC_C f1 hC
    obtain ⟨m2, r2, s2, f2, g2⟩ := sp51 (Ln := Ln) (xs := xs) (u := u) (lm := lm) h0 C1 hb
    have F2 : FC m1 m2 := fun a ha => f2 a (by omega)
    have C2 := FC_C F2 C1
    obtain ⟨m3, f3, g3⟩ := sp61 (Ln := Ln) (xs := xs) (u := u) (lm := lm) h0 C2 hb
    have F3 : FC m2 m3 := fun a ha => f3 a (by omega)
    obtain ⟨m4, f4, g4⟩ := sp46_l h0 (y1 := y1) d (b + 1) m3 (.int (nI (s_bits σ b).1)) (by omega) (FC_C F3 C2)
    rw [s_it_0] at g1
    rw [dg_b_S] at g4
    have e2 := fun Φ => sp46_2 (Ln := Ln) (xs := xs) (u := u) (lm := lm) (Φ := Φ) h0 hb s2 (y1 := y1) (h := s_it (dg_b1 σ b) 10 (s_it (dg_b σ) b h)) 5 0 (by omega)
    have e3 := fun Φ => sp46_3 (Ln := Ln) (xs := xs) (u := u) (lm := lm) (Φ := Φ) h0 hb r2 (y1 := y1) (h := s_it (dg_b2 σ b) 5 (s_it (dg_b1 σ b) 10 (s_it (dg_b σ) b h))) (s_bits σ b).1 0 (by omega)
    rw [s_it_0] at e2 e3
    refine ⟨m4, FC_t f1 (FC_t F2 (FC_t F3 f4)), fun Φ => ?_⟩
    rw [x46_5, hC.2.1, if_neg (nI_ge (by omega) (by omega)), x46_17, g1, x46_47, g2, mk_n, x46_53, e2, x46_83, e3, x46_122, g3, mk_v, x46_129, sp40, mk_v, x46_133, nI_add]
    exact g4 Φ
theorem sp46 (h0 : s_ok σ) (hC : RepC m 2 σ) : ∃ m', FC m m' ∧ ∀ Φ : mj_R → mj_W → Prop, wp Ln xs 46 0 [.ref 1, .long h, mj_hole, mj_hole, mj_hole, mj_hole, mj_hole] [] (u, ml_h m lm) Φ = Φ (.inl (some (.long (s_it (dg_b σ) (σ 0) h)))) (u, ml_h m' lm) := by
  obtain ⟨m2, f2, g2⟩ := sp46_l (Ln := Ln) (xs := xs) (u := u) (lm := lm) h0 (y1 := h) (h := h) (σ 0) 0 m mj_hole (by omega) hC
  refine ⟨m2, f2, fun Φ => ?_⟩
  rw [x46_0]
  exact g2 Φ
theorem sp62 (h0 : s_ok σ) (hC : RepC m 2 σ) (hp : p ≤ 999) (hq : q ≤ 999) : ∃ m', FC m m' ∧ ∀ Φ : mj_R → mj_W → Prop, wp Ln xs 62 0 [.ref 1, .long h, mj_hole, .int (nI p), .int (nI q), mj_hole, mj_hole] [] (u, ml_h m lm) Φ = Φ (.inl (some (.long (s_it (dg_m1 σ p q) 4 h)))) (u, ml_h m' lm) := by
  obtain ⟨m1, e1, e2, f1, g1⟩ := sp63 (Ln := Ln) (xs := xs) (u := u) (lm := lm) h0 hC hp hq
  have F1 : FC m m1 := fun a ha => f1 a (by omega)
  have C1 := FC_C F1 hC
  refine ⟨m1, F1, fun Φ => ?_⟩
  rw [x62_0, g1, mk_n, x62_14, sp40, mk_v, x62_26, x69_0, e1]
  have e := fun Φ => sp69_l (Ln := Ln) (xs := xs) (u := u) (lm := lm) (Φ := Φ) h0 C1 hp hq (s_tot σ) 0 (by omega)
  refine (e _).trans ?_
  rw [mk_v, x62_44, sp40, mk_v, x62_48, sp40, mk_v, e2, x62_63, x70_0, sp70_l h0 C1 hp hq (s_tot σ) 0 (by omega), mk_v, x62_81, sp40, mk_v, x62_85]
  rfl
theorem sp71 (h0 : s_ok σ) (hC : RepC m 2 σ) : ∃ m', FC m m' ∧ ∀ Φ : mj_R → mj_W → Prop, wp Ln xs 71 0 [.ref 1, .long h, mj_hole, mj_hole, mj_hole, mj_hole, mj_hole] [] (u, ml_h m lm) Φ = Φ (.inl (some (.long (s_it (dg_l1 σ) 3 h)))) (u, ml_h m' lm) := by
  have hT := s_tot_le h0
  obtain ⟨m1, C1, e1, e2, f1, g1⟩ := sp72 (Ln := Ln) (xs := xs) (u := u) (lm := lm) h0 hC
  have F1 : FC m m1 := fun a ha => f1 a (by omega)
  obtain ⟨m2, f2, g2⟩ := sp78 (Ln := Ln) (xs := xs) (u := u) (lm := lm) h0 C1
  have F2 : FC m1 m2 := fun a ha => f2 a (by omega)
  refine ⟨m2, FC_t F1 F2, fun Φ => ?_⟩
  rw [x71_0, g1, mk_n, x71_11, x76_0, C1.1, at_67 (by omega), mk_v, e1, x76_11, mk_v, x71_22, x77_0, C1.1, at_68 (by omega), mk_v, e2, x77_11, mk_v, x71_34, sp40, mk_v, x71_42, g2, mk_v, x71_57, sp40, mk_v, x71_61, sp40, mk_v, x71_71]
  rfl
theorem sp26 {t tl : Nat} (h0 : s_ok σ) (hC : RepC m 2 σ) (hn : m 14 2 = nI n) (ht : m 1 2 = nI t) (ht1 : t ≤ 1) (h1 : m 52 1 = nI tl) (h2 : tl ≤ 60) (h3 : ∀ k, k < tl → m 53 k = nI (tx k)) : ∃ m', FC m m' ∧ ∀ Φ : mj_R → mj_W → Prop, wp Ln xs 26 0 [.ref 1, mj_hole, mj_hole, mj_hole] [] (u, ml_h m lm) Φ = Φ (.inl (some (.long (s_dg σ n t tl tx)))) (u, ml_h m' lm) := by
  obtain ⟨m1, f1, g1⟩ := sp26_c (Ln := Ln) (xs := xs) (u := u) (lm := lm) (n := n) (h := 3631) h0 9 0 m (by omega) hC hn
  have C1 := FC_C f1 hC
  obtain ⟨m2, f2, g2⟩ := sp42 (Ln := Ln) (xs := xs) (u := u) (lm := lm) (h := s_it (dg_s σ) 3 (s_it (dg_c σ n) 9 3631)) h0 C1
  have C2 := FC_C f2 C1
  obtain ⟨m3, f3, g3⟩ := sp46 (Ln := Ln) (xs := xs) (u := u) (lm := lm) (h := s_it (dg_v σ) (s_tot σ) (s_it (dg_s σ) 3 (s_it (dg_c σ n) 9 3631))) h0 C2
  have C3 := FC_C f3 C2
  obtain ⟨m4, f4, g4⟩ := sp62 (Ln := Ln) (xs := xs) (u := u) (lm := lm) (h := s_it (dg_b σ) (σ 0) (s_it (dg_v σ) (s_tot σ) (s_it (dg_s σ) 3 (s_it (dg_c σ n) 9 3631)))) h0 C3 (show 0 ≤ 999 by decide) (show 99 ≤ 999 by decide)
  have C4 := FC_C f4 C3
  obtain ⟨m5, f5, g5⟩ := sp62 (Ln := Ln) (xs := xs) (u := u) (lm := lm) (h := s_it (dg_m1 σ 0 99) 4 (s_it (dg_b σ) (σ 0) (s_it (dg_v σ) (s_tot σ) (s_it (dg_s σ) 3 (s_it (dg_c σ n) 9 3631))))) h0 C4 (show 100 ≤ 999 by decide) (show 499 ≤ 999 by decide)
  have C5 := FC_C f5 C4
  obtain ⟨m6, f6, g6⟩ := sp62 (Ln := Ln) (xs := xs) (u := u) (lm := lm) (h := s_it (dg_m1 σ 100 499) 4 (s_it (dg_m1 σ 0 99) 4 (s_it (dg_b σ) (σ 0) (s_it (dg_v σ) (s_tot σ) (s_it (dg_s σ) 3 (s_it (dg_c σ n) 9 3631)))))) h0 C5 (show 0 ≤ 999 by decide) (show 999 ≤ 999 by decide)
  have C6 := FC_C f6 C5
  obtain ⟨m7, f7, g7⟩ := sp71 (Ln := Ln) (xs := xs) (u := u) (lm := lm) (h := s_it (dg_m1 σ 0 999) 4 (s_it (dg_m1 σ 100 499) 4 (s_it (dg_m1 σ 0 99) 4 (s_it (dg_b σ) (σ 0) (s_it (dg_v σ) (s_tot σ) (s_it (dg_s σ) 3 (s_it (dg_c σ n) 9 3631))))))) h0 C6
  have C7 := FC_C f7 C6
  have F := FC_t f1 (FC_t f2 (FC_t f3 (FC_t f4 (FC_t f5 (FC_t f6 f7)))))
  obtain ⟨c, q, e, e1, e2, e3⟩ := s_shb_eq h0
  have k52 : m7 52 1 = nI tl := by rw [F 52 (by decide)]; exact h1
  have k53 : ∀ k, k < tl → m7 53 k = nI (tx k) := by rw [F 53 (by decide)]; exact h3
  have k1 : m7 1 2 = nI t := by rw [F 1 (by decide)]; exact ht
  refine ⟨m7, F, fun Φ => ?_⟩
  have hmean : ∀ Φ : mj_R → mj_W → Prop, wp Ln xs 80 0 [.float (s_mnv σ), mj_hole, mj_hole, mj_hole] [] (u, ml_h m7 lm) Φ = Φ (.inl (some (.int (s_mnb σ)))) (u, ml_h m7 lm) := fun Φ => by
    by_cases k : s_tot σ = 0
    · rw [show s_mnv σ = FP.fconst0 from if_pos k, sp80_0, show s_mnb σ = nI 0 from if_pos k]
    · obtain ⟨c, q, e, e1, e2, e3⟩ := s_mnb_eq h0 k
      rw [sp80 e e1 e2, e3]
  have es := sp26_s (Ln := Ln) (xs := xs) (u := u) (lm := lm) (Φ := Φ) C1 (h := s_it (dg_c σ n) 9 3631) 3 0 (by omega)
  rw [s_it_0] at g1 es
  rw [x26_0, g1, x26_29, es, x26_56, g2, mk_v, x26_61, g3, mk_v, x26_67, g4, mk_v, x26_76, g5, mk_v, x26_87, g6, mk_v, x26_97, g7, mk_v, x26_103, sp20 h0 C7, mk_v, x26_109, sp79 e e1 e2, mk_v, x26_112, sp40, mk_v, x26_115, sp25 h0 C7, mk_v, x26_121, hmean, mk_v, x26_124, sp40, mk_v, x26_128, k1, ← e3]
  unfold s_dg
  have ex := fun hh => sp26_x (Ln := Ln) (xs := xs) (u := u) (lm := lm) (Φ := Φ) k52 h2 k53 (h := hh) tl 0 (by omega)
  rcases (show t = 0 ∨ t = 1 by omega) with rfl | rfl
  · rw [if_pos rfl, if_pos rfl, x26_141, x26_142, sp40, mk_v, x26_145, sp40, mk_v, k52, x26_158]
    exact ex _
  · rw [if_neg s_10, if_neg (by decide), x26_137, x26_142, sp40, mk_v, x26_145, sp40, mk_v, k52, x26_158]
    exact ex _
end DIGC
