/-! ===== the digest: the Model ===== -/
theorem sj_g {lm : ml_J} {h : Int64} : ml_sj lm 72 17 h 72 17 = h := if_pos ⟨rfl, rfl⟩
theorem sj_sj {lm : ml_J} {h h2 : Int64} : ml_sj (ml_sj lm 72 17 h) 72 17 h2 = ml_sj lm 72 17 h2 := by
  funext a k
  unfold ml_sj
  split <;> rfl
/-- scratch rows of the Model -/
def FM (m m' : ml_M) : Prop := (∀ a, a ≠ 72 → a ≠ 78 → a ≠ 79 → a ≠ 80 → m' a = m a) ∧ (∀ k, k ≠ 8 → k ≠ 14 → m' 72 k = m 72 k)
theorem FM_r (m : ml_M) : FM m m := ⟨fun _ _ _ _ _ => rfl, fun _ _ _ => rfl⟩
theorem FM_t {m m1 m2 : ml_M} (h : FM m m1) (g : FM m1 m2) : FM m m2 := ⟨fun a h1 h2 h3 h4 => (g.1 a h1 h2 h3 h4).trans (h.1 a h1 h2 h3 h4), fun k h1 h2 => (g.2 k h1 h2).trans (h.2 k h1 h2)⟩
theorem FM_M {m m1 : ml_M} {σ : s_S} (g : FM m m1) (h : ∀ k, k < 251 → m 73 k = nI (σ k)) : ∀ k, k < 251 → m1 73 k = nI (σ k) := s_hF h (g.1 73 (by decide) (by decide) (by decide) (by decide))
section DIGM
variable {Ln : Nat} {xs : Nat → Int32} {u : mj_U} {m : ml_M} {lm : ml_J} {Φ : mj_R → mj_W → Prop} {σ : s_S} {n k b p q : Nat} {tx : Nat → Nat} {h : Int64}
theorem sp234 {y1 : Int64} : wp Ln xs 234 0 [.ref 72, .long y1, mj_hole] [] (u, ml_h m (ml_sj lm 72 17 h)) Φ = Φ (.inl none) (u, ml_h m (ml_sj lm 72 17 (s_mx h y1))) := by
  rw [x234_0, sj_sj, sj_g]
  rfl
theorem sp233_c (h0 : s_ok σ) (hM : ∀ k, k < 251 → m 73 k = nI (σ k)) (hn : m 72 2 = nI n) : ∀ (d k : Nat), k + d = 9 → wp Ln xs 233 14 [.ref 72, .int (nI k)] [] (u, ml_h m (ml_sj lm 72 17 (s_it (dg_c σ n) k h))) Φ = wp Ln xs 233 36 [.ref 72, .int (nI 9)] [] (u, ml_h m (ml_sj lm 72 17 (s_it (dg_c σ n) 9 h))) Φ
  | 0, k, e => by
    obtain rfl : k = 9 := by omega
    rw [x233_14, if_pos (by decide)]
  | d + 1, k, e => by
    have ih := sp233_c h0 hM hn d (k + 1) (by omega)
    rw [x233_14, if_neg (nI_ge (by omega) (by omega)), x233_20, sp215 hM h0 hn (by omega), mk_v, x233_26, sp234, mk_n, x233_30, nI_add]
    exact ih
theorem sp233_s (hM : ∀ k, k < 251 → m 73 k = nI (σ k)) : ∀ (d k : Nat), k + d = 3 → wp Ln xs 233 38 [.ref 72, .int (nI k)] [] (u, ml_h m (ml_sj lm 72 17 (s_it (dg_s σ) k h))) Φ = wp Ln xs 233 62 [.ref 72, .int (nI 3)] [] (u, ml_h m (ml_sj lm 72 17 (s_it (dg_s σ) 3 h))) Φ
  | 0, k, e => by
    obtain rfl : k = 3 := by omega
    rw [x233_38, if_pos (by decide)]
  | d + 1, k, e => by
    have ih := sp233_s hM d (k + 1) (by omega)
    rw [x233_38, if_neg (nI_ge (by omega) (by omega)), x233_43, nI_add, x233_51 (by omega), hM (2 + k) (by omega), sp234, mk_n, x233_56, nI_add]
    exact ih
theorem dg_v_S {σ : s_S} {k : Nat} {h : Int64} : s_it (dg_v σ) (k + 1) h = s_it (dg_v1 σ k) 4 (s_it (dg_v σ) k h) := rfl
theorem dg_v1_S {σ : s_S} {k p : Nat} {h : Int64} : s_it (dg_v1 σ k) (p + 1) h = s_mx (s_it (dg_v1 σ k) p h) (s_vt σ k p).toInt64 := rfl
theorem sp233_v1 (h0 : s_ok σ) (hM : ∀ k, k < 251 → m 73 k = nI (σ k)) (hk : k < s_tot σ) : ∀ (d p : Nat), p + d = 4 → wp Ln xs 233 64 [.ref 72, .int (nI (4 * k + p))] [] (u, ml_h m (ml_sj lm 72 17 (s_it (dg_v1 σ k) p h))) Φ = wp Ln xs 233 64 [.ref 72, .int (nI (4 * k + 4))] [] (u, ml_h m (ml_sj lm 72 17 (s_it (dg_v1 σ k) 4 h))) Φ
  | 0, p, e => by
    obtain rfl : p = 4 := by omega
    rfl
  | d + 1, p, e => by
    have hT := s_tot_le h0
    have ih := sp233_v1 h0 hM hk d (p + 1) (by omega)
    rw [dg_v1_S] at ih
    rw [x233_64, sp158 hM h0.1, mk_v, x233_70, pk_mul, if_neg (nI_ge (by omega) (by omega)), x233_74, pk_div (by omega) (by decide) (by decide), pk_mul, pk_sub (by omega), show (4 * k + p) / 4 = k by omega, show 4 * k + p - k * 4 = p by omega, sp203 hM h0 hk (by omega), mk_v, x233_85, sp234, mk_n, x233_89, nI_add]
    exact ih
theorem sp233_v (h0 : s_ok σ) (hM : ∀ k, k < 251 → m 73 k = nI (σ k)) : ∀ (d k : Nat), k + d = s_tot σ → wp Ln xs 233 64 [.ref 72, .int (nI (4 * k))] [] (u, ml_h m (ml_sj lm 72 17 (s_it (dg_v σ) k h))) Φ = wp Ln xs 233 95 [.ref 72, .int (nI (4 * s_tot σ))] [] (u, ml_h m (ml_sj lm 72 17 (s_it (dg_v σ) (s_tot σ) h))) Φ
  | 0, k, e => by
    have hT := s_tot_le h0
    obtain rfl : k = s_tot σ := by omega
    rw [x233_64, sp158 hM h0.1, mk_v, x233_70, pk_mul, if_pos (nI_le (by omega) (by omega))]
  | d + 1, k, e => by
    have hT := s_tot_le h0
    have ih := sp233_v h0 hM d (k + 1) (by omega)
    have e1 := sp233_v1 (Ln := Ln) (xs := xs) (u := u) (lm := lm) (Φ := Φ) (h := s_it (dg_v σ) k h) h0 hM (show k < s_tot σ by omega) 4 0 (by omega)
    rw [s_it_0] at e1
    rw [dg_v_S] at ih
    exact e1.trans ih
theorem sp235_1 (h0 : s_ok σ) (hM : ∀ k, k < 251 → m 73 k = nI (σ k)) (hb : b < σ 0) : ∀ (d p : Nat), p + d = 10 → wp Ln xs 235 2 [.ref 72, .int (nI b), .int (nI p)] [] (u, ml_h m (ml_sj lm 72 17 (s_it (dg_b1 σ b) p h))) Φ = wp Ln xs 235 25 [.ref 72, .int (nI b), .int (nI 10)] [] (u, ml_h m (ml_sj lm 72 17 (s_it (dg_b1 σ b) 10 h))) Φ
  | 0, p, e => by
    obtain rfl : p = 10 := by omega
    rw [x235_2, if_pos (by decide)]
  | d + 1, p, e => by
    have ih := sp235_1 h0 hM hb d (p + 1) (by omega)
    rw [x235_2, if_neg (nI_ge (by omega) (by omega)), x235_8, sp206 hM h0 hb (by omega), mk_v, x235_15, sp234, mk_n, x235_19, nI_add]
    exact ih
theorem dg_b2_S {σ : s_S} {b p : Nat} {h : Int64} : s_it (dg_b2 σ b) (p + 1) h = s_mx (s_it (dg_b2 σ b) p h) (nI (s_sz (s_fv σ (s_sum (s_len σ) b)) (s_len σ b) p)).toInt64 := rfl
theorem sp235_2 (h0 : s_ok σ) (hM : ∀ k, k < 251 → m 73 k = nI (σ k)) (hb : b < σ 0) : ∀ (d p : Nat), p + d = 5 → wp Ln xs 235 27 [.ref 72, .int (nI b), .int (nI p)] [] (u, ml_h m (ml_sj lm 72 17 (s_it (dg_b2 σ b) p h))) Φ = wp Ln xs 235 62 [.ref 72, .int (nI b), .int (nI 5)] [] (u, ml_h m (ml_sj lm 72 17 (s_it (dg_b2 σ b) 5 h))) Φ
  | 0, p, e => by
    obtain rfl : p = 5 := by omega
    rw [x235_27, if_pos (by decide)]
  | d + 1, p, e => by
    have ih := sp235_2 h0 hM hb d (p + 1) (by omega)
    have hT := s_tot_le h0
    have k0 := h0.1
    have l := h0.2.2.1 b hb
    have hend := s_end_le hb
    have hv : ∀ i, i < s_len σ b → s_fv σ (s_sum (s_len σ) b) i ≤ 999 := s_blf_le (s_oke_of (fun _ => False) h0) hb
    have e7 : m 73 (7 + b) = nI (s_len σ b) := hM (7 + b) (by omega)
    rw [dg_b2_S] at ih
    rw [x235_27, if_neg (nI_ge (by omega) (by omega)), x235_32, sp159 hM (by omega), mk_v, x235_40, nI_add, x235_48 (by omega), e7, sp164 hM (by omega) (by omega) (by omega) hv (by omega), mk_v, x235_52, sp234, mk_n, x235_56, nI_add]
    exact ih
theorem dg_b3_S {σ : s_S} {b p : Nat} {h : Int64} : s_it (dg_b3 σ b) (p + 1) h = s_mx (s_it (dg_b3 σ b) p h) (nI ((s_bits σ b).2 p)).toInt64 := rfl
theorem sp235_3 (h0 : s_ok σ) (hb : b < σ 0) (hB : RD m (s_bits σ b)) : ∀ (d p : Nat), p + d = (s_bits σ b).1 → wp Ln xs 235 69 [.ref 72, .int (nI b), .int (nI p)] [] (u, ml_h m (ml_sj lm 72 17 (s_it (dg_b3 σ b) p h))) Φ = wp Ln xs 235 94 [.ref 72, .int (nI b), .int (nI (s_bits σ b).1)] [] (u, ml_h m (ml_sj lm 72 17 (s_it (dg_b3 σ b) (s_bits σ b).1 h))) Φ
  | 0, p, e => by
    have hl := s_bits_le h0 hb
    obtain rfl : p = (s_bits σ b).1 := by omega
    rw [x235_69, hB.1, if_pos (nI_le (Nat.le_refl _) (by omega))]
  | d + 1, p, e => by
    have ih := sp235_3 h0 hb hB d (p + 1) (by omega)
    have hl := s_bits_le h0 hb
    rw [dg_b3_S] at ih
    rw [x235_69, hB.1, if_neg (nI_ge (by omega) (by omega)), x235_77, x235_83 (by omega), hB.2 p (by omega), sp234, mk_n, x235_88, nI_add]
    exact ih
theorem FM_B {m m' : ml_M} (h : FB m m') : FM m m' := ⟨fun a h1 h2 _ _ => h.1 a h1 h2, fun k _ h2 => h.2 k h2⟩
theorem sp235 (h0 : s_ok σ) (hM : ∀ k, k < 251 → m 73 k = nI (σ k)) (hb : b < σ 0) : ∃ m', FB m m' ∧ ∀ Φ : mj_R → mj_W → Prop, wp Ln xs 235 0 [.ref 72, .int (nI b), mj_hole] [] (u, ml_h m (ml_sj lm 72 17 (s_it (dg_b σ) b h))) Φ = Φ (.inl none) (u, ml_h m' (ml_sj lm 72 17 (s_it (dg_b σ) (b + 1) h))) := by
  obtain ⟨m1, r1, f1, g1⟩ := sp209 (Ln := Ln) (xs := xs) (u := u) (lm := ml_sj lm 72 17 (s_it (dg_b2 σ b) 5 (s_it (dg_b1 σ b) 10 (s_it (dg_b σ) b h)))) hM h0 hb
  have hM1 := FM_M (FM_B f1) hM
  have e1 := fun Φ => sp235_1 (Ln := Ln) (xs := xs) (u := u) (lm := lm) (Φ := Φ) (h := s_it (dg_b σ) b h) h0 hM hb 10 0 (by omega)
  have e2 := fun Φ => sp235_2 (Ln := Ln) (xs := xs) (u := u) (lm := lm) (Φ := Φ) (h := s_it (dg_b1 σ b) 10 (s_it (dg_b σ) b h)) h0 hM hb 5 0 (by omega)
  have e3 := fun Φ => sp235_3 (Ln := Ln) (xs := xs) (u := u) (lm := lm) (Φ := Φ) (h := s_it (dg_b2 σ b) 5 (s_it (dg_b1 σ b) 10 (s_it (dg_b σ) b h))) h0 hb r1 (s_bits σ b).1 0 (by omega)
  rw [s_it_0] at e1 e2 e3
  refine ⟨m1, f1, fun Φ => ?_⟩
  rw [x235_0, e1, x235_25, e2, x235_62, g1, mk_n, x235_67, e3, x235_94, sp225 hM1 h0 hb, mk_v, x235_100, sp234, mk_n, x235_104, dg_b_S]
theorem sp233_b (h0 : s_ok σ) : ∀ (d b : Nat) (m : ml_M), b + d = σ 0 → (∀ k, k < 251 → m 73 k = nI (σ k)) → ∃ m', FB m m' ∧ ∀ Φ : mj_R → mj_W → Prop, wp Ln xs 233 97 [.ref 72, .int (nI b)] [] (u, ml_h m (ml_sj lm 72 17 (s_it (dg_b σ) b h))) Φ = wp Ln xs 233 118 [.ref 72, .int (nI (σ 0))] [] (u, ml_h m' (ml_sj lm 72 17 (s_it (dg_b σ) (σ 0) h))) Φ
  | 0, b, m, e, hM => by
    have k0 := h0.1
    obtain rfl : b = σ 0 := by omega
    exact ⟨m, ⟨fun _ _ _ => rfl, fun _ _ => rfl⟩, fun Φ => by rw [x233_97, hM 0 (by decide), if_pos (nI_le (Nat.le_refl _) (by omega))]⟩
  | d + 1, b, m, e, hM => by
    have k0 := h0.1
    obtain ⟨m1, f1, g1⟩ := sp235 (Ln := Ln) (xs := xs) (u := u) (lm := lm) (h := h) h0 hM (show b < σ 0 by omega)
    obtain ⟨m2, f2, g2⟩ := sp233_b h0 d (b + 1) m1 (by omega) (FM_M (FM_B f1) hM)
    refine ⟨m2, ⟨fun a h1 h2 => (f2.1 a h1 h2).trans (f1.1 a h1 h2), fun k h1 => (f2.2 k h1).trans (f1.2 k h1)⟩, fun Φ => ?_⟩
    rw [x233_97, hM 0 (by decide), if_neg (nI_ge (by omega) (by omega)), x233_107, g1, mk_n, x233_112, nI_add]
    exact g2 Φ
theorem dg_m1_S {σ : s_S} {p q w : Nat} {h : Int64} : s_it (dg_m1 σ p q) (w + 1) h = s_mx (s_it (dg_m1 σ p q) w h) (s_mt σ p q w).toInt64 := rfl
theorem sp236_l (h0 : s_ok σ) (hM : ∀ k, k < 251 → m 73 k = nI (σ k)) (hp : p ≤ 999) (hq : q ≤ 999) : ∀ (d w : Nat), w + d = 4 → wp Ln xs 236 2 [.ref 72, .int (nI p), .int (nI q), .int (nI w)] [] (u, ml_h m (ml_sj lm 72 17 (s_it (dg_m1 σ p q) w h))) Φ = Φ (.inl none) (u, ml_h m (ml_sj lm 72 17 (s_it (dg_m1 σ p q) 4 h)))
  | 0, w, e => by
    obtain rfl : w = 4 := by omega
    rw [x236_2, if_pos (by decide), x236_25]
  | d + 1, w, e => by
    have ih := sp236_l h0 hM hp hq d (w + 1) (by omega)
    rw [dg_m1_S] at ih
    rw [x236_2, if_neg (nI_ge (by omega) (by omega)), x236_7, sp221 hM h0 hp hq (by omega), mk_v, x236_15, sp234, mk_n, x236_19, nI_add]
    exact ih
theorem sp236 (h0 : s_ok σ) (hM : ∀ k, k < 251 → m 73 k = nI (σ k)) (hp : p ≤ 999) (hq : q ≤ 999) : wp Ln xs 236 0 [.ref 72, .int (nI p), .int (nI q), mj_hole] [] (u, ml_h m (ml_sj lm 72 17 h)) Φ = Φ (.inl none) (u, ml_h m (ml_sj lm 72 17 (s_it (dg_m1 σ p q) 4 h))) := by
  have e1 := sp236_l (Ln := Ln) (xs := xs) (u := u) (lm := lm) (Φ := Φ) (h := h) h0 hM hp hq 4 0 (by omega)
  rw [s_it_0] at e1
  rw [x236_0]
  exact e1
theorem dg_l1_S {σ : s_S} {w : Nat} {h : Int64} : s_it (dg_l1 σ) (w + 1) h = s_mx (s_it (dg_l1 σ) w h) (nI (s_lt σ w)).toInt64 := rfl
theorem sp233_l (h0 : s_ok σ) : ∀ (d w : Nat) (m : ml_M), w + d = 3 → (∀ k, k < 251 → m 73 k = nI (σ k)) → m 79 0 = nI 0 → m 80 0 = nI 0 → ∃ m', m' 79 0 = nI 0 ∧ m' 80 0 = nI 0 ∧ (∀ a, a ≠ 79 → a ≠ 80 → m' a = m a) ∧ ∀ Φ : mj_R → mj_W → Prop, wp Ln xs 233 144 [.ref 72, .int (nI w)] [] (u, ml_h m (ml_sj lm 72 17 (s_it (dg_l1 σ) w h))) Φ = wp Ln xs 233 165 [.ref 72, .int (nI 3)] [] (u, ml_h m' (ml_sj lm 72 17 (s_it (dg_l1 σ) 3 h))) Φ
  | 0, w, m, e, hM, h1, h2 => by
    obtain rfl : w = 3 := by omega
    exact ⟨m, h1, h2, fun _ _ _ => rfl, fun Φ => by rw [x233_144, if_pos (by decide)]⟩
  | d + 1, w, m, e, hM, h1, h2 => by
    obtain ⟨m1, a1, a2, f1, g1⟩ := sp227 (Ln := Ln) (xs := xs) (u := u) (lm := ml_sj lm 72 17 (s_it (dg_l1 σ) w h)) hM h0 h1 h2 (show w ≤ 2 by omega)
    obtain ⟨m2, b1, b2, f2, g2⟩ := sp233_l h0 d (w + 1) m1 (by omega) (s_hF hM (f1 73 (by decide) (by decide))) a1 a2
    refine ⟨m2, b1, b2, fun a c1 c2 => (f2 a c1 c2).trans (f1 a c1 c2), fun Φ => ?_⟩
    rw [dg_l1_S] at g2
    rw [x233_144, if_neg (nI_ge (by omega) (by omega)), x233_149, g1, mk_v, x233_155, sp234, mk_n, x233_159, nI_add]
    exact g2 Φ
theorem dg_x_S {tx : Nat → Nat} {k : Nat} {h : Int64} : s_it (dg_x tx) (k + 1) h = s_mx (s_it (dg_x tx) k h) (nI (tx k)).toInt64 := rfl
theorem sp233_x {tl : Nat} (h1 : m 72 7 = nI tl) (h2 : tl ≤ 60) (h3 : ∀ k, k < tl → m 77 k = nI (tx k)) : ∀ (d k : Nat), k + d = tl → wp Ln xs 233 215 [.ref 72, .int (nI k)] [] (u, ml_h m (ml_sj lm 72 17 (s_it (dg_x tx) k h))) Φ = Φ (.inl (some (.long (s_it (dg_x tx) tl h)))) (u, ml_h m (ml_sj lm 72 17 (s_it (dg_x tx) tl h)))
  | 0, k, e => by
    obtain rfl : k = tl := by omega
    rw [x233_215, h1, if_pos (nI_le (Nat.le_refl _) (by omega)), x233_240, sj_g]
  | d + 1, k, e => by
    have ih := sp233_x h1 h2 h3 d (k + 1) (by omega)
    rw [dg_x_S] at ih
    rw [x233_215, h1, if_neg (nI_ge (by omega) (by omega)), x233_223, x233_229 (by omega), h3 k (by omega), sp234, mk_n, x233_234, nI_add]
    exact ih
theorem sp233 {ss : Nat → s_S} {τ : s_S} {t tl : Nat} (h0 : s_ok σ) (hM : ∀ k, k < 251 → m 73 k = nI (σ k)) (hy : RepY m n ss t τ tl tx) (ht1 : t ≤ 1) (h2 : tl ≤ 60) (z1 : m 79 0 = nI 0) (z2 : m 80 0 = nI 0) : ∃ m', FM m m' ∧ m' 79 0 = nI 0 ∧ m' 80 0 = nI 0 ∧ ∀ Φ : mj_R → mj_W → Prop, wp Ln xs 233 0 [.ref 72, mj_hole] [] (u, ml_h m lm) Φ = Φ (.inl (some (.long (s_dg σ n t tl tx)))) (u, ml_h m' (ml_sj lm 72 17 (s_dg σ n t tl tx))) := by
  obtain ⟨y0, y1, y2, y3, y4, y5, y6⟩ := hy
  have F0 : FM m (ml_s m 72 8 (nI 0)) := ⟨fun a k1 _ _ _ => by rw [ml_s_row k1], fun k k1 _ => by rw [ml_s_k k1]⟩
  have M0 := FM_M F0 hM
  have e1 := fun Φ => sp233_c (Ln := Ln) (xs := xs) (u := u) (lm := lm) (Φ := Φ) (h := 3631) (n := n) h0 M0 (by rw [F0.2 2 (by decide) (by decide)]; exact y1) 9 0 (by omega)
  have e2 := fun Φ => sp233_s (Ln := Ln) (xs := xs) (u := u) (lm := lm) (Φ := Φ) (h := s_it (dg_c σ n) 9 3631) M0 3 0 (by omega)
  have e3 := fun Φ => sp233_v (Ln := Ln) (xs := xs) (u := u) (lm := lm) (Φ := Φ) (h := s_it (dg_s σ) 3 (s_it (dg_c σ n) 9 3631)) h0 M0 (s_tot σ) 0 (by omega)
  obtain ⟨m1, f1, e4⟩ := sp233_b (Ln := Ln) (xs := xs) (u := u) (lm := lm) (h := s_it (dg_v σ) (s_tot σ) (s_it (dg_s σ) 3 (s_it (dg_c σ n) 9 3631))) h0 (σ 0) 0 (ml_s m 72 8 (nI 0)) (by omega) M0
  have F1 := FM_t F0 (FM_B f1)
  have M1 := FM_M F1 hM
  obtain ⟨m2, a1, a2, f2, e5⟩ := sp233_l (Ln := Ln) (xs := xs) (u := u) (lm := lm) (h := s_it (dg_m1 σ 0 999) 4 (s_it (dg_m1 σ 100 499) 4 (s_it (dg_m1 σ 0 99) 4 (s_it (dg_b σ) (σ 0) (s_it (dg_v σ) (s_tot σ) (s_it (dg_s σ) 3 (s_it (dg_c σ n) 9 3631))))))) h0 3 0 m1 (by omega) M1 (by rw [f1.1 79 (by decide) (by decide), ml_s_a (by decide)]; exact z1) (by rw [f1.1 80 (by decide) (by decide), ml_s_a (by decide)]; exact z2)
  have F2 : FM m m2 := FM_t F1 ⟨fun a _ _ k3 k4 => f2 a k3 k4, fun k _ _ => by rw [f2 72 (by decide) (by decide)]⟩
  have M2 := FM_M F2 hM
  have c4 : m2 72 4 = nI t := by rw [F2.2 4 (by decide) (by decide)]; exact y3
  have c7 : m2 72 7 = nI tl := by rw [F2.2 7 (by decide) (by decide)]; exact y5
  have c77 : ∀ k, k < tl → m2 77 k = nI (tx k) := by rw [F2.1 77 (by decide) (by decide) (by decide) (by decide)]; exact y6
  rw [s_it_0] at e1 e2 e3 e4 e5
  refine ⟨m2, F2, a1, a2, fun Φ => ?_⟩
  obtain ⟨c, q, e, q1, q2, q3⟩ := s_shb_eq h0
  have hmean : ∀ (lm : ml_J) (Φ : mj_R → mj_W → Prop), wp Ln xs 238 0 [.float (s_mnv σ), mj_hole, mj_hole] [] (u, ml_h m2 lm) Φ = Φ (.inl (some (.int (s_mnb σ)))) (u, ml_h m2 lm) := fun lm Φ => by
    by_cases k : s_tot σ = 0
    · rw [show s_mnv σ = FP.fconst0 from if_pos k, sp238_0, show s_mnb σ = nI 0 from if_pos k]
    · obtain ⟨c, q, e, e1, e2, e3⟩ := s_mnb_eq h0 k
      rw [sp238 e e1 e2, e3]
  rw [x233_0, e1, x233_36, e2, x233_62, show nI 0 = nI (4 * 0) from rfl, e3, x233_95, e4, x233_118, sp236 h0 M1 (show 0 ≤ 999 by decide) (show 99 ≤ 999 by decide), mk_n, x233_125, sp236 h0 M1 (show 100 ≤ 999 by decide) (show 499 ≤ 999 by decide), mk_n, x233_134, sp236 h0 M1 (show 0 ≤ 999 by decide) (show 999 ≤ 999 by decide), mk_n, x233_142, e5, x233_165, sp230 h0 M2, mk_v, x233_170, sp237 e q1 q2, mk_v, x233_173, sp234, mk_n, x233_176, sp232 h0 M2, mk_v, x233_181, hmean, mk_v, x233_184, sp234, mk_n, x233_188, c4, ← q3]
  unfold s_dg
  have ex := fun hh => sp233_x (Ln := Ln) (xs := xs) (u := u) (lm := lm) (Φ := Φ) c7 h2 c77 (h := hh) tl 0 (by omega)
  rcases (show t = 0 ∨ t = 1 by omega) with rfl | rfl
  · rw [if_pos rfl, if_pos rfl, x233_200, x233_201, sp234, mk_n, x233_204, c7, sp234, mk_n, x233_213]
    exact ex _
  · rw [if_neg s_10, if_neg (by decide), x233_196, x233_201, sp234, mk_n, x233_204, c7, sp234, mk_n, x233_213]
    exact ex _
end DIGM
