/-! ===== the Model's calls that change ===== -/
theorem RepY_8 {m : ml_M} {n t tl : Nat} {ss : Nat → s_S} {τ : s_S} {tx : Nat → Nat} {v : Int32} (h : RepY m n ss t τ tl tx) : RepY (ml_s m 72 8 v) n ss t τ tl tx := RepY_of h (ml_s_k (by decide)) (ml_s_k (by decide)) (ml_s_k (by decide)) (ml_s_row (by decide)) (ml_s_row (by decide)) (ml_s_row (by decide))
theorem RepY_73 {m m' : ml_M} {n t tl : Nat} {ss : Nat → s_S} {τ : s_S} {tx : Nat → Nat} (h : RepY m n ss t τ tl tx) (e : ∀ a, a ≠ 73 → m' a = m a) : RepY m' n ss t τ tl tx := RepY_of h (by rw [e 72 (by decide)]) (by rw [e 72 (by decide)]) (by rw [e 72 (by decide)]) (e 74 (by decide)) (e 75 (by decide)) (e 77 (by decide))
theorem s_dvi_s {σ : s_S} {st c i : Nat} (h : st ≤ i) : s_upd (s_dvi σ st c i) i (σ (i + c)) = s_dvi σ st c (i + 1) := by
  funext k
  unfold s_upd s_dvi
  by_cases c1 : k = i
  · rw [if_pos c1, if_pos (by omega), c1]
  · rw [if_neg c1]
    by_cases c2 : st ≤ k ∧ k < i
    · rw [if_pos c2, if_pos (by omega)]
    · rw [if_neg c2, if_neg (by omega)]
theorem s_dvi_0 {σ : s_S} {st c : Nat} : s_dvi σ st c st = σ := by
  funext k
  exact if_neg (fun z => by omega)
theorem s_pr2 {x : Int32} {N : Nat} (hN : N < 2 ^ 31) (h : x < nI 0 ∨ nI N ≤ x) : x < nI 0 ∨ nI N - nI 2 < x := by
  rcases h with h | h
  · exact Or.inl h
  · refine Or.inr ?_
    by_cases h0 : N = 0
    · subst h0
      exact Int32.lt_of_lt_of_le (by decide) h
    · by_cases h1 : N = 1
      · subst h1
        exact Int32.lt_of_lt_of_le (by decide) h
      · rw [pk_sub (by omega)]
        exact Int32.lt_of_lt_of_le (nI_lt (by omega) hN) h
section MDE
variable {Ln : Nat} {xs : Nat → Int32} {u : mj_U} {m : ml_M} {lm : ml_J} {Φ : mj_R → mj_W → Prop} {σ τ : s_S} {n t tl v k b p : Nat} {ss : Nat → s_S} {tx : Nat → Nat} {x y : Int32}
theorem sp152_g {p q : Int32} (h1 : ¬ x < p) (h2 : ¬ q < x) : wp Ln xs 152 0 [.int x, .int p, .int q] [] (u, ml_h m lm) Φ = Φ (.inl (some (.int (nI 1)))) (u, ml_h m lm) := by
  rw [x152_0, if_neg h1, x152_5, if_neg h2, x152_10]
theorem sp179_t (hM : ∀ k, k < 251 → m 73 k = nI (σ k)) (h0 : σ 0 ≤ 12) (hb : b < σ 0) : wp Ln xs 179 0 [.ref 72, .int (nI b)] [] (u, ml_h m lm) Φ = Φ (.inl (some (.int (nI 1)))) (u, ml_h m lm) := by
  rw [x179_0, hM 0 (by decide), pk_sub (by omega), sp152_t (Nat.zero_le _) (by omega) (by omega), mk_v, x179_13 rfl]
theorem sp179_f (hM : ∀ k, k < 251 → m 73 k = nI (σ k)) (h0 : σ 0 ≤ 12) (h : x < nI 0 ∨ nI (σ 0) ≤ x) : wp Ln xs 179 0 [.ref 72, .int x] [] (u, ml_h m lm) Φ = Φ (.inl (some (.int (nI 0)))) (u, ml_h m lm) := by
  rw [x179_0, hM 0 (by decide), sp152_f (s_in_pr (by omega) h), mk_v, x179_13 rfl]
theorem sp_save (hM : ∀ k, k < 251 → m 73 k = nI (σ k)) (hy : RepY m n ss t τ tl tx) : ∃ m', (∀ k, k < 251 → m' 73 k = nI (σ k)) ∧ RepY m' (s_nx n) (s_push n ss σ) t τ tl tx ∧ m' 72 8 = nI 0 ∧ (∀ a, a < 72 ∨ 78 < a → m' a = m a) ∧ ∀ Φ : mj_R → mj_W → Prop, wp Ln xs 155 0 [.ref 72, mj_hole] [] (u, ml_h (ml_s m 72 8 (nI 0)) lm) Φ = Φ (.inl none) (u, ml_h m' lm) := by
  have hM0 : ∀ k, k < 251 → ml_s m 72 8 (nI 0) 73 k = nI (σ k) := s_hF hM (ml_s_row (by decide))
  obtain ⟨m1, e73, hy1, h8, fr, e⟩ := sp155 (Ln := Ln) (xs := xs) (u := u) (lm := lm) hM0 (RepY_8 hy)
  exact ⟨m1, s_hF hM0 e73, hy1, by rw [h8, ml_s_s], fun a ha => by rw [fr a (by omega) (by omega), ml_s_row (by omega)], e⟩
theorem sp153_t (hM : ∀ k, k < 251 → m 73 k = nI (σ k)) (h0 : s_ok σ) (hc : s_can σ) : wp Ln xs 153 0 [.ref 72] [] (u, ml_h m lm) Φ = Φ (.inl (some (.int (nI 1)))) (u, ml_h m lm) := by
  have k0 := h0.1
  have k1 := h0.2.1
  have k3 := h0.2.2.2.2.2.2.2.1
  rw [x153_0, hM 1 (by decide), hM 3 (by decide), nI_add]
  by_cases c : σ 1 + 1 < σ 3
  · rw [if_pos (nI_lt c (by omega)), x153_28]
  · rw [if_neg (nI_nlt (by omega) (by omega)), x153_17, hM 0 (by decide), if_neg (nI_ge (hc.resolve_right c) (by decide)), x153_28]
theorem sp153_f (hM : ∀ k, k < 251 → m 73 k = nI (σ k)) (h0 : s_ok σ) (hc : ¬ s_can σ) : wp Ln xs 153 0 [.ref 72] [] (u, ml_h m lm) Φ = Φ (.inl (some (.int (nI 0)))) (u, ml_h m lm) := by
  have k0 := h0.1
  have k1 := h0.2.1
  have k3 := h0.2.2.2.2.2.2.2.1
  have c1 : ¬ σ 0 < 12 := fun z => hc (Or.inl z)
  have c2 : ¬ σ 1 + 1 < σ 3 := fun z => hc (Or.inr z)
  rw [x153_0, hM 1 (by decide), hM 3 (by decide), nI_add, if_neg (nI_nlt (by omega) (by omega)), x153_17, hM 0 (by decide), if_pos (nI_le (by omega) (by omega)), x153_32]
theorem sp150_a (h : x < nI 0 ∨ nI 999 < x) : wp Ln xs 150 0 [.ref 72, .int x] [] (u, ml_h m lm) Φ = Φ (.inl (some (.int (nI 0)))) (u, ml_h (ml_s m 72 8 (nI 1)) lm) := by
  rw [x150_0, sp151_f h, mk_v, x150_5, if_neg (fun z => z rfl), x150_8, x150_24, sp154_e s_10, mk_v, x150_27, if_neg (fun z => z rfl), x150_30]
theorem sp150_s (hM : ∀ k, k < 251 → m 73 k = nI (σ k)) (h0 : s_ok σ) (hv : v ≤ 999) (hc : ¬ s_can σ) : wp Ln xs 150 0 [.ref 72, .int (nI v)] [] (u, ml_h m lm) Φ = Φ (.inl (some (.int (nI 0)))) (u, ml_h (ml_s m 72 8 (nI 2)) lm) := by
  rw [x150_0, sp151_t hv, mk_v, x150_5, if_pos s_10, x150_12, sp153_f hM h0 hc, mk_v, x150_16, if_pos rfl, x150_23, x150_24, sp154_e (by decide), mk_v, x150_27, if_neg (fun z => z rfl), x150_30]
theorem sp150_k (hM : ∀ k, k < 251 → m 73 k = nI (σ k)) (hy : RepY m n ss t τ tl tx) (h0 : s_ok σ) (hv : v ≤ 999) (hc : s_can σ) : ∃ m', (∀ k, k < 251 → m' 73 k = nI (s_put σ v k)) ∧ RepY m' (s_nx n) (s_push n ss σ) t τ tl tx ∧ m' 72 8 = nI 0 ∧ (∀ a, a < 72 ∨ 78 < a → m' a = m a) ∧ ∀ Φ : mj_R → mj_W → Prop, wp Ln xs 150 0 [.ref 72, .int (nI v)] [] (u, ml_h m lm) Φ = Φ (.inl (some (.int (nI (s_tot σ + 1))))) (u, ml_h m' lm) := by
  obtain ⟨m1, hM1, hy1, h81, f1, e1⟩ := sp_save (Ln := Ln) (xs := xs) (u := u) (lm := lm) hM hy
  obtain ⟨m2, hM2, f2, e2⟩ := sp157 (Ln := Ln) (xs := xs) (u := u) (lm := lm) hM1 h0 hv hc
  refine ⟨m2, hM2, RepY_73 hy1 f2, by rw [f2 72 (by decide), h81], fun a ha => by rw [f2 a (by omega), f1 a ha], fun Φ => ?_⟩
  rw [x150_0, sp151_t hv, mk_v, x150_5, if_pos s_10, x150_12, sp153_t hM h0 hc, mk_v, x150_16, if_neg s_10, x150_19, x150_24, sp154_k, mk_v, x150_27, if_pos s_10, x150_32, e1, mk_n, x150_36, e2, mk_n, x150_41, sp158 hM2 (s_put_ok h0 hv hc).1, mk_v, x150_45, s_put_tot h0 hc]
theorem sp174_s (hM : ∀ k, k < 251 → m 73 k = nI (σ k)) (h0 : s_ok σ) (hc : σ 1 = 0 ∨ σ 0 = 12) : wp Ln xs 174 0 [.ref 72] [] (u, ml_h m lm) Φ = Φ (.inl (some (.int (nI 0)))) (u, ml_h (ml_s m 72 8 (nI 1)) lm) := by
  have k1 := h0.2.1
  have : wp Ln xs 174 0 [.ref 72] [] (u, ml_h m lm) Φ = wp Ln xs 174 21 [.ref 72] [.ref 72] (u, ml_h m lm) Φ := by
    rw [x174_0, hM 1 (by decide)]
    by_cases c : σ 1 = 0
    · rw [c, if_pos rfl]
    · rw [if_neg (by rw [nI_eq (by omega) (by decide)]; exact c), x174_10, hM 0 (by decide), hc.resolve_left c, if_neg (fun z => z rfl)]
  rw [this, x174_21, x174_26, sp154_e s_10, mk_v, x174_29, if_neg (fun z => z rfl), x174_32]
theorem sp174_k (hM : ∀ k, k < 251 → m 73 k = nI (σ k)) (hy : RepY m n ss t τ tl tx) (h0 : s_ok σ) (h1 : 1 ≤ σ 1) (hc : σ 0 < 12) : ∃ m', (∀ k, k < 251 → m' 73 k = nI (s_ct σ k)) ∧ RepY m' (s_nx n) (s_push n ss σ) t τ tl tx ∧ m' 72 8 = nI 0 ∧ (∀ a, a < 72 ∨ 78 < a → m' a = m a) ∧ ∀ Φ : mj_R → mj_W → Prop, wp Ln xs 174 0 [.ref 72] [] (u, ml_h m lm) Φ = Φ (.inl (some (.int (nI (s_frm (s_ct σ) (σ 0)))))) (u, ml_h m' lm) := by
  have k1 := h0.2.1
  obtain ⟨m1, hM1, hy1, h81, f1, e1⟩ := sp_save (Ln := Ln) (xs := xs) (u := u) (lm := lm) hM hy
  obtain ⟨m2, hM2, f2, e2⟩ := sp160 (Ln := Ln) (xs := xs) (u := u) (lm := lm) hM1 (s_ok_6 h0) h1 hc
  have q0 : s_ct σ 0 = σ 0 + 1 := by
    unfold s_ct
    rw [s_wa_o (by decide) (by omega) (by omega), s_ctp_0]
  refine ⟨m2, hM2, RepY_73 hy1 f2, by rw [f2 72 (by decide), h81], fun a ha => by rw [f2 a (by omega), f1 a ha], fun Φ => ?_⟩
  rw [x174_0, hM 1 (by decide), if_neg (by rw [nI_eq (by omega) (by decide)]; omega), x174_10, hM 0 (by decide), if_pos (by rw [nI_eq (by omega) (by decide)]; omega), x174_25, x174_26, sp154_k, mk_v, x174_29, if_pos s_10, x174_34, e1, mk_n, x174_38, e2, mk_n, x174_42, hM2 0 (by decide), q0, nI_add, pk_sub (by omega), show 19 + (σ 0 + 1) - 1 = 19 + σ 0 by omega, x174_57 (by omega), hM2 _ (by omega)]
  rfl
theorem sp175_i (hM : ∀ k, k < 251 → m 73 k = nI (σ k)) (h0 : s_ok σ) (h : x < nI 0 ∨ nI (s_tot σ) ≤ x) : wp Ln xs 175 0 [.ref 72, .int x, .int y] [] (u, ml_h m lm) Φ = Φ (.inl (some (.int (nI 0)))) (u, ml_h (ml_s m 72 8 (nI 1)) lm) := by
  have hT := s_tot_le h0
  rw [x175_0, sp158 hM h0.1, mk_v, x175_7, sp152_f (s_in_pr (by omega) h), mk_v, x175_12, if_neg (fun z => z rfl), x175_15, x175_31, sp154_e s_10, mk_v, x175_34, if_neg (fun z => z rfl), x175_37]
theorem sp175_a (hM : ∀ k, k < 251 → m 73 k = nI (σ k)) (h0 : s_ok σ) (hk : k < s_tot σ) (h : y < nI 0 ∨ nI 999 < y) : wp Ln xs 175 0 [.ref 72, .int (nI k), .int y] [] (u, ml_h m lm) Φ = Φ (.inl (some (.int (nI 0)))) (u, ml_h (ml_s m 72 8 (nI 2)) lm) := by
  have hT := s_tot_le h0
  rw [x175_0, sp158 hM h0.1, mk_v, x175_7, pk_sub (by omega), sp152_t (Nat.zero_le _) (by omega) (by omega), mk_v, x175_12, if_pos s_10, x175_19, sp151_f h, mk_v, x175_23, if_neg (fun z => z rfl), x175_26, x175_31, sp154_e (by decide), mk_v, x175_34, if_neg (fun z => z rfl), x175_37]
theorem sp175_k (hM : ∀ k, k < 251 → m 73 k = nI (σ k)) (hy : RepY m n ss t τ tl tx) (h0 : s_ok σ) (hk : k < s_tot σ) (hv : v ≤ 999) : ∃ m', (∀ j, j < 251 → m' 73 j = nI (s_rp σ k v j)) ∧ RepY m' (s_nx n) (s_push n ss σ) t τ tl tx ∧ m' 72 8 = nI 0 ∧ (∀ a, a < 72 ∨ 78 < a → m' a = m a) ∧ ∀ Φ : mj_R → mj_W → Prop, wp Ln xs 175 0 [.ref 72, .int (nI k), .int (nI v)] [] (u, ml_h m lm) Φ = Φ (.inl (some (.int (nI (s_oc σ k v))))) (u, ml_h m' lm) := by
  have hT := s_tot_le h0
  obtain ⟨m1, hM1, hy1, h81, f1, e1⟩ := sp_save (Ln := Ln) (xs := xs) (u := u) (lm := lm) hM hy
  obtain ⟨m2, hM2, f2, e2⟩ := sp176 (Ln := Ln) (xs := xs) (u := u) (lm := lm) hM1 h0 hk hv
  refine ⟨m2, hM2, RepY_73 hy1 f2, by rw [f2 72 (by decide), h81], fun a ha => by rw [f2 a (by omega), f1 a ha], fun Φ => ?_⟩
  rw [x175_0, sp158 hM h0.1, mk_v, x175_7, pk_sub (by omega), sp152_t (Nat.zero_le _) (by omega) (by omega), mk_v, x175_12, if_pos s_10, x175_19, sp151_t hv, mk_v, x175_23, if_pos s_10, x175_30, x175_31, sp154_k, mk_v, x175_34, if_pos s_10, x175_39, e1, mk_n, x175_43, e2, mk_v, x175_49]
theorem sp178_i (hM : ∀ k, k < 251 → m 73 k = nI (σ k)) (h0 : s_ok σ) (h : x < nI 0 ∨ nI (σ 0) ≤ x) : wp Ln xs 178 0 [.ref 72, .int x, mj_hole] [] (u, ml_h m lm) Φ = Φ (.inl (some (.int (nI 0)))) (u, ml_h (ml_s m 72 8 (nI 1)) lm) := by
  rw [x178_0, sp179_f hM h0.1 h, mk_v, x178_6, if_pos rfl, x178_13, x178_14, sp154_e s_10, mk_v, x178_17, if_neg (fun z => z rfl), x178_20]
theorem sp178_k (hM : ∀ k, k < 251 → m 73 k = nI (σ k)) (hy : RepY m n ss t τ tl tx) (h0 : s_ok σ) (hb : b < σ 0) : ∃ m', (∀ j, j < 251 → m' 73 j = nI (s_wa σ b j)) ∧ RepY m' (s_nx n) (s_push n ss σ) t τ tl tx ∧ m' 72 8 = nI 0 ∧ (∀ a, a < 72 ∨ 78 < a → m' a = m a) ∧ ∀ Φ : mj_R → mj_W → Prop, wp Ln xs 178 0 [.ref 72, .int (nI b), mj_hole] [] (u, ml_h m lm) Φ = Φ (.inl (some (.int (nI (s_rom σ b) - nI (s_rom (s_wa σ b) b))))) (u, ml_h m' lm) := by
  have k0 := h0.1
  obtain ⟨m1, hM1, hy1, h81, f1, e1⟩ := sp_save (Ln := Ln) (xs := xs) (u := u) (lm := lm) hM hy
  obtain ⟨m2, hM2, f2, e2⟩ := sp161 (Ln := Ln) (xs := xs) (u := u) (lm := lm) hM1 (s_oke_of (fun _ => False) h0) hb
  refine ⟨m2, hM2, RepY_73 hy1 f2, by rw [f2 72 (by decide), h81], fun a ha => by rw [f2 a (by omega), f1 a ha], fun Φ => ?_⟩
  rw [x178_0, sp179_t hM k0 hb, mk_v, x178_6, if_neg s_10, x178_9, x178_14, sp154_k, mk_v, x178_17, if_pos s_10, x178_22, e1, mk_n, x178_26, nI_add, x178_34 (by omega), hM1 _ (by omega), e2, mk_n, x178_41, nI_add, x178_50 (by omega), hM2 _ (by omega)]
  rfl
theorem sp180_i (hM : ∀ k, k < 251 → m 73 k = nI (σ k)) (h : x < nI 0 ∨ nI (σ 0) - nI 2 < x) : wp Ln xs 180 0 [.ref 72, .int x, mj_hole] [] (u, ml_h m lm) Φ = Φ (.inl (some (.int (nI 0)))) (u, ml_h (ml_s m 72 8 (nI 1)) lm) := by
  rw [x180_0, hM 0 (by decide), sp152_f h, mk_v, x180_13, if_neg (fun z => z rfl), x180_19, x180_54, sp154_e s_10, mk_v, x180_57, if_neg (fun z => z rfl), x180_60]
theorem sp180_go (hM : ∀ k, k < 251 → m 73 k = nI (σ k)) (h0 : s_ok σ) (hb : b + 1 < σ 0) : wp Ln xs 180 0 [.ref 72, .int (nI b), mj_hole] [] (u, ml_h m lm) Φ = if s_len σ b + s_len σ (b + 1) ≤ 16 then wp Ln xs 180 53 [.ref 72, .int (nI b), .int (nI 1)] [.ref 72] (u, ml_h m lm) Φ else wp Ln xs 180 49 [.ref 72, .int (nI b), .int (nI 1)] [.ref 72] (u, ml_h m lm) Φ := by
  have k0 := h0.1
  have l1 := h0.2.2.1 b (by omega)
  have l2 := h0.2.2.1 (b + 1) hb
  have e1 : m 73 (7 + b) = nI (s_len σ b) := hM _ (by omega)
  have e2 : m 73 (7 + b + 1) = nI (s_len σ (b + 1)) := hM _ (by omega)
  rw [x180_0, hM 0 (by decide), pk_sub (by omega), sp152_t (Nat.zero_le _) (by omega) (by omega), mk_v, x180_13, if_pos s_10, x180_23, nI_add, x180_31 (by omega), e1, nI_add, nI_add, x180_42 (by omega), e2, nI_add]
  by_cases c : s_len σ b + s_len σ (b + 1) ≤ 16
  · rw [if_pos c, if_pos (nI_le c (by decide))]
  · rw [if_neg c, if_neg (nI_ge (by omega) (by omega))]
theorem sp180_s (hM : ∀ k, k < 251 → m 73 k = nI (σ k)) (h0 : s_ok σ) (hb : b + 1 < σ 0) (hl : 16 < s_len σ b + s_len σ (b + 1)) : wp Ln xs 180 0 [.ref 72, .int (nI b), mj_hole] [] (u, ml_h m lm) Φ = Φ (.inl (some (.int (nI 0)))) (u, ml_h (ml_s m 72 8 (nI 2)) lm) := by
  rw [sp180_go hM h0 hb, if_neg (by omega), x180_49, x180_54, sp154_e (by decide), mk_v, x180_57, if_neg (fun z => z rfl), x180_60]
theorem sp180_k (hM : ∀ k, k < 251 → m 73 k = nI (σ k)) (hy : RepY m n ss t τ tl tx) (h0 : s_ok σ) (hb : b + 1 < σ 0) (hl : s_len σ b + s_len σ (b + 1) ≤ 16) : ∃ m', (∀ j, j < 251 → m' 73 j = nI (s_jn σ b j)) ∧ RepY m' (s_nx n) (s_push n ss σ) t τ tl tx ∧ m' 72 8 = nI 0 ∧ (∀ a, a < 72 ∨ 78 < a → m' a = m a) ∧ ∀ Φ : mj_R → mj_W → Prop, wp Ln xs 180 0 [.ref 72, .int (nI b), mj_hole] [] (u, ml_h m lm) Φ = Φ (.inl (some (.int (nI (s_frm (s_jn σ b) b))))) (u, ml_h m' lm) := by
  have k0 := h0.1
  obtain ⟨m1, hM1, hy1, h81, f1, e1⟩ := sp_save (Ln := Ln) (xs := xs) (u := u) (lm := lm) hM hy
  have hM2 := s_hU (i := 7 + b + 1) (v := σ (7 + b + 1) + σ (7 + b)) hM1
  obtain ⟨m3, hM3, f3, e3⟩ := sp181 (Ln := Ln) (xs := xs) (u := u) (lm := lm) (b := b) hM2 (by rw [s_upd_n (by omega)]; exact k0) (by rw [s_upd_n (by omega)]; omega)
  have hM3' : ∀ k, k < 251 → m3 73 k = nI (s_jp σ b k) := hM3
  obtain ⟨m4, hM4, f4, e4⟩ := sp161 (Ln := Ln) (xs := xs) (u := u) (lm := lm) (b := b) hM3' (s_jp_ok h0 hb hl) (by rw [s_jp_0]; omega)
  have q : ∀ a, a ≠ 73 → m4 a = m1 a := fun a ha => by rw [f4 a ha, f3 a ha, ml_s_row ha]
  refine ⟨m4, hM4, RepY_73 hy1 q, by rw [q 72 (by decide), h81], fun a ha => by rw [q a (by omega), f1 a ha], fun Φ => ?_⟩
  rw [sp180_go hM h0 hb, if_pos hl, x180_53, x180_54, sp154_k, mk_v, x180_57, if_pos s_10, x180_62, e1, mk_n, x180_66, nI_add, nI_add, x180_77 (by omega), hM1 _ (by omega), nI_add, x180_86 (by omega), hM1 _ (by omega), nI_add, x180_88 (by omega), e3, mk_n, x180_94, e4, mk_n, x180_99, nI_add, x180_107 (by omega), hM4 _ (by omega)]
  rfl
theorem sp182_i (hM : ∀ k, k < 251 → m 73 k = nI (σ k)) (h0 : s_ok σ) (h : x < nI 0 ∨ nI (σ 0) ≤ x) : wp Ln xs 182 0 [.ref 72, .int x, .int y, mj_hole, mj_hole] [] (u, ml_h m lm) Φ = Φ (.inl (some (.int (nI 0)))) (u, ml_h (ml_s m 72 8 (nI 1)) lm) := by
  rw [x182_0, sp179_f hM h0.1 h, mk_v, x182_5, if_pos rfl, x182_31, x182_32, if_neg (fun z => z rfl), x182_38, x182_58, sp154_e s_10, mk_v, x182_61, if_neg (fun z => z rfl), x182_64]
theorem sp182_j (hM : ∀ k, k < 251 → m 73 k = nI (σ k)) (h0 : s_ok σ) (hb : b < σ 0) (h : y < nI 1 ∨ nI (s_len σ b) ≤ y) : wp Ln xs 182 0 [.ref 72, .int (nI b), .int y, mj_hole, mj_hole] [] (u, ml_h m lm) Φ = Φ (.inl (some (.int (nI 0)))) (u, ml_h (ml_s m 72 8 (nI 1)) lm) := by
  have k0 := h0.1
  have l1 := h0.2.2.1 b hb
  have e1 : m 73 (7 + b) = nI (s_len σ b) := hM _ (by omega)
  rw [x182_0, sp179_t hM k0 hb, mk_v, x182_5, if_neg s_10, x182_8, nI_add, x182_18 (by omega), e1, sp152_f (h.elim Or.inl (fun z => Or.inr (s_pr (by omega) z))), mk_v, x182_24, if_pos rfl, x182_31, x182_32, if_neg (fun z => z rfl), x182_38, x182_58, sp154_e s_10, mk_v, x182_61, if_neg (fun z => z rfl), x182_64]
theorem sp182_go (hM : ∀ k, k < 251 → m 73 k = nI (σ k)) (h0 : s_ok σ) (hb : b < σ 0) (h1 : 1 ≤ p) (h2 : p < s_len σ b) : wp Ln xs 182 0 [.ref 72, .int (nI b), .int (nI p), mj_hole, mj_hole] [] (u, ml_h m lm) Φ = wp Ln xs 182 42 [.ref 72, .int (nI b), .int (nI p), .int (nI 1), mj_hole] [.ref 72] (u, ml_h m lm) Φ := by
  have k0 := h0.1
  have l1 := h0.2.2.1 b hb
  have e1 : m 73 (7 + b) = nI (s_len σ b) := hM _ (by omega)
  rw [x182_0, sp179_t hM k0 hb, mk_v, x182_5, if_neg s_10, x182_8, nI_add, x182_18 (by omega), e1, pk_sub (by omega), sp152_t h1 (by omega) (by omega), mk_v, x182_24, if_neg s_10, x182_27, x182_32, if_pos s_10]
theorem sp182_s (hM : ∀ k, k < 251 → m 73 k = nI (σ k)) (h0 : s_ok σ) (hb : b < σ 0) (h1 : 1 ≤ p) (h2 : p < s_len σ b) (h12 : ¬ σ 0 < 12) : wp Ln xs 182 0 [.ref 72, .int (nI b), .int (nI p), mj_hole, mj_hole] [] (u, ml_h m lm) Φ = Φ (.inl (some (.int (nI 0)))) (u, ml_h (ml_s m 72 8 (nI 2)) lm) := by
  have k0 := h0.1
  rw [sp182_go hM h0 hb h1 h2, x182_42, hM 0 (by decide), show σ 0 = 12 by omega, if_neg (fun z => z rfl), x182_53, x182_58, sp154_e (by decide), mk_v, x182_61, if_neg (fun z => z rfl), x182_64]
theorem sp182_k (hM : ∀ k, k < 251 → m 73 k = nI (σ k)) (hy : RepY m n ss t τ tl tx) (h0 : s_ok σ) (hb : b < σ 0) (h1 : 1 ≤ p) (h2 : p < s_len σ b) (h12 : σ 0 < 12) : ∃ m', (∀ j, j < 251 → m' 73 j = nI (s_spl σ b p j)) ∧ RepY m' (s_nx n) (s_push n ss σ) t τ tl tx ∧ m' 72 8 = nI 0 ∧ (∀ a, a < 72 ∨ 78 < a → m' a = m a) ∧ ∀ Φ : mj_R → mj_W → Prop, wp Ln xs 182 0 [.ref 72, .int (nI b), .int (nI p), mj_hole, mj_hole] [] (u, ml_h m lm) Φ = Φ (.inl (some (.int (s_gn σ b p)))) (u, ml_h m' lm) := by
  have k0 := h0.1
  obtain ⟨m1, hM1, hy1, h81, f1, e1⟩ := sp_save (Ln := Ln) (xs := xs) (u := u) (lm := lm) hM hy
  obtain ⟨m2, hM2, f2, e2⟩ := sp185 (Ln := Ln) (xs := xs) (u := u) (lm := lm) (b := b) hM1 h12 hb
  have hM3 := s_hU (i := 7 + b) (v := p) hM2
  have q7 : s_upd (s_mp σ b) (7 + b) p (7 + b + 1) = σ (7 + b) := by
    unfold s_mp s_mpi
    rw [s_upd_n (by omega), s_upd_n (by omega), if_pos (by omega)]
    rfl
  have hM4 : ∀ k, k < 251 → ml_s (ml_s m2 73 (7 + b) (nI p)) 73 (7 + b + 1) (nI (σ (7 + b) - p)) 73 k = nI (s_spp σ b p k) := s_hU (i := 7 + b + 1) (v := σ (7 + b) - p) hM3
  have o4 := s_spp_ok h0 h12 hb h1 h2
  obtain ⟨m5, hM5, f5, e5⟩ := sp161 (Ln := Ln) (xs := xs) (u := u) (lm := lm) (b := b) hM4 o4 (by rw [s_spp_0]; omega)
  obtain ⟨m6, hM6, f6, e6⟩ := sp161 (Ln := Ln) (xs := xs) (u := u) (lm := lm) (b := b + 1) hM5 (s_wa_ok o4 (by rw [s_spp_0]; omega)) (by rw [s_wa_o (by decide) (by omega) (by omega), s_spp_0]; omega)
  have q : ∀ a, a ≠ 73 → m6 a = m1 a := fun a ha => by rw [f6 a ha, f5 a ha, ml_s_row ha, ml_s_row ha, f2 a ha]
  have hp : p ≤ σ (7 + b) := Nat.le_of_lt h2
  refine ⟨m6, hM6, RepY_73 hy1 q, by rw [q 72 (by decide), h81], fun a ha => by rw [q a (by omega), f1 a ha], fun Φ => ?_⟩
  rw [sp182_go hM h0 hb h1 h2, x182_42, hM 0 (by decide), if_pos (by rw [nI_eq (by omega) (by decide)]; omega), x182_57, x182_58, sp154_k, mk_v, x182_61, if_pos s_10, x182_66, e1, mk_n, x182_70, sp183 hM1 h0 hb h1 h2, mk_v, x182_76, e2, mk_n, x182_83, nI_add, x182_92 (by omega), nI_add, nI_add, x182_104 (by omega), hM3 _ (by omega), q7, pk_sub hp, x182_107 (by omega), e5, mk_n, x182_113, nI_add, e6, mk_n, x182_120]
theorem sp186_i (hM : ∀ k, k < 251 → m 73 k = nI (σ k)) (h0 : s_ok σ) (h : x < nI 0 ∨ nI (σ 0) ≤ x) : wp Ln xs 186 0 [.ref 72, .int x, mj_hole, mj_hole, mj_hole, mj_hole] [] (u, ml_h m lm) Φ = Φ (.inl (some (.int (nI 0)))) (u, ml_h (ml_s m 72 8 (nI 1)) lm) := by
  rw [x186_0, sp179_f hM h0.1 h, mk_v, x186_6, if_pos rfl, x186_13, x186_14, sp154_e s_10, mk_v, x186_17, if_neg (fun z => z rfl), x186_20]
theorem sp186_l {x1 x2 : Int32} {st c e : Nat} (he : e + c ≤ 251) : ∀ (d i : Nat) (m : ml_M), i + d = e → st ≤ i → (∀ k, k < 251 → m 73 k = nI (s_dvi σ st c i k)) → ∃ m', (∀ k, k < 251 → m' 73 k = nI (s_dvi σ st c e k)) ∧ (∀ a, a ≠ 73 → m' a = m a) ∧ ∀ Φ : mj_R → mj_W → Prop, wp Ln xs 186 59 [.ref 72, .int x1, .int x2, .int (nI c), .int (nI e), .int (nI i)] [] (u, ml_h m lm) Φ = wp Ln xs 186 88 [.ref 72, .int x1, .int x2, .int (nI c), .int (nI e), .int (nI e)] [] (u, ml_h m' lm) Φ
  | 0, i, m, h, hs, hM => by
    obtain rfl : i = e := by omega
    refine ⟨m, hM, fun _ _ => rfl, fun Φ => ?_⟩
    rw [x186_59, if_pos (nI_le (Nat.le_refl _) (by omega))]
  | d + 1, i, m, h, hs, hM => by
    have e1 : m 73 (i + c) = nI (σ (i + c)) := by
      rw [hM _ (by omega)]
      unfold s_dvi
      rw [if_neg (by omega)]
    have hM1 := s_hU (i := i) (v := σ (i + c)) hM
    rw [s_dvi_s hs] at hM1
    obtain ⟨m', hM', f, e2⟩ := sp186_l (x1 := x1) (x2 := x2) he d (i + 1) _ (by omega) (by omega) hM1
    refine ⟨m', hM', fun a ha => by rw [f a ha, ml_s_row ha], fun Φ => ?_⟩
    rw [x186_59, if_neg (nI_ge (by omega) (by omega)), x186_66, nI_add, x186_80 (by omega), e1, x186_81 (by omega), nI_add]
    exact e2 Φ
theorem sp186_k (hM : ∀ k, k < 251 → m 73 k = nI (σ k)) (hy : RepY m n ss t τ tl tx) (h0 : s_ok σ) (hb : b < σ 0) : ∃ m', (∀ j, j < 251 → m' 73 j = nI (s_dp σ b j)) ∧ RepY m' (s_nx n) (s_push n ss σ) t τ tl tx ∧ m' 72 8 = nI 0 ∧ (∀ a, a < 72 ∨ 78 < a → m' a = m a) ∧ ∀ Φ : mj_R → mj_W → Prop, wp Ln xs 186 0 [.ref 72, .int (nI b), mj_hole, mj_hole, mj_hole, mj_hole] [] (u, ml_h m lm) Φ = Φ (.inl (some (.int (nI (s_len σ b))))) (u, ml_h m' lm) := by
  have k0 := h0.1
  have hT := s_tot_le h0
  have hend := s_end_le hb
  obtain ⟨m1, hM1, hy1, h81, f1, e1⟩ := sp_save (Ln := Ln) (xs := xs) (u := u) (lm := lm) hM hy
  have e7 : m1 73 (7 + b) = nI (s_len σ b) := hM1 _ (by omega)
  have hM2 : ∀ k, k < 251 → m1 73 k = nI (s_dvi σ (43 + s_sum (s_len σ) b) (s_len σ b) (43 + s_sum (s_len σ) b) k) := fun k hk => by
    rw [s_dvi_0]
    exact hM1 k hk
  obtain ⟨m3, hM3, f3, e3⟩ := sp186_l (Ln := Ln) (xs := xs) (u := u) (lm := lm) (x1 := nI b) (x2 := nI (43 + s_sum (s_len σ) b)) (e := 43 + s_tot σ - s_len σ b) (by omega) (s_tot σ - s_len σ b - s_sum (s_len σ) b) _ m1 (by omega) (Nat.le_refl _) hM2
  have hM3' : ∀ k, k < 251 → m3 73 k = nI (s_dv σ b k) := hM3
  have e0 : s_dv σ b 0 = σ 0 := s_dv_o (by decide)
  obtain ⟨m4, hM4, f4, e4⟩ := sp181 (Ln := Ln) (xs := xs) (u := u) (lm := lm) (b := b) hM3' (by rw [e0]; exact k0) (by rw [e0]; exact hb)
  have q : ∀ a, a ≠ 73 → m4 a = m1 a := fun a ha => by rw [f4 a ha, f3 a ha]
  refine ⟨m4, hM4, RepY_73 hy1 q, by rw [q 72 (by decide), h81], fun a ha => by rw [q a (by omega), f1 a ha], fun Φ => ?_⟩
  rw [x186_0, sp179_t hM k0 hb, mk_v, x186_6, if_neg s_10, x186_9, x186_14, sp154_k, mk_v, x186_17, if_pos s_10, x186_22, e1, mk_n, x186_26, sp159 hM1 (by omega), mk_v, x186_33, nI_add, nI_add, x186_43 (by omega), e7, sp158 hM1 k0, mk_v, x186_51, nI_add, pk_sub (by omega), e3, x186_88, e4, mk_n, x186_93]
theorem sp187_go {s : Nat} (hs : s < 3) (hv : s_isv s v) : wp Ln xs 187 0 [.ref 72, .int (nI s), .int (nI v), mj_hole, mj_hole] [] (u, ml_h m lm) Φ = wp Ln xs 187 51 [.ref 72, .int (nI s), .int (nI v), mj_hole, mj_hole] [.int (nI 1)] (u, ml_h m lm) Φ := by
  rw [x187_0]
  rcases hv with ⟨rfl, h1, h2⟩ | ⟨rfl, h1, h2⟩ | ⟨rfl, h1, h2, h3⟩
  · rw [if_neg (fun z => z rfl), x187_4, sp152_t h1 h2 (by decide), mk_v, x187_11]
  · rw [if_pos s_10, x187_14, if_neg (fun z => z rfl), x187_19, sp152_t h1 h2 (by decide), mk_v, x187_26]
  · rw [if_pos (by decide), x187_14, if_pos (by decide), x187_29, sp152_t h1 h2 (by decide), mk_v, x187_36, if_neg s_10, x187_39, s_and1 (by omega), h3, if_neg (fun z => z rfl), x187_46]
theorem sp187_no {s : Nat} (hs : s < 3) (hy : y < nI 0 ∨ nI 31 < y ∨ ∃ v, v ≤ 31 ∧ y = nI v ∧ ¬ s_isv s v) : wp Ln xs 187 0 [.ref 72, .int (nI s), .int y, mj_hole, mj_hole] [] (u, ml_h m lm) Φ = wp Ln xs 187 51 [.ref 72, .int (nI s), .int y, mj_hole, mj_hole] [.int (nI 0)] (u, ml_h m lm) Φ := by
  have e : s = 0 ∨ s = 1 ∨ s = 2 := by omega
  have hlo : y < nI 0 → y < nI 1 ∧ y < nI 2 := fun z => ⟨Int32.lt_of_lt_of_le z (by decide), Int32.lt_of_lt_of_le z (by decide)⟩
  have hhi : nI 31 < y → nI 16 < y := fun z => Int32.lt_of_le_of_lt (by decide) z
  rw [x187_0]
  rcases e with rfl | rfl | rfl
  · rw [if_neg (fun z => z rfl), x187_4, sp152_f, mk_v, x187_11]
    rcases hy with h | h | ⟨v, hv, rfl, h⟩
    · exact Or.inl (hlo h).1
    · exact Or.inr (hhi h)
    · rw [nI_ltI (by omega) (by omega), nI_ltI (by omega) (by omega)]
      unfold s_isv at h
      omega
  · rw [if_pos s_10, x187_14, if_neg (fun z => z rfl), x187_19, sp152_f, mk_v, x187_26]
    rcases hy with h | h | ⟨v, hv, rfl, h⟩
    · exact Or.inl (hlo h).2
    · exact Or.inr (hhi h)
    · rw [nI_ltI (by omega) (by omega), nI_ltI (by omega) (by omega)]
      unfold s_isv at h
      omega
  · rw [if_pos (by decide), x187_14, if_pos (by decide), x187_29]
    by_cases c : y < nI 1 ∨ nI 31 < y
    · rw [sp152_f c, mk_v, x187_36, if_pos rfl, x187_50]
    · rw [sp152_g (fun z => c (Or.inl z)) (fun z => c (Or.inr z)), mk_v, x187_36, if_neg s_10, x187_39, if_pos, x187_50]
      rcases hy with h | h | ⟨v, hv, rfl, h⟩
      · exact absurd (Or.inl (hlo h).1) c
      · exact absurd (Or.inr h) c
      · rw [nI_ltI (by omega) (by omega), nI_ltI (by omega) (by omega)] at c
        rw [s_and1 (by omega), nI_eq (by omega) (by omega)]
        unfold s_isv at h
        omega
theorem sp187_x (h : x < nI 0 ∨ nI 3 ≤ x) : ∃ z, ∀ Φ : mj_R → mj_W → Prop, wp Ln xs 187 0 [.ref 72, .int x, .int y, mj_hole, mj_hole] [] (u, ml_h m lm) Φ = wp Ln xs 187 51 [.ref 72, .int x, .int y, mj_hole, mj_hole] [.int z] (u, ml_h m lm) Φ := by
  have h1 : ¬ x = nI 0 := fun z => by
    subst z
    rcases h with h | h
    · exact absurd h (by decide)
    · exact absurd h (by decide)
  have h2 : ¬ x = nI 1 := fun z => by
    subst z
    rcases h with h | h
    · exact absurd h (by decide)
    · exact absurd h (by decide)
  by_cases c : y < nI 1 ∨ nI 31 < y
  · refine ⟨nI 0, fun Φ => ?_⟩
    rw [x187_0, if_pos h1, x187_14, if_pos h2, x187_29, sp152_f c, mk_v, x187_36, if_pos rfl, x187_50]
  · by_cases c2 : (y &&& nI 1) = nI 1
    · refine ⟨nI 1, fun Φ => ?_⟩
      rw [x187_0, if_pos h1, x187_14, if_pos h2, x187_29, sp152_g (fun z => c (Or.inl z)) (fun z => c (Or.inr z)), mk_v, x187_36, if_neg s_10, x187_39, if_neg (fun z => z c2), x187_46]
    · refine ⟨nI 0, fun Φ => ?_⟩
      rw [x187_0, if_pos h1, x187_14, if_pos h2, x187_29, sp152_g (fun z => c (Or.inl z)) (fun z => c (Or.inr z)), mk_v, x187_36, if_neg s_10, x187_39, if_pos c2, x187_50]
theorem sp187_i (h : x < nI 0 ∨ nI 3 ≤ x) : wp Ln xs 187 0 [.ref 72, .int x, .int y, mj_hole, mj_hole] [] (u, ml_h m lm) Φ = Φ (.inl (some (.int (nI 0)))) (u, ml_h (ml_s m 72 8 (nI 1)) lm) := by
  obtain ⟨z, e⟩ := sp187_x (Ln := Ln) (xs := xs) (u := u) (m := m) (lm := lm) (y := y) h
  rw [e, x187_51, sp152_f (h.elim Or.inl (fun z => Or.inr (Int32.lt_of_lt_of_le (show nI 2 < nI 3 by decide) z))), mk_v, x187_59, if_neg (fun z => z rfl), x187_62, x187_75, sp154_e s_10, mk_v, x187_78, if_neg (fun z => z rfl), x187_81]
theorem sp187_a {s : Nat} (hs : s < 3) (hy : y < nI 0 ∨ nI 31 < y ∨ ∃ v, v ≤ 31 ∧ y = nI v ∧ ¬ s_isv s v) : wp Ln xs 187 0 [.ref 72, .int (nI s), .int y, mj_hole, mj_hole] [] (u, ml_h m lm) Φ = Φ (.inl (some (.int (nI 0)))) (u, ml_h (ml_s m 72 8 (nI 2)) lm) := by
  rw [sp187_no hs hy, x187_51, sp152_t (Nat.zero_le _) (show s ≤ 2 by omega) (by decide), mk_v, x187_59, if_pos s_10, x187_66, if_neg (fun z => z rfl), x187_70, x187_75, sp154_e (by decide), mk_v, x187_78, if_neg (fun z => z rfl), x187_81]
theorem sp187_k {s : Nat} (hM : ∀ k, k < 251 → m 73 k = nI (σ k)) (hy : RepY m n ss t τ tl tx) (hs : s < 3) (hv : s_isv s v) : ∃ m', (∀ j, j < 251 → m' 73 j = nI (s_upd σ (2 + s) v j)) ∧ RepY m' (s_nx n) (s_push n ss σ) t τ tl tx ∧ m' 72 8 = nI 0 ∧ (∀ a, a < 72 ∨ 78 < a → m' a = m a) ∧ ∀ Φ : mj_R → mj_W → Prop, wp Ln xs 187 0 [.ref 72, .int (nI s), .int (nI v), mj_hole, mj_hole] [] (u, ml_h m lm) Φ = Φ (.inl (some (.int (nI (σ (2 + s)))))) (u, ml_h m' lm) := by
  obtain ⟨m1, hM1, hy1, h81, f1, e1⟩ := sp_save (Ln := Ln) (xs := xs) (u := u) (lm := lm) hM hy
  refine ⟨_, s_hU (i := 2 + s) (v := v) hM1, RepY_73 hy1 (fun a ha => ml_s_row ha), by rw [ml_s_a (by decide), h81], fun a ha => by rw [ml_s_row (by omega), f1 a ha], fun Φ => ?_⟩
  rw [sp187_go hs hv, x187_51, sp152_t (Nat.zero_le _) (show s ≤ 2 by omega) (by decide), mk_v, x187_59, if_pos s_10, x187_66, if_pos s_10, x187_74, x187_75, sp154_k, mk_v, x187_78, if_pos s_10, x187_83, e1, mk_n, x187_87, nI_add, x187_94 (by omega), hM1 _ (by omega), nI_add, x187_105 (by omega)]
theorem sp199_k (hM : ∀ k, k < 251 → m 73 k = nI (σ k)) (hy : RepY m n ss t τ tl tx) (h0 : s_ok σ) : ∃ m', (∀ j, j < 251 → m' 73 j = nI (σ j)) ∧ RepY m' n ss 1 σ tl tx ∧ (∀ a, a < 72 ∨ 78 < a → m' a = m a) ∧ ∀ Φ : mj_R → mj_W → Prop, wp Ln xs 199 0 [.ref 72] [] (u, ml_h m lm) Φ = Φ (.inl (some (.int (nI (s_tot σ))))) (u, ml_h m' lm) := by
  have r : ∀ a, a ≠ 72 → a ≠ 75 → ml_s (ml_cp (ml_s m 72 8 (nI 0)) 73 75 0 0 251) 72 4 (nI 1) a = m a := fun a h1 h2 => by rw [ml_s_row h1, ml_cp_n h2, ml_s_row h1]
  obtain ⟨y0, y1, y2, y3, y4, y5, y6⟩ := hy
  have hM' : ∀ j, j < 251 → ml_s (ml_cp (ml_s m 72 8 (nI 0)) 73 75 0 0 251) 72 4 (nI 1) 73 j = nI (σ j) := s_hF hM (r 73 (by decide) (by decide))
  refine ⟨_, hM', ⟨y0, ?_, fun j hj => RepM_of (y2 j hj) (r 74 (by decide) (by decide)), ml_s_s _ _ _ _, fun _ k hk => ?_, ?_, fun k hk => by rw [r 77 (by decide) (by decide)]; exact y6 k hk⟩, fun a ha => r a (by omega) (by omega), fun Φ => ?_⟩
  · rw [ml_s_k (by decide), ml_cp_n (by decide), ml_s_k (by decide), y1]
  · rw [ml_s_a (by decide), ml_cp_in hk, ml_s_a (by decide), Nat.zero_add]
    exact hM k hk
  · rw [ml_s_k (by decide), ml_cp_n (by decide), ml_s_k (by decide), y5]
  · rw [x199_0, sp156 ml_ia_73 (by decide) ml_ia_75 (by decide) (by decide) (by rw [ml_n_73]; decide) (by rw [ml_n_75]; decide), mk_n, x199_18, sp158 hM' h0.1, mk_v, x199_27]
theorem sp200_s (hy : RepY m n ss 0 τ tl tx) : wp Ln xs 200 0 [.ref 72] [] (u, ml_h m lm) Φ = Φ (.inl (some (.int (nI 0)))) (u, ml_h (ml_s m 72 8 (nI 1)) lm) := by
  rw [x200_0, hy.2.2.2.1, if_pos rfl, x200_12, x200_13, sp154_e s_10, mk_v, x200_16, if_neg (fun z => z rfl), x200_19]
theorem sp200_k (hM : ∀ k, k < 251 → m 73 k = nI (σ k)) (hy : RepY m n ss 1 τ tl tx) (h1 : s_ok τ) : ∃ m', (∀ j, j < 251 → m' 73 j = nI (τ j)) ∧ RepY m' (s_nx n) (s_push n ss σ) 1 τ tl tx ∧ m' 72 8 = nI 0 ∧ (∀ a, a < 72 ∨ 78 < a → m' a = m a) ∧ ∀ Φ : mj_R → mj_W → Prop, wp Ln xs 200 0 [.ref 72] [] (u, ml_h m lm) Φ = Φ (.inl (some (.int (nI (s_tot τ))))) (u, ml_h m' lm) := by
  obtain ⟨m1, hM1, hy1, h81, f1, e1⟩ := sp_save (Ln := Ln) (xs := xs) (u := u) (lm := lm) hM hy
  have hM2 : ∀ j, j < 251 → ml_cp m1 75 73 0 0 251 73 j = nI (τ j) := fun j hj => by
    have e := ml_cp_in (m := m1) (r := 75) (q := 73) (sp := 0) (dp := 0) hj
    rw [Nat.zero_add] at e
    have e2 := hy1.2.2.2.2.1 rfl j hj
    rw [Nat.zero_add] at e2
    rw [e, e2]
  refine ⟨_, hM2, RepY_73 hy1 (fun a ha => ml_cp_n ha), by rw [ml_cp_n (by decide), h81], fun a ha => by rw [ml_cp_n (by omega), f1 a ha], fun Φ => ?_⟩
  rw [x200_0, hy.2.2.2.1, if_neg s_10, x200_8, x200_13, sp154_k, mk_v, x200_16, if_pos s_10, x200_21, e1, mk_n, x200_25, sp156 ml_ia_75 (by decide) ml_ia_73 (by decide) (by decide) (by rw [ml_n_75]; decide) (by rw [ml_n_73]; decide), mk_n, x200_38, sp158 hM2 h1.1, mk_v, x200_42]
theorem sp201_s (hy : RepY m 0 ss t τ tl tx) : wp Ln xs 201 0 [.ref 72] [] (u, ml_h m lm) Φ = Φ (.inl (some (.int (nI 0)))) (u, ml_h (ml_s m 72 8 (nI 1)) lm) := by
  rw [x201_0, hy.2.1, if_pos (nI_le (Nat.le_refl _) (by decide)), x201_12, x201_13, sp154_e s_10, mk_v, x201_16, if_neg (fun z => z rfl), x201_19]
theorem sp201_k (hy : RepY m (n + 1) ss t τ tl tx) : ∃ m', (∀ j, j < 251 → m' 73 j = nI (ss n j)) ∧ RepY m' n ss t τ tl tx ∧ m' 72 8 = nI 0 ∧ (∀ a, a < 72 ∨ 78 < a → m' a = m a) ∧ ∀ Φ : mj_R → mj_W → Prop, wp Ln xs 201 0 [.ref 72] [] (u, ml_h m lm) Φ = Φ (.inl (some (.int (nI n)))) (u, ml_h m' lm) := by
  obtain ⟨y0, y1, y2, y3, y4, y5, y6⟩ := hy
  have q : ∀ a, a ≠ 72 → ml_s (ml_s m 72 8 (nI 0)) 72 2 (nI n) a = m a := fun a ha => by rw [ml_s_row ha, ml_s_row ha]
  refine ⟨ml_cp (ml_s (ml_s m 72 8 (nI 0)) 72 2 (nI n)) 74 73 (251 * n) 0 251, fun j hj => ?_, ⟨by omega, ?_, fun j hj => RepM_of (y2 j (by omega)) ?_, ?_, fun ht => RepM_of (y4 ht) ?_, ?_, fun k hk => ?_⟩, ?_, fun a ha => ?_, fun Φ => ?_⟩
  · have e := ml_cp_in (m := ml_s (ml_s m 72 8 (nI 0)) 72 2 (nI n)) (r := 74) (q := 73) (sp := 251 * n) (dp := 0) hj
    rw [Nat.zero_add] at e
    rw [e, q 74 (by decide)]
    exact y2 n (by omega) j hj
  · rw [ml_cp_n (by decide), ml_s_s]
  · rw [ml_cp_n (by decide), q 74 (by decide)]
  · rw [ml_cp_n (by decide), ml_s_k (by decide), ml_s_k (by decide), y3]
  · rw [ml_cp_n (by decide), q 75 (by decide)]
  · rw [ml_cp_n (by decide), ml_s_k (by decide), ml_s_k (by decide), y5]
  · rw [ml_cp_n (by decide), q 77 (by decide), y6 k hk]
  · rw [ml_cp_n (by decide), ml_s_k (by decide), ml_s_s]
  · rw [ml_cp_n (by omega), q a (by omega)]
  · rw [x201_0, y1, if_neg (nI_ge (by omega) (by omega)), x201_8, x201_13, sp154_k, mk_v, x201_16, if_pos s_10, x201_21, ml_s_k (show 2 ≠ 8 by decide), y1, pk_sub (by omega), Nat.add_sub_cancel, ml_s_s, pk_mul, sp156 ml_ia_74 (by decide) ml_ia_73 (by decide) (by decide) (by rw [ml_n_74]; omega) (by rw [ml_n_73]; decide), mk_n, x201_51, ml_cp_n (by decide), ml_s_s]
end MDE
