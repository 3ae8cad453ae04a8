section SPL
variable {Ln : Nat} {xs : Nat → Int32} {u : mj_U} {m : ml_M} {lm : ml_J} {Φ : mj_R → mj_W → Prop} {σ τ : s_S} {n t tl v k b p : Nat} {ss : Nat → s_S} {tx : Nat → Nat} {x y : Int32}
theorem s_z {P : Prop} (h : ¬ (nI 0 : Int32) = nI 0) : P := absurd rfl h
theorem sp110_i (h0 : s_ok σ) (h : RepC m 2 σ) (hi : x < nI 0 ∨ nI (σ 0) ≤ x) : wp Ln xs 110 0 [.ref 1, .int x, mj_hole] [] (u, ml_h m lm) Φ = Φ (.inr 2) ((u.1, u.2.1 + 1, u.2.2 + 6), ml_h m lm) := by
  rw [x110_0, sp11_f h.2.1 hi, mk_v, x110_8, if_pos rfl, x110_24]
theorem sp110_j (h0 : s_ok σ) (h : RepC m 2 σ) (hb : b + 1 = σ 0) : wp Ln xs 110 0 [.ref 1, .int (nI b), mj_hole] [] (u, ml_h m lm) Φ = Φ (.inr 2) ((u.1, u.2.1 + 1, u.2.2 + 6), ml_h m lm) := by
  rw [x110_0, sp11_t h.2.1 h0.1 (by omega), mk_v, x110_8, if_neg s_10, x110_11, h.2.1, pk_sub (by omega), show σ 0 - 1 = b by omega, if_neg (fun z => z rfl), x110_24]
theorem sp110_go (h0 : s_ok σ) (h : RepC m 2 σ) (hb : b + 1 < σ 0) : wp Ln xs 110 0 [.ref 1, .int (nI b), mj_hole] [] (u, ml_h m lm) Φ = wp Ln xs 110 52 [.ref 1, .int (nI b), mj_hole] [.int (nI (s_len σ (b + 1))), .int (nI (s_len σ b))] (u, ml_h m lm) Φ := by
  have k0 := h0.1
  obtain ⟨g5, g6, g7, g8, g1, g2, g3, g4, gs⟩ := h
  rw [x110_0, sp11_t g6 h0.1 (by omega), mk_v, x110_8, if_neg s_10, x110_11, g6, pk_sub (by omega), if_pos (by rw [nI_eq (by omega) (by omega)]; omega), x110_34, sp20 (by omega), mk_v, g2 b (by omega), x110_42, nI_add, sp20 (by omega), mk_v, g2 (b + 1) (by omega)]
theorem sp110_s (h0 : s_ok σ) (h : RepC m 2 σ) (hb : b + 1 < σ 0) (hl : 16 < s_len σ b + s_len σ (b + 1)) : wp Ln xs 110 0 [.ref 1, .int (nI b), mj_hole] [] (u, ml_h m lm) Φ = Φ (.inr 1) ((u.1, u.2.1 + 1, u.2.2 + 6), ml_h m lm) := by
  have l1 := h0.2.2.1 b (by omega)
  have l2 := h0.2.2.1 (b + 1) hb
  rw [sp110_go h0 h hb, x110_52, nI_add, if_neg (nI_ge hl (by omega)), x110_60]
theorem sp110_k (h0 : s_ok σ) (h : RepC m 2 σ) (hx : RepX m n ss t τ tl tx) (hb : b + 1 < σ 0) (hl : s_len σ b + s_len σ (b + 1) ≤ 16) : ∃ m', RepC m' 2 (s_jn σ b) ∧ RepX m' (s_nx n) (s_push n ss σ) t τ tl tx ∧ (∀ a, 72 ≤ a → m' a = m a) ∧ ∀ Φ : mj_R → mj_W → Prop, wp Ln xs 110 0 [.ref 1, .int (nI b), mj_hole] [] (u, ml_h m lm) Φ = Φ (.inl (some (.int (nI (s_frm (s_jn σ b) b))))) (u, ml_h m' lm) := by
  have k0 := h0.1
  obtain ⟨m1, r1, q1, f1, e1⟩ := sp_push (Ln := Ln) (xs := xs) (u := u) (lm := lm) h0 h hx
  have r2 := s_jp_rep h0 r1 hb
  obtain ⟨m3, r3, f3, e3⟩ := sp18 (Ln := Ln) (xs := xs) (u := u) (lm := lm) (s_jp_ok h0 hb hl) r2 (b := b) (by rw [s_jp_0]; omega)
  have r4 : RepC m3 2 (s_jn σ b) := (RepCe_0 (fun c z => z.2 z.1)).mp r3
  have fd : ∀ a, a < 2 ∨ 7 < a → s_dn m1 (b + 1) (σ 0 - 1) a = m1 a := fun a ha => by
    funext k
    exact if_neg (fun z => by omega)
  refine ⟨m3, r4, RepX_of q1 (fun a ha => by rw [f3 a (by omega), ml_s_row (by omega), ml_s_row (by omega), fd a (by omega)]), fun a ha => by rw [f3 a (by omega), ml_s_row (by omega), ml_s_row (by omega), fd a (by omega), f1 a (by omega)], fun Φ => ?_⟩
  have q0 : s_jn σ b 0 = σ 0 - 1 := by
    unfold s_jn
    rw [s_wa_o (by decide) (by omega) (by omega), s_jp_0]
  rw [sp110_go h0 h hb, x110_52, nI_add, if_pos (nI_le hl (by decide)), x110_70, e1, mk_n, x110_81, nI_add, sp111 h0.1 r1.2.1 hb, mk_n, x110_91, put_4 (by omega), mk_n, x110_103, e3, mk_n, x110_108, sp42 (by omega), mk_v, r4.2.2.2.2.2.2.1 b (by rw [q0]; omega), x110_116]
theorem sp114_i (h : RepC m 2 σ) (hi : x < nI 0 ∨ nI (σ 0) ≤ x) : wp Ln xs 114 0 [.ref 1, .int x, .int y, mj_hole, mj_hole] [] (u, ml_h m lm) Φ = Φ (.inr 2) ((u.1, u.2.1 + 1, u.2.2 + 6), ml_h m lm) := by
  rw [x114_0, sp11_f h.2.1 hi, mk_v, x114_8, if_pos rfl, x114_28]
theorem sp114_j (h0 : s_ok σ) (h : RepC m 2 σ) (hb : b < σ 0) (hy : y < nI 1 ∨ nI (s_len σ b) ≤ y) : wp Ln xs 114 0 [.ref 1, .int (nI b), .int y, mj_hole, mj_hole] [] (u, ml_h m lm) Φ = Φ (.inr 2) ((u.1, u.2.1 + 1, u.2.2 + 6), ml_h m lm) := by
  have k0 := h0.1
  rw [x114_0, sp11_t h.2.1 h0.1 hb, mk_v, x114_8, if_neg s_10, x114_11]
  by_cases c : y < nI 1
  · rw [if_pos c, x114_28]
  · have hy2 := hy.resolve_left c
    rw [if_neg c, x114_16, sp20 (by omega), mk_v, h.2.2.2.2.2.1 b hb, x114_25, if_neg (fun z => Int32.lt_irrefl (Int32.lt_of_lt_of_le z hy2)), x114_28]
theorem sp114_go (h0 : s_ok σ) (h : RepC m 2 σ) (hb : b < σ 0) (h1 : 1 ≤ p) (h2 : p < s_len σ b) : wp Ln xs 114 0 [.ref 1, .int (nI b), .int (nI p), mj_hole, mj_hole] [] (u, ml_h m lm) Φ = wp Ln xs 114 38 [.ref 1, .int (nI b), .int (nI p), mj_hole, mj_hole] [] (u, ml_h m lm) Φ := by
  have k0 := h0.1
  have l := h0.2.2.1 b hb
  rw [x114_0, sp11_t h.2.1 h0.1 hb, mk_v, x114_8, if_neg s_10, x114_11, if_neg (nI_nlt h1 (by omega)), x114_16, sp20 (by omega), mk_v, h.2.2.2.2.2.1 b hb, x114_25, if_pos (nI_lt h2 (by omega))]
theorem sp114_s (h0 : s_ok σ) (h : RepC m 2 σ) (hb : b < σ 0) (h1 : 1 ≤ p) (h2 : p < s_len σ b) (h12 : ¬ σ 0 < 12) : wp Ln xs 114 0 [.ref 1, .int (nI b), .int (nI p), mj_hole, mj_hole] [] (u, ml_h m lm) Φ = Φ (.inr 1) ((u.1, u.2.1 + 1, u.2.2 + 6), ml_h m lm) := by
  have k0 := h0.1
  rw [sp114_go h0 h hb h1 h2, x114_38, h.2.1, if_neg (nI_nlt (by omega) (by omega)), x114_50]
theorem sp114_k (h0 : s_ok σ) (h : RepC m 2 σ) (hx : RepX m n ss t τ tl tx) (hb : b < σ 0) (h1 : 1 ≤ p) (h2 : p < s_len σ b) (h12 : σ 0 < 12) : ∃ m', RepC m' 2 (s_spl σ b p) ∧ RepX m' (s_nx n) (s_push n ss σ) t τ tl tx ∧ (∀ a, 72 ≤ a → m' a = m a) ∧ ∀ Φ : mj_R → mj_W → Prop, wp Ln xs 114 0 [.ref 1, .int (nI b), .int (nI p), mj_hole, mj_hole] [] (u, ml_h m lm) Φ = Φ (.inl (some (.int (s_gn σ b p)))) (u, ml_h m' lm) := by
  have l := h0.2.2.1 b hb
  obtain ⟨m1, r1, q1, f1, e1⟩ := sp_push (Ln := Ln) (xs := xs) (u := u) (lm := lm) h0 h hx
  have r2 := s_spp_rep (p := p) h0 r1 h12 hb (by omega)
  have o2 := s_spp_ok h0 h12 hb h1 h2
  obtain ⟨m3, r3, f3, e3⟩ := sp18 (Ln := Ln) (xs := xs) (u := u) (lm := lm) o2 r2 (b := b) (by rw [s_spp_0]; omega)
  have o3 := s_wa_ok o2 (b := b) (by rw [s_spp_0]; omega)
  obtain ⟨m4, r4, f4, e4⟩ := sp18 (Ln := Ln) (xs := xs) (u := u) (lm := lm) o3 r3 (b := b + 1) (by rw [s_wa_o (by decide) (by omega) (by omega), s_spp_0]; omega)
  have r5 : RepC m4 2 (s_spl σ b p) := (RepCe_0 (fun c z => by
    obtain ⟨⟨z1, z2⟩, z3⟩ := z
    rcases z1 with z1 | z1
    · exact z2 z1
    · exact z3 z1)).mp r4
  have fd : ∀ a, a < 2 ∨ 7 < a → s_up m1 (b + 1) (σ 0) a = m1 a := fun a ha => by
    funext k
    exact if_neg (fun z => by omega)
  have q0 : s_spl σ b p 0 = σ 0 + 1 := by
    unfold s_spl
    rw [s_wa_o (by decide) (by omega) (by omega), s_wa_o (by decide) (by omega) (by omega), s_spp_0]
  have hr := s_spl_rom h0 h12 hb h1 h2
  refine ⟨m4, r5, RepX_of q1 (fun a ha => by rw [f4 a (by omega), f3 a (by omega), ml_s_row (by omega), ml_s_row (by omega), ml_s_row (by omega), fd a (by omega)]), fun a ha => by rw [f4 a (by omega), f3 a (by omega), ml_s_row (by omega), ml_s_row (by omega), ml_s_row (by omega), fd a (by omega), f1 a (by omega)], fun Φ => ?_⟩
  rw [sp114_go h0 h hb h1 h2, x114_38, h.2.1, if_pos (nI_lt h12 (by omega)), x114_60, e1, mk_n, x114_71, sp16 (by omega), mk_v, r1.2.2.2.2.2.2.2.1 b hb, x114_79, sp20 (by omega), mk_v, r1.2.2.2.2.2.1 b hb, x114_88, nI_add, pk_sub (by omega), sp115 h12 r1.2.1 (by omega), mk_n, x114_102, put_4 (by omega), mk_n, x114_114, nI_add, put_4 (by omega), mk_n, x114_129, e3, mk_n, x114_134, nI_add, e4, mk_n, x114_141, sp16 (by omega), mk_v, r5.2.2.2.2.2.2.2.1 b (by rw [q0]; omega), x114_150, nI_add, sp16 (by omega), mk_v, r5.2.2.2.2.2.2.2.1 (b + 1) (by rw [q0]; omega), x114_161, hr.1, hr.2]
  unfold s_gn s_rr
  rw [← nI_add, Int32.sub_eq_add_neg (nI (s_rom σ b)) (nI _ + nI _), Int32.neg_add, Int32.sub_eq_add_neg (nI (s_rom σ b)), Int32.sub_eq_add_neg, Int32.sub_eq_add_neg, Int32.sub_eq_add_neg, Int32.add_assoc (nI (s_rom σ b)), ← Int32.sub_eq_add_neg (-_)]
theorem sp118_i (h : RepC m 2 σ) (hi : x < nI 0 ∨ nI (σ 0) ≤ x) : wp Ln xs 118 0 [.ref 1, .int x, mj_hole] [] (u, ml_h m lm) Φ = Φ (.inr 2) ((u.1, u.2.1 + 1, u.2.2 + 6), ml_h m lm) := by
  rw [x118_0, sp11_f h.2.1 hi, mk_v, x118_8, if_neg (fun z => z rfl), x118_11]
theorem sp118_k (h0 : s_ok σ) (h : RepC m 2 σ) (hx : RepX m n ss t τ tl tx) (hb : b < σ 0) : ∃ m', RepC m' 2 (s_dp σ b) ∧ RepX m' (s_nx n) (s_push n ss σ) t τ tl tx ∧ (∀ a, 72 ≤ a → m' a = m a) ∧ ∀ Φ : mj_R → mj_W → Prop, wp Ln xs 118 0 [.ref 1, .int (nI b), mj_hole] [] (u, ml_h m lm) Φ = Φ (.inl (some (.int (nI (s_len σ b))))) (u, ml_h m' lm) := by
  have k0 := h0.1
  have hT := s_tot_le h0
  have hend := s_end_le hb
  obtain ⟨m1, r1, q1, f1, e1⟩ := sp_push (Ln := Ln) (xs := xs) (u := u) (lm := lm) h0 h hx
  have r2 := s_dp_rep h0 r1 hb
  have fd : ∀ (M : ml_M) a, a < 2 ∨ 7 < a → s_dn M b (σ 0 - 1) a = M a := fun M a ha => by
    funext k
    exact if_neg (fun z => by omega)
  have fr : ∀ a, a ≠ 3 → s_rm m1 (s_sum (s_len σ) b) (s_len σ b) (s_tot σ - s_len σ b) a = m1 a := fun a ha => by
    funext k
    exact if_neg (fun z => ha z.1)
  refine ⟨_, r2, RepX_of q1 (fun a ha => by rw [ml_s_row (by omega), fd _ a (by omega), ml_s_row (by omega), fr a (by omega)]), fun a ha => by rw [ml_s_row (by omega), fd _ a (by omega), ml_s_row (by omega), fr a (by omega), f1 a (by omega)], fun Φ => ?_⟩
  rw [x118_0, sp11_t h.2.1 k0 hb, mk_v, x118_8, if_pos s_10, x118_21, e1, mk_n, x118_32, sp20 (by omega), mk_v, r1.2.2.2.2.2.1 b hb, x118_40, sp19 (f := s_len σ) (by omega) (fun i hi => r1.2.2.2.2.2.1 i (by omega)), mk_v, x118_53, sp119 hT r1.1 hend, mk_n, x118_57, sp111 k0 (by rw [ml_s_k (by decide), fr 2 (by decide)]; exact r1.2.1) hb, mk_n, x118_65]
/-- what a setting may be -/
def s_isv (s v : Nat) : Prop := (s = 0 ∧ 1 ≤ v ∧ v ≤ 16) ∨ (s = 1 ∧ 2 ≤ v ∧ v ≤ 16) ∨ (s = 2 ∧ 1 ≤ v ∧ v ≤ 31 ∧ v % 2 = 1)
theorem sp32_t {s : Nat} (hs : s < 3) (hv : s_isv s v) : wp Ln xs 32 0 [.int (nI s), .int (nI v)] [] (u, ml_h m lm) Φ = Φ (.inl (some (.int (nI 1)))) (u, ml_h m lm) := by
  rw [x32_0]
  rcases hv with ⟨rfl, h1, h2⟩ | ⟨rfl, h1, h2⟩ | ⟨rfl, h1, h2, h3⟩
  · rw [x32_1_0, x32_28, if_neg (nI_nlt h1 (by omega)), x32_33, if_neg (nI_nlt h2 (by omega)), x32_39]
  · rw [x32_1_1, x32_45, if_neg (nI_nlt h1 (by omega)), x32_50, if_neg (nI_nlt h2 (by omega)), x32_56]
  · rw [x32_1_2, x32_62, if_neg (nI_nlt h1 (by omega)), x32_67, if_neg (nI_nlt h2 (by omega)), x32_73, s_and1 (by omega), h3, if_neg (fun z => z rfl), x32_80]
theorem sp32_f {s : Nat} (hs : s < 3) (hy : y < nI 0 ∨ nI 31 < y ∨ ∃ v, v ≤ 31 ∧ y = nI v ∧ ¬ s_isv s v) : wp Ln xs 32 0 [.int (nI s), .int y] [] (u, ml_h m lm) Φ = Φ (.inl (some (.int (nI 0)))) (u, ml_h m lm) := by
  have e : s = 0 ∨ s = 1 ∨ s = 2 := by omega
  have hlo : y < nI 0 → y < nI 1 ∧ y < nI 2 := fun z => ⟨Int32.lt_of_lt_of_le z (by decide), Int32.lt_of_lt_of_le z (by decide)⟩
  have hhi : nI 31 < y → nI 16 < y := fun z => Int32.lt_of_le_of_lt (by decide) z
  rw [x32_0]
  rcases e with rfl | rfl | rfl
  · rw [x32_1_0, x32_28]
    by_cases c1 : y < nI 1
    · rw [if_pos c1, x32_43]
    · rw [if_neg c1, x32_33, if_pos, x32_43]
      rcases hy with h | h | ⟨v, hv, rfl, h⟩
      · exact absurd (hlo h).1 c1
      · exact hhi h
      · rw [nI_ltI (by omega) (by omega)] at c1 ⊢
        unfold s_isv at h
        omega
  · rw [x32_1_1, x32_45]
    by_cases c1 : y < nI 2
    · rw [if_pos c1, x32_60]
    · rw [if_neg c1, x32_50, if_pos, x32_60]
      rcases hy with h | h | ⟨v, hv, rfl, h⟩
      · exact absurd (hlo h).2 c1
      · exact hhi h
      · rw [nI_ltI (by omega) (by omega)] at c1 ⊢
        unfold s_isv at h
        omega
  · rw [x32_1_2, x32_62]
    by_cases c1 : y < nI 1
    · rw [if_pos c1, x32_84]
    · rw [if_neg c1, x32_67]
      by_cases c2 : nI 31 < y
      · rw [if_pos c2, x32_84]
      · rw [if_neg c2, x32_73, if_pos, x32_84]
        rcases hy with h | h | ⟨v, hv, rfl, h⟩
        · exact absurd (hlo h).1 c1
        · exact absurd h c2
        · rw [nI_ltI (by omega) (by omega)] at c1
          rw [s_and1 (by omega), nI_eq (by omega) (by omega)]
          unfold s_isv at h
          omega
theorem sp30_i (hi : x < nI 0 ∨ nI 3 ≤ x) : wp Ln xs 30 0 [.ref 1, .int x, .int y, mj_hole] [] (u, ml_h m lm) Φ = Φ (.inr 2) ((u.1, u.2.1 + 1, u.2.2 + 6), ml_h m lm) := by
  rw [x30_0, sp31_f hi, mk_v, x30_4, if_neg (fun z => z rfl), x30_7]
theorem sp30_a {s : Nat} (hs : s < 3) (hy : y < nI 0 ∨ nI 31 < y ∨ ∃ v, v ≤ 31 ∧ y = nI v ∧ ¬ s_isv s v) : wp Ln xs 30 0 [.ref 1, .int (nI s), .int y, mj_hole] [] (u, ml_h m lm) Φ = Φ (.inr 0) ((u.1, u.2.1 + 1, u.2.2 + 6), ml_h m lm) := by
  rw [x30_0, sp31_t hs, mk_v, x30_4, if_pos s_10, x30_17, sp32_f hs hy, mk_v, x30_22, if_neg (fun z => z rfl), x30_25]
theorem s_st_o {s z k : Nat} (h : k ≠ 2 + s) : s_upd σ (2 + s) z k = σ k := s_upd_n h
theorem s_st_len {s z : Nat} (hs : s < 3) : s_len (s_upd σ (2 + s) z) = s_len σ := by
  funext b
  exact s_upd_n (by omega)
theorem s_st_tot {s z : Nat} (hs : s < 3) : s_tot (s_upd σ (2 + s) z) = s_tot σ := by
  show s_sum (s_len (s_upd σ (2 + s) z)) (s_upd σ (2 + s) z 0) + s_upd σ (2 + s) z 1 = _
  rw [s_st_len hs, s_upd_n (by omega), s_upd_n (by omega)]
  rfl
theorem s_st_ok {s : Nat} (h : s_ok σ) (hs : s < 3) (hv : s_isv s v) : s_ok (s_upd σ (2 + s) v) := by
  obtain ⟨k0, k1, k3, k4, k5, k6, k7, k8, k9, k10⟩ := h
  have q : ∀ i, i < 3 → s_upd σ (2 + s) v (2 + i) = if i = s then v else σ (2 + i) := fun i hi => by
    by_cases c : i = s
    · rw [if_pos c, c, s_upd_s]
    · rw [if_neg c, s_upd_n (by omega)]
  have q2 := q 0 (by decide)
  have q3 := q 1 (by decide)
  have q4 := q 2 (by decide)
  unfold s_ok s_frm s_rom s_val
  rw [s_st_tot hs, s_st_len hs, s_st_o (k := 0) (by omega), s_st_o (k := 1) (by omega)]
  refine ⟨k0, k1, fun b hb => ?_, fun j hj => ?_, ?_⟩
  · rw [s_upd_n (by omega), s_upd_n (by omega)]
    exact k3 b hb
  · rw [s_upd_n (by omega)]
    exact k4 j hj
  · have q2' : s_upd σ (2 + s) v 2 = if 0 = s then v else σ 2 := q2
    have q3' : s_upd σ (2 + s) v 3 = if 1 = s then v else σ 3 := q3
    have q4' : s_upd σ (2 + s) v 4 = if 2 = s then v else σ 4 := q4
    rw [q2', q3', q4']
    unfold s_isv at hv
    have e : s = 0 ∨ s = 1 ∨ s = 2 := by omega
    rcases e with rfl | rfl | rfl
    · rw [if_pos rfl, if_neg (by decide), if_neg (by decide)]
      omega
    · rw [if_neg (by decide), if_pos rfl, if_neg (by decide)]
      omega
    · rw [if_neg (by decide), if_neg (by decide), if_pos rfl]
      omega
theorem s_st_rep {s : Nat} (hs : s < 3) (h : RepC m 2 σ) : RepC (ml_s m 7 s (nI v)) 2 (s_upd σ (2 + s) v) := by
  obtain ⟨g5, g6, g7, g8, g1, g2, g3, g4, gs⟩ := h
  unfold RepC s_frm s_rom s_val
  rw [s_st_tot hs, s_st_len hs, s_st_o (k := 0) (by omega), s_st_o (k := 5) (by omega), s_st_o (k := 6) (by omega)]
  refine ⟨?_, ?_, ?_, ?_, fun j hj => ?_, fun b hb => ?_, fun b hb => ?_, fun b hb => ?_, fun j hj => ?_⟩
  · rw [ml_s_a (by decide), g5]
  · rw [ml_s_a (by decide), g6]
  · rw [ml_s_a (by decide), g7]
  · rw [ml_s_a (by decide), g8]
  · rw [ml_s_a (by decide), s_upd_n (by omega)]
    exact g1 j hj
  · rw [ml_s_a (by decide)]
    exact g2 b hb
  · rw [ml_s_a (by decide), s_upd_n (by omega)]
    exact g3 b hb
  · rw [ml_s_a (by decide), s_upd_n (by omega)]
    exact g4 b hb
  · by_cases c : j = s
    · subst c
      rw [ml_s_s, s_upd_s]
    · rw [ml_s_k c, s_upd_n (by omega)]
      exact gs j hj
theorem sp30_k {s : Nat} (h0 : s_ok σ) (h : RepC m 2 σ) (hx : RepX m n ss t τ tl tx) (hs : s < 3) (hv : s_isv s v) : ∃ m', RepC m' 2 (s_upd σ (2 + s) v) ∧ RepX m' (s_nx n) (s_push n ss σ) t τ tl tx ∧ (∀ a, 72 ≤ a → m' a = m a) ∧ ∀ Φ : mj_R → mj_W → Prop, wp Ln xs 30 0 [.ref 1, .int (nI s), .int (nI v), mj_hole] [] (u, ml_h m lm) Φ = Φ (.inl (some (.int (nI (σ (2 + s)))))) (u, ml_h m' lm) := by
  obtain ⟨m1, r1, q1, f1, e1⟩ := sp_push (Ln := Ln) (xs := xs) (u := u) (lm := lm) h0 h hx
  refine ⟨_, s_st_rep (v := v) hs r1, RepX_of q1 (fun a ha => ml_s_row (by omega)), fun a ha => by rw [ml_s_row (by omega), f1 a (by omega)], fun Φ => ?_⟩
  rw [x30_0, sp31_t hs, mk_v, x30_4, if_pos s_10, x30_17, sp32_t hs hv, mk_v, x30_22, if_pos s_10, x30_35, e1, mk_n, x30_46, sp33 hs, mk_v, r1.2.2.2.2.2.2.2.2 s hs, x30_54, put_7 hs, mk_n, x30_67]
theorem sp106_k (h0 : s_ok σ) (h : RepC m 2 σ) (hx : RepX m n ss t τ tl tx) : ∃ m', RepC m' 2 σ ∧ RepX m' n ss 1 σ tl tx ∧ (∀ a, 72 ≤ a → m' a = m a) ∧ ∀ Φ : mj_R → mj_W → Prop, wp Ln xs 106 0 [.ref 1] [] (u, ml_h m lm) Φ = Φ (.inl (some (.int (nI (s_tot σ))))) (u, ml_h m' lm) := by
  obtain ⟨m1, r1, f1, e1⟩ := sp14 (Ln := Ln) (xs := xs) (u := u) (lm := lm) (p := 8) (q := 2) ml_co_8 ml_co_2 (Or.inr (by decide)) h0 h
  obtain ⟨x1, x2, x3, x4, x5⟩ := hx
  have r2 : RepC m1 2 σ := RepC_of h (fun a _ _ => f1 a (by omega))
  refine ⟨ml_s m1 1 2 (nI 1), RepC_of r2 (fun a _ _ => ml_s_row (by omega)), ⟨RepH_of x1 (fun a _ _ => by rw [ml_s_row (by omega), f1 a (by omega)]), ml_s_s _ _ _ _, fun _ => RepC_of r1 (fun a _ _ => ml_s_row (by omega)), by rw [ml_s_a (by decide), f1 52 (by omega)]; exact x4, fun k hk => by rw [ml_s_a (by decide), f1 53 (by omega)]; exact x5 k hk⟩, fun a ha => by rw [ml_s_row (by omega), f1 a (by omega)], fun Φ => ?_⟩
  rw [x106_0, e1, mk_n, x106_11, ml_s_a (by decide), r2.1]
theorem sp108_s (hx : RepX m n ss 0 τ tl tx) : wp Ln xs 108 0 [.ref 1] [] (u, ml_h m lm) Φ = Φ (.inr 1) ((u.1, u.2.1 + 1, u.2.2 + 6), ml_h m lm) := by
  rw [x108_0, hx.2.1, if_neg (fun z => z rfl), x108_7]
theorem sp108_k (h0 : s_ok σ) (h1 : s_ok τ) (h : RepC m 2 σ) (hx : RepX m n ss 1 τ tl tx) : ∃ m', RepC m' 2 τ ∧ RepX m' (s_nx n) (s_push n ss σ) 1 τ tl tx ∧ (∀ a, 72 ≤ a → m' a = m a) ∧ ∀ Φ : mj_R → mj_W → Prop, wp Ln xs 108 0 [.ref 1] [] (u, ml_h m lm) Φ = Φ (.inl (some (.int (nI (s_tot τ))))) (u, ml_h m' lm) := by
  obtain ⟨m1, r1, q1, f1, e1⟩ := sp_push (Ln := Ln) (xs := xs) (u := u) (lm := lm) h0 h hx
  obtain ⟨m2, r2, f2, e2⟩ := sp14 (Ln := Ln) (xs := xs) (u := u) (lm := lm) (p := 2) (q := 8) ml_co_2 ml_co_8 (Or.inl (by decide)) h1 (q1.2.2.1 rfl)
  refine ⟨m2, r2, RepX_of q1 (fun a ha => f2 a (by omega)), fun a ha => by rw [f2 a (by omega), f1 a (by omega)], fun Φ => ?_⟩
  rw [x108_0, hx.2.1, if_pos s_10, x108_17, e1, mk_n, x108_28, e2, mk_n, x108_39, r2.1]
theorem sp116_s (hx : RepX m 0 ss t τ tl tx) : wp Ln xs 116 0 [.ref 1] [] (u, ml_h m lm) Φ = Φ (.inr 1) ((u.1, u.2.1 + 1, u.2.2 + 6), ml_h m lm) := by
  rw [x116_0, hx.1.2.1, if_neg (fun z => z rfl), x116_10]
theorem sp116_k (h1 : s_ok (ss n)) (hx : RepX m (n + 1) ss t τ tl tx) : ∃ m', RepC m' 2 (ss n) ∧ RepX m' n ss t τ tl tx ∧ (∀ a, 72 ≤ a → m' a = m a) ∧ ∀ Φ : mj_R → mj_W → Prop, wp Ln xs 116 0 [.ref 1] [] (u, ml_h m lm) Φ = Φ (.inl (some (.int (nI n)))) (u, ml_h m' lm) := by
  obtain ⟨x1, x2, x3, x4, x5⟩ := hx
  have hn := x1.1
  obtain ⟨m2, r2, rc, f2, e2⟩ := sp117 (Ln := Ln) (xs := xs) (u := u) (lm := lm) h1 x1
  refine ⟨m2, rc, ⟨r2, by rw [f2 1 (by omega) (by decide)]; exact x2, fun ht => RepC_of (x3 ht) (fun a _ _ => f2 a (by omega) (by omega)), by rw [f2 52 (by omega) (by decide)]; exact x4, fun k hk => by rw [f2 53 (by omega) (by decide)]; exact x5 k hk⟩, fun a ha => f2 a (by omega) (by omega), fun Φ => ?_⟩
  rw [x116_0, x1.2.1, if_pos (by rw [nI_eq (by omega) (by decide)]; omega), x116_20, e2, mk_n, x116_31, r2.2.1]
end SPL
