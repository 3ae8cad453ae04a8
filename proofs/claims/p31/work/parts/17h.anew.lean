/-! ===== states but for the form and the room of some blocks; a block written anew ===== -/
def s_upd (σ : s_S) (i v : Nat) : s_S := fun k => if k = i then v else σ k
theorem s_upd_s (σ : s_S) (i v : Nat) : s_upd σ i v i = v := if_pos rfl
theorem s_upd_n {σ : s_S} {i v k : Nat} (h : k ≠ i) : s_upd σ i v k = σ k := if_neg h
/-- s_ok but for the form and the room of the blocks in E -/
def s_oke (σ : s_S) (E : Nat → Prop) : Prop := σ 0 ≤ 12 ∧ σ 1 ≤ 15 ∧ (∀ b, b < σ 0 → 1 ≤ s_len σ b ∧ s_len σ b ≤ 16) ∧ (∀ b, b < σ 0 → ¬ E b → s_frm σ b ≤ 4 ∧ s_rom σ b ≤ 1000) ∧ (∀ k, k < s_tot σ → s_val σ k ≤ 999) ∧ 1 ≤ σ 2 ∧ σ 2 ≤ 16 ∧ 2 ≤ σ 3 ∧ σ 3 ≤ 16 ∧ σ 4 ≤ 31 ∧ σ 4 % 2 = 1
def RepCe (m : ml_M) (p : Nat) (σ : s_S) (E : Nat → Prop) : Prop := m p 5 = nI (s_tot σ) ∧ m p 6 = nI (σ 0) ∧ m p 7 = nI (σ 5) ∧ m p 8 = nI (σ 6) ∧ (∀ k, k < s_tot σ → m (p + 1) k = nI (s_val σ k)) ∧ (∀ b, b < σ 0 → m (p + 2) b = nI (s_len σ b)) ∧ (∀ b, b < σ 0 → ¬ E b → m (p + 3) b = nI (s_frm σ b)) ∧ (∀ b, b < σ 0 → ¬ E b → m (p + 4) b = nI (s_rom σ b)) ∧ (∀ k, k < 3 → m (p + 5) k = nI (σ (2 + k)))
theorem s_oke_0 {σ : s_S} {E : Nat → Prop} (h : ∀ b, ¬ E b) : s_oke σ E ↔ s_ok σ := by
  unfold s_oke s_ok
  refine ⟨fun ⟨h1, h2, h3, h4, h5⟩ => ⟨h1, h2, fun b hb => ⟨(h3 b hb).1, (h3 b hb).2, h4 b hb (h b)⟩, h5⟩, fun ⟨h1, h2, h3, h5⟩ => ⟨h1, h2, fun b hb => ⟨(h3 b hb).1, (h3 b hb).2.1⟩, fun b hb _ => (h3 b hb).2.2, h5⟩⟩
theorem RepCe_0 {m : ml_M} {p : Nat} {σ : s_S} {E : Nat → Prop} (h : ∀ b, ¬ E b) : RepCe m p σ E ↔ RepC m p σ := by
  unfold RepCe RepC
  refine ⟨fun ⟨h1, h2, h3, h4, h5, h6, h7, h8, h9⟩ => ⟨h1, h2, h3, h4, h5, h6, fun b hb => h7 b hb (h b), fun b hb => h8 b hb (h b), h9⟩, fun ⟨h1, h2, h3, h4, h5, h6, h7, h8, h9⟩ => ⟨h1, h2, h3, h4, h5, h6, fun b hb _ => h7 b hb, fun b hb _ => h8 b hb, h9⟩⟩
/-- the values of block b -/
def s_blf (σ : s_S) (b : Nat) : Nat → Nat := fun i => s_val σ (s_sum (s_len σ) b + i)
def s_pkb (σ : s_S) (b : Nat) : Nat := s_pk (σ 2) (σ 4) (s_blf σ b) (s_len σ b)
/-- block b written anew -/
def s_wa (σ : s_S) (b : Nat) : s_S := s_upd (s_upd (s_upd σ (19 + b) (s_pkb σ b)) (31 + b) (s_sz (s_blf σ b) (s_len σ b) (s_pkb σ b))) 6 (σ 6 + 1)
section SWA
variable {σ : s_S} {b : Nat}
theorem s_wa_o {k : Nat} (h1 : k ≠ 6) (h2 : k ≠ 19 + b) (h3 : k ≠ 31 + b) : s_wa σ b k = σ k := by
  unfold s_wa
  rw [s_upd_n h1, s_upd_n h3, s_upd_n h2]
theorem s_wa_len {c : Nat} (hb : b < 12) (hc : c < 12) : s_len (s_wa σ b) c = s_len σ c := s_wa_o (by omega) (by omega) (by omega)
theorem s_wa_val {k : Nat} (hb : b < 12) : s_val (s_wa σ b) k = s_val σ k := s_wa_o (by omega) (by omega) (by omega)
theorem s_wa_6 : s_wa σ b 6 = σ 6 + 1 := s_upd_s _ _ _
theorem s_wa_frm {c : Nat} (hb : b < 12) (hc : c < 12) : s_frm (s_wa σ b) c = if c = b then s_pkb σ b else s_frm σ c := by
  unfold s_frm s_wa
  rw [s_upd_n (by omega), s_upd_n (by omega)]
  by_cases h : c = b
  · subst h
    rw [s_upd_s, if_pos rfl]
  · rw [s_upd_n (by omega), if_neg h]
theorem s_wa_rom {c : Nat} (hb : b < 12) (hc : c < 12) : s_rom (s_wa σ b) c = if c = b then s_sz (s_blf σ b) (s_len σ b) (s_pkb σ b) else s_rom σ c := by
  unfold s_rom s_wa
  rw [s_upd_n (by omega)]
  by_cases h : c = b
  · subst h
    rw [s_upd_s, if_pos rfl]
  · rw [s_upd_n (by omega), s_upd_n (by omega), if_neg h]
theorem s_wa_tot (hb : b < 12) (h0 : σ 0 ≤ 12) : s_tot (s_wa σ b) = s_tot σ := by
  unfold s_tot
  rw [s_wa_o (by omega) (by omega) (by omega), s_wa_o (by omega) (by omega) (by omega), s_sum_congr (σ 0) (fun i hi => s_wa_len hb (by omega))]
theorem s_end_le (hb : b < σ 0) : s_sum (s_len σ) b + s_len σ b ≤ s_tot σ := Nat.le_trans (s_sum_mono (f := s_len σ) (show b + 1 ≤ σ 0 by omega)) (s_sum_tot σ)
theorem s_tot_lee {E : Nat → Prop} (h : s_oke σ E) : s_tot σ ≤ 207 := by
  have h1 := s_sum_le (f := s_len σ) (c := 16) (σ 0) (fun i hi => (h.2.2.1 i hi).2)
  have h2 := h.1
  have h3 := h.2.1
  unfold s_tot
  omega
theorem s_blf_le {E : Nat → Prop} (h : s_oke σ E) (hb : b < σ 0) : ∀ i, i < s_len σ b → s_blf σ b i ≤ 999 := fun i hi => h.2.2.2.2.1 _ (by have := s_end_le hb; omega)
theorem s_wa_ok {E : Nat → Prop} (h : s_oke σ E) (hb : b < σ 0) : s_oke (s_wa σ b) (fun c => E c ∧ c ≠ b) := by
  have hv := s_blf_le h hb
  obtain ⟨h1, h2, h3, h4, h5, h6⟩ := h
  have e : ∀ k, k < 6 → s_wa σ b k = σ k := fun k hk => s_wa_o (by omega) (by omega) (by omega)
  unfold s_oke
  rw [e 0 (by decide), e 1 (by decide), e 2 (by decide), e 3 (by decide), e 4 (by decide), s_wa_tot (by omega) h1]
  refine ⟨h1, h2, fun c hc => ?_, fun c hc hE => ?_, fun k hk => ?_, h6⟩
  · rw [s_wa_len (by omega) (by omega)]
    exact h3 c hc
  · rw [s_wa_frm (by omega) (by omega), s_wa_rom (by omega) (by omega)]
    by_cases hcb : c = b
    · rw [if_pos hcb, if_pos hcb]
      exact ⟨s_li_le _ _ _, s_sz_le (h3 b hb).2 (h3 b hb).1 hv⟩
    · rw [if_neg hcb, if_neg hcb]
      exact h4 c hc (fun z => hE ⟨z, hcb⟩)
  · rw [s_wa_val (by omega)]
    exact h5 k hk
variable {Ln : Nat} {xs : Nat → Int32} {u : mj_U} {m : ml_M} {lm : ml_J} {Φ : mj_R → mj_W → Prop}
theorem sp18 {E : Nat → Prop} (h0 : s_oke σ E) (h : RepCe m 2 σ E) (hb : b < σ 0) : ∃ m', RepCe m' 2 (s_wa σ b) (fun c => E c ∧ c ≠ b) ∧ (∀ a, a < 2 ∨ (7 < a ∧ a < 58) ∨ 60 < a → m' a = m a) ∧ ∀ Φ : mj_R → mj_W → Prop, wp Ln xs 18 0 [.ref 1, .int (nI b)] [] (u, ml_h m lm) Φ = Φ (.inl none) (u, ml_h m' lm) := by
  have hT := s_tot_lee h0
  have hv := s_blf_le h0 hb
  have hend := s_end_le hb
  obtain ⟨k1, k2, k3, k4, k5, k6, k7, k8, k9, k10, k11⟩ := h0
  obtain ⟨g5, g6, g7, g8, g1, g2, g3, g4, gs⟩ := h
  obtain ⟨m1, ⟨f1, f2⟩, fr, e⟩ := sp21 (Ln := Ln) (xs := xs) (u := u) (lm := lm) (m := m) (n := s_len σ b) (f := s_blf σ b) (r := 3) (s := s_sum (s_len σ) b) (sa := σ 2) (al := σ 4) ml_ia_3 (by decide) (Or.inl (by decide)) (by have := k3 b hb; omega) (k3 b hb).2 (by rw [ml_n_3]; omega) hv (fun i hi => g1 _ (by omega)) (gs 0 (by decide)) (by omega) (by omega) (gs 2 (by decide)) (by omega)
  refine ⟨ml_s (ml_s (ml_s m1 5 b (nI (s_pkb σ b))) 6 b (nI (s_sz (s_blf σ b) (s_len σ b) (s_pkb σ b)))) 2 8 (nI (σ 6 + 1)), ⟨?_, ?_, ?_, ?_, fun k hk => ?_, fun c hc => ?_, fun c hc hE => ?_, fun c hc hE => ?_, fun k hk => ?_⟩, fun a ha => ?_, fun Φ => ?_⟩
  · rw [ml_s_k (by decide), ml_s_a (by decide), ml_s_a (by decide), fr 2 (by omega), g5, s_wa_tot (by omega) k1]
  · rw [ml_s_k (by decide), ml_s_a (by decide), ml_s_a (by decide), fr 2 (by omega), g6, s_wa_o (by omega) (by omega) (by omega)]
  · rw [ml_s_k (by decide), ml_s_a (by decide), ml_s_a (by decide), fr 2 (by omega), g7, s_wa_o (by omega) (by omega) (by omega)]
  · rw [ml_s_s, s_wa_6]
  · rw [s_wa_tot (by omega) k1] at hk
    rw [ml_s_a (by decide), ml_s_a (by decide), ml_s_a (by decide), fr 3 (by omega), g1 k hk, s_wa_val (by omega)]
  · rw [s_wa_o (by omega) (by omega) (by omega)] at hc
    rw [ml_s_a (by decide), ml_s_a (by decide), ml_s_a (by decide), fr 4 (by omega), g2 c hc, s_wa_len (by omega) (by omega)]
  · rw [s_wa_o (by omega) (by omega) (by omega)] at hc
    rw [ml_s_a (by decide), ml_s_a (by decide), s_wa_frm (by omega) (by omega)]
    by_cases hcb : c = b
    · subst hcb
      rw [ml_s_s, if_pos rfl]
    · rw [ml_s_k hcb, fr 5 (by omega), if_neg hcb]
      exact g3 c hc (fun z => hE ⟨z, hcb⟩)
  · rw [s_wa_o (by omega) (by omega) (by omega)] at hc
    rw [ml_s_a (by decide), s_wa_rom (by omega) (by omega)]
    by_cases hcb : c = b
    · subst hcb
      rw [ml_s_s, if_pos rfl]
    · rw [ml_s_k hcb, ml_s_a (by decide), fr 6 (by omega), if_neg hcb]
      exact g4 c hc (fun z => hE ⟨z, hcb⟩)
  · rw [ml_s_a (by decide), ml_s_a (by decide), ml_s_a (by decide), fr 7 (by omega), gs k hk, s_wa_o (by omega) (by omega) (by omega)]
  · rw [ml_s_row (by omega), ml_s_row (by omega), ml_s_row (by omega), fr a (by omega)]
  · have q2 : m1 2 8 = nI (σ 6) := by rw [fr 2 (by omega), g8]
    rw [x18_0, sp19 (f := s_len σ) (by omega) (fun i hi => g2 i (by omega)), mk_v, x18_19, sp20 (by omega), mk_v, g2 b hb, x18_27, e, mk_n, x18_37, put_5 (by omega), mk_n, x18_55, put_6 (by omega), mk_n, x18_73, f1, ml_s_a (show 58 ≠ 5 by decide), f2, ml_s_a (show 2 ≠ 6 by decide), ml_s_a (show 2 ≠ 5 by decide), q2, nI_add]
    rfl
end SWA
