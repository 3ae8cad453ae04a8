/-! ===== p31's law: its small methods, looks alone ===== -/
def q_col (f : Nat → Nat) : Nat → Int64
  | 0 => 1
  | k + 1 => 31 * q_col f k + (nI (f k)).toInt64
theorem q_col_c {f g : Nat → Nat} : ∀ n, (∀ i, i < n → f i = g i) → q_col f n = q_col g n
  | 0, _ => rfl
  | n + 1, h => by rw [q_col, q_col, q_col_c n (fun i hi => h i (by omega)), h n (by omega)]
theorem q_cmp (y : Int64) : lg_cmp y y = nI 0 := by
  unfold lg_cmp
  simp
  rfl
section LW1
variable {Ln : Nat} {xs : Nat → Int32} {u : mj_U} {m : ml_M} {lm : ml_J} {Ψ : mj_R → mj_W → Prop} {σ τ : s_S} {n t k b w p q v : Nat} {ss : Nat → s_S}
theorem sp79 (x : Int32) {N : Nat} (h0 : 0 < N) (hN : N < 2 ^ 31) : ∃ r, r < N ∧ ∀ (u : mj_U) (m : ml_M) (lm : ml_J) (Φ : mj_R → mj_W → Prop), wp Ln xs 79 0 [.int x, .int (nI N)] [] (u, ml_h m lm) Φ = Φ (.inl (some (.int (nI r)))) (u, ml_h m lm) := by
  obtain ⟨j, hj, e⟩ := pk_andE x (m := nI 2147483647) 31 (by decide +kernel)
  refine ⟨j % N, Nat.mod_lt _ h0, fun u m lm Φ => ?_⟩
  rw [x79_0 (nI_ne0 h0 hN), e, pk_rem hj h0 hN]
theorem sp94 (x : Int32) : ∃ v, v ≤ 999 ∧ ∀ (u : mj_U) (m : ml_M) (lm : ml_J) (Φ : mj_R → mj_W → Prop), wp Ln xs 94 0 [.int x] [] (u, ml_h m lm) Φ = Φ (.inl (some (.int (nI v)))) (u, ml_h m lm) := by
  obtain ⟨a, ha, ea⟩ := sp79 (Ln := Ln) (xs := xs) x (N := 3) (by decide) (by decide)
  obtain ⟨b, hb, eb⟩ := sp79 (Ln := Ln) (xs := xs) (x >>> (nI 2 &&& 31)) (N := 1000) (by decide) (by decide)
  obtain ⟨c, hc, ec⟩ := sp79 (Ln := Ln) (xs := xs) (x >>> (nI 2 &&& 31)) (N := 9) (by decide) (by decide)
  obtain ⟨d, hd, ed⟩ := sp79 (Ln := Ln) (xs := xs) (x >>> (nI 2 &&& 31)) (N := 4) (by decide) (by decide)
  by_cases c0 : a = 0
  · subst c0
    refine ⟨b, by omega, fun u m lm Φ => ?_⟩
    rw [x94_0, ea, mk_v]
    rw [x94_5, if_neg (fun z => z rfl)]
    rw [x94_8, eb, mk_v]
    rw [x94_17]
  · by_cases c1 : a = 1
    · subst c1
      refine ⟨500 + c, by omega, fun u m lm Φ => ?_⟩
      rw [x94_0, ea, mk_v]
      rw [x94_5, if_pos (by decide)]
      rw [x94_20, ea, mk_v]
      rw [x94_25, if_neg (fun z => z rfl)]
      rw [x94_29, ec, mk_v]
      rw [x94_40, nI_add]
    · refine ⟨300 * d, by omega, fun u m lm Φ => ?_⟩
      rw [x94_0, ea, mk_v]
      rw [x94_5, if_pos (by rw [nI_eq (by omega) (by omega)]; omega)]
      rw [x94_20, ea, mk_v]
      rw [x94_25, if_pos (by rw [nI_eq (by omega) (by omega)]; omega)]
      rw [x94_44, ed, mk_v]
      rw [x94_54, pk_mul]
theorem sp54 (hL : Ln < 2 ^ 31) (hk : k < 2 ^ 31) : ∃ y, ∀ (u : mj_U) (m : ml_M) (lm : ml_J) (Φ : mj_R → mj_W → Prop), wp Ln xs 54 0 [.ref 0, .int (nI k)] [] (u, ml_h m lm) Φ = Φ (.inl (some (.int y))) (u, ml_h m lm) := by
  by_cases c : Ln ≤ k
  · refine ⟨nI 901371873 * (nI k + nI 5) + nI 746844583, fun u m lm Φ => ?_⟩
    rw [x54_0, if_pos (nI_le c hk), x54_12]
  · refine ⟨xs k, fun u m lm Φ => ?_⟩
    rw [x54_0, if_neg (nI_ge (by omega) hL), x54_6, x54_8 (by omega) hL]
theorem k60 (h0 : s_ok σ) (hm : HD m σ n ss t τ) (hw : w ≤ 4) (g : ∀ m', HD m' σ n ss t τ → Ψ (.inl (some (.int (if σ 4 / 2 ^ w % 2 = 1 then nI 1 else nI 0)))) (u, ml_h m' lm)) : wp Ln xs 60 0 [.ref 1, .int (nI w)] [] (u, ml_h m lm) Ψ := by
  have h4 := h0.2.2.2.2.2.2.2.2.1
  have hd : σ 4 / 2 ^ w < 2 ^ 31 := Nat.lt_of_le_of_lt (Nat.div_le_self _ _) (by omega)
  have h2 : σ 4 / 2 ^ w % 2 < 2 := Nat.mod_lt _ (by decide)
  rw [x60_0]
  refine k61_2 hm fun m hm => ?_
  rw [mk_v]
  rw [x60_5, s_shr (by omega) (by omega), s_and1 hd]
  by_cases c : σ 4 / 2 ^ w % 2 = 1
  · rw [c, if_neg (fun z => z rfl), x60_13]
    have e := g m hm
    rw [if_pos c] at e
    exact e
  · rw [if_pos (by rw [nI_eq (by omega) (by omega)]; exact c), x60_17]
    have e := g m hm
    rw [if_neg c] at e
    exact e
theorem k107_l (h0 : s_ok σ) (g : ∀ m', HD m' σ n ss t τ → Ψ (.inl (some (.long (q_col (s_val σ) (s_tot σ))))) (u, ml_h m' lm)) : ∀ (d k : Nat) (m : ml_M), k + d = s_tot σ → HD m σ n ss t τ → wp Ln xs 107 4 [.ref 1, .long (q_col (s_val σ) k), mj_hole, .int (nI k)] [] (u, ml_h m lm) Ψ
  | 0, k, m, e, hm => by
    have hT := s_tot_le h0
    obtain rfl : k = s_tot σ := by omega
    rw [x107_4]
    refine k34_0 h0 hm fun m hm => ?_
    rw [mk_v, x107_10, if_pos (by rw [nI_leI (by omega) (by omega)]; omega)]
    rw [x107_33]
    exact g m hm
  | d + 1, k, m, e, hm => by
    have hT := s_tot_le h0
    have hk : k < s_tot σ := by omega
    rw [x107_4]
    refine k34_0 h0 hm fun m hm => ?_
    rw [mk_v, x107_10, if_neg (by rw [nI_leI (by omega) (by omega)]; omega)]
    rw [x107_13]
    refine k72_0 h0 hm hk fun m hm => ?_
    rw [mk_v, x107_24, nI_add]
    exact k107_l h0 g d (k + 1) m (by omega) hm
theorem k107 (h0 : s_ok σ) (hm : HD m σ n ss t τ) (g : ∀ m', HD m' σ n ss t τ → Ψ (.inl (some (.long (q_col (s_val σ) (s_tot σ))))) (u, ml_h m' lm)) : wp Ln xs 107 0 [.ref 1, mj_hole, mj_hole, mj_hole] [] (u, ml_h m lm) Ψ := by
  rw [x107_0]
  exact k107_l h0 g (s_tot σ) 0 m (by omega) hm
theorem k105_l (h0 : s_ok σ) (hb : b < σ 0) (ha : q_An σ b) (g : ∀ m', HD m' σ n ss t τ → Ψ (.inl (some (.int (nI 1)))) (u, ml_h m' lm)) : ∀ (d k : Nat) (m : ml_M), k + d = 5 → HD m σ n ss t τ → wp Ln xs 105 39 [.ref 1, .int (nI b), .int (nI 1), .int (nI k)] [] (u, ml_h m lm) Ψ
  | 0, k, m, e, hm => by
    obtain rfl : k = 5 := by omega
    rw [x105_39, if_pos (by decide)]
    rw [x105_93 rfl]
    exact g m hm
  | d + 1, k, m, e, hm => by
    have hl := h0.2.2.1 b hb
    have hv := s_blf_le (s_oke_of (fun _ => False) h0) hb
    have h2 := h0.2.2.2.2.2.1
    have hz := s_sz_le (fo := k) hl.2.1 hl.1 hv
    have hz2 : s_ub σ b ≤ 1000 := s_sz_le hl.2.1 hl.1 hv
    by_cases c16 : σ 2 = 16
    · by_cases ca : σ 4 / 2 ^ k % 2 = 1
      · have hmin := q_An_min h0 hb ha c16 (fo := k) (by omega) ca
        rw [x105_39, if_neg (by rw [nI_leI (by omega) (by omega)]; omega)]
        rw [x105_44, if_neg (by decide)]
        rw [x105_48]
        refine k61_0 hm fun m hm => ?_
        rw [mk_v, x105_53, if_neg (fun z => z (by rw [c16]))]
        rw [x105_58]
        refine k60 h0 hm (by omega) fun m hm => ?_
        rw [mk_v, if_pos ca]
        rw [x105_63, if_neg (by decide)]
        rw [x105_66]
        refine k56_2 h0 hm hb fun m hm => ?_
        rw [mk_v, x105_72]
        refine k59 h0 hm hb (by omega) fun m hm => ?_
        rw [mk_v, x105_78, if_neg (by rw [nI_ltI (by omega) (by omega)]; omega)]
        rw [x105_81, x105_86, nI_add]
        exact k105_l h0 hb ha g d (k + 1) m (by omega) hm
      · rw [x105_39, if_neg (by rw [nI_leI (by omega) (by omega)]; omega)]
        rw [x105_44, if_neg (by decide)]
        rw [x105_48]
        refine k61_0 hm fun m hm => ?_
        rw [mk_v, x105_53, if_neg (fun z => z (by rw [c16]))]
        rw [x105_58]
        refine k60 h0 hm (by omega) fun m hm => ?_
        rw [mk_v, if_neg ca]
        rw [x105_63, if_pos (rfl)]
        rw [x105_81, x105_86, nI_add]
        exact k105_l h0 hb ha g d (k + 1) m (by omega) hm
    · rw [x105_39, if_neg (by rw [nI_leI (by omega) (by omega)]; omega)]
      rw [x105_44, if_neg (by decide)]
      rw [x105_48]
      refine k61_0 hm fun m hm => ?_
      rw [mk_v, x105_53, if_pos (by rw [nI_eq (by omega) (by omega)]; omega)]
      rw [x105_93 rfl]
      exact g m hm
theorem k105 (h0 : s_ok σ) (hm : HD m σ n ss t τ) (hb : b < σ 0) (ha : q_An σ b) (g : ∀ m', HD m' σ n ss t τ → Ψ (.inl (some (.int (nI 1)))) (u, ml_h m' lm)) : wp Ln xs 105 0 [.ref 1, .int (nI b), mj_hole, mj_hole] [] (u, ml_h m lm) Ψ := by
  rw [x105_0]
  refine k56_8 h0 hm hb fun m hm => ?_
  rw [mk_v, x105_7]
  refine k56_0 h0 hm hb fun m hm => ?_
  rw [mk_v, x105_13, if_neg (fun z => z (by rw [ha.1]))]
  rw [x105_16]
  refine k56_2 h0 hm hb fun m hm => ?_
  rw [mk_v, x105_22]
  refine k56_3 h0 hm hb fun m hm => ?_
  rw [mk_v, x105_28, if_neg (fun z => z (by rw [ha.2]))]
  rw [x105_31, x105_36]
  exact k105_l h0 hb ha g 5 0 m rfl hm
end LW1
