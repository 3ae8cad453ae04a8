/-! ===== p31's law: blocks split, written anew, joined, dropped ===== -/
theorem q_spl_St {σ : s_S} {b p : Nat} (hs : q_St σ) (h12 : σ 0 < 12) (hb : b < σ 0) (h1 : 1 ≤ p) (hp : p < s_len σ b) : q_St (s_spl σ b p) := ⟨s_spl_ok hs.1 h12 hb h1 hp, q_spl_J hs.1 h12 hb h1 hp hs.2⟩
section LW5
variable {Ln : Nat} {xs : Nat → Int32} {u : mj_U} {m : ml_M} {lm : ml_J} {Ψ : mj_R → mj_W → Prop} {σ τ : s_S} {n t k b w p q v : Nat} {ss : Nat → s_S} {x1 x2 x3 x4 x5 x6 x7 x8 : Int32} {y6 : Int64}
theorem k113_l (hs : q_St σ) (hb : b < σ 0) (h12 : σ 0 < 12) (hl2 : 2 ≤ s_len σ b) (g : ∀ m' σ' n' ss', q_St σ' → n' ≤ 6 → HD m' σ' n' ss' t τ → Ψ (.inl (some (.int (nI 1)))) (u, ml_h m' lm)) : ∀ (d j n : Nat) (ss : Nat → s_S) (m : ml_M) (v12 : Value), j + d = s_len σ b → 1 ≤ j → n ≤ 6 → HD m σ n ss t τ → wp Ln xs 113 127 [.ref 1, .int (nI b), .int x2, .int (nI (s_len σ b)), .int (nI (s_bs σ b)), .int x5, .long y6, mj_hole, .int x8, .int (s_gn σ b (s_bs σ b)), .int (nI 1), .int (nI j), v12] [] (u, ml_h m lm) Ψ
  | 0, j, n, ss, m, v12, e, hj, hn, hm => by
    have h0 := hs.1
    have hl := h0.2.2.1 b hb
    obtain rfl : j = s_len σ b := by omega
    obtain ⟨r, hr, er⟩ := sp79 (Ln := Ln) (xs := xs) x2 (N := s_len σ b - 1) (by omega) (by omega)
    have hp1 : 1 ≤ 1 + r := by omega
    have hp2 : 1 + r < s_len σ b := by omega
    have s1 := q_spl_St hs h12 hb hp1 hp2
    have hb1 : b < s_spl σ b (1 + r) 0 := by rw [q_spl_0 h12 hb]; omega
    rw [x113_127, if_pos (by rw [nI_leI (by omega) (by omega)]; omega)]
    rw [x113_188, if_neg (by decide)]
    rw [x113_193, pk_sub (show 1 ≤ s_len σ b by omega), er, mk_v]
    rw [x113_203, nI_add]
    refine k114 h0 hm hb hp1 hp2 h12 fun m hm => ?_
    rw [mk_v, x113_207, if_neg (q_gn_le h0 hb hl2 hp1 hp2)]
    rw [x113_212]
    refine k56_1 s1.1 hm hb1 fun m hm => ?_
    rw [mk_v, q_spl_len h12 hb]
    rw [x113_218, pk_sub (show 1 ≤ s_len σ b by omega), er, mk_v]
    rw [x113_226, if_neg (fun z => z (nI_add _ _).symm)]
    rw [x113_230]
    exact g m _ _ _ s1 (q_nx hn) hm
  | d + 1, j, n, ss, m, v12, e, hj, hn, hm => by
    have h0 := hs.1
    have hl := h0.2.2.1 b hb
    have hp2 : j < s_len σ b := by omega
    obtain ⟨b1, b2, _⟩ := q_bs (σ := σ) (b := b) hl2
    have s1 := q_spl_St hs h12 hb hj hp2
    have ih := fun n ss m v12 => k113_l hs hb h12 hl2 g d (j + 1) n ss m v12 (by omega) (by omega)
    rcases q_gn_best h0 hb hl2 hj hp2 with c | ⟨c, c2⟩
    · rw [x113_127, if_neg (by rw [nI_leI (by omega) (by omega)]; omega)]
      rw [x113_133, if_neg (by decide)]
      rw [x113_138]
      refine k114 h0 hm hb hj hp2 h12 fun m hm => ?_
      rw [mk_v, x113_145, if_pos (c)]
      rw [x113_168]
      refine k116 h0 hn hm fun m n ss hn hm => ?_
      rw [mk_v]
      rw [x113_172, if_neg (by rw [nI_ltI (by omega) (by omega)]; omega)]
      rw [x113_175, x113_180, nI_add]
      exact ih n ss m _ hn hm
    · rw [x113_127, if_neg (by rw [nI_leI (by omega) (by omega)]; omega)]
      rw [x113_133, if_neg (by decide)]
      rw [x113_138]
      refine k114 h0 hm hb hj hp2 h12 fun m hm => ?_
      rw [mk_v, x113_145, if_neg (by rw [c]; exact Int32.lt_irrefl)]
      rw [x113_154, if_neg (fun z => z c)]
      rw [x113_161, if_neg (by rw [nI_ltI (by omega) (by omega)]; omega)]
      rw [x113_168]
      refine k116 h0 hn hm fun m n ss hn hm => ?_
      rw [mk_v]
      rw [x113_172, if_neg (by rw [nI_ltI (by omega) (by omega)]; omega)]
      rw [x113_175, x113_180, nI_add]
      exact ih n ss m _ hn hm
theorem k113 (hs : q_St σ) (hb : b < σ 0) (hn : n ≤ 6) (hm : HD m σ n ss t τ) (g : ∀ m' σ' n' ss', q_St σ' → n' ≤ 6 → HD m' σ' n' ss' t τ → Ψ (.inl (some (.int (nI 1)))) (u, ml_h m' lm)) : wp Ln xs 113 0 [.ref 1, .int (nI b), .int x2, mj_hole, mj_hole, mj_hole, mj_hole, mj_hole, mj_hole, mj_hole, mj_hole, mj_hole, mj_hole] [] (u, ml_h m lm) Ψ := by
  have h0 := hs.1
  have k0 := h0.1
  have hl := h0.2.2.1 b hb
  by_cases c1 : s_len σ b = 1
  · rw [x113_0]
    refine k56_1 h0 hm hb fun m hm => ?_
    rw [mk_v, x113_6]
    refine k77 h0 hm hb fun m hm => ?_
    rw [mk_v, x113_12]
    refine k34_1 h0 hm fun m hm => ?_
    rw [mk_v, x113_19]
    refine k107 h0 hm fun m hm => ?_
    rw [mk_v, x113_25, if_pos (by rw [c1])]
    rw [x113_39]
    exact g m _ _ _ hs hn hm
  · by_cases c12 : σ 0 = 12
    · rw [x113_0]
      refine k56_1 h0 hm hb fun m hm => ?_
      rw [mk_v, x113_6]
      refine k77 h0 hm hb fun m hm => ?_
      rw [mk_v, x113_12]
      refine k34_1 h0 hm fun m hm => ?_
      rw [mk_v, x113_19]
      refine k107 h0 hm fun m hm => ?_
      rw [mk_v, x113_25, if_neg (by rw [nI_eq (by omega) (by omega)]; omega)]
      rw [x113_32, if_neg (fun z => z (by rw [c12]))]
      rw [x113_39]
      exact g m _ _ _ hs hn hm
    · have h12 : σ 0 < 12 := by omega
      have hl2 : 2 ≤ s_len σ b := by omega
      obtain ⟨b1, b2, _⟩ := q_bs (σ := σ) (b := b) hl2
      have em : s_m1 (s_bs σ b) = nI (s_bs σ b) := if_neg (by omega)
      have s1 := q_spl_St hs h12 hb b1 b2
      have e0 := q_spl_0 (p := s_bs σ b) h12 hb
      have et := q_spl_tot h12 hb (Nat.le_of_lt b2)
      have ec : q_col (s_val (s_spl σ b (s_bs σ b))) (s_tot (s_spl σ b (s_bs σ b))) = q_col (s_val σ) (s_tot σ) := by
        rw [et]
        exact q_col_c _ (fun i _ => q_spl_val h12 hb)
      obtain ⟨a1, a2⟩ := q_spl_An h0 h12 hb b1 b2
      have hb1 : b < s_spl σ b (s_bs σ b) 0 := by omega
      have hb2 : b + 1 < s_spl σ b (s_bs σ b) 0 := by omega
      rw [x113_0]
      refine k56_1 h0 hm hb fun m hm => ?_
      rw [mk_v, x113_6]
      refine k77 h0 hm hb fun m hm => ?_
      rw [mk_v, em]
      rw [x113_12]
      refine k34_1 h0 hm fun m hm => ?_
      rw [mk_v, x113_19]
      refine k107 h0 hm fun m hm => ?_
      rw [mk_v, x113_25, if_neg (by rw [nI_eq (by omega) (by omega)]; omega)]
      rw [x113_32, if_pos (by rw [nI_eq (by omega) (by omega)]; omega)]
      rw [x113_41]
      refine k34_3 h0 hm fun m hm => ?_
      rw [mk_v, x113_46]
      refine k114 h0 hm hb b1 b2 h12 fun m hm => ?_
      rw [mk_v, x113_55]
      refine k34_3 s1.1 hm fun m hm => ?_
      rw [mk_v, x113_62, if_neg (fun z => z (q_spl_wgI h0 h12 hb b1 b2))]
      rw [x113_70]
      refine k34_1 s1.1 hm fun m hm => ?_
      rw [mk_v, x113_75, if_neg (fun z => z (by rw [e0, nI_add]))]
      rw [x113_82]
      refine k107 s1.1 hm fun m hm => ?_
      rw [mk_v, ec]
      rw [x113_86, if_neg (fun z => z (q_cmp _))]
      rw [x113_92]
      refine k105 s1.1 hm hb1 a1 fun m hm => ?_
      rw [mk_v, x113_97, if_neg (by decide)]
      rw [x113_100, nI_add]
      refine k105 s1.1 hm hb2 a2 fun m hm => ?_
      rw [mk_v, x113_107, if_neg (by decide)]
      rw [x113_110]
      refine k116 h0 hn hm fun m n ss hn hm => ?_
      rw [mk_v]
      rw [x113_114, if_neg (by rw [nI_ltI (by omega) (by omega)]; omega)]
      rw [x113_117, x113_122]
      exact k113_l hs hb h12 hl2 g (s_len σ b - 1) 1 n ss m _ (by omega) (Nat.le_refl _) hn hm
theorem k109 (hs : q_St σ) (hb : b < σ 0) (hw : w ≤ 3) (hn : n ≤ 6) (hm : HD m σ n ss t τ) (g : ∀ m' σ' n' ss', q_St σ' → n' ≤ 6 → HD m' σ' n' ss' t τ → Ψ (.inl (some (.int (nI 1)))) (u, ml_h m' lm)) : wp Ln xs 109 0 [.ref 1, .int (nI w), .int (nI b), .int x3, mj_hole, mj_hole, mj_hole, mj_hole, mj_hole, mj_hole, mj_hole, mj_hole] [] (u, ml_h m lm) Ψ := by
  have h0 := hs.1
  have k0 := h0.1
  have hl := h0.2.2.1 b hb
  have hT := s_tot_le h0
  have hend := s_end_le hb
  have hw4 : w = 0 ∨ w = 1 ∨ w = 2 ∨ w = 3 := by omega
  rcases hw4 with rfl | rfl | rfl | rfl
  · have h1 := s_wa_okk h0 hb
    have e0 : s_wa σ b 0 = σ 0 := s_wa_o (by omega) (by omega) (by omega)
    have hb1 : b < s_wa σ b 0 := by omega
    have ec : q_col (s_val (s_wa σ b)) (s_tot (s_wa σ b)) = q_col (s_val σ) (s_tot σ) := by
      rw [s_wa_tot (by omega) k0]
      exact q_col_c _ (fun i _ => s_wa_val (by omega))
    rw [x109_0]
    refine k56_1 h0 hm hb fun m hm => ?_
    rw [mk_v, x109_6]
    refine k34_0 h0 hm fun m hm => ?_
    rw [mk_v, x109_13]
    refine k34_1 h0 hm fun m hm => ?_
    rw [mk_v, x109_20]
    refine k34_3 h0 hm fun m hm => ?_
    rw [mk_v, x109_27]
    refine k107 h0 hm fun m hm => ?_
    rw [mk_v, x109_33, if_neg (by decide)]
    rw [x109_39]
    refine k10 h0 hm hb fun m hm => ?_
    rw [mk_v, x109_44]
    refine k34_3 h1 hm fun m hm => ?_
    rw [mk_v, x109_51, if_neg (fun z => z (q_wa_wgI h0 hb))]
    rw [x109_59]
    refine k105 h1 hm hb1 (q_wa_An (by omega)) fun m hm => ?_
    rw [mk_v, x109_64, if_neg (by decide)]
    rw [x109_67]
    refine k107 h1 hm fun m hm => ?_
    rw [mk_v, ec]
    rw [x109_71, if_neg (fun z => z (q_cmp _))]
    rw [x109_77]
    exact g m _ _ _ ⟨h1, q_wa_J0 h0 hb hs.2⟩ (q_nx hn) hm
  · by_cases c1 : b = σ 0 - 1
    · rw [x109_0]
      refine k56_1 h0 hm hb fun m hm => ?_
      rw [mk_v, x109_6]
      refine k34_0 h0 hm fun m hm => ?_
      rw [mk_v, x109_13]
      refine k34_1 h0 hm fun m hm => ?_
      rw [mk_v, x109_20]
      refine k34_3 h0 hm fun m hm => ?_
      rw [mk_v, x109_27]
      refine k107 h0 hm fun m hm => ?_
      rw [mk_v, x109_33, if_pos (by decide)]
      rw [x109_83, if_neg (by decide)]
      rw [x109_88, pk_sub (show 1 ≤ σ 0 by omega), if_pos (by rw [← c1])]
      rw [x109_112]
      exact g m _ _ _ hs hn hm
    · have hb1 : b + 1 < σ 0 := by omega
      have hl1 := h0.2.2.1 (b + 1) hb1
      by_cases c2 : s_len σ b + s_len σ (b + 1) ≤ 16
      · have h1 := s_jn_ok h0 hb1 c2
        have e0 := q_jn_0 h0 hb1
        have hb2 : b < s_jn σ b 0 := by omega
        have ec : q_col (s_val (s_jn σ b)) (s_tot (s_jn σ b)) = q_col (s_val σ) (s_tot σ) := by
          rw [q_jn_tot h0 hb1]
          exact q_col_c _ (fun i _ => q_jn_val h0 hb1)
        have hA : q_An (s_jn σ b) b := q_wa_An (by omega)
        rw [x109_0]
        refine k56_1 h0 hm hb fun m hm => ?_
        rw [mk_v, x109_6]
        refine k34_0 h0 hm fun m hm => ?_
        rw [mk_v, x109_13]
        refine k34_1 h0 hm fun m hm => ?_
        rw [mk_v, x109_20]
        refine k34_3 h0 hm fun m hm => ?_
        rw [mk_v, x109_27]
        refine k107 h0 hm fun m hm => ?_
        rw [mk_v, x109_33, if_pos (by decide)]
        rw [x109_83, if_neg (by decide)]
        rw [x109_88, pk_sub (show 1 ≤ σ 0 by omega), if_neg (by rw [nI_eq (by omega) (by omega)]; omega)]
        rw [x109_96, nI_add]
        refine k56_1 h0 hm hb1 fun m hm => ?_
        rw [mk_v, x109_106, nI_add, if_pos (by rw [nI_leI (by omega) (by omega)]; omega)]
        rw [x109_114]
        refine k110 h0 hm hb1 c2 fun m hm => ?_
        rw [mk_v, x109_119]
        refine k56_0 h1 hm hb2 fun m hm => ?_
        rw [mk_v, x109_129, if_neg (fun z => z rfl)]
        rw [x109_132]
        refine k34_1 h1 hm fun m hm => ?_
        rw [mk_v, x109_137, if_neg (fun z => z (by rw [e0, pk_sub (show 1 ≤ σ 0 by omega)]))]
        rw [x109_144]
        refine k105 h1 hm hb2 hA fun m hm => ?_
        rw [mk_v, x109_149, if_neg (by decide)]
        rw [x109_152]
        refine k107 h1 hm fun m hm => ?_
        rw [mk_v, ec]
        rw [x109_156, if_neg (fun z => z (q_cmp _))]
        rw [x109_162]
        exact g m _ _ _ ⟨h1, q_jn_J h0 hb1 c2 hs.2⟩ (q_nx hn) hm
      · rw [x109_0]
        refine k56_1 h0 hm hb fun m hm => ?_
        rw [mk_v, x109_6]
        refine k34_0 h0 hm fun m hm => ?_
        rw [mk_v, x109_13]
        refine k34_1 h0 hm fun m hm => ?_
        rw [mk_v, x109_20]
        refine k34_3 h0 hm fun m hm => ?_
        rw [mk_v, x109_27]
        refine k107 h0 hm fun m hm => ?_
        rw [mk_v, x109_33, if_pos (by decide)]
        rw [x109_83, if_neg (by decide)]
        rw [x109_88, pk_sub (show 1 ≤ σ 0 by omega), if_neg (by rw [nI_eq (by omega) (by omega)]; omega)]
        rw [x109_96, nI_add]
        refine k56_1 h0 hm hb1 fun m hm => ?_
        rw [mk_v, x109_106, nI_add, if_neg (by rw [nI_leI (by omega) (by omega)]; omega)]
        rw [x109_112]
        exact g m _ _ _ hs hn hm
  · rw [x109_0]
    refine k56_1 h0 hm hb fun m hm => ?_
    rw [mk_v, x109_6]
    refine k34_0 h0 hm fun m hm => ?_
    rw [mk_v, x109_13]
    refine k34_1 h0 hm fun m hm => ?_
    rw [mk_v, x109_20]
    refine k34_3 h0 hm fun m hm => ?_
    rw [mk_v, x109_27]
    refine k107 h0 hm fun m hm => ?_
    rw [mk_v, x109_33, if_pos (by decide)]
    rw [x109_83, if_pos (by decide)]
    rw [x109_168, if_neg (by decide)]
    rw [x109_173]
    refine k113 hs hb hn hm fun m σ' n ss hs hn hm => ?_
    rw [mk_v, x109_181 rfl]
    exact g m _ _ _ hs hn hm
  · have h1 := s_dp_ok h0 hb
    have hJ := q_dp_J h0 hb hs.2
    have e0 := s_dp_0 (σ := σ) (b := b)
    have et := s_dp_tot k0 hb
    by_cases c1 : s_tot σ ≤ s_sum (s_len σ) b + s_len σ b
    · rw [x109_0]
      refine k56_1 h0 hm hb fun m hm => ?_
      rw [mk_v, x109_6]
      refine k34_0 h0 hm fun m hm => ?_
      rw [mk_v, x109_13]
      refine k34_1 h0 hm fun m hm => ?_
      rw [mk_v, x109_20]
      refine k34_3 h0 hm fun m hm => ?_
      rw [mk_v, x109_27]
      refine k107 h0 hm fun m hm => ?_
      rw [mk_v, x109_33, if_pos (by decide)]
      rw [x109_83, if_pos (by decide)]
      rw [x109_168, if_pos (by decide)]
      rw [x109_182]
      refine k56_9 h0 hm hb fun m hm => ?_
      rw [mk_v, x109_189, nI_add, if_pos (by rw [nI_leI (by omega) (by omega)]; omega)]
      rw [x109_214, x109_215]
      refine k118 h0 hm hb fun m hm => ?_
      rw [mk_v, x109_222, if_neg (fun z => z rfl)]
      rw [x109_227]
      refine k34_0 h1 hm fun m hm => ?_
      rw [mk_v, x109_232, if_neg (fun z => z (by rw [et, pk_sub (show s_len σ b ≤ s_tot σ by omega)]))]
      rw [x109_240]
      refine k34_1 h1 hm fun m hm => ?_
      rw [mk_v, x109_245, if_neg (fun z => z (by rw [e0, pk_sub (show 1 ≤ σ 0 by omega)]))]
      rw [x109_252, if_pos (by decide)]
      rw [x109_269]
      exact g m _ _ _ ⟨h1, hJ⟩ (q_nx hn) hm
    · have hk : s_sum (s_len σ) b + s_len σ b < s_tot σ := by omega
      have hv := h0.2.2.2.1 _ hk
      have hk1 : s_sum (s_len σ) b < s_tot (s_dp σ b) := by omega
      rw [x109_0]
      refine k56_1 h0 hm hb fun m hm => ?_
      rw [mk_v, x109_6]
      refine k34_0 h0 hm fun m hm => ?_
      rw [mk_v, x109_13]
      refine k34_1 h0 hm fun m hm => ?_
      rw [mk_v, x109_20]
      refine k34_3 h0 hm fun m hm => ?_
      rw [mk_v, x109_27]
      refine k107 h0 hm fun m hm => ?_
      rw [mk_v, x109_33, if_pos (by decide)]
      rw [x109_83, if_pos (by decide)]
      rw [x109_168, if_pos (by decide)]
      rw [x109_182]
      refine k56_9 h0 hm hb fun m hm => ?_
      rw [mk_v, x109_189, nI_add, if_neg (by rw [nI_leI (by omega) (by omega)]; omega)]
      rw [x109_201, nI_add]
      refine k72_0 h0 hm hk fun m hm => ?_
      rw [mk_v, x109_211, x109_215]
      refine k118 h0 hm hb fun m hm => ?_
      rw [mk_v, x109_222, if_neg (fun z => z rfl)]
      rw [x109_227]
      refine k34_0 h1 hm fun m hm => ?_
      rw [mk_v, x109_232, if_neg (fun z => z (by rw [et, pk_sub (show s_len σ b ≤ s_tot σ by omega)]))]
      rw [x109_240]
      refine k34_1 h1 hm fun m hm => ?_
      rw [mk_v, x109_245, if_neg (fun z => z (by rw [e0, pk_sub (show 1 ≤ σ 0 by omega)]))]
      rw [x109_252, if_neg (by rw [nI_ltI (by omega) (by omega)]; omega)]
      rw [x109_257]
      refine k72_0 h1 hm hk1 fun m hm => ?_
      rw [mk_v, q_dp_v h0 hb hk]
      rw [x109_264, if_neg (fun z => z rfl)]
      rw [x109_269]
      exact g m _ _ _ ⟨h1, hJ⟩ (q_nx hn) hm
end LW5
