/-! ===== p31's law: an act, the law ===== -/
theorem q_wg_b {σ : s_S} (h0 : s_ok σ) : s_wg σ < 2 ^ 20 := by
  have h1 := s_sum_le (f := s_rom σ) (c := 1000) (σ 0) (fun i hi => (h0.2.2.1 i hi).2.2.2)
  have h2 := h0.1
  have h3 := h0.2.1
  unfold s_wg
  omega
section LW6
variable {Ln : Nat} {xs : Nat → Int32} {u : mj_U} {m : ml_M} {lm : ml_J} {Ψ : mj_R → mj_W → Prop} {σ τ : s_S} {n t k b w p q v : Nat} {ss : Nat → s_S} {x1 x2 x3 x4 x5 x6 x7 x8 : Int32} {y6 : Int64}
theorem k92_s (hs : q_St σ) (hn : n ≤ 6) (hm : HD m σ n ss t τ) (hw : w < 3) (hv : s_isv w v) (g : ∀ m' σ' n' ss' t' τ', q_St σ' → n' ≤ 6 → HD m' σ' n' ss' t' τ' → Ψ (.inl (some (.int (nI 1)))) (u, ml_h m' lm)) : wp Ln xs 92 208 [.ref 1, .int x1, .int x2, .int x3, .int (nI w), mj_hole, mj_hole, mj_hole, mj_hole] [.int (nI v)] (u, ml_h m lm) Ψ := by
  have h0 := hs.1
  have h1 := s_st_ok h0 hw hv
  have hJ : q_J (s_upd σ (2 + w) v) q_n := q_upd_J (by omega) h0 hs.2
  rw [x92_208]
  refine k61 hm hw fun m hm => ?_
  rw [mk_v, x92_216]
  refine k34_3 h0 hm fun m hm => ?_
  rw [mk_v, x92_223]
  refine k30 h0 hm hw hv fun m hm => ?_
  rw [mk_v, x92_233, if_neg (fun z => z rfl)]
  rw [x92_238]
  refine k61 hm hw fun m hm => ?_
  rw [mk_v, s_upd_s]
  rw [x92_244, if_neg (fun z => z rfl)]
  rw [x92_249]
  refine k34_3 h1 hm fun m hm => ?_
  rw [mk_v, q_st_wg hw]
  rw [x92_254, if_neg (fun z => z rfl)]
  rw [x92_259]
  exact g m _ _ _ _ _ ⟨h1, hJ⟩ (q_nx hn) hm
theorem k92 (hs : q_St σ) (hn : n ≤ 6) (hm : HD m σ n ss t τ) (g : ∀ m' σ' n' ss' t' τ', q_St σ' → n' ≤ 6 → HD m' σ' n' ss' t' τ' → Ψ (.inl (some (.int (nI 1)))) (u, ml_h m' lm)) : wp Ln xs 92 0 [.ref 1, .int x1, .int x2, mj_hole, mj_hole, mj_hole, mj_hole, mj_hole, mj_hole] [] (u, ml_h m lm) Ψ := by
  have h0 := hs.1
  have k0 := h0.1
  have k1 := h0.2.1
  have hT := s_tot_le h0
  obtain ⟨r, hr, er⟩ := sp79 (Ln := Ln) (xs := xs) x1 (N := 18) (by decide) (by decide)
  have hw9 : ∀ (m : ml_M), HD m σ n ss t τ → wp Ln xs 92 21 [.ref 1, .int x1, .int x2, .int (nI r), mj_hole, mj_hole, mj_hole, mj_hole, mj_hole] [] (u, ml_h m lm) Ψ := fun m hm => by
    rw [x92_21]
    refine k93 hs hn hm fun m σ n ss hs _ hn hm => ?_
    rw [mk_v, x92_26 rfl]
    exact g m _ _ _ _ _ hs hn hm
  by_cases c7 : r < 7
  · rw [x92_0, er, mk_v]
    rw [x92_6, if_pos (by rw [nI_ltI (by omega) (by omega)]; omega)]
    exact hw9 m hm
  · by_cases cT : s_tot σ = 0
    · rw [x92_0, er, mk_v]
      rw [x92_6, if_neg (by rw [nI_ltI (by omega) (by omega)]; omega)]
      rw [x92_13]
      refine k34_0 h0 hm fun m hm => ?_
      rw [mk_v, x92_18, if_neg (fun z => z (by rw [cT]))]
      exact hw9 m hm
    · by_cases c11 : r < 11
      · obtain ⟨k, hk, ek⟩ := sp79 (Ln := Ln) (xs := xs) (x2 >>> (nI 3 &&& 31)) (N := s_tot σ) (by omega) (by omega)
        by_cases d7 : r = 7
        · have hv := h0.2.2.2.1 k hk
          rw [x92_0, er, mk_v]
          rw [x92_6, if_neg (by rw [nI_ltI (by omega) (by omega)]; omega)]
          rw [x92_13]
          refine k34_0 h0 hm fun m hm => ?_
          rw [mk_v, x92_18, if_pos (by rw [nI_eq (by omega) (by omega)]; omega)]
          rw [x92_27, if_neg (by rw [nI_leI (by omega) (by omega)]; omega)]
          rw [x92_33]
          refine k34_0 h0 hm fun m hm => ?_
          rw [mk_v, x92_42, ek, mk_v]
          rw [x92_45, if_neg (fun z => z (by rw [d7]))]
          rw [x92_51]
          refine k34_0 h0 hm fun m hm => ?_
          rw [mk_v, x92_60, ek, mk_v]
          rw [x92_63]
          refine k72_0 h0 hm hk fun m hm => ?_
          rw [mk_v]
          rw [x92_67, x92_77]
          refine k99 hs hn hm hk hv fun m σ n ss hs hn hm => ?_
          rw [mk_v, x92_80 rfl]
          exact g m _ _ _ _ _ hs hn hm
        · obtain ⟨v, hv, ev⟩ := sp94 (Ln := Ln) (xs := xs) (x2 >>> (nI 6 &&& 31))
          rw [x92_0, er, mk_v]
          rw [x92_6, if_neg (by rw [nI_ltI (by omega) (by omega)]; omega)]
          rw [x92_13]
          refine k34_0 h0 hm fun m hm => ?_
          rw [mk_v, x92_18, if_pos (by rw [nI_eq (by omega) (by omega)]; omega)]
          rw [x92_27, if_neg (by rw [nI_leI (by omega) (by omega)]; omega)]
          rw [x92_33]
          refine k34_0 h0 hm fun m hm => ?_
          rw [mk_v, x92_42, ek, mk_v]
          rw [x92_45, if_pos (by rw [nI_eq (by omega) (by omega)]; omega)]
          rw [x92_70, ev, mk_v]
          rw [x92_77]
          refine k99 hs hn hm hk hv fun m σ n ss hs hn hm => ?_
          rw [mk_v, x92_80 rfl]
          exact g m _ _ _ _ _ hs hn hm
      · by_cases d11 : r = 11
        · subst d11
          by_cases c1 : σ 1 = 0
          · rw [x92_0, er, mk_v]
            rw [x92_6, if_neg (by decide)]
            rw [x92_13]
            refine k34_0 h0 hm fun m hm => ?_
            rw [mk_v, x92_18, if_pos (by rw [nI_eq (by omega) (by omega)]; omega)]
            rw [x92_27, if_pos (by decide)]
            rw [x92_81, if_neg (fun z => z rfl)]
            rw [x92_87]
            refine k34_1 h0 hm fun m hm => ?_
            rw [mk_v, x92_92]
            refine k34_2 h0 hm fun m hm => ?_
            rw [mk_v, x92_99, if_pos (by rw [c1])]
            rw [x92_140]
            exact g m _ _ _ _ _ hs hn hm
          · by_cases c12 : σ 0 = 12
            · rw [x92_0, er, mk_v]
              rw [x92_6, if_neg (by decide)]
              rw [x92_13]
              refine k34_0 h0 hm fun m hm => ?_
              rw [mk_v, x92_18, if_pos (by rw [nI_eq (by omega) (by omega)]; omega)]
              rw [x92_27, if_pos (by decide)]
              rw [x92_81, if_neg (fun z => z rfl)]
              rw [x92_87]
              refine k34_1 h0 hm fun m hm => ?_
              rw [mk_v, x92_92]
              refine k34_2 h0 hm fun m hm => ?_
              rw [mk_v, x92_99, if_neg (by rw [nI_eq (by omega) (by omega)]; omega)]
              rw [x92_102, if_pos (by rw [c12])]
              rw [x92_140]
              exact g m _ _ _ _ _ hs hn hm
            · have h12 : σ 0 < 12 := by omega
              have h1 := s_ct_ok (s_ok_6 h0) (by omega) h12
              have hJ := q_ct_J (s_ok_6 h0) (by omega) h12 hs.2
              have hb1 : σ 0 < s_ct σ 0 := by rw [q_ct_0 h12]; omega
              rw [x92_0, er, mk_v]
              rw [x92_6, if_neg (by decide)]
              rw [x92_13]
              refine k34_0 h0 hm fun m hm => ?_
              rw [mk_v, x92_18, if_pos (by rw [nI_eq (by omega) (by omega)]; omega)]
              rw [x92_27, if_pos (by decide)]
              rw [x92_81, if_neg (fun z => z rfl)]
              rw [x92_87]
              refine k34_1 h0 hm fun m hm => ?_
              rw [mk_v, x92_92]
              refine k34_2 h0 hm fun m hm => ?_
              rw [mk_v, x92_99, if_neg (by rw [nI_eq (by omega) (by omega)]; omega)]
              rw [x92_102, if_neg (by rw [nI_eq (by omega) (by omega)]; omega)]
              rw [x92_109]
              refine k104 h0 hm (by omega) h12 fun m hm => ?_
              rw [mk_v, x92_113]
              refine k56_0 h1 hm hb1 fun m hm => ?_
              rw [mk_v, x92_120, if_neg (fun z => z rfl)]
              rw [x92_123]
              refine k105 h1 hm hb1 (q_ct_An h12) fun m hm => ?_
              rw [mk_v, x92_129, if_neg (by decide)]
              rw [x92_132]
              refine k34_2 h1 hm fun m hm => ?_
              rw [mk_v, x92_137, if_neg (fun z => z (by rw [q_ct_1 h12]))]
              rw [x92_140]
              exact g m _ _ _ _ _ ⟨h1, hJ⟩ (q_nx hn) hm
        · by_cases d12 : r = 12
          · subst d12
            obtain ⟨a, ha, ea⟩ := sp79 (Ln := Ln) (xs := xs) x2 (N := 3) (by decide) (by decide)
            obtain ⟨b, hb, eb⟩ := sp79 (Ln := Ln) (xs := xs) (x2 >>> (nI 2 &&& 31)) (N := 16) (by decide) (by decide)
            obtain ⟨c, hc, ec⟩ := sp79 (Ln := Ln) (xs := xs) (x2 >>> (nI 2 &&& 31)) (N := 15) (by decide) (by decide)
            have ha3 : a = 0 ∨ a = 1 ∨ a = 2 := by omega
            rcases ha3 with rfl | rfl | rfl
            · rw [x92_0, er, mk_v]
              rw [x92_6, if_neg (by decide)]
              rw [x92_13]
              refine k34_0 h0 hm fun m hm => ?_
              rw [mk_v, x92_18, if_pos (by rw [nI_eq (by omega) (by omega)]; omega)]
              rw [x92_27, if_pos (by decide)]
              rw [x92_81, if_pos (by decide)]
              rw [x92_146, if_neg (fun z => z rfl)]
              rw [x92_152, ea, mk_v]
              rw [x92_157, if_neg (fun z => z rfl)]
              rw [x92_164, eb, mk_v]
              rw [x92_173, nI_add]
              exact k92_s hs hn hm (by decide) (Or.inl ⟨rfl, by omega, by omega⟩) g
            · rw [x92_0, er, mk_v]
              rw [x92_6, if_neg (by decide)]
              rw [x92_13]
              refine k34_0 h0 hm fun m hm => ?_
              rw [mk_v, x92_18, if_pos (by rw [nI_eq (by omega) (by omega)]; omega)]
              rw [x92_27, if_pos (by decide)]
              rw [x92_81, if_pos (by decide)]
              rw [x92_146, if_neg (fun z => z rfl)]
              rw [x92_152, ea, mk_v]
              rw [x92_157, if_pos (by decide)]
              rw [x92_177, if_neg (fun z => z rfl)]
              rw [x92_183, ec, mk_v]
              rw [x92_192, nI_add]
              exact k92_s hs hn hm (by decide) (Or.inr (Or.inl ⟨rfl, by omega, by omega⟩)) g
            · rw [x92_0, er, mk_v]
              rw [x92_6, if_neg (by decide)]
              rw [x92_13]
              refine k34_0 h0 hm fun m hm => ?_
              rw [mk_v, x92_18, if_pos (by rw [nI_eq (by omega) (by omega)]; omega)]
              rw [x92_27, if_pos (by decide)]
              rw [x92_81, if_pos (by decide)]
              rw [x92_146, if_neg (fun z => z rfl)]
              rw [x92_152, ea, mk_v]
              rw [x92_157, if_pos (by decide)]
              rw [x92_177, if_pos (by decide)]
              rw [x92_196, eb, mk_v]
              rw [x92_206, pk_mul, nI_add]
              exact k92_s hs hn hm (by decide) (Or.inr (Or.inr ⟨rfl, by omega, by omega, by omega⟩)) g
          · by_cases d13 : r = 13
            · subst d13
              obtain ⟨v, hv, ev⟩ := sp94 (Ln := Ln) (xs := xs) (x2 >>> (nI 4 &&& 31))
              rw [x92_0, er, mk_v]
              rw [x92_6, if_neg (by decide)]
              rw [x92_13]
              refine k34_0 h0 hm fun m hm => ?_
              rw [mk_v, x92_18, if_pos (by rw [nI_eq (by omega) (by omega)]; omega)]
              rw [x92_27, if_pos (by decide)]
              rw [x92_81, if_pos (by decide)]
              rw [x92_146, if_pos (by decide)]
              rw [x92_265, if_neg (fun z => z rfl)]
              rw [x92_271]
              refine k106 h0 hm fun m hm => ?_
              rw [mk_v, x92_275]
              refine k34_3 h0 hm fun m hm => ?_
              rw [mk_v, x92_282]
              refine k107 h0 hm fun m hm => ?_
              rw [mk_v, x92_288]
              refine k34_0 h0 hm fun m hm => ?_
              rw [mk_v, x92_297, if_neg (fun z => z rfl)]
              rw [x92_300]
              refine k93 hs hn hm fun m σ1 n1 ss1 hs1 hT1 hn1 hm => ?_
              have h1 := hs1.1
              have hT2 := s_tot_le h1
              obtain ⟨k, hk, ek⟩ := sp79 (Ln := Ln) (xs := xs) (x2 >>> (nI 3 &&& 31)) (N := s_tot σ1) (by omega) (by omega)
              rw [mk_v]
              rw [x92_305, if_neg (by decide)]
              rw [x92_308]
              refine k34_0 h1 hm fun m hm => ?_
              rw [mk_v, x92_317, ek, mk_v]
              rw [x92_320, ev, mk_v]
              rw [x92_326]
              refine k99 hs1 hn1 hm hk hv fun m σ2 n2 ss2 hs2 hn2 hm => ?_
              rw [mk_v]
              rw [x92_329, if_neg (by decide)]
              rw [x92_332, x92_337, if_neg (by decide)]
              rw [x92_344]
              refine k108 hs2.1 h0 hm fun m hm => ?_
              rw [mk_v, x92_348, if_neg (fun z => z rfl)]
              rw [x92_353]
              refine k34_3 h0 hm fun m hm => ?_
              rw [mk_v, x92_358, if_neg (fun z => z rfl)]
              rw [x92_363]
              refine k107 h0 hm fun m hm => ?_
              rw [mk_v, x92_367, if_neg (fun z => z (q_cmp _))]
              rw [x92_373]
              exact g m _ _ _ _ _ hs (q_nx hn2) hm
            · by_cases c0 : σ 0 = 0
              · rw [x92_0, er, mk_v]
                rw [x92_6, if_neg (by rw [nI_ltI (by omega) (by omega)]; omega)]
                rw [x92_13]
                refine k34_0 h0 hm fun m hm => ?_
                rw [mk_v, x92_18, if_pos (by rw [nI_eq (by omega) (by omega)]; omega)]
                rw [x92_27, if_pos (by rw [nI_leI (by omega) (by omega)]; omega)]
                rw [x92_81, if_pos (by rw [nI_eq (by omega) (by omega)]; omega)]
                rw [x92_146, if_pos (by rw [nI_eq (by omega) (by omega)]; omega)]
                rw [x92_265, if_pos (by rw [nI_eq (by omega) (by omega)]; omega)]
                rw [x92_379]
                refine k34_1 h0 hm fun m hm => ?_
                rw [mk_v, x92_384, if_pos (by rw [c0])]
                rw [x92_408]
                exact g m _ _ _ _ _ hs hn hm
              · obtain ⟨b, hb, eb⟩ := sp79 (Ln := Ln) (xs := xs) x2 (N := σ 0) (by omega) (by omega)
                rw [x92_0, er, mk_v]
                rw [x92_6, if_neg (by rw [nI_ltI (by omega) (by omega)]; omega)]
                rw [x92_13]
                refine k34_0 h0 hm fun m hm => ?_
                rw [mk_v, x92_18, if_pos (by rw [nI_eq (by omega) (by omega)]; omega)]
                rw [x92_27, if_pos (by rw [nI_leI (by omega) (by omega)]; omega)]
                rw [x92_81, if_pos (by rw [nI_eq (by omega) (by omega)]; omega)]
                rw [x92_146, if_pos (by rw [nI_eq (by omega) (by omega)]; omega)]
                rw [x92_265, if_pos (by rw [nI_eq (by omega) (by omega)]; omega)]
                rw [x92_379]
                refine k34_1 h0 hm fun m hm => ?_
                rw [mk_v, x92_384, if_neg (by rw [nI_eq (by omega) (by omega)]; omega)]
                rw [x92_387, pk_sub (show 14 ≤ r by omega)]
                refine k34_1 h0 hm fun m hm => ?_
                rw [mk_v, x92_398, eb, mk_v]
                rw [x92_401]
                refine k109 hs hb (by omega) hn hm fun m σ n ss hs hn hm => ?_
                rw [mk_v]
                rw [x92_405, if_neg (by decide)]
                rw [x92_408]
                exact g m _ _ _ _ _ hs hn hm
/-- the blocks written anew one behind the other, at a sample of 16 -/
theorem k0_f {z : Nat} (hz1 : 1 ≤ z) (hz2 : z ≤ 16) (g : ∀ m', Ψ (.inl (some (.int (nI 1)))) (u, ml_h m' lm)) : ∀ (d b : Nat) (σ : s_S) (n : Nat) (ss : Nat → s_S) (m : ml_M) (v4 : Value), b + d = σ 0 → q_St σ → n ≤ 6 → HD m σ n ss t τ → σ 2 = 16 → (∀ c, c < b → q_An σ c) → wp Ln xs 0 104 [.ref 0, .ref 1, .int (nI z), .int (nI b), v4] [] (u, ml_h m lm) Ψ
  | 0, b, σ, n, ss, m, v4, e, hs, hn, hm, h16, hA => by
    have h0 := hs.1
    have k0 := h0.1
    have k1 := h0.2.1
    have hT := s_tot_le h0
    have hwg := q_wg_b h0
    obtain ⟨K1, K2, K3, K4, K5⟩ := q_K h0
    obtain rfl : b = σ 0 := by omega
    by_cases c1 : σ 1 = 0
    · have hf := q_fin h0 c1 h16 hA
      rw [x0_104]
      refine k34_1 h0 hm fun m hm => ?_
      rw [mk_v, x0_110, if_pos (by rw [nI_leI (by omega) (by omega)]; omega)]
      rw [x0_126, if_neg (by rw [nI_leI (by omega) (by omega)]; omega)]
      rw [x0_130]
      refine k34_2 h0 hm fun m hm => ?_
      rw [mk_v, x0_135, if_neg (by rw [nI_ltI (by omega) (by omega)]; omega)]
      rw [x0_138]
      refine k44_0 h0 hm fun m hm => ?_
      rw [mk_v, x0_143]
      refine k34_3 h0 hm fun m hm => ?_
      rw [mk_v, x0_148, if_neg (by rw [nI_ltI (by omega) (by omega)]; omega)]
      rw [x0_151]
      exact g m
    · rw [x0_104]
      refine k34_1 h0 hm fun m hm => ?_
      rw [mk_v, x0_110, if_pos (by rw [nI_leI (by omega) (by omega)]; omega)]
      rw [x0_126, if_neg (by rw [nI_leI (by omega) (by omega)]; omega)]
      rw [x0_130]
      refine k34_2 h0 hm fun m hm => ?_
      rw [mk_v, x0_135, if_pos (by rw [nI_ltI (by omega) (by omega)]; omega)]
      rw [x0_151]
      exact g m
  | d + 1, b, σ, n, ss, m, v4, e, hs, hn, hm, h16, hA => by
    have h0 := hs.1
    have k0 := h0.1
    have hb : b < σ 0 := by omega
    have e0 : s_wa σ b 0 = σ 0 := s_wa_o (by omega) (by omega) (by omega)
    have e2 : s_wa σ b 2 = σ 2 := s_wa_o (by omega) (by omega) (by omega)
    have e4 : s_wa σ b 4 = σ 4 := s_wa_o (by omega) (by omega) (by omega)
    rw [x0_104]
    refine k34_1 h0 hm fun m hm => ?_
    rw [mk_v, x0_110, if_neg (by rw [nI_leI (by omega) (by omega)]; omega)]
    rw [x0_113]
    refine k10 h0 hm hb fun m hm => ?_
    rw [mk_v, x0_118, nI_add]
    refine k0_f hz1 hz2 g d (b + 1) _ _ _ m _ (by omega) ⟨s_wa_okk h0 hb, q_wa_J0 h0 hb hs.2⟩ (q_nx hn) hm (by omega) (fun c hc => ?_)
    by_cases ce : c = b
    · subst ce
      exact q_wa_An (by omega)
    · exact q_eq_An (q_wa_eq (by omega) (by omega) ce) (h0.2.2.1 c (by omega)).1 e2 e4 (by omega) (hA c (by omega))
theorem k0_l (hL : Ln < 2 ^ 31) (g : ∀ m', Ψ (.inl (some (.int (nI 1)))) (u, ml_h m' lm)) : ∀ (d e : Nat) (σ : s_S) (n : Nat) (ss : Nat → s_S) (t : Nat) (τ : s_S) (m : ml_M), e + d = 30 → q_St σ → n ≤ 6 → HD m σ n ss t τ → wp Ln xs 0 39 [.ref 0, .ref 1, .int (nI e), mj_hole, mj_hole] [] (u, ml_h m lm) Ψ
  | 0, e, σ, n, ss, t, τ, m, he, hs, hn, hm => by
    have h0 := hs.1
    have hv : s_isv 0 16 := Or.inl ⟨rfl, by decide, by decide⟩
    have h1 := s_st_ok h0 (show 0 < 3 by decide) hv
    have hJ : q_J (s_upd σ (2 + 0) 16) q_n := q_upd_J (by omega) h0 hs.2
    obtain rfl : e = 30 := by omega
    rw [x0_39, if_pos (by decide)]
    rw [x0_94]
    refine k30 h0 hm (by decide) hv fun m hm => ?_
    rw [mk_v, x0_101]
    exact k0_f h0.2.2.2.2.1 h0.2.2.2.2.2.1 g (s_upd σ (2 + 0) 16 0) 0 _ _ _ m _ (by omega) ⟨h1, hJ⟩ (q_nx hn) hm (s_upd_s _ _ _) (fun c hc => absurd hc (Nat.not_lt_zero c))
  | d + 1, e, σ, n, ss, t, τ, m, he, hs, hn, hm => by
    obtain ⟨y1, e1⟩ := sp54 (Ln := Ln) (xs := xs) (k := 2 * e) hL (by omega)
    obtain ⟨y2, e2⟩ := sp54 (Ln := Ln) (xs := xs) (k := 2 * e + 1) hL (by omega)
    rw [x0_39, if_neg (by rw [nI_leI (by omega) (by omega)]; omega)]
    rw [x0_45, pk_mul, e1, mk_v]
    rw [x0_53, pk_mul, nI_add, e2, mk_v]
    rw [x0_62]
    refine k92 hs hn hm fun m σ n ss t τ hs hn hm => ?_
    rw [mk_v]
    rw [x0_65, if_neg (by decide)]
    rw [x0_68, pk_mul, nI_add, e2, mk_v]
    rw [x0_78]
    refine k55 hs.1 hm hs.2 fun m hm => ?_
    rw [mk_v]
    rw [x0_83, if_pos (by decide)]
    rw [x0_88, nI_add]
    exact k0_l hL g d (e + 1) σ n ss t τ m (by omega) hs hn hm
theorem k0 (hL : Ln < 2 ^ 31) (hs : q_St σ) (hT : s_tot σ = 0) (hn : n ≤ 6) (hm : HD m σ n ss t τ) (g : ∀ m', Ψ (.inl (some (.int (nI 1)))) (u, ml_h m' lm)) : wp Ln xs 0 8 [.ref 0, .ref 1, mj_hole, mj_hole, mj_hole] [] (u, ml_h m lm) Ψ := by
  have h0 := hs.1
  have eS : s_shv σ = FP.dconst1 := if_pos hT
  have eM : s_mnv σ = FP.fconst0 := if_pos hT
  have d1 : Op.cmpValue (FP.dcmp FP.dconst1 FP.dconst1) .l = nI 0 := by decide +kernel
  have d2 : Op.cmpValue (FP.fcmp FP.fconst0 FP.fconst0) .l = nI 0 := by decide +kernel
  rw [x0_8]
  refine k55 h0 hm hs.2 fun m hm => ?_
  rw [mk_v]
  rw [x0_14, if_neg (by decide)]
  rw [x0_17]
  refine k52 h0 hm fun m hm => ?_
  rw [mk_v, eS]
  rw [x0_21, if_neg (fun z => z d1)]
  rw [x0_26]
  refine k53 h0 hm fun m hm => ?_
  rw [mk_v, eM]
  rw [x0_30, if_pos (d2)]
  rw [x0_37]
  exact k0_l hL g 30 0 σ n ss t τ m rfl hs hn hm
end LW6
