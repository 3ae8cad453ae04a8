/-! ===== the law: its loop ===== -/
theorem s_and31 (x : Int32) : ∃ k, k < 32 ∧ x &&& nI 31 = nI k := by
  refine ⟨x.toBitVec.toNat % 32, Nat.mod_lt _ (by decide), Int32.toBitVec_inj.1 (BitVec.eq_of_toNat_eq ?_)⟩
  show (x.toBitVec &&& 31#32).toNat = (BitVec.ofNat 32 (x.toBitVec.toNat % 32)).toNat
  rw [BitVec.toNat_and, BitVec.toNat_ofNat, BitVec.toNat_ofNat]
  have e := Nat.and_two_pow_sub_one_eq_mod x.toBitVec.toNat 5
  rw [show 31 % 2 ^ 32 = 2 ^ 5 - 1 from rfl, e]
  omega
section LAWLOOP
variable {Ln : Nat} {xs : Nat → Int32} {u : mj_U} {m : ml_M} {lm : ml_J} {σ τ : s_S} {n t tl j : Nat} {ss : Nat → s_S} {tx : Nat → Nat} {v5 v6 v7 : Value}
def s_go (Ln : Nat) (xs : Nat → Int32) (k j : Nat) (v5 v6 v7 : Value) (u : mj_U) (m : ml_M) (lm : ml_J) : Prop := ∃ u1 m2 lm2 w5 w6 w7, INV m2 ∧ s_ule u u1 ∧ ∀ Φ : mj_R → mj_W → Prop, wp Ln xs 0 39 [.ref 0, .ref 1, .ref 72, .ref 81, .int (nI j), v5, v6, v7, mj_hole] [.int (nI k)] (u, ml_h m lm) Φ = wp Ln xs 0 1617 [.ref 0, .ref 1, .ref 72, .ref 81, .int (nI j), w5, w6, w7, mj_hole] [] (u1, ml_h m2 lm2) Φ
theorem st_39 {pc k : Nat} (e : ∀ Φ : mj_R → mj_W → Prop, wp Ln xs 0 39 [.ref 0, .ref 1, .ref 72, .ref 81, .int (nI j), v5, v6, v7, mj_hole] [.int (nI k)] (u, ml_h m lm) Φ = wp Ln xs 0 pc [.ref 0, .ref 1, .ref 72, .ref 81, .int (nI j), v5, v6, v7, mj_hole] [] (u, ml_h m lm) Φ) (s : s_step Ln xs pc j v5 v6 v7 u m lm) : s_go Ln xs k j v5 v6 v7 u m lm := by
  obtain ⟨u1, m2, lm2, w5, w6, w7, a, b, c⟩ := s
  exact ⟨u1, m2, lm2, w5, w6, w7, a, b, fun Φ => (e Φ).trans (c Φ)⟩
theorem st_nop (h : INVs m σ n ss t τ tl tx) : s_step Ln xs 1617 j v5 v6 v7 u m lm := ⟨u, m, lm, v5, v6, v7, ⟨_, _, _, _, _, _, _, h⟩, Or.inl rfl, fun _ => rfl⟩
theorem st_all (h : INVs m σ n ss t τ tl tx) (hj : j + 4 ≤ Ln) (hL : Ln < 2 ^ 31) : ∀ k, k < 32 → s_go Ln xs k j v5 v6 v7 u m lm
  | 0, _ => st_39 (fun Φ => x0_39_0) (st_0 h hj hL)
  | 1, _ => st_39 (fun Φ => x0_39_1) (st_1 h hj hL)
  | 2, _ => st_39 (fun Φ => x0_39_2) (st_2 h hj hL)
  | 3, _ => st_39 (fun Φ => x0_39_3) (st_3 h hj hL)
  | 4, _ => st_39 (fun Φ => x0_39_4) (st_4 h hj hL)
  | 5, _ => st_39 (fun Φ => x0_39_5) (st_5 h hj hL)
  | 6, _ => st_39 (fun Φ => x0_39_6) (st_6 h hj hL)
  | 7, _ => st_39 (fun Φ => x0_39_7) (st_7 h hj hL)
  | 8, _ => st_39 (fun Φ => x0_39_8) (st_8 h hj hL)
  | 9, _ => st_39 (fun Φ => x0_39_9) (st_9 h)
  | 10, _ => st_39 (fun Φ => x0_39_10) (st_10 h)
  | 11, _ => st_39 (fun Φ => x0_39_11) (st_11 h hj hL)
  | 12, _ => st_39 (fun Φ => x0_39_12) (st_12 h)
  | 13, _ => st_39 (fun Φ => x0_39_13) (st_13 h hj hL)
  | 14, _ => st_39 (fun Φ => x0_39_14) (st_14 h hj hL)
  | 15, _ => st_39 (fun Φ => x0_39_15) (st_15 h hj hL)
  | 16, _ => st_39 (fun Φ => x0_39_16) (st_16 h hj hL)
  | 17, _ => st_39 (fun Φ => x0_39_17) (st_17 h hj hL)
  | 18, _ => st_39 (fun Φ => x0_39_18) (st_18 h hj hL)
  | 19, _ => st_39 (fun Φ => x0_39_19) (st_19 h hj hL)
  | 20, _ => st_39 (fun Φ => x0_39_20) (st_20 h hj hL)
  | 21, _ => st_39 (fun Φ => x0_39_21) (st_21 h hj hL)
  | 22, _ => st_39 (fun Φ => x0_39_22) (st_22 h hj hL)
  | 23, _ => st_39 (fun Φ => x0_39_23) (st_23 h hj hL)
  | 24, _ => st_39 (fun Φ => x0_39_24) (st_24 h hj hL)
  | 25, _ => st_39 (fun Φ => x0_39_25) (st_25 h)
  | 26, _ => st_39 (fun Φ => x0_39_26) (st_26 h)
  | 27, _ => st_39 (fun Φ => x0_39_27) (st_27 h)
  | 28, _ => st_39 (fun Φ => x0_39_28) (st_nop h)
  | 29, _ => st_39 (fun Φ => x0_39_29) (st_nop h)
  | 30, _ => st_39 (fun Φ => x0_39_30) (st_nop h)
  | 31, _ => st_39 (fun Φ => x0_39_31) (st_nop h)
  | k + 32, hk => absurd hk (by omega)
theorem wp_mo {i pc : Nat} {L S : List Value} {w : mj_W} {Φ Ψ : mj_R → mj_W → Prop} (h : ∀ r w, Φ r w → Ψ r w) (k : wp Ln xs i pc L S w Φ) : wp Ln xs i pc L S w Ψ := by
  obtain ⟨f, r, w', a, b⟩ := k
  exact ⟨f, r, w', a, h _ _ b⟩
theorem law_stop (hL : Ln ≤ 2048) (hj : Ln < j + 4) (hj2 : j ≤ 2048) : nI Ln - nI 4 < nI j := by
  by_cases c : 4 ≤ Ln
  · rw [pk_sub c]
    exact nI_lt (by omega) (by omega)
  · have e : nI Ln - nI 4 < nI 0 := (by decide : ∀ z, z < 4 → nI z - nI 4 < nI 0) Ln (by omega)
    exact Int32.lt_of_lt_of_le e (nI_le (Nat.zero_le _) (by omega))
theorem law_l (hL : Ln ≤ 2048) : ∀ (d j : Nat) (u : mj_U) (m : ml_M) (lm : ml_J) (v5 v6 v7 : Value), Ln < j + 4 * (d + 1) → j ≤ 2048 → INV m → wp Ln xs 0 23 [.ref 0, .ref 1, .ref 72, .ref 81, .int (nI j), v5, v6, v7, mj_hole] [] (u, ml_h m lm) (fun r w => r = .inl (some (.int 1)) ∧ w.1.1 + w.1.2.1 ≤ u.1 + u.2.1 + d ∧ w.1.2.2 ≤ u.2.2 + 6 * d)
  | 0, j, u, m, lm, v5, v6, v7, h1, h2, hI => by
    rw [x0_23, if_pos (law_stop hL (by omega) h2), x0_1623]
    exact ⟨rfl, Nat.le_refl _, Nat.le_refl _⟩
  | d + 1, j, u, m, lm, v5, v6, v7, h1, h2, hI => by
    by_cases c : Ln < j + 4
    · rw [x0_23, if_pos (law_stop hL c h2), x0_1623]
      exact ⟨rfl, by show u.1 + u.2.1 ≤ _; omega, by show u.2.2 ≤ _; omega⟩
    · obtain ⟨σ, n, ss, t, τ, tl, tx, h⟩ := hI
      obtain ⟨k, hk, ek⟩ := s_and31 (xs j)
      obtain ⟨u1, m2, lm2, w5, w6, w7, hI2, hu, go⟩ := st_all (Ln := Ln) (xs := xs) (u := u) (lm := lm) (v5 := v5) (v6 := v6) (v7 := v7) (j := j) h (by omega) (by omega) k hk
      have ih := law_l hL d (j + 4) u1 m2 lm2 w5 w6 w7 (by omega) (by omega) hI2
      rw [x0_23, pk_sub (by omega), if_neg (nI_nlt (by omega) (by omega)), x0_32, x0_35 (by omega) (by omega), ek, go, x0_1617, nI_add]
      refine wp_mo ?_ ih
      intro r w hw
      obtain ⟨a1, a2, a3⟩ := hw
      refine ⟨a1, ?_, ?_⟩
      · rcases hu with rfl | rfl
        · omega
        · simp only [] at a2 a3
          omega
      · rcases hu with rfl | rfl
        · omega
        · simp only [] at a2 a3
          omega
end LAWLOOP
