/-! ===== Rows: what its methods come to ===== -/
section SPA
variable {Ln : Nat} {xs : Nat → Int32} {u : mj_U} {m : ml_M} {lm : ml_J} {Φ : mj_R → mj_W → Prop}
theorem sp_at {r k : Nat} (hr : ml_ia r) (h0 : r ≠ 0) (hk : k < ml_n r) : wp Ln xs 17 0 [.ref r, .int (nI k)] [] (u, ml_h m lm) Φ = Φ (.inl (some (.int (m r k)))) (u, ml_h m lm) := by
  have hn := ml_n_lt r
  rw [x17_0]
  simp (disch := omega) only [nI_leI, nI_ltI, nI_eq, nI_add, pk_sub, pk_mul, if_pos, if_neg, mk_v, mk_n, Nat.reduceAdd, Nat.reduceMul, Nat.reduceSub, Nat.reduceLT, Nat.reduceLeDiff, Nat.reduceEqDiff, if_true, if_false, not_true_eq_false, not_false_eq_true, Nat.add_zero, Nat.zero_add]
  rw [x17_4 hr h0]
  simp (disch := omega) only [nI_leI, nI_ltI, nI_eq, nI_add, pk_sub, pk_mul, if_pos, if_neg, mk_v, mk_n, Nat.reduceAdd, Nat.reduceMul, Nat.reduceSub, Nat.reduceLT, Nat.reduceLeDiff, Nat.reduceEqDiff, if_true, if_false, not_true_eq_false, not_false_eq_true, Nat.add_zero, Nat.zero_add, x17_10]
  rw [x17_12 hr h0 hk]
theorem sp_put {r k : Nat} {x : Int32} (hr : ml_ia r) (h0 : r ≠ 0) (hk : k < ml_n r) : wp Ln xs 29 0 [.ref r, .int (nI k), .int x] [] (u, ml_h m lm) Φ = Φ (.inl none) (u, ml_h (ml_s m r k x) lm) := by
  have hn := ml_n_lt r
  rw [x29_0]
  simp (disch := omega) only [nI_leI, nI_ltI, nI_eq, nI_add, pk_sub, pk_mul, if_pos, if_neg, mk_v, mk_n, Nat.reduceAdd, Nat.reduceMul, Nat.reduceSub, Nat.reduceLT, Nat.reduceLeDiff, Nat.reduceEqDiff, if_true, if_false, not_true_eq_false, not_false_eq_true, Nat.add_zero, Nat.zero_add]
  rw [x29_4 hr h0]
  simp (disch := omega) only [nI_leI, nI_ltI, nI_eq, nI_add, pk_sub, pk_mul, if_pos, if_neg, mk_v, mk_n, Nat.reduceAdd, Nat.reduceMul, Nat.reduceSub, Nat.reduceLT, Nat.reduceLeDiff, Nat.reduceEqDiff, if_true, if_false, not_true_eq_false, not_false_eq_true, Nat.add_zero, Nat.zero_add, x29_10]
  rw [x29_13 hr h0 hk]
/-- how many bits a number has -/
def s_wd (n : Nat) : Nat := if h : n = 0 then 0 else s_wd (n / 2) + 1
theorem s_wd0 : s_wd 0 = 0 := by
  rw [s_wd]
  rfl
theorem s_wdS {n : Nat} (h : n ≠ 0) : s_wd n = s_wd (n / 2) + 1 := by
  rw [s_wd, dif_neg h]
theorem s_shr {n k : Nat} (h : n < 2 ^ 31) (hk : k < 31) : nI n >>> (nI k &&& 31) = nI (n / 2 ^ k) := by
  refine pk_shrN h _ k ?_
  exact (by decide +kernel : ∀ k, k < 31 → ((nI k &&& 31).toBitVec.smod 32).toNat = k) k hk
theorem sp_width_l {n : Nat} (h : n < 2 ^ 31) : ∀ d k : Nat, k + d = 31 → wp Ln xs 28 4 [.int (nI n), .int (nI k), .int (nI k)] [] (u, ml_h m lm) Φ = Φ (.inl (some (.int (nI (k + s_wd (n / 2 ^ k)))))) (u, ml_h m lm)
  | 0, k, e => by
    obtain rfl : k = 31 := by omega
    rw [x28_4]
    simp (disch := omega) only [nI_leI, nI_ltI, nI_eq, nI_add, pk_sub, pk_mul, if_pos, if_neg, mk_v, mk_n, Nat.reduceAdd, Nat.reduceMul, Nat.reduceSub, Nat.reduceLT, Nat.reduceLeDiff, Nat.reduceEqDiff, if_true, if_false, not_true_eq_false, not_false_eq_true, Nat.add_zero, Nat.zero_add, x28_25]
    rw [Nat.div_eq_of_lt h, s_wd0, Nat.add_zero]
  | d + 1, k, e => by
    rw [x28_4]
    have hd : n / 2 ^ k ≤ n := Nat.div_le_self _ _
    by_cases h0 : n / 2 ^ k = 0
    · rw [if_neg (show ¬ nI 31 ≤ nI k by rw [nI_leI (by omega) (by omega)]; omega), x28_10, s_shr h (by omega), h0, if_pos (nI_le (Nat.le_refl 0) (by omega)), x28_25, s_wd0, Nat.add_zero]
    · rw [if_neg (show ¬ nI 31 ≤ nI k by rw [nI_leI (by omega) (by omega)]; omega), x28_10, s_shr h (by omega), if_neg (show ¬ nI (n / 2 ^ k) ≤ nI 0 by rw [nI_leI (Nat.lt_of_le_of_lt hd h) (by omega)]; exact fun z => h0 (Nat.le_zero.mp z)), x28_16, nI_add, sp_width_l h d (k + 1) (by omega), s_wdS h0, Nat.div_div_eq_div_mul, ← Nat.pow_succ]
      rw [show k + 1 + s_wd (n / 2 ^ (k + 1)) = k + (s_wd (n / 2 ^ (k + 1)) + 1) by omega]
theorem sp_width {n : Nat} (h : n < 2 ^ 31) : wp Ln xs 28 0 [.int (nI n), mj_hole, mj_hole] [] (u, ml_h m lm) Φ = Φ (.inl (some (.int (nI (s_wd n))))) (u, ml_h m lm) := by
  rw [x28_0, sp_width_l h 31 0 rfl, Nat.pow_zero, Nat.div_one, Nat.zero_add]
/-- from one number to the next: rises are even, falls odd -/
def s_st (a b : Nat) : Nat := if a ≤ b then 2 * (b - a) else 2 * (a - b) - 1
theorem sp_step {a b : Nat} (ha : a < 2 ^ 20) (hb : b < 2 ^ 20) : wp Ln xs 24 0 [.int (nI a), .int (nI b), mj_hole] [] (u, ml_h m lm) Φ = Φ (.inl (some (.int (nI (s_st a b))))) (u, ml_h m lm) := by
  rw [x24_0]
  by_cases h : a ≤ b
  · simp (disch := omega) only [nI_leI, nI_ltI, nI_eq, nI_add, pk_sub, pk_mul, if_pos, if_neg, mk_v, mk_n, Nat.reduceAdd, Nat.reduceMul, Nat.reduceSub, Nat.reduceLT, Nat.reduceLeDiff, Nat.reduceEqDiff, if_true, if_false, not_true_eq_false, not_false_eq_true, Nat.add_zero, Nat.zero_add, x24_0, x24_8, x24_14]
    rw [s_st, if_pos h]
  · rw [if_pos (show nI b - nI a < nI 0 from pk_sneg (by omega) (by omega)), x24_14, s_st, if_neg h]
    congr 5
    obtain ⟨c, hc, hc0⟩ : ∃ c, a = b + c ∧ 0 < c := ⟨a - b, by omega, by omega⟩
    subst hc
    rw [show b + c - b = c by omega, ← pk_sub (show 1 ≤ 2 * c by omega), ← pk_mul, ← nI_add]
    congr 1
    have e : nI b - (nI b + nI c) = -nI c := by
      rw [Int32.sub_eq_add_neg, Int32.neg_add, Int32.sub_eq_add_neg, ← Int32.add_assoc, Int32.add_right_neg, Int32.zero_add]
    rw [e, show (-2 : Int32) = -(nI 2) from by decide, Int32.neg_mul_neg]
end SPA
theorem at_3 {Ln : Nat} {xs : Nat → Int32} {u : mj_U} {m : ml_M} {lm : ml_J} {Φ : mj_R → mj_W → Prop} {k : Nat} (hk : k < 207) : wp Ln xs 17 0 [.ref 3, .int (nI k)] [] (u, ml_h m lm) Φ = Φ (.inl (some (.int (m 3 k)))) (u, ml_h m lm) := sp_at ml_ia_3 (by decide) (by rw [ml_n_3]; exact hk)
theorem put_3 {Ln : Nat} {xs : Nat → Int32} {u : mj_U} {m : ml_M} {lm : ml_J} {Φ : mj_R → mj_W → Prop} {k : Nat} {x : Int32} (hk : k < 207) : wp Ln xs 29 0 [.ref 3, .int (nI k), .int x] [] (u, ml_h m lm) Φ = Φ (.inl none) (u, ml_h (ml_s m 3 k x) lm) := sp_put ml_ia_3 (by decide) (by rw [ml_n_3]; exact hk)
theorem at_4 {Ln : Nat} {xs : Nat → Int32} {u : mj_U} {m : ml_M} {lm : ml_J} {Φ : mj_R → mj_W → Prop} {k : Nat} (hk : k < 12) : wp Ln xs 17 0 [.ref 4, .int (nI k)] [] (u, ml_h m lm) Φ = Φ (.inl (some (.int (m 4 k)))) (u, ml_h m lm) := sp_at ml_ia_4 (by decide) (by rw [ml_n_4]; exact hk)
theorem put_4 {Ln : Nat} {xs : Nat → Int32} {u : mj_U} {m : ml_M} {lm : ml_J} {Φ : mj_R → mj_W → Prop} {k : Nat} {x : Int32} (hk : k < 12) : wp Ln xs 29 0 [.ref 4, .int (nI k), .int x] [] (u, ml_h m lm) Φ = Φ (.inl none) (u, ml_h (ml_s m 4 k x) lm) := sp_put ml_ia_4 (by decide) (by rw [ml_n_4]; exact hk)
theorem at_5 {Ln : Nat} {xs : Nat → Int32} {u : mj_U} {m : ml_M} {lm : ml_J} {Φ : mj_R → mj_W → Prop} {k : Nat} (hk : k < 12) : wp Ln xs 17 0 [.ref 5, .int (nI k)] [] (u, ml_h m lm) Φ = Φ (.inl (some (.int (m 5 k)))) (u, ml_h m lm) := sp_at ml_ia_5 (by decide) (by rw [ml_n_5]; exact hk)
theorem put_5 {Ln : Nat} {xs : Nat → Int32} {u : mj_U} {m : ml_M} {lm : ml_J} {Φ : mj_R → mj_W → Prop} {k : Nat} {x : Int32} (hk : k < 12) : wp Ln xs 29 0 [.ref 5, .int (nI k), .int x] [] (u, ml_h m lm) Φ = Φ (.inl none) (u, ml_h (ml_s m 5 k x) lm) := sp_put ml_ia_5 (by decide) (by rw [ml_n_5]; exact hk)
theorem at_6 {Ln : Nat} {xs : Nat → Int32} {u : mj_U} {m : ml_M} {lm : ml_J} {Φ : mj_R → mj_W → Prop} {k : Nat} (hk : k < 12) : wp Ln xs 17 0 [.ref 6, .int (nI k)] [] (u, ml_h m lm) Φ = Φ (.inl (some (.int (m 6 k)))) (u, ml_h m lm) := sp_at ml_ia_6 (by decide) (by rw [ml_n_6]; exact hk)
theorem put_6 {Ln : Nat} {xs : Nat → Int32} {u : mj_U} {m : ml_M} {lm : ml_J} {Φ : mj_R → mj_W → Prop} {k : Nat} {x : Int32} (hk : k < 12) : wp Ln xs 29 0 [.ref 6, .int (nI k), .int x] [] (u, ml_h m lm) Φ = Φ (.inl none) (u, ml_h (ml_s m 6 k x) lm) := sp_put ml_ia_6 (by decide) (by rw [ml_n_6]; exact hk)
theorem at_7 {Ln : Nat} {xs : Nat → Int32} {u : mj_U} {m : ml_M} {lm : ml_J} {Φ : mj_R → mj_W → Prop} {k : Nat} (hk : k < 3) : wp Ln xs 17 0 [.ref 7, .int (nI k)] [] (u, ml_h m lm) Φ = Φ (.inl (some (.int (m 7 k)))) (u, ml_h m lm) := sp_at ml_ia_7 (by decide) (by rw [ml_n_7]; exact hk)
theorem put_7 {Ln : Nat} {xs : Nat → Int32} {u : mj_U} {m : ml_M} {lm : ml_J} {Φ : mj_R → mj_W → Prop} {k : Nat} {x : Int32} (hk : k < 3) : wp Ln xs 29 0 [.ref 7, .int (nI k), .int x] [] (u, ml_h m lm) Φ = Φ (.inl none) (u, ml_h (ml_s m 7 k x) lm) := sp_put ml_ia_7 (by decide) (by rw [ml_n_7]; exact hk)
theorem at_53 {Ln : Nat} {xs : Nat → Int32} {u : mj_U} {m : ml_M} {lm : ml_J} {Φ : mj_R → mj_W → Prop} {k : Nat} (hk : k < 60) : wp Ln xs 17 0 [.ref 53, .int (nI k)] [] (u, ml_h m lm) Φ = Φ (.inl (some (.int (m 53 k)))) (u, ml_h m lm) := sp_at ml_ia_53 (by decide) (by rw [ml_n_53]; exact hk)
theorem put_53 {Ln : Nat} {xs : Nat → Int32} {u : mj_U} {m : ml_M} {lm : ml_J} {Φ : mj_R → mj_W → Prop} {k : Nat} {x : Int32} (hk : k < 60) : wp Ln xs 29 0 [.ref 53, .int (nI k), .int x] [] (u, ml_h m lm) Φ = Φ (.inl none) (u, ml_h (ml_s m 53 k x) lm) := sp_put ml_ia_53 (by decide) (by rw [ml_n_53]; exact hk)
theorem at_54 {Ln : Nat} {xs : Nat → Int32} {u : mj_U} {m : ml_M} {lm : ml_J} {Φ : mj_R → mj_W → Prop} {k : Nat} (hk : k < 30) : wp Ln xs 17 0 [.ref 54, .int (nI k)] [] (u, ml_h m lm) Φ = Φ (.inl (some (.int (m 54 k)))) (u, ml_h m lm) := sp_at ml_ia_54 (by decide) (by rw [ml_n_54]; exact hk)
theorem put_54 {Ln : Nat} {xs : Nat → Int32} {u : mj_U} {m : ml_M} {lm : ml_J} {Φ : mj_R → mj_W → Prop} {k : Nat} {x : Int32} (hk : k < 30) : wp Ln xs 29 0 [.ref 54, .int (nI k), .int x] [] (u, ml_h m lm) Φ = Φ (.inl none) (u, ml_h (ml_s m 54 k x) lm) := sp_put ml_ia_54 (by decide) (by rw [ml_n_54]; exact hk)
theorem at_55 {Ln : Nat} {xs : Nat → Int32} {u : mj_U} {m : ml_M} {lm : ml_J} {Φ : mj_R → mj_W → Prop} {k : Nat} (hk : k < 30) : wp Ln xs 17 0 [.ref 55, .int (nI k)] [] (u, ml_h m lm) Φ = Φ (.inl (some (.int (m 55 k)))) (u, ml_h m lm) := sp_at ml_ia_55 (by decide) (by rw [ml_n_55]; exact hk)
theorem put_55 {Ln : Nat} {xs : Nat → Int32} {u : mj_U} {m : ml_M} {lm : ml_J} {Φ : mj_R → mj_W → Prop} {k : Nat} {x : Int32} (hk : k < 30) : wp Ln xs 29 0 [.ref 55, .int (nI k), .int x] [] (u, ml_h m lm) Φ = Φ (.inl none) (u, ml_h (ml_s m 55 k x) lm) := sp_put ml_ia_55 (by decide) (by rw [ml_n_55]; exact hk)
theorem at_57 {Ln : Nat} {xs : Nat → Int32} {u : mj_U} {m : ml_M} {lm : ml_J} {Φ : mj_R → mj_W → Prop} {k : Nat} (hk : k < 16) : wp Ln xs 17 0 [.ref 57, .int (nI k)] [] (u, ml_h m lm) Φ = Φ (.inl (some (.int (m 57 k)))) (u, ml_h m lm) := sp_at ml_ia_57 (by decide) (by rw [ml_n_57]; exact hk)
theorem put_57 {Ln : Nat} {xs : Nat → Int32} {u : mj_U} {m : ml_M} {lm : ml_J} {Φ : mj_R → mj_W → Prop} {k : Nat} {x : Int32} (hk : k < 16) : wp Ln xs 29 0 [.ref 57, .int (nI k), .int x] [] (u, ml_h m lm) Φ = Φ (.inl none) (u, ml_h (ml_s m 57 k x) lm) := sp_put ml_ia_57 (by decide) (by rw [ml_n_57]; exact hk)
theorem at_63 {Ln : Nat} {xs : Nat → Int32} {u : mj_U} {m : ml_M} {lm : ml_J} {Φ : mj_R → mj_W → Prop} {k : Nat} (hk : k < 16) : wp Ln xs 17 0 [.ref 63, .int (nI k)] [] (u, ml_h m lm) Φ = Φ (.inl (some (.int (m 63 k)))) (u, ml_h m lm) := sp_at ml_ia_63 (by decide) (by rw [ml_n_63]; exact hk)
theorem put_63 {Ln : Nat} {xs : Nat → Int32} {u : mj_U} {m : ml_M} {lm : ml_J} {Φ : mj_R → mj_W → Prop} {k : Nat} {x : Int32} (hk : k < 16) : wp Ln xs 29 0 [.ref 63, .int (nI k), .int x] [] (u, ml_h m lm) Φ = Φ (.inl none) (u, ml_h (ml_s m 63 k x) lm) := sp_put ml_ia_63 (by decide) (by rw [ml_n_63]; exact hk)
theorem at_67 {Ln : Nat} {xs : Nat → Int32} {u : mj_U} {m : ml_M} {lm : ml_J} {Φ : mj_R → mj_W → Prop} {k : Nat} (hk : k < 208) : wp Ln xs 17 0 [.ref 67, .int (nI k)] [] (u, ml_h m lm) Φ = Φ (.inl (some (.int (m 67 k)))) (u, ml_h m lm) := sp_at ml_ia_67 (by decide) (by rw [ml_n_67]; exact hk)
theorem put_67 {Ln : Nat} {xs : Nat → Int32} {u : mj_U} {m : ml_M} {lm : ml_J} {Φ : mj_R → mj_W → Prop} {k : Nat} {x : Int32} (hk : k < 208) : wp Ln xs 29 0 [.ref 67, .int (nI k), .int x] [] (u, ml_h m lm) Φ = Φ (.inl none) (u, ml_h (ml_s m 67 k x) lm) := sp_put ml_ia_67 (by decide) (by rw [ml_n_67]; exact hk)
theorem at_68 {Ln : Nat} {xs : Nat → Int32} {u : mj_U} {m : ml_M} {lm : ml_J} {Φ : mj_R → mj_W → Prop} {k : Nat} (hk : k < 208) : wp Ln xs 17 0 [.ref 68, .int (nI k)] [] (u, ml_h m lm) Φ = Φ (.inl (some (.int (m 68 k)))) (u, ml_h m lm) := sp_at ml_ia_68 (by decide) (by rw [ml_n_68]; exact hk)
theorem put_68 {Ln : Nat} {xs : Nat → Int32} {u : mj_U} {m : ml_M} {lm : ml_J} {Φ : mj_R → mj_W → Prop} {k : Nat} {x : Int32} (hk : k < 208) : wp Ln xs 29 0 [.ref 68, .int (nI k), .int x] [] (u, ml_h m lm) Φ = Φ (.inl none) (u, ml_h (ml_s m 68 k x) lm) := sp_put ml_ia_68 (by decide) (by rw [ml_n_68]; exact hk)
theorem at_70 {Ln : Nat} {xs : Nat → Int32} {u : mj_U} {m : ml_M} {lm : ml_J} {Φ : mj_R → mj_W → Prop} {k : Nat} (hk : k < 228) : wp Ln xs 17 0 [.ref 70, .int (nI k)] [] (u, ml_h m lm) Φ = Φ (.inl (some (.int (m 70 k)))) (u, ml_h m lm) := sp_at ml_ia_70 (by decide) (by rw [ml_n_70]; exact hk)
theorem put_70 {Ln : Nat} {xs : Nat → Int32} {u : mj_U} {m : ml_M} {lm : ml_J} {Φ : mj_R → mj_W → Prop} {k : Nat} {x : Int32} (hk : k < 228) : wp Ln xs 29 0 [.ref 70, .int (nI k), .int x] [] (u, ml_h m lm) Φ = Φ (.inl none) (u, ml_h (ml_s m 70 k x) lm) := sp_put ml_ia_70 (by decide) (by rw [ml_n_70]; exact hk)
theorem at_71 {Ln : Nat} {xs : Nat → Int32} {u : mj_U} {m : ml_M} {lm : ml_J} {Φ : mj_R → mj_W → Prop} {k : Nat} (hk : k < 16) : wp Ln xs 17 0 [.ref 71, .int (nI k)] [] (u, ml_h m lm) Φ = Φ (.inl (some (.int (m 71 k)))) (u, ml_h m lm) := sp_at ml_ia_71 (by decide) (by rw [ml_n_71]; exact hk)
theorem put_71 {Ln : Nat} {xs : Nat → Int32} {u : mj_U} {m : ml_M} {lm : ml_J} {Φ : mj_R → mj_W → Prop} {k : Nat} {x : Int32} (hk : k < 16) : wp Ln xs 29 0 [.ref 71, .int (nI k), .int x] [] (u, ml_h m lm) Φ = Φ (.inl none) (u, ml_h (ml_s m 71 k x) lm) := sp_put ml_ia_71 (by decide) (by rw [ml_n_71]; exact hk)
