/-! ===== the law: the operations of its loop ===== -/
def s_step (Ln : Nat) (xs : Nat → Int32) (pc j : Nat) (v5 v6 v7 : Value) (u : mj_U) (m : ml_M) (lm : ml_J) : Prop := ∃ u1 m2 lm2 w5 w6 w7, INV m2 ∧ s_ule u u1 ∧ ∀ Φ : mj_R → mj_W → Prop, wp Ln xs 0 pc [.ref 0, .ref 1, .ref 72, .ref 81, .int (nI j), v5, v6, v7, mj_hole] [] (u, ml_h m lm) Φ = wp Ln xs 0 1617 [.ref 0, .ref 1, .ref 72, .ref 81, .int (nI j), w5, w6, w7, mj_hole] [] (u1, ml_h m2 lm2) Φ
theorem s_lg {a : Int64} : lg_cmp a a = nI 0 := by
  unfold lg_cmp
  simp
  rfl
section OPS
variable {Ln : Nat} {xs : Nat → Int32} {u : mj_U} {m : ml_M} {lm : ml_J} {σ τ : s_S} {n t tl j : Nat} {ss : Nat → s_S} {tx : Nat → Nat} {v5 v6 v7 : Value}
theorem st_0 (h : INVs m σ n ss t τ tl tx) (hj : j + 4 ≤ Ln) (hL : Ln < 2 ^ 31) : s_step Ln xs 164 j v5 v6 v7 u m lm := by
  obtain ⟨u1, m1, lm1, m2, lm2, r, v, hI, hu, hr, e8, hv, A, B⟩ := pr_0 (Ln := Ln) (xs := xs) (u := u) (lm := lm) (y := xs (j + 1)) h
  refine ⟨u1, m2, lm2, .int (nI r), .int v, v7, hI, hu, fun Φ => ?_⟩
  rw [x0_164, nI_add, x0_170 (by omega) hL, A, mk_v, x0_175, nI_add, x0_183 (by omega) hL, B, mk_v, x0_187, x149_0, mk_v, x0_193, e8, if_pos rfl, x0_200]
  by_cases c : r = 0
  · rw [c, if_neg (fun z => z rfl), x0_205, hv c, s_lg, if_pos rfl, x0_217]
  · rw [if_pos (fun z => c ((nI_eq (by omega) (by decide)).mp z)), x0_217]
theorem st_1 (h : INVs m σ n ss t τ tl tx) (hj : j + 4 ≤ Ln) (hL : Ln < 2 ^ 31) : s_step Ln xs 220 j v5 v6 v7 u m lm := by
  obtain ⟨u1, m1, lm1, m2, lm2, r, v, hI, hu, hr, e8, hv, A, B⟩ := pr_1 (Ln := Ln) (xs := xs) (u := u) (lm := lm)  h
  refine ⟨u1, m2, lm2, .int (nI r), .int v, v7, hI, hu, fun Φ => ?_⟩
  rw [x0_220, A, mk_v, x0_225, B, mk_v, x0_231, x149_0, mk_v, x0_237, e8, if_pos rfl, x0_244]
  by_cases c : r = 0
  · rw [c, if_neg (fun z => z rfl), x0_249, hv c, s_lg, if_pos rfl, x0_261]
  · rw [if_pos (fun z => c ((nI_eq (by omega) (by decide)).mp z)), x0_261]
theorem st_2 (h : INVs m σ n ss t τ tl tx) (hj : j + 4 ≤ Ln) (hL : Ln < 2 ^ 31) : s_step Ln xs 264 j v5 v6 v7 u m lm := by
  obtain ⟨u1, m1, lm1, m2, lm2, r, v, hI, hu, hr, e8, hv, A, B⟩ := pr_2 (Ln := Ln) (xs := xs) (u := u) (lm := lm) (x := xs (j + 1)) (y := xs (j + 2)) h
  refine ⟨u1, m2, lm2, .int (nI r), .int v, v7, hI, hu, fun Φ => ?_⟩
  rw [x0_264, nI_add, x0_270 (by omega) hL, nI_add, x0_276 (by omega) hL, A, mk_v, x0_281, nI_add, x0_289 (by omega) hL, nI_add, x0_295 (by omega) hL, B, mk_v, x0_299, x149_0, mk_v, x0_305, e8, if_pos rfl, x0_312]
  by_cases c : r = 0
  · rw [c, if_neg (fun z => z rfl), x0_317, hv c, s_lg, if_pos rfl, x0_329]
  · rw [if_pos (fun z => c ((nI_eq (by omega) (by decide)).mp z)), x0_329]
theorem st_3 (h : INVs m σ n ss t τ tl tx) (hj : j + 4 ≤ Ln) (hL : Ln < 2 ^ 31) : s_step Ln xs 332 j v5 v6 v7 u m lm := by
  obtain ⟨u1, m1, lm1, m2, lm2, r, v, hI, hu, hr, e8, hv, A, B⟩ := pr_3 (Ln := Ln) (xs := xs) (u := u) (lm := lm) (x := xs (j + 1)) h
  refine ⟨u1, m2, lm2, .int (nI r), .int v, v7, hI, hu, fun Φ => ?_⟩
  rw [x0_332, nI_add, x0_338 (by omega) hL, A, mk_v, x0_343, nI_add, x0_351 (by omega) hL, B, mk_v, x0_355, x149_0, mk_v, x0_361, e8, if_pos rfl, x0_368]
  by_cases c : r = 0
  · rw [c, if_neg (fun z => z rfl), x0_373, hv c, s_lg, if_pos rfl, x0_385]
  · rw [if_pos (fun z => c ((nI_eq (by omega) (by decide)).mp z)), x0_385]
theorem st_4 (h : INVs m σ n ss t τ tl tx) (hj : j + 4 ≤ Ln) (hL : Ln < 2 ^ 31) : s_step Ln xs 388 j v5 v6 v7 u m lm := by
  obtain ⟨u1, m1, lm1, m2, lm2, r, v, hI, hu, hr, e8, hv, A, B⟩ := pr_4 (Ln := Ln) (xs := xs) (u := u) (lm := lm) (x := xs (j + 1)) h
  refine ⟨u1, m2, lm2, .int (nI r), .int v, v7, hI, hu, fun Φ => ?_⟩
  rw [x0_388, nI_add, x0_394 (by omega) hL, A, mk_v, x0_399, nI_add, x0_407 (by omega) hL, B, mk_v, x0_411, x149_0, mk_v, x0_417, e8, if_pos rfl, x0_424]
  by_cases c : r = 0
  · rw [c, if_neg (fun z => z rfl), x0_429, hv c, s_lg, if_pos rfl, x0_441]
  · rw [if_pos (fun z => c ((nI_eq (by omega) (by decide)).mp z)), x0_441]
theorem st_5 (h : INVs m σ n ss t τ tl tx) (hj : j + 4 ≤ Ln) (hL : Ln < 2 ^ 31) : s_step Ln xs 444 j v5 v6 v7 u m lm := by
  obtain ⟨u1, m1, lm1, m2, lm2, r, v, hI, hu, hr, e8, hv, A, B⟩ := pr_5 (Ln := Ln) (xs := xs) (u := u) (lm := lm) (x := xs (j + 1)) (y := xs (j + 2)) h
  refine ⟨u1, m2, lm2, .int (nI r), .int v, v7, hI, hu, fun Φ => ?_⟩
  rw [x0_444, nI_add, x0_450 (by omega) hL, nI_add, x0_456 (by omega) hL, A, mk_v, x0_461, nI_add, x0_469 (by omega) hL, nI_add, x0_475 (by omega) hL, B, mk_v, x0_479, x149_0, mk_v, x0_485, e8, if_pos rfl, x0_492]
  by_cases c : r = 0
  · rw [c, if_neg (fun z => z rfl), x0_497, hv c, s_lg, if_pos rfl, x0_509]
  · rw [if_pos (fun z => c ((nI_eq (by omega) (by decide)).mp z)), x0_509]
theorem st_6 (h : INVs m σ n ss t τ tl tx) (hj : j + 4 ≤ Ln) (hL : Ln < 2 ^ 31) : s_step Ln xs 512 j v5 v6 v7 u m lm := by
  obtain ⟨u1, m1, lm1, m2, lm2, r, v, hI, hu, hr, e8, hv, A, B⟩ := pr_6 (Ln := Ln) (xs := xs) (u := u) (lm := lm) (x := xs (j + 1)) h
  refine ⟨u1, m2, lm2, .int (nI r), .int v, v7, hI, hu, fun Φ => ?_⟩
  rw [x0_512, nI_add, x0_518 (by omega) hL, A, mk_v, x0_523, nI_add, x0_531 (by omega) hL, B, mk_v, x0_535, x149_0, mk_v, x0_541, e8, if_pos rfl, x0_548]
  by_cases c : r = 0
  · rw [c, if_neg (fun z => z rfl), x0_553, hv c, s_lg, if_pos rfl, x0_565]
  · rw [if_pos (fun z => c ((nI_eq (by omega) (by decide)).mp z)), x0_565]
theorem st_7 (h : INVs m σ n ss t τ tl tx) (hj : j + 4 ≤ Ln) (hL : Ln < 2 ^ 31) : s_step Ln xs 568 j v5 v6 v7 u m lm := by
  obtain ⟨u1, m1, lm1, m2, lm2, r, v, hI, hu, hr, e8, hv, A, B⟩ := pr_7 (Ln := Ln) (xs := xs) (u := u) (lm := lm) (x := xs (j + 1)) (y := xs (j + 2)) h
  refine ⟨u1, m2, lm2, .int (nI r), .int v, v7, hI, hu, fun Φ => ?_⟩
  rw [x0_568, nI_add, x0_574 (by omega) hL, nI_add, x0_580 (by omega) hL, A, mk_v, x0_585, nI_add, x0_593 (by omega) hL, nI_add, x0_599 (by omega) hL, B, mk_v, x0_603, x149_0, mk_v, x0_609, e8, if_pos rfl, x0_616]
  by_cases c : r = 0
  · rw [c, if_neg (fun z => z rfl), x0_621, hv c, s_lg, if_pos rfl, x0_633]
  · rw [if_pos (fun z => c ((nI_eq (by omega) (by decide)).mp z)), x0_633]
theorem st_8 (h : INVs m σ n ss t τ tl tx) (hj : j + 4 ≤ Ln) (hL : Ln < 2 ^ 31) : s_step Ln xs 636 j v5 v6 v7 u m lm := by
  obtain ⟨u1, m1, lm1, m2, lm2, r, v, hI, hu, hr, e8, hv, A, B⟩ := pr_8 (Ln := Ln) (xs := xs) (u := u) (lm := lm) (y := xs (j + 1)) h
  refine ⟨u1, m2, lm2, .int (nI r), .int v, v7, hI, hu, fun Φ => ?_⟩
  rw [x0_636, nI_add, x0_642 (by omega) hL, A, mk_v, x0_647, nI_add, x0_655 (by omega) hL, B, mk_v, x0_659, x149_0, mk_v, x0_665, e8, if_pos rfl, x0_672]
  by_cases c : r = 0
  · rw [c, if_neg (fun z => z rfl), x0_677, hv c, s_lg, if_pos rfl, x0_689]
  · rw [if_pos (fun z => c ((nI_eq (by omega) (by decide)).mp z)), x0_689]
theorem st_11 (h : INVs m σ n ss t τ tl tx) (hj : j + 4 ≤ Ln) (hL : Ln < 2 ^ 31) : s_step Ln xs 718 j v5 v6 v7 u m lm := by
  obtain ⟨u1, m1, lm1, m2, lm2, r, v, hI, hu, hr, e8, hv, A, B⟩ := pr_11 (Ln := Ln) (xs := xs) (u := u) (lm := lm)  h
  refine ⟨u1, m2, lm2, .int (nI r), .int v, v7, hI, hu, fun Φ => ?_⟩
  rw [x0_718, A, mk_v, x0_723, B, mk_v, x0_729, x149_0, mk_v, x0_735, e8, if_pos rfl, x0_742]
  by_cases c : r = 0
  · rw [c, if_neg (fun z => z rfl), x0_747, hv c, s_lg, if_pos rfl, x0_759]
  · rw [if_pos (fun z => c ((nI_eq (by omega) (by decide)).mp z)), x0_759]
theorem st_13 (h : INVs m σ n ss t τ tl tx) (hj : j + 4 ≤ Ln) (hL : Ln < 2 ^ 31) : s_step Ln xs 775 j v5 v6 v7 u m lm := by
  obtain ⟨u1, m1, lm1, m2, lm2, r, v, hI, hu, hr, e8, hv, A, B⟩ := pr_13 (Ln := Ln) (xs := xs) (u := u) (lm := lm)  h
  refine ⟨u1, m2, lm2, .int (nI r), .int v, v7, hI, hu, fun Φ => ?_⟩
  rw [x0_775, A, mk_v, x0_780, B, mk_v, x0_786, x149_0, mk_v, x0_792, e8, if_pos rfl, x0_799]
  by_cases c : r = 0
  · rw [c, if_neg (fun z => z rfl), x0_804, hv c, s_lg, if_pos rfl, x0_816]
  · rw [if_pos (fun z => c ((nI_eq (by omega) (by decide)).mp z)), x0_816]
theorem st_14 (h : INVs m σ n ss t τ tl tx) (hj : j + 4 ≤ Ln) (hL : Ln < 2 ^ 31) : s_step Ln xs 819 j v5 v6 v7 u m lm := by
  obtain ⟨u1, m1, lm1, m2, lm2, r, v, hI, hu, hr, e8, hv, A, B⟩ := pr_14 (Ln := Ln) (xs := xs) (u := u) (lm := lm)  h
  refine ⟨u1, m2, lm2, .int (nI r), .int v, v7, hI, hu, fun Φ => ?_⟩
  rw [x0_819, A, mk_v, x0_824, B, mk_v, x0_830, x149_0, mk_v, x0_836, e8, if_pos rfl, x0_843]
  by_cases c : r = 0
  · rw [c, if_neg (fun z => z rfl), x0_848, hv c, s_lg, if_pos rfl, x0_860]
  · rw [if_pos (fun z => c ((nI_eq (by omega) (by decide)).mp z)), x0_860]
theorem st_15 (h : INVs m σ n ss t τ tl tx) (hj : j + 4 ≤ Ln) (hL : Ln < 2 ^ 31) : s_step Ln xs 863 j v5 v6 v7 u m lm := by
  obtain ⟨u1, m1, lm1, m2, lm2, r, v, hI, hu, hr, e8, hv, A, B⟩ := pr_15 (Ln := Ln) (xs := xs) (u := u) (lm := lm) (x := xs (j + 1)) (y := xs (j + 2)) h
  refine ⟨u1, m2, lm2, .int (nI r), .int v, v7, hI, hu, fun Φ => ?_⟩
  rw [x0_863, nI_add, x0_869 (by omega) hL, nI_add, x0_875 (by omega) hL, A, mk_v, x0_880, nI_add, x0_888 (by omega) hL, nI_add, x0_894 (by omega) hL, B, mk_v, x0_898, x149_0, mk_v, x0_904, e8, if_pos rfl, x0_911]
  by_cases c : r = 0
  · rw [c, if_neg (fun z => z rfl), x0_916, hv c, s_lg, if_pos rfl, x0_928]
  · rw [if_pos (fun z => c ((nI_eq (by omega) (by decide)).mp z)), x0_928]
theorem st_16 (h : INVs m σ n ss t τ tl tx) (hj : j + 4 ≤ Ln) (hL : Ln < 2 ^ 31) : s_step Ln xs 931 j v5 v6 v7 u m lm := by
  obtain ⟨u1, m1, lm1, m2, lm2, r, v, hI, hu, hr, e8, hv, A, B⟩ := pr_16 (Ln := Ln) (xs := xs) (u := u) (lm := lm) (x := xs (j + 1)) (y := xs (j + 2)) h
  refine ⟨u1, m2, lm2, .int (nI r), .int v, v7, hI, hu, fun Φ => ?_⟩
  rw [x0_931, nI_add, x0_937 (by omega) hL, nI_add, x0_943 (by omega) hL, A, mk_v, x0_948, nI_add, x0_956 (by omega) hL, nI_add, x0_962 (by omega) hL, B, mk_v, x0_966, x149_0, mk_v, x0_972, e8, if_pos rfl, x0_979]
  by_cases c : r = 0
  · rw [c, if_neg (fun z => z rfl), x0_984, hv c, s_lg, if_pos rfl, x0_996]
  · rw [if_pos (fun z => c ((nI_eq (by omega) (by decide)).mp z)), x0_996]
theorem st_17 (h : INVs m σ n ss t τ tl tx) (hj : j + 4 ≤ Ln) (hL : Ln < 2 ^ 31) : s_step Ln xs 999 j v5 v6 v7 u m lm := by
  obtain ⟨u1, m1, lm1, m2, lm2, r, v, hI, hu, hr, e8, hv, A, B⟩ := pr_17 (Ln := Ln) (xs := xs) (u := u) (lm := lm) (x := xs (j + 1)) (y := xs (j + 2)) h
  refine ⟨u1, m2, lm2, .int (nI r), .int v, v7, hI, hu, fun Φ => ?_⟩
  rw [x0_999, nI_add, x0_1005 (by omega) hL, nI_add, x0_1011 (by omega) hL, A, mk_v, x0_1016, nI_add, x0_1024 (by omega) hL, nI_add, x0_1030 (by omega) hL, B, mk_v, x0_1034, x149_0, mk_v, x0_1040, e8, if_pos rfl, x0_1047]
  by_cases c : r = 0
  · rw [c, if_neg (fun z => z rfl), x0_1052, hv c, s_lg, if_pos rfl, x0_1064]
  · rw [if_pos (fun z => c ((nI_eq (by omega) (by decide)).mp z)), x0_1064]
theorem st_18 (h : INVs m σ n ss t τ tl tx) (hj : j + 4 ≤ Ln) (hL : Ln < 2 ^ 31) : s_step Ln xs 1067 j v5 v6 v7 u m lm := by
  obtain ⟨u1, m1, lm1, m2, lm2, r, v, hI, hu, hr, e8, hv, A, B⟩ := pr_18 (Ln := Ln) (xs := xs) (u := u) (lm := lm) (x := xs (j + 1)) (y := xs (j + 2)) h
  refine ⟨u1, m2, lm2, .int (nI r), .int v, v7, hI, hu, fun Φ => ?_⟩
  rw [x0_1067, nI_add, x0_1073 (by omega) hL, nI_add, x0_1079 (by omega) hL, A, mk_v, x0_1084, nI_add, x0_1092 (by omega) hL, nI_add, x0_1098 (by omega) hL, B, mk_v, x0_1102, x149_0, mk_v, x0_1108, e8, if_pos rfl, x0_1115]
  by_cases c : r = 0
  · rw [c, if_neg (fun z => z rfl), x0_1120, hv c, s_lg, if_pos rfl, x0_1132]
  · rw [if_pos (fun z => c ((nI_eq (by omega) (by decide)).mp z)), x0_1132]
theorem st_19 (h : INVs m σ n ss t τ tl tx) (hj : j + 4 ≤ Ln) (hL : Ln < 2 ^ 31) : s_step Ln xs 1135 j v5 v6 v7 u m lm := by
  obtain ⟨u1, m1, lm1, m2, lm2, r, v, hI, hu, hr, e8, hv, A, B⟩ := pr_19 (Ln := Ln) (xs := xs) (u := u) (lm := lm) (y := xs (j + 1)) h
  refine ⟨u1, m2, lm2, .int (nI r), .int v, v7, hI, hu, fun Φ => ?_⟩
  rw [x0_1135, nI_add, x0_1141 (by omega) hL, A, mk_v, x0_1146, nI_add, x0_1154 (by omega) hL, B, mk_v, x0_1158, x149_0, mk_v, x0_1164, e8, if_pos rfl, x0_1171]
  by_cases c : r = 0
  · rw [c, if_neg (fun z => z rfl), x0_1176, hv c, s_lg, if_pos rfl, x0_1188]
  · rw [if_pos (fun z => c ((nI_eq (by omega) (by decide)).mp z)), x0_1188]
theorem st_20 (h : INVs m σ n ss t τ tl tx) (hj : j + 4 ≤ Ln) (hL : Ln < 2 ^ 31) : s_step Ln xs 1191 j v5 v6 v7 u m lm := by
  obtain ⟨u1, m1, lm1, m2, lm2, r, v, hI, hu, hr, e8, hv, A, B⟩ := pr_20 (Ln := Ln) (xs := xs) (u := u) (lm := lm) (x := xs (j + 1)) h
  refine ⟨u1, m2, lm2, .int (nI r), .int v, v7, hI, hu, fun Φ => ?_⟩
  rw [x0_1191, nI_add, x0_1197 (by omega) hL, A, mk_v, x0_1202, nI_add, x0_1210 (by omega) hL, B, mk_v, x0_1214, x149_0, mk_v, x0_1220, e8, if_pos rfl, x0_1227]
  by_cases c : r = 0
  · rw [c, if_neg (fun z => z rfl), x0_1232, hv c, s_lg, if_pos rfl, x0_1244]
  · rw [if_pos (fun z => c ((nI_eq (by omega) (by decide)).mp z)), x0_1244]
theorem st_21 (h : INVs m σ n ss t τ tl tx) (hj : j + 4 ≤ Ln) (hL : Ln < 2 ^ 31) : s_step Ln xs 1247 j v5 v6 v7 u m lm := by
  obtain ⟨u1, m1, lm1, m2, lm2, r, v, hI, hu, hr, e8, hv, A, B⟩ := pr_21 (Ln := Ln) (xs := xs) (u := u) (lm := lm) (x := xs (j + 1)) (y := xs (j + 2)) (z := xs (j + 3)) h
  refine ⟨u1, m2, lm2, .int (nI r), .int v, v7, hI, hu, fun Φ => ?_⟩
  rw [x0_1247, nI_add, x0_1253 (by omega) hL, nI_add, x0_1259 (by omega) hL, nI_add, x0_1265 (by omega) hL, A, mk_v, x0_1270, nI_add, x0_1278 (by omega) hL, nI_add, x0_1284 (by omega) hL, nI_add, x0_1290 (by omega) hL, B, mk_v, x0_1294, x149_0, mk_v, x0_1300, e8, if_pos rfl, x0_1307]
  by_cases c : r = 0
  · rw [c, if_neg (fun z => z rfl), x0_1312, hv c, s_lg, if_pos rfl, x0_1324]
  · rw [if_pos (fun z => c ((nI_eq (by omega) (by decide)).mp z)), x0_1324]
theorem st_22 (h : INVs m σ n ss t τ tl tx) (hj : j + 4 ≤ Ln) (hL : Ln < 2 ^ 31) : s_step Ln xs 1327 j v5 v6 v7 u m lm := by
  obtain ⟨u1, m1, lm1, m2, lm2, r, v, hI, hu, hr, e8, hv, A, B⟩ := pr_22 (Ln := Ln) (xs := xs) (u := u) (lm := lm) (x := xs (j + 1)) (y := xs (j + 2)) (z := xs (j + 3)) h
  refine ⟨u1, m2, lm2, .int (nI r), .int v, v7, hI, hu, fun Φ => ?_⟩
  rw [x0_1327, nI_add, x0_1333 (by omega) hL, nI_add, x0_1339 (by omega) hL, nI_add, x0_1345 (by omega) hL, A, mk_v, x0_1350, nI_add, x0_1358 (by omega) hL, nI_add, x0_1364 (by omega) hL, nI_add, x0_1370 (by omega) hL, B, mk_v, x0_1374, x149_0, mk_v, x0_1380, e8, if_pos rfl, x0_1387]
  by_cases c : r = 0
  · rw [c, if_neg (fun z => z rfl), x0_1392, hv c, s_lg, if_pos rfl, x0_1404]
  · rw [if_pos (fun z => c ((nI_eq (by omega) (by decide)).mp z)), x0_1404]
theorem st_23 (h : INVs m σ n ss t τ tl tx) (hj : j + 4 ≤ Ln) (hL : Ln < 2 ^ 31) : s_step Ln xs 1407 j v5 v6 v7 u m lm := by
  obtain ⟨u1, m1, lm1, m2, lm2, r, v, hI, hu, hr, e8, hv, A, B⟩ := pr_23 (Ln := Ln) (xs := xs) (u := u) (lm := lm) (x := xs (j + 1)) h
  refine ⟨u1, m2, lm2, .int (nI r), .int v, v7, hI, hu, fun Φ => ?_⟩
  rw [x0_1407, nI_add, x0_1413 (by omega) hL, A, mk_v, x0_1418, nI_add, x0_1426 (by omega) hL, B, mk_v, x0_1430, x149_0, mk_v, x0_1436, e8, if_pos rfl, x0_1443]
  by_cases c : r = 0
  · rw [c, if_neg (fun z => z rfl), x0_1448, hv c, s_lg, if_pos rfl, x0_1460]
  · rw [if_pos (fun z => c ((nI_eq (by omega) (by decide)).mp z)), x0_1460]
theorem st_24 (h : INVs m σ n ss t τ tl tx) (hj : j + 4 ≤ Ln) (hL : Ln < 2 ^ 31) : s_step Ln xs 1463 j v5 v6 v7 u m lm := by
  obtain ⟨u1, m1, lm1, m2, lm2, r, v, hI, hu, hr, e8, hv, A, B⟩ := pr_24 (Ln := Ln) (xs := xs) (u := u) (lm := lm) (y := xs (j + 1)) h
  refine ⟨u1, m2, lm2, .int (nI r), .int v, v7, hI, hu, fun Φ => ?_⟩
  rw [x0_1463, nI_add, x0_1469 (by omega) hL, A, mk_v, x0_1474, nI_add, x0_1482 (by omega) hL, B, mk_v, x0_1486, x149_0, mk_v, x0_1492, e8, if_pos rfl, x0_1499]
  by_cases c : r = 0
  · rw [c, if_neg (fun z => z rfl), x0_1504, hv c, s_lg, if_pos rfl, x0_1516]
  · rw [if_pos (fun z => c ((nI_eq (by omega) (by decide)).mp z)), x0_1516]
end OPS
