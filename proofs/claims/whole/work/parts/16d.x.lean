/-! ===== an equation for each straight piece of a method ===== -/
section MXd
variable {Ln : Nat} {xs : Nat → Int32} {u : mj_U} {m : ml_M} {lm : ml_J} {Φ : mj_R → mj_W → Prop}
/- PickedForms$Rows.put -/
theorem xd55_0 : decode (mj_b 55) 0 = .ok (.iload_n 1, 1) := by decide +kernel
theorem xd55_1 : decode (mj_b 55) 1 = .ok (.ifCond .lt 13, 3) := by decide +kernel
theorem xd55_4 : decode (mj_b 55) 4 = .ok (.iload_n 1, 1) := by decide +kernel
theorem xd55_5 : decode (mj_b 55) 5 = .ok (.aload_n 0, 1) := by decide +kernel
theorem xd55_6 : decode (mj_b 55) 6 = .ok (.arraylength, 1) := by decide +kernel
theorem xd55_7 : decode (mj_b 55) 7 = .ok (.if_icmp .ge 7, 3) := by decide +kernel
theorem xd55_10 : decode (mj_b 55) 10 = .ok (.aload_n 0, 1) := by decide +kernel
theorem xd55_11 : decode (mj_b 55) 11 = .ok (.iload_n 1, 1) := by decide +kernel
theorem xd55_12 : decode (mj_b 55) 12 = .ok (.iload_n 2, 1) := by decide +kernel
theorem xd55_13 : decode (mj_b 55) 13 = .ok (.iastore, 1) := by decide +kernel
theorem xd55_14 : decode (mj_b 55) 14 = .ok (.return_, 1) := by decide +kernel
theorem x55_0 {r : Nat} {x1 : Int32} {x2 : Int32} : wp Ln xs 55 0 [.ref r, .int x1, .int x2] [] (u, ml_h m lm) Φ = if x1 < (nI 0) then wp Ln xs 55 14 [.ref r, .int x1, .int x2] [] (u, ml_h m lm) Φ else wp Ln xs 55 4 [.ref r, .int x1, .int x2] [] (u, ml_h m lm) Φ := (wp_same xd55_0 (Or.inr rfl) rfl).trans (wx_if xd55_1 rfl rfl (x1 < (nI 0)) mb_lt)
theorem x55_4 {r : Nat} {x1 : Int32} {x2 : Int32} (hr : ml_ia r) (hr0 : r ≠ 0) : wp Ln xs 55 4 [.ref r, .int x1, .int x2] [] (u, ml_h m lm) Φ = if (nI (ml_n r)) ≤ x1 then wp Ln xs 55 14 [.ref r, .int x1, .int x2] [] (u, ml_h m lm) Φ else wp Ln xs 55 10 [.ref r, .int x1, .int x2] [] (u, ml_h m lm) Φ := (wp_same xd55_4 (Or.inr rfl) rfl).trans ((wp_same xd55_5 (Or.inr rfl) rfl).trans ((wm_alen xd55_6 hr hr0).trans (wx_icmp xd55_7 rfl rfl ((nI (ml_n r)) ≤ x1) mb_ge)))
theorem x55_10 {r : Nat} {x1 : Int32} {x2 : Int32} : wp Ln xs 55 10 [.ref r, .int x1, .int x2] [] (u, ml_h m lm) Φ = wp Ln xs 55 13 [.ref r, .int x1, .int x2] [.int x2, .int x1, .ref r] (u, ml_h m lm) Φ := (wp_same xd55_10 (Or.inr rfl) rfl).trans ((wp_same xd55_11 (Or.inr rfl) rfl).trans (wp_same xd55_12 (Or.inr rfl) rfl))
theorem x55_13 {r : Nat} {x1 : Int32} {x2 : Int32} {xs0 : Int32} {k : Nat} (hr : ml_ia r) (hr0 : r ≠ 0) (hk : k < ml_n r) : wp Ln xs 55 13 [.ref r, .int x1, .int x2] [.int xs0, .int (nI k), .ref r] (u, ml_h m lm) Φ = Φ (.inl none) (u, ml_h (ml_s m r k xs0) lm) := (wm_iast (k := k) xd55_13 hr hk).trans (wp_fin (v := none) xd55_14 (Or.inr rfl) rfl rfl)
theorem x55_14 {r : Nat} {x1 : Int32} {x2 : Int32} : wp Ln xs 55 14 [.ref r, .int x1, .int x2] [] (u, ml_h m lm) Φ = Φ (.inl none) (u, ml_h m lm) := wp_fin (v := none) xd55_14 (Or.inr rfl) rfl rfl
/- PickedForms$BitRow.encodeRuns -/
theorem xd56_0 : decode (mj_b 56) 0 = .ok (.iconst 0, 1) := by decide +kernel
theorem xd56_1 : decode (mj_b 56) 1 = .ok (.istore 4, 2) := by decide +kernel
theorem xd56_3 : decode (mj_b 56) 3 = .ok (.iload_n 2, 1) := by decide +kernel
theorem xd56_4 : decode (mj_b 56) 4 = .ok (.istore 5, 2) := by decide +kernel
theorem xd56_6 : decode (mj_b 56) 6 = .ok (.iload 5, 2) := by decide +kernel
theorem xd56_8 : decode (mj_b 56) 8 = .ok (.iload_n 3, 1) := by decide +kernel
theorem xd56_9 : decode (mj_b 56) 9 = .ok (.if_icmp .ge 61, 3) := by decide +kernel
theorem xd56_12 : decode (mj_b 56) 12 = .ok (.aload_n 1, 1) := by decide +kernel
theorem xd56_13 : decode (mj_b 56) 13 = .ok (.iload 5, 2) := by decide +kernel
theorem xd56_15 : decode (mj_b 56) 15 = .ok (.invokestatic 51, 3) := by decide +kernel
theorem xd56_18 : decode (mj_b 56) 18 = .ok (.istore 6, 2) := by decide +kernel
theorem xd56_20 : decode (mj_b 56) 20 = .ok (.iinc 4 1, 3) := by decide +kernel
theorem xd56_23 : decode (mj_b 56) 23 = .ok (.iload 5, 2) := by decide +kernel
theorem xd56_25 : decode (mj_b 56) 25 = .ok (.iconst 1, 1) := by decide +kernel
theorem xd56_26 : decode (mj_b 56) 26 = .ok (.iadd, 1) := by decide +kernel
theorem xd56_27 : decode (mj_b 56) 27 = .ok (.iload_n 3, 1) := by decide +kernel
theorem xd56_28 : decode (mj_b 56) 28 = .ok (.if_icmp .eq 16, 3) := by decide +kernel
theorem xd56_31 : decode (mj_b 56) 31 = .ok (.aload_n 1, 1) := by decide +kernel
theorem xd56_32 : decode (mj_b 56) 32 = .ok (.iload 5, 2) := by decide +kernel
theorem xd56_34 : decode (mj_b 56) 34 = .ok (.iconst 1, 1) := by decide +kernel
theorem xd56_35 : decode (mj_b 56) 35 = .ok (.iadd, 1) := by decide +kernel
theorem xd56_36 : decode (mj_b 56) 36 = .ok (.invokestatic 51, 3) := by decide +kernel
theorem xd56_39 : decode (mj_b 56) 39 = .ok (.iload 6, 2) := by decide +kernel
theorem xd56_41 : decode (mj_b 56) 41 = .ok (.if_icmp .eq 23, 3) := by decide +kernel
theorem xd56_44 : decode (mj_b 56) 44 = .ok (.aload_n 0, 1) := by decide +kernel
theorem xd56_45 : decode (mj_b 56) 45 = .ok (.iload 6, 2) := by decide +kernel
theorem xd56_47 : decode (mj_b 56) 47 = .ok (.bipush 10, 2) := by decide +kernel
theorem xd56_49 : decode (mj_b 56) 49 = .ok (.invokevirtual 57, 3) := by decide +kernel
theorem xd56_52 : decode (mj_b 56) 52 = .ok (.aload_n 0, 1) := by decide +kernel
theorem xd56_53 : decode (mj_b 56) 53 = .ok (.iload 4, 2) := by decide +kernel
theorem xd56_55 : decode (mj_b 56) 55 = .ok (.iconst 1, 1) := by decide +kernel
theorem xd56_56 : decode (mj_b 56) 56 = .ok (.isub, 1) := by decide +kernel
theorem xd56_57 : decode (mj_b 56) 57 = .ok (.iconst 4, 1) := by decide +kernel
theorem xd56_58 : decode (mj_b 56) 58 = .ok (.invokevirtual 57, 3) := by decide +kernel
theorem xd56_61 : decode (mj_b 56) 61 = .ok (.iconst 0, 1) := by decide +kernel
theorem xd56_62 : decode (mj_b 56) 62 = .ok (.istore 4, 2) := by decide +kernel
theorem xd56_64 : decode (mj_b 56) 64 = .ok (.iinc 5 1, 3) := by decide +kernel
theorem xd56_67 : decode (mj_b 56) 67 = .ok (.goto (-61), 3) := by decide +kernel
theorem xd56_70 : decode (mj_b 56) 70 = .ok (.return_, 1) := by decide +kernel
theorem x56_0 {x2 : Int32} {x3 : Int32} : wp Ln xs 56 0 [.ref 69, .ref 3, .int x2, .int x3, mj_hole, mj_hole, mj_hole] [] (u, ml_h m lm) Φ = wp Ln xs 56 6 [.ref 69, .ref 3, .int x2, .int x3, .int (nI 0), .int x2, mj_hole] [] (u, ml_h m lm) Φ := (wp_same (S' := [.int (nI 0)]) xd56_0 (Or.inr rfl) rfl).trans ((wp_same (L' := [.ref 69, .ref 3, .int x2, .int x3, .int (nI 0), mj_hole, mj_hole]) xd56_1 (Or.inr rfl) rfl).trans ((wp_same xd56_3 (Or.inr rfl) rfl).trans (wp_same (L' := [.ref 69, .ref 3, .int x2, .int x3, .int (nI 0), .int x2, mj_hole]) xd56_4 (Or.inr rfl) rfl)))
theorem x56_6 {x2 : Int32} {x3 : Int32} {x4 : Int32} {x5 : Int32} {v6 : Value} : wp Ln xs 56 6 [.ref 69, .ref 3, .int x2, .int x3, .int x4, .int x5, v6] [] (u, ml_h m lm) Φ = if x3 ≤ x5 then wp Ln xs 56 70 [.ref 69, .ref 3, .int x2, .int x3, .int x4, .int x5, v6] [] (u, ml_h m lm) Φ else wp Ln xs 56 12 [.ref 69, .ref 3, .int x2, .int x3, .int x4, .int x5, v6] [] (u, ml_h m lm) Φ := (wp_same xd56_6 (Or.inr rfl) rfl).trans ((wp_same xd56_8 (Or.inr rfl) rfl).trans (wx_icmp xd56_9 rfl rfl (x3 ≤ x5) mb_ge))
theorem x56_12 {x2 : Int32} {x3 : Int32} {x4 : Int32} {x5 : Int32} {v6 : Value} : wp Ln xs 56 12 [.ref 69, .ref 3, .int x2, .int x3, .int x4, .int x5, v6] [] (u, ml_h m lm) Φ = wp Ln xs 13 0 [.ref 3, .int x5] [] (u, ml_h m lm) (mk Ln xs 56 15 [.ref 69, .ref 3, .int x2, .int x3, .int x4, .int x5, v6] [] Φ) := (wp_same xd56_12 (Or.inr rfl) rfl).trans ((wp_same xd56_13 (Or.inr rfl) rfl).trans (wm_cs (As := [.ref 3, .int x5]) (rest := []) xd56_15 rfl rfl (Nat.le_of_ble_eq_true rfl) (Nat.le_of_ble_eq_true rfl) (Nat.le_of_ble_eq_true rfl) (Nat.le_of_ble_eq_true rfl)))
theorem x56_18 {x2 : Int32} {x3 : Int32} {x4 : Int32} {x5 : Int32} {v6 : Value} {xs0 : Int32} : wp Ln xs 56 18 [.ref 69, .ref 3, .int x2, .int x3, .int x4, .int x5, v6] [.int xs0] (u, ml_h m lm) Φ = if (x5 + (nI 1)) = x3 then wp Ln xs 56 44 [.ref 69, .ref 3, .int x2, .int x3, .int (x4 + nI 1), .int x5, .int xs0] [] (u, ml_h m lm) Φ else wp Ln xs 56 31 [.ref 69, .ref 3, .int x2, .int x3, .int (x4 + nI 1), .int x5, .int xs0] [] (u, ml_h m lm) Φ := (wp_same (L' := [.ref 69, .ref 3, .int x2, .int x3, .int x4, .int x5, .int xs0]) xd56_18 (Or.inr rfl) rfl).trans ((wp_same (L' := [.ref 69, .ref 3, .int x2, .int x3, .int (x4 + nI 1), .int x5, .int xs0]) xd56_20 (Or.inr rfl) rfl).trans ((wp_same xd56_23 (Or.inr rfl) rfl).trans ((wp_same (S' := [.int (nI 1), .int x5]) xd56_25 (Or.inr rfl) rfl).trans ((wp_same xd56_26 (Or.inr rfl) rfl).trans ((wp_same xd56_27 (Or.inr rfl) rfl).trans (wx_icmp xd56_28 rfl rfl ((x5 + (nI 1)) = x3) mb_eq))))))
theorem x56_31 {x2 : Int32} {x3 : Int32} {x4 : Int32} {x5 : Int32} {x6 : Int32} : wp Ln xs 56 31 [.ref 69, .ref 3, .int x2, .int x3, .int x4, .int x5, .int x6] [] (u, ml_h m lm) Φ = wp Ln xs 13 0 [.ref 3, .int (x5 + (nI 1))] [] (u, ml_h m lm) (mk Ln xs 56 36 [.ref 69, .ref 3, .int x2, .int x3, .int x4, .int x5, .int x6] [] Φ) := (wp_same xd56_31 (Or.inr rfl) rfl).trans ((wp_same xd56_32 (Or.inr rfl) rfl).trans ((wp_same (S' := [.int (nI 1), .int x5, .ref 3]) xd56_34 (Or.inr rfl) rfl).trans ((wp_same xd56_35 (Or.inr rfl) rfl).trans (wm_cs (As := [.ref 3, .int (x5 + (nI 1))]) (rest := []) xd56_36 rfl rfl (Nat.le_of_ble_eq_true rfl) (Nat.le_of_ble_eq_true rfl) (Nat.le_of_ble_eq_true rfl) (Nat.le_of_ble_eq_true rfl)))))
theorem x56_39 {x2 : Int32} {x3 : Int32} {x4 : Int32} {x5 : Int32} {x6 : Int32} {xs0 : Int32} : wp Ln xs 56 39 [.ref 69, .ref 3, .int x2, .int x3, .int x4, .int x5, .int x6] [.int xs0] (u, ml_h m lm) Φ = if xs0 = x6 then wp Ln xs 56 64 [.ref 69, .ref 3, .int x2, .int x3, .int x4, .int x5, .int x6] [] (u, ml_h m lm) Φ else wp Ln xs 56 44 [.ref 69, .ref 3, .int x2, .int x3, .int x4, .int x5, .int x6] [] (u, ml_h m lm) Φ := (wp_same xd56_39 (Or.inr rfl) rfl).trans (wx_icmp xd56_41 rfl rfl (xs0 = x6) mb_eq)
theorem x56_44 {x2 : Int32} {x3 : Int32} {x4 : Int32} {x5 : Int32} {x6 : Int32} : wp Ln xs 56 44 [.ref 69, .ref 3, .int x2, .int x3, .int x4, .int x5, .int x6] [] (u, ml_h m lm) Φ = wp Ln xs 54 0 [.ref 69, .int x6, .int (nI 10), mj_hole] [] (u, ml_h m lm) (mk Ln xs 56 49 [.ref 69, .ref 3, .int x2, .int x3, .int x4, .int x5, .int x6] [] Φ) := (wp_same xd56_44 (Or.inr rfl) rfl).trans ((wp_same xd56_45 (Or.inr rfl) rfl).trans ((wp_same (S' := [.int (nI 10), .int x6, .ref 69]) xd56_47 (Or.inr rfl) rfl).trans (wm_cv (As := [.int x6, .int (nI 10)]) (rest := []) xd56_49 rfl rfl (show ml_L[69]? = _ from rfl) (Nat.le_of_ble_eq_true rfl) (Nat.le_of_ble_eq_true rfl) (Nat.le_of_ble_eq_true rfl) (Nat.le_of_ble_eq_true rfl))))
theorem x56_52 {x2 : Int32} {x3 : Int32} {x4 : Int32} {x5 : Int32} {x6 : Int32} : wp Ln xs 56 52 [.ref 69, .ref 3, .int x2, .int x3, .int x4, .int x5, .int x6] [] (u, ml_h m lm) Φ = wp Ln xs 54 0 [.ref 69, .int (x4 - (nI 1)), .int (nI 4), mj_hole] [] (u, ml_h m lm) (mk Ln xs 56 58 [.ref 69, .ref 3, .int x2, .int x3, .int x4, .int x5, .int x6] [] Φ) := (wp_same xd56_52 (Or.inr rfl) rfl).trans ((wp_same xd56_53 (Or.inr rfl) rfl).trans ((wp_same (S' := [.int (nI 1), .int x4, .ref 69]) xd56_55 (Or.inr rfl) rfl).trans ((wp_same xd56_56 (Or.inr rfl) rfl).trans ((wp_same (S' := [.int (nI 4), .int (x4 - (nI 1)), .ref 69]) xd56_57 (Or.inr rfl) rfl).trans (wm_cv (As := [.int (x4 - (nI 1)), .int (nI 4)]) (rest := []) xd56_58 rfl rfl (show ml_L[69]? = _ from rfl) (Nat.le_of_ble_eq_true rfl) (Nat.le_of_ble_eq_true rfl) (Nat.le_of_ble_eq_true rfl) (Nat.le_of_ble_eq_true rfl))))))
theorem x56_61 {x2 : Int32} {x3 : Int32} {x4 : Int32} {x5 : Int32} {x6 : Int32} : wp Ln xs 56 61 [.ref 69, .ref 3, .int x2, .int x3, .int x4, .int x5, .int x6] [] (u, ml_h m lm) Φ = wp Ln xs 56 64 [.ref 69, .ref 3, .int x2, .int x3, .int (nI 0), .int x5, .int x6] [] (u, ml_h m lm) Φ := (wp_same (S' := [.int (nI 0)]) xd56_61 (Or.inr rfl) rfl).trans (wp_same (L' := [.ref 69, .ref 3, .int x2, .int x3, .int (nI 0), .int x5, .int x6]) xd56_62 (Or.inr rfl) rfl)
theorem x56_64 {x2 : Int32} {x3 : Int32} {x4 : Int32} {x5 : Int32} {x6 : Int32} : wp Ln xs 56 64 [.ref 69, .ref 3, .int x2, .int x3, .int x4, .int x5, .int x6] [] (u, ml_h m lm) Φ = wp Ln xs 56 6 [.ref 69, .ref 3, .int x2, .int x3, .int x4, .int (x5 + nI 1), .int x6] [] (u, ml_h m lm) Φ := (wp_same (L' := [.ref 69, .ref 3, .int x2, .int x3, .int x4, .int (x5 + nI 1), .int x6]) xd56_64 (Or.inr rfl) rfl).trans (wx_goto xd56_67 rfl)
theorem x56_70 {x2 : Int32} {x3 : Int32} {x4 : Int32} {x5 : Int32} {v6 : Value} : wp Ln xs 56 70 [.ref 69, .ref 3, .int x2, .int x3, .int x4, .int x5, v6] [] (u, ml_h m lm) Φ = Φ (.inl none) (u, ml_h m lm) := wp_fin (v := none) xd56_70 (Or.inr rfl) rfl rfl
/- PickedForms$BitRow.encodeDeltas -/
theorem xd57_0 : decode (mj_b 57) 0 = .ok (.aload 4, 2) := by decide +kernel
theorem xd57_2 : decode (mj_b 57) 2 = .ok (.getfield 72, 3) := by decide +kernel
theorem xd57_5 : decode (mj_b 57) 5 = .ok (.invokestatic 69, 3) := by decide +kernel
theorem xd57_8 : decode (mj_b 57) 8 = .ok (.istore 5, 2) := by decide +kernel
theorem xd57_10 : decode (mj_b 57) 10 = .ok (.aload_n 0, 1) := by decide +kernel
theorem xd57_11 : decode (mj_b 57) 11 = .ok (.aload_n 1, 1) := by decide +kernel
theorem xd57_12 : decode (mj_b 57) 12 = .ok (.iload_n 2, 1) := by decide +kernel
theorem xd57_13 : decode (mj_b 57) 13 = .ok (.invokestatic 51, 3) := by decide +kernel
theorem xd57_16 : decode (mj_b 57) 16 = .ok (.bipush 10, 2) := by decide +kernel
theorem xd57_18 : decode (mj_b 57) 18 = .ok (.invokevirtual 57, 3) := by decide +kernel
theorem xd57_21 : decode (mj_b 57) 21 = .ok (.aload_n 0, 1) := by decide +kernel
theorem xd57_22 : decode (mj_b 57) 22 = .ok (.iload 5, 2) := by decide +kernel
theorem xd57_24 : decode (mj_b 57) 24 = .ok (.iconst 4, 1) := by decide +kernel
theorem xd57_25 : decode (mj_b 57) 25 = .ok (.invokevirtual 57, 3) := by decide +kernel
theorem xd57_28 : decode (mj_b 57) 28 = .ok (.iload_n 2, 1) := by decide +kernel
theorem xd57_29 : decode (mj_b 57) 29 = .ok (.iconst 1, 1) := by decide +kernel
theorem xd57_30 : decode (mj_b 57) 30 = .ok (.iadd, 1) := by decide +kernel
theorem xd57_31 : decode (mj_b 57) 31 = .ok (.istore 6, 2) := by decide +kernel
theorem xd57_33 : decode (mj_b 57) 33 = .ok (.iload 6, 2) := by decide +kernel
theorem xd57_35 : decode (mj_b 57) 35 = .ok (.iload_n 3, 1) := by decide +kernel
theorem xd57_36 : decode (mj_b 57) 36 = .ok (.if_icmp .ge 32, 3) := by decide +kernel
theorem xd57_39 : decode (mj_b 57) 39 = .ok (.aload_n 0, 1) := by decide +kernel
theorem xd57_40 : decode (mj_b 57) 40 = .ok (.aload_n 1, 1) := by decide +kernel
theorem xd57_41 : decode (mj_b 57) 41 = .ok (.iload 6, 2) := by decide +kernel
theorem xd57_43 : decode (mj_b 57) 43 = .ok (.iconst 1, 1) := by decide +kernel
theorem xd57_44 : decode (mj_b 57) 44 = .ok (.isub, 1) := by decide +kernel
theorem xd57_45 : decode (mj_b 57) 45 = .ok (.invokestatic 51, 3) := by decide +kernel
theorem xd57_48 : decode (mj_b 57) 48 = .ok (.aload_n 1, 1) := by decide +kernel
theorem xd57_49 : decode (mj_b 57) 49 = .ok (.iload 6, 2) := by decide +kernel
theorem xd57_51 : decode (mj_b 57) 51 = .ok (.invokestatic 51, 3) := by decide +kernel
theorem xd57_54 : decode (mj_b 57) 54 = .ok (.invokestatic 75, 3) := by decide +kernel
theorem xd57_57 : decode (mj_b 57) 57 = .ok (.iload 5, 2) := by decide +kernel
theorem xd57_59 : decode (mj_b 57) 59 = .ok (.invokevirtual 57, 3) := by decide +kernel
theorem xd57_62 : decode (mj_b 57) 62 = .ok (.iinc 6 1, 3) := by decide +kernel
theorem xd57_65 : decode (mj_b 57) 65 = .ok (.goto (-32), 3) := by decide +kernel
theorem xd57_68 : decode (mj_b 57) 68 = .ok (.return_, 1) := by decide +kernel
theorem x57_0 {x2 : Int32} {x3 : Int32} : wp Ln xs 57 0 [.ref 69, .ref 3, .int x2, .int x3, .ref 56, mj_hole, mj_hole] [] (u, ml_h m lm) Φ = wp Ln xs 38 0 [.int (m 56 6), mj_hole, mj_hole] [] (u, ml_h m lm) (mk Ln xs 57 5 [.ref 69, .ref 3, .int x2, .int x3, .ref 56, mj_hole, mj_hole] [] Φ) := (wp_same xd57_0 (Or.inr rfl) rfl).trans ((wm_geti xd57_2 rfl (show ml_L[56]? = _ from rfl) rfl (Nat.le_of_ble_eq_true rfl)).trans (wm_cs (As := [.int (m 56 6)]) (rest := []) xd57_5 rfl rfl (Nat.le_of_ble_eq_true rfl) (Nat.le_of_ble_eq_true rfl) (Nat.le_of_ble_eq_true rfl) (Nat.le_of_ble_eq_true rfl)))
theorem x57_8 {x2 : Int32} {x3 : Int32} {xs0 : Int32} : wp Ln xs 57 8 [.ref 69, .ref 3, .int x2, .int x3, .ref 56, mj_hole, mj_hole] [.int xs0] (u, ml_h m lm) Φ = wp Ln xs 13 0 [.ref 3, .int x2] [] (u, ml_h m lm) (mk Ln xs 57 13 [.ref 69, .ref 3, .int x2, .int x3, .ref 56, .int xs0, mj_hole] [.ref 69] Φ) := (wp_same (L' := [.ref 69, .ref 3, .int x2, .int x3, .ref 56, .int xs0, mj_hole]) xd57_8 (Or.inr rfl) rfl).trans ((wp_same xd57_10 (Or.inr rfl) rfl).trans ((wp_same xd57_11 (Or.inr rfl) rfl).trans ((wp_same xd57_12 (Or.inr rfl) rfl).trans (wm_cs (As := [.ref 3, .int x2]) (rest := [.ref 69]) xd57_13 rfl rfl (Nat.le_of_ble_eq_true rfl) (Nat.le_of_ble_eq_true rfl) (Nat.le_of_ble_eq_true rfl) (Nat.le_of_ble_eq_true rfl)))))
theorem x57_16 {x2 : Int32} {x3 : Int32} {x5 : Int32} {xs0 : Int32} : wp Ln xs 57 16 [.ref 69, .ref 3, .int x2, .int x3, .ref 56, .int x5, mj_hole] [.int xs0, .ref 69] (u, ml_h m lm) Φ = wp Ln xs 54 0 [.ref 69, .int xs0, .int (nI 10), mj_hole] [] (u, ml_h m lm) (mk Ln xs 57 18 [.ref 69, .ref 3, .int x2, .int x3, .ref 56, .int x5, mj_hole] [] Φ) := (wp_same (S' := [.int (nI 10), .int xs0, .ref 69]) xd57_16 (Or.inr rfl) rfl).trans (wm_cv (As := [.int xs0, .int (nI 10)]) (rest := []) xd57_18 rfl rfl (show ml_L[69]? = _ from rfl) (Nat.le_of_ble_eq_true rfl) (Nat.le_of_ble_eq_true rfl) (Nat.le_of_ble_eq_true rfl) (Nat.le_of_ble_eq_true rfl))
theorem x57_21 {x2 : Int32} {x3 : Int32} {x5 : Int32} : wp Ln xs 57 21 [.ref 69, .ref 3, .int x2, .int x3, .ref 56, .int x5, mj_hole] [] (u, ml_h m lm) Φ = wp Ln xs 54 0 [.ref 69, .int x5, .int (nI 4), mj_hole] [] (u, ml_h m lm) (mk Ln xs 57 25 [.ref 69, .ref 3, .int x2, .int x3, .ref 56, .int x5, mj_hole] [] Φ) := (wp_same xd57_21 (Or.inr rfl) rfl).trans ((wp_same xd57_22 (Or.inr rfl) rfl).trans ((wp_same (S' := [.int (nI 4), .int x5, .ref 69]) xd57_24 (Or.inr rfl) rfl).trans (wm_cv (As := [.int x5, .int (nI 4)]) (rest := []) xd57_25 rfl rfl (show ml_L[69]? = _ from rfl) (Nat.le_of_ble_eq_true rfl) (Nat.le_of_ble_eq_true rfl) (Nat.le_of_ble_eq_true rfl) (Nat.le_of_ble_eq_true rfl))))
theorem x57_28 {x2 : Int32} {x3 : Int32} {x5 : Int32} : wp Ln xs 57 28 [.ref 69, .ref 3, .int x2, .int x3, .ref 56, .int x5, mj_hole] [] (u, ml_h m lm) Φ = wp Ln xs 57 33 [.ref 69, .ref 3, .int x2, .int x3, .ref 56, .int x5, .int (x2 + (nI 1))] [] (u, ml_h m lm) Φ := (wp_same xd57_28 (Or.inr rfl) rfl).trans ((wp_same (S' := [.int (nI 1), .int x2]) xd57_29 (Or.inr rfl) rfl).trans ((wp_same xd57_30 (Or.inr rfl) rfl).trans (wp_same (L' := [.ref 69, .ref 3, .int x2, .int x3, .ref 56, .int x5, .int (x2 + (nI 1))]) xd57_31 (Or.inr rfl) rfl)))
theorem x57_33 {x2 : Int32} {x3 : Int32} {x5 : Int32} {x6 : Int32} : wp Ln xs 57 33 [.ref 69, .ref 3, .int x2, .int x3, .ref 56, .int x5, .int x6] [] (u, ml_h m lm) Φ = if x3 ≤ x6 then wp Ln xs 57 68 [.ref 69, .ref 3, .int x2, .int x3, .ref 56, .int x5, .int x6] [] (u, ml_h m lm) Φ else wp Ln xs 57 39 [.ref 69, .ref 3, .int x2, .int x3, .ref 56, .int x5, .int x6] [] (u, ml_h m lm) Φ := (wp_same xd57_33 (Or.inr rfl) rfl).trans ((wp_same xd57_35 (Or.inr rfl) rfl).trans (wx_icmp xd57_36 rfl rfl (x3 ≤ x6) mb_ge))
theorem x57_39 {x2 : Int32} {x3 : Int32} {x5 : Int32} {x6 : Int32} : wp Ln xs 57 39 [.ref 69, .ref 3, .int x2, .int x3, .ref 56, .int x5, .int x6] [] (u, ml_h m lm) Φ = wp Ln xs 13 0 [.ref 3, .int (x6 - (nI 1))] [] (u, ml_h m lm) (mk Ln xs 57 45 [.ref 69, .ref 3, .int x2, .int x3, .ref 56, .int x5, .int x6] [.ref 69] Φ) := (wp_same xd57_39 (Or.inr rfl) rfl).trans ((wp_same xd57_40 (Or.inr rfl) rfl).trans ((wp_same xd57_41 (Or.inr rfl) rfl).trans ((wp_same (S' := [.int (nI 1), .int x6, .ref 3, .ref 69]) xd57_43 (Or.inr rfl) rfl).trans ((wp_same xd57_44 (Or.inr rfl) rfl).trans (wm_cs (As := [.ref 3, .int (x6 - (nI 1))]) (rest := [.ref 69]) xd57_45 rfl rfl (Nat.le_of_ble_eq_true rfl) (Nat.le_of_ble_eq_true rfl) (Nat.le_of_ble_eq_true rfl) (Nat.le_of_ble_eq_true rfl))))))
theorem x57_48 {x2 : Int32} {x3 : Int32} {x5 : Int32} {x6 : Int32} {xs0 : Int32} : wp Ln xs 57 48 [.ref 69, .ref 3, .int x2, .int x3, .ref 56, .int x5, .int x6] [.int xs0, .ref 69] (u, ml_h m lm) Φ = wp Ln xs 13 0 [.ref 3, .int x6] [] (u, ml_h m lm) (mk Ln xs 57 51 [.ref 69, .ref 3, .int x2, .int x3, .ref 56, .int x5, .int x6] [.int xs0, .ref 69] Φ) := (wp_same xd57_48 (Or.inr rfl) rfl).trans ((wp_same xd57_49 (Or.inr rfl) rfl).trans (wm_cs (As := [.ref 3, .int x6]) (rest := [.int xs0, .ref 69]) xd57_51 rfl rfl (Nat.le_of_ble_eq_true rfl) (Nat.le_of_ble_eq_true rfl) (Nat.le_of_ble_eq_true rfl) (Nat.le_of_ble_eq_true rfl)))
theorem x57_54 {x2 : Int32} {x3 : Int32} {x5 : Int32} {x6 : Int32} {xs0 : Int32} {xs1 : Int32} : wp Ln xs 57 54 [.ref 69, .ref 3, .int x2, .int x3, .ref 56, .int x5, .int x6] [.int xs0, .int xs1, .ref 69] (u, ml_h m lm) Φ = wp Ln xs 34 0 [.int xs1, .int xs0, mj_hole] [] (u, ml_h m lm) (mk Ln xs 57 54 [.ref 69, .ref 3, .int x2, .int x3, .ref 56, .int x5, .int x6] [.ref 69] Φ) := wm_cs (As := [.int xs1, .int xs0]) (rest := [.ref 69]) xd57_54 rfl rfl (Nat.le_of_ble_eq_true rfl) (Nat.le_of_ble_eq_true rfl) (Nat.le_of_ble_eq_true rfl) (Nat.le_of_ble_eq_true rfl)
theorem x57_57 {x2 : Int32} {x3 : Int32} {x5 : Int32} {x6 : Int32} {xs0 : Int32} : wp Ln xs 57 57 [.ref 69, .ref 3, .int x2, .int x3, .ref 56, .int x5, .int x6] [.int xs0, .ref 69] (u, ml_h m lm) Φ = wp Ln xs 54 0 [.ref 69, .int xs0, .int x5, mj_hole] [] (u, ml_h m lm) (mk Ln xs 57 59 [.ref 69, .ref 3, .int x2, .int x3, .ref 56, .int x5, .int x6] [] Φ) := (wp_same xd57_57 (Or.inr rfl) rfl).trans (wm_cv (As := [.int xs0, .int x5]) (rest := []) xd57_59 rfl rfl (show ml_L[69]? = _ from rfl) (Nat.le_of_ble_eq_true rfl) (Nat.le_of_ble_eq_true rfl) (Nat.le_of_ble_eq_true rfl) (Nat.le_of_ble_eq_true rfl))
theorem x57_62 {x2 : Int32} {x3 : Int32} {x5 : Int32} {x6 : Int32} : wp Ln xs 57 62 [.ref 69, .ref 3, .int x2, .int x3, .ref 56, .int x5, .int x6] [] (u, ml_h m lm) Φ = wp Ln xs 57 33 [.ref 69, .ref 3, .int x2, .int x3, .ref 56, .int x5, .int (x6 + nI 1)] [] (u, ml_h m lm) Φ := (wp_same (L' := [.ref 69, .ref 3, .int x2, .int x3, .ref 56, .int x5, .int (x6 + nI 1)]) xd57_62 (Or.inr rfl) rfl).trans (wx_goto xd57_65 rfl)
theorem x57_68 {x2 : Int32} {x3 : Int32} {x5 : Int32} {x6 : Int32} : wp Ln xs 57 68 [.ref 69, .ref 3, .int x2, .int x3, .ref 56, .int x5, .int x6] [] (u, ml_h m lm) Φ = Φ (.inl none) (u, ml_h m lm) := wp_fin (v := none) xd57_68 (Or.inr rfl) rfl rfl
/- PickedForms$BitRow.encodeListed -/
theorem xd58_0 : decode (mj_b 58) 0 = .ok (.aload 4, 2) := by decide +kernel
theorem xd58_2 : decode (mj_b 58) 2 = .ok (.getfield 79, 3) := by decide +kernel
theorem xd58_5 : decode (mj_b 58) 5 = .ok (.iconst 1, 1) := by decide +kernel
theorem xd58_6 : decode (mj_b 58) 6 = .ok (.isub, 1) := by decide +kernel
theorem xd58_7 : decode (mj_b 58) 7 = .ok (.invokestatic 69, 3) := by decide +kernel
theorem xd58_10 : decode (mj_b 58) 10 = .ok (.istore 5, 2) := by decide +kernel
theorem xd58_12 : decode (mj_b 58) 12 = .ok (.aload_n 0, 1) := by decide +kernel
theorem xd58_13 : decode (mj_b 58) 13 = .ok (.aload 4, 2) := by decide +kernel
theorem xd58_15 : decode (mj_b 58) 15 = .ok (.getfield 79, 3) := by decide +kernel
theorem xd58_18 : decode (mj_b 58) 18 = .ok (.iconst 1, 1) := by decide +kernel
theorem xd58_19 : decode (mj_b 58) 19 = .ok (.isub, 1) := by decide +kernel
theorem xd58_20 : decode (mj_b 58) 20 = .ok (.iconst 4, 1) := by decide +kernel
theorem xd58_21 : decode (mj_b 58) 21 = .ok (.invokevirtual 57, 3) := by decide +kernel
theorem xd58_24 : decode (mj_b 58) 24 = .ok (.iconst 0, 1) := by decide +kernel
theorem xd58_25 : decode (mj_b 58) 25 = .ok (.istore 6, 2) := by decide +kernel
theorem xd58_27 : decode (mj_b 58) 27 = .ok (.iload 6, 2) := by decide +kernel
theorem xd58_29 : decode (mj_b 58) 29 = .ok (.aload 4, 2) := by decide +kernel
theorem xd58_31 : decode (mj_b 58) 31 = .ok (.getfield 79, 3) := by decide +kernel
theorem xd58_34 : decode (mj_b 58) 34 = .ok (.if_icmp .ge 25, 3) := by decide +kernel
theorem xd58_37 : decode (mj_b 58) 37 = .ok (.aload_n 0, 1) := by decide +kernel
theorem xd58_38 : decode (mj_b 58) 38 = .ok (.aload 4, 2) := by decide +kernel
theorem xd58_40 : decode (mj_b 58) 40 = .ok (.getfield 82, 3) := by decide +kernel
theorem xd58_43 : decode (mj_b 58) 43 = .ok (.iload 6, 2) := by decide +kernel
theorem xd58_45 : decode (mj_b 58) 45 = .ok (.invokestatic 51, 3) := by decide +kernel
theorem xd58_48 : decode (mj_b 58) 48 = .ok (.bipush 10, 2) := by decide +kernel
theorem xd58_50 : decode (mj_b 58) 50 = .ok (.invokevirtual 57, 3) := by decide +kernel
theorem xd58_53 : decode (mj_b 58) 53 = .ok (.iinc 6 1, 3) := by decide +kernel
theorem xd58_56 : decode (mj_b 58) 56 = .ok (.goto (-29), 3) := by decide +kernel
theorem xd58_59 : decode (mj_b 58) 59 = .ok (.iload_n 2, 1) := by decide +kernel
theorem xd58_60 : decode (mj_b 58) 60 = .ok (.istore 6, 2) := by decide +kernel
theorem xd58_62 : decode (mj_b 58) 62 = .ok (.iload 6, 2) := by decide +kernel
theorem xd58_64 : decode (mj_b 58) 64 = .ok (.iload_n 3, 1) := by decide +kernel
theorem xd58_65 : decode (mj_b 58) 65 = .ok (.if_icmp .ge 26, 3) := by decide +kernel
theorem xd58_68 : decode (mj_b 58) 68 = .ok (.aload_n 0, 1) := by decide +kernel
theorem xd58_69 : decode (mj_b 58) 69 = .ok (.aload 4, 2) := by decide +kernel
theorem xd58_71 : decode (mj_b 58) 71 = .ok (.aload_n 1, 1) := by decide +kernel
theorem xd58_72 : decode (mj_b 58) 72 = .ok (.iload 6, 2) := by decide +kernel
theorem xd58_74 : decode (mj_b 58) 74 = .ok (.invokestatic 51, 3) := by decide +kernel
theorem xd58_77 : decode (mj_b 58) 77 = .ok (.invokevirtual 85, 3) := by decide +kernel
theorem xd58_80 : decode (mj_b 58) 80 = .ok (.iload 5, 2) := by decide +kernel
theorem xd58_82 : decode (mj_b 58) 82 = .ok (.invokevirtual 57, 3) := by decide +kernel
theorem xd58_85 : decode (mj_b 58) 85 = .ok (.iinc 6 1, 3) := by decide +kernel
theorem xd58_88 : decode (mj_b 58) 88 = .ok (.goto (-26), 3) := by decide +kernel
theorem xd58_91 : decode (mj_b 58) 91 = .ok (.return_, 1) := by decide +kernel
theorem x58_0 {x2 : Int32} {x3 : Int32} : wp Ln xs 58 0 [.ref 69, .ref 3, .int x2, .int x3, .ref 56, mj_hole, mj_hole] [] (u, ml_h m lm) Φ = wp Ln xs 38 0 [.int ((m 56 1) - (nI 1)), mj_hole, mj_hole] [] (u, ml_h m lm) (mk Ln xs 58 7 [.ref 69, .ref 3, .int x2, .int x3, .ref 56, mj_hole, mj_hole] [] Φ) := (wp_same xd58_0 (Or.inr rfl) rfl).trans ((wm_geti xd58_2 rfl (show ml_L[56]? = _ from rfl) rfl (Nat.le_of_ble_eq_true rfl)).trans ((wp_same (S' := [.int (nI 1), .int (m 56 1)]) xd58_5 (Or.inr rfl) rfl).trans ((wp_same xd58_6 (Or.inr rfl) rfl).trans (wm_cs (As := [.int ((m 56 1) - (nI 1))]) (rest := []) xd58_7 rfl rfl (Nat.le_of_ble_eq_true rfl) (Nat.le_of_ble_eq_true rfl) (Nat.le_of_ble_eq_true rfl) (Nat.le_of_ble_eq_true rfl)))))
theorem x58_10 {x2 : Int32} {x3 : Int32} {xs0 : Int32} : wp Ln xs 58 10 [.ref 69, .ref 3, .int x2, .int x3, .ref 56, mj_hole, mj_hole] [.int xs0] (u, ml_h m lm) Φ = wp Ln xs 54 0 [.ref 69, .int ((m 56 1) - (nI 1)), .int (nI 4), mj_hole] [] (u, ml_h m lm) (mk Ln xs 58 21 [.ref 69, .ref 3, .int x2, .int x3, .ref 56, .int xs0, mj_hole] [] Φ) := (wp_same (L' := [.ref 69, .ref 3, .int x2, .int x3, .ref 56, .int xs0, mj_hole]) xd58_10 (Or.inr rfl) rfl).trans ((wp_same xd58_12 (Or.inr rfl) rfl).trans ((wp_same xd58_13 (Or.inr rfl) rfl).trans ((wm_geti xd58_15 rfl (show ml_L[56]? = _ from rfl) rfl (Nat.le_of_ble_eq_true rfl)).trans ((wp_same (S' := [.int (nI 1), .int (m 56 1), .ref 69]) xd58_18 (Or.inr rfl) rfl).trans ((wp_same xd58_19 (Or.inr rfl) rfl).trans ((wp_same (S' := [.int (nI 4), .int ((m 56 1) - (nI 1)), .ref 69]) xd58_20 (Or.inr rfl) rfl).trans (wm_cv (As := [.int ((m 56 1) - (nI 1)), .int (nI 4)]) (rest := []) xd58_21 rfl rfl (show ml_L[69]? = _ from rfl) (Nat.le_of_ble_eq_true rfl) (Nat.le_of_ble_eq_true rfl) (Nat.le_of_ble_eq_true rfl) (Nat.le_of_ble_eq_true rfl))))))))
theorem x58_24 {x2 : Int32} {x3 : Int32} {x5 : Int32} : wp Ln xs 58 24 [.ref 69, .ref 3, .int x2, .int x3, .ref 56, .int x5, mj_hole] [] (u, ml_h m lm) Φ = wp Ln xs 58 27 [.ref 69, .ref 3, .int x2, .int x3, .ref 56, .int x5, .int (nI 0)] [] (u, ml_h m lm) Φ := (wp_same (S' := [.int (nI 0)]) xd58_24 (Or.inr rfl) rfl).trans (wp_same (L' := [.ref 69, .ref 3, .int x2, .int x3, .ref 56, .int x5, .int (nI 0)]) xd58_25 (Or.inr rfl) rfl)
theorem x58_27 {x2 : Int32} {x3 : Int32} {x5 : Int32} {x6 : Int32} : wp Ln xs 58 27 [.ref 69, .ref 3, .int x2, .int x3, .ref 56, .int x5, .int x6] [] (u, ml_h m lm) Φ = if (m 56 1) ≤ x6 then wp Ln xs 58 59 [.ref 69, .ref 3, .int x2, .int x3, .ref 56, .int x5, .int x6] [] (u, ml_h m lm) Φ else wp Ln xs 58 37 [.ref 69, .ref 3, .int x2, .int x3, .ref 56, .int x5, .int x6] [] (u, ml_h m lm) Φ := (wp_same xd58_27 (Or.inr rfl) rfl).trans ((wp_same xd58_29 (Or.inr rfl) rfl).trans ((wm_geti xd58_31 rfl (show ml_L[56]? = _ from rfl) rfl (Nat.le_of_ble_eq_true rfl)).trans (wx_icmp xd58_34 rfl rfl ((m 56 1) ≤ x6) mb_ge)))
theorem x58_37 {x2 : Int32} {x3 : Int32} {x5 : Int32} {x6 : Int32} : wp Ln xs 58 37 [.ref 69, .ref 3, .int x2, .int x3, .ref 56, .int x5, .int x6] [] (u, ml_h m lm) Φ = wp Ln xs 13 0 [.ref 57, .int x6] [] (u, ml_h m lm) (mk Ln xs 58 45 [.ref 69, .ref 3, .int x2, .int x3, .ref 56, .int x5, .int x6] [.ref 69] Φ) := (wp_same xd58_37 (Or.inr rfl) rfl).trans ((wp_same xd58_38 (Or.inr rfl) rfl).trans ((wm_getr xd58_40 rfl (show ml_L[56]? = _ from rfl) rfl (Nat.le_of_ble_eq_true rfl)).trans ((wp_same xd58_43 (Or.inr rfl) rfl).trans (wm_cs (As := [.ref 57, .int x6]) (rest := [.ref 69]) xd58_45 rfl rfl (Nat.le_of_ble_eq_true rfl) (Nat.le_of_ble_eq_true rfl) (Nat.le_of_ble_eq_true rfl) (Nat.le_of_ble_eq_true rfl)))))
theorem x58_48 {x2 : Int32} {x3 : Int32} {x5 : Int32} {x6 : Int32} {xs0 : Int32} : wp Ln xs 58 48 [.ref 69, .ref 3, .int x2, .int x3, .ref 56, .int x5, .int x6] [.int xs0, .ref 69] (u, ml_h m lm) Φ = wp Ln xs 54 0 [.ref 69, .int xs0, .int (nI 10), mj_hole] [] (u, ml_h m lm) (mk Ln xs 58 50 [.ref 69, .ref 3, .int x2, .int x3, .ref 56, .int x5, .int x6] [] Φ) := (wp_same (S' := [.int (nI 10), .int xs0, .ref 69]) xd58_48 (Or.inr rfl) rfl).trans (wm_cv (As := [.int xs0, .int (nI 10)]) (rest := []) xd58_50 rfl rfl (show ml_L[69]? = _ from rfl) (Nat.le_of_ble_eq_true rfl) (Nat.le_of_ble_eq_true rfl) (Nat.le_of_ble_eq_true rfl) (Nat.le_of_ble_eq_true rfl))
theorem x58_53 {x2 : Int32} {x3 : Int32} {x5 : Int32} {x6 : Int32} : wp Ln xs 58 53 [.ref 69, .ref 3, .int x2, .int x3, .ref 56, .int x5, .int x6] [] (u, ml_h m lm) Φ = wp Ln xs 58 27 [.ref 69, .ref 3, .int x2, .int x3, .ref 56, .int x5, .int (x6 + nI 1)] [] (u, ml_h m lm) Φ := (wp_same (L' := [.ref 69, .ref 3, .int x2, .int x3, .ref 56, .int x5, .int (x6 + nI 1)]) xd58_53 (Or.inr rfl) rfl).trans (wx_goto xd58_56 rfl)
theorem x58_59 {x2 : Int32} {x3 : Int32} {x5 : Int32} {x6 : Int32} : wp Ln xs 58 59 [.ref 69, .ref 3, .int x2, .int x3, .ref 56, .int x5, .int x6] [] (u, ml_h m lm) Φ = wp Ln xs 58 62 [.ref 69, .ref 3, .int x2, .int x3, .ref 56, .int x5, .int x2] [] (u, ml_h m lm) Φ := (wp_same xd58_59 (Or.inr rfl) rfl).trans (wp_same (L' := [.ref 69, .ref 3, .int x2, .int x3, .ref 56, .int x5, .int x2]) xd58_60 (Or.inr rfl) rfl)
theorem x58_62 {x2 : Int32} {x3 : Int32} {x5 : Int32} {x6 : Int32} : wp Ln xs 58 62 [.ref 69, .ref 3, .int x2, .int x3, .ref 56, .int x5, .int x6] [] (u, ml_h m lm) Φ = if x3 ≤ x6 then wp Ln xs 58 91 [.ref 69, .ref 3, .int x2, .int x3, .ref 56, .int x5, .int x6] [] (u, ml_h m lm) Φ else wp Ln xs 58 68 [.ref 69, .ref 3, .int x2, .int x3, .ref 56, .int x5, .int x6] [] (u, ml_h m lm) Φ := (wp_same xd58_62 (Or.inr rfl) rfl).trans ((wp_same xd58_64 (Or.inr rfl) rfl).trans (wx_icmp xd58_65 rfl rfl (x3 ≤ x6) mb_ge))
theorem x58_68 {x2 : Int32} {x3 : Int32} {x5 : Int32} {x6 : Int32} : wp Ln xs 58 68 [.ref 69, .ref 3, .int x2, .int x3, .ref 56, .int x5, .int x6] [] (u, ml_h m lm) Φ = wp Ln xs 13 0 [.ref 3, .int x6] [] (u, ml_h m lm) (mk Ln xs 58 74 [.ref 69, .ref 3, .int x2, .int x3, .ref 56, .int x5, .int x6] [.ref 56, .ref 69] Φ) := (wp_same xd58_68 (Or.inr rfl) rfl).trans ((wp_same xd58_69 (Or.inr rfl) rfl).trans ((wp_same xd58_71 (Or.inr rfl) rfl).trans ((wp_same xd58_72 (Or.inr rfl) rfl).trans (wm_cs (As := [.ref 3, .int x6]) (rest := [.ref 56, .ref 69]) xd58_74 rfl rfl (Nat.le_of_ble_eq_true rfl) (Nat.le_of_ble_eq_true rfl) (Nat.le_of_ble_eq_true rfl) (Nat.le_of_ble_eq_true rfl)))))
theorem x58_77 {x2 : Int32} {x3 : Int32} {x5 : Int32} {x6 : Int32} {xs0 : Int32} : wp Ln xs 58 77 [.ref 69, .ref 3, .int x2, .int x3, .ref 56, .int x5, .int x6] [.int xs0, .ref 56, .ref 69] (u, ml_h m lm) Φ = wp Ln xs 59 0 [.ref 56, .int xs0, mj_hole, mj_hole] [] (u, ml_h m lm) (mk Ln xs 58 77 [.ref 69, .ref 3, .int x2, .int x3, .ref 56, .int x5, .int x6] [.ref 69] Φ) := wm_cv (As := [.int xs0]) (rest := [.ref 69]) xd58_77 rfl rfl (show ml_L[56]? = _ from rfl) (Nat.le_of_ble_eq_true rfl) (Nat.le_of_ble_eq_true rfl) (Nat.le_of_ble_eq_true rfl) (Nat.le_of_ble_eq_true rfl)
theorem x58_80 {x2 : Int32} {x3 : Int32} {x5 : Int32} {x6 : Int32} {xs0 : Int32} : wp Ln xs 58 80 [.ref 69, .ref 3, .int x2, .int x3, .ref 56, .int x5, .int x6] [.int xs0, .ref 69] (u, ml_h m lm) Φ = wp Ln xs 54 0 [.ref 69, .int xs0, .int x5, mj_hole] [] (u, ml_h m lm) (mk Ln xs 58 82 [.ref 69, .ref 3, .int x2, .int x3, .ref 56, .int x5, .int x6] [] Φ) := (wp_same xd58_80 (Or.inr rfl) rfl).trans (wm_cv (As := [.int xs0, .int x5]) (rest := []) xd58_82 rfl rfl (show ml_L[69]? = _ from rfl) (Nat.le_of_ble_eq_true rfl) (Nat.le_of_ble_eq_true rfl) (Nat.le_of_ble_eq_true rfl) (Nat.le_of_ble_eq_true rfl))
theorem x58_85 {x2 : Int32} {x3 : Int32} {x5 : Int32} {x6 : Int32} : wp Ln xs 58 85 [.ref 69, .ref 3, .int x2, .int x3, .ref 56, .int x5, .int x6] [] (u, ml_h m lm) Φ = wp Ln xs 58 62 [.ref 69, .ref 3, .int x2, .int x3, .ref 56, .int x5, .int (x6 + nI 1)] [] (u, ml_h m lm) Φ := (wp_same (L' := [.ref 69, .ref 3, .int x2, .int x3, .ref 56, .int x5, .int (x6 + nI 1)]) xd58_85 (Or.inr rfl) rfl).trans (wx_goto xd58_88 rfl)
theorem x58_91 {x2 : Int32} {x3 : Int32} {x5 : Int32} {x6 : Int32} : wp Ln xs 58 91 [.ref 69, .ref 3, .int x2, .int x3, .ref 56, .int x5, .int x6] [] (u, ml_h m lm) Φ = Φ (.inl none) (u, ml_h m lm) := wp_fin (v := none) xd58_91 (Or.inr rfl) rfl rfl
/- PickedForms$Shape.rankOf -/
theorem xd59_0 : decode (mj_b 59) 0 = .ok (.iconst 0, 1) := by decide +kernel
theorem xd59_1 : decode (mj_b 59) 1 = .ok (.istore_n 2, 1) := by decide +kernel
theorem xd59_2 : decode (mj_b 59) 2 = .ok (.iconst 0, 1) := by decide +kernel
theorem xd59_3 : decode (mj_b 59) 3 = .ok (.istore_n 3, 1) := by decide +kernel
theorem xd59_4 : decode (mj_b 59) 4 = .ok (.iload_n 3, 1) := by decide +kernel
theorem xd59_5 : decode (mj_b 59) 5 = .ok (.aload_n 0, 1) := by decide +kernel
theorem xd59_6 : decode (mj_b 59) 6 = .ok (.getfield 15, 3) := by decide +kernel
theorem xd59_9 : decode (mj_b 59) 9 = .ok (.if_icmp .ge 24, 3) := by decide +kernel
theorem xd59_12 : decode (mj_b 59) 12 = .ok (.aload_n 0, 1) := by decide +kernel
theorem xd59_13 : decode (mj_b 59) 13 = .ok (.getfield 9, 3) := by decide +kernel
theorem xd59_16 : decode (mj_b 59) 16 = .ok (.iload_n 3, 1) := by decide +kernel
theorem xd59_17 : decode (mj_b 59) 17 = .ok (.invokestatic 40, 3) := by decide +kernel
theorem xd59_20 : decode (mj_b 59) 20 = .ok (.iload_n 1, 1) := by decide +kernel
theorem xd59_21 : decode (mj_b 59) 21 = .ok (.if_icmp .ge 12, 3) := by decide +kernel
theorem xd59_24 : decode (mj_b 59) 24 = .ok (.iinc 2 1, 3) := by decide +kernel
theorem xd59_27 : decode (mj_b 59) 27 = .ok (.iinc 3 1, 3) := by decide +kernel
theorem xd59_30 : decode (mj_b 59) 30 = .ok (.goto (-26), 3) := by decide +kernel
theorem xd59_33 : decode (mj_b 59) 33 = .ok (.iload_n 2, 1) := by decide +kernel
theorem xd59_34 : decode (mj_b 59) 34 = .ok (.ireturn, 1) := by decide +kernel
theorem x59_0 {p : Nat} {x1 : Int32} : wp Ln xs 59 0 [.ref p, .int x1, mj_hole, mj_hole] [] (u, ml_h m lm) Φ = wp Ln xs 59 4 [.ref p, .int x1, .int (nI 0), .int (nI 0)] [] (u, ml_h m lm) Φ := (wp_same (S' := [.int (nI 0)]) xd59_0 (Or.inr rfl) rfl).trans ((wp_same (L' := [.ref p, .int x1, .int (nI 0), mj_hole]) xd59_1 (Or.inr rfl) rfl).trans ((wp_same (S' := [.int (nI 0)]) xd59_2 (Or.inr rfl) rfl).trans (wp_same (L' := [.ref p, .int x1, .int (nI 0), .int (nI 0)]) xd59_3 (Or.inr rfl) rfl)))
theorem x59_4 {p : Nat} {x1 : Int32} {x2 : Int32} {x3 : Int32} (hp : ml_sh p) : wp Ln xs 59 4 [.ref p, .int x1, .int x2, .int x3] [] (u, ml_h m lm) Φ = if (m p 1) ≤ x3 then wp Ln xs 59 33 [.ref p, .int x1, .int x2, .int x3] [] (u, ml_h m lm) Φ else wp Ln xs 59 12 [.ref p, .int x1, .int x2, .int x3] [] (u, ml_h m lm) Φ := (wp_same xd59_4 (Or.inr rfl) rfl).trans ((wp_same xd59_5 (Or.inr rfl) rfl).trans ((wm_geti xd59_6 rfl hp.1 rfl (Nat.le_of_ble_eq_true rfl)).trans (wx_icmp xd59_9 rfl rfl ((m p 1) ≤ x3) mb_ge)))
theorem x59_12 {p : Nat} {x1 : Int32} {x2 : Int32} {x3 : Int32} (hp : ml_sh p) : wp Ln xs 59 12 [.ref p, .int x1, .int x2, .int x3] [] (u, ml_h m lm) Φ = wp Ln xs 13 0 [.ref (p + 1), .int x3] [] (u, ml_h m lm) (mk Ln xs 59 17 [.ref p, .int x1, .int x2, .int x3] [] Φ) := (wp_same xd59_12 (Or.inr rfl) rfl).trans ((wm_getr xd59_13 rfl hp.1 rfl (Nat.le_of_ble_eq_true rfl)).trans ((wp_same xd59_16 (Or.inr rfl) rfl).trans (wm_cs (As := [.ref (p + 1), .int x3]) (rest := []) xd59_17 rfl rfl (Nat.le_of_ble_eq_true rfl) (Nat.le_of_ble_eq_true rfl) (Nat.le_of_ble_eq_true rfl) (Nat.le_of_ble_eq_true rfl))))
theorem x59_20 {p : Nat} {x1 : Int32} {x2 : Int32} {x3 : Int32} {xs0 : Int32} : wp Ln xs 59 20 [.ref p, .int x1, .int x2, .int x3] [.int xs0] (u, ml_h m lm) Φ = if x1 ≤ xs0 then wp Ln xs 59 33 [.ref p, .int x1, .int x2, .int x3] [] (u, ml_h m lm) Φ else wp Ln xs 59 24 [.ref p, .int x1, .int x2, .int x3] [] (u, ml_h m lm) Φ := (wp_same xd59_20 (Or.inr rfl) rfl).trans (wx_icmp xd59_21 rfl rfl (x1 ≤ xs0) mb_ge)
theorem x59_24 {p : Nat} {x1 : Int32} {x2 : Int32} {x3 : Int32} : wp Ln xs 59 24 [.ref p, .int x1, .int x2, .int x3] [] (u, ml_h m lm) Φ = wp Ln xs 59 4 [.ref p, .int x1, .int (x2 + nI 1), .int (x3 + nI 1)] [] (u, ml_h m lm) Φ := (wp_same (L' := [.ref p, .int x1, .int (x2 + nI 1), .int x3]) xd59_24 (Or.inr rfl) rfl).trans ((wp_same (L' := [.ref p, .int x1, .int (x2 + nI 1), .int (x3 + nI 1)]) xd59_27 (Or.inr rfl) rfl).trans (wx_goto xd59_30 rfl))
theorem x59_33 {p : Nat} {x1 : Int32} {x2 : Int32} {x3 : Int32} : wp Ln xs 59 33 [.ref p, .int x1, .int x2, .int x3] [] (u, ml_h m lm) Φ = Φ (.inl (some (.int x2))) (u, ml_h m lm) := (wp_same xd59_33 (Or.inr rfl) rfl).trans (wp_fin (v := some (.int x2)) xd59_34 (Or.inr rfl) rfl (mj_fin_i rfl))
/- PickedForms$BitRow.encodePlain -/
theorem xd60_0 : decode (mj_b 60) 0 = .ok (.iload_n 2, 1) := by decide +kernel
theorem xd60_1 : decode (mj_b 60) 1 = .ok (.istore 4, 2) := by decide +kernel
theorem xd60_3 : decode (mj_b 60) 3 = .ok (.iload 4, 2) := by decide +kernel
theorem xd60_5 : decode (mj_b 60) 5 = .ok (.iload_n 3, 1) := by decide +kernel
theorem xd60_6 : decode (mj_b 60) 6 = .ok (.if_icmp .ge 21, 3) := by decide +kernel
theorem xd60_9 : decode (mj_b 60) 9 = .ok (.aload_n 0, 1) := by decide +kernel
theorem xd60_10 : decode (mj_b 60) 10 = .ok (.aload_n 1, 1) := by decide +kernel
theorem xd60_11 : decode (mj_b 60) 11 = .ok (.iload 4, 2) := by decide +kernel
theorem xd60_13 : decode (mj_b 60) 13 = .ok (.invokestatic 51, 3) := by decide +kernel
theorem xd60_16 : decode (mj_b 60) 16 = .ok (.bipush 10, 2) := by decide +kernel
theorem xd60_18 : decode (mj_b 60) 18 = .ok (.invokevirtual 57, 3) := by decide +kernel
theorem xd60_21 : decode (mj_b 60) 21 = .ok (.iinc 4 1, 3) := by decide +kernel
theorem xd60_24 : decode (mj_b 60) 24 = .ok (.goto (-21), 3) := by decide +kernel
theorem xd60_27 : decode (mj_b 60) 27 = .ok (.return_, 1) := by decide +kernel
theorem x60_0 {x2 : Int32} {x3 : Int32} : wp Ln xs 60 0 [.ref 69, .ref 3, .int x2, .int x3, mj_hole] [] (u, ml_h m lm) Φ = wp Ln xs 60 3 [.ref 69, .ref 3, .int x2, .int x3, .int x2] [] (u, ml_h m lm) Φ := (wp_same xd60_0 (Or.inr rfl) rfl).trans (wp_same (L' := [.ref 69, .ref 3, .int x2, .int x3, .int x2]) xd60_1 (Or.inr rfl) rfl)
theorem x60_3 {x2 : Int32} {x3 : Int32} {x4 : Int32} : wp Ln xs 60 3 [.ref 69, .ref 3, .int x2, .int x3, .int x4] [] (u, ml_h m lm) Φ = if x3 ≤ x4 then wp Ln xs 60 27 [.ref 69, .ref 3, .int x2, .int x3, .int x4] [] (u, ml_h m lm) Φ else wp Ln xs 60 9 [.ref 69, .ref 3, .int x2, .int x3, .int x4] [] (u, ml_h m lm) Φ := (wp_same xd60_3 (Or.inr rfl) rfl).trans ((wp_same xd60_5 (Or.inr rfl) rfl).trans (wx_icmp xd60_6 rfl rfl (x3 ≤ x4) mb_ge))
theorem x60_9 {x2 : Int32} {x3 : Int32} {x4 : Int32} : wp Ln xs 60 9 [.ref 69, .ref 3, .int x2, .int x3, .int x4] [] (u, ml_h m lm) Φ = wp Ln xs 13 0 [.ref 3, .int x4] [] (u, ml_h m lm) (mk Ln xs 60 13 [.ref 69, .ref 3, .int x2, .int x3, .int x4] [.ref 69] Φ) := (wp_same xd60_9 (Or.inr rfl) rfl).trans ((wp_same xd60_10 (Or.inr rfl) rfl).trans ((wp_same xd60_11 (Or.inr rfl) rfl).trans (wm_cs (As := [.ref 3, .int x4]) (rest := [.ref 69]) xd60_13 rfl rfl (Nat.le_of_ble_eq_true rfl) (Nat.le_of_ble_eq_true rfl) (Nat.le_of_ble_eq_true rfl) (Nat.le_of_ble_eq_true rfl))))
theorem x60_16 {x2 : Int32} {x3 : Int32} {x4 : Int32} {xs0 : Int32} : wp Ln xs 60 16 [.ref 69, .ref 3, .int x2, .int x3, .int x4] [.int xs0, .ref 69] (u, ml_h m lm) Φ = wp Ln xs 54 0 [.ref 69, .int xs0, .int (nI 10), mj_hole] [] (u, ml_h m lm) (mk Ln xs 60 18 [.ref 69, .ref 3, .int x2, .int x3, .int x4] [] Φ) := (wp_same (S' := [.int (nI 10), .int xs0, .ref 69]) xd60_16 (Or.inr rfl) rfl).trans (wm_cv (As := [.int xs0, .int (nI 10)]) (rest := []) xd60_18 rfl rfl (show ml_L[69]? = _ from rfl) (Nat.le_of_ble_eq_true rfl) (Nat.le_of_ble_eq_true rfl) (Nat.le_of_ble_eq_true rfl) (Nat.le_of_ble_eq_true rfl))
theorem x60_21 {x2 : Int32} {x3 : Int32} {x4 : Int32} : wp Ln xs 60 21 [.ref 69, .ref 3, .int x2, .int x3, .int x4] [] (u, ml_h m lm) Φ = wp Ln xs 60 3 [.ref 69, .ref 3, .int x2, .int x3, .int (x4 + nI 1)] [] (u, ml_h m lm) Φ := (wp_same (L' := [.ref 69, .ref 3, .int x2, .int x3, .int (x4 + nI 1)]) xd60_21 (Or.inr rfl) rfl).trans (wx_goto xd60_24 rfl)
theorem x60_27 {x2 : Int32} {x3 : Int32} {x4 : Int32} : wp Ln xs 60 27 [.ref 69, .ref 3, .int x2, .int x3, .int x4] [] (u, ml_h m lm) Φ = Φ (.inl none) (u, ml_h m lm) := wp_fin (v := none) xd60_27 (Or.inr rfl) rfl rfl
/- PickedForms.splitPlace -/
theorem xd61_0 : decode (mj_b 61) 0 = .ok (.aload_n 0, 1) := by decide +kernel
theorem xd61_1 : decode (mj_b 61) 1 = .ok (.getfield 12, 3) := by decide +kernel
theorem xd61_4 : decode (mj_b 61) 4 = .ok (.iload_n 1, 1) := by decide +kernel
theorem xd61_5 : decode (mj_b 61) 5 = .ok (.invokevirtual 182, 3) := by decide +kernel
theorem xd61_8 : decode (mj_b 61) 8 = .ok (.istore_n 2, 1) := by decide +kernel
theorem xd61_9 : decode (mj_b 61) 9 = .ok (.aload_n 0, 1) := by decide +kernel
theorem xd61_10 : decode (mj_b 61) 10 = .ok (.getfield 12, 3) := by decide +kernel
theorem xd61_13 : decode (mj_b 61) 13 = .ok (.iload_n 1, 1) := by decide +kernel
theorem xd61_14 : decode (mj_b 61) 14 = .ok (.invokevirtual 164, 3) := by decide +kernel
theorem xd61_17 : decode (mj_b 61) 17 = .ok (.istore_n 3, 1) := by decide +kernel
theorem xd61_18 : decode (mj_b 61) 18 = .ok (.iconst (-1), 1) := by decide +kernel
theorem xd61_19 : decode (mj_b 61) 19 = .ok (.istore 4, 2) := by decide +kernel
theorem xd61_21 : decode (mj_b 61) 21 = .ok (.iconst 0, 1) := by decide +kernel
theorem xd61_22 : decode (mj_b 61) 22 = .ok (.istore 5, 2) := by decide +kernel
theorem xd61_24 : decode (mj_b 61) 24 = .ok (.iconst 1, 1) := by decide +kernel
theorem xd61_25 : decode (mj_b 61) 25 = .ok (.istore 6, 2) := by decide +kernel
theorem xd61_27 : decode (mj_b 61) 27 = .ok (.iload 6, 2) := by decide +kernel
theorem xd61_29 : decode (mj_b 61) 29 = .ok (.iload_n 3, 1) := by decide +kernel
theorem xd61_30 : decode (mj_b 61) 30 = .ok (.if_icmp .ge 104, 3) := by decide +kernel
theorem xd61_33 : decode (mj_b 61) 33 = .ok (.aload_n 0, 1) := by decide +kernel
theorem xd61_34 : decode (mj_b 61) 34 = .ok (.getfield 47, 3) := by decide +kernel
theorem xd61_37 : decode (mj_b 61) 37 = .ok (.aload_n 0, 1) := by decide +kernel
theorem xd61_38 : decode (mj_b 61) 38 = .ok (.getfield 12, 3) := by decide +kernel
theorem xd61_41 : decode (mj_b 61) 41 = .ok (.getfield 139, 3) := by decide +kernel
theorem xd61_44 : decode (mj_b 61) 44 = .ok (.iload_n 2, 1) := by decide +kernel
theorem xd61_45 : decode (mj_b 61) 45 = .ok (.iload 6, 2) := by decide +kernel
theorem xd61_47 : decode (mj_b 61) 47 = .ok (.aload_n 0, 1) := by decide +kernel
theorem xd61_48 : decode (mj_b 61) 48 = .ok (.getfield 12, 3) := by decide +kernel
theorem xd61_51 : decode (mj_b 61) 51 = .ok (.getfield 203, 3) := by decide +kernel
theorem xd61_54 : decode (mj_b 61) 54 = .ok (.invokevirtual 360, 3) := by decide +kernel
theorem xd61_57 : decode (mj_b 61) 57 = .ok (.aload_n 0, 1) := by decide +kernel
theorem xd61_58 : decode (mj_b 61) 58 = .ok (.getfield 47, 3) := by decide +kernel
theorem xd61_61 : decode (mj_b 61) 61 = .ok (.getfield 373, 3) := by decide +kernel
theorem xd61_64 : decode (mj_b 61) 64 = .ok (.istore 7, 2) := by decide +kernel
theorem xd61_66 : decode (mj_b 61) 66 = .ok (.aload_n 0, 1) := by decide +kernel
theorem xd61_67 : decode (mj_b 61) 67 = .ok (.getfield 47, 3) := by decide +kernel
theorem xd61_70 : decode (mj_b 61) 70 = .ok (.aload_n 0, 1) := by decide +kernel
theorem xd61_71 : decode (mj_b 61) 71 = .ok (.getfield 12, 3) := by decide +kernel
theorem xd61_74 : decode (mj_b 61) 74 = .ok (.getfield 139, 3) := by decide +kernel
theorem xd61_77 : decode (mj_b 61) 77 = .ok (.iload_n 2, 1) := by decide +kernel
theorem xd61_78 : decode (mj_b 61) 78 = .ok (.iload 6, 2) := by decide +kernel
theorem xd61_80 : decode (mj_b 61) 80 = .ok (.iadd, 1) := by decide +kernel
theorem xd61_81 : decode (mj_b 61) 81 = .ok (.iload_n 3, 1) := by decide +kernel
theorem xd61_82 : decode (mj_b 61) 82 = .ok (.iload 6, 2) := by decide +kernel
theorem xd61_84 : decode (mj_b 61) 84 = .ok (.isub, 1) := by decide +kernel
theorem xd61_85 : decode (mj_b 61) 85 = .ok (.aload_n 0, 1) := by decide +kernel
theorem xd61_86 : decode (mj_b 61) 86 = .ok (.getfield 12, 3) := by decide +kernel
theorem xd61_89 : decode (mj_b 61) 89 = .ok (.getfield 203, 3) := by decide +kernel
theorem xd61_92 : decode (mj_b 61) 92 = .ok (.invokevirtual 360, 3) := by decide +kernel
theorem xd61_95 : decode (mj_b 61) 95 = .ok (.iload 7, 2) := by decide +kernel
theorem xd61_97 : decode (mj_b 61) 97 = .ok (.aload_n 0, 1) := by decide +kernel
theorem xd61_98 : decode (mj_b 61) 98 = .ok (.getfield 47, 3) := by decide +kernel
theorem xd61_101 : decode (mj_b 61) 101 = .ok (.getfield 373, 3) := by decide +kernel
theorem xd61_104 : decode (mj_b 61) 104 = .ok (.iadd, 1) := by decide +kernel
theorem xd61_105 : decode (mj_b 61) 105 = .ok (.istore 7, 2) := by decide +kernel
theorem xd61_107 : decode (mj_b 61) 107 = .ok (.iload 4, 2) := by decide +kernel
theorem xd61_109 : decode (mj_b 61) 109 = .ok (.iconst (-1), 1) := by decide +kernel
theorem xd61_110 : decode (mj_b 61) 110 = .ok (.if_icmp .eq 10, 3) := by decide +kernel
theorem xd61_113 : decode (mj_b 61) 113 = .ok (.iload 7, 2) := by decide +kernel
theorem xd61_115 : decode (mj_b 61) 115 = .ok (.iload 5, 2) := by decide +kernel
theorem xd61_117 : decode (mj_b 61) 117 = .ok (.if_icmp .ge 11, 3) := by decide +kernel
theorem xd61_120 : decode (mj_b 61) 120 = .ok (.iload 6, 2) := by decide +kernel
theorem xd61_122 : decode (mj_b 61) 122 = .ok (.istore 4, 2) := by decide +kernel
theorem xd61_124 : decode (mj_b 61) 124 = .ok (.iload 7, 2) := by decide +kernel
theorem xd61_126 : decode (mj_b 61) 126 = .ok (.istore 5, 2) := by decide +kernel
theorem xd61_128 : decode (mj_b 61) 128 = .ok (.iinc 6 1, 3) := by decide +kernel
theorem xd61_131 : decode (mj_b 61) 131 = .ok (.goto (-104), 3) := by decide +kernel
theorem xd61_134 : decode (mj_b 61) 134 = .ok (.iload 4, 2) := by decide +kernel
theorem xd61_136 : decode (mj_b 61) 136 = .ok (.ireturn, 1) := by decide +kernel
theorem x61_0 {x1 : Int32} : wp Ln xs 61 0 [.ref 1, .int x1, mj_hole, mj_hole, mj_hole, mj_hole, mj_hole, mj_hole] [] (u, ml_h m lm) Φ = wp Ln xs 24 0 [.ref 2, .int x1, mj_hole, mj_hole] [] (u, ml_h m lm) (mk Ln xs 61 5 [.ref 1, .int x1, mj_hole, mj_hole, mj_hole, mj_hole, mj_hole, mj_hole] [] Φ) := (wp_same xd61_0 (Or.inr rfl) rfl).trans ((wm_getr xd61_1 rfl (show ml_L[1]? = _ from rfl) rfl (Nat.le_of_ble_eq_true rfl)).trans ((wp_same xd61_4 (Or.inr rfl) rfl).trans (wm_cv (As := [.int x1]) (rest := []) xd61_5 rfl rfl (show ml_L[2]? = _ from rfl) (Nat.le_of_ble_eq_true rfl) (Nat.le_of_ble_eq_true rfl) (Nat.le_of_ble_eq_true rfl) (Nat.le_of_ble_eq_true rfl))))
theorem x61_8 {x1 : Int32} {xs0 : Int32} : wp Ln xs 61 8 [.ref 1, .int x1, mj_hole, mj_hole, mj_hole, mj_hole, mj_hole, mj_hole] [.int xs0] (u, ml_h m lm) Φ = wp Ln xs 30 0 [.ref 2, .int x1] [] (u, ml_h m lm) (mk Ln xs 61 14 [.ref 1, .int x1, .int xs0, mj_hole, mj_hole, mj_hole, mj_hole, mj_hole] [] Φ) := (wp_same (L' := [.ref 1, .int x1, .int xs0, mj_hole, mj_hole, mj_hole, mj_hole, mj_hole]) xd61_8 (Or.inr rfl) rfl).trans ((wp_same xd61_9 (Or.inr rfl) rfl).trans ((wm_getr xd61_10 rfl (show ml_L[1]? = _ from rfl) rfl (Nat.le_of_ble_eq_true rfl)).trans ((wp_same xd61_13 (Or.inr rfl) rfl).trans (wm_cv (As := [.int x1]) (rest := []) xd61_14 rfl rfl (show ml_L[2]? = _ from rfl) (Nat.le_of_ble_eq_true rfl) (Nat.le_of_ble_eq_true rfl) (Nat.le_of_ble_eq_true rfl) (Nat.le_of_ble_eq_true rfl)))))
theorem x61_17 {x1 : Int32} {x2 : Int32} {xs0 : Int32} : wp Ln xs 61 17 [.ref 1, .int x1, .int x2, mj_hole, mj_hole, mj_hole, mj_hole, mj_hole] [.int xs0] (u, ml_h m lm) Φ = wp Ln xs 61 27 [.ref 1, .int x1, .int x2, .int xs0, .int ((-1)), .int (nI 0), .int (nI 1), mj_hole] [] (u, ml_h m lm) Φ := (wp_same (L' := [.ref 1, .int x1, .int x2, .int xs0, mj_hole, mj_hole, mj_hole, mj_hole]) xd61_17 (Or.inr rfl) rfl).trans ((wp_same (S' := [.int ((-1))]) xd61_18 (Or.inr rfl) rfl).trans ((wp_same (L' := [.ref 1, .int x1, .int x2, .int xs0, .int ((-1)), mj_hole, mj_hole, mj_hole]) xd61_19 (Or.inr rfl) rfl).trans ((wp_same (S' := [.int (nI 0)]) xd61_21 (Or.inr rfl) rfl).trans ((wp_same (L' := [.ref 1, .int x1, .int x2, .int xs0, .int ((-1)), .int (nI 0), mj_hole, mj_hole]) xd61_22 (Or.inr rfl) rfl).trans ((wp_same (S' := [.int (nI 1)]) xd61_24 (Or.inr rfl) rfl).trans (wp_same (L' := [.ref 1, .int x1, .int x2, .int xs0, .int ((-1)), .int (nI 0), .int (nI 1), mj_hole]) xd61_25 (Or.inr rfl) rfl))))))
theorem x61_27 {x1 : Int32} {x2 : Int32} {x3 : Int32} {x4 : Int32} {x5 : Int32} {x6 : Int32} {v7 : Value} : wp Ln xs 61 27 [.ref 1, .int x1, .int x2, .int x3, .int x4, .int x5, .int x6, v7] [] (u, ml_h m lm) Φ = if x3 ≤ x6 then wp Ln xs 61 134 [.ref 1, .int x1, .int x2, .int x3, .int x4, .int x5, .int x6, v7] [] (u, ml_h m lm) Φ else wp Ln xs 61 33 [.ref 1, .int x1, .int x2, .int x3, .int x4, .int x5, .int x6, v7] [] (u, ml_h m lm) Φ := (wp_same xd61_27 (Or.inr rfl) rfl).trans ((wp_same xd61_29 (Or.inr rfl) rfl).trans (wx_icmp xd61_30 rfl rfl (x3 ≤ x6) mb_ge))
theorem x61_33 {x1 : Int32} {x2 : Int32} {x3 : Int32} {x4 : Int32} {x5 : Int32} {x6 : Int32} {v7 : Value} : wp Ln xs 61 33 [.ref 1, .int x1, .int x2, .int x3, .int x4, .int x5, .int x6, v7] [] (u, ml_h m lm) Φ = wp Ln xs 49 0 [.ref 58, .ref 3, .int x2, .int x6, .ref 7, mj_hole, mj_hole] [] (u, ml_h m lm) (mk Ln xs 61 54 [.ref 1, .int x1, .int x2, .int x3, .int x4, .int x5, .int x6, v7] [] Φ) := (wp_same xd61_33 (Or.inr rfl) rfl).trans ((wm_getr xd61_34 rfl (show ml_L[1]? = _ from rfl) rfl (Nat.le_of_ble_eq_true rfl)).trans ((wp_same xd61_37 (Or.inr rfl) rfl).trans ((wm_getr xd61_38 rfl (show ml_L[1]? = _ from rfl) rfl (Nat.le_of_ble_eq_true rfl)).trans ((wm_getr xd61_41 rfl (show ml_L[2]? = _ from rfl) rfl (Nat.le_of_ble_eq_true rfl)).trans ((wp_same xd61_44 (Or.inr rfl) rfl).trans ((wp_same xd61_45 (Or.inr rfl) rfl).trans ((wp_same xd61_47 (Or.inr rfl) rfl).trans ((wm_getr xd61_48 rfl (show ml_L[1]? = _ from rfl) rfl (Nat.le_of_ble_eq_true rfl)).trans ((wm_getr xd61_51 rfl (show ml_L[2]? = _ from rfl) rfl (Nat.le_of_ble_eq_true rfl)).trans (wm_cv (As := [.ref 3, .int x2, .int x6, .ref 7]) (rest := []) xd61_54 rfl rfl (show ml_L[58]? = _ from rfl) (Nat.le_of_ble_eq_true rfl) (Nat.le_of_ble_eq_true rfl) (Nat.le_of_ble_eq_true rfl) (Nat.le_of_ble_eq_true rfl)))))))))))
theorem x61_57 {x1 : Int32} {x2 : Int32} {x3 : Int32} {x4 : Int32} {x5 : Int32} {x6 : Int32} {v7 : Value} : wp Ln xs 61 57 [.ref 1, .int x1, .int x2, .int x3, .int x4, .int x5, .int x6, v7] [] (u, ml_h m lm) Φ = wp Ln xs 49 0 [.ref 58, .ref 3, .int (x2 + x6), .int (x3 - x6), .ref 7, mj_hole, mj_hole] [] (u, ml_h m lm) (mk Ln xs 61 92 [.ref 1, .int x1, .int x2, .int x3, .int x4, .int x5, .int x6, .int (m 58 2)] [] Φ) := (wp_same xd61_57 (Or.inr rfl) rfl).trans ((wm_getr xd61_58 rfl (show ml_L[1]? = _ from rfl) rfl (Nat.le_of_ble_eq_true rfl)).trans ((wm_geti xd61_61 rfl (show ml_L[58]? = _ from rfl) rfl (Nat.le_of_ble_eq_true rfl)).trans ((wp_same (L' := [.ref 1, .int x1, .int x2, .int x3, .int x4, .int x5, .int x6, .int (m 58 2)]) xd61_64 (Or.inr rfl) rfl).trans ((wp_same xd61_66 (Or.inr rfl) rfl).trans ((wm_getr xd61_67 rfl (show ml_L[1]? = _ from rfl) rfl (Nat.le_of_ble_eq_true rfl)).trans ((wp_same xd61_70 (Or.inr rfl) rfl).trans ((wm_getr xd61_71 rfl (show ml_L[1]? = _ from rfl) rfl (Nat.le_of_ble_eq_true rfl)).trans ((wm_getr xd61_74 rfl (show ml_L[2]? = _ from rfl) rfl (Nat.le_of_ble_eq_true rfl)).trans ((wp_same xd61_77 (Or.inr rfl) rfl).trans ((wp_same xd61_78 (Or.inr rfl) rfl).trans ((wp_same xd61_80 (Or.inr rfl) rfl).trans ((wp_same xd61_81 (Or.inr rfl) rfl).trans ((wp_same xd61_82 (Or.inr rfl) rfl).trans ((wp_same xd61_84 (Or.inr rfl) rfl).trans ((wp_same xd61_85 (Or.inr rfl) rfl).trans ((wm_getr xd61_86 rfl (show ml_L[1]? = _ from rfl) rfl (Nat.le_of_ble_eq_true rfl)).trans ((wm_getr xd61_89 rfl (show ml_L[2]? = _ from rfl) rfl (Nat.le_of_ble_eq_true rfl)).trans (wm_cv (As := [.ref 3, .int (x2 + x6), .int (x3 - x6), .ref 7]) (rest := []) xd61_92 rfl rfl (show ml_L[58]? = _ from rfl) (Nat.le_of_ble_eq_true rfl) (Nat.le_of_ble_eq_true rfl) (Nat.le_of_ble_eq_true rfl) (Nat.le_of_ble_eq_true rfl)))))))))))))))))))
theorem x61_95 {x1 : Int32} {x2 : Int32} {x3 : Int32} {x4 : Int32} {x5 : Int32} {x6 : Int32} {x7 : Int32} : wp Ln xs 61 95 [.ref 1, .int x1, .int x2, .int x3, .int x4, .int x5, .int x6, .int x7] [] (u, ml_h m lm) Φ = if x4 = ((-1)) then wp Ln xs 61 120 [.ref 1, .int x1, .int x2, .int x3, .int x4, .int x5, .int x6, .int (x7 + (m 58 2))] [] (u, ml_h m lm) Φ else wp Ln xs 61 113 [.ref 1, .int x1, .int x2, .int x3, .int x4, .int x5, .int x6, .int (x7 + (m 58 2))] [] (u, ml_h m lm) Φ := (wp_same xd61_95 (Or.inr rfl) rfl).trans ((wp_same xd61_97 (Or.inr rfl) rfl).trans ((wm_getr xd61_98 rfl (show ml_L[1]? = _ from rfl) rfl (Nat.le_of_ble_eq_true rfl)).trans ((wm_geti xd61_101 rfl (show ml_L[58]? = _ from rfl) rfl (Nat.le_of_ble_eq_true rfl)).trans ((wp_same xd61_104 (Or.inr rfl) rfl).trans ((wp_same (L' := [.ref 1, .int x1, .int x2, .int x3, .int x4, .int x5, .int x6, .int (x7 + (m 58 2))]) xd61_105 (Or.inr rfl) rfl).trans ((wp_same xd61_107 (Or.inr rfl) rfl).trans ((wp_same (S' := [.int ((-1)), .int x4]) xd61_109 (Or.inr rfl) rfl).trans (wx_icmp xd61_110 rfl rfl (x4 = ((-1))) mb_eq))))))))
theorem x61_113 {x1 : Int32} {x2 : Int32} {x3 : Int32} {x4 : Int32} {x5 : Int32} {x6 : Int32} {x7 : Int32} : wp Ln xs 61 113 [.ref 1, .int x1, .int x2, .int x3, .int x4, .int x5, .int x6, .int x7] [] (u, ml_h m lm) Φ = if x5 ≤ x7 then wp Ln xs 61 128 [.ref 1, .int x1, .int x2, .int x3, .int x4, .int x5, .int x6, .int x7] [] (u, ml_h m lm) Φ else wp Ln xs 61 120 [.ref 1, .int x1, .int x2, .int x3, .int x4, .int x5, .int x6, .int x7] [] (u, ml_h m lm) Φ := (wp_same xd61_113 (Or.inr rfl) rfl).trans ((wp_same xd61_115 (Or.inr rfl) rfl).trans (wx_icmp xd61_117 rfl rfl (x5 ≤ x7) mb_ge))
theorem x61_120 {x1 : Int32} {x2 : Int32} {x3 : Int32} {x4 : Int32} {x5 : Int32} {x6 : Int32} {x7 : Int32} : wp Ln xs 61 120 [.ref 1, .int x1, .int x2, .int x3, .int x4, .int x5, .int x6, .int x7] [] (u, ml_h m lm) Φ = wp Ln xs 61 128 [.ref 1, .int x1, .int x2, .int x3, .int x6, .int x7, .int x6, .int x7] [] (u, ml_h m lm) Φ := (wp_same xd61_120 (Or.inr rfl) rfl).trans ((wp_same (L' := [.ref 1, .int x1, .int x2, .int x3, .int x6, .int x5, .int x6, .int x7]) xd61_122 (Or.inr rfl) rfl).trans ((wp_same xd61_124 (Or.inr rfl) rfl).trans (wp_same (L' := [.ref 1, .int x1, .int x2, .int x3, .int x6, .int x7, .int x6, .int x7]) xd61_126 (Or.inr rfl) rfl)))
theorem x61_128 {x1 : Int32} {x2 : Int32} {x3 : Int32} {x4 : Int32} {x5 : Int32} {x6 : Int32} {x7 : Int32} : wp Ln xs 61 128 [.ref 1, .int x1, .int x2, .int x3, .int x4, .int x5, .int x6, .int x7] [] (u, ml_h m lm) Φ = wp Ln xs 61 27 [.ref 1, .int x1, .int x2, .int x3, .int x4, .int x5, .int (x6 + nI 1), .int x7] [] (u, ml_h m lm) Φ := (wp_same (L' := [.ref 1, .int x1, .int x2, .int x3, .int x4, .int x5, .int (x6 + nI 1), .int x7]) xd61_128 (Or.inr rfl) rfl).trans (wx_goto xd61_131 rfl)
theorem x61_134 {x1 : Int32} {x2 : Int32} {x3 : Int32} {x4 : Int32} {x5 : Int32} {x6 : Int32} {v7 : Value} : wp Ln xs 61 134 [.ref 1, .int x1, .int x2, .int x3, .int x4, .int x5, .int x6, v7] [] (u, ml_h m lm) Φ = Φ (.inl (some (.int x4))) (u, ml_h m lm) := (wp_same xd61_134 (Or.inr rfl) rfl).trans (wp_fin (v := some (.int x4)) xd61_136 (Or.inr rfl) rfl (mj_fin_i rfl))
/- PickedForms.hashOfMatches -/
theorem xd62_0 : decode (mj_b 62) 0 = .ok (.aload_n 0, 1) := by decide +kernel
theorem xd62_1 : decode (mj_b 62) 1 = .ok (.getfield 54, 3) := by decide +kernel
theorem xd62_4 : decode (mj_b 62) 4 = .ok (.aload_n 0, 1) := by decide +kernel
theorem xd62_5 : decode (mj_b 62) 5 = .ok (.getfield 12, 3) := by decide +kernel
theorem xd62_8 : decode (mj_b 62) 8 = .ok (.iload_n 3, 1) := by decide +kernel
theorem xd62_9 : decode (mj_b 62) 9 = .ok (.iload 4, 2) := by decide +kernel
theorem xd62_11 : decode (mj_b 62) 11 = .ok (.invokevirtual 410, 3) := by decide +kernel
theorem xd62_14 : decode (mj_b 62) 14 = .ok (.lload_n 1, 1) := by decide +kernel
theorem xd62_15 : decode (mj_b 62) 15 = .ok (.aload_n 0, 1) := by decide +kernel
theorem xd62_16 : decode (mj_b 62) 16 = .ok (.getfield 54, 3) := by decide +kernel
theorem xd62_19 : decode (mj_b 62) 19 = .ok (.getfield 414, 3) := by decide +kernel
theorem xd62_22 : decode (mj_b 62) 22 = .ok (.i2l, 1) := by decide +kernel
theorem xd62_23 : decode (mj_b 62) 23 = .ok (.invokestatic 321, 3) := by decide +kernel
theorem xd62_26 : decode (mj_b 62) 26 = .ok (.lstore 5, 2) := by decide +kernel
theorem xd62_28 : decode (mj_b 62) 28 = .ok (.lload 5, 2) := by decide +kernel
theorem xd62_30 : decode (mj_b 62) 30 = .ok (.aload_n 0, 1) := by decide +kernel
theorem xd62_31 : decode (mj_b 62) 31 = .ok (.getfield 54, 3) := by decide +kernel
theorem xd62_34 : decode (mj_b 62) 34 = .ok (.aload_n 0, 1) := by decide +kernel
theorem xd62_35 : decode (mj_b 62) 35 = .ok (.getfield 12, 3) := by decide +kernel
theorem xd62_38 : decode (mj_b 62) 38 = .ok (.iload_n 3, 1) := by decide +kernel
theorem xd62_39 : decode (mj_b 62) 39 = .ok (.iload 4, 2) := by decide +kernel
theorem xd62_41 : decode (mj_b 62) 41 = .ok (.invokevirtual 417, 3) := by decide +kernel
theorem xd62_44 : decode (mj_b 62) 44 = .ok (.i2l, 1) := by decide +kernel
theorem xd62_45 : decode (mj_b 62) 45 = .ok (.invokestatic 321, 3) := by decide +kernel
theorem xd62_48 : decode (mj_b 62) 48 = .ok (.lstore 5, 2) := by decide +kernel
theorem xd62_50 : decode (mj_b 62) 50 = .ok (.lload 5, 2) := by decide +kernel
theorem xd62_52 : decode (mj_b 62) 52 = .ok (.aload_n 0, 1) := by decide +kernel
theorem xd62_53 : decode (mj_b 62) 53 = .ok (.getfield 54, 3) := by decide +kernel
theorem xd62_56 : decode (mj_b 62) 56 = .ok (.getfield 421, 3) := by decide +kernel
theorem xd62_59 : decode (mj_b 62) 59 = .ok (.i2l, 1) := by decide +kernel
theorem xd62_60 : decode (mj_b 62) 60 = .ok (.invokestatic 321, 3) := by decide +kernel
theorem xd62_63 : decode (mj_b 62) 63 = .ok (.lstore 5, 2) := by decide +kernel
theorem xd62_65 : decode (mj_b 62) 65 = .ok (.lload 5, 2) := by decide +kernel
theorem xd62_67 : decode (mj_b 62) 67 = .ok (.aload_n 0, 1) := by decide +kernel
theorem xd62_68 : decode (mj_b 62) 68 = .ok (.getfield 54, 3) := by decide +kernel
theorem xd62_71 : decode (mj_b 62) 71 = .ok (.aload_n 0, 1) := by decide +kernel
theorem xd62_72 : decode (mj_b 62) 72 = .ok (.getfield 12, 3) := by decide +kernel
theorem xd62_75 : decode (mj_b 62) 75 = .ok (.iload_n 3, 1) := by decide +kernel
theorem xd62_76 : decode (mj_b 62) 76 = .ok (.iload 4, 2) := by decide +kernel
theorem xd62_78 : decode (mj_b 62) 78 = .ok (.invokevirtual 424, 3) := by decide +kernel
theorem xd62_81 : decode (mj_b 62) 81 = .ok (.i2l, 1) := by decide +kernel
theorem xd62_82 : decode (mj_b 62) 82 = .ok (.invokestatic 321, 3) := by decide +kernel
theorem xd62_85 : decode (mj_b 62) 85 = .ok (.lreturn, 1) := by decide +kernel
theorem x62_0 {y1 : Int64} {x3 : Int32} {x4 : Int32} : wp Ln xs 62 0 [.ref 1, .long y1, mj_hole, .int x3, .int x4, mj_hole, mj_hole] [] (u, ml_h m lm) Φ = wp Ln xs 63 0 [.ref 61, .ref 2, .int x3, .int x4, mj_hole, mj_hole, mj_hole] [] (u, ml_h m lm) (mk Ln xs 62 11 [.ref 1, .long y1, mj_hole, .int x3, .int x4, mj_hole, mj_hole] [] Φ) := (wp_same xd62_0 (Or.inr rfl) rfl).trans ((wm_getr xd62_1 rfl (show ml_L[1]? = _ from rfl) rfl (Nat.le_of_ble_eq_true rfl)).trans ((wp_same xd62_4 (Or.inr rfl) rfl).trans ((wm_getr xd62_5 rfl (show ml_L[1]? = _ from rfl) rfl (Nat.le_of_ble_eq_true rfl)).trans ((wp_same xd62_8 (Or.inr rfl) rfl).trans ((wp_same xd62_9 (Or.inr rfl) rfl).trans (wm_cv (As := [.ref 2, .int x3, .int x4]) (rest := []) xd62_11 rfl rfl (show ml_L[61]? = _ from rfl) (Nat.le_of_ble_eq_true rfl) (Nat.le_of_ble_eq_true rfl) (Nat.le_of_ble_eq_true rfl) (Nat.le_of_ble_eq_true rfl)))))))
theorem x62_14 {y1 : Int64} {x3 : Int32} {x4 : Int32} : wp Ln xs 62 14 [.ref 1, .long y1, mj_hole, .int x3, .int x4, mj_hole, mj_hole] [] (u, ml_h m lm) Φ = wp Ln xs 40 0 [.long y1, mj_hole, .long ((m 61 1).toInt64), mj_hole] [] (u, ml_h m lm) (mk Ln xs 62 23 [.ref 1, .long y1, mj_hole, .int x3, .int x4, mj_hole, mj_hole] [] Φ) := (wp_same xd62_14 (Or.inr rfl) rfl).trans ((wp_same xd62_15 (Or.inr rfl) rfl).trans ((wm_getr xd62_16 rfl (show ml_L[1]? = _ from rfl) rfl (Nat.le_of_ble_eq_true rfl)).trans ((wm_geti xd62_19 rfl (show ml_L[61]? = _ from rfl) rfl (Nat.le_of_ble_eq_true rfl)).trans ((wp_same xd62_22 (Or.inr rfl) rfl).trans (wm_cs (As := [.long y1, .long ((m 61 1).toInt64)]) (rest := []) xd62_23 rfl rfl (Nat.le_of_ble_eq_true rfl) (Nat.le_of_ble_eq_true rfl) (Nat.le_of_ble_eq_true rfl) (Nat.le_of_ble_eq_true rfl))))))
theorem x62_26 {y1 : Int64} {x3 : Int32} {x4 : Int32} {ys0 : Int64} : wp Ln xs 62 26 [.ref 1, .long y1, mj_hole, .int x3, .int x4, mj_hole, mj_hole] [.long ys0] (u, ml_h m lm) Φ = wp Ln xs 69 0 [.ref 61, .ref 2, .int x3, .int x4, mj_hole, mj_hole] [] (u, ml_h m lm) (mk Ln xs 62 41 [.ref 1, .long y1, mj_hole, .int x3, .int x4, .long ys0, mj_hole] [.long ys0] Φ) := (wp_same (L' := [.ref 1, .long y1, mj_hole, .int x3, .int x4, .long ys0, mj_hole]) xd62_26 (Or.inr rfl) rfl).trans ((wp_same xd62_28 (Or.inr rfl) rfl).trans ((wp_same xd62_30 (Or.inr rfl) rfl).trans ((wm_getr xd62_31 rfl (show ml_L[1]? = _ from rfl) rfl (Nat.le_of_ble_eq_true rfl)).trans ((wp_same xd62_34 (Or.inr rfl) rfl).trans ((wm_getr xd62_35 rfl (show ml_L[1]? = _ from rfl) rfl (Nat.le_of_ble_eq_true rfl)).trans ((wp_same xd62_38 (Or.inr rfl) rfl).trans ((wp_same xd62_39 (Or.inr rfl) rfl).trans (wm_cv (As := [.ref 2, .int x3, .int x4]) (rest := [.long ys0]) xd62_41 rfl rfl (show ml_L[61]? = _ from rfl) (Nat.le_of_ble_eq_true rfl) (Nat.le_of_ble_eq_true rfl) (Nat.le_of_ble_eq_true rfl) (Nat.le_of_ble_eq_true rfl)))))))))
theorem x62_44 {y1 : Int64} {x3 : Int32} {x4 : Int32} {y5 : Int64} {xs0 : Int32} {ys1 : Int64} : wp Ln xs 62 44 [.ref 1, .long y1, mj_hole, .int x3, .int x4, .long y5, mj_hole] [.int xs0, .long ys1] (u, ml_h m lm) Φ = wp Ln xs 40 0 [.long ys1, mj_hole, .long xs0.toInt64, mj_hole] [] (u, ml_h m lm) (mk Ln xs 62 45 [.ref 1, .long y1, mj_hole, .int x3, .int x4, .long y5, mj_hole] [] Φ) := (wp_same xd62_44 (Or.inr rfl) rfl).trans (wm_cs (As := [.long ys1, .long xs0.toInt64]) (rest := []) xd62_45 rfl rfl (Nat.le_of_ble_eq_true rfl) (Nat.le_of_ble_eq_true rfl) (Nat.le_of_ble_eq_true rfl) (Nat.le_of_ble_eq_true rfl))
theorem x62_48 {y1 : Int64} {x3 : Int32} {x4 : Int32} {y5 : Int64} {ys0 : Int64} : wp Ln xs 62 48 [.ref 1, .long y1, mj_hole, .int x3, .int x4, .long y5, mj_hole] [.long ys0] (u, ml_h m lm) Φ = wp Ln xs 40 0 [.long ys0, mj_hole, .long ((m 61 2).toInt64), mj_hole] [] (u, ml_h m lm) (mk Ln xs 62 60 [.ref 1, .long y1, mj_hole, .int x3, .int x4, .long ys0, mj_hole] [] Φ) := (wp_same (L' := [.ref 1, .long y1, mj_hole, .int x3, .int x4, .long ys0, mj_hole]) xd62_48 (Or.inr rfl) rfl).trans ((wp_same xd62_50 (Or.inr rfl) rfl).trans ((wp_same xd62_52 (Or.inr rfl) rfl).trans ((wm_getr xd62_53 rfl (show ml_L[1]? = _ from rfl) rfl (Nat.le_of_ble_eq_true rfl)).trans ((wm_geti xd62_56 rfl (show ml_L[61]? = _ from rfl) rfl (Nat.le_of_ble_eq_true rfl)).trans ((wp_same xd62_59 (Or.inr rfl) rfl).trans (wm_cs (As := [.long ys0, .long ((m 61 2).toInt64)]) (rest := []) xd62_60 rfl rfl (Nat.le_of_ble_eq_true rfl) (Nat.le_of_ble_eq_true rfl) (Nat.le_of_ble_eq_true rfl) (Nat.le_of_ble_eq_true rfl)))))))
theorem x62_63 {y1 : Int64} {x3 : Int32} {x4 : Int32} {y5 : Int64} {ys0 : Int64} : wp Ln xs 62 63 [.ref 1, .long y1, mj_hole, .int x3, .int x4, .long y5, mj_hole] [.long ys0] (u, ml_h m lm) Φ = wp Ln xs 70 0 [.ref 61, .ref 2, .int x3, .int x4, mj_hole] [] (u, ml_h m lm) (mk Ln xs 62 78 [.ref 1, .long y1, mj_hole, .int x3, .int x4, .long ys0, mj_hole] [.long ys0] Φ) := (wp_same (L' := [.ref 1, .long y1, mj_hole, .int x3, .int x4, .long ys0, mj_hole]) xd62_63 (Or.inr rfl) rfl).trans ((wp_same xd62_65 (Or.inr rfl) rfl).trans ((wp_same xd62_67 (Or.inr rfl) rfl).trans ((wm_getr xd62_68 rfl (show ml_L[1]? = _ from rfl) rfl (Nat.le_of_ble_eq_true rfl)).trans ((wp_same xd62_71 (Or.inr rfl) rfl).trans ((wm_getr xd62_72 rfl (show ml_L[1]? = _ from rfl) rfl (Nat.le_of_ble_eq_true rfl)).trans ((wp_same xd62_75 (Or.inr rfl) rfl).trans ((wp_same xd62_76 (Or.inr rfl) rfl).trans (wm_cv (As := [.ref 2, .int x3, .int x4]) (rest := [.long ys0]) xd62_78 rfl rfl (show ml_L[61]? = _ from rfl) (Nat.le_of_ble_eq_true rfl) (Nat.le_of_ble_eq_true rfl) (Nat.le_of_ble_eq_true rfl) (Nat.le_of_ble_eq_true rfl)))))))))
theorem x62_81 {y1 : Int64} {x3 : Int32} {x4 : Int32} {y5 : Int64} {xs0 : Int32} {ys1 : Int64} : wp Ln xs 62 81 [.ref 1, .long y1, mj_hole, .int x3, .int x4, .long y5, mj_hole] [.int xs0, .long ys1] (u, ml_h m lm) Φ = wp Ln xs 40 0 [.long ys1, mj_hole, .long xs0.toInt64, mj_hole] [] (u, ml_h m lm) (mk Ln xs 62 82 [.ref 1, .long y1, mj_hole, .int x3, .int x4, .long y5, mj_hole] [] Φ) := (wp_same xd62_81 (Or.inr rfl) rfl).trans (wm_cs (As := [.long ys1, .long xs0.toInt64]) (rest := []) xd62_82 rfl rfl (Nat.le_of_ble_eq_true rfl) (Nat.le_of_ble_eq_true rfl) (Nat.le_of_ble_eq_true rfl) (Nat.le_of_ble_eq_true rfl))
theorem x62_85 {y1 : Int64} {x3 : Int32} {x4 : Int32} {y5 : Int64} {ys0 : Int64} : wp Ln xs 62 85 [.ref 1, .long y1, mj_hole, .int x3, .int x4, .long y5, mj_hole] [.long ys0] (u, ml_h m lm) Φ = Φ (.inl (some (.long ys0))) (u, ml_h m lm) := wp_fin (v := some (.long ys0)) xd62_85 (Or.inr rfl) rfl rfl
/- PickedForms$Matching.onForms -/
theorem xd63_0 : decode (mj_b 63) 0 = .ok (.aload_n 0, 1) := by decide +kernel
theorem xd63_1 : decode (mj_b 63) 1 = .ok (.iconst 0, 1) := by decide +kernel
theorem xd63_2 : decode (mj_b 63) 2 = .ok (.putfield 18, 3) := by decide +kernel
theorem xd63_5 : decode (mj_b 63) 5 = .ok (.aload_n 0, 1) := by decide +kernel
theorem xd63_6 : decode (mj_b 63) 6 = .ok (.iconst 0, 1) := by decide +kernel
theorem xd63_7 : decode (mj_b 63) 7 = .ok (.putfield 22, 3) := by decide +kernel
theorem xd63_10 : decode (mj_b 63) 10 = .ok (.iconst 0, 1) := by decide +kernel
theorem xd63_11 : decode (mj_b 63) 11 = .ok (.istore 4, 2) := by decide +kernel
theorem xd63_13 : decode (mj_b 63) 13 = .ok (.iconst 0, 1) := by decide +kernel
theorem xd63_14 : decode (mj_b 63) 14 = .ok (.istore 5, 2) := by decide +kernel
theorem xd63_16 : decode (mj_b 63) 16 = .ok (.iload 5, 2) := by decide +kernel
theorem xd63_18 : decode (mj_b 63) 18 = .ok (.aload_n 1, 1) := by decide +kernel
theorem xd63_19 : decode (mj_b 63) 19 = .ok (.getfield 25, 3) := by decide +kernel
theorem xd63_22 : decode (mj_b 63) 22 = .ok (.if_icmp .ge 131, 3) := by decide +kernel
theorem xd63_25 : decode (mj_b 63) 25 = .ok (.iload 4, 2) := by decide +kernel
theorem xd63_27 : decode (mj_b 63) 27 = .ok (.aload_n 1, 1) := by decide +kernel
theorem xd63_28 : decode (mj_b 63) 28 = .ok (.iload 5, 2) := by decide +kernel
theorem xd63_30 : decode (mj_b 63) 30 = .ok (.invokevirtual 30, 3) := by decide +kernel
theorem xd63_33 : decode (mj_b 63) 33 = .ok (.iadd, 1) := by decide +kernel
theorem xd63_34 : decode (mj_b 63) 34 = .ok (.istore 6, 2) := by decide +kernel
theorem xd63_36 : decode (mj_b 63) 36 = .ok (.aload_n 0, 1) := by decide +kernel
theorem xd63_37 : decode (mj_b 63) 37 = .ok (.getfield 12, 3) := by decide +kernel
theorem xd63_40 : decode (mj_b 63) 40 = .ok (.aload_n 1, 1) := by decide +kernel
theorem xd63_41 : decode (mj_b 63) 41 = .ok (.getfield 34, 3) := by decide +kernel
theorem xd63_44 : decode (mj_b 63) 44 = .ok (.iload 4, 2) := by decide +kernel
theorem xd63_46 : decode (mj_b 63) 46 = .ok (.iload 6, 2) := by decide +kernel
theorem xd63_48 : decode (mj_b 63) 48 = .ok (.iload 4, 2) := by decide +kernel
theorem xd63_50 : decode (mj_b 63) 50 = .ok (.isub, 1) := by decide +kernel
theorem xd63_51 : decode (mj_b 63) 51 = .ok (.invokevirtual 38, 3) := by decide +kernel
theorem xd63_54 : decode (mj_b 63) 54 = .ok (.aload_n 0, 1) := by decide +kernel
theorem xd63_55 : decode (mj_b 63) 55 = .ok (.dup, 1) := by decide +kernel
theorem xd63_56 : decode (mj_b 63) 56 = .ok (.getfield 22, 3) := by decide +kernel
theorem xd63_59 : decode (mj_b 63) 59 = .ok (.iconst 1, 1) := by decide +kernel
theorem xd63_60 : decode (mj_b 63) 60 = .ok (.iadd, 1) := by decide +kernel
theorem xd63_61 : decode (mj_b 63) 61 = .ok (.putfield 22, 3) := by decide +kernel
theorem xd63_64 : decode (mj_b 63) 64 = .ok (.aload_n 0, 1) := by decide +kernel
theorem xd63_65 : decode (mj_b 63) 65 = .ok (.getfield 12, 3) := by decide +kernel
theorem xd63_68 : decode (mj_b 63) 68 = .ok (.getfield 42, 3) := by decide +kernel
theorem xd63_71 : decode (mj_b 63) 71 = .ok (.iload_n 2, 1) := by decide +kernel
theorem xd63_72 : decode (mj_b 63) 72 = .ok (.if_icmp .lt 33, 3) := by decide +kernel
theorem xd63_75 : decode (mj_b 63) 75 = .ok (.aload_n 0, 1) := by decide +kernel
theorem xd63_76 : decode (mj_b 63) 76 = .ok (.getfield 12, 3) := by decide +kernel
theorem xd63_79 : decode (mj_b 63) 79 = .ok (.getfield 45, 3) := by decide +kernel
theorem xd63_82 : decode (mj_b 63) 82 = .ok (.iload_n 3, 1) := by decide +kernel
theorem xd63_83 : decode (mj_b 63) 83 = .ok (.if_icmp .gt 22, 3) := by decide +kernel
theorem xd63_86 : decode (mj_b 63) 86 = .ok (.aload_n 0, 1) := by decide +kernel
theorem xd63_87 : decode (mj_b 63) 87 = .ok (.dup, 1) := by decide +kernel
theorem xd63_88 : decode (mj_b 63) 88 = .ok (.getfield 18, 3) := by decide +kernel
theorem xd63_91 : decode (mj_b 63) 91 = .ok (.aload_n 0, 1) := by decide +kernel
theorem xd63_92 : decode (mj_b 63) 92 = .ok (.getfield 12, 3) := by decide +kernel
theorem xd63_95 : decode (mj_b 63) 95 = .ok (.getfield 48, 3) := by decide +kernel
theorem xd63_98 : decode (mj_b 63) 98 = .ok (.iadd, 1) := by decide +kernel
theorem xd63_99 : decode (mj_b 63) 99 = .ok (.putfield 18, 3) := by decide +kernel
theorem xd63_102 : decode (mj_b 63) 102 = .ok (.goto 41, 3) := by decide +kernel
theorem xd63_105 : decode (mj_b 63) 105 = .ok (.iload_n 2, 1) := by decide +kernel
theorem xd63_106 : decode (mj_b 63) 106 = .ok (.iload_n 3, 1) := by decide +kernel
theorem xd63_107 : decode (mj_b 63) 107 = .ok (.if_icmp .gt 36, 3) := by decide +kernel
theorem xd63_110 : decode (mj_b 63) 110 = .ok (.aload_n 0, 1) := by decide +kernel
theorem xd63_111 : decode (mj_b 63) 111 = .ok (.getfield 12, 3) := by decide +kernel
theorem xd63_114 : decode (mj_b 63) 114 = .ok (.getfield 45, 3) := by decide +kernel
theorem xd63_117 : decode (mj_b 63) 117 = .ok (.iload_n 2, 1) := by decide +kernel
theorem xd63_118 : decode (mj_b 63) 118 = .ok (.if_icmp .lt 25, 3) := by decide +kernel
theorem xd63_121 : decode (mj_b 63) 121 = .ok (.aload_n 0, 1) := by decide +kernel
theorem xd63_122 : decode (mj_b 63) 122 = .ok (.getfield 12, 3) := by decide +kernel
theorem xd63_125 : decode (mj_b 63) 125 = .ok (.getfield 42, 3) := by decide +kernel
theorem xd63_128 : decode (mj_b 63) 128 = .ok (.iload_n 3, 1) := by decide +kernel
theorem xd63_129 : decode (mj_b 63) 129 = .ok (.if_icmp .gt 14, 3) := by decide +kernel
theorem xd63_132 : decode (mj_b 63) 132 = .ok (.aload_n 0, 1) := by decide +kernel
theorem xd63_133 : decode (mj_b 63) 133 = .ok (.aload_n 1, 1) := by decide +kernel
theorem xd63_134 : decode (mj_b 63) 134 = .ok (.iload 5, 2) := by decide +kernel
theorem xd63_136 : decode (mj_b 63) 136 = .ok (.iload 4, 2) := by decide +kernel
theorem xd63_138 : decode (mj_b 63) 138 = .ok (.iload_n 2, 1) := by decide +kernel
theorem xd63_139 : decode (mj_b 63) 139 = .ok (.iload_n 3, 1) := by decide +kernel
theorem xd63_140 : decode (mj_b 63) 140 = .ok (.invokevirtual 51, 3) := by decide +kernel
theorem xd63_143 : decode (mj_b 63) 143 = .ok (.iload 6, 2) := by decide +kernel
theorem xd63_145 : decode (mj_b 63) 145 = .ok (.istore 4, 2) := by decide +kernel
theorem xd63_147 : decode (mj_b 63) 147 = .ok (.iinc 5 1, 3) := by decide +kernel
theorem xd63_150 : decode (mj_b 63) 150 = .ok (.goto (-134), 3) := by decide +kernel
theorem xd63_153 : decode (mj_b 63) 153 = .ok (.aload_n 0, 1) := by decide +kernel
theorem xd63_154 : decode (mj_b 63) 154 = .ok (.aload_n 1, 1) := by decide +kernel
theorem xd63_155 : decode (mj_b 63) 155 = .ok (.getfield 34, 3) := by decide +kernel
theorem xd63_158 : decode (mj_b 63) 158 = .ok (.iload 4, 2) := by decide +kernel
theorem xd63_160 : decode (mj_b 63) 160 = .ok (.aload_n 1, 1) := by decide +kernel
theorem xd63_161 : decode (mj_b 63) 161 = .ok (.getfield 55, 3) := by decide +kernel
theorem xd63_164 : decode (mj_b 63) 164 = .ok (.iload_n 2, 1) := by decide +kernel
theorem xd63_165 : decode (mj_b 63) 165 = .ok (.iload_n 3, 1) := by decide +kernel
theorem xd63_166 : decode (mj_b 63) 166 = .ok (.invokevirtual 58, 3) := by decide +kernel
theorem xd63_169 : decode (mj_b 63) 169 = .ok (.return_, 1) := by decide +kernel
theorem x63_0 {x2 : Int32} {x3 : Int32} : wp Ln xs 63 0 [.ref 61, .ref 2, .int x2, .int x3, mj_hole, mj_hole, mj_hole] [] (u, ml_h m lm) Φ = wp Ln xs 63 16 [.ref 61, .ref 2, .int x2, .int x3, .int (nI 0), .int (nI 0), mj_hole] [] (u, ml_h (ml_s (ml_s m 61 1 (nI 0)) 61 2 (nI 0)) lm) Φ := (wp_same xd63_0 (Or.inr rfl) rfl).trans ((wp_same (S' := [.int (nI 0), .ref 61]) xd63_1 (Or.inr rfl) rfl).trans ((wm_puti xd63_2 rfl (show ml_L[61]? = _ from rfl) rfl (Nat.le_of_ble_eq_true rfl) rfl rfl rfl).trans ((wp_same xd63_5 (Or.inr rfl) rfl).trans ((wp_same (S' := [.int (nI 0), .ref 61]) xd63_6 (Or.inr rfl) rfl).trans ((wm_puti xd63_7 rfl (show ml_L[61]? = _ from rfl) rfl (Nat.le_of_ble_eq_true rfl) rfl rfl rfl).trans ((wp_same (S' := [.int (nI 0)]) xd63_10 (Or.inr rfl) rfl).trans ((wp_same (L' := [.ref 61, .ref 2, .int x2, .int x3, .int (nI 0), mj_hole, mj_hole]) xd63_11 (Or.inr rfl) rfl).trans ((wp_same (S' := [.int (nI 0)]) xd63_13 (Or.inr rfl) rfl).trans (wp_same (L' := [.ref 61, .ref 2, .int x2, .int x3, .int (nI 0), .int (nI 0), mj_hole]) xd63_14 (Or.inr rfl) rfl)))))))))
theorem x63_16 {x2 : Int32} {x3 : Int32} {x4 : Int32} {x5 : Int32} {v6 : Value} : wp Ln xs 63 16 [.ref 61, .ref 2, .int x2, .int x3, .int x4, .int x5, v6] [] (u, ml_h m lm) Φ = if (m 2 6) ≤ x5 then wp Ln xs 63 153 [.ref 61, .ref 2, .int x2, .int x3, .int x4, .int x5, v6] [] (u, ml_h m lm) Φ else wp Ln xs 63 25 [.ref 61, .ref 2, .int x2, .int x3, .int x4, .int x5, v6] [] (u, ml_h m lm) Φ := (wp_same xd63_16 (Or.inr rfl) rfl).trans ((wp_same xd63_18 (Or.inr rfl) rfl).trans ((wm_geti xd63_19 rfl (show ml_L[2]? = _ from rfl) rfl (Nat.le_of_ble_eq_true rfl)).trans (wx_icmp xd63_22 rfl rfl ((m 2 6) ≤ x5) mb_ge)))
theorem x63_25 {x2 : Int32} {x3 : Int32} {x4 : Int32} {x5 : Int32} {v6 : Value} : wp Ln xs 63 25 [.ref 61, .ref 2, .int x2, .int x3, .int x4, .int x5, v6] [] (u, ml_h m lm) Φ = wp Ln xs 30 0 [.ref 2, .int x5] [] (u, ml_h m lm) (mk Ln xs 63 30 [.ref 61, .ref 2, .int x2, .int x3, .int x4, .int x5, v6] [.int x4] Φ) := (wp_same xd63_25 (Or.inr rfl) rfl).trans ((wp_same xd63_27 (Or.inr rfl) rfl).trans ((wp_same xd63_28 (Or.inr rfl) rfl).trans (wm_cv (As := [.int x5]) (rest := [.int x4]) xd63_30 rfl rfl (show ml_L[2]? = _ from rfl) (Nat.le_of_ble_eq_true rfl) (Nat.le_of_ble_eq_true rfl) (Nat.le_of_ble_eq_true rfl) (Nat.le_of_ble_eq_true rfl))))
theorem x63_33 {x2 : Int32} {x3 : Int32} {x4 : Int32} {x5 : Int32} {v6 : Value} {xs0 : Int32} {xs1 : Int32} : wp Ln xs 63 33 [.ref 61, .ref 2, .int x2, .int x3, .int x4, .int x5, v6] [.int xs0, .int xs1] (u, ml_h m lm) Φ = wp Ln xs 31 0 [.ref 62, .ref 3, .int x4, .int ((xs1 + xs0) - x4), mj_hole] [] (u, ml_h m lm) (mk Ln xs 63 51 [.ref 61, .ref 2, .int x2, .int x3, .int x4, .int x5, .int (xs1 + xs0)] [] Φ) := (wp_same xd63_33 (Or.inr rfl) rfl).trans ((wp_same (L' := [.ref 61, .ref 2, .int x2, .int x3, .int x4, .int x5, .int (xs1 + xs0)]) xd63_34 (Or.inr rfl) rfl).trans ((wp_same xd63_36 (Or.inr rfl) rfl).trans ((wm_getr xd63_37 rfl (show ml_L[61]? = _ from rfl) rfl (Nat.le_of_ble_eq_true rfl)).trans ((wp_same xd63_40 (Or.inr rfl) rfl).trans ((wm_getr xd63_41 rfl (show ml_L[2]? = _ from rfl) rfl (Nat.le_of_ble_eq_true rfl)).trans ((wp_same xd63_44 (Or.inr rfl) rfl).trans ((wp_same xd63_46 (Or.inr rfl) rfl).trans ((wp_same xd63_48 (Or.inr rfl) rfl).trans ((wp_same xd63_50 (Or.inr rfl) rfl).trans (wm_cv (As := [.ref 3, .int x4, .int ((xs1 + xs0) - x4)]) (rest := []) xd63_51 rfl rfl (show ml_L[62]? = _ from rfl) (Nat.le_of_ble_eq_true rfl) (Nat.le_of_ble_eq_true rfl) (Nat.le_of_ble_eq_true rfl) (Nat.le_of_ble_eq_true rfl)))))))))))
theorem x63_54 {x2 : Int32} {x3 : Int32} {x4 : Int32} {x5 : Int32} {x6 : Int32} : wp Ln xs 63 54 [.ref 61, .ref 2, .int x2, .int x3, .int x4, .int x5, .int x6] [] (u, ml_h m lm) Φ = if ((ml_s m 61 2 ((m 61 2) + (nI 1))) 62 3) < x2 then wp Ln xs 63 105 [.ref 61, .ref 2, .int x2, .int x3, .int x4, .int x5, .int x6] [] (u, ml_h (ml_s m 61 2 ((m 61 2) + (nI 1))) lm) Φ else wp Ln xs 63 75 [.ref 61, .ref 2, .int x2, .int x3, .int x4, .int x5, .int x6] [] (u, ml_h (ml_s m 61 2 ((m 61 2) + (nI 1))) lm) Φ := (wp_same xd63_54 (Or.inr rfl) rfl).trans ((wp_same xd63_55 (Or.inr rfl) rfl).trans ((wm_geti xd63_56 rfl (show ml_L[61]? = _ from rfl) rfl (Nat.le_of_ble_eq_true rfl)).trans ((wp_same (S' := [.int (nI 1), .int (m 61 2), .ref 61]) xd63_59 (Or.inr rfl) rfl).trans ((wp_same xd63_60 (Or.inr rfl) rfl).trans ((wm_puti xd63_61 rfl (show ml_L[61]? = _ from rfl) rfl (Nat.le_of_ble_eq_true rfl) rfl rfl rfl).trans ((wp_same xd63_64 (Or.inr rfl) rfl).trans ((wm_getr xd63_65 rfl (show ml_L[61]? = _ from rfl) rfl (Nat.le_of_ble_eq_true rfl)).trans ((wm_geti xd63_68 rfl (show ml_L[62]? = _ from rfl) rfl (Nat.le_of_ble_eq_true rfl)).trans ((wp_same xd63_71 (Or.inr rfl) rfl).trans (wx_icmp xd63_72 rfl rfl (((ml_s m 61 2 ((m 61 2) + (nI 1))) 62 3) < x2) mb_lt))))))))))
theorem x63_75 {x2 : Int32} {x3 : Int32} {x4 : Int32} {x5 : Int32} {x6 : Int32} : wp Ln xs 63 75 [.ref 61, .ref 2, .int x2, .int x3, .int x4, .int x5, .int x6] [] (u, ml_h m lm) Φ = if x3 < (m 62 4) then wp Ln xs 63 105 [.ref 61, .ref 2, .int x2, .int x3, .int x4, .int x5, .int x6] [] (u, ml_h m lm) Φ else wp Ln xs 63 86 [.ref 61, .ref 2, .int x2, .int x3, .int x4, .int x5, .int x6] [] (u, ml_h m lm) Φ := (wp_same xd63_75 (Or.inr rfl) rfl).trans ((wm_getr xd63_76 rfl (show ml_L[61]? = _ from rfl) rfl (Nat.le_of_ble_eq_true rfl)).trans ((wm_geti xd63_79 rfl (show ml_L[62]? = _ from rfl) rfl (Nat.le_of_ble_eq_true rfl)).trans ((wp_same xd63_82 (Or.inr rfl) rfl).trans (wx_icmp xd63_83 rfl rfl (x3 < (m 62 4)) mb_gt))))
theorem x63_86 {x2 : Int32} {x3 : Int32} {x4 : Int32} {x5 : Int32} {x6 : Int32} : wp Ln xs 63 86 [.ref 61, .ref 2, .int x2, .int x3, .int x4, .int x5, .int x6] [] (u, ml_h m lm) Φ = wp Ln xs 63 143 [.ref 61, .ref 2, .int x2, .int x3, .int x4, .int x5, .int x6] [] (u, ml_h (ml_s m 61 1 ((m 61 1) + (m 62 2))) lm) Φ := (wp_same xd63_86 (Or.inr rfl) rfl).trans ((wp_same xd63_87 (Or.inr rfl) rfl).trans ((wm_geti xd63_88 rfl (show ml_L[61]? = _ from rfl) rfl (Nat.le_of_ble_eq_true rfl)).trans ((wp_same xd63_91 (Or.inr rfl) rfl).trans ((wm_getr xd63_92 rfl (show ml_L[61]? = _ from rfl) rfl (Nat.le_of_ble_eq_true rfl)).trans ((wm_geti xd63_95 rfl (show ml_L[62]? = _ from rfl) rfl (Nat.le_of_ble_eq_true rfl)).trans ((wp_same xd63_98 (Or.inr rfl) rfl).trans ((wm_puti xd63_99 rfl (show ml_L[61]? = _ from rfl) rfl (Nat.le_of_ble_eq_true rfl) rfl rfl rfl).trans (wx_goto xd63_102 rfl))))))))
theorem x63_105 {x2 : Int32} {x3 : Int32} {x4 : Int32} {x5 : Int32} {x6 : Int32} : wp Ln xs 63 105 [.ref 61, .ref 2, .int x2, .int x3, .int x4, .int x5, .int x6] [] (u, ml_h m lm) Φ = if x3 < x2 then wp Ln xs 63 143 [.ref 61, .ref 2, .int x2, .int x3, .int x4, .int x5, .int x6] [] (u, ml_h m lm) Φ else wp Ln xs 63 110 [.ref 61, .ref 2, .int x2, .int x3, .int x4, .int x5, .int x6] [] (u, ml_h m lm) Φ := (wp_same xd63_105 (Or.inr rfl) rfl).trans ((wp_same xd63_106 (Or.inr rfl) rfl).trans (wx_icmp xd63_107 rfl rfl (x3 < x2) mb_gt))
theorem x63_110 {x2 : Int32} {x3 : Int32} {x4 : Int32} {x5 : Int32} {x6 : Int32} : wp Ln xs 63 110 [.ref 61, .ref 2, .int x2, .int x3, .int x4, .int x5, .int x6] [] (u, ml_h m lm) Φ = if (m 62 4) < x2 then wp Ln xs 63 143 [.ref 61, .ref 2, .int x2, .int x3, .int x4, .int x5, .int x6] [] (u, ml_h m lm) Φ else wp Ln xs 63 121 [.ref 61, .ref 2, .int x2, .int x3, .int x4, .int x5, .int x6] [] (u, ml_h m lm) Φ := (wp_same xd63_110 (Or.inr rfl) rfl).trans ((wm_getr xd63_111 rfl (show ml_L[61]? = _ from rfl) rfl (Nat.le_of_ble_eq_true rfl)).trans ((wm_geti xd63_114 rfl (show ml_L[62]? = _ from rfl) rfl (Nat.le_of_ble_eq_true rfl)).trans ((wp_same xd63_117 (Or.inr rfl) rfl).trans (wx_icmp xd63_118 rfl rfl ((m 62 4) < x2) mb_lt))))
theorem x63_121 {x2 : Int32} {x3 : Int32} {x4 : Int32} {x5 : Int32} {x6 : Int32} : wp Ln xs 63 121 [.ref 61, .ref 2, .int x2, .int x3, .int x4, .int x5, .int x6] [] (u, ml_h m lm) Φ = if x3 < (m 62 3) then wp Ln xs 63 143 [.ref 61, .ref 2, .int x2, .int x3, .int x4, .int x5, .int x6] [] (u, ml_h m lm) Φ else wp Ln xs 63 132 [.ref 61, .ref 2, .int x2, .int x3, .int x4, .int x5, .int x6] [] (u, ml_h m lm) Φ := (wp_same xd63_121 (Or.inr rfl) rfl).trans ((wm_getr xd63_122 rfl (show ml_L[61]? = _ from rfl) rfl (Nat.le_of_ble_eq_true rfl)).trans ((wm_geti xd63_125 rfl (show ml_L[62]? = _ from rfl) rfl (Nat.le_of_ble_eq_true rfl)).trans ((wp_same xd63_128 (Or.inr rfl) rfl).trans (wx_icmp xd63_129 rfl rfl (x3 < (m 62 3)) mb_gt))))
theorem x63_132 {x2 : Int32} {x3 : Int32} {x4 : Int32} {x5 : Int32} {x6 : Int32} : wp Ln xs 63 132 [.ref 61, .ref 2, .int x2, .int x3, .int x4, .int x5, .int x6] [] (u, ml_h m lm) Φ = wp Ln xs 64 0 [.ref 61, .ref 2, .int x5, .int x4, .int x2, .int x3, mj_hole] [] (u, ml_h m lm) (mk Ln xs 63 140 [.ref 61, .ref 2, .int x2, .int x3, .int x4, .int x5, .int x6] [] Φ) := (wp_same xd63_132 (Or.inr rfl) rfl).trans ((wp_same xd63_133 (Or.inr rfl) rfl).trans ((wp_same xd63_134 (Or.inr rfl) rfl).trans ((wp_same xd63_136 (Or.inr rfl) rfl).trans ((wp_same xd63_138 (Or.inr rfl) rfl).trans ((wp_same xd63_139 (Or.inr rfl) rfl).trans (wm_cv (As := [.ref 2, .int x5, .int x4, .int x2, .int x3]) (rest := []) xd63_140 rfl rfl (show ml_L[61]? = _ from rfl) (Nat.le_of_ble_eq_true rfl) (Nat.le_of_ble_eq_true rfl) (Nat.le_of_ble_eq_true rfl) (Nat.le_of_ble_eq_true rfl)))))))
theorem x63_143 {x2 : Int32} {x3 : Int32} {x4 : Int32} {x5 : Int32} {x6 : Int32} : wp Ln xs 63 143 [.ref 61, .ref 2, .int x2, .int x3, .int x4, .int x5, .int x6] [] (u, ml_h m lm) Φ = wp Ln xs 63 16 [.ref 61, .ref 2, .int x2, .int x3, .int x6, .int (x5 + nI 1), .int x6] [] (u, ml_h m lm) Φ := (wp_same xd63_143 (Or.inr rfl) rfl).trans ((wp_same (L' := [.ref 61, .ref 2, .int x2, .int x3, .int x6, .int x5, .int x6]) xd63_145 (Or.inr rfl) rfl).trans ((wp_same (L' := [.ref 61, .ref 2, .int x2, .int x3, .int x6, .int (x5 + nI 1), .int x6]) xd63_147 (Or.inr rfl) rfl).trans (wx_goto xd63_150 rfl)))
theorem x63_153 {x2 : Int32} {x3 : Int32} {x4 : Int32} {x5 : Int32} {v6 : Value} : wp Ln xs 63 153 [.ref 61, .ref 2, .int x2, .int x3, .int x4, .int x5, v6] [] (u, ml_h m lm) Φ = wp Ln xs 68 0 [.ref 61, .ref 3, .int x4, .int (m 2 5), .int x2, .int x3, mj_hole] [] (u, ml_h m lm) (mk Ln xs 63 166 [.ref 61, .ref 2, .int x2, .int x3, .int x4, .int x5, v6] [] Φ) := (wp_same xd63_153 (Or.inr rfl) rfl).trans ((wp_same xd63_154 (Or.inr rfl) rfl).trans ((wm_getr xd63_155 rfl (show ml_L[2]? = _ from rfl) rfl (Nat.le_of_ble_eq_true rfl)).trans ((wp_same xd63_158 (Or.inr rfl) rfl).trans ((wp_same xd63_160 (Or.inr rfl) rfl).trans ((wm_geti xd63_161 rfl (show ml_L[2]? = _ from rfl) rfl (Nat.le_of_ble_eq_true rfl)).trans ((wp_same xd63_164 (Or.inr rfl) rfl).trans ((wp_same xd63_165 (Or.inr rfl) rfl).trans (wm_cv (As := [.ref 3, .int x4, .int (m 2 5), .int x2, .int x3]) (rest := []) xd63_166 rfl rfl (show ml_L[61]? = _ from rfl) (Nat.le_of_ble_eq_true rfl) (Nat.le_of_ble_eq_true rfl) (Nat.le_of_ble_eq_true rfl) (Nat.le_of_ble_eq_true rfl)))))))))
theorem x63_169 {x2 : Int32} {x3 : Int32} {x4 : Int32} {x5 : Int32} {v6 : Value} : wp Ln xs 63 169 [.ref 61, .ref 2, .int x2, .int x3, .int x4, .int x5, v6] [] (u, ml_h m lm) Φ = Φ (.inl none) (u, ml_h m lm) := wp_fin (v := none) xd63_169 (Or.inr rfl) rfl rfl
/- PickedForms$Matching.inForm -/
theorem xd64_0 : decode (mj_b 64) 0 = .ok (.iload_n 3, 1) := by decide +kernel
theorem xd64_1 : decode (mj_b 64) 1 = .ok (.aload_n 1, 1) := by decide +kernel
theorem xd64_2 : decode (mj_b 64) 2 = .ok (.iload_n 2, 1) := by decide +kernel
theorem xd64_3 : decode (mj_b 64) 3 = .ok (.invokevirtual 30, 3) := by decide +kernel
theorem xd64_6 : decode (mj_b 64) 6 = .ok (.iadd, 1) := by decide +kernel
theorem xd64_7 : decode (mj_b 64) 7 = .ok (.istore 6, 2) := by decide +kernel
theorem xd64_9 : decode (mj_b 64) 9 = .ok (.aload_n 1, 1) := by decide +kernel
theorem xd64_10 : decode (mj_b 64) 10 = .ok (.iload_n 2, 1) := by decide +kernel
theorem xd64_11 : decode (mj_b 64) 11 = .ok (.invokevirtual 62, 3) := by decide +kernel
theorem xd64_14 : decode (mj_b 64) 14 = .ok (.lookupswitch 62 #[(2, 26), (4, 44)], 26) := by decide +kernel
theorem xd64_40 : decode (mj_b 64) 40 = .ok (.aload_n 0, 1) := by decide +kernel
theorem xd64_41 : decode (mj_b 64) 41 = .ok (.aload_n 1, 1) := by decide +kernel
theorem xd64_42 : decode (mj_b 64) 42 = .ok (.getfield 34, 3) := by decide +kernel
theorem xd64_45 : decode (mj_b 64) 45 = .ok (.iload_n 3, 1) := by decide +kernel
theorem xd64_46 : decode (mj_b 64) 46 = .ok (.iload 6, 2) := by decide +kernel
theorem xd64_48 : decode (mj_b 64) 48 = .ok (.iload 4, 2) := by decide +kernel
theorem xd64_50 : decode (mj_b 64) 50 = .ok (.iload 5, 2) := by decide +kernel
theorem xd64_52 : decode (mj_b 64) 52 = .ok (.invokevirtual 65, 3) := by decide +kernel
theorem xd64_55 : decode (mj_b 64) 55 = .ok (.goto 36, 3) := by decide +kernel
theorem xd64_58 : decode (mj_b 64) 58 = .ok (.aload_n 0, 1) := by decide +kernel
theorem xd64_59 : decode (mj_b 64) 59 = .ok (.aload_n 1, 1) := by decide +kernel
theorem xd64_60 : decode (mj_b 64) 60 = .ok (.getfield 34, 3) := by decide +kernel
theorem xd64_63 : decode (mj_b 64) 63 = .ok (.iload_n 3, 1) := by decide +kernel
theorem xd64_64 : decode (mj_b 64) 64 = .ok (.iload 6, 2) := by decide +kernel
theorem xd64_66 : decode (mj_b 64) 66 = .ok (.iload 4, 2) := by decide +kernel
theorem xd64_68 : decode (mj_b 64) 68 = .ok (.iload 5, 2) := by decide +kernel
theorem xd64_70 : decode (mj_b 64) 70 = .ok (.invokevirtual 68, 3) := by decide +kernel
theorem xd64_73 : decode (mj_b 64) 73 = .ok (.goto 18, 3) := by decide +kernel
theorem xd64_76 : decode (mj_b 64) 76 = .ok (.aload_n 0, 1) := by decide +kernel
theorem xd64_77 : decode (mj_b 64) 77 = .ok (.aload_n 1, 1) := by decide +kernel
theorem xd64_78 : decode (mj_b 64) 78 = .ok (.getfield 34, 3) := by decide +kernel
theorem xd64_81 : decode (mj_b 64) 81 = .ok (.iload_n 3, 1) := by decide +kernel
theorem xd64_82 : decode (mj_b 64) 82 = .ok (.iload 6, 2) := by decide +kernel
theorem xd64_84 : decode (mj_b 64) 84 = .ok (.iload 4, 2) := by decide +kernel
theorem xd64_86 : decode (mj_b 64) 86 = .ok (.iload 5, 2) := by decide +kernel
theorem xd64_88 : decode (mj_b 64) 88 = .ok (.invokevirtual 58, 3) := by decide +kernel
theorem xd64_91 : decode (mj_b 64) 91 = .ok (.return_, 1) := by decide +kernel
theorem x64_0 {x2 : Int32} {x3 : Int32} {x4 : Int32} {x5 : Int32} : wp Ln xs 64 0 [.ref 61, .ref 2, .int x2, .int x3, .int x4, .int x5, mj_hole] [] (u, ml_h m lm) Φ = wp Ln xs 30 0 [.ref 2, .int x2] [] (u, ml_h m lm) (mk Ln xs 64 3 [.ref 61, .ref 2, .int x2, .int x3, .int x4, .int x5, mj_hole] [.int x3] Φ) := (wp_same xd64_0 (Or.inr rfl) rfl).trans ((wp_same xd64_1 (Or.inr rfl) rfl).trans ((wp_same xd64_2 (Or.inr rfl) rfl).trans (wm_cv (As := [.int x2]) (rest := [.int x3]) xd64_3 rfl rfl (show ml_L[2]? = _ from rfl) (Nat.le_of_ble_eq_true rfl) (Nat.le_of_ble_eq_true rfl) (Nat.le_of_ble_eq_true rfl) (Nat.le_of_ble_eq_true rfl))))
theorem x64_6 {x2 : Int32} {x3 : Int32} {x4 : Int32} {x5 : Int32} {xs0 : Int32} {xs1 : Int32} : wp Ln xs 64 6 [.ref 61, .ref 2, .int x2, .int x3, .int x4, .int x5, mj_hole] [.int xs0, .int xs1] (u, ml_h m lm) Φ = wp Ln xs 36 0 [.ref 2, .int x2] [] (u, ml_h m lm) (mk Ln xs 64 11 [.ref 61, .ref 2, .int x2, .int x3, .int x4, .int x5, .int (xs1 + xs0)] [] Φ) := (wp_same xd64_6 (Or.inr rfl) rfl).trans ((wp_same (L' := [.ref 61, .ref 2, .int x2, .int x3, .int x4, .int x5, .int (xs1 + xs0)]) xd64_7 (Or.inr rfl) rfl).trans ((wp_same xd64_9 (Or.inr rfl) rfl).trans ((wp_same xd64_10 (Or.inr rfl) rfl).trans (wm_cv (As := [.int x2]) (rest := []) xd64_11 rfl rfl (show ml_L[2]? = _ from rfl) (Nat.le_of_ble_eq_true rfl) (Nat.le_of_ble_eq_true rfl) (Nat.le_of_ble_eq_true rfl) (Nat.le_of_ble_eq_true rfl)))))
theorem x64_14_0 {x2 : Int32} {x3 : Int32} {x4 : Int32} {x5 : Int32} {x6 : Int32} : wp Ln xs 64 14 [.ref 61, .ref 2, .int x2, .int x3, .int x4, .int x5, .int x6] [.int (nI 0)] (u, ml_h m lm) Φ = wp Ln xs 64 76 [.ref 61, .ref 2, .int x2, .int x3, .int x4, .int x5, .int x6] [] (u, ml_h m lm) Φ := wp_same xd64_14 (Or.inl rfl) rfl
theorem x64_14_1 {x2 : Int32} {x3 : Int32} {x4 : Int32} {x5 : Int32} {x6 : Int32} : wp Ln xs 64 14 [.ref 61, .ref 2, .int x2, .int x3, .int x4, .int x5, .int x6] [.int (nI 1)] (u, ml_h m lm) Φ = wp Ln xs 64 76 [.ref 61, .ref 2, .int x2, .int x3, .int x4, .int x5, .int x6] [] (u, ml_h m lm) Φ := wp_same xd64_14 (Or.inl rfl) rfl
theorem x64_14_2 {x2 : Int32} {x3 : Int32} {x4 : Int32} {x5 : Int32} {x6 : Int32} : wp Ln xs 64 14 [.ref 61, .ref 2, .int x2, .int x3, .int x4, .int x5, .int x6] [.int (nI 2)] (u, ml_h m lm) Φ = wp Ln xs 64 40 [.ref 61, .ref 2, .int x2, .int x3, .int x4, .int x5, .int x6] [] (u, ml_h m lm) Φ := wp_same xd64_14 (Or.inl rfl) rfl
theorem x64_14_3 {x2 : Int32} {x3 : Int32} {x4 : Int32} {x5 : Int32} {x6 : Int32} : wp Ln xs 64 14 [.ref 61, .ref 2, .int x2, .int x3, .int x4, .int x5, .int x6] [.int (nI 3)] (u, ml_h m lm) Φ = wp Ln xs 64 76 [.ref 61, .ref 2, .int x2, .int x3, .int x4, .int x5, .int x6] [] (u, ml_h m lm) Φ := wp_same xd64_14 (Or.inl rfl) rfl
theorem x64_14_4 {x2 : Int32} {x3 : Int32} {x4 : Int32} {x5 : Int32} {x6 : Int32} : wp Ln xs 64 14 [.ref 61, .ref 2, .int x2, .int x3, .int x4, .int x5, .int x6] [.int (nI 4)] (u, ml_h m lm) Φ = wp Ln xs 64 58 [.ref 61, .ref 2, .int x2, .int x3, .int x4, .int x5, .int x6] [] (u, ml_h m lm) Φ := wp_same xd64_14 (Or.inl rfl) rfl
theorem x64_14_5 {x2 : Int32} {x3 : Int32} {x4 : Int32} {x5 : Int32} {x6 : Int32} : wp Ln xs 64 14 [.ref 61, .ref 2, .int x2, .int x3, .int x4, .int x5, .int x6] [.int (nI 5)] (u, ml_h m lm) Φ = wp Ln xs 64 76 [.ref 61, .ref 2, .int x2, .int x3, .int x4, .int x5, .int x6] [] (u, ml_h m lm) Φ := wp_same xd64_14 (Or.inl rfl) rfl
theorem x64_14_6 {x2 : Int32} {x3 : Int32} {x4 : Int32} {x5 : Int32} {x6 : Int32} : wp Ln xs 64 14 [.ref 61, .ref 2, .int x2, .int x3, .int x4, .int x5, .int x6] [.int (nI 6)] (u, ml_h m lm) Φ = wp Ln xs 64 76 [.ref 61, .ref 2, .int x2, .int x3, .int x4, .int x5, .int x6] [] (u, ml_h m lm) Φ := wp_same xd64_14 (Or.inl rfl) rfl
theorem x64_40 {x2 : Int32} {x3 : Int32} {x4 : Int32} {x5 : Int32} {x6 : Int32} : wp Ln xs 64 40 [.ref 61, .ref 2, .int x2, .int x3, .int x4, .int x5, .int x6] [] (u, ml_h m lm) Φ = wp Ln xs 65 0 [.ref 61, .ref 3, .int x3, .int x6, .int x4, .int x5, mj_hole, mj_hole] [] (u, ml_h m lm) (mk Ln xs 64 52 [.ref 61, .ref 2, .int x2, .int x3, .int x4, .int x5, .int x6] [] Φ) := (wp_same xd64_40 (Or.inr rfl) rfl).trans ((wp_same xd64_41 (Or.inr rfl) rfl).trans ((wm_getr xd64_42 rfl (show ml_L[2]? = _ from rfl) rfl (Nat.le_of_ble_eq_true rfl)).trans ((wp_same xd64_45 (Or.inr rfl) rfl).trans ((wp_same xd64_46 (Or.inr rfl) rfl).trans ((wp_same xd64_48 (Or.inr rfl) rfl).trans ((wp_same xd64_50 (Or.inr rfl) rfl).trans (wm_cv (As := [.ref 3, .int x3, .int x6, .int x4, .int x5]) (rest := []) xd64_52 rfl rfl (show ml_L[61]? = _ from rfl) (Nat.le_of_ble_eq_true rfl) (Nat.le_of_ble_eq_true rfl) (Nat.le_of_ble_eq_true rfl) (Nat.le_of_ble_eq_true rfl))))))))
theorem x64_55 {x2 : Int32} {x3 : Int32} {x4 : Int32} {x5 : Int32} {x6 : Int32} : wp Ln xs 64 55 [.ref 61, .ref 2, .int x2, .int x3, .int x4, .int x5, .int x6] [] (u, ml_h m lm) Φ = Φ (.inl none) (u, ml_h m lm) := (wx_goto xd64_55 rfl).trans (wp_fin (v := none) xd64_91 (Or.inr rfl) rfl rfl)
theorem x64_58 {x2 : Int32} {x3 : Int32} {x4 : Int32} {x5 : Int32} {x6 : Int32} : wp Ln xs 64 58 [.ref 61, .ref 2, .int x2, .int x3, .int x4, .int x5, .int x6] [] (u, ml_h m lm) Φ = wp Ln xs 67 0 [.ref 61, .ref 3, .int x3, .int x6, .int x4, .int x5, mj_hole, mj_hole, mj_hole, mj_hole] [] (u, ml_h m lm) (mk Ln xs 64 70 [.ref 61, .ref 2, .int x2, .int x3, .int x4, .int x5, .int x6] [] Φ) := (wp_same xd64_58 (Or.inr rfl) rfl).trans ((wp_same xd64_59 (Or.inr rfl) rfl).trans ((wm_getr xd64_60 rfl (show ml_L[2]? = _ from rfl) rfl (Nat.le_of_ble_eq_true rfl)).trans ((wp_same xd64_63 (Or.inr rfl) rfl).trans ((wp_same xd64_64 (Or.inr rfl) rfl).trans ((wp_same xd64_66 (Or.inr rfl) rfl).trans ((wp_same xd64_68 (Or.inr rfl) rfl).trans (wm_cv (As := [.ref 3, .int x3, .int x6, .int x4, .int x5]) (rest := []) xd64_70 rfl rfl (show ml_L[61]? = _ from rfl) (Nat.le_of_ble_eq_true rfl) (Nat.le_of_ble_eq_true rfl) (Nat.le_of_ble_eq_true rfl) (Nat.le_of_ble_eq_true rfl))))))))
theorem x64_73 {x2 : Int32} {x3 : Int32} {x4 : Int32} {x5 : Int32} {x6 : Int32} : wp Ln xs 64 73 [.ref 61, .ref 2, .int x2, .int x3, .int x4, .int x5, .int x6] [] (u, ml_h m lm) Φ = Φ (.inl none) (u, ml_h m lm) := (wx_goto xd64_73 rfl).trans (wp_fin (v := none) xd64_91 (Or.inr rfl) rfl rfl)
theorem x64_76 {x2 : Int32} {x3 : Int32} {x4 : Int32} {x5 : Int32} {x6 : Int32} : wp Ln xs 64 76 [.ref 61, .ref 2, .int x2, .int x3, .int x4, .int x5, .int x6] [] (u, ml_h m lm) Φ = wp Ln xs 68 0 [.ref 61, .ref 3, .int x3, .int x6, .int x4, .int x5, mj_hole] [] (u, ml_h m lm) (mk Ln xs 64 88 [.ref 61, .ref 2, .int x2, .int x3, .int x4, .int x5, .int x6] [] Φ) := (wp_same xd64_76 (Or.inr rfl) rfl).trans ((wp_same xd64_77 (Or.inr rfl) rfl).trans ((wm_getr xd64_78 rfl (show ml_L[2]? = _ from rfl) rfl (Nat.le_of_ble_eq_true rfl)).trans ((wp_same xd64_81 (Or.inr rfl) rfl).trans ((wp_same xd64_82 (Or.inr rfl) rfl).trans ((wp_same xd64_84 (Or.inr rfl) rfl).trans ((wp_same xd64_86 (Or.inr rfl) rfl).trans (wm_cv (As := [.ref 3, .int x3, .int x6, .int x4, .int x5]) (rest := []) xd64_88 rfl rfl (show ml_L[61]? = _ from rfl) (Nat.le_of_ble_eq_true rfl) (Nat.le_of_ble_eq_true rfl) (Nat.le_of_ble_eq_true rfl) (Nat.le_of_ble_eq_true rfl))))))))
theorem x64_91 {x2 : Int32} {x3 : Int32} {x4 : Int32} {x5 : Int32} {x6 : Int32} : wp Ln xs 64 91 [.ref 61, .ref 2, .int x2, .int x3, .int x4, .int x5, .int x6] [] (u, ml_h m lm) Φ = Φ (.inl none) (u, ml_h m lm) := wp_fin (v := none) xd64_91 (Or.inr rfl) rfl rfl
/- PickedForms$Matching.byRuns -/
theorem xd65_0 : decode (mj_b 65) 0 = .ok (.iconst 0, 1) := by decide +kernel
theorem xd65_1 : decode (mj_b 65) 1 = .ok (.istore 6, 2) := by decide +kernel
theorem xd65_3 : decode (mj_b 65) 3 = .ok (.iload_n 2, 1) := by decide +kernel
theorem xd65_4 : decode (mj_b 65) 4 = .ok (.istore 7, 2) := by decide +kernel
theorem xd65_6 : decode (mj_b 65) 6 = .ok (.iload 7, 2) := by decide +kernel
theorem xd65_8 : decode (mj_b 65) 8 = .ok (.iload_n 3, 1) := by decide +kernel
theorem xd65_9 : decode (mj_b 65) 9 = .ok (.if_icmp .ge 72, 3) := by decide +kernel
theorem xd65_12 : decode (mj_b 65) 12 = .ok (.iload 7, 2) := by decide +kernel
theorem xd65_14 : decode (mj_b 65) 14 = .ok (.iload_n 2, 1) := by decide +kernel
theorem xd65_15 : decode (mj_b 65) 15 = .ok (.if_icmp .eq 20, 3) := by decide +kernel
theorem xd65_18 : decode (mj_b 65) 18 = .ok (.aload_n 1, 1) := by decide +kernel
theorem xd65_19 : decode (mj_b 65) 19 = .ok (.iload 7, 2) := by decide +kernel
theorem xd65_21 : decode (mj_b 65) 21 = .ok (.invokestatic 71, 3) := by decide +kernel
theorem xd65_24 : decode (mj_b 65) 24 = .ok (.aload_n 1, 1) := by decide +kernel
theorem xd65_25 : decode (mj_b 65) 25 = .ok (.iload 7, 2) := by decide +kernel
theorem xd65_27 : decode (mj_b 65) 27 = .ok (.iconst 1, 1) := by decide +kernel
theorem xd65_28 : decode (mj_b 65) 28 = .ok (.isub, 1) := by decide +kernel
theorem xd65_29 : decode (mj_b 65) 29 = .ok (.invokestatic 71, 3) := by decide +kernel
theorem xd65_32 : decode (mj_b 65) 32 = .ok (.if_icmp .eq 28, 3) := by decide +kernel
theorem xd65_35 : decode (mj_b 65) 35 = .ok (.aload_n 0, 1) := by decide +kernel
theorem xd65_36 : decode (mj_b 65) 36 = .ok (.dup, 1) := by decide +kernel
theorem xd65_37 : decode (mj_b 65) 37 = .ok (.getfield 22, 3) := by decide +kernel
theorem xd65_40 : decode (mj_b 65) 40 = .ok (.iconst 1, 1) := by decide +kernel
theorem xd65_41 : decode (mj_b 65) 41 = .ok (.iadd, 1) := by decide +kernel
theorem xd65_42 : decode (mj_b 65) 42 = .ok (.putfield 22, 3) := by decide +kernel
theorem xd65_45 : decode (mj_b 65) 45 = .ok (.aload_n 1, 1) := by decide +kernel
theorem xd65_46 : decode (mj_b 65) 46 = .ok (.iload 7, 2) := by decide +kernel
theorem xd65_48 : decode (mj_b 65) 48 = .ok (.invokestatic 71, 3) := by decide +kernel
theorem xd65_51 : decode (mj_b 65) 51 = .ok (.iload 4, 2) := by decide +kernel
theorem xd65_53 : decode (mj_b 65) 53 = .ok (.iload 5, 2) := by decide +kernel
theorem xd65_55 : decode (mj_b 65) 55 = .ok (.invokestatic 77, 3) := by decide +kernel
theorem xd65_58 : decode (mj_b 65) 58 = .ok (.istore 6, 2) := by decide +kernel
theorem xd65_60 : decode (mj_b 65) 60 = .ok (.iload 6, 2) := by decide +kernel
theorem xd65_62 : decode (mj_b 65) 62 = .ok (.ifCond .eq 13, 3) := by decide +kernel
theorem xd65_65 : decode (mj_b 65) 65 = .ok (.aload_n 0, 1) := by decide +kernel
theorem xd65_66 : decode (mj_b 65) 66 = .ok (.dup, 1) := by decide +kernel
theorem xd65_67 : decode (mj_b 65) 67 = .ok (.getfield 18, 3) := by decide +kernel
theorem xd65_70 : decode (mj_b 65) 70 = .ok (.iconst 1, 1) := by decide +kernel
theorem xd65_71 : decode (mj_b 65) 71 = .ok (.iadd, 1) := by decide +kernel
theorem xd65_72 : decode (mj_b 65) 72 = .ok (.putfield 18, 3) := by decide +kernel
theorem xd65_75 : decode (mj_b 65) 75 = .ok (.iinc 7 1, 3) := by decide +kernel
theorem xd65_78 : decode (mj_b 65) 78 = .ok (.goto (-72), 3) := by decide +kernel
theorem xd65_81 : decode (mj_b 65) 81 = .ok (.return_, 1) := by decide +kernel
theorem x65_0 {x2 : Int32} {x3 : Int32} {x4 : Int32} {x5 : Int32} : wp Ln xs 65 0 [.ref 61, .ref 3, .int x2, .int x3, .int x4, .int x5, mj_hole, mj_hole] [] (u, ml_h m lm) Φ = wp Ln xs 65 6 [.ref 61, .ref 3, .int x2, .int x3, .int x4, .int x5, .int (nI 0), .int x2] [] (u, ml_h m lm) Φ := (wp_same (S' := [.int (nI 0)]) xd65_0 (Or.inr rfl) rfl).trans ((wp_same (L' := [.ref 61, .ref 3, .int x2, .int x3, .int x4, .int x5, .int (nI 0), mj_hole]) xd65_1 (Or.inr rfl) rfl).trans ((wp_same xd65_3 (Or.inr rfl) rfl).trans (wp_same (L' := [.ref 61, .ref 3, .int x2, .int x3, .int x4, .int x5, .int (nI 0), .int x2]) xd65_4 (Or.inr rfl) rfl)))
theorem x65_6 {x2 : Int32} {x3 : Int32} {x4 : Int32} {x5 : Int32} {x6 : Int32} {x7 : Int32} : wp Ln xs 65 6 [.ref 61, .ref 3, .int x2, .int x3, .int x4, .int x5, .int x6, .int x7] [] (u, ml_h m lm) Φ = if x3 ≤ x7 then wp Ln xs 65 81 [.ref 61, .ref 3, .int x2, .int x3, .int x4, .int x5, .int x6, .int x7] [] (u, ml_h m lm) Φ else wp Ln xs 65 12 [.ref 61, .ref 3, .int x2, .int x3, .int x4, .int x5, .int x6, .int x7] [] (u, ml_h m lm) Φ := (wp_same xd65_6 (Or.inr rfl) rfl).trans ((wp_same xd65_8 (Or.inr rfl) rfl).trans (wx_icmp xd65_9 rfl rfl (x3 ≤ x7) mb_ge))
theorem x65_12 {x2 : Int32} {x3 : Int32} {x4 : Int32} {x5 : Int32} {x6 : Int32} {x7 : Int32} : wp Ln xs 65 12 [.ref 61, .ref 3, .int x2, .int x3, .int x4, .int x5, .int x6, .int x7] [] (u, ml_h m lm) Φ = if x7 = x2 then wp Ln xs 65 35 [.ref 61, .ref 3, .int x2, .int x3, .int x4, .int x5, .int x6, .int x7] [] (u, ml_h m lm) Φ else wp Ln xs 65 18 [.ref 61, .ref 3, .int x2, .int x3, .int x4, .int x5, .int x6, .int x7] [] (u, ml_h m lm) Φ := (wp_same xd65_12 (Or.inr rfl) rfl).trans ((wp_same xd65_14 (Or.inr rfl) rfl).trans (wx_icmp xd65_15 rfl rfl (x7 = x2) mb_eq))
theorem x65_18 {x2 : Int32} {x3 : Int32} {x4 : Int32} {x5 : Int32} {x6 : Int32} {x7 : Int32} : wp Ln xs 65 18 [.ref 61, .ref 3, .int x2, .int x3, .int x4, .int x5, .int x6, .int x7] [] (u, ml_h m lm) Φ = wp Ln xs 13 0 [.ref 3, .int x7] [] (u, ml_h m lm) (mk Ln xs 65 21 [.ref 61, .ref 3, .int x2, .int x3, .int x4, .int x5, .int x6, .int x7] [] Φ) := (wp_same xd65_18 (Or.inr rfl) rfl).trans ((wp_same xd65_19 (Or.inr rfl) rfl).trans (wm_cs (As := [.ref 3, .int x7]) (rest := []) xd65_21 rfl rfl (Nat.le_of_ble_eq_true rfl) (Nat.le_of_ble_eq_true rfl) (Nat.le_of_ble_eq_true rfl) (Nat.le_of_ble_eq_true rfl)))
theorem x65_24 {x2 : Int32} {x3 : Int32} {x4 : Int32} {x5 : Int32} {x6 : Int32} {x7 : Int32} {xs0 : Int32} : wp Ln xs 65 24 [.ref 61, .ref 3, .int x2, .int x3, .int x4, .int x5, .int x6, .int x7] [.int xs0] (u, ml_h m lm) Φ = wp Ln xs 13 0 [.ref 3, .int (x7 - (nI 1))] [] (u, ml_h m lm) (mk Ln xs 65 29 [.ref 61, .ref 3, .int x2, .int x3, .int x4, .int x5, .int x6, .int x7] [.int xs0] Φ) := (wp_same xd65_24 (Or.inr rfl) rfl).trans ((wp_same xd65_25 (Or.inr rfl) rfl).trans ((wp_same (S' := [.int (nI 1), .int x7, .ref 3, .int xs0]) xd65_27 (Or.inr rfl) rfl).trans ((wp_same xd65_28 (Or.inr rfl) rfl).trans (wm_cs (As := [.ref 3, .int (x7 - (nI 1))]) (rest := [.int xs0]) xd65_29 rfl rfl (Nat.le_of_ble_eq_true rfl) (Nat.le_of_ble_eq_true rfl) (Nat.le_of_ble_eq_true rfl) (Nat.le_of_ble_eq_true rfl)))))
theorem x65_32 {x2 : Int32} {x3 : Int32} {x4 : Int32} {x5 : Int32} {x6 : Int32} {x7 : Int32} {xs0 : Int32} {xs1 : Int32} : wp Ln xs 65 32 [.ref 61, .ref 3, .int x2, .int x3, .int x4, .int x5, .int x6, .int x7] [.int xs0, .int xs1] (u, ml_h m lm) Φ = if xs1 = xs0 then wp Ln xs 65 60 [.ref 61, .ref 3, .int x2, .int x3, .int x4, .int x5, .int x6, .int x7] [] (u, ml_h m lm) Φ else wp Ln xs 65 35 [.ref 61, .ref 3, .int x2, .int x3, .int x4, .int x5, .int x6, .int x7] [] (u, ml_h m lm) Φ := wx_icmp xd65_32 rfl rfl (xs1 = xs0) mb_eq
theorem x65_35 {x2 : Int32} {x3 : Int32} {x4 : Int32} {x5 : Int32} {x6 : Int32} {x7 : Int32} : wp Ln xs 65 35 [.ref 61, .ref 3, .int x2, .int x3, .int x4, .int x5, .int x6, .int x7] [] (u, ml_h m lm) Φ = wp Ln xs 13 0 [.ref 3, .int x7] [] (u, ml_h (ml_s m 61 2 ((m 61 2) + (nI 1))) lm) (mk Ln xs 65 48 [.ref 61, .ref 3, .int x2, .int x3, .int x4, .int x5, .int x6, .int x7] [] Φ) := (wp_same xd65_35 (Or.inr rfl) rfl).trans ((wp_same xd65_36 (Or.inr rfl) rfl).trans ((wm_geti xd65_37 rfl (show ml_L[61]? = _ from rfl) rfl (Nat.le_of_ble_eq_true rfl)).trans ((wp_same (S' := [.int (nI 1), .int (m 61 2), .ref 61]) xd65_40 (Or.inr rfl) rfl).trans ((wp_same xd65_41 (Or.inr rfl) rfl).trans ((wm_puti xd65_42 rfl (show ml_L[61]? = _ from rfl) rfl (Nat.le_of_ble_eq_true rfl) rfl rfl rfl).trans ((wp_same xd65_45 (Or.inr rfl) rfl).trans ((wp_same xd65_46 (Or.inr rfl) rfl).trans (wm_cs (As := [.ref 3, .int x7]) (rest := []) xd65_48 rfl rfl (Nat.le_of_ble_eq_true rfl) (Nat.le_of_ble_eq_true rfl) (Nat.le_of_ble_eq_true rfl) (Nat.le_of_ble_eq_true rfl)))))))))
theorem x65_51 {x2 : Int32} {x3 : Int32} {x4 : Int32} {x5 : Int32} {x6 : Int32} {x7 : Int32} {xs0 : Int32} : wp Ln xs 65 51 [.ref 61, .ref 3, .int x2, .int x3, .int x4, .int x5, .int x6, .int x7] [.int xs0] (u, ml_h m lm) Φ = wp Ln xs 66 0 [.int xs0, .int x4, .int x5] [] (u, ml_h m lm) (mk Ln xs 65 55 [.ref 61, .ref 3, .int x2, .int x3, .int x4, .int x5, .int x6, .int x7] [] Φ) := (wp_same xd65_51 (Or.inr rfl) rfl).trans ((wp_same xd65_53 (Or.inr rfl) rfl).trans (wm_cs (As := [.int xs0, .int x4, .int x5]) (rest := []) xd65_55 rfl rfl (Nat.le_of_ble_eq_true rfl) (Nat.le_of_ble_eq_true rfl) (Nat.le_of_ble_eq_true rfl) (Nat.le_of_ble_eq_true rfl)))
theorem x65_58 {x2 : Int32} {x3 : Int32} {x4 : Int32} {x5 : Int32} {x6 : Int32} {x7 : Int32} {xs0 : Int32} : wp Ln xs 65 58 [.ref 61, .ref 3, .int x2, .int x3, .int x4, .int x5, .int x6, .int x7] [.int xs0] (u, ml_h m lm) Φ = wp Ln xs 65 60 [.ref 61, .ref 3, .int x2, .int x3, .int x4, .int x5, .int xs0, .int x7] [] (u, ml_h m lm) Φ := wp_same (L' := [.ref 61, .ref 3, .int x2, .int x3, .int x4, .int x5, .int xs0, .int x7]) xd65_58 (Or.inr rfl) rfl
theorem x65_60 {x2 : Int32} {x3 : Int32} {x4 : Int32} {x5 : Int32} {x6 : Int32} {x7 : Int32} : wp Ln xs 65 60 [.ref 61, .ref 3, .int x2, .int x3, .int x4, .int x5, .int x6, .int x7] [] (u, ml_h m lm) Φ = if x6 = (nI 0) then wp Ln xs 65 75 [.ref 61, .ref 3, .int x2, .int x3, .int x4, .int x5, .int x6, .int x7] [] (u, ml_h m lm) Φ else wp Ln xs 65 65 [.ref 61, .ref 3, .int x2, .int x3, .int x4, .int x5, .int x6, .int x7] [] (u, ml_h m lm) Φ := (wp_same xd65_60 (Or.inr rfl) rfl).trans (wx_if xd65_62 rfl rfl (x6 = (nI 0)) mb_eq)
theorem x65_65 {x2 : Int32} {x3 : Int32} {x4 : Int32} {x5 : Int32} {x6 : Int32} {x7 : Int32} : wp Ln xs 65 65 [.ref 61, .ref 3, .int x2, .int x3, .int x4, .int x5, .int x6, .int x7] [] (u, ml_h m lm) Φ = wp Ln xs 65 75 [.ref 61, .ref 3, .int x2, .int x3, .int x4, .int x5, .int x6, .int x7] [] (u, ml_h (ml_s m 61 1 ((m 61 1) + (nI 1))) lm) Φ := (wp_same xd65_65 (Or.inr rfl) rfl).trans ((wp_same xd65_66 (Or.inr rfl) rfl).trans ((wm_geti xd65_67 rfl (show ml_L[61]? = _ from rfl) rfl (Nat.le_of_ble_eq_true rfl)).trans ((wp_same (S' := [.int (nI 1), .int (m 61 1), .ref 61]) xd65_70 (Or.inr rfl) rfl).trans ((wp_same xd65_71 (Or.inr rfl) rfl).trans (wm_puti xd65_72 rfl (show ml_L[61]? = _ from rfl) rfl (Nat.le_of_ble_eq_true rfl) rfl rfl rfl)))))
theorem x65_75 {x2 : Int32} {x3 : Int32} {x4 : Int32} {x5 : Int32} {x6 : Int32} {x7 : Int32} : wp Ln xs 65 75 [.ref 61, .ref 3, .int x2, .int x3, .int x4, .int x5, .int x6, .int x7] [] (u, ml_h m lm) Φ = wp Ln xs 65 6 [.ref 61, .ref 3, .int x2, .int x3, .int x4, .int x5, .int x6, .int (x7 + nI 1)] [] (u, ml_h m lm) Φ := (wp_same (L' := [.ref 61, .ref 3, .int x2, .int x3, .int x4, .int x5, .int x6, .int (x7 + nI 1)]) xd65_75 (Or.inr rfl) rfl).trans (wx_goto xd65_78 rfl)
theorem x65_81 {x2 : Int32} {x3 : Int32} {x4 : Int32} {x5 : Int32} {x6 : Int32} {x7 : Int32} : wp Ln xs 65 81 [.ref 61, .ref 3, .int x2, .int x3, .int x4, .int x5, .int x6, .int x7] [] (u, ml_h m lm) Φ = Φ (.inl none) (u, ml_h m lm) := wp_fin (v := none) xd65_81 (Or.inr rfl) rfl rfl
/- PickedForms$Matching.isWithin -/
theorem xd66_0 : decode (mj_b 66) 0 = .ok (.iload_n 0, 1) := by decide +kernel
theorem xd66_1 : decode (mj_b 66) 1 = .ok (.iload_n 1, 1) := by decide +kernel
theorem xd66_2 : decode (mj_b 66) 2 = .ok (.if_icmp .lt 12, 3) := by decide +kernel
theorem xd66_5 : decode (mj_b 66) 5 = .ok (.iload_n 0, 1) := by decide +kernel
theorem xd66_6 : decode (mj_b 66) 6 = .ok (.iload_n 2, 1) := by decide +kernel
theorem xd66_7 : decode (mj_b 66) 7 = .ok (.if_icmp .gt 7, 3) := by decide +kernel
theorem xd66_10 : decode (mj_b 66) 10 = .ok (.iconst 1, 1) := by decide +kernel
theorem xd66_11 : decode (mj_b 66) 11 = .ok (.goto 4, 3) := by decide +kernel
theorem xd66_14 : decode (mj_b 66) 14 = .ok (.iconst 0, 1) := by decide +kernel
theorem xd66_15 : decode (mj_b 66) 15 = .ok (.ireturn, 1) := by decide +kernel
theorem x66_0 {x0 : Int32} {x1 : Int32} {x2 : Int32} : wp Ln xs 66 0 [.int x0, .int x1, .int x2] [] (u, ml_h m lm) Φ = if x0 < x1 then wp Ln xs 66 14 [.int x0, .int x1, .int x2] [] (u, ml_h m lm) Φ else wp Ln xs 66 5 [.int x0, .int x1, .int x2] [] (u, ml_h m lm) Φ := (wp_same xd66_0 (Or.inr rfl) rfl).trans ((wp_same xd66_1 (Or.inr rfl) rfl).trans (wx_icmp xd66_2 rfl rfl (x0 < x1) mb_lt))
theorem x66_5 {x0 : Int32} {x1 : Int32} {x2 : Int32} : wp Ln xs 66 5 [.int x0, .int x1, .int x2] [] (u, ml_h m lm) Φ = if x2 < x0 then wp Ln xs 66 14 [.int x0, .int x1, .int x2] [] (u, ml_h m lm) Φ else wp Ln xs 66 10 [.int x0, .int x1, .int x2] [] (u, ml_h m lm) Φ := (wp_same xd66_5 (Or.inr rfl) rfl).trans ((wp_same xd66_6 (Or.inr rfl) rfl).trans (wx_icmp xd66_7 rfl rfl (x2 < x0) mb_gt))
theorem x66_10 {x0 : Int32} {x1 : Int32} {x2 : Int32} : wp Ln xs 66 10 [.int x0, .int x1, .int x2] [] (u, ml_h m lm) Φ = Φ (.inl (some (.int (nI 1)))) (u, ml_h m lm) := (wp_same (S' := [.int (nI 1)]) xd66_10 (Or.inr rfl) rfl).trans ((wx_goto xd66_11 rfl).trans (wp_fin (v := some (.int (nI 1))) xd66_15 (Or.inr rfl) rfl rfl))
theorem x66_14 {x0 : Int32} {x1 : Int32} {x2 : Int32} : wp Ln xs 66 14 [.int x0, .int x1, .int x2] [] (u, ml_h m lm) Φ = Φ (.inl (some (.int (nI 0)))) (u, ml_h m lm) := (wp_same (S' := [.int (nI 0)]) xd66_14 (Or.inr rfl) rfl).trans (wp_fin (v := some (.int (nI 0))) xd66_15 (Or.inr rfl) rfl rfl)
/- PickedForms$Matching.byRanks -/
theorem xd67_0 : decode (mj_b 67) 0 = .ok (.iconst 0, 1) := by decide +kernel
theorem xd67_1 : decode (mj_b 67) 1 = .ok (.istore 6, 2) := by decide +kernel
theorem xd67_3 : decode (mj_b 67) 3 = .ok (.iconst 0, 1) := by decide +kernel
theorem xd67_4 : decode (mj_b 67) 4 = .ok (.istore 7, 2) := by decide +kernel
theorem xd67_6 : decode (mj_b 67) 6 = .ok (.iconst 0, 1) := by decide +kernel
theorem xd67_7 : decode (mj_b 67) 7 = .ok (.istore 8, 2) := by decide +kernel
theorem xd67_9 : decode (mj_b 67) 9 = .ok (.iload 8, 2) := by decide +kernel
theorem xd67_11 : decode (mj_b 67) 11 = .ok (.aload_n 0, 1) := by decide +kernel
theorem xd67_12 : decode (mj_b 67) 12 = .ok (.getfield 12, 3) := by decide +kernel
theorem xd67_15 : decode (mj_b 67) 15 = .ok (.getfield 81, 3) := by decide +kernel
theorem xd67_18 : decode (mj_b 67) 18 = .ok (.if_icmp .ge 56, 3) := by decide +kernel
theorem xd67_21 : decode (mj_b 67) 21 = .ok (.aload_n 0, 1) := by decide +kernel
theorem xd67_22 : decode (mj_b 67) 22 = .ok (.dup, 1) := by decide +kernel
theorem xd67_23 : decode (mj_b 67) 23 = .ok (.getfield 22, 3) := by decide +kernel
theorem xd67_26 : decode (mj_b 67) 26 = .ok (.iconst 1, 1) := by decide +kernel
theorem xd67_27 : decode (mj_b 67) 27 = .ok (.iadd, 1) := by decide +kernel
theorem xd67_28 : decode (mj_b 67) 28 = .ok (.putfield 22, 3) := by decide +kernel
theorem xd67_31 : decode (mj_b 67) 31 = .ok (.aload_n 0, 1) := by decide +kernel
theorem xd67_32 : decode (mj_b 67) 32 = .ok (.getfield 12, 3) := by decide +kernel
theorem xd67_35 : decode (mj_b 67) 35 = .ok (.getfield 84, 3) := by decide +kernel
theorem xd67_38 : decode (mj_b 67) 38 = .ok (.iload 8, 2) := by decide +kernel
theorem xd67_40 : decode (mj_b 67) 40 = .ok (.invokestatic 71, 3) := by decide +kernel
theorem xd67_43 : decode (mj_b 67) 43 = .ok (.istore 9, 2) := by decide +kernel
theorem xd67_45 : decode (mj_b 67) 45 = .ok (.iload 9, 2) := by decide +kernel
theorem xd67_47 : decode (mj_b 67) 47 = .ok (.iload 4, 2) := by decide +kernel
theorem xd67_49 : decode (mj_b 67) 49 = .ok (.if_icmp .ge 9, 3) := by decide +kernel
theorem xd67_52 : decode (mj_b 67) 52 = .ok (.iinc 6 1, 3) := by decide +kernel
theorem xd67_55 : decode (mj_b 67) 55 = .ok (.goto 13, 3) := by decide +kernel
theorem xd67_58 : decode (mj_b 67) 58 = .ok (.iload 9, 2) := by decide +kernel
theorem xd67_60 : decode (mj_b 67) 60 = .ok (.iload 5, 2) := by decide +kernel
theorem xd67_62 : decode (mj_b 67) 62 = .ok (.if_icmp .gt 6, 3) := by decide +kernel
theorem xd67_65 : decode (mj_b 67) 65 = .ok (.iinc 7 1, 3) := by decide +kernel
theorem xd67_68 : decode (mj_b 67) 68 = .ok (.iinc 8 1, 3) := by decide +kernel
theorem xd67_71 : decode (mj_b 67) 71 = .ok (.goto (-62), 3) := by decide +kernel
theorem xd67_74 : decode (mj_b 67) 74 = .ok (.iload_n 2, 1) := by decide +kernel
theorem xd67_75 : decode (mj_b 67) 75 = .ok (.istore 8, 2) := by decide +kernel
theorem xd67_77 : decode (mj_b 67) 77 = .ok (.iload 8, 2) := by decide +kernel
theorem xd67_79 : decode (mj_b 67) 79 = .ok (.iload_n 3, 1) := by decide +kernel
theorem xd67_80 : decode (mj_b 67) 80 = .ok (.if_icmp .ge 61, 3) := by decide +kernel
theorem xd67_83 : decode (mj_b 67) 83 = .ok (.aload_n 0, 1) := by decide +kernel
theorem xd67_84 : decode (mj_b 67) 84 = .ok (.dup, 1) := by decide +kernel
theorem xd67_85 : decode (mj_b 67) 85 = .ok (.getfield 22, 3) := by decide +kernel
theorem xd67_88 : decode (mj_b 67) 88 = .ok (.iconst 1, 1) := by decide +kernel
theorem xd67_89 : decode (mj_b 67) 89 = .ok (.iadd, 1) := by decide +kernel
theorem xd67_90 : decode (mj_b 67) 90 = .ok (.putfield 22, 3) := by decide +kernel
theorem xd67_93 : decode (mj_b 67) 93 = .ok (.aload_n 0, 1) := by decide +kernel
theorem xd67_94 : decode (mj_b 67) 94 = .ok (.getfield 12, 3) := by decide +kernel
theorem xd67_97 : decode (mj_b 67) 97 = .ok (.aload_n 1, 1) := by decide +kernel
theorem xd67_98 : decode (mj_b 67) 98 = .ok (.iload 8, 2) := by decide +kernel
theorem xd67_100 : decode (mj_b 67) 100 = .ok (.invokestatic 71, 3) := by decide +kernel
theorem xd67_103 : decode (mj_b 67) 103 = .ok (.invokevirtual 87, 3) := by decide +kernel
theorem xd67_106 : decode (mj_b 67) 106 = .ok (.istore 9, 2) := by decide +kernel
theorem xd67_108 : decode (mj_b 67) 108 = .ok (.iload 9, 2) := by decide +kernel
theorem xd67_110 : decode (mj_b 67) 110 = .ok (.iload 6, 2) := by decide +kernel
theorem xd67_112 : decode (mj_b 67) 112 = .ok (.if_icmp .lt 23, 3) := by decide +kernel
theorem xd67_115 : decode (mj_b 67) 115 = .ok (.iload 9, 2) := by decide +kernel
theorem xd67_117 : decode (mj_b 67) 117 = .ok (.iload 6, 2) := by decide +kernel
theorem xd67_119 : decode (mj_b 67) 119 = .ok (.iload 7, 2) := by decide +kernel
theorem xd67_121 : decode (mj_b 67) 121 = .ok (.iadd, 1) := by decide +kernel
theorem xd67_122 : decode (mj_b 67) 122 = .ok (.if_icmp .ge 13, 3) := by decide +kernel
theorem xd67_125 : decode (mj_b 67) 125 = .ok (.aload_n 0, 1) := by decide +kernel
theorem xd67_126 : decode (mj_b 67) 126 = .ok (.dup, 1) := by decide +kernel
theorem xd67_127 : decode (mj_b 67) 127 = .ok (.getfield 18, 3) := by decide +kernel
theorem xd67_130 : decode (mj_b 67) 130 = .ok (.iconst 1, 1) := by decide +kernel
theorem xd67_131 : decode (mj_b 67) 131 = .ok (.iadd, 1) := by decide +kernel
theorem xd67_132 : decode (mj_b 67) 132 = .ok (.putfield 18, 3) := by decide +kernel
theorem xd67_135 : decode (mj_b 67) 135 = .ok (.iinc 8 1, 3) := by decide +kernel
theorem xd67_138 : decode (mj_b 67) 138 = .ok (.goto (-61), 3) := by decide +kernel
theorem xd67_141 : decode (mj_b 67) 141 = .ok (.return_, 1) := by decide +kernel
theorem x67_0 {x2 : Int32} {x3 : Int32} {x4 : Int32} {x5 : Int32} : wp Ln xs 67 0 [.ref 61, .ref 3, .int x2, .int x3, .int x4, .int x5, mj_hole, mj_hole, mj_hole, mj_hole] [] (u, ml_h m lm) Φ = wp Ln xs 67 9 [.ref 61, .ref 3, .int x2, .int x3, .int x4, .int x5, .int (nI 0), .int (nI 0), .int (nI 0), mj_hole] [] (u, ml_h m lm) Φ := (wp_same (S' := [.int (nI 0)]) xd67_0 (Or.inr rfl) rfl).trans ((wp_same (L' := [.ref 61, .ref 3, .int x2, .int x3, .int x4, .int x5, .int (nI 0), mj_hole, mj_hole, mj_hole]) xd67_1 (Or.inr rfl) rfl).trans ((wp_same (S' := [.int (nI 0)]) xd67_3 (Or.inr rfl) rfl).trans ((wp_same (L' := [.ref 61, .ref 3, .int x2, .int x3, .int x4, .int x5, .int (nI 0), .int (nI 0), mj_hole, mj_hole]) xd67_4 (Or.inr rfl) rfl).trans ((wp_same (S' := [.int (nI 0)]) xd67_6 (Or.inr rfl) rfl).trans (wp_same (L' := [.ref 61, .ref 3, .int x2, .int x3, .int x4, .int x5, .int (nI 0), .int (nI 0), .int (nI 0), mj_hole]) xd67_7 (Or.inr rfl) rfl)))))
theorem x67_9 {x2 : Int32} {x3 : Int32} {x4 : Int32} {x5 : Int32} {x6 : Int32} {x7 : Int32} {x8 : Int32} {v9 : Value} : wp Ln xs 67 9 [.ref 61, .ref 3, .int x2, .int x3, .int x4, .int x5, .int x6, .int x7, .int x8, v9] [] (u, ml_h m lm) Φ = if (m 62 1) ≤ x8 then wp Ln xs 67 74 [.ref 61, .ref 3, .int x2, .int x3, .int x4, .int x5, .int x6, .int x7, .int x8, v9] [] (u, ml_h m lm) Φ else wp Ln xs 67 21 [.ref 61, .ref 3, .int x2, .int x3, .int x4, .int x5, .int x6, .int x7, .int x8, v9] [] (u, ml_h m lm) Φ := (wp_same xd67_9 (Or.inr rfl) rfl).trans ((wp_same xd67_11 (Or.inr rfl) rfl).trans ((wm_getr xd67_12 rfl (show ml_L[61]? = _ from rfl) rfl (Nat.le_of_ble_eq_true rfl)).trans ((wm_geti xd67_15 rfl (show ml_L[62]? = _ from rfl) rfl (Nat.le_of_ble_eq_true rfl)).trans (wx_icmp xd67_18 rfl rfl ((m 62 1) ≤ x8) mb_ge))))
theorem x67_21 {x2 : Int32} {x3 : Int32} {x4 : Int32} {x5 : Int32} {x6 : Int32} {x7 : Int32} {x8 : Int32} {v9 : Value} : wp Ln xs 67 21 [.ref 61, .ref 3, .int x2, .int x3, .int x4, .int x5, .int x6, .int x7, .int x8, v9] [] (u, ml_h m lm) Φ = wp Ln xs 13 0 [.ref 63, .int x8] [] (u, ml_h (ml_s m 61 2 ((m 61 2) + (nI 1))) lm) (mk Ln xs 67 40 [.ref 61, .ref 3, .int x2, .int x3, .int x4, .int x5, .int x6, .int x7, .int x8, v9] [] Φ) := (wp_same xd67_21 (Or.inr rfl) rfl).trans ((wp_same xd67_22 (Or.inr rfl) rfl).trans ((wm_geti xd67_23 rfl (show ml_L[61]? = _ from rfl) rfl (Nat.le_of_ble_eq_true rfl)).trans ((wp_same (S' := [.int (nI 1), .int (m 61 2), .ref 61]) xd67_26 (Or.inr rfl) rfl).trans ((wp_same xd67_27 (Or.inr rfl) rfl).trans ((wm_puti xd67_28 rfl (show ml_L[61]? = _ from rfl) rfl (Nat.le_of_ble_eq_true rfl) rfl rfl rfl).trans ((wp_same xd67_31 (Or.inr rfl) rfl).trans ((wm_getr xd67_32 rfl (show ml_L[61]? = _ from rfl) rfl (Nat.le_of_ble_eq_true rfl)).trans ((wm_getr xd67_35 rfl (show ml_L[62]? = _ from rfl) rfl (Nat.le_of_ble_eq_true rfl)).trans ((wp_same xd67_38 (Or.inr rfl) rfl).trans (wm_cs (As := [.ref 63, .int x8]) (rest := []) xd67_40 rfl rfl (Nat.le_of_ble_eq_true rfl) (Nat.le_of_ble_eq_true rfl) (Nat.le_of_ble_eq_true rfl) (Nat.le_of_ble_eq_true rfl)))))))))))
theorem x67_43 {x2 : Int32} {x3 : Int32} {x4 : Int32} {x5 : Int32} {x6 : Int32} {x7 : Int32} {x8 : Int32} {v9 : Value} {xs0 : Int32} : wp Ln xs 67 43 [.ref 61, .ref 3, .int x2, .int x3, .int x4, .int x5, .int x6, .int x7, .int x8, v9] [.int xs0] (u, ml_h m lm) Φ = if x4 ≤ xs0 then wp Ln xs 67 58 [.ref 61, .ref 3, .int x2, .int x3, .int x4, .int x5, .int x6, .int x7, .int x8, .int xs0] [] (u, ml_h m lm) Φ else wp Ln xs 67 52 [.ref 61, .ref 3, .int x2, .int x3, .int x4, .int x5, .int x6, .int x7, .int x8, .int xs0] [] (u, ml_h m lm) Φ := (wp_same (L' := [.ref 61, .ref 3, .int x2, .int x3, .int x4, .int x5, .int x6, .int x7, .int x8, .int xs0]) xd67_43 (Or.inr rfl) rfl).trans ((wp_same xd67_45 (Or.inr rfl) rfl).trans ((wp_same xd67_47 (Or.inr rfl) rfl).trans (wx_icmp xd67_49 rfl rfl (x4 ≤ xs0) mb_ge)))
theorem x67_52 {x2 : Int32} {x3 : Int32} {x4 : Int32} {x5 : Int32} {x6 : Int32} {x7 : Int32} {x8 : Int32} {x9 : Int32} : wp Ln xs 67 52 [.ref 61, .ref 3, .int x2, .int x3, .int x4, .int x5, .int x6, .int x7, .int x8, .int x9] [] (u, ml_h m lm) Φ = wp Ln xs 67 68 [.ref 61, .ref 3, .int x2, .int x3, .int x4, .int x5, .int (x6 + nI 1), .int x7, .int x8, .int x9] [] (u, ml_h m lm) Φ := (wp_same (L' := [.ref 61, .ref 3, .int x2, .int x3, .int x4, .int x5, .int (x6 + nI 1), .int x7, .int x8, .int x9]) xd67_52 (Or.inr rfl) rfl).trans (wx_goto xd67_55 rfl)
theorem x67_58 {x2 : Int32} {x3 : Int32} {x4 : Int32} {x5 : Int32} {x6 : Int32} {x7 : Int32} {x8 : Int32} {x9 : Int32} : wp Ln xs 67 58 [.ref 61, .ref 3, .int x2, .int x3, .int x4, .int x5, .int x6, .int x7, .int x8, .int x9] [] (u, ml_h m lm) Φ = if x5 < x9 then wp Ln xs 67 68 [.ref 61, .ref 3, .int x2, .int x3, .int x4, .int x5, .int x6, .int x7, .int x8, .int x9] [] (u, ml_h m lm) Φ else wp Ln xs 67 65 [.ref 61, .ref 3, .int x2, .int x3, .int x4, .int x5, .int x6, .int x7, .int x8, .int x9] [] (u, ml_h m lm) Φ := (wp_same xd67_58 (Or.inr rfl) rfl).trans ((wp_same xd67_60 (Or.inr rfl) rfl).trans (wx_icmp xd67_62 rfl rfl (x5 < x9) mb_gt))
theorem x67_65 {x2 : Int32} {x3 : Int32} {x4 : Int32} {x5 : Int32} {x6 : Int32} {x7 : Int32} {x8 : Int32} {x9 : Int32} : wp Ln xs 67 65 [.ref 61, .ref 3, .int x2, .int x3, .int x4, .int x5, .int x6, .int x7, .int x8, .int x9] [] (u, ml_h m lm) Φ = wp Ln xs 67 68 [.ref 61, .ref 3, .int x2, .int x3, .int x4, .int x5, .int x6, .int (x7 + nI 1), .int x8, .int x9] [] (u, ml_h m lm) Φ := wp_same (L' := [.ref 61, .ref 3, .int x2, .int x3, .int x4, .int x5, .int x6, .int (x7 + nI 1), .int x8, .int x9]) xd67_65 (Or.inr rfl) rfl
theorem x67_68 {x2 : Int32} {x3 : Int32} {x4 : Int32} {x5 : Int32} {x6 : Int32} {x7 : Int32} {x8 : Int32} {x9 : Int32} : wp Ln xs 67 68 [.ref 61, .ref 3, .int x2, .int x3, .int x4, .int x5, .int x6, .int x7, .int x8, .int x9] [] (u, ml_h m lm) Φ = wp Ln xs 67 9 [.ref 61, .ref 3, .int x2, .int x3, .int x4, .int x5, .int x6, .int x7, .int (x8 + nI 1), .int x9] [] (u, ml_h m lm) Φ := (wp_same (L' := [.ref 61, .ref 3, .int x2, .int x3, .int x4, .int x5, .int x6, .int x7, .int (x8 + nI 1), .int x9]) xd67_68 (Or.inr rfl) rfl).trans (wx_goto xd67_71 rfl)
theorem x67_74 {x2 : Int32} {x3 : Int32} {x4 : Int32} {x5 : Int32} {x6 : Int32} {x7 : Int32} {x8 : Int32} {v9 : Value} : wp Ln xs 67 74 [.ref 61, .ref 3, .int x2, .int x3, .int x4, .int x5, .int x6, .int x7, .int x8, v9] [] (u, ml_h m lm) Φ = wp Ln xs 67 77 [.ref 61, .ref 3, .int x2, .int x3, .int x4, .int x5, .int x6, .int x7, .int x2, v9] [] (u, ml_h m lm) Φ := (wp_same xd67_74 (Or.inr rfl) rfl).trans (wp_same (L' := [.ref 61, .ref 3, .int x2, .int x3, .int x4, .int x5, .int x6, .int x7, .int x2, v9]) xd67_75 (Or.inr rfl) rfl)
theorem x67_77 {x2 : Int32} {x3 : Int32} {x4 : Int32} {x5 : Int32} {x6 : Int32} {x7 : Int32} {x8 : Int32} {v9 : Value} : wp Ln xs 67 77 [.ref 61, .ref 3, .int x2, .int x3, .int x4, .int x5, .int x6, .int x7, .int x8, v9] [] (u, ml_h m lm) Φ = if x3 ≤ x8 then wp Ln xs 67 141 [.ref 61, .ref 3, .int x2, .int x3, .int x4, .int x5, .int x6, .int x7, .int x8, v9] [] (u, ml_h m lm) Φ else wp Ln xs 67 83 [.ref 61, .ref 3, .int x2, .int x3, .int x4, .int x5, .int x6, .int x7, .int x8, v9] [] (u, ml_h m lm) Φ := (wp_same xd67_77 (Or.inr rfl) rfl).trans ((wp_same xd67_79 (Or.inr rfl) rfl).trans (wx_icmp xd67_80 rfl rfl (x3 ≤ x8) mb_ge))
theorem x67_83 {x2 : Int32} {x3 : Int32} {x4 : Int32} {x5 : Int32} {x6 : Int32} {x7 : Int32} {x8 : Int32} {v9 : Value} : wp Ln xs 67 83 [.ref 61, .ref 3, .int x2, .int x3, .int x4, .int x5, .int x6, .int x7, .int x8, v9] [] (u, ml_h m lm) Φ = wp Ln xs 13 0 [.ref 3, .int x8] [] (u, ml_h (ml_s m 61 2 ((m 61 2) + (nI 1))) lm) (mk Ln xs 67 100 [.ref 61, .ref 3, .int x2, .int x3, .int x4, .int x5, .int x6, .int x7, .int x8, v9] [.ref 62] Φ) := (wp_same xd67_83 (Or.inr rfl) rfl).trans ((wp_same xd67_84 (Or.inr rfl) rfl).trans ((wm_geti xd67_85 rfl (show ml_L[61]? = _ from rfl) rfl (Nat.le_of_ble_eq_true rfl)).trans ((wp_same (S' := [.int (nI 1), .int (m 61 2), .ref 61]) xd67_88 (Or.inr rfl) rfl).trans ((wp_same xd67_89 (Or.inr rfl) rfl).trans ((wm_puti xd67_90 rfl (show ml_L[61]? = _ from rfl) rfl (Nat.le_of_ble_eq_true rfl) rfl rfl rfl).trans ((wp_same xd67_93 (Or.inr rfl) rfl).trans ((wm_getr xd67_94 rfl (show ml_L[61]? = _ from rfl) rfl (Nat.le_of_ble_eq_true rfl)).trans ((wp_same xd67_97 (Or.inr rfl) rfl).trans ((wp_same xd67_98 (Or.inr rfl) rfl).trans (wm_cs (As := [.ref 3, .int x8]) (rest := [.ref 62]) xd67_100 rfl rfl (Nat.le_of_ble_eq_true rfl) (Nat.le_of_ble_eq_true rfl) (Nat.le_of_ble_eq_true rfl) (Nat.le_of_ble_eq_true rfl)))))))))))
theorem x67_103 {x2 : Int32} {x3 : Int32} {x4 : Int32} {x5 : Int32} {x6 : Int32} {x7 : Int32} {x8 : Int32} {v9 : Value} {xs0 : Int32} : wp Ln xs 67 103 [.ref 61, .ref 3, .int x2, .int x3, .int x4, .int x5, .int x6, .int x7, .int x8, v9] [.int xs0, .ref 62] (u, ml_h m lm) Φ = wp Ln xs 59 0 [.ref 62, .int xs0, mj_hole, mj_hole] [] (u, ml_h m lm) (mk Ln xs 67 103 [.ref 61, .ref 3, .int x2, .int x3, .int x4, .int x5, .int x6, .int x7, .int x8, v9] [] Φ) := wm_cv (As := [.int xs0]) (rest := []) xd67_103 rfl rfl (show ml_L[62]? = _ from rfl) (Nat.le_of_ble_eq_true rfl) (Nat.le_of_ble_eq_true rfl) (Nat.le_of_ble_eq_true rfl) (Nat.le_of_ble_eq_true rfl)
theorem x67_106 {x2 : Int32} {x3 : Int32} {x4 : Int32} {x5 : Int32} {x6 : Int32} {x7 : Int32} {x8 : Int32} {v9 : Value} {xs0 : Int32} : wp Ln xs 67 106 [.ref 61, .ref 3, .int x2, .int x3, .int x4, .int x5, .int x6, .int x7, .int x8, v9] [.int xs0] (u, ml_h m lm) Φ = if xs0 < x6 then wp Ln xs 67 135 [.ref 61, .ref 3, .int x2, .int x3, .int x4, .int x5, .int x6, .int x7, .int x8, .int xs0] [] (u, ml_h m lm) Φ else wp Ln xs 67 115 [.ref 61, .ref 3, .int x2, .int x3, .int x4, .int x5, .int x6, .int x7, .int x8, .int xs0] [] (u, ml_h m lm) Φ := (wp_same (L' := [.ref 61, .ref 3, .int x2, .int x3, .int x4, .int x5, .int x6, .int x7, .int x8, .int xs0]) xd67_106 (Or.inr rfl) rfl).trans ((wp_same xd67_108 (Or.inr rfl) rfl).trans ((wp_same xd67_110 (Or.inr rfl) rfl).trans (wx_icmp xd67_112 rfl rfl (xs0 < x6) mb_lt)))
theorem x67_115 {x2 : Int32} {x3 : Int32} {x4 : Int32} {x5 : Int32} {x6 : Int32} {x7 : Int32} {x8 : Int32} {x9 : Int32} : wp Ln xs 67 115 [.ref 61, .ref 3, .int x2, .int x3, .int x4, .int x5, .int x6, .int x7, .int x8, .int x9] [] (u, ml_h m lm) Φ = if (x6 + x7) ≤ x9 then wp Ln xs 67 135 [.ref 61, .ref 3, .int x2, .int x3, .int x4, .int x5, .int x6, .int x7, .int x8, .int x9] [] (u, ml_h m lm) Φ else wp Ln xs 67 125 [.ref 61, .ref 3, .int x2, .int x3, .int x4, .int x5, .int x6, .int x7, .int x8, .int x9] [] (u, ml_h m lm) Φ := (wp_same xd67_115 (Or.inr rfl) rfl).trans ((wp_same xd67_117 (Or.inr rfl) rfl).trans ((wp_same xd67_119 (Or.inr rfl) rfl).trans ((wp_same xd67_121 (Or.inr rfl) rfl).trans (wx_icmp xd67_122 rfl rfl ((x6 + x7) ≤ x9) mb_ge))))
theorem x67_125 {x2 : Int32} {x3 : Int32} {x4 : Int32} {x5 : Int32} {x6 : Int32} {x7 : Int32} {x8 : Int32} {x9 : Int32} : wp Ln xs 67 125 [.ref 61, .ref 3, .int x2, .int x3, .int x4, .int x5, .int x6, .int x7, .int x8, .int x9] [] (u, ml_h m lm) Φ = wp Ln xs 67 135 [.ref 61, .ref 3, .int x2, .int x3, .int x4, .int x5, .int x6, .int x7, .int x8, .int x9] [] (u, ml_h (ml_s m 61 1 ((m 61 1) + (nI 1))) lm) Φ := (wp_same xd67_125 (Or.inr rfl) rfl).trans ((wp_same xd67_126 (Or.inr rfl) rfl).trans ((wm_geti xd67_127 rfl (show ml_L[61]? = _ from rfl) rfl (Nat.le_of_ble_eq_true rfl)).trans ((wp_same (S' := [.int (nI 1), .int (m 61 1), .ref 61]) xd67_130 (Or.inr rfl) rfl).trans ((wp_same xd67_131 (Or.inr rfl) rfl).trans (wm_puti xd67_132 rfl (show ml_L[61]? = _ from rfl) rfl (Nat.le_of_ble_eq_true rfl) rfl rfl rfl)))))
theorem x67_135 {x2 : Int32} {x3 : Int32} {x4 : Int32} {x5 : Int32} {x6 : Int32} {x7 : Int32} {x8 : Int32} {x9 : Int32} : wp Ln xs 67 135 [.ref 61, .ref 3, .int x2, .int x3, .int x4, .int x5, .int x6, .int x7, .int x8, .int x9] [] (u, ml_h m lm) Φ = wp Ln xs 67 77 [.ref 61, .ref 3, .int x2, .int x3, .int x4, .int x5, .int x6, .int x7, .int (x8 + nI 1), .int x9] [] (u, ml_h m lm) Φ := (wp_same (L' := [.ref 61, .ref 3, .int x2, .int x3, .int x4, .int x5, .int x6, .int x7, .int (x8 + nI 1), .int x9]) xd67_135 (Or.inr rfl) rfl).trans (wx_goto xd67_138 rfl)
theorem x67_141 {x2 : Int32} {x3 : Int32} {x4 : Int32} {x5 : Int32} {x6 : Int32} {x7 : Int32} {x8 : Int32} {v9 : Value} : wp Ln xs 67 141 [.ref 61, .ref 3, .int x2, .int x3, .int x4, .int x5, .int x6, .int x7, .int x8, v9] [] (u, ml_h m lm) Φ = Φ (.inl none) (u, ml_h m lm) := wp_fin (v := none) xd67_141 (Or.inr rfl) rfl rfl
/- PickedForms$Matching.byValues -/
theorem xd68_0 : decode (mj_b 68) 0 = .ok (.iload_n 2, 1) := by decide +kernel
theorem xd68_1 : decode (mj_b 68) 1 = .ok (.istore 6, 2) := by decide +kernel
theorem xd68_3 : decode (mj_b 68) 3 = .ok (.iload 6, 2) := by decide +kernel
theorem xd68_5 : decode (mj_b 68) 5 = .ok (.iload_n 3, 1) := by decide +kernel
theorem xd68_6 : decode (mj_b 68) 6 = .ok (.if_icmp .ge 45, 3) := by decide +kernel
theorem xd68_9 : decode (mj_b 68) 9 = .ok (.aload_n 0, 1) := by decide +kernel
theorem xd68_10 : decode (mj_b 68) 10 = .ok (.dup, 1) := by decide +kernel
theorem xd68_11 : decode (mj_b 68) 11 = .ok (.getfield 22, 3) := by decide +kernel
theorem xd68_14 : decode (mj_b 68) 14 = .ok (.iconst 1, 1) := by decide +kernel
theorem xd68_15 : decode (mj_b 68) 15 = .ok (.iadd, 1) := by decide +kernel
theorem xd68_16 : decode (mj_b 68) 16 = .ok (.putfield 22, 3) := by decide +kernel
theorem xd68_19 : decode (mj_b 68) 19 = .ok (.aload_n 1, 1) := by decide +kernel
theorem xd68_20 : decode (mj_b 68) 20 = .ok (.iload 6, 2) := by decide +kernel
theorem xd68_22 : decode (mj_b 68) 22 = .ok (.invokestatic 71, 3) := by decide +kernel
theorem xd68_25 : decode (mj_b 68) 25 = .ok (.iload 4, 2) := by decide +kernel
theorem xd68_27 : decode (mj_b 68) 27 = .ok (.iload 5, 2) := by decide +kernel
theorem xd68_29 : decode (mj_b 68) 29 = .ok (.invokestatic 77, 3) := by decide +kernel
theorem xd68_32 : decode (mj_b 68) 32 = .ok (.ifCond .eq 13, 3) := by decide +kernel
theorem xd68_35 : decode (mj_b 68) 35 = .ok (.aload_n 0, 1) := by decide +kernel
theorem xd68_36 : decode (mj_b 68) 36 = .ok (.dup, 1) := by decide +kernel
theorem xd68_37 : decode (mj_b 68) 37 = .ok (.getfield 18, 3) := by decide +kernel
theorem xd68_40 : decode (mj_b 68) 40 = .ok (.iconst 1, 1) := by decide +kernel
theorem xd68_41 : decode (mj_b 68) 41 = .ok (.iadd, 1) := by decide +kernel
theorem xd68_42 : decode (mj_b 68) 42 = .ok (.putfield 18, 3) := by decide +kernel
theorem xd68_45 : decode (mj_b 68) 45 = .ok (.iinc 6 1, 3) := by decide +kernel
theorem xd68_48 : decode (mj_b 68) 48 = .ok (.goto (-45), 3) := by decide +kernel
theorem xd68_51 : decode (mj_b 68) 51 = .ok (.return_, 1) := by decide +kernel
theorem x68_0 {x2 : Int32} {x3 : Int32} {x4 : Int32} {x5 : Int32} : wp Ln xs 68 0 [.ref 61, .ref 3, .int x2, .int x3, .int x4, .int x5, mj_hole] [] (u, ml_h m lm) Φ = wp Ln xs 68 3 [.ref 61, .ref 3, .int x2, .int x3, .int x4, .int x5, .int x2] [] (u, ml_h m lm) Φ := (wp_same xd68_0 (Or.inr rfl) rfl).trans (wp_same (L' := [.ref 61, .ref 3, .int x2, .int x3, .int x4, .int x5, .int x2]) xd68_1 (Or.inr rfl) rfl)
theorem x68_3 {x2 : Int32} {x3 : Int32} {x4 : Int32} {x5 : Int32} {x6 : Int32} : wp Ln xs 68 3 [.ref 61, .ref 3, .int x2, .int x3, .int x4, .int x5, .int x6] [] (u, ml_h m lm) Φ = if x3 ≤ x6 then wp Ln xs 68 51 [.ref 61, .ref 3, .int x2, .int x3, .int x4, .int x5, .int x6] [] (u, ml_h m lm) Φ else wp Ln xs 68 9 [.ref 61, .ref 3, .int x2, .int x3, .int x4, .int x5, .int x6] [] (u, ml_h m lm) Φ := (wp_same xd68_3 (Or.inr rfl) rfl).trans ((wp_same xd68_5 (Or.inr rfl) rfl).trans (wx_icmp xd68_6 rfl rfl (x3 ≤ x6) mb_ge))
theorem x68_9 {x2 : Int32} {x3 : Int32} {x4 : Int32} {x5 : Int32} {x6 : Int32} : wp Ln xs 68 9 [.ref 61, .ref 3, .int x2, .int x3, .int x4, .int x5, .int x6] [] (u, ml_h m lm) Φ = wp Ln xs 13 0 [.ref 3, .int x6] [] (u, ml_h (ml_s m 61 2 ((m 61 2) + (nI 1))) lm) (mk Ln xs 68 22 [.ref 61, .ref 3, .int x2, .int x3, .int x4, .int x5, .int x6] [] Φ) := (wp_same xd68_9 (Or.inr rfl) rfl).trans ((wp_same xd68_10 (Or.inr rfl) rfl).trans ((wm_geti xd68_11 rfl (show ml_L[61]? = _ from rfl) rfl (Nat.le_of_ble_eq_true rfl)).trans ((wp_same (S' := [.int (nI 1), .int (m 61 2), .ref 61]) xd68_14 (Or.inr rfl) rfl).trans ((wp_same xd68_15 (Or.inr rfl) rfl).trans ((wm_puti xd68_16 rfl (show ml_L[61]? = _ from rfl) rfl (Nat.le_of_ble_eq_true rfl) rfl rfl rfl).trans ((wp_same xd68_19 (Or.inr rfl) rfl).trans ((wp_same xd68_20 (Or.inr rfl) rfl).trans (wm_cs (As := [.ref 3, .int x6]) (rest := []) xd68_22 rfl rfl (Nat.le_of_ble_eq_true rfl) (Nat.le_of_ble_eq_true rfl) (Nat.le_of_ble_eq_true rfl) (Nat.le_of_ble_eq_true rfl)))))))))
theorem x68_25 {x2 : Int32} {x3 : Int32} {x4 : Int32} {x5 : Int32} {x6 : Int32} {xs0 : Int32} : wp Ln xs 68 25 [.ref 61, .ref 3, .int x2, .int x3, .int x4, .int x5, .int x6] [.int xs0] (u, ml_h m lm) Φ = wp Ln xs 66 0 [.int xs0, .int x4, .int x5] [] (u, ml_h m lm) (mk Ln xs 68 29 [.ref 61, .ref 3, .int x2, .int x3, .int x4, .int x5, .int x6] [] Φ) := (wp_same xd68_25 (Or.inr rfl) rfl).trans ((wp_same xd68_27 (Or.inr rfl) rfl).trans (wm_cs (As := [.int xs0, .int x4, .int x5]) (rest := []) xd68_29 rfl rfl (Nat.le_of_ble_eq_true rfl) (Nat.le_of_ble_eq_true rfl) (Nat.le_of_ble_eq_true rfl) (Nat.le_of_ble_eq_true rfl)))
theorem x68_32 {x2 : Int32} {x3 : Int32} {x4 : Int32} {x5 : Int32} {x6 : Int32} {xs0 : Int32} : wp Ln xs 68 32 [.ref 61, .ref 3, .int x2, .int x3, .int x4, .int x5, .int x6] [.int xs0] (u, ml_h m lm) Φ = if xs0 = (nI 0) then wp Ln xs 68 45 [.ref 61, .ref 3, .int x2, .int x3, .int x4, .int x5, .int x6] [] (u, ml_h m lm) Φ else wp Ln xs 68 35 [.ref 61, .ref 3, .int x2, .int x3, .int x4, .int x5, .int x6] [] (u, ml_h m lm) Φ := wx_if xd68_32 rfl rfl (xs0 = (nI 0)) mb_eq
theorem x68_35 {x2 : Int32} {x3 : Int32} {x4 : Int32} {x5 : Int32} {x6 : Int32} : wp Ln xs 68 35 [.ref 61, .ref 3, .int x2, .int x3, .int x4, .int x5, .int x6] [] (u, ml_h m lm) Φ = wp Ln xs 68 45 [.ref 61, .ref 3, .int x2, .int x3, .int x4, .int x5, .int x6] [] (u, ml_h (ml_s m 61 1 ((m 61 1) + (nI 1))) lm) Φ := (wp_same xd68_35 (Or.inr rfl) rfl).trans ((wp_same xd68_36 (Or.inr rfl) rfl).trans ((wm_geti xd68_37 rfl (show ml_L[61]? = _ from rfl) rfl (Nat.le_of_ble_eq_true rfl)).trans ((wp_same (S' := [.int (nI 1), .int (m 61 1), .ref 61]) xd68_40 (Or.inr rfl) rfl).trans ((wp_same xd68_41 (Or.inr rfl) rfl).trans (wm_puti xd68_42 rfl (show ml_L[61]? = _ from rfl) rfl (Nat.le_of_ble_eq_true rfl) rfl rfl rfl)))))
theorem x68_45 {x2 : Int32} {x3 : Int32} {x4 : Int32} {x5 : Int32} {x6 : Int32} : wp Ln xs 68 45 [.ref 61, .ref 3, .int x2, .int x3, .int x4, .int x5, .int x6] [] (u, ml_h m lm) Φ = wp Ln xs 68 3 [.ref 61, .ref 3, .int x2, .int x3, .int x4, .int x5, .int (x6 + nI 1)] [] (u, ml_h m lm) Φ := (wp_same (L' := [.ref 61, .ref 3, .int x2, .int x3, .int x4, .int x5, .int (x6 + nI 1)]) xd68_45 (Or.inr rfl) rfl).trans (wx_goto xd68_48 rfl)
theorem x68_51 {x2 : Int32} {x3 : Int32} {x4 : Int32} {x5 : Int32} {x6 : Int32} : wp Ln xs 68 51 [.ref 61, .ref 3, .int x2, .int x3, .int x4, .int x5, .int x6] [] (u, ml_h m lm) Φ = Φ (.inl none) (u, ml_h m lm) := wp_fin (v := none) xd68_51 (Or.inr rfl) rfl rfl
/- PickedForms$Matching.hitsByReading -/
theorem xd69_0 : decode (mj_b 69) 0 = .ok (.iconst 0, 1) := by decide +kernel
theorem xd69_1 : decode (mj_b 69) 1 = .ok (.istore 4, 2) := by decide +kernel
theorem xd69_3 : decode (mj_b 69) 3 = .ok (.iconst 0, 1) := by decide +kernel
theorem xd69_4 : decode (mj_b 69) 4 = .ok (.istore 5, 2) := by decide +kernel
theorem xd69_6 : decode (mj_b 69) 6 = .ok (.iload 5, 2) := by decide +kernel
theorem xd69_8 : decode (mj_b 69) 8 = .ok (.aload_n 1, 1) := by decide +kernel
theorem xd69_9 : decode (mj_b 69) 9 = .ok (.getfield 55, 3) := by decide +kernel
theorem xd69_12 : decode (mj_b 69) 12 = .ok (.if_icmp .ge 29, 3) := by decide +kernel
theorem xd69_15 : decode (mj_b 69) 15 = .ok (.aload_n 1, 1) := by decide +kernel
theorem xd69_16 : decode (mj_b 69) 16 = .ok (.getfield 34, 3) := by decide +kernel
theorem xd69_19 : decode (mj_b 69) 19 = .ok (.iload 5, 2) := by decide +kernel
theorem xd69_21 : decode (mj_b 69) 21 = .ok (.invokestatic 71, 3) := by decide +kernel
theorem xd69_24 : decode (mj_b 69) 24 = .ok (.iload_n 2, 1) := by decide +kernel
theorem xd69_25 : decode (mj_b 69) 25 = .ok (.iload_n 3, 1) := by decide +kernel
theorem xd69_26 : decode (mj_b 69) 26 = .ok (.invokestatic 77, 3) := by decide +kernel
theorem xd69_29 : decode (mj_b 69) 29 = .ok (.ifCond .eq 6, 3) := by decide +kernel
theorem xd69_32 : decode (mj_b 69) 32 = .ok (.iinc 4 1, 3) := by decide +kernel
theorem xd69_35 : decode (mj_b 69) 35 = .ok (.iinc 5 1, 3) := by decide +kernel
theorem xd69_38 : decode (mj_b 69) 38 = .ok (.goto (-32), 3) := by decide +kernel
theorem xd69_41 : decode (mj_b 69) 41 = .ok (.iload 4, 2) := by decide +kernel
theorem xd69_43 : decode (mj_b 69) 43 = .ok (.ireturn, 1) := by decide +kernel
theorem x69_0 {x2 : Int32} {x3 : Int32} : wp Ln xs 69 0 [.ref 61, .ref 2, .int x2, .int x3, mj_hole, mj_hole] [] (u, ml_h m lm) Φ = wp Ln xs 69 6 [.ref 61, .ref 2, .int x2, .int x3, .int (nI 0), .int (nI 0)] [] (u, ml_h m lm) Φ := (wp_same (S' := [.int (nI 0)]) xd69_0 (Or.inr rfl) rfl).trans ((wp_same (L' := [.ref 61, .ref 2, .int x2, .int x3, .int (nI 0), mj_hole]) xd69_1 (Or.inr rfl) rfl).trans ((wp_same (S' := [.int (nI 0)]) xd69_3 (Or.inr rfl) rfl).trans (wp_same (L' := [.ref 61, .ref 2, .int x2, .int x3, .int (nI 0), .int (nI 0)]) xd69_4 (Or.inr rfl) rfl)))
theorem x69_6 {x2 : Int32} {x3 : Int32} {x4 : Int32} {x5 : Int32} : wp Ln xs 69 6 [.ref 61, .ref 2, .int x2, .int x3, .int x4, .int x5] [] (u, ml_h m lm) Φ = if (m 2 5) ≤ x5 then wp Ln xs 69 41 [.ref 61, .ref 2, .int x2, .int x3, .int x4, .int x5] [] (u, ml_h m lm) Φ else wp Ln xs 69 15 [.ref 61, .ref 2, .int x2, .int x3, .int x4, .int x5] [] (u, ml_h m lm) Φ := (wp_same xd69_6 (Or.inr rfl) rfl).trans ((wp_same xd69_8 (Or.inr rfl) rfl).trans ((wm_geti xd69_9 rfl (show ml_L[2]? = _ from rfl) rfl (Nat.le_of_ble_eq_true rfl)).trans (wx_icmp xd69_12 rfl rfl ((m 2 5) ≤ x5) mb_ge)))
theorem x69_15 {x2 : Int32} {x3 : Int32} {x4 : Int32} {x5 : Int32} : wp Ln xs 69 15 [.ref 61, .ref 2, .int x2, .int x3, .int x4, .int x5] [] (u, ml_h m lm) Φ = wp Ln xs 13 0 [.ref 3, .int x5] [] (u, ml_h m lm) (mk Ln xs 69 21 [.ref 61, .ref 2, .int x2, .int x3, .int x4, .int x5] [] Φ) := (wp_same xd69_15 (Or.inr rfl) rfl).trans ((wm_getr xd69_16 rfl (show ml_L[2]? = _ from rfl) rfl (Nat.le_of_ble_eq_true rfl)).trans ((wp_same xd69_19 (Or.inr rfl) rfl).trans (wm_cs (As := [.ref 3, .int x5]) (rest := []) xd69_21 rfl rfl (Nat.le_of_ble_eq_true rfl) (Nat.le_of_ble_eq_true rfl) (Nat.le_of_ble_eq_true rfl) (Nat.le_of_ble_eq_true rfl))))
theorem x69_24 {x2 : Int32} {x3 : Int32} {x4 : Int32} {x5 : Int32} {xs0 : Int32} : wp Ln xs 69 24 [.ref 61, .ref 2, .int x2, .int x3, .int x4, .int x5] [.int xs0] (u, ml_h m lm) Φ = wp Ln xs 66 0 [.int xs0, .int x2, .int x3] [] (u, ml_h m lm) (mk Ln xs 69 26 [.ref 61, .ref 2, .int x2, .int x3, .int x4, .int x5] [] Φ) := (wp_same xd69_24 (Or.inr rfl) rfl).trans ((wp_same xd69_25 (Or.inr rfl) rfl).trans (wm_cs (As := [.int xs0, .int x2, .int x3]) (rest := []) xd69_26 rfl rfl (Nat.le_of_ble_eq_true rfl) (Nat.le_of_ble_eq_true rfl) (Nat.le_of_ble_eq_true rfl) (Nat.le_of_ble_eq_true rfl)))
theorem x69_29 {x2 : Int32} {x3 : Int32} {x4 : Int32} {x5 : Int32} {xs0 : Int32} : wp Ln xs 69 29 [.ref 61, .ref 2, .int x2, .int x3, .int x4, .int x5] [.int xs0] (u, ml_h m lm) Φ = if xs0 = (nI 0) then wp Ln xs 69 35 [.ref 61, .ref 2, .int x2, .int x3, .int x4, .int x5] [] (u, ml_h m lm) Φ else wp Ln xs 69 32 [.ref 61, .ref 2, .int x2, .int x3, .int x4, .int x5] [] (u, ml_h m lm) Φ := wx_if xd69_29 rfl rfl (xs0 = (nI 0)) mb_eq
theorem x69_32 {x2 : Int32} {x3 : Int32} {x4 : Int32} {x5 : Int32} : wp Ln xs 69 32 [.ref 61, .ref 2, .int x2, .int x3, .int x4, .int x5] [] (u, ml_h m lm) Φ = wp Ln xs 69 35 [.ref 61, .ref 2, .int x2, .int x3, .int (x4 + nI 1), .int x5] [] (u, ml_h m lm) Φ := wp_same (L' := [.ref 61, .ref 2, .int x2, .int x3, .int (x4 + nI 1), .int x5]) xd69_32 (Or.inr rfl) rfl
theorem x69_35 {x2 : Int32} {x3 : Int32} {x4 : Int32} {x5 : Int32} : wp Ln xs 69 35 [.ref 61, .ref 2, .int x2, .int x3, .int x4, .int x5] [] (u, ml_h m lm) Φ = wp Ln xs 69 6 [.ref 61, .ref 2, .int x2, .int x3, .int x4, .int (x5 + nI 1)] [] (u, ml_h m lm) Φ := (wp_same (L' := [.ref 61, .ref 2, .int x2, .int x3, .int x4, .int (x5 + nI 1)]) xd69_35 (Or.inr rfl) rfl).trans (wx_goto xd69_38 rfl)
theorem x69_41 {x2 : Int32} {x3 : Int32} {x4 : Int32} {x5 : Int32} : wp Ln xs 69 41 [.ref 61, .ref 2, .int x2, .int x3, .int x4, .int x5] [] (u, ml_h m lm) Φ = Φ (.inl (some (.int x4))) (u, ml_h m lm) := (wp_same xd69_41 (Or.inr rfl) rfl).trans (wp_fin (v := some (.int x4)) xd69_43 (Or.inr rfl) rfl (mj_fin_i rfl))
end MXd
