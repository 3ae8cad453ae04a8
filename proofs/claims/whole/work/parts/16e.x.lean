/-! ===== an equation for each straight piece of a method ===== -/
section MXe
variable {Ln : Nat} {xs : Nat → Int32} {u : mj_U} {m : ml_M} {lm : ml_J} {Φ : mj_R → mj_W → Prop}
/- PickedForms$Matching.firstHit -/
theorem xd70_0 : decode (mj_b 70) 0 = .ok (.iconst 0, 1) := by decide +kernel
theorem xd70_1 : decode (mj_b 70) 1 = .ok (.istore 4, 2) := by decide +kernel
theorem xd70_3 : decode (mj_b 70) 3 = .ok (.iload 4, 2) := by decide +kernel
theorem xd70_5 : decode (mj_b 70) 5 = .ok (.aload_n 1, 1) := by decide +kernel
theorem xd70_6 : decode (mj_b 70) 6 = .ok (.getfield 55, 3) := by decide +kernel
theorem xd70_9 : decode (mj_b 70) 9 = .ok (.if_icmp .ge 29, 3) := by decide +kernel
theorem xd70_12 : decode (mj_b 70) 12 = .ok (.aload_n 1, 1) := by decide +kernel
theorem xd70_13 : decode (mj_b 70) 13 = .ok (.getfield 34, 3) := by decide +kernel
theorem xd70_16 : decode (mj_b 70) 16 = .ok (.iload 4, 2) := by decide +kernel
theorem xd70_18 : decode (mj_b 70) 18 = .ok (.invokestatic 71, 3) := by decide +kernel
theorem xd70_21 : decode (mj_b 70) 21 = .ok (.iload_n 2, 1) := by decide +kernel
theorem xd70_22 : decode (mj_b 70) 22 = .ok (.iload_n 3, 1) := by decide +kernel
theorem xd70_23 : decode (mj_b 70) 23 = .ok (.invokestatic 77, 3) := by decide +kernel
theorem xd70_26 : decode (mj_b 70) 26 = .ok (.ifCond .eq 6, 3) := by decide +kernel
theorem xd70_29 : decode (mj_b 70) 29 = .ok (.iload 4, 2) := by decide +kernel
theorem xd70_31 : decode (mj_b 70) 31 = .ok (.ireturn, 1) := by decide +kernel
theorem xd70_32 : decode (mj_b 70) 32 = .ok (.iinc 4 1, 3) := by decide +kernel
theorem xd70_35 : decode (mj_b 70) 35 = .ok (.goto (-32), 3) := by decide +kernel
theorem xd70_38 : decode (mj_b 70) 38 = .ok (.iconst (-1), 1) := by decide +kernel
theorem xd70_39 : decode (mj_b 70) 39 = .ok (.ireturn, 1) := by decide +kernel
theorem x70_0 {x2 : Int32} {x3 : Int32} : wp Ln xs 70 0 [.ref 61, .ref 2, .int x2, .int x3, mj_hole] [] (u, ml_h m lm) Φ = wp Ln xs 70 3 [.ref 61, .ref 2, .int x2, .int x3, .int (nI 0)] [] (u, ml_h m lm) Φ := (wp_same (S' := [.int (nI 0)]) xd70_0 (Or.inr rfl) rfl).trans (wp_same (L' := [.ref 61, .ref 2, .int x2, .int x3, .int (nI 0)]) xd70_1 (Or.inr rfl) rfl)
theorem x70_3 {x2 : Int32} {x3 : Int32} {x4 : Int32} : wp Ln xs 70 3 [.ref 61, .ref 2, .int x2, .int x3, .int x4] [] (u, ml_h m lm) Φ = if (m 2 5) ≤ x4 then wp Ln xs 70 38 [.ref 61, .ref 2, .int x2, .int x3, .int x4] [] (u, ml_h m lm) Φ else wp Ln xs 70 12 [.ref 61, .ref 2, .int x2, .int x3, .int x4] [] (u, ml_h m lm) Φ := (wp_same xd70_3 (Or.inr rfl) rfl).trans ((wp_same xd70_5 (Or.inr rfl) rfl).trans ((wm_geti xd70_6 rfl (show ml_L[2]? = _ from rfl) rfl (Nat.le_of_ble_eq_true rfl)).trans (wx_icmp xd70_9 rfl rfl ((m 2 5) ≤ x4) mb_ge)))
theorem x70_12 {x2 : Int32} {x3 : Int32} {x4 : Int32} : wp Ln xs 70 12 [.ref 61, .ref 2, .int x2, .int x3, .int x4] [] (u, ml_h m lm) Φ = wp Ln xs 13 0 [.ref 3, .int x4] [] (u, ml_h m lm) (mk Ln xs 70 18 [.ref 61, .ref 2, .int x2, .int x3, .int x4] [] Φ) := (wp_same xd70_12 (Or.inr rfl) rfl).trans ((wm_getr xd70_13 rfl (show ml_L[2]? = _ from rfl) rfl (Nat.le_of_ble_eq_true rfl)).trans ((wp_same xd70_16 (Or.inr rfl) rfl).trans (wm_cs (As := [.ref 3, .int x4]) (rest := []) xd70_18 rfl rfl (Nat.le_of_ble_eq_true rfl) (Nat.le_of_ble_eq_true rfl) (Nat.le_of_ble_eq_true rfl) (Nat.le_of_ble_eq_true rfl))))
theorem x70_21 {x2 : Int32} {x3 : Int32} {x4 : Int32} {xs0 : Int32} : wp Ln xs 70 21 [.ref 61, .ref 2, .int x2, .int x3, .int x4] [.int xs0] (u, ml_h m lm) Φ = wp Ln xs 66 0 [.int xs0, .int x2, .int x3] [] (u, ml_h m lm) (mk Ln xs 70 23 [.ref 61, .ref 2, .int x2, .int x3, .int x4] [] Φ) := (wp_same xd70_21 (Or.inr rfl) rfl).trans ((wp_same xd70_22 (Or.inr rfl) rfl).trans (wm_cs (As := [.int xs0, .int x2, .int x3]) (rest := []) xd70_23 rfl rfl (Nat.le_of_ble_eq_true rfl) (Nat.le_of_ble_eq_true rfl) (Nat.le_of_ble_eq_true rfl) (Nat.le_of_ble_eq_true rfl)))
theorem x70_26 {x2 : Int32} {x3 : Int32} {x4 : Int32} {xs0 : Int32} : wp Ln xs 70 26 [.ref 61, .ref 2, .int x2, .int x3, .int x4] [.int xs0] (u, ml_h m lm) Φ = if xs0 = (nI 0) then wp Ln xs 70 32 [.ref 61, .ref 2, .int x2, .int x3, .int x4] [] (u, ml_h m lm) Φ else wp Ln xs 70 29 [.ref 61, .ref 2, .int x2, .int x3, .int x4] [] (u, ml_h m lm) Φ := wx_if xd70_26 rfl rfl (xs0 = (nI 0)) mb_eq
theorem x70_29 {x2 : Int32} {x3 : Int32} {x4 : Int32} : wp Ln xs 70 29 [.ref 61, .ref 2, .int x2, .int x3, .int x4] [] (u, ml_h m lm) Φ = Φ (.inl (some (.int x4))) (u, ml_h m lm) := (wp_same xd70_29 (Or.inr rfl) rfl).trans (wp_fin (v := some (.int x4)) xd70_31 (Or.inr rfl) rfl (mj_fin_i rfl))
theorem x70_32 {x2 : Int32} {x3 : Int32} {x4 : Int32} : wp Ln xs 70 32 [.ref 61, .ref 2, .int x2, .int x3, .int x4] [] (u, ml_h m lm) Φ = wp Ln xs 70 3 [.ref 61, .ref 2, .int x2, .int x3, .int (x4 + nI 1)] [] (u, ml_h m lm) Φ := (wp_same (L' := [.ref 61, .ref 2, .int x2, .int x3, .int (x4 + nI 1)]) xd70_32 (Or.inr rfl) rfl).trans (wx_goto xd70_35 rfl)
theorem x70_38 {x2 : Int32} {x3 : Int32} {x4 : Int32} : wp Ln xs 70 38 [.ref 61, .ref 2, .int x2, .int x3, .int x4] [] (u, ml_h m lm) Φ = Φ (.inl (some (.int ((-1))))) (u, ml_h m lm) := (wp_same (S' := [.int ((-1))]) xd70_38 (Or.inr rfl) rfl).trans (wp_fin (v := some (.int ((-1)))) xd70_39 (Or.inr rfl) rfl (mj_fin_i rfl))
/- PickedForms.hashOfParting -/
theorem xd71_0 : decode (mj_b 71) 0 = .ok (.aload_n 0, 1) := by decide +kernel
theorem xd71_1 : decode (mj_b 71) 1 = .ok (.getfield 61, 3) := by decide +kernel
theorem xd71_4 : decode (mj_b 71) 4 = .ok (.aload_n 0, 1) := by decide +kernel
theorem xd71_5 : decode (mj_b 71) 5 = .ok (.getfield 12, 3) := by decide +kernel
theorem xd71_8 : decode (mj_b 71) 8 = .ok (.invokevirtual 305, 3) := by decide +kernel
theorem xd71_11 : decode (mj_b 71) 11 = .ok (.aload_n 0, 1) := by decide +kernel
theorem xd71_12 : decode (mj_b 71) 12 = .ok (.getfield 61, 3) := by decide +kernel
theorem xd71_15 : decode (mj_b 71) 15 = .ok (.aload_n 0, 1) := by decide +kernel
theorem xd71_16 : decode (mj_b 71) 16 = .ok (.getfield 12, 3) := by decide +kernel
theorem xd71_19 : decode (mj_b 71) 19 = .ok (.invokevirtual 308, 3) := by decide +kernel
theorem xd71_22 : decode (mj_b 71) 22 = .ok (.istore_n 3, 1) := by decide +kernel
theorem xd71_23 : decode (mj_b 71) 23 = .ok (.aload_n 0, 1) := by decide +kernel
theorem xd71_24 : decode (mj_b 71) 24 = .ok (.getfield 61, 3) := by decide +kernel
theorem xd71_27 : decode (mj_b 71) 27 = .ok (.aload_n 0, 1) := by decide +kernel
theorem xd71_28 : decode (mj_b 71) 28 = .ok (.getfield 12, 3) := by decide +kernel
theorem xd71_31 : decode (mj_b 71) 31 = .ok (.invokevirtual 311, 3) := by decide +kernel
theorem xd71_34 : decode (mj_b 71) 34 = .ok (.istore 4, 2) := by decide +kernel
theorem xd71_36 : decode (mj_b 71) 36 = .ok (.lload_n 1, 1) := by decide +kernel
theorem xd71_37 : decode (mj_b 71) 37 = .ok (.iload_n 3, 1) := by decide +kernel
theorem xd71_38 : decode (mj_b 71) 38 = .ok (.i2l, 1) := by decide +kernel
theorem xd71_39 : decode (mj_b 71) 39 = .ok (.invokestatic 321, 3) := by decide +kernel
theorem xd71_42 : decode (mj_b 71) 42 = .ok (.lstore 5, 2) := by decide +kernel
theorem xd71_44 : decode (mj_b 71) 44 = .ok (.lload 5, 2) := by decide +kernel
theorem xd71_46 : decode (mj_b 71) 46 = .ok (.aload_n 0, 1) := by decide +kernel
theorem xd71_47 : decode (mj_b 71) 47 = .ok (.getfield 61, 3) := by decide +kernel
theorem xd71_50 : decode (mj_b 71) 50 = .ok (.aload_n 0, 1) := by decide +kernel
theorem xd71_51 : decode (mj_b 71) 51 = .ok (.getfield 12, 3) := by decide +kernel
theorem xd71_54 : decode (mj_b 71) 54 = .ok (.invokevirtual 301, 3) := by decide +kernel
theorem xd71_57 : decode (mj_b 71) 57 = .ok (.i2l, 1) := by decide +kernel
theorem xd71_58 : decode (mj_b 71) 58 = .ok (.invokestatic 321, 3) := by decide +kernel
theorem xd71_61 : decode (mj_b 71) 61 = .ok (.lstore 5, 2) := by decide +kernel
theorem xd71_63 : decode (mj_b 71) 63 = .ok (.lload 5, 2) := by decide +kernel
theorem xd71_65 : decode (mj_b 71) 65 = .ok (.iload 4, 2) := by decide +kernel
theorem xd71_67 : decode (mj_b 71) 67 = .ok (.i2l, 1) := by decide +kernel
theorem xd71_68 : decode (mj_b 71) 68 = .ok (.invokestatic 321, 3) := by decide +kernel
theorem xd71_71 : decode (mj_b 71) 71 = .ok (.lreturn, 1) := by decide +kernel
theorem x71_0 {y1 : Int64} : wp Ln xs 71 0 [.ref 1, .long y1, mj_hole, mj_hole, mj_hole, mj_hole, mj_hole] [] (u, ml_h m lm) Φ = wp Ln xs 72 0 [.ref 64, .ref 2, mj_hole, mj_hole, mj_hole, mj_hole] [] (u, ml_h m lm) (mk Ln xs 71 8 [.ref 1, .long y1, mj_hole, mj_hole, mj_hole, mj_hole, mj_hole] [] Φ) := (wp_same xd71_0 (Or.inr rfl) rfl).trans ((wm_getr xd71_1 rfl (show ml_L[1]? = _ from rfl) rfl (Nat.le_of_ble_eq_true rfl)).trans ((wp_same xd71_4 (Or.inr rfl) rfl).trans ((wm_getr xd71_5 rfl (show ml_L[1]? = _ from rfl) rfl (Nat.le_of_ble_eq_true rfl)).trans (wm_cv (As := [.ref 2]) (rest := []) xd71_8 rfl rfl (show ml_L[64]? = _ from rfl) (Nat.le_of_ble_eq_true rfl) (Nat.le_of_ble_eq_true rfl) (Nat.le_of_ble_eq_true rfl) (Nat.le_of_ble_eq_true rfl)))))
theorem x71_11 {y1 : Int64} : wp Ln xs 71 11 [.ref 1, .long y1, mj_hole, mj_hole, mj_hole, mj_hole, mj_hole] [] (u, ml_h m lm) Φ = wp Ln xs 76 0 [.ref 64, .ref 2] [] (u, ml_h m lm) (mk Ln xs 71 19 [.ref 1, .long y1, mj_hole, mj_hole, mj_hole, mj_hole, mj_hole] [] Φ) := (wp_same xd71_11 (Or.inr rfl) rfl).trans ((wm_getr xd71_12 rfl (show ml_L[1]? = _ from rfl) rfl (Nat.le_of_ble_eq_true rfl)).trans ((wp_same xd71_15 (Or.inr rfl) rfl).trans ((wm_getr xd71_16 rfl (show ml_L[1]? = _ from rfl) rfl (Nat.le_of_ble_eq_true rfl)).trans (wm_cv (As := [.ref 2]) (rest := []) xd71_19 rfl rfl (show ml_L[64]? = _ from rfl) (Nat.le_of_ble_eq_true rfl) (Nat.le_of_ble_eq_true rfl) (Nat.le_of_ble_eq_true rfl) (Nat.le_of_ble_eq_true rfl)))))
theorem x71_22 {y1 : Int64} {xs0 : Int32} : wp Ln xs 71 22 [.ref 1, .long y1, mj_hole, mj_hole, mj_hole, mj_hole, mj_hole] [.int xs0] (u, ml_h m lm) Φ = wp Ln xs 77 0 [.ref 64, .ref 2] [] (u, ml_h m lm) (mk Ln xs 71 31 [.ref 1, .long y1, mj_hole, .int xs0, mj_hole, mj_hole, mj_hole] [] Φ) := (wp_same (L' := [.ref 1, .long y1, mj_hole, .int xs0, mj_hole, mj_hole, mj_hole]) xd71_22 (Or.inr rfl) rfl).trans ((wp_same xd71_23 (Or.inr rfl) rfl).trans ((wm_getr xd71_24 rfl (show ml_L[1]? = _ from rfl) rfl (Nat.le_of_ble_eq_true rfl)).trans ((wp_same xd71_27 (Or.inr rfl) rfl).trans ((wm_getr xd71_28 rfl (show ml_L[1]? = _ from rfl) rfl (Nat.le_of_ble_eq_true rfl)).trans (wm_cv (As := [.ref 2]) (rest := []) xd71_31 rfl rfl (show ml_L[64]? = _ from rfl) (Nat.le_of_ble_eq_true rfl) (Nat.le_of_ble_eq_true rfl) (Nat.le_of_ble_eq_true rfl) (Nat.le_of_ble_eq_true rfl))))))
theorem x71_34 {y1 : Int64} {x3 : Int32} {xs0 : Int32} : wp Ln xs 71 34 [.ref 1, .long y1, mj_hole, .int x3, mj_hole, mj_hole, mj_hole] [.int xs0] (u, ml_h m lm) Φ = wp Ln xs 40 0 [.long y1, mj_hole, .long x3.toInt64, mj_hole] [] (u, ml_h m lm) (mk Ln xs 71 39 [.ref 1, .long y1, mj_hole, .int x3, .int xs0, mj_hole, mj_hole] [] Φ) := (wp_same (L' := [.ref 1, .long y1, mj_hole, .int x3, .int xs0, mj_hole, mj_hole]) xd71_34 (Or.inr rfl) rfl).trans ((wp_same xd71_36 (Or.inr rfl) rfl).trans ((wp_same xd71_37 (Or.inr rfl) rfl).trans ((wp_same xd71_38 (Or.inr rfl) rfl).trans (wm_cs (As := [.long y1, .long x3.toInt64]) (rest := []) xd71_39 rfl rfl (Nat.le_of_ble_eq_true rfl) (Nat.le_of_ble_eq_true rfl) (Nat.le_of_ble_eq_true rfl) (Nat.le_of_ble_eq_true rfl)))))
theorem x71_42 {y1 : Int64} {x3 : Int32} {x4 : Int32} {ys0 : Int64} : wp Ln xs 71 42 [.ref 1, .long y1, mj_hole, .int x3, .int x4, mj_hole, mj_hole] [.long ys0] (u, ml_h m lm) Φ = wp Ln xs 78 0 [.ref 64, .ref 2, mj_hole, mj_hole, mj_hole, mj_hole] [] (u, ml_h m lm) (mk Ln xs 71 54 [.ref 1, .long y1, mj_hole, .int x3, .int x4, .long ys0, mj_hole] [.long ys0] Φ) := (wp_same (L' := [.ref 1, .long y1, mj_hole, .int x3, .int x4, .long ys0, mj_hole]) xd71_42 (Or.inr rfl) rfl).trans ((wp_same xd71_44 (Or.inr rfl) rfl).trans ((wp_same xd71_46 (Or.inr rfl) rfl).trans ((wm_getr xd71_47 rfl (show ml_L[1]? = _ from rfl) rfl (Nat.le_of_ble_eq_true rfl)).trans ((wp_same xd71_50 (Or.inr rfl) rfl).trans ((wm_getr xd71_51 rfl (show ml_L[1]? = _ from rfl) rfl (Nat.le_of_ble_eq_true rfl)).trans (wm_cv (As := [.ref 2]) (rest := [.long ys0]) xd71_54 rfl rfl (show ml_L[64]? = _ from rfl) (Nat.le_of_ble_eq_true rfl) (Nat.le_of_ble_eq_true rfl) (Nat.le_of_ble_eq_true rfl) (Nat.le_of_ble_eq_true rfl)))))))
theorem x71_57 {y1 : Int64} {x3 : Int32} {x4 : Int32} {y5 : Int64} {xs0 : Int32} {ys1 : Int64} : wp Ln xs 71 57 [.ref 1, .long y1, mj_hole, .int x3, .int x4, .long y5, mj_hole] [.int xs0, .long ys1] (u, ml_h m lm) Φ = wp Ln xs 40 0 [.long ys1, mj_hole, .long xs0.toInt64, mj_hole] [] (u, ml_h m lm) (mk Ln xs 71 58 [.ref 1, .long y1, mj_hole, .int x3, .int x4, .long y5, mj_hole] [] Φ) := (wp_same xd71_57 (Or.inr rfl) rfl).trans (wm_cs (As := [.long ys1, .long xs0.toInt64]) (rest := []) xd71_58 rfl rfl (Nat.le_of_ble_eq_true rfl) (Nat.le_of_ble_eq_true rfl) (Nat.le_of_ble_eq_true rfl) (Nat.le_of_ble_eq_true rfl))
theorem x71_61 {y1 : Int64} {x3 : Int32} {x4 : Int32} {y5 : Int64} {ys0 : Int64} : wp Ln xs 71 61 [.ref 1, .long y1, mj_hole, .int x3, .int x4, .long y5, mj_hole] [.long ys0] (u, ml_h m lm) Φ = wp Ln xs 40 0 [.long ys0, mj_hole, .long x4.toInt64, mj_hole] [] (u, ml_h m lm) (mk Ln xs 71 68 [.ref 1, .long y1, mj_hole, .int x3, .int x4, .long ys0, mj_hole] [] Φ) := (wp_same (L' := [.ref 1, .long y1, mj_hole, .int x3, .int x4, .long ys0, mj_hole]) xd71_61 (Or.inr rfl) rfl).trans ((wp_same xd71_63 (Or.inr rfl) rfl).trans ((wp_same xd71_65 (Or.inr rfl) rfl).trans ((wp_same xd71_67 (Or.inr rfl) rfl).trans (wm_cs (As := [.long ys0, .long x4.toInt64]) (rest := []) xd71_68 rfl rfl (Nat.le_of_ble_eq_true rfl) (Nat.le_of_ble_eq_true rfl) (Nat.le_of_ble_eq_true rfl) (Nat.le_of_ble_eq_true rfl)))))
theorem x71_71 {y1 : Int64} {x3 : Int32} {x4 : Int32} {y5 : Int64} {ys0 : Int64} : wp Ln xs 71 71 [.ref 1, .long y1, mj_hole, .int x3, .int x4, .long y5, mj_hole] [.long ys0] (u, ml_h m lm) Φ = Φ (.inl (some (.long ys0))) (u, ml_h m lm) := wp_fin (v := some (.long ys0)) xd71_71 (Or.inr rfl) rfl rfl
/- PickedForms$Parting.readFromFirst -/
theorem xd72_0 : decode (mj_b 72) 0 = .ok (.aload_n 1, 1) := by decide +kernel
theorem xd72_1 : decode (mj_b 72) 1 = .ok (.iconst 2, 1) := by decide +kernel
theorem xd72_2 : decode (mj_b 72) 2 = .ok (.invokevirtual 25, 3) := by decide +kernel
theorem xd72_5 : decode (mj_b 72) 5 = .ok (.istore_n 2, 1) := by decide +kernel
theorem xd72_6 : decode (mj_b 72) 6 = .ok (.aload_n 0, 1) := by decide +kernel
theorem xd72_7 : decode (mj_b 72) 7 = .ok (.iconst 0, 1) := by decide +kernel
theorem xd72_8 : decode (mj_b 72) 8 = .ok (.aload_n 1, 1) := by decide +kernel
theorem xd72_9 : decode (mj_b 72) 9 = .ok (.getfield 31, 3) := by decide +kernel
theorem xd72_12 : decode (mj_b 72) 12 = .ok (.invokevirtual 35, 3) := by decide +kernel
theorem xd72_15 : decode (mj_b 72) 15 = .ok (.iconst 0, 1) := by decide +kernel
theorem xd72_16 : decode (mj_b 72) 16 = .ok (.istore_n 3, 1) := by decide +kernel
theorem xd72_17 : decode (mj_b 72) 17 = .ok (.iload_n 3, 1) := by decide +kernel
theorem xd72_18 : decode (mj_b 72) 18 = .ok (.aload_n 1, 1) := by decide +kernel
theorem xd72_19 : decode (mj_b 72) 19 = .ok (.getfield 31, 3) := by decide +kernel
theorem xd72_22 : decode (mj_b 72) 22 = .ok (.if_icmp .ge 97, 3) := by decide +kernel
theorem xd72_25 : decode (mj_b 72) 25 = .ok (.bipush 16, 2) := by decide +kernel
theorem xd72_27 : decode (mj_b 72) 27 = .ok (.aload_n 1, 1) := by decide +kernel
theorem xd72_28 : decode (mj_b 72) 28 = .ok (.getfield 31, 3) := by decide +kernel
theorem xd72_31 : decode (mj_b 72) 31 = .ok (.iload_n 3, 1) := by decide +kernel
theorem xd72_32 : decode (mj_b 72) 32 = .ok (.isub, 1) := by decide +kernel
theorem xd72_33 : decode (mj_b 72) 33 = .ok (.invokestatic 39, 3) := by decide +kernel
theorem xd72_36 : decode (mj_b 72) 36 = .ok (.istore 4, 2) := by decide +kernel
theorem xd72_38 : decode (mj_b 72) 38 = .ok (.aload_n 0, 1) := by decide +kernel
theorem xd72_39 : decode (mj_b 72) 39 = .ok (.getfield 12, 3) := by decide +kernel
theorem xd72_42 : decode (mj_b 72) 42 = .ok (.invokevirtual 45, 3) := by decide +kernel
theorem xd72_45 : decode (mj_b 72) 45 = .ok (.iconst 1, 1) := by decide +kernel
theorem xd72_46 : decode (mj_b 72) 46 = .ok (.istore 5, 2) := by decide +kernel
theorem xd72_48 : decode (mj_b 72) 48 = .ok (.iload 5, 2) := by decide +kernel
theorem xd72_50 : decode (mj_b 72) 50 = .ok (.iload 4, 2) := by decide +kernel
theorem xd72_52 : decode (mj_b 72) 52 = .ok (.if_icmp .gt 61, 3) := by decide +kernel
theorem xd72_55 : decode (mj_b 72) 55 = .ok (.aload_n 0, 1) := by decide +kernel
theorem xd72_56 : decode (mj_b 72) 56 = .ok (.getfield 12, 3) := by decide +kernel
theorem xd72_59 : decode (mj_b 72) 59 = .ok (.aload_n 1, 1) := by decide +kernel
theorem xd72_60 : decode (mj_b 72) 60 = .ok (.getfield 48, 3) := by decide +kernel
theorem xd72_63 : decode (mj_b 72) 63 = .ok (.iload_n 3, 1) := by decide +kernel
theorem xd72_64 : decode (mj_b 72) 64 = .ok (.iload 5, 2) := by decide +kernel
theorem xd72_66 : decode (mj_b 72) 66 = .ok (.iadd, 1) := by decide +kernel
theorem xd72_67 : decode (mj_b 72) 67 = .ok (.iconst 1, 1) := by decide +kernel
theorem xd72_68 : decode (mj_b 72) 68 = .ok (.isub, 1) := by decide +kernel
theorem xd72_69 : decode (mj_b 72) 69 = .ok (.invokestatic 51, 3) := by decide +kernel
theorem xd72_72 : decode (mj_b 72) 72 = .ok (.invokevirtual 57, 3) := by decide +kernel
theorem xd72_75 : decode (mj_b 72) 75 = .ok (.aload_n 0, 1) := by decide +kernel
theorem xd72_76 : decode (mj_b 72) 76 = .ok (.iload_n 3, 1) := by decide +kernel
theorem xd72_77 : decode (mj_b 72) 77 = .ok (.iload 5, 2) := by decide +kernel
theorem xd72_79 : decode (mj_b 72) 79 = .ok (.iadd, 1) := by decide +kernel
theorem xd72_80 : decode (mj_b 72) 80 = .ok (.aload_n 0, 1) := by decide +kernel
theorem xd72_81 : decode (mj_b 72) 81 = .ok (.getfield 18, 3) := by decide +kernel
theorem xd72_84 : decode (mj_b 72) 84 = .ok (.iload_n 3, 1) := by decide +kernel
theorem xd72_85 : decode (mj_b 72) 85 = .ok (.invokestatic 51, 3) := by decide +kernel
theorem xd72_88 : decode (mj_b 72) 88 = .ok (.aload_n 0, 1) := by decide +kernel
theorem xd72_89 : decode (mj_b 72) 89 = .ok (.iload_n 2, 1) := by decide +kernel
theorem xd72_90 : decode (mj_b 72) 90 = .ok (.invokevirtual 61, 3) := by decide +kernel
theorem xd72_93 : decode (mj_b 72) 93 = .ok (.iadd, 1) := by decide +kernel
theorem xd72_94 : decode (mj_b 72) 94 = .ok (.aload_n 0, 1) := by decide +kernel
theorem xd72_95 : decode (mj_b 72) 95 = .ok (.getfield 22, 3) := by decide +kernel
theorem xd72_98 : decode (mj_b 72) 98 = .ok (.iload_n 3, 1) := by decide +kernel
theorem xd72_99 : decode (mj_b 72) 99 = .ok (.invokestatic 51, 3) := by decide +kernel
theorem xd72_102 : decode (mj_b 72) 102 = .ok (.iconst 1, 1) := by decide +kernel
theorem xd72_103 : decode (mj_b 72) 103 = .ok (.iadd, 1) := by decide +kernel
theorem xd72_104 : decode (mj_b 72) 104 = .ok (.invokevirtual 64, 3) := by decide +kernel
theorem xd72_107 : decode (mj_b 72) 107 = .ok (.iinc 5 1, 3) := by decide +kernel
theorem xd72_110 : decode (mj_b 72) 110 = .ok (.goto (-62), 3) := by decide +kernel
theorem xd72_113 : decode (mj_b 72) 113 = .ok (.iinc 3 1, 3) := by decide +kernel
theorem xd72_116 : decode (mj_b 72) 116 = .ok (.goto (-99), 3) := by decide +kernel
theorem xd72_119 : decode (mj_b 72) 119 = .ok (.return_, 1) := by decide +kernel
theorem x72_0 : wp Ln xs 72 0 [.ref 64, .ref 2, mj_hole, mj_hole, mj_hole, mj_hole] [] (u, ml_h m lm) Φ = wp Ln xs 41 0 [.ref 2, .int (nI 2)] [] (u, ml_h m lm) (mk Ln xs 72 2 [.ref 64, .ref 2, mj_hole, mj_hole, mj_hole, mj_hole] [] Φ) := (wp_same xd72_0 (Or.inr rfl) rfl).trans ((wp_same (S' := [.int (nI 2), .ref 2]) xd72_1 (Or.inr rfl) rfl).trans (wm_cv (As := [.int (nI 2)]) (rest := []) xd72_2 rfl rfl (show ml_L[2]? = _ from rfl) (Nat.le_of_ble_eq_true rfl) (Nat.le_of_ble_eq_true rfl) (Nat.le_of_ble_eq_true rfl) (Nat.le_of_ble_eq_true rfl)))
theorem x72_5 {xs0 : Int32} : wp Ln xs 72 5 [.ref 64, .ref 2, mj_hole, mj_hole, mj_hole, mj_hole] [.int xs0] (u, ml_h m lm) Φ = wp Ln xs 73 0 [.ref 64, .int (nI 0), .int (m 2 5), mj_hole] [] (u, ml_h m lm) (mk Ln xs 72 12 [.ref 64, .ref 2, .int xs0, mj_hole, mj_hole, mj_hole] [] Φ) := (wp_same (L' := [.ref 64, .ref 2, .int xs0, mj_hole, mj_hole, mj_hole]) xd72_5 (Or.inr rfl) rfl).trans ((wp_same xd72_6 (Or.inr rfl) rfl).trans ((wp_same (S' := [.int (nI 0), .ref 64]) xd72_7 (Or.inr rfl) rfl).trans ((wp_same xd72_8 (Or.inr rfl) rfl).trans ((wm_geti xd72_9 rfl (show ml_L[2]? = _ from rfl) rfl (Nat.le_of_ble_eq_true rfl)).trans (wm_cv (As := [.int (nI 0), .int (m 2 5)]) (rest := []) xd72_12 rfl rfl (show ml_L[64]? = _ from rfl) (Nat.le_of_ble_eq_true rfl) (Nat.le_of_ble_eq_true rfl) (Nat.le_of_ble_eq_true rfl) (Nat.le_of_ble_eq_true rfl))))))
theorem x72_15 {x2 : Int32} : wp Ln xs 72 15 [.ref 64, .ref 2, .int x2, mj_hole, mj_hole, mj_hole] [] (u, ml_h m lm) Φ = wp Ln xs 72 17 [.ref 64, .ref 2, .int x2, .int (nI 0), mj_hole, mj_hole] [] (u, ml_h m lm) Φ := (wp_same (S' := [.int (nI 0)]) xd72_15 (Or.inr rfl) rfl).trans (wp_same (L' := [.ref 64, .ref 2, .int x2, .int (nI 0), mj_hole, mj_hole]) xd72_16 (Or.inr rfl) rfl)
theorem x72_17 {x2 : Int32} {x3 : Int32} {v4 : Value} {v5 : Value} : wp Ln xs 72 17 [.ref 64, .ref 2, .int x2, .int x3, v4, v5] [] (u, ml_h m lm) Φ = if (m 2 5) ≤ x3 then wp Ln xs 72 119 [.ref 64, .ref 2, .int x2, .int x3, v4, v5] [] (u, ml_h m lm) Φ else wp Ln xs 72 25 [.ref 64, .ref 2, .int x2, .int x3, v4, v5] [] (u, ml_h m lm) Φ := (wp_same xd72_17 (Or.inr rfl) rfl).trans ((wp_same xd72_18 (Or.inr rfl) rfl).trans ((wm_geti xd72_19 rfl (show ml_L[2]? = _ from rfl) rfl (Nat.le_of_ble_eq_true rfl)).trans (wx_icmp xd72_22 rfl rfl ((m 2 5) ≤ x3) mb_ge)))
theorem x72_25 {x2 : Int32} {x3 : Int32} {v4 : Value} {v5 : Value} : wp Ln xs 72 25 [.ref 64, .ref 2, .int x2, .int x3, v4, v5] [] (u, ml_h m lm) Φ = wp Ln xs 32 0 [.ref 65] [] (u, ml_h m lm) (mk Ln xs 72 42 [.ref 64, .ref 2, .int x2, .int x3, .int (if ((m 2 5) - x3) < (nI 16) then (m 2 5) - x3 else nI 16), v5] [] Φ) := (wp_same (S' := [.int (nI 16)]) xd72_25 (Or.inr rfl) rfl).trans ((wp_same xd72_27 (Or.inr rfl) rfl).trans ((wm_geti xd72_28 rfl (show ml_L[2]? = _ from rfl) rfl (Nat.le_of_ble_eq_true rfl)).trans ((wp_same xd72_31 (Or.inr rfl) rfl).trans ((wp_same xd72_32 (Or.inr rfl) rfl).trans ((wm_min xd72_33 rfl (Nat.le_of_ble_eq_true rfl) (Nat.le_of_ble_eq_true rfl) (Nat.le_of_ble_eq_true rfl)).trans ((wp_same (L' := [.ref 64, .ref 2, .int x2, .int x3, .int (if ((m 2 5) - x3) < (nI 16) then (m 2 5) - x3 else nI 16), v5]) xd72_36 (Or.inr rfl) rfl).trans ((wp_same xd72_38 (Or.inr rfl) rfl).trans ((wm_getr xd72_39 rfl (show ml_L[64]? = _ from rfl) rfl (Nat.le_of_ble_eq_true rfl)).trans (wm_cv (As := []) (rest := []) xd72_42 rfl rfl (show ml_L[65]? = _ from rfl) (Nat.le_of_ble_eq_true rfl) (Nat.le_of_ble_eq_true rfl) (Nat.le_of_ble_eq_true rfl) (Nat.le_of_ble_eq_true rfl))))))))))
theorem x72_45 {x2 : Int32} {x3 : Int32} {x4 : Int32} {v5 : Value} : wp Ln xs 72 45 [.ref 64, .ref 2, .int x2, .int x3, .int x4, v5] [] (u, ml_h m lm) Φ = wp Ln xs 72 48 [.ref 64, .ref 2, .int x2, .int x3, .int x4, .int (nI 1)] [] (u, ml_h m lm) Φ := (wp_same (S' := [.int (nI 1)]) xd72_45 (Or.inr rfl) rfl).trans (wp_same (L' := [.ref 64, .ref 2, .int x2, .int x3, .int x4, .int (nI 1)]) xd72_46 (Or.inr rfl) rfl)
theorem x72_48 {x2 : Int32} {x3 : Int32} {x4 : Int32} {x5 : Int32} : wp Ln xs 72 48 [.ref 64, .ref 2, .int x2, .int x3, .int x4, .int x5] [] (u, ml_h m lm) Φ = if x4 < x5 then wp Ln xs 72 113 [.ref 64, .ref 2, .int x2, .int x3, .int x4, .int x5] [] (u, ml_h m lm) Φ else wp Ln xs 72 55 [.ref 64, .ref 2, .int x2, .int x3, .int x4, .int x5] [] (u, ml_h m lm) Φ := (wp_same xd72_48 (Or.inr rfl) rfl).trans ((wp_same xd72_50 (Or.inr rfl) rfl).trans (wx_icmp xd72_52 rfl rfl (x4 < x5) mb_gt))
theorem x72_55 {x2 : Int32} {x3 : Int32} {x4 : Int32} {x5 : Int32} : wp Ln xs 72 55 [.ref 64, .ref 2, .int x2, .int x3, .int x4, .int x5] [] (u, ml_h m lm) Φ = wp Ln xs 13 0 [.ref 3, .int ((x3 + x5) - (nI 1))] [] (u, ml_h m lm) (mk Ln xs 72 69 [.ref 64, .ref 2, .int x2, .int x3, .int x4, .int x5] [.ref 65] Φ) := (wp_same xd72_55 (Or.inr rfl) rfl).trans ((wm_getr xd72_56 rfl (show ml_L[64]? = _ from rfl) rfl (Nat.le_of_ble_eq_true rfl)).trans ((wp_same xd72_59 (Or.inr rfl) rfl).trans ((wm_getr xd72_60 rfl (show ml_L[2]? = _ from rfl) rfl (Nat.le_of_ble_eq_true rfl)).trans ((wp_same xd72_63 (Or.inr rfl) rfl).trans ((wp_same xd72_64 (Or.inr rfl) rfl).trans ((wp_same xd72_66 (Or.inr rfl) rfl).trans ((wp_same (S' := [.int (nI 1), .int (x3 + x5), .ref 3, .ref 65]) xd72_67 (Or.inr rfl) rfl).trans ((wp_same xd72_68 (Or.inr rfl) rfl).trans (wm_cs (As := [.ref 3, .int ((x3 + x5) - (nI 1))]) (rest := [.ref 65]) xd72_69 rfl rfl (Nat.le_of_ble_eq_true rfl) (Nat.le_of_ble_eq_true rfl) (Nat.le_of_ble_eq_true rfl) (Nat.le_of_ble_eq_true rfl))))))))))
theorem x72_72 {x2 : Int32} {x3 : Int32} {x4 : Int32} {x5 : Int32} {xs0 : Int32} : wp Ln xs 72 72 [.ref 64, .ref 2, .int x2, .int x3, .int x4, .int x5] [.int xs0, .ref 65] (u, ml_h m lm) Φ = wp Ln xs 33 0 [.ref 65, .int xs0] [] (u, ml_h m lm) (mk Ln xs 72 72 [.ref 64, .ref 2, .int x2, .int x3, .int x4, .int x5] [] Φ) := wm_cv (As := [.int xs0]) (rest := []) xd72_72 rfl rfl (show ml_L[65]? = _ from rfl) (Nat.le_of_ble_eq_true rfl) (Nat.le_of_ble_eq_true rfl) (Nat.le_of_ble_eq_true rfl) (Nat.le_of_ble_eq_true rfl)
theorem x72_75 {x2 : Int32} {x3 : Int32} {x4 : Int32} {x5 : Int32} : wp Ln xs 72 75 [.ref 64, .ref 2, .int x2, .int x3, .int x4, .int x5] [] (u, ml_h m lm) Φ = wp Ln xs 13 0 [.ref 67, .int x3] [] (u, ml_h m lm) (mk Ln xs 72 85 [.ref 64, .ref 2, .int x2, .int x3, .int x4, .int x5] [.int (x3 + x5), .ref 64] Φ) := (wp_same xd72_75 (Or.inr rfl) rfl).trans ((wp_same xd72_76 (Or.inr rfl) rfl).trans ((wp_same xd72_77 (Or.inr rfl) rfl).trans ((wp_same xd72_79 (Or.inr rfl) rfl).trans ((wp_same xd72_80 (Or.inr rfl) rfl).trans ((wm_getr xd72_81 rfl (show ml_L[64]? = _ from rfl) rfl (Nat.le_of_ble_eq_true rfl)).trans ((wp_same xd72_84 (Or.inr rfl) rfl).trans (wm_cs (As := [.ref 67, .int x3]) (rest := [.int (x3 + x5), .ref 64]) xd72_85 rfl rfl (Nat.le_of_ble_eq_true rfl) (Nat.le_of_ble_eq_true rfl) (Nat.le_of_ble_eq_true rfl) (Nat.le_of_ble_eq_true rfl))))))))
theorem x72_88 {x2 : Int32} {x3 : Int32} {x4 : Int32} {x5 : Int32} {xs0 : Int32} {xs1 : Int32} : wp Ln xs 72 88 [.ref 64, .ref 2, .int x2, .int x3, .int x4, .int x5] [.int xs0, .int xs1, .ref 64] (u, ml_h m lm) Φ = wp Ln xs 74 0 [.ref 64, .int x2] [] (u, ml_h m lm) (mk Ln xs 72 90 [.ref 64, .ref 2, .int x2, .int x3, .int x4, .int x5] [.int xs0, .int xs1, .ref 64] Φ) := (wp_same xd72_88 (Or.inr rfl) rfl).trans ((wp_same xd72_89 (Or.inr rfl) rfl).trans (wm_cv (As := [.int x2]) (rest := [.int xs0, .int xs1, .ref 64]) xd72_90 rfl rfl (show ml_L[64]? = _ from rfl) (Nat.le_of_ble_eq_true rfl) (Nat.le_of_ble_eq_true rfl) (Nat.le_of_ble_eq_true rfl) (Nat.le_of_ble_eq_true rfl)))
theorem x72_93 {x2 : Int32} {x3 : Int32} {x4 : Int32} {x5 : Int32} {xs0 : Int32} {xs1 : Int32} {xs2 : Int32} : wp Ln xs 72 93 [.ref 64, .ref 2, .int x2, .int x3, .int x4, .int x5] [.int xs0, .int xs1, .int xs2, .ref 64] (u, ml_h m lm) Φ = wp Ln xs 13 0 [.ref 68, .int x3] [] (u, ml_h m lm) (mk Ln xs 72 99 [.ref 64, .ref 2, .int x2, .int x3, .int x4, .int x5] [.int (xs1 + xs0), .int xs2, .ref 64] Φ) := (wp_same xd72_93 (Or.inr rfl) rfl).trans ((wp_same xd72_94 (Or.inr rfl) rfl).trans ((wm_getr xd72_95 rfl (show ml_L[64]? = _ from rfl) rfl (Nat.le_of_ble_eq_true rfl)).trans ((wp_same xd72_98 (Or.inr rfl) rfl).trans (wm_cs (As := [.ref 68, .int x3]) (rest := [.int (xs1 + xs0), .int xs2, .ref 64]) xd72_99 rfl rfl (Nat.le_of_ble_eq_true rfl) (Nat.le_of_ble_eq_true rfl) (Nat.le_of_ble_eq_true rfl) (Nat.le_of_ble_eq_true rfl)))))
theorem x72_102 {x2 : Int32} {x3 : Int32} {x4 : Int32} {x5 : Int32} {xs0 : Int32} {xs1 : Int32} {xs2 : Int32} : wp Ln xs 72 102 [.ref 64, .ref 2, .int x2, .int x3, .int x4, .int x5] [.int xs0, .int xs1, .int xs2, .ref 64] (u, ml_h m lm) Φ = wp Ln xs 75 0 [.ref 64, .int xs2, .int xs1, .int (xs0 + (nI 1)), mj_hole] [] (u, ml_h m lm) (mk Ln xs 72 104 [.ref 64, .ref 2, .int x2, .int x3, .int x4, .int x5] [] Φ) := (wp_same (S' := [.int (nI 1), .int xs0, .int xs1, .int xs2, .ref 64]) xd72_102 (Or.inr rfl) rfl).trans ((wp_same xd72_103 (Or.inr rfl) rfl).trans (wm_cv (As := [.int xs2, .int xs1, .int (xs0 + (nI 1))]) (rest := []) xd72_104 rfl rfl (show ml_L[64]? = _ from rfl) (Nat.le_of_ble_eq_true rfl) (Nat.le_of_ble_eq_true rfl) (Nat.le_of_ble_eq_true rfl) (Nat.le_of_ble_eq_true rfl)))
theorem x72_107 {x2 : Int32} {x3 : Int32} {x4 : Int32} {x5 : Int32} : wp Ln xs 72 107 [.ref 64, .ref 2, .int x2, .int x3, .int x4, .int x5] [] (u, ml_h m lm) Φ = wp Ln xs 72 48 [.ref 64, .ref 2, .int x2, .int x3, .int x4, .int (x5 + nI 1)] [] (u, ml_h m lm) Φ := (wp_same (L' := [.ref 64, .ref 2, .int x2, .int x3, .int x4, .int (x5 + nI 1)]) xd72_107 (Or.inr rfl) rfl).trans (wx_goto xd72_110 rfl)
theorem x72_113 {x2 : Int32} {x3 : Int32} {x4 : Int32} {x5 : Int32} : wp Ln xs 72 113 [.ref 64, .ref 2, .int x2, .int x3, .int x4, .int x5] [] (u, ml_h m lm) Φ = wp Ln xs 72 17 [.ref 64, .ref 2, .int x2, .int (x3 + nI 1), .int x4, .int x5] [] (u, ml_h m lm) Φ := (wp_same (L' := [.ref 64, .ref 2, .int x2, .int (x3 + nI 1), .int x4, .int x5]) xd72_113 (Or.inr rfl) rfl).trans (wx_goto xd72_116 rfl)
theorem x72_119 {x2 : Int32} {x3 : Int32} {v4 : Value} {v5 : Value} : wp Ln xs 72 119 [.ref 64, .ref 2, .int x2, .int x3, v4, v5] [] (u, ml_h m lm) Φ = Φ (.inl none) (u, ml_h m lm) := wp_fin (v := none) xd72_119 (Or.inr rfl) rfl rfl
/- PickedForms$Parting.forget -/
theorem xd73_0 : decode (mj_b 73) 0 = .ok (.iconst 0, 1) := by decide +kernel
theorem xd73_1 : decode (mj_b 73) 1 = .ok (.istore_n 3, 1) := by decide +kernel
theorem xd73_2 : decode (mj_b 73) 2 = .ok (.iload_n 3, 1) := by decide +kernel
theorem xd73_3 : decode (mj_b 73) 3 = .ok (.iload_n 2, 1) := by decide +kernel
theorem xd73_4 : decode (mj_b 73) 4 = .ok (.if_icmp .gt 28, 3) := by decide +kernel
theorem xd73_7 : decode (mj_b 73) 7 = .ok (.aload_n 0, 1) := by decide +kernel
theorem xd73_8 : decode (mj_b 73) 8 = .ok (.getfield 18, 3) := by decide +kernel
theorem xd73_11 : decode (mj_b 73) 11 = .ok (.iload_n 3, 1) := by decide +kernel
theorem xd73_12 : decode (mj_b 73) 12 = .ok (.ldc 68, 2) := by decide +kernel
theorem xd73_14 : decode (mj_b 73) 14 = .ok (.invokestatic 69, 3) := by decide +kernel
theorem xd73_17 : decode (mj_b 73) 17 = .ok (.aload_n 0, 1) := by decide +kernel
theorem xd73_18 : decode (mj_b 73) 18 = .ok (.getfield 22, 3) := by decide +kernel
theorem xd73_21 : decode (mj_b 73) 21 = .ok (.iload_n 3, 1) := by decide +kernel
theorem xd73_22 : decode (mj_b 73) 22 = .ok (.iconst 0, 1) := by decide +kernel
theorem xd73_23 : decode (mj_b 73) 23 = .ok (.invokestatic 69, 3) := by decide +kernel
theorem xd73_26 : decode (mj_b 73) 26 = .ok (.iinc 3 1, 3) := by decide +kernel
theorem xd73_29 : decode (mj_b 73) 29 = .ok (.goto (-27), 3) := by decide +kernel
theorem xd73_32 : decode (mj_b 73) 32 = .ok (.aload_n 0, 1) := by decide +kernel
theorem xd73_33 : decode (mj_b 73) 33 = .ok (.getfield 18, 3) := by decide +kernel
theorem xd73_36 : decode (mj_b 73) 36 = .ok (.iload_n 1, 1) := by decide +kernel
theorem xd73_37 : decode (mj_b 73) 37 = .ok (.iconst 0, 1) := by decide +kernel
theorem xd73_38 : decode (mj_b 73) 38 = .ok (.invokestatic 69, 3) := by decide +kernel
theorem xd73_41 : decode (mj_b 73) 41 = .ok (.return_, 1) := by decide +kernel
theorem x73_0 {x1 : Int32} {x2 : Int32} : wp Ln xs 73 0 [.ref 64, .int x1, .int x2, mj_hole] [] (u, ml_h m lm) Φ = wp Ln xs 73 2 [.ref 64, .int x1, .int x2, .int (nI 0)] [] (u, ml_h m lm) Φ := (wp_same (S' := [.int (nI 0)]) xd73_0 (Or.inr rfl) rfl).trans (wp_same (L' := [.ref 64, .int x1, .int x2, .int (nI 0)]) xd73_1 (Or.inr rfl) rfl)
theorem x73_2 {x1 : Int32} {x2 : Int32} {x3 : Int32} : wp Ln xs 73 2 [.ref 64, .int x1, .int x2, .int x3] [] (u, ml_h m lm) Φ = if x2 < x3 then wp Ln xs 73 32 [.ref 64, .int x1, .int x2, .int x3] [] (u, ml_h m lm) Φ else wp Ln xs 73 7 [.ref 64, .int x1, .int x2, .int x3] [] (u, ml_h m lm) Φ := (wp_same xd73_2 (Or.inr rfl) rfl).trans ((wp_same xd73_3 (Or.inr rfl) rfl).trans (wx_icmp xd73_4 rfl rfl (x2 < x3) mb_gt))
theorem x73_7 {x1 : Int32} {x2 : Int32} {x3 : Int32} : wp Ln xs 73 7 [.ref 64, .int x1, .int x2, .int x3] [] (u, ml_h m lm) Φ = wp Ln xs 55 0 [.ref 67, .int x3, .int (nI 1000000)] [] (u, ml_h m lm) (mk Ln xs 73 14 [.ref 64, .int x1, .int x2, .int x3] [] Φ) := (wp_same xd73_7 (Or.inr rfl) rfl).trans ((wm_getr xd73_8 rfl (show ml_L[64]? = _ from rfl) rfl (Nat.le_of_ble_eq_true rfl)).trans ((wp_same xd73_11 (Or.inr rfl) rfl).trans ((wm_ldc (v := .int (nI 1000000)) xd73_12 rfl rfl ⟨rfl, rfl⟩).trans (wm_cs (As := [.ref 67, .int x3, .int (nI 1000000)]) (rest := []) xd73_14 rfl rfl (Nat.le_of_ble_eq_true rfl) (Nat.le_of_ble_eq_true rfl) (Nat.le_of_ble_eq_true rfl) (Nat.le_of_ble_eq_true rfl)))))
theorem x73_17 {x1 : Int32} {x2 : Int32} {x3 : Int32} : wp Ln xs 73 17 [.ref 64, .int x1, .int x2, .int x3] [] (u, ml_h m lm) Φ = wp Ln xs 55 0 [.ref 68, .int x3, .int (nI 0)] [] (u, ml_h m lm) (mk Ln xs 73 23 [.ref 64, .int x1, .int x2, .int x3] [] Φ) := (wp_same xd73_17 (Or.inr rfl) rfl).trans ((wm_getr xd73_18 rfl (show ml_L[64]? = _ from rfl) rfl (Nat.le_of_ble_eq_true rfl)).trans ((wp_same xd73_21 (Or.inr rfl) rfl).trans ((wp_same (S' := [.int (nI 0), .int x3, .ref 68]) xd73_22 (Or.inr rfl) rfl).trans (wm_cs (As := [.ref 68, .int x3, .int (nI 0)]) (rest := []) xd73_23 rfl rfl (Nat.le_of_ble_eq_true rfl) (Nat.le_of_ble_eq_true rfl) (Nat.le_of_ble_eq_true rfl) (Nat.le_of_ble_eq_true rfl)))))
theorem x73_26 {x1 : Int32} {x2 : Int32} {x3 : Int32} : wp Ln xs 73 26 [.ref 64, .int x1, .int x2, .int x3] [] (u, ml_h m lm) Φ = wp Ln xs 73 2 [.ref 64, .int x1, .int x2, .int (x3 + nI 1)] [] (u, ml_h m lm) Φ := (wp_same (L' := [.ref 64, .int x1, .int x2, .int (x3 + nI 1)]) xd73_26 (Or.inr rfl) rfl).trans (wx_goto xd73_29 rfl)
theorem x73_32 {x1 : Int32} {x2 : Int32} {x3 : Int32} : wp Ln xs 73 32 [.ref 64, .int x1, .int x2, .int x3] [] (u, ml_h m lm) Φ = wp Ln xs 55 0 [.ref 67, .int x1, .int (nI 0)] [] (u, ml_h m lm) (mk Ln xs 73 38 [.ref 64, .int x1, .int x2, .int x3] [] Φ) := (wp_same xd73_32 (Or.inr rfl) rfl).trans ((wm_getr xd73_33 rfl (show ml_L[64]? = _ from rfl) rfl (Nat.le_of_ble_eq_true rfl)).trans ((wp_same xd73_36 (Or.inr rfl) rfl).trans ((wp_same (S' := [.int (nI 0), .int x1, .ref 67]) xd73_37 (Or.inr rfl) rfl).trans (wm_cs (As := [.ref 67, .int x1, .int (nI 0)]) (rest := []) xd73_38 rfl rfl (Nat.le_of_ble_eq_true rfl) (Nat.le_of_ble_eq_true rfl) (Nat.le_of_ble_eq_true rfl) (Nat.le_of_ble_eq_true rfl)))))
theorem x73_41 {x1 : Int32} {x2 : Int32} {x3 : Int32} : wp Ln xs 73 41 [.ref 64, .int x1, .int x2, .int x3] [] (u, ml_h m lm) Φ = Φ (.inl none) (u, ml_h m lm) := wp_fin (v := none) xd73_41 (Or.inr rfl) rfl rfl
/- PickedForms$Parting.blockBits -/
theorem xd74_0 : decode (mj_b 74) 0 = .ok (.bipush 7, 2) := by decide +kernel
theorem xd74_2 : decode (mj_b 74) 2 = .ok (.aload_n 0, 1) := by decide +kernel
theorem xd74_3 : decode (mj_b 74) 3 = .ok (.getfield 12, 3) := by decide +kernel
theorem xd74_6 : decode (mj_b 74) 6 = .ok (.aload_n 0, 1) := by decide +kernel
theorem xd74_7 : decode (mj_b 74) 7 = .ok (.getfield 12, 3) := by decide +kernel
theorem xd74_10 : decode (mj_b 74) 10 = .ok (.iload_n 1, 1) := by decide +kernel
theorem xd74_11 : decode (mj_b 74) 11 = .ok (.invokevirtual 73, 3) := by decide +kernel
theorem xd74_14 : decode (mj_b 74) 14 = .ok (.invokevirtual 76, 3) := by decide +kernel
theorem xd74_17 : decode (mj_b 74) 17 = .ok (.iadd, 1) := by decide +kernel
theorem xd74_18 : decode (mj_b 74) 18 = .ok (.ireturn, 1) := by decide +kernel
theorem x74_0 {x1 : Int32} : wp Ln xs 74 0 [.ref 64, .int x1] [] (u, ml_h m lm) Φ = wp Ln xs 50 0 [.ref 65, .int x1, mj_hole, mj_hole, mj_hole, mj_hole] [] (u, ml_h m lm) (mk Ln xs 74 11 [.ref 64, .int x1] [.ref 65, .int (nI 7)] Φ) := (wp_same (S' := [.int (nI 7)]) xd74_0 (Or.inr rfl) rfl).trans ((wp_same xd74_2 (Or.inr rfl) rfl).trans ((wm_getr xd74_3 rfl (show ml_L[64]? = _ from rfl) rfl (Nat.le_of_ble_eq_true rfl)).trans ((wp_same xd74_6 (Or.inr rfl) rfl).trans ((wm_getr xd74_7 rfl (show ml_L[64]? = _ from rfl) rfl (Nat.le_of_ble_eq_true rfl)).trans ((wp_same xd74_10 (Or.inr rfl) rfl).trans (wm_cv (As := [.int x1]) (rest := [.ref 65, .int (nI 7)]) xd74_11 rfl rfl (show ml_L[65]? = _ from rfl) (Nat.le_of_ble_eq_true rfl) (Nat.le_of_ble_eq_true rfl) (Nat.le_of_ble_eq_true rfl) (Nat.le_of_ble_eq_true rfl)))))))
theorem x74_14 {x1 : Int32} {xs0 : Int32} {xs2 : Int32} : wp Ln xs 74 14 [.ref 64, .int x1] [.int xs0, .ref 65, .int xs2] (u, ml_h m lm) Φ = wp Ln xs 37 0 [.ref 65, .int xs0] [] (u, ml_h m lm) (mk Ln xs 74 14 [.ref 64, .int x1] [.int xs2] Φ) := wm_cv (As := [.int xs0]) (rest := [.int xs2]) xd74_14 rfl rfl (show ml_L[65]? = _ from rfl) (Nat.le_of_ble_eq_true rfl) (Nat.le_of_ble_eq_true rfl) (Nat.le_of_ble_eq_true rfl) (Nat.le_of_ble_eq_true rfl)
theorem x74_17 {x1 : Int32} {xs0 : Int32} {xs1 : Int32} : wp Ln xs 74 17 [.ref 64, .int x1] [.int xs0, .int xs1] (u, ml_h m lm) Φ = Φ (.inl (some (.int (xs1 + xs0)))) (u, ml_h m lm) := (wp_same xd74_17 (Or.inr rfl) rfl).trans (wp_fin (v := some (.int (xs1 + xs0))) xd74_18 (Or.inr rfl) rfl (mj_fin_i rfl))
/- PickedForms$Parting.offer -/
theorem xd75_0 : decode (mj_b 75) 0 = .ok (.aload_n 0, 1) := by decide +kernel
theorem xd75_1 : decode (mj_b 75) 1 = .ok (.getfield 18, 3) := by decide +kernel
theorem xd75_4 : decode (mj_b 75) 4 = .ok (.iload_n 1, 1) := by decide +kernel
theorem xd75_5 : decode (mj_b 75) 5 = .ok (.invokestatic 51, 3) := by decide +kernel
theorem xd75_8 : decode (mj_b 75) 8 = .ok (.istore 4, 2) := by decide +kernel
theorem xd75_10 : decode (mj_b 75) 10 = .ok (.iload_n 2, 1) := by decide +kernel
theorem xd75_11 : decode (mj_b 75) 11 = .ok (.iload 4, 2) := by decide +kernel
theorem xd75_13 : decode (mj_b 75) 13 = .ok (.if_icmp .lt 21, 3) := by decide +kernel
theorem xd75_16 : decode (mj_b 75) 16 = .ok (.iload_n 2, 1) := by decide +kernel
theorem xd75_17 : decode (mj_b 75) 17 = .ok (.iload 4, 2) := by decide +kernel
theorem xd75_19 : decode (mj_b 75) 19 = .ok (.if_icmp .ne 33, 3) := by decide +kernel
theorem xd75_22 : decode (mj_b 75) 22 = .ok (.iload_n 3, 1) := by decide +kernel
theorem xd75_23 : decode (mj_b 75) 23 = .ok (.aload_n 0, 1) := by decide +kernel
theorem xd75_24 : decode (mj_b 75) 24 = .ok (.getfield 22, 3) := by decide +kernel
theorem xd75_27 : decode (mj_b 75) 27 = .ok (.iload_n 1, 1) := by decide +kernel
theorem xd75_28 : decode (mj_b 75) 28 = .ok (.invokestatic 51, 3) := by decide +kernel
theorem xd75_31 : decode (mj_b 75) 31 = .ok (.if_icmp .ge 21, 3) := by decide +kernel
theorem xd75_34 : decode (mj_b 75) 34 = .ok (.aload_n 0, 1) := by decide +kernel
theorem xd75_35 : decode (mj_b 75) 35 = .ok (.getfield 18, 3) := by decide +kernel
theorem xd75_38 : decode (mj_b 75) 38 = .ok (.iload_n 1, 1) := by decide +kernel
theorem xd75_39 : decode (mj_b 75) 39 = .ok (.iload_n 2, 1) := by decide +kernel
theorem xd75_40 : decode (mj_b 75) 40 = .ok (.invokestatic 69, 3) := by decide +kernel
theorem xd75_43 : decode (mj_b 75) 43 = .ok (.aload_n 0, 1) := by decide +kernel
theorem xd75_44 : decode (mj_b 75) 44 = .ok (.getfield 22, 3) := by decide +kernel
theorem xd75_47 : decode (mj_b 75) 47 = .ok (.iload_n 1, 1) := by decide +kernel
theorem xd75_48 : decode (mj_b 75) 48 = .ok (.iload_n 3, 1) := by decide +kernel
theorem xd75_49 : decode (mj_b 75) 49 = .ok (.invokestatic 69, 3) := by decide +kernel
theorem xd75_52 : decode (mj_b 75) 52 = .ok (.return_, 1) := by decide +kernel
theorem x75_0 {x1 : Int32} {x2 : Int32} {x3 : Int32} : wp Ln xs 75 0 [.ref 64, .int x1, .int x2, .int x3, mj_hole] [] (u, ml_h m lm) Φ = wp Ln xs 13 0 [.ref 67, .int x1] [] (u, ml_h m lm) (mk Ln xs 75 5 [.ref 64, .int x1, .int x2, .int x3, mj_hole] [] Φ) := (wp_same xd75_0 (Or.inr rfl) rfl).trans ((wm_getr xd75_1 rfl (show ml_L[64]? = _ from rfl) rfl (Nat.le_of_ble_eq_true rfl)).trans ((wp_same xd75_4 (Or.inr rfl) rfl).trans (wm_cs (As := [.ref 67, .int x1]) (rest := []) xd75_5 rfl rfl (Nat.le_of_ble_eq_true rfl) (Nat.le_of_ble_eq_true rfl) (Nat.le_of_ble_eq_true rfl) (Nat.le_of_ble_eq_true rfl))))
theorem x75_8 {x1 : Int32} {x2 : Int32} {x3 : Int32} {xs0 : Int32} : wp Ln xs 75 8 [.ref 64, .int x1, .int x2, .int x3, mj_hole] [.int xs0] (u, ml_h m lm) Φ = if x2 < xs0 then wp Ln xs 75 34 [.ref 64, .int x1, .int x2, .int x3, .int xs0] [] (u, ml_h m lm) Φ else wp Ln xs 75 16 [.ref 64, .int x1, .int x2, .int x3, .int xs0] [] (u, ml_h m lm) Φ := (wp_same (L' := [.ref 64, .int x1, .int x2, .int x3, .int xs0]) xd75_8 (Or.inr rfl) rfl).trans ((wp_same xd75_10 (Or.inr rfl) rfl).trans ((wp_same xd75_11 (Or.inr rfl) rfl).trans (wx_icmp xd75_13 rfl rfl (x2 < xs0) mb_lt)))
theorem x75_16 {x1 : Int32} {x2 : Int32} {x3 : Int32} {x4 : Int32} : wp Ln xs 75 16 [.ref 64, .int x1, .int x2, .int x3, .int x4] [] (u, ml_h m lm) Φ = if ¬ x2 = x4 then wp Ln xs 75 52 [.ref 64, .int x1, .int x2, .int x3, .int x4] [] (u, ml_h m lm) Φ else wp Ln xs 75 22 [.ref 64, .int x1, .int x2, .int x3, .int x4] [] (u, ml_h m lm) Φ := (wp_same xd75_16 (Or.inr rfl) rfl).trans ((wp_same xd75_17 (Or.inr rfl) rfl).trans (wx_icmp xd75_19 rfl rfl (¬ x2 = x4) mb_ne))
theorem x75_22 {x1 : Int32} {x2 : Int32} {x3 : Int32} {x4 : Int32} : wp Ln xs 75 22 [.ref 64, .int x1, .int x2, .int x3, .int x4] [] (u, ml_h m lm) Φ = wp Ln xs 13 0 [.ref 68, .int x1] [] (u, ml_h m lm) (mk Ln xs 75 28 [.ref 64, .int x1, .int x2, .int x3, .int x4] [.int x3] Φ) := (wp_same xd75_22 (Or.inr rfl) rfl).trans ((wp_same xd75_23 (Or.inr rfl) rfl).trans ((wm_getr xd75_24 rfl (show ml_L[64]? = _ from rfl) rfl (Nat.le_of_ble_eq_true rfl)).trans ((wp_same xd75_27 (Or.inr rfl) rfl).trans (wm_cs (As := [.ref 68, .int x1]) (rest := [.int x3]) xd75_28 rfl rfl (Nat.le_of_ble_eq_true rfl) (Nat.le_of_ble_eq_true rfl) (Nat.le_of_ble_eq_true rfl) (Nat.le_of_ble_eq_true rfl)))))
theorem x75_31 {x1 : Int32} {x2 : Int32} {x3 : Int32} {x4 : Int32} {xs0 : Int32} {xs1 : Int32} : wp Ln xs 75 31 [.ref 64, .int x1, .int x2, .int x3, .int x4] [.int xs0, .int xs1] (u, ml_h m lm) Φ = if xs0 ≤ xs1 then wp Ln xs 75 52 [.ref 64, .int x1, .int x2, .int x3, .int x4] [] (u, ml_h m lm) Φ else wp Ln xs 75 34 [.ref 64, .int x1, .int x2, .int x3, .int x4] [] (u, ml_h m lm) Φ := wx_icmp xd75_31 rfl rfl (xs0 ≤ xs1) mb_ge
theorem x75_34 {x1 : Int32} {x2 : Int32} {x3 : Int32} {x4 : Int32} : wp Ln xs 75 34 [.ref 64, .int x1, .int x2, .int x3, .int x4] [] (u, ml_h m lm) Φ = wp Ln xs 55 0 [.ref 67, .int x1, .int x2] [] (u, ml_h m lm) (mk Ln xs 75 40 [.ref 64, .int x1, .int x2, .int x3, .int x4] [] Φ) := (wp_same xd75_34 (Or.inr rfl) rfl).trans ((wm_getr xd75_35 rfl (show ml_L[64]? = _ from rfl) rfl (Nat.le_of_ble_eq_true rfl)).trans ((wp_same xd75_38 (Or.inr rfl) rfl).trans ((wp_same xd75_39 (Or.inr rfl) rfl).trans (wm_cs (As := [.ref 67, .int x1, .int x2]) (rest := []) xd75_40 rfl rfl (Nat.le_of_ble_eq_true rfl) (Nat.le_of_ble_eq_true rfl) (Nat.le_of_ble_eq_true rfl) (Nat.le_of_ble_eq_true rfl)))))
theorem x75_43 {x1 : Int32} {x2 : Int32} {x3 : Int32} {x4 : Int32} : wp Ln xs 75 43 [.ref 64, .int x1, .int x2, .int x3, .int x4] [] (u, ml_h m lm) Φ = wp Ln xs 55 0 [.ref 68, .int x1, .int x3] [] (u, ml_h m lm) (mk Ln xs 75 49 [.ref 64, .int x1, .int x2, .int x3, .int x4] [] Φ) := (wp_same xd75_43 (Or.inr rfl) rfl).trans ((wm_getr xd75_44 rfl (show ml_L[64]? = _ from rfl) rfl (Nat.le_of_ble_eq_true rfl)).trans ((wp_same xd75_47 (Or.inr rfl) rfl).trans ((wp_same xd75_48 (Or.inr rfl) rfl).trans (wm_cs (As := [.ref 68, .int x1, .int x3]) (rest := []) xd75_49 rfl rfl (Nat.le_of_ble_eq_true rfl) (Nat.le_of_ble_eq_true rfl) (Nat.le_of_ble_eq_true rfl) (Nat.le_of_ble_eq_true rfl)))))
theorem x75_52 {x1 : Int32} {x2 : Int32} {x3 : Int32} {x4 : Int32} : wp Ln xs 75 52 [.ref 64, .int x1, .int x2, .int x3, .int x4] [] (u, ml_h m lm) Φ = Φ (.inl none) (u, ml_h m lm) := wp_fin (v := none) xd75_52 (Or.inr rfl) rfl rfl
/- PickedForms$Parting.bitsFromFirst -/
theorem xd76_0 : decode (mj_b 76) 0 = .ok (.aload_n 0, 1) := by decide +kernel
theorem xd76_1 : decode (mj_b 76) 1 = .ok (.getfield 18, 3) := by decide +kernel
theorem xd76_4 : decode (mj_b 76) 4 = .ok (.aload_n 1, 1) := by decide +kernel
theorem xd76_5 : decode (mj_b 76) 5 = .ok (.getfield 31, 3) := by decide +kernel
theorem xd76_8 : decode (mj_b 76) 8 = .ok (.invokestatic 51, 3) := by decide +kernel
theorem xd76_11 : decode (mj_b 76) 11 = .ok (.ireturn, 1) := by decide +kernel
theorem x76_0 : wp Ln xs 76 0 [.ref 64, .ref 2] [] (u, ml_h m lm) Φ = wp Ln xs 13 0 [.ref 67, .int (m 2 5)] [] (u, ml_h m lm) (mk Ln xs 76 8 [.ref 64, .ref 2] [] Φ) := (wp_same xd76_0 (Or.inr rfl) rfl).trans ((wm_getr xd76_1 rfl (show ml_L[64]? = _ from rfl) rfl (Nat.le_of_ble_eq_true rfl)).trans ((wp_same xd76_4 (Or.inr rfl) rfl).trans ((wm_geti xd76_5 rfl (show ml_L[2]? = _ from rfl) rfl (Nat.le_of_ble_eq_true rfl)).trans (wm_cs (As := [.ref 67, .int (m 2 5)]) (rest := []) xd76_8 rfl rfl (Nat.le_of_ble_eq_true rfl) (Nat.le_of_ble_eq_true rfl) (Nat.le_of_ble_eq_true rfl) (Nat.le_of_ble_eq_true rfl)))))
theorem x76_11 {xs0 : Int32} : wp Ln xs 76 11 [.ref 64, .ref 2] [.int xs0] (u, ml_h m lm) Φ = Φ (.inl (some (.int xs0))) (u, ml_h m lm) := wp_fin (v := some (.int xs0)) xd76_11 (Or.inr rfl) rfl (mj_fin_i rfl)
/- PickedForms$Parting.blocksFromFirst -/
theorem xd77_0 : decode (mj_b 77) 0 = .ok (.aload_n 0, 1) := by decide +kernel
theorem xd77_1 : decode (mj_b 77) 1 = .ok (.getfield 22, 3) := by decide +kernel
theorem xd77_4 : decode (mj_b 77) 4 = .ok (.aload_n 1, 1) := by decide +kernel
theorem xd77_5 : decode (mj_b 77) 5 = .ok (.getfield 31, 3) := by decide +kernel
theorem xd77_8 : decode (mj_b 77) 8 = .ok (.invokestatic 51, 3) := by decide +kernel
theorem xd77_11 : decode (mj_b 77) 11 = .ok (.ireturn, 1) := by decide +kernel
theorem x77_0 : wp Ln xs 77 0 [.ref 64, .ref 2] [] (u, ml_h m lm) Φ = wp Ln xs 13 0 [.ref 68, .int (m 2 5)] [] (u, ml_h m lm) (mk Ln xs 77 8 [.ref 64, .ref 2] [] Φ) := (wp_same xd77_0 (Or.inr rfl) rfl).trans ((wm_getr xd77_1 rfl (show ml_L[64]? = _ from rfl) rfl (Nat.le_of_ble_eq_true rfl)).trans ((wp_same xd77_4 (Or.inr rfl) rfl).trans ((wm_geti xd77_5 rfl (show ml_L[2]? = _ from rfl) rfl (Nat.le_of_ble_eq_true rfl)).trans (wm_cs (As := [.ref 68, .int (m 2 5)]) (rest := []) xd77_8 rfl rfl (Nat.le_of_ble_eq_true rfl) (Nat.le_of_ble_eq_true rfl) (Nat.le_of_ble_eq_true rfl) (Nat.le_of_ble_eq_true rfl)))))
theorem x77_11 {xs0 : Int32} : wp Ln xs 77 11 [.ref 64, .ref 2] [.int xs0] (u, ml_h m lm) Φ = Φ (.inl (some (.int xs0))) (u, ml_h m lm) := wp_fin (v := some (.int xs0)) xd77_11 (Or.inr rfl) rfl (mj_fin_i rfl)
/- PickedForms$Parting.bitsFromLast -/
theorem xd78_0 : decode (mj_b 78) 0 = .ok (.aload_n 1, 1) := by decide +kernel
theorem xd78_1 : decode (mj_b 78) 1 = .ok (.iconst 2, 1) := by decide +kernel
theorem xd78_2 : decode (mj_b 78) 2 = .ok (.invokevirtual 25, 3) := by decide +kernel
theorem xd78_5 : decode (mj_b 78) 5 = .ok (.istore_n 2, 1) := by decide +kernel
theorem xd78_6 : decode (mj_b 78) 6 = .ok (.aload_n 0, 1) := by decide +kernel
theorem xd78_7 : decode (mj_b 78) 7 = .ok (.aload_n 1, 1) := by decide +kernel
theorem xd78_8 : decode (mj_b 78) 8 = .ok (.getfield 31, 3) := by decide +kernel
theorem xd78_11 : decode (mj_b 78) 11 = .ok (.aload_n 1, 1) := by decide +kernel
theorem xd78_12 : decode (mj_b 78) 12 = .ok (.getfield 31, 3) := by decide +kernel
theorem xd78_15 : decode (mj_b 78) 15 = .ok (.invokevirtual 35, 3) := by decide +kernel
theorem xd78_18 : decode (mj_b 78) 18 = .ok (.aload_n 1, 1) := by decide +kernel
theorem xd78_19 : decode (mj_b 78) 19 = .ok (.getfield 31, 3) := by decide +kernel
theorem xd78_22 : decode (mj_b 78) 22 = .ok (.iconst 1, 1) := by decide +kernel
theorem xd78_23 : decode (mj_b 78) 23 = .ok (.isub, 1) := by decide +kernel
theorem xd78_24 : decode (mj_b 78) 24 = .ok (.istore_n 3, 1) := by decide +kernel
theorem xd78_25 : decode (mj_b 78) 25 = .ok (.iload_n 3, 1) := by decide +kernel
theorem xd78_26 : decode (mj_b 78) 26 = .ok (.ifCond .lt 100, 3) := by decide +kernel
theorem xd78_29 : decode (mj_b 78) 29 = .ok (.bipush 16, 2) := by decide +kernel
theorem xd78_31 : decode (mj_b 78) 31 = .ok (.aload_n 1, 1) := by decide +kernel
theorem xd78_32 : decode (mj_b 78) 32 = .ok (.getfield 31, 3) := by decide +kernel
theorem xd78_35 : decode (mj_b 78) 35 = .ok (.iload_n 3, 1) := by decide +kernel
theorem xd78_36 : decode (mj_b 78) 36 = .ok (.isub, 1) := by decide +kernel
theorem xd78_37 : decode (mj_b 78) 37 = .ok (.invokestatic 39, 3) := by decide +kernel
theorem xd78_40 : decode (mj_b 78) 40 = .ok (.istore 4, 2) := by decide +kernel
theorem xd78_42 : decode (mj_b 78) 42 = .ok (.aload_n 0, 1) := by decide +kernel
theorem xd78_43 : decode (mj_b 78) 43 = .ok (.getfield 12, 3) := by decide +kernel
theorem xd78_46 : decode (mj_b 78) 46 = .ok (.invokevirtual 45, 3) := by decide +kernel
theorem xd78_49 : decode (mj_b 78) 49 = .ok (.iconst 1, 1) := by decide +kernel
theorem xd78_50 : decode (mj_b 78) 50 = .ok (.istore 5, 2) := by decide +kernel
theorem xd78_52 : decode (mj_b 78) 52 = .ok (.iload 5, 2) := by decide +kernel
theorem xd78_54 : decode (mj_b 78) 54 = .ok (.iload 4, 2) := by decide +kernel
theorem xd78_56 : decode (mj_b 78) 56 = .ok (.if_icmp .gt 64, 3) := by decide +kernel
theorem xd78_59 : decode (mj_b 78) 59 = .ok (.aload_n 0, 1) := by decide +kernel
theorem xd78_60 : decode (mj_b 78) 60 = .ok (.getfield 12, 3) := by decide +kernel
theorem xd78_63 : decode (mj_b 78) 63 = .ok (.aload_n 1, 1) := by decide +kernel
theorem xd78_64 : decode (mj_b 78) 64 = .ok (.getfield 48, 3) := by decide +kernel
theorem xd78_67 : decode (mj_b 78) 67 = .ok (.iload_n 3, 1) := by decide +kernel
theorem xd78_68 : decode (mj_b 78) 68 = .ok (.iload 5, 2) := by decide +kernel
theorem xd78_70 : decode (mj_b 78) 70 = .ok (.iadd, 1) := by decide +kernel
theorem xd78_71 : decode (mj_b 78) 71 = .ok (.iconst 1, 1) := by decide +kernel
theorem xd78_72 : decode (mj_b 78) 72 = .ok (.isub, 1) := by decide +kernel
theorem xd78_73 : decode (mj_b 78) 73 = .ok (.invokestatic 51, 3) := by decide +kernel
theorem xd78_76 : decode (mj_b 78) 76 = .ok (.invokevirtual 57, 3) := by decide +kernel
theorem xd78_79 : decode (mj_b 78) 79 = .ok (.aload_n 0, 1) := by decide +kernel
theorem xd78_80 : decode (mj_b 78) 80 = .ok (.iload_n 3, 1) := by decide +kernel
theorem xd78_81 : decode (mj_b 78) 81 = .ok (.aload_n 0, 1) := by decide +kernel
theorem xd78_82 : decode (mj_b 78) 82 = .ok (.getfield 18, 3) := by decide +kernel
theorem xd78_85 : decode (mj_b 78) 85 = .ok (.iload_n 3, 1) := by decide +kernel
theorem xd78_86 : decode (mj_b 78) 86 = .ok (.iload 5, 2) := by decide +kernel
theorem xd78_88 : decode (mj_b 78) 88 = .ok (.iadd, 1) := by decide +kernel
theorem xd78_89 : decode (mj_b 78) 89 = .ok (.invokestatic 51, 3) := by decide +kernel
theorem xd78_92 : decode (mj_b 78) 92 = .ok (.aload_n 0, 1) := by decide +kernel
theorem xd78_93 : decode (mj_b 78) 93 = .ok (.iload_n 2, 1) := by decide +kernel
theorem xd78_94 : decode (mj_b 78) 94 = .ok (.invokevirtual 61, 3) := by decide +kernel
theorem xd78_97 : decode (mj_b 78) 97 = .ok (.iadd, 1) := by decide +kernel
theorem xd78_98 : decode (mj_b 78) 98 = .ok (.aload_n 0, 1) := by decide +kernel
theorem xd78_99 : decode (mj_b 78) 99 = .ok (.getfield 22, 3) := by decide +kernel
theorem xd78_102 : decode (mj_b 78) 102 = .ok (.iload_n 3, 1) := by decide +kernel
theorem xd78_103 : decode (mj_b 78) 103 = .ok (.iload 5, 2) := by decide +kernel
theorem xd78_105 : decode (mj_b 78) 105 = .ok (.iadd, 1) := by decide +kernel
theorem xd78_106 : decode (mj_b 78) 106 = .ok (.invokestatic 51, 3) := by decide +kernel
theorem xd78_109 : decode (mj_b 78) 109 = .ok (.iconst 1, 1) := by decide +kernel
theorem xd78_110 : decode (mj_b 78) 110 = .ok (.iadd, 1) := by decide +kernel
theorem xd78_111 : decode (mj_b 78) 111 = .ok (.invokevirtual 64, 3) := by decide +kernel
theorem xd78_114 : decode (mj_b 78) 114 = .ok (.iinc 5 1, 3) := by decide +kernel
theorem xd78_117 : decode (mj_b 78) 117 = .ok (.goto (-65), 3) := by decide +kernel
theorem xd78_120 : decode (mj_b 78) 120 = .ok (.iinc 3 (-1), 3) := by decide +kernel
theorem xd78_123 : decode (mj_b 78) 123 = .ok (.goto (-98), 3) := by decide +kernel
theorem xd78_126 : decode (mj_b 78) 126 = .ok (.aload_n 0, 1) := by decide +kernel
theorem xd78_127 : decode (mj_b 78) 127 = .ok (.getfield 18, 3) := by decide +kernel
theorem xd78_130 : decode (mj_b 78) 130 = .ok (.iconst 0, 1) := by decide +kernel
theorem xd78_131 : decode (mj_b 78) 131 = .ok (.invokestatic 51, 3) := by decide +kernel
theorem xd78_134 : decode (mj_b 78) 134 = .ok (.ireturn, 1) := by decide +kernel
theorem x78_0 : wp Ln xs 78 0 [.ref 64, .ref 2, mj_hole, mj_hole, mj_hole, mj_hole] [] (u, ml_h m lm) Φ = wp Ln xs 41 0 [.ref 2, .int (nI 2)] [] (u, ml_h m lm) (mk Ln xs 78 2 [.ref 64, .ref 2, mj_hole, mj_hole, mj_hole, mj_hole] [] Φ) := (wp_same xd78_0 (Or.inr rfl) rfl).trans ((wp_same (S' := [.int (nI 2), .ref 2]) xd78_1 (Or.inr rfl) rfl).trans (wm_cv (As := [.int (nI 2)]) (rest := []) xd78_2 rfl rfl (show ml_L[2]? = _ from rfl) (Nat.le_of_ble_eq_true rfl) (Nat.le_of_ble_eq_true rfl) (Nat.le_of_ble_eq_true rfl) (Nat.le_of_ble_eq_true rfl)))
theorem x78_5 {xs0 : Int32} : wp Ln xs 78 5 [.ref 64, .ref 2, mj_hole, mj_hole, mj_hole, mj_hole] [.int xs0] (u, ml_h m lm) Φ = wp Ln xs 73 0 [.ref 64, .int (m 2 5), .int (m 2 5), mj_hole] [] (u, ml_h m lm) (mk Ln xs 78 15 [.ref 64, .ref 2, .int xs0, mj_hole, mj_hole, mj_hole] [] Φ) := (wp_same (L' := [.ref 64, .ref 2, .int xs0, mj_hole, mj_hole, mj_hole]) xd78_5 (Or.inr rfl) rfl).trans ((wp_same xd78_6 (Or.inr rfl) rfl).trans ((wp_same xd78_7 (Or.inr rfl) rfl).trans ((wm_geti xd78_8 rfl (show ml_L[2]? = _ from rfl) rfl (Nat.le_of_ble_eq_true rfl)).trans ((wp_same xd78_11 (Or.inr rfl) rfl).trans ((wm_geti xd78_12 rfl (show ml_L[2]? = _ from rfl) rfl (Nat.le_of_ble_eq_true rfl)).trans (wm_cv (As := [.int (m 2 5), .int (m 2 5)]) (rest := []) xd78_15 rfl rfl (show ml_L[64]? = _ from rfl) (Nat.le_of_ble_eq_true rfl) (Nat.le_of_ble_eq_true rfl) (Nat.le_of_ble_eq_true rfl) (Nat.le_of_ble_eq_true rfl)))))))
theorem x78_18 {x2 : Int32} : wp Ln xs 78 18 [.ref 64, .ref 2, .int x2, mj_hole, mj_hole, mj_hole] [] (u, ml_h m lm) Φ = wp Ln xs 78 25 [.ref 64, .ref 2, .int x2, .int ((m 2 5) - (nI 1)), mj_hole, mj_hole] [] (u, ml_h m lm) Φ := (wp_same xd78_18 (Or.inr rfl) rfl).trans ((wm_geti xd78_19 rfl (show ml_L[2]? = _ from rfl) rfl (Nat.le_of_ble_eq_true rfl)).trans ((wp_same (S' := [.int (nI 1), .int (m 2 5)]) xd78_22 (Or.inr rfl) rfl).trans ((wp_same xd78_23 (Or.inr rfl) rfl).trans (wp_same (L' := [.ref 64, .ref 2, .int x2, .int ((m 2 5) - (nI 1)), mj_hole, mj_hole]) xd78_24 (Or.inr rfl) rfl))))
theorem x78_25 {x2 : Int32} {x3 : Int32} {v4 : Value} {v5 : Value} : wp Ln xs 78 25 [.ref 64, .ref 2, .int x2, .int x3, v4, v5] [] (u, ml_h m lm) Φ = if x3 < (nI 0) then wp Ln xs 78 126 [.ref 64, .ref 2, .int x2, .int x3, v4, v5] [] (u, ml_h m lm) Φ else wp Ln xs 78 29 [.ref 64, .ref 2, .int x2, .int x3, v4, v5] [] (u, ml_h m lm) Φ := (wp_same xd78_25 (Or.inr rfl) rfl).trans (wx_if xd78_26 rfl rfl (x3 < (nI 0)) mb_lt)
theorem x78_29 {x2 : Int32} {x3 : Int32} {v4 : Value} {v5 : Value} : wp Ln xs 78 29 [.ref 64, .ref 2, .int x2, .int x3, v4, v5] [] (u, ml_h m lm) Φ = wp Ln xs 32 0 [.ref 65] [] (u, ml_h m lm) (mk Ln xs 78 46 [.ref 64, .ref 2, .int x2, .int x3, .int (if ((m 2 5) - x3) < (nI 16) then (m 2 5) - x3 else nI 16), v5] [] Φ) := (wp_same (S' := [.int (nI 16)]) xd78_29 (Or.inr rfl) rfl).trans ((wp_same xd78_31 (Or.inr rfl) rfl).trans ((wm_geti xd78_32 rfl (show ml_L[2]? = _ from rfl) rfl (Nat.le_of_ble_eq_true rfl)).trans ((wp_same xd78_35 (Or.inr rfl) rfl).trans ((wp_same xd78_36 (Or.inr rfl) rfl).trans ((wm_min xd78_37 rfl (Nat.le_of_ble_eq_true rfl) (Nat.le_of_ble_eq_true rfl) (Nat.le_of_ble_eq_true rfl)).trans ((wp_same (L' := [.ref 64, .ref 2, .int x2, .int x3, .int (if ((m 2 5) - x3) < (nI 16) then (m 2 5) - x3 else nI 16), v5]) xd78_40 (Or.inr rfl) rfl).trans ((wp_same xd78_42 (Or.inr rfl) rfl).trans ((wm_getr xd78_43 rfl (show ml_L[64]? = _ from rfl) rfl (Nat.le_of_ble_eq_true rfl)).trans (wm_cv (As := []) (rest := []) xd78_46 rfl rfl (show ml_L[65]? = _ from rfl) (Nat.le_of_ble_eq_true rfl) (Nat.le_of_ble_eq_true rfl) (Nat.le_of_ble_eq_true rfl) (Nat.le_of_ble_eq_true rfl))))))))))
theorem x78_49 {x2 : Int32} {x3 : Int32} {x4 : Int32} {v5 : Value} : wp Ln xs 78 49 [.ref 64, .ref 2, .int x2, .int x3, .int x4, v5] [] (u, ml_h m lm) Φ = wp Ln xs 78 52 [.ref 64, .ref 2, .int x2, .int x3, .int x4, .int (nI 1)] [] (u, ml_h m lm) Φ := (wp_same (S' := [.int (nI 1)]) xd78_49 (Or.inr rfl) rfl).trans (wp_same (L' := [.ref 64, .ref 2, .int x2, .int x3, .int x4, .int (nI 1)]) xd78_50 (Or.inr rfl) rfl)
theorem x78_52 {x2 : Int32} {x3 : Int32} {x4 : Int32} {x5 : Int32} : wp Ln xs 78 52 [.ref 64, .ref 2, .int x2, .int x3, .int x4, .int x5] [] (u, ml_h m lm) Φ = if x4 < x5 then wp Ln xs 78 120 [.ref 64, .ref 2, .int x2, .int x3, .int x4, .int x5] [] (u, ml_h m lm) Φ else wp Ln xs 78 59 [.ref 64, .ref 2, .int x2, .int x3, .int x4, .int x5] [] (u, ml_h m lm) Φ := (wp_same xd78_52 (Or.inr rfl) rfl).trans ((wp_same xd78_54 (Or.inr rfl) rfl).trans (wx_icmp xd78_56 rfl rfl (x4 < x5) mb_gt))
theorem x78_59 {x2 : Int32} {x3 : Int32} {x4 : Int32} {x5 : Int32} : wp Ln xs 78 59 [.ref 64, .ref 2, .int x2, .int x3, .int x4, .int x5] [] (u, ml_h m lm) Φ = wp Ln xs 13 0 [.ref 3, .int ((x3 + x5) - (nI 1))] [] (u, ml_h m lm) (mk Ln xs 78 73 [.ref 64, .ref 2, .int x2, .int x3, .int x4, .int x5] [.ref 65] Φ) := (wp_same xd78_59 (Or.inr rfl) rfl).trans ((wm_getr xd78_60 rfl (show ml_L[64]? = _ from rfl) rfl (Nat.le_of_ble_eq_true rfl)).trans ((wp_same xd78_63 (Or.inr rfl) rfl).trans ((wm_getr xd78_64 rfl (show ml_L[2]? = _ from rfl) rfl (Nat.le_of_ble_eq_true rfl)).trans ((wp_same xd78_67 (Or.inr rfl) rfl).trans ((wp_same xd78_68 (Or.inr rfl) rfl).trans ((wp_same xd78_70 (Or.inr rfl) rfl).trans ((wp_same (S' := [.int (nI 1), .int (x3 + x5), .ref 3, .ref 65]) xd78_71 (Or.inr rfl) rfl).trans ((wp_same xd78_72 (Or.inr rfl) rfl).trans (wm_cs (As := [.ref 3, .int ((x3 + x5) - (nI 1))]) (rest := [.ref 65]) xd78_73 rfl rfl (Nat.le_of_ble_eq_true rfl) (Nat.le_of_ble_eq_true rfl) (Nat.le_of_ble_eq_true rfl) (Nat.le_of_ble_eq_true rfl))))))))))
theorem x78_76 {x2 : Int32} {x3 : Int32} {x4 : Int32} {x5 : Int32} {xs0 : Int32} : wp Ln xs 78 76 [.ref 64, .ref 2, .int x2, .int x3, .int x4, .int x5] [.int xs0, .ref 65] (u, ml_h m lm) Φ = wp Ln xs 33 0 [.ref 65, .int xs0] [] (u, ml_h m lm) (mk Ln xs 78 76 [.ref 64, .ref 2, .int x2, .int x3, .int x4, .int x5] [] Φ) := wm_cv (As := [.int xs0]) (rest := []) xd78_76 rfl rfl (show ml_L[65]? = _ from rfl) (Nat.le_of_ble_eq_true rfl) (Nat.le_of_ble_eq_true rfl) (Nat.le_of_ble_eq_true rfl) (Nat.le_of_ble_eq_true rfl)
theorem x78_79 {x2 : Int32} {x3 : Int32} {x4 : Int32} {x5 : Int32} : wp Ln xs 78 79 [.ref 64, .ref 2, .int x2, .int x3, .int x4, .int x5] [] (u, ml_h m lm) Φ = wp Ln xs 13 0 [.ref 67, .int (x3 + x5)] [] (u, ml_h m lm) (mk Ln xs 78 89 [.ref 64, .ref 2, .int x2, .int x3, .int x4, .int x5] [.int x3, .ref 64] Φ) := (wp_same xd78_79 (Or.inr rfl) rfl).trans ((wp_same xd78_80 (Or.inr rfl) rfl).trans ((wp_same xd78_81 (Or.inr rfl) rfl).trans ((wm_getr xd78_82 rfl (show ml_L[64]? = _ from rfl) rfl (Nat.le_of_ble_eq_true rfl)).trans ((wp_same xd78_85 (Or.inr rfl) rfl).trans ((wp_same xd78_86 (Or.inr rfl) rfl).trans ((wp_same xd78_88 (Or.inr rfl) rfl).trans (wm_cs (As := [.ref 67, .int (x3 + x5)]) (rest := [.int x3, .ref 64]) xd78_89 rfl rfl (Nat.le_of_ble_eq_true rfl) (Nat.le_of_ble_eq_true rfl) (Nat.le_of_ble_eq_true rfl) (Nat.le_of_ble_eq_true rfl))))))))
theorem x78_92 {x2 : Int32} {x3 : Int32} {x4 : Int32} {x5 : Int32} {xs0 : Int32} {xs1 : Int32} : wp Ln xs 78 92 [.ref 64, .ref 2, .int x2, .int x3, .int x4, .int x5] [.int xs0, .int xs1, .ref 64] (u, ml_h m lm) Φ = wp Ln xs 74 0 [.ref 64, .int x2] [] (u, ml_h m lm) (mk Ln xs 78 94 [.ref 64, .ref 2, .int x2, .int x3, .int x4, .int x5] [.int xs0, .int xs1, .ref 64] Φ) := (wp_same xd78_92 (Or.inr rfl) rfl).trans ((wp_same xd78_93 (Or.inr rfl) rfl).trans (wm_cv (As := [.int x2]) (rest := [.int xs0, .int xs1, .ref 64]) xd78_94 rfl rfl (show ml_L[64]? = _ from rfl) (Nat.le_of_ble_eq_true rfl) (Nat.le_of_ble_eq_true rfl) (Nat.le_of_ble_eq_true rfl) (Nat.le_of_ble_eq_true rfl)))
theorem x78_97 {x2 : Int32} {x3 : Int32} {x4 : Int32} {x5 : Int32} {xs0 : Int32} {xs1 : Int32} {xs2 : Int32} : wp Ln xs 78 97 [.ref 64, .ref 2, .int x2, .int x3, .int x4, .int x5] [.int xs0, .int xs1, .int xs2, .ref 64] (u, ml_h m lm) Φ = wp Ln xs 13 0 [.ref 68, .int (x3 + x5)] [] (u, ml_h m lm) (mk Ln xs 78 106 [.ref 64, .ref 2, .int x2, .int x3, .int x4, .int x5] [.int (xs1 + xs0), .int xs2, .ref 64] Φ) := (wp_same xd78_97 (Or.inr rfl) rfl).trans ((wp_same xd78_98 (Or.inr rfl) rfl).trans ((wm_getr xd78_99 rfl (show ml_L[64]? = _ from rfl) rfl (Nat.le_of_ble_eq_true rfl)).trans ((wp_same xd78_102 (Or.inr rfl) rfl).trans ((wp_same xd78_103 (Or.inr rfl) rfl).trans ((wp_same xd78_105 (Or.inr rfl) rfl).trans (wm_cs (As := [.ref 68, .int (x3 + x5)]) (rest := [.int (xs1 + xs0), .int xs2, .ref 64]) xd78_106 rfl rfl (Nat.le_of_ble_eq_true rfl) (Nat.le_of_ble_eq_true rfl) (Nat.le_of_ble_eq_true rfl) (Nat.le_of_ble_eq_true rfl)))))))
theorem x78_109 {x2 : Int32} {x3 : Int32} {x4 : Int32} {x5 : Int32} {xs0 : Int32} {xs1 : Int32} {xs2 : Int32} : wp Ln xs 78 109 [.ref 64, .ref 2, .int x2, .int x3, .int x4, .int x5] [.int xs0, .int xs1, .int xs2, .ref 64] (u, ml_h m lm) Φ = wp Ln xs 75 0 [.ref 64, .int xs2, .int xs1, .int (xs0 + (nI 1)), mj_hole] [] (u, ml_h m lm) (mk Ln xs 78 111 [.ref 64, .ref 2, .int x2, .int x3, .int x4, .int x5] [] Φ) := (wp_same (S' := [.int (nI 1), .int xs0, .int xs1, .int xs2, .ref 64]) xd78_109 (Or.inr rfl) rfl).trans ((wp_same xd78_110 (Or.inr rfl) rfl).trans (wm_cv (As := [.int xs2, .int xs1, .int (xs0 + (nI 1))]) (rest := []) xd78_111 rfl rfl (show ml_L[64]? = _ from rfl) (Nat.le_of_ble_eq_true rfl) (Nat.le_of_ble_eq_true rfl) (Nat.le_of_ble_eq_true rfl) (Nat.le_of_ble_eq_true rfl)))
theorem x78_114 {x2 : Int32} {x3 : Int32} {x4 : Int32} {x5 : Int32} : wp Ln xs 78 114 [.ref 64, .ref 2, .int x2, .int x3, .int x4, .int x5] [] (u, ml_h m lm) Φ = wp Ln xs 78 52 [.ref 64, .ref 2, .int x2, .int x3, .int x4, .int (x5 + nI 1)] [] (u, ml_h m lm) Φ := (wp_same (L' := [.ref 64, .ref 2, .int x2, .int x3, .int x4, .int (x5 + nI 1)]) xd78_114 (Or.inr rfl) rfl).trans (wx_goto xd78_117 rfl)
theorem x78_120 {x2 : Int32} {x3 : Int32} {x4 : Int32} {x5 : Int32} : wp Ln xs 78 120 [.ref 64, .ref 2, .int x2, .int x3, .int x4, .int x5] [] (u, ml_h m lm) Φ = wp Ln xs 78 25 [.ref 64, .ref 2, .int x2, .int (x3 + (-1)), .int x4, .int x5] [] (u, ml_h m lm) Φ := (wp_same (L' := [.ref 64, .ref 2, .int x2, .int (x3 + (-1)), .int x4, .int x5]) xd78_120 (Or.inr rfl) rfl).trans (wx_goto xd78_123 rfl)
theorem x78_126 {x2 : Int32} {x3 : Int32} {v4 : Value} {v5 : Value} : wp Ln xs 78 126 [.ref 64, .ref 2, .int x2, .int x3, v4, v5] [] (u, ml_h m lm) Φ = wp Ln xs 13 0 [.ref 67, .int (nI 0)] [] (u, ml_h m lm) (mk Ln xs 78 131 [.ref 64, .ref 2, .int x2, .int x3, v4, v5] [] Φ) := (wp_same xd78_126 (Or.inr rfl) rfl).trans ((wm_getr xd78_127 rfl (show ml_L[64]? = _ from rfl) rfl (Nat.le_of_ble_eq_true rfl)).trans ((wp_same (S' := [.int (nI 0), .ref 67]) xd78_130 (Or.inr rfl) rfl).trans (wm_cs (As := [.ref 67, .int (nI 0)]) (rest := []) xd78_131 rfl rfl (Nat.le_of_ble_eq_true rfl) (Nat.le_of_ble_eq_true rfl) (Nat.le_of_ble_eq_true rfl) (Nat.le_of_ble_eq_true rfl))))
theorem x78_134 {x2 : Int32} {x3 : Int32} {v4 : Value} {v5 : Value} {xs0 : Int32} : wp Ln xs 78 134 [.ref 64, .ref 2, .int x2, .int x3, v4, v5] [.int xs0] (u, ml_h m lm) Φ = Φ (.inl (some (.int xs0))) (u, ml_h m lm) := wp_fin (v := some (.int xs0)) xd78_134 (Or.inr rfl) rfl (mj_fin_i rfl)
/- PickedForms$Floats.bitsOfDouble -/
theorem xd79_0 : decode (mj_b 79) 0 = .ok (.dload_n 0, 1) := by decide +kernel
theorem xd79_1 : decode (mj_b 79) 1 = .ok (.dconst 0, 1) := by decide +kernel
theorem xd79_2 : decode (mj_b 79) 2 = .ok (.dcmp .g, 1) := by decide +kernel
theorem xd79_3 : decode (mj_b 79) 3 = .ok (.ifCond .gt 5, 3) := by decide +kernel
theorem xd79_6 : decode (mj_b 79) 6 = .ok (.lconst 0, 1) := by decide +kernel
theorem xd79_7 : decode (mj_b 79) 7 = .ok (.lreturn, 1) := by decide +kernel
theorem xd79_8 : decode (mj_b 79) 8 = .ok (.dload_n 0, 1) := by decide +kernel
theorem xd79_9 : decode (mj_b 79) 9 = .ok (.dstore_n 2, 1) := by decide +kernel
theorem xd79_10 : decode (mj_b 79) 10 = .ok (.ldc2_w 7, 3) := by decide +kernel
theorem xd79_13 : decode (mj_b 79) 13 = .ok (.lstore 4, 2) := by decide +kernel
theorem xd79_15 : decode (mj_b 79) 15 = .ok (.iconst 0, 1) := by decide +kernel
theorem xd79_16 : decode (mj_b 79) 16 = .ok (.istore 6, 2) := by decide +kernel
theorem xd79_18 : decode (mj_b 79) 18 = .ok (.iload 6, 2) := by decide +kernel
theorem xd79_20 : decode (mj_b 79) 20 = .ok (.bipush 100, 2) := by decide +kernel
theorem xd79_22 : decode (mj_b 79) 22 = .ok (.if_icmp .ge 29, 3) := by decide +kernel
theorem xd79_25 : decode (mj_b 79) 25 = .ok (.dload_n 2, 1) := by decide +kernel
theorem xd79_26 : decode (mj_b 79) 26 = .ok (.ldc2_w 11, 3) := by decide +kernel
theorem xd79_29 : decode (mj_b 79) 29 = .ok (.dcmp .l, 1) := by decide +kernel
theorem xd79_30 : decode (mj_b 79) 30 = .ok (.ifCond .lt 21, 3) := by decide +kernel
theorem xd79_33 : decode (mj_b 79) 33 = .ok (.dload_n 2, 1) := by decide +kernel
theorem xd79_34 : decode (mj_b 79) 34 = .ok (.ldc2_w 11, 3) := by decide +kernel
theorem xd79_37 : decode (mj_b 79) 37 = .ok (.ddiv, 1) := by decide +kernel
theorem xd79_38 : decode (mj_b 79) 38 = .ok (.dstore_n 2, 1) := by decide +kernel
theorem xd79_39 : decode (mj_b 79) 39 = .ok (.lload 4, 2) := by decide +kernel
theorem xd79_41 : decode (mj_b 79) 41 = .ok (.lconst 1, 1) := by decide +kernel
theorem xd79_42 : decode (mj_b 79) 42 = .ok (.ladd, 1) := by decide +kernel
theorem xd79_43 : decode (mj_b 79) 43 = .ok (.lstore 4, 2) := by decide +kernel
theorem xd79_45 : decode (mj_b 79) 45 = .ok (.iinc 6 1, 3) := by decide +kernel
theorem xd79_48 : decode (mj_b 79) 48 = .ok (.goto (-30), 3) := by decide +kernel
theorem xd79_51 : decode (mj_b 79) 51 = .ok (.iconst 0, 1) := by decide +kernel
theorem xd79_52 : decode (mj_b 79) 52 = .ok (.istore 6, 2) := by decide +kernel
theorem xd79_54 : decode (mj_b 79) 54 = .ok (.iload 6, 2) := by decide +kernel
theorem xd79_56 : decode (mj_b 79) 56 = .ok (.bipush 100, 2) := by decide +kernel
theorem xd79_58 : decode (mj_b 79) 58 = .ok (.if_icmp .ge 27, 3) := by decide +kernel
theorem xd79_61 : decode (mj_b 79) 61 = .ok (.dload_n 2, 1) := by decide +kernel
theorem xd79_62 : decode (mj_b 79) 62 = .ok (.dconst 1, 1) := by decide +kernel
theorem xd79_63 : decode (mj_b 79) 63 = .ok (.dcmp .g, 1) := by decide +kernel
theorem xd79_64 : decode (mj_b 79) 64 = .ok (.ifCond .ge 21, 3) := by decide +kernel
theorem xd79_67 : decode (mj_b 79) 67 = .ok (.dload_n 2, 1) := by decide +kernel
theorem xd79_68 : decode (mj_b 79) 68 = .ok (.ldc2_w 11, 3) := by decide +kernel
theorem xd79_71 : decode (mj_b 79) 71 = .ok (.dmul, 1) := by decide +kernel
theorem xd79_72 : decode (mj_b 79) 72 = .ok (.dstore_n 2, 1) := by decide +kernel
theorem xd79_73 : decode (mj_b 79) 73 = .ok (.lload 4, 2) := by decide +kernel
theorem xd79_75 : decode (mj_b 79) 75 = .ok (.lconst 1, 1) := by decide +kernel
theorem xd79_76 : decode (mj_b 79) 76 = .ok (.lsub, 1) := by decide +kernel
theorem xd79_77 : decode (mj_b 79) 77 = .ok (.lstore 4, 2) := by decide +kernel
theorem xd79_79 : decode (mj_b 79) 79 = .ok (.iinc 6 1, 3) := by decide +kernel
theorem xd79_82 : decode (mj_b 79) 82 = .ok (.goto (-28), 3) := by decide +kernel
theorem xd79_85 : decode (mj_b 79) 85 = .ok (.lload 4, 2) := by decide +kernel
theorem xd79_87 : decode (mj_b 79) 87 = .ok (.bipush 52, 2) := by decide +kernel
theorem xd79_89 : decode (mj_b 79) 89 = .ok (.lshl, 1) := by decide +kernel
theorem xd79_90 : decode (mj_b 79) 90 = .ok (.dload_n 2, 1) := by decide +kernel
theorem xd79_91 : decode (mj_b 79) 91 = .ok (.dconst 1, 1) := by decide +kernel
theorem xd79_92 : decode (mj_b 79) 92 = .ok (.dsub, 1) := by decide +kernel
theorem xd79_93 : decode (mj_b 79) 93 = .ok (.ldc2_w 13, 3) := by decide +kernel
theorem xd79_96 : decode (mj_b 79) 96 = .ok (.dmul, 1) := by decide +kernel
theorem xd79_97 : decode (mj_b 79) 97 = .ok (.d2l, 1) := by decide +kernel
theorem xd79_98 : decode (mj_b 79) 98 = .ok (.ladd, 1) := by decide +kernel
theorem xd79_99 : decode (mj_b 79) 99 = .ok (.lreturn, 1) := by decide +kernel
theorem x79_0 {z0 : UInt64} : wp Ln xs 79 0 [.double z0, mj_hole, mj_hole, mj_hole, mj_hole, mj_hole, mj_hole] [] (u, ml_h m lm) Φ = if (nI 0) < (Op.cmpValue (FP.dcmp z0 FP.dconst0) .g) then wp Ln xs 79 8 [.double z0, mj_hole, mj_hole, mj_hole, mj_hole, mj_hole, mj_hole] [] (u, ml_h m lm) Φ else wp Ln xs 79 6 [.double z0, mj_hole, mj_hole, mj_hole, mj_hole, mj_hole, mj_hole] [] (u, ml_h m lm) Φ := (wp_same xd79_0 (Or.inr rfl) rfl).trans ((wp_same xd79_1 (Or.inr rfl) rfl).trans ((wp_same xd79_2 (Or.inr rfl) rfl).trans (wx_if xd79_3 rfl rfl ((nI 0) < (Op.cmpValue (FP.dcmp z0 FP.dconst0) .g)) mb_gt)))
theorem x79_6 {z0 : UInt64} : wp Ln xs 79 6 [.double z0, mj_hole, mj_hole, mj_hole, mj_hole, mj_hole, mj_hole] [] (u, ml_h m lm) Φ = Φ (.inl (some (.long 0))) (u, ml_h m lm) := (wp_same xd79_6 (Or.inr rfl) rfl).trans (wp_fin (v := some (.long 0)) xd79_7 (Or.inr rfl) rfl rfl)
theorem x79_8 {z0 : UInt64} : wp Ln xs 79 8 [.double z0, mj_hole, mj_hole, mj_hole, mj_hole, mj_hole, mj_hole] [] (u, ml_h m lm) Φ = wp Ln xs 79 18 [.double z0, mj_hole, .double z0, mj_hole, .long 1023, mj_hole, .int (nI 0)] [] (u, ml_h m lm) Φ := (wp_same xd79_8 (Or.inr rfl) rfl).trans ((wp_same (L' := [.double z0, mj_hole, .double z0, mj_hole, mj_hole, mj_hole, mj_hole]) xd79_9 (Or.inr rfl) rfl).trans ((wm_ldc2 (v := .long 1023) xd79_10 rfl rfl).trans ((wp_same (L' := [.double z0, mj_hole, .double z0, mj_hole, .long 1023, mj_hole, mj_hole]) xd79_13 (Or.inr rfl) rfl).trans ((wp_same (S' := [.int (nI 0)]) xd79_15 (Or.inr rfl) rfl).trans (wp_same (L' := [.double z0, mj_hole, .double z0, mj_hole, .long 1023, mj_hole, .int (nI 0)]) xd79_16 (Or.inr rfl) rfl)))))
theorem x79_18 {z0 : UInt64} {z2 : UInt64} {y4 : Int64} {x6 : Int32} : wp Ln xs 79 18 [.double z0, mj_hole, .double z2, mj_hole, .long y4, mj_hole, .int x6] [] (u, ml_h m lm) Φ = if (nI 100) ≤ x6 then wp Ln xs 79 51 [.double z0, mj_hole, .double z2, mj_hole, .long y4, mj_hole, .int x6] [] (u, ml_h m lm) Φ else wp Ln xs 79 25 [.double z0, mj_hole, .double z2, mj_hole, .long y4, mj_hole, .int x6] [] (u, ml_h m lm) Φ := (wp_same xd79_18 (Or.inr rfl) rfl).trans ((wp_same (S' := [.int (nI 100), .int x6]) xd79_20 (Or.inr rfl) rfl).trans (wx_icmp xd79_22 rfl rfl ((nI 100) ≤ x6) mb_ge))
theorem x79_25 {z0 : UInt64} {z2 : UInt64} {y4 : Int64} {x6 : Int32} : wp Ln xs 79 25 [.double z0, mj_hole, .double z2, mj_hole, .long y4, mj_hole, .int x6] [] (u, ml_h m lm) Φ = if (Op.cmpValue (FP.dcmp z2 4611686018427387904) .l) < (nI 0) then wp Ln xs 79 51 [.double z0, mj_hole, .double z2, mj_hole, .long y4, mj_hole, .int x6] [] (u, ml_h m lm) Φ else wp Ln xs 79 33 [.double z0, mj_hole, .double z2, mj_hole, .long y4, mj_hole, .int x6] [] (u, ml_h m lm) Φ := (wp_same xd79_25 (Or.inr rfl) rfl).trans ((wm_ldc2 (v := .double 4611686018427387904) xd79_26 rfl rfl).trans ((wp_same xd79_29 (Or.inr rfl) rfl).trans (wx_if xd79_30 rfl rfl ((Op.cmpValue (FP.dcmp z2 4611686018427387904) .l) < (nI 0)) mb_lt)))
theorem x79_33 {z0 : UInt64} {z2 : UInt64} {y4 : Int64} {x6 : Int32} (hn0 : FP.ddiv z2 4611686018427387904 &&& 0x7fffffffffffffff ≤ 0x7ff0000000000000) : wp Ln xs 79 33 [.double z0, mj_hole, .double z2, mj_hole, .long y4, mj_hole, .int x6] [] (u, ml_h m lm) Φ = wp Ln xs 79 18 [.double z0, mj_hole, .double (FP.ddiv z2 4611686018427387904), mj_hole, .long (y4 + 1), mj_hole, .int (x6 + nI 1)] [] (u, ml_h m lm) Φ := (wp_same xd79_33 (Or.inr rfl) rfl).trans ((wm_ldc2 (v := .double 4611686018427387904) xd79_34 rfl rfl).trans ((wx_ddiv xd79_37 hn0).trans ((wp_same (L' := [.double z0, mj_hole, .double (FP.ddiv z2 4611686018427387904), mj_hole, .long y4, mj_hole, .int x6]) xd79_38 (Or.inr rfl) rfl).trans ((wp_same xd79_39 (Or.inr rfl) rfl).trans ((wp_same xd79_41 (Or.inr rfl) rfl).trans ((wp_same xd79_42 (Or.inr rfl) rfl).trans ((wp_same (L' := [.double z0, mj_hole, .double (FP.ddiv z2 4611686018427387904), mj_hole, .long (y4 + 1), mj_hole, .int x6]) xd79_43 (Or.inr rfl) rfl).trans ((wp_same (L' := [.double z0, mj_hole, .double (FP.ddiv z2 4611686018427387904), mj_hole, .long (y4 + 1), mj_hole, .int (x6 + nI 1)]) xd79_45 (Or.inr rfl) rfl).trans (wx_goto xd79_48 rfl)))))))))
theorem x79_51 {z0 : UInt64} {z2 : UInt64} {y4 : Int64} {x6 : Int32} : wp Ln xs 79 51 [.double z0, mj_hole, .double z2, mj_hole, .long y4, mj_hole, .int x6] [] (u, ml_h m lm) Φ = wp Ln xs 79 54 [.double z0, mj_hole, .double z2, mj_hole, .long y4, mj_hole, .int (nI 0)] [] (u, ml_h m lm) Φ := (wp_same (S' := [.int (nI 0)]) xd79_51 (Or.inr rfl) rfl).trans (wp_same (L' := [.double z0, mj_hole, .double z2, mj_hole, .long y4, mj_hole, .int (nI 0)]) xd79_52 (Or.inr rfl) rfl)
theorem x79_54 {z0 : UInt64} {z2 : UInt64} {y4 : Int64} {x6 : Int32} : wp Ln xs 79 54 [.double z0, mj_hole, .double z2, mj_hole, .long y4, mj_hole, .int x6] [] (u, ml_h m lm) Φ = if (nI 100) ≤ x6 then wp Ln xs 79 85 [.double z0, mj_hole, .double z2, mj_hole, .long y4, mj_hole, .int x6] [] (u, ml_h m lm) Φ else wp Ln xs 79 61 [.double z0, mj_hole, .double z2, mj_hole, .long y4, mj_hole, .int x6] [] (u, ml_h m lm) Φ := (wp_same xd79_54 (Or.inr rfl) rfl).trans ((wp_same (S' := [.int (nI 100), .int x6]) xd79_56 (Or.inr rfl) rfl).trans (wx_icmp xd79_58 rfl rfl ((nI 100) ≤ x6) mb_ge))
theorem x79_61 {z0 : UInt64} {z2 : UInt64} {y4 : Int64} {x6 : Int32} : wp Ln xs 79 61 [.double z0, mj_hole, .double z2, mj_hole, .long y4, mj_hole, .int x6] [] (u, ml_h m lm) Φ = if (nI 0) ≤ (Op.cmpValue (FP.dcmp z2 FP.dconst1) .g) then wp Ln xs 79 85 [.double z0, mj_hole, .double z2, mj_hole, .long y4, mj_hole, .int x6] [] (u, ml_h m lm) Φ else wp Ln xs 79 67 [.double z0, mj_hole, .double z2, mj_hole, .long y4, mj_hole, .int x6] [] (u, ml_h m lm) Φ := (wp_same xd79_61 (Or.inr rfl) rfl).trans ((wp_same xd79_62 (Or.inr rfl) rfl).trans ((wp_same xd79_63 (Or.inr rfl) rfl).trans (wx_if xd79_64 rfl rfl ((nI 0) ≤ (Op.cmpValue (FP.dcmp z2 FP.dconst1) .g)) mb_ge)))
theorem x79_67 {z0 : UInt64} {z2 : UInt64} {y4 : Int64} {x6 : Int32} (hn0 : FP.dmul z2 4611686018427387904 &&& 0x7fffffffffffffff ≤ 0x7ff0000000000000) : wp Ln xs 79 67 [.double z0, mj_hole, .double z2, mj_hole, .long y4, mj_hole, .int x6] [] (u, ml_h m lm) Φ = wp Ln xs 79 54 [.double z0, mj_hole, .double (FP.dmul z2 4611686018427387904), mj_hole, .long (y4 - 1), mj_hole, .int (x6 + nI 1)] [] (u, ml_h m lm) Φ := (wp_same xd79_67 (Or.inr rfl) rfl).trans ((wm_ldc2 (v := .double 4611686018427387904) xd79_68 rfl rfl).trans ((wx_dmul xd79_71 hn0).trans ((wp_same (L' := [.double z0, mj_hole, .double (FP.dmul z2 4611686018427387904), mj_hole, .long y4, mj_hole, .int x6]) xd79_72 (Or.inr rfl) rfl).trans ((wp_same xd79_73 (Or.inr rfl) rfl).trans ((wp_same xd79_75 (Or.inr rfl) rfl).trans ((wp_same xd79_76 (Or.inr rfl) rfl).trans ((wp_same (L' := [.double z0, mj_hole, .double (FP.dmul z2 4611686018427387904), mj_hole, .long (y4 - 1), mj_hole, .int x6]) xd79_77 (Or.inr rfl) rfl).trans ((wp_same (L' := [.double z0, mj_hole, .double (FP.dmul z2 4611686018427387904), mj_hole, .long (y4 - 1), mj_hole, .int (x6 + nI 1)]) xd79_79 (Or.inr rfl) rfl).trans (wx_goto xd79_82 rfl)))))))))
theorem x79_85 {z0 : UInt64} {z2 : UInt64} {y4 : Int64} {x6 : Int32} (hn0 : FP.dsub z2 FP.dconst1 &&& 0x7fffffffffffffff ≤ 0x7ff0000000000000) (hn1 : FP.dmul (FP.dsub z2 FP.dconst1) 4841369599423283200 &&& 0x7fffffffffffffff ≤ 0x7ff0000000000000) : wp Ln xs 79 85 [.double z0, mj_hole, .double z2, mj_hole, .long y4, mj_hole, .int x6] [] (u, ml_h m lm) Φ = Φ (.inl (some (.long ((y4 <<< ((nI 52).toInt64 &&& 63)) + (FP.d2l (FP.dmul (FP.dsub z2 FP.dconst1) 4841369599423283200)))))) (u, ml_h m lm) := (wp_same xd79_85 (Or.inr rfl) rfl).trans ((wp_same (S' := [.int (nI 52), .long y4]) xd79_87 (Or.inr rfl) rfl).trans ((wp_same xd79_89 (Or.inr rfl) rfl).trans ((wp_same xd79_90 (Or.inr rfl) rfl).trans ((wp_same xd79_91 (Or.inr rfl) rfl).trans ((wx_dsub xd79_92 hn0).trans ((wm_ldc2 (v := .double 4841369599423283200) xd79_93 rfl rfl).trans ((wx_dmul xd79_96 hn1).trans ((wp_same xd79_97 (Or.inr rfl) rfl).trans ((wp_same xd79_98 (Or.inr rfl) rfl).trans (wp_fin (v := some (.long ((y4 <<< ((nI 52).toInt64 &&& 63)) + (FP.d2l (FP.dmul (FP.dsub z2 FP.dconst1) 4841369599423283200))))) xd79_99 (Or.inr rfl) rfl rfl))))))))))
/- PickedForms$Floats.bitsOfFloat -/
theorem xd80_0 : decode (mj_b 80) 0 = .ok (.fload_n 0, 1) := by decide +kernel
theorem xd80_1 : decode (mj_b 80) 1 = .ok (.fconst 0, 1) := by decide +kernel
theorem xd80_2 : decode (mj_b 80) 2 = .ok (.fcmp .g, 1) := by decide +kernel
theorem xd80_3 : decode (mj_b 80) 3 = .ok (.ifCond .gt 5, 3) := by decide +kernel
theorem xd80_6 : decode (mj_b 80) 6 = .ok (.iconst 0, 1) := by decide +kernel
theorem xd80_7 : decode (mj_b 80) 7 = .ok (.ireturn, 1) := by decide +kernel
theorem xd80_8 : decode (mj_b 80) 8 = .ok (.fload_n 0, 1) := by decide +kernel
theorem xd80_9 : decode (mj_b 80) 9 = .ok (.fstore_n 1, 1) := by decide +kernel
theorem xd80_10 : decode (mj_b 80) 10 = .ok (.bipush 127, 2) := by decide +kernel
theorem xd80_12 : decode (mj_b 80) 12 = .ok (.istore_n 2, 1) := by decide +kernel
theorem xd80_13 : decode (mj_b 80) 13 = .ok (.iconst 0, 1) := by decide +kernel
theorem xd80_14 : decode (mj_b 80) 14 = .ok (.istore_n 3, 1) := by decide +kernel
theorem xd80_15 : decode (mj_b 80) 15 = .ok (.iload_n 3, 1) := by decide +kernel
theorem xd80_16 : decode (mj_b 80) 16 = .ok (.bipush 100, 2) := by decide +kernel
theorem xd80_18 : decode (mj_b 80) 18 = .ok (.if_icmp .ge 22, 3) := by decide +kernel
theorem xd80_21 : decode (mj_b 80) 21 = .ok (.fload_n 1, 1) := by decide +kernel
theorem xd80_22 : decode (mj_b 80) 22 = .ok (.fconst 2, 1) := by decide +kernel
theorem xd80_23 : decode (mj_b 80) 23 = .ok (.fcmp .l, 1) := by decide +kernel
theorem xd80_24 : decode (mj_b 80) 24 = .ok (.ifCond .lt 16, 3) := by decide +kernel
theorem xd80_27 : decode (mj_b 80) 27 = .ok (.fload_n 1, 1) := by decide +kernel
theorem xd80_28 : decode (mj_b 80) 28 = .ok (.fconst 2, 1) := by decide +kernel
theorem xd80_29 : decode (mj_b 80) 29 = .ok (.fdiv, 1) := by decide +kernel
theorem xd80_30 : decode (mj_b 80) 30 = .ok (.fstore_n 1, 1) := by decide +kernel
theorem xd80_31 : decode (mj_b 80) 31 = .ok (.iinc 2 1, 3) := by decide +kernel
theorem xd80_34 : decode (mj_b 80) 34 = .ok (.iinc 3 1, 3) := by decide +kernel
theorem xd80_37 : decode (mj_b 80) 37 = .ok (.goto (-22), 3) := by decide +kernel
theorem xd80_40 : decode (mj_b 80) 40 = .ok (.iconst 0, 1) := by decide +kernel
theorem xd80_41 : decode (mj_b 80) 41 = .ok (.istore_n 3, 1) := by decide +kernel
theorem xd80_42 : decode (mj_b 80) 42 = .ok (.iload_n 3, 1) := by decide +kernel
theorem xd80_43 : decode (mj_b 80) 43 = .ok (.bipush 100, 2) := by decide +kernel
theorem xd80_45 : decode (mj_b 80) 45 = .ok (.if_icmp .ge 22, 3) := by decide +kernel
theorem xd80_48 : decode (mj_b 80) 48 = .ok (.fload_n 1, 1) := by decide +kernel
theorem xd80_49 : decode (mj_b 80) 49 = .ok (.fconst 1, 1) := by decide +kernel
theorem xd80_50 : decode (mj_b 80) 50 = .ok (.fcmp .g, 1) := by decide +kernel
theorem xd80_51 : decode (mj_b 80) 51 = .ok (.ifCond .ge 16, 3) := by decide +kernel
theorem xd80_54 : decode (mj_b 80) 54 = .ok (.fload_n 1, 1) := by decide +kernel
theorem xd80_55 : decode (mj_b 80) 55 = .ok (.fconst 2, 1) := by decide +kernel
theorem xd80_56 : decode (mj_b 80) 56 = .ok (.fmul, 1) := by decide +kernel
theorem xd80_57 : decode (mj_b 80) 57 = .ok (.fstore_n 1, 1) := by decide +kernel
theorem xd80_58 : decode (mj_b 80) 58 = .ok (.iinc 2 (-1), 3) := by decide +kernel
theorem xd80_61 : decode (mj_b 80) 61 = .ok (.iinc 3 1, 3) := by decide +kernel
theorem xd80_64 : decode (mj_b 80) 64 = .ok (.goto (-22), 3) := by decide +kernel
theorem xd80_67 : decode (mj_b 80) 67 = .ok (.iload_n 2, 1) := by decide +kernel
theorem xd80_68 : decode (mj_b 80) 68 = .ok (.bipush 23, 2) := by decide +kernel
theorem xd80_70 : decode (mj_b 80) 70 = .ok (.ishl, 1) := by decide +kernel
theorem xd80_71 : decode (mj_b 80) 71 = .ok (.fload_n 1, 1) := by decide +kernel
theorem xd80_72 : decode (mj_b 80) 72 = .ok (.fconst 1, 1) := by decide +kernel
theorem xd80_73 : decode (mj_b 80) 73 = .ok (.fsub, 1) := by decide +kernel
theorem xd80_74 : decode (mj_b 80) 74 = .ok (.ldc 15, 2) := by decide +kernel
theorem xd80_76 : decode (mj_b 80) 76 = .ok (.fmul, 1) := by decide +kernel
theorem xd80_77 : decode (mj_b 80) 77 = .ok (.f2i, 1) := by decide +kernel
theorem xd80_78 : decode (mj_b 80) 78 = .ok (.iadd, 1) := by decide +kernel
theorem xd80_79 : decode (mj_b 80) 79 = .ok (.ireturn, 1) := by decide +kernel
theorem x80_0 {z0 : UInt32} : wp Ln xs 80 0 [.float z0, mj_hole, mj_hole, mj_hole] [] (u, ml_h m lm) Φ = if (nI 0) < (Op.cmpValue (FP.fcmp z0 FP.fconst0) .g) then wp Ln xs 80 8 [.float z0, mj_hole, mj_hole, mj_hole] [] (u, ml_h m lm) Φ else wp Ln xs 80 6 [.float z0, mj_hole, mj_hole, mj_hole] [] (u, ml_h m lm) Φ := (wp_same xd80_0 (Or.inr rfl) rfl).trans ((wp_same xd80_1 (Or.inr rfl) rfl).trans ((wp_same xd80_2 (Or.inr rfl) rfl).trans (wx_if xd80_3 rfl rfl ((nI 0) < (Op.cmpValue (FP.fcmp z0 FP.fconst0) .g)) mb_gt)))
theorem x80_6 {z0 : UInt32} : wp Ln xs 80 6 [.float z0, mj_hole, mj_hole, mj_hole] [] (u, ml_h m lm) Φ = Φ (.inl (some (.int (nI 0)))) (u, ml_h m lm) := (wp_same (S' := [.int (nI 0)]) xd80_6 (Or.inr rfl) rfl).trans (wp_fin (v := some (.int (nI 0))) xd80_7 (Or.inr rfl) rfl (mj_fin_i rfl))
theorem x80_8 {z0 : UInt32} : wp Ln xs 80 8 [.float z0, mj_hole, mj_hole, mj_hole] [] (u, ml_h m lm) Φ = wp Ln xs 80 15 [.float z0, .float z0, .int (nI 127), .int (nI 0)] [] (u, ml_h m lm) Φ := (wp_same xd80_8 (Or.inr rfl) rfl).trans ((wp_same (L' := [.float z0, .float z0, mj_hole, mj_hole]) xd80_9 (Or.inr rfl) rfl).trans ((wp_same (S' := [.int (nI 127)]) xd80_10 (Or.inr rfl) rfl).trans ((wp_same (L' := [.float z0, .float z0, .int (nI 127), mj_hole]) xd80_12 (Or.inr rfl) rfl).trans ((wp_same (S' := [.int (nI 0)]) xd80_13 (Or.inr rfl) rfl).trans (wp_same (L' := [.float z0, .float z0, .int (nI 127), .int (nI 0)]) xd80_14 (Or.inr rfl) rfl)))))
theorem x80_15 {z0 : UInt32} {z1 : UInt32} {x2 : Int32} {x3 : Int32} : wp Ln xs 80 15 [.float z0, .float z1, .int x2, .int x3] [] (u, ml_h m lm) Φ = if (nI 100) ≤ x3 then wp Ln xs 80 40 [.float z0, .float z1, .int x2, .int x3] [] (u, ml_h m lm) Φ else wp Ln xs 80 21 [.float z0, .float z1, .int x2, .int x3] [] (u, ml_h m lm) Φ := (wp_same xd80_15 (Or.inr rfl) rfl).trans ((wp_same (S' := [.int (nI 100), .int x3]) xd80_16 (Or.inr rfl) rfl).trans (wx_icmp xd80_18 rfl rfl ((nI 100) ≤ x3) mb_ge))
theorem x80_21 {z0 : UInt32} {z1 : UInt32} {x2 : Int32} {x3 : Int32} : wp Ln xs 80 21 [.float z0, .float z1, .int x2, .int x3] [] (u, ml_h m lm) Φ = if (Op.cmpValue (FP.fcmp z1 FP.fconst2) .l) < (nI 0) then wp Ln xs 80 40 [.float z0, .float z1, .int x2, .int x3] [] (u, ml_h m lm) Φ else wp Ln xs 80 27 [.float z0, .float z1, .int x2, .int x3] [] (u, ml_h m lm) Φ := (wp_same xd80_21 (Or.inr rfl) rfl).trans ((wp_same xd80_22 (Or.inr rfl) rfl).trans ((wp_same xd80_23 (Or.inr rfl) rfl).trans (wx_if xd80_24 rfl rfl ((Op.cmpValue (FP.fcmp z1 FP.fconst2) .l) < (nI 0)) mb_lt)))
theorem x80_27 {z0 : UInt32} {z1 : UInt32} {x2 : Int32} {x3 : Int32} (hn0 : FP.fdiv z1 FP.fconst2 &&& 0x7fffffff ≤ 0x7f800000) : wp Ln xs 80 27 [.float z0, .float z1, .int x2, .int x3] [] (u, ml_h m lm) Φ = wp Ln xs 80 15 [.float z0, .float (FP.fdiv z1 FP.fconst2), .int (x2 + nI 1), .int (x3 + nI 1)] [] (u, ml_h m lm) Φ := (wp_same xd80_27 (Or.inr rfl) rfl).trans ((wp_same xd80_28 (Or.inr rfl) rfl).trans ((wx_fdiv xd80_29 hn0).trans ((wp_same (L' := [.float z0, .float (FP.fdiv z1 FP.fconst2), .int x2, .int x3]) xd80_30 (Or.inr rfl) rfl).trans ((wp_same (L' := [.float z0, .float (FP.fdiv z1 FP.fconst2), .int (x2 + nI 1), .int x3]) xd80_31 (Or.inr rfl) rfl).trans ((wp_same (L' := [.float z0, .float (FP.fdiv z1 FP.fconst2), .int (x2 + nI 1), .int (x3 + nI 1)]) xd80_34 (Or.inr rfl) rfl).trans (wx_goto xd80_37 rfl))))))
theorem x80_40 {z0 : UInt32} {z1 : UInt32} {x2 : Int32} {x3 : Int32} : wp Ln xs 80 40 [.float z0, .float z1, .int x2, .int x3] [] (u, ml_h m lm) Φ = wp Ln xs 80 42 [.float z0, .float z1, .int x2, .int (nI 0)] [] (u, ml_h m lm) Φ := (wp_same (S' := [.int (nI 0)]) xd80_40 (Or.inr rfl) rfl).trans (wp_same (L' := [.float z0, .float z1, .int x2, .int (nI 0)]) xd80_41 (Or.inr rfl) rfl)
theorem x80_42 {z0 : UInt32} {z1 : UInt32} {x2 : Int32} {x3 : Int32} : wp Ln xs 80 42 [.float z0, .float z1, .int x2, .int x3] [] (u, ml_h m lm) Φ = if (nI 100) ≤ x3 then wp Ln xs 80 67 [.float z0, .float z1, .int x2, .int x3] [] (u, ml_h m lm) Φ else wp Ln xs 80 48 [.float z0, .float z1, .int x2, .int x3] [] (u, ml_h m lm) Φ := (wp_same xd80_42 (Or.inr rfl) rfl).trans ((wp_same (S' := [.int (nI 100), .int x3]) xd80_43 (Or.inr rfl) rfl).trans (wx_icmp xd80_45 rfl rfl ((nI 100) ≤ x3) mb_ge))
theorem x80_48 {z0 : UInt32} {z1 : UInt32} {x2 : Int32} {x3 : Int32} : wp Ln xs 80 48 [.float z0, .float z1, .int x2, .int x3] [] (u, ml_h m lm) Φ = if (nI 0) ≤ (Op.cmpValue (FP.fcmp z1 FP.fconst1) .g) then wp Ln xs 80 67 [.float z0, .float z1, .int x2, .int x3] [] (u, ml_h m lm) Φ else wp Ln xs 80 54 [.float z0, .float z1, .int x2, .int x3] [] (u, ml_h m lm) Φ := (wp_same xd80_48 (Or.inr rfl) rfl).trans ((wp_same xd80_49 (Or.inr rfl) rfl).trans ((wp_same xd80_50 (Or.inr rfl) rfl).trans (wx_if xd80_51 rfl rfl ((nI 0) ≤ (Op.cmpValue (FP.fcmp z1 FP.fconst1) .g)) mb_ge)))
theorem x80_54 {z0 : UInt32} {z1 : UInt32} {x2 : Int32} {x3 : Int32} (hn0 : FP.fmul z1 FP.fconst2 &&& 0x7fffffff ≤ 0x7f800000) : wp Ln xs 80 54 [.float z0, .float z1, .int x2, .int x3] [] (u, ml_h m lm) Φ = wp Ln xs 80 42 [.float z0, .float (FP.fmul z1 FP.fconst2), .int (x2 + (-1)), .int (x3 + nI 1)] [] (u, ml_h m lm) Φ := (wp_same xd80_54 (Or.inr rfl) rfl).trans ((wp_same xd80_55 (Or.inr rfl) rfl).trans ((wx_fmul xd80_56 hn0).trans ((wp_same (L' := [.float z0, .float (FP.fmul z1 FP.fconst2), .int x2, .int x3]) xd80_57 (Or.inr rfl) rfl).trans ((wp_same (L' := [.float z0, .float (FP.fmul z1 FP.fconst2), .int (x2 + (-1)), .int x3]) xd80_58 (Or.inr rfl) rfl).trans ((wp_same (L' := [.float z0, .float (FP.fmul z1 FP.fconst2), .int (x2 + (-1)), .int (x3 + nI 1)]) xd80_61 (Or.inr rfl) rfl).trans (wx_goto xd80_64 rfl))))))
theorem x80_67 {z0 : UInt32} {z1 : UInt32} {x2 : Int32} {x3 : Int32} (hn0 : FP.fsub z1 FP.fconst1 &&& 0x7fffffff ≤ 0x7f800000) (hn1 : FP.fmul (FP.fsub z1 FP.fconst1) 1258291200 &&& 0x7fffffff ≤ 0x7f800000) : wp Ln xs 80 67 [.float z0, .float z1, .int x2, .int x3] [] (u, ml_h m lm) Φ = Φ (.inl (some (.int ((x2 <<< ((nI 23) &&& 31)) + (FP.f2i (FP.fmul (FP.fsub z1 FP.fconst1) 1258291200)))))) (u, ml_h m lm) := (wp_same xd80_67 (Or.inr rfl) rfl).trans ((wp_same (S' := [.int (nI 23), .int x2]) xd80_68 (Or.inr rfl) rfl).trans ((wp_same xd80_70 (Or.inr rfl) rfl).trans ((wp_same xd80_71 (Or.inr rfl) rfl).trans ((wp_same xd80_72 (Or.inr rfl) rfl).trans ((wx_fsub xd80_73 hn0).trans ((wm_ldc (v := .float 1258291200) xd80_74 rfl rfl ⟨rfl, rfl⟩).trans ((wx_fmul xd80_76 hn1).trans ((wp_same xd80_77 (Or.inr rfl) rfl).trans ((wp_same xd80_78 (Or.inr rfl) rfl).trans (wp_fin (v := some (.int ((x2 <<< ((nI 23) &&& 31)) + (FP.f2i (FP.fmul (FP.fsub z1 FP.fconst1) 1258291200))))) xd80_79 (Or.inr rfl) rfl (mj_fin_i rfl)))))))))))
/- PickedFormsLaw.write -/
theorem xd81_0 : decode (mj_b 81) 0 = .ok (.aload_n 2, 1) := by decide +kernel
theorem xd81_1 : decode (mj_b 81) 1 = .ok (.iconst 0, 1) := by decide +kernel
theorem xd81_2 : decode (mj_b 81) 2 = .ok (.aload_n 0, 1) := by decide +kernel
theorem xd81_3 : decode (mj_b 81) 3 = .ok (.iload_n 1, 1) := by decide +kernel
theorem xd81_4 : decode (mj_b 81) 4 = .ok (.invokevirtual 7, 3) := by decide +kernel
theorem xd81_7 : decode (mj_b 81) 7 = .ok (.i2l, 1) := by decide +kernel
theorem xd81_8 : decode (mj_b 81) 8 = .ok (.lastore, 1) := by decide +kernel
theorem xd81_9 : decode (mj_b 81) 9 = .ok (.goto 9, 3) := by decide +kernel
theorem xd81_13 : decode (mj_b 81) 13 = .ok (.iconst 1, 1) := by decide +kernel
theorem xd81_14 : decode (mj_b 81) 14 = .ok (.ireturn, 1) := by decide +kernel
theorem xd81_16 : decode (mj_b 81) 16 = .ok (.iconst 2, 1) := by decide +kernel
theorem xd81_17 : decode (mj_b 81) 17 = .ok (.ireturn, 1) := by decide +kernel
theorem xd81_18 : decode (mj_b 81) 18 = .ok (.iconst 0, 1) := by decide +kernel
theorem xd81_19 : decode (mj_b 81) 19 = .ok (.ireturn, 1) := by decide +kernel
theorem x81_0 {x1 : Int32} : wp Ln xs 81 0 [.ref 1, .int x1, .ref 81, mj_hole] [] (u, ml_h m lm) Φ = wp Ln xs 82 0 [.ref 1, .int x1] [] (u, ml_h m lm) (mk Ln xs 81 4 [.ref 1, .int x1, .ref 81, mj_hole] [.int (nI 0), .ref 81] Φ) := (wp_same xd81_0 (Or.inr rfl) rfl).trans ((wp_same (S' := [.int (nI 0), .ref 81]) xd81_1 (Or.inr rfl) rfl).trans ((wp_same xd81_2 (Or.inr rfl) rfl).trans ((wp_same xd81_3 (Or.inr rfl) rfl).trans (wm_cv (As := [.int x1]) (rest := [.int (nI 0), .ref 81]) xd81_4 rfl rfl (show ml_L[1]? = _ from rfl) (Nat.le_of_ble_eq_true rfl) (Nat.le_of_ble_eq_true rfl) (Nat.le_of_ble_eq_true rfl) (Nat.le_of_ble_eq_true rfl)))))
theorem x81_7 {x1 : Int32} {xs0 : Int32} {xs1 : Int32} : wp Ln xs 81 7 [.ref 1, .int x1, .ref 81, mj_hole] [.int xs0, .int xs1, .ref 81] (u, ml_h m lm) Φ = wp Ln xs 81 8 [.ref 1, .int x1, .ref 81, mj_hole] [.long xs0.toInt64, .int xs1, .ref 81] (u, ml_h m lm) Φ := wp_same xd81_7 (Or.inr rfl) rfl
theorem x81_8 {x1 : Int32} {ys0 : Int64} {k : Nat} (hk : k < 1) : wp Ln xs 81 8 [.ref 1, .int x1, .ref 81, mj_hole] [.long ys0, .int (nI k), .ref 81] (u, ml_h m lm) Φ = wp Ln xs 81 18 [.ref 1, .int x1, .ref 81, mj_hole] [] (u, ml_h m (ml_sj lm 81 k ys0)) Φ := (wm_last (k := k) xd81_8 rfl hk (by decide)).trans (wx_goto xd81_9 rfl)
theorem x81_13 {x1 : Int32} : wp Ln xs 81 13 [.ref 1, .int x1, .ref 81, mj_hole] [] (u, ml_h m lm) Φ = Φ (.inl (some (.int (nI 1)))) (u, ml_h m lm) := (wp_same (S' := [.int (nI 1)]) xd81_13 (Or.inr rfl) rfl).trans (wp_fin (v := some (.int (nI 1))) xd81_14 (Or.inr rfl) rfl (mj_fin_i rfl))
theorem x81_16 {x1 : Int32} : wp Ln xs 81 16 [.ref 1, .int x1, .ref 81, mj_hole] [] (u, ml_h m lm) Φ = Φ (.inl (some (.int (nI 2)))) (u, ml_h m lm) := (wp_same (S' := [.int (nI 2)]) xd81_16 (Or.inr rfl) rfl).trans (wp_fin (v := some (.int (nI 2))) xd81_17 (Or.inr rfl) rfl (mj_fin_i rfl))
theorem x81_18 {x1 : Int32} : wp Ln xs 81 18 [.ref 1, .int x1, .ref 81, mj_hole] [] (u, ml_h m lm) Φ = Φ (.inl (some (.int (nI 0)))) (u, ml_h m lm) := (wp_same (S' := [.int (nI 0)]) xd81_18 (Or.inr rfl) rfl).trans (wp_fin (v := some (.int (nI 0))) xd81_19 (Or.inr rfl) rfl (mj_fin_i rfl))
/- PickedForms.write -/
theorem xd82_0 : decode (mj_b 82) 0 = .ok (.iload_n 1, 1) := by decide +kernel
theorem xd82_1 : decode (mj_b 82) 1 = .ok (.invokestatic 76, 3) := by decide +kernel
theorem xd82_4 : decode (mj_b 82) 4 = .ok (.ifCond .ne 13, 3) := by decide +kernel
theorem xd82_7 : decode (mj_b 82) 7 = .ok (.new 80, 3) := by decide +kernel
theorem xd82_17 : decode (mj_b 82) 17 = .ok (.aload_n 0, 1) := by decide +kernel
theorem xd82_18 : decode (mj_b 82) 18 = .ok (.getfield 12, 3) := by decide +kernel
theorem xd82_21 : decode (mj_b 82) 21 = .ok (.invokevirtual 87, 3) := by decide +kernel
theorem xd82_24 : decode (mj_b 82) 24 = .ok (.ifCond .ne 13, 3) := by decide +kernel
theorem xd82_27 : decode (mj_b 82) 27 = .ok (.new 91, 3) := by decide +kernel
theorem xd82_37 : decode (mj_b 82) 37 = .ok (.aload_n 0, 1) := by decide +kernel
theorem xd82_38 : decode (mj_b 82) 38 = .ok (.getfield 26, 3) := by decide +kernel
theorem xd82_41 : decode (mj_b 82) 41 = .ok (.aload_n 0, 1) := by decide +kernel
theorem xd82_42 : decode (mj_b 82) 42 = .ok (.getfield 12, 3) := by decide +kernel
theorem xd82_45 : decode (mj_b 82) 45 = .ok (.invokevirtual 96, 3) := by decide +kernel
theorem xd82_48 : decode (mj_b 82) 48 = .ok (.aload_n 0, 1) := by decide +kernel
theorem xd82_49 : decode (mj_b 82) 49 = .ok (.iload_n 1, 1) := by decide +kernel
theorem xd82_50 : decode (mj_b 82) 50 = .ok (.invokevirtual 100, 3) := by decide +kernel
theorem xd82_53 : decode (mj_b 82) 53 = .ok (.aload_n 0, 1) := by decide +kernel
theorem xd82_54 : decode (mj_b 82) 54 = .ok (.getfield 12, 3) := by decide +kernel
theorem xd82_57 : decode (mj_b 82) 57 = .ok (.getfield 104, 3) := by decide +kernel
theorem xd82_60 : decode (mj_b 82) 60 = .ok (.ireturn, 1) := by decide +kernel
theorem x82_0 {x1 : Int32} : wp Ln xs 82 0 [.ref 1, .int x1] [] (u, ml_h m lm) Φ = wp Ln xs 83 0 [.int x1] [] (u, ml_h m lm) (mk Ln xs 82 1 [.ref 1, .int x1] [] Φ) := (wp_same xd82_0 (Or.inr rfl) rfl).trans (wm_cs (As := [.int x1]) (rest := []) xd82_1 rfl rfl (Nat.le_of_ble_eq_true rfl) (Nat.le_of_ble_eq_true rfl) (Nat.le_of_ble_eq_true rfl) (Nat.le_of_ble_eq_true rfl))
theorem x82_4 {x1 : Int32} {xs0 : Int32} : wp Ln xs 82 4 [.ref 1, .int x1] [.int xs0] (u, ml_h m lm) Φ = if ¬ xs0 = (nI 0) then wp Ln xs 82 17 [.ref 1, .int x1] [] (u, ml_h m lm) Φ else wp Ln xs 82 7 [.ref 1, .int x1] [] (u, ml_h m lm) Φ := wx_if xd82_4 rfl rfl (¬ xs0 = (nI 0)) mb_ne
theorem x82_7 {x1 : Int32} : wp Ln xs 82 7 [.ref 1, .int x1] [] (u, ml_h m lm) Φ = Φ (.inr 0) ((u.1, u.2.1 + 1, u.2.2 + 6), ml_h m lm) := wp_thr xd82_7 (Or.inr rfl) rfl rfl (E := 0) (by decide +kernel)
theorem x82_17 {x1 : Int32} : wp Ln xs 82 17 [.ref 1, .int x1] [] (u, ml_h m lm) Φ = wp Ln xs 84 0 [.ref 2] [] (u, ml_h m lm) (mk Ln xs 82 21 [.ref 1, .int x1] [] Φ) := (wp_same xd82_17 (Or.inr rfl) rfl).trans ((wm_getr xd82_18 rfl (show ml_L[1]? = _ from rfl) rfl (Nat.le_of_ble_eq_true rfl)).trans (wm_cv (As := []) (rest := []) xd82_21 rfl rfl (show ml_L[2]? = _ from rfl) (Nat.le_of_ble_eq_true rfl) (Nat.le_of_ble_eq_true rfl) (Nat.le_of_ble_eq_true rfl) (Nat.le_of_ble_eq_true rfl)))
theorem x82_24 {x1 : Int32} {xs0 : Int32} : wp Ln xs 82 24 [.ref 1, .int x1] [.int xs0] (u, ml_h m lm) Φ = if ¬ xs0 = (nI 0) then wp Ln xs 82 37 [.ref 1, .int x1] [] (u, ml_h m lm) Φ else wp Ln xs 82 27 [.ref 1, .int x1] [] (u, ml_h m lm) Φ := wx_if xd82_24 rfl rfl (¬ xs0 = (nI 0)) mb_ne
theorem x82_27 {x1 : Int32} : wp Ln xs 82 27 [.ref 1, .int x1] [] (u, ml_h m lm) Φ = Φ (.inr 1) ((u.1, u.2.1 + 1, u.2.2 + 6), ml_h m lm) := wp_thr xd82_27 (Or.inr rfl) rfl rfl (E := 1) (by decide +kernel)
theorem x82_37 {x1 : Int32} : wp Ln xs 82 37 [.ref 1, .int x1] [] (u, ml_h m lm) Φ = wp Ln xs 85 0 [.ref 14, .ref 2, mj_hole] [] (u, ml_h m lm) (mk Ln xs 82 45 [.ref 1, .int x1] [] Φ) := (wp_same xd82_37 (Or.inr rfl) rfl).trans ((wm_getr xd82_38 rfl (show ml_L[1]? = _ from rfl) rfl (Nat.le_of_ble_eq_true rfl)).trans ((wp_same xd82_41 (Or.inr rfl) rfl).trans ((wm_getr xd82_42 rfl (show ml_L[1]? = _ from rfl) rfl (Nat.le_of_ble_eq_true rfl)).trans (wm_cv (As := [.ref 2]) (rest := []) xd82_45 rfl rfl (show ml_L[14]? = _ from rfl) (Nat.le_of_ble_eq_true rfl) (Nat.le_of_ble_eq_true rfl) (Nat.le_of_ble_eq_true rfl) (Nat.le_of_ble_eq_true rfl)))))
theorem x82_48 {x1 : Int32} : wp Ln xs 82 48 [.ref 1, .int x1] [] (u, ml_h m lm) Φ = wp Ln xs 87 0 [.ref 1, .int x1] [] (u, ml_h m lm) (mk Ln xs 82 50 [.ref 1, .int x1] [] Φ) := (wp_same xd82_48 (Or.inr rfl) rfl).trans ((wp_same xd82_49 (Or.inr rfl) rfl).trans (wm_cv (As := [.int x1]) (rest := []) xd82_50 rfl rfl (show ml_L[1]? = _ from rfl) (Nat.le_of_ble_eq_true rfl) (Nat.le_of_ble_eq_true rfl) (Nat.le_of_ble_eq_true rfl) (Nat.le_of_ble_eq_true rfl)))
theorem x82_53 {x1 : Int32} : wp Ln xs 82 53 [.ref 1, .int x1] [] (u, ml_h m lm) Φ = Φ (.inl (some (.int (m 2 5)))) (u, ml_h m lm) := (wp_same xd82_53 (Or.inr rfl) rfl).trans ((wm_getr xd82_54 rfl (show ml_L[1]? = _ from rfl) rfl (Nat.le_of_ble_eq_true rfl)).trans ((wm_geti xd82_57 rfl (show ml_L[2]? = _ from rfl) rfl (Nat.le_of_ble_eq_true rfl)).trans (wp_fin (v := some (.int (m 2 5))) xd82_60 (Or.inr rfl) rfl (mj_fin_i rfl))))
/- PickedForms.isValue -/
theorem xd83_0 : decode (mj_b 83) 0 = .ok (.iload_n 0, 1) := by decide +kernel
theorem xd83_1 : decode (mj_b 83) 1 = .ok (.ifCond .lt 14, 3) := by decide +kernel
theorem xd83_4 : decode (mj_b 83) 4 = .ok (.iload_n 0, 1) := by decide +kernel
theorem xd83_5 : decode (mj_b 83) 5 = .ok (.sipush 999, 3) := by decide +kernel
theorem xd83_8 : decode (mj_b 83) 8 = .ok (.if_icmp .gt 7, 3) := by decide +kernel
theorem xd83_11 : decode (mj_b 83) 11 = .ok (.iconst 1, 1) := by decide +kernel
theorem xd83_12 : decode (mj_b 83) 12 = .ok (.goto 4, 3) := by decide +kernel
theorem xd83_15 : decode (mj_b 83) 15 = .ok (.iconst 0, 1) := by decide +kernel
theorem xd83_16 : decode (mj_b 83) 16 = .ok (.ireturn, 1) := by decide +kernel
theorem x83_0 {x0 : Int32} : wp Ln xs 83 0 [.int x0] [] (u, ml_h m lm) Φ = if x0 < (nI 0) then wp Ln xs 83 15 [.int x0] [] (u, ml_h m lm) Φ else wp Ln xs 83 4 [.int x0] [] (u, ml_h m lm) Φ := (wp_same xd83_0 (Or.inr rfl) rfl).trans (wx_if xd83_1 rfl rfl (x0 < (nI 0)) mb_lt)
theorem x83_4 {x0 : Int32} : wp Ln xs 83 4 [.int x0] [] (u, ml_h m lm) Φ = if (nI 999) < x0 then wp Ln xs 83 15 [.int x0] [] (u, ml_h m lm) Φ else wp Ln xs 83 11 [.int x0] [] (u, ml_h m lm) Φ := (wp_same xd83_4 (Or.inr rfl) rfl).trans ((wp_same (S' := [.int (nI 999), .int x0]) xd83_5 (Or.inr rfl) rfl).trans (wx_icmp xd83_8 rfl rfl ((nI 999) < x0) mb_gt))
theorem x83_11 {x0 : Int32} : wp Ln xs 83 11 [.int x0] [] (u, ml_h m lm) Φ = Φ (.inl (some (.int (nI 1)))) (u, ml_h m lm) := (wp_same (S' := [.int (nI 1)]) xd83_11 (Or.inr rfl) rfl).trans ((wx_goto xd83_12 rfl).trans (wp_fin (v := some (.int (nI 1))) xd83_16 (Or.inr rfl) rfl rfl))
theorem x83_15 {x0 : Int32} : wp Ln xs 83 15 [.int x0] [] (u, ml_h m lm) Φ = Φ (.inl (some (.int (nI 0)))) (u, ml_h m lm) := (wp_same (S' := [.int (nI 0)]) xd83_15 (Or.inr rfl) rfl).trans (wp_fin (v := some (.int (nI 0))) xd83_16 (Or.inr rfl) rfl rfl)
/- PickedForms$Column.canTake -/
theorem xd84_0 : decode (mj_b 84) 0 = .ok (.aload_n 0, 1) := by decide +kernel
theorem xd84_1 : decode (mj_b 84) 1 = .ok (.getfield 31, 3) := by decide +kernel
theorem xd84_4 : decode (mj_b 84) 4 = .ok (.bipush 12, 2) := by decide +kernel
theorem xd84_6 : decode (mj_b 84) 6 = .ok (.if_icmp .lt 17, 3) := by decide +kernel
theorem xd84_9 : decode (mj_b 84) 9 = .ok (.aload_n 0, 1) := by decide +kernel
theorem xd84_10 : decode (mj_b 84) 10 = .ok (.invokevirtual 54, 3) := by decide +kernel
theorem xd84_13 : decode (mj_b 84) 13 = .ok (.iconst 1, 1) := by decide +kernel
theorem xd84_14 : decode (mj_b 84) 14 = .ok (.iadd, 1) := by decide +kernel
theorem xd84_15 : decode (mj_b 84) 15 = .ok (.aload_n 0, 1) := by decide +kernel
theorem xd84_16 : decode (mj_b 84) 16 = .ok (.iconst 1, 1) := by decide +kernel
theorem xd84_17 : decode (mj_b 84) 17 = .ok (.invokevirtual 58, 3) := by decide +kernel
theorem xd84_20 : decode (mj_b 84) 20 = .ok (.if_icmp .ge 7, 3) := by decide +kernel
theorem xd84_23 : decode (mj_b 84) 23 = .ok (.iconst 1, 1) := by decide +kernel
theorem xd84_24 : decode (mj_b 84) 24 = .ok (.goto 4, 3) := by decide +kernel
theorem xd84_27 : decode (mj_b 84) 27 = .ok (.iconst 0, 1) := by decide +kernel
theorem xd84_28 : decode (mj_b 84) 28 = .ok (.ireturn, 1) := by decide +kernel
theorem x84_0 : wp Ln xs 84 0 [.ref 2] [] (u, ml_h m lm) Φ = if (m 2 6) < (nI 12) then wp Ln xs 84 23 [.ref 2] [] (u, ml_h m lm) Φ else wp Ln xs 84 9 [.ref 2] [] (u, ml_h m lm) Φ := (wp_same xd84_0 (Or.inr rfl) rfl).trans ((wm_geti xd84_1 rfl (show ml_L[2]? = _ from rfl) rfl (Nat.le_of_ble_eq_true rfl)).trans ((wp_same (S' := [.int (nI 12), .int (m 2 6)]) xd84_4 (Or.inr rfl) rfl).trans (wx_icmp xd84_6 rfl rfl ((m 2 6) < (nI 12)) mb_lt)))
theorem x84_9 : wp Ln xs 84 9 [.ref 2] [] (u, ml_h m lm) Φ = wp Ln xs 23 0 [.ref 2] [] (u, ml_h m lm) (mk Ln xs 84 10 [.ref 2] [] Φ) := (wp_same xd84_9 (Or.inr rfl) rfl).trans (wm_cv (As := []) (rest := []) xd84_10 rfl rfl (show ml_L[2]? = _ from rfl) (Nat.le_of_ble_eq_true rfl) (Nat.le_of_ble_eq_true rfl) (Nat.le_of_ble_eq_true rfl) (Nat.le_of_ble_eq_true rfl))
theorem x84_13 {xs0 : Int32} : wp Ln xs 84 13 [.ref 2] [.int xs0] (u, ml_h m lm) Φ = wp Ln xs 41 0 [.ref 2, .int (nI 1)] [] (u, ml_h m lm) (mk Ln xs 84 17 [.ref 2] [.int (xs0 + (nI 1))] Φ) := (wp_same (S' := [.int (nI 1), .int xs0]) xd84_13 (Or.inr rfl) rfl).trans ((wp_same xd84_14 (Or.inr rfl) rfl).trans ((wp_same xd84_15 (Or.inr rfl) rfl).trans ((wp_same (S' := [.int (nI 1), .ref 2, .int (xs0 + (nI 1))]) xd84_16 (Or.inr rfl) rfl).trans (wm_cv (As := [.int (nI 1)]) (rest := [.int (xs0 + (nI 1))]) xd84_17 rfl rfl (show ml_L[2]? = _ from rfl) (Nat.le_of_ble_eq_true rfl) (Nat.le_of_ble_eq_true rfl) (Nat.le_of_ble_eq_true rfl) (Nat.le_of_ble_eq_true rfl)))))
theorem x84_20 {xs0 : Int32} {xs1 : Int32} : wp Ln xs 84 20 [.ref 2] [.int xs0, .int xs1] (u, ml_h m lm) Φ = if xs0 ≤ xs1 then wp Ln xs 84 27 [.ref 2] [] (u, ml_h m lm) Φ else wp Ln xs 84 23 [.ref 2] [] (u, ml_h m lm) Φ := wx_icmp xd84_20 rfl rfl (xs0 ≤ xs1) mb_ge
theorem x84_23 : wp Ln xs 84 23 [.ref 2] [] (u, ml_h m lm) Φ = Φ (.inl (some (.int (nI 1)))) (u, ml_h m lm) := (wp_same (S' := [.int (nI 1)]) xd84_23 (Or.inr rfl) rfl).trans ((wx_goto xd84_24 rfl).trans (wp_fin (v := some (.int (nI 1))) xd84_28 (Or.inr rfl) rfl rfl))
theorem x84_27 : wp Ln xs 84 27 [.ref 2] [] (u, ml_h m lm) Φ = Φ (.inl (some (.int (nI 0)))) (u, ml_h m lm) := (wp_same (S' := [.int (nI 0)]) xd84_27 (Or.inr rfl) rfl).trans (wp_fin (v := some (.int (nI 0))) xd84_28 (Or.inr rfl) rfl rfl)
/- PickedForms$History.push -/
theorem xd85_0 : decode (mj_b 85) 0 = .ok (.aload_n 0, 1) := by decide +kernel
theorem xd85_1 : decode (mj_b 85) 1 = .ok (.aload_n 0, 1) := by decide +kernel
theorem xd85_2 : decode (mj_b 85) 2 = .ok (.getfield 17, 3) := by decide +kernel
theorem xd85_5 : decode (mj_b 85) 5 = .ok (.aload_n 0, 1) := by decide +kernel
theorem xd85_6 : decode (mj_b 85) 6 = .ok (.getfield 21, 3) := by decide +kernel
theorem xd85_9 : decode (mj_b 85) 9 = .ok (.iadd, 1) := by decide +kernel
theorem xd85_10 : decode (mj_b 85) 10 = .ok (.invokevirtual 25, 3) := by decide +kernel
theorem xd85_13 : decode (mj_b 85) 13 = .ok (.astore_n 2, 1) := by decide +kernel
theorem xd85_14 : decode (mj_b 85) 14 = .ok (.aload_n 2, 1) := by decide +kernel
theorem xd85_15 : decode (mj_b 85) 15 = .ok (.ifnull 8, 3) := by decide +kernel
theorem xd85_18 : decode (mj_b 85) 18 = .ok (.aload_n 2, 1) := by decide +kernel
theorem xd85_19 : decode (mj_b 85) 19 = .ok (.aload_n 1, 1) := by decide +kernel
theorem xd85_20 : decode (mj_b 85) 20 = .ok (.invokevirtual 29, 3) := by decide +kernel
theorem xd85_23 : decode (mj_b 85) 23 = .ok (.aload_n 0, 1) := by decide +kernel
theorem xd85_24 : decode (mj_b 85) 24 = .ok (.getfield 21, 3) := by decide +kernel
theorem xd85_27 : decode (mj_b 85) 27 = .ok (.bipush 6, 2) := by decide +kernel
theorem xd85_29 : decode (mj_b 85) 29 = .ok (.if_icmp .ge 16, 3) := by decide +kernel
theorem xd85_32 : decode (mj_b 85) 32 = .ok (.aload_n 0, 1) := by decide +kernel
theorem xd85_33 : decode (mj_b 85) 33 = .ok (.dup, 1) := by decide +kernel
theorem xd85_34 : decode (mj_b 85) 34 = .ok (.getfield 21, 3) := by decide +kernel
theorem xd85_37 : decode (mj_b 85) 37 = .ok (.iconst 1, 1) := by decide +kernel
theorem xd85_38 : decode (mj_b 85) 38 = .ok (.iadd, 1) := by decide +kernel
theorem xd85_39 : decode (mj_b 85) 39 = .ok (.putfield 21, 3) := by decide +kernel
theorem xd85_42 : decode (mj_b 85) 42 = .ok (.goto 16, 3) := by decide +kernel
theorem xd85_45 : decode (mj_b 85) 45 = .ok (.aload_n 0, 1) := by decide +kernel
theorem xd85_46 : decode (mj_b 85) 46 = .ok (.aload_n 0, 1) := by decide +kernel
theorem xd85_47 : decode (mj_b 85) 47 = .ok (.getfield 17, 3) := by decide +kernel
theorem xd85_50 : decode (mj_b 85) 50 = .ok (.iconst 1, 1) := by decide +kernel
theorem xd85_51 : decode (mj_b 85) 51 = .ok (.iadd, 1) := by decide +kernel
theorem xd85_52 : decode (mj_b 85) 52 = .ok (.bipush 6, 2) := by decide +kernel
theorem xd85_54 : decode (mj_b 85) 54 = .ok (.irem, 1) := by decide +kernel
theorem xd85_55 : decode (mj_b 85) 55 = .ok (.putfield 17, 3) := by decide +kernel
theorem xd85_58 : decode (mj_b 85) 58 = .ok (.return_, 1) := by decide +kernel
theorem x85_0 : wp Ln xs 85 0 [.ref 14, .ref 2, mj_hole] [] (u, ml_h m lm) Φ = wp Ln xs 86 0 [.ref 14, .int ((m 14 1) + (m 14 2)), mj_hole] [] (u, ml_h m lm) (mk Ln xs 85 10 [.ref 14, .ref 2, mj_hole] [] Φ) := (wp_same xd85_0 (Or.inr rfl) rfl).trans ((wp_same xd85_1 (Or.inr rfl) rfl).trans ((wm_geti xd85_2 rfl (show ml_L[14]? = _ from rfl) rfl (Nat.le_of_ble_eq_true rfl)).trans ((wp_same xd85_5 (Or.inr rfl) rfl).trans ((wm_geti xd85_6 rfl (show ml_L[14]? = _ from rfl) rfl (Nat.le_of_ble_eq_true rfl)).trans ((wp_same xd85_9 (Or.inr rfl) rfl).trans (wm_cv (As := [.int ((m 14 1) + (m 14 2))]) (rest := []) xd85_10 rfl rfl (show ml_L[14]? = _ from rfl) (Nat.le_of_ble_eq_true rfl) (Nat.le_of_ble_eq_true rfl) (Nat.le_of_ble_eq_true rfl) (Nat.le_of_ble_eq_true rfl)))))))
theorem x85_13 {rs0 : Nat} (hrs0 : ml_co rs0) : wp Ln xs 85 13 [.ref 14, .ref 2, mj_hole] [.ref rs0] (u, ml_h m lm) Φ = wp Ln xs 18 0 [.ref rs0, .ref 2] [] (u, ml_h m lm) (mk Ln xs 85 20 [.ref 14, .ref 2, .ref rs0] [] Φ) := (wp_same (L' := [.ref 14, .ref 2, .ref rs0]) xd85_13 (Or.inr rfl) rfl).trans ((wp_same xd85_14 (Or.inr rfl) rfl).trans ((wp_same xd85_15 (Or.inr rfl) rfl).trans ((wp_same xd85_18 (Or.inr rfl) rfl).trans ((wp_same xd85_19 (Or.inr rfl) rfl).trans (wm_cv (As := [.ref 2]) (rest := []) xd85_20 rfl rfl hrs0.1 (Nat.le_of_ble_eq_true rfl) (Nat.le_of_ble_eq_true rfl) (Nat.le_of_ble_eq_true rfl) (Nat.le_of_ble_eq_true rfl))))))
theorem x85_23 {r2 : Nat} : wp Ln xs 85 23 [.ref 14, .ref 2, .ref r2] [] (u, ml_h m lm) Φ = if (nI 6) ≤ (m 14 2) then wp Ln xs 85 45 [.ref 14, .ref 2, .ref r2] [] (u, ml_h m lm) Φ else wp Ln xs 85 32 [.ref 14, .ref 2, .ref r2] [] (u, ml_h m lm) Φ := (wp_same xd85_23 (Or.inr rfl) rfl).trans ((wm_geti xd85_24 rfl (show ml_L[14]? = _ from rfl) rfl (Nat.le_of_ble_eq_true rfl)).trans ((wp_same (S' := [.int (nI 6), .int (m 14 2)]) xd85_27 (Or.inr rfl) rfl).trans (wx_icmp xd85_29 rfl rfl ((nI 6) ≤ (m 14 2)) mb_ge)))
theorem x85_32 {r2 : Nat} : wp Ln xs 85 32 [.ref 14, .ref 2, .ref r2] [] (u, ml_h m lm) Φ = Φ (.inl none) (u, ml_h (ml_s m 14 2 ((m 14 2) + (nI 1))) lm) := (wp_same xd85_32 (Or.inr rfl) rfl).trans ((wp_same xd85_33 (Or.inr rfl) rfl).trans ((wm_geti xd85_34 rfl (show ml_L[14]? = _ from rfl) rfl (Nat.le_of_ble_eq_true rfl)).trans ((wp_same (S' := [.int (nI 1), .int (m 14 2), .ref 14]) xd85_37 (Or.inr rfl) rfl).trans ((wp_same xd85_38 (Or.inr rfl) rfl).trans ((wm_puti xd85_39 rfl (show ml_L[14]? = _ from rfl) rfl (Nat.le_of_ble_eq_true rfl) rfl rfl rfl).trans ((wx_goto xd85_42 rfl).trans (wp_fin (v := none) xd85_58 (Or.inr rfl) rfl rfl)))))))
theorem x85_45 {r2 : Nat} : wp Ln xs 85 45 [.ref 14, .ref 2, .ref r2] [] (u, ml_h m lm) Φ = Φ (.inl none) (u, ml_h (ml_s m 14 1 (((m 14 1) + (nI 1)) - ((m 14 1) + (nI 1)) / (nI 6) * (nI 6))) lm) := (wp_same xd85_45 (Or.inr rfl) rfl).trans ((wp_same xd85_46 (Or.inr rfl) rfl).trans ((wm_geti xd85_47 rfl (show ml_L[14]? = _ from rfl) rfl (Nat.le_of_ble_eq_true rfl)).trans ((wp_same (S' := [.int (nI 1), .int (m 14 1), .ref 14]) xd85_50 (Or.inr rfl) rfl).trans ((wp_same xd85_51 (Or.inr rfl) rfl).trans ((wp_same (S' := [.int (nI 6), .int ((m 14 1) + (nI 1)), .ref 14]) xd85_52 (Or.inr rfl) rfl).trans ((wp_same xd85_54 (Or.inr rfl) rfl).trans ((wm_puti xd85_55 rfl (show ml_L[14]? = _ from rfl) rfl (Nat.le_of_ble_eq_true rfl) rfl rfl rfl).trans (wp_fin (v := none) xd85_58 (Or.inr rfl) rfl rfl))))))))
/- PickedForms$History.slotAt -/
theorem xd86_0 : decode (mj_b 86) 0 = .ok (.iload_n 1, 1) := by decide +kernel
theorem xd86_1 : decode (mj_b 86) 1 = .ok (.bipush 6, 2) := by decide +kernel
theorem xd86_3 : decode (mj_b 86) 3 = .ok (.irem, 1) := by decide +kernel
theorem xd86_4 : decode (mj_b 86) 4 = .ok (.istore_n 2, 1) := by decide +kernel
theorem xd86_5 : decode (mj_b 86) 5 = .ok (.iload_n 2, 1) := by decide +kernel
theorem xd86_6 : decode (mj_b 86) 6 = .ok (.ifCond .lt 21, 3) := by decide +kernel
theorem xd86_9 : decode (mj_b 86) 9 = .ok (.iload_n 2, 1) := by decide +kernel
theorem xd86_10 : decode (mj_b 86) 10 = .ok (.aload_n 0, 1) := by decide +kernel
theorem xd86_11 : decode (mj_b 86) 11 = .ok (.getfield 11, 3) := by decide +kernel
theorem xd86_14 : decode (mj_b 86) 14 = .ok (.arraylength, 1) := by decide +kernel
theorem xd86_15 : decode (mj_b 86) 15 = .ok (.if_icmp .ge 12, 3) := by decide +kernel
theorem xd86_18 : decode (mj_b 86) 18 = .ok (.aload_n 0, 1) := by decide +kernel
theorem xd86_19 : decode (mj_b 86) 19 = .ok (.getfield 11, 3) := by decide +kernel
theorem xd86_22 : decode (mj_b 86) 22 = .ok (.iload_n 2, 1) := by decide +kernel
theorem xd86_23 : decode (mj_b 86) 23 = .ok (.aaload, 1) := by decide +kernel
theorem xd86_24 : decode (mj_b 86) 24 = .ok (.goto 4, 3) := by decide +kernel
theorem xd86_27 : decode (mj_b 86) 27 = .ok (.aconst_null, 1) := by decide +kernel
theorem xd86_28 : decode (mj_b 86) 28 = .ok (.areturn, 1) := by decide +kernel
theorem x86_0 {x1 : Int32} : wp Ln xs 86 0 [.ref 14, .int x1, mj_hole] [] (u, ml_h m lm) Φ = if (x1 - x1 / (nI 6) * (nI 6)) < (nI 0) then wp Ln xs 86 27 [.ref 14, .int x1, .int (x1 - x1 / (nI 6) * (nI 6))] [] (u, ml_h m lm) Φ else wp Ln xs 86 9 [.ref 14, .int x1, .int (x1 - x1 / (nI 6) * (nI 6))] [] (u, ml_h m lm) Φ := (wp_same xd86_0 (Or.inr rfl) rfl).trans ((wp_same (S' := [.int (nI 6), .int x1]) xd86_1 (Or.inr rfl) rfl).trans ((wp_same xd86_3 (Or.inr rfl) rfl).trans ((wp_same (L' := [.ref 14, .int x1, .int (x1 - x1 / (nI 6) * (nI 6))]) xd86_4 (Or.inr rfl) rfl).trans ((wp_same xd86_5 (Or.inr rfl) rfl).trans (wx_if xd86_6 rfl rfl ((x1 - x1 / (nI 6) * (nI 6)) < (nI 0)) mb_lt)))))
theorem x86_9 {x1 : Int32} {x2 : Int32} : wp Ln xs 86 9 [.ref 14, .int x1, .int x2] [] (u, ml_h m lm) Φ = if (nI 6) ≤ x2 then wp Ln xs 86 27 [.ref 14, .int x1, .int x2] [] (u, ml_h m lm) Φ else wp Ln xs 86 18 [.ref 14, .int x1, .int x2] [] (u, ml_h m lm) Φ := (wp_same xd86_9 (Or.inr rfl) rfl).trans ((wp_same xd86_10 (Or.inr rfl) rfl).trans ((wm_getr xd86_11 rfl (show ml_L[14]? = _ from rfl) rfl (Nat.le_of_ble_eq_true rfl)).trans ((wm_alenq xd86_14 rfl (by decide)).trans (wx_icmp xd86_15 rfl rfl ((nI 6) ≤ x2) mb_ge))))
theorem x86_18 {x1 : Int32} {x2 : Int32} : wp Ln xs 86 18 [.ref 14, .int x1, .int x2] [] (u, ml_h m lm) Φ = wp Ln xs 86 23 [.ref 14, .int x1, .int x2] [.int x2, .ref 15] (u, ml_h m lm) Φ := (wp_same xd86_18 (Or.inr rfl) rfl).trans ((wm_getr xd86_19 rfl (show ml_L[14]? = _ from rfl) rfl (Nat.le_of_ble_eq_true rfl)).trans (wp_same xd86_22 (Or.inr rfl) rfl))
theorem x86_23 {x1 : Int32} {x2 : Int32} {k : Nat} (hk : k < 6) : wp Ln xs 86 23 [.ref 14, .int x1, .int x2] [.int (nI k), .ref 15] (u, ml_h m lm) Φ = Φ (.inl (some (.ref (16 + 6 * k)))) (u, ml_h m lm) := (wm_aald xd86_23 rfl hk).trans ((wx_goto xd86_24 rfl).trans (wp_fin (v := some (.ref (16 + 6 * k))) xd86_28 (Or.inr rfl) rfl rfl))
/- PickedForms.takeValue -/
theorem xd87_0 : decode (mj_b 87) 0 = .ok (.aload_n 0, 1) := by decide +kernel
theorem xd87_1 : decode (mj_b 87) 1 = .ok (.getfield 12, 3) := by decide +kernel
theorem xd87_4 : decode (mj_b 87) 4 = .ok (.getfield 139, 3) := by decide +kernel
theorem xd87_7 : decode (mj_b 87) 7 = .ok (.aload_n 0, 1) := by decide +kernel
theorem xd87_8 : decode (mj_b 87) 8 = .ok (.getfield 12, 3) := by decide +kernel
theorem xd87_11 : decode (mj_b 87) 11 = .ok (.getfield 104, 3) := by decide +kernel
theorem xd87_14 : decode (mj_b 87) 14 = .ok (.iload_n 1, 1) := by decide +kernel
theorem xd87_15 : decode (mj_b 87) 15 = .ok (.invokestatic 142, 3) := by decide +kernel
theorem xd87_18 : decode (mj_b 87) 18 = .ok (.aload_n 0, 1) := by decide +kernel
theorem xd87_19 : decode (mj_b 87) 19 = .ok (.getfield 12, 3) := by decide +kernel
theorem xd87_22 : decode (mj_b 87) 22 = .ok (.dup, 1) := by decide +kernel
theorem xd87_23 : decode (mj_b 87) 23 = .ok (.getfield 104, 3) := by decide +kernel
theorem xd87_26 : decode (mj_b 87) 26 = .ok (.iconst 1, 1) := by decide +kernel
theorem xd87_27 : decode (mj_b 87) 27 = .ok (.iadd, 1) := by decide +kernel
theorem xd87_28 : decode (mj_b 87) 28 = .ok (.putfield 104, 3) := by decide +kernel
theorem xd87_31 : decode (mj_b 87) 31 = .ok (.aload_n 0, 1) := by decide +kernel
theorem xd87_32 : decode (mj_b 87) 32 = .ok (.getfield 12, 3) := by decide +kernel
theorem xd87_35 : decode (mj_b 87) 35 = .ok (.invokevirtual 108, 3) := by decide +kernel
theorem xd87_38 : decode (mj_b 87) 38 = .ok (.aload_n 0, 1) := by decide +kernel
theorem xd87_39 : decode (mj_b 87) 39 = .ok (.getfield 12, 3) := by decide +kernel
theorem xd87_42 : decode (mj_b 87) 42 = .ok (.iconst 1, 1) := by decide +kernel
theorem xd87_43 : decode (mj_b 87) 43 = .ok (.invokevirtual 200, 3) := by decide +kernel
theorem xd87_46 : decode (mj_b 87) 46 = .ok (.if_icmp .lt 23, 3) := by decide +kernel
theorem xd87_49 : decode (mj_b 87) 49 = .ok (.aload_n 0, 1) := by decide +kernel
theorem xd87_50 : decode (mj_b 87) 50 = .ok (.getfield 12, 3) := by decide +kernel
theorem xd87_53 : decode (mj_b 87) 53 = .ok (.invokevirtual 117, 3) := by decide +kernel
theorem xd87_56 : decode (mj_b 87) 56 = .ok (.aload_n 0, 1) := by decide +kernel
theorem xd87_57 : decode (mj_b 87) 57 = .ok (.aload_n 0, 1) := by decide +kernel
theorem xd87_58 : decode (mj_b 87) 58 = .ok (.getfield 12, 3) := by decide +kernel
theorem xd87_61 : decode (mj_b 87) 61 = .ok (.getfield 112, 3) := by decide +kernel
theorem xd87_64 : decode (mj_b 87) 64 = .ok (.iconst 1, 1) := by decide +kernel
theorem xd87_65 : decode (mj_b 87) 65 = .ok (.isub, 1) := by decide +kernel
theorem xd87_66 : decode (mj_b 87) 66 = .ok (.invokevirtual 120, 3) := by decide +kernel
theorem xd87_69 : decode (mj_b 87) 69 = .ok (.return_, 1) := by decide +kernel
theorem x87_0 {x1 : Int32} : wp Ln xs 87 0 [.ref 1, .int x1] [] (u, ml_h m lm) Φ = wp Ln xs 55 0 [.ref 3, .int (m 2 5), .int x1] [] (u, ml_h m lm) (mk Ln xs 87 15 [.ref 1, .int x1] [] Φ) := (wp_same xd87_0 (Or.inr rfl) rfl).trans ((wm_getr xd87_1 rfl (show ml_L[1]? = _ from rfl) rfl (Nat.le_of_ble_eq_true rfl)).trans ((wm_getr xd87_4 rfl (show ml_L[2]? = _ from rfl) rfl (Nat.le_of_ble_eq_true rfl)).trans ((wp_same xd87_7 (Or.inr rfl) rfl).trans ((wm_getr xd87_8 rfl (show ml_L[1]? = _ from rfl) rfl (Nat.le_of_ble_eq_true rfl)).trans ((wm_geti xd87_11 rfl (show ml_L[2]? = _ from rfl) rfl (Nat.le_of_ble_eq_true rfl)).trans ((wp_same xd87_14 (Or.inr rfl) rfl).trans (wm_cs (As := [.ref 3, .int (m 2 5), .int x1]) (rest := []) xd87_15 rfl rfl (Nat.le_of_ble_eq_true rfl) (Nat.le_of_ble_eq_true rfl) (Nat.le_of_ble_eq_true rfl) (Nat.le_of_ble_eq_true rfl))))))))
theorem x87_18 {x1 : Int32} : wp Ln xs 87 18 [.ref 1, .int x1] [] (u, ml_h m lm) Φ = wp Ln xs 23 0 [.ref 2] [] (u, ml_h (ml_s m 2 5 ((m 2 5) + (nI 1))) lm) (mk Ln xs 87 35 [.ref 1, .int x1] [] Φ) := (wp_same xd87_18 (Or.inr rfl) rfl).trans ((wm_getr xd87_19 rfl (show ml_L[1]? = _ from rfl) rfl (Nat.le_of_ble_eq_true rfl)).trans ((wp_same xd87_22 (Or.inr rfl) rfl).trans ((wm_geti xd87_23 rfl (show ml_L[2]? = _ from rfl) rfl (Nat.le_of_ble_eq_true rfl)).trans ((wp_same (S' := [.int (nI 1), .int (m 2 5), .ref 2]) xd87_26 (Or.inr rfl) rfl).trans ((wp_same xd87_27 (Or.inr rfl) rfl).trans ((wm_puti xd87_28 rfl (show ml_L[2]? = _ from rfl) rfl (Nat.le_of_ble_eq_true rfl) rfl rfl rfl).trans ((wp_same xd87_31 (Or.inr rfl) rfl).trans ((wm_getr xd87_32 rfl (show ml_L[1]? = _ from rfl) rfl (Nat.le_of_ble_eq_true rfl)).trans (wm_cv (As := []) (rest := []) xd87_35 rfl rfl (show ml_L[2]? = _ from rfl) (Nat.le_of_ble_eq_true rfl) (Nat.le_of_ble_eq_true rfl) (Nat.le_of_ble_eq_true rfl) (Nat.le_of_ble_eq_true rfl))))))))))
theorem x87_38 {x1 : Int32} {xs0 : Int32} : wp Ln xs 87 38 [.ref 1, .int x1] [.int xs0] (u, ml_h m lm) Φ = wp Ln xs 41 0 [.ref 2, .int (nI 1)] [] (u, ml_h m lm) (mk Ln xs 87 43 [.ref 1, .int x1] [.int xs0] Φ) := (wp_same xd87_38 (Or.inr rfl) rfl).trans ((wm_getr xd87_39 rfl (show ml_L[1]? = _ from rfl) rfl (Nat.le_of_ble_eq_true rfl)).trans ((wp_same (S' := [.int (nI 1), .ref 2, .int xs0]) xd87_42 (Or.inr rfl) rfl).trans (wm_cv (As := [.int (nI 1)]) (rest := [.int xs0]) xd87_43 rfl rfl (show ml_L[2]? = _ from rfl) (Nat.le_of_ble_eq_true rfl) (Nat.le_of_ble_eq_true rfl) (Nat.le_of_ble_eq_true rfl) (Nat.le_of_ble_eq_true rfl))))
theorem x87_46 {x1 : Int32} {xs0 : Int32} {xs1 : Int32} : wp Ln xs 87 46 [.ref 1, .int x1] [.int xs0, .int xs1] (u, ml_h m lm) Φ = if xs1 < xs0 then wp Ln xs 87 69 [.ref 1, .int x1] [] (u, ml_h m lm) Φ else wp Ln xs 87 49 [.ref 1, .int x1] [] (u, ml_h m lm) Φ := wx_icmp xd87_46 rfl rfl (xs1 < xs0) mb_lt
theorem x87_49 {x1 : Int32} : wp Ln xs 87 49 [.ref 1, .int x1] [] (u, ml_h m lm) Φ = wp Ln xs 88 0 [.ref 2, mj_hole] [] (u, ml_h m lm) (mk Ln xs 87 53 [.ref 1, .int x1] [] Φ) := (wp_same xd87_49 (Or.inr rfl) rfl).trans ((wm_getr xd87_50 rfl (show ml_L[1]? = _ from rfl) rfl (Nat.le_of_ble_eq_true rfl)).trans (wm_cv (As := []) (rest := []) xd87_53 rfl rfl (show ml_L[2]? = _ from rfl) (Nat.le_of_ble_eq_true rfl) (Nat.le_of_ble_eq_true rfl) (Nat.le_of_ble_eq_true rfl) (Nat.le_of_ble_eq_true rfl)))
theorem x87_56 {x1 : Int32} : wp Ln xs 87 56 [.ref 1, .int x1] [] (u, ml_h m lm) Φ = wp Ln xs 89 0 [.ref 1, .int ((m 2 6) - (nI 1))] [] (u, ml_h m lm) (mk Ln xs 87 66 [.ref 1, .int x1] [] Φ) := (wp_same xd87_56 (Or.inr rfl) rfl).trans ((wp_same xd87_57 (Or.inr rfl) rfl).trans ((wm_getr xd87_58 rfl (show ml_L[1]? = _ from rfl) rfl (Nat.le_of_ble_eq_true rfl)).trans ((wm_geti xd87_61 rfl (show ml_L[2]? = _ from rfl) rfl (Nat.le_of_ble_eq_true rfl)).trans ((wp_same (S' := [.int (nI 1), .int (m 2 6), .ref 1]) xd87_64 (Or.inr rfl) rfl).trans ((wp_same xd87_65 (Or.inr rfl) rfl).trans (wm_cv (As := [.int ((m 2 6) - (nI 1))]) (rest := []) xd87_66 rfl rfl (show ml_L[1]? = _ from rfl) (Nat.le_of_ble_eq_true rfl) (Nat.le_of_ble_eq_true rfl) (Nat.le_of_ble_eq_true rfl) (Nat.le_of_ble_eq_true rfl)))))))
theorem x87_69 {x1 : Int32} : wp Ln xs 87 69 [.ref 1, .int x1] [] (u, ml_h m lm) Φ = Φ (.inl none) (u, ml_h m lm) := wp_fin (v := none) xd87_69 (Or.inr rfl) rfl rfl
/- PickedForms$Column.makeTailBlock -/
theorem xd88_0 : decode (mj_b 88) 0 = .ok (.aload_n 0, 1) := by decide +kernel
theorem xd88_1 : decode (mj_b 88) 1 = .ok (.invokevirtual 54, 3) := by decide +kernel
theorem xd88_4 : decode (mj_b 88) 4 = .ok (.istore_n 1, 1) := by decide +kernel
theorem xd88_5 : decode (mj_b 88) 5 = .ok (.aload_n 0, 1) := by decide +kernel
theorem xd88_6 : decode (mj_b 88) 6 = .ok (.getfield 15, 3) := by decide +kernel
theorem xd88_9 : decode (mj_b 88) 9 = .ok (.aload_n 0, 1) := by decide +kernel
theorem xd88_10 : decode (mj_b 88) 10 = .ok (.getfield 31, 3) := by decide +kernel
theorem xd88_13 : decode (mj_b 88) 13 = .ok (.iload_n 1, 1) := by decide +kernel
theorem xd88_14 : decode (mj_b 88) 14 = .ok (.invokestatic 61, 3) := by decide +kernel
theorem xd88_17 : decode (mj_b 88) 17 = .ok (.aload_n 0, 1) := by decide +kernel
theorem xd88_18 : decode (mj_b 88) 18 = .ok (.dup, 1) := by decide +kernel
theorem xd88_19 : decode (mj_b 88) 19 = .ok (.getfield 31, 3) := by decide +kernel
theorem xd88_22 : decode (mj_b 88) 22 = .ok (.iconst 1, 1) := by decide +kernel
theorem xd88_23 : decode (mj_b 88) 23 = .ok (.iadd, 1) := by decide +kernel
theorem xd88_24 : decode (mj_b 88) 24 = .ok (.putfield 31, 3) := by decide +kernel
theorem xd88_27 : decode (mj_b 88) 27 = .ok (.return_, 1) := by decide +kernel
theorem x88_0 : wp Ln xs 88 0 [.ref 2, mj_hole] [] (u, ml_h m lm) Φ = wp Ln xs 23 0 [.ref 2] [] (u, ml_h m lm) (mk Ln xs 88 1 [.ref 2, mj_hole] [] Φ) := (wp_same xd88_0 (Or.inr rfl) rfl).trans (wm_cv (As := []) (rest := []) xd88_1 rfl rfl (show ml_L[2]? = _ from rfl) (Nat.le_of_ble_eq_true rfl) (Nat.le_of_ble_eq_true rfl) (Nat.le_of_ble_eq_true rfl) (Nat.le_of_ble_eq_true rfl))
theorem x88_4 {xs0 : Int32} : wp Ln xs 88 4 [.ref 2, mj_hole] [.int xs0] (u, ml_h m lm) Φ = wp Ln xs 55 0 [.ref 4, .int (m 2 6), .int xs0] [] (u, ml_h m lm) (mk Ln xs 88 14 [.ref 2, .int xs0] [] Φ) := (wp_same (L' := [.ref 2, .int xs0]) xd88_4 (Or.inr rfl) rfl).trans ((wp_same xd88_5 (Or.inr rfl) rfl).trans ((wm_getr xd88_6 rfl (show ml_L[2]? = _ from rfl) rfl (Nat.le_of_ble_eq_true rfl)).trans ((wp_same xd88_9 (Or.inr rfl) rfl).trans ((wm_geti xd88_10 rfl (show ml_L[2]? = _ from rfl) rfl (Nat.le_of_ble_eq_true rfl)).trans ((wp_same xd88_13 (Or.inr rfl) rfl).trans (wm_cs (As := [.ref 4, .int (m 2 6), .int xs0]) (rest := []) xd88_14 rfl rfl (Nat.le_of_ble_eq_true rfl) (Nat.le_of_ble_eq_true rfl) (Nat.le_of_ble_eq_true rfl) (Nat.le_of_ble_eq_true rfl)))))))
theorem x88_17 {x1 : Int32} : wp Ln xs 88 17 [.ref 2, .int x1] [] (u, ml_h m lm) Φ = Φ (.inl none) (u, ml_h (ml_s m 2 6 ((m 2 6) + (nI 1))) lm) := (wp_same xd88_17 (Or.inr rfl) rfl).trans ((wp_same xd88_18 (Or.inr rfl) rfl).trans ((wm_geti xd88_19 rfl (show ml_L[2]? = _ from rfl) rfl (Nat.le_of_ble_eq_true rfl)).trans ((wp_same (S' := [.int (nI 1), .int (m 2 6), .ref 2]) xd88_22 (Or.inr rfl) rfl).trans ((wp_same xd88_23 (Or.inr rfl) rfl).trans ((wm_puti xd88_24 rfl (show ml_L[2]? = _ from rfl) rfl (Nat.le_of_ble_eq_true rfl) rfl rfl rfl).trans (wp_fin (v := none) xd88_27 (Or.inr rfl) rfl rfl))))))
/- PickedForms.writeAnew -/
theorem xd89_0 : decode (mj_b 89) 0 = .ok (.aload_n 0, 1) := by decide +kernel
theorem xd89_1 : decode (mj_b 89) 1 = .ok (.getfield 47, 3) := by decide +kernel
theorem xd89_4 : decode (mj_b 89) 4 = .ok (.aload_n 0, 1) := by decide +kernel
theorem xd89_5 : decode (mj_b 89) 5 = .ok (.getfield 12, 3) := by decide +kernel
theorem xd89_8 : decode (mj_b 89) 8 = .ok (.getfield 139, 3) := by decide +kernel
theorem xd89_11 : decode (mj_b 89) 11 = .ok (.aload_n 0, 1) := by decide +kernel
theorem xd89_12 : decode (mj_b 89) 12 = .ok (.getfield 12, 3) := by decide +kernel
theorem xd89_15 : decode (mj_b 89) 15 = .ok (.iload_n 1, 1) := by decide +kernel
theorem xd89_16 : decode (mj_b 89) 16 = .ok (.invokevirtual 182, 3) := by decide +kernel
theorem xd89_19 : decode (mj_b 89) 19 = .ok (.aload_n 0, 1) := by decide +kernel
theorem xd89_20 : decode (mj_b 89) 20 = .ok (.getfield 12, 3) := by decide +kernel
theorem xd89_23 : decode (mj_b 89) 23 = .ok (.iload_n 1, 1) := by decide +kernel
theorem xd89_24 : decode (mj_b 89) 24 = .ok (.invokevirtual 164, 3) := by decide +kernel
theorem xd89_27 : decode (mj_b 89) 27 = .ok (.aload_n 0, 1) := by decide +kernel
theorem xd89_28 : decode (mj_b 89) 28 = .ok (.getfield 12, 3) := by decide +kernel
theorem xd89_31 : decode (mj_b 89) 31 = .ok (.getfield 203, 3) := by decide +kernel
theorem xd89_34 : decode (mj_b 89) 34 = .ok (.invokevirtual 360, 3) := by decide +kernel
theorem xd89_37 : decode (mj_b 89) 37 = .ok (.aload_n 0, 1) := by decide +kernel
theorem xd89_38 : decode (mj_b 89) 38 = .ok (.getfield 12, 3) := by decide +kernel
theorem xd89_41 : decode (mj_b 89) 41 = .ok (.getfield 364, 3) := by decide +kernel
theorem xd89_44 : decode (mj_b 89) 44 = .ok (.iload_n 1, 1) := by decide +kernel
theorem xd89_45 : decode (mj_b 89) 45 = .ok (.aload_n 0, 1) := by decide +kernel
theorem xd89_46 : decode (mj_b 89) 46 = .ok (.getfield 47, 3) := by decide +kernel
theorem xd89_49 : decode (mj_b 89) 49 = .ok (.getfield 367, 3) := by decide +kernel
theorem xd89_52 : decode (mj_b 89) 52 = .ok (.invokestatic 142, 3) := by decide +kernel
theorem xd89_55 : decode (mj_b 89) 55 = .ok (.aload_n 0, 1) := by decide +kernel
theorem xd89_56 : decode (mj_b 89) 56 = .ok (.getfield 12, 3) := by decide +kernel
theorem xd89_59 : decode (mj_b 89) 59 = .ok (.getfield 370, 3) := by decide +kernel
theorem xd89_62 : decode (mj_b 89) 62 = .ok (.iload_n 1, 1) := by decide +kernel
theorem xd89_63 : decode (mj_b 89) 63 = .ok (.aload_n 0, 1) := by decide +kernel
theorem xd89_64 : decode (mj_b 89) 64 = .ok (.getfield 47, 3) := by decide +kernel
theorem xd89_67 : decode (mj_b 89) 67 = .ok (.getfield 373, 3) := by decide +kernel
theorem xd89_70 : decode (mj_b 89) 70 = .ok (.invokestatic 142, 3) := by decide +kernel
theorem xd89_73 : decode (mj_b 89) 73 = .ok (.aload_n 0, 1) := by decide +kernel
theorem xd89_74 : decode (mj_b 89) 74 = .ok (.getfield 12, 3) := by decide +kernel
theorem xd89_77 : decode (mj_b 89) 77 = .ok (.dup, 1) := by decide +kernel
theorem xd89_78 : decode (mj_b 89) 78 = .ok (.getfield 376, 3) := by decide +kernel
theorem xd89_81 : decode (mj_b 89) 81 = .ok (.iconst 1, 1) := by decide +kernel
theorem xd89_82 : decode (mj_b 89) 82 = .ok (.iadd, 1) := by decide +kernel
theorem xd89_83 : decode (mj_b 89) 83 = .ok (.putfield 376, 3) := by decide +kernel
theorem xd89_86 : decode (mj_b 89) 86 = .ok (.return_, 1) := by decide +kernel
theorem x89_0 {x1 : Int32} : wp Ln xs 89 0 [.ref 1, .int x1] [] (u, ml_h m lm) Φ = wp Ln xs 24 0 [.ref 2, .int x1, mj_hole, mj_hole] [] (u, ml_h m lm) (mk Ln xs 89 16 [.ref 1, .int x1] [.ref 3, .ref 58] Φ) := (wp_same xd89_0 (Or.inr rfl) rfl).trans ((wm_getr xd89_1 rfl (show ml_L[1]? = _ from rfl) rfl (Nat.le_of_ble_eq_true rfl)).trans ((wp_same xd89_4 (Or.inr rfl) rfl).trans ((wm_getr xd89_5 rfl (show ml_L[1]? = _ from rfl) rfl (Nat.le_of_ble_eq_true rfl)).trans ((wm_getr xd89_8 rfl (show ml_L[2]? = _ from rfl) rfl (Nat.le_of_ble_eq_true rfl)).trans ((wp_same xd89_11 (Or.inr rfl) rfl).trans ((wm_getr xd89_12 rfl (show ml_L[1]? = _ from rfl) rfl (Nat.le_of_ble_eq_true rfl)).trans ((wp_same xd89_15 (Or.inr rfl) rfl).trans (wm_cv (As := [.int x1]) (rest := [.ref 3, .ref 58]) xd89_16 rfl rfl (show ml_L[2]? = _ from rfl) (Nat.le_of_ble_eq_true rfl) (Nat.le_of_ble_eq_true rfl) (Nat.le_of_ble_eq_true rfl) (Nat.le_of_ble_eq_true rfl)))))))))
theorem x89_19 {x1 : Int32} {xs0 : Int32} : wp Ln xs 89 19 [.ref 1, .int x1] [.int xs0, .ref 3, .ref 58] (u, ml_h m lm) Φ = wp Ln xs 30 0 [.ref 2, .int x1] [] (u, ml_h m lm) (mk Ln xs 89 24 [.ref 1, .int x1] [.int xs0, .ref 3, .ref 58] Φ) := (wp_same xd89_19 (Or.inr rfl) rfl).trans ((wm_getr xd89_20 rfl (show ml_L[1]? = _ from rfl) rfl (Nat.le_of_ble_eq_true rfl)).trans ((wp_same xd89_23 (Or.inr rfl) rfl).trans (wm_cv (As := [.int x1]) (rest := [.int xs0, .ref 3, .ref 58]) xd89_24 rfl rfl (show ml_L[2]? = _ from rfl) (Nat.le_of_ble_eq_true rfl) (Nat.le_of_ble_eq_true rfl) (Nat.le_of_ble_eq_true rfl) (Nat.le_of_ble_eq_true rfl))))
theorem x89_27 {x1 : Int32} {xs0 : Int32} {xs1 : Int32} : wp Ln xs 89 27 [.ref 1, .int x1] [.int xs0, .int xs1, .ref 3, .ref 58] (u, ml_h m lm) Φ = wp Ln xs 49 0 [.ref 58, .ref 3, .int xs1, .int xs0, .ref 7, mj_hole, mj_hole] [] (u, ml_h m lm) (mk Ln xs 89 34 [.ref 1, .int x1] [] Φ) := (wp_same xd89_27 (Or.inr rfl) rfl).trans ((wm_getr xd89_28 rfl (show ml_L[1]? = _ from rfl) rfl (Nat.le_of_ble_eq_true rfl)).trans ((wm_getr xd89_31 rfl (show ml_L[2]? = _ from rfl) rfl (Nat.le_of_ble_eq_true rfl)).trans (wm_cv (As := [.ref 3, .int xs1, .int xs0, .ref 7]) (rest := []) xd89_34 rfl rfl (show ml_L[58]? = _ from rfl) (Nat.le_of_ble_eq_true rfl) (Nat.le_of_ble_eq_true rfl) (Nat.le_of_ble_eq_true rfl) (Nat.le_of_ble_eq_true rfl))))
theorem x89_37 {x1 : Int32} : wp Ln xs 89 37 [.ref 1, .int x1] [] (u, ml_h m lm) Φ = wp Ln xs 55 0 [.ref 5, .int x1, .int (m 58 1)] [] (u, ml_h m lm) (mk Ln xs 89 52 [.ref 1, .int x1] [] Φ) := (wp_same xd89_37 (Or.inr rfl) rfl).trans ((wm_getr xd89_38 rfl (show ml_L[1]? = _ from rfl) rfl (Nat.le_of_ble_eq_true rfl)).trans ((wm_getr xd89_41 rfl (show ml_L[2]? = _ from rfl) rfl (Nat.le_of_ble_eq_true rfl)).trans ((wp_same xd89_44 (Or.inr rfl) rfl).trans ((wp_same xd89_45 (Or.inr rfl) rfl).trans ((wm_getr xd89_46 rfl (show ml_L[1]? = _ from rfl) rfl (Nat.le_of_ble_eq_true rfl)).trans ((wm_geti xd89_49 rfl (show ml_L[58]? = _ from rfl) rfl (Nat.le_of_ble_eq_true rfl)).trans (wm_cs (As := [.ref 5, .int x1, .int (m 58 1)]) (rest := []) xd89_52 rfl rfl (Nat.le_of_ble_eq_true rfl) (Nat.le_of_ble_eq_true rfl) (Nat.le_of_ble_eq_true rfl) (Nat.le_of_ble_eq_true rfl))))))))
theorem x89_55 {x1 : Int32} : wp Ln xs 89 55 [.ref 1, .int x1] [] (u, ml_h m lm) Φ = wp Ln xs 55 0 [.ref 6, .int x1, .int (m 58 2)] [] (u, ml_h m lm) (mk Ln xs 89 70 [.ref 1, .int x1] [] Φ) := (wp_same xd89_55 (Or.inr rfl) rfl).trans ((wm_getr xd89_56 rfl (show ml_L[1]? = _ from rfl) rfl (Nat.le_of_ble_eq_true rfl)).trans ((wm_getr xd89_59 rfl (show ml_L[2]? = _ from rfl) rfl (Nat.le_of_ble_eq_true rfl)).trans ((wp_same xd89_62 (Or.inr rfl) rfl).trans ((wp_same xd89_63 (Or.inr rfl) rfl).trans ((wm_getr xd89_64 rfl (show ml_L[1]? = _ from rfl) rfl (Nat.le_of_ble_eq_true rfl)).trans ((wm_geti xd89_67 rfl (show ml_L[58]? = _ from rfl) rfl (Nat.le_of_ble_eq_true rfl)).trans (wm_cs (As := [.ref 6, .int x1, .int (m 58 2)]) (rest := []) xd89_70 rfl rfl (Nat.le_of_ble_eq_true rfl) (Nat.le_of_ble_eq_true rfl) (Nat.le_of_ble_eq_true rfl) (Nat.le_of_ble_eq_true rfl))))))))
theorem x89_73 {x1 : Int32} : wp Ln xs 89 73 [.ref 1, .int x1] [] (u, ml_h m lm) Φ = Φ (.inl none) (u, ml_h (ml_s m 2 8 ((m 2 8) + (nI 1))) lm) := (wp_same xd89_73 (Or.inr rfl) rfl).trans ((wm_getr xd89_74 rfl (show ml_L[1]? = _ from rfl) rfl (Nat.le_of_ble_eq_true rfl)).trans ((wp_same xd89_77 (Or.inr rfl) rfl).trans ((wm_geti xd89_78 rfl (show ml_L[2]? = _ from rfl) rfl (Nat.le_of_ble_eq_true rfl)).trans ((wp_same (S' := [.int (nI 1), .int (m 2 8), .ref 2]) xd89_81 (Or.inr rfl) rfl).trans ((wp_same xd89_82 (Or.inr rfl) rfl).trans ((wm_puti xd89_83 rfl (show ml_L[2]? = _ from rfl) rfl (Nat.le_of_ble_eq_true rfl) rfl rfl rfl).trans (wp_fin (v := none) xd89_86 (Or.inr rfl) rfl rfl)))))))
/- PickedFormsLaw.close -/
theorem xd90_0 : decode (mj_b 90) 0 = .ok (.aload_n 1, 1) := by decide +kernel
theorem xd90_1 : decode (mj_b 90) 1 = .ok (.iconst 0, 1) := by decide +kernel
theorem xd90_2 : decode (mj_b 90) 2 = .ok (.aload_n 0, 1) := by decide +kernel
theorem xd90_3 : decode (mj_b 90) 3 = .ok (.invokevirtual 17, 3) := by decide +kernel
theorem xd90_6 : decode (mj_b 90) 6 = .ok (.i2l, 1) := by decide +kernel
theorem xd90_7 : decode (mj_b 90) 7 = .ok (.lastore, 1) := by decide +kernel
theorem xd90_8 : decode (mj_b 90) 8 = .ok (.goto 6, 3) := by decide +kernel
theorem xd90_12 : decode (mj_b 90) 12 = .ok (.iconst 1, 1) := by decide +kernel
theorem xd90_13 : decode (mj_b 90) 13 = .ok (.ireturn, 1) := by decide +kernel
theorem xd90_14 : decode (mj_b 90) 14 = .ok (.iconst 0, 1) := by decide +kernel
theorem xd90_15 : decode (mj_b 90) 15 = .ok (.ireturn, 1) := by decide +kernel
theorem x90_0 : wp Ln xs 90 0 [.ref 1, .ref 81, mj_hole] [] (u, ml_h m lm) Φ = wp Ln xs 91 0 [.ref 1] [] (u, ml_h m lm) (mk Ln xs 90 3 [.ref 1, .ref 81, mj_hole] [.int (nI 0), .ref 81] Φ) := (wp_same xd90_0 (Or.inr rfl) rfl).trans ((wp_same (S' := [.int (nI 0), .ref 81]) xd90_1 (Or.inr rfl) rfl).trans ((wp_same xd90_2 (Or.inr rfl) rfl).trans (wm_cv (As := []) (rest := [.int (nI 0), .ref 81]) xd90_3 rfl rfl (show ml_L[1]? = _ from rfl) (Nat.le_of_ble_eq_true rfl) (Nat.le_of_ble_eq_true rfl) (Nat.le_of_ble_eq_true rfl) (Nat.le_of_ble_eq_true rfl))))
theorem x90_6 {xs0 : Int32} {xs1 : Int32} : wp Ln xs 90 6 [.ref 1, .ref 81, mj_hole] [.int xs0, .int xs1, .ref 81] (u, ml_h m lm) Φ = wp Ln xs 90 7 [.ref 1, .ref 81, mj_hole] [.long xs0.toInt64, .int xs1, .ref 81] (u, ml_h m lm) Φ := wp_same xd90_6 (Or.inr rfl) rfl
theorem x90_7 {ys0 : Int64} {k : Nat} (hk : k < 1) : wp Ln xs 90 7 [.ref 1, .ref 81, mj_hole] [.long ys0, .int (nI k), .ref 81] (u, ml_h m lm) Φ = wp Ln xs 90 14 [.ref 1, .ref 81, mj_hole] [] (u, ml_h m (ml_sj lm 81 k ys0)) Φ := (wm_last (k := k) xd90_7 rfl hk (by decide)).trans (wx_goto xd90_8 rfl)
theorem x90_12 : wp Ln xs 90 12 [.ref 1, .ref 81, mj_hole] [] (u, ml_h m lm) Φ = Φ (.inl (some (.int (nI 1)))) (u, ml_h m lm) := (wp_same (S' := [.int (nI 1)]) xd90_12 (Or.inr rfl) rfl).trans (wp_fin (v := some (.int (nI 1))) xd90_13 (Or.inr rfl) rfl (mj_fin_i rfl))
theorem x90_14 : wp Ln xs 90 14 [.ref 1, .ref 81, mj_hole] [] (u, ml_h m lm) Φ = Φ (.inl (some (.int (nI 0)))) (u, ml_h m lm) := (wp_same (S' := [.int (nI 0)]) xd90_14 (Or.inr rfl) rfl).trans (wp_fin (v := some (.int (nI 0))) xd90_15 (Or.inr rfl) rfl (mj_fin_i rfl))
/- PickedForms.close -/
theorem xd91_0 : decode (mj_b 91) 0 = .ok (.aload_n 0, 1) := by decide +kernel
theorem xd91_1 : decode (mj_b 91) 1 = .ok (.getfield 12, 3) := by decide +kernel
theorem xd91_4 : decode (mj_b 91) 4 = .ok (.invokevirtual 108, 3) := by decide +kernel
theorem xd91_7 : decode (mj_b 91) 7 = .ok (.ifCond .eq 15, 3) := by decide +kernel
theorem xd91_10 : decode (mj_b 91) 10 = .ok (.aload_n 0, 1) := by decide +kernel
theorem xd91_11 : decode (mj_b 91) 11 = .ok (.getfield 12, 3) := by decide +kernel
theorem xd91_14 : decode (mj_b 91) 14 = .ok (.getfield 112, 3) := by decide +kernel
theorem xd91_17 : decode (mj_b 91) 17 = .ok (.bipush 12, 2) := by decide +kernel
theorem xd91_19 : decode (mj_b 91) 19 = .ok (.if_icmp .lt 13, 3) := by decide +kernel
theorem xd91_22 : decode (mj_b 91) 22 = .ok (.new 91, 3) := by decide +kernel
theorem xd91_32 : decode (mj_b 91) 32 = .ok (.aload_n 0, 1) := by decide +kernel
theorem xd91_33 : decode (mj_b 91) 33 = .ok (.getfield 26, 3) := by decide +kernel
theorem xd91_36 : decode (mj_b 91) 36 = .ok (.aload_n 0, 1) := by decide +kernel
theorem xd91_37 : decode (mj_b 91) 37 = .ok (.getfield 12, 3) := by decide +kernel
theorem xd91_40 : decode (mj_b 91) 40 = .ok (.invokevirtual 96, 3) := by decide +kernel
theorem xd91_43 : decode (mj_b 91) 43 = .ok (.aload_n 0, 1) := by decide +kernel
theorem xd91_44 : decode (mj_b 91) 44 = .ok (.getfield 12, 3) := by decide +kernel
theorem xd91_47 : decode (mj_b 91) 47 = .ok (.invokevirtual 117, 3) := by decide +kernel
theorem xd91_50 : decode (mj_b 91) 50 = .ok (.aload_n 0, 1) := by decide +kernel
theorem xd91_51 : decode (mj_b 91) 51 = .ok (.aload_n 0, 1) := by decide +kernel
theorem xd91_52 : decode (mj_b 91) 52 = .ok (.getfield 12, 3) := by decide +kernel
theorem xd91_55 : decode (mj_b 91) 55 = .ok (.getfield 112, 3) := by decide +kernel
theorem xd91_58 : decode (mj_b 91) 58 = .ok (.iconst 1, 1) := by decide +kernel
theorem xd91_59 : decode (mj_b 91) 59 = .ok (.isub, 1) := by decide +kernel
theorem xd91_60 : decode (mj_b 91) 60 = .ok (.invokevirtual 120, 3) := by decide +kernel
theorem xd91_63 : decode (mj_b 91) 63 = .ok (.aload_n 0, 1) := by decide +kernel
theorem xd91_64 : decode (mj_b 91) 64 = .ok (.getfield 12, 3) := by decide +kernel
theorem xd91_67 : decode (mj_b 91) 67 = .ok (.aload_n 0, 1) := by decide +kernel
theorem xd91_68 : decode (mj_b 91) 68 = .ok (.getfield 12, 3) := by decide +kernel
theorem xd91_71 : decode (mj_b 91) 71 = .ok (.getfield 112, 3) := by decide +kernel
theorem xd91_74 : decode (mj_b 91) 74 = .ok (.iconst 1, 1) := by decide +kernel
theorem xd91_75 : decode (mj_b 91) 75 = .ok (.isub, 1) := by decide +kernel
theorem xd91_76 : decode (mj_b 91) 76 = .ok (.invokevirtual 123, 3) := by decide +kernel
theorem xd91_79 : decode (mj_b 91) 79 = .ok (.ireturn, 1) := by decide +kernel
theorem x91_0 : wp Ln xs 91 0 [.ref 1] [] (u, ml_h m lm) Φ = wp Ln xs 23 0 [.ref 2] [] (u, ml_h m lm) (mk Ln xs 91 4 [.ref 1] [] Φ) := (wp_same xd91_0 (Or.inr rfl) rfl).trans ((wm_getr xd91_1 rfl (show ml_L[1]? = _ from rfl) rfl (Nat.le_of_ble_eq_true rfl)).trans (wm_cv (As := []) (rest := []) xd91_4 rfl rfl (show ml_L[2]? = _ from rfl) (Nat.le_of_ble_eq_true rfl) (Nat.le_of_ble_eq_true rfl) (Nat.le_of_ble_eq_true rfl) (Nat.le_of_ble_eq_true rfl)))
theorem x91_7 {xs0 : Int32} : wp Ln xs 91 7 [.ref 1] [.int xs0] (u, ml_h m lm) Φ = if xs0 = (nI 0) then wp Ln xs 91 22 [.ref 1] [] (u, ml_h m lm) Φ else wp Ln xs 91 10 [.ref 1] [] (u, ml_h m lm) Φ := wx_if xd91_7 rfl rfl (xs0 = (nI 0)) mb_eq
theorem x91_10 : wp Ln xs 91 10 [.ref 1] [] (u, ml_h m lm) Φ = if (m 2 6) < (nI 12) then wp Ln xs 91 32 [.ref 1] [] (u, ml_h m lm) Φ else wp Ln xs 91 22 [.ref 1] [] (u, ml_h m lm) Φ := (wp_same xd91_10 (Or.inr rfl) rfl).trans ((wm_getr xd91_11 rfl (show ml_L[1]? = _ from rfl) rfl (Nat.le_of_ble_eq_true rfl)).trans ((wm_geti xd91_14 rfl (show ml_L[2]? = _ from rfl) rfl (Nat.le_of_ble_eq_true rfl)).trans ((wp_same (S' := [.int (nI 12), .int (m 2 6)]) xd91_17 (Or.inr rfl) rfl).trans (wx_icmp xd91_19 rfl rfl ((m 2 6) < (nI 12)) mb_lt))))
theorem x91_22 : wp Ln xs 91 22 [.ref 1] [] (u, ml_h m lm) Φ = Φ (.inr 1) ((u.1, u.2.1 + 1, u.2.2 + 6), ml_h m lm) := wp_thr xd91_22 (Or.inr rfl) rfl rfl (E := 1) (by decide +kernel)
theorem x91_32 : wp Ln xs 91 32 [.ref 1] [] (u, ml_h m lm) Φ = wp Ln xs 85 0 [.ref 14, .ref 2, mj_hole] [] (u, ml_h m lm) (mk Ln xs 91 40 [.ref 1] [] Φ) := (wp_same xd91_32 (Or.inr rfl) rfl).trans ((wm_getr xd91_33 rfl (show ml_L[1]? = _ from rfl) rfl (Nat.le_of_ble_eq_true rfl)).trans ((wp_same xd91_36 (Or.inr rfl) rfl).trans ((wm_getr xd91_37 rfl (show ml_L[1]? = _ from rfl) rfl (Nat.le_of_ble_eq_true rfl)).trans (wm_cv (As := [.ref 2]) (rest := []) xd91_40 rfl rfl (show ml_L[14]? = _ from rfl) (Nat.le_of_ble_eq_true rfl) (Nat.le_of_ble_eq_true rfl) (Nat.le_of_ble_eq_true rfl) (Nat.le_of_ble_eq_true rfl)))))
theorem x91_43 : wp Ln xs 91 43 [.ref 1] [] (u, ml_h m lm) Φ = wp Ln xs 88 0 [.ref 2, mj_hole] [] (u, ml_h m lm) (mk Ln xs 91 47 [.ref 1] [] Φ) := (wp_same xd91_43 (Or.inr rfl) rfl).trans ((wm_getr xd91_44 rfl (show ml_L[1]? = _ from rfl) rfl (Nat.le_of_ble_eq_true rfl)).trans (wm_cv (As := []) (rest := []) xd91_47 rfl rfl (show ml_L[2]? = _ from rfl) (Nat.le_of_ble_eq_true rfl) (Nat.le_of_ble_eq_true rfl) (Nat.le_of_ble_eq_true rfl) (Nat.le_of_ble_eq_true rfl)))
theorem x91_50 : wp Ln xs 91 50 [.ref 1] [] (u, ml_h m lm) Φ = wp Ln xs 89 0 [.ref 1, .int ((m 2 6) - (nI 1))] [] (u, ml_h m lm) (mk Ln xs 91 60 [.ref 1] [] Φ) := (wp_same xd91_50 (Or.inr rfl) rfl).trans ((wp_same xd91_51 (Or.inr rfl) rfl).trans ((wm_getr xd91_52 rfl (show ml_L[1]? = _ from rfl) rfl (Nat.le_of_ble_eq_true rfl)).trans ((wm_geti xd91_55 rfl (show ml_L[2]? = _ from rfl) rfl (Nat.le_of_ble_eq_true rfl)).trans ((wp_same (S' := [.int (nI 1), .int (m 2 6), .ref 1]) xd91_58 (Or.inr rfl) rfl).trans ((wp_same xd91_59 (Or.inr rfl) rfl).trans (wm_cv (As := [.int ((m 2 6) - (nI 1))]) (rest := []) xd91_60 rfl rfl (show ml_L[1]? = _ from rfl) (Nat.le_of_ble_eq_true rfl) (Nat.le_of_ble_eq_true rfl) (Nat.le_of_ble_eq_true rfl) (Nat.le_of_ble_eq_true rfl)))))))
theorem x91_63 : wp Ln xs 91 63 [.ref 1] [] (u, ml_h m lm) Φ = wp Ln xs 36 0 [.ref 2, .int ((m 2 6) - (nI 1))] [] (u, ml_h m lm) (mk Ln xs 91 76 [.ref 1] [] Φ) := (wp_same xd91_63 (Or.inr rfl) rfl).trans ((wm_getr xd91_64 rfl (show ml_L[1]? = _ from rfl) rfl (Nat.le_of_ble_eq_true rfl)).trans ((wp_same xd91_67 (Or.inr rfl) rfl).trans ((wm_getr xd91_68 rfl (show ml_L[1]? = _ from rfl) rfl (Nat.le_of_ble_eq_true rfl)).trans ((wm_geti xd91_71 rfl (show ml_L[2]? = _ from rfl) rfl (Nat.le_of_ble_eq_true rfl)).trans ((wp_same (S' := [.int (nI 1), .int (m 2 6), .ref 2]) xd91_74 (Or.inr rfl) rfl).trans ((wp_same xd91_75 (Or.inr rfl) rfl).trans (wm_cv (As := [.int ((m 2 6) - (nI 1))]) (rest := []) xd91_76 rfl rfl (show ml_L[2]? = _ from rfl) (Nat.le_of_ble_eq_true rfl) (Nat.le_of_ble_eq_true rfl) (Nat.le_of_ble_eq_true rfl) (Nat.le_of_ble_eq_true rfl))))))))
theorem x91_79 {xs0 : Int32} : wp Ln xs 91 79 [.ref 1] [.int xs0] (u, ml_h m lm) Φ = Φ (.inl (some (.int xs0))) (u, ml_h m lm) := wp_fin (v := some (.int xs0)) xd91_79 (Or.inr rfl) rfl (mj_fin_i rfl)
/- PickedFormsLaw.change -/
theorem xd92_0 : decode (mj_b 92) 0 = .ok (.aload_n 3, 1) := by decide +kernel
theorem xd92_1 : decode (mj_b 92) 1 = .ok (.iconst 0, 1) := by decide +kernel
theorem xd92_2 : decode (mj_b 92) 2 = .ok (.aload_n 0, 1) := by decide +kernel
theorem xd92_3 : decode (mj_b 92) 3 = .ok (.iload_n 1, 1) := by decide +kernel
theorem xd92_4 : decode (mj_b 92) 4 = .ok (.iload_n 2, 1) := by decide +kernel
theorem xd92_5 : decode (mj_b 92) 5 = .ok (.invokevirtual 21, 3) := by decide +kernel
theorem xd92_8 : decode (mj_b 92) 8 = .ok (.i2l, 1) := by decide +kernel
theorem xd92_9 : decode (mj_b 92) 9 = .ok (.lastore, 1) := by decide +kernel
theorem xd92_10 : decode (mj_b 92) 10 = .ok (.goto 11, 3) := by decide +kernel
theorem xd92_15 : decode (mj_b 92) 15 = .ok (.iconst 1, 1) := by decide +kernel
theorem xd92_16 : decode (mj_b 92) 16 = .ok (.ireturn, 1) := by decide +kernel
theorem xd92_19 : decode (mj_b 92) 19 = .ok (.iconst 2, 1) := by decide +kernel
theorem xd92_20 : decode (mj_b 92) 20 = .ok (.ireturn, 1) := by decide +kernel
theorem xd92_21 : decode (mj_b 92) 21 = .ok (.iconst 0, 1) := by decide +kernel
theorem xd92_22 : decode (mj_b 92) 22 = .ok (.ireturn, 1) := by decide +kernel
theorem x92_0 {x1 : Int32} {x2 : Int32} : wp Ln xs 92 0 [.ref 1, .int x1, .int x2, .ref 81, mj_hole] [] (u, ml_h m lm) Φ = wp Ln xs 93 0 [.ref 1, .int x1, .int x2, mj_hole] [] (u, ml_h m lm) (mk Ln xs 92 5 [.ref 1, .int x1, .int x2, .ref 81, mj_hole] [.int (nI 0), .ref 81] Φ) := (wp_same xd92_0 (Or.inr rfl) rfl).trans ((wp_same (S' := [.int (nI 0), .ref 81]) xd92_1 (Or.inr rfl) rfl).trans ((wp_same xd92_2 (Or.inr rfl) rfl).trans ((wp_same xd92_3 (Or.inr rfl) rfl).trans ((wp_same xd92_4 (Or.inr rfl) rfl).trans (wm_cv (As := [.int x1, .int x2]) (rest := [.int (nI 0), .ref 81]) xd92_5 rfl rfl (show ml_L[1]? = _ from rfl) (Nat.le_of_ble_eq_true rfl) (Nat.le_of_ble_eq_true rfl) (Nat.le_of_ble_eq_true rfl) (Nat.le_of_ble_eq_true rfl))))))
theorem x92_8 {x1 : Int32} {x2 : Int32} {xs0 : Int32} {xs1 : Int32} : wp Ln xs 92 8 [.ref 1, .int x1, .int x2, .ref 81, mj_hole] [.int xs0, .int xs1, .ref 81] (u, ml_h m lm) Φ = wp Ln xs 92 9 [.ref 1, .int x1, .int x2, .ref 81, mj_hole] [.long xs0.toInt64, .int xs1, .ref 81] (u, ml_h m lm) Φ := wp_same xd92_8 (Or.inr rfl) rfl
theorem x92_9 {x1 : Int32} {x2 : Int32} {ys0 : Int64} {k : Nat} (hk : k < 1) : wp Ln xs 92 9 [.ref 1, .int x1, .int x2, .ref 81, mj_hole] [.long ys0, .int (nI k), .ref 81] (u, ml_h m lm) Φ = wp Ln xs 92 21 [.ref 1, .int x1, .int x2, .ref 81, mj_hole] [] (u, ml_h m (ml_sj lm 81 k ys0)) Φ := (wm_last (k := k) xd92_9 rfl hk (by decide)).trans (wx_goto xd92_10 rfl)
theorem x92_15 {x1 : Int32} {x2 : Int32} : wp Ln xs 92 15 [.ref 1, .int x1, .int x2, .ref 81, mj_hole] [] (u, ml_h m lm) Φ = Φ (.inl (some (.int (nI 1)))) (u, ml_h m lm) := (wp_same (S' := [.int (nI 1)]) xd92_15 (Or.inr rfl) rfl).trans (wp_fin (v := some (.int (nI 1))) xd92_16 (Or.inr rfl) rfl (mj_fin_i rfl))
theorem x92_19 {x1 : Int32} {x2 : Int32} : wp Ln xs 92 19 [.ref 1, .int x1, .int x2, .ref 81, mj_hole] [] (u, ml_h m lm) Φ = Φ (.inl (some (.int (nI 2)))) (u, ml_h m lm) := (wp_same (S' := [.int (nI 2)]) xd92_19 (Or.inr rfl) rfl).trans (wp_fin (v := some (.int (nI 2))) xd92_20 (Or.inr rfl) rfl (mj_fin_i rfl))
theorem x92_21 {x1 : Int32} {x2 : Int32} : wp Ln xs 92 21 [.ref 1, .int x1, .int x2, .ref 81, mj_hole] [] (u, ml_h m lm) Φ = Φ (.inl (some (.int (nI 0)))) (u, ml_h m lm) := (wp_same (S' := [.int (nI 0)]) xd92_21 (Or.inr rfl) rfl).trans (wp_fin (v := some (.int (nI 0))) xd92_22 (Or.inr rfl) rfl (mj_fin_i rfl))
end MXe
