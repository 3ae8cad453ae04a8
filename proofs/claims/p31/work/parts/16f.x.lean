/-! ===== an equation for each straight piece of a method ===== -/
section MXf
variable {Ln : Nat} {xs : Nat → Int32} {u : mj_U} {m : ml_M} {lm : ml_J} {Φ : mj_R → mj_W → Prop}
/- PickedFormsLaw.value -/
theorem xd94_0 : decode (mj_b 94) 0 = .ok (.iload_n 0, 1) := by decide +kernel
theorem xd94_1 : decode (mj_b 94) 1 = .ok (.iconst 3, 1) := by decide +kernel
theorem xd94_2 : decode (mj_b 94) 2 = .ok (.invokestatic 52, 3) := by decide +kernel
theorem xd94_5 : decode (mj_b 94) 5 = .ok (.ifCond .ne 15, 3) := by decide +kernel
theorem xd94_8 : decode (mj_b 94) 8 = .ok (.iload_n 0, 1) := by decide +kernel
theorem xd94_9 : decode (mj_b 94) 9 = .ok (.iconst 2, 1) := by decide +kernel
theorem xd94_10 : decode (mj_b 94) 10 = .ok (.ishr, 1) := by decide +kernel
theorem xd94_11 : decode (mj_b 94) 11 = .ok (.sipush 1000, 3) := by decide +kernel
theorem xd94_14 : decode (mj_b 94) 14 = .ok (.invokestatic 52, 3) := by decide +kernel
theorem xd94_17 : decode (mj_b 94) 17 = .ok (.goto 38, 3) := by decide +kernel
theorem xd94_20 : decode (mj_b 94) 20 = .ok (.iload_n 0, 1) := by decide +kernel
theorem xd94_21 : decode (mj_b 94) 21 = .ok (.iconst 3, 1) := by decide +kernel
theorem xd94_22 : decode (mj_b 94) 22 = .ok (.invokestatic 52, 3) := by decide +kernel
theorem xd94_25 : decode (mj_b 94) 25 = .ok (.iconst 1, 1) := by decide +kernel
theorem xd94_26 : decode (mj_b 94) 26 = .ok (.if_icmp .ne 18, 3) := by decide +kernel
theorem xd94_29 : decode (mj_b 94) 29 = .ok (.sipush 500, 3) := by decide +kernel
theorem xd94_32 : decode (mj_b 94) 32 = .ok (.iload_n 0, 1) := by decide +kernel
theorem xd94_33 : decode (mj_b 94) 33 = .ok (.iconst 2, 1) := by decide +kernel
theorem xd94_34 : decode (mj_b 94) 34 = .ok (.ishr, 1) := by decide +kernel
theorem xd94_35 : decode (mj_b 94) 35 = .ok (.bipush 9, 2) := by decide +kernel
theorem xd94_37 : decode (mj_b 94) 37 = .ok (.invokestatic 52, 3) := by decide +kernel
theorem xd94_40 : decode (mj_b 94) 40 = .ok (.iadd, 1) := by decide +kernel
theorem xd94_41 : decode (mj_b 94) 41 = .ok (.goto 14, 3) := by decide +kernel
theorem xd94_44 : decode (mj_b 94) 44 = .ok (.sipush 300, 3) := by decide +kernel
theorem xd94_47 : decode (mj_b 94) 47 = .ok (.iload_n 0, 1) := by decide +kernel
theorem xd94_48 : decode (mj_b 94) 48 = .ok (.iconst 2, 1) := by decide +kernel
theorem xd94_49 : decode (mj_b 94) 49 = .ok (.ishr, 1) := by decide +kernel
theorem xd94_50 : decode (mj_b 94) 50 = .ok (.iconst 4, 1) := by decide +kernel
theorem xd94_51 : decode (mj_b 94) 51 = .ok (.invokestatic 52, 3) := by decide +kernel
theorem xd94_54 : decode (mj_b 94) 54 = .ok (.imul, 1) := by decide +kernel
theorem xd94_55 : decode (mj_b 94) 55 = .ok (.ireturn, 1) := by decide +kernel
theorem x94_0 {x0 : Int32} : wp Ln xs 94 0 [.int x0] [] (u, ml_h m lm) Φ = wp Ln xs 79 0 [.int x0, .int (nI 3)] [] (u, ml_h m lm) (mk Ln xs 94 2 [.int x0] [] Φ) := (wp_same xd94_0 (Or.inr rfl) rfl).trans ((wp_same (S' := [.int (nI 3), .int x0]) xd94_1 (Or.inr rfl) rfl).trans (wm_cs (As := [.int x0, .int (nI 3)]) (rest := []) xd94_2 rfl rfl (Nat.le_of_ble_eq_true rfl) (Nat.le_of_ble_eq_true rfl) (Nat.le_of_ble_eq_true rfl) (Nat.le_of_ble_eq_true rfl)))
theorem x94_5 {x0 : Int32} {xs0 : Int32} : wp Ln xs 94 5 [.int x0] [.int xs0] (u, ml_h m lm) Φ = if ¬ xs0 = (nI 0) then wp Ln xs 94 20 [.int x0] [] (u, ml_h m lm) Φ else wp Ln xs 94 8 [.int x0] [] (u, ml_h m lm) Φ := wx_if xd94_5 rfl rfl (¬ xs0 = (nI 0)) mb_ne
theorem x94_8 {x0 : Int32} : wp Ln xs 94 8 [.int x0] [] (u, ml_h m lm) Φ = wp Ln xs 79 0 [.int (x0 >>> ((nI 2) &&& 31)), .int (nI 1000)] [] (u, ml_h m lm) (mk Ln xs 94 14 [.int x0] [] Φ) := (wp_same xd94_8 (Or.inr rfl) rfl).trans ((wp_same (S' := [.int (nI 2), .int x0]) xd94_9 (Or.inr rfl) rfl).trans ((wp_same xd94_10 (Or.inr rfl) rfl).trans ((wp_same (S' := [.int (nI 1000), .int (x0 >>> ((nI 2) &&& 31))]) xd94_11 (Or.inr rfl) rfl).trans (wm_cs (As := [.int (x0 >>> ((nI 2) &&& 31)), .int (nI 1000)]) (rest := []) xd94_14 rfl rfl (Nat.le_of_ble_eq_true rfl) (Nat.le_of_ble_eq_true rfl) (Nat.le_of_ble_eq_true rfl) (Nat.le_of_ble_eq_true rfl)))))
theorem x94_17 {x0 : Int32} {xs0 : Int32} : wp Ln xs 94 17 [.int x0] [.int xs0] (u, ml_h m lm) Φ = Φ (.inl (some (.int xs0))) (u, ml_h m lm) := (wx_goto xd94_17 rfl).trans (wp_fin (v := some (.int xs0)) xd94_55 (Or.inr rfl) rfl (mj_fin_i rfl))
theorem x94_20 {x0 : Int32} : wp Ln xs 94 20 [.int x0] [] (u, ml_h m lm) Φ = wp Ln xs 79 0 [.int x0, .int (nI 3)] [] (u, ml_h m lm) (mk Ln xs 94 22 [.int x0] [] Φ) := (wp_same xd94_20 (Or.inr rfl) rfl).trans ((wp_same (S' := [.int (nI 3), .int x0]) xd94_21 (Or.inr rfl) rfl).trans (wm_cs (As := [.int x0, .int (nI 3)]) (rest := []) xd94_22 rfl rfl (Nat.le_of_ble_eq_true rfl) (Nat.le_of_ble_eq_true rfl) (Nat.le_of_ble_eq_true rfl) (Nat.le_of_ble_eq_true rfl)))
theorem x94_25 {x0 : Int32} {xs0 : Int32} : wp Ln xs 94 25 [.int x0] [.int xs0] (u, ml_h m lm) Φ = if ¬ xs0 = (nI 1) then wp Ln xs 94 44 [.int x0] [] (u, ml_h m lm) Φ else wp Ln xs 94 29 [.int x0] [] (u, ml_h m lm) Φ := (wp_same (S' := [.int (nI 1), .int xs0]) xd94_25 (Or.inr rfl) rfl).trans (wx_icmp xd94_26 rfl rfl (¬ xs0 = (nI 1)) mb_ne)
theorem x94_29 {x0 : Int32} : wp Ln xs 94 29 [.int x0] [] (u, ml_h m lm) Φ = wp Ln xs 79 0 [.int (x0 >>> ((nI 2) &&& 31)), .int (nI 9)] [] (u, ml_h m lm) (mk Ln xs 94 37 [.int x0] [.int (nI 500)] Φ) := (wp_same (S' := [.int (nI 500)]) xd94_29 (Or.inr rfl) rfl).trans ((wp_same xd94_32 (Or.inr rfl) rfl).trans ((wp_same (S' := [.int (nI 2), .int x0, .int (nI 500)]) xd94_33 (Or.inr rfl) rfl).trans ((wp_same xd94_34 (Or.inr rfl) rfl).trans ((wp_same (S' := [.int (nI 9), .int (x0 >>> ((nI 2) &&& 31)), .int (nI 500)]) xd94_35 (Or.inr rfl) rfl).trans (wm_cs (As := [.int (x0 >>> ((nI 2) &&& 31)), .int (nI 9)]) (rest := [.int (nI 500)]) xd94_37 rfl rfl (Nat.le_of_ble_eq_true rfl) (Nat.le_of_ble_eq_true rfl) (Nat.le_of_ble_eq_true rfl) (Nat.le_of_ble_eq_true rfl))))))
theorem x94_40 {x0 : Int32} {xs0 : Int32} {xs1 : Int32} : wp Ln xs 94 40 [.int x0] [.int xs0, .int xs1] (u, ml_h m lm) Φ = Φ (.inl (some (.int (xs1 + xs0)))) (u, ml_h m lm) := (wp_same xd94_40 (Or.inr rfl) rfl).trans ((wx_goto xd94_41 rfl).trans (wp_fin (v := some (.int (xs1 + xs0))) xd94_55 (Or.inr rfl) rfl (mj_fin_i rfl)))
theorem x94_44 {x0 : Int32} : wp Ln xs 94 44 [.int x0] [] (u, ml_h m lm) Φ = wp Ln xs 79 0 [.int (x0 >>> ((nI 2) &&& 31)), .int (nI 4)] [] (u, ml_h m lm) (mk Ln xs 94 51 [.int x0] [.int (nI 300)] Φ) := (wp_same (S' := [.int (nI 300)]) xd94_44 (Or.inr rfl) rfl).trans ((wp_same xd94_47 (Or.inr rfl) rfl).trans ((wp_same (S' := [.int (nI 2), .int x0, .int (nI 300)]) xd94_48 (Or.inr rfl) rfl).trans ((wp_same xd94_49 (Or.inr rfl) rfl).trans ((wp_same (S' := [.int (nI 4), .int (x0 >>> ((nI 2) &&& 31)), .int (nI 300)]) xd94_50 (Or.inr rfl) rfl).trans (wm_cs (As := [.int (x0 >>> ((nI 2) &&& 31)), .int (nI 4)]) (rest := [.int (nI 300)]) xd94_51 rfl rfl (Nat.le_of_ble_eq_true rfl) (Nat.le_of_ble_eq_true rfl) (Nat.le_of_ble_eq_true rfl) (Nat.le_of_ble_eq_true rfl))))))
theorem x94_54 {x0 : Int32} {xs0 : Int32} {xs1 : Int32} : wp Ln xs 94 54 [.int x0] [.int xs0, .int xs1] (u, ml_h m lm) Φ = Φ (.inl (some (.int (xs1 * xs0)))) (u, ml_h m lm) := (wp_same xd94_54 (Or.inr rfl) rfl).trans (wp_fin (v := some (.int (xs1 * xs0))) xd94_55 (Or.inr rfl) rfl (mj_fin_i rfl))
/- PickedForms.write -/
theorem xd95_0 : decode (mj_b 95) 0 = .ok (.iload_n 1, 1) := by decide +kernel
theorem xd95_1 : decode (mj_b 95) 1 = .ok (.invokestatic 76, 3) := by decide +kernel
theorem xd95_4 : decode (mj_b 95) 4 = .ok (.ifCond .ne 13, 3) := by decide +kernel
theorem xd95_7 : decode (mj_b 95) 7 = .ok (.new 80, 3) := by decide +kernel
theorem xd95_17 : decode (mj_b 95) 17 = .ok (.aload_n 0, 1) := by decide +kernel
theorem xd95_18 : decode (mj_b 95) 18 = .ok (.getfield 12, 3) := by decide +kernel
theorem xd95_21 : decode (mj_b 95) 21 = .ok (.invokevirtual 87, 3) := by decide +kernel
theorem xd95_24 : decode (mj_b 95) 24 = .ok (.ifCond .ne 13, 3) := by decide +kernel
theorem xd95_27 : decode (mj_b 95) 27 = .ok (.new 91, 3) := by decide +kernel
theorem xd95_37 : decode (mj_b 95) 37 = .ok (.aload_n 0, 1) := by decide +kernel
theorem xd95_38 : decode (mj_b 95) 38 = .ok (.getfield 26, 3) := by decide +kernel
theorem xd95_41 : decode (mj_b 95) 41 = .ok (.aload_n 0, 1) := by decide +kernel
theorem xd95_42 : decode (mj_b 95) 42 = .ok (.getfield 12, 3) := by decide +kernel
theorem xd95_45 : decode (mj_b 95) 45 = .ok (.invokevirtual 96, 3) := by decide +kernel
theorem xd95_48 : decode (mj_b 95) 48 = .ok (.aload_n 0, 1) := by decide +kernel
theorem xd95_49 : decode (mj_b 95) 49 = .ok (.iload_n 1, 1) := by decide +kernel
theorem xd95_50 : decode (mj_b 95) 50 = .ok (.invokevirtual 100, 3) := by decide +kernel
theorem xd95_53 : decode (mj_b 95) 53 = .ok (.aload_n 0, 1) := by decide +kernel
theorem xd95_54 : decode (mj_b 95) 54 = .ok (.getfield 12, 3) := by decide +kernel
theorem xd95_57 : decode (mj_b 95) 57 = .ok (.getfield 104, 3) := by decide +kernel
theorem xd95_60 : decode (mj_b 95) 60 = .ok (.ireturn, 1) := by decide +kernel
theorem x95_0 {x1 : Int32} : wp Ln xs 95 0 [.ref 1, .int x1] [] (u, ml_h m lm) Φ = wp Ln xs 82 0 [.int x1] [] (u, ml_h m lm) (mk Ln xs 95 1 [.ref 1, .int x1] [] Φ) := (wp_same xd95_0 (Or.inr rfl) rfl).trans (wm_cs (As := [.int x1]) (rest := []) xd95_1 rfl rfl (Nat.le_of_ble_eq_true rfl) (Nat.le_of_ble_eq_true rfl) (Nat.le_of_ble_eq_true rfl) (Nat.le_of_ble_eq_true rfl))
theorem x95_4 {x1 : Int32} {xs0 : Int32} : wp Ln xs 95 4 [.ref 1, .int x1] [.int xs0] (u, ml_h m lm) Φ = if ¬ xs0 = (nI 0) then wp Ln xs 95 17 [.ref 1, .int x1] [] (u, ml_h m lm) Φ else wp Ln xs 95 7 [.ref 1, .int x1] [] (u, ml_h m lm) Φ := wx_if xd95_4 rfl rfl (¬ xs0 = (nI 0)) mb_ne
theorem x95_7 {x1 : Int32} : wp Ln xs 95 7 [.ref 1, .int x1] [] (u, ml_h m lm) Φ = Φ (.inr 0) ((u.1, u.2.1 + 1, u.2.2 + 6), ml_h m lm) := wp_thr xd95_7 (Or.inr rfl) rfl rfl (E := 0) (by decide +kernel)
theorem x95_17 {x1 : Int32} : wp Ln xs 95 17 [.ref 1, .int x1] [] (u, ml_h m lm) Φ = wp Ln xs 96 0 [.ref 2] [] (u, ml_h m lm) (mk Ln xs 95 21 [.ref 1, .int x1] [] Φ) := (wp_same xd95_17 (Or.inr rfl) rfl).trans ((wm_getr xd95_18 rfl (show ml_L[1]? = _ from rfl) rfl (Nat.le_of_ble_eq_true rfl)).trans (wm_cv (As := []) (rest := []) xd95_21 rfl rfl (show ml_L[2]? = _ from rfl) (Nat.le_of_ble_eq_true rfl) (Nat.le_of_ble_eq_true rfl) (Nat.le_of_ble_eq_true rfl) (Nat.le_of_ble_eq_true rfl)))
theorem x95_24 {x1 : Int32} {xs0 : Int32} : wp Ln xs 95 24 [.ref 1, .int x1] [.int xs0] (u, ml_h m lm) Φ = if ¬ xs0 = (nI 0) then wp Ln xs 95 37 [.ref 1, .int x1] [] (u, ml_h m lm) Φ else wp Ln xs 95 27 [.ref 1, .int x1] [] (u, ml_h m lm) Φ := wx_if xd95_24 rfl rfl (¬ xs0 = (nI 0)) mb_ne
theorem x95_27 {x1 : Int32} : wp Ln xs 95 27 [.ref 1, .int x1] [] (u, ml_h m lm) Φ = Φ (.inr 1) ((u.1, u.2.1 + 1, u.2.2 + 6), ml_h m lm) := wp_thr xd95_27 (Or.inr rfl) rfl rfl (E := 1) (by decide +kernel)
theorem x95_37 {x1 : Int32} : wp Ln xs 95 37 [.ref 1, .int x1] [] (u, ml_h m lm) Φ = wp Ln xs 12 0 [.ref 14, .ref 2, mj_hole] [] (u, ml_h m lm) (mk Ln xs 95 45 [.ref 1, .int x1] [] Φ) := (wp_same xd95_37 (Or.inr rfl) rfl).trans ((wm_getr xd95_38 rfl (show ml_L[1]? = _ from rfl) rfl (Nat.le_of_ble_eq_true rfl)).trans ((wp_same xd95_41 (Or.inr rfl) rfl).trans ((wm_getr xd95_42 rfl (show ml_L[1]? = _ from rfl) rfl (Nat.le_of_ble_eq_true rfl)).trans (wm_cv (As := [.ref 2]) (rest := []) xd95_45 rfl rfl (show ml_L[14]? = _ from rfl) (Nat.le_of_ble_eq_true rfl) (Nat.le_of_ble_eq_true rfl) (Nat.le_of_ble_eq_true rfl) (Nat.le_of_ble_eq_true rfl)))))
theorem x95_48 {x1 : Int32} : wp Ln xs 95 48 [.ref 1, .int x1] [] (u, ml_h m lm) Φ = wp Ln xs 97 0 [.ref 1, .int x1] [] (u, ml_h m lm) (mk Ln xs 95 50 [.ref 1, .int x1] [] Φ) := (wp_same xd95_48 (Or.inr rfl) rfl).trans ((wp_same xd95_49 (Or.inr rfl) rfl).trans (wm_cv (As := [.int x1]) (rest := []) xd95_50 rfl rfl (show ml_L[1]? = _ from rfl) (Nat.le_of_ble_eq_true rfl) (Nat.le_of_ble_eq_true rfl) (Nat.le_of_ble_eq_true rfl) (Nat.le_of_ble_eq_true rfl)))
theorem x95_53 {x1 : Int32} : wp Ln xs 95 53 [.ref 1, .int x1] [] (u, ml_h m lm) Φ = Φ (.inl (some (.int (m 2 5)))) (u, ml_h m lm) := (wp_same xd95_53 (Or.inr rfl) rfl).trans ((wm_getr xd95_54 rfl (show ml_L[1]? = _ from rfl) rfl (Nat.le_of_ble_eq_true rfl)).trans ((wm_geti xd95_57 rfl (show ml_L[2]? = _ from rfl) rfl (Nat.le_of_ble_eq_true rfl)).trans (wp_fin (v := some (.int (m 2 5))) xd95_60 (Or.inr rfl) rfl (mj_fin_i rfl))))
/- PickedForms$Column.canTake -/
theorem xd96_0 : decode (mj_b 96) 0 = .ok (.aload_n 0, 1) := by decide +kernel
theorem xd96_1 : decode (mj_b 96) 1 = .ok (.getfield 31, 3) := by decide +kernel
theorem xd96_4 : decode (mj_b 96) 4 = .ok (.bipush 12, 2) := by decide +kernel
theorem xd96_6 : decode (mj_b 96) 6 = .ok (.if_icmp .lt 17, 3) := by decide +kernel
theorem xd96_9 : decode (mj_b 96) 9 = .ok (.aload_n 0, 1) := by decide +kernel
theorem xd96_10 : decode (mj_b 96) 10 = .ok (.invokevirtual 54, 3) := by decide +kernel
theorem xd96_13 : decode (mj_b 96) 13 = .ok (.iconst 1, 1) := by decide +kernel
theorem xd96_14 : decode (mj_b 96) 14 = .ok (.iadd, 1) := by decide +kernel
theorem xd96_15 : decode (mj_b 96) 15 = .ok (.aload_n 0, 1) := by decide +kernel
theorem xd96_16 : decode (mj_b 96) 16 = .ok (.iconst 1, 1) := by decide +kernel
theorem xd96_17 : decode (mj_b 96) 17 = .ok (.invokevirtual 58, 3) := by decide +kernel
theorem xd96_20 : decode (mj_b 96) 20 = .ok (.if_icmp .ge 7, 3) := by decide +kernel
theorem xd96_23 : decode (mj_b 96) 23 = .ok (.iconst 1, 1) := by decide +kernel
theorem xd96_24 : decode (mj_b 96) 24 = .ok (.goto 4, 3) := by decide +kernel
theorem xd96_27 : decode (mj_b 96) 27 = .ok (.iconst 0, 1) := by decide +kernel
theorem xd96_28 : decode (mj_b 96) 28 = .ok (.ireturn, 1) := by decide +kernel
theorem x96_0 : wp Ln xs 96 0 [.ref 2] [] (u, ml_h m lm) Φ = if (m 2 6) < (nI 12) then wp Ln xs 96 23 [.ref 2] [] (u, ml_h m lm) Φ else wp Ln xs 96 9 [.ref 2] [] (u, ml_h m lm) Φ := (wp_same xd96_0 (Or.inr rfl) rfl).trans ((wm_geti xd96_1 rfl (show ml_L[2]? = _ from rfl) rfl (Nat.le_of_ble_eq_true rfl)).trans ((wp_same (S' := [.int (nI 12), .int (m 2 6)]) xd96_4 (Or.inr rfl) rfl).trans (wx_icmp xd96_6 rfl rfl ((m 2 6) < (nI 12)) mb_lt)))
theorem x96_9 : wp Ln xs 96 9 [.ref 2] [] (u, ml_h m lm) Φ = wp Ln xs 36 0 [.ref 2] [] (u, ml_h m lm) (mk Ln xs 96 10 [.ref 2] [] Φ) := (wp_same xd96_9 (Or.inr rfl) rfl).trans (wm_cv (As := []) (rest := []) xd96_10 rfl rfl (show ml_L[2]? = _ from rfl) (Nat.le_of_ble_eq_true rfl) (Nat.le_of_ble_eq_true rfl) (Nat.le_of_ble_eq_true rfl) (Nat.le_of_ble_eq_true rfl))
theorem x96_13 {xs0 : Int32} : wp Ln xs 96 13 [.ref 2] [.int xs0] (u, ml_h m lm) Φ = wp Ln xs 33 0 [.ref 2, .int (nI 1)] [] (u, ml_h m lm) (mk Ln xs 96 17 [.ref 2] [.int (xs0 + (nI 1))] Φ) := (wp_same (S' := [.int (nI 1), .int xs0]) xd96_13 (Or.inr rfl) rfl).trans ((wp_same xd96_14 (Or.inr rfl) rfl).trans ((wp_same xd96_15 (Or.inr rfl) rfl).trans ((wp_same (S' := [.int (nI 1), .ref 2, .int (xs0 + (nI 1))]) xd96_16 (Or.inr rfl) rfl).trans (wm_cv (As := [.int (nI 1)]) (rest := [.int (xs0 + (nI 1))]) xd96_17 rfl rfl (show ml_L[2]? = _ from rfl) (Nat.le_of_ble_eq_true rfl) (Nat.le_of_ble_eq_true rfl) (Nat.le_of_ble_eq_true rfl) (Nat.le_of_ble_eq_true rfl)))))
theorem x96_20 {xs0 : Int32} {xs1 : Int32} : wp Ln xs 96 20 [.ref 2] [.int xs0, .int xs1] (u, ml_h m lm) Φ = if xs0 ≤ xs1 then wp Ln xs 96 27 [.ref 2] [] (u, ml_h m lm) Φ else wp Ln xs 96 23 [.ref 2] [] (u, ml_h m lm) Φ := wx_icmp xd96_20 rfl rfl (xs0 ≤ xs1) mb_ge
theorem x96_23 : wp Ln xs 96 23 [.ref 2] [] (u, ml_h m lm) Φ = Φ (.inl (some (.int (nI 1)))) (u, ml_h m lm) := (wp_same (S' := [.int (nI 1)]) xd96_23 (Or.inr rfl) rfl).trans ((wx_goto xd96_24 rfl).trans (wp_fin (v := some (.int (nI 1))) xd96_28 (Or.inr rfl) rfl rfl))
theorem x96_27 : wp Ln xs 96 27 [.ref 2] [] (u, ml_h m lm) Φ = Φ (.inl (some (.int (nI 0)))) (u, ml_h m lm) := (wp_same (S' := [.int (nI 0)]) xd96_27 (Or.inr rfl) rfl).trans (wp_fin (v := some (.int (nI 0))) xd96_28 (Or.inr rfl) rfl rfl)
/- PickedForms.takeValue -/
theorem xd97_0 : decode (mj_b 97) 0 = .ok (.aload_n 0, 1) := by decide +kernel
theorem xd97_1 : decode (mj_b 97) 1 = .ok (.getfield 12, 3) := by decide +kernel
theorem xd97_4 : decode (mj_b 97) 4 = .ok (.getfield 139, 3) := by decide +kernel
theorem xd97_7 : decode (mj_b 97) 7 = .ok (.aload_n 0, 1) := by decide +kernel
theorem xd97_8 : decode (mj_b 97) 8 = .ok (.getfield 12, 3) := by decide +kernel
theorem xd97_11 : decode (mj_b 97) 11 = .ok (.getfield 104, 3) := by decide +kernel
theorem xd97_14 : decode (mj_b 97) 14 = .ok (.iload_n 1, 1) := by decide +kernel
theorem xd97_15 : decode (mj_b 97) 15 = .ok (.invokestatic 142, 3) := by decide +kernel
theorem xd97_18 : decode (mj_b 97) 18 = .ok (.aload_n 0, 1) := by decide +kernel
theorem xd97_19 : decode (mj_b 97) 19 = .ok (.getfield 12, 3) := by decide +kernel
theorem xd97_22 : decode (mj_b 97) 22 = .ok (.dup, 1) := by decide +kernel
theorem xd97_23 : decode (mj_b 97) 23 = .ok (.getfield 104, 3) := by decide +kernel
theorem xd97_26 : decode (mj_b 97) 26 = .ok (.iconst 1, 1) := by decide +kernel
theorem xd97_27 : decode (mj_b 97) 27 = .ok (.iadd, 1) := by decide +kernel
theorem xd97_28 : decode (mj_b 97) 28 = .ok (.putfield 104, 3) := by decide +kernel
theorem xd97_31 : decode (mj_b 97) 31 = .ok (.aload_n 0, 1) := by decide +kernel
theorem xd97_32 : decode (mj_b 97) 32 = .ok (.getfield 12, 3) := by decide +kernel
theorem xd97_35 : decode (mj_b 97) 35 = .ok (.invokevirtual 108, 3) := by decide +kernel
theorem xd97_38 : decode (mj_b 97) 38 = .ok (.aload_n 0, 1) := by decide +kernel
theorem xd97_39 : decode (mj_b 97) 39 = .ok (.getfield 12, 3) := by decide +kernel
theorem xd97_42 : decode (mj_b 97) 42 = .ok (.iconst 1, 1) := by decide +kernel
theorem xd97_43 : decode (mj_b 97) 43 = .ok (.invokevirtual 200, 3) := by decide +kernel
theorem xd97_46 : decode (mj_b 97) 46 = .ok (.if_icmp .lt 23, 3) := by decide +kernel
theorem xd97_49 : decode (mj_b 97) 49 = .ok (.aload_n 0, 1) := by decide +kernel
theorem xd97_50 : decode (mj_b 97) 50 = .ok (.getfield 12, 3) := by decide +kernel
theorem xd97_53 : decode (mj_b 97) 53 = .ok (.invokevirtual 117, 3) := by decide +kernel
theorem xd97_56 : decode (mj_b 97) 56 = .ok (.aload_n 0, 1) := by decide +kernel
theorem xd97_57 : decode (mj_b 97) 57 = .ok (.aload_n 0, 1) := by decide +kernel
theorem xd97_58 : decode (mj_b 97) 58 = .ok (.getfield 12, 3) := by decide +kernel
theorem xd97_61 : decode (mj_b 97) 61 = .ok (.getfield 112, 3) := by decide +kernel
theorem xd97_64 : decode (mj_b 97) 64 = .ok (.iconst 1, 1) := by decide +kernel
theorem xd97_65 : decode (mj_b 97) 65 = .ok (.isub, 1) := by decide +kernel
theorem xd97_66 : decode (mj_b 97) 66 = .ok (.invokevirtual 120, 3) := by decide +kernel
theorem xd97_69 : decode (mj_b 97) 69 = .ok (.return_, 1) := by decide +kernel
theorem x97_0 {x1 : Int32} : wp Ln xs 97 0 [.ref 1, .int x1] [] (u, ml_h m lm) Φ = wp Ln xs 29 0 [.ref 3, .int (m 2 5), .int x1] [] (u, ml_h m lm) (mk Ln xs 97 15 [.ref 1, .int x1] [] Φ) := (wp_same xd97_0 (Or.inr rfl) rfl).trans ((wm_getr xd97_1 rfl (show ml_L[1]? = _ from rfl) rfl (Nat.le_of_ble_eq_true rfl)).trans ((wm_getr xd97_4 rfl (show ml_L[2]? = _ from rfl) rfl (Nat.le_of_ble_eq_true rfl)).trans ((wp_same xd97_7 (Or.inr rfl) rfl).trans ((wm_getr xd97_8 rfl (show ml_L[1]? = _ from rfl) rfl (Nat.le_of_ble_eq_true rfl)).trans ((wm_geti xd97_11 rfl (show ml_L[2]? = _ from rfl) rfl (Nat.le_of_ble_eq_true rfl)).trans ((wp_same xd97_14 (Or.inr rfl) rfl).trans (wm_cs (As := [.ref 3, .int (m 2 5), .int x1]) (rest := []) xd97_15 rfl rfl (Nat.le_of_ble_eq_true rfl) (Nat.le_of_ble_eq_true rfl) (Nat.le_of_ble_eq_true rfl) (Nat.le_of_ble_eq_true rfl))))))))
theorem x97_18 {x1 : Int32} : wp Ln xs 97 18 [.ref 1, .int x1] [] (u, ml_h m lm) Φ = wp Ln xs 36 0 [.ref 2] [] (u, ml_h (ml_s m 2 5 ((m 2 5) + (nI 1))) lm) (mk Ln xs 97 35 [.ref 1, .int x1] [] Φ) := (wp_same xd97_18 (Or.inr rfl) rfl).trans ((wm_getr xd97_19 rfl (show ml_L[1]? = _ from rfl) rfl (Nat.le_of_ble_eq_true rfl)).trans ((wp_same xd97_22 (Or.inr rfl) rfl).trans ((wm_geti xd97_23 rfl (show ml_L[2]? = _ from rfl) rfl (Nat.le_of_ble_eq_true rfl)).trans ((wp_same (S' := [.int (nI 1), .int (m 2 5), .ref 2]) xd97_26 (Or.inr rfl) rfl).trans ((wp_same xd97_27 (Or.inr rfl) rfl).trans ((wm_puti xd97_28 rfl (show ml_L[2]? = _ from rfl) rfl (Nat.le_of_ble_eq_true rfl) rfl rfl rfl).trans ((wp_same xd97_31 (Or.inr rfl) rfl).trans ((wm_getr xd97_32 rfl (show ml_L[1]? = _ from rfl) rfl (Nat.le_of_ble_eq_true rfl)).trans (wm_cv (As := []) (rest := []) xd97_35 rfl rfl (show ml_L[2]? = _ from rfl) (Nat.le_of_ble_eq_true rfl) (Nat.le_of_ble_eq_true rfl) (Nat.le_of_ble_eq_true rfl) (Nat.le_of_ble_eq_true rfl))))))))))
theorem x97_38 {x1 : Int32} {xs0 : Int32} : wp Ln xs 97 38 [.ref 1, .int x1] [.int xs0] (u, ml_h m lm) Φ = wp Ln xs 33 0 [.ref 2, .int (nI 1)] [] (u, ml_h m lm) (mk Ln xs 97 43 [.ref 1, .int x1] [.int xs0] Φ) := (wp_same xd97_38 (Or.inr rfl) rfl).trans ((wm_getr xd97_39 rfl (show ml_L[1]? = _ from rfl) rfl (Nat.le_of_ble_eq_true rfl)).trans ((wp_same (S' := [.int (nI 1), .ref 2, .int xs0]) xd97_42 (Or.inr rfl) rfl).trans (wm_cv (As := [.int (nI 1)]) (rest := [.int xs0]) xd97_43 rfl rfl (show ml_L[2]? = _ from rfl) (Nat.le_of_ble_eq_true rfl) (Nat.le_of_ble_eq_true rfl) (Nat.le_of_ble_eq_true rfl) (Nat.le_of_ble_eq_true rfl))))
theorem x97_46 {x1 : Int32} {xs0 : Int32} {xs1 : Int32} : wp Ln xs 97 46 [.ref 1, .int x1] [.int xs0, .int xs1] (u, ml_h m lm) Φ = if xs1 < xs0 then wp Ln xs 97 69 [.ref 1, .int x1] [] (u, ml_h m lm) Φ else wp Ln xs 97 49 [.ref 1, .int x1] [] (u, ml_h m lm) Φ := wx_icmp xd97_46 rfl rfl (xs1 < xs0) mb_lt
theorem x97_49 {x1 : Int32} : wp Ln xs 97 49 [.ref 1, .int x1] [] (u, ml_h m lm) Φ = wp Ln xs 98 0 [.ref 2, mj_hole] [] (u, ml_h m lm) (mk Ln xs 97 53 [.ref 1, .int x1] [] Φ) := (wp_same xd97_49 (Or.inr rfl) rfl).trans ((wm_getr xd97_50 rfl (show ml_L[1]? = _ from rfl) rfl (Nat.le_of_ble_eq_true rfl)).trans (wm_cv (As := []) (rest := []) xd97_53 rfl rfl (show ml_L[2]? = _ from rfl) (Nat.le_of_ble_eq_true rfl) (Nat.le_of_ble_eq_true rfl) (Nat.le_of_ble_eq_true rfl) (Nat.le_of_ble_eq_true rfl)))
theorem x97_56 {x1 : Int32} : wp Ln xs 97 56 [.ref 1, .int x1] [] (u, ml_h m lm) Φ = wp Ln xs 18 0 [.ref 1, .int ((m 2 6) - (nI 1))] [] (u, ml_h m lm) (mk Ln xs 97 66 [.ref 1, .int x1] [] Φ) := (wp_same xd97_56 (Or.inr rfl) rfl).trans ((wp_same xd97_57 (Or.inr rfl) rfl).trans ((wm_getr xd97_58 rfl (show ml_L[1]? = _ from rfl) rfl (Nat.le_of_ble_eq_true rfl)).trans ((wm_geti xd97_61 rfl (show ml_L[2]? = _ from rfl) rfl (Nat.le_of_ble_eq_true rfl)).trans ((wp_same (S' := [.int (nI 1), .int (m 2 6), .ref 1]) xd97_64 (Or.inr rfl) rfl).trans ((wp_same xd97_65 (Or.inr rfl) rfl).trans (wm_cv (As := [.int ((m 2 6) - (nI 1))]) (rest := []) xd97_66 rfl rfl (show ml_L[1]? = _ from rfl) (Nat.le_of_ble_eq_true rfl) (Nat.le_of_ble_eq_true rfl) (Nat.le_of_ble_eq_true rfl) (Nat.le_of_ble_eq_true rfl)))))))
theorem x97_69 {x1 : Int32} : wp Ln xs 97 69 [.ref 1, .int x1] [] (u, ml_h m lm) Φ = Φ (.inl none) (u, ml_h m lm) := wp_fin (v := none) xd97_69 (Or.inr rfl) rfl rfl
/- PickedForms$Column.makeTailBlock -/
theorem xd98_0 : decode (mj_b 98) 0 = .ok (.aload_n 0, 1) := by decide +kernel
theorem xd98_1 : decode (mj_b 98) 1 = .ok (.invokevirtual 54, 3) := by decide +kernel
theorem xd98_4 : decode (mj_b 98) 4 = .ok (.istore_n 1, 1) := by decide +kernel
theorem xd98_5 : decode (mj_b 98) 5 = .ok (.aload_n 0, 1) := by decide +kernel
theorem xd98_6 : decode (mj_b 98) 6 = .ok (.getfield 15, 3) := by decide +kernel
theorem xd98_9 : decode (mj_b 98) 9 = .ok (.aload_n 0, 1) := by decide +kernel
theorem xd98_10 : decode (mj_b 98) 10 = .ok (.getfield 31, 3) := by decide +kernel
theorem xd98_13 : decode (mj_b 98) 13 = .ok (.iload_n 1, 1) := by decide +kernel
theorem xd98_14 : decode (mj_b 98) 14 = .ok (.invokestatic 61, 3) := by decide +kernel
theorem xd98_17 : decode (mj_b 98) 17 = .ok (.aload_n 0, 1) := by decide +kernel
theorem xd98_18 : decode (mj_b 98) 18 = .ok (.dup, 1) := by decide +kernel
theorem xd98_19 : decode (mj_b 98) 19 = .ok (.getfield 31, 3) := by decide +kernel
theorem xd98_22 : decode (mj_b 98) 22 = .ok (.iconst 1, 1) := by decide +kernel
theorem xd98_23 : decode (mj_b 98) 23 = .ok (.iadd, 1) := by decide +kernel
theorem xd98_24 : decode (mj_b 98) 24 = .ok (.putfield 31, 3) := by decide +kernel
theorem xd98_27 : decode (mj_b 98) 27 = .ok (.return_, 1) := by decide +kernel
theorem x98_0 : wp Ln xs 98 0 [.ref 2, mj_hole] [] (u, ml_h m lm) Φ = wp Ln xs 36 0 [.ref 2] [] (u, ml_h m lm) (mk Ln xs 98 1 [.ref 2, mj_hole] [] Φ) := (wp_same xd98_0 (Or.inr rfl) rfl).trans (wm_cv (As := []) (rest := []) xd98_1 rfl rfl (show ml_L[2]? = _ from rfl) (Nat.le_of_ble_eq_true rfl) (Nat.le_of_ble_eq_true rfl) (Nat.le_of_ble_eq_true rfl) (Nat.le_of_ble_eq_true rfl))
theorem x98_4 {xs0 : Int32} : wp Ln xs 98 4 [.ref 2, mj_hole] [.int xs0] (u, ml_h m lm) Φ = wp Ln xs 29 0 [.ref 4, .int (m 2 6), .int xs0] [] (u, ml_h m lm) (mk Ln xs 98 14 [.ref 2, .int xs0] [] Φ) := (wp_same (L' := [.ref 2, .int xs0]) xd98_4 (Or.inr rfl) rfl).trans ((wp_same xd98_5 (Or.inr rfl) rfl).trans ((wm_getr xd98_6 rfl (show ml_L[2]? = _ from rfl) rfl (Nat.le_of_ble_eq_true rfl)).trans ((wp_same xd98_9 (Or.inr rfl) rfl).trans ((wm_geti xd98_10 rfl (show ml_L[2]? = _ from rfl) rfl (Nat.le_of_ble_eq_true rfl)).trans ((wp_same xd98_13 (Or.inr rfl) rfl).trans (wm_cs (As := [.ref 4, .int (m 2 6), .int xs0]) (rest := []) xd98_14 rfl rfl (Nat.le_of_ble_eq_true rfl) (Nat.le_of_ble_eq_true rfl) (Nat.le_of_ble_eq_true rfl) (Nat.le_of_ble_eq_true rfl)))))))
theorem x98_17 {x1 : Int32} : wp Ln xs 98 17 [.ref 2, .int x1] [] (u, ml_h m lm) Φ = Φ (.inl none) (u, ml_h (ml_s m 2 6 ((m 2 6) + (nI 1))) lm) := (wp_same xd98_17 (Or.inr rfl) rfl).trans ((wp_same xd98_18 (Or.inr rfl) rfl).trans ((wm_geti xd98_19 rfl (show ml_L[2]? = _ from rfl) rfl (Nat.le_of_ble_eq_true rfl)).trans ((wp_same (S' := [.int (nI 1), .int (m 2 6), .ref 2]) xd98_22 (Or.inr rfl) rfl).trans ((wp_same xd98_23 (Or.inr rfl) rfl).trans ((wm_puti xd98_24 rfl (show ml_L[2]? = _ from rfl) rfl (Nat.le_of_ble_eq_true rfl) rfl rfl rfl).trans (wp_fin (v := none) xd98_27 (Or.inr rfl) rfl rfl))))))
/- PickedFormsLaw.changes -/
theorem xd99_0 : decode (mj_b 99) 0 = .ok (.aload_n 0, 1) := by decide +kernel
theorem xd99_1 : decode (mj_b 99) 1 = .ok (.iload_n 1, 1) := by decide +kernel
theorem xd99_2 : decode (mj_b 99) 2 = .ok (.iload_n 2, 1) := by decide +kernel
theorem xd99_3 : decode (mj_b 99) 3 = .ok (.iconst 0, 1) := by decide +kernel
theorem xd99_4 : decode (mj_b 99) 4 = .ok (.invokevirtual 67, 3) := by decide +kernel
theorem xd99_7 : decode (mj_b 99) 7 = .ok (.istore_n 3, 1) := by decide +kernel
theorem xd99_8 : decode (mj_b 99) 8 = .ok (.aload_n 0, 1) := by decide +kernel
theorem xd99_9 : decode (mj_b 99) 9 = .ok (.iload_n 1, 1) := by decide +kernel
theorem xd99_10 : decode (mj_b 99) 10 = .ok (.iload_n 2, 1) := by decide +kernel
theorem xd99_11 : decode (mj_b 99) 11 = .ok (.iconst 1, 1) := by decide +kernel
theorem xd99_12 : decode (mj_b 99) 12 = .ok (.invokevirtual 67, 3) := by decide +kernel
theorem xd99_15 : decode (mj_b 99) 15 = .ok (.istore 4, 2) := by decide +kernel
theorem xd99_17 : decode (mj_b 99) 17 = .ok (.aload_n 0, 1) := by decide +kernel
theorem xd99_18 : decode (mj_b 99) 18 = .ok (.iconst 3, 1) := by decide +kernel
theorem xd99_19 : decode (mj_b 99) 19 = .ok (.invokevirtual 38, 3) := by decide +kernel
theorem xd99_22 : decode (mj_b 99) 22 = .ok (.istore 5, 2) := by decide +kernel
theorem xd99_24 : decode (mj_b 99) 24 = .ok (.aload_n 0, 1) := by decide +kernel
theorem xd99_25 : decode (mj_b 99) 25 = .ok (.iconst 4, 1) := by decide +kernel
theorem xd99_26 : decode (mj_b 99) 26 = .ok (.invokevirtual 38, 3) := by decide +kernel
theorem xd99_29 : decode (mj_b 99) 29 = .ok (.istore 6, 2) := by decide +kernel
theorem xd99_31 : decode (mj_b 99) 31 = .ok (.aload_n 0, 1) := by decide +kernel
theorem xd99_32 : decode (mj_b 99) 32 = .ok (.iconst 5, 1) := by decide +kernel
theorem xd99_33 : decode (mj_b 99) 33 = .ok (.invokevirtual 38, 3) := by decide +kernel
theorem xd99_36 : decode (mj_b 99) 36 = .ok (.istore 7, 2) := by decide +kernel
theorem xd99_38 : decode (mj_b 99) 38 = .ok (.aload_n 0, 1) := by decide +kernel
theorem xd99_39 : decode (mj_b 99) 39 = .ok (.iload_n 1, 1) := by decide +kernel
theorem xd99_40 : decode (mj_b 99) 40 = .ok (.iconst 1, 1) := by decide +kernel
theorem xd99_41 : decode (mj_b 99) 41 = .ok (.invokevirtual 32, 3) := by decide +kernel
theorem xd99_44 : decode (mj_b 99) 44 = .ok (.istore 8, 2) := by decide +kernel
theorem xd99_46 : decode (mj_b 99) 46 = .ok (.aload_n 0, 1) := by decide +kernel
theorem xd99_47 : decode (mj_b 99) 47 = .ok (.iload_n 1, 1) := by decide +kernel
theorem xd99_48 : decode (mj_b 99) 48 = .ok (.iconst 0, 1) := by decide +kernel
theorem xd99_49 : decode (mj_b 99) 49 = .ok (.invokevirtual 32, 3) := by decide +kernel
theorem xd99_52 : decode (mj_b 99) 52 = .ok (.istore 9, 2) := by decide +kernel
theorem xd99_54 : decode (mj_b 99) 54 = .ok (.aload_n 0, 1) := by decide +kernel
theorem xd99_55 : decode (mj_b 99) 55 = .ok (.iload_n 1, 1) := by decide +kernel
theorem xd99_56 : decode (mj_b 99) 56 = .ok (.iload_n 2, 1) := by decide +kernel
theorem xd99_57 : decode (mj_b 99) 57 = .ok (.invokevirtual 70, 3) := by decide +kernel
theorem xd99_60 : decode (mj_b 99) 60 = .ok (.iload_n 3, 1) := by decide +kernel
theorem xd99_61 : decode (mj_b 99) 61 = .ok (.if_icmp .ne 105, 3) := by decide +kernel
theorem xd99_64 : decode (mj_b 99) 64 = .ok (.aload_n 0, 1) := by decide +kernel
theorem xd99_65 : decode (mj_b 99) 65 = .ok (.iload_n 1, 1) := by decide +kernel
theorem xd99_66 : decode (mj_b 99) 66 = .ok (.iconst 0, 1) := by decide +kernel
theorem xd99_67 : decode (mj_b 99) 67 = .ok (.invokevirtual 32, 3) := by decide +kernel
theorem xd99_70 : decode (mj_b 99) 70 = .ok (.iload_n 2, 1) := by decide +kernel
theorem xd99_71 : decode (mj_b 99) 71 = .ok (.if_icmp .ne 95, 3) := by decide +kernel
theorem xd99_74 : decode (mj_b 99) 74 = .ok (.aload_n 0, 1) := by decide +kernel
theorem xd99_75 : decode (mj_b 99) 75 = .ok (.iconst 3, 1) := by decide +kernel
theorem xd99_76 : decode (mj_b 99) 76 = .ok (.invokevirtual 38, 3) := by decide +kernel
theorem xd99_79 : decode (mj_b 99) 79 = .ok (.iload 5, 2) := by decide +kernel
theorem xd99_81 : decode (mj_b 99) 81 = .ok (.iload 4, 2) := by decide +kernel
theorem xd99_83 : decode (mj_b 99) 83 = .ok (.iadd, 1) := by decide +kernel
theorem xd99_84 : decode (mj_b 99) 84 = .ok (.if_icmp .ne 82, 3) := by decide +kernel
theorem xd99_87 : decode (mj_b 99) 87 = .ok (.aload_n 0, 1) := by decide +kernel
theorem xd99_88 : decode (mj_b 99) 88 = .ok (.iconst 4, 1) := by decide +kernel
theorem xd99_89 : decode (mj_b 99) 89 = .ok (.invokevirtual 38, 3) := by decide +kernel
theorem xd99_92 : decode (mj_b 99) 92 = .ok (.iload 6, 2) := by decide +kernel
theorem xd99_94 : decode (mj_b 99) 94 = .ok (.iload_n 3, 1) := by decide +kernel
theorem xd99_95 : decode (mj_b 99) 95 = .ok (.iconst 1, 1) := by decide +kernel
theorem xd99_96 : decode (mj_b 99) 96 = .ok (.if_icmp .ne 7, 3) := by decide +kernel
theorem xd99_99 : decode (mj_b 99) 99 = .ok (.iconst 1, 1) := by decide +kernel
theorem xd99_100 : decode (mj_b 99) 100 = .ok (.goto 4, 3) := by decide +kernel
theorem xd99_103 : decode (mj_b 99) 103 = .ok (.iconst 0, 1) := by decide +kernel
theorem xd99_104 : decode (mj_b 99) 104 = .ok (.iadd, 1) := by decide +kernel
theorem xd99_105 : decode (mj_b 99) 105 = .ok (.if_icmp .ne 61, 3) := by decide +kernel
theorem xd99_108 : decode (mj_b 99) 108 = .ok (.aload_n 0, 1) := by decide +kernel
theorem xd99_109 : decode (mj_b 99) 109 = .ok (.iconst 5, 1) := by decide +kernel
theorem xd99_110 : decode (mj_b 99) 110 = .ok (.invokevirtual 38, 3) := by decide +kernel
theorem xd99_113 : decode (mj_b 99) 113 = .ok (.iload 7, 2) := by decide +kernel
theorem xd99_115 : decode (mj_b 99) 115 = .ok (.iload_n 3, 1) := by decide +kernel
theorem xd99_116 : decode (mj_b 99) 116 = .ok (.iconst 2, 1) := by decide +kernel
theorem xd99_117 : decode (mj_b 99) 117 = .ok (.if_icmp .ne 7, 3) := by decide +kernel
theorem xd99_120 : decode (mj_b 99) 120 = .ok (.iconst 1, 1) := by decide +kernel
theorem xd99_121 : decode (mj_b 99) 121 = .ok (.goto 4, 3) := by decide +kernel
theorem xd99_124 : decode (mj_b 99) 124 = .ok (.iconst 0, 1) := by decide +kernel
theorem xd99_125 : decode (mj_b 99) 125 = .ok (.iadd, 1) := by decide +kernel
theorem xd99_126 : decode (mj_b 99) 126 = .ok (.if_icmp .ne 40, 3) := by decide +kernel
theorem xd99_129 : decode (mj_b 99) 129 = .ok (.iload_n 3, 1) := by decide +kernel
theorem xd99_130 : decode (mj_b 99) 130 = .ok (.ifCond .ne 7, 3) := by decide +kernel
theorem xd99_133 : decode (mj_b 99) 133 = .ok (.iconst 1, 1) := by decide +kernel
theorem xd99_134 : decode (mj_b 99) 134 = .ok (.goto 4, 3) := by decide +kernel
theorem xd99_137 : decode (mj_b 99) 137 = .ok (.iconst 0, 1) := by decide +kernel
theorem xd99_138 : decode (mj_b 99) 138 = .ok (.iload 8, 2) := by decide +kernel
theorem xd99_140 : decode (mj_b 99) 140 = .ok (.ifCond .ge 7, 3) := by decide +kernel
theorem xd99_143 : decode (mj_b 99) 143 = .ok (.iconst 1, 1) := by decide +kernel
theorem xd99_144 : decode (mj_b 99) 144 = .ok (.goto 4, 3) := by decide +kernel
theorem xd99_147 : decode (mj_b 99) 147 = .ok (.iconst 0, 1) := by decide +kernel
theorem xd99_148 : decode (mj_b 99) 148 = .ok (.if_icmp .ne 18, 3) := by decide +kernel
theorem xd99_151 : decode (mj_b 99) 151 = .ok (.iload 9, 2) := by decide +kernel
theorem xd99_153 : decode (mj_b 99) 153 = .ok (.iload_n 2, 1) := by decide +kernel
theorem xd99_154 : decode (mj_b 99) 154 = .ok (.if_icmp .ne 8, 3) := by decide +kernel
theorem xd99_157 : decode (mj_b 99) 157 = .ok (.iload_n 3, 1) := by decide +kernel
theorem xd99_158 : decode (mj_b 99) 158 = .ok (.iconst 2, 1) := by decide +kernel
theorem xd99_159 : decode (mj_b 99) 159 = .ok (.if_icmp .ge 7, 3) := by decide +kernel
theorem xd99_162 : decode (mj_b 99) 162 = .ok (.iconst 1, 1) := by decide +kernel
theorem xd99_163 : decode (mj_b 99) 163 = .ok (.goto 4, 3) := by decide +kernel
theorem xd99_166 : decode (mj_b 99) 166 = .ok (.iconst 0, 1) := by decide +kernel
theorem xd99_167 : decode (mj_b 99) 167 = .ok (.istore 10, 2) := by decide +kernel
theorem xd99_169 : decode (mj_b 99) 169 = .ok (.iload 10, 2) := by decide +kernel
theorem xd99_171 : decode (mj_b 99) 171 = .ok (.ifCond .eq 47, 3) := by decide +kernel
theorem xd99_174 : decode (mj_b 99) 174 = .ok (.iload_n 3, 1) := by decide +kernel
theorem xd99_175 : decode (mj_b 99) 175 = .ok (.iconst 2, 1) := by decide +kernel
theorem xd99_176 : decode (mj_b 99) 176 = .ok (.if_icmp .ne 38, 3) := by decide +kernel
theorem xd99_179 : decode (mj_b 99) 179 = .ok (.aload_n 0, 1) := by decide +kernel
theorem xd99_180 : decode (mj_b 99) 180 = .ok (.iload 8, 2) := by decide +kernel
theorem xd99_182 : decode (mj_b 99) 182 = .ok (.iconst 2, 1) := by decide +kernel
theorem xd99_183 : decode (mj_b 99) 183 = .ok (.invokevirtual 16, 3) := by decide +kernel
theorem xd99_186 : decode (mj_b 99) 186 = .ok (.aload_n 0, 1) := by decide +kernel
theorem xd99_187 : decode (mj_b 99) 187 = .ok (.iload 8, 2) := by decide +kernel
theorem xd99_189 : decode (mj_b 99) 189 = .ok (.iconst 3, 1) := by decide +kernel
theorem xd99_190 : decode (mj_b 99) 190 = .ok (.invokevirtual 16, 3) := by decide +kernel
theorem xd99_193 : decode (mj_b 99) 193 = .ok (.if_icmp .ne 25, 3) := by decide +kernel
theorem xd99_196 : decode (mj_b 99) 196 = .ok (.aload_n 0, 1) := by decide +kernel
theorem xd99_197 : decode (mj_b 99) 197 = .ok (.iload 8, 2) := by decide +kernel
theorem xd99_199 : decode (mj_b 99) 199 = .ok (.iconst 0, 1) := by decide +kernel
theorem xd99_200 : decode (mj_b 99) 200 = .ok (.invokevirtual 16, 3) := by decide +kernel
theorem xd99_203 : decode (mj_b 99) 203 = .ok (.aload_n 0, 1) := by decide +kernel
theorem xd99_204 : decode (mj_b 99) 204 = .ok (.iload 8, 2) := by decide +kernel
theorem xd99_206 : decode (mj_b 99) 206 = .ok (.bipush 8, 2) := by decide +kernel
theorem xd99_208 : decode (mj_b 99) 208 = .ok (.invokevirtual 16, 3) := by decide +kernel
theorem xd99_211 : decode (mj_b 99) 211 = .ok (.if_icmp .ne 7, 3) := by decide +kernel
theorem xd99_214 : decode (mj_b 99) 214 = .ok (.iconst 1, 1) := by decide +kernel
theorem xd99_215 : decode (mj_b 99) 215 = .ok (.goto 4, 3) := by decide +kernel
theorem xd99_218 : decode (mj_b 99) 218 = .ok (.iconst 0, 1) := by decide +kernel
theorem xd99_219 : decode (mj_b 99) 219 = .ok (.ireturn, 1) := by decide +kernel
theorem x99_0 {x1 : Int32} {x2 : Int32} : wp Ln xs 99 0 [.ref 1, .int x1, .int x2, mj_hole, mj_hole, mj_hole, mj_hole, mj_hole, mj_hole, mj_hole, mj_hole] [] (u, ml_h m lm) Φ = wp Ln xs 100 0 [.ref 1, .int x1, .int x2, .int (nI 0), mj_hole] [] (u, ml_h m lm) (mk Ln xs 99 4 [.ref 1, .int x1, .int x2, mj_hole, mj_hole, mj_hole, mj_hole, mj_hole, mj_hole, mj_hole, mj_hole] [] Φ) := (wp_same xd99_0 (Or.inr rfl) rfl).trans ((wp_same xd99_1 (Or.inr rfl) rfl).trans ((wp_same xd99_2 (Or.inr rfl) rfl).trans ((wp_same (S' := [.int (nI 0), .int x2, .int x1, .ref 1]) xd99_3 (Or.inr rfl) rfl).trans (wm_cv (As := [.int x1, .int x2, .int (nI 0)]) (rest := []) xd99_4 rfl rfl (show ml_L[1]? = _ from rfl) (Nat.le_of_ble_eq_true rfl) (Nat.le_of_ble_eq_true rfl) (Nat.le_of_ble_eq_true rfl) (Nat.le_of_ble_eq_true rfl)))))
theorem x99_7 {x1 : Int32} {x2 : Int32} {xs0 : Int32} : wp Ln xs 99 7 [.ref 1, .int x1, .int x2, mj_hole, mj_hole, mj_hole, mj_hole, mj_hole, mj_hole, mj_hole, mj_hole] [.int xs0] (u, ml_h m lm) Φ = wp Ln xs 100 0 [.ref 1, .int x1, .int x2, .int (nI 1), mj_hole] [] (u, ml_h m lm) (mk Ln xs 99 12 [.ref 1, .int x1, .int x2, .int xs0, mj_hole, mj_hole, mj_hole, mj_hole, mj_hole, mj_hole, mj_hole] [] Φ) := (wp_same (L' := [.ref 1, .int x1, .int x2, .int xs0, mj_hole, mj_hole, mj_hole, mj_hole, mj_hole, mj_hole, mj_hole]) xd99_7 (Or.inr rfl) rfl).trans ((wp_same xd99_8 (Or.inr rfl) rfl).trans ((wp_same xd99_9 (Or.inr rfl) rfl).trans ((wp_same xd99_10 (Or.inr rfl) rfl).trans ((wp_same (S' := [.int (nI 1), .int x2, .int x1, .ref 1]) xd99_11 (Or.inr rfl) rfl).trans (wm_cv (As := [.int x1, .int x2, .int (nI 1)]) (rest := []) xd99_12 rfl rfl (show ml_L[1]? = _ from rfl) (Nat.le_of_ble_eq_true rfl) (Nat.le_of_ble_eq_true rfl) (Nat.le_of_ble_eq_true rfl) (Nat.le_of_ble_eq_true rfl))))))
theorem x99_15 {x1 : Int32} {x2 : Int32} {x3 : Int32} {xs0 : Int32} : wp Ln xs 99 15 [.ref 1, .int x1, .int x2, .int x3, mj_hole, mj_hole, mj_hole, mj_hole, mj_hole, mj_hole, mj_hole] [.int xs0] (u, ml_h m lm) Φ = wp Ln xs 34 0 [.ref 1, .int (nI 3)] [] (u, ml_h m lm) (mk Ln xs 99 19 [.ref 1, .int x1, .int x2, .int x3, .int xs0, mj_hole, mj_hole, mj_hole, mj_hole, mj_hole, mj_hole] [] Φ) := (wp_same (L' := [.ref 1, .int x1, .int x2, .int x3, .int xs0, mj_hole, mj_hole, mj_hole, mj_hole, mj_hole, mj_hole]) xd99_15 (Or.inr rfl) rfl).trans ((wp_same xd99_17 (Or.inr rfl) rfl).trans ((wp_same (S' := [.int (nI 3), .ref 1]) xd99_18 (Or.inr rfl) rfl).trans (wm_cv (As := [.int (nI 3)]) (rest := []) xd99_19 rfl rfl (show ml_L[1]? = _ from rfl) (Nat.le_of_ble_eq_true rfl) (Nat.le_of_ble_eq_true rfl) (Nat.le_of_ble_eq_true rfl) (Nat.le_of_ble_eq_true rfl))))
theorem x99_22 {x1 : Int32} {x2 : Int32} {x3 : Int32} {x4 : Int32} {xs0 : Int32} : wp Ln xs 99 22 [.ref 1, .int x1, .int x2, .int x3, .int x4, mj_hole, mj_hole, mj_hole, mj_hole, mj_hole, mj_hole] [.int xs0] (u, ml_h m lm) Φ = wp Ln xs 34 0 [.ref 1, .int (nI 4)] [] (u, ml_h m lm) (mk Ln xs 99 26 [.ref 1, .int x1, .int x2, .int x3, .int x4, .int xs0, mj_hole, mj_hole, mj_hole, mj_hole, mj_hole] [] Φ) := (wp_same (L' := [.ref 1, .int x1, .int x2, .int x3, .int x4, .int xs0, mj_hole, mj_hole, mj_hole, mj_hole, mj_hole]) xd99_22 (Or.inr rfl) rfl).trans ((wp_same xd99_24 (Or.inr rfl) rfl).trans ((wp_same (S' := [.int (nI 4), .ref 1]) xd99_25 (Or.inr rfl) rfl).trans (wm_cv (As := [.int (nI 4)]) (rest := []) xd99_26 rfl rfl (show ml_L[1]? = _ from rfl) (Nat.le_of_ble_eq_true rfl) (Nat.le_of_ble_eq_true rfl) (Nat.le_of_ble_eq_true rfl) (Nat.le_of_ble_eq_true rfl))))
theorem x99_29 {x1 : Int32} {x2 : Int32} {x3 : Int32} {x4 : Int32} {x5 : Int32} {xs0 : Int32} : wp Ln xs 99 29 [.ref 1, .int x1, .int x2, .int x3, .int x4, .int x5, mj_hole, mj_hole, mj_hole, mj_hole, mj_hole] [.int xs0] (u, ml_h m lm) Φ = wp Ln xs 34 0 [.ref 1, .int (nI 5)] [] (u, ml_h m lm) (mk Ln xs 99 33 [.ref 1, .int x1, .int x2, .int x3, .int x4, .int x5, .int xs0, mj_hole, mj_hole, mj_hole, mj_hole] [] Φ) := (wp_same (L' := [.ref 1, .int x1, .int x2, .int x3, .int x4, .int x5, .int xs0, mj_hole, mj_hole, mj_hole, mj_hole]) xd99_29 (Or.inr rfl) rfl).trans ((wp_same xd99_31 (Or.inr rfl) rfl).trans ((wp_same (S' := [.int (nI 5), .ref 1]) xd99_32 (Or.inr rfl) rfl).trans (wm_cv (As := [.int (nI 5)]) (rest := []) xd99_33 rfl rfl (show ml_L[1]? = _ from rfl) (Nat.le_of_ble_eq_true rfl) (Nat.le_of_ble_eq_true rfl) (Nat.le_of_ble_eq_true rfl) (Nat.le_of_ble_eq_true rfl))))
theorem x99_36 {x1 : Int32} {x2 : Int32} {x3 : Int32} {x4 : Int32} {x5 : Int32} {x6 : Int32} {xs0 : Int32} : wp Ln xs 99 36 [.ref 1, .int x1, .int x2, .int x3, .int x4, .int x5, .int x6, mj_hole, mj_hole, mj_hole, mj_hole] [.int xs0] (u, ml_h m lm) Φ = wp Ln xs 72 0 [.ref 1, .int x1, .int (nI 1)] [] (u, ml_h m lm) (mk Ln xs 99 41 [.ref 1, .int x1, .int x2, .int x3, .int x4, .int x5, .int x6, .int xs0, mj_hole, mj_hole, mj_hole] [] Φ) := (wp_same (L' := [.ref 1, .int x1, .int x2, .int x3, .int x4, .int x5, .int x6, .int xs0, mj_hole, mj_hole, mj_hole]) xd99_36 (Or.inr rfl) rfl).trans ((wp_same xd99_38 (Or.inr rfl) rfl).trans ((wp_same xd99_39 (Or.inr rfl) rfl).trans ((wp_same (S' := [.int (nI 1), .int x1, .ref 1]) xd99_40 (Or.inr rfl) rfl).trans (wm_cv (As := [.int x1, .int (nI 1)]) (rest := []) xd99_41 rfl rfl (show ml_L[1]? = _ from rfl) (Nat.le_of_ble_eq_true rfl) (Nat.le_of_ble_eq_true rfl) (Nat.le_of_ble_eq_true rfl) (Nat.le_of_ble_eq_true rfl)))))
theorem x99_44 {x1 : Int32} {x2 : Int32} {x3 : Int32} {x4 : Int32} {x5 : Int32} {x6 : Int32} {x7 : Int32} {xs0 : Int32} : wp Ln xs 99 44 [.ref 1, .int x1, .int x2, .int x3, .int x4, .int x5, .int x6, .int x7, mj_hole, mj_hole, mj_hole] [.int xs0] (u, ml_h m lm) Φ = wp Ln xs 72 0 [.ref 1, .int x1, .int (nI 0)] [] (u, ml_h m lm) (mk Ln xs 99 49 [.ref 1, .int x1, .int x2, .int x3, .int x4, .int x5, .int x6, .int x7, .int xs0, mj_hole, mj_hole] [] Φ) := (wp_same (L' := [.ref 1, .int x1, .int x2, .int x3, .int x4, .int x5, .int x6, .int x7, .int xs0, mj_hole, mj_hole]) xd99_44 (Or.inr rfl) rfl).trans ((wp_same xd99_46 (Or.inr rfl) rfl).trans ((wp_same xd99_47 (Or.inr rfl) rfl).trans ((wp_same (S' := [.int (nI 0), .int x1, .ref 1]) xd99_48 (Or.inr rfl) rfl).trans (wm_cv (As := [.int x1, .int (nI 0)]) (rest := []) xd99_49 rfl rfl (show ml_L[1]? = _ from rfl) (Nat.le_of_ble_eq_true rfl) (Nat.le_of_ble_eq_true rfl) (Nat.le_of_ble_eq_true rfl) (Nat.le_of_ble_eq_true rfl)))))
theorem x99_52 {x1 : Int32} {x2 : Int32} {x3 : Int32} {x4 : Int32} {x5 : Int32} {x6 : Int32} {x7 : Int32} {x8 : Int32} {xs0 : Int32} : wp Ln xs 99 52 [.ref 1, .int x1, .int x2, .int x3, .int x4, .int x5, .int x6, .int x7, .int x8, mj_hole, mj_hole] [.int xs0] (u, ml_h m lm) Φ = wp Ln xs 103 0 [.ref 1, .int x1, .int x2, mj_hole] [] (u, ml_h m lm) (mk Ln xs 99 57 [.ref 1, .int x1, .int x2, .int x3, .int x4, .int x5, .int x6, .int x7, .int x8, .int xs0, mj_hole] [] Φ) := (wp_same (L' := [.ref 1, .int x1, .int x2, .int x3, .int x4, .int x5, .int x6, .int x7, .int x8, .int xs0, mj_hole]) xd99_52 (Or.inr rfl) rfl).trans ((wp_same xd99_54 (Or.inr rfl) rfl).trans ((wp_same xd99_55 (Or.inr rfl) rfl).trans ((wp_same xd99_56 (Or.inr rfl) rfl).trans (wm_cv (As := [.int x1, .int x2]) (rest := []) xd99_57 rfl rfl (show ml_L[1]? = _ from rfl) (Nat.le_of_ble_eq_true rfl) (Nat.le_of_ble_eq_true rfl) (Nat.le_of_ble_eq_true rfl) (Nat.le_of_ble_eq_true rfl)))))
theorem x99_60 {x1 : Int32} {x2 : Int32} {x3 : Int32} {x4 : Int32} {x5 : Int32} {x6 : Int32} {x7 : Int32} {x8 : Int32} {x9 : Int32} {xs0 : Int32} : wp Ln xs 99 60 [.ref 1, .int x1, .int x2, .int x3, .int x4, .int x5, .int x6, .int x7, .int x8, .int x9, mj_hole] [.int xs0] (u, ml_h m lm) Φ = if ¬ xs0 = x3 then wp Ln xs 99 166 [.ref 1, .int x1, .int x2, .int x3, .int x4, .int x5, .int x6, .int x7, .int x8, .int x9, mj_hole] [] (u, ml_h m lm) Φ else wp Ln xs 99 64 [.ref 1, .int x1, .int x2, .int x3, .int x4, .int x5, .int x6, .int x7, .int x8, .int x9, mj_hole] [] (u, ml_h m lm) Φ := (wp_same xd99_60 (Or.inr rfl) rfl).trans (wx_icmp xd99_61 rfl rfl (¬ xs0 = x3) mb_ne)
theorem x99_64 {x1 : Int32} {x2 : Int32} {x3 : Int32} {x4 : Int32} {x5 : Int32} {x6 : Int32} {x7 : Int32} {x8 : Int32} {x9 : Int32} : wp Ln xs 99 64 [.ref 1, .int x1, .int x2, .int x3, .int x4, .int x5, .int x6, .int x7, .int x8, .int x9, mj_hole] [] (u, ml_h m lm) Φ = wp Ln xs 72 0 [.ref 1, .int x1, .int (nI 0)] [] (u, ml_h m lm) (mk Ln xs 99 67 [.ref 1, .int x1, .int x2, .int x3, .int x4, .int x5, .int x6, .int x7, .int x8, .int x9, mj_hole] [] Φ) := (wp_same xd99_64 (Or.inr rfl) rfl).trans ((wp_same xd99_65 (Or.inr rfl) rfl).trans ((wp_same (S' := [.int (nI 0), .int x1, .ref 1]) xd99_66 (Or.inr rfl) rfl).trans (wm_cv (As := [.int x1, .int (nI 0)]) (rest := []) xd99_67 rfl rfl (show ml_L[1]? = _ from rfl) (Nat.le_of_ble_eq_true rfl) (Nat.le_of_ble_eq_true rfl) (Nat.le_of_ble_eq_true rfl) (Nat.le_of_ble_eq_true rfl))))
theorem x99_70 {x1 : Int32} {x2 : Int32} {x3 : Int32} {x4 : Int32} {x5 : Int32} {x6 : Int32} {x7 : Int32} {x8 : Int32} {x9 : Int32} {xs0 : Int32} : wp Ln xs 99 70 [.ref 1, .int x1, .int x2, .int x3, .int x4, .int x5, .int x6, .int x7, .int x8, .int x9, mj_hole] [.int xs0] (u, ml_h m lm) Φ = if ¬ xs0 = x2 then wp Ln xs 99 166 [.ref 1, .int x1, .int x2, .int x3, .int x4, .int x5, .int x6, .int x7, .int x8, .int x9, mj_hole] [] (u, ml_h m lm) Φ else wp Ln xs 99 74 [.ref 1, .int x1, .int x2, .int x3, .int x4, .int x5, .int x6, .int x7, .int x8, .int x9, mj_hole] [] (u, ml_h m lm) Φ := (wp_same xd99_70 (Or.inr rfl) rfl).trans (wx_icmp xd99_71 rfl rfl (¬ xs0 = x2) mb_ne)
theorem x99_74 {x1 : Int32} {x2 : Int32} {x3 : Int32} {x4 : Int32} {x5 : Int32} {x6 : Int32} {x7 : Int32} {x8 : Int32} {x9 : Int32} : wp Ln xs 99 74 [.ref 1, .int x1, .int x2, .int x3, .int x4, .int x5, .int x6, .int x7, .int x8, .int x9, mj_hole] [] (u, ml_h m lm) Φ = wp Ln xs 34 0 [.ref 1, .int (nI 3)] [] (u, ml_h m lm) (mk Ln xs 99 76 [.ref 1, .int x1, .int x2, .int x3, .int x4, .int x5, .int x6, .int x7, .int x8, .int x9, mj_hole] [] Φ) := (wp_same xd99_74 (Or.inr rfl) rfl).trans ((wp_same (S' := [.int (nI 3), .ref 1]) xd99_75 (Or.inr rfl) rfl).trans (wm_cv (As := [.int (nI 3)]) (rest := []) xd99_76 rfl rfl (show ml_L[1]? = _ from rfl) (Nat.le_of_ble_eq_true rfl) (Nat.le_of_ble_eq_true rfl) (Nat.le_of_ble_eq_true rfl) (Nat.le_of_ble_eq_true rfl)))
theorem x99_79 {x1 : Int32} {x2 : Int32} {x3 : Int32} {x4 : Int32} {x5 : Int32} {x6 : Int32} {x7 : Int32} {x8 : Int32} {x9 : Int32} {xs0 : Int32} : wp Ln xs 99 79 [.ref 1, .int x1, .int x2, .int x3, .int x4, .int x5, .int x6, .int x7, .int x8, .int x9, mj_hole] [.int xs0] (u, ml_h m lm) Φ = if ¬ xs0 = (x5 + x4) then wp Ln xs 99 166 [.ref 1, .int x1, .int x2, .int x3, .int x4, .int x5, .int x6, .int x7, .int x8, .int x9, mj_hole] [] (u, ml_h m lm) Φ else wp Ln xs 99 87 [.ref 1, .int x1, .int x2, .int x3, .int x4, .int x5, .int x6, .int x7, .int x8, .int x9, mj_hole] [] (u, ml_h m lm) Φ := (wp_same xd99_79 (Or.inr rfl) rfl).trans ((wp_same xd99_81 (Or.inr rfl) rfl).trans ((wp_same xd99_83 (Or.inr rfl) rfl).trans (wx_icmp xd99_84 rfl rfl (¬ xs0 = (x5 + x4)) mb_ne)))
theorem x99_87 {x1 : Int32} {x2 : Int32} {x3 : Int32} {x4 : Int32} {x5 : Int32} {x6 : Int32} {x7 : Int32} {x8 : Int32} {x9 : Int32} : wp Ln xs 99 87 [.ref 1, .int x1, .int x2, .int x3, .int x4, .int x5, .int x6, .int x7, .int x8, .int x9, mj_hole] [] (u, ml_h m lm) Φ = wp Ln xs 34 0 [.ref 1, .int (nI 4)] [] (u, ml_h m lm) (mk Ln xs 99 89 [.ref 1, .int x1, .int x2, .int x3, .int x4, .int x5, .int x6, .int x7, .int x8, .int x9, mj_hole] [] Φ) := (wp_same xd99_87 (Or.inr rfl) rfl).trans ((wp_same (S' := [.int (nI 4), .ref 1]) xd99_88 (Or.inr rfl) rfl).trans (wm_cv (As := [.int (nI 4)]) (rest := []) xd99_89 rfl rfl (show ml_L[1]? = _ from rfl) (Nat.le_of_ble_eq_true rfl) (Nat.le_of_ble_eq_true rfl) (Nat.le_of_ble_eq_true rfl) (Nat.le_of_ble_eq_true rfl)))
theorem x99_92 {x1 : Int32} {x2 : Int32} {x3 : Int32} {x4 : Int32} {x5 : Int32} {x6 : Int32} {x7 : Int32} {x8 : Int32} {x9 : Int32} {xs0 : Int32} : wp Ln xs 99 92 [.ref 1, .int x1, .int x2, .int x3, .int x4, .int x5, .int x6, .int x7, .int x8, .int x9, mj_hole] [.int xs0] (u, ml_h m lm) Φ = if ¬ x3 = (nI 1) then wp Ln xs 99 103 [.ref 1, .int x1, .int x2, .int x3, .int x4, .int x5, .int x6, .int x7, .int x8, .int x9, mj_hole] [.int x6, .int xs0] (u, ml_h m lm) Φ else wp Ln xs 99 99 [.ref 1, .int x1, .int x2, .int x3, .int x4, .int x5, .int x6, .int x7, .int x8, .int x9, mj_hole] [.int x6, .int xs0] (u, ml_h m lm) Φ := (wp_same xd99_92 (Or.inr rfl) rfl).trans ((wp_same xd99_94 (Or.inr rfl) rfl).trans ((wp_same (S' := [.int (nI 1), .int x3, .int x6, .int xs0]) xd99_95 (Or.inr rfl) rfl).trans (wx_icmp xd99_96 rfl rfl (¬ x3 = (nI 1)) mb_ne)))
theorem x99_99 {x1 : Int32} {x2 : Int32} {x3 : Int32} {x4 : Int32} {x5 : Int32} {x6 : Int32} {x7 : Int32} {x8 : Int32} {x9 : Int32} {xs0 : Int32} {xs1 : Int32} : wp Ln xs 99 99 [.ref 1, .int x1, .int x2, .int x3, .int x4, .int x5, .int x6, .int x7, .int x8, .int x9, mj_hole] [.int xs0, .int xs1] (u, ml_h m lm) Φ = wp Ln xs 99 104 [.ref 1, .int x1, .int x2, .int x3, .int x4, .int x5, .int x6, .int x7, .int x8, .int x9, mj_hole] [.int (nI 1), .int xs0, .int xs1] (u, ml_h m lm) Φ := (wp_same (S' := [.int (nI 1), .int xs0, .int xs1]) xd99_99 (Or.inr rfl) rfl).trans (wx_goto xd99_100 rfl)
theorem x99_103 {x1 : Int32} {x2 : Int32} {x3 : Int32} {x4 : Int32} {x5 : Int32} {x6 : Int32} {x7 : Int32} {x8 : Int32} {x9 : Int32} {xs0 : Int32} {xs1 : Int32} : wp Ln xs 99 103 [.ref 1, .int x1, .int x2, .int x3, .int x4, .int x5, .int x6, .int x7, .int x8, .int x9, mj_hole] [.int xs0, .int xs1] (u, ml_h m lm) Φ = wp Ln xs 99 104 [.ref 1, .int x1, .int x2, .int x3, .int x4, .int x5, .int x6, .int x7, .int x8, .int x9, mj_hole] [.int (nI 0), .int xs0, .int xs1] (u, ml_h m lm) Φ := wp_same (S' := [.int (nI 0), .int xs0, .int xs1]) xd99_103 (Or.inr rfl) rfl
theorem x99_104 {x1 : Int32} {x2 : Int32} {x3 : Int32} {x4 : Int32} {x5 : Int32} {x6 : Int32} {x7 : Int32} {x8 : Int32} {x9 : Int32} {xs0 : Int32} {xs1 : Int32} {xs2 : Int32} : wp Ln xs 99 104 [.ref 1, .int x1, .int x2, .int x3, .int x4, .int x5, .int x6, .int x7, .int x8, .int x9, mj_hole] [.int xs0, .int xs1, .int xs2] (u, ml_h m lm) Φ = if ¬ xs2 = (xs1 + xs0) then wp Ln xs 99 166 [.ref 1, .int x1, .int x2, .int x3, .int x4, .int x5, .int x6, .int x7, .int x8, .int x9, mj_hole] [] (u, ml_h m lm) Φ else wp Ln xs 99 108 [.ref 1, .int x1, .int x2, .int x3, .int x4, .int x5, .int x6, .int x7, .int x8, .int x9, mj_hole] [] (u, ml_h m lm) Φ := (wp_same xd99_104 (Or.inr rfl) rfl).trans (wx_icmp xd99_105 rfl rfl (¬ xs2 = (xs1 + xs0)) mb_ne)
theorem x99_108 {x1 : Int32} {x2 : Int32} {x3 : Int32} {x4 : Int32} {x5 : Int32} {x6 : Int32} {x7 : Int32} {x8 : Int32} {x9 : Int32} : wp Ln xs 99 108 [.ref 1, .int x1, .int x2, .int x3, .int x4, .int x5, .int x6, .int x7, .int x8, .int x9, mj_hole] [] (u, ml_h m lm) Φ = wp Ln xs 34 0 [.ref 1, .int (nI 5)] [] (u, ml_h m lm) (mk Ln xs 99 110 [.ref 1, .int x1, .int x2, .int x3, .int x4, .int x5, .int x6, .int x7, .int x8, .int x9, mj_hole] [] Φ) := (wp_same xd99_108 (Or.inr rfl) rfl).trans ((wp_same (S' := [.int (nI 5), .ref 1]) xd99_109 (Or.inr rfl) rfl).trans (wm_cv (As := [.int (nI 5)]) (rest := []) xd99_110 rfl rfl (show ml_L[1]? = _ from rfl) (Nat.le_of_ble_eq_true rfl) (Nat.le_of_ble_eq_true rfl) (Nat.le_of_ble_eq_true rfl) (Nat.le_of_ble_eq_true rfl)))
theorem x99_113 {x1 : Int32} {x2 : Int32} {x3 : Int32} {x4 : Int32} {x5 : Int32} {x6 : Int32} {x7 : Int32} {x8 : Int32} {x9 : Int32} {xs0 : Int32} : wp Ln xs 99 113 [.ref 1, .int x1, .int x2, .int x3, .int x4, .int x5, .int x6, .int x7, .int x8, .int x9, mj_hole] [.int xs0] (u, ml_h m lm) Φ = if ¬ x3 = (nI 2) then wp Ln xs 99 124 [.ref 1, .int x1, .int x2, .int x3, .int x4, .int x5, .int x6, .int x7, .int x8, .int x9, mj_hole] [.int x7, .int xs0] (u, ml_h m lm) Φ else wp Ln xs 99 120 [.ref 1, .int x1, .int x2, .int x3, .int x4, .int x5, .int x6, .int x7, .int x8, .int x9, mj_hole] [.int x7, .int xs0] (u, ml_h m lm) Φ := (wp_same xd99_113 (Or.inr rfl) rfl).trans ((wp_same xd99_115 (Or.inr rfl) rfl).trans ((wp_same (S' := [.int (nI 2), .int x3, .int x7, .int xs0]) xd99_116 (Or.inr rfl) rfl).trans (wx_icmp xd99_117 rfl rfl (¬ x3 = (nI 2)) mb_ne)))
theorem x99_120 {x1 : Int32} {x2 : Int32} {x3 : Int32} {x4 : Int32} {x5 : Int32} {x6 : Int32} {x7 : Int32} {x8 : Int32} {x9 : Int32} {xs0 : Int32} {xs1 : Int32} : wp Ln xs 99 120 [.ref 1, .int x1, .int x2, .int x3, .int x4, .int x5, .int x6, .int x7, .int x8, .int x9, mj_hole] [.int xs0, .int xs1] (u, ml_h m lm) Φ = wp Ln xs 99 125 [.ref 1, .int x1, .int x2, .int x3, .int x4, .int x5, .int x6, .int x7, .int x8, .int x9, mj_hole] [.int (nI 1), .int xs0, .int xs1] (u, ml_h m lm) Φ := (wp_same (S' := [.int (nI 1), .int xs0, .int xs1]) xd99_120 (Or.inr rfl) rfl).trans (wx_goto xd99_121 rfl)
theorem x99_124 {x1 : Int32} {x2 : Int32} {x3 : Int32} {x4 : Int32} {x5 : Int32} {x6 : Int32} {x7 : Int32} {x8 : Int32} {x9 : Int32} {xs0 : Int32} {xs1 : Int32} : wp Ln xs 99 124 [.ref 1, .int x1, .int x2, .int x3, .int x4, .int x5, .int x6, .int x7, .int x8, .int x9, mj_hole] [.int xs0, .int xs1] (u, ml_h m lm) Φ = wp Ln xs 99 125 [.ref 1, .int x1, .int x2, .int x3, .int x4, .int x5, .int x6, .int x7, .int x8, .int x9, mj_hole] [.int (nI 0), .int xs0, .int xs1] (u, ml_h m lm) Φ := wp_same (S' := [.int (nI 0), .int xs0, .int xs1]) xd99_124 (Or.inr rfl) rfl
theorem x99_125 {x1 : Int32} {x2 : Int32} {x3 : Int32} {x4 : Int32} {x5 : Int32} {x6 : Int32} {x7 : Int32} {x8 : Int32} {x9 : Int32} {xs0 : Int32} {xs1 : Int32} {xs2 : Int32} : wp Ln xs 99 125 [.ref 1, .int x1, .int x2, .int x3, .int x4, .int x5, .int x6, .int x7, .int x8, .int x9, mj_hole] [.int xs0, .int xs1, .int xs2] (u, ml_h m lm) Φ = if ¬ xs2 = (xs1 + xs0) then wp Ln xs 99 166 [.ref 1, .int x1, .int x2, .int x3, .int x4, .int x5, .int x6, .int x7, .int x8, .int x9, mj_hole] [] (u, ml_h m lm) Φ else wp Ln xs 99 129 [.ref 1, .int x1, .int x2, .int x3, .int x4, .int x5, .int x6, .int x7, .int x8, .int x9, mj_hole] [] (u, ml_h m lm) Φ := (wp_same xd99_125 (Or.inr rfl) rfl).trans (wx_icmp xd99_126 rfl rfl (¬ xs2 = (xs1 + xs0)) mb_ne)
theorem x99_129 {x1 : Int32} {x2 : Int32} {x3 : Int32} {x4 : Int32} {x5 : Int32} {x6 : Int32} {x7 : Int32} {x8 : Int32} {x9 : Int32} : wp Ln xs 99 129 [.ref 1, .int x1, .int x2, .int x3, .int x4, .int x5, .int x6, .int x7, .int x8, .int x9, mj_hole] [] (u, ml_h m lm) Φ = if ¬ x3 = (nI 0) then wp Ln xs 99 137 [.ref 1, .int x1, .int x2, .int x3, .int x4, .int x5, .int x6, .int x7, .int x8, .int x9, mj_hole] [] (u, ml_h m lm) Φ else wp Ln xs 99 133 [.ref 1, .int x1, .int x2, .int x3, .int x4, .int x5, .int x6, .int x7, .int x8, .int x9, mj_hole] [] (u, ml_h m lm) Φ := (wp_same xd99_129 (Or.inr rfl) rfl).trans (wx_if xd99_130 rfl rfl (¬ x3 = (nI 0)) mb_ne)
theorem x99_133 {x1 : Int32} {x2 : Int32} {x3 : Int32} {x4 : Int32} {x5 : Int32} {x6 : Int32} {x7 : Int32} {x8 : Int32} {x9 : Int32} : wp Ln xs 99 133 [.ref 1, .int x1, .int x2, .int x3, .int x4, .int x5, .int x6, .int x7, .int x8, .int x9, mj_hole] [] (u, ml_h m lm) Φ = wp Ln xs 99 138 [.ref 1, .int x1, .int x2, .int x3, .int x4, .int x5, .int x6, .int x7, .int x8, .int x9, mj_hole] [.int (nI 1)] (u, ml_h m lm) Φ := (wp_same (S' := [.int (nI 1)]) xd99_133 (Or.inr rfl) rfl).trans (wx_goto xd99_134 rfl)
theorem x99_137 {x1 : Int32} {x2 : Int32} {x3 : Int32} {x4 : Int32} {x5 : Int32} {x6 : Int32} {x7 : Int32} {x8 : Int32} {x9 : Int32} : wp Ln xs 99 137 [.ref 1, .int x1, .int x2, .int x3, .int x4, .int x5, .int x6, .int x7, .int x8, .int x9, mj_hole] [] (u, ml_h m lm) Φ = wp Ln xs 99 138 [.ref 1, .int x1, .int x2, .int x3, .int x4, .int x5, .int x6, .int x7, .int x8, .int x9, mj_hole] [.int (nI 0)] (u, ml_h m lm) Φ := wp_same (S' := [.int (nI 0)]) xd99_137 (Or.inr rfl) rfl
theorem x99_138 {x1 : Int32} {x2 : Int32} {x3 : Int32} {x4 : Int32} {x5 : Int32} {x6 : Int32} {x7 : Int32} {x8 : Int32} {x9 : Int32} {xs0 : Int32} : wp Ln xs 99 138 [.ref 1, .int x1, .int x2, .int x3, .int x4, .int x5, .int x6, .int x7, .int x8, .int x9, mj_hole] [.int xs0] (u, ml_h m lm) Φ = if (nI 0) ≤ x8 then wp Ln xs 99 147 [.ref 1, .int x1, .int x2, .int x3, .int x4, .int x5, .int x6, .int x7, .int x8, .int x9, mj_hole] [.int xs0] (u, ml_h m lm) Φ else wp Ln xs 99 143 [.ref 1, .int x1, .int x2, .int x3, .int x4, .int x5, .int x6, .int x7, .int x8, .int x9, mj_hole] [.int xs0] (u, ml_h m lm) Φ := (wp_same xd99_138 (Or.inr rfl) rfl).trans (wx_if xd99_140 rfl rfl ((nI 0) ≤ x8) mb_ge)
theorem x99_143 {x1 : Int32} {x2 : Int32} {x3 : Int32} {x4 : Int32} {x5 : Int32} {x6 : Int32} {x7 : Int32} {x8 : Int32} {x9 : Int32} {xs0 : Int32} : wp Ln xs 99 143 [.ref 1, .int x1, .int x2, .int x3, .int x4, .int x5, .int x6, .int x7, .int x8, .int x9, mj_hole] [.int xs0] (u, ml_h m lm) Φ = wp Ln xs 99 148 [.ref 1, .int x1, .int x2, .int x3, .int x4, .int x5, .int x6, .int x7, .int x8, .int x9, mj_hole] [.int (nI 1), .int xs0] (u, ml_h m lm) Φ := (wp_same (S' := [.int (nI 1), .int xs0]) xd99_143 (Or.inr rfl) rfl).trans (wx_goto xd99_144 rfl)
theorem x99_147 {x1 : Int32} {x2 : Int32} {x3 : Int32} {x4 : Int32} {x5 : Int32} {x6 : Int32} {x7 : Int32} {x8 : Int32} {x9 : Int32} {xs0 : Int32} : wp Ln xs 99 147 [.ref 1, .int x1, .int x2, .int x3, .int x4, .int x5, .int x6, .int x7, .int x8, .int x9, mj_hole] [.int xs0] (u, ml_h m lm) Φ = wp Ln xs 99 148 [.ref 1, .int x1, .int x2, .int x3, .int x4, .int x5, .int x6, .int x7, .int x8, .int x9, mj_hole] [.int (nI 0), .int xs0] (u, ml_h m lm) Φ := wp_same (S' := [.int (nI 0), .int xs0]) xd99_147 (Or.inr rfl) rfl
theorem x99_148 {x1 : Int32} {x2 : Int32} {x3 : Int32} {x4 : Int32} {x5 : Int32} {x6 : Int32} {x7 : Int32} {x8 : Int32} {x9 : Int32} {xs0 : Int32} {xs1 : Int32} : wp Ln xs 99 148 [.ref 1, .int x1, .int x2, .int x3, .int x4, .int x5, .int x6, .int x7, .int x8, .int x9, mj_hole] [.int xs0, .int xs1] (u, ml_h m lm) Φ = if ¬ xs1 = xs0 then wp Ln xs 99 166 [.ref 1, .int x1, .int x2, .int x3, .int x4, .int x5, .int x6, .int x7, .int x8, .int x9, mj_hole] [] (u, ml_h m lm) Φ else wp Ln xs 99 151 [.ref 1, .int x1, .int x2, .int x3, .int x4, .int x5, .int x6, .int x7, .int x8, .int x9, mj_hole] [] (u, ml_h m lm) Φ := wx_icmp xd99_148 rfl rfl (¬ xs1 = xs0) mb_ne
theorem x99_151 {x1 : Int32} {x2 : Int32} {x3 : Int32} {x4 : Int32} {x5 : Int32} {x6 : Int32} {x7 : Int32} {x8 : Int32} {x9 : Int32} : wp Ln xs 99 151 [.ref 1, .int x1, .int x2, .int x3, .int x4, .int x5, .int x6, .int x7, .int x8, .int x9, mj_hole] [] (u, ml_h m lm) Φ = if ¬ x9 = x2 then wp Ln xs 99 162 [.ref 1, .int x1, .int x2, .int x3, .int x4, .int x5, .int x6, .int x7, .int x8, .int x9, mj_hole] [] (u, ml_h m lm) Φ else wp Ln xs 99 157 [.ref 1, .int x1, .int x2, .int x3, .int x4, .int x5, .int x6, .int x7, .int x8, .int x9, mj_hole] [] (u, ml_h m lm) Φ := (wp_same xd99_151 (Or.inr rfl) rfl).trans ((wp_same xd99_153 (Or.inr rfl) rfl).trans (wx_icmp xd99_154 rfl rfl (¬ x9 = x2) mb_ne))
theorem x99_157 {x1 : Int32} {x2 : Int32} {x3 : Int32} {x4 : Int32} {x5 : Int32} {x6 : Int32} {x7 : Int32} {x8 : Int32} {x9 : Int32} : wp Ln xs 99 157 [.ref 1, .int x1, .int x2, .int x3, .int x4, .int x5, .int x6, .int x7, .int x8, .int x9, mj_hole] [] (u, ml_h m lm) Φ = if (nI 2) ≤ x3 then wp Ln xs 99 166 [.ref 1, .int x1, .int x2, .int x3, .int x4, .int x5, .int x6, .int x7, .int x8, .int x9, mj_hole] [] (u, ml_h m lm) Φ else wp Ln xs 99 162 [.ref 1, .int x1, .int x2, .int x3, .int x4, .int x5, .int x6, .int x7, .int x8, .int x9, mj_hole] [] (u, ml_h m lm) Φ := (wp_same xd99_157 (Or.inr rfl) rfl).trans ((wp_same (S' := [.int (nI 2), .int x3]) xd99_158 (Or.inr rfl) rfl).trans (wx_icmp xd99_159 rfl rfl ((nI 2) ≤ x3) mb_ge))
theorem x99_162 {x1 : Int32} {x2 : Int32} {x3 : Int32} {x4 : Int32} {x5 : Int32} {x6 : Int32} {x7 : Int32} {x8 : Int32} {x9 : Int32} : wp Ln xs 99 162 [.ref 1, .int x1, .int x2, .int x3, .int x4, .int x5, .int x6, .int x7, .int x8, .int x9, mj_hole] [] (u, ml_h m lm) Φ = wp Ln xs 99 167 [.ref 1, .int x1, .int x2, .int x3, .int x4, .int x5, .int x6, .int x7, .int x8, .int x9, mj_hole] [.int (nI 1)] (u, ml_h m lm) Φ := (wp_same (S' := [.int (nI 1)]) xd99_162 (Or.inr rfl) rfl).trans (wx_goto xd99_163 rfl)
theorem x99_166 {x1 : Int32} {x2 : Int32} {x3 : Int32} {x4 : Int32} {x5 : Int32} {x6 : Int32} {x7 : Int32} {x8 : Int32} {x9 : Int32} : wp Ln xs 99 166 [.ref 1, .int x1, .int x2, .int x3, .int x4, .int x5, .int x6, .int x7, .int x8, .int x9, mj_hole] [] (u, ml_h m lm) Φ = wp Ln xs 99 167 [.ref 1, .int x1, .int x2, .int x3, .int x4, .int x5, .int x6, .int x7, .int x8, .int x9, mj_hole] [.int (nI 0)] (u, ml_h m lm) Φ := wp_same (S' := [.int (nI 0)]) xd99_166 (Or.inr rfl) rfl
theorem x99_167 {x1 : Int32} {x2 : Int32} {x3 : Int32} {x4 : Int32} {x5 : Int32} {x6 : Int32} {x7 : Int32} {x8 : Int32} {x9 : Int32} {xs0 : Int32} : wp Ln xs 99 167 [.ref 1, .int x1, .int x2, .int x3, .int x4, .int x5, .int x6, .int x7, .int x8, .int x9, mj_hole] [.int xs0] (u, ml_h m lm) Φ = if xs0 = (nI 0) then wp Ln xs 99 218 [.ref 1, .int x1, .int x2, .int x3, .int x4, .int x5, .int x6, .int x7, .int x8, .int x9, .int xs0] [] (u, ml_h m lm) Φ else wp Ln xs 99 174 [.ref 1, .int x1, .int x2, .int x3, .int x4, .int x5, .int x6, .int x7, .int x8, .int x9, .int xs0] [] (u, ml_h m lm) Φ := (wp_same (L' := [.ref 1, .int x1, .int x2, .int x3, .int x4, .int x5, .int x6, .int x7, .int x8, .int x9, .int xs0]) xd99_167 (Or.inr rfl) rfl).trans ((wp_same xd99_169 (Or.inr rfl) rfl).trans (wx_if xd99_171 rfl rfl (xs0 = (nI 0)) mb_eq))
theorem x99_174 {x1 : Int32} {x2 : Int32} {x3 : Int32} {x4 : Int32} {x5 : Int32} {x6 : Int32} {x7 : Int32} {x8 : Int32} {x9 : Int32} {x10 : Int32} : wp Ln xs 99 174 [.ref 1, .int x1, .int x2, .int x3, .int x4, .int x5, .int x6, .int x7, .int x8, .int x9, .int x10] [] (u, ml_h m lm) Φ = if ¬ x3 = (nI 2) then wp Ln xs 99 214 [.ref 1, .int x1, .int x2, .int x3, .int x4, .int x5, .int x6, .int x7, .int x8, .int x9, .int x10] [] (u, ml_h m lm) Φ else wp Ln xs 99 179 [.ref 1, .int x1, .int x2, .int x3, .int x4, .int x5, .int x6, .int x7, .int x8, .int x9, .int x10] [] (u, ml_h m lm) Φ := (wp_same xd99_174 (Or.inr rfl) rfl).trans ((wp_same (S' := [.int (nI 2), .int x3]) xd99_175 (Or.inr rfl) rfl).trans (wx_icmp xd99_176 rfl rfl (¬ x3 = (nI 2)) mb_ne))
theorem x99_179 {x1 : Int32} {x2 : Int32} {x3 : Int32} {x4 : Int32} {x5 : Int32} {x6 : Int32} {x7 : Int32} {x8 : Int32} {x9 : Int32} {x10 : Int32} : wp Ln xs 99 179 [.ref 1, .int x1, .int x2, .int x3, .int x4, .int x5, .int x6, .int x7, .int x8, .int x9, .int x10] [] (u, ml_h m lm) Φ = wp Ln xs 56 0 [.ref 1, .int x8, .int (nI 2)] [] (u, ml_h m lm) (mk Ln xs 99 183 [.ref 1, .int x1, .int x2, .int x3, .int x4, .int x5, .int x6, .int x7, .int x8, .int x9, .int x10] [] Φ) := (wp_same xd99_179 (Or.inr rfl) rfl).trans ((wp_same xd99_180 (Or.inr rfl) rfl).trans ((wp_same (S' := [.int (nI 2), .int x8, .ref 1]) xd99_182 (Or.inr rfl) rfl).trans (wm_cv (As := [.int x8, .int (nI 2)]) (rest := []) xd99_183 rfl rfl (show ml_L[1]? = _ from rfl) (Nat.le_of_ble_eq_true rfl) (Nat.le_of_ble_eq_true rfl) (Nat.le_of_ble_eq_true rfl) (Nat.le_of_ble_eq_true rfl))))
theorem x99_186 {x1 : Int32} {x2 : Int32} {x3 : Int32} {x4 : Int32} {x5 : Int32} {x6 : Int32} {x7 : Int32} {x8 : Int32} {x9 : Int32} {x10 : Int32} {xs0 : Int32} : wp Ln xs 99 186 [.ref 1, .int x1, .int x2, .int x3, .int x4, .int x5, .int x6, .int x7, .int x8, .int x9, .int x10] [.int xs0] (u, ml_h m lm) Φ = wp Ln xs 56 0 [.ref 1, .int x8, .int (nI 3)] [] (u, ml_h m lm) (mk Ln xs 99 190 [.ref 1, .int x1, .int x2, .int x3, .int x4, .int x5, .int x6, .int x7, .int x8, .int x9, .int x10] [.int xs0] Φ) := (wp_same xd99_186 (Or.inr rfl) rfl).trans ((wp_same xd99_187 (Or.inr rfl) rfl).trans ((wp_same (S' := [.int (nI 3), .int x8, .ref 1, .int xs0]) xd99_189 (Or.inr rfl) rfl).trans (wm_cv (As := [.int x8, .int (nI 3)]) (rest := [.int xs0]) xd99_190 rfl rfl (show ml_L[1]? = _ from rfl) (Nat.le_of_ble_eq_true rfl) (Nat.le_of_ble_eq_true rfl) (Nat.le_of_ble_eq_true rfl) (Nat.le_of_ble_eq_true rfl))))
theorem x99_193 {x1 : Int32} {x2 : Int32} {x3 : Int32} {x4 : Int32} {x5 : Int32} {x6 : Int32} {x7 : Int32} {x8 : Int32} {x9 : Int32} {x10 : Int32} {xs0 : Int32} {xs1 : Int32} : wp Ln xs 99 193 [.ref 1, .int x1, .int x2, .int x3, .int x4, .int x5, .int x6, .int x7, .int x8, .int x9, .int x10] [.int xs0, .int xs1] (u, ml_h m lm) Φ = if ¬ xs1 = xs0 then wp Ln xs 99 218 [.ref 1, .int x1, .int x2, .int x3, .int x4, .int x5, .int x6, .int x7, .int x8, .int x9, .int x10] [] (u, ml_h m lm) Φ else wp Ln xs 99 196 [.ref 1, .int x1, .int x2, .int x3, .int x4, .int x5, .int x6, .int x7, .int x8, .int x9, .int x10] [] (u, ml_h m lm) Φ := wx_icmp xd99_193 rfl rfl (¬ xs1 = xs0) mb_ne
theorem x99_196 {x1 : Int32} {x2 : Int32} {x3 : Int32} {x4 : Int32} {x5 : Int32} {x6 : Int32} {x7 : Int32} {x8 : Int32} {x9 : Int32} {x10 : Int32} : wp Ln xs 99 196 [.ref 1, .int x1, .int x2, .int x3, .int x4, .int x5, .int x6, .int x7, .int x8, .int x9, .int x10] [] (u, ml_h m lm) Φ = wp Ln xs 56 0 [.ref 1, .int x8, .int (nI 0)] [] (u, ml_h m lm) (mk Ln xs 99 200 [.ref 1, .int x1, .int x2, .int x3, .int x4, .int x5, .int x6, .int x7, .int x8, .int x9, .int x10] [] Φ) := (wp_same xd99_196 (Or.inr rfl) rfl).trans ((wp_same xd99_197 (Or.inr rfl) rfl).trans ((wp_same (S' := [.int (nI 0), .int x8, .ref 1]) xd99_199 (Or.inr rfl) rfl).trans (wm_cv (As := [.int x8, .int (nI 0)]) (rest := []) xd99_200 rfl rfl (show ml_L[1]? = _ from rfl) (Nat.le_of_ble_eq_true rfl) (Nat.le_of_ble_eq_true rfl) (Nat.le_of_ble_eq_true rfl) (Nat.le_of_ble_eq_true rfl))))
theorem x99_203 {x1 : Int32} {x2 : Int32} {x3 : Int32} {x4 : Int32} {x5 : Int32} {x6 : Int32} {x7 : Int32} {x8 : Int32} {x9 : Int32} {x10 : Int32} {xs0 : Int32} : wp Ln xs 99 203 [.ref 1, .int x1, .int x2, .int x3, .int x4, .int x5, .int x6, .int x7, .int x8, .int x9, .int x10] [.int xs0] (u, ml_h m lm) Φ = wp Ln xs 56 0 [.ref 1, .int x8, .int (nI 8)] [] (u, ml_h m lm) (mk Ln xs 99 208 [.ref 1, .int x1, .int x2, .int x3, .int x4, .int x5, .int x6, .int x7, .int x8, .int x9, .int x10] [.int xs0] Φ) := (wp_same xd99_203 (Or.inr rfl) rfl).trans ((wp_same xd99_204 (Or.inr rfl) rfl).trans ((wp_same (S' := [.int (nI 8), .int x8, .ref 1, .int xs0]) xd99_206 (Or.inr rfl) rfl).trans (wm_cv (As := [.int x8, .int (nI 8)]) (rest := [.int xs0]) xd99_208 rfl rfl (show ml_L[1]? = _ from rfl) (Nat.le_of_ble_eq_true rfl) (Nat.le_of_ble_eq_true rfl) (Nat.le_of_ble_eq_true rfl) (Nat.le_of_ble_eq_true rfl))))
theorem x99_211 {x1 : Int32} {x2 : Int32} {x3 : Int32} {x4 : Int32} {x5 : Int32} {x6 : Int32} {x7 : Int32} {x8 : Int32} {x9 : Int32} {x10 : Int32} {xs0 : Int32} {xs1 : Int32} : wp Ln xs 99 211 [.ref 1, .int x1, .int x2, .int x3, .int x4, .int x5, .int x6, .int x7, .int x8, .int x9, .int x10] [.int xs0, .int xs1] (u, ml_h m lm) Φ = if ¬ xs1 = xs0 then wp Ln xs 99 218 [.ref 1, .int x1, .int x2, .int x3, .int x4, .int x5, .int x6, .int x7, .int x8, .int x9, .int x10] [] (u, ml_h m lm) Φ else wp Ln xs 99 214 [.ref 1, .int x1, .int x2, .int x3, .int x4, .int x5, .int x6, .int x7, .int x8, .int x9, .int x10] [] (u, ml_h m lm) Φ := wx_icmp xd99_211 rfl rfl (¬ xs1 = xs0) mb_ne
theorem x99_214 {x1 : Int32} {x2 : Int32} {x3 : Int32} {x4 : Int32} {x5 : Int32} {x6 : Int32} {x7 : Int32} {x8 : Int32} {x9 : Int32} {x10 : Int32} : wp Ln xs 99 214 [.ref 1, .int x1, .int x2, .int x3, .int x4, .int x5, .int x6, .int x7, .int x8, .int x9, .int x10] [] (u, ml_h m lm) Φ = Φ (.inl (some (.int (nI 1)))) (u, ml_h m lm) := (wp_same (S' := [.int (nI 1)]) xd99_214 (Or.inr rfl) rfl).trans ((wx_goto xd99_215 rfl).trans (wp_fin (v := some (.int (nI 1))) xd99_219 (Or.inr rfl) rfl rfl))
theorem x99_218 {x1 : Int32} {x2 : Int32} {x3 : Int32} {x4 : Int32} {x5 : Int32} {x6 : Int32} {x7 : Int32} {x8 : Int32} {x9 : Int32} {x10 : Int32} : wp Ln xs 99 218 [.ref 1, .int x1, .int x2, .int x3, .int x4, .int x5, .int x6, .int x7, .int x8, .int x9, .int x10] [] (u, ml_h m lm) Φ = Φ (.inl (some (.int (nI 0)))) (u, ml_h m lm) := (wp_same (S' := [.int (nI 0)]) xd99_218 (Or.inr rfl) rfl).trans (wp_fin (v := some (.int (nI 0))) xd99_219 (Or.inr rfl) rfl rfl)
/- PickedForms.ifChanged -/
theorem xd100_0 : decode (mj_b 100) 0 = .ok (.aload_n 0, 1) := by decide +kernel
theorem xd100_1 : decode (mj_b 100) 1 = .ok (.getfield 12, 3) := by decide +kernel
theorem xd100_4 : decode (mj_b 100) 4 = .ok (.iload_n 1, 1) := by decide +kernel
theorem xd100_5 : decode (mj_b 100) 5 = .ok (.invokevirtual 127, 3) := by decide +kernel
theorem xd100_8 : decode (mj_b 100) 8 = .ok (.ifCond .ne 13, 3) := by decide +kernel
theorem xd100_11 : decode (mj_b 100) 11 = .ok (.new 130, 3) := by decide +kernel
theorem xd100_21 : decode (mj_b 100) 21 = .ok (.iload_n 2, 1) := by decide +kernel
theorem xd100_22 : decode (mj_b 100) 22 = .ok (.invokestatic 76, 3) := by decide +kernel
theorem xd100_25 : decode (mj_b 100) 25 = .ok (.ifCond .eq 12, 3) := by decide +kernel
theorem xd100_28 : decode (mj_b 100) 28 = .ok (.iload_n 3, 1) := by decide +kernel
theorem xd100_29 : decode (mj_b 100) 29 = .ok (.ifCond .lt 8, 3) := by decide +kernel
theorem xd100_32 : decode (mj_b 100) 32 = .ok (.iload_n 3, 1) := by decide +kernel
theorem xd100_33 : decode (mj_b 100) 33 = .ok (.iconst 1, 1) := by decide +kernel
theorem xd100_34 : decode (mj_b 100) 34 = .ok (.if_icmp .le 14, 3) := by decide +kernel
theorem xd100_37 : decode (mj_b 100) 37 = .ok (.new 80, 3) := by decide +kernel
theorem xd100_48 : decode (mj_b 100) 48 = .ok (.aload_n 0, 1) := by decide +kernel
theorem xd100_49 : decode (mj_b 100) 49 = .ok (.iload_n 1, 1) := by decide +kernel
theorem xd100_50 : decode (mj_b 100) 50 = .ok (.iload_n 2, 1) := by decide +kernel
theorem xd100_51 : decode (mj_b 100) 51 = .ok (.invokevirtual 135, 3) := by decide +kernel
theorem xd100_54 : decode (mj_b 100) 54 = .ok (.istore 4, 2) := by decide +kernel
theorem xd100_56 : decode (mj_b 100) 56 = .ok (.iload_n 3, 1) := by decide +kernel
theorem xd100_57 : decode (mj_b 100) 57 = .ok (.ifCond .ne 6, 3) := by decide +kernel
theorem xd100_60 : decode (mj_b 100) 60 = .ok (.iload 4, 2) := by decide +kernel
theorem xd100_62 : decode (mj_b 100) 62 = .ok (.ireturn, 1) := by decide +kernel
theorem xd100_63 : decode (mj_b 100) 63 = .ok (.iload 4, 2) := by decide +kernel
theorem xd100_65 : decode (mj_b 100) 65 = .ok (.iconst 2, 1) := by decide +kernel
theorem xd100_66 : decode (mj_b 100) 66 = .ok (.if_icmp .ne 18, 3) := by decide +kernel
theorem xd100_69 : decode (mj_b 100) 69 = .ok (.aload_n 0, 1) := by decide +kernel
theorem xd100_70 : decode (mj_b 100) 70 = .ok (.aload_n 0, 1) := by decide +kernel
theorem xd100_71 : decode (mj_b 100) 71 = .ok (.getfield 12, 3) := by decide +kernel
theorem xd100_74 : decode (mj_b 100) 74 = .ok (.iload_n 1, 1) := by decide +kernel
theorem xd100_75 : decode (mj_b 100) 75 = .ok (.invokevirtual 151, 3) := by decide +kernel
theorem xd100_78 : decode (mj_b 100) 78 = .ok (.invokevirtual 293, 3) := by decide +kernel
theorem xd100_81 : decode (mj_b 100) 81 = .ok (.goto 4, 3) := by decide +kernel
theorem xd100_84 : decode (mj_b 100) 84 = .ok (.iconst 0, 1) := by decide +kernel
theorem xd100_85 : decode (mj_b 100) 85 = .ok (.ireturn, 1) := by decide +kernel
theorem x100_0 {x1 : Int32} {x2 : Int32} {x3 : Int32} : wp Ln xs 100 0 [.ref 1, .int x1, .int x2, .int x3, mj_hole] [] (u, ml_h m lm) Φ = wp Ln xs 73 0 [.ref 2, .int x1] [] (u, ml_h m lm) (mk Ln xs 100 5 [.ref 1, .int x1, .int x2, .int x3, mj_hole] [] Φ) := (wp_same xd100_0 (Or.inr rfl) rfl).trans ((wm_getr xd100_1 rfl (show ml_L[1]? = _ from rfl) rfl (Nat.le_of_ble_eq_true rfl)).trans ((wp_same xd100_4 (Or.inr rfl) rfl).trans (wm_cv (As := [.int x1]) (rest := []) xd100_5 rfl rfl (show ml_L[2]? = _ from rfl) (Nat.le_of_ble_eq_true rfl) (Nat.le_of_ble_eq_true rfl) (Nat.le_of_ble_eq_true rfl) (Nat.le_of_ble_eq_true rfl))))
theorem x100_8 {x1 : Int32} {x2 : Int32} {x3 : Int32} {xs0 : Int32} : wp Ln xs 100 8 [.ref 1, .int x1, .int x2, .int x3, mj_hole] [.int xs0] (u, ml_h m lm) Φ = if ¬ xs0 = (nI 0) then wp Ln xs 100 21 [.ref 1, .int x1, .int x2, .int x3, mj_hole] [] (u, ml_h m lm) Φ else wp Ln xs 100 11 [.ref 1, .int x1, .int x2, .int x3, mj_hole] [] (u, ml_h m lm) Φ := wx_if xd100_8 rfl rfl (¬ xs0 = (nI 0)) mb_ne
theorem x100_11 {x1 : Int32} {x2 : Int32} {x3 : Int32} : wp Ln xs 100 11 [.ref 1, .int x1, .int x2, .int x3, mj_hole] [] (u, ml_h m lm) Φ = Φ (.inr 2) ((u.1, u.2.1 + 1, u.2.2 + 6), ml_h m lm) := wp_thr xd100_11 (Or.inr rfl) rfl rfl (E := 2) (by decide +kernel)
theorem x100_21 {x1 : Int32} {x2 : Int32} {x3 : Int32} : wp Ln xs 100 21 [.ref 1, .int x1, .int x2, .int x3, mj_hole] [] (u, ml_h m lm) Φ = wp Ln xs 82 0 [.int x2] [] (u, ml_h m lm) (mk Ln xs 100 22 [.ref 1, .int x1, .int x2, .int x3, mj_hole] [] Φ) := (wp_same xd100_21 (Or.inr rfl) rfl).trans (wm_cs (As := [.int x2]) (rest := []) xd100_22 rfl rfl (Nat.le_of_ble_eq_true rfl) (Nat.le_of_ble_eq_true rfl) (Nat.le_of_ble_eq_true rfl) (Nat.le_of_ble_eq_true rfl))
theorem x100_25 {x1 : Int32} {x2 : Int32} {x3 : Int32} {xs0 : Int32} : wp Ln xs 100 25 [.ref 1, .int x1, .int x2, .int x3, mj_hole] [.int xs0] (u, ml_h m lm) Φ = if xs0 = (nI 0) then wp Ln xs 100 37 [.ref 1, .int x1, .int x2, .int x3, mj_hole] [] (u, ml_h m lm) Φ else wp Ln xs 100 28 [.ref 1, .int x1, .int x2, .int x3, mj_hole] [] (u, ml_h m lm) Φ := wx_if xd100_25 rfl rfl (xs0 = (nI 0)) mb_eq
theorem x100_28 {x1 : Int32} {x2 : Int32} {x3 : Int32} : wp Ln xs 100 28 [.ref 1, .int x1, .int x2, .int x3, mj_hole] [] (u, ml_h m lm) Φ = if x3 < (nI 0) then wp Ln xs 100 37 [.ref 1, .int x1, .int x2, .int x3, mj_hole] [] (u, ml_h m lm) Φ else wp Ln xs 100 32 [.ref 1, .int x1, .int x2, .int x3, mj_hole] [] (u, ml_h m lm) Φ := (wp_same xd100_28 (Or.inr rfl) rfl).trans (wx_if xd100_29 rfl rfl (x3 < (nI 0)) mb_lt)
theorem x100_32 {x1 : Int32} {x2 : Int32} {x3 : Int32} : wp Ln xs 100 32 [.ref 1, .int x1, .int x2, .int x3, mj_hole] [] (u, ml_h m lm) Φ = if x3 ≤ (nI 1) then wp Ln xs 100 48 [.ref 1, .int x1, .int x2, .int x3, mj_hole] [] (u, ml_h m lm) Φ else wp Ln xs 100 37 [.ref 1, .int x1, .int x2, .int x3, mj_hole] [] (u, ml_h m lm) Φ := (wp_same xd100_32 (Or.inr rfl) rfl).trans ((wp_same (S' := [.int (nI 1), .int x3]) xd100_33 (Or.inr rfl) rfl).trans (wx_icmp xd100_34 rfl rfl (x3 ≤ (nI 1)) mb_le))
theorem x100_37 {x1 : Int32} {x2 : Int32} {x3 : Int32} : wp Ln xs 100 37 [.ref 1, .int x1, .int x2, .int x3, mj_hole] [] (u, ml_h m lm) Φ = Φ (.inr 0) ((u.1, u.2.1 + 1, u.2.2 + 6), ml_h m lm) := wp_thr xd100_37 (Or.inr rfl) rfl rfl (E := 0) (by decide +kernel)
theorem x100_48 {x1 : Int32} {x2 : Int32} {x3 : Int32} : wp Ln xs 100 48 [.ref 1, .int x1, .int x2, .int x3, mj_hole] [] (u, ml_h m lm) Φ = wp Ln xs 101 0 [.ref 1, .int x1, .int x2, mj_hole, mj_hole, mj_hole, mj_hole] [] (u, ml_h m lm) (mk Ln xs 100 51 [.ref 1, .int x1, .int x2, .int x3, mj_hole] [] Φ) := (wp_same xd100_48 (Or.inr rfl) rfl).trans ((wp_same xd100_49 (Or.inr rfl) rfl).trans ((wp_same xd100_50 (Or.inr rfl) rfl).trans (wm_cv (As := [.int x1, .int x2]) (rest := []) xd100_51 rfl rfl (show ml_L[1]? = _ from rfl) (Nat.le_of_ble_eq_true rfl) (Nat.le_of_ble_eq_true rfl) (Nat.le_of_ble_eq_true rfl) (Nat.le_of_ble_eq_true rfl))))
theorem x100_54 {x1 : Int32} {x2 : Int32} {x3 : Int32} {xs0 : Int32} : wp Ln xs 100 54 [.ref 1, .int x1, .int x2, .int x3, mj_hole] [.int xs0] (u, ml_h m lm) Φ = if ¬ x3 = (nI 0) then wp Ln xs 100 63 [.ref 1, .int x1, .int x2, .int x3, .int xs0] [] (u, ml_h m lm) Φ else wp Ln xs 100 60 [.ref 1, .int x1, .int x2, .int x3, .int xs0] [] (u, ml_h m lm) Φ := (wp_same (L' := [.ref 1, .int x1, .int x2, .int x3, .int xs0]) xd100_54 (Or.inr rfl) rfl).trans ((wp_same xd100_56 (Or.inr rfl) rfl).trans (wx_if xd100_57 rfl rfl (¬ x3 = (nI 0)) mb_ne))
theorem x100_60 {x1 : Int32} {x2 : Int32} {x3 : Int32} {x4 : Int32} : wp Ln xs 100 60 [.ref 1, .int x1, .int x2, .int x3, .int x4] [] (u, ml_h m lm) Φ = Φ (.inl (some (.int x4))) (u, ml_h m lm) := (wp_same xd100_60 (Or.inr rfl) rfl).trans (wp_fin (v := some (.int x4)) xd100_62 (Or.inr rfl) rfl (mj_fin_i rfl))
theorem x100_63 {x1 : Int32} {x2 : Int32} {x3 : Int32} {x4 : Int32} : wp Ln xs 100 63 [.ref 1, .int x1, .int x2, .int x3, .int x4] [] (u, ml_h m lm) Φ = if ¬ x4 = (nI 2) then wp Ln xs 100 84 [.ref 1, .int x1, .int x2, .int x3, .int x4] [] (u, ml_h m lm) Φ else wp Ln xs 100 69 [.ref 1, .int x1, .int x2, .int x3, .int x4] [] (u, ml_h m lm) Φ := (wp_same xd100_63 (Or.inr rfl) rfl).trans ((wp_same (S' := [.int (nI 2), .int x4]) xd100_65 (Or.inr rfl) rfl).trans (wx_icmp xd100_66 rfl rfl (¬ x4 = (nI 2)) mb_ne))
theorem x100_69 {x1 : Int32} {x2 : Int32} {x3 : Int32} {x4 : Int32} : wp Ln xs 100 69 [.ref 1, .int x1, .int x2, .int x3, .int x4] [] (u, ml_h m lm) Φ = wp Ln xs 75 0 [.ref 2, .int x1, mj_hole, mj_hole] [] (u, ml_h m lm) (mk Ln xs 100 75 [.ref 1, .int x1, .int x2, .int x3, .int x4] [.ref 1] Φ) := (wp_same xd100_69 (Or.inr rfl) rfl).trans ((wp_same xd100_70 (Or.inr rfl) rfl).trans ((wm_getr xd100_71 rfl (show ml_L[1]? = _ from rfl) rfl (Nat.le_of_ble_eq_true rfl)).trans ((wp_same xd100_74 (Or.inr rfl) rfl).trans (wm_cv (As := [.int x1]) (rest := [.ref 1]) xd100_75 rfl rfl (show ml_L[2]? = _ from rfl) (Nat.le_of_ble_eq_true rfl) (Nat.le_of_ble_eq_true rfl) (Nat.le_of_ble_eq_true rfl) (Nat.le_of_ble_eq_true rfl)))))
theorem x100_78 {x1 : Int32} {x2 : Int32} {x3 : Int32} {x4 : Int32} {xs0 : Int32} : wp Ln xs 100 78 [.ref 1, .int x1, .int x2, .int x3, .int x4] [.int xs0, .ref 1] (u, ml_h m lm) Φ = wp Ln xs 102 0 [.ref 1, .int xs0] [] (u, ml_h m lm) (mk Ln xs 100 78 [.ref 1, .int x1, .int x2, .int x3, .int x4] [] Φ) := wm_cv (As := [.int xs0]) (rest := []) xd100_78 rfl rfl (show ml_L[1]? = _ from rfl) (Nat.le_of_ble_eq_true rfl) (Nat.le_of_ble_eq_true rfl) (Nat.le_of_ble_eq_true rfl) (Nat.le_of_ble_eq_true rfl)
theorem x100_81 {x1 : Int32} {x2 : Int32} {x3 : Int32} {x4 : Int32} {xs0 : Int32} : wp Ln xs 100 81 [.ref 1, .int x1, .int x2, .int x3, .int x4] [.int xs0] (u, ml_h m lm) Φ = Φ (.inl (some (.int xs0))) (u, ml_h m lm) := (wx_goto xd100_81 rfl).trans (wp_fin (v := some (.int xs0)) xd100_85 (Or.inr rfl) rfl (mj_fin_i rfl))
theorem x100_84 {x1 : Int32} {x2 : Int32} {x3 : Int32} {x4 : Int32} : wp Ln xs 100 84 [.ref 1, .int x1, .int x2, .int x3, .int x4] [] (u, ml_h m lm) Φ = Φ (.inl (some (.int (nI 0)))) (u, ml_h m lm) := (wp_same (S' := [.int (nI 0)]) xd100_84 (Or.inr rfl) rfl).trans (wp_fin (v := some (.int (nI 0))) xd100_85 (Or.inr rfl) rfl (mj_fin_i rfl))
/- PickedForms.outcomeOf -/
theorem xd101_0 : decode (mj_b 101) 0 = .ok (.aload_n 0, 1) := by decide +kernel
theorem xd101_1 : decode (mj_b 101) 1 = .ok (.getfield 12, 3) := by decide +kernel
theorem xd101_4 : decode (mj_b 101) 4 = .ok (.iload_n 1, 1) := by decide +kernel
theorem xd101_5 : decode (mj_b 101) 5 = .ok (.invokevirtual 151, 3) := by decide +kernel
theorem xd101_8 : decode (mj_b 101) 8 = .ok (.istore_n 3, 1) := by decide +kernel
theorem xd101_9 : decode (mj_b 101) 9 = .ok (.iload_n 3, 1) := by decide +kernel
theorem xd101_10 : decode (mj_b 101) 10 = .ok (.iconst (-1), 1) := by decide +kernel
theorem xd101_11 : decode (mj_b 101) 11 = .ok (.if_icmp .ne 5, 3) := by decide +kernel
theorem xd101_14 : decode (mj_b 101) 14 = .ok (.iconst 0, 1) := by decide +kernel
theorem xd101_15 : decode (mj_b 101) 15 = .ok (.ireturn, 1) := by decide +kernel
theorem xd101_16 : decode (mj_b 101) 16 = .ok (.aload_n 0, 1) := by decide +kernel
theorem xd101_17 : decode (mj_b 101) 17 = .ok (.getfield 12, 3) := by decide +kernel
theorem xd101_20 : decode (mj_b 101) 20 = .ok (.iload_n 3, 1) := by decide +kernel
theorem xd101_21 : decode (mj_b 101) 21 = .ok (.invokevirtual 182, 3) := by decide +kernel
theorem xd101_24 : decode (mj_b 101) 24 = .ok (.istore 4, 2) := by decide +kernel
theorem xd101_26 : decode (mj_b 101) 26 = .ok (.aload_n 0, 1) := by decide +kernel
theorem xd101_27 : decode (mj_b 101) 27 = .ok (.getfield 12, 3) := by decide +kernel
theorem xd101_30 : decode (mj_b 101) 30 = .ok (.iload_n 3, 1) := by decide +kernel
theorem xd101_31 : decode (mj_b 101) 31 = .ok (.invokevirtual 164, 3) := by decide +kernel
theorem xd101_34 : decode (mj_b 101) 34 = .ok (.istore 5, 2) := by decide +kernel
theorem xd101_36 : decode (mj_b 101) 36 = .ok (.iconst 0, 1) := by decide +kernel
theorem xd101_37 : decode (mj_b 101) 37 = .ok (.istore 6, 2) := by decide +kernel
theorem xd101_39 : decode (mj_b 101) 39 = .ok (.iload 6, 2) := by decide +kernel
theorem xd101_41 : decode (mj_b 101) 41 = .ok (.iload 5, 2) := by decide +kernel
theorem xd101_43 : decode (mj_b 101) 43 = .ok (.if_icmp .ge 33, 3) := by decide +kernel
theorem xd101_46 : decode (mj_b 101) 46 = .ok (.aload_n 0, 1) := by decide +kernel
theorem xd101_47 : decode (mj_b 101) 47 = .ok (.getfield 72, 3) := by decide +kernel
theorem xd101_50 : decode (mj_b 101) 50 = .ok (.iload 6, 2) := by decide +kernel
theorem xd101_52 : decode (mj_b 101) 52 = .ok (.aload_n 0, 1) := by decide +kernel
theorem xd101_53 : decode (mj_b 101) 53 = .ok (.getfield 12, 3) := by decide +kernel
theorem xd101_56 : decode (mj_b 101) 56 = .ok (.getfield 139, 3) := by decide +kernel
theorem xd101_59 : decode (mj_b 101) 59 = .ok (.iload 4, 2) := by decide +kernel
theorem xd101_61 : decode (mj_b 101) 61 = .ok (.iload 6, 2) := by decide +kernel
theorem xd101_63 : decode (mj_b 101) 63 = .ok (.iadd, 1) := by decide +kernel
theorem xd101_64 : decode (mj_b 101) 64 = .ok (.invokestatic 233, 3) := by decide +kernel
theorem xd101_67 : decode (mj_b 101) 67 = .ok (.invokestatic 142, 3) := by decide +kernel
theorem xd101_70 : decode (mj_b 101) 70 = .ok (.iinc 6 1, 3) := by decide +kernel
theorem xd101_73 : decode (mj_b 101) 73 = .ok (.goto (-34), 3) := by decide +kernel
theorem xd101_76 : decode (mj_b 101) 76 = .ok (.aload_n 0, 1) := by decide +kernel
theorem xd101_77 : decode (mj_b 101) 77 = .ok (.getfield 72, 3) := by decide +kernel
theorem xd101_80 : decode (mj_b 101) 80 = .ok (.iload_n 1, 1) := by decide +kernel
theorem xd101_81 : decode (mj_b 101) 81 = .ok (.iload 4, 2) := by decide +kernel
theorem xd101_83 : decode (mj_b 101) 83 = .ok (.isub, 1) := by decide +kernel
theorem xd101_84 : decode (mj_b 101) 84 = .ok (.iload_n 2, 1) := by decide +kernel
theorem xd101_85 : decode (mj_b 101) 85 = .ok (.invokestatic 142, 3) := by decide +kernel
theorem xd101_88 : decode (mj_b 101) 88 = .ok (.aload_n 0, 1) := by decide +kernel
theorem xd101_89 : decode (mj_b 101) 89 = .ok (.getfield 40, 3) := by decide +kernel
theorem xd101_92 : decode (mj_b 101) 92 = .ok (.aload_n 0, 1) := by decide +kernel
theorem xd101_93 : decode (mj_b 101) 93 = .ok (.getfield 72, 3) := by decide +kernel
theorem xd101_96 : decode (mj_b 101) 96 = .ok (.iconst 0, 1) := by decide +kernel
theorem xd101_97 : decode (mj_b 101) 97 = .ok (.iload 5, 2) := by decide +kernel
theorem xd101_99 : decode (mj_b 101) 99 = .ok (.invokevirtual 379, 3) := by decide +kernel
theorem xd101_102 : decode (mj_b 101) 102 = .ok (.aload_n 0, 1) := by decide +kernel
theorem xd101_103 : decode (mj_b 101) 103 = .ok (.getfield 40, 3) := by decide +kernel
theorem xd101_106 : decode (mj_b 101) 106 = .ok (.aload_n 0, 1) := by decide +kernel
theorem xd101_107 : decode (mj_b 101) 107 = .ok (.getfield 12, 3) := by decide +kernel
theorem xd101_110 : decode (mj_b 101) 110 = .ok (.iload_n 3, 1) := by decide +kernel
theorem xd101_111 : decode (mj_b 101) 111 = .ok (.invokevirtual 123, 3) := by decide +kernel
theorem xd101_114 : decode (mj_b 101) 114 = .ok (.invokevirtual 268, 3) := by decide +kernel
theorem xd101_117 : decode (mj_b 101) 117 = .ok (.aload_n 0, 1) := by decide +kernel
theorem xd101_118 : decode (mj_b 101) 118 = .ok (.getfield 12, 3) := by decide +kernel
theorem xd101_121 : decode (mj_b 101) 121 = .ok (.iload_n 3, 1) := by decide +kernel
theorem xd101_122 : decode (mj_b 101) 122 = .ok (.invokevirtual 159, 3) := by decide +kernel
theorem xd101_125 : decode (mj_b 101) 125 = .ok (.if_icmp .gt 7, 3) := by decide +kernel
theorem xd101_128 : decode (mj_b 101) 128 = .ok (.iconst 1, 1) := by decide +kernel
theorem xd101_129 : decode (mj_b 101) 129 = .ok (.goto 4, 3) := by decide +kernel
theorem xd101_132 : decode (mj_b 101) 132 = .ok (.iconst 2, 1) := by decide +kernel
theorem xd101_133 : decode (mj_b 101) 133 = .ok (.ireturn, 1) := by decide +kernel
theorem x101_0 {x1 : Int32} {x2 : Int32} : wp Ln xs 101 0 [.ref 1, .int x1, .int x2, mj_hole, mj_hole, mj_hole, mj_hole] [] (u, ml_h m lm) Φ = wp Ln xs 75 0 [.ref 2, .int x1, mj_hole, mj_hole] [] (u, ml_h m lm) (mk Ln xs 101 5 [.ref 1, .int x1, .int x2, mj_hole, mj_hole, mj_hole, mj_hole] [] Φ) := (wp_same xd101_0 (Or.inr rfl) rfl).trans ((wm_getr xd101_1 rfl (show ml_L[1]? = _ from rfl) rfl (Nat.le_of_ble_eq_true rfl)).trans ((wp_same xd101_4 (Or.inr rfl) rfl).trans (wm_cv (As := [.int x1]) (rest := []) xd101_5 rfl rfl (show ml_L[2]? = _ from rfl) (Nat.le_of_ble_eq_true rfl) (Nat.le_of_ble_eq_true rfl) (Nat.le_of_ble_eq_true rfl) (Nat.le_of_ble_eq_true rfl))))
theorem x101_8 {x1 : Int32} {x2 : Int32} {xs0 : Int32} : wp Ln xs 101 8 [.ref 1, .int x1, .int x2, mj_hole, mj_hole, mj_hole, mj_hole] [.int xs0] (u, ml_h m lm) Φ = if ¬ xs0 = ((-1)) then wp Ln xs 101 16 [.ref 1, .int x1, .int x2, .int xs0, mj_hole, mj_hole, mj_hole] [] (u, ml_h m lm) Φ else wp Ln xs 101 14 [.ref 1, .int x1, .int x2, .int xs0, mj_hole, mj_hole, mj_hole] [] (u, ml_h m lm) Φ := (wp_same (L' := [.ref 1, .int x1, .int x2, .int xs0, mj_hole, mj_hole, mj_hole]) xd101_8 (Or.inr rfl) rfl).trans ((wp_same xd101_9 (Or.inr rfl) rfl).trans ((wp_same (S' := [.int ((-1)), .int xs0]) xd101_10 (Or.inr rfl) rfl).trans (wx_icmp xd101_11 rfl rfl (¬ xs0 = ((-1))) mb_ne)))
theorem x101_14 {x1 : Int32} {x2 : Int32} {x3 : Int32} : wp Ln xs 101 14 [.ref 1, .int x1, .int x2, .int x3, mj_hole, mj_hole, mj_hole] [] (u, ml_h m lm) Φ = Φ (.inl (some (.int (nI 0)))) (u, ml_h m lm) := (wp_same (S' := [.int (nI 0)]) xd101_14 (Or.inr rfl) rfl).trans (wp_fin (v := some (.int (nI 0))) xd101_15 (Or.inr rfl) rfl (mj_fin_i rfl))
theorem x101_16 {x1 : Int32} {x2 : Int32} {x3 : Int32} : wp Ln xs 101 16 [.ref 1, .int x1, .int x2, .int x3, mj_hole, mj_hole, mj_hole] [] (u, ml_h m lm) Φ = wp Ln xs 19 0 [.ref 2, .int x3, mj_hole, mj_hole] [] (u, ml_h m lm) (mk Ln xs 101 21 [.ref 1, .int x1, .int x2, .int x3, mj_hole, mj_hole, mj_hole] [] Φ) := (wp_same xd101_16 (Or.inr rfl) rfl).trans ((wm_getr xd101_17 rfl (show ml_L[1]? = _ from rfl) rfl (Nat.le_of_ble_eq_true rfl)).trans ((wp_same xd101_20 (Or.inr rfl) rfl).trans (wm_cv (As := [.int x3]) (rest := []) xd101_21 rfl rfl (show ml_L[2]? = _ from rfl) (Nat.le_of_ble_eq_true rfl) (Nat.le_of_ble_eq_true rfl) (Nat.le_of_ble_eq_true rfl) (Nat.le_of_ble_eq_true rfl))))
theorem x101_24 {x1 : Int32} {x2 : Int32} {x3 : Int32} {xs0 : Int32} : wp Ln xs 101 24 [.ref 1, .int x1, .int x2, .int x3, mj_hole, mj_hole, mj_hole] [.int xs0] (u, ml_h m lm) Φ = wp Ln xs 20 0 [.ref 2, .int x3] [] (u, ml_h m lm) (mk Ln xs 101 31 [.ref 1, .int x1, .int x2, .int x3, .int xs0, mj_hole, mj_hole] [] Φ) := (wp_same (L' := [.ref 1, .int x1, .int x2, .int x3, .int xs0, mj_hole, mj_hole]) xd101_24 (Or.inr rfl) rfl).trans ((wp_same xd101_26 (Or.inr rfl) rfl).trans ((wm_getr xd101_27 rfl (show ml_L[1]? = _ from rfl) rfl (Nat.le_of_ble_eq_true rfl)).trans ((wp_same xd101_30 (Or.inr rfl) rfl).trans (wm_cv (As := [.int x3]) (rest := []) xd101_31 rfl rfl (show ml_L[2]? = _ from rfl) (Nat.le_of_ble_eq_true rfl) (Nat.le_of_ble_eq_true rfl) (Nat.le_of_ble_eq_true rfl) (Nat.le_of_ble_eq_true rfl)))))
theorem x101_34 {x1 : Int32} {x2 : Int32} {x3 : Int32} {x4 : Int32} {xs0 : Int32} : wp Ln xs 101 34 [.ref 1, .int x1, .int x2, .int x3, .int x4, mj_hole, mj_hole] [.int xs0] (u, ml_h m lm) Φ = wp Ln xs 101 39 [.ref 1, .int x1, .int x2, .int x3, .int x4, .int xs0, .int (nI 0)] [] (u, ml_h m lm) Φ := (wp_same (L' := [.ref 1, .int x1, .int x2, .int x3, .int x4, .int xs0, mj_hole]) xd101_34 (Or.inr rfl) rfl).trans ((wp_same (S' := [.int (nI 0)]) xd101_36 (Or.inr rfl) rfl).trans (wp_same (L' := [.ref 1, .int x1, .int x2, .int x3, .int x4, .int xs0, .int (nI 0)]) xd101_37 (Or.inr rfl) rfl))
theorem x101_39 {x1 : Int32} {x2 : Int32} {x3 : Int32} {x4 : Int32} {x5 : Int32} {x6 : Int32} : wp Ln xs 101 39 [.ref 1, .int x1, .int x2, .int x3, .int x4, .int x5, .int x6] [] (u, ml_h m lm) Φ = if x5 ≤ x6 then wp Ln xs 101 76 [.ref 1, .int x1, .int x2, .int x3, .int x4, .int x5, .int x6] [] (u, ml_h m lm) Φ else wp Ln xs 101 46 [.ref 1, .int x1, .int x2, .int x3, .int x4, .int x5, .int x6] [] (u, ml_h m lm) Φ := (wp_same xd101_39 (Or.inr rfl) rfl).trans ((wp_same xd101_41 (Or.inr rfl) rfl).trans (wx_icmp xd101_43 rfl rfl (x5 ≤ x6) mb_ge))
theorem x101_46 {x1 : Int32} {x2 : Int32} {x3 : Int32} {x4 : Int32} {x5 : Int32} {x6 : Int32} : wp Ln xs 101 46 [.ref 1, .int x1, .int x2, .int x3, .int x4, .int x5, .int x6] [] (u, ml_h m lm) Φ = wp Ln xs 17 0 [.ref 3, .int (x4 + x6)] [] (u, ml_h m lm) (mk Ln xs 101 64 [.ref 1, .int x1, .int x2, .int x3, .int x4, .int x5, .int x6] [.int x6, .ref 71] Φ) := (wp_same xd101_46 (Or.inr rfl) rfl).trans ((wm_getr xd101_47 rfl (show ml_L[1]? = _ from rfl) rfl (Nat.le_of_ble_eq_true rfl)).trans ((wp_same xd101_50 (Or.inr rfl) rfl).trans ((wp_same xd101_52 (Or.inr rfl) rfl).trans ((wm_getr xd101_53 rfl (show ml_L[1]? = _ from rfl) rfl (Nat.le_of_ble_eq_true rfl)).trans ((wm_getr xd101_56 rfl (show ml_L[2]? = _ from rfl) rfl (Nat.le_of_ble_eq_true rfl)).trans ((wp_same xd101_59 (Or.inr rfl) rfl).trans ((wp_same xd101_61 (Or.inr rfl) rfl).trans ((wp_same xd101_63 (Or.inr rfl) rfl).trans (wm_cs (As := [.ref 3, .int (x4 + x6)]) (rest := [.int x6, .ref 71]) xd101_64 rfl rfl (Nat.le_of_ble_eq_true rfl) (Nat.le_of_ble_eq_true rfl) (Nat.le_of_ble_eq_true rfl) (Nat.le_of_ble_eq_true rfl))))))))))
theorem x101_67 {x1 : Int32} {x2 : Int32} {x3 : Int32} {x4 : Int32} {x5 : Int32} {x6 : Int32} {xs0 : Int32} {xs1 : Int32} : wp Ln xs 101 67 [.ref 1, .int x1, .int x2, .int x3, .int x4, .int x5, .int x6] [.int xs0, .int xs1, .ref 71] (u, ml_h m lm) Φ = wp Ln xs 29 0 [.ref 71, .int xs1, .int xs0] [] (u, ml_h m lm) (mk Ln xs 101 67 [.ref 1, .int x1, .int x2, .int x3, .int x4, .int x5, .int x6] [] Φ) := wm_cs (As := [.ref 71, .int xs1, .int xs0]) (rest := []) xd101_67 rfl rfl (Nat.le_of_ble_eq_true rfl) (Nat.le_of_ble_eq_true rfl) (Nat.le_of_ble_eq_true rfl) (Nat.le_of_ble_eq_true rfl)
theorem x101_70 {x1 : Int32} {x2 : Int32} {x3 : Int32} {x4 : Int32} {x5 : Int32} {x6 : Int32} : wp Ln xs 101 70 [.ref 1, .int x1, .int x2, .int x3, .int x4, .int x5, .int x6] [] (u, ml_h m lm) Φ = wp Ln xs 101 39 [.ref 1, .int x1, .int x2, .int x3, .int x4, .int x5, .int (x6 + nI 1)] [] (u, ml_h m lm) Φ := (wp_same (L' := [.ref 1, .int x1, .int x2, .int x3, .int x4, .int x5, .int (x6 + nI 1)]) xd101_70 (Or.inr rfl) rfl).trans (wx_goto xd101_73 rfl)
theorem x101_76 {x1 : Int32} {x2 : Int32} {x3 : Int32} {x4 : Int32} {x5 : Int32} {x6 : Int32} : wp Ln xs 101 76 [.ref 1, .int x1, .int x2, .int x3, .int x4, .int x5, .int x6] [] (u, ml_h m lm) Φ = wp Ln xs 29 0 [.ref 71, .int (x1 - x4), .int x2] [] (u, ml_h m lm) (mk Ln xs 101 85 [.ref 1, .int x1, .int x2, .int x3, .int x4, .int x5, .int x6] [] Φ) := (wp_same xd101_76 (Or.inr rfl) rfl).trans ((wm_getr xd101_77 rfl (show ml_L[1]? = _ from rfl) rfl (Nat.le_of_ble_eq_true rfl)).trans ((wp_same xd101_80 (Or.inr rfl) rfl).trans ((wp_same xd101_81 (Or.inr rfl) rfl).trans ((wp_same xd101_83 (Or.inr rfl) rfl).trans ((wp_same xd101_84 (Or.inr rfl) rfl).trans (wm_cs (As := [.ref 71, .int (x1 - x4), .int x2]) (rest := []) xd101_85 rfl rfl (Nat.le_of_ble_eq_true rfl) (Nat.le_of_ble_eq_true rfl) (Nat.le_of_ble_eq_true rfl) (Nat.le_of_ble_eq_true rfl)))))))
theorem x101_88 {x1 : Int32} {x2 : Int32} {x3 : Int32} {x4 : Int32} {x5 : Int32} {x6 : Int32} : wp Ln xs 101 88 [.ref 1, .int x1, .int x2, .int x3, .int x4, .int x5, .int x6] [] (u, ml_h m lm) Φ = wp Ln xs 41 0 [.ref 56, .ref 71, .int (nI 0), .int x5, mj_hole] [] (u, ml_h m lm) (mk Ln xs 101 99 [.ref 1, .int x1, .int x2, .int x3, .int x4, .int x5, .int x6] [] Φ) := (wp_same xd101_88 (Or.inr rfl) rfl).trans ((wm_getr xd101_89 rfl (show ml_L[1]? = _ from rfl) rfl (Nat.le_of_ble_eq_true rfl)).trans ((wp_same xd101_92 (Or.inr rfl) rfl).trans ((wm_getr xd101_93 rfl (show ml_L[1]? = _ from rfl) rfl (Nat.le_of_ble_eq_true rfl)).trans ((wp_same (S' := [.int (nI 0), .ref 71, .ref 56]) xd101_96 (Or.inr rfl) rfl).trans ((wp_same xd101_97 (Or.inr rfl) rfl).trans (wm_cv (As := [.ref 71, .int (nI 0), .int x5]) (rest := []) xd101_99 rfl rfl (show ml_L[56]? = _ from rfl) (Nat.le_of_ble_eq_true rfl) (Nat.le_of_ble_eq_true rfl) (Nat.le_of_ble_eq_true rfl) (Nat.le_of_ble_eq_true rfl)))))))
theorem x101_102 {x1 : Int32} {x2 : Int32} {x3 : Int32} {x4 : Int32} {x5 : Int32} {x6 : Int32} : wp Ln xs 101 102 [.ref 1, .int x1, .int x2, .int x3, .int x4, .int x5, .int x6] [] (u, ml_h m lm) Φ = wp Ln xs 42 0 [.ref 2, .int x3] [] (u, ml_h m lm) (mk Ln xs 101 111 [.ref 1, .int x1, .int x2, .int x3, .int x4, .int x5, .int x6] [.ref 56] Φ) := (wp_same xd101_102 (Or.inr rfl) rfl).trans ((wm_getr xd101_103 rfl (show ml_L[1]? = _ from rfl) rfl (Nat.le_of_ble_eq_true rfl)).trans ((wp_same xd101_106 (Or.inr rfl) rfl).trans ((wm_getr xd101_107 rfl (show ml_L[1]? = _ from rfl) rfl (Nat.le_of_ble_eq_true rfl)).trans ((wp_same xd101_110 (Or.inr rfl) rfl).trans (wm_cv (As := [.int x3]) (rest := [.ref 56]) xd101_111 rfl rfl (show ml_L[2]? = _ from rfl) (Nat.le_of_ble_eq_true rfl) (Nat.le_of_ble_eq_true rfl) (Nat.le_of_ble_eq_true rfl) (Nat.le_of_ble_eq_true rfl))))))
theorem x101_114 {x1 : Int32} {x2 : Int32} {x3 : Int32} {x4 : Int32} {x5 : Int32} {x6 : Int32} {xs0 : Int32} : wp Ln xs 101 114 [.ref 1, .int x1, .int x2, .int x3, .int x4, .int x5, .int x6] [.int xs0, .ref 56] (u, ml_h m lm) Φ = wp Ln xs 27 0 [.ref 56, .int xs0] [] (u, ml_h m lm) (mk Ln xs 101 114 [.ref 1, .int x1, .int x2, .int x3, .int x4, .int x5, .int x6] [] Φ) := wm_cv (As := [.int xs0]) (rest := []) xd101_114 rfl rfl (show ml_L[56]? = _ from rfl) (Nat.le_of_ble_eq_true rfl) (Nat.le_of_ble_eq_true rfl) (Nat.le_of_ble_eq_true rfl) (Nat.le_of_ble_eq_true rfl)
theorem x101_117 {x1 : Int32} {x2 : Int32} {x3 : Int32} {x4 : Int32} {x5 : Int32} {x6 : Int32} {xs0 : Int32} : wp Ln xs 101 117 [.ref 1, .int x1, .int x2, .int x3, .int x4, .int x5, .int x6] [.int xs0] (u, ml_h m lm) Φ = wp Ln xs 16 0 [.ref 2, .int x3] [] (u, ml_h m lm) (mk Ln xs 101 122 [.ref 1, .int x1, .int x2, .int x3, .int x4, .int x5, .int x6] [.int xs0] Φ) := (wp_same xd101_117 (Or.inr rfl) rfl).trans ((wm_getr xd101_118 rfl (show ml_L[1]? = _ from rfl) rfl (Nat.le_of_ble_eq_true rfl)).trans ((wp_same xd101_121 (Or.inr rfl) rfl).trans (wm_cv (As := [.int x3]) (rest := [.int xs0]) xd101_122 rfl rfl (show ml_L[2]? = _ from rfl) (Nat.le_of_ble_eq_true rfl) (Nat.le_of_ble_eq_true rfl) (Nat.le_of_ble_eq_true rfl) (Nat.le_of_ble_eq_true rfl))))
theorem x101_125 {x1 : Int32} {x2 : Int32} {x3 : Int32} {x4 : Int32} {x5 : Int32} {x6 : Int32} {xs0 : Int32} {xs1 : Int32} : wp Ln xs 101 125 [.ref 1, .int x1, .int x2, .int x3, .int x4, .int x5, .int x6] [.int xs0, .int xs1] (u, ml_h m lm) Φ = if xs0 < xs1 then wp Ln xs 101 132 [.ref 1, .int x1, .int x2, .int x3, .int x4, .int x5, .int x6] [] (u, ml_h m lm) Φ else wp Ln xs 101 128 [.ref 1, .int x1, .int x2, .int x3, .int x4, .int x5, .int x6] [] (u, ml_h m lm) Φ := wx_icmp xd101_125 rfl rfl (xs0 < xs1) mb_gt
theorem x101_128 {x1 : Int32} {x2 : Int32} {x3 : Int32} {x4 : Int32} {x5 : Int32} {x6 : Int32} : wp Ln xs 101 128 [.ref 1, .int x1, .int x2, .int x3, .int x4, .int x5, .int x6] [] (u, ml_h m lm) Φ = Φ (.inl (some (.int (nI 1)))) (u, ml_h m lm) := (wp_same (S' := [.int (nI 1)]) xd101_128 (Or.inr rfl) rfl).trans ((wx_goto xd101_129 rfl).trans (wp_fin (v := some (.int (nI 1))) xd101_133 (Or.inr rfl) rfl (mj_fin_i rfl)))
theorem x101_132 {x1 : Int32} {x2 : Int32} {x3 : Int32} {x4 : Int32} {x5 : Int32} {x6 : Int32} : wp Ln xs 101 132 [.ref 1, .int x1, .int x2, .int x3, .int x4, .int x5, .int x6] [] (u, ml_h m lm) Φ = Φ (.inl (some (.int (nI 2)))) (u, ml_h m lm) := (wp_same (S' := [.int (nI 2)]) xd101_132 (Or.inr rfl) rfl).trans (wp_fin (v := some (.int (nI 2))) xd101_133 (Or.inr rfl) rfl (mj_fin_i rfl))
/- PickedForms.trialGrowth -/
theorem xd102_0 : decode (mj_b 102) 0 = .ok (.aload_n 0, 1) := by decide +kernel
theorem xd102_1 : decode (mj_b 102) 1 = .ok (.getfield 47, 3) := by decide +kernel
theorem xd102_4 : decode (mj_b 102) 4 = .ok (.aload_n 0, 1) := by decide +kernel
theorem xd102_5 : decode (mj_b 102) 5 = .ok (.getfield 72, 3) := by decide +kernel
theorem xd102_8 : decode (mj_b 102) 8 = .ok (.iconst 0, 1) := by decide +kernel
theorem xd102_9 : decode (mj_b 102) 9 = .ok (.aload_n 0, 1) := by decide +kernel
theorem xd102_10 : decode (mj_b 102) 10 = .ok (.getfield 12, 3) := by decide +kernel
theorem xd102_13 : decode (mj_b 102) 13 = .ok (.iload_n 1, 1) := by decide +kernel
theorem xd102_14 : decode (mj_b 102) 14 = .ok (.invokevirtual 164, 3) := by decide +kernel
theorem xd102_17 : decode (mj_b 102) 17 = .ok (.aload_n 0, 1) := by decide +kernel
theorem xd102_18 : decode (mj_b 102) 18 = .ok (.getfield 12, 3) := by decide +kernel
theorem xd102_21 : decode (mj_b 102) 21 = .ok (.getfield 203, 3) := by decide +kernel
theorem xd102_24 : decode (mj_b 102) 24 = .ok (.invokevirtual 360, 3) := by decide +kernel
theorem xd102_27 : decode (mj_b 102) 27 = .ok (.aload_n 0, 1) := by decide +kernel
theorem xd102_28 : decode (mj_b 102) 28 = .ok (.getfield 47, 3) := by decide +kernel
theorem xd102_31 : decode (mj_b 102) 31 = .ok (.getfield 373, 3) := by decide +kernel
theorem xd102_34 : decode (mj_b 102) 34 = .ok (.aload_n 0, 1) := by decide +kernel
theorem xd102_35 : decode (mj_b 102) 35 = .ok (.getfield 12, 3) := by decide +kernel
theorem xd102_38 : decode (mj_b 102) 38 = .ok (.iload_n 1, 1) := by decide +kernel
theorem xd102_39 : decode (mj_b 102) 39 = .ok (.invokevirtual 159, 3) := by decide +kernel
theorem xd102_42 : decode (mj_b 102) 42 = .ok (.isub, 1) := by decide +kernel
theorem xd102_43 : decode (mj_b 102) 43 = .ok (.ireturn, 1) := by decide +kernel
theorem x102_0 {x1 : Int32} : wp Ln xs 102 0 [.ref 1, .int x1] [] (u, ml_h m lm) Φ = wp Ln xs 20 0 [.ref 2, .int x1] [] (u, ml_h m lm) (mk Ln xs 102 14 [.ref 1, .int x1] [.int (nI 0), .ref 71, .ref 58] Φ) := (wp_same xd102_0 (Or.inr rfl) rfl).trans ((wm_getr xd102_1 rfl (show ml_L[1]? = _ from rfl) rfl (Nat.le_of_ble_eq_true rfl)).trans ((wp_same xd102_4 (Or.inr rfl) rfl).trans ((wm_getr xd102_5 rfl (show ml_L[1]? = _ from rfl) rfl (Nat.le_of_ble_eq_true rfl)).trans ((wp_same (S' := [.int (nI 0), .ref 71, .ref 58]) xd102_8 (Or.inr rfl) rfl).trans ((wp_same xd102_9 (Or.inr rfl) rfl).trans ((wm_getr xd102_10 rfl (show ml_L[1]? = _ from rfl) rfl (Nat.le_of_ble_eq_true rfl)).trans ((wp_same xd102_13 (Or.inr rfl) rfl).trans (wm_cv (As := [.int x1]) (rest := [.int (nI 0), .ref 71, .ref 58]) xd102_14 rfl rfl (show ml_L[2]? = _ from rfl) (Nat.le_of_ble_eq_true rfl) (Nat.le_of_ble_eq_true rfl) (Nat.le_of_ble_eq_true rfl) (Nat.le_of_ble_eq_true rfl)))))))))
theorem x102_17 {x1 : Int32} {xs0 : Int32} {xs1 : Int32} : wp Ln xs 102 17 [.ref 1, .int x1] [.int xs0, .int xs1, .ref 71, .ref 58] (u, ml_h m lm) Φ = wp Ln xs 21 0 [.ref 58, .ref 71, .int xs1, .int xs0, .ref 7, mj_hole, mj_hole] [] (u, ml_h m lm) (mk Ln xs 102 24 [.ref 1, .int x1] [] Φ) := (wp_same xd102_17 (Or.inr rfl) rfl).trans ((wm_getr xd102_18 rfl (show ml_L[1]? = _ from rfl) rfl (Nat.le_of_ble_eq_true rfl)).trans ((wm_getr xd102_21 rfl (show ml_L[2]? = _ from rfl) rfl (Nat.le_of_ble_eq_true rfl)).trans (wm_cv (As := [.ref 71, .int xs1, .int xs0, .ref 7]) (rest := []) xd102_24 rfl rfl (show ml_L[58]? = _ from rfl) (Nat.le_of_ble_eq_true rfl) (Nat.le_of_ble_eq_true rfl) (Nat.le_of_ble_eq_true rfl) (Nat.le_of_ble_eq_true rfl))))
theorem x102_27 {x1 : Int32} : wp Ln xs 102 27 [.ref 1, .int x1] [] (u, ml_h m lm) Φ = wp Ln xs 16 0 [.ref 2, .int x1] [] (u, ml_h m lm) (mk Ln xs 102 39 [.ref 1, .int x1] [.int (m 58 2)] Φ) := (wp_same xd102_27 (Or.inr rfl) rfl).trans ((wm_getr xd102_28 rfl (show ml_L[1]? = _ from rfl) rfl (Nat.le_of_ble_eq_true rfl)).trans ((wm_geti xd102_31 rfl (show ml_L[58]? = _ from rfl) rfl (Nat.le_of_ble_eq_true rfl)).trans ((wp_same xd102_34 (Or.inr rfl) rfl).trans ((wm_getr xd102_35 rfl (show ml_L[1]? = _ from rfl) rfl (Nat.le_of_ble_eq_true rfl)).trans ((wp_same xd102_38 (Or.inr rfl) rfl).trans (wm_cv (As := [.int x1]) (rest := [.int (m 58 2)]) xd102_39 rfl rfl (show ml_L[2]? = _ from rfl) (Nat.le_of_ble_eq_true rfl) (Nat.le_of_ble_eq_true rfl) (Nat.le_of_ble_eq_true rfl) (Nat.le_of_ble_eq_true rfl)))))))
theorem x102_42 {x1 : Int32} {xs0 : Int32} {xs1 : Int32} : wp Ln xs 102 42 [.ref 1, .int x1] [.int xs0, .int xs1] (u, ml_h m lm) Φ = Φ (.inl (some (.int (xs1 - xs0)))) (u, ml_h m lm) := (wp_same xd102_42 (Or.inr rfl) rfl).trans (wp_fin (v := some (.int (xs1 - xs0))) xd102_43 (Or.inr rfl) rfl (mj_fin_i rfl))
/- PickedForms.change -/
theorem xd103_0 : decode (mj_b 103) 0 = .ok (.aload_n 0, 1) := by decide +kernel
theorem xd103_1 : decode (mj_b 103) 1 = .ok (.getfield 12, 3) := by decide +kernel
theorem xd103_4 : decode (mj_b 103) 4 = .ok (.iload_n 1, 1) := by decide +kernel
theorem xd103_5 : decode (mj_b 103) 5 = .ok (.invokevirtual 127, 3) := by decide +kernel
theorem xd103_8 : decode (mj_b 103) 8 = .ok (.ifCond .ne 13, 3) := by decide +kernel
theorem xd103_11 : decode (mj_b 103) 11 = .ok (.new 130, 3) := by decide +kernel
theorem xd103_21 : decode (mj_b 103) 21 = .ok (.iload_n 2, 1) := by decide +kernel
theorem xd103_22 : decode (mj_b 103) 22 = .ok (.invokestatic 76, 3) := by decide +kernel
theorem xd103_25 : decode (mj_b 103) 25 = .ok (.ifCond .ne 13, 3) := by decide +kernel
theorem xd103_28 : decode (mj_b 103) 28 = .ok (.new 80, 3) := by decide +kernel
theorem xd103_38 : decode (mj_b 103) 38 = .ok (.aload_n 0, 1) := by decide +kernel
theorem xd103_39 : decode (mj_b 103) 39 = .ok (.getfield 26, 3) := by decide +kernel
theorem xd103_42 : decode (mj_b 103) 42 = .ok (.aload_n 0, 1) := by decide +kernel
theorem xd103_43 : decode (mj_b 103) 43 = .ok (.getfield 12, 3) := by decide +kernel
theorem xd103_46 : decode (mj_b 103) 46 = .ok (.invokevirtual 96, 3) := by decide +kernel
theorem xd103_49 : decode (mj_b 103) 49 = .ok (.aload_n 0, 1) := by decide +kernel
theorem xd103_50 : decode (mj_b 103) 50 = .ok (.iload_n 1, 1) := by decide +kernel
theorem xd103_51 : decode (mj_b 103) 51 = .ok (.iload_n 2, 1) := by decide +kernel
theorem xd103_52 : decode (mj_b 103) 52 = .ok (.invokevirtual 135, 3) := by decide +kernel
theorem xd103_55 : decode (mj_b 103) 55 = .ok (.istore_n 3, 1) := by decide +kernel
theorem xd103_56 : decode (mj_b 103) 56 = .ok (.aload_n 0, 1) := by decide +kernel
theorem xd103_57 : decode (mj_b 103) 57 = .ok (.getfield 12, 3) := by decide +kernel
theorem xd103_60 : decode (mj_b 103) 60 = .ok (.getfield 139, 3) := by decide +kernel
theorem xd103_63 : decode (mj_b 103) 63 = .ok (.iload_n 1, 1) := by decide +kernel
theorem xd103_64 : decode (mj_b 103) 64 = .ok (.iload_n 2, 1) := by decide +kernel
theorem xd103_65 : decode (mj_b 103) 65 = .ok (.invokestatic 142, 3) := by decide +kernel
theorem xd103_68 : decode (mj_b 103) 68 = .ok (.iload_n 3, 1) := by decide +kernel
theorem xd103_69 : decode (mj_b 103) 69 = .ok (.iconst 1, 1) := by decide +kernel
theorem xd103_70 : decode (mj_b 103) 70 = .ok (.if_icmp .ne 19, 3) := by decide +kernel
theorem xd103_73 : decode (mj_b 103) 73 = .ok (.aload_n 0, 1) := by decide +kernel
theorem xd103_74 : decode (mj_b 103) 74 = .ok (.getfield 12, 3) := by decide +kernel
theorem xd103_77 : decode (mj_b 103) 77 = .ok (.dup, 1) := by decide +kernel
theorem xd103_78 : decode (mj_b 103) 78 = .ok (.getfield 148, 3) := by decide +kernel
theorem xd103_81 : decode (mj_b 103) 81 = .ok (.iconst 1, 1) := by decide +kernel
theorem xd103_82 : decode (mj_b 103) 82 = .ok (.iadd, 1) := by decide +kernel
theorem xd103_83 : decode (mj_b 103) 83 = .ok (.putfield 148, 3) := by decide +kernel
theorem xd103_86 : decode (mj_b 103) 86 = .ok (.goto 20, 3) := by decide +kernel
theorem xd103_89 : decode (mj_b 103) 89 = .ok (.iload_n 3, 1) := by decide +kernel
theorem xd103_90 : decode (mj_b 103) 90 = .ok (.iconst 2, 1) := by decide +kernel
theorem xd103_91 : decode (mj_b 103) 91 = .ok (.if_icmp .ne 15, 3) := by decide +kernel
theorem xd103_94 : decode (mj_b 103) 94 = .ok (.aload_n 0, 1) := by decide +kernel
theorem xd103_95 : decode (mj_b 103) 95 = .ok (.aload_n 0, 1) := by decide +kernel
theorem xd103_96 : decode (mj_b 103) 96 = .ok (.getfield 12, 3) := by decide +kernel
theorem xd103_99 : decode (mj_b 103) 99 = .ok (.iload_n 1, 1) := by decide +kernel
theorem xd103_100 : decode (mj_b 103) 100 = .ok (.invokevirtual 151, 3) := by decide +kernel
theorem xd103_103 : decode (mj_b 103) 103 = .ok (.invokevirtual 120, 3) := by decide +kernel
theorem xd103_106 : decode (mj_b 103) 106 = .ok (.iload_n 3, 1) := by decide +kernel
theorem xd103_107 : decode (mj_b 103) 107 = .ok (.ireturn, 1) := by decide +kernel
theorem x103_0 {x1 : Int32} {x2 : Int32} : wp Ln xs 103 0 [.ref 1, .int x1, .int x2, mj_hole] [] (u, ml_h m lm) Φ = wp Ln xs 73 0 [.ref 2, .int x1] [] (u, ml_h m lm) (mk Ln xs 103 5 [.ref 1, .int x1, .int x2, mj_hole] [] Φ) := (wp_same xd103_0 (Or.inr rfl) rfl).trans ((wm_getr xd103_1 rfl (show ml_L[1]? = _ from rfl) rfl (Nat.le_of_ble_eq_true rfl)).trans ((wp_same xd103_4 (Or.inr rfl) rfl).trans (wm_cv (As := [.int x1]) (rest := []) xd103_5 rfl rfl (show ml_L[2]? = _ from rfl) (Nat.le_of_ble_eq_true rfl) (Nat.le_of_ble_eq_true rfl) (Nat.le_of_ble_eq_true rfl) (Nat.le_of_ble_eq_true rfl))))
theorem x103_8 {x1 : Int32} {x2 : Int32} {xs0 : Int32} : wp Ln xs 103 8 [.ref 1, .int x1, .int x2, mj_hole] [.int xs0] (u, ml_h m lm) Φ = if ¬ xs0 = (nI 0) then wp Ln xs 103 21 [.ref 1, .int x1, .int x2, mj_hole] [] (u, ml_h m lm) Φ else wp Ln xs 103 11 [.ref 1, .int x1, .int x2, mj_hole] [] (u, ml_h m lm) Φ := wx_if xd103_8 rfl rfl (¬ xs0 = (nI 0)) mb_ne
theorem x103_11 {x1 : Int32} {x2 : Int32} : wp Ln xs 103 11 [.ref 1, .int x1, .int x2, mj_hole] [] (u, ml_h m lm) Φ = Φ (.inr 2) ((u.1, u.2.1 + 1, u.2.2 + 6), ml_h m lm) := wp_thr xd103_11 (Or.inr rfl) rfl rfl (E := 2) (by decide +kernel)
theorem x103_21 {x1 : Int32} {x2 : Int32} : wp Ln xs 103 21 [.ref 1, .int x1, .int x2, mj_hole] [] (u, ml_h m lm) Φ = wp Ln xs 82 0 [.int x2] [] (u, ml_h m lm) (mk Ln xs 103 22 [.ref 1, .int x1, .int x2, mj_hole] [] Φ) := (wp_same xd103_21 (Or.inr rfl) rfl).trans (wm_cs (As := [.int x2]) (rest := []) xd103_22 rfl rfl (Nat.le_of_ble_eq_true rfl) (Nat.le_of_ble_eq_true rfl) (Nat.le_of_ble_eq_true rfl) (Nat.le_of_ble_eq_true rfl))
theorem x103_25 {x1 : Int32} {x2 : Int32} {xs0 : Int32} : wp Ln xs 103 25 [.ref 1, .int x1, .int x2, mj_hole] [.int xs0] (u, ml_h m lm) Φ = if ¬ xs0 = (nI 0) then wp Ln xs 103 38 [.ref 1, .int x1, .int x2, mj_hole] [] (u, ml_h m lm) Φ else wp Ln xs 103 28 [.ref 1, .int x1, .int x2, mj_hole] [] (u, ml_h m lm) Φ := wx_if xd103_25 rfl rfl (¬ xs0 = (nI 0)) mb_ne
theorem x103_28 {x1 : Int32} {x2 : Int32} : wp Ln xs 103 28 [.ref 1, .int x1, .int x2, mj_hole] [] (u, ml_h m lm) Φ = Φ (.inr 0) ((u.1, u.2.1 + 1, u.2.2 + 6), ml_h m lm) := wp_thr xd103_28 (Or.inr rfl) rfl rfl (E := 0) (by decide +kernel)
theorem x103_38 {x1 : Int32} {x2 : Int32} : wp Ln xs 103 38 [.ref 1, .int x1, .int x2, mj_hole] [] (u, ml_h m lm) Φ = wp Ln xs 12 0 [.ref 14, .ref 2, mj_hole] [] (u, ml_h m lm) (mk Ln xs 103 46 [.ref 1, .int x1, .int x2, mj_hole] [] Φ) := (wp_same xd103_38 (Or.inr rfl) rfl).trans ((wm_getr xd103_39 rfl (show ml_L[1]? = _ from rfl) rfl (Nat.le_of_ble_eq_true rfl)).trans ((wp_same xd103_42 (Or.inr rfl) rfl).trans ((wm_getr xd103_43 rfl (show ml_L[1]? = _ from rfl) rfl (Nat.le_of_ble_eq_true rfl)).trans (wm_cv (As := [.ref 2]) (rest := []) xd103_46 rfl rfl (show ml_L[14]? = _ from rfl) (Nat.le_of_ble_eq_true rfl) (Nat.le_of_ble_eq_true rfl) (Nat.le_of_ble_eq_true rfl) (Nat.le_of_ble_eq_true rfl)))))
theorem x103_49 {x1 : Int32} {x2 : Int32} : wp Ln xs 103 49 [.ref 1, .int x1, .int x2, mj_hole] [] (u, ml_h m lm) Φ = wp Ln xs 101 0 [.ref 1, .int x1, .int x2, mj_hole, mj_hole, mj_hole, mj_hole] [] (u, ml_h m lm) (mk Ln xs 103 52 [.ref 1, .int x1, .int x2, mj_hole] [] Φ) := (wp_same xd103_49 (Or.inr rfl) rfl).trans ((wp_same xd103_50 (Or.inr rfl) rfl).trans ((wp_same xd103_51 (Or.inr rfl) rfl).trans (wm_cv (As := [.int x1, .int x2]) (rest := []) xd103_52 rfl rfl (show ml_L[1]? = _ from rfl) (Nat.le_of_ble_eq_true rfl) (Nat.le_of_ble_eq_true rfl) (Nat.le_of_ble_eq_true rfl) (Nat.le_of_ble_eq_true rfl))))
theorem x103_55 {x1 : Int32} {x2 : Int32} {xs0 : Int32} : wp Ln xs 103 55 [.ref 1, .int x1, .int x2, mj_hole] [.int xs0] (u, ml_h m lm) Φ = wp Ln xs 29 0 [.ref 3, .int x1, .int x2] [] (u, ml_h m lm) (mk Ln xs 103 65 [.ref 1, .int x1, .int x2, .int xs0] [] Φ) := (wp_same (L' := [.ref 1, .int x1, .int x2, .int xs0]) xd103_55 (Or.inr rfl) rfl).trans ((wp_same xd103_56 (Or.inr rfl) rfl).trans ((wm_getr xd103_57 rfl (show ml_L[1]? = _ from rfl) rfl (Nat.le_of_ble_eq_true rfl)).trans ((wm_getr xd103_60 rfl (show ml_L[2]? = _ from rfl) rfl (Nat.le_of_ble_eq_true rfl)).trans ((wp_same xd103_63 (Or.inr rfl) rfl).trans ((wp_same xd103_64 (Or.inr rfl) rfl).trans (wm_cs (As := [.ref 3, .int x1, .int x2]) (rest := []) xd103_65 rfl rfl (Nat.le_of_ble_eq_true rfl) (Nat.le_of_ble_eq_true rfl) (Nat.le_of_ble_eq_true rfl) (Nat.le_of_ble_eq_true rfl)))))))
theorem x103_68 {x1 : Int32} {x2 : Int32} {x3 : Int32} : wp Ln xs 103 68 [.ref 1, .int x1, .int x2, .int x3] [] (u, ml_h m lm) Φ = if ¬ x3 = (nI 1) then wp Ln xs 103 89 [.ref 1, .int x1, .int x2, .int x3] [] (u, ml_h m lm) Φ else wp Ln xs 103 73 [.ref 1, .int x1, .int x2, .int x3] [] (u, ml_h m lm) Φ := (wp_same xd103_68 (Or.inr rfl) rfl).trans ((wp_same (S' := [.int (nI 1), .int x3]) xd103_69 (Or.inr rfl) rfl).trans (wx_icmp xd103_70 rfl rfl (¬ x3 = (nI 1)) mb_ne))
theorem x103_73 {x1 : Int32} {x2 : Int32} {x3 : Int32} : wp Ln xs 103 73 [.ref 1, .int x1, .int x2, .int x3] [] (u, ml_h m lm) Φ = wp Ln xs 103 106 [.ref 1, .int x1, .int x2, .int x3] [] (u, ml_h (ml_s m 2 7 ((m 2 7) + (nI 1))) lm) Φ := (wp_same xd103_73 (Or.inr rfl) rfl).trans ((wm_getr xd103_74 rfl (show ml_L[1]? = _ from rfl) rfl (Nat.le_of_ble_eq_true rfl)).trans ((wp_same xd103_77 (Or.inr rfl) rfl).trans ((wm_geti xd103_78 rfl (show ml_L[2]? = _ from rfl) rfl (Nat.le_of_ble_eq_true rfl)).trans ((wp_same (S' := [.int (nI 1), .int (m 2 7), .ref 2]) xd103_81 (Or.inr rfl) rfl).trans ((wp_same xd103_82 (Or.inr rfl) rfl).trans ((wm_puti xd103_83 rfl (show ml_L[2]? = _ from rfl) rfl (Nat.le_of_ble_eq_true rfl) rfl rfl rfl).trans (wx_goto xd103_86 rfl)))))))
theorem x103_89 {x1 : Int32} {x2 : Int32} {x3 : Int32} : wp Ln xs 103 89 [.ref 1, .int x1, .int x2, .int x3] [] (u, ml_h m lm) Φ = if ¬ x3 = (nI 2) then wp Ln xs 103 106 [.ref 1, .int x1, .int x2, .int x3] [] (u, ml_h m lm) Φ else wp Ln xs 103 94 [.ref 1, .int x1, .int x2, .int x3] [] (u, ml_h m lm) Φ := (wp_same xd103_89 (Or.inr rfl) rfl).trans ((wp_same (S' := [.int (nI 2), .int x3]) xd103_90 (Or.inr rfl) rfl).trans (wx_icmp xd103_91 rfl rfl (¬ x3 = (nI 2)) mb_ne))
theorem x103_94 {x1 : Int32} {x2 : Int32} {x3 : Int32} : wp Ln xs 103 94 [.ref 1, .int x1, .int x2, .int x3] [] (u, ml_h m lm) Φ = wp Ln xs 75 0 [.ref 2, .int x1, mj_hole, mj_hole] [] (u, ml_h m lm) (mk Ln xs 103 100 [.ref 1, .int x1, .int x2, .int x3] [.ref 1] Φ) := (wp_same xd103_94 (Or.inr rfl) rfl).trans ((wp_same xd103_95 (Or.inr rfl) rfl).trans ((wm_getr xd103_96 rfl (show ml_L[1]? = _ from rfl) rfl (Nat.le_of_ble_eq_true rfl)).trans ((wp_same xd103_99 (Or.inr rfl) rfl).trans (wm_cv (As := [.int x1]) (rest := [.ref 1]) xd103_100 rfl rfl (show ml_L[2]? = _ from rfl) (Nat.le_of_ble_eq_true rfl) (Nat.le_of_ble_eq_true rfl) (Nat.le_of_ble_eq_true rfl) (Nat.le_of_ble_eq_true rfl)))))
theorem x103_103 {x1 : Int32} {x2 : Int32} {x3 : Int32} {xs0 : Int32} : wp Ln xs 103 103 [.ref 1, .int x1, .int x2, .int x3] [.int xs0, .ref 1] (u, ml_h m lm) Φ = wp Ln xs 18 0 [.ref 1, .int xs0] [] (u, ml_h m lm) (mk Ln xs 103 103 [.ref 1, .int x1, .int x2, .int x3] [] Φ) := wm_cv (As := [.int xs0]) (rest := []) xd103_103 rfl rfl (show ml_L[1]? = _ from rfl) (Nat.le_of_ble_eq_true rfl) (Nat.le_of_ble_eq_true rfl) (Nat.le_of_ble_eq_true rfl) (Nat.le_of_ble_eq_true rfl)
theorem x103_106 {x1 : Int32} {x2 : Int32} {x3 : Int32} : wp Ln xs 103 106 [.ref 1, .int x1, .int x2, .int x3] [] (u, ml_h m lm) Φ = Φ (.inl (some (.int x3))) (u, ml_h m lm) := (wp_same xd103_106 (Or.inr rfl) rfl).trans (wp_fin (v := some (.int x3)) xd103_107 (Or.inr rfl) rfl (mj_fin_i rfl))
/- PickedForms.close -/
theorem xd104_0 : decode (mj_b 104) 0 = .ok (.aload_n 0, 1) := by decide +kernel
theorem xd104_1 : decode (mj_b 104) 1 = .ok (.getfield 12, 3) := by decide +kernel
theorem xd104_4 : decode (mj_b 104) 4 = .ok (.invokevirtual 108, 3) := by decide +kernel
theorem xd104_7 : decode (mj_b 104) 7 = .ok (.ifCond .eq 15, 3) := by decide +kernel
theorem xd104_10 : decode (mj_b 104) 10 = .ok (.aload_n 0, 1) := by decide +kernel
theorem xd104_11 : decode (mj_b 104) 11 = .ok (.getfield 12, 3) := by decide +kernel
theorem xd104_14 : decode (mj_b 104) 14 = .ok (.getfield 112, 3) := by decide +kernel
theorem xd104_17 : decode (mj_b 104) 17 = .ok (.bipush 12, 2) := by decide +kernel
theorem xd104_19 : decode (mj_b 104) 19 = .ok (.if_icmp .lt 13, 3) := by decide +kernel
theorem xd104_22 : decode (mj_b 104) 22 = .ok (.new 91, 3) := by decide +kernel
theorem xd104_32 : decode (mj_b 104) 32 = .ok (.aload_n 0, 1) := by decide +kernel
theorem xd104_33 : decode (mj_b 104) 33 = .ok (.getfield 26, 3) := by decide +kernel
theorem xd104_36 : decode (mj_b 104) 36 = .ok (.aload_n 0, 1) := by decide +kernel
theorem xd104_37 : decode (mj_b 104) 37 = .ok (.getfield 12, 3) := by decide +kernel
theorem xd104_40 : decode (mj_b 104) 40 = .ok (.invokevirtual 96, 3) := by decide +kernel
theorem xd104_43 : decode (mj_b 104) 43 = .ok (.aload_n 0, 1) := by decide +kernel
theorem xd104_44 : decode (mj_b 104) 44 = .ok (.getfield 12, 3) := by decide +kernel
theorem xd104_47 : decode (mj_b 104) 47 = .ok (.invokevirtual 117, 3) := by decide +kernel
theorem xd104_50 : decode (mj_b 104) 50 = .ok (.aload_n 0, 1) := by decide +kernel
theorem xd104_51 : decode (mj_b 104) 51 = .ok (.aload_n 0, 1) := by decide +kernel
theorem xd104_52 : decode (mj_b 104) 52 = .ok (.getfield 12, 3) := by decide +kernel
theorem xd104_55 : decode (mj_b 104) 55 = .ok (.getfield 112, 3) := by decide +kernel
theorem xd104_58 : decode (mj_b 104) 58 = .ok (.iconst 1, 1) := by decide +kernel
theorem xd104_59 : decode (mj_b 104) 59 = .ok (.isub, 1) := by decide +kernel
theorem xd104_60 : decode (mj_b 104) 60 = .ok (.invokevirtual 120, 3) := by decide +kernel
theorem xd104_63 : decode (mj_b 104) 63 = .ok (.aload_n 0, 1) := by decide +kernel
theorem xd104_64 : decode (mj_b 104) 64 = .ok (.getfield 12, 3) := by decide +kernel
theorem xd104_67 : decode (mj_b 104) 67 = .ok (.aload_n 0, 1) := by decide +kernel
theorem xd104_68 : decode (mj_b 104) 68 = .ok (.getfield 12, 3) := by decide +kernel
theorem xd104_71 : decode (mj_b 104) 71 = .ok (.getfield 112, 3) := by decide +kernel
theorem xd104_74 : decode (mj_b 104) 74 = .ok (.iconst 1, 1) := by decide +kernel
theorem xd104_75 : decode (mj_b 104) 75 = .ok (.isub, 1) := by decide +kernel
theorem xd104_76 : decode (mj_b 104) 76 = .ok (.invokevirtual 123, 3) := by decide +kernel
theorem xd104_79 : decode (mj_b 104) 79 = .ok (.ireturn, 1) := by decide +kernel
theorem x104_0 : wp Ln xs 104 0 [.ref 1] [] (u, ml_h m lm) Φ = wp Ln xs 36 0 [.ref 2] [] (u, ml_h m lm) (mk Ln xs 104 4 [.ref 1] [] Φ) := (wp_same xd104_0 (Or.inr rfl) rfl).trans ((wm_getr xd104_1 rfl (show ml_L[1]? = _ from rfl) rfl (Nat.le_of_ble_eq_true rfl)).trans (wm_cv (As := []) (rest := []) xd104_4 rfl rfl (show ml_L[2]? = _ from rfl) (Nat.le_of_ble_eq_true rfl) (Nat.le_of_ble_eq_true rfl) (Nat.le_of_ble_eq_true rfl) (Nat.le_of_ble_eq_true rfl)))
theorem x104_7 {xs0 : Int32} : wp Ln xs 104 7 [.ref 1] [.int xs0] (u, ml_h m lm) Φ = if xs0 = (nI 0) then wp Ln xs 104 22 [.ref 1] [] (u, ml_h m lm) Φ else wp Ln xs 104 10 [.ref 1] [] (u, ml_h m lm) Φ := wx_if xd104_7 rfl rfl (xs0 = (nI 0)) mb_eq
theorem x104_10 : wp Ln xs 104 10 [.ref 1] [] (u, ml_h m lm) Φ = if (m 2 6) < (nI 12) then wp Ln xs 104 32 [.ref 1] [] (u, ml_h m lm) Φ else wp Ln xs 104 22 [.ref 1] [] (u, ml_h m lm) Φ := (wp_same xd104_10 (Or.inr rfl) rfl).trans ((wm_getr xd104_11 rfl (show ml_L[1]? = _ from rfl) rfl (Nat.le_of_ble_eq_true rfl)).trans ((wm_geti xd104_14 rfl (show ml_L[2]? = _ from rfl) rfl (Nat.le_of_ble_eq_true rfl)).trans ((wp_same (S' := [.int (nI 12), .int (m 2 6)]) xd104_17 (Or.inr rfl) rfl).trans (wx_icmp xd104_19 rfl rfl ((m 2 6) < (nI 12)) mb_lt))))
theorem x104_22 : wp Ln xs 104 22 [.ref 1] [] (u, ml_h m lm) Φ = Φ (.inr 1) ((u.1, u.2.1 + 1, u.2.2 + 6), ml_h m lm) := wp_thr xd104_22 (Or.inr rfl) rfl rfl (E := 1) (by decide +kernel)
theorem x104_32 : wp Ln xs 104 32 [.ref 1] [] (u, ml_h m lm) Φ = wp Ln xs 12 0 [.ref 14, .ref 2, mj_hole] [] (u, ml_h m lm) (mk Ln xs 104 40 [.ref 1] [] Φ) := (wp_same xd104_32 (Or.inr rfl) rfl).trans ((wm_getr xd104_33 rfl (show ml_L[1]? = _ from rfl) rfl (Nat.le_of_ble_eq_true rfl)).trans ((wp_same xd104_36 (Or.inr rfl) rfl).trans ((wm_getr xd104_37 rfl (show ml_L[1]? = _ from rfl) rfl (Nat.le_of_ble_eq_true rfl)).trans (wm_cv (As := [.ref 2]) (rest := []) xd104_40 rfl rfl (show ml_L[14]? = _ from rfl) (Nat.le_of_ble_eq_true rfl) (Nat.le_of_ble_eq_true rfl) (Nat.le_of_ble_eq_true rfl) (Nat.le_of_ble_eq_true rfl)))))
theorem x104_43 : wp Ln xs 104 43 [.ref 1] [] (u, ml_h m lm) Φ = wp Ln xs 98 0 [.ref 2, mj_hole] [] (u, ml_h m lm) (mk Ln xs 104 47 [.ref 1] [] Φ) := (wp_same xd104_43 (Or.inr rfl) rfl).trans ((wm_getr xd104_44 rfl (show ml_L[1]? = _ from rfl) rfl (Nat.le_of_ble_eq_true rfl)).trans (wm_cv (As := []) (rest := []) xd104_47 rfl rfl (show ml_L[2]? = _ from rfl) (Nat.le_of_ble_eq_true rfl) (Nat.le_of_ble_eq_true rfl) (Nat.le_of_ble_eq_true rfl) (Nat.le_of_ble_eq_true rfl)))
theorem x104_50 : wp Ln xs 104 50 [.ref 1] [] (u, ml_h m lm) Φ = wp Ln xs 18 0 [.ref 1, .int ((m 2 6) - (nI 1))] [] (u, ml_h m lm) (mk Ln xs 104 60 [.ref 1] [] Φ) := (wp_same xd104_50 (Or.inr rfl) rfl).trans ((wp_same xd104_51 (Or.inr rfl) rfl).trans ((wm_getr xd104_52 rfl (show ml_L[1]? = _ from rfl) rfl (Nat.le_of_ble_eq_true rfl)).trans ((wm_geti xd104_55 rfl (show ml_L[2]? = _ from rfl) rfl (Nat.le_of_ble_eq_true rfl)).trans ((wp_same (S' := [.int (nI 1), .int (m 2 6), .ref 1]) xd104_58 (Or.inr rfl) rfl).trans ((wp_same xd104_59 (Or.inr rfl) rfl).trans (wm_cv (As := [.int ((m 2 6) - (nI 1))]) (rest := []) xd104_60 rfl rfl (show ml_L[1]? = _ from rfl) (Nat.le_of_ble_eq_true rfl) (Nat.le_of_ble_eq_true rfl) (Nat.le_of_ble_eq_true rfl) (Nat.le_of_ble_eq_true rfl)))))))
theorem x104_63 : wp Ln xs 104 63 [.ref 1] [] (u, ml_h m lm) Φ = wp Ln xs 42 0 [.ref 2, .int ((m 2 6) - (nI 1))] [] (u, ml_h m lm) (mk Ln xs 104 76 [.ref 1] [] Φ) := (wp_same xd104_63 (Or.inr rfl) rfl).trans ((wm_getr xd104_64 rfl (show ml_L[1]? = _ from rfl) rfl (Nat.le_of_ble_eq_true rfl)).trans ((wp_same xd104_67 (Or.inr rfl) rfl).trans ((wm_getr xd104_68 rfl (show ml_L[1]? = _ from rfl) rfl (Nat.le_of_ble_eq_true rfl)).trans ((wm_geti xd104_71 rfl (show ml_L[2]? = _ from rfl) rfl (Nat.le_of_ble_eq_true rfl)).trans ((wp_same (S' := [.int (nI 1), .int (m 2 6), .ref 2]) xd104_74 (Or.inr rfl) rfl).trans ((wp_same xd104_75 (Or.inr rfl) rfl).trans (wm_cv (As := [.int ((m 2 6) - (nI 1))]) (rest := []) xd104_76 rfl rfl (show ml_L[2]? = _ from rfl) (Nat.le_of_ble_eq_true rfl) (Nat.le_of_ble_eq_true rfl) (Nat.le_of_ble_eq_true rfl) (Nat.le_of_ble_eq_true rfl))))))))
theorem x104_79 {xs0 : Int32} : wp Ln xs 104 79 [.ref 1] [.int xs0] (u, ml_h m lm) Φ = Φ (.inl (some (.int xs0))) (u, ml_h m lm) := wp_fin (v := some (.int xs0)) xd104_79 (Or.inr rfl) rfl (mj_fin_i rfl)
/- PickedFormsLaw.isAnew -/
theorem xd105_0 : decode (mj_b 105) 0 = .ok (.aload_n 0, 1) := by decide +kernel
theorem xd105_1 : decode (mj_b 105) 1 = .ok (.iload_n 1, 1) := by decide +kernel
theorem xd105_2 : decode (mj_b 105) 2 = .ok (.bipush 8, 2) := by decide +kernel
theorem xd105_4 : decode (mj_b 105) 4 = .ok (.invokevirtual 16, 3) := by decide +kernel
theorem xd105_7 : decode (mj_b 105) 7 = .ok (.aload_n 0, 1) := by decide +kernel
theorem xd105_8 : decode (mj_b 105) 8 = .ok (.iload_n 1, 1) := by decide +kernel
theorem xd105_9 : decode (mj_b 105) 9 = .ok (.iconst 0, 1) := by decide +kernel
theorem xd105_10 : decode (mj_b 105) 10 = .ok (.invokevirtual 16, 3) := by decide +kernel
theorem xd105_13 : decode (mj_b 105) 13 = .ok (.if_icmp .ne 22, 3) := by decide +kernel
theorem xd105_16 : decode (mj_b 105) 16 = .ok (.aload_n 0, 1) := by decide +kernel
theorem xd105_17 : decode (mj_b 105) 17 = .ok (.iload_n 1, 1) := by decide +kernel
theorem xd105_18 : decode (mj_b 105) 18 = .ok (.iconst 2, 1) := by decide +kernel
theorem xd105_19 : decode (mj_b 105) 19 = .ok (.invokevirtual 16, 3) := by decide +kernel
theorem xd105_22 : decode (mj_b 105) 22 = .ok (.aload_n 0, 1) := by decide +kernel
theorem xd105_23 : decode (mj_b 105) 23 = .ok (.iload_n 1, 1) := by decide +kernel
theorem xd105_24 : decode (mj_b 105) 24 = .ok (.iconst 3, 1) := by decide +kernel
theorem xd105_25 : decode (mj_b 105) 25 = .ok (.invokevirtual 16, 3) := by decide +kernel
theorem xd105_28 : decode (mj_b 105) 28 = .ok (.if_icmp .ne 7, 3) := by decide +kernel
theorem xd105_31 : decode (mj_b 105) 31 = .ok (.iconst 1, 1) := by decide +kernel
theorem xd105_32 : decode (mj_b 105) 32 = .ok (.goto 4, 3) := by decide +kernel
theorem xd105_35 : decode (mj_b 105) 35 = .ok (.iconst 0, 1) := by decide +kernel
theorem xd105_36 : decode (mj_b 105) 36 = .ok (.istore_n 2, 1) := by decide +kernel
theorem xd105_37 : decode (mj_b 105) 37 = .ok (.iconst 0, 1) := by decide +kernel
theorem xd105_38 : decode (mj_b 105) 38 = .ok (.istore_n 3, 1) := by decide +kernel
theorem xd105_39 : decode (mj_b 105) 39 = .ok (.iload_n 3, 1) := by decide +kernel
theorem xd105_40 : decode (mj_b 105) 40 = .ok (.iconst 5, 1) := by decide +kernel
theorem xd105_41 : decode (mj_b 105) 41 = .ok (.if_icmp .ge 52, 3) := by decide +kernel
theorem xd105_44 : decode (mj_b 105) 44 = .ok (.iload_n 2, 1) := by decide +kernel
theorem xd105_45 : decode (mj_b 105) 45 = .ok (.ifCond .eq 48, 3) := by decide +kernel
theorem xd105_48 : decode (mj_b 105) 48 = .ok (.aload_n 0, 1) := by decide +kernel
theorem xd105_49 : decode (mj_b 105) 49 = .ok (.iconst 0, 1) := by decide +kernel
theorem xd105_50 : decode (mj_b 105) 50 = .ok (.invokevirtual 10, 3) := by decide +kernel
theorem xd105_53 : decode (mj_b 105) 53 = .ok (.bipush 16, 2) := by decide +kernel
theorem xd105_55 : decode (mj_b 105) 55 = .ok (.if_icmp .ne 38, 3) := by decide +kernel
theorem xd105_58 : decode (mj_b 105) 58 = .ok (.aload_n 0, 1) := by decide +kernel
theorem xd105_59 : decode (mj_b 105) 59 = .ok (.iload_n 3, 1) := by decide +kernel
theorem xd105_60 : decode (mj_b 105) 60 = .ok (.invokestatic 23, 3) := by decide +kernel
theorem xd105_63 : decode (mj_b 105) 63 = .ok (.ifCond .eq 18, 3) := by decide +kernel
theorem xd105_66 : decode (mj_b 105) 66 = .ok (.aload_n 0, 1) := by decide +kernel
theorem xd105_67 : decode (mj_b 105) 67 = .ok (.iload_n 1, 1) := by decide +kernel
theorem xd105_68 : decode (mj_b 105) 68 = .ok (.iconst 2, 1) := by decide +kernel
theorem xd105_69 : decode (mj_b 105) 69 = .ok (.invokevirtual 16, 3) := by decide +kernel
theorem xd105_72 : decode (mj_b 105) 72 = .ok (.aload_n 0, 1) := by decide +kernel
theorem xd105_73 : decode (mj_b 105) 73 = .ok (.iload_n 1, 1) := by decide +kernel
theorem xd105_74 : decode (mj_b 105) 74 = .ok (.iload_n 3, 1) := by decide +kernel
theorem xd105_75 : decode (mj_b 105) 75 = .ok (.invokevirtual 20, 3) := by decide +kernel
theorem xd105_78 : decode (mj_b 105) 78 = .ok (.if_icmp .gt 7, 3) := by decide +kernel
theorem xd105_81 : decode (mj_b 105) 81 = .ok (.iconst 1, 1) := by decide +kernel
theorem xd105_82 : decode (mj_b 105) 82 = .ok (.goto 4, 3) := by decide +kernel
theorem xd105_85 : decode (mj_b 105) 85 = .ok (.iconst 0, 1) := by decide +kernel
theorem xd105_86 : decode (mj_b 105) 86 = .ok (.istore_n 2, 1) := by decide +kernel
theorem xd105_87 : decode (mj_b 105) 87 = .ok (.iinc 3 1, 3) := by decide +kernel
theorem xd105_90 : decode (mj_b 105) 90 = .ok (.goto (-51), 3) := by decide +kernel
theorem xd105_93 : decode (mj_b 105) 93 = .ok (.iload_n 2, 1) := by decide +kernel
theorem xd105_94 : decode (mj_b 105) 94 = .ok (.ireturn, 1) := by decide +kernel
theorem x105_0 {x1 : Int32} : wp Ln xs 105 0 [.ref 1, .int x1, mj_hole, mj_hole] [] (u, ml_h m lm) Φ = wp Ln xs 56 0 [.ref 1, .int x1, .int (nI 8)] [] (u, ml_h m lm) (mk Ln xs 105 4 [.ref 1, .int x1, mj_hole, mj_hole] [] Φ) := (wp_same xd105_0 (Or.inr rfl) rfl).trans ((wp_same xd105_1 (Or.inr rfl) rfl).trans ((wp_same (S' := [.int (nI 8), .int x1, .ref 1]) xd105_2 (Or.inr rfl) rfl).trans (wm_cv (As := [.int x1, .int (nI 8)]) (rest := []) xd105_4 rfl rfl (show ml_L[1]? = _ from rfl) (Nat.le_of_ble_eq_true rfl) (Nat.le_of_ble_eq_true rfl) (Nat.le_of_ble_eq_true rfl) (Nat.le_of_ble_eq_true rfl))))
theorem x105_7 {x1 : Int32} {xs0 : Int32} : wp Ln xs 105 7 [.ref 1, .int x1, mj_hole, mj_hole] [.int xs0] (u, ml_h m lm) Φ = wp Ln xs 56 0 [.ref 1, .int x1, .int (nI 0)] [] (u, ml_h m lm) (mk Ln xs 105 10 [.ref 1, .int x1, mj_hole, mj_hole] [.int xs0] Φ) := (wp_same xd105_7 (Or.inr rfl) rfl).trans ((wp_same xd105_8 (Or.inr rfl) rfl).trans ((wp_same (S' := [.int (nI 0), .int x1, .ref 1, .int xs0]) xd105_9 (Or.inr rfl) rfl).trans (wm_cv (As := [.int x1, .int (nI 0)]) (rest := [.int xs0]) xd105_10 rfl rfl (show ml_L[1]? = _ from rfl) (Nat.le_of_ble_eq_true rfl) (Nat.le_of_ble_eq_true rfl) (Nat.le_of_ble_eq_true rfl) (Nat.le_of_ble_eq_true rfl))))
theorem x105_13 {x1 : Int32} {xs0 : Int32} {xs1 : Int32} : wp Ln xs 105 13 [.ref 1, .int x1, mj_hole, mj_hole] [.int xs0, .int xs1] (u, ml_h m lm) Φ = if ¬ xs1 = xs0 then wp Ln xs 105 35 [.ref 1, .int x1, mj_hole, mj_hole] [] (u, ml_h m lm) Φ else wp Ln xs 105 16 [.ref 1, .int x1, mj_hole, mj_hole] [] (u, ml_h m lm) Φ := wx_icmp xd105_13 rfl rfl (¬ xs1 = xs0) mb_ne
theorem x105_16 {x1 : Int32} : wp Ln xs 105 16 [.ref 1, .int x1, mj_hole, mj_hole] [] (u, ml_h m lm) Φ = wp Ln xs 56 0 [.ref 1, .int x1, .int (nI 2)] [] (u, ml_h m lm) (mk Ln xs 105 19 [.ref 1, .int x1, mj_hole, mj_hole] [] Φ) := (wp_same xd105_16 (Or.inr rfl) rfl).trans ((wp_same xd105_17 (Or.inr rfl) rfl).trans ((wp_same (S' := [.int (nI 2), .int x1, .ref 1]) xd105_18 (Or.inr rfl) rfl).trans (wm_cv (As := [.int x1, .int (nI 2)]) (rest := []) xd105_19 rfl rfl (show ml_L[1]? = _ from rfl) (Nat.le_of_ble_eq_true rfl) (Nat.le_of_ble_eq_true rfl) (Nat.le_of_ble_eq_true rfl) (Nat.le_of_ble_eq_true rfl))))
theorem x105_22 {x1 : Int32} {xs0 : Int32} : wp Ln xs 105 22 [.ref 1, .int x1, mj_hole, mj_hole] [.int xs0] (u, ml_h m lm) Φ = wp Ln xs 56 0 [.ref 1, .int x1, .int (nI 3)] [] (u, ml_h m lm) (mk Ln xs 105 25 [.ref 1, .int x1, mj_hole, mj_hole] [.int xs0] Φ) := (wp_same xd105_22 (Or.inr rfl) rfl).trans ((wp_same xd105_23 (Or.inr rfl) rfl).trans ((wp_same (S' := [.int (nI 3), .int x1, .ref 1, .int xs0]) xd105_24 (Or.inr rfl) rfl).trans (wm_cv (As := [.int x1, .int (nI 3)]) (rest := [.int xs0]) xd105_25 rfl rfl (show ml_L[1]? = _ from rfl) (Nat.le_of_ble_eq_true rfl) (Nat.le_of_ble_eq_true rfl) (Nat.le_of_ble_eq_true rfl) (Nat.le_of_ble_eq_true rfl))))
theorem x105_28 {x1 : Int32} {xs0 : Int32} {xs1 : Int32} : wp Ln xs 105 28 [.ref 1, .int x1, mj_hole, mj_hole] [.int xs0, .int xs1] (u, ml_h m lm) Φ = if ¬ xs1 = xs0 then wp Ln xs 105 35 [.ref 1, .int x1, mj_hole, mj_hole] [] (u, ml_h m lm) Φ else wp Ln xs 105 31 [.ref 1, .int x1, mj_hole, mj_hole] [] (u, ml_h m lm) Φ := wx_icmp xd105_28 rfl rfl (¬ xs1 = xs0) mb_ne
theorem x105_31 {x1 : Int32} : wp Ln xs 105 31 [.ref 1, .int x1, mj_hole, mj_hole] [] (u, ml_h m lm) Φ = wp Ln xs 105 36 [.ref 1, .int x1, mj_hole, mj_hole] [.int (nI 1)] (u, ml_h m lm) Φ := (wp_same (S' := [.int (nI 1)]) xd105_31 (Or.inr rfl) rfl).trans (wx_goto xd105_32 rfl)
theorem x105_35 {x1 : Int32} : wp Ln xs 105 35 [.ref 1, .int x1, mj_hole, mj_hole] [] (u, ml_h m lm) Φ = wp Ln xs 105 36 [.ref 1, .int x1, mj_hole, mj_hole] [.int (nI 0)] (u, ml_h m lm) Φ := wp_same (S' := [.int (nI 0)]) xd105_35 (Or.inr rfl) rfl
theorem x105_36 {x1 : Int32} {xs0 : Int32} : wp Ln xs 105 36 [.ref 1, .int x1, mj_hole, mj_hole] [.int xs0] (u, ml_h m lm) Φ = wp Ln xs 105 39 [.ref 1, .int x1, .int xs0, .int (nI 0)] [] (u, ml_h m lm) Φ := (wp_same (L' := [.ref 1, .int x1, .int xs0, mj_hole]) xd105_36 (Or.inr rfl) rfl).trans ((wp_same (S' := [.int (nI 0)]) xd105_37 (Or.inr rfl) rfl).trans (wp_same (L' := [.ref 1, .int x1, .int xs0, .int (nI 0)]) xd105_38 (Or.inr rfl) rfl))
theorem x105_39 {x1 : Int32} {x2 : Int32} {x3 : Int32} : wp Ln xs 105 39 [.ref 1, .int x1, .int x2, .int x3] [] (u, ml_h m lm) Φ = if (nI 5) ≤ x3 then wp Ln xs 105 93 [.ref 1, .int x1, .int x2, .int x3] [] (u, ml_h m lm) Φ else wp Ln xs 105 44 [.ref 1, .int x1, .int x2, .int x3] [] (u, ml_h m lm) Φ := (wp_same xd105_39 (Or.inr rfl) rfl).trans ((wp_same (S' := [.int (nI 5), .int x3]) xd105_40 (Or.inr rfl) rfl).trans (wx_icmp xd105_41 rfl rfl ((nI 5) ≤ x3) mb_ge))
theorem x105_44 {x1 : Int32} {x2 : Int32} {x3 : Int32} : wp Ln xs 105 44 [.ref 1, .int x1, .int x2, .int x3] [] (u, ml_h m lm) Φ = if x2 = (nI 0) then wp Ln xs 105 93 [.ref 1, .int x1, .int x2, .int x3] [] (u, ml_h m lm) Φ else wp Ln xs 105 48 [.ref 1, .int x1, .int x2, .int x3] [] (u, ml_h m lm) Φ := (wp_same xd105_44 (Or.inr rfl) rfl).trans (wx_if xd105_45 rfl rfl (x2 = (nI 0)) mb_eq)
theorem x105_48 {x1 : Int32} {x2 : Int32} {x3 : Int32} : wp Ln xs 105 48 [.ref 1, .int x1, .int x2, .int x3] [] (u, ml_h m lm) Φ = wp Ln xs 61 0 [.ref 1, .int (nI 0)] [] (u, ml_h m lm) (mk Ln xs 105 50 [.ref 1, .int x1, .int x2, .int x3] [] Φ) := (wp_same xd105_48 (Or.inr rfl) rfl).trans ((wp_same (S' := [.int (nI 0), .ref 1]) xd105_49 (Or.inr rfl) rfl).trans (wm_cv (As := [.int (nI 0)]) (rest := []) xd105_50 rfl rfl (show ml_L[1]? = _ from rfl) (Nat.le_of_ble_eq_true rfl) (Nat.le_of_ble_eq_true rfl) (Nat.le_of_ble_eq_true rfl) (Nat.le_of_ble_eq_true rfl)))
theorem x105_53 {x1 : Int32} {x2 : Int32} {x3 : Int32} {xs0 : Int32} : wp Ln xs 105 53 [.ref 1, .int x1, .int x2, .int x3] [.int xs0] (u, ml_h m lm) Φ = if ¬ xs0 = (nI 16) then wp Ln xs 105 93 [.ref 1, .int x1, .int x2, .int x3] [] (u, ml_h m lm) Φ else wp Ln xs 105 58 [.ref 1, .int x1, .int x2, .int x3] [] (u, ml_h m lm) Φ := (wp_same (S' := [.int (nI 16), .int xs0]) xd105_53 (Or.inr rfl) rfl).trans (wx_icmp xd105_55 rfl rfl (¬ xs0 = (nI 16)) mb_ne)
theorem x105_58 {x1 : Int32} {x2 : Int32} {x3 : Int32} : wp Ln xs 105 58 [.ref 1, .int x1, .int x2, .int x3] [] (u, ml_h m lm) Φ = wp Ln xs 60 0 [.ref 1, .int x3] [] (u, ml_h m lm) (mk Ln xs 105 60 [.ref 1, .int x1, .int x2, .int x3] [] Φ) := (wp_same xd105_58 (Or.inr rfl) rfl).trans ((wp_same xd105_59 (Or.inr rfl) rfl).trans (wm_cs (As := [.ref 1, .int x3]) (rest := []) xd105_60 rfl rfl (Nat.le_of_ble_eq_true rfl) (Nat.le_of_ble_eq_true rfl) (Nat.le_of_ble_eq_true rfl) (Nat.le_of_ble_eq_true rfl)))
theorem x105_63 {x1 : Int32} {x2 : Int32} {x3 : Int32} {xs0 : Int32} : wp Ln xs 105 63 [.ref 1, .int x1, .int x2, .int x3] [.int xs0] (u, ml_h m lm) Φ = if xs0 = (nI 0) then wp Ln xs 105 81 [.ref 1, .int x1, .int x2, .int x3] [] (u, ml_h m lm) Φ else wp Ln xs 105 66 [.ref 1, .int x1, .int x2, .int x3] [] (u, ml_h m lm) Φ := wx_if xd105_63 rfl rfl (xs0 = (nI 0)) mb_eq
theorem x105_66 {x1 : Int32} {x2 : Int32} {x3 : Int32} : wp Ln xs 105 66 [.ref 1, .int x1, .int x2, .int x3] [] (u, ml_h m lm) Φ = wp Ln xs 56 0 [.ref 1, .int x1, .int (nI 2)] [] (u, ml_h m lm) (mk Ln xs 105 69 [.ref 1, .int x1, .int x2, .int x3] [] Φ) := (wp_same xd105_66 (Or.inr rfl) rfl).trans ((wp_same xd105_67 (Or.inr rfl) rfl).trans ((wp_same (S' := [.int (nI 2), .int x1, .ref 1]) xd105_68 (Or.inr rfl) rfl).trans (wm_cv (As := [.int x1, .int (nI 2)]) (rest := []) xd105_69 rfl rfl (show ml_L[1]? = _ from rfl) (Nat.le_of_ble_eq_true rfl) (Nat.le_of_ble_eq_true rfl) (Nat.le_of_ble_eq_true rfl) (Nat.le_of_ble_eq_true rfl))))
theorem x105_72 {x1 : Int32} {x2 : Int32} {x3 : Int32} {xs0 : Int32} : wp Ln xs 105 72 [.ref 1, .int x1, .int x2, .int x3] [.int xs0] (u, ml_h m lm) Φ = wp Ln xs 59 0 [.ref 1, .int x1, .int x3] [] (u, ml_h m lm) (mk Ln xs 105 75 [.ref 1, .int x1, .int x2, .int x3] [.int xs0] Φ) := (wp_same xd105_72 (Or.inr rfl) rfl).trans ((wp_same xd105_73 (Or.inr rfl) rfl).trans ((wp_same xd105_74 (Or.inr rfl) rfl).trans (wm_cv (As := [.int x1, .int x3]) (rest := [.int xs0]) xd105_75 rfl rfl (show ml_L[1]? = _ from rfl) (Nat.le_of_ble_eq_true rfl) (Nat.le_of_ble_eq_true rfl) (Nat.le_of_ble_eq_true rfl) (Nat.le_of_ble_eq_true rfl))))
theorem x105_78 {x1 : Int32} {x2 : Int32} {x3 : Int32} {xs0 : Int32} {xs1 : Int32} : wp Ln xs 105 78 [.ref 1, .int x1, .int x2, .int x3] [.int xs0, .int xs1] (u, ml_h m lm) Φ = if xs0 < xs1 then wp Ln xs 105 85 [.ref 1, .int x1, .int x2, .int x3] [] (u, ml_h m lm) Φ else wp Ln xs 105 81 [.ref 1, .int x1, .int x2, .int x3] [] (u, ml_h m lm) Φ := wx_icmp xd105_78 rfl rfl (xs0 < xs1) mb_gt
theorem x105_81 {x1 : Int32} {x2 : Int32} {x3 : Int32} : wp Ln xs 105 81 [.ref 1, .int x1, .int x2, .int x3] [] (u, ml_h m lm) Φ = wp Ln xs 105 86 [.ref 1, .int x1, .int x2, .int x3] [.int (nI 1)] (u, ml_h m lm) Φ := (wp_same (S' := [.int (nI 1)]) xd105_81 (Or.inr rfl) rfl).trans (wx_goto xd105_82 rfl)
theorem x105_85 {x1 : Int32} {x2 : Int32} {x3 : Int32} : wp Ln xs 105 85 [.ref 1, .int x1, .int x2, .int x3] [] (u, ml_h m lm) Φ = wp Ln xs 105 86 [.ref 1, .int x1, .int x2, .int x3] [.int (nI 0)] (u, ml_h m lm) Φ := wp_same (S' := [.int (nI 0)]) xd105_85 (Or.inr rfl) rfl
theorem x105_86 {x1 : Int32} {x2 : Int32} {x3 : Int32} {xs0 : Int32} : wp Ln xs 105 86 [.ref 1, .int x1, .int x2, .int x3] [.int xs0] (u, ml_h m lm) Φ = wp Ln xs 105 39 [.ref 1, .int x1, .int xs0, .int (x3 + nI 1)] [] (u, ml_h m lm) Φ := (wp_same (L' := [.ref 1, .int x1, .int xs0, .int x3]) xd105_86 (Or.inr rfl) rfl).trans ((wp_same (L' := [.ref 1, .int x1, .int xs0, .int (x3 + nI 1)]) xd105_87 (Or.inr rfl) rfl).trans (wx_goto xd105_90 rfl))
theorem x105_93 {x1 : Int32} {x2 : Int32} {x3 : Int32} (hz : mj_fin 105 [.int x2] .ireturn = some (some (.int x2))) : wp Ln xs 105 93 [.ref 1, .int x1, .int x2, .int x3] [] (u, ml_h m lm) Φ = Φ (.inl (some (.int x2))) (u, ml_h m lm) := (wp_same xd105_93 (Or.inr rfl) rfl).trans (wp_fin xd105_94 (Or.inr rfl) rfl hz)
/- PickedForms.keep -/
theorem xd106_0 : decode (mj_b 106) 0 = .ok (.aload_n 0, 1) := by decide +kernel
theorem xd106_1 : decode (mj_b 106) 1 = .ok (.getfield 16, 3) := by decide +kernel
theorem xd106_4 : decode (mj_b 106) 4 = .ok (.aload_n 0, 1) := by decide +kernel
theorem xd106_5 : decode (mj_b 106) 5 = .ok (.getfield 12, 3) := by decide +kernel
theorem xd106_8 : decode (mj_b 106) 8 = .ok (.invokevirtual 240, 3) := by decide +kernel
theorem xd106_11 : decode (mj_b 106) 11 = .ok (.aload_n 0, 1) := by decide +kernel
theorem xd106_12 : decode (mj_b 106) 12 = .ok (.iconst 1, 1) := by decide +kernel
theorem xd106_13 : decode (mj_b 106) 13 = .ok (.putfield 19, 3) := by decide +kernel
theorem xd106_16 : decode (mj_b 106) 16 = .ok (.aload_n 0, 1) := by decide +kernel
theorem xd106_17 : decode (mj_b 106) 17 = .ok (.getfield 12, 3) := by decide +kernel
theorem xd106_20 : decode (mj_b 106) 20 = .ok (.getfield 104, 3) := by decide +kernel
theorem xd106_23 : decode (mj_b 106) 23 = .ok (.ireturn, 1) := by decide +kernel
theorem x106_0 : wp Ln xs 106 0 [.ref 1] [] (u, ml_h m lm) Φ = wp Ln xs 14 0 [.ref 8, .ref 2] [] (u, ml_h m lm) (mk Ln xs 106 8 [.ref 1] [] Φ) := (wp_same xd106_0 (Or.inr rfl) rfl).trans ((wm_getr xd106_1 rfl (show ml_L[1]? = _ from rfl) rfl (Nat.le_of_ble_eq_true rfl)).trans ((wp_same xd106_4 (Or.inr rfl) rfl).trans ((wm_getr xd106_5 rfl (show ml_L[1]? = _ from rfl) rfl (Nat.le_of_ble_eq_true rfl)).trans (wm_cv (As := [.ref 2]) (rest := []) xd106_8 rfl rfl (show ml_L[8]? = _ from rfl) (Nat.le_of_ble_eq_true rfl) (Nat.le_of_ble_eq_true rfl) (Nat.le_of_ble_eq_true rfl) (Nat.le_of_ble_eq_true rfl)))))
theorem x106_11 : wp Ln xs 106 11 [.ref 1] [] (u, ml_h m lm) Φ = Φ (.inl (some (.int ((ml_s m 1 2 (nI 1)) 2 5)))) (u, ml_h (ml_s m 1 2 (nI 1)) lm) := (wp_same xd106_11 (Or.inr rfl) rfl).trans ((wp_same (S' := [.int (nI 1), .ref 1]) xd106_12 (Or.inr rfl) rfl).trans ((wm_puti xd106_13 rfl (show ml_L[1]? = _ from rfl) rfl (Nat.le_of_ble_eq_true rfl) rfl rfl rfl).trans ((wp_same xd106_16 (Or.inr rfl) rfl).trans ((wm_getr xd106_17 rfl (show ml_L[1]? = _ from rfl) rfl (Nat.le_of_ble_eq_true rfl)).trans ((wm_geti xd106_20 rfl (show ml_L[2]? = _ from rfl) rfl (Nat.le_of_ble_eq_true rfl)).trans (wp_fin (v := some (.int ((ml_s m 1 2 (nI 1)) 2 5))) xd106_23 (Or.inr rfl) rfl (mj_fin_i rfl)))))))
/- PickedFormsLaw.column -/
theorem xd107_0 : decode (mj_b 107) 0 = .ok (.lconst 1, 1) := by decide +kernel
theorem xd107_1 : decode (mj_b 107) 1 = .ok (.lstore_n 1, 1) := by decide +kernel
theorem xd107_2 : decode (mj_b 107) 2 = .ok (.iconst 0, 1) := by decide +kernel
theorem xd107_3 : decode (mj_b 107) 3 = .ok (.istore_n 3, 1) := by decide +kernel
theorem xd107_4 : decode (mj_b 107) 4 = .ok (.iload_n 3, 1) := by decide +kernel
theorem xd107_5 : decode (mj_b 107) 5 = .ok (.aload_n 0, 1) := by decide +kernel
theorem xd107_6 : decode (mj_b 107) 6 = .ok (.iconst 0, 1) := by decide +kernel
theorem xd107_7 : decode (mj_b 107) 7 = .ok (.invokevirtual 38, 3) := by decide +kernel
theorem xd107_10 : decode (mj_b 107) 10 = .ok (.if_icmp .ge 23, 3) := by decide +kernel
theorem xd107_13 : decode (mj_b 107) 13 = .ok (.ldc2_w 73, 3) := by decide +kernel
theorem xd107_16 : decode (mj_b 107) 16 = .ok (.lload_n 1, 1) := by decide +kernel
theorem xd107_17 : decode (mj_b 107) 17 = .ok (.lmul, 1) := by decide +kernel
theorem xd107_18 : decode (mj_b 107) 18 = .ok (.aload_n 0, 1) := by decide +kernel
theorem xd107_19 : decode (mj_b 107) 19 = .ok (.iload_n 3, 1) := by decide +kernel
theorem xd107_20 : decode (mj_b 107) 20 = .ok (.iconst 0, 1) := by decide +kernel
theorem xd107_21 : decode (mj_b 107) 21 = .ok (.invokevirtual 32, 3) := by decide +kernel
theorem xd107_24 : decode (mj_b 107) 24 = .ok (.i2l, 1) := by decide +kernel
theorem xd107_25 : decode (mj_b 107) 25 = .ok (.ladd, 1) := by decide +kernel
theorem xd107_26 : decode (mj_b 107) 26 = .ok (.lstore_n 1, 1) := by decide +kernel
theorem xd107_27 : decode (mj_b 107) 27 = .ok (.iinc 3 1, 3) := by decide +kernel
theorem xd107_30 : decode (mj_b 107) 30 = .ok (.goto (-26), 3) := by decide +kernel
theorem xd107_33 : decode (mj_b 107) 33 = .ok (.lload_n 1, 1) := by decide +kernel
theorem xd107_34 : decode (mj_b 107) 34 = .ok (.lreturn, 1) := by decide +kernel
theorem x107_0 : wp Ln xs 107 0 [.ref 1, mj_hole, mj_hole, mj_hole] [] (u, ml_h m lm) Φ = wp Ln xs 107 4 [.ref 1, .long 1, mj_hole, .int (nI 0)] [] (u, ml_h m lm) Φ := (wp_same xd107_0 (Or.inr rfl) rfl).trans ((wp_same (L' := [.ref 1, .long 1, mj_hole, mj_hole]) xd107_1 (Or.inr rfl) rfl).trans ((wp_same (S' := [.int (nI 0)]) xd107_2 (Or.inr rfl) rfl).trans (wp_same (L' := [.ref 1, .long 1, mj_hole, .int (nI 0)]) xd107_3 (Or.inr rfl) rfl)))
theorem x107_4 {y1 : Int64} {x3 : Int32} : wp Ln xs 107 4 [.ref 1, .long y1, mj_hole, .int x3] [] (u, ml_h m lm) Φ = wp Ln xs 34 0 [.ref 1, .int (nI 0)] [] (u, ml_h m lm) (mk Ln xs 107 7 [.ref 1, .long y1, mj_hole, .int x3] [.int x3] Φ) := (wp_same xd107_4 (Or.inr rfl) rfl).trans ((wp_same xd107_5 (Or.inr rfl) rfl).trans ((wp_same (S' := [.int (nI 0), .ref 1, .int x3]) xd107_6 (Or.inr rfl) rfl).trans (wm_cv (As := [.int (nI 0)]) (rest := [.int x3]) xd107_7 rfl rfl (show ml_L[1]? = _ from rfl) (Nat.le_of_ble_eq_true rfl) (Nat.le_of_ble_eq_true rfl) (Nat.le_of_ble_eq_true rfl) (Nat.le_of_ble_eq_true rfl))))
theorem x107_10 {y1 : Int64} {x3 : Int32} {xs0 : Int32} {xs1 : Int32} : wp Ln xs 107 10 [.ref 1, .long y1, mj_hole, .int x3] [.int xs0, .int xs1] (u, ml_h m lm) Φ = if xs0 ≤ xs1 then wp Ln xs 107 33 [.ref 1, .long y1, mj_hole, .int x3] [] (u, ml_h m lm) Φ else wp Ln xs 107 13 [.ref 1, .long y1, mj_hole, .int x3] [] (u, ml_h m lm) Φ := wx_icmp xd107_10 rfl rfl (xs0 ≤ xs1) mb_ge
theorem x107_13 {y1 : Int64} {x3 : Int32} : wp Ln xs 107 13 [.ref 1, .long y1, mj_hole, .int x3] [] (u, ml_h m lm) Φ = wp Ln xs 72 0 [.ref 1, .int x3, .int (nI 0)] [] (u, ml_h m lm) (mk Ln xs 107 21 [.ref 1, .long y1, mj_hole, .int x3] [.long (31 * y1)] Φ) := (wm_ldc2 (v := .long 31) xd107_13 rfl rfl).trans ((wp_same xd107_16 (Or.inr rfl) rfl).trans ((wp_same xd107_17 (Or.inr rfl) rfl).trans ((wp_same xd107_18 (Or.inr rfl) rfl).trans ((wp_same xd107_19 (Or.inr rfl) rfl).trans ((wp_same (S' := [.int (nI 0), .int x3, .ref 1, .long (31 * y1)]) xd107_20 (Or.inr rfl) rfl).trans (wm_cv (As := [.int x3, .int (nI 0)]) (rest := [.long (31 * y1)]) xd107_21 rfl rfl (show ml_L[1]? = _ from rfl) (Nat.le_of_ble_eq_true rfl) (Nat.le_of_ble_eq_true rfl) (Nat.le_of_ble_eq_true rfl) (Nat.le_of_ble_eq_true rfl)))))))
theorem x107_24 {y1 : Int64} {x3 : Int32} {xs0 : Int32} {ys1 : Int64} : wp Ln xs 107 24 [.ref 1, .long y1, mj_hole, .int x3] [.int xs0, .long ys1] (u, ml_h m lm) Φ = wp Ln xs 107 4 [.ref 1, .long (ys1 + xs0.toInt64), mj_hole, .int (x3 + nI 1)] [] (u, ml_h m lm) Φ := (wp_same xd107_24 (Or.inr rfl) rfl).trans ((wp_same xd107_25 (Or.inr rfl) rfl).trans ((wp_same (L' := [.ref 1, .long (ys1 + xs0.toInt64), mj_hole, .int x3]) xd107_26 (Or.inr rfl) rfl).trans ((wp_same (L' := [.ref 1, .long (ys1 + xs0.toInt64), mj_hole, .int (x3 + nI 1)]) xd107_27 (Or.inr rfl) rfl).trans (wx_goto xd107_30 rfl))))
theorem x107_33 {y1 : Int64} {x3 : Int32} : wp Ln xs 107 33 [.ref 1, .long y1, mj_hole, .int x3] [] (u, ml_h m lm) Φ = Φ (.inl (some (.long y1))) (u, ml_h m lm) := (wp_same xd107_33 (Or.inr rfl) rfl).trans (wp_fin (v := some (.long y1)) xd107_34 (Or.inr rfl) rfl rfl)
end MXf
