/-! ===== an equation for each straight piece of a method ===== -/
section MXh
variable {Ln : Nat} {xs : Nat → Int32} {u : mj_U} {m : ml_M} {lm : ml_J} {Φ : mj_R → mj_W → Prop}
/- PickedForms.trialGrowth -/
theorem xd143_0 : decode (mj_b 143) 0 = .ok (.aload_n 0, 1) := by decide +kernel
theorem xd143_1 : decode (mj_b 143) 1 = .ok (.getfield 47, 3) := by decide +kernel
theorem xd143_4 : decode (mj_b 143) 4 = .ok (.aload_n 0, 1) := by decide +kernel
theorem xd143_5 : decode (mj_b 143) 5 = .ok (.getfield 72, 3) := by decide +kernel
theorem xd143_8 : decode (mj_b 143) 8 = .ok (.iconst 0, 1) := by decide +kernel
theorem xd143_9 : decode (mj_b 143) 9 = .ok (.aload_n 0, 1) := by decide +kernel
theorem xd143_10 : decode (mj_b 143) 10 = .ok (.getfield 12, 3) := by decide +kernel
theorem xd143_13 : decode (mj_b 143) 13 = .ok (.iload_n 1, 1) := by decide +kernel
theorem xd143_14 : decode (mj_b 143) 14 = .ok (.invokevirtual 164, 3) := by decide +kernel
theorem xd143_17 : decode (mj_b 143) 17 = .ok (.aload_n 0, 1) := by decide +kernel
theorem xd143_18 : decode (mj_b 143) 18 = .ok (.getfield 12, 3) := by decide +kernel
theorem xd143_21 : decode (mj_b 143) 21 = .ok (.getfield 203, 3) := by decide +kernel
theorem xd143_24 : decode (mj_b 143) 24 = .ok (.invokevirtual 360, 3) := by decide +kernel
theorem xd143_27 : decode (mj_b 143) 27 = .ok (.aload_n 0, 1) := by decide +kernel
theorem xd143_28 : decode (mj_b 143) 28 = .ok (.getfield 47, 3) := by decide +kernel
theorem xd143_31 : decode (mj_b 143) 31 = .ok (.getfield 373, 3) := by decide +kernel
theorem xd143_34 : decode (mj_b 143) 34 = .ok (.aload_n 0, 1) := by decide +kernel
theorem xd143_35 : decode (mj_b 143) 35 = .ok (.getfield 12, 3) := by decide +kernel
theorem xd143_38 : decode (mj_b 143) 38 = .ok (.iload_n 1, 1) := by decide +kernel
theorem xd143_39 : decode (mj_b 143) 39 = .ok (.invokevirtual 159, 3) := by decide +kernel
theorem xd143_42 : decode (mj_b 143) 42 = .ok (.isub, 1) := by decide +kernel
theorem xd143_43 : decode (mj_b 143) 43 = .ok (.ireturn, 1) := by decide +kernel
theorem x143_0 {x1 : Int32} : wp Ln xs 143 0 [.ref 1, .int x1] [] (u, ml_h m lm) Φ = wp Ln xs 30 0 [.ref 2, .int x1] [] (u, ml_h m lm) (mk Ln xs 143 14 [.ref 1, .int x1] [.int (nI 0), .ref 71, .ref 58] Φ) := (wp_same xd143_0 (Or.inr rfl) rfl).trans ((wm_getr xd143_1 rfl (show ml_L[1]? = _ from rfl) rfl (Nat.le_of_ble_eq_true rfl)).trans ((wp_same xd143_4 (Or.inr rfl) rfl).trans ((wm_getr xd143_5 rfl (show ml_L[1]? = _ from rfl) rfl (Nat.le_of_ble_eq_true rfl)).trans ((wp_same (S' := [.int (nI 0), .ref 71, .ref 58]) xd143_8 (Or.inr rfl) rfl).trans ((wp_same xd143_9 (Or.inr rfl) rfl).trans ((wm_getr xd143_10 rfl (show ml_L[1]? = _ from rfl) rfl (Nat.le_of_ble_eq_true rfl)).trans ((wp_same xd143_13 (Or.inr rfl) rfl).trans (wm_cv (As := [.int x1]) (rest := [.int (nI 0), .ref 71, .ref 58]) xd143_14 rfl rfl (show ml_L[2]? = _ from rfl) (Nat.le_of_ble_eq_true rfl) (Nat.le_of_ble_eq_true rfl) (Nat.le_of_ble_eq_true rfl) (Nat.le_of_ble_eq_true rfl)))))))))
theorem x143_17 {x1 : Int32} {xs0 : Int32} {xs1 : Int32} : wp Ln xs 143 17 [.ref 1, .int x1] [.int xs0, .int xs1, .ref 71, .ref 58] (u, ml_h m lm) Φ = wp Ln xs 49 0 [.ref 58, .ref 71, .int xs1, .int xs0, .ref 7, mj_hole, mj_hole] [] (u, ml_h m lm) (mk Ln xs 143 24 [.ref 1, .int x1] [] Φ) := (wp_same xd143_17 (Or.inr rfl) rfl).trans ((wm_getr xd143_18 rfl (show ml_L[1]? = _ from rfl) rfl (Nat.le_of_ble_eq_true rfl)).trans ((wm_getr xd143_21 rfl (show ml_L[2]? = _ from rfl) rfl (Nat.le_of_ble_eq_true rfl)).trans (wm_cv (As := [.ref 71, .int xs1, .int xs0, .ref 7]) (rest := []) xd143_24 rfl rfl (show ml_L[58]? = _ from rfl) (Nat.le_of_ble_eq_true rfl) (Nat.le_of_ble_eq_true rfl) (Nat.le_of_ble_eq_true rfl) (Nat.le_of_ble_eq_true rfl))))
theorem x143_27 {x1 : Int32} : wp Ln xs 143 27 [.ref 1, .int x1] [] (u, ml_h m lm) Φ = wp Ln xs 48 0 [.ref 2, .int x1] [] (u, ml_h m lm) (mk Ln xs 143 39 [.ref 1, .int x1] [.int (m 58 2)] Φ) := (wp_same xd143_27 (Or.inr rfl) rfl).trans ((wm_getr xd143_28 rfl (show ml_L[1]? = _ from rfl) rfl (Nat.le_of_ble_eq_true rfl)).trans ((wm_geti xd143_31 rfl (show ml_L[58]? = _ from rfl) rfl (Nat.le_of_ble_eq_true rfl)).trans ((wp_same xd143_34 (Or.inr rfl) rfl).trans ((wm_getr xd143_35 rfl (show ml_L[1]? = _ from rfl) rfl (Nat.le_of_ble_eq_true rfl)).trans ((wp_same xd143_38 (Or.inr rfl) rfl).trans (wm_cv (As := [.int x1]) (rest := [.int (m 58 2)]) xd143_39 rfl rfl (show ml_L[2]? = _ from rfl) (Nat.le_of_ble_eq_true rfl) (Nat.le_of_ble_eq_true rfl) (Nat.le_of_ble_eq_true rfl) (Nat.le_of_ble_eq_true rfl)))))))
theorem x143_42 {x1 : Int32} {xs0 : Int32} {xs1 : Int32} : wp Ln xs 143 42 [.ref 1, .int x1] [.int xs0, .int xs1] (u, ml_h m lm) Φ = Φ (.inl (some (.int (xs1 - xs0)))) (u, ml_h m lm) := (wp_same xd143_42 (Or.inr rfl) rfl).trans (wp_fin (v := some (.int (xs1 - xs0))) xd143_43 (Or.inr rfl) rfl (mj_fin_i rfl))
/- PickedFormsLaw.bestSplit -/
theorem xd144_0 : decode (mj_b 144) 0 = .ok (.aload_n 2, 1) := by decide +kernel
theorem xd144_1 : decode (mj_b 144) 1 = .ok (.iconst 0, 1) := by decide +kernel
theorem xd144_2 : decode (mj_b 144) 2 = .ok (.aload_n 0, 1) := by decide +kernel
theorem xd144_3 : decode (mj_b 144) 3 = .ok (.iload_n 1, 1) := by decide +kernel
theorem xd144_4 : decode (mj_b 144) 4 = .ok (.invokevirtual 79, 3) := by decide +kernel
theorem xd144_7 : decode (mj_b 144) 7 = .ok (.i2l, 1) := by decide +kernel
theorem xd144_8 : decode (mj_b 144) 8 = .ok (.lastore, 1) := by decide +kernel
theorem xd144_9 : decode (mj_b 144) 9 = .ok (.goto 6, 3) := by decide +kernel
theorem xd144_13 : decode (mj_b 144) 13 = .ok (.iconst 1, 1) := by decide +kernel
theorem xd144_14 : decode (mj_b 144) 14 = .ok (.ireturn, 1) := by decide +kernel
theorem xd144_15 : decode (mj_b 144) 15 = .ok (.iconst 0, 1) := by decide +kernel
theorem xd144_16 : decode (mj_b 144) 16 = .ok (.ireturn, 1) := by decide +kernel
theorem x144_0 {x1 : Int32} : wp Ln xs 144 0 [.ref 1, .int x1, .ref 81, mj_hole] [] (u, ml_h m lm) Φ = wp Ln xs 145 0 [.ref 1, .int x1] [] (u, ml_h m lm) (mk Ln xs 144 4 [.ref 1, .int x1, .ref 81, mj_hole] [.int (nI 0), .ref 81] Φ) := (wp_same xd144_0 (Or.inr rfl) rfl).trans ((wp_same (S' := [.int (nI 0), .ref 81]) xd144_1 (Or.inr rfl) rfl).trans ((wp_same xd144_2 (Or.inr rfl) rfl).trans ((wp_same xd144_3 (Or.inr rfl) rfl).trans (wm_cv (As := [.int x1]) (rest := [.int (nI 0), .ref 81]) xd144_4 rfl rfl (show ml_L[1]? = _ from rfl) (Nat.le_of_ble_eq_true rfl) (Nat.le_of_ble_eq_true rfl) (Nat.le_of_ble_eq_true rfl) (Nat.le_of_ble_eq_true rfl)))))
theorem x144_7 {x1 : Int32} {xs0 : Int32} {xs1 : Int32} : wp Ln xs 144 7 [.ref 1, .int x1, .ref 81, mj_hole] [.int xs0, .int xs1, .ref 81] (u, ml_h m lm) Φ = wp Ln xs 144 8 [.ref 1, .int x1, .ref 81, mj_hole] [.long xs0.toInt64, .int xs1, .ref 81] (u, ml_h m lm) Φ := wp_same xd144_7 (Or.inr rfl) rfl
theorem x144_8 {x1 : Int32} {ys0 : Int64} {k : Nat} (hk : k < 1) : wp Ln xs 144 8 [.ref 1, .int x1, .ref 81, mj_hole] [.long ys0, .int (nI k), .ref 81] (u, ml_h m lm) Φ = wp Ln xs 144 15 [.ref 1, .int x1, .ref 81, mj_hole] [] (u, ml_h m (ml_sj lm 81 k ys0)) Φ := (wm_last (k := k) xd144_8 rfl hk (by decide)).trans (wx_goto xd144_9 rfl)
theorem x144_13 {x1 : Int32} : wp Ln xs 144 13 [.ref 1, .int x1, .ref 81, mj_hole] [] (u, ml_h m lm) Φ = Φ (.inl (some (.int (nI 1)))) (u, ml_h m lm) := (wp_same (S' := [.int (nI 1)]) xd144_13 (Or.inr rfl) rfl).trans (wp_fin (v := some (.int (nI 1))) xd144_14 (Or.inr rfl) rfl (mj_fin_i rfl))
theorem x144_15 {x1 : Int32} : wp Ln xs 144 15 [.ref 1, .int x1, .ref 81, mj_hole] [] (u, ml_h m lm) Φ = Φ (.inl (some (.int (nI 0)))) (u, ml_h m lm) := (wp_same (S' := [.int (nI 0)]) xd144_15 (Or.inr rfl) rfl).trans (wp_fin (v := some (.int (nI 0))) xd144_16 (Or.inr rfl) rfl (mj_fin_i rfl))
/- PickedForms.bestSplit -/
theorem xd145_0 : decode (mj_b 145) 0 = .ok (.aload_n 0, 1) := by decide +kernel
theorem xd145_1 : decode (mj_b 145) 1 = .ok (.getfield 12, 3) := by decide +kernel
theorem xd145_4 : decode (mj_b 145) 4 = .ok (.iload_n 1, 1) := by decide +kernel
theorem xd145_5 : decode (mj_b 145) 5 = .ok (.invokevirtual 154, 3) := by decide +kernel
theorem xd145_8 : decode (mj_b 145) 8 = .ok (.ifCond .ne 13, 3) := by decide +kernel
theorem xd145_11 : decode (mj_b 145) 11 = .ok (.new 130, 3) := by decide +kernel
theorem xd145_21 : decode (mj_b 145) 21 = .ok (.aload_n 0, 1) := by decide +kernel
theorem xd145_22 : decode (mj_b 145) 22 = .ok (.iload_n 1, 1) := by decide +kernel
theorem xd145_23 : decode (mj_b 145) 23 = .ok (.invokevirtual 296, 3) := by decide +kernel
theorem xd145_26 : decode (mj_b 145) 26 = .ok (.ireturn, 1) := by decide +kernel
theorem x145_0 {x1 : Int32} : wp Ln xs 145 0 [.ref 1, .int x1] [] (u, ml_h m lm) Φ = wp Ln xs 98 0 [.ref 2, .int x1] [] (u, ml_h m lm) (mk Ln xs 145 5 [.ref 1, .int x1] [] Φ) := (wp_same xd145_0 (Or.inr rfl) rfl).trans ((wm_getr xd145_1 rfl (show ml_L[1]? = _ from rfl) rfl (Nat.le_of_ble_eq_true rfl)).trans ((wp_same xd145_4 (Or.inr rfl) rfl).trans (wm_cv (As := [.int x1]) (rest := []) xd145_5 rfl rfl (show ml_L[2]? = _ from rfl) (Nat.le_of_ble_eq_true rfl) (Nat.le_of_ble_eq_true rfl) (Nat.le_of_ble_eq_true rfl) (Nat.le_of_ble_eq_true rfl))))
theorem x145_8 {x1 : Int32} {xs0 : Int32} : wp Ln xs 145 8 [.ref 1, .int x1] [.int xs0] (u, ml_h m lm) Φ = if ¬ xs0 = (nI 0) then wp Ln xs 145 21 [.ref 1, .int x1] [] (u, ml_h m lm) Φ else wp Ln xs 145 11 [.ref 1, .int x1] [] (u, ml_h m lm) Φ := wx_if xd145_8 rfl rfl (¬ xs0 = (nI 0)) mb_ne
theorem x145_11 {x1 : Int32} : wp Ln xs 145 11 [.ref 1, .int x1] [] (u, ml_h m lm) Φ = Φ (.inr 2) ((u.1, u.2.1 + 1, u.2.2 + 6), ml_h m lm) := wp_thr xd145_11 (Or.inr rfl) rfl rfl (E := 2) (by decide +kernel)
theorem x145_21 {x1 : Int32} : wp Ln xs 145 21 [.ref 1, .int x1] [] (u, ml_h m lm) Φ = wp Ln xs 61 0 [.ref 1, .int x1, mj_hole, mj_hole, mj_hole, mj_hole, mj_hole, mj_hole] [] (u, ml_h m lm) (mk Ln xs 145 23 [.ref 1, .int x1] [] Φ) := (wp_same xd145_21 (Or.inr rfl) rfl).trans ((wp_same xd145_22 (Or.inr rfl) rfl).trans (wm_cv (As := [.int x1]) (rest := []) xd145_23 rfl rfl (show ml_L[1]? = _ from rfl) (Nat.le_of_ble_eq_true rfl) (Nat.le_of_ble_eq_true rfl) (Nat.le_of_ble_eq_true rfl) (Nat.le_of_ble_eq_true rfl)))
theorem x145_26 {x1 : Int32} {xs0 : Int32} : wp Ln xs 145 26 [.ref 1, .int x1] [.int xs0] (u, ml_h m lm) Φ = Φ (.inl (some (.int xs0))) (u, ml_h m lm) := wp_fin (v := some (.int xs0)) xd145_26 (Or.inr rfl) rfl (mj_fin_i rfl)
/- PickedFormsLaw.least -/
theorem xd146_0 : decode (mj_b 146) 0 = .ok (.aload_n 2, 1) := by decide +kernel
theorem xd146_1 : decode (mj_b 146) 1 = .ok (.iconst 0, 1) := by decide +kernel
theorem xd146_2 : decode (mj_b 146) 2 = .ok (.aload_n 0, 1) := by decide +kernel
theorem xd146_3 : decode (mj_b 146) 3 = .ok (.iload_n 1, 1) := by decide +kernel
theorem xd146_4 : decode (mj_b 146) 4 = .ok (.invokevirtual 82, 3) := by decide +kernel
theorem xd146_7 : decode (mj_b 146) 7 = .ok (.i2l, 1) := by decide +kernel
theorem xd146_8 : decode (mj_b 146) 8 = .ok (.lastore, 1) := by decide +kernel
theorem xd146_9 : decode (mj_b 146) 9 = .ok (.goto 6, 3) := by decide +kernel
theorem xd146_13 : decode (mj_b 146) 13 = .ok (.iconst 1, 1) := by decide +kernel
theorem xd146_14 : decode (mj_b 146) 14 = .ok (.ireturn, 1) := by decide +kernel
theorem xd146_15 : decode (mj_b 146) 15 = .ok (.iconst 0, 1) := by decide +kernel
theorem xd146_16 : decode (mj_b 146) 16 = .ok (.ireturn, 1) := by decide +kernel
theorem x146_0 {x1 : Int32} : wp Ln xs 146 0 [.ref 1, .int x1, .ref 81, mj_hole] [] (u, ml_h m lm) Φ = wp Ln xs 147 0 [.ref 1, .int x1] [] (u, ml_h m lm) (mk Ln xs 146 4 [.ref 1, .int x1, .ref 81, mj_hole] [.int (nI 0), .ref 81] Φ) := (wp_same xd146_0 (Or.inr rfl) rfl).trans ((wp_same (S' := [.int (nI 0), .ref 81]) xd146_1 (Or.inr rfl) rfl).trans ((wp_same xd146_2 (Or.inr rfl) rfl).trans ((wp_same xd146_3 (Or.inr rfl) rfl).trans (wm_cv (As := [.int x1]) (rest := [.int (nI 0), .ref 81]) xd146_4 rfl rfl (show ml_L[1]? = _ from rfl) (Nat.le_of_ble_eq_true rfl) (Nat.le_of_ble_eq_true rfl) (Nat.le_of_ble_eq_true rfl) (Nat.le_of_ble_eq_true rfl)))))
theorem x146_7 {x1 : Int32} {xs0 : Int32} {xs1 : Int32} : wp Ln xs 146 7 [.ref 1, .int x1, .ref 81, mj_hole] [.int xs0, .int xs1, .ref 81] (u, ml_h m lm) Φ = wp Ln xs 146 8 [.ref 1, .int x1, .ref 81, mj_hole] [.long xs0.toInt64, .int xs1, .ref 81] (u, ml_h m lm) Φ := wp_same xd146_7 (Or.inr rfl) rfl
theorem x146_8 {x1 : Int32} {ys0 : Int64} {k : Nat} (hk : k < 1) : wp Ln xs 146 8 [.ref 1, .int x1, .ref 81, mj_hole] [.long ys0, .int (nI k), .ref 81] (u, ml_h m lm) Φ = wp Ln xs 146 15 [.ref 1, .int x1, .ref 81, mj_hole] [] (u, ml_h m (ml_sj lm 81 k ys0)) Φ := (wm_last (k := k) xd146_8 rfl hk (by decide)).trans (wx_goto xd146_9 rfl)
theorem x146_13 {x1 : Int32} : wp Ln xs 146 13 [.ref 1, .int x1, .ref 81, mj_hole] [] (u, ml_h m lm) Φ = Φ (.inl (some (.int (nI 1)))) (u, ml_h m lm) := (wp_same (S' := [.int (nI 1)]) xd146_13 (Or.inr rfl) rfl).trans (wp_fin (v := some (.int (nI 1))) xd146_14 (Or.inr rfl) rfl (mj_fin_i rfl))
theorem x146_15 {x1 : Int32} : wp Ln xs 146 15 [.ref 1, .int x1, .ref 81, mj_hole] [] (u, ml_h m lm) Φ = Φ (.inl (some (.int (nI 0)))) (u, ml_h m lm) := (wp_same (S' := [.int (nI 0)]) xd146_15 (Or.inr rfl) rfl).trans (wp_fin (v := some (.int (nI 0))) xd146_16 (Or.inr rfl) rfl (mj_fin_i rfl))
/- PickedForms.least -/
theorem xd147_0 : decode (mj_b 147) 0 = .ok (.iload_n 1, 1) := by decide +kernel
theorem xd147_1 : decode (mj_b 147) 1 = .ok (.ifCond .lt 8, 3) := by decide +kernel
theorem xd147_4 : decode (mj_b 147) 4 = .ok (.iload_n 1, 1) := by decide +kernel
theorem xd147_5 : decode (mj_b 147) 5 = .ok (.iconst 2, 1) := by decide +kernel
theorem xd147_6 : decode (mj_b 147) 6 = .ok (.if_icmp .le 14, 3) := by decide +kernel
theorem xd147_9 : decode (mj_b 147) 9 = .ok (.new 80, 3) := by decide +kernel
theorem xd147_20 : decode (mj_b 147) 20 = .ok (.iload_n 1, 1) := by decide +kernel
theorem xd147_21 : decode (mj_b 147) 21 = .ok (.iconst 1, 1) := by decide +kernel
theorem xd147_22 : decode (mj_b 147) 22 = .ok (.if_icmp .ne 15, 3) := by decide +kernel
theorem xd147_25 : decode (mj_b 147) 25 = .ok (.aload_n 0, 1) := by decide +kernel
theorem xd147_26 : decode (mj_b 147) 26 = .ok (.getfield 61, 3) := by decide +kernel
theorem xd147_29 : decode (mj_b 147) 29 = .ok (.aload_n 0, 1) := by decide +kernel
theorem xd147_30 : decode (mj_b 147) 30 = .ok (.getfield 12, 3) := by decide +kernel
theorem xd147_33 : decode (mj_b 147) 33 = .ok (.invokevirtual 301, 3) := by decide +kernel
theorem xd147_36 : decode (mj_b 147) 36 = .ok (.ireturn, 1) := by decide +kernel
theorem xd147_37 : decode (mj_b 147) 37 = .ok (.aload_n 0, 1) := by decide +kernel
theorem xd147_38 : decode (mj_b 147) 38 = .ok (.getfield 61, 3) := by decide +kernel
theorem xd147_41 : decode (mj_b 147) 41 = .ok (.aload_n 0, 1) := by decide +kernel
theorem xd147_42 : decode (mj_b 147) 42 = .ok (.getfield 12, 3) := by decide +kernel
theorem xd147_45 : decode (mj_b 147) 45 = .ok (.invokevirtual 305, 3) := by decide +kernel
theorem xd147_48 : decode (mj_b 147) 48 = .ok (.iload_n 1, 1) := by decide +kernel
theorem xd147_49 : decode (mj_b 147) 49 = .ok (.ifCond .ne 17, 3) := by decide +kernel
theorem xd147_52 : decode (mj_b 147) 52 = .ok (.aload_n 0, 1) := by decide +kernel
theorem xd147_53 : decode (mj_b 147) 53 = .ok (.getfield 61, 3) := by decide +kernel
theorem xd147_56 : decode (mj_b 147) 56 = .ok (.aload_n 0, 1) := by decide +kernel
theorem xd147_57 : decode (mj_b 147) 57 = .ok (.getfield 12, 3) := by decide +kernel
theorem xd147_60 : decode (mj_b 147) 60 = .ok (.invokevirtual 308, 3) := by decide +kernel
theorem xd147_63 : decode (mj_b 147) 63 = .ok (.goto 14, 3) := by decide +kernel
theorem xd147_66 : decode (mj_b 147) 66 = .ok (.aload_n 0, 1) := by decide +kernel
theorem xd147_67 : decode (mj_b 147) 67 = .ok (.getfield 61, 3) := by decide +kernel
theorem xd147_70 : decode (mj_b 147) 70 = .ok (.aload_n 0, 1) := by decide +kernel
theorem xd147_71 : decode (mj_b 147) 71 = .ok (.getfield 12, 3) := by decide +kernel
theorem xd147_74 : decode (mj_b 147) 74 = .ok (.invokevirtual 311, 3) := by decide +kernel
theorem xd147_77 : decode (mj_b 147) 77 = .ok (.ireturn, 1) := by decide +kernel
theorem x147_0 {x1 : Int32} : wp Ln xs 147 0 [.ref 1, .int x1] [] (u, ml_h m lm) Φ = if x1 < (nI 0) then wp Ln xs 147 9 [.ref 1, .int x1] [] (u, ml_h m lm) Φ else wp Ln xs 147 4 [.ref 1, .int x1] [] (u, ml_h m lm) Φ := (wp_same xd147_0 (Or.inr rfl) rfl).trans (wx_if xd147_1 rfl rfl (x1 < (nI 0)) mb_lt)
theorem x147_4 {x1 : Int32} : wp Ln xs 147 4 [.ref 1, .int x1] [] (u, ml_h m lm) Φ = if x1 ≤ (nI 2) then wp Ln xs 147 20 [.ref 1, .int x1] [] (u, ml_h m lm) Φ else wp Ln xs 147 9 [.ref 1, .int x1] [] (u, ml_h m lm) Φ := (wp_same xd147_4 (Or.inr rfl) rfl).trans ((wp_same (S' := [.int (nI 2), .int x1]) xd147_5 (Or.inr rfl) rfl).trans (wx_icmp xd147_6 rfl rfl (x1 ≤ (nI 2)) mb_le))
theorem x147_9 {x1 : Int32} : wp Ln xs 147 9 [.ref 1, .int x1] [] (u, ml_h m lm) Φ = Φ (.inr 0) ((u.1, u.2.1 + 1, u.2.2 + 6), ml_h m lm) := wp_thr xd147_9 (Or.inr rfl) rfl rfl (E := 0) (by decide +kernel)
theorem x147_20 {x1 : Int32} : wp Ln xs 147 20 [.ref 1, .int x1] [] (u, ml_h m lm) Φ = if ¬ x1 = (nI 1) then wp Ln xs 147 37 [.ref 1, .int x1] [] (u, ml_h m lm) Φ else wp Ln xs 147 25 [.ref 1, .int x1] [] (u, ml_h m lm) Φ := (wp_same xd147_20 (Or.inr rfl) rfl).trans ((wp_same (S' := [.int (nI 1), .int x1]) xd147_21 (Or.inr rfl) rfl).trans (wx_icmp xd147_22 rfl rfl (¬ x1 = (nI 1)) mb_ne))
theorem x147_25 {x1 : Int32} : wp Ln xs 147 25 [.ref 1, .int x1] [] (u, ml_h m lm) Φ = wp Ln xs 78 0 [.ref 64, .ref 2, mj_hole, mj_hole, mj_hole, mj_hole] [] (u, ml_h m lm) (mk Ln xs 147 33 [.ref 1, .int x1] [] Φ) := (wp_same xd147_25 (Or.inr rfl) rfl).trans ((wm_getr xd147_26 rfl (show ml_L[1]? = _ from rfl) rfl (Nat.le_of_ble_eq_true rfl)).trans ((wp_same xd147_29 (Or.inr rfl) rfl).trans ((wm_getr xd147_30 rfl (show ml_L[1]? = _ from rfl) rfl (Nat.le_of_ble_eq_true rfl)).trans (wm_cv (As := [.ref 2]) (rest := []) xd147_33 rfl rfl (show ml_L[64]? = _ from rfl) (Nat.le_of_ble_eq_true rfl) (Nat.le_of_ble_eq_true rfl) (Nat.le_of_ble_eq_true rfl) (Nat.le_of_ble_eq_true rfl)))))
theorem x147_36 {x1 : Int32} {xs0 : Int32} : wp Ln xs 147 36 [.ref 1, .int x1] [.int xs0] (u, ml_h m lm) Φ = Φ (.inl (some (.int xs0))) (u, ml_h m lm) := wp_fin (v := some (.int xs0)) xd147_36 (Or.inr rfl) rfl (mj_fin_i rfl)
theorem x147_37 {x1 : Int32} : wp Ln xs 147 37 [.ref 1, .int x1] [] (u, ml_h m lm) Φ = wp Ln xs 72 0 [.ref 64, .ref 2, mj_hole, mj_hole, mj_hole, mj_hole] [] (u, ml_h m lm) (mk Ln xs 147 45 [.ref 1, .int x1] [] Φ) := (wp_same xd147_37 (Or.inr rfl) rfl).trans ((wm_getr xd147_38 rfl (show ml_L[1]? = _ from rfl) rfl (Nat.le_of_ble_eq_true rfl)).trans ((wp_same xd147_41 (Or.inr rfl) rfl).trans ((wm_getr xd147_42 rfl (show ml_L[1]? = _ from rfl) rfl (Nat.le_of_ble_eq_true rfl)).trans (wm_cv (As := [.ref 2]) (rest := []) xd147_45 rfl rfl (show ml_L[64]? = _ from rfl) (Nat.le_of_ble_eq_true rfl) (Nat.le_of_ble_eq_true rfl) (Nat.le_of_ble_eq_true rfl) (Nat.le_of_ble_eq_true rfl)))))
theorem x147_48 {x1 : Int32} : wp Ln xs 147 48 [.ref 1, .int x1] [] (u, ml_h m lm) Φ = if ¬ x1 = (nI 0) then wp Ln xs 147 66 [.ref 1, .int x1] [] (u, ml_h m lm) Φ else wp Ln xs 147 52 [.ref 1, .int x1] [] (u, ml_h m lm) Φ := (wp_same xd147_48 (Or.inr rfl) rfl).trans (wx_if xd147_49 rfl rfl (¬ x1 = (nI 0)) mb_ne)
theorem x147_52 {x1 : Int32} : wp Ln xs 147 52 [.ref 1, .int x1] [] (u, ml_h m lm) Φ = wp Ln xs 76 0 [.ref 64, .ref 2] [] (u, ml_h m lm) (mk Ln xs 147 60 [.ref 1, .int x1] [] Φ) := (wp_same xd147_52 (Or.inr rfl) rfl).trans ((wm_getr xd147_53 rfl (show ml_L[1]? = _ from rfl) rfl (Nat.le_of_ble_eq_true rfl)).trans ((wp_same xd147_56 (Or.inr rfl) rfl).trans ((wm_getr xd147_57 rfl (show ml_L[1]? = _ from rfl) rfl (Nat.le_of_ble_eq_true rfl)).trans (wm_cv (As := [.ref 2]) (rest := []) xd147_60 rfl rfl (show ml_L[64]? = _ from rfl) (Nat.le_of_ble_eq_true rfl) (Nat.le_of_ble_eq_true rfl) (Nat.le_of_ble_eq_true rfl) (Nat.le_of_ble_eq_true rfl)))))
theorem x147_63 {x1 : Int32} {xs0 : Int32} : wp Ln xs 147 63 [.ref 1, .int x1] [.int xs0] (u, ml_h m lm) Φ = Φ (.inl (some (.int xs0))) (u, ml_h m lm) := (wx_goto xd147_63 rfl).trans (wp_fin (v := some (.int xs0)) xd147_77 (Or.inr rfl) rfl (mj_fin_i rfl))
theorem x147_66 {x1 : Int32} : wp Ln xs 147 66 [.ref 1, .int x1] [] (u, ml_h m lm) Φ = wp Ln xs 77 0 [.ref 64, .ref 2] [] (u, ml_h m lm) (mk Ln xs 147 74 [.ref 1, .int x1] [] Φ) := (wp_same xd147_66 (Or.inr rfl) rfl).trans ((wm_getr xd147_67 rfl (show ml_L[1]? = _ from rfl) rfl (Nat.le_of_ble_eq_true rfl)).trans ((wp_same xd147_70 (Or.inr rfl) rfl).trans ((wm_getr xd147_71 rfl (show ml_L[1]? = _ from rfl) rfl (Nat.le_of_ble_eq_true rfl)).trans (wm_cv (As := [.ref 2]) (rest := []) xd147_74 rfl rfl (show ml_L[64]? = _ from rfl) (Nat.le_of_ble_eq_true rfl) (Nat.le_of_ble_eq_true rfl) (Nat.le_of_ble_eq_true rfl) (Nat.le_of_ble_eq_true rfl)))))
theorem x147_77 {x1 : Int32} {xs0 : Int32} : wp Ln xs 147 77 [.ref 1, .int x1] [.int xs0] (u, ml_h m lm) Φ = Φ (.inl (some (.int xs0))) (u, ml_h m lm) := wp_fin (v := some (.int xs0)) xd147_77 (Or.inr rfl) rfl (mj_fin_i rfl)
/- PickedFormsModel.thrown -/
theorem xd149_0 : decode (mj_b 149) 0 = .ok (.aload_n 0, 1) := by decide +kernel
theorem xd149_1 : decode (mj_b 149) 1 = .ok (.getfield 34, 3) := by decide +kernel
theorem xd149_4 : decode (mj_b 149) 4 = .ok (.ireturn, 1) := by decide +kernel
theorem x149_0 : wp Ln xs 149 0 [.ref 72] [] (u, ml_h m lm) Φ = Φ (.inl (some (.int (m 72 8)))) (u, ml_h m lm) := (wp_same xd149_0 (Or.inr rfl) rfl).trans ((wm_geti xd149_1 rfl (show ml_L[72]? = _ from rfl) rfl (Nat.le_of_ble_eq_true rfl)).trans (wp_fin (v := some (.int (m 72 8))) xd149_4 (Or.inr rfl) rfl (mj_fin_i rfl)))
/- PickedFormsModel.write -/
theorem xd150_0 : decode (mj_b 150) 0 = .ok (.aload_n 0, 1) := by decide +kernel
theorem xd150_1 : decode (mj_b 150) 1 = .ok (.iload_n 1, 1) := by decide +kernel
theorem xd150_2 : decode (mj_b 150) 2 = .ok (.invokestatic 106, 3) := by decide +kernel
theorem xd150_5 : decode (mj_b 150) 5 = .ok (.ifCond .ne 7, 3) := by decide +kernel
theorem xd150_8 : decode (mj_b 150) 8 = .ok (.iconst 1, 1) := by decide +kernel
theorem xd150_9 : decode (mj_b 150) 9 = .ok (.goto 15, 3) := by decide +kernel
theorem xd150_12 : decode (mj_b 150) 12 = .ok (.aload_n 0, 1) := by decide +kernel
theorem xd150_13 : decode (mj_b 150) 13 = .ok (.invokevirtual 110, 3) := by decide +kernel
theorem xd150_16 : decode (mj_b 150) 16 = .ok (.ifCond .eq 7, 3) := by decide +kernel
theorem xd150_19 : decode (mj_b 150) 19 = .ok (.iconst 0, 1) := by decide +kernel
theorem xd150_20 : decode (mj_b 150) 20 = .ok (.goto 4, 3) := by decide +kernel
theorem xd150_23 : decode (mj_b 150) 23 = .ok (.iconst 2, 1) := by decide +kernel
theorem xd150_24 : decode (mj_b 150) 24 = .ok (.invokevirtual 114, 3) := by decide +kernel
theorem xd150_27 : decode (mj_b 150) 27 = .ok (.ifCond .ne 5, 3) := by decide +kernel
theorem xd150_30 : decode (mj_b 150) 30 = .ok (.iconst 0, 1) := by decide +kernel
theorem xd150_31 : decode (mj_b 150) 31 = .ok (.ireturn, 1) := by decide +kernel
theorem xd150_32 : decode (mj_b 150) 32 = .ok (.aload_n 0, 1) := by decide +kernel
theorem xd150_33 : decode (mj_b 150) 33 = .ok (.invokevirtual 117, 3) := by decide +kernel
theorem xd150_36 : decode (mj_b 150) 36 = .ok (.aload_n 0, 1) := by decide +kernel
theorem xd150_37 : decode (mj_b 150) 37 = .ok (.iload_n 1, 1) := by decide +kernel
theorem xd150_38 : decode (mj_b 150) 38 = .ok (.invokevirtual 120, 3) := by decide +kernel
theorem xd150_41 : decode (mj_b 150) 41 = .ok (.aload_n 0, 1) := by decide +kernel
theorem xd150_42 : decode (mj_b 150) 42 = .ok (.invokevirtual 96, 3) := by decide +kernel
theorem xd150_45 : decode (mj_b 150) 45 = .ok (.ireturn, 1) := by decide +kernel
theorem x150_0 {x1 : Int32} : wp Ln xs 150 0 [.ref 72, .int x1] [] (u, ml_h m lm) Φ = wp Ln xs 151 0 [.int x1] [] (u, ml_h m lm) (mk Ln xs 150 2 [.ref 72, .int x1] [.ref 72] Φ) := (wp_same xd150_0 (Or.inr rfl) rfl).trans ((wp_same xd150_1 (Or.inr rfl) rfl).trans (wm_cs (As := [.int x1]) (rest := [.ref 72]) xd150_2 rfl rfl (Nat.le_of_ble_eq_true rfl) (Nat.le_of_ble_eq_true rfl) (Nat.le_of_ble_eq_true rfl) (Nat.le_of_ble_eq_true rfl)))
theorem x150_5 {x1 : Int32} {xs0 : Int32} : wp Ln xs 150 5 [.ref 72, .int x1] [.int xs0, .ref 72] (u, ml_h m lm) Φ = if ¬ xs0 = (nI 0) then wp Ln xs 150 12 [.ref 72, .int x1] [.ref 72] (u, ml_h m lm) Φ else wp Ln xs 150 8 [.ref 72, .int x1] [.ref 72] (u, ml_h m lm) Φ := wx_if xd150_5 rfl rfl (¬ xs0 = (nI 0)) mb_ne
theorem x150_8 {x1 : Int32} : wp Ln xs 150 8 [.ref 72, .int x1] [.ref 72] (u, ml_h m lm) Φ = wp Ln xs 150 24 [.ref 72, .int x1] [.int (nI 1), .ref 72] (u, ml_h m lm) Φ := (wp_same (S' := [.int (nI 1), .ref 72]) xd150_8 (Or.inr rfl) rfl).trans (wx_goto xd150_9 rfl)
theorem x150_12 {x1 : Int32} : wp Ln xs 150 12 [.ref 72, .int x1] [.ref 72] (u, ml_h m lm) Φ = wp Ln xs 153 0 [.ref 72] [] (u, ml_h m lm) (mk Ln xs 150 13 [.ref 72, .int x1] [.ref 72] Φ) := (wp_same xd150_12 (Or.inr rfl) rfl).trans (wm_cv (As := []) (rest := [.ref 72]) xd150_13 rfl rfl (show ml_L[72]? = _ from rfl) (Nat.le_of_ble_eq_true rfl) (Nat.le_of_ble_eq_true rfl) (Nat.le_of_ble_eq_true rfl) (Nat.le_of_ble_eq_true rfl))
theorem x150_16 {x1 : Int32} {xs0 : Int32} : wp Ln xs 150 16 [.ref 72, .int x1] [.int xs0, .ref 72] (u, ml_h m lm) Φ = if xs0 = (nI 0) then wp Ln xs 150 23 [.ref 72, .int x1] [.ref 72] (u, ml_h m lm) Φ else wp Ln xs 150 19 [.ref 72, .int x1] [.ref 72] (u, ml_h m lm) Φ := wx_if xd150_16 rfl rfl (xs0 = (nI 0)) mb_eq
theorem x150_19 {x1 : Int32} : wp Ln xs 150 19 [.ref 72, .int x1] [.ref 72] (u, ml_h m lm) Φ = wp Ln xs 150 24 [.ref 72, .int x1] [.int (nI 0), .ref 72] (u, ml_h m lm) Φ := (wp_same (S' := [.int (nI 0), .ref 72]) xd150_19 (Or.inr rfl) rfl).trans (wx_goto xd150_20 rfl)
theorem x150_23 {x1 : Int32} : wp Ln xs 150 23 [.ref 72, .int x1] [.ref 72] (u, ml_h m lm) Φ = wp Ln xs 150 24 [.ref 72, .int x1] [.int (nI 2), .ref 72] (u, ml_h m lm) Φ := wp_same (S' := [.int (nI 2), .ref 72]) xd150_23 (Or.inr rfl) rfl
theorem x150_24 {x1 : Int32} {xs0 : Int32} : wp Ln xs 150 24 [.ref 72, .int x1] [.int xs0, .ref 72] (u, ml_h m lm) Φ = wp Ln xs 154 0 [.ref 72, .int xs0] [] (u, ml_h m lm) (mk Ln xs 150 24 [.ref 72, .int x1] [] Φ) := wm_cv (As := [.int xs0]) (rest := []) xd150_24 rfl rfl (show ml_L[72]? = _ from rfl) (Nat.le_of_ble_eq_true rfl) (Nat.le_of_ble_eq_true rfl) (Nat.le_of_ble_eq_true rfl) (Nat.le_of_ble_eq_true rfl)
theorem x150_27 {x1 : Int32} {xs0 : Int32} : wp Ln xs 150 27 [.ref 72, .int x1] [.int xs0] (u, ml_h m lm) Φ = if ¬ xs0 = (nI 0) then wp Ln xs 150 32 [.ref 72, .int x1] [] (u, ml_h m lm) Φ else wp Ln xs 150 30 [.ref 72, .int x1] [] (u, ml_h m lm) Φ := wx_if xd150_27 rfl rfl (¬ xs0 = (nI 0)) mb_ne
theorem x150_30 {x1 : Int32} : wp Ln xs 150 30 [.ref 72, .int x1] [] (u, ml_h m lm) Φ = Φ (.inl (some (.int (nI 0)))) (u, ml_h m lm) := (wp_same (S' := [.int (nI 0)]) xd150_30 (Or.inr rfl) rfl).trans (wp_fin (v := some (.int (nI 0))) xd150_31 (Or.inr rfl) rfl (mj_fin_i rfl))
theorem x150_32 {x1 : Int32} : wp Ln xs 150 32 [.ref 72, .int x1] [] (u, ml_h m lm) Φ = wp Ln xs 155 0 [.ref 72, mj_hole] [] (u, ml_h m lm) (mk Ln xs 150 33 [.ref 72, .int x1] [] Φ) := (wp_same xd150_32 (Or.inr rfl) rfl).trans (wm_cv (As := []) (rest := []) xd150_33 rfl rfl (show ml_L[72]? = _ from rfl) (Nat.le_of_ble_eq_true rfl) (Nat.le_of_ble_eq_true rfl) (Nat.le_of_ble_eq_true rfl) (Nat.le_of_ble_eq_true rfl))
theorem x150_36 {x1 : Int32} : wp Ln xs 150 36 [.ref 72, .int x1] [] (u, ml_h m lm) Φ = wp Ln xs 157 0 [.ref 72, .int x1] [] (u, ml_h m lm) (mk Ln xs 150 38 [.ref 72, .int x1] [] Φ) := (wp_same xd150_36 (Or.inr rfl) rfl).trans ((wp_same xd150_37 (Or.inr rfl) rfl).trans (wm_cv (As := [.int x1]) (rest := []) xd150_38 rfl rfl (show ml_L[72]? = _ from rfl) (Nat.le_of_ble_eq_true rfl) (Nat.le_of_ble_eq_true rfl) (Nat.le_of_ble_eq_true rfl) (Nat.le_of_ble_eq_true rfl)))
theorem x150_41 {x1 : Int32} : wp Ln xs 150 41 [.ref 72, .int x1] [] (u, ml_h m lm) Φ = wp Ln xs 158 0 [.ref 72] [] (u, ml_h m lm) (mk Ln xs 150 42 [.ref 72, .int x1] [] Φ) := (wp_same xd150_41 (Or.inr rfl) rfl).trans (wm_cv (As := []) (rest := []) xd150_42 rfl rfl (show ml_L[72]? = _ from rfl) (Nat.le_of_ble_eq_true rfl) (Nat.le_of_ble_eq_true rfl) (Nat.le_of_ble_eq_true rfl) (Nat.le_of_ble_eq_true rfl))
theorem x150_45 {x1 : Int32} {xs0 : Int32} : wp Ln xs 150 45 [.ref 72, .int x1] [.int xs0] (u, ml_h m lm) Φ = Φ (.inl (some (.int xs0))) (u, ml_h m lm) := wp_fin (v := some (.int xs0)) xd150_45 (Or.inr rfl) rfl (mj_fin_i rfl)
/- PickedFormsModel.isValue -/
theorem xd151_0 : decode (mj_b 151) 0 = .ok (.iload_n 0, 1) := by decide +kernel
theorem xd151_1 : decode (mj_b 151) 1 = .ok (.iconst 0, 1) := by decide +kernel
theorem xd151_2 : decode (mj_b 151) 2 = .ok (.sipush 999, 3) := by decide +kernel
theorem xd151_5 : decode (mj_b 151) 5 = .ok (.invokestatic 38, 3) := by decide +kernel
theorem xd151_8 : decode (mj_b 151) 8 = .ok (.ireturn, 1) := by decide +kernel
theorem x151_0 {x0 : Int32} : wp Ln xs 151 0 [.int x0] [] (u, ml_h m lm) Φ = wp Ln xs 152 0 [.int x0, .int (nI 0), .int (nI 999)] [] (u, ml_h m lm) (mk Ln xs 151 5 [.int x0] [] Φ) := (wp_same xd151_0 (Or.inr rfl) rfl).trans ((wp_same (S' := [.int (nI 0), .int x0]) xd151_1 (Or.inr rfl) rfl).trans ((wp_same (S' := [.int (nI 999), .int (nI 0), .int x0]) xd151_2 (Or.inr rfl) rfl).trans (wm_cs (As := [.int x0, .int (nI 0), .int (nI 999)]) (rest := []) xd151_5 rfl rfl (Nat.le_of_ble_eq_true rfl) (Nat.le_of_ble_eq_true rfl) (Nat.le_of_ble_eq_true rfl) (Nat.le_of_ble_eq_true rfl))))
theorem x151_8 {x0 : Int32} {xs0 : Int32} (hz : mj_fin 151 [.int xs0] .ireturn = some (some (.int xs0))) : wp Ln xs 151 8 [.int x0] [.int xs0] (u, ml_h m lm) Φ = Φ (.inl (some (.int xs0))) (u, ml_h m lm) := wp_fin xd151_8 (Or.inr rfl) rfl hz
/- PickedFormsModel.in -/
theorem xd152_0 : decode (mj_b 152) 0 = .ok (.iload_n 0, 1) := by decide +kernel
theorem xd152_1 : decode (mj_b 152) 1 = .ok (.iload_n 1, 1) := by decide +kernel
theorem xd152_2 : decode (mj_b 152) 2 = .ok (.if_icmp .lt 12, 3) := by decide +kernel
theorem xd152_5 : decode (mj_b 152) 5 = .ok (.iload_n 0, 1) := by decide +kernel
theorem xd152_6 : decode (mj_b 152) 6 = .ok (.iload_n 2, 1) := by decide +kernel
theorem xd152_7 : decode (mj_b 152) 7 = .ok (.if_icmp .gt 7, 3) := by decide +kernel
theorem xd152_10 : decode (mj_b 152) 10 = .ok (.iconst 1, 1) := by decide +kernel
theorem xd152_11 : decode (mj_b 152) 11 = .ok (.goto 4, 3) := by decide +kernel
theorem xd152_14 : decode (mj_b 152) 14 = .ok (.iconst 0, 1) := by decide +kernel
theorem xd152_15 : decode (mj_b 152) 15 = .ok (.ireturn, 1) := by decide +kernel
theorem x152_0 {x0 : Int32} {x1 : Int32} {x2 : Int32} : wp Ln xs 152 0 [.int x0, .int x1, .int x2] [] (u, ml_h m lm) Φ = if x0 < x1 then wp Ln xs 152 14 [.int x0, .int x1, .int x2] [] (u, ml_h m lm) Φ else wp Ln xs 152 5 [.int x0, .int x1, .int x2] [] (u, ml_h m lm) Φ := (wp_same xd152_0 (Or.inr rfl) rfl).trans ((wp_same xd152_1 (Or.inr rfl) rfl).trans (wx_icmp xd152_2 rfl rfl (x0 < x1) mb_lt))
theorem x152_5 {x0 : Int32} {x1 : Int32} {x2 : Int32} : wp Ln xs 152 5 [.int x0, .int x1, .int x2] [] (u, ml_h m lm) Φ = if x2 < x0 then wp Ln xs 152 14 [.int x0, .int x1, .int x2] [] (u, ml_h m lm) Φ else wp Ln xs 152 10 [.int x0, .int x1, .int x2] [] (u, ml_h m lm) Φ := (wp_same xd152_5 (Or.inr rfl) rfl).trans ((wp_same xd152_6 (Or.inr rfl) rfl).trans (wx_icmp xd152_7 rfl rfl (x2 < x0) mb_gt))
theorem x152_10 {x0 : Int32} {x1 : Int32} {x2 : Int32} : wp Ln xs 152 10 [.int x0, .int x1, .int x2] [] (u, ml_h m lm) Φ = Φ (.inl (some (.int (nI 1)))) (u, ml_h m lm) := (wp_same (S' := [.int (nI 1)]) xd152_10 (Or.inr rfl) rfl).trans ((wx_goto xd152_11 rfl).trans (wp_fin (v := some (.int (nI 1))) xd152_15 (Or.inr rfl) rfl rfl))
theorem x152_14 {x0 : Int32} {x1 : Int32} {x2 : Int32} : wp Ln xs 152 14 [.int x0, .int x1, .int x2] [] (u, ml_h m lm) Φ = Φ (.inl (some (.int (nI 0)))) (u, ml_h m lm) := (wp_same (S' := [.int (nI 0)]) xd152_14 (Or.inr rfl) rfl).trans (wp_fin (v := some (.int (nI 0))) xd152_15 (Or.inr rfl) rfl rfl)
/- PickedFormsModel.canWrite -/
theorem xd153_0 : decode (mj_b 153) 0 = .ok (.aload_n 0, 1) := by decide +kernel
theorem xd153_1 : decode (mj_b 153) 1 = .ok (.getfield 7, 3) := by decide +kernel
theorem xd153_4 : decode (mj_b 153) 4 = .ok (.iconst 1, 1) := by decide +kernel
theorem xd153_5 : decode (mj_b 153) 5 = .ok (.iaload, 1) := by decide +kernel
theorem xd153_6 : decode (mj_b 153) 6 = .ok (.iconst 1, 1) := by decide +kernel
theorem xd153_7 : decode (mj_b 153) 7 = .ok (.iadd, 1) := by decide +kernel
theorem xd153_8 : decode (mj_b 153) 8 = .ok (.aload_n 0, 1) := by decide +kernel
theorem xd153_9 : decode (mj_b 153) 9 = .ok (.getfield 7, 3) := by decide +kernel
theorem xd153_12 : decode (mj_b 153) 12 = .ok (.iconst 3, 1) := by decide +kernel
theorem xd153_13 : decode (mj_b 153) 13 = .ok (.iaload, 1) := by decide +kernel
theorem xd153_14 : decode (mj_b 153) 14 = .ok (.if_icmp .lt 14, 3) := by decide +kernel
theorem xd153_17 : decode (mj_b 153) 17 = .ok (.aload_n 0, 1) := by decide +kernel
theorem xd153_18 : decode (mj_b 153) 18 = .ok (.getfield 7, 3) := by decide +kernel
theorem xd153_21 : decode (mj_b 153) 21 = .ok (.iconst 0, 1) := by decide +kernel
theorem xd153_22 : decode (mj_b 153) 22 = .ok (.iaload, 1) := by decide +kernel
theorem xd153_23 : decode (mj_b 153) 23 = .ok (.bipush 12, 2) := by decide +kernel
theorem xd153_25 : decode (mj_b 153) 25 = .ok (.if_icmp .ge 7, 3) := by decide +kernel
theorem xd153_28 : decode (mj_b 153) 28 = .ok (.iconst 1, 1) := by decide +kernel
theorem xd153_29 : decode (mj_b 153) 29 = .ok (.goto 4, 3) := by decide +kernel
theorem xd153_32 : decode (mj_b 153) 32 = .ok (.iconst 0, 1) := by decide +kernel
theorem xd153_33 : decode (mj_b 153) 33 = .ok (.ireturn, 1) := by decide +kernel
theorem x153_0 : wp Ln xs 153 0 [.ref 72] [] (u, ml_h m lm) Φ = if ((m 73 1) + (nI 1)) < (m 73 3) then wp Ln xs 153 28 [.ref 72] [] (u, ml_h m lm) Φ else wp Ln xs 153 17 [.ref 72] [] (u, ml_h m lm) Φ := (wp_same xd153_0 (Or.inr rfl) rfl).trans ((wm_getr xd153_1 rfl (show ml_L[72]? = _ from rfl) rfl (Nat.le_of_ble_eq_true rfl)).trans ((wp_same (S' := [.int (nI 1), .ref 73]) xd153_4 (Or.inr rfl) rfl).trans ((wm_iald (k := 1) xd153_5 ml_ia_73 (by decide) (Nat.le_of_ble_eq_true rfl)).trans ((wp_same (S' := [.int (nI 1), .int (m 73 1)]) xd153_6 (Or.inr rfl) rfl).trans ((wp_same xd153_7 (Or.inr rfl) rfl).trans ((wp_same xd153_8 (Or.inr rfl) rfl).trans ((wm_getr xd153_9 rfl (show ml_L[72]? = _ from rfl) rfl (Nat.le_of_ble_eq_true rfl)).trans ((wp_same (S' := [.int (nI 3), .ref 73, .int ((m 73 1) + (nI 1))]) xd153_12 (Or.inr rfl) rfl).trans ((wm_iald (k := 3) xd153_13 ml_ia_73 (by decide) (Nat.le_of_ble_eq_true rfl)).trans (wx_icmp xd153_14 rfl rfl (((m 73 1) + (nI 1)) < (m 73 3)) mb_lt))))))))))
theorem x153_17 : wp Ln xs 153 17 [.ref 72] [] (u, ml_h m lm) Φ = if (nI 12) ≤ (m 73 0) then wp Ln xs 153 32 [.ref 72] [] (u, ml_h m lm) Φ else wp Ln xs 153 28 [.ref 72] [] (u, ml_h m lm) Φ := (wp_same xd153_17 (Or.inr rfl) rfl).trans ((wm_getr xd153_18 rfl (show ml_L[72]? = _ from rfl) rfl (Nat.le_of_ble_eq_true rfl)).trans ((wp_same (S' := [.int (nI 0), .ref 73]) xd153_21 (Or.inr rfl) rfl).trans ((wm_iald (k := 0) xd153_22 ml_ia_73 (by decide) (Nat.le_of_ble_eq_true rfl)).trans ((wp_same (S' := [.int (nI 12), .int (m 73 0)]) xd153_23 (Or.inr rfl) rfl).trans (wx_icmp xd153_25 rfl rfl ((nI 12) ≤ (m 73 0)) mb_ge)))))
theorem x153_28 : wp Ln xs 153 28 [.ref 72] [] (u, ml_h m lm) Φ = Φ (.inl (some (.int (nI 1)))) (u, ml_h m lm) := (wp_same (S' := [.int (nI 1)]) xd153_28 (Or.inr rfl) rfl).trans ((wx_goto xd153_29 rfl).trans (wp_fin (v := some (.int (nI 1))) xd153_33 (Or.inr rfl) rfl rfl))
theorem x153_32 : wp Ln xs 153 32 [.ref 72] [] (u, ml_h m lm) Φ = Φ (.inl (some (.int (nI 0)))) (u, ml_h m lm) := (wp_same (S' := [.int (nI 0)]) xd153_32 (Or.inr rfl) rfl).trans (wp_fin (v := some (.int (nI 0))) xd153_33 (Or.inr rfl) rfl rfl)
/- PickedFormsModel.holds -/
theorem xd154_0 : decode (mj_b 154) 0 = .ok (.aload_n 0, 1) := by decide +kernel
theorem xd154_1 : decode (mj_b 154) 1 = .ok (.iload_n 1, 1) := by decide +kernel
theorem xd154_2 : decode (mj_b 154) 2 = .ok (.putfield 34, 3) := by decide +kernel
theorem xd154_5 : decode (mj_b 154) 5 = .ok (.iload_n 1, 1) := by decide +kernel
theorem xd154_6 : decode (mj_b 154) 6 = .ok (.ifCond .ne 7, 3) := by decide +kernel
theorem xd154_9 : decode (mj_b 154) 9 = .ok (.iconst 1, 1) := by decide +kernel
theorem xd154_10 : decode (mj_b 154) 10 = .ok (.goto 4, 3) := by decide +kernel
theorem xd154_13 : decode (mj_b 154) 13 = .ok (.iconst 0, 1) := by decide +kernel
theorem xd154_14 : decode (mj_b 154) 14 = .ok (.ireturn, 1) := by decide +kernel
theorem x154_0 {x1 : Int32} : wp Ln xs 154 0 [.ref 72, .int x1] [] (u, ml_h m lm) Φ = if ¬ x1 = (nI 0) then wp Ln xs 154 13 [.ref 72, .int x1] [] (u, ml_h (ml_s m 72 8 x1) lm) Φ else wp Ln xs 154 9 [.ref 72, .int x1] [] (u, ml_h (ml_s m 72 8 x1) lm) Φ := (wp_same xd154_0 (Or.inr rfl) rfl).trans ((wp_same xd154_1 (Or.inr rfl) rfl).trans ((wm_puti xd154_2 rfl (show ml_L[72]? = _ from rfl) rfl (Nat.le_of_ble_eq_true rfl) rfl rfl rfl).trans ((wp_same xd154_5 (Or.inr rfl) rfl).trans (wx_if xd154_6 rfl rfl (¬ x1 = (nI 0)) mb_ne))))
theorem x154_9 {x1 : Int32} : wp Ln xs 154 9 [.ref 72, .int x1] [] (u, ml_h m lm) Φ = Φ (.inl (some (.int (nI 1)))) (u, ml_h m lm) := (wp_same (S' := [.int (nI 1)]) xd154_9 (Or.inr rfl) rfl).trans ((wx_goto xd154_10 rfl).trans (wp_fin (v := some (.int (nI 1))) xd154_14 (Or.inr rfl) rfl rfl))
theorem x154_13 {x1 : Int32} : wp Ln xs 154 13 [.ref 72, .int x1] [] (u, ml_h m lm) Φ = Φ (.inl (some (.int (nI 0)))) (u, ml_h m lm) := (wp_same (S' := [.int (nI 0)]) xd154_13 (Or.inr rfl) rfl).trans (wp_fin (v := some (.int (nI 0))) xd154_14 (Or.inr rfl) rfl rfl)
/- PickedFormsModel.save -/
theorem xd155_0 : decode (mj_b 155) 0 = .ok (.aload_n 0, 1) := by decide +kernel
theorem xd155_1 : decode (mj_b 155) 1 = .ok (.getfield 42, 3) := by decide +kernel
theorem xd155_4 : decode (mj_b 155) 4 = .ok (.bipush 6, 2) := by decide +kernel
theorem xd155_6 : decode (mj_b 155) 6 = .ok (.if_icmp .ne 44, 3) := by decide +kernel
theorem xd155_9 : decode (mj_b 155) 9 = .ok (.iconst 0, 1) := by decide +kernel
theorem xd155_10 : decode (mj_b 155) 10 = .ok (.istore_n 1, 1) := by decide +kernel
theorem xd155_11 : decode (mj_b 155) 11 = .ok (.iload_n 1, 1) := by decide +kernel
theorem xd155_12 : decode (mj_b 155) 12 = .ok (.sipush 1255, 3) := by decide +kernel
theorem xd155_15 : decode (mj_b 155) 15 = .ok (.if_icmp .ge 25, 3) := by decide +kernel
theorem xd155_18 : decode (mj_b 155) 18 = .ok (.aload_n 0, 1) := by decide +kernel
theorem xd155_19 : decode (mj_b 155) 19 = .ok (.getfield 13, 3) := by decide +kernel
theorem xd155_22 : decode (mj_b 155) 22 = .ok (.iload_n 1, 1) := by decide +kernel
theorem xd155_23 : decode (mj_b 155) 23 = .ok (.aload_n 0, 1) := by decide +kernel
theorem xd155_24 : decode (mj_b 155) 24 = .ok (.getfield 13, 3) := by decide +kernel
theorem xd155_27 : decode (mj_b 155) 27 = .ok (.sipush 251, 3) := by decide +kernel
theorem xd155_30 : decode (mj_b 155) 30 = .ok (.iload_n 1, 1) := by decide +kernel
theorem xd155_31 : decode (mj_b 155) 31 = .ok (.iadd, 1) := by decide +kernel
theorem xd155_32 : decode (mj_b 155) 32 = .ok (.iaload, 1) := by decide +kernel
theorem xd155_33 : decode (mj_b 155) 33 = .ok (.iastore, 1) := by decide +kernel
theorem xd155_34 : decode (mj_b 155) 34 = .ok (.iinc 1 1, 3) := by decide +kernel
theorem xd155_37 : decode (mj_b 155) 37 = .ok (.goto (-26), 3) := by decide +kernel
theorem xd155_40 : decode (mj_b 155) 40 = .ok (.aload_n 0, 1) := by decide +kernel
theorem xd155_41 : decode (mj_b 155) 41 = .ok (.dup, 1) := by decide +kernel
theorem xd155_42 : decode (mj_b 155) 42 = .ok (.getfield 42, 3) := by decide +kernel
theorem xd155_45 : decode (mj_b 155) 45 = .ok (.iconst 1, 1) := by decide +kernel
theorem xd155_46 : decode (mj_b 155) 46 = .ok (.isub, 1) := by decide +kernel
theorem xd155_47 : decode (mj_b 155) 47 = .ok (.putfield 42, 3) := by decide +kernel
theorem xd155_50 : decode (mj_b 155) 50 = .ok (.aload_n 0, 1) := by decide +kernel
theorem xd155_51 : decode (mj_b 155) 51 = .ok (.getfield 7, 3) := by decide +kernel
theorem xd155_54 : decode (mj_b 155) 54 = .ok (.iconst 0, 1) := by decide +kernel
theorem xd155_55 : decode (mj_b 155) 55 = .ok (.aload_n 0, 1) := by decide +kernel
theorem xd155_56 : decode (mj_b 155) 56 = .ok (.getfield 13, 3) := by decide +kernel
theorem xd155_59 : decode (mj_b 155) 59 = .ok (.sipush 251, 3) := by decide +kernel
theorem xd155_62 : decode (mj_b 155) 62 = .ok (.aload_n 0, 1) := by decide +kernel
theorem xd155_63 : decode (mj_b 155) 63 = .ok (.getfield 42, 3) := by decide +kernel
theorem xd155_66 : decode (mj_b 155) 66 = .ok (.imul, 1) := by decide +kernel
theorem xd155_67 : decode (mj_b 155) 67 = .ok (.invokestatic 45, 3) := by decide +kernel
theorem xd155_70 : decode (mj_b 155) 70 = .ok (.aload_n 0, 1) := by decide +kernel
theorem xd155_71 : decode (mj_b 155) 71 = .ok (.dup, 1) := by decide +kernel
theorem xd155_72 : decode (mj_b 155) 72 = .ok (.getfield 42, 3) := by decide +kernel
theorem xd155_75 : decode (mj_b 155) 75 = .ok (.iconst 1, 1) := by decide +kernel
theorem xd155_76 : decode (mj_b 155) 76 = .ok (.iadd, 1) := by decide +kernel
theorem xd155_77 : decode (mj_b 155) 77 = .ok (.putfield 42, 3) := by decide +kernel
theorem xd155_80 : decode (mj_b 155) 80 = .ok (.return_, 1) := by decide +kernel
theorem x155_0 : wp Ln xs 155 0 [.ref 72, mj_hole] [] (u, ml_h m lm) Φ = if ¬ (m 72 2) = (nI 6) then wp Ln xs 155 50 [.ref 72, mj_hole] [] (u, ml_h m lm) Φ else wp Ln xs 155 9 [.ref 72, mj_hole] [] (u, ml_h m lm) Φ := (wp_same xd155_0 (Or.inr rfl) rfl).trans ((wm_geti xd155_1 rfl (show ml_L[72]? = _ from rfl) rfl (Nat.le_of_ble_eq_true rfl)).trans ((wp_same (S' := [.int (nI 6), .int (m 72 2)]) xd155_4 (Or.inr rfl) rfl).trans (wx_icmp xd155_6 rfl rfl (¬ (m 72 2) = (nI 6)) mb_ne)))
theorem x155_9 : wp Ln xs 155 9 [.ref 72, mj_hole] [] (u, ml_h m lm) Φ = wp Ln xs 155 11 [.ref 72, .int (nI 0)] [] (u, ml_h m lm) Φ := (wp_same (S' := [.int (nI 0)]) xd155_9 (Or.inr rfl) rfl).trans (wp_same (L' := [.ref 72, .int (nI 0)]) xd155_10 (Or.inr rfl) rfl)
theorem x155_11 {x1 : Int32} : wp Ln xs 155 11 [.ref 72, .int x1] [] (u, ml_h m lm) Φ = if (nI 1255) ≤ x1 then wp Ln xs 155 40 [.ref 72, .int x1] [] (u, ml_h m lm) Φ else wp Ln xs 155 18 [.ref 72, .int x1] [] (u, ml_h m lm) Φ := (wp_same xd155_11 (Or.inr rfl) rfl).trans ((wp_same (S' := [.int (nI 1255), .int x1]) xd155_12 (Or.inr rfl) rfl).trans (wx_icmp xd155_15 rfl rfl ((nI 1255) ≤ x1) mb_ge))
theorem x155_18 {x1 : Int32} : wp Ln xs 155 18 [.ref 72, .int x1] [] (u, ml_h m lm) Φ = wp Ln xs 155 32 [.ref 72, .int x1] [.int ((nI 251) + x1), .ref 74, .int x1, .ref 74] (u, ml_h m lm) Φ := (wp_same xd155_18 (Or.inr rfl) rfl).trans ((wm_getr xd155_19 rfl (show ml_L[72]? = _ from rfl) rfl (Nat.le_of_ble_eq_true rfl)).trans ((wp_same xd155_22 (Or.inr rfl) rfl).trans ((wp_same xd155_23 (Or.inr rfl) rfl).trans ((wm_getr xd155_24 rfl (show ml_L[72]? = _ from rfl) rfl (Nat.le_of_ble_eq_true rfl)).trans ((wp_same (S' := [.int (nI 251), .ref 74, .int x1, .ref 74]) xd155_27 (Or.inr rfl) rfl).trans ((wp_same xd155_30 (Or.inr rfl) rfl).trans (wp_same xd155_31 (Or.inr rfl) rfl)))))))
theorem x155_32 {x1 : Int32} {k : Nat} {xs2 : Int32} (hk : k < 1506) : wp Ln xs 155 32 [.ref 72, .int x1] [.int (nI k), .ref 74, .int xs2, .ref 74] (u, ml_h m lm) Φ = wp Ln xs 155 33 [.ref 72, .int x1] [.int (m 74 k), .int xs2, .ref 74] (u, ml_h m lm) Φ := wm_iald (k := k) xd155_32 ml_ia_74 (by decide) hk
theorem x155_33 {x1 : Int32} {xs0 : Int32} {k : Nat} (hk : k < 1506) : wp Ln xs 155 33 [.ref 72, .int x1] [.int xs0, .int (nI k), .ref 74] (u, ml_h m lm) Φ = wp Ln xs 155 11 [.ref 72, .int (x1 + nI 1)] [] (u, ml_h (ml_s m 74 k xs0) lm) Φ := (wm_iast (k := k) xd155_33 ml_ia_74 hk).trans ((wp_same (L' := [.ref 72, .int (x1 + nI 1)]) xd155_34 (Or.inr rfl) rfl).trans (wx_goto xd155_37 rfl))
theorem x155_40 {x1 : Int32} : wp Ln xs 155 40 [.ref 72, .int x1] [] (u, ml_h m lm) Φ = wp Ln xs 155 50 [.ref 72, .int x1] [] (u, ml_h (ml_s m 72 2 ((m 72 2) - (nI 1))) lm) Φ := (wp_same xd155_40 (Or.inr rfl) rfl).trans ((wp_same xd155_41 (Or.inr rfl) rfl).trans ((wm_geti xd155_42 rfl (show ml_L[72]? = _ from rfl) rfl (Nat.le_of_ble_eq_true rfl)).trans ((wp_same (S' := [.int (nI 1), .int (m 72 2), .ref 72]) xd155_45 (Or.inr rfl) rfl).trans ((wp_same xd155_46 (Or.inr rfl) rfl).trans (wm_puti xd155_47 rfl (show ml_L[72]? = _ from rfl) rfl (Nat.le_of_ble_eq_true rfl) rfl rfl rfl)))))
theorem x155_50 {v1 : Value} : wp Ln xs 155 50 [.ref 72, v1] [] (u, ml_h m lm) Φ = wp Ln xs 156 0 [.ref 73, .int (nI 0), .ref 74, .int ((nI 251) * (m 72 2)), mj_hole] [] (u, ml_h m lm) (mk Ln xs 155 67 [.ref 72, v1] [] Φ) := (wp_same xd155_50 (Or.inr rfl) rfl).trans ((wm_getr xd155_51 rfl (show ml_L[72]? = _ from rfl) rfl (Nat.le_of_ble_eq_true rfl)).trans ((wp_same (S' := [.int (nI 0), .ref 73]) xd155_54 (Or.inr rfl) rfl).trans ((wp_same xd155_55 (Or.inr rfl) rfl).trans ((wm_getr xd155_56 rfl (show ml_L[72]? = _ from rfl) rfl (Nat.le_of_ble_eq_true rfl)).trans ((wp_same (S' := [.int (nI 251), .ref 74, .int (nI 0), .ref 73]) xd155_59 (Or.inr rfl) rfl).trans ((wp_same xd155_62 (Or.inr rfl) rfl).trans ((wm_geti xd155_63 rfl (show ml_L[72]? = _ from rfl) rfl (Nat.le_of_ble_eq_true rfl)).trans ((wp_same xd155_66 (Or.inr rfl) rfl).trans (wm_cs (As := [.ref 73, .int (nI 0), .ref 74, .int ((nI 251) * (m 72 2))]) (rest := []) xd155_67 rfl rfl (Nat.le_of_ble_eq_true rfl) (Nat.le_of_ble_eq_true rfl) (Nat.le_of_ble_eq_true rfl) (Nat.le_of_ble_eq_true rfl))))))))))
theorem x155_70 {v1 : Value} : wp Ln xs 155 70 [.ref 72, v1] [] (u, ml_h m lm) Φ = Φ (.inl none) (u, ml_h (ml_s m 72 2 ((m 72 2) + (nI 1))) lm) := (wp_same xd155_70 (Or.inr rfl) rfl).trans ((wp_same xd155_71 (Or.inr rfl) rfl).trans ((wm_geti xd155_72 rfl (show ml_L[72]? = _ from rfl) rfl (Nat.le_of_ble_eq_true rfl)).trans ((wp_same (S' := [.int (nI 1), .int (m 72 2), .ref 72]) xd155_75 (Or.inr rfl) rfl).trans ((wp_same xd155_76 (Or.inr rfl) rfl).trans ((wm_puti xd155_77 rfl (show ml_L[72]? = _ from rfl) rfl (Nat.le_of_ble_eq_true rfl) rfl rfl rfl).trans (wp_fin (v := none) xd155_80 (Or.inr rfl) rfl rfl))))))
/- PickedFormsModel.copy -/
theorem xd156_0 : decode (mj_b 156) 0 = .ok (.iconst 0, 1) := by decide +kernel
theorem xd156_1 : decode (mj_b 156) 1 = .ok (.istore 4, 2) := by decide +kernel
theorem xd156_3 : decode (mj_b 156) 3 = .ok (.iload 4, 2) := by decide +kernel
theorem xd156_5 : decode (mj_b 156) 5 = .ok (.sipush 251, 3) := by decide +kernel
theorem xd156_8 : decode (mj_b 156) 8 = .ok (.if_icmp .ge 21, 3) := by decide +kernel
theorem xd156_11 : decode (mj_b 156) 11 = .ok (.aload_n 2, 1) := by decide +kernel
theorem xd156_12 : decode (mj_b 156) 12 = .ok (.iload_n 3, 1) := by decide +kernel
theorem xd156_13 : decode (mj_b 156) 13 = .ok (.iload 4, 2) := by decide +kernel
theorem xd156_15 : decode (mj_b 156) 15 = .ok (.iadd, 1) := by decide +kernel
theorem xd156_16 : decode (mj_b 156) 16 = .ok (.aload_n 0, 1) := by decide +kernel
theorem xd156_17 : decode (mj_b 156) 17 = .ok (.iload_n 1, 1) := by decide +kernel
theorem xd156_18 : decode (mj_b 156) 18 = .ok (.iload 4, 2) := by decide +kernel
theorem xd156_20 : decode (mj_b 156) 20 = .ok (.iadd, 1) := by decide +kernel
theorem xd156_21 : decode (mj_b 156) 21 = .ok (.iaload, 1) := by decide +kernel
theorem xd156_22 : decode (mj_b 156) 22 = .ok (.iastore, 1) := by decide +kernel
theorem xd156_23 : decode (mj_b 156) 23 = .ok (.iinc 4 1, 3) := by decide +kernel
theorem xd156_26 : decode (mj_b 156) 26 = .ok (.goto (-23), 3) := by decide +kernel
theorem xd156_29 : decode (mj_b 156) 29 = .ok (.return_, 1) := by decide +kernel
theorem x156_0 {q r : Nat} {x1 : Int32} {x3 : Int32} : wp Ln xs 156 0 [.ref r, .int x1, .ref q, .int x3, mj_hole] [] (u, ml_h m lm) Φ = wp Ln xs 156 3 [.ref r, .int x1, .ref q, .int x3, .int (nI 0)] [] (u, ml_h m lm) Φ := (wp_same (S' := [.int (nI 0)]) xd156_0 (Or.inr rfl) rfl).trans (wp_same (L' := [.ref r, .int x1, .ref q, .int x3, .int (nI 0)]) xd156_1 (Or.inr rfl) rfl)
theorem x156_3 {q r : Nat} {x1 : Int32} {x3 : Int32} {x4 : Int32} : wp Ln xs 156 3 [.ref r, .int x1, .ref q, .int x3, .int x4] [] (u, ml_h m lm) Φ = if (nI 251) ≤ x4 then wp Ln xs 156 29 [.ref r, .int x1, .ref q, .int x3, .int x4] [] (u, ml_h m lm) Φ else wp Ln xs 156 11 [.ref r, .int x1, .ref q, .int x3, .int x4] [] (u, ml_h m lm) Φ := (wp_same xd156_3 (Or.inr rfl) rfl).trans ((wp_same (S' := [.int (nI 251), .int x4]) xd156_5 (Or.inr rfl) rfl).trans (wx_icmp xd156_8 rfl rfl ((nI 251) ≤ x4) mb_ge))
theorem x156_11 {q r : Nat} {x1 : Int32} {x3 : Int32} {x4 : Int32} : wp Ln xs 156 11 [.ref r, .int x1, .ref q, .int x3, .int x4] [] (u, ml_h m lm) Φ = wp Ln xs 156 21 [.ref r, .int x1, .ref q, .int x3, .int x4] [.int (x1 + x4), .ref r, .int (x3 + x4), .ref q] (u, ml_h m lm) Φ := (wp_same xd156_11 (Or.inr rfl) rfl).trans ((wp_same xd156_12 (Or.inr rfl) rfl).trans ((wp_same xd156_13 (Or.inr rfl) rfl).trans ((wp_same xd156_15 (Or.inr rfl) rfl).trans ((wp_same xd156_16 (Or.inr rfl) rfl).trans ((wp_same xd156_17 (Or.inr rfl) rfl).trans ((wp_same xd156_18 (Or.inr rfl) rfl).trans (wp_same xd156_20 (Or.inr rfl) rfl)))))))
theorem x156_21 {q r : Nat} {x1 : Int32} {x3 : Int32} {x4 : Int32} {k : Nat} {xs2 : Int32} (hr : ml_ia r) (hr0 : r ≠ 0) (hk : k < ml_n r) : wp Ln xs 156 21 [.ref r, .int x1, .ref q, .int x3, .int x4] [.int (nI k), .ref r, .int xs2, .ref q] (u, ml_h m lm) Φ = wp Ln xs 156 22 [.ref r, .int x1, .ref q, .int x3, .int x4] [.int (m r k), .int xs2, .ref q] (u, ml_h m lm) Φ := wm_iald (k := k) xd156_21 hr hr0 hk
theorem x156_22 {q r : Nat} {x1 : Int32} {x3 : Int32} {x4 : Int32} {xs0 : Int32} {k : Nat} (hq : ml_ia q) (hq0 : q ≠ 0) (hk : k < ml_n q) : wp Ln xs 156 22 [.ref r, .int x1, .ref q, .int x3, .int x4] [.int xs0, .int (nI k), .ref q] (u, ml_h m lm) Φ = wp Ln xs 156 3 [.ref r, .int x1, .ref q, .int x3, .int (x4 + nI 1)] [] (u, ml_h (ml_s m q k xs0) lm) Φ := (wm_iast (k := k) xd156_22 hq hk).trans ((wp_same (L' := [.ref r, .int x1, .ref q, .int x3, .int (x4 + nI 1)]) xd156_23 (Or.inr rfl) rfl).trans (wx_goto xd156_26 rfl))
theorem x156_29 {q r : Nat} {x1 : Int32} {x3 : Int32} {x4 : Int32} : wp Ln xs 156 29 [.ref r, .int x1, .ref q, .int x3, .int x4] [] (u, ml_h m lm) Φ = Φ (.inl none) (u, ml_h m lm) := wp_fin (v := none) xd156_29 (Or.inr rfl) rfl rfl
/- PickedFormsModel.put -/
theorem xd157_0 : decode (mj_b 157) 0 = .ok (.aload_n 0, 1) := by decide +kernel
theorem xd157_1 : decode (mj_b 157) 1 = .ok (.getfield 7, 3) := by decide +kernel
theorem xd157_4 : decode (mj_b 157) 4 = .ok (.bipush 43, 2) := by decide +kernel
theorem xd157_6 : decode (mj_b 157) 6 = .ok (.aload_n 0, 1) := by decide +kernel
theorem xd157_7 : decode (mj_b 157) 7 = .ok (.invokevirtual 96, 3) := by decide +kernel
theorem xd157_10 : decode (mj_b 157) 10 = .ok (.iadd, 1) := by decide +kernel
theorem xd157_11 : decode (mj_b 157) 11 = .ok (.iload_n 1, 1) := by decide +kernel
theorem xd157_12 : decode (mj_b 157) 12 = .ok (.iastore, 1) := by decide +kernel
theorem xd157_13 : decode (mj_b 157) 13 = .ok (.aload_n 0, 1) := by decide +kernel
theorem xd157_14 : decode (mj_b 157) 14 = .ok (.getfield 7, 3) := by decide +kernel
theorem xd157_17 : decode (mj_b 157) 17 = .ok (.iconst 1, 1) := by decide +kernel
theorem xd157_18 : decode (mj_b 157) 18 = .ok (.dup2, 1) := by decide +kernel
theorem xd157_19 : decode (mj_b 157) 19 = .ok (.iaload, 1) := by decide +kernel
theorem xd157_20 : decode (mj_b 157) 20 = .ok (.iconst 1, 1) := by decide +kernel
theorem xd157_21 : decode (mj_b 157) 21 = .ok (.iadd, 1) := by decide +kernel
theorem xd157_22 : decode (mj_b 157) 22 = .ok (.iastore, 1) := by decide +kernel
theorem xd157_23 : decode (mj_b 157) 23 = .ok (.aload_n 0, 1) := by decide +kernel
theorem xd157_24 : decode (mj_b 157) 24 = .ok (.getfield 7, 3) := by decide +kernel
theorem xd157_27 : decode (mj_b 157) 27 = .ok (.iconst 1, 1) := by decide +kernel
theorem xd157_28 : decode (mj_b 157) 28 = .ok (.iaload, 1) := by decide +kernel
theorem xd157_29 : decode (mj_b 157) 29 = .ok (.aload_n 0, 1) := by decide +kernel
theorem xd157_30 : decode (mj_b 157) 30 = .ok (.getfield 7, 3) := by decide +kernel
theorem xd157_33 : decode (mj_b 157) 33 = .ok (.iconst 3, 1) := by decide +kernel
theorem xd157_34 : decode (mj_b 157) 34 = .ok (.iaload, 1) := by decide +kernel
theorem xd157_35 : decode (mj_b 157) 35 = .ok (.if_icmp .lt 7, 3) := by decide +kernel
theorem xd157_38 : decode (mj_b 157) 38 = .ok (.aload_n 0, 1) := by decide +kernel
theorem xd157_39 : decode (mj_b 157) 39 = .ok (.invokevirtual 100, 3) := by decide +kernel
theorem xd157_42 : decode (mj_b 157) 42 = .ok (.return_, 1) := by decide +kernel
theorem x157_0 {x1 : Int32} : wp Ln xs 157 0 [.ref 72, .int x1] [] (u, ml_h m lm) Φ = wp Ln xs 158 0 [.ref 72] [] (u, ml_h m lm) (mk Ln xs 157 7 [.ref 72, .int x1] [.int (nI 43), .ref 73] Φ) := (wp_same xd157_0 (Or.inr rfl) rfl).trans ((wm_getr xd157_1 rfl (show ml_L[72]? = _ from rfl) rfl (Nat.le_of_ble_eq_true rfl)).trans ((wp_same (S' := [.int (nI 43), .ref 73]) xd157_4 (Or.inr rfl) rfl).trans ((wp_same xd157_6 (Or.inr rfl) rfl).trans (wm_cv (As := []) (rest := [.int (nI 43), .ref 73]) xd157_7 rfl rfl (show ml_L[72]? = _ from rfl) (Nat.le_of_ble_eq_true rfl) (Nat.le_of_ble_eq_true rfl) (Nat.le_of_ble_eq_true rfl) (Nat.le_of_ble_eq_true rfl)))))
theorem x157_10 {x1 : Int32} {xs0 : Int32} {xs1 : Int32} : wp Ln xs 157 10 [.ref 72, .int x1] [.int xs0, .int xs1, .ref 73] (u, ml_h m lm) Φ = wp Ln xs 157 12 [.ref 72, .int x1] [.int x1, .int (xs1 + xs0), .ref 73] (u, ml_h m lm) Φ := (wp_same xd157_10 (Or.inr rfl) rfl).trans (wp_same xd157_11 (Or.inr rfl) rfl)
theorem x157_12 {x1 : Int32} {xs0 : Int32} {k : Nat} (hk : k < 251) : wp Ln xs 157 12 [.ref 72, .int x1] [.int xs0, .int (nI k), .ref 73] (u, ml_h m lm) Φ = if ((ml_s (ml_s m 73 k xs0) 73 1 (((ml_s m 73 k xs0) 73 1) + (nI 1))) 73 1) < ((ml_s (ml_s m 73 k xs0) 73 1 (((ml_s m 73 k xs0) 73 1) + (nI 1))) 73 3) then wp Ln xs 157 42 [.ref 72, .int x1] [] (u, ml_h (ml_s (ml_s m 73 k xs0) 73 1 (((ml_s m 73 k xs0) 73 1) + (nI 1))) lm) Φ else wp Ln xs 157 38 [.ref 72, .int x1] [] (u, ml_h (ml_s (ml_s m 73 k xs0) 73 1 (((ml_s m 73 k xs0) 73 1) + (nI 1))) lm) Φ := (wm_iast (k := k) xd157_12 ml_ia_73 hk).trans ((wp_same xd157_13 (Or.inr rfl) rfl).trans ((wm_getr xd157_14 rfl (show ml_L[72]? = _ from rfl) rfl (Nat.le_of_ble_eq_true rfl)).trans ((wp_same (S' := [.int (nI 1), .ref 73]) xd157_17 (Or.inr rfl) rfl).trans ((wp_same xd157_18 (Or.inr rfl) rfl).trans ((wm_iald (k := 1) xd157_19 ml_ia_73 (by decide) (Nat.le_of_ble_eq_true rfl)).trans ((wp_same (S' := [.int (nI 1), .int ((ml_s m 73 k xs0) 73 1), .int (nI 1), .ref 73]) xd157_20 (Or.inr rfl) rfl).trans ((wp_same xd157_21 (Or.inr rfl) rfl).trans ((wm_iast (k := 1) xd157_22 ml_ia_73 (Nat.le_of_ble_eq_true rfl)).trans ((wp_same xd157_23 (Or.inr rfl) rfl).trans ((wm_getr xd157_24 rfl (show ml_L[72]? = _ from rfl) rfl (Nat.le_of_ble_eq_true rfl)).trans ((wp_same (S' := [.int (nI 1), .ref 73]) xd157_27 (Or.inr rfl) rfl).trans ((wm_iald (k := 1) xd157_28 ml_ia_73 (by decide) (Nat.le_of_ble_eq_true rfl)).trans ((wp_same xd157_29 (Or.inr rfl) rfl).trans ((wm_getr xd157_30 rfl (show ml_L[72]? = _ from rfl) rfl (Nat.le_of_ble_eq_true rfl)).trans ((wp_same (S' := [.int (nI 3), .ref 73, .int ((ml_s (ml_s m 73 k xs0) 73 1 (((ml_s m 73 k xs0) 73 1) + (nI 1))) 73 1)]) xd157_33 (Or.inr rfl) rfl).trans ((wm_iald (k := 3) xd157_34 ml_ia_73 (by decide) (Nat.le_of_ble_eq_true rfl)).trans (wx_icmp xd157_35 rfl rfl (((ml_s (ml_s m 73 k xs0) 73 1 (((ml_s m 73 k xs0) 73 1) + (nI 1))) 73 1) < ((ml_s (ml_s m 73 k xs0) 73 1 (((ml_s m 73 k xs0) 73 1) + (nI 1))) 73 3)) mb_lt)))))))))))))))))
theorem x157_38 {x1 : Int32} : wp Ln xs 157 38 [.ref 72, .int x1] [] (u, ml_h m lm) Φ = wp Ln xs 160 0 [.ref 72] [] (u, ml_h m lm) (mk Ln xs 157 39 [.ref 72, .int x1] [] Φ) := (wp_same xd157_38 (Or.inr rfl) rfl).trans (wm_cv (As := []) (rest := []) xd157_39 rfl rfl (show ml_L[72]? = _ from rfl) (Nat.le_of_ble_eq_true rfl) (Nat.le_of_ble_eq_true rfl) (Nat.le_of_ble_eq_true rfl) (Nat.le_of_ble_eq_true rfl))
theorem x157_42 {x1 : Int32} : wp Ln xs 157 42 [.ref 72, .int x1] [] (u, ml_h m lm) Φ = Φ (.inl none) (u, ml_h m lm) := wp_fin (v := none) xd157_42 (Or.inr rfl) rfl rfl
/- PickedFormsModel.values -/
theorem xd158_0 : decode (mj_b 158) 0 = .ok (.aload_n 0, 1) := by decide +kernel
theorem xd158_1 : decode (mj_b 158) 1 = .ok (.aload_n 0, 1) := by decide +kernel
theorem xd158_2 : decode (mj_b 158) 2 = .ok (.getfield 7, 3) := by decide +kernel
theorem xd158_5 : decode (mj_b 158) 5 = .ok (.iconst 0, 1) := by decide +kernel
theorem xd158_6 : decode (mj_b 158) 6 = .ok (.iaload, 1) := by decide +kernel
theorem xd158_7 : decode (mj_b 158) 7 = .ok (.invokevirtual 49, 3) := by decide +kernel
theorem xd158_10 : decode (mj_b 158) 10 = .ok (.aload_n 0, 1) := by decide +kernel
theorem xd158_11 : decode (mj_b 158) 11 = .ok (.getfield 7, 3) := by decide +kernel
theorem xd158_14 : decode (mj_b 158) 14 = .ok (.iconst 1, 1) := by decide +kernel
theorem xd158_15 : decode (mj_b 158) 15 = .ok (.iaload, 1) := by decide +kernel
theorem xd158_16 : decode (mj_b 158) 16 = .ok (.iadd, 1) := by decide +kernel
theorem xd158_17 : decode (mj_b 158) 17 = .ok (.ireturn, 1) := by decide +kernel
theorem x158_0 : wp Ln xs 158 0 [.ref 72] [] (u, ml_h m lm) Φ = wp Ln xs 159 0 [.ref 72, .int (m 73 0), mj_hole, mj_hole] [] (u, ml_h m lm) (mk Ln xs 158 7 [.ref 72] [] Φ) := (wp_same xd158_0 (Or.inr rfl) rfl).trans ((wp_same xd158_1 (Or.inr rfl) rfl).trans ((wm_getr xd158_2 rfl (show ml_L[72]? = _ from rfl) rfl (Nat.le_of_ble_eq_true rfl)).trans ((wp_same (S' := [.int (nI 0), .ref 73, .ref 72]) xd158_5 (Or.inr rfl) rfl).trans ((wm_iald (k := 0) xd158_6 ml_ia_73 (by decide) (Nat.le_of_ble_eq_true rfl)).trans (wm_cv (As := [.int (m 73 0)]) (rest := []) xd158_7 rfl rfl (show ml_L[72]? = _ from rfl) (Nat.le_of_ble_eq_true rfl) (Nat.le_of_ble_eq_true rfl) (Nat.le_of_ble_eq_true rfl) (Nat.le_of_ble_eq_true rfl))))))
theorem x158_10 {xs0 : Int32} : wp Ln xs 158 10 [.ref 72] [.int xs0] (u, ml_h m lm) Φ = Φ (.inl (some (.int (xs0 + (m 73 1))))) (u, ml_h m lm) := (wp_same xd158_10 (Or.inr rfl) rfl).trans ((wm_getr xd158_11 rfl (show ml_L[72]? = _ from rfl) rfl (Nat.le_of_ble_eq_true rfl)).trans ((wp_same (S' := [.int (nI 1), .ref 73, .int xs0]) xd158_14 (Or.inr rfl) rfl).trans ((wm_iald (k := 1) xd158_15 ml_ia_73 (by decide) (Nat.le_of_ble_eq_true rfl)).trans ((wp_same xd158_16 (Or.inr rfl) rfl).trans (wp_fin (v := some (.int (xs0 + (m 73 1)))) xd158_17 (Or.inr rfl) rfl (mj_fin_i rfl))))))
/- PickedFormsModel.start -/
theorem xd159_0 : decode (mj_b 159) 0 = .ok (.iconst 0, 1) := by decide +kernel
theorem xd159_1 : decode (mj_b 159) 1 = .ok (.istore_n 2, 1) := by decide +kernel
theorem xd159_2 : decode (mj_b 159) 2 = .ok (.iconst 0, 1) := by decide +kernel
theorem xd159_3 : decode (mj_b 159) 3 = .ok (.istore_n 3, 1) := by decide +kernel
theorem xd159_4 : decode (mj_b 159) 4 = .ok (.iload_n 3, 1) := by decide +kernel
theorem xd159_5 : decode (mj_b 159) 5 = .ok (.iload_n 1, 1) := by decide +kernel
theorem xd159_6 : decode (mj_b 159) 6 = .ok (.if_icmp .ge 21, 3) := by decide +kernel
theorem xd159_9 : decode (mj_b 159) 9 = .ok (.iload_n 2, 1) := by decide +kernel
theorem xd159_10 : decode (mj_b 159) 10 = .ok (.aload_n 0, 1) := by decide +kernel
theorem xd159_11 : decode (mj_b 159) 11 = .ok (.getfield 7, 3) := by decide +kernel
theorem xd159_14 : decode (mj_b 159) 14 = .ok (.bipush 7, 2) := by decide +kernel
theorem xd159_16 : decode (mj_b 159) 16 = .ok (.iload_n 3, 1) := by decide +kernel
theorem xd159_17 : decode (mj_b 159) 17 = .ok (.iadd, 1) := by decide +kernel
theorem xd159_18 : decode (mj_b 159) 18 = .ok (.iaload, 1) := by decide +kernel
theorem xd159_19 : decode (mj_b 159) 19 = .ok (.iadd, 1) := by decide +kernel
theorem xd159_20 : decode (mj_b 159) 20 = .ok (.istore_n 2, 1) := by decide +kernel
theorem xd159_21 : decode (mj_b 159) 21 = .ok (.iinc 3 1, 3) := by decide +kernel
theorem xd159_24 : decode (mj_b 159) 24 = .ok (.goto (-20), 3) := by decide +kernel
theorem xd159_27 : decode (mj_b 159) 27 = .ok (.iload_n 2, 1) := by decide +kernel
theorem xd159_28 : decode (mj_b 159) 28 = .ok (.ireturn, 1) := by decide +kernel
theorem x159_0 {x1 : Int32} : wp Ln xs 159 0 [.ref 72, .int x1, mj_hole, mj_hole] [] (u, ml_h m lm) Φ = wp Ln xs 159 4 [.ref 72, .int x1, .int (nI 0), .int (nI 0)] [] (u, ml_h m lm) Φ := (wp_same (S' := [.int (nI 0)]) xd159_0 (Or.inr rfl) rfl).trans ((wp_same (L' := [.ref 72, .int x1, .int (nI 0), mj_hole]) xd159_1 (Or.inr rfl) rfl).trans ((wp_same (S' := [.int (nI 0)]) xd159_2 (Or.inr rfl) rfl).trans (wp_same (L' := [.ref 72, .int x1, .int (nI 0), .int (nI 0)]) xd159_3 (Or.inr rfl) rfl)))
theorem x159_4 {x1 : Int32} {x2 : Int32} {x3 : Int32} : wp Ln xs 159 4 [.ref 72, .int x1, .int x2, .int x3] [] (u, ml_h m lm) Φ = if x1 ≤ x3 then wp Ln xs 159 27 [.ref 72, .int x1, .int x2, .int x3] [] (u, ml_h m lm) Φ else wp Ln xs 159 9 [.ref 72, .int x1, .int x2, .int x3] [] (u, ml_h m lm) Φ := (wp_same xd159_4 (Or.inr rfl) rfl).trans ((wp_same xd159_5 (Or.inr rfl) rfl).trans (wx_icmp xd159_6 rfl rfl (x1 ≤ x3) mb_ge))
theorem x159_9 {x1 : Int32} {x2 : Int32} {x3 : Int32} : wp Ln xs 159 9 [.ref 72, .int x1, .int x2, .int x3] [] (u, ml_h m lm) Φ = wp Ln xs 159 18 [.ref 72, .int x1, .int x2, .int x3] [.int ((nI 7) + x3), .ref 73, .int x2] (u, ml_h m lm) Φ := (wp_same xd159_9 (Or.inr rfl) rfl).trans ((wp_same xd159_10 (Or.inr rfl) rfl).trans ((wm_getr xd159_11 rfl (show ml_L[72]? = _ from rfl) rfl (Nat.le_of_ble_eq_true rfl)).trans ((wp_same (S' := [.int (nI 7), .ref 73, .int x2]) xd159_14 (Or.inr rfl) rfl).trans ((wp_same xd159_16 (Or.inr rfl) rfl).trans (wp_same xd159_17 (Or.inr rfl) rfl)))))
theorem x159_18 {x1 : Int32} {x2 : Int32} {x3 : Int32} {k : Nat} {xs2 : Int32} (hk : k < 251) : wp Ln xs 159 18 [.ref 72, .int x1, .int x2, .int x3] [.int (nI k), .ref 73, .int xs2] (u, ml_h m lm) Φ = wp Ln xs 159 4 [.ref 72, .int x1, .int (xs2 + (m 73 k)), .int (x3 + nI 1)] [] (u, ml_h m lm) Φ := (wm_iald (k := k) xd159_18 ml_ia_73 (by decide) hk).trans ((wp_same xd159_19 (Or.inr rfl) rfl).trans ((wp_same (L' := [.ref 72, .int x1, .int (xs2 + (m 73 k)), .int x3]) xd159_20 (Or.inr rfl) rfl).trans ((wp_same (L' := [.ref 72, .int x1, .int (xs2 + (m 73 k)), .int (x3 + nI 1)]) xd159_21 (Or.inr rfl) rfl).trans (wx_goto xd159_24 rfl))))
theorem x159_27 {x1 : Int32} {x2 : Int32} {x3 : Int32} : wp Ln xs 159 27 [.ref 72, .int x1, .int x2, .int x3] [] (u, ml_h m lm) Φ = Φ (.inl (some (.int x2))) (u, ml_h m lm) := (wp_same xd159_27 (Or.inr rfl) rfl).trans (wp_fin (v := some (.int x2)) xd159_28 (Or.inr rfl) rfl (mj_fin_i rfl))
/- PickedFormsModel.closeTail -/
theorem xd160_0 : decode (mj_b 160) 0 = .ok (.aload_n 0, 1) := by decide +kernel
theorem xd160_1 : decode (mj_b 160) 1 = .ok (.getfield 7, 3) := by decide +kernel
theorem xd160_4 : decode (mj_b 160) 4 = .ok (.bipush 7, 2) := by decide +kernel
theorem xd160_6 : decode (mj_b 160) 6 = .ok (.aload_n 0, 1) := by decide +kernel
theorem xd160_7 : decode (mj_b 160) 7 = .ok (.getfield 7, 3) := by decide +kernel
theorem xd160_10 : decode (mj_b 160) 10 = .ok (.iconst 0, 1) := by decide +kernel
theorem xd160_11 : decode (mj_b 160) 11 = .ok (.iaload, 1) := by decide +kernel
theorem xd160_12 : decode (mj_b 160) 12 = .ok (.iadd, 1) := by decide +kernel
theorem xd160_13 : decode (mj_b 160) 13 = .ok (.aload_n 0, 1) := by decide +kernel
theorem xd160_14 : decode (mj_b 160) 14 = .ok (.getfield 7, 3) := by decide +kernel
theorem xd160_17 : decode (mj_b 160) 17 = .ok (.iconst 1, 1) := by decide +kernel
theorem xd160_18 : decode (mj_b 160) 18 = .ok (.iaload, 1) := by decide +kernel
theorem xd160_19 : decode (mj_b 160) 19 = .ok (.iastore, 1) := by decide +kernel
theorem xd160_20 : decode (mj_b 160) 20 = .ok (.aload_n 0, 1) := by decide +kernel
theorem xd160_21 : decode (mj_b 160) 21 = .ok (.getfield 7, 3) := by decide +kernel
theorem xd160_24 : decode (mj_b 160) 24 = .ok (.iconst 0, 1) := by decide +kernel
theorem xd160_25 : decode (mj_b 160) 25 = .ok (.dup2, 1) := by decide +kernel
theorem xd160_26 : decode (mj_b 160) 26 = .ok (.iaload, 1) := by decide +kernel
theorem xd160_27 : decode (mj_b 160) 27 = .ok (.iconst 1, 1) := by decide +kernel
theorem xd160_28 : decode (mj_b 160) 28 = .ok (.iadd, 1) := by decide +kernel
theorem xd160_29 : decode (mj_b 160) 29 = .ok (.iastore, 1) := by decide +kernel
theorem xd160_30 : decode (mj_b 160) 30 = .ok (.aload_n 0, 1) := by decide +kernel
theorem xd160_31 : decode (mj_b 160) 31 = .ok (.getfield 7, 3) := by decide +kernel
theorem xd160_34 : decode (mj_b 160) 34 = .ok (.iconst 1, 1) := by decide +kernel
theorem xd160_35 : decode (mj_b 160) 35 = .ok (.iconst 0, 1) := by decide +kernel
theorem xd160_36 : decode (mj_b 160) 36 = .ok (.iastore, 1) := by decide +kernel
theorem xd160_37 : decode (mj_b 160) 37 = .ok (.aload_n 0, 1) := by decide +kernel
theorem xd160_38 : decode (mj_b 160) 38 = .ok (.aload_n 0, 1) := by decide +kernel
theorem xd160_39 : decode (mj_b 160) 39 = .ok (.getfield 7, 3) := by decide +kernel
theorem xd160_42 : decode (mj_b 160) 42 = .ok (.iconst 0, 1) := by decide +kernel
theorem xd160_43 : decode (mj_b 160) 43 = .ok (.iaload, 1) := by decide +kernel
theorem xd160_44 : decode (mj_b 160) 44 = .ok (.iconst 1, 1) := by decide +kernel
theorem xd160_45 : decode (mj_b 160) 45 = .ok (.isub, 1) := by decide +kernel
theorem xd160_46 : decode (mj_b 160) 46 = .ok (.invokevirtual 92, 3) := by decide +kernel
theorem xd160_49 : decode (mj_b 160) 49 = .ok (.return_, 1) := by decide +kernel
theorem x160_0 : wp Ln xs 160 0 [.ref 72] [] (u, ml_h m lm) Φ = wp Ln xs 160 19 [.ref 72] [.int (m 73 1), .int ((nI 7) + (m 73 0)), .ref 73] (u, ml_h m lm) Φ := (wp_same xd160_0 (Or.inr rfl) rfl).trans ((wm_getr xd160_1 rfl (show ml_L[72]? = _ from rfl) rfl (Nat.le_of_ble_eq_true rfl)).trans ((wp_same (S' := [.int (nI 7), .ref 73]) xd160_4 (Or.inr rfl) rfl).trans ((wp_same xd160_6 (Or.inr rfl) rfl).trans ((wm_getr xd160_7 rfl (show ml_L[72]? = _ from rfl) rfl (Nat.le_of_ble_eq_true rfl)).trans ((wp_same (S' := [.int (nI 0), .ref 73, .int (nI 7), .ref 73]) xd160_10 (Or.inr rfl) rfl).trans ((wm_iald (k := 0) xd160_11 ml_ia_73 (by decide) (Nat.le_of_ble_eq_true rfl)).trans ((wp_same xd160_12 (Or.inr rfl) rfl).trans ((wp_same xd160_13 (Or.inr rfl) rfl).trans ((wm_getr xd160_14 rfl (show ml_L[72]? = _ from rfl) rfl (Nat.le_of_ble_eq_true rfl)).trans ((wp_same (S' := [.int (nI 1), .ref 73, .int ((nI 7) + (m 73 0)), .ref 73]) xd160_17 (Or.inr rfl) rfl).trans (wm_iald (k := 1) xd160_18 ml_ia_73 (by decide) (Nat.le_of_ble_eq_true rfl))))))))))))
theorem x160_19 {xs0 : Int32} {k : Nat} (hk : k < 251) : wp Ln xs 160 19 [.ref 72] [.int xs0, .int (nI k), .ref 73] (u, ml_h m lm) Φ = wp Ln xs 161 0 [.ref 72, .int (((ml_s (ml_s (ml_s m 73 k xs0) 73 0 (((ml_s m 73 k xs0) 73 0) + (nI 1))) 73 1 (nI 0)) 73 0) - (nI 1))] [] (u, ml_h (ml_s (ml_s (ml_s m 73 k xs0) 73 0 (((ml_s m 73 k xs0) 73 0) + (nI 1))) 73 1 (nI 0)) lm) (mk Ln xs 160 46 [.ref 72] [] Φ) := (wm_iast (k := k) xd160_19 ml_ia_73 hk).trans ((wp_same xd160_20 (Or.inr rfl) rfl).trans ((wm_getr xd160_21 rfl (show ml_L[72]? = _ from rfl) rfl (Nat.le_of_ble_eq_true rfl)).trans ((wp_same (S' := [.int (nI 0), .ref 73]) xd160_24 (Or.inr rfl) rfl).trans ((wp_same xd160_25 (Or.inr rfl) rfl).trans ((wm_iald (k := 0) xd160_26 ml_ia_73 (by decide) (Nat.le_of_ble_eq_true rfl)).trans ((wp_same (S' := [.int (nI 1), .int ((ml_s m 73 k xs0) 73 0), .int (nI 0), .ref 73]) xd160_27 (Or.inr rfl) rfl).trans ((wp_same xd160_28 (Or.inr rfl) rfl).trans ((wm_iast (k := 0) xd160_29 ml_ia_73 (Nat.le_of_ble_eq_true rfl)).trans ((wp_same xd160_30 (Or.inr rfl) rfl).trans ((wm_getr xd160_31 rfl (show ml_L[72]? = _ from rfl) rfl (Nat.le_of_ble_eq_true rfl)).trans ((wp_same (S' := [.int (nI 1), .ref 73]) xd160_34 (Or.inr rfl) rfl).trans ((wp_same (S' := [.int (nI 0), .int (nI 1), .ref 73]) xd160_35 (Or.inr rfl) rfl).trans ((wm_iast (k := 1) xd160_36 ml_ia_73 (Nat.le_of_ble_eq_true rfl)).trans ((wp_same xd160_37 (Or.inr rfl) rfl).trans ((wp_same xd160_38 (Or.inr rfl) rfl).trans ((wm_getr xd160_39 rfl (show ml_L[72]? = _ from rfl) rfl (Nat.le_of_ble_eq_true rfl)).trans ((wp_same (S' := [.int (nI 0), .ref 73, .ref 72]) xd160_42 (Or.inr rfl) rfl).trans ((wm_iald (k := 0) xd160_43 ml_ia_73 (by decide) (Nat.le_of_ble_eq_true rfl)).trans ((wp_same (S' := [.int (nI 1), .int ((ml_s (ml_s (ml_s m 73 k xs0) 73 0 (((ml_s m 73 k xs0) 73 0) + (nI 1))) 73 1 (nI 0)) 73 0), .ref 72]) xd160_44 (Or.inr rfl) rfl).trans ((wp_same xd160_45 (Or.inr rfl) rfl).trans (wm_cv (As := [.int (((ml_s (ml_s (ml_s m 73 k xs0) 73 0 (((ml_s m 73 k xs0) 73 0) + (nI 1))) 73 1 (nI 0)) 73 0) - (nI 1))]) (rest := []) xd160_46 rfl rfl (show ml_L[72]? = _ from rfl) (Nat.le_of_ble_eq_true rfl) (Nat.le_of_ble_eq_true rfl) (Nat.le_of_ble_eq_true rfl) (Nat.le_of_ble_eq_true rfl))))))))))))))))))))))
theorem x160_49 : wp Ln xs 160 49 [.ref 72] [] (u, ml_h m lm) Φ = Φ (.inl none) (u, ml_h m lm) := wp_fin (v := none) xd160_49 (Or.inr rfl) rfl rfl
/- PickedFormsModel.writeAnew -/
theorem xd161_0 : decode (mj_b 161) 0 = .ok (.aload_n 0, 1) := by decide +kernel
theorem xd161_1 : decode (mj_b 161) 1 = .ok (.getfield 7, 3) := by decide +kernel
theorem xd161_4 : decode (mj_b 161) 4 = .ok (.bipush 19, 2) := by decide +kernel
theorem xd161_6 : decode (mj_b 161) 6 = .ok (.iload_n 1, 1) := by decide +kernel
theorem xd161_7 : decode (mj_b 161) 7 = .ok (.iadd, 1) := by decide +kernel
theorem xd161_8 : decode (mj_b 161) 8 = .ok (.aload_n 0, 1) := by decide +kernel
theorem xd161_9 : decode (mj_b 161) 9 = .ok (.aload_n 0, 1) := by decide +kernel
theorem xd161_10 : decode (mj_b 161) 10 = .ok (.iload_n 1, 1) := by decide +kernel
theorem xd161_11 : decode (mj_b 161) 11 = .ok (.invokevirtual 49, 3) := by decide +kernel
theorem xd161_14 : decode (mj_b 161) 14 = .ok (.aload_n 0, 1) := by decide +kernel
theorem xd161_15 : decode (mj_b 161) 15 = .ok (.getfield 7, 3) := by decide +kernel
theorem xd161_18 : decode (mj_b 161) 18 = .ok (.bipush 7, 2) := by decide +kernel
theorem xd161_20 : decode (mj_b 161) 20 = .ok (.iload_n 1, 1) := by decide +kernel
theorem xd161_21 : decode (mj_b 161) 21 = .ok (.iadd, 1) := by decide +kernel
theorem xd161_22 : decode (mj_b 161) 22 = .ok (.iaload, 1) := by decide +kernel
theorem xd161_23 : decode (mj_b 161) 23 = .ok (.invokevirtual 86, 3) := by decide +kernel
theorem xd161_26 : decode (mj_b 161) 26 = .ok (.iastore, 1) := by decide +kernel
theorem xd161_27 : decode (mj_b 161) 27 = .ok (.aload_n 0, 1) := by decide +kernel
theorem xd161_28 : decode (mj_b 161) 28 = .ok (.getfield 7, 3) := by decide +kernel
theorem xd161_31 : decode (mj_b 161) 31 = .ok (.bipush 31, 2) := by decide +kernel
theorem xd161_33 : decode (mj_b 161) 33 = .ok (.iload_n 1, 1) := by decide +kernel
theorem xd161_34 : decode (mj_b 161) 34 = .ok (.iadd, 1) := by decide +kernel
theorem xd161_35 : decode (mj_b 161) 35 = .ok (.aload_n 0, 1) := by decide +kernel
theorem xd161_36 : decode (mj_b 161) 36 = .ok (.iload_n 1, 1) := by decide +kernel
theorem xd161_37 : decode (mj_b 161) 37 = .ok (.invokevirtual 89, 3) := by decide +kernel
theorem xd161_40 : decode (mj_b 161) 40 = .ok (.iastore, 1) := by decide +kernel
theorem xd161_41 : decode (mj_b 161) 41 = .ok (.aload_n 0, 1) := by decide +kernel
theorem xd161_42 : decode (mj_b 161) 42 = .ok (.getfield 7, 3) := by decide +kernel
theorem xd161_45 : decode (mj_b 161) 45 = .ok (.bipush 6, 2) := by decide +kernel
theorem xd161_47 : decode (mj_b 161) 47 = .ok (.dup2, 1) := by decide +kernel
theorem xd161_48 : decode (mj_b 161) 48 = .ok (.iaload, 1) := by decide +kernel
theorem xd161_49 : decode (mj_b 161) 49 = .ok (.iconst 1, 1) := by decide +kernel
theorem xd161_50 : decode (mj_b 161) 50 = .ok (.iadd, 1) := by decide +kernel
theorem xd161_51 : decode (mj_b 161) 51 = .ok (.iastore, 1) := by decide +kernel
theorem xd161_52 : decode (mj_b 161) 52 = .ok (.return_, 1) := by decide +kernel
theorem x161_0 {x1 : Int32} : wp Ln xs 161 0 [.ref 72, .int x1] [] (u, ml_h m lm) Φ = wp Ln xs 159 0 [.ref 72, .int x1, mj_hole, mj_hole] [] (u, ml_h m lm) (mk Ln xs 161 11 [.ref 72, .int x1] [.ref 72, .int ((nI 19) + x1), .ref 73] Φ) := (wp_same xd161_0 (Or.inr rfl) rfl).trans ((wm_getr xd161_1 rfl (show ml_L[72]? = _ from rfl) rfl (Nat.le_of_ble_eq_true rfl)).trans ((wp_same (S' := [.int (nI 19), .ref 73]) xd161_4 (Or.inr rfl) rfl).trans ((wp_same xd161_6 (Or.inr rfl) rfl).trans ((wp_same xd161_7 (Or.inr rfl) rfl).trans ((wp_same xd161_8 (Or.inr rfl) rfl).trans ((wp_same xd161_9 (Or.inr rfl) rfl).trans ((wp_same xd161_10 (Or.inr rfl) rfl).trans (wm_cv (As := [.int x1]) (rest := [.ref 72, .int ((nI 19) + x1), .ref 73]) xd161_11 rfl rfl (show ml_L[72]? = _ from rfl) (Nat.le_of_ble_eq_true rfl) (Nat.le_of_ble_eq_true rfl) (Nat.le_of_ble_eq_true rfl) (Nat.le_of_ble_eq_true rfl)))))))))
theorem x161_14 {x1 : Int32} {xs0 : Int32} {xs2 : Int32} : wp Ln xs 161 14 [.ref 72, .int x1] [.int xs0, .ref 72, .int xs2, .ref 73] (u, ml_h m lm) Φ = wp Ln xs 161 22 [.ref 72, .int x1] [.int ((nI 7) + x1), .ref 73, .int xs0, .ref 72, .int xs2, .ref 73] (u, ml_h m lm) Φ := (wp_same xd161_14 (Or.inr rfl) rfl).trans ((wm_getr xd161_15 rfl (show ml_L[72]? = _ from rfl) rfl (Nat.le_of_ble_eq_true rfl)).trans ((wp_same (S' := [.int (nI 7), .ref 73, .int xs0, .ref 72, .int xs2, .ref 73]) xd161_18 (Or.inr rfl) rfl).trans ((wp_same xd161_20 (Or.inr rfl) rfl).trans (wp_same xd161_21 (Or.inr rfl) rfl))))
theorem x161_22 {x1 : Int32} {k : Nat} {xs2 : Int32} {xs4 : Int32} (hk : k < 251) : wp Ln xs 161 22 [.ref 72, .int x1] [.int (nI k), .ref 73, .int xs2, .ref 72, .int xs4, .ref 73] (u, ml_h m lm) Φ = wp Ln xs 162 0 [.ref 72, .int xs2, .int (m 73 k)] [] (u, ml_h m lm) (mk Ln xs 161 23 [.ref 72, .int x1] [.int xs4, .ref 73] Φ) := (wm_iald (k := k) xd161_22 ml_ia_73 (by decide) hk).trans (wm_cv (As := [.int xs2, .int (m 73 k)]) (rest := [.int xs4, .ref 73]) xd161_23 rfl rfl (show ml_L[72]? = _ from rfl) (Nat.le_of_ble_eq_true rfl) (Nat.le_of_ble_eq_true rfl) (Nat.le_of_ble_eq_true rfl) (Nat.le_of_ble_eq_true rfl))
theorem x161_26 {x1 : Int32} {xs0 : Int32} {k : Nat} (hk : k < 251) : wp Ln xs 161 26 [.ref 72, .int x1] [.int xs0, .int (nI k), .ref 73] (u, ml_h m lm) Φ = wp Ln xs 173 0 [.ref 72, .int x1] [] (u, ml_h (ml_s m 73 k xs0) lm) (mk Ln xs 161 37 [.ref 72, .int x1] [.int ((nI 31) + x1), .ref 73] Φ) := (wm_iast (k := k) xd161_26 ml_ia_73 hk).trans ((wp_same xd161_27 (Or.inr rfl) rfl).trans ((wm_getr xd161_28 rfl (show ml_L[72]? = _ from rfl) rfl (Nat.le_of_ble_eq_true rfl)).trans ((wp_same (S' := [.int (nI 31), .ref 73]) xd161_31 (Or.inr rfl) rfl).trans ((wp_same xd161_33 (Or.inr rfl) rfl).trans ((wp_same xd161_34 (Or.inr rfl) rfl).trans ((wp_same xd161_35 (Or.inr rfl) rfl).trans ((wp_same xd161_36 (Or.inr rfl) rfl).trans (wm_cv (As := [.int x1]) (rest := [.int ((nI 31) + x1), .ref 73]) xd161_37 rfl rfl (show ml_L[72]? = _ from rfl) (Nat.le_of_ble_eq_true rfl) (Nat.le_of_ble_eq_true rfl) (Nat.le_of_ble_eq_true rfl) (Nat.le_of_ble_eq_true rfl)))))))))
theorem x161_40 {x1 : Int32} {xs0 : Int32} {k : Nat} (hk : k < 251) : wp Ln xs 161 40 [.ref 72, .int x1] [.int xs0, .int (nI k), .ref 73] (u, ml_h m lm) Φ = Φ (.inl none) (u, ml_h (ml_s (ml_s m 73 k xs0) 73 6 (((ml_s m 73 k xs0) 73 6) + (nI 1))) lm) := (wm_iast (k := k) xd161_40 ml_ia_73 hk).trans ((wp_same xd161_41 (Or.inr rfl) rfl).trans ((wm_getr xd161_42 rfl (show ml_L[72]? = _ from rfl) rfl (Nat.le_of_ble_eq_true rfl)).trans ((wp_same (S' := [.int (nI 6), .ref 73]) xd161_45 (Or.inr rfl) rfl).trans ((wp_same xd161_47 (Or.inr rfl) rfl).trans ((wm_iald (k := 6) xd161_48 ml_ia_73 (by decide) (Nat.le_of_ble_eq_true rfl)).trans ((wp_same (S' := [.int (nI 1), .int ((ml_s m 73 k xs0) 73 6), .int (nI 6), .ref 73]) xd161_49 (Or.inr rfl) rfl).trans ((wp_same xd161_50 (Or.inr rfl) rfl).trans ((wm_iast (k := 6) xd161_51 ml_ia_73 (Nat.le_of_ble_eq_true rfl)).trans (wp_fin (v := none) xd161_52 (Or.inr rfl) rfl rfl)))))))))
/- PickedFormsModel.picked -/
theorem xd162_0 : decode (mj_b 162) 0 = .ok (.aload_n 0, 1) := by decide +kernel
theorem xd162_1 : decode (mj_b 162) 1 = .ok (.iload_n 1, 1) := by decide +kernel
theorem xd162_2 : decode (mj_b 162) 2 = .ok (.iload_n 2, 1) := by decide +kernel
theorem xd162_3 : decode (mj_b 162) 3 = .ok (.aload_n 0, 1) := by decide +kernel
theorem xd162_4 : decode (mj_b 162) 4 = .ok (.getfield 7, 3) := by decide +kernel
theorem xd162_7 : decode (mj_b 162) 7 = .ok (.iconst 2, 1) := by decide +kernel
theorem xd162_8 : decode (mj_b 162) 8 = .ok (.iaload, 1) := by decide +kernel
theorem xd162_9 : decode (mj_b 162) 9 = .ok (.if_icmp .ge 7, 3) := by decide +kernel
theorem xd162_12 : decode (mj_b 162) 12 = .ok (.iload_n 2, 1) := by decide +kernel
theorem xd162_13 : decode (mj_b 162) 13 = .ok (.goto 9, 3) := by decide +kernel
theorem xd162_16 : decode (mj_b 162) 16 = .ok (.aload_n 0, 1) := by decide +kernel
theorem xd162_17 : decode (mj_b 162) 17 = .ok (.getfield 7, 3) := by decide +kernel
theorem xd162_20 : decode (mj_b 162) 20 = .ok (.iconst 2, 1) := by decide +kernel
theorem xd162_21 : decode (mj_b 162) 21 = .ok (.iaload, 1) := by decide +kernel
theorem xd162_22 : decode (mj_b 162) 22 = .ok (.invokevirtual 83, 3) := by decide +kernel
theorem xd162_25 : decode (mj_b 162) 25 = .ok (.ireturn, 1) := by decide +kernel
theorem x162_0 {x1 : Int32} {x2 : Int32} : wp Ln xs 162 0 [.ref 72, .int x1, .int x2] [] (u, ml_h m lm) Φ = if (m 73 2) ≤ x2 then wp Ln xs 162 16 [.ref 72, .int x1, .int x2] [.int x1, .ref 72] (u, ml_h m lm) Φ else wp Ln xs 162 12 [.ref 72, .int x1, .int x2] [.int x1, .ref 72] (u, ml_h m lm) Φ := (wp_same xd162_0 (Or.inr rfl) rfl).trans ((wp_same xd162_1 (Or.inr rfl) rfl).trans ((wp_same xd162_2 (Or.inr rfl) rfl).trans ((wp_same xd162_3 (Or.inr rfl) rfl).trans ((wm_getr xd162_4 rfl (show ml_L[72]? = _ from rfl) rfl (Nat.le_of_ble_eq_true rfl)).trans ((wp_same (S' := [.int (nI 2), .ref 73, .int x2, .int x1, .ref 72]) xd162_7 (Or.inr rfl) rfl).trans ((wm_iald (k := 2) xd162_8 ml_ia_73 (by decide) (Nat.le_of_ble_eq_true rfl)).trans (wx_icmp xd162_9 rfl rfl ((m 73 2) ≤ x2) mb_ge)))))))
theorem x162_12 {x1 : Int32} {x2 : Int32} {xs0 : Int32} : wp Ln xs 162 12 [.ref 72, .int x1, .int x2] [.int xs0, .ref 72] (u, ml_h m lm) Φ = wp Ln xs 162 22 [.ref 72, .int x1, .int x2] [.int x2, .int xs0, .ref 72] (u, ml_h m lm) Φ := (wp_same xd162_12 (Or.inr rfl) rfl).trans (wx_goto xd162_13 rfl)
theorem x162_16 {x1 : Int32} {x2 : Int32} {xs0 : Int32} : wp Ln xs 162 16 [.ref 72, .int x1, .int x2] [.int xs0, .ref 72] (u, ml_h m lm) Φ = wp Ln xs 162 22 [.ref 72, .int x1, .int x2] [.int (m 73 2), .int xs0, .ref 72] (u, ml_h m lm) Φ := (wp_same xd162_16 (Or.inr rfl) rfl).trans ((wm_getr xd162_17 rfl (show ml_L[72]? = _ from rfl) rfl (Nat.le_of_ble_eq_true rfl)).trans ((wp_same (S' := [.int (nI 2), .ref 73, .int xs0, .ref 72]) xd162_20 (Or.inr rfl) rfl).trans (wm_iald (k := 2) xd162_21 ml_ia_73 (by decide) (Nat.le_of_ble_eq_true rfl))))
theorem x162_22 {x1 : Int32} {x2 : Int32} {xs0 : Int32} {xs1 : Int32} : wp Ln xs 162 22 [.ref 72, .int x1, .int x2] [.int xs0, .int xs1, .ref 72] (u, ml_h m lm) Φ = wp Ln xs 163 0 [.ref 72, .int xs1, .int xs0, mj_hole, mj_hole, mj_hole] [] (u, ml_h m lm) (mk Ln xs 162 22 [.ref 72, .int x1, .int x2] [] Φ) := wm_cv (As := [.int xs1, .int xs0]) (rest := []) xd162_22 rfl rfl (show ml_L[72]? = _ from rfl) (Nat.le_of_ble_eq_true rfl) (Nat.le_of_ble_eq_true rfl) (Nat.le_of_ble_eq_true rfl) (Nat.le_of_ble_eq_true rfl)
theorem x162_25 {x1 : Int32} {x2 : Int32} {xs0 : Int32} : wp Ln xs 162 25 [.ref 72, .int x1, .int x2] [.int xs0] (u, ml_h m lm) Φ = Φ (.inl (some (.int xs0))) (u, ml_h m lm) := wp_fin (v := some (.int xs0)) xd162_25 (Or.inr rfl) rfl (mj_fin_i rfl)
/- PickedFormsModel.lightest -/
theorem xd163_0 : decode (mj_b 163) 0 = .ok (.iconst 0, 1) := by decide +kernel
theorem xd163_1 : decode (mj_b 163) 1 = .ok (.istore_n 3, 1) := by decide +kernel
theorem xd163_2 : decode (mj_b 163) 2 = .ok (.iconst 1, 1) := by decide +kernel
theorem xd163_3 : decode (mj_b 163) 3 = .ok (.istore 4, 2) := by decide +kernel
theorem xd163_5 : decode (mj_b 163) 5 = .ok (.iload 4, 2) := by decide +kernel
theorem xd163_7 : decode (mj_b 163) 7 = .ok (.iconst 5, 1) := by decide +kernel
theorem xd163_8 : decode (mj_b 163) 8 = .ok (.if_icmp .ge 61, 3) := by decide +kernel
theorem xd163_11 : decode (mj_b 163) 11 = .ok (.aload_n 0, 1) := by decide +kernel
theorem xd163_12 : decode (mj_b 163) 12 = .ok (.getfield 7, 3) := by decide +kernel
theorem xd163_15 : decode (mj_b 163) 15 = .ok (.iconst 4, 1) := by decide +kernel
theorem xd163_16 : decode (mj_b 163) 16 = .ok (.iaload, 1) := by decide +kernel
theorem xd163_17 : decode (mj_b 163) 17 = .ok (.iload 4, 2) := by decide +kernel
theorem xd163_19 : decode (mj_b 163) 19 = .ok (.ishr, 1) := by decide +kernel
theorem xd163_20 : decode (mj_b 163) 20 = .ok (.iconst 1, 1) := by decide +kernel
theorem xd163_21 : decode (mj_b 163) 21 = .ok (.iand, 1) := by decide +kernel
theorem xd163_22 : decode (mj_b 163) 22 = .ok (.iconst 1, 1) := by decide +kernel
theorem xd163_23 : decode (mj_b 163) 23 = .ok (.if_icmp .ne 7, 3) := by decide +kernel
theorem xd163_26 : decode (mj_b 163) 26 = .ok (.iconst 1, 1) := by decide +kernel
theorem xd163_27 : decode (mj_b 163) 27 = .ok (.goto 4, 3) := by decide +kernel
theorem xd163_30 : decode (mj_b 163) 30 = .ok (.iconst 0, 1) := by decide +kernel
theorem xd163_31 : decode (mj_b 163) 31 = .ok (.istore 5, 2) := by decide +kernel
theorem xd163_33 : decode (mj_b 163) 33 = .ok (.iload 5, 2) := by decide +kernel
theorem xd163_35 : decode (mj_b 163) 35 = .ok (.ifCond .eq 26, 3) := by decide +kernel
theorem xd163_38 : decode (mj_b 163) 38 = .ok (.aload_n 0, 1) := by decide +kernel
theorem xd163_39 : decode (mj_b 163) 39 = .ok (.iload 4, 2) := by decide +kernel
theorem xd163_41 : decode (mj_b 163) 41 = .ok (.iload_n 1, 1) := by decide +kernel
theorem xd163_42 : decode (mj_b 163) 42 = .ok (.iload_n 2, 1) := by decide +kernel
theorem xd163_43 : decode (mj_b 163) 43 = .ok (.invokevirtual 79, 3) := by decide +kernel
theorem xd163_46 : decode (mj_b 163) 46 = .ok (.aload_n 0, 1) := by decide +kernel
theorem xd163_47 : decode (mj_b 163) 47 = .ok (.iload_n 3, 1) := by decide +kernel
theorem xd163_48 : decode (mj_b 163) 48 = .ok (.iload_n 1, 1) := by decide +kernel
theorem xd163_49 : decode (mj_b 163) 49 = .ok (.iload_n 2, 1) := by decide +kernel
theorem xd163_50 : decode (mj_b 163) 50 = .ok (.invokevirtual 79, 3) := by decide +kernel
theorem xd163_53 : decode (mj_b 163) 53 = .ok (.if_icmp .ge 8, 3) := by decide +kernel
theorem xd163_56 : decode (mj_b 163) 56 = .ok (.iload 4, 2) := by decide +kernel
theorem xd163_58 : decode (mj_b 163) 58 = .ok (.goto 4, 3) := by decide +kernel
theorem xd163_61 : decode (mj_b 163) 61 = .ok (.iload_n 3, 1) := by decide +kernel
theorem xd163_62 : decode (mj_b 163) 62 = .ok (.istore_n 3, 1) := by decide +kernel
theorem xd163_63 : decode (mj_b 163) 63 = .ok (.iinc 4 1, 3) := by decide +kernel
theorem xd163_66 : decode (mj_b 163) 66 = .ok (.goto (-61), 3) := by decide +kernel
theorem xd163_69 : decode (mj_b 163) 69 = .ok (.iload_n 3, 1) := by decide +kernel
theorem xd163_70 : decode (mj_b 163) 70 = .ok (.ireturn, 1) := by decide +kernel
theorem x163_0 {x1 : Int32} {x2 : Int32} : wp Ln xs 163 0 [.ref 72, .int x1, .int x2, mj_hole, mj_hole, mj_hole] [] (u, ml_h m lm) Φ = wp Ln xs 163 5 [.ref 72, .int x1, .int x2, .int (nI 0), .int (nI 1), mj_hole] [] (u, ml_h m lm) Φ := (wp_same (S' := [.int (nI 0)]) xd163_0 (Or.inr rfl) rfl).trans ((wp_same (L' := [.ref 72, .int x1, .int x2, .int (nI 0), mj_hole, mj_hole]) xd163_1 (Or.inr rfl) rfl).trans ((wp_same (S' := [.int (nI 1)]) xd163_2 (Or.inr rfl) rfl).trans (wp_same (L' := [.ref 72, .int x1, .int x2, .int (nI 0), .int (nI 1), mj_hole]) xd163_3 (Or.inr rfl) rfl)))
theorem x163_5 {x1 : Int32} {x2 : Int32} {x3 : Int32} {x4 : Int32} {v5 : Value} : wp Ln xs 163 5 [.ref 72, .int x1, .int x2, .int x3, .int x4, v5] [] (u, ml_h m lm) Φ = if (nI 5) ≤ x4 then wp Ln xs 163 69 [.ref 72, .int x1, .int x2, .int x3, .int x4, v5] [] (u, ml_h m lm) Φ else wp Ln xs 163 11 [.ref 72, .int x1, .int x2, .int x3, .int x4, v5] [] (u, ml_h m lm) Φ := (wp_same xd163_5 (Or.inr rfl) rfl).trans ((wp_same (S' := [.int (nI 5), .int x4]) xd163_7 (Or.inr rfl) rfl).trans (wx_icmp xd163_8 rfl rfl ((nI 5) ≤ x4) mb_ge))
theorem x163_11 {x1 : Int32} {x2 : Int32} {x3 : Int32} {x4 : Int32} {v5 : Value} : wp Ln xs 163 11 [.ref 72, .int x1, .int x2, .int x3, .int x4, v5] [] (u, ml_h m lm) Φ = if ¬ (((m 73 4) >>> (x4 &&& 31)) &&& (nI 1)) = (nI 1) then wp Ln xs 163 30 [.ref 72, .int x1, .int x2, .int x3, .int x4, v5] [] (u, ml_h m lm) Φ else wp Ln xs 163 26 [.ref 72, .int x1, .int x2, .int x3, .int x4, v5] [] (u, ml_h m lm) Φ := (wp_same xd163_11 (Or.inr rfl) rfl).trans ((wm_getr xd163_12 rfl (show ml_L[72]? = _ from rfl) rfl (Nat.le_of_ble_eq_true rfl)).trans ((wp_same (S' := [.int (nI 4), .ref 73]) xd163_15 (Or.inr rfl) rfl).trans ((wm_iald (k := 4) xd163_16 ml_ia_73 (by decide) (Nat.le_of_ble_eq_true rfl)).trans ((wp_same xd163_17 (Or.inr rfl) rfl).trans ((wp_same xd163_19 (Or.inr rfl) rfl).trans ((wp_same (S' := [.int (nI 1), .int ((m 73 4) >>> (x4 &&& 31))]) xd163_20 (Or.inr rfl) rfl).trans ((wp_same xd163_21 (Or.inr rfl) rfl).trans ((wp_same (S' := [.int (nI 1), .int (((m 73 4) >>> (x4 &&& 31)) &&& (nI 1))]) xd163_22 (Or.inr rfl) rfl).trans (wx_icmp xd163_23 rfl rfl (¬ (((m 73 4) >>> (x4 &&& 31)) &&& (nI 1)) = (nI 1)) mb_ne)))))))))
theorem x163_26 {x1 : Int32} {x2 : Int32} {x3 : Int32} {x4 : Int32} {v5 : Value} : wp Ln xs 163 26 [.ref 72, .int x1, .int x2, .int x3, .int x4, v5] [] (u, ml_h m lm) Φ = wp Ln xs 163 31 [.ref 72, .int x1, .int x2, .int x3, .int x4, v5] [.int (nI 1)] (u, ml_h m lm) Φ := (wp_same (S' := [.int (nI 1)]) xd163_26 (Or.inr rfl) rfl).trans (wx_goto xd163_27 rfl)
theorem x163_30 {x1 : Int32} {x2 : Int32} {x3 : Int32} {x4 : Int32} {v5 : Value} : wp Ln xs 163 30 [.ref 72, .int x1, .int x2, .int x3, .int x4, v5] [] (u, ml_h m lm) Φ = wp Ln xs 163 31 [.ref 72, .int x1, .int x2, .int x3, .int x4, v5] [.int (nI 0)] (u, ml_h m lm) Φ := wp_same (S' := [.int (nI 0)]) xd163_30 (Or.inr rfl) rfl
theorem x163_31 {x1 : Int32} {x2 : Int32} {x3 : Int32} {x4 : Int32} {v5 : Value} {xs0 : Int32} : wp Ln xs 163 31 [.ref 72, .int x1, .int x2, .int x3, .int x4, v5] [.int xs0] (u, ml_h m lm) Φ = if xs0 = (nI 0) then wp Ln xs 163 61 [.ref 72, .int x1, .int x2, .int x3, .int x4, .int xs0] [] (u, ml_h m lm) Φ else wp Ln xs 163 38 [.ref 72, .int x1, .int x2, .int x3, .int x4, .int xs0] [] (u, ml_h m lm) Φ := (wp_same (L' := [.ref 72, .int x1, .int x2, .int x3, .int x4, .int xs0]) xd163_31 (Or.inr rfl) rfl).trans ((wp_same xd163_33 (Or.inr rfl) rfl).trans (wx_if xd163_35 rfl rfl (xs0 = (nI 0)) mb_eq))
theorem x163_38 {x1 : Int32} {x2 : Int32} {x3 : Int32} {x4 : Int32} {x5 : Int32} : wp Ln xs 163 38 [.ref 72, .int x1, .int x2, .int x3, .int x4, .int x5] [] (u, ml_h m lm) Φ = wp Ln xs 164 0 [.ref 72, .int x4, .int x1, .int x2] [] (u, ml_h m lm) (mk Ln xs 163 43 [.ref 72, .int x1, .int x2, .int x3, .int x4, .int x5] [] Φ) := (wp_same xd163_38 (Or.inr rfl) rfl).trans ((wp_same xd163_39 (Or.inr rfl) rfl).trans ((wp_same xd163_41 (Or.inr rfl) rfl).trans ((wp_same xd163_42 (Or.inr rfl) rfl).trans (wm_cv (As := [.int x4, .int x1, .int x2]) (rest := []) xd163_43 rfl rfl (show ml_L[72]? = _ from rfl) (Nat.le_of_ble_eq_true rfl) (Nat.le_of_ble_eq_true rfl) (Nat.le_of_ble_eq_true rfl) (Nat.le_of_ble_eq_true rfl)))))
theorem x163_46 {x1 : Int32} {x2 : Int32} {x3 : Int32} {x4 : Int32} {x5 : Int32} {xs0 : Int32} : wp Ln xs 163 46 [.ref 72, .int x1, .int x2, .int x3, .int x4, .int x5] [.int xs0] (u, ml_h m lm) Φ = wp Ln xs 164 0 [.ref 72, .int x3, .int x1, .int x2] [] (u, ml_h m lm) (mk Ln xs 163 50 [.ref 72, .int x1, .int x2, .int x3, .int x4, .int x5] [.int xs0] Φ) := (wp_same xd163_46 (Or.inr rfl) rfl).trans ((wp_same xd163_47 (Or.inr rfl) rfl).trans ((wp_same xd163_48 (Or.inr rfl) rfl).trans ((wp_same xd163_49 (Or.inr rfl) rfl).trans (wm_cv (As := [.int x3, .int x1, .int x2]) (rest := [.int xs0]) xd163_50 rfl rfl (show ml_L[72]? = _ from rfl) (Nat.le_of_ble_eq_true rfl) (Nat.le_of_ble_eq_true rfl) (Nat.le_of_ble_eq_true rfl) (Nat.le_of_ble_eq_true rfl)))))
theorem x163_53 {x1 : Int32} {x2 : Int32} {x3 : Int32} {x4 : Int32} {x5 : Int32} {xs0 : Int32} {xs1 : Int32} : wp Ln xs 163 53 [.ref 72, .int x1, .int x2, .int x3, .int x4, .int x5] [.int xs0, .int xs1] (u, ml_h m lm) Φ = if xs0 ≤ xs1 then wp Ln xs 163 61 [.ref 72, .int x1, .int x2, .int x3, .int x4, .int x5] [] (u, ml_h m lm) Φ else wp Ln xs 163 56 [.ref 72, .int x1, .int x2, .int x3, .int x4, .int x5] [] (u, ml_h m lm) Φ := wx_icmp xd163_53 rfl rfl (xs0 ≤ xs1) mb_ge
theorem x163_56 {x1 : Int32} {x2 : Int32} {x3 : Int32} {x4 : Int32} {x5 : Int32} : wp Ln xs 163 56 [.ref 72, .int x1, .int x2, .int x3, .int x4, .int x5] [] (u, ml_h m lm) Φ = wp Ln xs 163 62 [.ref 72, .int x1, .int x2, .int x3, .int x4, .int x5] [.int x4] (u, ml_h m lm) Φ := (wp_same xd163_56 (Or.inr rfl) rfl).trans (wx_goto xd163_58 rfl)
theorem x163_61 {x1 : Int32} {x2 : Int32} {x3 : Int32} {x4 : Int32} {x5 : Int32} : wp Ln xs 163 61 [.ref 72, .int x1, .int x2, .int x3, .int x4, .int x5] [] (u, ml_h m lm) Φ = wp Ln xs 163 62 [.ref 72, .int x1, .int x2, .int x3, .int x4, .int x5] [.int x3] (u, ml_h m lm) Φ := wp_same xd163_61 (Or.inr rfl) rfl
theorem x163_62 {x1 : Int32} {x2 : Int32} {x3 : Int32} {x4 : Int32} {x5 : Int32} {xs0 : Int32} : wp Ln xs 163 62 [.ref 72, .int x1, .int x2, .int x3, .int x4, .int x5] [.int xs0] (u, ml_h m lm) Φ = wp Ln xs 163 5 [.ref 72, .int x1, .int x2, .int xs0, .int (x4 + nI 1), .int x5] [] (u, ml_h m lm) Φ := (wp_same (L' := [.ref 72, .int x1, .int x2, .int xs0, .int x4, .int x5]) xd163_62 (Or.inr rfl) rfl).trans ((wp_same (L' := [.ref 72, .int x1, .int x2, .int xs0, .int (x4 + nI 1), .int x5]) xd163_63 (Or.inr rfl) rfl).trans (wx_goto xd163_66 rfl))
theorem x163_69 {x1 : Int32} {x2 : Int32} {x3 : Int32} {x4 : Int32} {v5 : Value} : wp Ln xs 163 69 [.ref 72, .int x1, .int x2, .int x3, .int x4, v5] [] (u, ml_h m lm) Φ = Φ (.inl (some (.int x3))) (u, ml_h m lm) := (wp_same xd163_69 (Or.inr rfl) rfl).trans (wp_fin (v := some (.int x3)) xd163_70 (Or.inr rfl) rfl (mj_fin_i rfl))
/- PickedFormsModel.sizeOf -/
theorem xd164_0 : decode (mj_b 164) 0 = .ok (.iload_n 1, 1) := by decide +kernel
theorem xd164_1 : decode (mj_b 164) 1 = .ok (.tableswitch 85 0 3 #[31, 36, 58, 68], 31) := by decide +kernel
theorem xd164_32 : decode (mj_b 164) 32 = .ok (.bipush 10, 2) := by decide +kernel
theorem xd164_34 : decode (mj_b 164) 34 = .ok (.iload_n 3, 1) := by decide +kernel
theorem xd164_35 : decode (mj_b 164) 35 = .ok (.imul, 1) := by decide +kernel
theorem xd164_36 : decode (mj_b 164) 36 = .ok (.ireturn, 1) := by decide +kernel
theorem xd164_37 : decode (mj_b 164) 37 = .ok (.bipush 14, 2) := by decide +kernel
theorem xd164_39 : decode (mj_b 164) 39 = .ok (.iload_n 3, 1) := by decide +kernel
theorem xd164_40 : decode (mj_b 164) 40 = .ok (.aload_n 0, 1) := by decide +kernel
theorem xd164_41 : decode (mj_b 164) 41 = .ok (.iload_n 2, 1) := by decide +kernel
theorem xd164_42 : decode (mj_b 164) 42 = .ok (.iload_n 3, 1) := by decide +kernel
theorem xd164_43 : decode (mj_b 164) 43 = .ok (.invokevirtual 60, 3) := by decide +kernel
theorem xd164_46 : decode (mj_b 164) 46 = .ok (.aload_n 0, 1) := by decide +kernel
theorem xd164_47 : decode (mj_b 164) 47 = .ok (.iload_n 2, 1) := by decide +kernel
theorem xd164_48 : decode (mj_b 164) 48 = .ok (.iload_n 3, 1) := by decide +kernel
theorem xd164_49 : decode (mj_b 164) 49 = .ok (.invokevirtual 64, 3) := by decide +kernel
theorem xd164_52 : decode (mj_b 164) 52 = .ok (.isub, 1) := by decide +kernel
theorem xd164_53 : decode (mj_b 164) 53 = .ok (.invokestatic 67, 3) := by decide +kernel
theorem xd164_56 : decode (mj_b 164) 56 = .ok (.imul, 1) := by decide +kernel
theorem xd164_57 : decode (mj_b 164) 57 = .ok (.iadd, 1) := by decide +kernel
theorem xd164_58 : decode (mj_b 164) 58 = .ok (.ireturn, 1) := by decide +kernel
theorem xd164_59 : decode (mj_b 164) 59 = .ok (.bipush 14, 2) := by decide +kernel
theorem xd164_61 : decode (mj_b 164) 61 = .ok (.aload_n 0, 1) := by decide +kernel
theorem xd164_62 : decode (mj_b 164) 62 = .ok (.iload_n 2, 1) := by decide +kernel
theorem xd164_63 : decode (mj_b 164) 63 = .ok (.iload_n 3, 1) := by decide +kernel
theorem xd164_64 : decode (mj_b 164) 64 = .ok (.invokevirtual 70, 3) := by decide +kernel
theorem xd164_67 : decode (mj_b 164) 67 = .ok (.imul, 1) := by decide +kernel
theorem xd164_68 : decode (mj_b 164) 68 = .ok (.ireturn, 1) := by decide +kernel
theorem xd164_69 : decode (mj_b 164) 69 = .ok (.bipush 14, 2) := by decide +kernel
theorem xd164_71 : decode (mj_b 164) 71 = .ok (.iload_n 3, 1) := by decide +kernel
theorem xd164_72 : decode (mj_b 164) 72 = .ok (.iconst 1, 1) := by decide +kernel
theorem xd164_73 : decode (mj_b 164) 73 = .ok (.isub, 1) := by decide +kernel
theorem xd164_74 : decode (mj_b 164) 74 = .ok (.aload_n 0, 1) := by decide +kernel
theorem xd164_75 : decode (mj_b 164) 75 = .ok (.iload_n 2, 1) := by decide +kernel
theorem xd164_76 : decode (mj_b 164) 76 = .ok (.iload_n 3, 1) := by decide +kernel
theorem xd164_77 : decode (mj_b 164) 77 = .ok (.invokevirtual 73, 3) := by decide +kernel
theorem xd164_80 : decode (mj_b 164) 80 = .ok (.invokestatic 67, 3) := by decide +kernel
theorem xd164_83 : decode (mj_b 164) 83 = .ok (.imul, 1) := by decide +kernel
theorem xd164_84 : decode (mj_b 164) 84 = .ok (.iadd, 1) := by decide +kernel
theorem xd164_85 : decode (mj_b 164) 85 = .ok (.ireturn, 1) := by decide +kernel
theorem xd164_86 : decode (mj_b 164) 86 = .ok (.iconst 4, 1) := by decide +kernel
theorem xd164_87 : decode (mj_b 164) 87 = .ok (.bipush 10, 2) := by decide +kernel
theorem xd164_89 : decode (mj_b 164) 89 = .ok (.aload_n 0, 1) := by decide +kernel
theorem xd164_90 : decode (mj_b 164) 90 = .ok (.iload_n 2, 1) := by decide +kernel
theorem xd164_91 : decode (mj_b 164) 91 = .ok (.iload_n 3, 1) := by decide +kernel
theorem xd164_92 : decode (mj_b 164) 92 = .ok (.invokevirtual 76, 3) := by decide +kernel
theorem xd164_95 : decode (mj_b 164) 95 = .ok (.imul, 1) := by decide +kernel
theorem xd164_96 : decode (mj_b 164) 96 = .ok (.iadd, 1) := by decide +kernel
theorem xd164_97 : decode (mj_b 164) 97 = .ok (.iload_n 3, 1) := by decide +kernel
theorem xd164_98 : decode (mj_b 164) 98 = .ok (.aload_n 0, 1) := by decide +kernel
theorem xd164_99 : decode (mj_b 164) 99 = .ok (.iload_n 2, 1) := by decide +kernel
theorem xd164_100 : decode (mj_b 164) 100 = .ok (.iload_n 3, 1) := by decide +kernel
theorem xd164_101 : decode (mj_b 164) 101 = .ok (.invokevirtual 76, 3) := by decide +kernel
theorem xd164_104 : decode (mj_b 164) 104 = .ok (.iconst 1, 1) := by decide +kernel
theorem xd164_105 : decode (mj_b 164) 105 = .ok (.isub, 1) := by decide +kernel
theorem xd164_106 : decode (mj_b 164) 106 = .ok (.invokestatic 67, 3) := by decide +kernel
theorem xd164_109 : decode (mj_b 164) 109 = .ok (.imul, 1) := by decide +kernel
theorem xd164_110 : decode (mj_b 164) 110 = .ok (.iadd, 1) := by decide +kernel
theorem xd164_111 : decode (mj_b 164) 111 = .ok (.ireturn, 1) := by decide +kernel
theorem x164_0 {x1 : Int32} {x2 : Int32} {x3 : Int32} : wp Ln xs 164 0 [.ref 72, .int x1, .int x2, .int x3] [] (u, ml_h m lm) Φ = wp Ln xs 164 1 [.ref 72, .int x1, .int x2, .int x3] [.int x1] (u, ml_h m lm) Φ := wp_same xd164_0 (Or.inr rfl) rfl
theorem x164_1_0 {x1 : Int32} {x2 : Int32} {x3 : Int32} : wp Ln xs 164 1 [.ref 72, .int x1, .int x2, .int x3] [.int (nI 0)] (u, ml_h m lm) Φ = wp Ln xs 164 32 [.ref 72, .int x1, .int x2, .int x3] [] (u, ml_h m lm) Φ := wp_same xd164_1 (Or.inl rfl) rfl
theorem x164_1_1 {x1 : Int32} {x2 : Int32} {x3 : Int32} : wp Ln xs 164 1 [.ref 72, .int x1, .int x2, .int x3] [.int (nI 1)] (u, ml_h m lm) Φ = wp Ln xs 164 37 [.ref 72, .int x1, .int x2, .int x3] [] (u, ml_h m lm) Φ := wp_same xd164_1 (Or.inl rfl) rfl
theorem x164_1_2 {x1 : Int32} {x2 : Int32} {x3 : Int32} : wp Ln xs 164 1 [.ref 72, .int x1, .int x2, .int x3] [.int (nI 2)] (u, ml_h m lm) Φ = wp Ln xs 164 59 [.ref 72, .int x1, .int x2, .int x3] [] (u, ml_h m lm) Φ := wp_same xd164_1 (Or.inl rfl) rfl
theorem x164_1_3 {x1 : Int32} {x2 : Int32} {x3 : Int32} : wp Ln xs 164 1 [.ref 72, .int x1, .int x2, .int x3] [.int (nI 3)] (u, ml_h m lm) Φ = wp Ln xs 164 69 [.ref 72, .int x1, .int x2, .int x3] [] (u, ml_h m lm) Φ := wp_same xd164_1 (Or.inl rfl) rfl
theorem x164_1_4 {x1 : Int32} {x2 : Int32} {x3 : Int32} : wp Ln xs 164 1 [.ref 72, .int x1, .int x2, .int x3] [.int (nI 4)] (u, ml_h m lm) Φ = wp Ln xs 164 86 [.ref 72, .int x1, .int x2, .int x3] [] (u, ml_h m lm) Φ := wp_same xd164_1 (Or.inl rfl) rfl
theorem x164_1_5 {x1 : Int32} {x2 : Int32} {x3 : Int32} : wp Ln xs 164 1 [.ref 72, .int x1, .int x2, .int x3] [.int (nI 5)] (u, ml_h m lm) Φ = wp Ln xs 164 86 [.ref 72, .int x1, .int x2, .int x3] [] (u, ml_h m lm) Φ := wp_same xd164_1 (Or.inl rfl) rfl
theorem x164_1_6 {x1 : Int32} {x2 : Int32} {x3 : Int32} : wp Ln xs 164 1 [.ref 72, .int x1, .int x2, .int x3] [.int (nI 6)] (u, ml_h m lm) Φ = wp Ln xs 164 86 [.ref 72, .int x1, .int x2, .int x3] [] (u, ml_h m lm) Φ := wp_same xd164_1 (Or.inl rfl) rfl
theorem x164_32 {x1 : Int32} {x2 : Int32} {x3 : Int32} : wp Ln xs 164 32 [.ref 72, .int x1, .int x2, .int x3] [] (u, ml_h m lm) Φ = Φ (.inl (some (.int ((nI 10) * x3)))) (u, ml_h m lm) := (wp_same (S' := [.int (nI 10)]) xd164_32 (Or.inr rfl) rfl).trans ((wp_same xd164_34 (Or.inr rfl) rfl).trans ((wp_same xd164_35 (Or.inr rfl) rfl).trans (wp_fin (v := some (.int ((nI 10) * x3))) xd164_36 (Or.inr rfl) rfl (mj_fin_i rfl))))
theorem x164_37 {x1 : Int32} {x2 : Int32} {x3 : Int32} : wp Ln xs 164 37 [.ref 72, .int x1, .int x2, .int x3] [] (u, ml_h m lm) Φ = wp Ln xs 165 0 [.ref 72, .int x2, .int x3, mj_hole, mj_hole] [] (u, ml_h m lm) (mk Ln xs 164 43 [.ref 72, .int x1, .int x2, .int x3] [.int x3, .int (nI 14)] Φ) := (wp_same (S' := [.int (nI 14)]) xd164_37 (Or.inr rfl) rfl).trans ((wp_same xd164_39 (Or.inr rfl) rfl).trans ((wp_same xd164_40 (Or.inr rfl) rfl).trans ((wp_same xd164_41 (Or.inr rfl) rfl).trans ((wp_same xd164_42 (Or.inr rfl) rfl).trans (wm_cv (As := [.int x2, .int x3]) (rest := [.int x3, .int (nI 14)]) xd164_43 rfl rfl (show ml_L[72]? = _ from rfl) (Nat.le_of_ble_eq_true rfl) (Nat.le_of_ble_eq_true rfl) (Nat.le_of_ble_eq_true rfl) (Nat.le_of_ble_eq_true rfl))))))
theorem x164_46 {x1 : Int32} {x2 : Int32} {x3 : Int32} {xs0 : Int32} {xs1 : Int32} {xs2 : Int32} : wp Ln xs 164 46 [.ref 72, .int x1, .int x2, .int x3] [.int xs0, .int xs1, .int xs2] (u, ml_h m lm) Φ = wp Ln xs 166 0 [.ref 72, .int x2, .int x3, mj_hole, mj_hole] [] (u, ml_h m lm) (mk Ln xs 164 49 [.ref 72, .int x1, .int x2, .int x3] [.int xs0, .int xs1, .int xs2] Φ) := (wp_same xd164_46 (Or.inr rfl) rfl).trans ((wp_same xd164_47 (Or.inr rfl) rfl).trans ((wp_same xd164_48 (Or.inr rfl) rfl).trans (wm_cv (As := [.int x2, .int x3]) (rest := [.int xs0, .int xs1, .int xs2]) xd164_49 rfl rfl (show ml_L[72]? = _ from rfl) (Nat.le_of_ble_eq_true rfl) (Nat.le_of_ble_eq_true rfl) (Nat.le_of_ble_eq_true rfl) (Nat.le_of_ble_eq_true rfl))))
theorem x164_52 {x1 : Int32} {x2 : Int32} {x3 : Int32} {xs0 : Int32} {xs1 : Int32} {xs2 : Int32} {xs3 : Int32} : wp Ln xs 164 52 [.ref 72, .int x1, .int x2, .int x3] [.int xs0, .int xs1, .int xs2, .int xs3] (u, ml_h m lm) Φ = wp Ln xs 167 0 [.int (xs1 - xs0), mj_hole, mj_hole] [] (u, ml_h m lm) (mk Ln xs 164 53 [.ref 72, .int x1, .int x2, .int x3] [.int xs2, .int xs3] Φ) := (wp_same xd164_52 (Or.inr rfl) rfl).trans (wm_cs (As := [.int (xs1 - xs0)]) (rest := [.int xs2, .int xs3]) xd164_53 rfl rfl (Nat.le_of_ble_eq_true rfl) (Nat.le_of_ble_eq_true rfl) (Nat.le_of_ble_eq_true rfl) (Nat.le_of_ble_eq_true rfl))
theorem x164_56 {x1 : Int32} {x2 : Int32} {x3 : Int32} {xs0 : Int32} {xs1 : Int32} {xs2 : Int32} : wp Ln xs 164 56 [.ref 72, .int x1, .int x2, .int x3] [.int xs0, .int xs1, .int xs2] (u, ml_h m lm) Φ = Φ (.inl (some (.int (xs2 + (xs1 * xs0))))) (u, ml_h m lm) := (wp_same xd164_56 (Or.inr rfl) rfl).trans ((wp_same xd164_57 (Or.inr rfl) rfl).trans (wp_fin (v := some (.int (xs2 + (xs1 * xs0)))) xd164_58 (Or.inr rfl) rfl (mj_fin_i rfl)))
theorem x164_59 {x1 : Int32} {x2 : Int32} {x3 : Int32} : wp Ln xs 164 59 [.ref 72, .int x1, .int x2, .int x3] [] (u, ml_h m lm) Φ = wp Ln xs 168 0 [.ref 72, .int x2, .int x3, mj_hole, mj_hole] [] (u, ml_h m lm) (mk Ln xs 164 64 [.ref 72, .int x1, .int x2, .int x3] [.int (nI 14)] Φ) := (wp_same (S' := [.int (nI 14)]) xd164_59 (Or.inr rfl) rfl).trans ((wp_same xd164_61 (Or.inr rfl) rfl).trans ((wp_same xd164_62 (Or.inr rfl) rfl).trans ((wp_same xd164_63 (Or.inr rfl) rfl).trans (wm_cv (As := [.int x2, .int x3]) (rest := [.int (nI 14)]) xd164_64 rfl rfl (show ml_L[72]? = _ from rfl) (Nat.le_of_ble_eq_true rfl) (Nat.le_of_ble_eq_true rfl) (Nat.le_of_ble_eq_true rfl) (Nat.le_of_ble_eq_true rfl)))))
theorem x164_67 {x1 : Int32} {x2 : Int32} {x3 : Int32} {xs0 : Int32} {xs1 : Int32} : wp Ln xs 164 67 [.ref 72, .int x1, .int x2, .int x3] [.int xs0, .int xs1] (u, ml_h m lm) Φ = Φ (.inl (some (.int (xs1 * xs0)))) (u, ml_h m lm) := (wp_same xd164_67 (Or.inr rfl) rfl).trans (wp_fin (v := some (.int (xs1 * xs0))) xd164_68 (Or.inr rfl) rfl (mj_fin_i rfl))
theorem x164_69 {x1 : Int32} {x2 : Int32} {x3 : Int32} : wp Ln xs 164 69 [.ref 72, .int x1, .int x2, .int x3] [] (u, ml_h m lm) Φ = wp Ln xs 169 0 [.ref 72, .int x2, .int x3, mj_hole, mj_hole] [] (u, ml_h m lm) (mk Ln xs 164 77 [.ref 72, .int x1, .int x2, .int x3] [.int (x3 - (nI 1)), .int (nI 14)] Φ) := (wp_same (S' := [.int (nI 14)]) xd164_69 (Or.inr rfl) rfl).trans ((wp_same xd164_71 (Or.inr rfl) rfl).trans ((wp_same (S' := [.int (nI 1), .int x3, .int (nI 14)]) xd164_72 (Or.inr rfl) rfl).trans ((wp_same xd164_73 (Or.inr rfl) rfl).trans ((wp_same xd164_74 (Or.inr rfl) rfl).trans ((wp_same xd164_75 (Or.inr rfl) rfl).trans ((wp_same xd164_76 (Or.inr rfl) rfl).trans (wm_cv (As := [.int x2, .int x3]) (rest := [.int (x3 - (nI 1)), .int (nI 14)]) xd164_77 rfl rfl (show ml_L[72]? = _ from rfl) (Nat.le_of_ble_eq_true rfl) (Nat.le_of_ble_eq_true rfl) (Nat.le_of_ble_eq_true rfl) (Nat.le_of_ble_eq_true rfl))))))))
theorem x164_80 {x1 : Int32} {x2 : Int32} {x3 : Int32} {xs0 : Int32} {xs1 : Int32} {xs2 : Int32} : wp Ln xs 164 80 [.ref 72, .int x1, .int x2, .int x3] [.int xs0, .int xs1, .int xs2] (u, ml_h m lm) Φ = wp Ln xs 167 0 [.int xs0, mj_hole, mj_hole] [] (u, ml_h m lm) (mk Ln xs 164 80 [.ref 72, .int x1, .int x2, .int x3] [.int xs1, .int xs2] Φ) := wm_cs (As := [.int xs0]) (rest := [.int xs1, .int xs2]) xd164_80 rfl rfl (Nat.le_of_ble_eq_true rfl) (Nat.le_of_ble_eq_true rfl) (Nat.le_of_ble_eq_true rfl) (Nat.le_of_ble_eq_true rfl)
theorem x164_83 {x1 : Int32} {x2 : Int32} {x3 : Int32} {xs0 : Int32} {xs1 : Int32} {xs2 : Int32} : wp Ln xs 164 83 [.ref 72, .int x1, .int x2, .int x3] [.int xs0, .int xs1, .int xs2] (u, ml_h m lm) Φ = Φ (.inl (some (.int (xs2 + (xs1 * xs0))))) (u, ml_h m lm) := (wp_same xd164_83 (Or.inr rfl) rfl).trans ((wp_same xd164_84 (Or.inr rfl) rfl).trans (wp_fin (v := some (.int (xs2 + (xs1 * xs0)))) xd164_85 (Or.inr rfl) rfl (mj_fin_i rfl)))
theorem x164_86 {x1 : Int32} {x2 : Int32} {x3 : Int32} : wp Ln xs 164 86 [.ref 72, .int x1, .int x2, .int x3] [] (u, ml_h m lm) Φ = wp Ln xs 171 0 [.ref 72, .int x2, .int x3, mj_hole, mj_hole] [] (u, ml_h m lm) (mk Ln xs 164 92 [.ref 72, .int x1, .int x2, .int x3] [.int (nI 10), .int (nI 4)] Φ) := (wp_same (S' := [.int (nI 4)]) xd164_86 (Or.inr rfl) rfl).trans ((wp_same (S' := [.int (nI 10), .int (nI 4)]) xd164_87 (Or.inr rfl) rfl).trans ((wp_same xd164_89 (Or.inr rfl) rfl).trans ((wp_same xd164_90 (Or.inr rfl) rfl).trans ((wp_same xd164_91 (Or.inr rfl) rfl).trans (wm_cv (As := [.int x2, .int x3]) (rest := [.int (nI 10), .int (nI 4)]) xd164_92 rfl rfl (show ml_L[72]? = _ from rfl) (Nat.le_of_ble_eq_true rfl) (Nat.le_of_ble_eq_true rfl) (Nat.le_of_ble_eq_true rfl) (Nat.le_of_ble_eq_true rfl))))))
theorem x164_95 {x1 : Int32} {x2 : Int32} {x3 : Int32} {xs0 : Int32} {xs1 : Int32} {xs2 : Int32} : wp Ln xs 164 95 [.ref 72, .int x1, .int x2, .int x3] [.int xs0, .int xs1, .int xs2] (u, ml_h m lm) Φ = wp Ln xs 171 0 [.ref 72, .int x2, .int x3, mj_hole, mj_hole] [] (u, ml_h m lm) (mk Ln xs 164 101 [.ref 72, .int x1, .int x2, .int x3] [.int x3, .int (xs2 + (xs1 * xs0))] Φ) := (wp_same xd164_95 (Or.inr rfl) rfl).trans ((wp_same xd164_96 (Or.inr rfl) rfl).trans ((wp_same xd164_97 (Or.inr rfl) rfl).trans ((wp_same xd164_98 (Or.inr rfl) rfl).trans ((wp_same xd164_99 (Or.inr rfl) rfl).trans ((wp_same xd164_100 (Or.inr rfl) rfl).trans (wm_cv (As := [.int x2, .int x3]) (rest := [.int x3, .int (xs2 + (xs1 * xs0))]) xd164_101 rfl rfl (show ml_L[72]? = _ from rfl) (Nat.le_of_ble_eq_true rfl) (Nat.le_of_ble_eq_true rfl) (Nat.le_of_ble_eq_true rfl) (Nat.le_of_ble_eq_true rfl)))))))
theorem x164_104 {x1 : Int32} {x2 : Int32} {x3 : Int32} {xs0 : Int32} {xs1 : Int32} {xs2 : Int32} : wp Ln xs 164 104 [.ref 72, .int x1, .int x2, .int x3] [.int xs0, .int xs1, .int xs2] (u, ml_h m lm) Φ = wp Ln xs 167 0 [.int (xs0 - (nI 1)), mj_hole, mj_hole] [] (u, ml_h m lm) (mk Ln xs 164 106 [.ref 72, .int x1, .int x2, .int x3] [.int xs1, .int xs2] Φ) := (wp_same (S' := [.int (nI 1), .int xs0, .int xs1, .int xs2]) xd164_104 (Or.inr rfl) rfl).trans ((wp_same xd164_105 (Or.inr rfl) rfl).trans (wm_cs (As := [.int (xs0 - (nI 1))]) (rest := [.int xs1, .int xs2]) xd164_106 rfl rfl (Nat.le_of_ble_eq_true rfl) (Nat.le_of_ble_eq_true rfl) (Nat.le_of_ble_eq_true rfl) (Nat.le_of_ble_eq_true rfl)))
theorem x164_109 {x1 : Int32} {x2 : Int32} {x3 : Int32} {xs0 : Int32} {xs1 : Int32} {xs2 : Int32} : wp Ln xs 164 109 [.ref 72, .int x1, .int x2, .int x3] [.int xs0, .int xs1, .int xs2] (u, ml_h m lm) Φ = Φ (.inl (some (.int (xs2 + (xs1 * xs0))))) (u, ml_h m lm) := (wp_same xd164_109 (Or.inr rfl) rfl).trans ((wp_same xd164_110 (Or.inr rfl) rfl).trans (wp_fin (v := some (.int (xs2 + (xs1 * xs0)))) xd164_111 (Or.inr rfl) rfl (mj_fin_i rfl)))
/- PickedFormsModel.greatestOf -/
theorem xd165_0 : decode (mj_b 165) 0 = .ok (.aload_n 0, 1) := by decide +kernel
theorem xd165_1 : decode (mj_b 165) 1 = .ok (.getfield 7, 3) := by decide +kernel
theorem xd165_4 : decode (mj_b 165) 4 = .ok (.bipush 43, 2) := by decide +kernel
theorem xd165_6 : decode (mj_b 165) 6 = .ok (.iload_n 1, 1) := by decide +kernel
theorem xd165_7 : decode (mj_b 165) 7 = .ok (.iadd, 1) := by decide +kernel
theorem xd165_8 : decode (mj_b 165) 8 = .ok (.iaload, 1) := by decide +kernel
theorem xd165_9 : decode (mj_b 165) 9 = .ok (.istore_n 3, 1) := by decide +kernel
theorem xd165_10 : decode (mj_b 165) 10 = .ok (.iload_n 1, 1) := by decide +kernel
theorem xd165_11 : decode (mj_b 165) 11 = .ok (.istore 4, 2) := by decide +kernel
theorem xd165_13 : decode (mj_b 165) 13 = .ok (.iload 4, 2) := by decide +kernel
theorem xd165_15 : decode (mj_b 165) 15 = .ok (.iload_n 1, 1) := by decide +kernel
theorem xd165_16 : decode (mj_b 165) 16 = .ok (.iload_n 2, 1) := by decide +kernel
theorem xd165_17 : decode (mj_b 165) 17 = .ok (.iadd, 1) := by decide +kernel
theorem xd165_18 : decode (mj_b 165) 18 = .ok (.if_icmp .ge 38, 3) := by decide +kernel
theorem xd165_21 : decode (mj_b 165) 21 = .ok (.aload_n 0, 1) := by decide +kernel
theorem xd165_22 : decode (mj_b 165) 22 = .ok (.getfield 7, 3) := by decide +kernel
theorem xd165_25 : decode (mj_b 165) 25 = .ok (.bipush 43, 2) := by decide +kernel
theorem xd165_27 : decode (mj_b 165) 27 = .ok (.iload 4, 2) := by decide +kernel
theorem xd165_29 : decode (mj_b 165) 29 = .ok (.iadd, 1) := by decide +kernel
theorem xd165_30 : decode (mj_b 165) 30 = .ok (.iaload, 1) := by decide +kernel
theorem xd165_31 : decode (mj_b 165) 31 = .ok (.iload_n 3, 1) := by decide +kernel
theorem xd165_32 : decode (mj_b 165) 32 = .ok (.if_icmp .le 16, 3) := by decide +kernel
theorem xd165_35 : decode (mj_b 165) 35 = .ok (.aload_n 0, 1) := by decide +kernel
theorem xd165_36 : decode (mj_b 165) 36 = .ok (.getfield 7, 3) := by decide +kernel
theorem xd165_39 : decode (mj_b 165) 39 = .ok (.bipush 43, 2) := by decide +kernel
theorem xd165_41 : decode (mj_b 165) 41 = .ok (.iload 4, 2) := by decide +kernel
theorem xd165_43 : decode (mj_b 165) 43 = .ok (.iadd, 1) := by decide +kernel
theorem xd165_44 : decode (mj_b 165) 44 = .ok (.iaload, 1) := by decide +kernel
theorem xd165_45 : decode (mj_b 165) 45 = .ok (.goto 4, 3) := by decide +kernel
theorem xd165_48 : decode (mj_b 165) 48 = .ok (.iload_n 3, 1) := by decide +kernel
theorem xd165_49 : decode (mj_b 165) 49 = .ok (.istore_n 3, 1) := by decide +kernel
theorem xd165_50 : decode (mj_b 165) 50 = .ok (.iinc 4 1, 3) := by decide +kernel
theorem xd165_53 : decode (mj_b 165) 53 = .ok (.goto (-40), 3) := by decide +kernel
theorem xd165_56 : decode (mj_b 165) 56 = .ok (.iload_n 3, 1) := by decide +kernel
theorem xd165_57 : decode (mj_b 165) 57 = .ok (.ireturn, 1) := by decide +kernel
theorem x165_0 {x1 : Int32} {x2 : Int32} : wp Ln xs 165 0 [.ref 72, .int x1, .int x2, mj_hole, mj_hole] [] (u, ml_h m lm) Φ = wp Ln xs 165 8 [.ref 72, .int x1, .int x2, mj_hole, mj_hole] [.int ((nI 43) + x1), .ref 73] (u, ml_h m lm) Φ := (wp_same xd165_0 (Or.inr rfl) rfl).trans ((wm_getr xd165_1 rfl (show ml_L[72]? = _ from rfl) rfl (Nat.le_of_ble_eq_true rfl)).trans ((wp_same (S' := [.int (nI 43), .ref 73]) xd165_4 (Or.inr rfl) rfl).trans ((wp_same xd165_6 (Or.inr rfl) rfl).trans (wp_same xd165_7 (Or.inr rfl) rfl))))
theorem x165_8 {x1 : Int32} {x2 : Int32} {k : Nat} (hk : k < 251) : wp Ln xs 165 8 [.ref 72, .int x1, .int x2, mj_hole, mj_hole] [.int (nI k), .ref 73] (u, ml_h m lm) Φ = wp Ln xs 165 13 [.ref 72, .int x1, .int x2, .int (m 73 k), .int x1] [] (u, ml_h m lm) Φ := (wm_iald (k := k) xd165_8 ml_ia_73 (by decide) hk).trans ((wp_same (L' := [.ref 72, .int x1, .int x2, .int (m 73 k), mj_hole]) xd165_9 (Or.inr rfl) rfl).trans ((wp_same xd165_10 (Or.inr rfl) rfl).trans (wp_same (L' := [.ref 72, .int x1, .int x2, .int (m 73 k), .int x1]) xd165_11 (Or.inr rfl) rfl)))
theorem x165_13 {x1 : Int32} {x2 : Int32} {x3 : Int32} {x4 : Int32} : wp Ln xs 165 13 [.ref 72, .int x1, .int x2, .int x3, .int x4] [] (u, ml_h m lm) Φ = if (x1 + x2) ≤ x4 then wp Ln xs 165 56 [.ref 72, .int x1, .int x2, .int x3, .int x4] [] (u, ml_h m lm) Φ else wp Ln xs 165 21 [.ref 72, .int x1, .int x2, .int x3, .int x4] [] (u, ml_h m lm) Φ := (wp_same xd165_13 (Or.inr rfl) rfl).trans ((wp_same xd165_15 (Or.inr rfl) rfl).trans ((wp_same xd165_16 (Or.inr rfl) rfl).trans ((wp_same xd165_17 (Or.inr rfl) rfl).trans (wx_icmp xd165_18 rfl rfl ((x1 + x2) ≤ x4) mb_ge))))
theorem x165_21 {x1 : Int32} {x2 : Int32} {x3 : Int32} {x4 : Int32} : wp Ln xs 165 21 [.ref 72, .int x1, .int x2, .int x3, .int x4] [] (u, ml_h m lm) Φ = wp Ln xs 165 30 [.ref 72, .int x1, .int x2, .int x3, .int x4] [.int ((nI 43) + x4), .ref 73] (u, ml_h m lm) Φ := (wp_same xd165_21 (Or.inr rfl) rfl).trans ((wm_getr xd165_22 rfl (show ml_L[72]? = _ from rfl) rfl (Nat.le_of_ble_eq_true rfl)).trans ((wp_same (S' := [.int (nI 43), .ref 73]) xd165_25 (Or.inr rfl) rfl).trans ((wp_same xd165_27 (Or.inr rfl) rfl).trans (wp_same xd165_29 (Or.inr rfl) rfl))))
theorem x165_30 {x1 : Int32} {x2 : Int32} {x3 : Int32} {x4 : Int32} {k : Nat} (hk : k < 251) : wp Ln xs 165 30 [.ref 72, .int x1, .int x2, .int x3, .int x4] [.int (nI k), .ref 73] (u, ml_h m lm) Φ = if (m 73 k) ≤ x3 then wp Ln xs 165 48 [.ref 72, .int x1, .int x2, .int x3, .int x4] [] (u, ml_h m lm) Φ else wp Ln xs 165 35 [.ref 72, .int x1, .int x2, .int x3, .int x4] [] (u, ml_h m lm) Φ := (wm_iald (k := k) xd165_30 ml_ia_73 (by decide) hk).trans ((wp_same xd165_31 (Or.inr rfl) rfl).trans (wx_icmp xd165_32 rfl rfl ((m 73 k) ≤ x3) mb_le))
theorem x165_35 {x1 : Int32} {x2 : Int32} {x3 : Int32} {x4 : Int32} : wp Ln xs 165 35 [.ref 72, .int x1, .int x2, .int x3, .int x4] [] (u, ml_h m lm) Φ = wp Ln xs 165 44 [.ref 72, .int x1, .int x2, .int x3, .int x4] [.int ((nI 43) + x4), .ref 73] (u, ml_h m lm) Φ := (wp_same xd165_35 (Or.inr rfl) rfl).trans ((wm_getr xd165_36 rfl (show ml_L[72]? = _ from rfl) rfl (Nat.le_of_ble_eq_true rfl)).trans ((wp_same (S' := [.int (nI 43), .ref 73]) xd165_39 (Or.inr rfl) rfl).trans ((wp_same xd165_41 (Or.inr rfl) rfl).trans (wp_same xd165_43 (Or.inr rfl) rfl))))
theorem x165_44 {x1 : Int32} {x2 : Int32} {x3 : Int32} {x4 : Int32} {k : Nat} (hk : k < 251) : wp Ln xs 165 44 [.ref 72, .int x1, .int x2, .int x3, .int x4] [.int (nI k), .ref 73] (u, ml_h m lm) Φ = wp Ln xs 165 49 [.ref 72, .int x1, .int x2, .int x3, .int x4] [.int (m 73 k)] (u, ml_h m lm) Φ := (wm_iald (k := k) xd165_44 ml_ia_73 (by decide) hk).trans (wx_goto xd165_45 rfl)
theorem x165_48 {x1 : Int32} {x2 : Int32} {x3 : Int32} {x4 : Int32} : wp Ln xs 165 48 [.ref 72, .int x1, .int x2, .int x3, .int x4] [] (u, ml_h m lm) Φ = wp Ln xs 165 49 [.ref 72, .int x1, .int x2, .int x3, .int x4] [.int x3] (u, ml_h m lm) Φ := wp_same xd165_48 (Or.inr rfl) rfl
theorem x165_49 {x1 : Int32} {x2 : Int32} {x3 : Int32} {x4 : Int32} {xs0 : Int32} : wp Ln xs 165 49 [.ref 72, .int x1, .int x2, .int x3, .int x4] [.int xs0] (u, ml_h m lm) Φ = wp Ln xs 165 13 [.ref 72, .int x1, .int x2, .int xs0, .int (x4 + nI 1)] [] (u, ml_h m lm) Φ := (wp_same (L' := [.ref 72, .int x1, .int x2, .int xs0, .int x4]) xd165_49 (Or.inr rfl) rfl).trans ((wp_same (L' := [.ref 72, .int x1, .int x2, .int xs0, .int (x4 + nI 1)]) xd165_50 (Or.inr rfl) rfl).trans (wx_goto xd165_53 rfl))
theorem x165_56 {x1 : Int32} {x2 : Int32} {x3 : Int32} {x4 : Int32} : wp Ln xs 165 56 [.ref 72, .int x1, .int x2, .int x3, .int x4] [] (u, ml_h m lm) Φ = Φ (.inl (some (.int x3))) (u, ml_h m lm) := (wp_same xd165_56 (Or.inr rfl) rfl).trans (wp_fin (v := some (.int x3)) xd165_57 (Or.inr rfl) rfl (mj_fin_i rfl))
/- PickedFormsModel.leastOf -/
theorem xd166_0 : decode (mj_b 166) 0 = .ok (.aload_n 0, 1) := by decide +kernel
theorem xd166_1 : decode (mj_b 166) 1 = .ok (.getfield 7, 3) := by decide +kernel
theorem xd166_4 : decode (mj_b 166) 4 = .ok (.bipush 43, 2) := by decide +kernel
theorem xd166_6 : decode (mj_b 166) 6 = .ok (.iload_n 1, 1) := by decide +kernel
theorem xd166_7 : decode (mj_b 166) 7 = .ok (.iadd, 1) := by decide +kernel
theorem xd166_8 : decode (mj_b 166) 8 = .ok (.iaload, 1) := by decide +kernel
theorem xd166_9 : decode (mj_b 166) 9 = .ok (.istore_n 3, 1) := by decide +kernel
theorem xd166_10 : decode (mj_b 166) 10 = .ok (.iload_n 1, 1) := by decide +kernel
theorem xd166_11 : decode (mj_b 166) 11 = .ok (.istore 4, 2) := by decide +kernel
theorem xd166_13 : decode (mj_b 166) 13 = .ok (.iload 4, 2) := by decide +kernel
theorem xd166_15 : decode (mj_b 166) 15 = .ok (.iload_n 1, 1) := by decide +kernel
theorem xd166_16 : decode (mj_b 166) 16 = .ok (.iload_n 2, 1) := by decide +kernel
theorem xd166_17 : decode (mj_b 166) 17 = .ok (.iadd, 1) := by decide +kernel
theorem xd166_18 : decode (mj_b 166) 18 = .ok (.if_icmp .ge 38, 3) := by decide +kernel
theorem xd166_21 : decode (mj_b 166) 21 = .ok (.aload_n 0, 1) := by decide +kernel
theorem xd166_22 : decode (mj_b 166) 22 = .ok (.getfield 7, 3) := by decide +kernel
theorem xd166_25 : decode (mj_b 166) 25 = .ok (.bipush 43, 2) := by decide +kernel
theorem xd166_27 : decode (mj_b 166) 27 = .ok (.iload 4, 2) := by decide +kernel
theorem xd166_29 : decode (mj_b 166) 29 = .ok (.iadd, 1) := by decide +kernel
theorem xd166_30 : decode (mj_b 166) 30 = .ok (.iaload, 1) := by decide +kernel
theorem xd166_31 : decode (mj_b 166) 31 = .ok (.iload_n 3, 1) := by decide +kernel
theorem xd166_32 : decode (mj_b 166) 32 = .ok (.if_icmp .ge 16, 3) := by decide +kernel
theorem xd166_35 : decode (mj_b 166) 35 = .ok (.aload_n 0, 1) := by decide +kernel
theorem xd166_36 : decode (mj_b 166) 36 = .ok (.getfield 7, 3) := by decide +kernel
theorem xd166_39 : decode (mj_b 166) 39 = .ok (.bipush 43, 2) := by decide +kernel
theorem xd166_41 : decode (mj_b 166) 41 = .ok (.iload 4, 2) := by decide +kernel
theorem xd166_43 : decode (mj_b 166) 43 = .ok (.iadd, 1) := by decide +kernel
theorem xd166_44 : decode (mj_b 166) 44 = .ok (.iaload, 1) := by decide +kernel
theorem xd166_45 : decode (mj_b 166) 45 = .ok (.goto 4, 3) := by decide +kernel
theorem xd166_48 : decode (mj_b 166) 48 = .ok (.iload_n 3, 1) := by decide +kernel
theorem xd166_49 : decode (mj_b 166) 49 = .ok (.istore_n 3, 1) := by decide +kernel
theorem xd166_50 : decode (mj_b 166) 50 = .ok (.iinc 4 1, 3) := by decide +kernel
theorem xd166_53 : decode (mj_b 166) 53 = .ok (.goto (-40), 3) := by decide +kernel
theorem xd166_56 : decode (mj_b 166) 56 = .ok (.iload_n 3, 1) := by decide +kernel
theorem xd166_57 : decode (mj_b 166) 57 = .ok (.ireturn, 1) := by decide +kernel
theorem x166_0 {x1 : Int32} {x2 : Int32} : wp Ln xs 166 0 [.ref 72, .int x1, .int x2, mj_hole, mj_hole] [] (u, ml_h m lm) Φ = wp Ln xs 166 8 [.ref 72, .int x1, .int x2, mj_hole, mj_hole] [.int ((nI 43) + x1), .ref 73] (u, ml_h m lm) Φ := (wp_same xd166_0 (Or.inr rfl) rfl).trans ((wm_getr xd166_1 rfl (show ml_L[72]? = _ from rfl) rfl (Nat.le_of_ble_eq_true rfl)).trans ((wp_same (S' := [.int (nI 43), .ref 73]) xd166_4 (Or.inr rfl) rfl).trans ((wp_same xd166_6 (Or.inr rfl) rfl).trans (wp_same xd166_7 (Or.inr rfl) rfl))))
theorem x166_8 {x1 : Int32} {x2 : Int32} {k : Nat} (hk : k < 251) : wp Ln xs 166 8 [.ref 72, .int x1, .int x2, mj_hole, mj_hole] [.int (nI k), .ref 73] (u, ml_h m lm) Φ = wp Ln xs 166 13 [.ref 72, .int x1, .int x2, .int (m 73 k), .int x1] [] (u, ml_h m lm) Φ := (wm_iald (k := k) xd166_8 ml_ia_73 (by decide) hk).trans ((wp_same (L' := [.ref 72, .int x1, .int x2, .int (m 73 k), mj_hole]) xd166_9 (Or.inr rfl) rfl).trans ((wp_same xd166_10 (Or.inr rfl) rfl).trans (wp_same (L' := [.ref 72, .int x1, .int x2, .int (m 73 k), .int x1]) xd166_11 (Or.inr rfl) rfl)))
theorem x166_13 {x1 : Int32} {x2 : Int32} {x3 : Int32} {x4 : Int32} : wp Ln xs 166 13 [.ref 72, .int x1, .int x2, .int x3, .int x4] [] (u, ml_h m lm) Φ = if (x1 + x2) ≤ x4 then wp Ln xs 166 56 [.ref 72, .int x1, .int x2, .int x3, .int x4] [] (u, ml_h m lm) Φ else wp Ln xs 166 21 [.ref 72, .int x1, .int x2, .int x3, .int x4] [] (u, ml_h m lm) Φ := (wp_same xd166_13 (Or.inr rfl) rfl).trans ((wp_same xd166_15 (Or.inr rfl) rfl).trans ((wp_same xd166_16 (Or.inr rfl) rfl).trans ((wp_same xd166_17 (Or.inr rfl) rfl).trans (wx_icmp xd166_18 rfl rfl ((x1 + x2) ≤ x4) mb_ge))))
theorem x166_21 {x1 : Int32} {x2 : Int32} {x3 : Int32} {x4 : Int32} : wp Ln xs 166 21 [.ref 72, .int x1, .int x2, .int x3, .int x4] [] (u, ml_h m lm) Φ = wp Ln xs 166 30 [.ref 72, .int x1, .int x2, .int x3, .int x4] [.int ((nI 43) + x4), .ref 73] (u, ml_h m lm) Φ := (wp_same xd166_21 (Or.inr rfl) rfl).trans ((wm_getr xd166_22 rfl (show ml_L[72]? = _ from rfl) rfl (Nat.le_of_ble_eq_true rfl)).trans ((wp_same (S' := [.int (nI 43), .ref 73]) xd166_25 (Or.inr rfl) rfl).trans ((wp_same xd166_27 (Or.inr rfl) rfl).trans (wp_same xd166_29 (Or.inr rfl) rfl))))
theorem x166_30 {x1 : Int32} {x2 : Int32} {x3 : Int32} {x4 : Int32} {k : Nat} (hk : k < 251) : wp Ln xs 166 30 [.ref 72, .int x1, .int x2, .int x3, .int x4] [.int (nI k), .ref 73] (u, ml_h m lm) Φ = if x3 ≤ (m 73 k) then wp Ln xs 166 48 [.ref 72, .int x1, .int x2, .int x3, .int x4] [] (u, ml_h m lm) Φ else wp Ln xs 166 35 [.ref 72, .int x1, .int x2, .int x3, .int x4] [] (u, ml_h m lm) Φ := (wm_iald (k := k) xd166_30 ml_ia_73 (by decide) hk).trans ((wp_same xd166_31 (Or.inr rfl) rfl).trans (wx_icmp xd166_32 rfl rfl (x3 ≤ (m 73 k)) mb_ge))
theorem x166_35 {x1 : Int32} {x2 : Int32} {x3 : Int32} {x4 : Int32} : wp Ln xs 166 35 [.ref 72, .int x1, .int x2, .int x3, .int x4] [] (u, ml_h m lm) Φ = wp Ln xs 166 44 [.ref 72, .int x1, .int x2, .int x3, .int x4] [.int ((nI 43) + x4), .ref 73] (u, ml_h m lm) Φ := (wp_same xd166_35 (Or.inr rfl) rfl).trans ((wm_getr xd166_36 rfl (show ml_L[72]? = _ from rfl) rfl (Nat.le_of_ble_eq_true rfl)).trans ((wp_same (S' := [.int (nI 43), .ref 73]) xd166_39 (Or.inr rfl) rfl).trans ((wp_same xd166_41 (Or.inr rfl) rfl).trans (wp_same xd166_43 (Or.inr rfl) rfl))))
theorem x166_44 {x1 : Int32} {x2 : Int32} {x3 : Int32} {x4 : Int32} {k : Nat} (hk : k < 251) : wp Ln xs 166 44 [.ref 72, .int x1, .int x2, .int x3, .int x4] [.int (nI k), .ref 73] (u, ml_h m lm) Φ = wp Ln xs 166 49 [.ref 72, .int x1, .int x2, .int x3, .int x4] [.int (m 73 k)] (u, ml_h m lm) Φ := (wm_iald (k := k) xd166_44 ml_ia_73 (by decide) hk).trans (wx_goto xd166_45 rfl)
theorem x166_48 {x1 : Int32} {x2 : Int32} {x3 : Int32} {x4 : Int32} : wp Ln xs 166 48 [.ref 72, .int x1, .int x2, .int x3, .int x4] [] (u, ml_h m lm) Φ = wp Ln xs 166 49 [.ref 72, .int x1, .int x2, .int x3, .int x4] [.int x3] (u, ml_h m lm) Φ := wp_same xd166_48 (Or.inr rfl) rfl
theorem x166_49 {x1 : Int32} {x2 : Int32} {x3 : Int32} {x4 : Int32} {xs0 : Int32} : wp Ln xs 166 49 [.ref 72, .int x1, .int x2, .int x3, .int x4] [.int xs0] (u, ml_h m lm) Φ = wp Ln xs 166 13 [.ref 72, .int x1, .int x2, .int xs0, .int (x4 + nI 1)] [] (u, ml_h m lm) Φ := (wp_same (L' := [.ref 72, .int x1, .int x2, .int xs0, .int x4]) xd166_49 (Or.inr rfl) rfl).trans ((wp_same (L' := [.ref 72, .int x1, .int x2, .int xs0, .int (x4 + nI 1)]) xd166_50 (Or.inr rfl) rfl).trans (wx_goto xd166_53 rfl))
theorem x166_56 {x1 : Int32} {x2 : Int32} {x3 : Int32} {x4 : Int32} : wp Ln xs 166 56 [.ref 72, .int x1, .int x2, .int x3, .int x4] [] (u, ml_h m lm) Φ = Φ (.inl (some (.int x3))) (u, ml_h m lm) := (wp_same xd166_56 (Or.inr rfl) rfl).trans (wp_fin (v := some (.int x3)) xd166_57 (Or.inr rfl) rfl (mj_fin_i rfl))
/- PickedFormsModel.wide -/
theorem xd167_0 : decode (mj_b 167) 0 = .ok (.iconst 0, 1) := by decide +kernel
theorem xd167_1 : decode (mj_b 167) 1 = .ok (.istore_n 1, 1) := by decide +kernel
theorem xd167_2 : decode (mj_b 167) 2 = .ok (.iload_n 0, 1) := by decide +kernel
theorem xd167_3 : decode (mj_b 167) 3 = .ok (.istore_n 2, 1) := by decide +kernel
theorem xd167_4 : decode (mj_b 167) 4 = .ok (.iload_n 2, 1) := by decide +kernel
theorem xd167_5 : decode (mj_b 167) 5 = .ok (.ifCond .le 13, 3) := by decide +kernel
theorem xd167_8 : decode (mj_b 167) 8 = .ok (.iinc 1 1, 3) := by decide +kernel
theorem xd167_11 : decode (mj_b 167) 11 = .ok (.iload_n 2, 1) := by decide +kernel
theorem xd167_12 : decode (mj_b 167) 12 = .ok (.iconst 1, 1) := by decide +kernel
theorem xd167_13 : decode (mj_b 167) 13 = .ok (.ishr, 1) := by decide +kernel
theorem xd167_14 : decode (mj_b 167) 14 = .ok (.istore_n 2, 1) := by decide +kernel
theorem xd167_15 : decode (mj_b 167) 15 = .ok (.goto (-11), 3) := by decide +kernel
theorem xd167_18 : decode (mj_b 167) 18 = .ok (.iload_n 1, 1) := by decide +kernel
theorem xd167_19 : decode (mj_b 167) 19 = .ok (.ireturn, 1) := by decide +kernel
theorem x167_0 {x0 : Int32} : wp Ln xs 167 0 [.int x0, mj_hole, mj_hole] [] (u, ml_h m lm) Φ = wp Ln xs 167 4 [.int x0, .int (nI 0), .int x0] [] (u, ml_h m lm) Φ := (wp_same (S' := [.int (nI 0)]) xd167_0 (Or.inr rfl) rfl).trans ((wp_same (L' := [.int x0, .int (nI 0), mj_hole]) xd167_1 (Or.inr rfl) rfl).trans ((wp_same xd167_2 (Or.inr rfl) rfl).trans (wp_same (L' := [.int x0, .int (nI 0), .int x0]) xd167_3 (Or.inr rfl) rfl)))
theorem x167_4 {x0 : Int32} {x1 : Int32} {x2 : Int32} : wp Ln xs 167 4 [.int x0, .int x1, .int x2] [] (u, ml_h m lm) Φ = if x2 ≤ (nI 0) then wp Ln xs 167 18 [.int x0, .int x1, .int x2] [] (u, ml_h m lm) Φ else wp Ln xs 167 8 [.int x0, .int x1, .int x2] [] (u, ml_h m lm) Φ := (wp_same xd167_4 (Or.inr rfl) rfl).trans (wx_if xd167_5 rfl rfl (x2 ≤ (nI 0)) mb_le)
theorem x167_8 {x0 : Int32} {x1 : Int32} {x2 : Int32} : wp Ln xs 167 8 [.int x0, .int x1, .int x2] [] (u, ml_h m lm) Φ = wp Ln xs 167 4 [.int x0, .int (x1 + nI 1), .int (x2 >>> ((nI 1) &&& 31))] [] (u, ml_h m lm) Φ := (wp_same (L' := [.int x0, .int (x1 + nI 1), .int x2]) xd167_8 (Or.inr rfl) rfl).trans ((wp_same xd167_11 (Or.inr rfl) rfl).trans ((wp_same (S' := [.int (nI 1), .int x2]) xd167_12 (Or.inr rfl) rfl).trans ((wp_same xd167_13 (Or.inr rfl) rfl).trans ((wp_same (L' := [.int x0, .int (x1 + nI 1), .int (x2 >>> ((nI 1) &&& 31))]) xd167_14 (Or.inr rfl) rfl).trans (wx_goto xd167_15 rfl)))))
theorem x167_18 {x0 : Int32} {x1 : Int32} {x2 : Int32} : wp Ln xs 167 18 [.int x0, .int x1, .int x2] [] (u, ml_h m lm) Φ = Φ (.inl (some (.int x1))) (u, ml_h m lm) := (wp_same xd167_18 (Or.inr rfl) rfl).trans (wp_fin (v := some (.int x1)) xd167_19 (Or.inr rfl) rfl (mj_fin_i rfl))
/- PickedFormsModel.runsOf -/
theorem xd168_0 : decode (mj_b 168) 0 = .ok (.iconst 1, 1) := by decide +kernel
theorem xd168_1 : decode (mj_b 168) 1 = .ok (.istore_n 3, 1) := by decide +kernel
theorem xd168_2 : decode (mj_b 168) 2 = .ok (.iload_n 1, 1) := by decide +kernel
theorem xd168_3 : decode (mj_b 168) 3 = .ok (.iconst 1, 1) := by decide +kernel
theorem xd168_4 : decode (mj_b 168) 4 = .ok (.iadd, 1) := by decide +kernel
theorem xd168_5 : decode (mj_b 168) 5 = .ok (.istore 4, 2) := by decide +kernel
theorem xd168_7 : decode (mj_b 168) 7 = .ok (.iload 4, 2) := by decide +kernel
theorem xd168_9 : decode (mj_b 168) 9 = .ok (.iload_n 1, 1) := by decide +kernel
theorem xd168_10 : decode (mj_b 168) 10 = .ok (.iload_n 2, 1) := by decide +kernel
theorem xd168_11 : decode (mj_b 168) 11 = .ok (.iadd, 1) := by decide +kernel
theorem xd168_12 : decode (mj_b 168) 12 = .ok (.if_icmp .ge 42, 3) := by decide +kernel
theorem xd168_15 : decode (mj_b 168) 15 = .ok (.iload_n 3, 1) := by decide +kernel
theorem xd168_16 : decode (mj_b 168) 16 = .ok (.aload_n 0, 1) := by decide +kernel
theorem xd168_17 : decode (mj_b 168) 17 = .ok (.getfield 7, 3) := by decide +kernel
theorem xd168_20 : decode (mj_b 168) 20 = .ok (.bipush 43, 2) := by decide +kernel
theorem xd168_22 : decode (mj_b 168) 22 = .ok (.iload 4, 2) := by decide +kernel
theorem xd168_24 : decode (mj_b 168) 24 = .ok (.iadd, 1) := by decide +kernel
theorem xd168_25 : decode (mj_b 168) 25 = .ok (.iaload, 1) := by decide +kernel
theorem xd168_26 : decode (mj_b 168) 26 = .ok (.aload_n 0, 1) := by decide +kernel
theorem xd168_27 : decode (mj_b 168) 27 = .ok (.getfield 7, 3) := by decide +kernel
theorem xd168_30 : decode (mj_b 168) 30 = .ok (.bipush 43, 2) := by decide +kernel
theorem xd168_32 : decode (mj_b 168) 32 = .ok (.iload 4, 2) := by decide +kernel
theorem xd168_34 : decode (mj_b 168) 34 = .ok (.iadd, 1) := by decide +kernel
theorem xd168_35 : decode (mj_b 168) 35 = .ok (.iconst 1, 1) := by decide +kernel
theorem xd168_36 : decode (mj_b 168) 36 = .ok (.isub, 1) := by decide +kernel
theorem xd168_37 : decode (mj_b 168) 37 = .ok (.iaload, 1) := by decide +kernel
theorem xd168_38 : decode (mj_b 168) 38 = .ok (.if_icmp .eq 7, 3) := by decide +kernel
theorem xd168_41 : decode (mj_b 168) 41 = .ok (.iconst 1, 1) := by decide +kernel
theorem xd168_42 : decode (mj_b 168) 42 = .ok (.goto 4, 3) := by decide +kernel
theorem xd168_45 : decode (mj_b 168) 45 = .ok (.iconst 0, 1) := by decide +kernel
theorem xd168_46 : decode (mj_b 168) 46 = .ok (.iadd, 1) := by decide +kernel
theorem xd168_47 : decode (mj_b 168) 47 = .ok (.istore_n 3, 1) := by decide +kernel
theorem xd168_48 : decode (mj_b 168) 48 = .ok (.iinc 4 1, 3) := by decide +kernel
theorem xd168_51 : decode (mj_b 168) 51 = .ok (.goto (-44), 3) := by decide +kernel
theorem xd168_54 : decode (mj_b 168) 54 = .ok (.iload_n 3, 1) := by decide +kernel
theorem xd168_55 : decode (mj_b 168) 55 = .ok (.ireturn, 1) := by decide +kernel
theorem x168_0 {x1 : Int32} {x2 : Int32} : wp Ln xs 168 0 [.ref 72, .int x1, .int x2, mj_hole, mj_hole] [] (u, ml_h m lm) Φ = wp Ln xs 168 7 [.ref 72, .int x1, .int x2, .int (nI 1), .int (x1 + (nI 1))] [] (u, ml_h m lm) Φ := (wp_same (S' := [.int (nI 1)]) xd168_0 (Or.inr rfl) rfl).trans ((wp_same (L' := [.ref 72, .int x1, .int x2, .int (nI 1), mj_hole]) xd168_1 (Or.inr rfl) rfl).trans ((wp_same xd168_2 (Or.inr rfl) rfl).trans ((wp_same (S' := [.int (nI 1), .int x1]) xd168_3 (Or.inr rfl) rfl).trans ((wp_same xd168_4 (Or.inr rfl) rfl).trans (wp_same (L' := [.ref 72, .int x1, .int x2, .int (nI 1), .int (x1 + (nI 1))]) xd168_5 (Or.inr rfl) rfl)))))
theorem x168_7 {x1 : Int32} {x2 : Int32} {x3 : Int32} {x4 : Int32} : wp Ln xs 168 7 [.ref 72, .int x1, .int x2, .int x3, .int x4] [] (u, ml_h m lm) Φ = if (x1 + x2) ≤ x4 then wp Ln xs 168 54 [.ref 72, .int x1, .int x2, .int x3, .int x4] [] (u, ml_h m lm) Φ else wp Ln xs 168 15 [.ref 72, .int x1, .int x2, .int x3, .int x4] [] (u, ml_h m lm) Φ := (wp_same xd168_7 (Or.inr rfl) rfl).trans ((wp_same xd168_9 (Or.inr rfl) rfl).trans ((wp_same xd168_10 (Or.inr rfl) rfl).trans ((wp_same xd168_11 (Or.inr rfl) rfl).trans (wx_icmp xd168_12 rfl rfl ((x1 + x2) ≤ x4) mb_ge))))
theorem x168_15 {x1 : Int32} {x2 : Int32} {x3 : Int32} {x4 : Int32} : wp Ln xs 168 15 [.ref 72, .int x1, .int x2, .int x3, .int x4] [] (u, ml_h m lm) Φ = wp Ln xs 168 25 [.ref 72, .int x1, .int x2, .int x3, .int x4] [.int ((nI 43) + x4), .ref 73, .int x3] (u, ml_h m lm) Φ := (wp_same xd168_15 (Or.inr rfl) rfl).trans ((wp_same xd168_16 (Or.inr rfl) rfl).trans ((wm_getr xd168_17 rfl (show ml_L[72]? = _ from rfl) rfl (Nat.le_of_ble_eq_true rfl)).trans ((wp_same (S' := [.int (nI 43), .ref 73, .int x3]) xd168_20 (Or.inr rfl) rfl).trans ((wp_same xd168_22 (Or.inr rfl) rfl).trans (wp_same xd168_24 (Or.inr rfl) rfl)))))
theorem x168_25 {x1 : Int32} {x2 : Int32} {x3 : Int32} {x4 : Int32} {k : Nat} {xs2 : Int32} (hk : k < 251) : wp Ln xs 168 25 [.ref 72, .int x1, .int x2, .int x3, .int x4] [.int (nI k), .ref 73, .int xs2] (u, ml_h m lm) Φ = wp Ln xs 168 37 [.ref 72, .int x1, .int x2, .int x3, .int x4] [.int (((nI 43) + x4) - (nI 1)), .ref 73, .int (m 73 k), .int xs2] (u, ml_h m lm) Φ := (wm_iald (k := k) xd168_25 ml_ia_73 (by decide) hk).trans ((wp_same xd168_26 (Or.inr rfl) rfl).trans ((wm_getr xd168_27 rfl (show ml_L[72]? = _ from rfl) rfl (Nat.le_of_ble_eq_true rfl)).trans ((wp_same (S' := [.int (nI 43), .ref 73, .int (m 73 k), .int xs2]) xd168_30 (Or.inr rfl) rfl).trans ((wp_same xd168_32 (Or.inr rfl) rfl).trans ((wp_same xd168_34 (Or.inr rfl) rfl).trans ((wp_same (S' := [.int (nI 1), .int ((nI 43) + x4), .ref 73, .int (m 73 k), .int xs2]) xd168_35 (Or.inr rfl) rfl).trans (wp_same xd168_36 (Or.inr rfl) rfl)))))))
theorem x168_37 {x1 : Int32} {x2 : Int32} {x3 : Int32} {x4 : Int32} {k : Nat} {xs2 : Int32} {xs3 : Int32} (hk : k < 251) : wp Ln xs 168 37 [.ref 72, .int x1, .int x2, .int x3, .int x4] [.int (nI k), .ref 73, .int xs2, .int xs3] (u, ml_h m lm) Φ = if xs2 = (m 73 k) then wp Ln xs 168 45 [.ref 72, .int x1, .int x2, .int x3, .int x4] [.int xs3] (u, ml_h m lm) Φ else wp Ln xs 168 41 [.ref 72, .int x1, .int x2, .int x3, .int x4] [.int xs3] (u, ml_h m lm) Φ := (wm_iald (k := k) xd168_37 ml_ia_73 (by decide) hk).trans (wx_icmp xd168_38 rfl rfl (xs2 = (m 73 k)) mb_eq)
theorem x168_41 {x1 : Int32} {x2 : Int32} {x3 : Int32} {x4 : Int32} {xs0 : Int32} : wp Ln xs 168 41 [.ref 72, .int x1, .int x2, .int x3, .int x4] [.int xs0] (u, ml_h m lm) Φ = wp Ln xs 168 46 [.ref 72, .int x1, .int x2, .int x3, .int x4] [.int (nI 1), .int xs0] (u, ml_h m lm) Φ := (wp_same (S' := [.int (nI 1), .int xs0]) xd168_41 (Or.inr rfl) rfl).trans (wx_goto xd168_42 rfl)
theorem x168_45 {x1 : Int32} {x2 : Int32} {x3 : Int32} {x4 : Int32} {xs0 : Int32} : wp Ln xs 168 45 [.ref 72, .int x1, .int x2, .int x3, .int x4] [.int xs0] (u, ml_h m lm) Φ = wp Ln xs 168 46 [.ref 72, .int x1, .int x2, .int x3, .int x4] [.int (nI 0), .int xs0] (u, ml_h m lm) Φ := wp_same (S' := [.int (nI 0), .int xs0]) xd168_45 (Or.inr rfl) rfl
theorem x168_46 {x1 : Int32} {x2 : Int32} {x3 : Int32} {x4 : Int32} {xs0 : Int32} {xs1 : Int32} : wp Ln xs 168 46 [.ref 72, .int x1, .int x2, .int x3, .int x4] [.int xs0, .int xs1] (u, ml_h m lm) Φ = wp Ln xs 168 7 [.ref 72, .int x1, .int x2, .int (xs1 + xs0), .int (x4 + nI 1)] [] (u, ml_h m lm) Φ := (wp_same xd168_46 (Or.inr rfl) rfl).trans ((wp_same (L' := [.ref 72, .int x1, .int x2, .int (xs1 + xs0), .int x4]) xd168_47 (Or.inr rfl) rfl).trans ((wp_same (L' := [.ref 72, .int x1, .int x2, .int (xs1 + xs0), .int (x4 + nI 1)]) xd168_48 (Or.inr rfl) rfl).trans (wx_goto xd168_51 rfl)))
theorem x168_54 {x1 : Int32} {x2 : Int32} {x3 : Int32} {x4 : Int32} : wp Ln xs 168 54 [.ref 72, .int x1, .int x2, .int x3, .int x4] [] (u, ml_h m lm) Φ = Φ (.inl (some (.int x3))) (u, ml_h m lm) := (wp_same xd168_54 (Or.inr rfl) rfl).trans (wp_fin (v := some (.int x3)) xd168_55 (Or.inr rfl) rfl (mj_fin_i rfl))
/- PickedFormsModel.greatestStep -/
theorem xd169_0 : decode (mj_b 169) 0 = .ok (.iconst 0, 1) := by decide +kernel
theorem xd169_1 : decode (mj_b 169) 1 = .ok (.istore_n 3, 1) := by decide +kernel
theorem xd169_2 : decode (mj_b 169) 2 = .ok (.iload_n 1, 1) := by decide +kernel
theorem xd169_3 : decode (mj_b 169) 3 = .ok (.iconst 1, 1) := by decide +kernel
theorem xd169_4 : decode (mj_b 169) 4 = .ok (.iadd, 1) := by decide +kernel
theorem xd169_5 : decode (mj_b 169) 5 = .ok (.istore 4, 2) := by decide +kernel
theorem xd169_7 : decode (mj_b 169) 7 = .ok (.iload 4, 2) := by decide +kernel
theorem xd169_9 : decode (mj_b 169) 9 = .ok (.iload_n 1, 1) := by decide +kernel
theorem xd169_10 : decode (mj_b 169) 10 = .ok (.iload_n 2, 1) := by decide +kernel
theorem xd169_11 : decode (mj_b 169) 11 = .ok (.iadd, 1) := by decide +kernel
theorem xd169_12 : decode (mj_b 169) 12 = .ok (.if_icmp .ge 30, 3) := by decide +kernel
theorem xd169_15 : decode (mj_b 169) 15 = .ok (.aload_n 0, 1) := by decide +kernel
theorem xd169_16 : decode (mj_b 169) 16 = .ok (.iload 4, 2) := by decide +kernel
theorem xd169_18 : decode (mj_b 169) 18 = .ok (.invokevirtual 57, 3) := by decide +kernel
theorem xd169_21 : decode (mj_b 169) 21 = .ok (.iload_n 3, 1) := by decide +kernel
theorem xd169_22 : decode (mj_b 169) 22 = .ok (.if_icmp .le 12, 3) := by decide +kernel
theorem xd169_25 : decode (mj_b 169) 25 = .ok (.aload_n 0, 1) := by decide +kernel
theorem xd169_26 : decode (mj_b 169) 26 = .ok (.iload 4, 2) := by decide +kernel
theorem xd169_28 : decode (mj_b 169) 28 = .ok (.invokevirtual 57, 3) := by decide +kernel
theorem xd169_31 : decode (mj_b 169) 31 = .ok (.goto 4, 3) := by decide +kernel
theorem xd169_34 : decode (mj_b 169) 34 = .ok (.iload_n 3, 1) := by decide +kernel
theorem xd169_35 : decode (mj_b 169) 35 = .ok (.istore_n 3, 1) := by decide +kernel
theorem xd169_36 : decode (mj_b 169) 36 = .ok (.iinc 4 1, 3) := by decide +kernel
theorem xd169_39 : decode (mj_b 169) 39 = .ok (.goto (-32), 3) := by decide +kernel
theorem xd169_42 : decode (mj_b 169) 42 = .ok (.iload_n 3, 1) := by decide +kernel
theorem xd169_43 : decode (mj_b 169) 43 = .ok (.ireturn, 1) := by decide +kernel
theorem x169_0 {x1 : Int32} {x2 : Int32} : wp Ln xs 169 0 [.ref 72, .int x1, .int x2, mj_hole, mj_hole] [] (u, ml_h m lm) Φ = wp Ln xs 169 7 [.ref 72, .int x1, .int x2, .int (nI 0), .int (x1 + (nI 1))] [] (u, ml_h m lm) Φ := (wp_same (S' := [.int (nI 0)]) xd169_0 (Or.inr rfl) rfl).trans ((wp_same (L' := [.ref 72, .int x1, .int x2, .int (nI 0), mj_hole]) xd169_1 (Or.inr rfl) rfl).trans ((wp_same xd169_2 (Or.inr rfl) rfl).trans ((wp_same (S' := [.int (nI 1), .int x1]) xd169_3 (Or.inr rfl) rfl).trans ((wp_same xd169_4 (Or.inr rfl) rfl).trans (wp_same (L' := [.ref 72, .int x1, .int x2, .int (nI 0), .int (x1 + (nI 1))]) xd169_5 (Or.inr rfl) rfl)))))
theorem x169_7 {x1 : Int32} {x2 : Int32} {x3 : Int32} {x4 : Int32} : wp Ln xs 169 7 [.ref 72, .int x1, .int x2, .int x3, .int x4] [] (u, ml_h m lm) Φ = if (x1 + x2) ≤ x4 then wp Ln xs 169 42 [.ref 72, .int x1, .int x2, .int x3, .int x4] [] (u, ml_h m lm) Φ else wp Ln xs 169 15 [.ref 72, .int x1, .int x2, .int x3, .int x4] [] (u, ml_h m lm) Φ := (wp_same xd169_7 (Or.inr rfl) rfl).trans ((wp_same xd169_9 (Or.inr rfl) rfl).trans ((wp_same xd169_10 (Or.inr rfl) rfl).trans ((wp_same xd169_11 (Or.inr rfl) rfl).trans (wx_icmp xd169_12 rfl rfl ((x1 + x2) ≤ x4) mb_ge))))
theorem x169_15 {x1 : Int32} {x2 : Int32} {x3 : Int32} {x4 : Int32} : wp Ln xs 169 15 [.ref 72, .int x1, .int x2, .int x3, .int x4] [] (u, ml_h m lm) Φ = wp Ln xs 170 0 [.ref 72, .int x4, mj_hole] [] (u, ml_h m lm) (mk Ln xs 169 18 [.ref 72, .int x1, .int x2, .int x3, .int x4] [] Φ) := (wp_same xd169_15 (Or.inr rfl) rfl).trans ((wp_same xd169_16 (Or.inr rfl) rfl).trans (wm_cv (As := [.int x4]) (rest := []) xd169_18 rfl rfl (show ml_L[72]? = _ from rfl) (Nat.le_of_ble_eq_true rfl) (Nat.le_of_ble_eq_true rfl) (Nat.le_of_ble_eq_true rfl) (Nat.le_of_ble_eq_true rfl)))
theorem x169_21 {x1 : Int32} {x2 : Int32} {x3 : Int32} {x4 : Int32} {xs0 : Int32} : wp Ln xs 169 21 [.ref 72, .int x1, .int x2, .int x3, .int x4] [.int xs0] (u, ml_h m lm) Φ = if xs0 ≤ x3 then wp Ln xs 169 34 [.ref 72, .int x1, .int x2, .int x3, .int x4] [] (u, ml_h m lm) Φ else wp Ln xs 169 25 [.ref 72, .int x1, .int x2, .int x3, .int x4] [] (u, ml_h m lm) Φ := (wp_same xd169_21 (Or.inr rfl) rfl).trans (wx_icmp xd169_22 rfl rfl (xs0 ≤ x3) mb_le)
theorem x169_25 {x1 : Int32} {x2 : Int32} {x3 : Int32} {x4 : Int32} : wp Ln xs 169 25 [.ref 72, .int x1, .int x2, .int x3, .int x4] [] (u, ml_h m lm) Φ = wp Ln xs 170 0 [.ref 72, .int x4, mj_hole] [] (u, ml_h m lm) (mk Ln xs 169 28 [.ref 72, .int x1, .int x2, .int x3, .int x4] [] Φ) := (wp_same xd169_25 (Or.inr rfl) rfl).trans ((wp_same xd169_26 (Or.inr rfl) rfl).trans (wm_cv (As := [.int x4]) (rest := []) xd169_28 rfl rfl (show ml_L[72]? = _ from rfl) (Nat.le_of_ble_eq_true rfl) (Nat.le_of_ble_eq_true rfl) (Nat.le_of_ble_eq_true rfl) (Nat.le_of_ble_eq_true rfl)))
theorem x169_31 {x1 : Int32} {x2 : Int32} {x3 : Int32} {x4 : Int32} {xs0 : Int32} : wp Ln xs 169 31 [.ref 72, .int x1, .int x2, .int x3, .int x4] [.int xs0] (u, ml_h m lm) Φ = wp Ln xs 169 35 [.ref 72, .int x1, .int x2, .int x3, .int x4] [.int xs0] (u, ml_h m lm) Φ := wx_goto xd169_31 rfl
theorem x169_34 {x1 : Int32} {x2 : Int32} {x3 : Int32} {x4 : Int32} : wp Ln xs 169 34 [.ref 72, .int x1, .int x2, .int x3, .int x4] [] (u, ml_h m lm) Φ = wp Ln xs 169 35 [.ref 72, .int x1, .int x2, .int x3, .int x4] [.int x3] (u, ml_h m lm) Φ := wp_same xd169_34 (Or.inr rfl) rfl
theorem x169_35 {x1 : Int32} {x2 : Int32} {x3 : Int32} {x4 : Int32} {xs0 : Int32} : wp Ln xs 169 35 [.ref 72, .int x1, .int x2, .int x3, .int x4] [.int xs0] (u, ml_h m lm) Φ = wp Ln xs 169 7 [.ref 72, .int x1, .int x2, .int xs0, .int (x4 + nI 1)] [] (u, ml_h m lm) Φ := (wp_same (L' := [.ref 72, .int x1, .int x2, .int xs0, .int x4]) xd169_35 (Or.inr rfl) rfl).trans ((wp_same (L' := [.ref 72, .int x1, .int x2, .int xs0, .int (x4 + nI 1)]) xd169_36 (Or.inr rfl) rfl).trans (wx_goto xd169_39 rfl))
theorem x169_42 {x1 : Int32} {x2 : Int32} {x3 : Int32} {x4 : Int32} : wp Ln xs 169 42 [.ref 72, .int x1, .int x2, .int x3, .int x4] [] (u, ml_h m lm) Φ = Φ (.inl (some (.int x3))) (u, ml_h m lm) := (wp_same xd169_42 (Or.inr rfl) rfl).trans (wp_fin (v := some (.int x3)) xd169_43 (Or.inr rfl) rfl (mj_fin_i rfl))
/- PickedFormsModel.step -/
theorem xd170_0 : decode (mj_b 170) 0 = .ok (.aload_n 0, 1) := by decide +kernel
theorem xd170_1 : decode (mj_b 170) 1 = .ok (.getfield 7, 3) := by decide +kernel
theorem xd170_4 : decode (mj_b 170) 4 = .ok (.bipush 43, 2) := by decide +kernel
theorem xd170_6 : decode (mj_b 170) 6 = .ok (.iload_n 1, 1) := by decide +kernel
theorem xd170_7 : decode (mj_b 170) 7 = .ok (.iadd, 1) := by decide +kernel
theorem xd170_8 : decode (mj_b 170) 8 = .ok (.iaload, 1) := by decide +kernel
theorem xd170_9 : decode (mj_b 170) 9 = .ok (.aload_n 0, 1) := by decide +kernel
theorem xd170_10 : decode (mj_b 170) 10 = .ok (.getfield 7, 3) := by decide +kernel
theorem xd170_13 : decode (mj_b 170) 13 = .ok (.bipush 43, 2) := by decide +kernel
theorem xd170_15 : decode (mj_b 170) 15 = .ok (.iload_n 1, 1) := by decide +kernel
theorem xd170_16 : decode (mj_b 170) 16 = .ok (.iadd, 1) := by decide +kernel
theorem xd170_17 : decode (mj_b 170) 17 = .ok (.iconst 1, 1) := by decide +kernel
theorem xd170_18 : decode (mj_b 170) 18 = .ok (.isub, 1) := by decide +kernel
theorem xd170_19 : decode (mj_b 170) 19 = .ok (.iaload, 1) := by decide +kernel
theorem xd170_20 : decode (mj_b 170) 20 = .ok (.isub, 1) := by decide +kernel
theorem xd170_21 : decode (mj_b 170) 21 = .ok (.istore_n 2, 1) := by decide +kernel
theorem xd170_22 : decode (mj_b 170) 22 = .ok (.iload_n 2, 1) := by decide +kernel
theorem xd170_23 : decode (mj_b 170) 23 = .ok (.ifCond .ge 12, 3) := by decide +kernel
theorem xd170_26 : decode (mj_b 170) 26 = .ok (.bipush (-2), 2) := by decide +kernel
theorem xd170_28 : decode (mj_b 170) 28 = .ok (.iload_n 2, 1) := by decide +kernel
theorem xd170_29 : decode (mj_b 170) 29 = .ok (.imul, 1) := by decide +kernel
theorem xd170_30 : decode (mj_b 170) 30 = .ok (.iconst 1, 1) := by decide +kernel
theorem xd170_31 : decode (mj_b 170) 31 = .ok (.isub, 1) := by decide +kernel
theorem xd170_32 : decode (mj_b 170) 32 = .ok (.goto 6, 3) := by decide +kernel
theorem xd170_35 : decode (mj_b 170) 35 = .ok (.iconst 2, 1) := by decide +kernel
theorem xd170_36 : decode (mj_b 170) 36 = .ok (.iload_n 2, 1) := by decide +kernel
theorem xd170_37 : decode (mj_b 170) 37 = .ok (.imul, 1) := by decide +kernel
theorem xd170_38 : decode (mj_b 170) 38 = .ok (.ireturn, 1) := by decide +kernel
theorem x170_0 {x1 : Int32} : wp Ln xs 170 0 [.ref 72, .int x1, mj_hole] [] (u, ml_h m lm) Φ = wp Ln xs 170 8 [.ref 72, .int x1, mj_hole] [.int ((nI 43) + x1), .ref 73] (u, ml_h m lm) Φ := (wp_same xd170_0 (Or.inr rfl) rfl).trans ((wm_getr xd170_1 rfl (show ml_L[72]? = _ from rfl) rfl (Nat.le_of_ble_eq_true rfl)).trans ((wp_same (S' := [.int (nI 43), .ref 73]) xd170_4 (Or.inr rfl) rfl).trans ((wp_same xd170_6 (Or.inr rfl) rfl).trans (wp_same xd170_7 (Or.inr rfl) rfl))))
theorem x170_8 {x1 : Int32} {k : Nat} (hk : k < 251) : wp Ln xs 170 8 [.ref 72, .int x1, mj_hole] [.int (nI k), .ref 73] (u, ml_h m lm) Φ = wp Ln xs 170 19 [.ref 72, .int x1, mj_hole] [.int (((nI 43) + x1) - (nI 1)), .ref 73, .int (m 73 k)] (u, ml_h m lm) Φ := (wm_iald (k := k) xd170_8 ml_ia_73 (by decide) hk).trans ((wp_same xd170_9 (Or.inr rfl) rfl).trans ((wm_getr xd170_10 rfl (show ml_L[72]? = _ from rfl) rfl (Nat.le_of_ble_eq_true rfl)).trans ((wp_same (S' := [.int (nI 43), .ref 73, .int (m 73 k)]) xd170_13 (Or.inr rfl) rfl).trans ((wp_same xd170_15 (Or.inr rfl) rfl).trans ((wp_same xd170_16 (Or.inr rfl) rfl).trans ((wp_same (S' := [.int (nI 1), .int ((nI 43) + x1), .ref 73, .int (m 73 k)]) xd170_17 (Or.inr rfl) rfl).trans (wp_same xd170_18 (Or.inr rfl) rfl)))))))
theorem x170_19 {x1 : Int32} {k : Nat} {xs2 : Int32} (hk : k < 251) : wp Ln xs 170 19 [.ref 72, .int x1, mj_hole] [.int (nI k), .ref 73, .int xs2] (u, ml_h m lm) Φ = if (nI 0) ≤ (xs2 - (m 73 k)) then wp Ln xs 170 35 [.ref 72, .int x1, .int (xs2 - (m 73 k))] [] (u, ml_h m lm) Φ else wp Ln xs 170 26 [.ref 72, .int x1, .int (xs2 - (m 73 k))] [] (u, ml_h m lm) Φ := (wm_iald (k := k) xd170_19 ml_ia_73 (by decide) hk).trans ((wp_same xd170_20 (Or.inr rfl) rfl).trans ((wp_same (L' := [.ref 72, .int x1, .int (xs2 - (m 73 k))]) xd170_21 (Or.inr rfl) rfl).trans ((wp_same xd170_22 (Or.inr rfl) rfl).trans (wx_if xd170_23 rfl rfl ((nI 0) ≤ (xs2 - (m 73 k))) mb_ge))))
theorem x170_26 {x1 : Int32} {x2 : Int32} : wp Ln xs 170 26 [.ref 72, .int x1, .int x2] [] (u, ml_h m lm) Φ = Φ (.inl (some (.int ((((-2)) * x2) - (nI 1))))) (u, ml_h m lm) := (wp_same (S' := [.int ((-2))]) xd170_26 (Or.inr rfl) rfl).trans ((wp_same xd170_28 (Or.inr rfl) rfl).trans ((wp_same xd170_29 (Or.inr rfl) rfl).trans ((wp_same (S' := [.int (nI 1), .int (((-2)) * x2)]) xd170_30 (Or.inr rfl) rfl).trans ((wp_same xd170_31 (Or.inr rfl) rfl).trans ((wx_goto xd170_32 rfl).trans (wp_fin (v := some (.int ((((-2)) * x2) - (nI 1)))) xd170_38 (Or.inr rfl) rfl (mj_fin_i rfl)))))))
theorem x170_35 {x1 : Int32} {x2 : Int32} : wp Ln xs 170 35 [.ref 72, .int x1, .int x2] [] (u, ml_h m lm) Φ = Φ (.inl (some (.int ((nI 2) * x2)))) (u, ml_h m lm) := (wp_same (S' := [.int (nI 2)]) xd170_35 (Or.inr rfl) rfl).trans ((wp_same xd170_36 (Or.inr rfl) rfl).trans ((wp_same xd170_37 (Or.inr rfl) rfl).trans (wp_fin (v := some (.int ((nI 2) * x2))) xd170_38 (Or.inr rfl) rfl (mj_fin_i rfl))))
end MXh
