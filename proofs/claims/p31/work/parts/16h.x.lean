/-! ===== an equation for each straight piece of a method ===== -/
section MXh
variable {Ln : Nat} {xs : Nat → Int32} {u : mj_U} {m : ml_M} {lm : ml_J} {Φ : mj_R → mj_W → Prop}
/- PickedForms$Column.openSlot -/
theorem xd115_0 : decode (mj_b 115) 0 = .ok (.aload_n 0, 1) := by decide +kernel
theorem xd115_1 : decode (mj_b 115) 1 = .ok (.getfield 31, 3) := by decide +kernel
theorem xd115_4 : decode (mj_b 115) 4 = .ok (.istore_n 2, 1) := by decide +kernel
theorem xd115_5 : decode (mj_b 115) 5 = .ok (.iload_n 2, 1) := by decide +kernel
theorem xd115_6 : decode (mj_b 115) 6 = .ok (.iload_n 1, 1) := by decide +kernel
theorem xd115_7 : decode (mj_b 115) 7 = .ok (.if_icmp .le 17, 3) := by decide +kernel
theorem xd115_10 : decode (mj_b 115) 10 = .ok (.aload_n 0, 1) := by decide +kernel
theorem xd115_11 : decode (mj_b 115) 11 = .ok (.iload_n 2, 1) := by decide +kernel
theorem xd115_12 : decode (mj_b 115) 12 = .ok (.iconst 1, 1) := by decide +kernel
theorem xd115_13 : decode (mj_b 115) 13 = .ok (.isub, 1) := by decide +kernel
theorem xd115_14 : decode (mj_b 115) 14 = .ok (.iload_n 2, 1) := by decide +kernel
theorem xd115_15 : decode (mj_b 115) 15 = .ok (.invokevirtual 65, 3) := by decide +kernel
theorem xd115_18 : decode (mj_b 115) 18 = .ok (.iinc 2 (-1), 3) := by decide +kernel
theorem xd115_21 : decode (mj_b 115) 21 = .ok (.goto (-16), 3) := by decide +kernel
theorem xd115_24 : decode (mj_b 115) 24 = .ok (.aload_n 0, 1) := by decide +kernel
theorem xd115_25 : decode (mj_b 115) 25 = .ok (.dup, 1) := by decide +kernel
theorem xd115_26 : decode (mj_b 115) 26 = .ok (.getfield 31, 3) := by decide +kernel
theorem xd115_29 : decode (mj_b 115) 29 = .ok (.iconst 1, 1) := by decide +kernel
theorem xd115_30 : decode (mj_b 115) 30 = .ok (.iadd, 1) := by decide +kernel
theorem xd115_31 : decode (mj_b 115) 31 = .ok (.putfield 31, 3) := by decide +kernel
theorem xd115_34 : decode (mj_b 115) 34 = .ok (.return_, 1) := by decide +kernel
theorem x115_0 {x1 : Int32} : wp Ln xs 115 0 [.ref 2, .int x1, mj_hole] [] (u, ml_h m lm) Φ = wp Ln xs 115 5 [.ref 2, .int x1, .int (m 2 6)] [] (u, ml_h m lm) Φ := (wp_same xd115_0 (Or.inr rfl) rfl).trans ((wm_geti xd115_1 rfl (show ml_L[2]? = _ from rfl) rfl (Nat.le_of_ble_eq_true rfl)).trans (wp_same (L' := [.ref 2, .int x1, .int (m 2 6)]) xd115_4 (Or.inr rfl) rfl))
theorem x115_5 {x1 : Int32} {x2 : Int32} : wp Ln xs 115 5 [.ref 2, .int x1, .int x2] [] (u, ml_h m lm) Φ = if x2 ≤ x1 then wp Ln xs 115 24 [.ref 2, .int x1, .int x2] [] (u, ml_h m lm) Φ else wp Ln xs 115 10 [.ref 2, .int x1, .int x2] [] (u, ml_h m lm) Φ := (wp_same xd115_5 (Or.inr rfl) rfl).trans ((wp_same xd115_6 (Or.inr rfl) rfl).trans (wx_icmp xd115_7 rfl rfl (x2 ≤ x1) mb_le))
theorem x115_10 {x1 : Int32} {x2 : Int32} : wp Ln xs 115 10 [.ref 2, .int x1, .int x2] [] (u, ml_h m lm) Φ = wp Ln xs 112 0 [.ref 2, .int (x2 - (nI 1)), .int x2] [] (u, ml_h m lm) (mk Ln xs 115 15 [.ref 2, .int x1, .int x2] [] Φ) := (wp_same xd115_10 (Or.inr rfl) rfl).trans ((wp_same xd115_11 (Or.inr rfl) rfl).trans ((wp_same (S' := [.int (nI 1), .int x2, .ref 2]) xd115_12 (Or.inr rfl) rfl).trans ((wp_same xd115_13 (Or.inr rfl) rfl).trans ((wp_same xd115_14 (Or.inr rfl) rfl).trans (wm_cv (As := [.int (x2 - (nI 1)), .int x2]) (rest := []) xd115_15 rfl rfl (show ml_L[2]? = _ from rfl) (Nat.le_of_ble_eq_true rfl) (Nat.le_of_ble_eq_true rfl) (Nat.le_of_ble_eq_true rfl) (Nat.le_of_ble_eq_true rfl))))))
theorem x115_18 {x1 : Int32} {x2 : Int32} : wp Ln xs 115 18 [.ref 2, .int x1, .int x2] [] (u, ml_h m lm) Φ = wp Ln xs 115 5 [.ref 2, .int x1, .int (x2 + (-1))] [] (u, ml_h m lm) Φ := (wp_same (L' := [.ref 2, .int x1, .int (x2 + (-1))]) xd115_18 (Or.inr rfl) rfl).trans (wx_goto xd115_21 rfl)
theorem x115_24 {x1 : Int32} {x2 : Int32} : wp Ln xs 115 24 [.ref 2, .int x1, .int x2] [] (u, ml_h m lm) Φ = Φ (.inl none) (u, ml_h (ml_s m 2 6 ((m 2 6) + (nI 1))) lm) := (wp_same xd115_24 (Or.inr rfl) rfl).trans ((wp_same xd115_25 (Or.inr rfl) rfl).trans ((wm_geti xd115_26 rfl (show ml_L[2]? = _ from rfl) rfl (Nat.le_of_ble_eq_true rfl)).trans ((wp_same (S' := [.int (nI 1), .int (m 2 6), .ref 2]) xd115_29 (Or.inr rfl) rfl).trans ((wp_same xd115_30 (Or.inr rfl) rfl).trans ((wm_puti xd115_31 rfl (show ml_L[2]? = _ from rfl) rfl (Nat.le_of_ble_eq_true rfl) rfl rfl rfl).trans (wp_fin (v := none) xd115_34 (Or.inr rfl) rfl rfl))))))
/- PickedForms.undo -/
theorem xd116_0 : decode (mj_b 116) 0 = .ok (.aload_n 0, 1) := by decide +kernel
theorem xd116_1 : decode (mj_b 116) 1 = .ok (.getfield 26, 3) := by decide +kernel
theorem xd116_4 : decode (mj_b 116) 4 = .ok (.getfield 245, 3) := by decide +kernel
theorem xd116_7 : decode (mj_b 116) 7 = .ok (.ifCond .ne 13, 3) := by decide +kernel
theorem xd116_10 : decode (mj_b 116) 10 = .ok (.new 91, 3) := by decide +kernel
theorem xd116_20 : decode (mj_b 116) 20 = .ok (.aload_n 0, 1) := by decide +kernel
theorem xd116_21 : decode (mj_b 116) 21 = .ok (.getfield 26, 3) := by decide +kernel
theorem xd116_24 : decode (mj_b 116) 24 = .ok (.aload_n 0, 1) := by decide +kernel
theorem xd116_25 : decode (mj_b 116) 25 = .ok (.getfield 12, 3) := by decide +kernel
theorem xd116_28 : decode (mj_b 116) 28 = .ok (.invokevirtual 250, 3) := by decide +kernel
theorem xd116_31 : decode (mj_b 116) 31 = .ok (.aload_n 0, 1) := by decide +kernel
theorem xd116_32 : decode (mj_b 116) 32 = .ok (.getfield 26, 3) := by decide +kernel
theorem xd116_35 : decode (mj_b 116) 35 = .ok (.getfield 245, 3) := by decide +kernel
theorem xd116_38 : decode (mj_b 116) 38 = .ok (.ireturn, 1) := by decide +kernel
theorem x116_0 : wp Ln xs 116 0 [.ref 1] [] (u, ml_h m lm) Φ = if ¬ (m 14 2) = (nI 0) then wp Ln xs 116 20 [.ref 1] [] (u, ml_h m lm) Φ else wp Ln xs 116 10 [.ref 1] [] (u, ml_h m lm) Φ := (wp_same xd116_0 (Or.inr rfl) rfl).trans ((wm_getr xd116_1 rfl (show ml_L[1]? = _ from rfl) rfl (Nat.le_of_ble_eq_true rfl)).trans ((wm_geti xd116_4 rfl (show ml_L[14]? = _ from rfl) rfl (Nat.le_of_ble_eq_true rfl)).trans (wx_if xd116_7 rfl rfl (¬ (m 14 2) = (nI 0)) mb_ne)))
theorem x116_10 : wp Ln xs 116 10 [.ref 1] [] (u, ml_h m lm) Φ = Φ (.inr 1) ((u.1, u.2.1 + 1, u.2.2 + 6), ml_h m lm) := wp_thr xd116_10 (Or.inr rfl) rfl rfl (E := 1) (by decide +kernel)
theorem x116_20 : wp Ln xs 116 20 [.ref 1] [] (u, ml_h m lm) Φ = wp Ln xs 117 0 [.ref 14, .ref 2, mj_hole] [] (u, ml_h m lm) (mk Ln xs 116 28 [.ref 1] [] Φ) := (wp_same xd116_20 (Or.inr rfl) rfl).trans ((wm_getr xd116_21 rfl (show ml_L[1]? = _ from rfl) rfl (Nat.le_of_ble_eq_true rfl)).trans ((wp_same xd116_24 (Or.inr rfl) rfl).trans ((wm_getr xd116_25 rfl (show ml_L[1]? = _ from rfl) rfl (Nat.le_of_ble_eq_true rfl)).trans (wm_cv (As := [.ref 2]) (rest := []) xd116_28 rfl rfl (show ml_L[14]? = _ from rfl) (Nat.le_of_ble_eq_true rfl) (Nat.le_of_ble_eq_true rfl) (Nat.le_of_ble_eq_true rfl) (Nat.le_of_ble_eq_true rfl)))))
theorem x116_31 : wp Ln xs 116 31 [.ref 1] [] (u, ml_h m lm) Φ = Φ (.inl (some (.int (m 14 2)))) (u, ml_h m lm) := (wp_same xd116_31 (Or.inr rfl) rfl).trans ((wm_getr xd116_32 rfl (show ml_L[1]? = _ from rfl) rfl (Nat.le_of_ble_eq_true rfl)).trans ((wm_geti xd116_35 rfl (show ml_L[14]? = _ from rfl) rfl (Nat.le_of_ble_eq_true rfl)).trans (wp_fin (v := some (.int (m 14 2))) xd116_38 (Or.inr rfl) rfl (mj_fin_i rfl))))
/- PickedForms$History.popInto -/
theorem xd117_0 : decode (mj_b 117) 0 = .ok (.aload_n 0, 1) := by decide +kernel
theorem xd117_1 : decode (mj_b 117) 1 = .ok (.getfield 21, 3) := by decide +kernel
theorem xd117_4 : decode (mj_b 117) 4 = .ok (.ifCond .le 36, 3) := by decide +kernel
theorem xd117_7 : decode (mj_b 117) 7 = .ok (.aload_n 0, 1) := by decide +kernel
theorem xd117_8 : decode (mj_b 117) 8 = .ok (.dup, 1) := by decide +kernel
theorem xd117_9 : decode (mj_b 117) 9 = .ok (.getfield 21, 3) := by decide +kernel
theorem xd117_12 : decode (mj_b 117) 12 = .ok (.iconst 1, 1) := by decide +kernel
theorem xd117_13 : decode (mj_b 117) 13 = .ok (.isub, 1) := by decide +kernel
theorem xd117_14 : decode (mj_b 117) 14 = .ok (.putfield 21, 3) := by decide +kernel
theorem xd117_17 : decode (mj_b 117) 17 = .ok (.aload_n 0, 1) := by decide +kernel
theorem xd117_18 : decode (mj_b 117) 18 = .ok (.aload_n 0, 1) := by decide +kernel
theorem xd117_19 : decode (mj_b 117) 19 = .ok (.getfield 17, 3) := by decide +kernel
theorem xd117_22 : decode (mj_b 117) 22 = .ok (.aload_n 0, 1) := by decide +kernel
theorem xd117_23 : decode (mj_b 117) 23 = .ok (.getfield 21, 3) := by decide +kernel
theorem xd117_26 : decode (mj_b 117) 26 = .ok (.iadd, 1) := by decide +kernel
theorem xd117_27 : decode (mj_b 117) 27 = .ok (.invokevirtual 25, 3) := by decide +kernel
theorem xd117_30 : decode (mj_b 117) 30 = .ok (.astore_n 2, 1) := by decide +kernel
theorem xd117_31 : decode (mj_b 117) 31 = .ok (.aload_n 2, 1) := by decide +kernel
theorem xd117_32 : decode (mj_b 117) 32 = .ok (.ifnull 8, 3) := by decide +kernel
theorem xd117_35 : decode (mj_b 117) 35 = .ok (.aload_n 1, 1) := by decide +kernel
theorem xd117_36 : decode (mj_b 117) 36 = .ok (.aload_n 2, 1) := by decide +kernel
theorem xd117_37 : decode (mj_b 117) 37 = .ok (.invokevirtual 29, 3) := by decide +kernel
theorem xd117_40 : decode (mj_b 117) 40 = .ok (.return_, 1) := by decide +kernel
theorem x117_0 : wp Ln xs 117 0 [.ref 14, .ref 2, mj_hole] [] (u, ml_h m lm) Φ = if (m 14 2) ≤ (nI 0) then wp Ln xs 117 40 [.ref 14, .ref 2, mj_hole] [] (u, ml_h m lm) Φ else wp Ln xs 117 7 [.ref 14, .ref 2, mj_hole] [] (u, ml_h m lm) Φ := (wp_same xd117_0 (Or.inr rfl) rfl).trans ((wm_geti xd117_1 rfl (show ml_L[14]? = _ from rfl) rfl (Nat.le_of_ble_eq_true rfl)).trans (wx_if xd117_4 rfl rfl ((m 14 2) ≤ (nI 0)) mb_le))
theorem x117_7 : wp Ln xs 117 7 [.ref 14, .ref 2, mj_hole] [] (u, ml_h m lm) Φ = wp Ln xs 13 0 [.ref 14, .int (((ml_s m 14 2 ((m 14 2) - (nI 1))) 14 1) + ((ml_s m 14 2 ((m 14 2) - (nI 1))) 14 2)), mj_hole] [] (u, ml_h (ml_s m 14 2 ((m 14 2) - (nI 1))) lm) (mk Ln xs 117 27 [.ref 14, .ref 2, mj_hole] [] Φ) := (wp_same xd117_7 (Or.inr rfl) rfl).trans ((wp_same xd117_8 (Or.inr rfl) rfl).trans ((wm_geti xd117_9 rfl (show ml_L[14]? = _ from rfl) rfl (Nat.le_of_ble_eq_true rfl)).trans ((wp_same (S' := [.int (nI 1), .int (m 14 2), .ref 14]) xd117_12 (Or.inr rfl) rfl).trans ((wp_same xd117_13 (Or.inr rfl) rfl).trans ((wm_puti xd117_14 rfl (show ml_L[14]? = _ from rfl) rfl (Nat.le_of_ble_eq_true rfl) rfl rfl rfl).trans ((wp_same xd117_17 (Or.inr rfl) rfl).trans ((wp_same xd117_18 (Or.inr rfl) rfl).trans ((wm_geti xd117_19 rfl (show ml_L[14]? = _ from rfl) rfl (Nat.le_of_ble_eq_true rfl)).trans ((wp_same xd117_22 (Or.inr rfl) rfl).trans ((wm_geti xd117_23 rfl (show ml_L[14]? = _ from rfl) rfl (Nat.le_of_ble_eq_true rfl)).trans ((wp_same xd117_26 (Or.inr rfl) rfl).trans (wm_cv (As := [.int (((ml_s m 14 2 ((m 14 2) - (nI 1))) 14 1) + ((ml_s m 14 2 ((m 14 2) - (nI 1))) 14 2))]) (rest := []) xd117_27 rfl rfl (show ml_L[14]? = _ from rfl) (Nat.le_of_ble_eq_true rfl) (Nat.le_of_ble_eq_true rfl) (Nat.le_of_ble_eq_true rfl) (Nat.le_of_ble_eq_true rfl)))))))))))))
theorem x117_30 {rs0 : Nat} : wp Ln xs 117 30 [.ref 14, .ref 2, mj_hole] [.ref rs0] (u, ml_h m lm) Φ = wp Ln xs 14 0 [.ref 2, .ref rs0] [] (u, ml_h m lm) (mk Ln xs 117 37 [.ref 14, .ref 2, .ref rs0] [] Φ) := (wp_same (L' := [.ref 14, .ref 2, .ref rs0]) xd117_30 (Or.inr rfl) rfl).trans ((wp_same xd117_31 (Or.inr rfl) rfl).trans ((wp_same xd117_32 (Or.inr rfl) rfl).trans ((wp_same xd117_35 (Or.inr rfl) rfl).trans ((wp_same xd117_36 (Or.inr rfl) rfl).trans (wm_cv (As := [.ref rs0]) (rest := []) xd117_37 rfl rfl (show ml_L[2]? = _ from rfl) (Nat.le_of_ble_eq_true rfl) (Nat.le_of_ble_eq_true rfl) (Nat.le_of_ble_eq_true rfl) (Nat.le_of_ble_eq_true rfl))))))
theorem x117_40 {v2 : Value} : wp Ln xs 117 40 [.ref 14, .ref 2, v2] [] (u, ml_h m lm) Φ = Φ (.inl none) (u, ml_h m lm) := wp_fin (v := none) xd117_40 (Or.inr rfl) rfl rfl
/- PickedForms.drop -/
theorem xd118_0 : decode (mj_b 118) 0 = .ok (.aload_n 0, 1) := by decide +kernel
theorem xd118_1 : decode (mj_b 118) 1 = .ok (.getfield 12, 3) := by decide +kernel
theorem xd118_4 : decode (mj_b 118) 4 = .ok (.iload_n 1, 1) := by decide +kernel
theorem xd118_5 : decode (mj_b 118) 5 = .ok (.invokevirtual 154, 3) := by decide +kernel
theorem xd118_8 : decode (mj_b 118) 8 = .ok (.ifCond .ne 13, 3) := by decide +kernel
theorem xd118_11 : decode (mj_b 118) 11 = .ok (.new 130, 3) := by decide +kernel
theorem xd118_21 : decode (mj_b 118) 21 = .ok (.aload_n 0, 1) := by decide +kernel
theorem xd118_22 : decode (mj_b 118) 22 = .ok (.getfield 26, 3) := by decide +kernel
theorem xd118_25 : decode (mj_b 118) 25 = .ok (.aload_n 0, 1) := by decide +kernel
theorem xd118_26 : decode (mj_b 118) 26 = .ok (.getfield 12, 3) := by decide +kernel
theorem xd118_29 : decode (mj_b 118) 29 = .ok (.invokevirtual 96, 3) := by decide +kernel
theorem xd118_32 : decode (mj_b 118) 32 = .ok (.aload_n 0, 1) := by decide +kernel
theorem xd118_33 : decode (mj_b 118) 33 = .ok (.getfield 12, 3) := by decide +kernel
theorem xd118_36 : decode (mj_b 118) 36 = .ok (.iload_n 1, 1) := by decide +kernel
theorem xd118_37 : decode (mj_b 118) 37 = .ok (.invokevirtual 164, 3) := by decide +kernel
theorem xd118_40 : decode (mj_b 118) 40 = .ok (.istore_n 2, 1) := by decide +kernel
theorem xd118_41 : decode (mj_b 118) 41 = .ok (.aload_n 0, 1) := by decide +kernel
theorem xd118_42 : decode (mj_b 118) 42 = .ok (.getfield 12, 3) := by decide +kernel
theorem xd118_45 : decode (mj_b 118) 45 = .ok (.aload_n 0, 1) := by decide +kernel
theorem xd118_46 : decode (mj_b 118) 46 = .ok (.getfield 12, 3) := by decide +kernel
theorem xd118_49 : decode (mj_b 118) 49 = .ok (.iload_n 1, 1) := by decide +kernel
theorem xd118_50 : decode (mj_b 118) 50 = .ok (.invokevirtual 182, 3) := by decide +kernel
theorem xd118_53 : decode (mj_b 118) 53 = .ok (.iload_n 2, 1) := by decide +kernel
theorem xd118_54 : decode (mj_b 118) 54 = .ok (.invokevirtual 185, 3) := by decide +kernel
theorem xd118_57 : decode (mj_b 118) 57 = .ok (.aload_n 0, 1) := by decide +kernel
theorem xd118_58 : decode (mj_b 118) 58 = .ok (.getfield 12, 3) := by decide +kernel
theorem xd118_61 : decode (mj_b 118) 61 = .ok (.iload_n 1, 1) := by decide +kernel
theorem xd118_62 : decode (mj_b 118) 62 = .ok (.invokevirtual 169, 3) := by decide +kernel
theorem xd118_65 : decode (mj_b 118) 65 = .ok (.iload_n 2, 1) := by decide +kernel
theorem xd118_66 : decode (mj_b 118) 66 = .ok (.ireturn, 1) := by decide +kernel
theorem x118_0 {x1 : Int32} : wp Ln xs 118 0 [.ref 1, .int x1, mj_hole] [] (u, ml_h m lm) Φ = wp Ln xs 11 0 [.ref 2, .int x1] [] (u, ml_h m lm) (mk Ln xs 118 5 [.ref 1, .int x1, mj_hole] [] Φ) := (wp_same xd118_0 (Or.inr rfl) rfl).trans ((wm_getr xd118_1 rfl (show ml_L[1]? = _ from rfl) rfl (Nat.le_of_ble_eq_true rfl)).trans ((wp_same xd118_4 (Or.inr rfl) rfl).trans (wm_cv (As := [.int x1]) (rest := []) xd118_5 rfl rfl (show ml_L[2]? = _ from rfl) (Nat.le_of_ble_eq_true rfl) (Nat.le_of_ble_eq_true rfl) (Nat.le_of_ble_eq_true rfl) (Nat.le_of_ble_eq_true rfl))))
theorem x118_8 {x1 : Int32} {xs0 : Int32} : wp Ln xs 118 8 [.ref 1, .int x1, mj_hole] [.int xs0] (u, ml_h m lm) Φ = if ¬ xs0 = (nI 0) then wp Ln xs 118 21 [.ref 1, .int x1, mj_hole] [] (u, ml_h m lm) Φ else wp Ln xs 118 11 [.ref 1, .int x1, mj_hole] [] (u, ml_h m lm) Φ := wx_if xd118_8 rfl rfl (¬ xs0 = (nI 0)) mb_ne
theorem x118_11 {x1 : Int32} : wp Ln xs 118 11 [.ref 1, .int x1, mj_hole] [] (u, ml_h m lm) Φ = Φ (.inr 2) ((u.1, u.2.1 + 1, u.2.2 + 6), ml_h m lm) := wp_thr xd118_11 (Or.inr rfl) rfl rfl (E := 2) (by decide +kernel)
theorem x118_21 {x1 : Int32} : wp Ln xs 118 21 [.ref 1, .int x1, mj_hole] [] (u, ml_h m lm) Φ = wp Ln xs 12 0 [.ref 14, .ref 2, mj_hole] [] (u, ml_h m lm) (mk Ln xs 118 29 [.ref 1, .int x1, mj_hole] [] Φ) := (wp_same xd118_21 (Or.inr rfl) rfl).trans ((wm_getr xd118_22 rfl (show ml_L[1]? = _ from rfl) rfl (Nat.le_of_ble_eq_true rfl)).trans ((wp_same xd118_25 (Or.inr rfl) rfl).trans ((wm_getr xd118_26 rfl (show ml_L[1]? = _ from rfl) rfl (Nat.le_of_ble_eq_true rfl)).trans (wm_cv (As := [.ref 2]) (rest := []) xd118_29 rfl rfl (show ml_L[14]? = _ from rfl) (Nat.le_of_ble_eq_true rfl) (Nat.le_of_ble_eq_true rfl) (Nat.le_of_ble_eq_true rfl) (Nat.le_of_ble_eq_true rfl)))))
theorem x118_32 {x1 : Int32} : wp Ln xs 118 32 [.ref 1, .int x1, mj_hole] [] (u, ml_h m lm) Φ = wp Ln xs 20 0 [.ref 2, .int x1] [] (u, ml_h m lm) (mk Ln xs 118 37 [.ref 1, .int x1, mj_hole] [] Φ) := (wp_same xd118_32 (Or.inr rfl) rfl).trans ((wm_getr xd118_33 rfl (show ml_L[1]? = _ from rfl) rfl (Nat.le_of_ble_eq_true rfl)).trans ((wp_same xd118_36 (Or.inr rfl) rfl).trans (wm_cv (As := [.int x1]) (rest := []) xd118_37 rfl rfl (show ml_L[2]? = _ from rfl) (Nat.le_of_ble_eq_true rfl) (Nat.le_of_ble_eq_true rfl) (Nat.le_of_ble_eq_true rfl) (Nat.le_of_ble_eq_true rfl))))
theorem x118_40 {x1 : Int32} {xs0 : Int32} : wp Ln xs 118 40 [.ref 1, .int x1, mj_hole] [.int xs0] (u, ml_h m lm) Φ = wp Ln xs 19 0 [.ref 2, .int x1, mj_hole, mj_hole] [] (u, ml_h m lm) (mk Ln xs 118 50 [.ref 1, .int x1, .int xs0] [.ref 2] Φ) := (wp_same (L' := [.ref 1, .int x1, .int xs0]) xd118_40 (Or.inr rfl) rfl).trans ((wp_same xd118_41 (Or.inr rfl) rfl).trans ((wm_getr xd118_42 rfl (show ml_L[1]? = _ from rfl) rfl (Nat.le_of_ble_eq_true rfl)).trans ((wp_same xd118_45 (Or.inr rfl) rfl).trans ((wm_getr xd118_46 rfl (show ml_L[1]? = _ from rfl) rfl (Nat.le_of_ble_eq_true rfl)).trans ((wp_same xd118_49 (Or.inr rfl) rfl).trans (wm_cv (As := [.int x1]) (rest := [.ref 2]) xd118_50 rfl rfl (show ml_L[2]? = _ from rfl) (Nat.le_of_ble_eq_true rfl) (Nat.le_of_ble_eq_true rfl) (Nat.le_of_ble_eq_true rfl) (Nat.le_of_ble_eq_true rfl)))))))
theorem x118_53 {x1 : Int32} {x2 : Int32} {xs0 : Int32} : wp Ln xs 118 53 [.ref 1, .int x1, .int x2] [.int xs0, .ref 2] (u, ml_h m lm) Φ = wp Ln xs 119 0 [.ref 2, .int xs0, .int x2, mj_hole] [] (u, ml_h m lm) (mk Ln xs 118 54 [.ref 1, .int x1, .int x2] [] Φ) := (wp_same xd118_53 (Or.inr rfl) rfl).trans (wm_cv (As := [.int xs0, .int x2]) (rest := []) xd118_54 rfl rfl (show ml_L[2]? = _ from rfl) (Nat.le_of_ble_eq_true rfl) (Nat.le_of_ble_eq_true rfl) (Nat.le_of_ble_eq_true rfl) (Nat.le_of_ble_eq_true rfl))
theorem x118_57 {x1 : Int32} {x2 : Int32} : wp Ln xs 118 57 [.ref 1, .int x1, .int x2] [] (u, ml_h m lm) Φ = wp Ln xs 111 0 [.ref 2, .int x1, mj_hole] [] (u, ml_h m lm) (mk Ln xs 118 62 [.ref 1, .int x1, .int x2] [] Φ) := (wp_same xd118_57 (Or.inr rfl) rfl).trans ((wm_getr xd118_58 rfl (show ml_L[1]? = _ from rfl) rfl (Nat.le_of_ble_eq_true rfl)).trans ((wp_same xd118_61 (Or.inr rfl) rfl).trans (wm_cv (As := [.int x1]) (rest := []) xd118_62 rfl rfl (show ml_L[2]? = _ from rfl) (Nat.le_of_ble_eq_true rfl) (Nat.le_of_ble_eq_true rfl) (Nat.le_of_ble_eq_true rfl) (Nat.le_of_ble_eq_true rfl))))
theorem x118_65 {x1 : Int32} {x2 : Int32} : wp Ln xs 118 65 [.ref 1, .int x1, .int x2] [] (u, ml_h m lm) Φ = Φ (.inl (some (.int x2))) (u, ml_h m lm) := (wp_same xd118_65 (Or.inr rfl) rfl).trans (wp_fin (v := some (.int x2)) xd118_66 (Or.inr rfl) rfl (mj_fin_i rfl))
/- PickedForms$Column.removeValues -/
theorem xd119_0 : decode (mj_b 119) 0 = .ok (.iload_n 1, 1) := by decide +kernel
theorem xd119_1 : decode (mj_b 119) 1 = .ok (.istore_n 3, 1) := by decide +kernel
theorem xd119_2 : decode (mj_b 119) 2 = .ok (.iload_n 3, 1) := by decide +kernel
theorem xd119_3 : decode (mj_b 119) 3 = .ok (.iload_n 2, 1) := by decide +kernel
theorem xd119_4 : decode (mj_b 119) 4 = .ok (.iadd, 1) := by decide +kernel
theorem xd119_5 : decode (mj_b 119) 5 = .ok (.aload_n 0, 1) := by decide +kernel
theorem xd119_6 : decode (mj_b 119) 6 = .ok (.getfield 27, 3) := by decide +kernel
theorem xd119_9 : decode (mj_b 119) 9 = .ok (.if_icmp .ge 27, 3) := by decide +kernel
theorem xd119_12 : decode (mj_b 119) 12 = .ok (.aload_n 0, 1) := by decide +kernel
theorem xd119_13 : decode (mj_b 119) 13 = .ok (.getfield 9, 3) := by decide +kernel
theorem xd119_16 : decode (mj_b 119) 16 = .ok (.iload_n 3, 1) := by decide +kernel
theorem xd119_17 : decode (mj_b 119) 17 = .ok (.aload_n 0, 1) := by decide +kernel
theorem xd119_18 : decode (mj_b 119) 18 = .ok (.getfield 9, 3) := by decide +kernel
theorem xd119_21 : decode (mj_b 119) 21 = .ok (.iload_n 3, 1) := by decide +kernel
theorem xd119_22 : decode (mj_b 119) 22 = .ok (.iload_n 2, 1) := by decide +kernel
theorem xd119_23 : decode (mj_b 119) 23 = .ok (.iadd, 1) := by decide +kernel
theorem xd119_24 : decode (mj_b 119) 24 = .ok (.invokestatic 46, 3) := by decide +kernel
theorem xd119_27 : decode (mj_b 119) 27 = .ok (.invokestatic 61, 3) := by decide +kernel
theorem xd119_30 : decode (mj_b 119) 30 = .ok (.iinc 3 1, 3) := by decide +kernel
theorem xd119_33 : decode (mj_b 119) 33 = .ok (.goto (-31), 3) := by decide +kernel
theorem xd119_36 : decode (mj_b 119) 36 = .ok (.aload_n 0, 1) := by decide +kernel
theorem xd119_37 : decode (mj_b 119) 37 = .ok (.dup, 1) := by decide +kernel
theorem xd119_38 : decode (mj_b 119) 38 = .ok (.getfield 27, 3) := by decide +kernel
theorem xd119_41 : decode (mj_b 119) 41 = .ok (.iload_n 2, 1) := by decide +kernel
theorem xd119_42 : decode (mj_b 119) 42 = .ok (.isub, 1) := by decide +kernel
theorem xd119_43 : decode (mj_b 119) 43 = .ok (.putfield 27, 3) := by decide +kernel
theorem xd119_46 : decode (mj_b 119) 46 = .ok (.return_, 1) := by decide +kernel
theorem x119_0 {x1 : Int32} {x2 : Int32} : wp Ln xs 119 0 [.ref 2, .int x1, .int x2, mj_hole] [] (u, ml_h m lm) Φ = wp Ln xs 119 2 [.ref 2, .int x1, .int x2, .int x1] [] (u, ml_h m lm) Φ := (wp_same xd119_0 (Or.inr rfl) rfl).trans (wp_same (L' := [.ref 2, .int x1, .int x2, .int x1]) xd119_1 (Or.inr rfl) rfl)
theorem x119_2 {x1 : Int32} {x2 : Int32} {x3 : Int32} : wp Ln xs 119 2 [.ref 2, .int x1, .int x2, .int x3] [] (u, ml_h m lm) Φ = if (m 2 5) ≤ (x3 + x2) then wp Ln xs 119 36 [.ref 2, .int x1, .int x2, .int x3] [] (u, ml_h m lm) Φ else wp Ln xs 119 12 [.ref 2, .int x1, .int x2, .int x3] [] (u, ml_h m lm) Φ := (wp_same xd119_2 (Or.inr rfl) rfl).trans ((wp_same xd119_3 (Or.inr rfl) rfl).trans ((wp_same xd119_4 (Or.inr rfl) rfl).trans ((wp_same xd119_5 (Or.inr rfl) rfl).trans ((wm_geti xd119_6 rfl (show ml_L[2]? = _ from rfl) rfl (Nat.le_of_ble_eq_true rfl)).trans (wx_icmp xd119_9 rfl rfl ((m 2 5) ≤ (x3 + x2)) mb_ge)))))
theorem x119_12 {x1 : Int32} {x2 : Int32} {x3 : Int32} : wp Ln xs 119 12 [.ref 2, .int x1, .int x2, .int x3] [] (u, ml_h m lm) Φ = wp Ln xs 17 0 [.ref 3, .int (x3 + x2)] [] (u, ml_h m lm) (mk Ln xs 119 24 [.ref 2, .int x1, .int x2, .int x3] [.int x3, .ref 3] Φ) := (wp_same xd119_12 (Or.inr rfl) rfl).trans ((wm_getr xd119_13 rfl (show ml_L[2]? = _ from rfl) rfl (Nat.le_of_ble_eq_true rfl)).trans ((wp_same xd119_16 (Or.inr rfl) rfl).trans ((wp_same xd119_17 (Or.inr rfl) rfl).trans ((wm_getr xd119_18 rfl (show ml_L[2]? = _ from rfl) rfl (Nat.le_of_ble_eq_true rfl)).trans ((wp_same xd119_21 (Or.inr rfl) rfl).trans ((wp_same xd119_22 (Or.inr rfl) rfl).trans ((wp_same xd119_23 (Or.inr rfl) rfl).trans (wm_cs (As := [.ref 3, .int (x3 + x2)]) (rest := [.int x3, .ref 3]) xd119_24 rfl rfl (Nat.le_of_ble_eq_true rfl) (Nat.le_of_ble_eq_true rfl) (Nat.le_of_ble_eq_true rfl) (Nat.le_of_ble_eq_true rfl)))))))))
theorem x119_27 {x1 : Int32} {x2 : Int32} {x3 : Int32} {xs0 : Int32} {xs1 : Int32} : wp Ln xs 119 27 [.ref 2, .int x1, .int x2, .int x3] [.int xs0, .int xs1, .ref 3] (u, ml_h m lm) Φ = wp Ln xs 29 0 [.ref 3, .int xs1, .int xs0] [] (u, ml_h m lm) (mk Ln xs 119 27 [.ref 2, .int x1, .int x2, .int x3] [] Φ) := wm_cs (As := [.ref 3, .int xs1, .int xs0]) (rest := []) xd119_27 rfl rfl (Nat.le_of_ble_eq_true rfl) (Nat.le_of_ble_eq_true rfl) (Nat.le_of_ble_eq_true rfl) (Nat.le_of_ble_eq_true rfl)
theorem x119_30 {x1 : Int32} {x2 : Int32} {x3 : Int32} : wp Ln xs 119 30 [.ref 2, .int x1, .int x2, .int x3] [] (u, ml_h m lm) Φ = wp Ln xs 119 2 [.ref 2, .int x1, .int x2, .int (x3 + nI 1)] [] (u, ml_h m lm) Φ := (wp_same (L' := [.ref 2, .int x1, .int x2, .int (x3 + nI 1)]) xd119_30 (Or.inr rfl) rfl).trans (wx_goto xd119_33 rfl)
theorem x119_36 {x1 : Int32} {x2 : Int32} {x3 : Int32} : wp Ln xs 119 36 [.ref 2, .int x1, .int x2, .int x3] [] (u, ml_h m lm) Φ = Φ (.inl none) (u, ml_h (ml_s m 2 5 ((m 2 5) - x2)) lm) := (wp_same xd119_36 (Or.inr rfl) rfl).trans ((wp_same xd119_37 (Or.inr rfl) rfl).trans ((wm_geti xd119_38 rfl (show ml_L[2]? = _ from rfl) rfl (Nat.le_of_ble_eq_true rfl)).trans ((wp_same xd119_41 (Or.inr rfl) rfl).trans ((wp_same xd119_42 (Or.inr rfl) rfl).trans ((wm_puti xd119_43 rfl (show ml_L[2]? = _ from rfl) rfl (Nat.le_of_ble_eq_true rfl) rfl rfl rfl).trans (wp_fin (v := none) xd119_46 (Or.inr rfl) rfl rfl))))))
end MXh
