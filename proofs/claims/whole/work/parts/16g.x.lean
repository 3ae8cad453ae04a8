/-! ===== an equation for each straight piece of a method ===== -/
section MXg
variable {Ln : Nat} {xs : Nat → Int32} {u : mj_U} {m : ml_M} {lm : ml_J} {Φ : mj_R → mj_W → Prop}
/- PickedForms$Text.take -/
theorem xd115_0 : decode (mj_b 115) 0 = .ok (.aload_n 0, 1) := by decide +kernel
theorem xd115_1 : decode (mj_b 115) 1 = .ok (.getfield 9, 3) := by decide +kernel
theorem xd115_4 : decode (mj_b 115) 4 = .ok (.aload_n 0, 1) := by decide +kernel
theorem xd115_5 : decode (mj_b 115) 5 = .ok (.getfield 15, 3) := by decide +kernel
theorem xd115_8 : decode (mj_b 115) 8 = .ok (.iload_n 1, 1) := by decide +kernel
theorem xd115_9 : decode (mj_b 115) 9 = .ok (.invokestatic 28, 3) := by decide +kernel
theorem xd115_12 : decode (mj_b 115) 12 = .ok (.aload_n 0, 1) := by decide +kernel
theorem xd115_13 : decode (mj_b 115) 13 = .ok (.dup, 1) := by decide +kernel
theorem xd115_14 : decode (mj_b 115) 14 = .ok (.getfield 15, 3) := by decide +kernel
theorem xd115_17 : decode (mj_b 115) 17 = .ok (.iconst 1, 1) := by decide +kernel
theorem xd115_18 : decode (mj_b 115) 18 = .ok (.iadd, 1) := by decide +kernel
theorem xd115_19 : decode (mj_b 115) 19 = .ok (.putfield 15, 3) := by decide +kernel
theorem xd115_22 : decode (mj_b 115) 22 = .ok (.return_, 1) := by decide +kernel
theorem x115_0 {x1 : Int32} : wp Ln xs 115 0 [.ref 52, .int x1] [] (u, ml_h m lm) Φ = wp Ln xs 55 0 [.ref 53, .int (m 52 1), .int x1] [] (u, ml_h m lm) (mk Ln xs 115 9 [.ref 52, .int x1] [] Φ) := (wp_same xd115_0 (Or.inr rfl) rfl).trans ((wm_getr xd115_1 rfl (show ml_L[52]? = _ from rfl) rfl (Nat.le_of_ble_eq_true rfl)).trans ((wp_same xd115_4 (Or.inr rfl) rfl).trans ((wm_geti xd115_5 rfl (show ml_L[52]? = _ from rfl) rfl (Nat.le_of_ble_eq_true rfl)).trans ((wp_same xd115_8 (Or.inr rfl) rfl).trans (wm_cs (As := [.ref 53, .int (m 52 1), .int x1]) (rest := []) xd115_9 rfl rfl (Nat.le_of_ble_eq_true rfl) (Nat.le_of_ble_eq_true rfl) (Nat.le_of_ble_eq_true rfl) (Nat.le_of_ble_eq_true rfl))))))
theorem x115_12 {x1 : Int32} : wp Ln xs 115 12 [.ref 52, .int x1] [] (u, ml_h m lm) Φ = Φ (.inl none) (u, ml_h (ml_s m 52 1 ((m 52 1) + (nI 1))) lm) := (wp_same xd115_12 (Or.inr rfl) rfl).trans ((wp_same xd115_13 (Or.inr rfl) rfl).trans ((wm_geti xd115_14 rfl (show ml_L[52]? = _ from rfl) rfl (Nat.le_of_ble_eq_true rfl)).trans ((wp_same (S' := [.int (nI 1), .int (m 52 1), .ref 52]) xd115_17 (Or.inr rfl) rfl).trans ((wp_same xd115_18 (Or.inr rfl) rfl).trans ((wm_puti xd115_19 rfl (show ml_L[52]? = _ from rfl) rfl (Nat.le_of_ble_eq_true rfl) rfl rfl rfl).trans (wp_fin (v := none) xd115_22 (Or.inr rfl) rfl rfl))))))
/- PickedFormsLaw.load -/
theorem xd116_0 : decode (mj_b 116) 0 = .ok (.aload_n 1, 1) := by decide +kernel
theorem xd116_1 : decode (mj_b 116) 1 = .ok (.iconst 0, 1) := by decide +kernel
theorem xd116_2 : decode (mj_b 116) 2 = .ok (.aload_n 0, 1) := by decide +kernel
theorem xd116_3 : decode (mj_b 116) 3 = .ok (.invokevirtual 45, 3) := by decide +kernel
theorem xd116_6 : decode (mj_b 116) 6 = .ok (.i2l, 1) := by decide +kernel
theorem xd116_7 : decode (mj_b 116) 7 = .ok (.lastore, 1) := by decide +kernel
theorem xd116_8 : decode (mj_b 116) 8 = .ok (.goto 6, 3) := by decide +kernel
theorem xd116_12 : decode (mj_b 116) 12 = .ok (.iconst 1, 1) := by decide +kernel
theorem xd116_13 : decode (mj_b 116) 13 = .ok (.ireturn, 1) := by decide +kernel
theorem xd116_14 : decode (mj_b 116) 14 = .ok (.iconst 0, 1) := by decide +kernel
theorem xd116_15 : decode (mj_b 116) 15 = .ok (.ireturn, 1) := by decide +kernel
theorem x116_0 : wp Ln xs 116 0 [.ref 1, .ref 81, mj_hole] [] (u, ml_h m lm) Φ = wp Ln xs 117 0 [.ref 1, mj_hole, mj_hole, mj_hole, mj_hole, mj_hole] [] (u, ml_h m lm) (mk Ln xs 116 3 [.ref 1, .ref 81, mj_hole] [.int (nI 0), .ref 81] Φ) := (wp_same xd116_0 (Or.inr rfl) rfl).trans ((wp_same (S' := [.int (nI 0), .ref 81]) xd116_1 (Or.inr rfl) rfl).trans ((wp_same xd116_2 (Or.inr rfl) rfl).trans (wm_cv (As := []) (rest := [.int (nI 0), .ref 81]) xd116_3 rfl rfl (show ml_L[1]? = _ from rfl) (Nat.le_of_ble_eq_true rfl) (Nat.le_of_ble_eq_true rfl) (Nat.le_of_ble_eq_true rfl) (Nat.le_of_ble_eq_true rfl))))
theorem x116_6 {xs0 : Int32} {xs1 : Int32} : wp Ln xs 116 6 [.ref 1, .ref 81, mj_hole] [.int xs0, .int xs1, .ref 81] (u, ml_h m lm) Φ = wp Ln xs 116 7 [.ref 1, .ref 81, mj_hole] [.long xs0.toInt64, .int xs1, .ref 81] (u, ml_h m lm) Φ := wp_same xd116_6 (Or.inr rfl) rfl
theorem x116_7 {ys0 : Int64} {k : Nat} (hk : k < 1) : wp Ln xs 116 7 [.ref 1, .ref 81, mj_hole] [.long ys0, .int (nI k), .ref 81] (u, ml_h m lm) Φ = wp Ln xs 116 14 [.ref 1, .ref 81, mj_hole] [] (u, ml_h m (ml_sj lm 81 k ys0)) Φ := (wm_last (k := k) xd116_7 rfl hk (by decide)).trans (wx_goto xd116_8 rfl)
theorem x116_12 : wp Ln xs 116 12 [.ref 1, .ref 81, mj_hole] [] (u, ml_h m lm) Φ = Φ (.inl (some (.int (nI 1)))) (u, ml_h m lm) := (wp_same (S' := [.int (nI 1)]) xd116_12 (Or.inr rfl) rfl).trans (wp_fin (v := some (.int (nI 1))) xd116_13 (Or.inr rfl) rfl (mj_fin_i rfl))
theorem x116_14 : wp Ln xs 116 14 [.ref 1, .ref 81, mj_hole] [] (u, ml_h m lm) Φ = Φ (.inl (some (.int (nI 0)))) (u, ml_h m lm) := (wp_same (S' := [.int (nI 0)]) xd116_14 (Or.inr rfl) rfl).trans (wp_fin (v := some (.int (nI 0))) xd116_15 (Or.inr rfl) rfl (mj_fin_i rfl))
/- PickedForms.load -/
theorem xd117_0 : decode (mj_b 117) 0 = .ok (.aload_n 0, 1) := by decide +kernel
theorem xd117_1 : decode (mj_b 117) 1 = .ok (.getfield 33, 3) := by decide +kernel
theorem xd117_4 : decode (mj_b 117) 4 = .ok (.invokevirtual 219, 3) := by decide +kernel
theorem xd117_7 : decode (mj_b 117) 7 = .ok (.ifCond .ne 13, 3) := by decide +kernel
theorem xd117_10 : decode (mj_b 117) 10 = .ok (.new 80, 3) := by decide +kernel
theorem xd117_20 : decode (mj_b 117) 20 = .ok (.aload_n 0, 1) := by decide +kernel
theorem xd117_21 : decode (mj_b 117) 21 = .ok (.getfield 26, 3) := by decide +kernel
theorem xd117_24 : decode (mj_b 117) 24 = .ok (.aload_n 0, 1) := by decide +kernel
theorem xd117_25 : decode (mj_b 117) 25 = .ok (.getfield 12, 3) := by decide +kernel
theorem xd117_28 : decode (mj_b 117) 28 = .ok (.invokevirtual 96, 3) := by decide +kernel
theorem xd117_31 : decode (mj_b 117) 31 = .ok (.aload_n 0, 1) := by decide +kernel
theorem xd117_32 : decode (mj_b 117) 32 = .ok (.getfield 33, 3) := by decide +kernel
theorem xd117_35 : decode (mj_b 117) 35 = .ok (.invokevirtual 224, 3) := by decide +kernel
theorem xd117_38 : decode (mj_b 117) 38 = .ok (.iconst 0, 1) := by decide +kernel
theorem xd117_39 : decode (mj_b 117) 39 = .ok (.istore_n 1, 1) := by decide +kernel
theorem xd117_40 : decode (mj_b 117) 40 = .ok (.iconst 0, 1) := by decide +kernel
theorem xd117_41 : decode (mj_b 117) 41 = .ok (.istore_n 2, 1) := by decide +kernel
theorem xd117_42 : decode (mj_b 117) 42 = .ok (.iload_n 2, 1) := by decide +kernel
theorem xd117_43 : decode (mj_b 117) 43 = .ok (.aload_n 0, 1) := by decide +kernel
theorem xd117_44 : decode (mj_b 117) 44 = .ok (.getfield 33, 3) := by decide +kernel
theorem xd117_47 : decode (mj_b 117) 47 = .ok (.getfield 227, 3) := by decide +kernel
theorem xd117_50 : decode (mj_b 117) 50 = .ok (.if_icmp .ge 68, 3) := by decide +kernel
theorem xd117_53 : decode (mj_b 117) 53 = .ok (.aload_n 0, 1) := by decide +kernel
theorem xd117_54 : decode (mj_b 117) 54 = .ok (.getfield 33, 3) := by decide +kernel
theorem xd117_57 : decode (mj_b 117) 57 = .ok (.getfield 230, 3) := by decide +kernel
theorem xd117_60 : decode (mj_b 117) 60 = .ok (.iload_n 2, 1) := by decide +kernel
theorem xd117_61 : decode (mj_b 117) 61 = .ok (.invokestatic 233, 3) := by decide +kernel
theorem xd117_64 : decode (mj_b 117) 64 = .ok (.istore_n 3, 1) := by decide +kernel
theorem xd117_65 : decode (mj_b 117) 65 = .ok (.aload_n 0, 1) := by decide +kernel
theorem xd117_66 : decode (mj_b 117) 66 = .ok (.getfield 33, 3) := by decide +kernel
theorem xd117_69 : decode (mj_b 117) 69 = .ok (.getfield 237, 3) := by decide +kernel
theorem xd117_72 : decode (mj_b 117) 72 = .ok (.iload_n 2, 1) := by decide +kernel
theorem xd117_73 : decode (mj_b 117) 73 = .ok (.invokestatic 233, 3) := by decide +kernel
theorem xd117_76 : decode (mj_b 117) 76 = .ok (.istore 4, 2) := by decide +kernel
theorem xd117_78 : decode (mj_b 117) 78 = .ok (.iconst 0, 1) := by decide +kernel
theorem xd117_79 : decode (mj_b 117) 79 = .ok (.istore 5, 2) := by decide +kernel
theorem xd117_81 : decode (mj_b 117) 81 = .ok (.iload 5, 2) := by decide +kernel
theorem xd117_83 : decode (mj_b 117) 83 = .ok (.iload 4, 2) := by decide +kernel
theorem xd117_85 : decode (mj_b 117) 85 = .ok (.if_icmp .ge 27, 3) := by decide +kernel
theorem xd117_88 : decode (mj_b 117) 88 = .ok (.aload_n 0, 1) := by decide +kernel
theorem xd117_89 : decode (mj_b 117) 89 = .ok (.getfield 12, 3) := by decide +kernel
theorem xd117_92 : decode (mj_b 117) 92 = .ok (.invokevirtual 87, 3) := by decide +kernel
theorem xd117_95 : decode (mj_b 117) 95 = .ok (.ifCond .eq 17, 3) := by decide +kernel
theorem xd117_98 : decode (mj_b 117) 98 = .ok (.aload_n 0, 1) := by decide +kernel
theorem xd117_99 : decode (mj_b 117) 99 = .ok (.iload_n 3, 1) := by decide +kernel
theorem xd117_100 : decode (mj_b 117) 100 = .ok (.invokevirtual 100, 3) := by decide +kernel
theorem xd117_103 : decode (mj_b 117) 103 = .ok (.iinc 1 1, 3) := by decide +kernel
theorem xd117_106 : decode (mj_b 117) 106 = .ok (.iinc 5 1, 3) := by decide +kernel
theorem xd117_109 : decode (mj_b 117) 109 = .ok (.goto (-28), 3) := by decide +kernel
theorem xd117_112 : decode (mj_b 117) 112 = .ok (.iinc 2 1, 3) := by decide +kernel
theorem xd117_115 : decode (mj_b 117) 115 = .ok (.goto (-73), 3) := by decide +kernel
theorem xd117_118 : decode (mj_b 117) 118 = .ok (.aload_n 0, 1) := by decide +kernel
theorem xd117_119 : decode (mj_b 117) 119 = .ok (.getfield 33, 3) := by decide +kernel
theorem xd117_122 : decode (mj_b 117) 122 = .ok (.iconst 0, 1) := by decide +kernel
theorem xd117_123 : decode (mj_b 117) 123 = .ok (.putfield 208, 3) := by decide +kernel
theorem xd117_126 : decode (mj_b 117) 126 = .ok (.iload_n 1, 1) := by decide +kernel
theorem xd117_127 : decode (mj_b 117) 127 = .ok (.ireturn, 1) := by decide +kernel
theorem x117_0 : wp Ln xs 117 0 [.ref 1, mj_hole, mj_hole, mj_hole, mj_hole, mj_hole] [] (u, ml_h m lm) Φ = wp Ln xs 118 0 [.ref 52, mj_hole, mj_hole] [] (u, ml_h m lm) (mk Ln xs 117 4 [.ref 1, mj_hole, mj_hole, mj_hole, mj_hole, mj_hole] [] Φ) := (wp_same xd117_0 (Or.inr rfl) rfl).trans ((wm_getr xd117_1 rfl (show ml_L[1]? = _ from rfl) rfl (Nat.le_of_ble_eq_true rfl)).trans (wm_cv (As := []) (rest := []) xd117_4 rfl rfl (show ml_L[52]? = _ from rfl) (Nat.le_of_ble_eq_true rfl) (Nat.le_of_ble_eq_true rfl) (Nat.le_of_ble_eq_true rfl) (Nat.le_of_ble_eq_true rfl)))
theorem x117_7 {xs0 : Int32} : wp Ln xs 117 7 [.ref 1, mj_hole, mj_hole, mj_hole, mj_hole, mj_hole] [.int xs0] (u, ml_h m lm) Φ = if ¬ xs0 = (nI 0) then wp Ln xs 117 20 [.ref 1, mj_hole, mj_hole, mj_hole, mj_hole, mj_hole] [] (u, ml_h m lm) Φ else wp Ln xs 117 10 [.ref 1, mj_hole, mj_hole, mj_hole, mj_hole, mj_hole] [] (u, ml_h m lm) Φ := wx_if xd117_7 rfl rfl (¬ xs0 = (nI 0)) mb_ne
theorem x117_10 : wp Ln xs 117 10 [.ref 1, mj_hole, mj_hole, mj_hole, mj_hole, mj_hole] [] (u, ml_h m lm) Φ = Φ (.inr 0) ((u.1, u.2.1 + 1, u.2.2 + 6), ml_h m lm) := wp_thr xd117_10 (Or.inr rfl) rfl rfl (E := 0) (by decide +kernel)
theorem x117_20 : wp Ln xs 117 20 [.ref 1, mj_hole, mj_hole, mj_hole, mj_hole, mj_hole] [] (u, ml_h m lm) Φ = wp Ln xs 85 0 [.ref 14, .ref 2, mj_hole] [] (u, ml_h m lm) (mk Ln xs 117 28 [.ref 1, mj_hole, mj_hole, mj_hole, mj_hole, mj_hole] [] Φ) := (wp_same xd117_20 (Or.inr rfl) rfl).trans ((wm_getr xd117_21 rfl (show ml_L[1]? = _ from rfl) rfl (Nat.le_of_ble_eq_true rfl)).trans ((wp_same xd117_24 (Or.inr rfl) rfl).trans ((wm_getr xd117_25 rfl (show ml_L[1]? = _ from rfl) rfl (Nat.le_of_ble_eq_true rfl)).trans (wm_cv (As := [.ref 2]) (rest := []) xd117_28 rfl rfl (show ml_L[14]? = _ from rfl) (Nat.le_of_ble_eq_true rfl) (Nat.le_of_ble_eq_true rfl) (Nat.le_of_ble_eq_true rfl) (Nat.le_of_ble_eq_true rfl)))))
theorem x117_31 : wp Ln xs 117 31 [.ref 1, mj_hole, mj_hole, mj_hole, mj_hole, mj_hole] [] (u, ml_h m lm) Φ = wp Ln xs 119 0 [.ref 52, mj_hole, mj_hole, mj_hole, mj_hole] [] (u, ml_h m lm) (mk Ln xs 117 35 [.ref 1, mj_hole, mj_hole, mj_hole, mj_hole, mj_hole] [] Φ) := (wp_same xd117_31 (Or.inr rfl) rfl).trans ((wm_getr xd117_32 rfl (show ml_L[1]? = _ from rfl) rfl (Nat.le_of_ble_eq_true rfl)).trans (wm_cv (As := []) (rest := []) xd117_35 rfl rfl (show ml_L[52]? = _ from rfl) (Nat.le_of_ble_eq_true rfl) (Nat.le_of_ble_eq_true rfl) (Nat.le_of_ble_eq_true rfl) (Nat.le_of_ble_eq_true rfl)))
theorem x117_38 : wp Ln xs 117 38 [.ref 1, mj_hole, mj_hole, mj_hole, mj_hole, mj_hole] [] (u, ml_h m lm) Φ = wp Ln xs 117 42 [.ref 1, .int (nI 0), .int (nI 0), mj_hole, mj_hole, mj_hole] [] (u, ml_h m lm) Φ := (wp_same (S' := [.int (nI 0)]) xd117_38 (Or.inr rfl) rfl).trans ((wp_same (L' := [.ref 1, .int (nI 0), mj_hole, mj_hole, mj_hole, mj_hole]) xd117_39 (Or.inr rfl) rfl).trans ((wp_same (S' := [.int (nI 0)]) xd117_40 (Or.inr rfl) rfl).trans (wp_same (L' := [.ref 1, .int (nI 0), .int (nI 0), mj_hole, mj_hole, mj_hole]) xd117_41 (Or.inr rfl) rfl)))
theorem x117_42 {x1 : Int32} {x2 : Int32} {v3 : Value} {v4 : Value} {v5 : Value} : wp Ln xs 117 42 [.ref 1, .int x1, .int x2, v3, v4, v5] [] (u, ml_h m lm) Φ = if (m 52 4) ≤ x2 then wp Ln xs 117 118 [.ref 1, .int x1, .int x2, v3, v4, v5] [] (u, ml_h m lm) Φ else wp Ln xs 117 53 [.ref 1, .int x1, .int x2, v3, v4, v5] [] (u, ml_h m lm) Φ := (wp_same xd117_42 (Or.inr rfl) rfl).trans ((wp_same xd117_43 (Or.inr rfl) rfl).trans ((wm_getr xd117_44 rfl (show ml_L[1]? = _ from rfl) rfl (Nat.le_of_ble_eq_true rfl)).trans ((wm_geti xd117_47 rfl (show ml_L[52]? = _ from rfl) rfl (Nat.le_of_ble_eq_true rfl)).trans (wx_icmp xd117_50 rfl rfl ((m 52 4) ≤ x2) mb_ge))))
theorem x117_53 {x1 : Int32} {x2 : Int32} {v3 : Value} {v4 : Value} {v5 : Value} : wp Ln xs 117 53 [.ref 1, .int x1, .int x2, v3, v4, v5] [] (u, ml_h m lm) Φ = wp Ln xs 13 0 [.ref 54, .int x2] [] (u, ml_h m lm) (mk Ln xs 117 61 [.ref 1, .int x1, .int x2, v3, v4, v5] [] Φ) := (wp_same xd117_53 (Or.inr rfl) rfl).trans ((wm_getr xd117_54 rfl (show ml_L[1]? = _ from rfl) rfl (Nat.le_of_ble_eq_true rfl)).trans ((wm_getr xd117_57 rfl (show ml_L[52]? = _ from rfl) rfl (Nat.le_of_ble_eq_true rfl)).trans ((wp_same xd117_60 (Or.inr rfl) rfl).trans (wm_cs (As := [.ref 54, .int x2]) (rest := []) xd117_61 rfl rfl (Nat.le_of_ble_eq_true rfl) (Nat.le_of_ble_eq_true rfl) (Nat.le_of_ble_eq_true rfl) (Nat.le_of_ble_eq_true rfl)))))
theorem x117_64 {x1 : Int32} {x2 : Int32} {v3 : Value} {v4 : Value} {v5 : Value} {xs0 : Int32} : wp Ln xs 117 64 [.ref 1, .int x1, .int x2, v3, v4, v5] [.int xs0] (u, ml_h m lm) Φ = wp Ln xs 13 0 [.ref 55, .int x2] [] (u, ml_h m lm) (mk Ln xs 117 73 [.ref 1, .int x1, .int x2, .int xs0, v4, v5] [] Φ) := (wp_same (L' := [.ref 1, .int x1, .int x2, .int xs0, v4, v5]) xd117_64 (Or.inr rfl) rfl).trans ((wp_same xd117_65 (Or.inr rfl) rfl).trans ((wm_getr xd117_66 rfl (show ml_L[1]? = _ from rfl) rfl (Nat.le_of_ble_eq_true rfl)).trans ((wm_getr xd117_69 rfl (show ml_L[52]? = _ from rfl) rfl (Nat.le_of_ble_eq_true rfl)).trans ((wp_same xd117_72 (Or.inr rfl) rfl).trans (wm_cs (As := [.ref 55, .int x2]) (rest := []) xd117_73 rfl rfl (Nat.le_of_ble_eq_true rfl) (Nat.le_of_ble_eq_true rfl) (Nat.le_of_ble_eq_true rfl) (Nat.le_of_ble_eq_true rfl))))))
theorem x117_76 {x1 : Int32} {x2 : Int32} {x3 : Int32} {v4 : Value} {v5 : Value} {xs0 : Int32} : wp Ln xs 117 76 [.ref 1, .int x1, .int x2, .int x3, v4, v5] [.int xs0] (u, ml_h m lm) Φ = wp Ln xs 117 81 [.ref 1, .int x1, .int x2, .int x3, .int xs0, .int (nI 0)] [] (u, ml_h m lm) Φ := (wp_same (L' := [.ref 1, .int x1, .int x2, .int x3, .int xs0, v5]) xd117_76 (Or.inr rfl) rfl).trans ((wp_same (S' := [.int (nI 0)]) xd117_78 (Or.inr rfl) rfl).trans (wp_same (L' := [.ref 1, .int x1, .int x2, .int x3, .int xs0, .int (nI 0)]) xd117_79 (Or.inr rfl) rfl))
theorem x117_81 {x1 : Int32} {x2 : Int32} {x3 : Int32} {x4 : Int32} {x5 : Int32} : wp Ln xs 117 81 [.ref 1, .int x1, .int x2, .int x3, .int x4, .int x5] [] (u, ml_h m lm) Φ = if x4 ≤ x5 then wp Ln xs 117 112 [.ref 1, .int x1, .int x2, .int x3, .int x4, .int x5] [] (u, ml_h m lm) Φ else wp Ln xs 117 88 [.ref 1, .int x1, .int x2, .int x3, .int x4, .int x5] [] (u, ml_h m lm) Φ := (wp_same xd117_81 (Or.inr rfl) rfl).trans ((wp_same xd117_83 (Or.inr rfl) rfl).trans (wx_icmp xd117_85 rfl rfl (x4 ≤ x5) mb_ge))
theorem x117_88 {x1 : Int32} {x2 : Int32} {x3 : Int32} {x4 : Int32} {x5 : Int32} : wp Ln xs 117 88 [.ref 1, .int x1, .int x2, .int x3, .int x4, .int x5] [] (u, ml_h m lm) Φ = wp Ln xs 84 0 [.ref 2] [] (u, ml_h m lm) (mk Ln xs 117 92 [.ref 1, .int x1, .int x2, .int x3, .int x4, .int x5] [] Φ) := (wp_same xd117_88 (Or.inr rfl) rfl).trans ((wm_getr xd117_89 rfl (show ml_L[1]? = _ from rfl) rfl (Nat.le_of_ble_eq_true rfl)).trans (wm_cv (As := []) (rest := []) xd117_92 rfl rfl (show ml_L[2]? = _ from rfl) (Nat.le_of_ble_eq_true rfl) (Nat.le_of_ble_eq_true rfl) (Nat.le_of_ble_eq_true rfl) (Nat.le_of_ble_eq_true rfl)))
theorem x117_95 {x1 : Int32} {x2 : Int32} {x3 : Int32} {x4 : Int32} {x5 : Int32} {xs0 : Int32} : wp Ln xs 117 95 [.ref 1, .int x1, .int x2, .int x3, .int x4, .int x5] [.int xs0] (u, ml_h m lm) Φ = if xs0 = (nI 0) then wp Ln xs 117 112 [.ref 1, .int x1, .int x2, .int x3, .int x4, .int x5] [] (u, ml_h m lm) Φ else wp Ln xs 117 98 [.ref 1, .int x1, .int x2, .int x3, .int x4, .int x5] [] (u, ml_h m lm) Φ := wx_if xd117_95 rfl rfl (xs0 = (nI 0)) mb_eq
theorem x117_98 {x1 : Int32} {x2 : Int32} {x3 : Int32} {x4 : Int32} {x5 : Int32} : wp Ln xs 117 98 [.ref 1, .int x1, .int x2, .int x3, .int x4, .int x5] [] (u, ml_h m lm) Φ = wp Ln xs 87 0 [.ref 1, .int x3] [] (u, ml_h m lm) (mk Ln xs 117 100 [.ref 1, .int x1, .int x2, .int x3, .int x4, .int x5] [] Φ) := (wp_same xd117_98 (Or.inr rfl) rfl).trans ((wp_same xd117_99 (Or.inr rfl) rfl).trans (wm_cv (As := [.int x3]) (rest := []) xd117_100 rfl rfl (show ml_L[1]? = _ from rfl) (Nat.le_of_ble_eq_true rfl) (Nat.le_of_ble_eq_true rfl) (Nat.le_of_ble_eq_true rfl) (Nat.le_of_ble_eq_true rfl)))
theorem x117_103 {x1 : Int32} {x2 : Int32} {x3 : Int32} {x4 : Int32} {x5 : Int32} : wp Ln xs 117 103 [.ref 1, .int x1, .int x2, .int x3, .int x4, .int x5] [] (u, ml_h m lm) Φ = wp Ln xs 117 81 [.ref 1, .int (x1 + nI 1), .int x2, .int x3, .int x4, .int (x5 + nI 1)] [] (u, ml_h m lm) Φ := (wp_same (L' := [.ref 1, .int (x1 + nI 1), .int x2, .int x3, .int x4, .int x5]) xd117_103 (Or.inr rfl) rfl).trans ((wp_same (L' := [.ref 1, .int (x1 + nI 1), .int x2, .int x3, .int x4, .int (x5 + nI 1)]) xd117_106 (Or.inr rfl) rfl).trans (wx_goto xd117_109 rfl))
theorem x117_112 {x1 : Int32} {x2 : Int32} {x3 : Int32} {x4 : Int32} {x5 : Int32} : wp Ln xs 117 112 [.ref 1, .int x1, .int x2, .int x3, .int x4, .int x5] [] (u, ml_h m lm) Φ = wp Ln xs 117 42 [.ref 1, .int x1, .int (x2 + nI 1), .int x3, .int x4, .int x5] [] (u, ml_h m lm) Φ := (wp_same (L' := [.ref 1, .int x1, .int (x2 + nI 1), .int x3, .int x4, .int x5]) xd117_112 (Or.inr rfl) rfl).trans (wx_goto xd117_115 rfl)
theorem x117_118 {x1 : Int32} {x2 : Int32} {v3 : Value} {v4 : Value} {v5 : Value} : wp Ln xs 117 118 [.ref 1, .int x1, .int x2, v3, v4, v5] [] (u, ml_h m lm) Φ = Φ (.inl (some (.int x1))) (u, ml_h (ml_s m 52 1 (nI 0)) lm) := (wp_same xd117_118 (Or.inr rfl) rfl).trans ((wm_getr xd117_119 rfl (show ml_L[1]? = _ from rfl) rfl (Nat.le_of_ble_eq_true rfl)).trans ((wp_same (S' := [.int (nI 0), .ref 52]) xd117_122 (Or.inr rfl) rfl).trans ((wm_puti xd117_123 rfl (show ml_L[52]? = _ from rfl) rfl (Nat.le_of_ble_eq_true rfl) rfl rfl rfl).trans ((wp_same xd117_126 (Or.inr rfl) rfl).trans (wp_fin (v := some (.int x1)) xd117_127 (Or.inr rfl) rfl (mj_fin_i rfl))))))
/- PickedForms$Text.isWhole -/
theorem xd118_0 : decode (mj_b 118) 0 = .ok (.iconst 0, 1) := by decide +kernel
theorem xd118_1 : decode (mj_b 118) 1 = .ok (.istore_n 1, 1) := by decide +kernel
theorem xd118_2 : decode (mj_b 118) 2 = .ok (.iconst 0, 1) := by decide +kernel
theorem xd118_3 : decode (mj_b 118) 3 = .ok (.istore_n 2, 1) := by decide +kernel
theorem xd118_4 : decode (mj_b 118) 4 = .ok (.iload_n 2, 1) := by decide +kernel
theorem xd118_5 : decode (mj_b 118) 5 = .ok (.aload_n 0, 1) := by decide +kernel
theorem xd118_6 : decode (mj_b 118) 6 = .ok (.getfield 15, 3) := by decide +kernel
theorem xd118_9 : decode (mj_b 118) 9 = .ok (.if_icmp .ge 22, 3) := by decide +kernel
theorem xd118_12 : decode (mj_b 118) 12 = .ok (.iload_n 1, 1) := by decide +kernel
theorem xd118_13 : decode (mj_b 118) 13 = .ok (.aload_n 0, 1) := by decide +kernel
theorem xd118_14 : decode (mj_b 118) 14 = .ok (.getfield 9, 3) := by decide +kernel
theorem xd118_17 : decode (mj_b 118) 17 = .ok (.iload_n 2, 1) := by decide +kernel
theorem xd118_18 : decode (mj_b 118) 18 = .ok (.invokestatic 34, 3) := by decide +kernel
theorem xd118_21 : decode (mj_b 118) 21 = .ok (.invokestatic 38, 3) := by decide +kernel
theorem xd118_24 : decode (mj_b 118) 24 = .ok (.istore_n 1, 1) := by decide +kernel
theorem xd118_25 : decode (mj_b 118) 25 = .ok (.iinc 2 1, 3) := by decide +kernel
theorem xd118_28 : decode (mj_b 118) 28 = .ok (.goto (-24), 3) := by decide +kernel
theorem xd118_31 : decode (mj_b 118) 31 = .ok (.iload_n 1, 1) := by decide +kernel
theorem xd118_32 : decode (mj_b 118) 32 = .ok (.iconst 1, 1) := by decide +kernel
theorem xd118_33 : decode (mj_b 118) 33 = .ok (.if_icmp .eq 19, 3) := by decide +kernel
theorem xd118_36 : decode (mj_b 118) 36 = .ok (.iload_n 1, 1) := by decide +kernel
theorem xd118_37 : decode (mj_b 118) 37 = .ok (.iconst 2, 1) := by decide +kernel
theorem xd118_38 : decode (mj_b 118) 38 = .ok (.if_icmp .eq 14, 3) := by decide +kernel
theorem xd118_41 : decode (mj_b 118) 41 = .ok (.iload_n 1, 1) := by decide +kernel
theorem xd118_42 : decode (mj_b 118) 42 = .ok (.iconst 3, 1) := by decide +kernel
theorem xd118_43 : decode (mj_b 118) 43 = .ok (.if_icmp .eq 9, 3) := by decide +kernel
theorem xd118_46 : decode (mj_b 118) 46 = .ok (.iload_n 1, 1) := by decide +kernel
theorem xd118_47 : decode (mj_b 118) 47 = .ok (.bipush 6, 2) := by decide +kernel
theorem xd118_49 : decode (mj_b 118) 49 = .ok (.if_icmp .ne 7, 3) := by decide +kernel
theorem xd118_52 : decode (mj_b 118) 52 = .ok (.iconst 1, 1) := by decide +kernel
theorem xd118_53 : decode (mj_b 118) 53 = .ok (.goto 4, 3) := by decide +kernel
theorem xd118_56 : decode (mj_b 118) 56 = .ok (.iconst 0, 1) := by decide +kernel
theorem xd118_57 : decode (mj_b 118) 57 = .ok (.ireturn, 1) := by decide +kernel
theorem x118_0 : wp Ln xs 118 0 [.ref 52, mj_hole, mj_hole] [] (u, ml_h m lm) Φ = wp Ln xs 118 4 [.ref 52, .int (nI 0), .int (nI 0)] [] (u, ml_h m lm) Φ := (wp_same (S' := [.int (nI 0)]) xd118_0 (Or.inr rfl) rfl).trans ((wp_same (L' := [.ref 52, .int (nI 0), mj_hole]) xd118_1 (Or.inr rfl) rfl).trans ((wp_same (S' := [.int (nI 0)]) xd118_2 (Or.inr rfl) rfl).trans (wp_same (L' := [.ref 52, .int (nI 0), .int (nI 0)]) xd118_3 (Or.inr rfl) rfl)))
theorem x118_4 {x1 : Int32} {x2 : Int32} : wp Ln xs 118 4 [.ref 52, .int x1, .int x2] [] (u, ml_h m lm) Φ = if (m 52 1) ≤ x2 then wp Ln xs 118 31 [.ref 52, .int x1, .int x2] [] (u, ml_h m lm) Φ else wp Ln xs 118 12 [.ref 52, .int x1, .int x2] [] (u, ml_h m lm) Φ := (wp_same xd118_4 (Or.inr rfl) rfl).trans ((wp_same xd118_5 (Or.inr rfl) rfl).trans ((wm_geti xd118_6 rfl (show ml_L[52]? = _ from rfl) rfl (Nat.le_of_ble_eq_true rfl)).trans (wx_icmp xd118_9 rfl rfl ((m 52 1) ≤ x2) mb_ge)))
theorem x118_12 {x1 : Int32} {x2 : Int32} : wp Ln xs 118 12 [.ref 52, .int x1, .int x2] [] (u, ml_h m lm) Φ = wp Ln xs 13 0 [.ref 53, .int x2] [] (u, ml_h m lm) (mk Ln xs 118 18 [.ref 52, .int x1, .int x2] [.int x1] Φ) := (wp_same xd118_12 (Or.inr rfl) rfl).trans ((wp_same xd118_13 (Or.inr rfl) rfl).trans ((wm_getr xd118_14 rfl (show ml_L[52]? = _ from rfl) rfl (Nat.le_of_ble_eq_true rfl)).trans ((wp_same xd118_17 (Or.inr rfl) rfl).trans (wm_cs (As := [.ref 53, .int x2]) (rest := [.int x1]) xd118_18 rfl rfl (Nat.le_of_ble_eq_true rfl) (Nat.le_of_ble_eq_true rfl) (Nat.le_of_ble_eq_true rfl) (Nat.le_of_ble_eq_true rfl)))))
theorem x118_21 {x1 : Int32} {x2 : Int32} {xs0 : Int32} {xs1 : Int32} : wp Ln xs 118 21 [.ref 52, .int x1, .int x2] [.int xs0, .int xs1] (u, ml_h m lm) Φ = wp Ln xs 14 0 [.int xs1, .int xs0] [] (u, ml_h m lm) (mk Ln xs 118 21 [.ref 52, .int x1, .int x2] [] Φ) := wm_cs (As := [.int xs1, .int xs0]) (rest := []) xd118_21 rfl rfl (Nat.le_of_ble_eq_true rfl) (Nat.le_of_ble_eq_true rfl) (Nat.le_of_ble_eq_true rfl) (Nat.le_of_ble_eq_true rfl)
theorem x118_24 {x1 : Int32} {x2 : Int32} {xs0 : Int32} : wp Ln xs 118 24 [.ref 52, .int x1, .int x2] [.int xs0] (u, ml_h m lm) Φ = wp Ln xs 118 4 [.ref 52, .int xs0, .int (x2 + nI 1)] [] (u, ml_h m lm) Φ := (wp_same (L' := [.ref 52, .int xs0, .int x2]) xd118_24 (Or.inr rfl) rfl).trans ((wp_same (L' := [.ref 52, .int xs0, .int (x2 + nI 1)]) xd118_25 (Or.inr rfl) rfl).trans (wx_goto xd118_28 rfl))
theorem x118_31 {x1 : Int32} {x2 : Int32} : wp Ln xs 118 31 [.ref 52, .int x1, .int x2] [] (u, ml_h m lm) Φ = if x1 = (nI 1) then wp Ln xs 118 52 [.ref 52, .int x1, .int x2] [] (u, ml_h m lm) Φ else wp Ln xs 118 36 [.ref 52, .int x1, .int x2] [] (u, ml_h m lm) Φ := (wp_same xd118_31 (Or.inr rfl) rfl).trans ((wp_same (S' := [.int (nI 1), .int x1]) xd118_32 (Or.inr rfl) rfl).trans (wx_icmp xd118_33 rfl rfl (x1 = (nI 1)) mb_eq))
theorem x118_36 {x1 : Int32} {x2 : Int32} : wp Ln xs 118 36 [.ref 52, .int x1, .int x2] [] (u, ml_h m lm) Φ = if x1 = (nI 2) then wp Ln xs 118 52 [.ref 52, .int x1, .int x2] [] (u, ml_h m lm) Φ else wp Ln xs 118 41 [.ref 52, .int x1, .int x2] [] (u, ml_h m lm) Φ := (wp_same xd118_36 (Or.inr rfl) rfl).trans ((wp_same (S' := [.int (nI 2), .int x1]) xd118_37 (Or.inr rfl) rfl).trans (wx_icmp xd118_38 rfl rfl (x1 = (nI 2)) mb_eq))
theorem x118_41 {x1 : Int32} {x2 : Int32} : wp Ln xs 118 41 [.ref 52, .int x1, .int x2] [] (u, ml_h m lm) Φ = if x1 = (nI 3) then wp Ln xs 118 52 [.ref 52, .int x1, .int x2] [] (u, ml_h m lm) Φ else wp Ln xs 118 46 [.ref 52, .int x1, .int x2] [] (u, ml_h m lm) Φ := (wp_same xd118_41 (Or.inr rfl) rfl).trans ((wp_same (S' := [.int (nI 3), .int x1]) xd118_42 (Or.inr rfl) rfl).trans (wx_icmp xd118_43 rfl rfl (x1 = (nI 3)) mb_eq))
theorem x118_46 {x1 : Int32} {x2 : Int32} : wp Ln xs 118 46 [.ref 52, .int x1, .int x2] [] (u, ml_h m lm) Φ = if ¬ x1 = (nI 6) then wp Ln xs 118 56 [.ref 52, .int x1, .int x2] [] (u, ml_h m lm) Φ else wp Ln xs 118 52 [.ref 52, .int x1, .int x2] [] (u, ml_h m lm) Φ := (wp_same xd118_46 (Or.inr rfl) rfl).trans ((wp_same (S' := [.int (nI 6), .int x1]) xd118_47 (Or.inr rfl) rfl).trans (wx_icmp xd118_49 rfl rfl (¬ x1 = (nI 6)) mb_ne))
theorem x118_52 {x1 : Int32} {x2 : Int32} : wp Ln xs 118 52 [.ref 52, .int x1, .int x2] [] (u, ml_h m lm) Φ = Φ (.inl (some (.int (nI 1)))) (u, ml_h m lm) := (wp_same (S' := [.int (nI 1)]) xd118_52 (Or.inr rfl) rfl).trans ((wx_goto xd118_53 rfl).trans (wp_fin (v := some (.int (nI 1))) xd118_57 (Or.inr rfl) rfl rfl))
theorem x118_56 {x1 : Int32} {x2 : Int32} : wp Ln xs 118 56 [.ref 52, .int x1, .int x2] [] (u, ml_h m lm) Φ = Φ (.inl (some (.int (nI 0)))) (u, ml_h m lm) := (wp_same (S' := [.int (nI 0)]) xd118_56 (Or.inr rfl) rfl).trans (wp_fin (v := some (.int (nI 0))) xd118_57 (Or.inr rfl) rfl rfl)
/- PickedForms$Text.readParts -/
theorem xd119_0 : decode (mj_b 119) 0 = .ok (.iconst 0, 1) := by decide +kernel
theorem xd119_1 : decode (mj_b 119) 1 = .ok (.istore_n 1, 1) := by decide +kernel
theorem xd119_2 : decode (mj_b 119) 2 = .ok (.iconst (-1), 1) := by decide +kernel
theorem xd119_3 : decode (mj_b 119) 3 = .ok (.istore_n 2, 1) := by decide +kernel
theorem xd119_4 : decode (mj_b 119) 4 = .ok (.aload_n 0, 1) := by decide +kernel
theorem xd119_5 : decode (mj_b 119) 5 = .ok (.iconst 0, 1) := by decide +kernel
theorem xd119_6 : decode (mj_b 119) 6 = .ok (.putfield 25, 3) := by decide +kernel
theorem xd119_9 : decode (mj_b 119) 9 = .ok (.iconst 0, 1) := by decide +kernel
theorem xd119_10 : decode (mj_b 119) 10 = .ok (.istore_n 3, 1) := by decide +kernel
theorem xd119_11 : decode (mj_b 119) 11 = .ok (.iload_n 3, 1) := by decide +kernel
theorem xd119_12 : decode (mj_b 119) 12 = .ok (.aload_n 0, 1) := by decide +kernel
theorem xd119_13 : decode (mj_b 119) 13 = .ok (.getfield 15, 3) := by decide +kernel
theorem xd119_16 : decode (mj_b 119) 16 = .ok (.if_icmp .gt 96, 3) := by decide +kernel
theorem xd119_19 : decode (mj_b 119) 19 = .ok (.iload_n 3, 1) := by decide +kernel
theorem xd119_20 : decode (mj_b 119) 20 = .ok (.aload_n 0, 1) := by decide +kernel
theorem xd119_21 : decode (mj_b 119) 21 = .ok (.getfield 15, 3) := by decide +kernel
theorem xd119_24 : decode (mj_b 119) 24 = .ok (.if_icmp .ge 14, 3) := by decide +kernel
theorem xd119_27 : decode (mj_b 119) 27 = .ok (.aload_n 0, 1) := by decide +kernel
theorem xd119_28 : decode (mj_b 119) 28 = .ok (.getfield 9, 3) := by decide +kernel
theorem xd119_31 : decode (mj_b 119) 31 = .ok (.iload_n 3, 1) := by decide +kernel
theorem xd119_32 : decode (mj_b 119) 32 = .ok (.invokestatic 34, 3) := by decide +kernel
theorem xd119_35 : decode (mj_b 119) 35 = .ok (.goto 5, 3) := by decide +kernel
theorem xd119_38 : decode (mj_b 119) 38 = .ok (.bipush 44, 2) := by decide +kernel
theorem xd119_40 : decode (mj_b 119) 40 = .ok (.istore 4, 2) := by decide +kernel
theorem xd119_42 : decode (mj_b 119) 42 = .ok (.iload 4, 2) := by decide +kernel
theorem xd119_44 : decode (mj_b 119) 44 = .ok (.invokestatic 42, 3) := by decide +kernel
theorem xd119_47 : decode (mj_b 119) 47 = .ok (.ifCond .eq 17, 3) := by decide +kernel
theorem xd119_50 : decode (mj_b 119) 50 = .ok (.bipush 10, 2) := by decide +kernel
theorem xd119_52 : decode (mj_b 119) 52 = .ok (.iload_n 1, 1) := by decide +kernel
theorem xd119_53 : decode (mj_b 119) 53 = .ok (.imul, 1) := by decide +kernel
theorem xd119_54 : decode (mj_b 119) 54 = .ok (.iload 4, 2) := by decide +kernel
theorem xd119_56 : decode (mj_b 119) 56 = .ok (.iadd, 1) := by decide +kernel
theorem xd119_57 : decode (mj_b 119) 57 = .ok (.bipush 48, 2) := by decide +kernel
theorem xd119_59 : decode (mj_b 119) 59 = .ok (.isub, 1) := by decide +kernel
theorem xd119_60 : decode (mj_b 119) 60 = .ok (.istore_n 1, 1) := by decide +kernel
theorem xd119_61 : decode (mj_b 119) 61 = .ok (.goto 45, 3) := by decide +kernel
theorem xd119_64 : decode (mj_b 119) 64 = .ok (.iload 4, 2) := by decide +kernel
theorem xd119_66 : decode (mj_b 119) 66 = .ok (.bipush 42, 2) := by decide +kernel
theorem xd119_68 : decode (mj_b 119) 68 = .ok (.if_icmp .ne 10, 3) := by decide +kernel
theorem xd119_71 : decode (mj_b 119) 71 = .ok (.iload_n 1, 1) := by decide +kernel
theorem xd119_72 : decode (mj_b 119) 72 = .ok (.istore_n 2, 1) := by decide +kernel
theorem xd119_73 : decode (mj_b 119) 73 = .ok (.iconst 0, 1) := by decide +kernel
theorem xd119_74 : decode (mj_b 119) 74 = .ok (.istore_n 1, 1) := by decide +kernel
theorem xd119_75 : decode (mj_b 119) 75 = .ok (.goto 31, 3) := by decide +kernel
theorem xd119_78 : decode (mj_b 119) 78 = .ok (.aload_n 0, 1) := by decide +kernel
theorem xd119_79 : decode (mj_b 119) 79 = .ok (.iload_n 2, 1) := by decide +kernel
theorem xd119_80 : decode (mj_b 119) 80 = .ok (.iconst (-1), 1) := by decide +kernel
theorem xd119_81 : decode (mj_b 119) 81 = .ok (.if_icmp .ne 7, 3) := by decide +kernel
theorem xd119_84 : decode (mj_b 119) 84 = .ok (.iload_n 1, 1) := by decide +kernel
theorem xd119_85 : decode (mj_b 119) 85 = .ok (.goto 4, 3) := by decide +kernel
theorem xd119_88 : decode (mj_b 119) 88 = .ok (.iload_n 2, 1) := by decide +kernel
theorem xd119_89 : decode (mj_b 119) 89 = .ok (.iload_n 2, 1) := by decide +kernel
theorem xd119_90 : decode (mj_b 119) 90 = .ok (.iconst (-1), 1) := by decide +kernel
theorem xd119_91 : decode (mj_b 119) 91 = .ok (.if_icmp .ne 7, 3) := by decide +kernel
theorem xd119_94 : decode (mj_b 119) 94 = .ok (.iconst 1, 1) := by decide +kernel
theorem xd119_95 : decode (mj_b 119) 95 = .ok (.goto 4, 3) := by decide +kernel
theorem xd119_98 : decode (mj_b 119) 98 = .ok (.iload_n 1, 1) := by decide +kernel
theorem xd119_99 : decode (mj_b 119) 99 = .ok (.invokevirtual 46, 3) := by decide +kernel
theorem xd119_102 : decode (mj_b 119) 102 = .ok (.iconst (-1), 1) := by decide +kernel
theorem xd119_103 : decode (mj_b 119) 103 = .ok (.istore_n 2, 1) := by decide +kernel
theorem xd119_104 : decode (mj_b 119) 104 = .ok (.iconst 0, 1) := by decide +kernel
theorem xd119_105 : decode (mj_b 119) 105 = .ok (.istore_n 1, 1) := by decide +kernel
theorem xd119_106 : decode (mj_b 119) 106 = .ok (.iinc 3 1, 3) := by decide +kernel
theorem xd119_109 : decode (mj_b 119) 109 = .ok (.goto (-98), 3) := by decide +kernel
theorem xd119_112 : decode (mj_b 119) 112 = .ok (.return_, 1) := by decide +kernel
theorem x119_0 : wp Ln xs 119 0 [.ref 52, mj_hole, mj_hole, mj_hole, mj_hole] [] (u, ml_h m lm) Φ = wp Ln xs 119 11 [.ref 52, .int (nI 0), .int ((-1)), .int (nI 0), mj_hole] [] (u, ml_h (ml_s m 52 4 (nI 0)) lm) Φ := (wp_same (S' := [.int (nI 0)]) xd119_0 (Or.inr rfl) rfl).trans ((wp_same (L' := [.ref 52, .int (nI 0), mj_hole, mj_hole, mj_hole]) xd119_1 (Or.inr rfl) rfl).trans ((wp_same (S' := [.int ((-1))]) xd119_2 (Or.inr rfl) rfl).trans ((wp_same (L' := [.ref 52, .int (nI 0), .int ((-1)), mj_hole, mj_hole]) xd119_3 (Or.inr rfl) rfl).trans ((wp_same xd119_4 (Or.inr rfl) rfl).trans ((wp_same (S' := [.int (nI 0), .ref 52]) xd119_5 (Or.inr rfl) rfl).trans ((wm_puti xd119_6 rfl (show ml_L[52]? = _ from rfl) rfl (Nat.le_of_ble_eq_true rfl) rfl rfl rfl).trans ((wp_same (S' := [.int (nI 0)]) xd119_9 (Or.inr rfl) rfl).trans (wp_same (L' := [.ref 52, .int (nI 0), .int ((-1)), .int (nI 0), mj_hole]) xd119_10 (Or.inr rfl) rfl))))))))
theorem x119_11 {x1 : Int32} {x2 : Int32} {x3 : Int32} {v4 : Value} : wp Ln xs 119 11 [.ref 52, .int x1, .int x2, .int x3, v4] [] (u, ml_h m lm) Φ = if (m 52 1) < x3 then wp Ln xs 119 112 [.ref 52, .int x1, .int x2, .int x3, v4] [] (u, ml_h m lm) Φ else wp Ln xs 119 19 [.ref 52, .int x1, .int x2, .int x3, v4] [] (u, ml_h m lm) Φ := (wp_same xd119_11 (Or.inr rfl) rfl).trans ((wp_same xd119_12 (Or.inr rfl) rfl).trans ((wm_geti xd119_13 rfl (show ml_L[52]? = _ from rfl) rfl (Nat.le_of_ble_eq_true rfl)).trans (wx_icmp xd119_16 rfl rfl ((m 52 1) < x3) mb_gt)))
theorem x119_19 {x1 : Int32} {x2 : Int32} {x3 : Int32} {v4 : Value} : wp Ln xs 119 19 [.ref 52, .int x1, .int x2, .int x3, v4] [] (u, ml_h m lm) Φ = if (m 52 1) ≤ x3 then wp Ln xs 119 38 [.ref 52, .int x1, .int x2, .int x3, v4] [] (u, ml_h m lm) Φ else wp Ln xs 119 27 [.ref 52, .int x1, .int x2, .int x3, v4] [] (u, ml_h m lm) Φ := (wp_same xd119_19 (Or.inr rfl) rfl).trans ((wp_same xd119_20 (Or.inr rfl) rfl).trans ((wm_geti xd119_21 rfl (show ml_L[52]? = _ from rfl) rfl (Nat.le_of_ble_eq_true rfl)).trans (wx_icmp xd119_24 rfl rfl ((m 52 1) ≤ x3) mb_ge)))
theorem x119_27 {x1 : Int32} {x2 : Int32} {x3 : Int32} {v4 : Value} : wp Ln xs 119 27 [.ref 52, .int x1, .int x2, .int x3, v4] [] (u, ml_h m lm) Φ = wp Ln xs 13 0 [.ref 53, .int x3] [] (u, ml_h m lm) (mk Ln xs 119 32 [.ref 52, .int x1, .int x2, .int x3, v4] [] Φ) := (wp_same xd119_27 (Or.inr rfl) rfl).trans ((wm_getr xd119_28 rfl (show ml_L[52]? = _ from rfl) rfl (Nat.le_of_ble_eq_true rfl)).trans ((wp_same xd119_31 (Or.inr rfl) rfl).trans (wm_cs (As := [.ref 53, .int x3]) (rest := []) xd119_32 rfl rfl (Nat.le_of_ble_eq_true rfl) (Nat.le_of_ble_eq_true rfl) (Nat.le_of_ble_eq_true rfl) (Nat.le_of_ble_eq_true rfl))))
theorem x119_35 {x1 : Int32} {x2 : Int32} {x3 : Int32} {v4 : Value} {xs0 : Int32} : wp Ln xs 119 35 [.ref 52, .int x1, .int x2, .int x3, v4] [.int xs0] (u, ml_h m lm) Φ = wp Ln xs 119 40 [.ref 52, .int x1, .int x2, .int x3, v4] [.int xs0] (u, ml_h m lm) Φ := wx_goto xd119_35 rfl
theorem x119_38 {x1 : Int32} {x2 : Int32} {x3 : Int32} {v4 : Value} : wp Ln xs 119 38 [.ref 52, .int x1, .int x2, .int x3, v4] [] (u, ml_h m lm) Φ = wp Ln xs 119 40 [.ref 52, .int x1, .int x2, .int x3, v4] [.int (nI 44)] (u, ml_h m lm) Φ := wp_same (S' := [.int (nI 44)]) xd119_38 (Or.inr rfl) rfl
theorem x119_40 {x1 : Int32} {x2 : Int32} {x3 : Int32} {v4 : Value} {xs0 : Int32} : wp Ln xs 119 40 [.ref 52, .int x1, .int x2, .int x3, v4] [.int xs0] (u, ml_h m lm) Φ = wp Ln xs 15 0 [.int xs0] [] (u, ml_h m lm) (mk Ln xs 119 44 [.ref 52, .int x1, .int x2, .int x3, .int xs0] [] Φ) := (wp_same (L' := [.ref 52, .int x1, .int x2, .int x3, .int xs0]) xd119_40 (Or.inr rfl) rfl).trans ((wp_same xd119_42 (Or.inr rfl) rfl).trans (wm_cs (As := [.int xs0]) (rest := []) xd119_44 rfl rfl (Nat.le_of_ble_eq_true rfl) (Nat.le_of_ble_eq_true rfl) (Nat.le_of_ble_eq_true rfl) (Nat.le_of_ble_eq_true rfl)))
theorem x119_47 {x1 : Int32} {x2 : Int32} {x3 : Int32} {x4 : Int32} {xs0 : Int32} : wp Ln xs 119 47 [.ref 52, .int x1, .int x2, .int x3, .int x4] [.int xs0] (u, ml_h m lm) Φ = if xs0 = (nI 0) then wp Ln xs 119 64 [.ref 52, .int x1, .int x2, .int x3, .int x4] [] (u, ml_h m lm) Φ else wp Ln xs 119 50 [.ref 52, .int x1, .int x2, .int x3, .int x4] [] (u, ml_h m lm) Φ := wx_if xd119_47 rfl rfl (xs0 = (nI 0)) mb_eq
theorem x119_50 {x1 : Int32} {x2 : Int32} {x3 : Int32} {x4 : Int32} : wp Ln xs 119 50 [.ref 52, .int x1, .int x2, .int x3, .int x4] [] (u, ml_h m lm) Φ = wp Ln xs 119 106 [.ref 52, .int ((((nI 10) * x1) + x4) - (nI 48)), .int x2, .int x3, .int x4] [] (u, ml_h m lm) Φ := (wp_same (S' := [.int (nI 10)]) xd119_50 (Or.inr rfl) rfl).trans ((wp_same xd119_52 (Or.inr rfl) rfl).trans ((wp_same xd119_53 (Or.inr rfl) rfl).trans ((wp_same xd119_54 (Or.inr rfl) rfl).trans ((wp_same xd119_56 (Or.inr rfl) rfl).trans ((wp_same (S' := [.int (nI 48), .int (((nI 10) * x1) + x4)]) xd119_57 (Or.inr rfl) rfl).trans ((wp_same xd119_59 (Or.inr rfl) rfl).trans ((wp_same (L' := [.ref 52, .int ((((nI 10) * x1) + x4) - (nI 48)), .int x2, .int x3, .int x4]) xd119_60 (Or.inr rfl) rfl).trans (wx_goto xd119_61 rfl))))))))
theorem x119_64 {x1 : Int32} {x2 : Int32} {x3 : Int32} {x4 : Int32} : wp Ln xs 119 64 [.ref 52, .int x1, .int x2, .int x3, .int x4] [] (u, ml_h m lm) Φ = if ¬ x4 = (nI 42) then wp Ln xs 119 78 [.ref 52, .int x1, .int x2, .int x3, .int x4] [] (u, ml_h m lm) Φ else wp Ln xs 119 71 [.ref 52, .int x1, .int x2, .int x3, .int x4] [] (u, ml_h m lm) Φ := (wp_same xd119_64 (Or.inr rfl) rfl).trans ((wp_same (S' := [.int (nI 42), .int x4]) xd119_66 (Or.inr rfl) rfl).trans (wx_icmp xd119_68 rfl rfl (¬ x4 = (nI 42)) mb_ne))
theorem x119_71 {x1 : Int32} {x2 : Int32} {x3 : Int32} {x4 : Int32} : wp Ln xs 119 71 [.ref 52, .int x1, .int x2, .int x3, .int x4] [] (u, ml_h m lm) Φ = wp Ln xs 119 106 [.ref 52, .int (nI 0), .int x1, .int x3, .int x4] [] (u, ml_h m lm) Φ := (wp_same xd119_71 (Or.inr rfl) rfl).trans ((wp_same (L' := [.ref 52, .int x1, .int x1, .int x3, .int x4]) xd119_72 (Or.inr rfl) rfl).trans ((wp_same (S' := [.int (nI 0)]) xd119_73 (Or.inr rfl) rfl).trans ((wp_same (L' := [.ref 52, .int (nI 0), .int x1, .int x3, .int x4]) xd119_74 (Or.inr rfl) rfl).trans (wx_goto xd119_75 rfl))))
theorem x119_78 {x1 : Int32} {x2 : Int32} {x3 : Int32} {x4 : Int32} : wp Ln xs 119 78 [.ref 52, .int x1, .int x2, .int x3, .int x4] [] (u, ml_h m lm) Φ = if ¬ x2 = ((-1)) then wp Ln xs 119 88 [.ref 52, .int x1, .int x2, .int x3, .int x4] [.ref 52] (u, ml_h m lm) Φ else wp Ln xs 119 84 [.ref 52, .int x1, .int x2, .int x3, .int x4] [.ref 52] (u, ml_h m lm) Φ := (wp_same xd119_78 (Or.inr rfl) rfl).trans ((wp_same xd119_79 (Or.inr rfl) rfl).trans ((wp_same (S' := [.int ((-1)), .int x2, .ref 52]) xd119_80 (Or.inr rfl) rfl).trans (wx_icmp xd119_81 rfl rfl (¬ x2 = ((-1))) mb_ne)))
theorem x119_84 {x1 : Int32} {x2 : Int32} {x3 : Int32} {x4 : Int32} : wp Ln xs 119 84 [.ref 52, .int x1, .int x2, .int x3, .int x4] [.ref 52] (u, ml_h m lm) Φ = wp Ln xs 119 89 [.ref 52, .int x1, .int x2, .int x3, .int x4] [.int x1, .ref 52] (u, ml_h m lm) Φ := (wp_same xd119_84 (Or.inr rfl) rfl).trans (wx_goto xd119_85 rfl)
theorem x119_88 {x1 : Int32} {x2 : Int32} {x3 : Int32} {x4 : Int32} : wp Ln xs 119 88 [.ref 52, .int x1, .int x2, .int x3, .int x4] [.ref 52] (u, ml_h m lm) Φ = wp Ln xs 119 89 [.ref 52, .int x1, .int x2, .int x3, .int x4] [.int x2, .ref 52] (u, ml_h m lm) Φ := wp_same xd119_88 (Or.inr rfl) rfl
theorem x119_89 {x1 : Int32} {x2 : Int32} {x3 : Int32} {x4 : Int32} {xs0 : Int32} : wp Ln xs 119 89 [.ref 52, .int x1, .int x2, .int x3, .int x4] [.int xs0, .ref 52] (u, ml_h m lm) Φ = if ¬ x2 = ((-1)) then wp Ln xs 119 98 [.ref 52, .int x1, .int x2, .int x3, .int x4] [.int xs0, .ref 52] (u, ml_h m lm) Φ else wp Ln xs 119 94 [.ref 52, .int x1, .int x2, .int x3, .int x4] [.int xs0, .ref 52] (u, ml_h m lm) Φ := (wp_same xd119_89 (Or.inr rfl) rfl).trans ((wp_same (S' := [.int ((-1)), .int x2, .int xs0, .ref 52]) xd119_90 (Or.inr rfl) rfl).trans (wx_icmp xd119_91 rfl rfl (¬ x2 = ((-1))) mb_ne))
theorem x119_94 {x1 : Int32} {x2 : Int32} {x3 : Int32} {x4 : Int32} {xs0 : Int32} : wp Ln xs 119 94 [.ref 52, .int x1, .int x2, .int x3, .int x4] [.int xs0, .ref 52] (u, ml_h m lm) Φ = wp Ln xs 119 99 [.ref 52, .int x1, .int x2, .int x3, .int x4] [.int (nI 1), .int xs0, .ref 52] (u, ml_h m lm) Φ := (wp_same (S' := [.int (nI 1), .int xs0, .ref 52]) xd119_94 (Or.inr rfl) rfl).trans (wx_goto xd119_95 rfl)
theorem x119_98 {x1 : Int32} {x2 : Int32} {x3 : Int32} {x4 : Int32} {xs0 : Int32} : wp Ln xs 119 98 [.ref 52, .int x1, .int x2, .int x3, .int x4] [.int xs0, .ref 52] (u, ml_h m lm) Φ = wp Ln xs 119 99 [.ref 52, .int x1, .int x2, .int x3, .int x4] [.int x1, .int xs0, .ref 52] (u, ml_h m lm) Φ := wp_same xd119_98 (Or.inr rfl) rfl
theorem x119_99 {x1 : Int32} {x2 : Int32} {x3 : Int32} {x4 : Int32} {xs0 : Int32} {xs1 : Int32} : wp Ln xs 119 99 [.ref 52, .int x1, .int x2, .int x3, .int x4] [.int xs0, .int xs1, .ref 52] (u, ml_h m lm) Φ = wp Ln xs 120 0 [.ref 52, .int xs1, .int xs0] [] (u, ml_h m lm) (mk Ln xs 119 99 [.ref 52, .int x1, .int x2, .int x3, .int x4] [] Φ) := wm_cv (As := [.int xs1, .int xs0]) (rest := []) xd119_99 rfl rfl (show ml_L[52]? = _ from rfl) (Nat.le_of_ble_eq_true rfl) (Nat.le_of_ble_eq_true rfl) (Nat.le_of_ble_eq_true rfl) (Nat.le_of_ble_eq_true rfl)
theorem x119_102 {x1 : Int32} {x2 : Int32} {x3 : Int32} {x4 : Int32} : wp Ln xs 119 102 [.ref 52, .int x1, .int x2, .int x3, .int x4] [] (u, ml_h m lm) Φ = wp Ln xs 119 106 [.ref 52, .int (nI 0), .int ((-1)), .int x3, .int x4] [] (u, ml_h m lm) Φ := (wp_same (S' := [.int ((-1))]) xd119_102 (Or.inr rfl) rfl).trans ((wp_same (L' := [.ref 52, .int x1, .int ((-1)), .int x3, .int x4]) xd119_103 (Or.inr rfl) rfl).trans ((wp_same (S' := [.int (nI 0)]) xd119_104 (Or.inr rfl) rfl).trans (wp_same (L' := [.ref 52, .int (nI 0), .int ((-1)), .int x3, .int x4]) xd119_105 (Or.inr rfl) rfl)))
theorem x119_106 {x1 : Int32} {x2 : Int32} {x3 : Int32} {x4 : Int32} : wp Ln xs 119 106 [.ref 52, .int x1, .int x2, .int x3, .int x4] [] (u, ml_h m lm) Φ = wp Ln xs 119 11 [.ref 52, .int x1, .int x2, .int (x3 + nI 1), .int x4] [] (u, ml_h m lm) Φ := (wp_same (L' := [.ref 52, .int x1, .int x2, .int (x3 + nI 1), .int x4]) xd119_106 (Or.inr rfl) rfl).trans (wx_goto xd119_109 rfl)
theorem x119_112 {x1 : Int32} {x2 : Int32} {x3 : Int32} {v4 : Value} : wp Ln xs 119 112 [.ref 52, .int x1, .int x2, .int x3, v4] [] (u, ml_h m lm) Φ = Φ (.inl none) (u, ml_h m lm) := wp_fin (v := none) xd119_112 (Or.inr rfl) rfl rfl
/- PickedForms$Text.addPart -/
theorem xd120_0 : decode (mj_b 120) 0 = .ok (.aload_n 0, 1) := by decide +kernel
theorem xd120_1 : decode (mj_b 120) 1 = .ok (.getfield 19, 3) := by decide +kernel
theorem xd120_4 : decode (mj_b 120) 4 = .ok (.aload_n 0, 1) := by decide +kernel
theorem xd120_5 : decode (mj_b 120) 5 = .ok (.getfield 25, 3) := by decide +kernel
theorem xd120_8 : decode (mj_b 120) 8 = .ok (.iload_n 1, 1) := by decide +kernel
theorem xd120_9 : decode (mj_b 120) 9 = .ok (.invokestatic 28, 3) := by decide +kernel
theorem xd120_12 : decode (mj_b 120) 12 = .ok (.aload_n 0, 1) := by decide +kernel
theorem xd120_13 : decode (mj_b 120) 13 = .ok (.getfield 22, 3) := by decide +kernel
theorem xd120_16 : decode (mj_b 120) 16 = .ok (.aload_n 0, 1) := by decide +kernel
theorem xd120_17 : decode (mj_b 120) 17 = .ok (.getfield 25, 3) := by decide +kernel
theorem xd120_20 : decode (mj_b 120) 20 = .ok (.iload_n 2, 1) := by decide +kernel
theorem xd120_21 : decode (mj_b 120) 21 = .ok (.invokestatic 28, 3) := by decide +kernel
theorem xd120_24 : decode (mj_b 120) 24 = .ok (.aload_n 0, 1) := by decide +kernel
theorem xd120_25 : decode (mj_b 120) 25 = .ok (.dup, 1) := by decide +kernel
theorem xd120_26 : decode (mj_b 120) 26 = .ok (.getfield 25, 3) := by decide +kernel
theorem xd120_29 : decode (mj_b 120) 29 = .ok (.iconst 1, 1) := by decide +kernel
theorem xd120_30 : decode (mj_b 120) 30 = .ok (.iadd, 1) := by decide +kernel
theorem xd120_31 : decode (mj_b 120) 31 = .ok (.putfield 25, 3) := by decide +kernel
theorem xd120_34 : decode (mj_b 120) 34 = .ok (.return_, 1) := by decide +kernel
theorem x120_0 {x1 : Int32} {x2 : Int32} : wp Ln xs 120 0 [.ref 52, .int x1, .int x2] [] (u, ml_h m lm) Φ = wp Ln xs 55 0 [.ref 54, .int (m 52 4), .int x1] [] (u, ml_h m lm) (mk Ln xs 120 9 [.ref 52, .int x1, .int x2] [] Φ) := (wp_same xd120_0 (Or.inr rfl) rfl).trans ((wm_getr xd120_1 rfl (show ml_L[52]? = _ from rfl) rfl (Nat.le_of_ble_eq_true rfl)).trans ((wp_same xd120_4 (Or.inr rfl) rfl).trans ((wm_geti xd120_5 rfl (show ml_L[52]? = _ from rfl) rfl (Nat.le_of_ble_eq_true rfl)).trans ((wp_same xd120_8 (Or.inr rfl) rfl).trans (wm_cs (As := [.ref 54, .int (m 52 4), .int x1]) (rest := []) xd120_9 rfl rfl (Nat.le_of_ble_eq_true rfl) (Nat.le_of_ble_eq_true rfl) (Nat.le_of_ble_eq_true rfl) (Nat.le_of_ble_eq_true rfl))))))
theorem x120_12 {x1 : Int32} {x2 : Int32} : wp Ln xs 120 12 [.ref 52, .int x1, .int x2] [] (u, ml_h m lm) Φ = wp Ln xs 55 0 [.ref 55, .int (m 52 4), .int x2] [] (u, ml_h m lm) (mk Ln xs 120 21 [.ref 52, .int x1, .int x2] [] Φ) := (wp_same xd120_12 (Or.inr rfl) rfl).trans ((wm_getr xd120_13 rfl (show ml_L[52]? = _ from rfl) rfl (Nat.le_of_ble_eq_true rfl)).trans ((wp_same xd120_16 (Or.inr rfl) rfl).trans ((wm_geti xd120_17 rfl (show ml_L[52]? = _ from rfl) rfl (Nat.le_of_ble_eq_true rfl)).trans ((wp_same xd120_20 (Or.inr rfl) rfl).trans (wm_cs (As := [.ref 55, .int (m 52 4), .int x2]) (rest := []) xd120_21 rfl rfl (Nat.le_of_ble_eq_true rfl) (Nat.le_of_ble_eq_true rfl) (Nat.le_of_ble_eq_true rfl) (Nat.le_of_ble_eq_true rfl))))))
theorem x120_24 {x1 : Int32} {x2 : Int32} : wp Ln xs 120 24 [.ref 52, .int x1, .int x2] [] (u, ml_h m lm) Φ = Φ (.inl none) (u, ml_h (ml_s m 52 4 ((m 52 4) + (nI 1))) lm) := (wp_same xd120_24 (Or.inr rfl) rfl).trans ((wp_same xd120_25 (Or.inr rfl) rfl).trans ((wm_geti xd120_26 rfl (show ml_L[52]? = _ from rfl) rfl (Nat.le_of_ble_eq_true rfl)).trans ((wp_same (S' := [.int (nI 1), .int (m 52 4), .ref 52]) xd120_29 (Or.inr rfl) rfl).trans ((wp_same xd120_30 (Or.inr rfl) rfl).trans ((wm_puti xd120_31 rfl (show ml_L[52]? = _ from rfl) rfl (Nat.le_of_ble_eq_true rfl) rfl rfl rfl).trans (wp_fin (v := none) xd120_34 (Or.inr rfl) rfl rfl))))))
/- PickedFormsLaw.goBack -/
theorem xd121_0 : decode (mj_b 121) 0 = .ok (.aload_n 1, 1) := by decide +kernel
theorem xd121_1 : decode (mj_b 121) 1 = .ok (.iconst 0, 1) := by decide +kernel
theorem xd121_2 : decode (mj_b 121) 2 = .ok (.aload_n 0, 1) := by decide +kernel
theorem xd121_3 : decode (mj_b 121) 3 = .ok (.invokevirtual 48, 3) := by decide +kernel
theorem xd121_6 : decode (mj_b 121) 6 = .ok (.i2l, 1) := by decide +kernel
theorem xd121_7 : decode (mj_b 121) 7 = .ok (.lastore, 1) := by decide +kernel
theorem xd121_8 : decode (mj_b 121) 8 = .ok (.goto 6, 3) := by decide +kernel
theorem xd121_12 : decode (mj_b 121) 12 = .ok (.iconst 1, 1) := by decide +kernel
theorem xd121_13 : decode (mj_b 121) 13 = .ok (.ireturn, 1) := by decide +kernel
theorem xd121_14 : decode (mj_b 121) 14 = .ok (.iconst 0, 1) := by decide +kernel
theorem xd121_15 : decode (mj_b 121) 15 = .ok (.ireturn, 1) := by decide +kernel
theorem x121_0 : wp Ln xs 121 0 [.ref 1, .ref 81, mj_hole] [] (u, ml_h m lm) Φ = wp Ln xs 122 0 [.ref 1] [] (u, ml_h m lm) (mk Ln xs 121 3 [.ref 1, .ref 81, mj_hole] [.int (nI 0), .ref 81] Φ) := (wp_same xd121_0 (Or.inr rfl) rfl).trans ((wp_same (S' := [.int (nI 0), .ref 81]) xd121_1 (Or.inr rfl) rfl).trans ((wp_same xd121_2 (Or.inr rfl) rfl).trans (wm_cv (As := []) (rest := [.int (nI 0), .ref 81]) xd121_3 rfl rfl (show ml_L[1]? = _ from rfl) (Nat.le_of_ble_eq_true rfl) (Nat.le_of_ble_eq_true rfl) (Nat.le_of_ble_eq_true rfl) (Nat.le_of_ble_eq_true rfl))))
theorem x121_6 {xs0 : Int32} {xs1 : Int32} : wp Ln xs 121 6 [.ref 1, .ref 81, mj_hole] [.int xs0, .int xs1, .ref 81] (u, ml_h m lm) Φ = wp Ln xs 121 7 [.ref 1, .ref 81, mj_hole] [.long xs0.toInt64, .int xs1, .ref 81] (u, ml_h m lm) Φ := wp_same xd121_6 (Or.inr rfl) rfl
theorem x121_7 {ys0 : Int64} {k : Nat} (hk : k < 1) : wp Ln xs 121 7 [.ref 1, .ref 81, mj_hole] [.long ys0, .int (nI k), .ref 81] (u, ml_h m lm) Φ = wp Ln xs 121 14 [.ref 1, .ref 81, mj_hole] [] (u, ml_h m (ml_sj lm 81 k ys0)) Φ := (wm_last (k := k) xd121_7 rfl hk (by decide)).trans (wx_goto xd121_8 rfl)
theorem x121_12 : wp Ln xs 121 12 [.ref 1, .ref 81, mj_hole] [] (u, ml_h m lm) Φ = Φ (.inl (some (.int (nI 1)))) (u, ml_h m lm) := (wp_same (S' := [.int (nI 1)]) xd121_12 (Or.inr rfl) rfl).trans (wp_fin (v := some (.int (nI 1))) xd121_13 (Or.inr rfl) rfl (mj_fin_i rfl))
theorem x121_14 : wp Ln xs 121 14 [.ref 1, .ref 81, mj_hole] [] (u, ml_h m lm) Φ = Φ (.inl (some (.int (nI 0)))) (u, ml_h m lm) := (wp_same (S' := [.int (nI 0)]) xd121_14 (Or.inr rfl) rfl).trans (wp_fin (v := some (.int (nI 0))) xd121_15 (Or.inr rfl) rfl (mj_fin_i rfl))
/- PickedForms.goBack -/
theorem xd122_0 : decode (mj_b 122) 0 = .ok (.aload_n 0, 1) := by decide +kernel
theorem xd122_1 : decode (mj_b 122) 1 = .ok (.getfield 19, 3) := by decide +kernel
theorem xd122_4 : decode (mj_b 122) 4 = .ok (.ifCond .ne 13, 3) := by decide +kernel
theorem xd122_7 : decode (mj_b 122) 7 = .ok (.new 91, 3) := by decide +kernel
theorem xd122_17 : decode (mj_b 122) 17 = .ok (.aload_n 0, 1) := by decide +kernel
theorem xd122_18 : decode (mj_b 122) 18 = .ok (.getfield 26, 3) := by decide +kernel
theorem xd122_21 : decode (mj_b 122) 21 = .ok (.aload_n 0, 1) := by decide +kernel
theorem xd122_22 : decode (mj_b 122) 22 = .ok (.getfield 12, 3) := by decide +kernel
theorem xd122_25 : decode (mj_b 122) 25 = .ok (.invokevirtual 96, 3) := by decide +kernel
theorem xd122_28 : decode (mj_b 122) 28 = .ok (.aload_n 0, 1) := by decide +kernel
theorem xd122_29 : decode (mj_b 122) 29 = .ok (.getfield 12, 3) := by decide +kernel
theorem xd122_32 : decode (mj_b 122) 32 = .ok (.aload_n 0, 1) := by decide +kernel
theorem xd122_33 : decode (mj_b 122) 33 = .ok (.getfield 16, 3) := by decide +kernel
theorem xd122_36 : decode (mj_b 122) 36 = .ok (.invokevirtual 240, 3) := by decide +kernel
theorem xd122_39 : decode (mj_b 122) 39 = .ok (.aload_n 0, 1) := by decide +kernel
theorem xd122_40 : decode (mj_b 122) 40 = .ok (.getfield 12, 3) := by decide +kernel
theorem xd122_43 : decode (mj_b 122) 43 = .ok (.getfield 104, 3) := by decide +kernel
theorem xd122_46 : decode (mj_b 122) 46 = .ok (.ireturn, 1) := by decide +kernel
theorem x122_0 : wp Ln xs 122 0 [.ref 1] [] (u, ml_h m lm) Φ = if ¬ (m 1 2) = (nI 0) then wp Ln xs 122 17 [.ref 1] [] (u, ml_h m lm) Φ else wp Ln xs 122 7 [.ref 1] [] (u, ml_h m lm) Φ := (wp_same xd122_0 (Or.inr rfl) rfl).trans ((wm_geti xd122_1 rfl (show ml_L[1]? = _ from rfl) rfl (Nat.le_of_ble_eq_true rfl)).trans (wx_if xd122_4 rfl rfl (¬ (m 1 2) = (nI 0)) mb_ne))
theorem x122_7 : wp Ln xs 122 7 [.ref 1] [] (u, ml_h m lm) Φ = Φ (.inr 1) ((u.1, u.2.1 + 1, u.2.2 + 6), ml_h m lm) := wp_thr xd122_7 (Or.inr rfl) rfl rfl (E := 1) (by decide +kernel)
theorem x122_17 : wp Ln xs 122 17 [.ref 1] [] (u, ml_h m lm) Φ = wp Ln xs 85 0 [.ref 14, .ref 2, mj_hole] [] (u, ml_h m lm) (mk Ln xs 122 25 [.ref 1] [] Φ) := (wp_same xd122_17 (Or.inr rfl) rfl).trans ((wm_getr xd122_18 rfl (show ml_L[1]? = _ from rfl) rfl (Nat.le_of_ble_eq_true rfl)).trans ((wp_same xd122_21 (Or.inr rfl) rfl).trans ((wm_getr xd122_22 rfl (show ml_L[1]? = _ from rfl) rfl (Nat.le_of_ble_eq_true rfl)).trans (wm_cv (As := [.ref 2]) (rest := []) xd122_25 rfl rfl (show ml_L[14]? = _ from rfl) (Nat.le_of_ble_eq_true rfl) (Nat.le_of_ble_eq_true rfl) (Nat.le_of_ble_eq_true rfl) (Nat.le_of_ble_eq_true rfl)))))
theorem x122_28 : wp Ln xs 122 28 [.ref 1] [] (u, ml_h m lm) Φ = wp Ln xs 18 0 [.ref 2, .ref 8] [] (u, ml_h m lm) (mk Ln xs 122 36 [.ref 1] [] Φ) := (wp_same xd122_28 (Or.inr rfl) rfl).trans ((wm_getr xd122_29 rfl (show ml_L[1]? = _ from rfl) rfl (Nat.le_of_ble_eq_true rfl)).trans ((wp_same xd122_32 (Or.inr rfl) rfl).trans ((wm_getr xd122_33 rfl (show ml_L[1]? = _ from rfl) rfl (Nat.le_of_ble_eq_true rfl)).trans (wm_cv (As := [.ref 8]) (rest := []) xd122_36 rfl rfl (show ml_L[2]? = _ from rfl) (Nat.le_of_ble_eq_true rfl) (Nat.le_of_ble_eq_true rfl) (Nat.le_of_ble_eq_true rfl) (Nat.le_of_ble_eq_true rfl)))))
theorem x122_39 : wp Ln xs 122 39 [.ref 1] [] (u, ml_h m lm) Φ = Φ (.inl (some (.int (m 2 5)))) (u, ml_h m lm) := (wp_same xd122_39 (Or.inr rfl) rfl).trans ((wm_getr xd122_40 rfl (show ml_L[1]? = _ from rfl) rfl (Nat.le_of_ble_eq_true rfl)).trans ((wm_geti xd122_43 rfl (show ml_L[2]? = _ from rfl) rfl (Nat.le_of_ble_eq_true rfl)).trans (wp_fin (v := some (.int (m 2 5))) xd122_46 (Or.inr rfl) rfl (mj_fin_i rfl))))
/- PickedFormsLaw.undo -/
theorem xd123_0 : decode (mj_b 123) 0 = .ok (.aload_n 1, 1) := by decide +kernel
theorem xd123_1 : decode (mj_b 123) 1 = .ok (.iconst 0, 1) := by decide +kernel
theorem xd123_2 : decode (mj_b 123) 2 = .ok (.aload_n 0, 1) := by decide +kernel
theorem xd123_3 : decode (mj_b 123) 3 = .ok (.invokevirtual 51, 3) := by decide +kernel
theorem xd123_6 : decode (mj_b 123) 6 = .ok (.i2l, 1) := by decide +kernel
theorem xd123_7 : decode (mj_b 123) 7 = .ok (.lastore, 1) := by decide +kernel
theorem xd123_8 : decode (mj_b 123) 8 = .ok (.goto 6, 3) := by decide +kernel
theorem xd123_12 : decode (mj_b 123) 12 = .ok (.iconst 1, 1) := by decide +kernel
theorem xd123_13 : decode (mj_b 123) 13 = .ok (.ireturn, 1) := by decide +kernel
theorem xd123_14 : decode (mj_b 123) 14 = .ok (.iconst 0, 1) := by decide +kernel
theorem xd123_15 : decode (mj_b 123) 15 = .ok (.ireturn, 1) := by decide +kernel
theorem x123_0 : wp Ln xs 123 0 [.ref 1, .ref 81, mj_hole] [] (u, ml_h m lm) Φ = wp Ln xs 124 0 [.ref 1] [] (u, ml_h m lm) (mk Ln xs 123 3 [.ref 1, .ref 81, mj_hole] [.int (nI 0), .ref 81] Φ) := (wp_same xd123_0 (Or.inr rfl) rfl).trans ((wp_same (S' := [.int (nI 0), .ref 81]) xd123_1 (Or.inr rfl) rfl).trans ((wp_same xd123_2 (Or.inr rfl) rfl).trans (wm_cv (As := []) (rest := [.int (nI 0), .ref 81]) xd123_3 rfl rfl (show ml_L[1]? = _ from rfl) (Nat.le_of_ble_eq_true rfl) (Nat.le_of_ble_eq_true rfl) (Nat.le_of_ble_eq_true rfl) (Nat.le_of_ble_eq_true rfl))))
theorem x123_6 {xs0 : Int32} {xs1 : Int32} : wp Ln xs 123 6 [.ref 1, .ref 81, mj_hole] [.int xs0, .int xs1, .ref 81] (u, ml_h m lm) Φ = wp Ln xs 123 7 [.ref 1, .ref 81, mj_hole] [.long xs0.toInt64, .int xs1, .ref 81] (u, ml_h m lm) Φ := wp_same xd123_6 (Or.inr rfl) rfl
theorem x123_7 {ys0 : Int64} {k : Nat} (hk : k < 1) : wp Ln xs 123 7 [.ref 1, .ref 81, mj_hole] [.long ys0, .int (nI k), .ref 81] (u, ml_h m lm) Φ = wp Ln xs 123 14 [.ref 1, .ref 81, mj_hole] [] (u, ml_h m (ml_sj lm 81 k ys0)) Φ := (wm_last (k := k) xd123_7 rfl hk (by decide)).trans (wx_goto xd123_8 rfl)
theorem x123_12 : wp Ln xs 123 12 [.ref 1, .ref 81, mj_hole] [] (u, ml_h m lm) Φ = Φ (.inl (some (.int (nI 1)))) (u, ml_h m lm) := (wp_same (S' := [.int (nI 1)]) xd123_12 (Or.inr rfl) rfl).trans (wp_fin (v := some (.int (nI 1))) xd123_13 (Or.inr rfl) rfl (mj_fin_i rfl))
theorem x123_14 : wp Ln xs 123 14 [.ref 1, .ref 81, mj_hole] [] (u, ml_h m lm) Φ = Φ (.inl (some (.int (nI 0)))) (u, ml_h m lm) := (wp_same (S' := [.int (nI 0)]) xd123_14 (Or.inr rfl) rfl).trans (wp_fin (v := some (.int (nI 0))) xd123_15 (Or.inr rfl) rfl (mj_fin_i rfl))
/- PickedForms.undo -/
theorem xd124_0 : decode (mj_b 124) 0 = .ok (.aload_n 0, 1) := by decide +kernel
theorem xd124_1 : decode (mj_b 124) 1 = .ok (.getfield 26, 3) := by decide +kernel
theorem xd124_4 : decode (mj_b 124) 4 = .ok (.getfield 245, 3) := by decide +kernel
theorem xd124_7 : decode (mj_b 124) 7 = .ok (.ifCond .ne 13, 3) := by decide +kernel
theorem xd124_10 : decode (mj_b 124) 10 = .ok (.new 91, 3) := by decide +kernel
theorem xd124_20 : decode (mj_b 124) 20 = .ok (.aload_n 0, 1) := by decide +kernel
theorem xd124_21 : decode (mj_b 124) 21 = .ok (.getfield 26, 3) := by decide +kernel
theorem xd124_24 : decode (mj_b 124) 24 = .ok (.aload_n 0, 1) := by decide +kernel
theorem xd124_25 : decode (mj_b 124) 25 = .ok (.getfield 12, 3) := by decide +kernel
theorem xd124_28 : decode (mj_b 124) 28 = .ok (.invokevirtual 250, 3) := by decide +kernel
theorem xd124_31 : decode (mj_b 124) 31 = .ok (.aload_n 0, 1) := by decide +kernel
theorem xd124_32 : decode (mj_b 124) 32 = .ok (.getfield 26, 3) := by decide +kernel
theorem xd124_35 : decode (mj_b 124) 35 = .ok (.getfield 245, 3) := by decide +kernel
theorem xd124_38 : decode (mj_b 124) 38 = .ok (.ireturn, 1) := by decide +kernel
theorem x124_0 : wp Ln xs 124 0 [.ref 1] [] (u, ml_h m lm) Φ = if ¬ (m 14 2) = (nI 0) then wp Ln xs 124 20 [.ref 1] [] (u, ml_h m lm) Φ else wp Ln xs 124 10 [.ref 1] [] (u, ml_h m lm) Φ := (wp_same xd124_0 (Or.inr rfl) rfl).trans ((wm_getr xd124_1 rfl (show ml_L[1]? = _ from rfl) rfl (Nat.le_of_ble_eq_true rfl)).trans ((wm_geti xd124_4 rfl (show ml_L[14]? = _ from rfl) rfl (Nat.le_of_ble_eq_true rfl)).trans (wx_if xd124_7 rfl rfl (¬ (m 14 2) = (nI 0)) mb_ne)))
theorem x124_10 : wp Ln xs 124 10 [.ref 1] [] (u, ml_h m lm) Φ = Φ (.inr 1) ((u.1, u.2.1 + 1, u.2.2 + 6), ml_h m lm) := wp_thr xd124_10 (Or.inr rfl) rfl rfl (E := 1) (by decide +kernel)
theorem x124_20 : wp Ln xs 124 20 [.ref 1] [] (u, ml_h m lm) Φ = wp Ln xs 125 0 [.ref 14, .ref 2, mj_hole] [] (u, ml_h m lm) (mk Ln xs 124 28 [.ref 1] [] Φ) := (wp_same xd124_20 (Or.inr rfl) rfl).trans ((wm_getr xd124_21 rfl (show ml_L[1]? = _ from rfl) rfl (Nat.le_of_ble_eq_true rfl)).trans ((wp_same xd124_24 (Or.inr rfl) rfl).trans ((wm_getr xd124_25 rfl (show ml_L[1]? = _ from rfl) rfl (Nat.le_of_ble_eq_true rfl)).trans (wm_cv (As := [.ref 2]) (rest := []) xd124_28 rfl rfl (show ml_L[14]? = _ from rfl) (Nat.le_of_ble_eq_true rfl) (Nat.le_of_ble_eq_true rfl) (Nat.le_of_ble_eq_true rfl) (Nat.le_of_ble_eq_true rfl)))))
theorem x124_31 : wp Ln xs 124 31 [.ref 1] [] (u, ml_h m lm) Φ = Φ (.inl (some (.int (m 14 2)))) (u, ml_h m lm) := (wp_same xd124_31 (Or.inr rfl) rfl).trans ((wm_getr xd124_32 rfl (show ml_L[1]? = _ from rfl) rfl (Nat.le_of_ble_eq_true rfl)).trans ((wm_geti xd124_35 rfl (show ml_L[14]? = _ from rfl) rfl (Nat.le_of_ble_eq_true rfl)).trans (wp_fin (v := some (.int (m 14 2))) xd124_38 (Or.inr rfl) rfl (mj_fin_i rfl))))
/- PickedForms$History.popInto -/
theorem xd125_0 : decode (mj_b 125) 0 = .ok (.aload_n 0, 1) := by decide +kernel
theorem xd125_1 : decode (mj_b 125) 1 = .ok (.getfield 21, 3) := by decide +kernel
theorem xd125_4 : decode (mj_b 125) 4 = .ok (.ifCond .le 36, 3) := by decide +kernel
theorem xd125_7 : decode (mj_b 125) 7 = .ok (.aload_n 0, 1) := by decide +kernel
theorem xd125_8 : decode (mj_b 125) 8 = .ok (.dup, 1) := by decide +kernel
theorem xd125_9 : decode (mj_b 125) 9 = .ok (.getfield 21, 3) := by decide +kernel
theorem xd125_12 : decode (mj_b 125) 12 = .ok (.iconst 1, 1) := by decide +kernel
theorem xd125_13 : decode (mj_b 125) 13 = .ok (.isub, 1) := by decide +kernel
theorem xd125_14 : decode (mj_b 125) 14 = .ok (.putfield 21, 3) := by decide +kernel
theorem xd125_17 : decode (mj_b 125) 17 = .ok (.aload_n 0, 1) := by decide +kernel
theorem xd125_18 : decode (mj_b 125) 18 = .ok (.aload_n 0, 1) := by decide +kernel
theorem xd125_19 : decode (mj_b 125) 19 = .ok (.getfield 17, 3) := by decide +kernel
theorem xd125_22 : decode (mj_b 125) 22 = .ok (.aload_n 0, 1) := by decide +kernel
theorem xd125_23 : decode (mj_b 125) 23 = .ok (.getfield 21, 3) := by decide +kernel
theorem xd125_26 : decode (mj_b 125) 26 = .ok (.iadd, 1) := by decide +kernel
theorem xd125_27 : decode (mj_b 125) 27 = .ok (.invokevirtual 25, 3) := by decide +kernel
theorem xd125_30 : decode (mj_b 125) 30 = .ok (.astore_n 2, 1) := by decide +kernel
theorem xd125_31 : decode (mj_b 125) 31 = .ok (.aload_n 2, 1) := by decide +kernel
theorem xd125_32 : decode (mj_b 125) 32 = .ok (.ifnull 8, 3) := by decide +kernel
theorem xd125_35 : decode (mj_b 125) 35 = .ok (.aload_n 1, 1) := by decide +kernel
theorem xd125_36 : decode (mj_b 125) 36 = .ok (.aload_n 2, 1) := by decide +kernel
theorem xd125_37 : decode (mj_b 125) 37 = .ok (.invokevirtual 29, 3) := by decide +kernel
theorem xd125_40 : decode (mj_b 125) 40 = .ok (.return_, 1) := by decide +kernel
theorem x125_0 : wp Ln xs 125 0 [.ref 14, .ref 2, mj_hole] [] (u, ml_h m lm) Φ = if (m 14 2) ≤ (nI 0) then wp Ln xs 125 40 [.ref 14, .ref 2, mj_hole] [] (u, ml_h m lm) Φ else wp Ln xs 125 7 [.ref 14, .ref 2, mj_hole] [] (u, ml_h m lm) Φ := (wp_same xd125_0 (Or.inr rfl) rfl).trans ((wm_geti xd125_1 rfl (show ml_L[14]? = _ from rfl) rfl (Nat.le_of_ble_eq_true rfl)).trans (wx_if xd125_4 rfl rfl ((m 14 2) ≤ (nI 0)) mb_le))
theorem x125_7 : wp Ln xs 125 7 [.ref 14, .ref 2, mj_hole] [] (u, ml_h m lm) Φ = wp Ln xs 86 0 [.ref 14, .int (((ml_s m 14 2 ((m 14 2) - (nI 1))) 14 1) + ((ml_s m 14 2 ((m 14 2) - (nI 1))) 14 2)), mj_hole] [] (u, ml_h (ml_s m 14 2 ((m 14 2) - (nI 1))) lm) (mk Ln xs 125 27 [.ref 14, .ref 2, mj_hole] [] Φ) := (wp_same xd125_7 (Or.inr rfl) rfl).trans ((wp_same xd125_8 (Or.inr rfl) rfl).trans ((wm_geti xd125_9 rfl (show ml_L[14]? = _ from rfl) rfl (Nat.le_of_ble_eq_true rfl)).trans ((wp_same (S' := [.int (nI 1), .int (m 14 2), .ref 14]) xd125_12 (Or.inr rfl) rfl).trans ((wp_same xd125_13 (Or.inr rfl) rfl).trans ((wm_puti xd125_14 rfl (show ml_L[14]? = _ from rfl) rfl (Nat.le_of_ble_eq_true rfl) rfl rfl rfl).trans ((wp_same xd125_17 (Or.inr rfl) rfl).trans ((wp_same xd125_18 (Or.inr rfl) rfl).trans ((wm_geti xd125_19 rfl (show ml_L[14]? = _ from rfl) rfl (Nat.le_of_ble_eq_true rfl)).trans ((wp_same xd125_22 (Or.inr rfl) rfl).trans ((wm_geti xd125_23 rfl (show ml_L[14]? = _ from rfl) rfl (Nat.le_of_ble_eq_true rfl)).trans ((wp_same xd125_26 (Or.inr rfl) rfl).trans (wm_cv (As := [.int (((ml_s m 14 2 ((m 14 2) - (nI 1))) 14 1) + ((ml_s m 14 2 ((m 14 2) - (nI 1))) 14 2))]) (rest := []) xd125_27 rfl rfl (show ml_L[14]? = _ from rfl) (Nat.le_of_ble_eq_true rfl) (Nat.le_of_ble_eq_true rfl) (Nat.le_of_ble_eq_true rfl) (Nat.le_of_ble_eq_true rfl)))))))))))))
theorem x125_30 {rs0 : Nat} : wp Ln xs 125 30 [.ref 14, .ref 2, mj_hole] [.ref rs0] (u, ml_h m lm) Φ = wp Ln xs 18 0 [.ref 2, .ref rs0] [] (u, ml_h m lm) (mk Ln xs 125 37 [.ref 14, .ref 2, .ref rs0] [] Φ) := (wp_same (L' := [.ref 14, .ref 2, .ref rs0]) xd125_30 (Or.inr rfl) rfl).trans ((wp_same xd125_31 (Or.inr rfl) rfl).trans ((wp_same xd125_32 (Or.inr rfl) rfl).trans ((wp_same xd125_35 (Or.inr rfl) rfl).trans ((wp_same xd125_36 (Or.inr rfl) rfl).trans (wm_cv (As := [.ref rs0]) (rest := []) xd125_37 rfl rfl (show ml_L[2]? = _ from rfl) (Nat.le_of_ble_eq_true rfl) (Nat.le_of_ble_eq_true rfl) (Nat.le_of_ble_eq_true rfl) (Nat.le_of_ble_eq_true rfl))))))
theorem x125_40 {v2 : Value} : wp Ln xs 125 40 [.ref 14, .ref 2, v2] [] (u, ml_h m lm) Φ = Φ (.inl none) (u, ml_h m lm) := wp_fin (v := none) xd125_40 (Or.inr rfl) rfl rfl
/- PickedFormsLaw.value -/
theorem xd126_0 : decode (mj_b 126) 0 = .ok (.aload_n 3, 1) := by decide +kernel
theorem xd126_1 : decode (mj_b 126) 1 = .ok (.iconst 0, 1) := by decide +kernel
theorem xd126_2 : decode (mj_b 126) 2 = .ok (.aload_n 0, 1) := by decide +kernel
theorem xd126_3 : decode (mj_b 126) 3 = .ok (.iload_n 1, 1) := by decide +kernel
theorem xd126_4 : decode (mj_b 126) 4 = .ok (.iload_n 2, 1) := by decide +kernel
theorem xd126_5 : decode (mj_b 126) 5 = .ok (.invokevirtual 54, 3) := by decide +kernel
theorem xd126_8 : decode (mj_b 126) 8 = .ok (.i2l, 1) := by decide +kernel
theorem xd126_9 : decode (mj_b 126) 9 = .ok (.lastore, 1) := by decide +kernel
theorem xd126_10 : decode (mj_b 126) 10 = .ok (.goto 11, 3) := by decide +kernel
theorem xd126_15 : decode (mj_b 126) 15 = .ok (.iconst 1, 1) := by decide +kernel
theorem xd126_16 : decode (mj_b 126) 16 = .ok (.ireturn, 1) := by decide +kernel
theorem xd126_19 : decode (mj_b 126) 19 = .ok (.iconst 2, 1) := by decide +kernel
theorem xd126_20 : decode (mj_b 126) 20 = .ok (.ireturn, 1) := by decide +kernel
theorem xd126_21 : decode (mj_b 126) 21 = .ok (.iconst 0, 1) := by decide +kernel
theorem xd126_22 : decode (mj_b 126) 22 = .ok (.ireturn, 1) := by decide +kernel
theorem x126_0 {x1 : Int32} {x2 : Int32} : wp Ln xs 126 0 [.ref 1, .int x1, .int x2, .ref 81, mj_hole] [] (u, ml_h m lm) Φ = wp Ln xs 127 0 [.ref 1, .int x1, .int x2] [] (u, ml_h m lm) (mk Ln xs 126 5 [.ref 1, .int x1, .int x2, .ref 81, mj_hole] [.int (nI 0), .ref 81] Φ) := (wp_same xd126_0 (Or.inr rfl) rfl).trans ((wp_same (S' := [.int (nI 0), .ref 81]) xd126_1 (Or.inr rfl) rfl).trans ((wp_same xd126_2 (Or.inr rfl) rfl).trans ((wp_same xd126_3 (Or.inr rfl) rfl).trans ((wp_same xd126_4 (Or.inr rfl) rfl).trans (wm_cv (As := [.int x1, .int x2]) (rest := [.int (nI 0), .ref 81]) xd126_5 rfl rfl (show ml_L[1]? = _ from rfl) (Nat.le_of_ble_eq_true rfl) (Nat.le_of_ble_eq_true rfl) (Nat.le_of_ble_eq_true rfl) (Nat.le_of_ble_eq_true rfl))))))
theorem x126_8 {x1 : Int32} {x2 : Int32} {xs0 : Int32} {xs1 : Int32} : wp Ln xs 126 8 [.ref 1, .int x1, .int x2, .ref 81, mj_hole] [.int xs0, .int xs1, .ref 81] (u, ml_h m lm) Φ = wp Ln xs 126 9 [.ref 1, .int x1, .int x2, .ref 81, mj_hole] [.long xs0.toInt64, .int xs1, .ref 81] (u, ml_h m lm) Φ := wp_same xd126_8 (Or.inr rfl) rfl
theorem x126_9 {x1 : Int32} {x2 : Int32} {ys0 : Int64} {k : Nat} (hk : k < 1) : wp Ln xs 126 9 [.ref 1, .int x1, .int x2, .ref 81, mj_hole] [.long ys0, .int (nI k), .ref 81] (u, ml_h m lm) Φ = wp Ln xs 126 21 [.ref 1, .int x1, .int x2, .ref 81, mj_hole] [] (u, ml_h m (ml_sj lm 81 k ys0)) Φ := (wm_last (k := k) xd126_9 rfl hk (by decide)).trans (wx_goto xd126_10 rfl)
theorem x126_15 {x1 : Int32} {x2 : Int32} : wp Ln xs 126 15 [.ref 1, .int x1, .int x2, .ref 81, mj_hole] [] (u, ml_h m lm) Φ = Φ (.inl (some (.int (nI 1)))) (u, ml_h m lm) := (wp_same (S' := [.int (nI 1)]) xd126_15 (Or.inr rfl) rfl).trans (wp_fin (v := some (.int (nI 1))) xd126_16 (Or.inr rfl) rfl (mj_fin_i rfl))
theorem x126_19 {x1 : Int32} {x2 : Int32} : wp Ln xs 126 19 [.ref 1, .int x1, .int x2, .ref 81, mj_hole] [] (u, ml_h m lm) Φ = Φ (.inl (some (.int (nI 2)))) (u, ml_h m lm) := (wp_same (S' := [.int (nI 2)]) xd126_19 (Or.inr rfl) rfl).trans (wp_fin (v := some (.int (nI 2))) xd126_20 (Or.inr rfl) rfl (mj_fin_i rfl))
theorem x126_21 {x1 : Int32} {x2 : Int32} : wp Ln xs 126 21 [.ref 1, .int x1, .int x2, .ref 81, mj_hole] [] (u, ml_h m lm) Φ = Φ (.inl (some (.int (nI 0)))) (u, ml_h m lm) := (wp_same (S' := [.int (nI 0)]) xd126_21 (Or.inr rfl) rfl).trans (wp_fin (v := some (.int (nI 0))) xd126_22 (Or.inr rfl) rfl (mj_fin_i rfl))
/- PickedForms.value -/
theorem xd127_0 : decode (mj_b 127) 0 = .ok (.aload_n 0, 1) := by decide +kernel
theorem xd127_1 : decode (mj_b 127) 1 = .ok (.getfield 12, 3) := by decide +kernel
theorem xd127_4 : decode (mj_b 127) 4 = .ok (.iload_n 1, 1) := by decide +kernel
theorem xd127_5 : decode (mj_b 127) 5 = .ok (.invokevirtual 127, 3) := by decide +kernel
theorem xd127_8 : decode (mj_b 127) 8 = .ok (.ifCond .ne 13, 3) := by decide +kernel
theorem xd127_11 : decode (mj_b 127) 11 = .ok (.new 130, 3) := by decide +kernel
theorem xd127_21 : decode (mj_b 127) 21 = .ok (.iload_n 2, 1) := by decide +kernel
theorem xd127_22 : decode (mj_b 127) 22 = .ok (.ifCond .lt 8, 3) := by decide +kernel
theorem xd127_25 : decode (mj_b 127) 25 = .ok (.iload_n 2, 1) := by decide +kernel
theorem xd127_26 : decode (mj_b 127) 26 = .ok (.iconst 3, 1) := by decide +kernel
theorem xd127_27 : decode (mj_b 127) 27 = .ok (.if_icmp .le 13, 3) := by decide +kernel
theorem xd127_30 : decode (mj_b 127) 30 = .ok (.new 80, 3) := by decide +kernel
theorem xd127_40 : decode (mj_b 127) 40 = .ok (.aload_n 0, 1) := by decide +kernel
theorem xd127_41 : decode (mj_b 127) 41 = .ok (.iload_n 1, 1) := by decide +kernel
theorem xd127_42 : decode (mj_b 127) 42 = .ok (.iload_n 2, 1) := by decide +kernel
theorem xd127_43 : decode (mj_b 127) 43 = .ok (.invokevirtual 255, 3) := by decide +kernel
theorem xd127_46 : decode (mj_b 127) 46 = .ok (.ireturn, 1) := by decide +kernel
theorem x127_0 {x1 : Int32} {x2 : Int32} : wp Ln xs 127 0 [.ref 1, .int x1, .int x2] [] (u, ml_h m lm) Φ = wp Ln xs 94 0 [.ref 2, .int x1] [] (u, ml_h m lm) (mk Ln xs 127 5 [.ref 1, .int x1, .int x2] [] Φ) := (wp_same xd127_0 (Or.inr rfl) rfl).trans ((wm_getr xd127_1 rfl (show ml_L[1]? = _ from rfl) rfl (Nat.le_of_ble_eq_true rfl)).trans ((wp_same xd127_4 (Or.inr rfl) rfl).trans (wm_cv (As := [.int x1]) (rest := []) xd127_5 rfl rfl (show ml_L[2]? = _ from rfl) (Nat.le_of_ble_eq_true rfl) (Nat.le_of_ble_eq_true rfl) (Nat.le_of_ble_eq_true rfl) (Nat.le_of_ble_eq_true rfl))))
theorem x127_8 {x1 : Int32} {x2 : Int32} {xs0 : Int32} : wp Ln xs 127 8 [.ref 1, .int x1, .int x2] [.int xs0] (u, ml_h m lm) Φ = if ¬ xs0 = (nI 0) then wp Ln xs 127 21 [.ref 1, .int x1, .int x2] [] (u, ml_h m lm) Φ else wp Ln xs 127 11 [.ref 1, .int x1, .int x2] [] (u, ml_h m lm) Φ := wx_if xd127_8 rfl rfl (¬ xs0 = (nI 0)) mb_ne
theorem x127_11 {x1 : Int32} {x2 : Int32} : wp Ln xs 127 11 [.ref 1, .int x1, .int x2] [] (u, ml_h m lm) Φ = Φ (.inr 2) ((u.1, u.2.1 + 1, u.2.2 + 6), ml_h m lm) := wp_thr xd127_11 (Or.inr rfl) rfl rfl (E := 2) (by decide +kernel)
theorem x127_21 {x1 : Int32} {x2 : Int32} : wp Ln xs 127 21 [.ref 1, .int x1, .int x2] [] (u, ml_h m lm) Φ = if x2 < (nI 0) then wp Ln xs 127 30 [.ref 1, .int x1, .int x2] [] (u, ml_h m lm) Φ else wp Ln xs 127 25 [.ref 1, .int x1, .int x2] [] (u, ml_h m lm) Φ := (wp_same xd127_21 (Or.inr rfl) rfl).trans (wx_if xd127_22 rfl rfl (x2 < (nI 0)) mb_lt)
theorem x127_25 {x1 : Int32} {x2 : Int32} : wp Ln xs 127 25 [.ref 1, .int x1, .int x2] [] (u, ml_h m lm) Φ = if x2 ≤ (nI 3) then wp Ln xs 127 40 [.ref 1, .int x1, .int x2] [] (u, ml_h m lm) Φ else wp Ln xs 127 30 [.ref 1, .int x1, .int x2] [] (u, ml_h m lm) Φ := (wp_same xd127_25 (Or.inr rfl) rfl).trans ((wp_same (S' := [.int (nI 3), .int x2]) xd127_26 (Or.inr rfl) rfl).trans (wx_icmp xd127_27 rfl rfl (x2 ≤ (nI 3)) mb_le))
theorem x127_30 {x1 : Int32} {x2 : Int32} : wp Ln xs 127 30 [.ref 1, .int x1, .int x2] [] (u, ml_h m lm) Φ = Φ (.inr 0) ((u.1, u.2.1 + 1, u.2.2 + 6), ml_h m lm) := wp_thr xd127_30 (Or.inr rfl) rfl rfl (E := 0) (by decide +kernel)
theorem x127_40 {x1 : Int32} {x2 : Int32} : wp Ln xs 127 40 [.ref 1, .int x1, .int x2] [] (u, ml_h m lm) Φ = wp Ln xs 43 0 [.ref 1, .int x1, .int x2, mj_hole, mj_hole] [] (u, ml_h m lm) (mk Ln xs 127 43 [.ref 1, .int x1, .int x2] [] Φ) := (wp_same xd127_40 (Or.inr rfl) rfl).trans ((wp_same xd127_41 (Or.inr rfl) rfl).trans ((wp_same xd127_42 (Or.inr rfl) rfl).trans (wm_cv (As := [.int x1, .int x2]) (rest := []) xd127_43 rfl rfl (show ml_L[1]? = _ from rfl) (Nat.le_of_ble_eq_true rfl) (Nat.le_of_ble_eq_true rfl) (Nat.le_of_ble_eq_true rfl) (Nat.le_of_ble_eq_true rfl))))
theorem x127_46 {x1 : Int32} {x2 : Int32} {xs0 : Int32} : wp Ln xs 127 46 [.ref 1, .int x1, .int x2] [.int xs0] (u, ml_h m lm) Φ = Φ (.inl (some (.int xs0))) (u, ml_h m lm) := wp_fin (v := some (.int xs0)) xd127_46 (Or.inr rfl) rfl (mj_fin_i rfl)
/- PickedFormsLaw.block -/
theorem xd128_0 : decode (mj_b 128) 0 = .ok (.aload_n 3, 1) := by decide +kernel
theorem xd128_1 : decode (mj_b 128) 1 = .ok (.iconst 0, 1) := by decide +kernel
theorem xd128_2 : decode (mj_b 128) 2 = .ok (.aload_n 0, 1) := by decide +kernel
theorem xd128_3 : decode (mj_b 128) 3 = .ok (.iload_n 1, 1) := by decide +kernel
theorem xd128_4 : decode (mj_b 128) 4 = .ok (.iload_n 2, 1) := by decide +kernel
theorem xd128_5 : decode (mj_b 128) 5 = .ok (.invokevirtual 57, 3) := by decide +kernel
theorem xd128_8 : decode (mj_b 128) 8 = .ok (.i2l, 1) := by decide +kernel
theorem xd128_9 : decode (mj_b 128) 9 = .ok (.lastore, 1) := by decide +kernel
theorem xd128_10 : decode (mj_b 128) 10 = .ok (.goto 11, 3) := by decide +kernel
theorem xd128_15 : decode (mj_b 128) 15 = .ok (.iconst 1, 1) := by decide +kernel
theorem xd128_16 : decode (mj_b 128) 16 = .ok (.ireturn, 1) := by decide +kernel
theorem xd128_19 : decode (mj_b 128) 19 = .ok (.iconst 2, 1) := by decide +kernel
theorem xd128_20 : decode (mj_b 128) 20 = .ok (.ireturn, 1) := by decide +kernel
theorem xd128_21 : decode (mj_b 128) 21 = .ok (.iconst 0, 1) := by decide +kernel
theorem xd128_22 : decode (mj_b 128) 22 = .ok (.ireturn, 1) := by decide +kernel
theorem x128_0 {x1 : Int32} {x2 : Int32} : wp Ln xs 128 0 [.ref 1, .int x1, .int x2, .ref 81, mj_hole] [] (u, ml_h m lm) Φ = wp Ln xs 129 0 [.ref 1, .int x1, .int x2] [] (u, ml_h m lm) (mk Ln xs 128 5 [.ref 1, .int x1, .int x2, .ref 81, mj_hole] [.int (nI 0), .ref 81] Φ) := (wp_same xd128_0 (Or.inr rfl) rfl).trans ((wp_same (S' := [.int (nI 0), .ref 81]) xd128_1 (Or.inr rfl) rfl).trans ((wp_same xd128_2 (Or.inr rfl) rfl).trans ((wp_same xd128_3 (Or.inr rfl) rfl).trans ((wp_same xd128_4 (Or.inr rfl) rfl).trans (wm_cv (As := [.int x1, .int x2]) (rest := [.int (nI 0), .ref 81]) xd128_5 rfl rfl (show ml_L[1]? = _ from rfl) (Nat.le_of_ble_eq_true rfl) (Nat.le_of_ble_eq_true rfl) (Nat.le_of_ble_eq_true rfl) (Nat.le_of_ble_eq_true rfl))))))
theorem x128_8 {x1 : Int32} {x2 : Int32} {xs0 : Int32} {xs1 : Int32} : wp Ln xs 128 8 [.ref 1, .int x1, .int x2, .ref 81, mj_hole] [.int xs0, .int xs1, .ref 81] (u, ml_h m lm) Φ = wp Ln xs 128 9 [.ref 1, .int x1, .int x2, .ref 81, mj_hole] [.long xs0.toInt64, .int xs1, .ref 81] (u, ml_h m lm) Φ := wp_same xd128_8 (Or.inr rfl) rfl
theorem x128_9 {x1 : Int32} {x2 : Int32} {ys0 : Int64} {k : Nat} (hk : k < 1) : wp Ln xs 128 9 [.ref 1, .int x1, .int x2, .ref 81, mj_hole] [.long ys0, .int (nI k), .ref 81] (u, ml_h m lm) Φ = wp Ln xs 128 21 [.ref 1, .int x1, .int x2, .ref 81, mj_hole] [] (u, ml_h m (ml_sj lm 81 k ys0)) Φ := (wm_last (k := k) xd128_9 rfl hk (by decide)).trans (wx_goto xd128_10 rfl)
theorem x128_15 {x1 : Int32} {x2 : Int32} : wp Ln xs 128 15 [.ref 1, .int x1, .int x2, .ref 81, mj_hole] [] (u, ml_h m lm) Φ = Φ (.inl (some (.int (nI 1)))) (u, ml_h m lm) := (wp_same (S' := [.int (nI 1)]) xd128_15 (Or.inr rfl) rfl).trans (wp_fin (v := some (.int (nI 1))) xd128_16 (Or.inr rfl) rfl (mj_fin_i rfl))
theorem x128_19 {x1 : Int32} {x2 : Int32} : wp Ln xs 128 19 [.ref 1, .int x1, .int x2, .ref 81, mj_hole] [] (u, ml_h m lm) Φ = Φ (.inl (some (.int (nI 2)))) (u, ml_h m lm) := (wp_same (S' := [.int (nI 2)]) xd128_19 (Or.inr rfl) rfl).trans (wp_fin (v := some (.int (nI 2))) xd128_20 (Or.inr rfl) rfl (mj_fin_i rfl))
theorem x128_21 {x1 : Int32} {x2 : Int32} : wp Ln xs 128 21 [.ref 1, .int x1, .int x2, .ref 81, mj_hole] [] (u, ml_h m lm) Φ = Φ (.inl (some (.int (nI 0)))) (u, ml_h m lm) := (wp_same (S' := [.int (nI 0)]) xd128_21 (Or.inr rfl) rfl).trans (wp_fin (v := some (.int (nI 0))) xd128_22 (Or.inr rfl) rfl (mj_fin_i rfl))
/- PickedForms.block -/
theorem xd129_0 : decode (mj_b 129) 0 = .ok (.aload_n 0, 1) := by decide +kernel
theorem xd129_1 : decode (mj_b 129) 1 = .ok (.getfield 12, 3) := by decide +kernel
theorem xd129_4 : decode (mj_b 129) 4 = .ok (.iload_n 1, 1) := by decide +kernel
theorem xd129_5 : decode (mj_b 129) 5 = .ok (.invokevirtual 154, 3) := by decide +kernel
theorem xd129_8 : decode (mj_b 129) 8 = .ok (.ifCond .ne 13, 3) := by decide +kernel
theorem xd129_11 : decode (mj_b 129) 11 = .ok (.new 130, 3) := by decide +kernel
theorem xd129_21 : decode (mj_b 129) 21 = .ok (.iload_n 2, 1) := by decide +kernel
theorem xd129_22 : decode (mj_b 129) 22 = .ok (.ifCond .lt 9, 3) := by decide +kernel
theorem xd129_25 : decode (mj_b 129) 25 = .ok (.iload_n 2, 1) := by decide +kernel
theorem xd129_26 : decode (mj_b 129) 26 = .ok (.bipush 9, 2) := by decide +kernel
theorem xd129_28 : decode (mj_b 129) 28 = .ok (.if_icmp .le 14, 3) := by decide +kernel
theorem xd129_31 : decode (mj_b 129) 31 = .ok (.new 80, 3) := by decide +kernel
theorem xd129_42 : decode (mj_b 129) 42 = .ok (.aload_n 0, 1) := by decide +kernel
theorem xd129_43 : decode (mj_b 129) 43 = .ok (.iload_n 1, 1) := by decide +kernel
theorem xd129_44 : decode (mj_b 129) 44 = .ok (.iload_n 2, 1) := by decide +kernel
theorem xd129_45 : decode (mj_b 129) 45 = .ok (.invokevirtual 260, 3) := by decide +kernel
theorem xd129_48 : decode (mj_b 129) 48 = .ok (.ireturn, 1) := by decide +kernel
theorem x129_0 {x1 : Int32} {x2 : Int32} : wp Ln xs 129 0 [.ref 1, .int x1, .int x2] [] (u, ml_h m lm) Φ = wp Ln xs 98 0 [.ref 2, .int x1] [] (u, ml_h m lm) (mk Ln xs 129 5 [.ref 1, .int x1, .int x2] [] Φ) := (wp_same xd129_0 (Or.inr rfl) rfl).trans ((wm_getr xd129_1 rfl (show ml_L[1]? = _ from rfl) rfl (Nat.le_of_ble_eq_true rfl)).trans ((wp_same xd129_4 (Or.inr rfl) rfl).trans (wm_cv (As := [.int x1]) (rest := []) xd129_5 rfl rfl (show ml_L[2]? = _ from rfl) (Nat.le_of_ble_eq_true rfl) (Nat.le_of_ble_eq_true rfl) (Nat.le_of_ble_eq_true rfl) (Nat.le_of_ble_eq_true rfl))))
theorem x129_8 {x1 : Int32} {x2 : Int32} {xs0 : Int32} : wp Ln xs 129 8 [.ref 1, .int x1, .int x2] [.int xs0] (u, ml_h m lm) Φ = if ¬ xs0 = (nI 0) then wp Ln xs 129 21 [.ref 1, .int x1, .int x2] [] (u, ml_h m lm) Φ else wp Ln xs 129 11 [.ref 1, .int x1, .int x2] [] (u, ml_h m lm) Φ := wx_if xd129_8 rfl rfl (¬ xs0 = (nI 0)) mb_ne
theorem x129_11 {x1 : Int32} {x2 : Int32} : wp Ln xs 129 11 [.ref 1, .int x1, .int x2] [] (u, ml_h m lm) Φ = Φ (.inr 2) ((u.1, u.2.1 + 1, u.2.2 + 6), ml_h m lm) := wp_thr xd129_11 (Or.inr rfl) rfl rfl (E := 2) (by decide +kernel)
theorem x129_21 {x1 : Int32} {x2 : Int32} : wp Ln xs 129 21 [.ref 1, .int x1, .int x2] [] (u, ml_h m lm) Φ = if x2 < (nI 0) then wp Ln xs 129 31 [.ref 1, .int x1, .int x2] [] (u, ml_h m lm) Φ else wp Ln xs 129 25 [.ref 1, .int x1, .int x2] [] (u, ml_h m lm) Φ := (wp_same xd129_21 (Or.inr rfl) rfl).trans (wx_if xd129_22 rfl rfl (x2 < (nI 0)) mb_lt)
theorem x129_25 {x1 : Int32} {x2 : Int32} : wp Ln xs 129 25 [.ref 1, .int x1, .int x2] [] (u, ml_h m lm) Φ = if x2 ≤ (nI 9) then wp Ln xs 129 42 [.ref 1, .int x1, .int x2] [] (u, ml_h m lm) Φ else wp Ln xs 129 31 [.ref 1, .int x1, .int x2] [] (u, ml_h m lm) Φ := (wp_same xd129_25 (Or.inr rfl) rfl).trans ((wp_same (S' := [.int (nI 9), .int x2]) xd129_26 (Or.inr rfl) rfl).trans (wx_icmp xd129_28 rfl rfl (x2 ≤ (nI 9)) mb_le))
theorem x129_31 {x1 : Int32} {x2 : Int32} : wp Ln xs 129 31 [.ref 1, .int x1, .int x2] [] (u, ml_h m lm) Φ = Φ (.inr 0) ((u.1, u.2.1 + 1, u.2.2 + 6), ml_h m lm) := wp_thr xd129_31 (Or.inr rfl) rfl rfl (E := 0) (by decide +kernel)
theorem x129_42 {x1 : Int32} {x2 : Int32} : wp Ln xs 129 42 [.ref 1, .int x1, .int x2] [] (u, ml_h m lm) Φ = wp Ln xs 47 0 [.ref 1, .int x1, .int x2] [] (u, ml_h m lm) (mk Ln xs 129 45 [.ref 1, .int x1, .int x2] [] Φ) := (wp_same xd129_42 (Or.inr rfl) rfl).trans ((wp_same xd129_43 (Or.inr rfl) rfl).trans ((wp_same xd129_44 (Or.inr rfl) rfl).trans (wm_cv (As := [.int x1, .int x2]) (rest := []) xd129_45 rfl rfl (show ml_L[1]? = _ from rfl) (Nat.le_of_ble_eq_true rfl) (Nat.le_of_ble_eq_true rfl) (Nat.le_of_ble_eq_true rfl) (Nat.le_of_ble_eq_true rfl))))
theorem x129_48 {x1 : Int32} {x2 : Int32} {xs0 : Int32} : wp Ln xs 129 48 [.ref 1, .int x1, .int x2] [.int xs0] (u, ml_h m lm) Φ = Φ (.inl (some (.int xs0))) (u, ml_h m lm) := wp_fin (v := some (.int xs0)) xd129_48 (Or.inr rfl) rfl (mj_fin_i rfl)
/- PickedFormsLaw.size -/
theorem xd130_0 : decode (mj_b 130) 0 = .ok (.aload_n 3, 1) := by decide +kernel
theorem xd130_1 : decode (mj_b 130) 1 = .ok (.iconst 0, 1) := by decide +kernel
theorem xd130_2 : decode (mj_b 130) 2 = .ok (.aload_n 0, 1) := by decide +kernel
theorem xd130_3 : decode (mj_b 130) 3 = .ok (.iload_n 1, 1) := by decide +kernel
theorem xd130_4 : decode (mj_b 130) 4 = .ok (.iload_n 2, 1) := by decide +kernel
theorem xd130_5 : decode (mj_b 130) 5 = .ok (.invokevirtual 60, 3) := by decide +kernel
theorem xd130_8 : decode (mj_b 130) 8 = .ok (.i2l, 1) := by decide +kernel
theorem xd130_9 : decode (mj_b 130) 9 = .ok (.lastore, 1) := by decide +kernel
theorem xd130_10 : decode (mj_b 130) 10 = .ok (.goto 11, 3) := by decide +kernel
theorem xd130_15 : decode (mj_b 130) 15 = .ok (.iconst 1, 1) := by decide +kernel
theorem xd130_16 : decode (mj_b 130) 16 = .ok (.ireturn, 1) := by decide +kernel
theorem xd130_19 : decode (mj_b 130) 19 = .ok (.iconst 2, 1) := by decide +kernel
theorem xd130_20 : decode (mj_b 130) 20 = .ok (.ireturn, 1) := by decide +kernel
theorem xd130_21 : decode (mj_b 130) 21 = .ok (.iconst 0, 1) := by decide +kernel
theorem xd130_22 : decode (mj_b 130) 22 = .ok (.ireturn, 1) := by decide +kernel
theorem x130_0 {x1 : Int32} {x2 : Int32} : wp Ln xs 130 0 [.ref 1, .int x1, .int x2, .ref 81, mj_hole] [] (u, ml_h m lm) Φ = wp Ln xs 131 0 [.ref 1, .int x1, .int x2] [] (u, ml_h m lm) (mk Ln xs 130 5 [.ref 1, .int x1, .int x2, .ref 81, mj_hole] [.int (nI 0), .ref 81] Φ) := (wp_same xd130_0 (Or.inr rfl) rfl).trans ((wp_same (S' := [.int (nI 0), .ref 81]) xd130_1 (Or.inr rfl) rfl).trans ((wp_same xd130_2 (Or.inr rfl) rfl).trans ((wp_same xd130_3 (Or.inr rfl) rfl).trans ((wp_same xd130_4 (Or.inr rfl) rfl).trans (wm_cv (As := [.int x1, .int x2]) (rest := [.int (nI 0), .ref 81]) xd130_5 rfl rfl (show ml_L[1]? = _ from rfl) (Nat.le_of_ble_eq_true rfl) (Nat.le_of_ble_eq_true rfl) (Nat.le_of_ble_eq_true rfl) (Nat.le_of_ble_eq_true rfl))))))
theorem x130_8 {x1 : Int32} {x2 : Int32} {xs0 : Int32} {xs1 : Int32} : wp Ln xs 130 8 [.ref 1, .int x1, .int x2, .ref 81, mj_hole] [.int xs0, .int xs1, .ref 81] (u, ml_h m lm) Φ = wp Ln xs 130 9 [.ref 1, .int x1, .int x2, .ref 81, mj_hole] [.long xs0.toInt64, .int xs1, .ref 81] (u, ml_h m lm) Φ := wp_same xd130_8 (Or.inr rfl) rfl
theorem x130_9 {x1 : Int32} {x2 : Int32} {ys0 : Int64} {k : Nat} (hk : k < 1) : wp Ln xs 130 9 [.ref 1, .int x1, .int x2, .ref 81, mj_hole] [.long ys0, .int (nI k), .ref 81] (u, ml_h m lm) Φ = wp Ln xs 130 21 [.ref 1, .int x1, .int x2, .ref 81, mj_hole] [] (u, ml_h m (ml_sj lm 81 k ys0)) Φ := (wm_last (k := k) xd130_9 rfl hk (by decide)).trans (wx_goto xd130_10 rfl)
theorem x130_15 {x1 : Int32} {x2 : Int32} : wp Ln xs 130 15 [.ref 1, .int x1, .int x2, .ref 81, mj_hole] [] (u, ml_h m lm) Φ = Φ (.inl (some (.int (nI 1)))) (u, ml_h m lm) := (wp_same (S' := [.int (nI 1)]) xd130_15 (Or.inr rfl) rfl).trans (wp_fin (v := some (.int (nI 1))) xd130_16 (Or.inr rfl) rfl (mj_fin_i rfl))
theorem x130_19 {x1 : Int32} {x2 : Int32} : wp Ln xs 130 19 [.ref 1, .int x1, .int x2, .ref 81, mj_hole] [] (u, ml_h m lm) Φ = Φ (.inl (some (.int (nI 2)))) (u, ml_h m lm) := (wp_same (S' := [.int (nI 2)]) xd130_19 (Or.inr rfl) rfl).trans (wp_fin (v := some (.int (nI 2))) xd130_20 (Or.inr rfl) rfl (mj_fin_i rfl))
theorem x130_21 {x1 : Int32} {x2 : Int32} : wp Ln xs 130 21 [.ref 1, .int x1, .int x2, .ref 81, mj_hole] [] (u, ml_h m lm) Φ = Φ (.inl (some (.int (nI 0)))) (u, ml_h m lm) := (wp_same (S' := [.int (nI 0)]) xd130_21 (Or.inr rfl) rfl).trans (wp_fin (v := some (.int (nI 0))) xd130_22 (Or.inr rfl) rfl (mj_fin_i rfl))
/- PickedForms.size -/
theorem xd131_0 : decode (mj_b 131) 0 = .ok (.aload_n 0, 1) := by decide +kernel
theorem xd131_1 : decode (mj_b 131) 1 = .ok (.getfield 12, 3) := by decide +kernel
theorem xd131_4 : decode (mj_b 131) 4 = .ok (.iload_n 1, 1) := by decide +kernel
theorem xd131_5 : decode (mj_b 131) 5 = .ok (.invokevirtual 154, 3) := by decide +kernel
theorem xd131_8 : decode (mj_b 131) 8 = .ok (.ifCond .ne 13, 3) := by decide +kernel
theorem xd131_11 : decode (mj_b 131) 11 = .ok (.new 130, 3) := by decide +kernel
theorem xd131_21 : decode (mj_b 131) 21 = .ok (.iload_n 2, 1) := by decide +kernel
theorem xd131_22 : decode (mj_b 131) 22 = .ok (.ifCond .lt 8, 3) := by decide +kernel
theorem xd131_25 : decode (mj_b 131) 25 = .ok (.iload_n 2, 1) := by decide +kernel
theorem xd131_26 : decode (mj_b 131) 26 = .ok (.iconst 5, 1) := by decide +kernel
theorem xd131_27 : decode (mj_b 131) 27 = .ok (.if_icmp .lt 14, 3) := by decide +kernel
theorem xd131_30 : decode (mj_b 131) 30 = .ok (.new 80, 3) := by decide +kernel
theorem xd131_41 : decode (mj_b 131) 41 = .ok (.aload_n 0, 1) := by decide +kernel
theorem xd131_42 : decode (mj_b 131) 42 = .ok (.iload_n 1, 1) := by decide +kernel
theorem xd131_43 : decode (mj_b 131) 43 = .ok (.invokevirtual 265, 3) := by decide +kernel
theorem xd131_46 : decode (mj_b 131) 46 = .ok (.aload_n 0, 1) := by decide +kernel
theorem xd131_47 : decode (mj_b 131) 47 = .ok (.getfield 40, 3) := by decide +kernel
theorem xd131_50 : decode (mj_b 131) 50 = .ok (.iload_n 2, 1) := by decide +kernel
theorem xd131_51 : decode (mj_b 131) 51 = .ok (.invokevirtual 268, 3) := by decide +kernel
theorem xd131_54 : decode (mj_b 131) 54 = .ok (.ireturn, 1) := by decide +kernel
theorem x131_0 {x1 : Int32} {x2 : Int32} : wp Ln xs 131 0 [.ref 1, .int x1, .int x2] [] (u, ml_h m lm) Φ = wp Ln xs 98 0 [.ref 2, .int x1] [] (u, ml_h m lm) (mk Ln xs 131 5 [.ref 1, .int x1, .int x2] [] Φ) := (wp_same xd131_0 (Or.inr rfl) rfl).trans ((wm_getr xd131_1 rfl (show ml_L[1]? = _ from rfl) rfl (Nat.le_of_ble_eq_true rfl)).trans ((wp_same xd131_4 (Or.inr rfl) rfl).trans (wm_cv (As := [.int x1]) (rest := []) xd131_5 rfl rfl (show ml_L[2]? = _ from rfl) (Nat.le_of_ble_eq_true rfl) (Nat.le_of_ble_eq_true rfl) (Nat.le_of_ble_eq_true rfl) (Nat.le_of_ble_eq_true rfl))))
theorem x131_8 {x1 : Int32} {x2 : Int32} {xs0 : Int32} : wp Ln xs 131 8 [.ref 1, .int x1, .int x2] [.int xs0] (u, ml_h m lm) Φ = if ¬ xs0 = (nI 0) then wp Ln xs 131 21 [.ref 1, .int x1, .int x2] [] (u, ml_h m lm) Φ else wp Ln xs 131 11 [.ref 1, .int x1, .int x2] [] (u, ml_h m lm) Φ := wx_if xd131_8 rfl rfl (¬ xs0 = (nI 0)) mb_ne
theorem x131_11 {x1 : Int32} {x2 : Int32} : wp Ln xs 131 11 [.ref 1, .int x1, .int x2] [] (u, ml_h m lm) Φ = Φ (.inr 2) ((u.1, u.2.1 + 1, u.2.2 + 6), ml_h m lm) := wp_thr xd131_11 (Or.inr rfl) rfl rfl (E := 2) (by decide +kernel)
theorem x131_21 {x1 : Int32} {x2 : Int32} : wp Ln xs 131 21 [.ref 1, .int x1, .int x2] [] (u, ml_h m lm) Φ = if x2 < (nI 0) then wp Ln xs 131 30 [.ref 1, .int x1, .int x2] [] (u, ml_h m lm) Φ else wp Ln xs 131 25 [.ref 1, .int x1, .int x2] [] (u, ml_h m lm) Φ := (wp_same xd131_21 (Or.inr rfl) rfl).trans (wx_if xd131_22 rfl rfl (x2 < (nI 0)) mb_lt)
theorem x131_25 {x1 : Int32} {x2 : Int32} : wp Ln xs 131 25 [.ref 1, .int x1, .int x2] [] (u, ml_h m lm) Φ = if x2 < (nI 5) then wp Ln xs 131 41 [.ref 1, .int x1, .int x2] [] (u, ml_h m lm) Φ else wp Ln xs 131 30 [.ref 1, .int x1, .int x2] [] (u, ml_h m lm) Φ := (wp_same xd131_25 (Or.inr rfl) rfl).trans ((wp_same (S' := [.int (nI 5), .int x2]) xd131_26 (Or.inr rfl) rfl).trans (wx_icmp xd131_27 rfl rfl (x2 < (nI 5)) mb_lt))
theorem x131_30 {x1 : Int32} {x2 : Int32} : wp Ln xs 131 30 [.ref 1, .int x1, .int x2] [] (u, ml_h m lm) Φ = Φ (.inr 0) ((u.1, u.2.1 + 1, u.2.2 + 6), ml_h m lm) := wp_thr xd131_30 (Or.inr rfl) rfl rfl (E := 0) (by decide +kernel)
theorem x131_41 {x1 : Int32} {x2 : Int32} : wp Ln xs 131 41 [.ref 1, .int x1, .int x2] [] (u, ml_h m lm) Φ = wp Ln xs 29 0 [.ref 1, .int x1] [] (u, ml_h m lm) (mk Ln xs 131 43 [.ref 1, .int x1, .int x2] [] Φ) := (wp_same xd131_41 (Or.inr rfl) rfl).trans ((wp_same xd131_42 (Or.inr rfl) rfl).trans (wm_cv (As := [.int x1]) (rest := []) xd131_43 rfl rfl (show ml_L[1]? = _ from rfl) (Nat.le_of_ble_eq_true rfl) (Nat.le_of_ble_eq_true rfl) (Nat.le_of_ble_eq_true rfl) (Nat.le_of_ble_eq_true rfl)))
theorem x131_46 {x1 : Int32} {x2 : Int32} : wp Ln xs 131 46 [.ref 1, .int x1, .int x2] [] (u, ml_h m lm) Φ = wp Ln xs 37 0 [.ref 56, .int x2] [] (u, ml_h m lm) (mk Ln xs 131 51 [.ref 1, .int x1, .int x2] [] Φ) := (wp_same xd131_46 (Or.inr rfl) rfl).trans ((wm_getr xd131_47 rfl (show ml_L[1]? = _ from rfl) rfl (Nat.le_of_ble_eq_true rfl)).trans ((wp_same xd131_50 (Or.inr rfl) rfl).trans (wm_cv (As := [.int x2]) (rest := []) xd131_51 rfl rfl (show ml_L[56]? = _ from rfl) (Nat.le_of_ble_eq_true rfl) (Nat.le_of_ble_eq_true rfl) (Nat.le_of_ble_eq_true rfl) (Nat.le_of_ble_eq_true rfl))))
theorem x131_54 {x1 : Int32} {x2 : Int32} {xs0 : Int32} : wp Ln xs 131 54 [.ref 1, .int x1, .int x2] [.int xs0] (u, ml_h m lm) Φ = Φ (.inl (some (.int xs0))) (u, ml_h m lm) := wp_fin (v := some (.int xs0)) xd131_54 (Or.inr rfl) rfl (mj_fin_i rfl)
/- PickedFormsLaw.bit -/
theorem xd132_0 : decode (mj_b 132) 0 = .ok (.aload_n 3, 1) := by decide +kernel
theorem xd132_1 : decode (mj_b 132) 1 = .ok (.iconst 0, 1) := by decide +kernel
theorem xd132_2 : decode (mj_b 132) 2 = .ok (.aload_n 0, 1) := by decide +kernel
theorem xd132_3 : decode (mj_b 132) 3 = .ok (.iload_n 1, 1) := by decide +kernel
theorem xd132_4 : decode (mj_b 132) 4 = .ok (.iload_n 2, 1) := by decide +kernel
theorem xd132_5 : decode (mj_b 132) 5 = .ok (.invokevirtual 63, 3) := by decide +kernel
theorem xd132_8 : decode (mj_b 132) 8 = .ok (.i2l, 1) := by decide +kernel
theorem xd132_9 : decode (mj_b 132) 9 = .ok (.lastore, 1) := by decide +kernel
theorem xd132_10 : decode (mj_b 132) 10 = .ok (.goto 11, 3) := by decide +kernel
theorem xd132_15 : decode (mj_b 132) 15 = .ok (.iconst 1, 1) := by decide +kernel
theorem xd132_16 : decode (mj_b 132) 16 = .ok (.ireturn, 1) := by decide +kernel
theorem xd132_19 : decode (mj_b 132) 19 = .ok (.iconst 2, 1) := by decide +kernel
theorem xd132_20 : decode (mj_b 132) 20 = .ok (.ireturn, 1) := by decide +kernel
theorem xd132_21 : decode (mj_b 132) 21 = .ok (.iconst 0, 1) := by decide +kernel
theorem xd132_22 : decode (mj_b 132) 22 = .ok (.ireturn, 1) := by decide +kernel
theorem x132_0 {x1 : Int32} {x2 : Int32} : wp Ln xs 132 0 [.ref 1, .int x1, .int x2, .ref 81, mj_hole] [] (u, ml_h m lm) Φ = wp Ln xs 133 0 [.ref 1, .int x1, .int x2] [] (u, ml_h m lm) (mk Ln xs 132 5 [.ref 1, .int x1, .int x2, .ref 81, mj_hole] [.int (nI 0), .ref 81] Φ) := (wp_same xd132_0 (Or.inr rfl) rfl).trans ((wp_same (S' := [.int (nI 0), .ref 81]) xd132_1 (Or.inr rfl) rfl).trans ((wp_same xd132_2 (Or.inr rfl) rfl).trans ((wp_same xd132_3 (Or.inr rfl) rfl).trans ((wp_same xd132_4 (Or.inr rfl) rfl).trans (wm_cv (As := [.int x1, .int x2]) (rest := [.int (nI 0), .ref 81]) xd132_5 rfl rfl (show ml_L[1]? = _ from rfl) (Nat.le_of_ble_eq_true rfl) (Nat.le_of_ble_eq_true rfl) (Nat.le_of_ble_eq_true rfl) (Nat.le_of_ble_eq_true rfl))))))
theorem x132_8 {x1 : Int32} {x2 : Int32} {xs0 : Int32} {xs1 : Int32} : wp Ln xs 132 8 [.ref 1, .int x1, .int x2, .ref 81, mj_hole] [.int xs0, .int xs1, .ref 81] (u, ml_h m lm) Φ = wp Ln xs 132 9 [.ref 1, .int x1, .int x2, .ref 81, mj_hole] [.long xs0.toInt64, .int xs1, .ref 81] (u, ml_h m lm) Φ := wp_same xd132_8 (Or.inr rfl) rfl
theorem x132_9 {x1 : Int32} {x2 : Int32} {ys0 : Int64} {k : Nat} (hk : k < 1) : wp Ln xs 132 9 [.ref 1, .int x1, .int x2, .ref 81, mj_hole] [.long ys0, .int (nI k), .ref 81] (u, ml_h m lm) Φ = wp Ln xs 132 21 [.ref 1, .int x1, .int x2, .ref 81, mj_hole] [] (u, ml_h m (ml_sj lm 81 k ys0)) Φ := (wm_last (k := k) xd132_9 rfl hk (by decide)).trans (wx_goto xd132_10 rfl)
theorem x132_15 {x1 : Int32} {x2 : Int32} : wp Ln xs 132 15 [.ref 1, .int x1, .int x2, .ref 81, mj_hole] [] (u, ml_h m lm) Φ = Φ (.inl (some (.int (nI 1)))) (u, ml_h m lm) := (wp_same (S' := [.int (nI 1)]) xd132_15 (Or.inr rfl) rfl).trans (wp_fin (v := some (.int (nI 1))) xd132_16 (Or.inr rfl) rfl (mj_fin_i rfl))
theorem x132_19 {x1 : Int32} {x2 : Int32} : wp Ln xs 132 19 [.ref 1, .int x1, .int x2, .ref 81, mj_hole] [] (u, ml_h m lm) Φ = Φ (.inl (some (.int (nI 2)))) (u, ml_h m lm) := (wp_same (S' := [.int (nI 2)]) xd132_19 (Or.inr rfl) rfl).trans (wp_fin (v := some (.int (nI 2))) xd132_20 (Or.inr rfl) rfl (mj_fin_i rfl))
theorem x132_21 {x1 : Int32} {x2 : Int32} : wp Ln xs 132 21 [.ref 1, .int x1, .int x2, .ref 81, mj_hole] [] (u, ml_h m lm) Φ = Φ (.inl (some (.int (nI 0)))) (u, ml_h m lm) := (wp_same (S' := [.int (nI 0)]) xd132_21 (Or.inr rfl) rfl).trans (wp_fin (v := some (.int (nI 0))) xd132_22 (Or.inr rfl) rfl (mj_fin_i rfl))
/- PickedForms.bit -/
theorem xd133_0 : decode (mj_b 133) 0 = .ok (.aload_n 0, 1) := by decide +kernel
theorem xd133_1 : decode (mj_b 133) 1 = .ok (.getfield 12, 3) := by decide +kernel
theorem xd133_4 : decode (mj_b 133) 4 = .ok (.iload_n 1, 1) := by decide +kernel
theorem xd133_5 : decode (mj_b 133) 5 = .ok (.invokevirtual 154, 3) := by decide +kernel
theorem xd133_8 : decode (mj_b 133) 8 = .ok (.ifCond .ne 13, 3) := by decide +kernel
theorem xd133_11 : decode (mj_b 133) 11 = .ok (.new 130, 3) := by decide +kernel
theorem xd133_21 : decode (mj_b 133) 21 = .ok (.iload_n 2, 1) := by decide +kernel
theorem xd133_22 : decode (mj_b 133) 22 = .ok (.ifCond .ge 14, 3) := by decide +kernel
theorem xd133_25 : decode (mj_b 133) 25 = .ok (.new 80, 3) := by decide +kernel
theorem xd133_36 : decode (mj_b 133) 36 = .ok (.aload_n 0, 1) := by decide +kernel
theorem xd133_37 : decode (mj_b 133) 37 = .ok (.iload_n 1, 1) := by decide +kernel
theorem xd133_38 : decode (mj_b 133) 38 = .ok (.invokevirtual 273, 3) := by decide +kernel
theorem xd133_41 : decode (mj_b 133) 41 = .ok (.iload_n 2, 1) := by decide +kernel
theorem xd133_42 : decode (mj_b 133) 42 = .ok (.aload_n 0, 1) := by decide +kernel
theorem xd133_43 : decode (mj_b 133) 43 = .ok (.getfield 68, 3) := by decide +kernel
theorem xd133_46 : decode (mj_b 133) 46 = .ok (.getfield 276, 3) := by decide +kernel
theorem xd133_49 : decode (mj_b 133) 49 = .ok (.if_icmp .ge 17, 3) := by decide +kernel
theorem xd133_52 : decode (mj_b 133) 52 = .ok (.aload_n 0, 1) := by decide +kernel
theorem xd133_53 : decode (mj_b 133) 53 = .ok (.getfield 68, 3) := by decide +kernel
theorem xd133_56 : decode (mj_b 133) 56 = .ok (.getfield 277, 3) := by decide +kernel
theorem xd133_59 : decode (mj_b 133) 59 = .ok (.iload_n 2, 1) := by decide +kernel
theorem xd133_60 : decode (mj_b 133) 60 = .ok (.invokestatic 233, 3) := by decide +kernel
theorem xd133_63 : decode (mj_b 133) 63 = .ok (.goto 4, 3) := by decide +kernel
theorem xd133_66 : decode (mj_b 133) 66 = .ok (.iconst (-1), 1) := by decide +kernel
theorem xd133_67 : decode (mj_b 133) 67 = .ok (.ireturn, 1) := by decide +kernel
theorem x133_0 {x1 : Int32} {x2 : Int32} : wp Ln xs 133 0 [.ref 1, .int x1, .int x2] [] (u, ml_h m lm) Φ = wp Ln xs 98 0 [.ref 2, .int x1] [] (u, ml_h m lm) (mk Ln xs 133 5 [.ref 1, .int x1, .int x2] [] Φ) := (wp_same xd133_0 (Or.inr rfl) rfl).trans ((wm_getr xd133_1 rfl (show ml_L[1]? = _ from rfl) rfl (Nat.le_of_ble_eq_true rfl)).trans ((wp_same xd133_4 (Or.inr rfl) rfl).trans (wm_cv (As := [.int x1]) (rest := []) xd133_5 rfl rfl (show ml_L[2]? = _ from rfl) (Nat.le_of_ble_eq_true rfl) (Nat.le_of_ble_eq_true rfl) (Nat.le_of_ble_eq_true rfl) (Nat.le_of_ble_eq_true rfl))))
theorem x133_8 {x1 : Int32} {x2 : Int32} {xs0 : Int32} : wp Ln xs 133 8 [.ref 1, .int x1, .int x2] [.int xs0] (u, ml_h m lm) Φ = if ¬ xs0 = (nI 0) then wp Ln xs 133 21 [.ref 1, .int x1, .int x2] [] (u, ml_h m lm) Φ else wp Ln xs 133 11 [.ref 1, .int x1, .int x2] [] (u, ml_h m lm) Φ := wx_if xd133_8 rfl rfl (¬ xs0 = (nI 0)) mb_ne
theorem x133_11 {x1 : Int32} {x2 : Int32} : wp Ln xs 133 11 [.ref 1, .int x1, .int x2] [] (u, ml_h m lm) Φ = Φ (.inr 2) ((u.1, u.2.1 + 1, u.2.2 + 6), ml_h m lm) := wp_thr xd133_11 (Or.inr rfl) rfl rfl (E := 2) (by decide +kernel)
theorem x133_21 {x1 : Int32} {x2 : Int32} : wp Ln xs 133 21 [.ref 1, .int x1, .int x2] [] (u, ml_h m lm) Φ = if (nI 0) ≤ x2 then wp Ln xs 133 36 [.ref 1, .int x1, .int x2] [] (u, ml_h m lm) Φ else wp Ln xs 133 25 [.ref 1, .int x1, .int x2] [] (u, ml_h m lm) Φ := (wp_same xd133_21 (Or.inr rfl) rfl).trans (wx_if xd133_22 rfl rfl ((nI 0) ≤ x2) mb_ge)
theorem x133_25 {x1 : Int32} {x2 : Int32} : wp Ln xs 133 25 [.ref 1, .int x1, .int x2] [] (u, ml_h m lm) Φ = Φ (.inr 0) ((u.1, u.2.1 + 1, u.2.2 + 6), ml_h m lm) := wp_thr xd133_25 (Or.inr rfl) rfl rfl (E := 0) (by decide +kernel)
theorem x133_36 {x1 : Int32} {x2 : Int32} : wp Ln xs 133 36 [.ref 1, .int x1, .int x2] [] (u, ml_h m lm) Φ = wp Ln xs 51 0 [.ref 1, .int x1] [] (u, ml_h m lm) (mk Ln xs 133 38 [.ref 1, .int x1, .int x2] [] Φ) := (wp_same xd133_36 (Or.inr rfl) rfl).trans ((wp_same xd133_37 (Or.inr rfl) rfl).trans (wm_cv (As := [.int x1]) (rest := []) xd133_38 rfl rfl (show ml_L[1]? = _ from rfl) (Nat.le_of_ble_eq_true rfl) (Nat.le_of_ble_eq_true rfl) (Nat.le_of_ble_eq_true rfl) (Nat.le_of_ble_eq_true rfl)))
theorem x133_41 {x1 : Int32} {x2 : Int32} : wp Ln xs 133 41 [.ref 1, .int x1, .int x2] [] (u, ml_h m lm) Φ = if (m 69 1) ≤ x2 then wp Ln xs 133 66 [.ref 1, .int x1, .int x2] [] (u, ml_h m lm) Φ else wp Ln xs 133 52 [.ref 1, .int x1, .int x2] [] (u, ml_h m lm) Φ := (wp_same xd133_41 (Or.inr rfl) rfl).trans ((wp_same xd133_42 (Or.inr rfl) rfl).trans ((wm_getr xd133_43 rfl (show ml_L[1]? = _ from rfl) rfl (Nat.le_of_ble_eq_true rfl)).trans ((wm_geti xd133_46 rfl (show ml_L[69]? = _ from rfl) rfl (Nat.le_of_ble_eq_true rfl)).trans (wx_icmp xd133_49 rfl rfl ((m 69 1) ≤ x2) mb_ge))))
theorem x133_52 {x1 : Int32} {x2 : Int32} : wp Ln xs 133 52 [.ref 1, .int x1, .int x2] [] (u, ml_h m lm) Φ = wp Ln xs 13 0 [.ref 70, .int x2] [] (u, ml_h m lm) (mk Ln xs 133 60 [.ref 1, .int x1, .int x2] [] Φ) := (wp_same xd133_52 (Or.inr rfl) rfl).trans ((wm_getr xd133_53 rfl (show ml_L[1]? = _ from rfl) rfl (Nat.le_of_ble_eq_true rfl)).trans ((wm_getr xd133_56 rfl (show ml_L[69]? = _ from rfl) rfl (Nat.le_of_ble_eq_true rfl)).trans ((wp_same xd133_59 (Or.inr rfl) rfl).trans (wm_cs (As := [.ref 70, .int x2]) (rest := []) xd133_60 rfl rfl (Nat.le_of_ble_eq_true rfl) (Nat.le_of_ble_eq_true rfl) (Nat.le_of_ble_eq_true rfl) (Nat.le_of_ble_eq_true rfl)))))
theorem x133_63 {x1 : Int32} {x2 : Int32} {xs0 : Int32} : wp Ln xs 133 63 [.ref 1, .int x1, .int x2] [.int xs0] (u, ml_h m lm) Φ = Φ (.inl (some (.int xs0))) (u, ml_h m lm) := (wx_goto xd133_63 rfl).trans (wp_fin (v := some (.int xs0)) xd133_67 (Or.inr rfl) rfl (mj_fin_i rfl))
theorem x133_66 {x1 : Int32} {x2 : Int32} : wp Ln xs 133 66 [.ref 1, .int x1, .int x2] [] (u, ml_h m lm) Φ = Φ (.inl (some (.int ((-1))))) (u, ml_h m lm) := (wp_same (S' := [.int ((-1))]) xd133_66 (Or.inr rfl) rfl).trans (wp_fin (v := some (.int ((-1)))) xd133_67 (Or.inr rfl) rfl (mj_fin_i rfl))
/- PickedFormsLaw.count -/
theorem xd134_0 : decode (mj_b 134) 0 = .ok (.aload_n 2, 1) := by decide +kernel
theorem xd134_1 : decode (mj_b 134) 1 = .ok (.iconst 0, 1) := by decide +kernel
theorem xd134_2 : decode (mj_b 134) 2 = .ok (.aload_n 0, 1) := by decide +kernel
theorem xd134_3 : decode (mj_b 134) 3 = .ok (.iload_n 1, 1) := by decide +kernel
theorem xd134_4 : decode (mj_b 134) 4 = .ok (.invokevirtual 66, 3) := by decide +kernel
theorem xd134_7 : decode (mj_b 134) 7 = .ok (.i2l, 1) := by decide +kernel
theorem xd134_8 : decode (mj_b 134) 8 = .ok (.lastore, 1) := by decide +kernel
theorem xd134_9 : decode (mj_b 134) 9 = .ok (.goto 6, 3) := by decide +kernel
theorem xd134_13 : decode (mj_b 134) 13 = .ok (.iconst 1, 1) := by decide +kernel
theorem xd134_14 : decode (mj_b 134) 14 = .ok (.ireturn, 1) := by decide +kernel
theorem xd134_15 : decode (mj_b 134) 15 = .ok (.iconst 0, 1) := by decide +kernel
theorem xd134_16 : decode (mj_b 134) 16 = .ok (.ireturn, 1) := by decide +kernel
theorem x134_0 {x1 : Int32} : wp Ln xs 134 0 [.ref 1, .int x1, .ref 81, mj_hole] [] (u, ml_h m lm) Φ = wp Ln xs 135 0 [.ref 1, .int x1] [] (u, ml_h m lm) (mk Ln xs 134 4 [.ref 1, .int x1, .ref 81, mj_hole] [.int (nI 0), .ref 81] Φ) := (wp_same xd134_0 (Or.inr rfl) rfl).trans ((wp_same (S' := [.int (nI 0), .ref 81]) xd134_1 (Or.inr rfl) rfl).trans ((wp_same xd134_2 (Or.inr rfl) rfl).trans ((wp_same xd134_3 (Or.inr rfl) rfl).trans (wm_cv (As := [.int x1]) (rest := [.int (nI 0), .ref 81]) xd134_4 rfl rfl (show ml_L[1]? = _ from rfl) (Nat.le_of_ble_eq_true rfl) (Nat.le_of_ble_eq_true rfl) (Nat.le_of_ble_eq_true rfl) (Nat.le_of_ble_eq_true rfl)))))
theorem x134_7 {x1 : Int32} {xs0 : Int32} {xs1 : Int32} : wp Ln xs 134 7 [.ref 1, .int x1, .ref 81, mj_hole] [.int xs0, .int xs1, .ref 81] (u, ml_h m lm) Φ = wp Ln xs 134 8 [.ref 1, .int x1, .ref 81, mj_hole] [.long xs0.toInt64, .int xs1, .ref 81] (u, ml_h m lm) Φ := wp_same xd134_7 (Or.inr rfl) rfl
theorem x134_8 {x1 : Int32} {ys0 : Int64} {k : Nat} (hk : k < 1) : wp Ln xs 134 8 [.ref 1, .int x1, .ref 81, mj_hole] [.long ys0, .int (nI k), .ref 81] (u, ml_h m lm) Φ = wp Ln xs 134 15 [.ref 1, .int x1, .ref 81, mj_hole] [] (u, ml_h m (ml_sj lm 81 k ys0)) Φ := (wm_last (k := k) xd134_8 rfl hk (by decide)).trans (wx_goto xd134_9 rfl)
theorem x134_13 {x1 : Int32} : wp Ln xs 134 13 [.ref 1, .int x1, .ref 81, mj_hole] [] (u, ml_h m lm) Φ = Φ (.inl (some (.int (nI 1)))) (u, ml_h m lm) := (wp_same (S' := [.int (nI 1)]) xd134_13 (Or.inr rfl) rfl).trans (wp_fin (v := some (.int (nI 1))) xd134_14 (Or.inr rfl) rfl (mj_fin_i rfl))
theorem x134_15 {x1 : Int32} : wp Ln xs 134 15 [.ref 1, .int x1, .ref 81, mj_hole] [] (u, ml_h m lm) Φ = Φ (.inl (some (.int (nI 0)))) (u, ml_h m lm) := (wp_same (S' := [.int (nI 0)]) xd134_15 (Or.inr rfl) rfl).trans (wp_fin (v := some (.int (nI 0))) xd134_16 (Or.inr rfl) rfl (mj_fin_i rfl))
/- PickedForms.count -/
theorem xd135_0 : decode (mj_b 135) 0 = .ok (.iload_n 1, 1) := by decide +kernel
theorem xd135_1 : decode (mj_b 135) 1 = .ok (.ifCond .lt 9, 3) := by decide +kernel
theorem xd135_4 : decode (mj_b 135) 4 = .ok (.iload_n 1, 1) := by decide +kernel
theorem xd135_5 : decode (mj_b 135) 5 = .ok (.bipush 8, 2) := by decide +kernel
theorem xd135_7 : decode (mj_b 135) 7 = .ok (.if_icmp .le 14, 3) := by decide +kernel
theorem xd135_10 : decode (mj_b 135) 10 = .ok (.new 80, 3) := by decide +kernel
theorem xd135_21 : decode (mj_b 135) 21 = .ok (.aload_n 0, 1) := by decide +kernel
theorem xd135_22 : decode (mj_b 135) 22 = .ok (.iload_n 1, 1) := by decide +kernel
theorem xd135_23 : decode (mj_b 135) 23 = .ok (.invokevirtual 282, 3) := by decide +kernel
theorem xd135_26 : decode (mj_b 135) 26 = .ok (.ireturn, 1) := by decide +kernel
theorem x135_0 {x1 : Int32} : wp Ln xs 135 0 [.ref 1, .int x1] [] (u, ml_h m lm) Φ = if x1 < (nI 0) then wp Ln xs 135 10 [.ref 1, .int x1] [] (u, ml_h m lm) Φ else wp Ln xs 135 4 [.ref 1, .int x1] [] (u, ml_h m lm) Φ := (wp_same xd135_0 (Or.inr rfl) rfl).trans (wx_if xd135_1 rfl rfl (x1 < (nI 0)) mb_lt)
theorem x135_4 {x1 : Int32} : wp Ln xs 135 4 [.ref 1, .int x1] [] (u, ml_h m lm) Φ = if x1 ≤ (nI 8) then wp Ln xs 135 21 [.ref 1, .int x1] [] (u, ml_h m lm) Φ else wp Ln xs 135 10 [.ref 1, .int x1] [] (u, ml_h m lm) Φ := (wp_same xd135_4 (Or.inr rfl) rfl).trans ((wp_same (S' := [.int (nI 8), .int x1]) xd135_5 (Or.inr rfl) rfl).trans (wx_icmp xd135_7 rfl rfl (x1 ≤ (nI 8)) mb_le))
theorem x135_10 {x1 : Int32} : wp Ln xs 135 10 [.ref 1, .int x1] [] (u, ml_h m lm) Φ = Φ (.inr 0) ((u.1, u.2.1 + 1, u.2.2 + 6), ml_h m lm) := wp_thr xd135_10 (Or.inr rfl) rfl rfl (E := 0) (by decide +kernel)
theorem x135_21 {x1 : Int32} : wp Ln xs 135 21 [.ref 1, .int x1] [] (u, ml_h m lm) Φ = wp Ln xs 27 0 [.ref 1, .int x1] [] (u, ml_h m lm) (mk Ln xs 135 23 [.ref 1, .int x1] [] Φ) := (wp_same xd135_21 (Or.inr rfl) rfl).trans ((wp_same xd135_22 (Or.inr rfl) rfl).trans (wm_cv (As := [.int x1]) (rest := []) xd135_23 rfl rfl (show ml_L[1]? = _ from rfl) (Nat.le_of_ble_eq_true rfl) (Nat.le_of_ble_eq_true rfl) (Nat.le_of_ble_eq_true rfl) (Nat.le_of_ble_eq_true rfl)))
theorem x135_26 {x1 : Int32} {xs0 : Int32} : wp Ln xs 135 26 [.ref 1, .int x1] [.int xs0] (u, ml_h m lm) Φ = Φ (.inl (some (.int xs0))) (u, ml_h m lm) := wp_fin (v := some (.int xs0)) xd135_26 (Or.inr rfl) rfl (mj_fin_i rfl)
/- PickedFormsLaw.setting -/
theorem xd136_0 : decode (mj_b 136) 0 = .ok (.aload_n 2, 1) := by decide +kernel
theorem xd136_1 : decode (mj_b 136) 1 = .ok (.iconst 0, 1) := by decide +kernel
theorem xd136_2 : decode (mj_b 136) 2 = .ok (.aload_n 0, 1) := by decide +kernel
theorem xd136_3 : decode (mj_b 136) 3 = .ok (.iload_n 1, 1) := by decide +kernel
theorem xd136_4 : decode (mj_b 136) 4 = .ok (.invokevirtual 69, 3) := by decide +kernel
theorem xd136_7 : decode (mj_b 136) 7 = .ok (.i2l, 1) := by decide +kernel
theorem xd136_8 : decode (mj_b 136) 8 = .ok (.lastore, 1) := by decide +kernel
theorem xd136_9 : decode (mj_b 136) 9 = .ok (.goto 6, 3) := by decide +kernel
theorem xd136_13 : decode (mj_b 136) 13 = .ok (.iconst 1, 1) := by decide +kernel
theorem xd136_14 : decode (mj_b 136) 14 = .ok (.ireturn, 1) := by decide +kernel
theorem xd136_15 : decode (mj_b 136) 15 = .ok (.iconst 0, 1) := by decide +kernel
theorem xd136_16 : decode (mj_b 136) 16 = .ok (.ireturn, 1) := by decide +kernel
theorem x136_0 {x1 : Int32} : wp Ln xs 136 0 [.ref 1, .int x1, .ref 81, mj_hole] [] (u, ml_h m lm) Φ = wp Ln xs 137 0 [.ref 1, .int x1] [] (u, ml_h m lm) (mk Ln xs 136 4 [.ref 1, .int x1, .ref 81, mj_hole] [.int (nI 0), .ref 81] Φ) := (wp_same xd136_0 (Or.inr rfl) rfl).trans ((wp_same (S' := [.int (nI 0), .ref 81]) xd136_1 (Or.inr rfl) rfl).trans ((wp_same xd136_2 (Or.inr rfl) rfl).trans ((wp_same xd136_3 (Or.inr rfl) rfl).trans (wm_cv (As := [.int x1]) (rest := [.int (nI 0), .ref 81]) xd136_4 rfl rfl (show ml_L[1]? = _ from rfl) (Nat.le_of_ble_eq_true rfl) (Nat.le_of_ble_eq_true rfl) (Nat.le_of_ble_eq_true rfl) (Nat.le_of_ble_eq_true rfl)))))
theorem x136_7 {x1 : Int32} {xs0 : Int32} {xs1 : Int32} : wp Ln xs 136 7 [.ref 1, .int x1, .ref 81, mj_hole] [.int xs0, .int xs1, .ref 81] (u, ml_h m lm) Φ = wp Ln xs 136 8 [.ref 1, .int x1, .ref 81, mj_hole] [.long xs0.toInt64, .int xs1, .ref 81] (u, ml_h m lm) Φ := wp_same xd136_7 (Or.inr rfl) rfl
theorem x136_8 {x1 : Int32} {ys0 : Int64} {k : Nat} (hk : k < 1) : wp Ln xs 136 8 [.ref 1, .int x1, .ref 81, mj_hole] [.long ys0, .int (nI k), .ref 81] (u, ml_h m lm) Φ = wp Ln xs 136 15 [.ref 1, .int x1, .ref 81, mj_hole] [] (u, ml_h m (ml_sj lm 81 k ys0)) Φ := (wm_last (k := k) xd136_8 rfl hk (by decide)).trans (wx_goto xd136_9 rfl)
theorem x136_13 {x1 : Int32} : wp Ln xs 136 13 [.ref 1, .int x1, .ref 81, mj_hole] [] (u, ml_h m lm) Φ = Φ (.inl (some (.int (nI 1)))) (u, ml_h m lm) := (wp_same (S' := [.int (nI 1)]) xd136_13 (Or.inr rfl) rfl).trans (wp_fin (v := some (.int (nI 1))) xd136_14 (Or.inr rfl) rfl (mj_fin_i rfl))
theorem x136_15 {x1 : Int32} : wp Ln xs 136 15 [.ref 1, .int x1, .ref 81, mj_hole] [] (u, ml_h m lm) Φ = Φ (.inl (some (.int (nI 0)))) (u, ml_h m lm) := (wp_same (S' := [.int (nI 0)]) xd136_15 (Or.inr rfl) rfl).trans (wp_fin (v := some (.int (nI 0))) xd136_16 (Or.inr rfl) rfl (mj_fin_i rfl))
/- PickedForms.setting -/
theorem xd137_0 : decode (mj_b 137) 0 = .ok (.iload_n 1, 1) := by decide +kernel
theorem xd137_1 : decode (mj_b 137) 1 = .ok (.invokestatic 189, 3) := by decide +kernel
theorem xd137_4 : decode (mj_b 137) 4 = .ok (.ifCond .ne 13, 3) := by decide +kernel
theorem xd137_7 : decode (mj_b 137) 7 = .ok (.new 130, 3) := by decide +kernel
theorem xd137_17 : decode (mj_b 137) 17 = .ok (.aload_n 0, 1) := by decide +kernel
theorem xd137_18 : decode (mj_b 137) 18 = .ok (.getfield 12, 3) := by decide +kernel
theorem xd137_21 : decode (mj_b 137) 21 = .ok (.iload_n 1, 1) := by decide +kernel
theorem xd137_22 : decode (mj_b 137) 22 = .ok (.invokevirtual 200, 3) := by decide +kernel
theorem xd137_25 : decode (mj_b 137) 25 = .ok (.ireturn, 1) := by decide +kernel
theorem x137_0 {x1 : Int32} : wp Ln xs 137 0 [.ref 1, .int x1] [] (u, ml_h m lm) Φ = wp Ln xs 111 0 [.int x1] [] (u, ml_h m lm) (mk Ln xs 137 1 [.ref 1, .int x1] [] Φ) := (wp_same xd137_0 (Or.inr rfl) rfl).trans (wm_cs (As := [.int x1]) (rest := []) xd137_1 rfl rfl (Nat.le_of_ble_eq_true rfl) (Nat.le_of_ble_eq_true rfl) (Nat.le_of_ble_eq_true rfl) (Nat.le_of_ble_eq_true rfl))
theorem x137_4 {x1 : Int32} {xs0 : Int32} : wp Ln xs 137 4 [.ref 1, .int x1] [.int xs0] (u, ml_h m lm) Φ = if ¬ xs0 = (nI 0) then wp Ln xs 137 17 [.ref 1, .int x1] [] (u, ml_h m lm) Φ else wp Ln xs 137 7 [.ref 1, .int x1] [] (u, ml_h m lm) Φ := wx_if xd137_4 rfl rfl (¬ xs0 = (nI 0)) mb_ne
theorem x137_7 {x1 : Int32} : wp Ln xs 137 7 [.ref 1, .int x1] [] (u, ml_h m lm) Φ = Φ (.inr 2) ((u.1, u.2.1 + 1, u.2.2 + 6), ml_h m lm) := wp_thr xd137_7 (Or.inr rfl) rfl rfl (E := 2) (by decide +kernel)
theorem x137_17 {x1 : Int32} : wp Ln xs 137 17 [.ref 1, .int x1] [] (u, ml_h m lm) Φ = wp Ln xs 41 0 [.ref 2, .int x1] [] (u, ml_h m lm) (mk Ln xs 137 22 [.ref 1, .int x1] [] Φ) := (wp_same xd137_17 (Or.inr rfl) rfl).trans ((wm_getr xd137_18 rfl (show ml_L[1]? = _ from rfl) rfl (Nat.le_of_ble_eq_true rfl)).trans ((wp_same xd137_21 (Or.inr rfl) rfl).trans (wm_cv (As := [.int x1]) (rest := []) xd137_22 rfl rfl (show ml_L[2]? = _ from rfl) (Nat.le_of_ble_eq_true rfl) (Nat.le_of_ble_eq_true rfl) (Nat.le_of_ble_eq_true rfl) (Nat.le_of_ble_eq_true rfl))))
theorem x137_25 {x1 : Int32} {xs0 : Int32} : wp Ln xs 137 25 [.ref 1, .int x1] [.int xs0] (u, ml_h m lm) Φ = Φ (.inl (some (.int xs0))) (u, ml_h m lm) := wp_fin (v := some (.int xs0)) xd137_25 (Or.inr rfl) rfl (mj_fin_i rfl)
/- PickedFormsLaw.match -/
theorem xd138_0 : decode (mj_b 138) 0 = .ok (.aload 4, 2) := by decide +kernel
theorem xd138_2 : decode (mj_b 138) 2 = .ok (.iconst 0, 1) := by decide +kernel
theorem xd138_3 : decode (mj_b 138) 3 = .ok (.aload_n 0, 1) := by decide +kernel
theorem xd138_4 : decode (mj_b 138) 4 = .ok (.iload_n 1, 1) := by decide +kernel
theorem xd138_5 : decode (mj_b 138) 5 = .ok (.iload_n 2, 1) := by decide +kernel
theorem xd138_6 : decode (mj_b 138) 6 = .ok (.iload_n 3, 1) := by decide +kernel
theorem xd138_7 : decode (mj_b 138) 7 = .ok (.invokevirtual 72, 3) := by decide +kernel
theorem xd138_10 : decode (mj_b 138) 10 = .ok (.i2l, 1) := by decide +kernel
theorem xd138_11 : decode (mj_b 138) 11 = .ok (.lastore, 1) := by decide +kernel
theorem xd138_12 : decode (mj_b 138) 12 = .ok (.goto 7, 3) := by decide +kernel
theorem xd138_17 : decode (mj_b 138) 17 = .ok (.iconst 1, 1) := by decide +kernel
theorem xd138_18 : decode (mj_b 138) 18 = .ok (.ireturn, 1) := by decide +kernel
theorem xd138_19 : decode (mj_b 138) 19 = .ok (.iconst 0, 1) := by decide +kernel
theorem xd138_20 : decode (mj_b 138) 20 = .ok (.ireturn, 1) := by decide +kernel
theorem x138_0 {x1 : Int32} {x2 : Int32} {x3 : Int32} : wp Ln xs 138 0 [.ref 1, .int x1, .int x2, .int x3, .ref 81, mj_hole] [] (u, ml_h m lm) Φ = wp Ln xs 139 0 [.ref 1, .int x1, .int x2, .int x3] [] (u, ml_h m lm) (mk Ln xs 138 7 [.ref 1, .int x1, .int x2, .int x3, .ref 81, mj_hole] [.int (nI 0), .ref 81] Φ) := (wp_same xd138_0 (Or.inr rfl) rfl).trans ((wp_same (S' := [.int (nI 0), .ref 81]) xd138_2 (Or.inr rfl) rfl).trans ((wp_same xd138_3 (Or.inr rfl) rfl).trans ((wp_same xd138_4 (Or.inr rfl) rfl).trans ((wp_same xd138_5 (Or.inr rfl) rfl).trans ((wp_same xd138_6 (Or.inr rfl) rfl).trans (wm_cv (As := [.int x1, .int x2, .int x3]) (rest := [.int (nI 0), .ref 81]) xd138_7 rfl rfl (show ml_L[1]? = _ from rfl) (Nat.le_of_ble_eq_true rfl) (Nat.le_of_ble_eq_true rfl) (Nat.le_of_ble_eq_true rfl) (Nat.le_of_ble_eq_true rfl)))))))
theorem x138_10 {x1 : Int32} {x2 : Int32} {x3 : Int32} {xs0 : Int32} {xs1 : Int32} : wp Ln xs 138 10 [.ref 1, .int x1, .int x2, .int x3, .ref 81, mj_hole] [.int xs0, .int xs1, .ref 81] (u, ml_h m lm) Φ = wp Ln xs 138 11 [.ref 1, .int x1, .int x2, .int x3, .ref 81, mj_hole] [.long xs0.toInt64, .int xs1, .ref 81] (u, ml_h m lm) Φ := wp_same xd138_10 (Or.inr rfl) rfl
theorem x138_11 {x1 : Int32} {x2 : Int32} {x3 : Int32} {ys0 : Int64} {k : Nat} (hk : k < 1) : wp Ln xs 138 11 [.ref 1, .int x1, .int x2, .int x3, .ref 81, mj_hole] [.long ys0, .int (nI k), .ref 81] (u, ml_h m lm) Φ = wp Ln xs 138 19 [.ref 1, .int x1, .int x2, .int x3, .ref 81, mj_hole] [] (u, ml_h m (ml_sj lm 81 k ys0)) Φ := (wm_last (k := k) xd138_11 rfl hk (by decide)).trans (wx_goto xd138_12 rfl)
theorem x138_17 {x1 : Int32} {x2 : Int32} {x3 : Int32} : wp Ln xs 138 17 [.ref 1, .int x1, .int x2, .int x3, .ref 81, mj_hole] [] (u, ml_h m lm) Φ = Φ (.inl (some (.int (nI 1)))) (u, ml_h m lm) := (wp_same (S' := [.int (nI 1)]) xd138_17 (Or.inr rfl) rfl).trans (wp_fin (v := some (.int (nI 1))) xd138_18 (Or.inr rfl) rfl (mj_fin_i rfl))
theorem x138_19 {x1 : Int32} {x2 : Int32} {x3 : Int32} : wp Ln xs 138 19 [.ref 1, .int x1, .int x2, .int x3, .ref 81, mj_hole] [] (u, ml_h m lm) Φ = Φ (.inl (some (.int (nI 0)))) (u, ml_h m lm) := (wp_same (S' := [.int (nI 0)]) xd138_19 (Or.inr rfl) rfl).trans (wp_fin (v := some (.int (nI 0))) xd138_20 (Or.inr rfl) rfl (mj_fin_i rfl))
/- PickedForms.match -/
theorem xd139_0 : decode (mj_b 139) 0 = .ok (.iload_n 1, 1) := by decide +kernel
theorem xd139_1 : decode (mj_b 139) 1 = .ok (.invokestatic 76, 3) := by decide +kernel
theorem xd139_4 : decode (mj_b 139) 4 = .ok (.ifCond .eq 19, 3) := by decide +kernel
theorem xd139_7 : decode (mj_b 139) 7 = .ok (.iload_n 2, 1) := by decide +kernel
theorem xd139_8 : decode (mj_b 139) 8 = .ok (.invokestatic 76, 3) := by decide +kernel
theorem xd139_11 : decode (mj_b 139) 11 = .ok (.ifCond .eq 12, 3) := by decide +kernel
theorem xd139_14 : decode (mj_b 139) 14 = .ok (.iload_n 3, 1) := by decide +kernel
theorem xd139_15 : decode (mj_b 139) 15 = .ok (.ifCond .lt 8, 3) := by decide +kernel
theorem xd139_18 : decode (mj_b 139) 18 = .ok (.iload_n 3, 1) := by decide +kernel
theorem xd139_19 : decode (mj_b 139) 19 = .ok (.iconst 3, 1) := by decide +kernel
theorem xd139_20 : decode (mj_b 139) 20 = .ok (.if_icmp .le 14, 3) := by decide +kernel
theorem xd139_23 : decode (mj_b 139) 23 = .ok (.new 80, 3) := by decide +kernel
theorem xd139_34 : decode (mj_b 139) 34 = .ok (.aload_n 0, 1) := by decide +kernel
theorem xd139_35 : decode (mj_b 139) 35 = .ok (.iload_n 1, 1) := by decide +kernel
theorem xd139_36 : decode (mj_b 139) 36 = .ok (.iload_n 2, 1) := by decide +kernel
theorem xd139_37 : decode (mj_b 139) 37 = .ok (.iload_n 3, 1) := by decide +kernel
theorem xd139_38 : decode (mj_b 139) 38 = .ok (.invokevirtual 287, 3) := by decide +kernel
theorem xd139_41 : decode (mj_b 139) 41 = .ok (.ireturn, 1) := by decide +kernel
theorem x139_0 {x1 : Int32} {x2 : Int32} {x3 : Int32} : wp Ln xs 139 0 [.ref 1, .int x1, .int x2, .int x3] [] (u, ml_h m lm) Φ = wp Ln xs 83 0 [.int x1] [] (u, ml_h m lm) (mk Ln xs 139 1 [.ref 1, .int x1, .int x2, .int x3] [] Φ) := (wp_same xd139_0 (Or.inr rfl) rfl).trans (wm_cs (As := [.int x1]) (rest := []) xd139_1 rfl rfl (Nat.le_of_ble_eq_true rfl) (Nat.le_of_ble_eq_true rfl) (Nat.le_of_ble_eq_true rfl) (Nat.le_of_ble_eq_true rfl))
theorem x139_4 {x1 : Int32} {x2 : Int32} {x3 : Int32} {xs0 : Int32} : wp Ln xs 139 4 [.ref 1, .int x1, .int x2, .int x3] [.int xs0] (u, ml_h m lm) Φ = if xs0 = (nI 0) then wp Ln xs 139 23 [.ref 1, .int x1, .int x2, .int x3] [] (u, ml_h m lm) Φ else wp Ln xs 139 7 [.ref 1, .int x1, .int x2, .int x3] [] (u, ml_h m lm) Φ := wx_if xd139_4 rfl rfl (xs0 = (nI 0)) mb_eq
theorem x139_7 {x1 : Int32} {x2 : Int32} {x3 : Int32} : wp Ln xs 139 7 [.ref 1, .int x1, .int x2, .int x3] [] (u, ml_h m lm) Φ = wp Ln xs 83 0 [.int x2] [] (u, ml_h m lm) (mk Ln xs 139 8 [.ref 1, .int x1, .int x2, .int x3] [] Φ) := (wp_same xd139_7 (Or.inr rfl) rfl).trans (wm_cs (As := [.int x2]) (rest := []) xd139_8 rfl rfl (Nat.le_of_ble_eq_true rfl) (Nat.le_of_ble_eq_true rfl) (Nat.le_of_ble_eq_true rfl) (Nat.le_of_ble_eq_true rfl))
theorem x139_11 {x1 : Int32} {x2 : Int32} {x3 : Int32} {xs0 : Int32} : wp Ln xs 139 11 [.ref 1, .int x1, .int x2, .int x3] [.int xs0] (u, ml_h m lm) Φ = if xs0 = (nI 0) then wp Ln xs 139 23 [.ref 1, .int x1, .int x2, .int x3] [] (u, ml_h m lm) Φ else wp Ln xs 139 14 [.ref 1, .int x1, .int x2, .int x3] [] (u, ml_h m lm) Φ := wx_if xd139_11 rfl rfl (xs0 = (nI 0)) mb_eq
theorem x139_14 {x1 : Int32} {x2 : Int32} {x3 : Int32} : wp Ln xs 139 14 [.ref 1, .int x1, .int x2, .int x3] [] (u, ml_h m lm) Φ = if x3 < (nI 0) then wp Ln xs 139 23 [.ref 1, .int x1, .int x2, .int x3] [] (u, ml_h m lm) Φ else wp Ln xs 139 18 [.ref 1, .int x1, .int x2, .int x3] [] (u, ml_h m lm) Φ := (wp_same xd139_14 (Or.inr rfl) rfl).trans (wx_if xd139_15 rfl rfl (x3 < (nI 0)) mb_lt)
theorem x139_18 {x1 : Int32} {x2 : Int32} {x3 : Int32} : wp Ln xs 139 18 [.ref 1, .int x1, .int x2, .int x3] [] (u, ml_h m lm) Φ = if x3 ≤ (nI 3) then wp Ln xs 139 34 [.ref 1, .int x1, .int x2, .int x3] [] (u, ml_h m lm) Φ else wp Ln xs 139 23 [.ref 1, .int x1, .int x2, .int x3] [] (u, ml_h m lm) Φ := (wp_same xd139_18 (Or.inr rfl) rfl).trans ((wp_same (S' := [.int (nI 3), .int x3]) xd139_19 (Or.inr rfl) rfl).trans (wx_icmp xd139_20 rfl rfl (x3 ≤ (nI 3)) mb_le))
theorem x139_23 {x1 : Int32} {x2 : Int32} {x3 : Int32} : wp Ln xs 139 23 [.ref 1, .int x1, .int x2, .int x3] [] (u, ml_h m lm) Φ = Φ (.inr 0) ((u.1, u.2.1 + 1, u.2.2 + 6), ml_h m lm) := wp_thr xd139_23 (Or.inr rfl) rfl rfl (E := 0) (by decide +kernel)
theorem x139_34 {x1 : Int32} {x2 : Int32} {x3 : Int32} : wp Ln xs 139 34 [.ref 1, .int x1, .int x2, .int x3] [] (u, ml_h m lm) Φ = wp Ln xs 140 0 [.ref 1, .int x1, .int x2, .int x3] [] (u, ml_h m lm) (mk Ln xs 139 38 [.ref 1, .int x1, .int x2, .int x3] [] Φ) := (wp_same xd139_34 (Or.inr rfl) rfl).trans ((wp_same xd139_35 (Or.inr rfl) rfl).trans ((wp_same xd139_36 (Or.inr rfl) rfl).trans ((wp_same xd139_37 (Or.inr rfl) rfl).trans (wm_cv (As := [.int x1, .int x2, .int x3]) (rest := []) xd139_38 rfl rfl (show ml_L[1]? = _ from rfl) (Nat.le_of_ble_eq_true rfl) (Nat.le_of_ble_eq_true rfl) (Nat.le_of_ble_eq_true rfl) (Nat.le_of_ble_eq_true rfl)))))
theorem x139_41 {x1 : Int32} {x2 : Int32} {x3 : Int32} {xs0 : Int32} : wp Ln xs 139 41 [.ref 1, .int x1, .int x2, .int x3] [.int xs0] (u, ml_h m lm) Φ = Φ (.inl (some (.int xs0))) (u, ml_h m lm) := wp_fin (v := some (.int xs0)) xd139_41 (Or.inr rfl) rfl (mj_fin_i rfl)
/- PickedForms.matchNumber -/
theorem xd140_0 : decode (mj_b 140) 0 = .ok (.iload_n 3, 1) := by decide +kernel
theorem xd140_1 : decode (mj_b 140) 1 = .ok (.tableswitch 83 0 2 #[27, 48, 62], 27) := by decide +kernel
theorem xd140_28 : decode (mj_b 140) 28 = .ok (.aload_n 0, 1) := by decide +kernel
theorem xd140_29 : decode (mj_b 140) 29 = .ok (.getfield 54, 3) := by decide +kernel
theorem xd140_32 : decode (mj_b 140) 32 = .ok (.aload_n 0, 1) := by decide +kernel
theorem xd140_33 : decode (mj_b 140) 33 = .ok (.getfield 12, 3) := by decide +kernel
theorem xd140_36 : decode (mj_b 140) 36 = .ok (.iload_n 1, 1) := by decide +kernel
theorem xd140_37 : decode (mj_b 140) 37 = .ok (.iload_n 2, 1) := by decide +kernel
theorem xd140_38 : decode (mj_b 140) 38 = .ok (.invokevirtual 410, 3) := by decide +kernel
theorem xd140_41 : decode (mj_b 140) 41 = .ok (.aload_n 0, 1) := by decide +kernel
theorem xd140_42 : decode (mj_b 140) 42 = .ok (.getfield 54, 3) := by decide +kernel
theorem xd140_45 : decode (mj_b 140) 45 = .ok (.getfield 414, 3) := by decide +kernel
theorem xd140_48 : decode (mj_b 140) 48 = .ok (.ireturn, 1) := by decide +kernel
theorem xd140_49 : decode (mj_b 140) 49 = .ok (.aload_n 0, 1) := by decide +kernel
theorem xd140_50 : decode (mj_b 140) 50 = .ok (.getfield 54, 3) := by decide +kernel
theorem xd140_53 : decode (mj_b 140) 53 = .ok (.aload_n 0, 1) := by decide +kernel
theorem xd140_54 : decode (mj_b 140) 54 = .ok (.getfield 12, 3) := by decide +kernel
theorem xd140_57 : decode (mj_b 140) 57 = .ok (.iload_n 1, 1) := by decide +kernel
theorem xd140_58 : decode (mj_b 140) 58 = .ok (.iload_n 2, 1) := by decide +kernel
theorem xd140_59 : decode (mj_b 140) 59 = .ok (.invokevirtual 417, 3) := by decide +kernel
theorem xd140_62 : decode (mj_b 140) 62 = .ok (.ireturn, 1) := by decide +kernel
theorem xd140_63 : decode (mj_b 140) 63 = .ok (.aload_n 0, 1) := by decide +kernel
theorem xd140_64 : decode (mj_b 140) 64 = .ok (.getfield 54, 3) := by decide +kernel
theorem xd140_67 : decode (mj_b 140) 67 = .ok (.aload_n 0, 1) := by decide +kernel
theorem xd140_68 : decode (mj_b 140) 68 = .ok (.getfield 12, 3) := by decide +kernel
theorem xd140_71 : decode (mj_b 140) 71 = .ok (.iload_n 1, 1) := by decide +kernel
theorem xd140_72 : decode (mj_b 140) 72 = .ok (.iload_n 2, 1) := by decide +kernel
theorem xd140_73 : decode (mj_b 140) 73 = .ok (.invokevirtual 410, 3) := by decide +kernel
theorem xd140_76 : decode (mj_b 140) 76 = .ok (.aload_n 0, 1) := by decide +kernel
theorem xd140_77 : decode (mj_b 140) 77 = .ok (.getfield 54, 3) := by decide +kernel
theorem xd140_80 : decode (mj_b 140) 80 = .ok (.getfield 421, 3) := by decide +kernel
theorem xd140_83 : decode (mj_b 140) 83 = .ok (.ireturn, 1) := by decide +kernel
theorem xd140_84 : decode (mj_b 140) 84 = .ok (.aload_n 0, 1) := by decide +kernel
theorem xd140_85 : decode (mj_b 140) 85 = .ok (.getfield 54, 3) := by decide +kernel
theorem xd140_88 : decode (mj_b 140) 88 = .ok (.aload_n 0, 1) := by decide +kernel
theorem xd140_89 : decode (mj_b 140) 89 = .ok (.getfield 12, 3) := by decide +kernel
theorem xd140_92 : decode (mj_b 140) 92 = .ok (.iload_n 1, 1) := by decide +kernel
theorem xd140_93 : decode (mj_b 140) 93 = .ok (.iload_n 2, 1) := by decide +kernel
theorem xd140_94 : decode (mj_b 140) 94 = .ok (.invokevirtual 424, 3) := by decide +kernel
theorem xd140_97 : decode (mj_b 140) 97 = .ok (.ireturn, 1) := by decide +kernel
theorem x140_0 {x1 : Int32} {x2 : Int32} {x3 : Int32} : wp Ln xs 140 0 [.ref 1, .int x1, .int x2, .int x3] [] (u, ml_h m lm) Φ = wp Ln xs 140 1 [.ref 1, .int x1, .int x2, .int x3] [.int x3] (u, ml_h m lm) Φ := wp_same xd140_0 (Or.inr rfl) rfl
theorem x140_1_0 {x1 : Int32} {x2 : Int32} {x3 : Int32} : wp Ln xs 140 1 [.ref 1, .int x1, .int x2, .int x3] [.int (nI 0)] (u, ml_h m lm) Φ = wp Ln xs 140 28 [.ref 1, .int x1, .int x2, .int x3] [] (u, ml_h m lm) Φ := wp_same xd140_1 (Or.inl rfl) rfl
theorem x140_1_1 {x1 : Int32} {x2 : Int32} {x3 : Int32} : wp Ln xs 140 1 [.ref 1, .int x1, .int x2, .int x3] [.int (nI 1)] (u, ml_h m lm) Φ = wp Ln xs 140 49 [.ref 1, .int x1, .int x2, .int x3] [] (u, ml_h m lm) Φ := wp_same xd140_1 (Or.inl rfl) rfl
theorem x140_1_2 {x1 : Int32} {x2 : Int32} {x3 : Int32} : wp Ln xs 140 1 [.ref 1, .int x1, .int x2, .int x3] [.int (nI 2)] (u, ml_h m lm) Φ = wp Ln xs 140 63 [.ref 1, .int x1, .int x2, .int x3] [] (u, ml_h m lm) Φ := wp_same xd140_1 (Or.inl rfl) rfl
theorem x140_1_3 {x1 : Int32} {x2 : Int32} {x3 : Int32} : wp Ln xs 140 1 [.ref 1, .int x1, .int x2, .int x3] [.int (nI 3)] (u, ml_h m lm) Φ = wp Ln xs 140 84 [.ref 1, .int x1, .int x2, .int x3] [] (u, ml_h m lm) Φ := wp_same xd140_1 (Or.inl rfl) rfl
theorem x140_1_4 {x1 : Int32} {x2 : Int32} {x3 : Int32} : wp Ln xs 140 1 [.ref 1, .int x1, .int x2, .int x3] [.int (nI 4)] (u, ml_h m lm) Φ = wp Ln xs 140 84 [.ref 1, .int x1, .int x2, .int x3] [] (u, ml_h m lm) Φ := wp_same xd140_1 (Or.inl rfl) rfl
theorem x140_1_5 {x1 : Int32} {x2 : Int32} {x3 : Int32} : wp Ln xs 140 1 [.ref 1, .int x1, .int x2, .int x3] [.int (nI 5)] (u, ml_h m lm) Φ = wp Ln xs 140 84 [.ref 1, .int x1, .int x2, .int x3] [] (u, ml_h m lm) Φ := wp_same xd140_1 (Or.inl rfl) rfl
theorem x140_28 {x1 : Int32} {x2 : Int32} {x3 : Int32} : wp Ln xs 140 28 [.ref 1, .int x1, .int x2, .int x3] [] (u, ml_h m lm) Φ = wp Ln xs 63 0 [.ref 61, .ref 2, .int x1, .int x2, mj_hole, mj_hole, mj_hole] [] (u, ml_h m lm) (mk Ln xs 140 38 [.ref 1, .int x1, .int x2, .int x3] [] Φ) := (wp_same xd140_28 (Or.inr rfl) rfl).trans ((wm_getr xd140_29 rfl (show ml_L[1]? = _ from rfl) rfl (Nat.le_of_ble_eq_true rfl)).trans ((wp_same xd140_32 (Or.inr rfl) rfl).trans ((wm_getr xd140_33 rfl (show ml_L[1]? = _ from rfl) rfl (Nat.le_of_ble_eq_true rfl)).trans ((wp_same xd140_36 (Or.inr rfl) rfl).trans ((wp_same xd140_37 (Or.inr rfl) rfl).trans (wm_cv (As := [.ref 2, .int x1, .int x2]) (rest := []) xd140_38 rfl rfl (show ml_L[61]? = _ from rfl) (Nat.le_of_ble_eq_true rfl) (Nat.le_of_ble_eq_true rfl) (Nat.le_of_ble_eq_true rfl) (Nat.le_of_ble_eq_true rfl)))))))
theorem x140_41 {x1 : Int32} {x2 : Int32} {x3 : Int32} : wp Ln xs 140 41 [.ref 1, .int x1, .int x2, .int x3] [] (u, ml_h m lm) Φ = Φ (.inl (some (.int (m 61 1)))) (u, ml_h m lm) := (wp_same xd140_41 (Or.inr rfl) rfl).trans ((wm_getr xd140_42 rfl (show ml_L[1]? = _ from rfl) rfl (Nat.le_of_ble_eq_true rfl)).trans ((wm_geti xd140_45 rfl (show ml_L[61]? = _ from rfl) rfl (Nat.le_of_ble_eq_true rfl)).trans (wp_fin (v := some (.int (m 61 1))) xd140_48 (Or.inr rfl) rfl (mj_fin_i rfl))))
theorem x140_49 {x1 : Int32} {x2 : Int32} {x3 : Int32} : wp Ln xs 140 49 [.ref 1, .int x1, .int x2, .int x3] [] (u, ml_h m lm) Φ = wp Ln xs 69 0 [.ref 61, .ref 2, .int x1, .int x2, mj_hole, mj_hole] [] (u, ml_h m lm) (mk Ln xs 140 59 [.ref 1, .int x1, .int x2, .int x3] [] Φ) := (wp_same xd140_49 (Or.inr rfl) rfl).trans ((wm_getr xd140_50 rfl (show ml_L[1]? = _ from rfl) rfl (Nat.le_of_ble_eq_true rfl)).trans ((wp_same xd140_53 (Or.inr rfl) rfl).trans ((wm_getr xd140_54 rfl (show ml_L[1]? = _ from rfl) rfl (Nat.le_of_ble_eq_true rfl)).trans ((wp_same xd140_57 (Or.inr rfl) rfl).trans ((wp_same xd140_58 (Or.inr rfl) rfl).trans (wm_cv (As := [.ref 2, .int x1, .int x2]) (rest := []) xd140_59 rfl rfl (show ml_L[61]? = _ from rfl) (Nat.le_of_ble_eq_true rfl) (Nat.le_of_ble_eq_true rfl) (Nat.le_of_ble_eq_true rfl) (Nat.le_of_ble_eq_true rfl)))))))
theorem x140_62 {x1 : Int32} {x2 : Int32} {x3 : Int32} {xs0 : Int32} : wp Ln xs 140 62 [.ref 1, .int x1, .int x2, .int x3] [.int xs0] (u, ml_h m lm) Φ = Φ (.inl (some (.int xs0))) (u, ml_h m lm) := wp_fin (v := some (.int xs0)) xd140_62 (Or.inr rfl) rfl (mj_fin_i rfl)
theorem x140_63 {x1 : Int32} {x2 : Int32} {x3 : Int32} : wp Ln xs 140 63 [.ref 1, .int x1, .int x2, .int x3] [] (u, ml_h m lm) Φ = wp Ln xs 63 0 [.ref 61, .ref 2, .int x1, .int x2, mj_hole, mj_hole, mj_hole] [] (u, ml_h m lm) (mk Ln xs 140 73 [.ref 1, .int x1, .int x2, .int x3] [] Φ) := (wp_same xd140_63 (Or.inr rfl) rfl).trans ((wm_getr xd140_64 rfl (show ml_L[1]? = _ from rfl) rfl (Nat.le_of_ble_eq_true rfl)).trans ((wp_same xd140_67 (Or.inr rfl) rfl).trans ((wm_getr xd140_68 rfl (show ml_L[1]? = _ from rfl) rfl (Nat.le_of_ble_eq_true rfl)).trans ((wp_same xd140_71 (Or.inr rfl) rfl).trans ((wp_same xd140_72 (Or.inr rfl) rfl).trans (wm_cv (As := [.ref 2, .int x1, .int x2]) (rest := []) xd140_73 rfl rfl (show ml_L[61]? = _ from rfl) (Nat.le_of_ble_eq_true rfl) (Nat.le_of_ble_eq_true rfl) (Nat.le_of_ble_eq_true rfl) (Nat.le_of_ble_eq_true rfl)))))))
theorem x140_76 {x1 : Int32} {x2 : Int32} {x3 : Int32} : wp Ln xs 140 76 [.ref 1, .int x1, .int x2, .int x3] [] (u, ml_h m lm) Φ = Φ (.inl (some (.int (m 61 2)))) (u, ml_h m lm) := (wp_same xd140_76 (Or.inr rfl) rfl).trans ((wm_getr xd140_77 rfl (show ml_L[1]? = _ from rfl) rfl (Nat.le_of_ble_eq_true rfl)).trans ((wm_geti xd140_80 rfl (show ml_L[61]? = _ from rfl) rfl (Nat.le_of_ble_eq_true rfl)).trans (wp_fin (v := some (.int (m 61 2))) xd140_83 (Or.inr rfl) rfl (mj_fin_i rfl))))
theorem x140_84 {x1 : Int32} {x2 : Int32} {x3 : Int32} : wp Ln xs 140 84 [.ref 1, .int x1, .int x2, .int x3] [] (u, ml_h m lm) Φ = wp Ln xs 70 0 [.ref 61, .ref 2, .int x1, .int x2, mj_hole] [] (u, ml_h m lm) (mk Ln xs 140 94 [.ref 1, .int x1, .int x2, .int x3] [] Φ) := (wp_same xd140_84 (Or.inr rfl) rfl).trans ((wm_getr xd140_85 rfl (show ml_L[1]? = _ from rfl) rfl (Nat.le_of_ble_eq_true rfl)).trans ((wp_same xd140_88 (Or.inr rfl) rfl).trans ((wm_getr xd140_89 rfl (show ml_L[1]? = _ from rfl) rfl (Nat.le_of_ble_eq_true rfl)).trans ((wp_same xd140_92 (Or.inr rfl) rfl).trans ((wp_same xd140_93 (Or.inr rfl) rfl).trans (wm_cv (As := [.ref 2, .int x1, .int x2]) (rest := []) xd140_94 rfl rfl (show ml_L[61]? = _ from rfl) (Nat.le_of_ble_eq_true rfl) (Nat.le_of_ble_eq_true rfl) (Nat.le_of_ble_eq_true rfl) (Nat.le_of_ble_eq_true rfl)))))))
theorem x140_97 {x1 : Int32} {x2 : Int32} {x3 : Int32} {xs0 : Int32} : wp Ln xs 140 97 [.ref 1, .int x1, .int x2, .int x3] [.int xs0] (u, ml_h m lm) Φ = Φ (.inl (some (.int xs0))) (u, ml_h m lm) := wp_fin (v := some (.int xs0)) xd140_97 (Or.inr rfl) rfl (mj_fin_i rfl)
/- PickedFormsLaw.ifChanged -/
theorem xd141_0 : decode (mj_b 141) 0 = .ok (.aload 4, 2) := by decide +kernel
theorem xd141_2 : decode (mj_b 141) 2 = .ok (.iconst 0, 1) := by decide +kernel
theorem xd141_3 : decode (mj_b 141) 3 = .ok (.aload_n 0, 1) := by decide +kernel
theorem xd141_4 : decode (mj_b 141) 4 = .ok (.iload_n 1, 1) := by decide +kernel
theorem xd141_5 : decode (mj_b 141) 5 = .ok (.iload_n 2, 1) := by decide +kernel
theorem xd141_6 : decode (mj_b 141) 6 = .ok (.iload_n 3, 1) := by decide +kernel
theorem xd141_7 : decode (mj_b 141) 7 = .ok (.invokevirtual 76, 3) := by decide +kernel
theorem xd141_10 : decode (mj_b 141) 10 = .ok (.i2l, 1) := by decide +kernel
theorem xd141_11 : decode (mj_b 141) 11 = .ok (.lastore, 1) := by decide +kernel
theorem xd141_12 : decode (mj_b 141) 12 = .ok (.goto 11, 3) := by decide +kernel
theorem xd141_17 : decode (mj_b 141) 17 = .ok (.iconst 1, 1) := by decide +kernel
theorem xd141_18 : decode (mj_b 141) 18 = .ok (.ireturn, 1) := by decide +kernel
theorem xd141_21 : decode (mj_b 141) 21 = .ok (.iconst 2, 1) := by decide +kernel
theorem xd141_22 : decode (mj_b 141) 22 = .ok (.ireturn, 1) := by decide +kernel
theorem xd141_23 : decode (mj_b 141) 23 = .ok (.iconst 0, 1) := by decide +kernel
theorem xd141_24 : decode (mj_b 141) 24 = .ok (.ireturn, 1) := by decide +kernel
theorem x141_0 {x1 : Int32} {x2 : Int32} {x3 : Int32} : wp Ln xs 141 0 [.ref 1, .int x1, .int x2, .int x3, .ref 81, mj_hole] [] (u, ml_h m lm) Φ = wp Ln xs 142 0 [.ref 1, .int x1, .int x2, .int x3, mj_hole] [] (u, ml_h m lm) (mk Ln xs 141 7 [.ref 1, .int x1, .int x2, .int x3, .ref 81, mj_hole] [.int (nI 0), .ref 81] Φ) := (wp_same xd141_0 (Or.inr rfl) rfl).trans ((wp_same (S' := [.int (nI 0), .ref 81]) xd141_2 (Or.inr rfl) rfl).trans ((wp_same xd141_3 (Or.inr rfl) rfl).trans ((wp_same xd141_4 (Or.inr rfl) rfl).trans ((wp_same xd141_5 (Or.inr rfl) rfl).trans ((wp_same xd141_6 (Or.inr rfl) rfl).trans (wm_cv (As := [.int x1, .int x2, .int x3]) (rest := [.int (nI 0), .ref 81]) xd141_7 rfl rfl (show ml_L[1]? = _ from rfl) (Nat.le_of_ble_eq_true rfl) (Nat.le_of_ble_eq_true rfl) (Nat.le_of_ble_eq_true rfl) (Nat.le_of_ble_eq_true rfl)))))))
theorem x141_10 {x1 : Int32} {x2 : Int32} {x3 : Int32} {xs0 : Int32} {xs1 : Int32} : wp Ln xs 141 10 [.ref 1, .int x1, .int x2, .int x3, .ref 81, mj_hole] [.int xs0, .int xs1, .ref 81] (u, ml_h m lm) Φ = wp Ln xs 141 11 [.ref 1, .int x1, .int x2, .int x3, .ref 81, mj_hole] [.long xs0.toInt64, .int xs1, .ref 81] (u, ml_h m lm) Φ := wp_same xd141_10 (Or.inr rfl) rfl
theorem x141_11 {x1 : Int32} {x2 : Int32} {x3 : Int32} {ys0 : Int64} {k : Nat} (hk : k < 1) : wp Ln xs 141 11 [.ref 1, .int x1, .int x2, .int x3, .ref 81, mj_hole] [.long ys0, .int (nI k), .ref 81] (u, ml_h m lm) Φ = wp Ln xs 141 23 [.ref 1, .int x1, .int x2, .int x3, .ref 81, mj_hole] [] (u, ml_h m (ml_sj lm 81 k ys0)) Φ := (wm_last (k := k) xd141_11 rfl hk (by decide)).trans (wx_goto xd141_12 rfl)
theorem x141_17 {x1 : Int32} {x2 : Int32} {x3 : Int32} : wp Ln xs 141 17 [.ref 1, .int x1, .int x2, .int x3, .ref 81, mj_hole] [] (u, ml_h m lm) Φ = Φ (.inl (some (.int (nI 1)))) (u, ml_h m lm) := (wp_same (S' := [.int (nI 1)]) xd141_17 (Or.inr rfl) rfl).trans (wp_fin (v := some (.int (nI 1))) xd141_18 (Or.inr rfl) rfl (mj_fin_i rfl))
theorem x141_21 {x1 : Int32} {x2 : Int32} {x3 : Int32} : wp Ln xs 141 21 [.ref 1, .int x1, .int x2, .int x3, .ref 81, mj_hole] [] (u, ml_h m lm) Φ = Φ (.inl (some (.int (nI 2)))) (u, ml_h m lm) := (wp_same (S' := [.int (nI 2)]) xd141_21 (Or.inr rfl) rfl).trans (wp_fin (v := some (.int (nI 2))) xd141_22 (Or.inr rfl) rfl (mj_fin_i rfl))
theorem x141_23 {x1 : Int32} {x2 : Int32} {x3 : Int32} : wp Ln xs 141 23 [.ref 1, .int x1, .int x2, .int x3, .ref 81, mj_hole] [] (u, ml_h m lm) Φ = Φ (.inl (some (.int (nI 0)))) (u, ml_h m lm) := (wp_same (S' := [.int (nI 0)]) xd141_23 (Or.inr rfl) rfl).trans (wp_fin (v := some (.int (nI 0))) xd141_24 (Or.inr rfl) rfl (mj_fin_i rfl))
/- PickedForms.ifChanged -/
theorem xd142_0 : decode (mj_b 142) 0 = .ok (.aload_n 0, 1) := by decide +kernel
theorem xd142_1 : decode (mj_b 142) 1 = .ok (.getfield 12, 3) := by decide +kernel
theorem xd142_4 : decode (mj_b 142) 4 = .ok (.iload_n 1, 1) := by decide +kernel
theorem xd142_5 : decode (mj_b 142) 5 = .ok (.invokevirtual 127, 3) := by decide +kernel
theorem xd142_8 : decode (mj_b 142) 8 = .ok (.ifCond .ne 13, 3) := by decide +kernel
theorem xd142_11 : decode (mj_b 142) 11 = .ok (.new 130, 3) := by decide +kernel
theorem xd142_21 : decode (mj_b 142) 21 = .ok (.iload_n 2, 1) := by decide +kernel
theorem xd142_22 : decode (mj_b 142) 22 = .ok (.invokestatic 76, 3) := by decide +kernel
theorem xd142_25 : decode (mj_b 142) 25 = .ok (.ifCond .eq 12, 3) := by decide +kernel
theorem xd142_28 : decode (mj_b 142) 28 = .ok (.iload_n 3, 1) := by decide +kernel
theorem xd142_29 : decode (mj_b 142) 29 = .ok (.ifCond .lt 8, 3) := by decide +kernel
theorem xd142_32 : decode (mj_b 142) 32 = .ok (.iload_n 3, 1) := by decide +kernel
theorem xd142_33 : decode (mj_b 142) 33 = .ok (.iconst 1, 1) := by decide +kernel
theorem xd142_34 : decode (mj_b 142) 34 = .ok (.if_icmp .le 14, 3) := by decide +kernel
theorem xd142_37 : decode (mj_b 142) 37 = .ok (.new 80, 3) := by decide +kernel
theorem xd142_48 : decode (mj_b 142) 48 = .ok (.aload_n 0, 1) := by decide +kernel
theorem xd142_49 : decode (mj_b 142) 49 = .ok (.iload_n 1, 1) := by decide +kernel
theorem xd142_50 : decode (mj_b 142) 50 = .ok (.iload_n 2, 1) := by decide +kernel
theorem xd142_51 : decode (mj_b 142) 51 = .ok (.invokevirtual 135, 3) := by decide +kernel
theorem xd142_54 : decode (mj_b 142) 54 = .ok (.istore 4, 2) := by decide +kernel
theorem xd142_56 : decode (mj_b 142) 56 = .ok (.iload_n 3, 1) := by decide +kernel
theorem xd142_57 : decode (mj_b 142) 57 = .ok (.ifCond .ne 6, 3) := by decide +kernel
theorem xd142_60 : decode (mj_b 142) 60 = .ok (.iload 4, 2) := by decide +kernel
theorem xd142_62 : decode (mj_b 142) 62 = .ok (.ireturn, 1) := by decide +kernel
theorem xd142_63 : decode (mj_b 142) 63 = .ok (.iload 4, 2) := by decide +kernel
theorem xd142_65 : decode (mj_b 142) 65 = .ok (.iconst 2, 1) := by decide +kernel
theorem xd142_66 : decode (mj_b 142) 66 = .ok (.if_icmp .ne 18, 3) := by decide +kernel
theorem xd142_69 : decode (mj_b 142) 69 = .ok (.aload_n 0, 1) := by decide +kernel
theorem xd142_70 : decode (mj_b 142) 70 = .ok (.aload_n 0, 1) := by decide +kernel
theorem xd142_71 : decode (mj_b 142) 71 = .ok (.getfield 12, 3) := by decide +kernel
theorem xd142_74 : decode (mj_b 142) 74 = .ok (.iload_n 1, 1) := by decide +kernel
theorem xd142_75 : decode (mj_b 142) 75 = .ok (.invokevirtual 151, 3) := by decide +kernel
theorem xd142_78 : decode (mj_b 142) 78 = .ok (.invokevirtual 293, 3) := by decide +kernel
theorem xd142_81 : decode (mj_b 142) 81 = .ok (.goto 4, 3) := by decide +kernel
theorem xd142_84 : decode (mj_b 142) 84 = .ok (.iconst 0, 1) := by decide +kernel
theorem xd142_85 : decode (mj_b 142) 85 = .ok (.ireturn, 1) := by decide +kernel
theorem x142_0 {x1 : Int32} {x2 : Int32} {x3 : Int32} : wp Ln xs 142 0 [.ref 1, .int x1, .int x2, .int x3, mj_hole] [] (u, ml_h m lm) Φ = wp Ln xs 94 0 [.ref 2, .int x1] [] (u, ml_h m lm) (mk Ln xs 142 5 [.ref 1, .int x1, .int x2, .int x3, mj_hole] [] Φ) := (wp_same xd142_0 (Or.inr rfl) rfl).trans ((wm_getr xd142_1 rfl (show ml_L[1]? = _ from rfl) rfl (Nat.le_of_ble_eq_true rfl)).trans ((wp_same xd142_4 (Or.inr rfl) rfl).trans (wm_cv (As := [.int x1]) (rest := []) xd142_5 rfl rfl (show ml_L[2]? = _ from rfl) (Nat.le_of_ble_eq_true rfl) (Nat.le_of_ble_eq_true rfl) (Nat.le_of_ble_eq_true rfl) (Nat.le_of_ble_eq_true rfl))))
theorem x142_8 {x1 : Int32} {x2 : Int32} {x3 : Int32} {xs0 : Int32} : wp Ln xs 142 8 [.ref 1, .int x1, .int x2, .int x3, mj_hole] [.int xs0] (u, ml_h m lm) Φ = if ¬ xs0 = (nI 0) then wp Ln xs 142 21 [.ref 1, .int x1, .int x2, .int x3, mj_hole] [] (u, ml_h m lm) Φ else wp Ln xs 142 11 [.ref 1, .int x1, .int x2, .int x3, mj_hole] [] (u, ml_h m lm) Φ := wx_if xd142_8 rfl rfl (¬ xs0 = (nI 0)) mb_ne
theorem x142_11 {x1 : Int32} {x2 : Int32} {x3 : Int32} : wp Ln xs 142 11 [.ref 1, .int x1, .int x2, .int x3, mj_hole] [] (u, ml_h m lm) Φ = Φ (.inr 2) ((u.1, u.2.1 + 1, u.2.2 + 6), ml_h m lm) := wp_thr xd142_11 (Or.inr rfl) rfl rfl (E := 2) (by decide +kernel)
theorem x142_21 {x1 : Int32} {x2 : Int32} {x3 : Int32} : wp Ln xs 142 21 [.ref 1, .int x1, .int x2, .int x3, mj_hole] [] (u, ml_h m lm) Φ = wp Ln xs 83 0 [.int x2] [] (u, ml_h m lm) (mk Ln xs 142 22 [.ref 1, .int x1, .int x2, .int x3, mj_hole] [] Φ) := (wp_same xd142_21 (Or.inr rfl) rfl).trans (wm_cs (As := [.int x2]) (rest := []) xd142_22 rfl rfl (Nat.le_of_ble_eq_true rfl) (Nat.le_of_ble_eq_true rfl) (Nat.le_of_ble_eq_true rfl) (Nat.le_of_ble_eq_true rfl))
theorem x142_25 {x1 : Int32} {x2 : Int32} {x3 : Int32} {xs0 : Int32} : wp Ln xs 142 25 [.ref 1, .int x1, .int x2, .int x3, mj_hole] [.int xs0] (u, ml_h m lm) Φ = if xs0 = (nI 0) then wp Ln xs 142 37 [.ref 1, .int x1, .int x2, .int x3, mj_hole] [] (u, ml_h m lm) Φ else wp Ln xs 142 28 [.ref 1, .int x1, .int x2, .int x3, mj_hole] [] (u, ml_h m lm) Φ := wx_if xd142_25 rfl rfl (xs0 = (nI 0)) mb_eq
theorem x142_28 {x1 : Int32} {x2 : Int32} {x3 : Int32} : wp Ln xs 142 28 [.ref 1, .int x1, .int x2, .int x3, mj_hole] [] (u, ml_h m lm) Φ = if x3 < (nI 0) then wp Ln xs 142 37 [.ref 1, .int x1, .int x2, .int x3, mj_hole] [] (u, ml_h m lm) Φ else wp Ln xs 142 32 [.ref 1, .int x1, .int x2, .int x3, mj_hole] [] (u, ml_h m lm) Φ := (wp_same xd142_28 (Or.inr rfl) rfl).trans (wx_if xd142_29 rfl rfl (x3 < (nI 0)) mb_lt)
theorem x142_32 {x1 : Int32} {x2 : Int32} {x3 : Int32} : wp Ln xs 142 32 [.ref 1, .int x1, .int x2, .int x3, mj_hole] [] (u, ml_h m lm) Φ = if x3 ≤ (nI 1) then wp Ln xs 142 48 [.ref 1, .int x1, .int x2, .int x3, mj_hole] [] (u, ml_h m lm) Φ else wp Ln xs 142 37 [.ref 1, .int x1, .int x2, .int x3, mj_hole] [] (u, ml_h m lm) Φ := (wp_same xd142_32 (Or.inr rfl) rfl).trans ((wp_same (S' := [.int (nI 1), .int x3]) xd142_33 (Or.inr rfl) rfl).trans (wx_icmp xd142_34 rfl rfl (x3 ≤ (nI 1)) mb_le))
theorem x142_37 {x1 : Int32} {x2 : Int32} {x3 : Int32} : wp Ln xs 142 37 [.ref 1, .int x1, .int x2, .int x3, mj_hole] [] (u, ml_h m lm) Φ = Φ (.inr 0) ((u.1, u.2.1 + 1, u.2.2 + 6), ml_h m lm) := wp_thr xd142_37 (Or.inr rfl) rfl rfl (E := 0) (by decide +kernel)
theorem x142_48 {x1 : Int32} {x2 : Int32} {x3 : Int32} : wp Ln xs 142 48 [.ref 1, .int x1, .int x2, .int x3, mj_hole] [] (u, ml_h m lm) Φ = wp Ln xs 95 0 [.ref 1, .int x1, .int x2, mj_hole, mj_hole, mj_hole, mj_hole] [] (u, ml_h m lm) (mk Ln xs 142 51 [.ref 1, .int x1, .int x2, .int x3, mj_hole] [] Φ) := (wp_same xd142_48 (Or.inr rfl) rfl).trans ((wp_same xd142_49 (Or.inr rfl) rfl).trans ((wp_same xd142_50 (Or.inr rfl) rfl).trans (wm_cv (As := [.int x1, .int x2]) (rest := []) xd142_51 rfl rfl (show ml_L[1]? = _ from rfl) (Nat.le_of_ble_eq_true rfl) (Nat.le_of_ble_eq_true rfl) (Nat.le_of_ble_eq_true rfl) (Nat.le_of_ble_eq_true rfl))))
theorem x142_54 {x1 : Int32} {x2 : Int32} {x3 : Int32} {xs0 : Int32} : wp Ln xs 142 54 [.ref 1, .int x1, .int x2, .int x3, mj_hole] [.int xs0] (u, ml_h m lm) Φ = if ¬ x3 = (nI 0) then wp Ln xs 142 63 [.ref 1, .int x1, .int x2, .int x3, .int xs0] [] (u, ml_h m lm) Φ else wp Ln xs 142 60 [.ref 1, .int x1, .int x2, .int x3, .int xs0] [] (u, ml_h m lm) Φ := (wp_same (L' := [.ref 1, .int x1, .int x2, .int x3, .int xs0]) xd142_54 (Or.inr rfl) rfl).trans ((wp_same xd142_56 (Or.inr rfl) rfl).trans (wx_if xd142_57 rfl rfl (¬ x3 = (nI 0)) mb_ne))
theorem x142_60 {x1 : Int32} {x2 : Int32} {x3 : Int32} {x4 : Int32} : wp Ln xs 142 60 [.ref 1, .int x1, .int x2, .int x3, .int x4] [] (u, ml_h m lm) Φ = Φ (.inl (some (.int x4))) (u, ml_h m lm) := (wp_same xd142_60 (Or.inr rfl) rfl).trans (wp_fin (v := some (.int x4)) xd142_62 (Or.inr rfl) rfl (mj_fin_i rfl))
theorem x142_63 {x1 : Int32} {x2 : Int32} {x3 : Int32} {x4 : Int32} : wp Ln xs 142 63 [.ref 1, .int x1, .int x2, .int x3, .int x4] [] (u, ml_h m lm) Φ = if ¬ x4 = (nI 2) then wp Ln xs 142 84 [.ref 1, .int x1, .int x2, .int x3, .int x4] [] (u, ml_h m lm) Φ else wp Ln xs 142 69 [.ref 1, .int x1, .int x2, .int x3, .int x4] [] (u, ml_h m lm) Φ := (wp_same xd142_63 (Or.inr rfl) rfl).trans ((wp_same (S' := [.int (nI 2), .int x4]) xd142_65 (Or.inr rfl) rfl).trans (wx_icmp xd142_66 rfl rfl (¬ x4 = (nI 2)) mb_ne))
theorem x142_69 {x1 : Int32} {x2 : Int32} {x3 : Int32} {x4 : Int32} : wp Ln xs 142 69 [.ref 1, .int x1, .int x2, .int x3, .int x4] [] (u, ml_h m lm) Φ = wp Ln xs 44 0 [.ref 2, .int x1, mj_hole, mj_hole] [] (u, ml_h m lm) (mk Ln xs 142 75 [.ref 1, .int x1, .int x2, .int x3, .int x4] [.ref 1] Φ) := (wp_same xd142_69 (Or.inr rfl) rfl).trans ((wp_same xd142_70 (Or.inr rfl) rfl).trans ((wm_getr xd142_71 rfl (show ml_L[1]? = _ from rfl) rfl (Nat.le_of_ble_eq_true rfl)).trans ((wp_same xd142_74 (Or.inr rfl) rfl).trans (wm_cv (As := [.int x1]) (rest := [.ref 1]) xd142_75 rfl rfl (show ml_L[2]? = _ from rfl) (Nat.le_of_ble_eq_true rfl) (Nat.le_of_ble_eq_true rfl) (Nat.le_of_ble_eq_true rfl) (Nat.le_of_ble_eq_true rfl)))))
theorem x142_78 {x1 : Int32} {x2 : Int32} {x3 : Int32} {x4 : Int32} {xs0 : Int32} : wp Ln xs 142 78 [.ref 1, .int x1, .int x2, .int x3, .int x4] [.int xs0, .ref 1] (u, ml_h m lm) Φ = wp Ln xs 143 0 [.ref 1, .int xs0] [] (u, ml_h m lm) (mk Ln xs 142 78 [.ref 1, .int x1, .int x2, .int x3, .int x4] [] Φ) := wm_cv (As := [.int xs0]) (rest := []) xd142_78 rfl rfl (show ml_L[1]? = _ from rfl) (Nat.le_of_ble_eq_true rfl) (Nat.le_of_ble_eq_true rfl) (Nat.le_of_ble_eq_true rfl) (Nat.le_of_ble_eq_true rfl)
theorem x142_81 {x1 : Int32} {x2 : Int32} {x3 : Int32} {x4 : Int32} {xs0 : Int32} : wp Ln xs 142 81 [.ref 1, .int x1, .int x2, .int x3, .int x4] [.int xs0] (u, ml_h m lm) Φ = Φ (.inl (some (.int xs0))) (u, ml_h m lm) := (wx_goto xd142_81 rfl).trans (wp_fin (v := some (.int xs0)) xd142_85 (Or.inr rfl) rfl (mj_fin_i rfl))
theorem x142_84 {x1 : Int32} {x2 : Int32} {x3 : Int32} {x4 : Int32} : wp Ln xs 142 84 [.ref 1, .int x1, .int x2, .int x3, .int x4] [] (u, ml_h m lm) Φ = Φ (.inl (some (.int (nI 0)))) (u, ml_h m lm) := (wp_same (S' := [.int (nI 0)]) xd142_84 (Or.inr rfl) rfl).trans (wp_fin (v := some (.int (nI 0))) xd142_85 (Or.inr rfl) rfl (mj_fin_i rfl))
end MXg
