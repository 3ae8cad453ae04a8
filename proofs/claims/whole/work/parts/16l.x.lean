/-! ===== an equation for each straight piece of a method ===== -/
section MXl
variable {Ln : Nat} {xs : Nat → Int32} {u : mj_U} {m : ml_M} {lm : ml_J} {Φ : mj_R → mj_W → Prop}
/- PickedFormsModel.looksIn -/
theorem xd222_0 : decode (mj_b 222) 0 = .ok (.aload_n 0, 1) := by decide +kernel
theorem xd222_1 : decode (mj_b 222) 1 = .ok (.iload_n 1, 1) := by decide +kernel
theorem xd222_2 : decode (mj_b 222) 2 = .ok (.invokevirtual 49, 3) := by decide +kernel
theorem xd222_5 : decode (mj_b 222) 5 = .ok (.istore 4, 2) := by decide +kernel
theorem xd222_7 : decode (mj_b 222) 7 = .ok (.aload_n 0, 1) := by decide +kernel
theorem xd222_8 : decode (mj_b 222) 8 = .ok (.getfield 7, 3) := by decide +kernel
theorem xd222_11 : decode (mj_b 222) 11 = .ok (.bipush 7, 2) := by decide +kernel
theorem xd222_13 : decode (mj_b 222) 13 = .ok (.iload_n 1, 1) := by decide +kernel
theorem xd222_14 : decode (mj_b 222) 14 = .ok (.iadd, 1) := by decide +kernel
theorem xd222_15 : decode (mj_b 222) 15 = .ok (.iaload, 1) := by decide +kernel
theorem xd222_16 : decode (mj_b 222) 16 = .ok (.istore 5, 2) := by decide +kernel
theorem xd222_18 : decode (mj_b 222) 18 = .ok (.aload_n 0, 1) := by decide +kernel
theorem xd222_19 : decode (mj_b 222) 19 = .ok (.iload 4, 2) := by decide +kernel
theorem xd222_21 : decode (mj_b 222) 21 = .ok (.iload 5, 2) := by decide +kernel
theorem xd222_23 : decode (mj_b 222) 23 = .ok (.invokevirtual 64, 3) := by decide +kernel
theorem xd222_26 : decode (mj_b 222) 26 = .ok (.istore 6, 2) := by decide +kernel
theorem xd222_28 : decode (mj_b 222) 28 = .ok (.aload_n 0, 1) := by decide +kernel
theorem xd222_29 : decode (mj_b 222) 29 = .ok (.iload 4, 2) := by decide +kernel
theorem xd222_31 : decode (mj_b 222) 31 = .ok (.iload 5, 2) := by decide +kernel
theorem xd222_33 : decode (mj_b 222) 33 = .ok (.invokevirtual 60, 3) := by decide +kernel
theorem xd222_36 : decode (mj_b 222) 36 = .ok (.istore 7, 2) := by decide +kernel
theorem xd222_38 : decode (mj_b 222) 38 = .ok (.iload_n 3, 1) := by decide +kernel
theorem xd222_39 : decode (mj_b 222) 39 = .ok (.iload_n 2, 1) := by decide +kernel
theorem xd222_40 : decode (mj_b 222) 40 = .ok (.if_icmp .lt 27, 3) := by decide +kernel
theorem xd222_43 : decode (mj_b 222) 43 = .ok (.iload 7, 2) := by decide +kernel
theorem xd222_45 : decode (mj_b 222) 45 = .ok (.iload_n 2, 1) := by decide +kernel
theorem xd222_46 : decode (mj_b 222) 46 = .ok (.if_icmp .lt 21, 3) := by decide +kernel
theorem xd222_49 : decode (mj_b 222) 49 = .ok (.iload 6, 2) := by decide +kernel
theorem xd222_51 : decode (mj_b 222) 51 = .ok (.iload_n 3, 1) := by decide +kernel
theorem xd222_52 : decode (mj_b 222) 52 = .ok (.if_icmp .gt 15, 3) := by decide +kernel
theorem xd222_55 : decode (mj_b 222) 55 = .ok (.iload 6, 2) := by decide +kernel
theorem xd222_57 : decode (mj_b 222) 57 = .ok (.iload_n 2, 1) := by decide +kernel
theorem xd222_58 : decode (mj_b 222) 58 = .ok (.if_icmp .lt 11, 3) := by decide +kernel
theorem xd222_61 : decode (mj_b 222) 61 = .ok (.iload 7, 2) := by decide +kernel
theorem xd222_63 : decode (mj_b 222) 63 = .ok (.iload_n 3, 1) := by decide +kernel
theorem xd222_64 : decode (mj_b 222) 64 = .ok (.if_icmp .gt 5, 3) := by decide +kernel
theorem xd222_67 : decode (mj_b 222) 67 = .ok (.iconst 1, 1) := by decide +kernel
theorem xd222_68 : decode (mj_b 222) 68 = .ok (.ireturn, 1) := by decide +kernel
theorem xd222_69 : decode (mj_b 222) 69 = .ok (.aload_n 0, 1) := by decide +kernel
theorem xd222_70 : decode (mj_b 222) 70 = .ok (.getfield 7, 3) := by decide +kernel
theorem xd222_73 : decode (mj_b 222) 73 = .ok (.bipush 19, 2) := by decide +kernel
theorem xd222_75 : decode (mj_b 222) 75 = .ok (.iload_n 1, 1) := by decide +kernel
theorem xd222_76 : decode (mj_b 222) 76 = .ok (.iadd, 1) := by decide +kernel
theorem xd222_77 : decode (mj_b 222) 77 = .ok (.iaload, 1) := by decide +kernel
theorem xd222_78 : decode (mj_b 222) 78 = .ok (.istore 8, 2) := by decide +kernel
theorem xd222_80 : decode (mj_b 222) 80 = .ok (.iconst 1, 1) := by decide +kernel
theorem xd222_81 : decode (mj_b 222) 81 = .ok (.iload 8, 2) := by decide +kernel
theorem xd222_83 : decode (mj_b 222) 83 = .ok (.iconst 2, 1) := by decide +kernel
theorem xd222_84 : decode (mj_b 222) 84 = .ok (.if_icmp .ne 14, 3) := by decide +kernel
theorem xd222_87 : decode (mj_b 222) 87 = .ok (.aload_n 0, 1) := by decide +kernel
theorem xd222_88 : decode (mj_b 222) 88 = .ok (.iload 4, 2) := by decide +kernel
theorem xd222_90 : decode (mj_b 222) 90 = .ok (.iload 5, 2) := by decide +kernel
theorem xd222_92 : decode (mj_b 222) 92 = .ok (.invokevirtual 70, 3) := by decide +kernel
theorem xd222_95 : decode (mj_b 222) 95 = .ok (.goto 25, 3) := by decide +kernel
theorem xd222_98 : decode (mj_b 222) 98 = .ok (.iload 8, 2) := by decide +kernel
theorem xd222_100 : decode (mj_b 222) 100 = .ok (.iconst 4, 1) := by decide +kernel
theorem xd222_101 : decode (mj_b 222) 101 = .ok (.if_icmp .ne 17, 3) := by decide +kernel
theorem xd222_104 : decode (mj_b 222) 104 = .ok (.aload_n 0, 1) := by decide +kernel
theorem xd222_105 : decode (mj_b 222) 105 = .ok (.iload 4, 2) := by decide +kernel
theorem xd222_107 : decode (mj_b 222) 107 = .ok (.iload 5, 2) := by decide +kernel
theorem xd222_109 : decode (mj_b 222) 109 = .ok (.invokevirtual 76, 3) := by decide +kernel
theorem xd222_112 : decode (mj_b 222) 112 = .ok (.iload 5, 2) := by decide +kernel
theorem xd222_114 : decode (mj_b 222) 114 = .ok (.iadd, 1) := by decide +kernel
theorem xd222_115 : decode (mj_b 222) 115 = .ok (.goto 5, 3) := by decide +kernel
theorem xd222_118 : decode (mj_b 222) 118 = .ok (.iload 5, 2) := by decide +kernel
theorem xd222_120 : decode (mj_b 222) 120 = .ok (.iadd, 1) := by decide +kernel
theorem xd222_121 : decode (mj_b 222) 121 = .ok (.ireturn, 1) := by decide +kernel
theorem x222_0 {x1 : Int32} {x2 : Int32} {x3 : Int32} : wp Ln xs 222 0 [.ref 72, .int x1, .int x2, .int x3, mj_hole, mj_hole, mj_hole, mj_hole, mj_hole] [] (u, ml_h m lm) Φ = wp Ln xs 159 0 [.ref 72, .int x1, mj_hole, mj_hole] [] (u, ml_h m lm) (mk Ln xs 222 2 [.ref 72, .int x1, .int x2, .int x3, mj_hole, mj_hole, mj_hole, mj_hole, mj_hole] [] Φ) := (wp_same xd222_0 (Or.inr rfl) rfl).trans ((wp_same xd222_1 (Or.inr rfl) rfl).trans (wm_cv (As := [.int x1]) (rest := []) xd222_2 rfl rfl (show ml_L[72]? = _ from rfl) (Nat.le_of_ble_eq_true rfl) (Nat.le_of_ble_eq_true rfl) (Nat.le_of_ble_eq_true rfl) (Nat.le_of_ble_eq_true rfl)))
theorem x222_5 {x1 : Int32} {x2 : Int32} {x3 : Int32} {xs0 : Int32} : wp Ln xs 222 5 [.ref 72, .int x1, .int x2, .int x3, mj_hole, mj_hole, mj_hole, mj_hole, mj_hole] [.int xs0] (u, ml_h m lm) Φ = wp Ln xs 222 15 [.ref 72, .int x1, .int x2, .int x3, .int xs0, mj_hole, mj_hole, mj_hole, mj_hole] [.int ((nI 7) + x1), .ref 73] (u, ml_h m lm) Φ := (wp_same (L' := [.ref 72, .int x1, .int x2, .int x3, .int xs0, mj_hole, mj_hole, mj_hole, mj_hole]) xd222_5 (Or.inr rfl) rfl).trans ((wp_same xd222_7 (Or.inr rfl) rfl).trans ((wm_getr xd222_8 rfl (show ml_L[72]? = _ from rfl) rfl (Nat.le_of_ble_eq_true rfl)).trans ((wp_same (S' := [.int (nI 7), .ref 73]) xd222_11 (Or.inr rfl) rfl).trans ((wp_same xd222_13 (Or.inr rfl) rfl).trans (wp_same xd222_14 (Or.inr rfl) rfl)))))
theorem x222_15 {x1 : Int32} {x2 : Int32} {x3 : Int32} {x4 : Int32} {k : Nat} (hk : k < 251) : wp Ln xs 222 15 [.ref 72, .int x1, .int x2, .int x3, .int x4, mj_hole, mj_hole, mj_hole, mj_hole] [.int (nI k), .ref 73] (u, ml_h m lm) Φ = wp Ln xs 166 0 [.ref 72, .int x4, .int (m 73 k), mj_hole, mj_hole] [] (u, ml_h m lm) (mk Ln xs 222 23 [.ref 72, .int x1, .int x2, .int x3, .int x4, .int (m 73 k), mj_hole, mj_hole, mj_hole] [] Φ) := (wm_iald (k := k) xd222_15 ml_ia_73 (by decide) hk).trans ((wp_same (L' := [.ref 72, .int x1, .int x2, .int x3, .int x4, .int (m 73 k), mj_hole, mj_hole, mj_hole]) xd222_16 (Or.inr rfl) rfl).trans ((wp_same xd222_18 (Or.inr rfl) rfl).trans ((wp_same xd222_19 (Or.inr rfl) rfl).trans ((wp_same xd222_21 (Or.inr rfl) rfl).trans (wm_cv (As := [.int x4, .int (m 73 k)]) (rest := []) xd222_23 rfl rfl (show ml_L[72]? = _ from rfl) (Nat.le_of_ble_eq_true rfl) (Nat.le_of_ble_eq_true rfl) (Nat.le_of_ble_eq_true rfl) (Nat.le_of_ble_eq_true rfl))))))
theorem x222_26 {x1 : Int32} {x2 : Int32} {x3 : Int32} {x4 : Int32} {x5 : Int32} {xs0 : Int32} : wp Ln xs 222 26 [.ref 72, .int x1, .int x2, .int x3, .int x4, .int x5, mj_hole, mj_hole, mj_hole] [.int xs0] (u, ml_h m lm) Φ = wp Ln xs 165 0 [.ref 72, .int x4, .int x5, mj_hole, mj_hole] [] (u, ml_h m lm) (mk Ln xs 222 33 [.ref 72, .int x1, .int x2, .int x3, .int x4, .int x5, .int xs0, mj_hole, mj_hole] [] Φ) := (wp_same (L' := [.ref 72, .int x1, .int x2, .int x3, .int x4, .int x5, .int xs0, mj_hole, mj_hole]) xd222_26 (Or.inr rfl) rfl).trans ((wp_same xd222_28 (Or.inr rfl) rfl).trans ((wp_same xd222_29 (Or.inr rfl) rfl).trans ((wp_same xd222_31 (Or.inr rfl) rfl).trans (wm_cv (As := [.int x4, .int x5]) (rest := []) xd222_33 rfl rfl (show ml_L[72]? = _ from rfl) (Nat.le_of_ble_eq_true rfl) (Nat.le_of_ble_eq_true rfl) (Nat.le_of_ble_eq_true rfl) (Nat.le_of_ble_eq_true rfl)))))
theorem x222_36 {x1 : Int32} {x2 : Int32} {x3 : Int32} {x4 : Int32} {x5 : Int32} {x6 : Int32} {xs0 : Int32} : wp Ln xs 222 36 [.ref 72, .int x1, .int x2, .int x3, .int x4, .int x5, .int x6, mj_hole, mj_hole] [.int xs0] (u, ml_h m lm) Φ = if x3 < x2 then wp Ln xs 222 67 [.ref 72, .int x1, .int x2, .int x3, .int x4, .int x5, .int x6, .int xs0, mj_hole] [] (u, ml_h m lm) Φ else wp Ln xs 222 43 [.ref 72, .int x1, .int x2, .int x3, .int x4, .int x5, .int x6, .int xs0, mj_hole] [] (u, ml_h m lm) Φ := (wp_same (L' := [.ref 72, .int x1, .int x2, .int x3, .int x4, .int x5, .int x6, .int xs0, mj_hole]) xd222_36 (Or.inr rfl) rfl).trans ((wp_same xd222_38 (Or.inr rfl) rfl).trans ((wp_same xd222_39 (Or.inr rfl) rfl).trans (wx_icmp xd222_40 rfl rfl (x3 < x2) mb_lt)))
theorem x222_43 {x1 : Int32} {x2 : Int32} {x3 : Int32} {x4 : Int32} {x5 : Int32} {x6 : Int32} {x7 : Int32} : wp Ln xs 222 43 [.ref 72, .int x1, .int x2, .int x3, .int x4, .int x5, .int x6, .int x7, mj_hole] [] (u, ml_h m lm) Φ = if x7 < x2 then wp Ln xs 222 67 [.ref 72, .int x1, .int x2, .int x3, .int x4, .int x5, .int x6, .int x7, mj_hole] [] (u, ml_h m lm) Φ else wp Ln xs 222 49 [.ref 72, .int x1, .int x2, .int x3, .int x4, .int x5, .int x6, .int x7, mj_hole] [] (u, ml_h m lm) Φ := (wp_same xd222_43 (Or.inr rfl) rfl).trans ((wp_same xd222_45 (Or.inr rfl) rfl).trans (wx_icmp xd222_46 rfl rfl (x7 < x2) mb_lt))
theorem x222_49 {x1 : Int32} {x2 : Int32} {x3 : Int32} {x4 : Int32} {x5 : Int32} {x6 : Int32} {x7 : Int32} : wp Ln xs 222 49 [.ref 72, .int x1, .int x2, .int x3, .int x4, .int x5, .int x6, .int x7, mj_hole] [] (u, ml_h m lm) Φ = if x3 < x6 then wp Ln xs 222 67 [.ref 72, .int x1, .int x2, .int x3, .int x4, .int x5, .int x6, .int x7, mj_hole] [] (u, ml_h m lm) Φ else wp Ln xs 222 55 [.ref 72, .int x1, .int x2, .int x3, .int x4, .int x5, .int x6, .int x7, mj_hole] [] (u, ml_h m lm) Φ := (wp_same xd222_49 (Or.inr rfl) rfl).trans ((wp_same xd222_51 (Or.inr rfl) rfl).trans (wx_icmp xd222_52 rfl rfl (x3 < x6) mb_gt))
theorem x222_55 {x1 : Int32} {x2 : Int32} {x3 : Int32} {x4 : Int32} {x5 : Int32} {x6 : Int32} {x7 : Int32} : wp Ln xs 222 55 [.ref 72, .int x1, .int x2, .int x3, .int x4, .int x5, .int x6, .int x7, mj_hole] [] (u, ml_h m lm) Φ = if x6 < x2 then wp Ln xs 222 69 [.ref 72, .int x1, .int x2, .int x3, .int x4, .int x5, .int x6, .int x7, mj_hole] [] (u, ml_h m lm) Φ else wp Ln xs 222 61 [.ref 72, .int x1, .int x2, .int x3, .int x4, .int x5, .int x6, .int x7, mj_hole] [] (u, ml_h m lm) Φ := (wp_same xd222_55 (Or.inr rfl) rfl).trans ((wp_same xd222_57 (Or.inr rfl) rfl).trans (wx_icmp xd222_58 rfl rfl (x6 < x2) mb_lt))
theorem x222_61 {x1 : Int32} {x2 : Int32} {x3 : Int32} {x4 : Int32} {x5 : Int32} {x6 : Int32} {x7 : Int32} : wp Ln xs 222 61 [.ref 72, .int x1, .int x2, .int x3, .int x4, .int x5, .int x6, .int x7, mj_hole] [] (u, ml_h m lm) Φ = if x3 < x7 then wp Ln xs 222 69 [.ref 72, .int x1, .int x2, .int x3, .int x4, .int x5, .int x6, .int x7, mj_hole] [] (u, ml_h m lm) Φ else wp Ln xs 222 67 [.ref 72, .int x1, .int x2, .int x3, .int x4, .int x5, .int x6, .int x7, mj_hole] [] (u, ml_h m lm) Φ := (wp_same xd222_61 (Or.inr rfl) rfl).trans ((wp_same xd222_63 (Or.inr rfl) rfl).trans (wx_icmp xd222_64 rfl rfl (x3 < x7) mb_gt))
theorem x222_67 {x1 : Int32} {x2 : Int32} {x3 : Int32} {x4 : Int32} {x5 : Int32} {x6 : Int32} {x7 : Int32} : wp Ln xs 222 67 [.ref 72, .int x1, .int x2, .int x3, .int x4, .int x5, .int x6, .int x7, mj_hole] [] (u, ml_h m lm) Φ = Φ (.inl (some (.int (nI 1)))) (u, ml_h m lm) := (wp_same (S' := [.int (nI 1)]) xd222_67 (Or.inr rfl) rfl).trans (wp_fin (v := some (.int (nI 1))) xd222_68 (Or.inr rfl) rfl (mj_fin_i rfl))
theorem x222_69 {x1 : Int32} {x2 : Int32} {x3 : Int32} {x4 : Int32} {x5 : Int32} {x6 : Int32} {x7 : Int32} : wp Ln xs 222 69 [.ref 72, .int x1, .int x2, .int x3, .int x4, .int x5, .int x6, .int x7, mj_hole] [] (u, ml_h m lm) Φ = wp Ln xs 222 77 [.ref 72, .int x1, .int x2, .int x3, .int x4, .int x5, .int x6, .int x7, mj_hole] [.int ((nI 19) + x1), .ref 73] (u, ml_h m lm) Φ := (wp_same xd222_69 (Or.inr rfl) rfl).trans ((wm_getr xd222_70 rfl (show ml_L[72]? = _ from rfl) rfl (Nat.le_of_ble_eq_true rfl)).trans ((wp_same (S' := [.int (nI 19), .ref 73]) xd222_73 (Or.inr rfl) rfl).trans ((wp_same xd222_75 (Or.inr rfl) rfl).trans (wp_same xd222_76 (Or.inr rfl) rfl))))
theorem x222_77 {x1 : Int32} {x2 : Int32} {x3 : Int32} {x4 : Int32} {x5 : Int32} {x6 : Int32} {x7 : Int32} {k : Nat} (hk : k < 251) : wp Ln xs 222 77 [.ref 72, .int x1, .int x2, .int x3, .int x4, .int x5, .int x6, .int x7, mj_hole] [.int (nI k), .ref 73] (u, ml_h m lm) Φ = if ¬ (m 73 k) = (nI 2) then wp Ln xs 222 98 [.ref 72, .int x1, .int x2, .int x3, .int x4, .int x5, .int x6, .int x7, .int (m 73 k)] [.int (nI 1)] (u, ml_h m lm) Φ else wp Ln xs 222 87 [.ref 72, .int x1, .int x2, .int x3, .int x4, .int x5, .int x6, .int x7, .int (m 73 k)] [.int (nI 1)] (u, ml_h m lm) Φ := (wm_iald (k := k) xd222_77 ml_ia_73 (by decide) hk).trans ((wp_same (L' := [.ref 72, .int x1, .int x2, .int x3, .int x4, .int x5, .int x6, .int x7, .int (m 73 k)]) xd222_78 (Or.inr rfl) rfl).trans ((wp_same (S' := [.int (nI 1)]) xd222_80 (Or.inr rfl) rfl).trans ((wp_same xd222_81 (Or.inr rfl) rfl).trans ((wp_same (S' := [.int (nI 2), .int (m 73 k), .int (nI 1)]) xd222_83 (Or.inr rfl) rfl).trans (wx_icmp xd222_84 rfl rfl (¬ (m 73 k) = (nI 2)) mb_ne)))))
theorem x222_87 {x1 : Int32} {x2 : Int32} {x3 : Int32} {x4 : Int32} {x5 : Int32} {x6 : Int32} {x7 : Int32} {x8 : Int32} {xs0 : Int32} : wp Ln xs 222 87 [.ref 72, .int x1, .int x2, .int x3, .int x4, .int x5, .int x6, .int x7, .int x8] [.int xs0] (u, ml_h m lm) Φ = wp Ln xs 168 0 [.ref 72, .int x4, .int x5, mj_hole, mj_hole] [] (u, ml_h m lm) (mk Ln xs 222 92 [.ref 72, .int x1, .int x2, .int x3, .int x4, .int x5, .int x6, .int x7, .int x8] [.int xs0] Φ) := (wp_same xd222_87 (Or.inr rfl) rfl).trans ((wp_same xd222_88 (Or.inr rfl) rfl).trans ((wp_same xd222_90 (Or.inr rfl) rfl).trans (wm_cv (As := [.int x4, .int x5]) (rest := [.int xs0]) xd222_92 rfl rfl (show ml_L[72]? = _ from rfl) (Nat.le_of_ble_eq_true rfl) (Nat.le_of_ble_eq_true rfl) (Nat.le_of_ble_eq_true rfl) (Nat.le_of_ble_eq_true rfl))))
theorem x222_95 {x1 : Int32} {x2 : Int32} {x3 : Int32} {x4 : Int32} {x5 : Int32} {x6 : Int32} {x7 : Int32} {x8 : Int32} {xs0 : Int32} {xs1 : Int32} : wp Ln xs 222 95 [.ref 72, .int x1, .int x2, .int x3, .int x4, .int x5, .int x6, .int x7, .int x8] [.int xs0, .int xs1] (u, ml_h m lm) Φ = wp Ln xs 222 120 [.ref 72, .int x1, .int x2, .int x3, .int x4, .int x5, .int x6, .int x7, .int x8] [.int xs0, .int xs1] (u, ml_h m lm) Φ := wx_goto xd222_95 rfl
theorem x222_98 {x1 : Int32} {x2 : Int32} {x3 : Int32} {x4 : Int32} {x5 : Int32} {x6 : Int32} {x7 : Int32} {x8 : Int32} {xs0 : Int32} : wp Ln xs 222 98 [.ref 72, .int x1, .int x2, .int x3, .int x4, .int x5, .int x6, .int x7, .int x8] [.int xs0] (u, ml_h m lm) Φ = if ¬ x8 = (nI 4) then wp Ln xs 222 118 [.ref 72, .int x1, .int x2, .int x3, .int x4, .int x5, .int x6, .int x7, .int x8] [.int xs0] (u, ml_h m lm) Φ else wp Ln xs 222 104 [.ref 72, .int x1, .int x2, .int x3, .int x4, .int x5, .int x6, .int x7, .int x8] [.int xs0] (u, ml_h m lm) Φ := (wp_same xd222_98 (Or.inr rfl) rfl).trans ((wp_same (S' := [.int (nI 4), .int x8, .int xs0]) xd222_100 (Or.inr rfl) rfl).trans (wx_icmp xd222_101 rfl rfl (¬ x8 = (nI 4)) mb_ne))
theorem x222_104 {x1 : Int32} {x2 : Int32} {x3 : Int32} {x4 : Int32} {x5 : Int32} {x6 : Int32} {x7 : Int32} {x8 : Int32} {xs0 : Int32} : wp Ln xs 222 104 [.ref 72, .int x1, .int x2, .int x3, .int x4, .int x5, .int x6, .int x7, .int x8] [.int xs0] (u, ml_h m lm) Φ = wp Ln xs 171 0 [.ref 72, .int x4, .int x5, mj_hole, mj_hole] [] (u, ml_h m lm) (mk Ln xs 222 109 [.ref 72, .int x1, .int x2, .int x3, .int x4, .int x5, .int x6, .int x7, .int x8] [.int xs0] Φ) := (wp_same xd222_104 (Or.inr rfl) rfl).trans ((wp_same xd222_105 (Or.inr rfl) rfl).trans ((wp_same xd222_107 (Or.inr rfl) rfl).trans (wm_cv (As := [.int x4, .int x5]) (rest := [.int xs0]) xd222_109 rfl rfl (show ml_L[72]? = _ from rfl) (Nat.le_of_ble_eq_true rfl) (Nat.le_of_ble_eq_true rfl) (Nat.le_of_ble_eq_true rfl) (Nat.le_of_ble_eq_true rfl))))
theorem x222_112 {x1 : Int32} {x2 : Int32} {x3 : Int32} {x4 : Int32} {x5 : Int32} {x6 : Int32} {x7 : Int32} {x8 : Int32} {xs0 : Int32} {xs1 : Int32} : wp Ln xs 222 112 [.ref 72, .int x1, .int x2, .int x3, .int x4, .int x5, .int x6, .int x7, .int x8] [.int xs0, .int xs1] (u, ml_h m lm) Φ = wp Ln xs 222 120 [.ref 72, .int x1, .int x2, .int x3, .int x4, .int x5, .int x6, .int x7, .int x8] [.int (xs0 + x5), .int xs1] (u, ml_h m lm) Φ := (wp_same xd222_112 (Or.inr rfl) rfl).trans ((wp_same xd222_114 (Or.inr rfl) rfl).trans (wx_goto xd222_115 rfl))
theorem x222_118 {x1 : Int32} {x2 : Int32} {x3 : Int32} {x4 : Int32} {x5 : Int32} {x6 : Int32} {x7 : Int32} {x8 : Int32} {xs0 : Int32} : wp Ln xs 222 118 [.ref 72, .int x1, .int x2, .int x3, .int x4, .int x5, .int x6, .int x7, .int x8] [.int xs0] (u, ml_h m lm) Φ = wp Ln xs 222 120 [.ref 72, .int x1, .int x2, .int x3, .int x4, .int x5, .int x6, .int x7, .int x8] [.int x5, .int xs0] (u, ml_h m lm) Φ := wp_same xd222_118 (Or.inr rfl) rfl
theorem x222_120 {x1 : Int32} {x2 : Int32} {x3 : Int32} {x4 : Int32} {x5 : Int32} {x6 : Int32} {x7 : Int32} {x8 : Int32} {xs0 : Int32} {xs1 : Int32} : wp Ln xs 222 120 [.ref 72, .int x1, .int x2, .int x3, .int x4, .int x5, .int x6, .int x7, .int x8] [.int xs0, .int xs1] (u, ml_h m lm) Φ = Φ (.inl (some (.int (xs1 + xs0)))) (u, ml_h m lm) := (wp_same xd222_120 (Or.inr rfl) rfl).trans (wp_fin (v := some (.int (xs1 + xs0))) xd222_121 (Or.inr rfl) rfl (mj_fin_i rfl))
/- PickedFormsModel.ifChanged -/
theorem xd223_0 : decode (mj_b 223) 0 = .ok (.aload_n 0, 1) := by decide +kernel
theorem xd223_1 : decode (mj_b 223) 1 = .ok (.iload_n 1, 1) := by decide +kernel
theorem xd223_2 : decode (mj_b 223) 2 = .ok (.iconst 0, 1) := by decide +kernel
theorem xd223_3 : decode (mj_b 223) 3 = .ok (.aload_n 0, 1) := by decide +kernel
theorem xd223_4 : decode (mj_b 223) 4 = .ok (.invokevirtual 96, 3) := by decide +kernel
theorem xd223_7 : decode (mj_b 223) 7 = .ok (.iconst 1, 1) := by decide +kernel
theorem xd223_8 : decode (mj_b 223) 8 = .ok (.isub, 1) := by decide +kernel
theorem xd223_9 : decode (mj_b 223) 9 = .ok (.invokestatic 38, 3) := by decide +kernel
theorem xd223_12 : decode (mj_b 223) 12 = .ok (.ifCond .ne 7, 3) := by decide +kernel
theorem xd223_15 : decode (mj_b 223) 15 = .ok (.iconst 1, 1) := by decide +kernel
theorem xd223_16 : decode (mj_b 223) 16 = .ok (.goto 24, 3) := by decide +kernel
theorem xd223_19 : decode (mj_b 223) 19 = .ok (.iload_n 2, 1) := by decide +kernel
theorem xd223_20 : decode (mj_b 223) 20 = .ok (.invokestatic 106, 3) := by decide +kernel
theorem xd223_23 : decode (mj_b 223) 23 = .ok (.ifCond .eq 12, 3) := by decide +kernel
theorem xd223_26 : decode (mj_b 223) 26 = .ok (.iload_n 3, 1) := by decide +kernel
theorem xd223_27 : decode (mj_b 223) 27 = .ok (.iconst 0, 1) := by decide +kernel
theorem xd223_28 : decode (mj_b 223) 28 = .ok (.iconst 1, 1) := by decide +kernel
theorem xd223_29 : decode (mj_b 223) 29 = .ok (.invokestatic 38, 3) := by decide +kernel
theorem xd223_32 : decode (mj_b 223) 32 = .ok (.ifCond .ne 7, 3) := by decide +kernel
theorem xd223_35 : decode (mj_b 223) 35 = .ok (.iconst 2, 1) := by decide +kernel
theorem xd223_36 : decode (mj_b 223) 36 = .ok (.goto 4, 3) := by decide +kernel
theorem xd223_39 : decode (mj_b 223) 39 = .ok (.iconst 0, 1) := by decide +kernel
theorem xd223_40 : decode (mj_b 223) 40 = .ok (.invokevirtual 114, 3) := by decide +kernel
theorem xd223_43 : decode (mj_b 223) 43 = .ok (.ifCond .ne 5, 3) := by decide +kernel
theorem xd223_46 : decode (mj_b 223) 46 = .ok (.iconst 0, 1) := by decide +kernel
theorem xd223_47 : decode (mj_b 223) 47 = .ok (.ireturn, 1) := by decide +kernel
theorem xd223_48 : decode (mj_b 223) 48 = .ok (.aload_n 0, 1) := by decide +kernel
theorem xd223_49 : decode (mj_b 223) 49 = .ok (.getfield 7, 3) := by decide +kernel
theorem xd223_52 : decode (mj_b 223) 52 = .ok (.iconst 0, 1) := by decide +kernel
theorem xd223_53 : decode (mj_b 223) 53 = .ok (.aload_n 0, 1) := by decide +kernel
theorem xd223_54 : decode (mj_b 223) 54 = .ok (.getfield 19, 3) := by decide +kernel
theorem xd223_57 : decode (mj_b 223) 57 = .ok (.iconst 0, 1) := by decide +kernel
theorem xd223_58 : decode (mj_b 223) 58 = .ok (.invokestatic 45, 3) := by decide +kernel
theorem xd223_61 : decode (mj_b 223) 61 = .ok (.aload_n 0, 1) := by decide +kernel
theorem xd223_62 : decode (mj_b 223) 62 = .ok (.invokevirtual 210, 3) := by decide +kernel
theorem xd223_65 : decode (mj_b 223) 65 = .ok (.istore 4, 2) := by decide +kernel
theorem xd223_67 : decode (mj_b 223) 67 = .ok (.aload_n 0, 1) := by decide +kernel
theorem xd223_68 : decode (mj_b 223) 68 = .ok (.iload_n 1, 1) := by decide +kernel
theorem xd223_69 : decode (mj_b 223) 69 = .ok (.iload_n 2, 1) := by decide +kernel
theorem xd223_70 : decode (mj_b 223) 70 = .ok (.invokevirtual 123, 3) := by decide +kernel
theorem xd223_73 : decode (mj_b 223) 73 = .ok (.istore 5, 2) := by decide +kernel
theorem xd223_75 : decode (mj_b 223) 75 = .ok (.aload_n 0, 1) := by decide +kernel
theorem xd223_76 : decode (mj_b 223) 76 = .ok (.invokevirtual 210, 3) := by decide +kernel
theorem xd223_79 : decode (mj_b 223) 79 = .ok (.iload 4, 2) := by decide +kernel
theorem xd223_81 : decode (mj_b 223) 81 = .ok (.isub, 1) := by decide +kernel
theorem xd223_82 : decode (mj_b 223) 82 = .ok (.istore 6, 2) := by decide +kernel
theorem xd223_84 : decode (mj_b 223) 84 = .ok (.aload_n 0, 1) := by decide +kernel
theorem xd223_85 : decode (mj_b 223) 85 = .ok (.getfield 19, 3) := by decide +kernel
theorem xd223_88 : decode (mj_b 223) 88 = .ok (.iconst 0, 1) := by decide +kernel
theorem xd223_89 : decode (mj_b 223) 89 = .ok (.aload_n 0, 1) := by decide +kernel
theorem xd223_90 : decode (mj_b 223) 90 = .ok (.getfield 7, 3) := by decide +kernel
theorem xd223_93 : decode (mj_b 223) 93 = .ok (.iconst 0, 1) := by decide +kernel
theorem xd223_94 : decode (mj_b 223) 94 = .ok (.invokestatic 45, 3) := by decide +kernel
theorem xd223_97 : decode (mj_b 223) 97 = .ok (.iload_n 3, 1) := by decide +kernel
theorem xd223_98 : decode (mj_b 223) 98 = .ok (.ifCond .ne 8, 3) := by decide +kernel
theorem xd223_101 : decode (mj_b 223) 101 = .ok (.iload 5, 2) := by decide +kernel
theorem xd223_103 : decode (mj_b 223) 103 = .ok (.goto 5, 3) := by decide +kernel
theorem xd223_106 : decode (mj_b 223) 106 = .ok (.iload 6, 2) := by decide +kernel
theorem xd223_108 : decode (mj_b 223) 108 = .ok (.ireturn, 1) := by decide +kernel
theorem x223_0 {x1 : Int32} {x2 : Int32} {x3 : Int32} : wp Ln xs 223 0 [.ref 72, .int x1, .int x2, .int x3, mj_hole, mj_hole, mj_hole] [] (u, ml_h m lm) Φ = wp Ln xs 158 0 [.ref 72] [] (u, ml_h m lm) (mk Ln xs 223 4 [.ref 72, .int x1, .int x2, .int x3, mj_hole, mj_hole, mj_hole] [.int (nI 0), .int x1, .ref 72] Φ) := (wp_same xd223_0 (Or.inr rfl) rfl).trans ((wp_same xd223_1 (Or.inr rfl) rfl).trans ((wp_same (S' := [.int (nI 0), .int x1, .ref 72]) xd223_2 (Or.inr rfl) rfl).trans ((wp_same xd223_3 (Or.inr rfl) rfl).trans (wm_cv (As := []) (rest := [.int (nI 0), .int x1, .ref 72]) xd223_4 rfl rfl (show ml_L[72]? = _ from rfl) (Nat.le_of_ble_eq_true rfl) (Nat.le_of_ble_eq_true rfl) (Nat.le_of_ble_eq_true rfl) (Nat.le_of_ble_eq_true rfl)))))
theorem x223_7 {x1 : Int32} {x2 : Int32} {x3 : Int32} {xs0 : Int32} {xs1 : Int32} {xs2 : Int32} : wp Ln xs 223 7 [.ref 72, .int x1, .int x2, .int x3, mj_hole, mj_hole, mj_hole] [.int xs0, .int xs1, .int xs2, .ref 72] (u, ml_h m lm) Φ = wp Ln xs 152 0 [.int xs2, .int xs1, .int (xs0 - (nI 1))] [] (u, ml_h m lm) (mk Ln xs 223 9 [.ref 72, .int x1, .int x2, .int x3, mj_hole, mj_hole, mj_hole] [.ref 72] Φ) := (wp_same (S' := [.int (nI 1), .int xs0, .int xs1, .int xs2, .ref 72]) xd223_7 (Or.inr rfl) rfl).trans ((wp_same xd223_8 (Or.inr rfl) rfl).trans (wm_cs (As := [.int xs2, .int xs1, .int (xs0 - (nI 1))]) (rest := [.ref 72]) xd223_9 rfl rfl (Nat.le_of_ble_eq_true rfl) (Nat.le_of_ble_eq_true rfl) (Nat.le_of_ble_eq_true rfl) (Nat.le_of_ble_eq_true rfl)))
theorem x223_12 {x1 : Int32} {x2 : Int32} {x3 : Int32} {xs0 : Int32} : wp Ln xs 223 12 [.ref 72, .int x1, .int x2, .int x3, mj_hole, mj_hole, mj_hole] [.int xs0, .ref 72] (u, ml_h m lm) Φ = if ¬ xs0 = (nI 0) then wp Ln xs 223 19 [.ref 72, .int x1, .int x2, .int x3, mj_hole, mj_hole, mj_hole] [.ref 72] (u, ml_h m lm) Φ else wp Ln xs 223 15 [.ref 72, .int x1, .int x2, .int x3, mj_hole, mj_hole, mj_hole] [.ref 72] (u, ml_h m lm) Φ := wx_if xd223_12 rfl rfl (¬ xs0 = (nI 0)) mb_ne
theorem x223_15 {x1 : Int32} {x2 : Int32} {x3 : Int32} : wp Ln xs 223 15 [.ref 72, .int x1, .int x2, .int x3, mj_hole, mj_hole, mj_hole] [.ref 72] (u, ml_h m lm) Φ = wp Ln xs 223 40 [.ref 72, .int x1, .int x2, .int x3, mj_hole, mj_hole, mj_hole] [.int (nI 1), .ref 72] (u, ml_h m lm) Φ := (wp_same (S' := [.int (nI 1), .ref 72]) xd223_15 (Or.inr rfl) rfl).trans (wx_goto xd223_16 rfl)
theorem x223_19 {x1 : Int32} {x2 : Int32} {x3 : Int32} : wp Ln xs 223 19 [.ref 72, .int x1, .int x2, .int x3, mj_hole, mj_hole, mj_hole] [.ref 72] (u, ml_h m lm) Φ = wp Ln xs 151 0 [.int x2] [] (u, ml_h m lm) (mk Ln xs 223 20 [.ref 72, .int x1, .int x2, .int x3, mj_hole, mj_hole, mj_hole] [.ref 72] Φ) := (wp_same xd223_19 (Or.inr rfl) rfl).trans (wm_cs (As := [.int x2]) (rest := [.ref 72]) xd223_20 rfl rfl (Nat.le_of_ble_eq_true rfl) (Nat.le_of_ble_eq_true rfl) (Nat.le_of_ble_eq_true rfl) (Nat.le_of_ble_eq_true rfl))
theorem x223_23 {x1 : Int32} {x2 : Int32} {x3 : Int32} {xs0 : Int32} : wp Ln xs 223 23 [.ref 72, .int x1, .int x2, .int x3, mj_hole, mj_hole, mj_hole] [.int xs0, .ref 72] (u, ml_h m lm) Φ = if xs0 = (nI 0) then wp Ln xs 223 35 [.ref 72, .int x1, .int x2, .int x3, mj_hole, mj_hole, mj_hole] [.ref 72] (u, ml_h m lm) Φ else wp Ln xs 223 26 [.ref 72, .int x1, .int x2, .int x3, mj_hole, mj_hole, mj_hole] [.ref 72] (u, ml_h m lm) Φ := wx_if xd223_23 rfl rfl (xs0 = (nI 0)) mb_eq
theorem x223_26 {x1 : Int32} {x2 : Int32} {x3 : Int32} : wp Ln xs 223 26 [.ref 72, .int x1, .int x2, .int x3, mj_hole, mj_hole, mj_hole] [.ref 72] (u, ml_h m lm) Φ = wp Ln xs 152 0 [.int x3, .int (nI 0), .int (nI 1)] [] (u, ml_h m lm) (mk Ln xs 223 29 [.ref 72, .int x1, .int x2, .int x3, mj_hole, mj_hole, mj_hole] [.ref 72] Φ) := (wp_same xd223_26 (Or.inr rfl) rfl).trans ((wp_same (S' := [.int (nI 0), .int x3, .ref 72]) xd223_27 (Or.inr rfl) rfl).trans ((wp_same (S' := [.int (nI 1), .int (nI 0), .int x3, .ref 72]) xd223_28 (Or.inr rfl) rfl).trans (wm_cs (As := [.int x3, .int (nI 0), .int (nI 1)]) (rest := [.ref 72]) xd223_29 rfl rfl (Nat.le_of_ble_eq_true rfl) (Nat.le_of_ble_eq_true rfl) (Nat.le_of_ble_eq_true rfl) (Nat.le_of_ble_eq_true rfl))))
theorem x223_32 {x1 : Int32} {x2 : Int32} {x3 : Int32} {xs0 : Int32} : wp Ln xs 223 32 [.ref 72, .int x1, .int x2, .int x3, mj_hole, mj_hole, mj_hole] [.int xs0, .ref 72] (u, ml_h m lm) Φ = if ¬ xs0 = (nI 0) then wp Ln xs 223 39 [.ref 72, .int x1, .int x2, .int x3, mj_hole, mj_hole, mj_hole] [.ref 72] (u, ml_h m lm) Φ else wp Ln xs 223 35 [.ref 72, .int x1, .int x2, .int x3, mj_hole, mj_hole, mj_hole] [.ref 72] (u, ml_h m lm) Φ := wx_if xd223_32 rfl rfl (¬ xs0 = (nI 0)) mb_ne
theorem x223_35 {x1 : Int32} {x2 : Int32} {x3 : Int32} : wp Ln xs 223 35 [.ref 72, .int x1, .int x2, .int x3, mj_hole, mj_hole, mj_hole] [.ref 72] (u, ml_h m lm) Φ = wp Ln xs 223 40 [.ref 72, .int x1, .int x2, .int x3, mj_hole, mj_hole, mj_hole] [.int (nI 2), .ref 72] (u, ml_h m lm) Φ := (wp_same (S' := [.int (nI 2), .ref 72]) xd223_35 (Or.inr rfl) rfl).trans (wx_goto xd223_36 rfl)
theorem x223_39 {x1 : Int32} {x2 : Int32} {x3 : Int32} : wp Ln xs 223 39 [.ref 72, .int x1, .int x2, .int x3, mj_hole, mj_hole, mj_hole] [.ref 72] (u, ml_h m lm) Φ = wp Ln xs 223 40 [.ref 72, .int x1, .int x2, .int x3, mj_hole, mj_hole, mj_hole] [.int (nI 0), .ref 72] (u, ml_h m lm) Φ := wp_same (S' := [.int (nI 0), .ref 72]) xd223_39 (Or.inr rfl) rfl
theorem x223_40 {x1 : Int32} {x2 : Int32} {x3 : Int32} {xs0 : Int32} : wp Ln xs 223 40 [.ref 72, .int x1, .int x2, .int x3, mj_hole, mj_hole, mj_hole] [.int xs0, .ref 72] (u, ml_h m lm) Φ = wp Ln xs 154 0 [.ref 72, .int xs0] [] (u, ml_h m lm) (mk Ln xs 223 40 [.ref 72, .int x1, .int x2, .int x3, mj_hole, mj_hole, mj_hole] [] Φ) := wm_cv (As := [.int xs0]) (rest := []) xd223_40 rfl rfl (show ml_L[72]? = _ from rfl) (Nat.le_of_ble_eq_true rfl) (Nat.le_of_ble_eq_true rfl) (Nat.le_of_ble_eq_true rfl) (Nat.le_of_ble_eq_true rfl)
theorem x223_43 {x1 : Int32} {x2 : Int32} {x3 : Int32} {xs0 : Int32} : wp Ln xs 223 43 [.ref 72, .int x1, .int x2, .int x3, mj_hole, mj_hole, mj_hole] [.int xs0] (u, ml_h m lm) Φ = if ¬ xs0 = (nI 0) then wp Ln xs 223 48 [.ref 72, .int x1, .int x2, .int x3, mj_hole, mj_hole, mj_hole] [] (u, ml_h m lm) Φ else wp Ln xs 223 46 [.ref 72, .int x1, .int x2, .int x3, mj_hole, mj_hole, mj_hole] [] (u, ml_h m lm) Φ := wx_if xd223_43 rfl rfl (¬ xs0 = (nI 0)) mb_ne
theorem x223_46 {x1 : Int32} {x2 : Int32} {x3 : Int32} : wp Ln xs 223 46 [.ref 72, .int x1, .int x2, .int x3, mj_hole, mj_hole, mj_hole] [] (u, ml_h m lm) Φ = Φ (.inl (some (.int (nI 0)))) (u, ml_h m lm) := (wp_same (S' := [.int (nI 0)]) xd223_46 (Or.inr rfl) rfl).trans (wp_fin (v := some (.int (nI 0))) xd223_47 (Or.inr rfl) rfl (mj_fin_i rfl))
theorem x223_48 {x1 : Int32} {x2 : Int32} {x3 : Int32} : wp Ln xs 223 48 [.ref 72, .int x1, .int x2, .int x3, mj_hole, mj_hole, mj_hole] [] (u, ml_h m lm) Φ = wp Ln xs 156 0 [.ref 73, .int (nI 0), .ref 76, .int (nI 0), mj_hole] [] (u, ml_h m lm) (mk Ln xs 223 58 [.ref 72, .int x1, .int x2, .int x3, mj_hole, mj_hole, mj_hole] [] Φ) := (wp_same xd223_48 (Or.inr rfl) rfl).trans ((wm_getr xd223_49 rfl (show ml_L[72]? = _ from rfl) rfl (Nat.le_of_ble_eq_true rfl)).trans ((wp_same (S' := [.int (nI 0), .ref 73]) xd223_52 (Or.inr rfl) rfl).trans ((wp_same xd223_53 (Or.inr rfl) rfl).trans ((wm_getr xd223_54 rfl (show ml_L[72]? = _ from rfl) rfl (Nat.le_of_ble_eq_true rfl)).trans ((wp_same (S' := [.int (nI 0), .ref 76, .int (nI 0), .ref 73]) xd223_57 (Or.inr rfl) rfl).trans (wm_cs (As := [.ref 73, .int (nI 0), .ref 76, .int (nI 0)]) (rest := []) xd223_58 rfl rfl (Nat.le_of_ble_eq_true rfl) (Nat.le_of_ble_eq_true rfl) (Nat.le_of_ble_eq_true rfl) (Nat.le_of_ble_eq_true rfl)))))))
theorem x223_61 {x1 : Int32} {x2 : Int32} {x3 : Int32} : wp Ln xs 223 61 [.ref 72, .int x1, .int x2, .int x3, mj_hole, mj_hole, mj_hole] [] (u, ml_h m lm) Φ = wp Ln xs 216 0 [.ref 72, mj_hole, mj_hole] [] (u, ml_h m lm) (mk Ln xs 223 62 [.ref 72, .int x1, .int x2, .int x3, mj_hole, mj_hole, mj_hole] [] Φ) := (wp_same xd223_61 (Or.inr rfl) rfl).trans (wm_cv (As := []) (rest := []) xd223_62 rfl rfl (show ml_L[72]? = _ from rfl) (Nat.le_of_ble_eq_true rfl) (Nat.le_of_ble_eq_true rfl) (Nat.le_of_ble_eq_true rfl) (Nat.le_of_ble_eq_true rfl))
theorem x223_65 {x1 : Int32} {x2 : Int32} {x3 : Int32} {xs0 : Int32} : wp Ln xs 223 65 [.ref 72, .int x1, .int x2, .int x3, mj_hole, mj_hole, mj_hole] [.int xs0] (u, ml_h m lm) Φ = wp Ln xs 176 0 [.ref 72, .int x1, .int x2, mj_hole] [] (u, ml_h m lm) (mk Ln xs 223 70 [.ref 72, .int x1, .int x2, .int x3, .int xs0, mj_hole, mj_hole] [] Φ) := (wp_same (L' := [.ref 72, .int x1, .int x2, .int x3, .int xs0, mj_hole, mj_hole]) xd223_65 (Or.inr rfl) rfl).trans ((wp_same xd223_67 (Or.inr rfl) rfl).trans ((wp_same xd223_68 (Or.inr rfl) rfl).trans ((wp_same xd223_69 (Or.inr rfl) rfl).trans (wm_cv (As := [.int x1, .int x2]) (rest := []) xd223_70 rfl rfl (show ml_L[72]? = _ from rfl) (Nat.le_of_ble_eq_true rfl) (Nat.le_of_ble_eq_true rfl) (Nat.le_of_ble_eq_true rfl) (Nat.le_of_ble_eq_true rfl)))))
theorem x223_73 {x1 : Int32} {x2 : Int32} {x3 : Int32} {x4 : Int32} {xs0 : Int32} : wp Ln xs 223 73 [.ref 72, .int x1, .int x2, .int x3, .int x4, mj_hole, mj_hole] [.int xs0] (u, ml_h m lm) Φ = wp Ln xs 216 0 [.ref 72, mj_hole, mj_hole] [] (u, ml_h m lm) (mk Ln xs 223 76 [.ref 72, .int x1, .int x2, .int x3, .int x4, .int xs0, mj_hole] [] Φ) := (wp_same (L' := [.ref 72, .int x1, .int x2, .int x3, .int x4, .int xs0, mj_hole]) xd223_73 (Or.inr rfl) rfl).trans ((wp_same xd223_75 (Or.inr rfl) rfl).trans (wm_cv (As := []) (rest := []) xd223_76 rfl rfl (show ml_L[72]? = _ from rfl) (Nat.le_of_ble_eq_true rfl) (Nat.le_of_ble_eq_true rfl) (Nat.le_of_ble_eq_true rfl) (Nat.le_of_ble_eq_true rfl)))
theorem x223_79 {x1 : Int32} {x2 : Int32} {x3 : Int32} {x4 : Int32} {x5 : Int32} {xs0 : Int32} : wp Ln xs 223 79 [.ref 72, .int x1, .int x2, .int x3, .int x4, .int x5, mj_hole] [.int xs0] (u, ml_h m lm) Φ = wp Ln xs 156 0 [.ref 76, .int (nI 0), .ref 73, .int (nI 0), mj_hole] [] (u, ml_h m lm) (mk Ln xs 223 94 [.ref 72, .int x1, .int x2, .int x3, .int x4, .int x5, .int (xs0 - x4)] [] Φ) := (wp_same xd223_79 (Or.inr rfl) rfl).trans ((wp_same xd223_81 (Or.inr rfl) rfl).trans ((wp_same (L' := [.ref 72, .int x1, .int x2, .int x3, .int x4, .int x5, .int (xs0 - x4)]) xd223_82 (Or.inr rfl) rfl).trans ((wp_same xd223_84 (Or.inr rfl) rfl).trans ((wm_getr xd223_85 rfl (show ml_L[72]? = _ from rfl) rfl (Nat.le_of_ble_eq_true rfl)).trans ((wp_same (S' := [.int (nI 0), .ref 76]) xd223_88 (Or.inr rfl) rfl).trans ((wp_same xd223_89 (Or.inr rfl) rfl).trans ((wm_getr xd223_90 rfl (show ml_L[72]? = _ from rfl) rfl (Nat.le_of_ble_eq_true rfl)).trans ((wp_same (S' := [.int (nI 0), .ref 73, .int (nI 0), .ref 76]) xd223_93 (Or.inr rfl) rfl).trans (wm_cs (As := [.ref 76, .int (nI 0), .ref 73, .int (nI 0)]) (rest := []) xd223_94 rfl rfl (Nat.le_of_ble_eq_true rfl) (Nat.le_of_ble_eq_true rfl) (Nat.le_of_ble_eq_true rfl) (Nat.le_of_ble_eq_true rfl))))))))))
theorem x223_97 {x1 : Int32} {x2 : Int32} {x3 : Int32} {x4 : Int32} {x5 : Int32} {x6 : Int32} : wp Ln xs 223 97 [.ref 72, .int x1, .int x2, .int x3, .int x4, .int x5, .int x6] [] (u, ml_h m lm) Φ = if ¬ x3 = (nI 0) then wp Ln xs 223 106 [.ref 72, .int x1, .int x2, .int x3, .int x4, .int x5, .int x6] [] (u, ml_h m lm) Φ else wp Ln xs 223 101 [.ref 72, .int x1, .int x2, .int x3, .int x4, .int x5, .int x6] [] (u, ml_h m lm) Φ := (wp_same xd223_97 (Or.inr rfl) rfl).trans (wx_if xd223_98 rfl rfl (¬ x3 = (nI 0)) mb_ne)
theorem x223_101 {x1 : Int32} {x2 : Int32} {x3 : Int32} {x4 : Int32} {x5 : Int32} {x6 : Int32} : wp Ln xs 223 101 [.ref 72, .int x1, .int x2, .int x3, .int x4, .int x5, .int x6] [] (u, ml_h m lm) Φ = Φ (.inl (some (.int x5))) (u, ml_h m lm) := (wp_same xd223_101 (Or.inr rfl) rfl).trans ((wx_goto xd223_103 rfl).trans (wp_fin (v := some (.int x5)) xd223_108 (Or.inr rfl) rfl (mj_fin_i rfl)))
theorem x223_106 {x1 : Int32} {x2 : Int32} {x3 : Int32} {x4 : Int32} {x5 : Int32} {x6 : Int32} : wp Ln xs 223 106 [.ref 72, .int x1, .int x2, .int x3, .int x4, .int x5, .int x6] [] (u, ml_h m lm) Φ = Φ (.inl (some (.int x6))) (u, ml_h m lm) := (wp_same xd223_106 (Or.inr rfl) rfl).trans (wp_fin (v := some (.int x6)) xd223_108 (Or.inr rfl) rfl (mj_fin_i rfl))
/- PickedFormsModel.bestSplit -/
theorem xd224_0 : decode (mj_b 224) 0 = .ok (.aload_n 0, 1) := by decide +kernel
theorem xd224_1 : decode (mj_b 224) 1 = .ok (.aload_n 0, 1) := by decide +kernel
theorem xd224_2 : decode (mj_b 224) 2 = .ok (.iload_n 1, 1) := by decide +kernel
theorem xd224_3 : decode (mj_b 224) 3 = .ok (.invokevirtual 126, 3) := by decide +kernel
theorem xd224_6 : decode (mj_b 224) 6 = .ok (.ifCond .eq 7, 3) := by decide +kernel
theorem xd224_9 : decode (mj_b 224) 9 = .ok (.iconst 0, 1) := by decide +kernel
theorem xd224_10 : decode (mj_b 224) 10 = .ok (.goto 4, 3) := by decide +kernel
theorem xd224_13 : decode (mj_b 224) 13 = .ok (.iconst 1, 1) := by decide +kernel
theorem xd224_14 : decode (mj_b 224) 14 = .ok (.invokevirtual 114, 3) := by decide +kernel
theorem xd224_17 : decode (mj_b 224) 17 = .ok (.ifCond .eq 11, 3) := by decide +kernel
theorem xd224_20 : decode (mj_b 224) 20 = .ok (.aload_n 0, 1) := by decide +kernel
theorem xd224_21 : decode (mj_b 224) 21 = .ok (.iload_n 1, 1) := by decide +kernel
theorem xd224_22 : decode (mj_b 224) 22 = .ok (.invokevirtual 228, 3) := by decide +kernel
theorem xd224_25 : decode (mj_b 224) 25 = .ok (.goto 4, 3) := by decide +kernel
theorem xd224_28 : decode (mj_b 224) 28 = .ok (.iconst 0, 1) := by decide +kernel
theorem xd224_29 : decode (mj_b 224) 29 = .ok (.ireturn, 1) := by decide +kernel
theorem x224_0 {x1 : Int32} : wp Ln xs 224 0 [.ref 72, .int x1] [] (u, ml_h m lm) Φ = wp Ln xs 179 0 [.ref 72, .int x1] [] (u, ml_h m lm) (mk Ln xs 224 3 [.ref 72, .int x1] [.ref 72] Φ) := (wp_same xd224_0 (Or.inr rfl) rfl).trans ((wp_same xd224_1 (Or.inr rfl) rfl).trans ((wp_same xd224_2 (Or.inr rfl) rfl).trans (wm_cv (As := [.int x1]) (rest := [.ref 72]) xd224_3 rfl rfl (show ml_L[72]? = _ from rfl) (Nat.le_of_ble_eq_true rfl) (Nat.le_of_ble_eq_true rfl) (Nat.le_of_ble_eq_true rfl) (Nat.le_of_ble_eq_true rfl))))
theorem x224_6 {x1 : Int32} {xs0 : Int32} : wp Ln xs 224 6 [.ref 72, .int x1] [.int xs0, .ref 72] (u, ml_h m lm) Φ = if xs0 = (nI 0) then wp Ln xs 224 13 [.ref 72, .int x1] [.ref 72] (u, ml_h m lm) Φ else wp Ln xs 224 9 [.ref 72, .int x1] [.ref 72] (u, ml_h m lm) Φ := wx_if xd224_6 rfl rfl (xs0 = (nI 0)) mb_eq
theorem x224_9 {x1 : Int32} : wp Ln xs 224 9 [.ref 72, .int x1] [.ref 72] (u, ml_h m lm) Φ = wp Ln xs 224 14 [.ref 72, .int x1] [.int (nI 0), .ref 72] (u, ml_h m lm) Φ := (wp_same (S' := [.int (nI 0), .ref 72]) xd224_9 (Or.inr rfl) rfl).trans (wx_goto xd224_10 rfl)
theorem x224_13 {x1 : Int32} : wp Ln xs 224 13 [.ref 72, .int x1] [.ref 72] (u, ml_h m lm) Φ = wp Ln xs 224 14 [.ref 72, .int x1] [.int (nI 1), .ref 72] (u, ml_h m lm) Φ := wp_same (S' := [.int (nI 1), .ref 72]) xd224_13 (Or.inr rfl) rfl
theorem x224_14 {x1 : Int32} {xs0 : Int32} : wp Ln xs 224 14 [.ref 72, .int x1] [.int xs0, .ref 72] (u, ml_h m lm) Φ = wp Ln xs 154 0 [.ref 72, .int xs0] [] (u, ml_h m lm) (mk Ln xs 224 14 [.ref 72, .int x1] [] Φ) := wm_cv (As := [.int xs0]) (rest := []) xd224_14 rfl rfl (show ml_L[72]? = _ from rfl) (Nat.le_of_ble_eq_true rfl) (Nat.le_of_ble_eq_true rfl) (Nat.le_of_ble_eq_true rfl) (Nat.le_of_ble_eq_true rfl)
theorem x224_17 {x1 : Int32} {xs0 : Int32} : wp Ln xs 224 17 [.ref 72, .int x1] [.int xs0] (u, ml_h m lm) Φ = if xs0 = (nI 0) then wp Ln xs 224 28 [.ref 72, .int x1] [] (u, ml_h m lm) Φ else wp Ln xs 224 20 [.ref 72, .int x1] [] (u, ml_h m lm) Φ := wx_if xd224_17 rfl rfl (xs0 = (nI 0)) mb_eq
theorem x224_20 {x1 : Int32} : wp Ln xs 224 20 [.ref 72, .int x1] [] (u, ml_h m lm) Φ = wp Ln xs 225 0 [.ref 72, .int x1, mj_hole, mj_hole] [] (u, ml_h m lm) (mk Ln xs 224 22 [.ref 72, .int x1] [] Φ) := (wp_same xd224_20 (Or.inr rfl) rfl).trans ((wp_same xd224_21 (Or.inr rfl) rfl).trans (wm_cv (As := [.int x1]) (rest := []) xd224_22 rfl rfl (show ml_L[72]? = _ from rfl) (Nat.le_of_ble_eq_true rfl) (Nat.le_of_ble_eq_true rfl) (Nat.le_of_ble_eq_true rfl) (Nat.le_of_ble_eq_true rfl)))
theorem x224_25 {x1 : Int32} {xs0 : Int32} : wp Ln xs 224 25 [.ref 72, .int x1] [.int xs0] (u, ml_h m lm) Φ = Φ (.inl (some (.int xs0))) (u, ml_h m lm) := (wx_goto xd224_25 rfl).trans (wp_fin (v := some (.int xs0)) xd224_29 (Or.inr rfl) rfl (mj_fin_i rfl))
theorem x224_28 {x1 : Int32} : wp Ln xs 224 28 [.ref 72, .int x1] [] (u, ml_h m lm) Φ = Φ (.inl (some (.int (nI 0)))) (u, ml_h m lm) := (wp_same (S' := [.int (nI 0)]) xd224_28 (Or.inr rfl) rfl).trans (wp_fin (v := some (.int (nI 0))) xd224_29 (Or.inr rfl) rfl (mj_fin_i rfl))
/- PickedFormsModel.bestPlace -/
theorem xd225_0 : decode (mj_b 225) 0 = .ok (.iconst (-1), 1) := by decide +kernel
theorem xd225_1 : decode (mj_b 225) 1 = .ok (.istore_n 2, 1) := by decide +kernel
theorem xd225_2 : decode (mj_b 225) 2 = .ok (.iconst 1, 1) := by decide +kernel
theorem xd225_3 : decode (mj_b 225) 3 = .ok (.istore_n 3, 1) := by decide +kernel
theorem xd225_4 : decode (mj_b 225) 4 = .ok (.iload_n 3, 1) := by decide +kernel
theorem xd225_5 : decode (mj_b 225) 5 = .ok (.aload_n 0, 1) := by decide +kernel
theorem xd225_6 : decode (mj_b 225) 6 = .ok (.getfield 7, 3) := by decide +kernel
theorem xd225_9 : decode (mj_b 225) 9 = .ok (.bipush 7, 2) := by decide +kernel
theorem xd225_11 : decode (mj_b 225) 11 = .ok (.iload_n 1, 1) := by decide +kernel
theorem xd225_12 : decode (mj_b 225) 12 = .ok (.iadd, 1) := by decide +kernel
theorem xd225_13 : decode (mj_b 225) 13 = .ok (.iaload, 1) := by decide +kernel
theorem xd225_14 : decode (mj_b 225) 14 = .ok (.if_icmp .ge 35, 3) := by decide +kernel
theorem xd225_17 : decode (mj_b 225) 17 = .ok (.iload_n 2, 1) := by decide +kernel
theorem xd225_18 : decode (mj_b 225) 18 = .ok (.iconst (-1), 1) := by decide +kernel
theorem xd225_19 : decode (mj_b 225) 19 = .ok (.if_icmp .eq 18, 3) := by decide +kernel
theorem xd225_22 : decode (mj_b 225) 22 = .ok (.aload_n 0, 1) := by decide +kernel
theorem xd225_23 : decode (mj_b 225) 23 = .ok (.iload_n 1, 1) := by decide +kernel
theorem xd225_24 : decode (mj_b 225) 24 = .ok (.iload_n 3, 1) := by decide +kernel
theorem xd225_25 : decode (mj_b 225) 25 = .ok (.invokevirtual 135, 3) := by decide +kernel
theorem xd225_28 : decode (mj_b 225) 28 = .ok (.aload_n 0, 1) := by decide +kernel
theorem xd225_29 : decode (mj_b 225) 29 = .ok (.iload_n 1, 1) := by decide +kernel
theorem xd225_30 : decode (mj_b 225) 30 = .ok (.iload_n 2, 1) := by decide +kernel
theorem xd225_31 : decode (mj_b 225) 31 = .ok (.invokevirtual 135, 3) := by decide +kernel
theorem xd225_34 : decode (mj_b 225) 34 = .ok (.if_icmp .le 7, 3) := by decide +kernel
theorem xd225_37 : decode (mj_b 225) 37 = .ok (.iload_n 3, 1) := by decide +kernel
theorem xd225_38 : decode (mj_b 225) 38 = .ok (.goto 4, 3) := by decide +kernel
theorem xd225_41 : decode (mj_b 225) 41 = .ok (.iload_n 2, 1) := by decide +kernel
theorem xd225_42 : decode (mj_b 225) 42 = .ok (.istore_n 2, 1) := by decide +kernel
theorem xd225_43 : decode (mj_b 225) 43 = .ok (.iinc 3 1, 3) := by decide +kernel
theorem xd225_46 : decode (mj_b 225) 46 = .ok (.goto (-42), 3) := by decide +kernel
theorem xd225_49 : decode (mj_b 225) 49 = .ok (.iload_n 2, 1) := by decide +kernel
theorem xd225_50 : decode (mj_b 225) 50 = .ok (.ireturn, 1) := by decide +kernel
theorem x225_0 {x1 : Int32} : wp Ln xs 225 0 [.ref 72, .int x1, mj_hole, mj_hole] [] (u, ml_h m lm) Φ = wp Ln xs 225 4 [.ref 72, .int x1, .int ((-1)), .int (nI 1)] [] (u, ml_h m lm) Φ := (wp_same (S' := [.int ((-1))]) xd225_0 (Or.inr rfl) rfl).trans ((wp_same (L' := [.ref 72, .int x1, .int ((-1)), mj_hole]) xd225_1 (Or.inr rfl) rfl).trans ((wp_same (S' := [.int (nI 1)]) xd225_2 (Or.inr rfl) rfl).trans (wp_same (L' := [.ref 72, .int x1, .int ((-1)), .int (nI 1)]) xd225_3 (Or.inr rfl) rfl)))
theorem x225_4 {x1 : Int32} {x2 : Int32} {x3 : Int32} : wp Ln xs 225 4 [.ref 72, .int x1, .int x2, .int x3] [] (u, ml_h m lm) Φ = wp Ln xs 225 13 [.ref 72, .int x1, .int x2, .int x3] [.int ((nI 7) + x1), .ref 73, .int x3] (u, ml_h m lm) Φ := (wp_same xd225_4 (Or.inr rfl) rfl).trans ((wp_same xd225_5 (Or.inr rfl) rfl).trans ((wm_getr xd225_6 rfl (show ml_L[72]? = _ from rfl) rfl (Nat.le_of_ble_eq_true rfl)).trans ((wp_same (S' := [.int (nI 7), .ref 73, .int x3]) xd225_9 (Or.inr rfl) rfl).trans ((wp_same xd225_11 (Or.inr rfl) rfl).trans (wp_same xd225_12 (Or.inr rfl) rfl)))))
theorem x225_13 {x1 : Int32} {x2 : Int32} {x3 : Int32} {k : Nat} {xs2 : Int32} (hk : k < 251) : wp Ln xs 225 13 [.ref 72, .int x1, .int x2, .int x3] [.int (nI k), .ref 73, .int xs2] (u, ml_h m lm) Φ = if (m 73 k) ≤ xs2 then wp Ln xs 225 49 [.ref 72, .int x1, .int x2, .int x3] [] (u, ml_h m lm) Φ else wp Ln xs 225 17 [.ref 72, .int x1, .int x2, .int x3] [] (u, ml_h m lm) Φ := (wm_iald (k := k) xd225_13 ml_ia_73 (by decide) hk).trans (wx_icmp xd225_14 rfl rfl ((m 73 k) ≤ xs2) mb_ge)
theorem x225_17 {x1 : Int32} {x2 : Int32} {x3 : Int32} : wp Ln xs 225 17 [.ref 72, .int x1, .int x2, .int x3] [] (u, ml_h m lm) Φ = if x2 = ((-1)) then wp Ln xs 225 37 [.ref 72, .int x1, .int x2, .int x3] [] (u, ml_h m lm) Φ else wp Ln xs 225 22 [.ref 72, .int x1, .int x2, .int x3] [] (u, ml_h m lm) Φ := (wp_same xd225_17 (Or.inr rfl) rfl).trans ((wp_same (S' := [.int ((-1)), .int x2]) xd225_18 (Or.inr rfl) rfl).trans (wx_icmp xd225_19 rfl rfl (x2 = ((-1))) mb_eq))
theorem x225_22 {x1 : Int32} {x2 : Int32} {x3 : Int32} : wp Ln xs 225 22 [.ref 72, .int x1, .int x2, .int x3] [] (u, ml_h m lm) Φ = wp Ln xs 183 0 [.ref 72, .int x1, .int x3, mj_hole] [] (u, ml_h m lm) (mk Ln xs 225 25 [.ref 72, .int x1, .int x2, .int x3] [] Φ) := (wp_same xd225_22 (Or.inr rfl) rfl).trans ((wp_same xd225_23 (Or.inr rfl) rfl).trans ((wp_same xd225_24 (Or.inr rfl) rfl).trans (wm_cv (As := [.int x1, .int x3]) (rest := []) xd225_25 rfl rfl (show ml_L[72]? = _ from rfl) (Nat.le_of_ble_eq_true rfl) (Nat.le_of_ble_eq_true rfl) (Nat.le_of_ble_eq_true rfl) (Nat.le_of_ble_eq_true rfl))))
theorem x225_28 {x1 : Int32} {x2 : Int32} {x3 : Int32} {xs0 : Int32} : wp Ln xs 225 28 [.ref 72, .int x1, .int x2, .int x3] [.int xs0] (u, ml_h m lm) Φ = wp Ln xs 183 0 [.ref 72, .int x1, .int x2, mj_hole] [] (u, ml_h m lm) (mk Ln xs 225 31 [.ref 72, .int x1, .int x2, .int x3] [.int xs0] Φ) := (wp_same xd225_28 (Or.inr rfl) rfl).trans ((wp_same xd225_29 (Or.inr rfl) rfl).trans ((wp_same xd225_30 (Or.inr rfl) rfl).trans (wm_cv (As := [.int x1, .int x2]) (rest := [.int xs0]) xd225_31 rfl rfl (show ml_L[72]? = _ from rfl) (Nat.le_of_ble_eq_true rfl) (Nat.le_of_ble_eq_true rfl) (Nat.le_of_ble_eq_true rfl) (Nat.le_of_ble_eq_true rfl))))
theorem x225_34 {x1 : Int32} {x2 : Int32} {x3 : Int32} {xs0 : Int32} {xs1 : Int32} : wp Ln xs 225 34 [.ref 72, .int x1, .int x2, .int x3] [.int xs0, .int xs1] (u, ml_h m lm) Φ = if xs1 ≤ xs0 then wp Ln xs 225 41 [.ref 72, .int x1, .int x2, .int x3] [] (u, ml_h m lm) Φ else wp Ln xs 225 37 [.ref 72, .int x1, .int x2, .int x3] [] (u, ml_h m lm) Φ := wx_icmp xd225_34 rfl rfl (xs1 ≤ xs0) mb_le
theorem x225_37 {x1 : Int32} {x2 : Int32} {x3 : Int32} : wp Ln xs 225 37 [.ref 72, .int x1, .int x2, .int x3] [] (u, ml_h m lm) Φ = wp Ln xs 225 42 [.ref 72, .int x1, .int x2, .int x3] [.int x3] (u, ml_h m lm) Φ := (wp_same xd225_37 (Or.inr rfl) rfl).trans (wx_goto xd225_38 rfl)
theorem x225_41 {x1 : Int32} {x2 : Int32} {x3 : Int32} : wp Ln xs 225 41 [.ref 72, .int x1, .int x2, .int x3] [] (u, ml_h m lm) Φ = wp Ln xs 225 42 [.ref 72, .int x1, .int x2, .int x3] [.int x2] (u, ml_h m lm) Φ := wp_same xd225_41 (Or.inr rfl) rfl
theorem x225_42 {x1 : Int32} {x2 : Int32} {x3 : Int32} {xs0 : Int32} : wp Ln xs 225 42 [.ref 72, .int x1, .int x2, .int x3] [.int xs0] (u, ml_h m lm) Φ = wp Ln xs 225 4 [.ref 72, .int x1, .int xs0, .int (x3 + nI 1)] [] (u, ml_h m lm) Φ := (wp_same (L' := [.ref 72, .int x1, .int xs0, .int x3]) xd225_42 (Or.inr rfl) rfl).trans ((wp_same (L' := [.ref 72, .int x1, .int xs0, .int (x3 + nI 1)]) xd225_43 (Or.inr rfl) rfl).trans (wx_goto xd225_46 rfl))
theorem x225_49 {x1 : Int32} {x2 : Int32} {x3 : Int32} : wp Ln xs 225 49 [.ref 72, .int x1, .int x2, .int x3] [] (u, ml_h m lm) Φ = Φ (.inl (some (.int x2))) (u, ml_h m lm) := (wp_same xd225_49 (Or.inr rfl) rfl).trans (wp_fin (v := some (.int x2)) xd225_50 (Or.inr rfl) rfl (mj_fin_i rfl))
/- PickedFormsModel.least -/
theorem xd226_0 : decode (mj_b 226) 0 = .ok (.aload_n 0, 1) := by decide +kernel
theorem xd226_1 : decode (mj_b 226) 1 = .ok (.iload_n 1, 1) := by decide +kernel
theorem xd226_2 : decode (mj_b 226) 2 = .ok (.iconst 0, 1) := by decide +kernel
theorem xd226_3 : decode (mj_b 226) 3 = .ok (.iconst 2, 1) := by decide +kernel
theorem xd226_4 : decode (mj_b 226) 4 = .ok (.invokestatic 38, 3) := by decide +kernel
theorem xd226_7 : decode (mj_b 226) 7 = .ok (.ifCond .eq 7, 3) := by decide +kernel
theorem xd226_10 : decode (mj_b 226) 10 = .ok (.iconst 0, 1) := by decide +kernel
theorem xd226_11 : decode (mj_b 226) 11 = .ok (.goto 4, 3) := by decide +kernel
theorem xd226_14 : decode (mj_b 226) 14 = .ok (.iconst 1, 1) := by decide +kernel
theorem xd226_15 : decode (mj_b 226) 15 = .ok (.invokevirtual 114, 3) := by decide +kernel
theorem xd226_18 : decode (mj_b 226) 18 = .ok (.ifCond .eq 11, 3) := by decide +kernel
theorem xd226_21 : decode (mj_b 226) 21 = .ok (.aload_n 0, 1) := by decide +kernel
theorem xd226_22 : decode (mj_b 226) 22 = .ok (.iload_n 1, 1) := by decide +kernel
theorem xd226_23 : decode (mj_b 226) 23 = .ok (.invokevirtual 234, 3) := by decide +kernel
theorem xd226_26 : decode (mj_b 226) 26 = .ok (.goto 4, 3) := by decide +kernel
theorem xd226_29 : decode (mj_b 226) 29 = .ok (.iconst 0, 1) := by decide +kernel
theorem xd226_30 : decode (mj_b 226) 30 = .ok (.ireturn, 1) := by decide +kernel
theorem x226_0 {x1 : Int32} : wp Ln xs 226 0 [.ref 72, .int x1] [] (u, ml_h m lm) Φ = wp Ln xs 152 0 [.int x1, .int (nI 0), .int (nI 2)] [] (u, ml_h m lm) (mk Ln xs 226 4 [.ref 72, .int x1] [.ref 72] Φ) := (wp_same xd226_0 (Or.inr rfl) rfl).trans ((wp_same xd226_1 (Or.inr rfl) rfl).trans ((wp_same (S' := [.int (nI 0), .int x1, .ref 72]) xd226_2 (Or.inr rfl) rfl).trans ((wp_same (S' := [.int (nI 2), .int (nI 0), .int x1, .ref 72]) xd226_3 (Or.inr rfl) rfl).trans (wm_cs (As := [.int x1, .int (nI 0), .int (nI 2)]) (rest := [.ref 72]) xd226_4 rfl rfl (Nat.le_of_ble_eq_true rfl) (Nat.le_of_ble_eq_true rfl) (Nat.le_of_ble_eq_true rfl) (Nat.le_of_ble_eq_true rfl)))))
theorem x226_7 {x1 : Int32} {xs0 : Int32} : wp Ln xs 226 7 [.ref 72, .int x1] [.int xs0, .ref 72] (u, ml_h m lm) Φ = if xs0 = (nI 0) then wp Ln xs 226 14 [.ref 72, .int x1] [.ref 72] (u, ml_h m lm) Φ else wp Ln xs 226 10 [.ref 72, .int x1] [.ref 72] (u, ml_h m lm) Φ := wx_if xd226_7 rfl rfl (xs0 = (nI 0)) mb_eq
theorem x226_10 {x1 : Int32} : wp Ln xs 226 10 [.ref 72, .int x1] [.ref 72] (u, ml_h m lm) Φ = wp Ln xs 226 15 [.ref 72, .int x1] [.int (nI 0), .ref 72] (u, ml_h m lm) Φ := (wp_same (S' := [.int (nI 0), .ref 72]) xd226_10 (Or.inr rfl) rfl).trans (wx_goto xd226_11 rfl)
theorem x226_14 {x1 : Int32} : wp Ln xs 226 14 [.ref 72, .int x1] [.ref 72] (u, ml_h m lm) Φ = wp Ln xs 226 15 [.ref 72, .int x1] [.int (nI 1), .ref 72] (u, ml_h m lm) Φ := wp_same (S' := [.int (nI 1), .ref 72]) xd226_14 (Or.inr rfl) rfl
theorem x226_15 {x1 : Int32} {xs0 : Int32} : wp Ln xs 226 15 [.ref 72, .int x1] [.int xs0, .ref 72] (u, ml_h m lm) Φ = wp Ln xs 154 0 [.ref 72, .int xs0] [] (u, ml_h m lm) (mk Ln xs 226 15 [.ref 72, .int x1] [] Φ) := wm_cv (As := [.int xs0]) (rest := []) xd226_15 rfl rfl (show ml_L[72]? = _ from rfl) (Nat.le_of_ble_eq_true rfl) (Nat.le_of_ble_eq_true rfl) (Nat.le_of_ble_eq_true rfl) (Nat.le_of_ble_eq_true rfl)
theorem x226_18 {x1 : Int32} {xs0 : Int32} : wp Ln xs 226 18 [.ref 72, .int x1] [.int xs0] (u, ml_h m lm) Φ = if xs0 = (nI 0) then wp Ln xs 226 29 [.ref 72, .int x1] [] (u, ml_h m lm) Φ else wp Ln xs 226 21 [.ref 72, .int x1] [] (u, ml_h m lm) Φ := wx_if xd226_18 rfl rfl (xs0 = (nI 0)) mb_eq
theorem x226_21 {x1 : Int32} : wp Ln xs 226 21 [.ref 72, .int x1] [] (u, ml_h m lm) Φ = wp Ln xs 227 0 [.ref 72, .int x1] [] (u, ml_h m lm) (mk Ln xs 226 23 [.ref 72, .int x1] [] Φ) := (wp_same xd226_21 (Or.inr rfl) rfl).trans ((wp_same xd226_22 (Or.inr rfl) rfl).trans (wm_cv (As := [.int x1]) (rest := []) xd226_23 rfl rfl (show ml_L[72]? = _ from rfl) (Nat.le_of_ble_eq_true rfl) (Nat.le_of_ble_eq_true rfl) (Nat.le_of_ble_eq_true rfl) (Nat.le_of_ble_eq_true rfl)))
theorem x226_26 {x1 : Int32} {xs0 : Int32} : wp Ln xs 226 26 [.ref 72, .int x1] [.int xs0] (u, ml_h m lm) Φ = Φ (.inl (some (.int xs0))) (u, ml_h m lm) := (wx_goto xd226_26 rfl).trans (wp_fin (v := some (.int xs0)) xd226_30 (Or.inr rfl) rfl (mj_fin_i rfl))
theorem x226_29 {x1 : Int32} : wp Ln xs 226 29 [.ref 72, .int x1] [] (u, ml_h m lm) Φ = Φ (.inl (some (.int (nI 0)))) (u, ml_h m lm) := (wp_same (S' := [.int (nI 0)]) xd226_29 (Or.inr rfl) rfl).trans (wp_fin (v := some (.int (nI 0))) xd226_30 (Or.inr rfl) rfl (mj_fin_i rfl))
/- PickedFormsModel.leastTold -/
theorem xd227_0 : decode (mj_b 227) 0 = .ok (.aload_n 0, 1) := by decide +kernel
theorem xd227_1 : decode (mj_b 227) 1 = .ok (.invokevirtual 231, 3) := by decide +kernel
theorem xd227_4 : decode (mj_b 227) 4 = .ok (.iload_n 1, 1) := by decide +kernel
theorem xd227_5 : decode (mj_b 227) 5 = .ok (.iconst 2, 1) := by decide +kernel
theorem xd227_6 : decode (mj_b 227) 6 = .ok (.if_icmp .ne 15, 3) := by decide +kernel
theorem xd227_9 : decode (mj_b 227) 9 = .ok (.aload_n 0, 1) := by decide +kernel
theorem xd227_10 : decode (mj_b 227) 10 = .ok (.getfield 31, 3) := by decide +kernel
theorem xd227_13 : decode (mj_b 227) 13 = .ok (.aload_n 0, 1) := by decide +kernel
theorem xd227_14 : decode (mj_b 227) 14 = .ok (.invokevirtual 96, 3) := by decide +kernel
theorem xd227_17 : decode (mj_b 227) 17 = .ok (.iaload, 1) := by decide +kernel
theorem xd227_18 : decode (mj_b 227) 18 = .ok (.goto 12, 3) := by decide +kernel
theorem xd227_21 : decode (mj_b 227) 21 = .ok (.aload_n 0, 1) := by decide +kernel
theorem xd227_22 : decode (mj_b 227) 22 = .ok (.getfield 28, 3) := by decide +kernel
theorem xd227_25 : decode (mj_b 227) 25 = .ok (.aload_n 0, 1) := by decide +kernel
theorem xd227_26 : decode (mj_b 227) 26 = .ok (.invokevirtual 96, 3) := by decide +kernel
theorem xd227_29 : decode (mj_b 227) 29 = .ok (.iaload, 1) := by decide +kernel
theorem xd227_30 : decode (mj_b 227) 30 = .ok (.ireturn, 1) := by decide +kernel
theorem x227_0 {x1 : Int32} : wp Ln xs 227 0 [.ref 72, .int x1] [] (u, ml_h m lm) Φ = wp Ln xs 228 0 [.ref 72, mj_hole, mj_hole, mj_hole, mj_hole, mj_hole, mj_hole, mj_hole] [] (u, ml_h m lm) (mk Ln xs 227 1 [.ref 72, .int x1] [] Φ) := (wp_same xd227_0 (Or.inr rfl) rfl).trans (wm_cv (As := []) (rest := []) xd227_1 rfl rfl (show ml_L[72]? = _ from rfl) (Nat.le_of_ble_eq_true rfl) (Nat.le_of_ble_eq_true rfl) (Nat.le_of_ble_eq_true rfl) (Nat.le_of_ble_eq_true rfl))
theorem x227_4 {x1 : Int32} : wp Ln xs 227 4 [.ref 72, .int x1] [] (u, ml_h m lm) Φ = if ¬ x1 = (nI 2) then wp Ln xs 227 21 [.ref 72, .int x1] [] (u, ml_h m lm) Φ else wp Ln xs 227 9 [.ref 72, .int x1] [] (u, ml_h m lm) Φ := (wp_same xd227_4 (Or.inr rfl) rfl).trans ((wp_same (S' := [.int (nI 2), .int x1]) xd227_5 (Or.inr rfl) rfl).trans (wx_icmp xd227_6 rfl rfl (¬ x1 = (nI 2)) mb_ne))
theorem x227_9 {x1 : Int32} : wp Ln xs 227 9 [.ref 72, .int x1] [] (u, ml_h m lm) Φ = wp Ln xs 158 0 [.ref 72] [] (u, ml_h m lm) (mk Ln xs 227 14 [.ref 72, .int x1] [.ref 80] Φ) := (wp_same xd227_9 (Or.inr rfl) rfl).trans ((wm_getr xd227_10 rfl (show ml_L[72]? = _ from rfl) rfl (Nat.le_of_ble_eq_true rfl)).trans ((wp_same xd227_13 (Or.inr rfl) rfl).trans (wm_cv (As := []) (rest := [.ref 80]) xd227_14 rfl rfl (show ml_L[72]? = _ from rfl) (Nat.le_of_ble_eq_true rfl) (Nat.le_of_ble_eq_true rfl) (Nat.le_of_ble_eq_true rfl) (Nat.le_of_ble_eq_true rfl))))
theorem x227_17 {x1 : Int32} {k : Nat} (hk : k < 208) : wp Ln xs 227 17 [.ref 72, .int x1] [.int (nI k), .ref 80] (u, ml_h m lm) Φ = Φ (.inl (some (.int (m 80 k)))) (u, ml_h m lm) := (wm_iald (k := k) xd227_17 ml_ia_80 (by decide) hk).trans ((wx_goto xd227_18 rfl).trans (wp_fin (v := some (.int (m 80 k))) xd227_30 (Or.inr rfl) rfl (mj_fin_i rfl)))
theorem x227_21 {x1 : Int32} : wp Ln xs 227 21 [.ref 72, .int x1] [] (u, ml_h m lm) Φ = wp Ln xs 158 0 [.ref 72] [] (u, ml_h m lm) (mk Ln xs 227 26 [.ref 72, .int x1] [.ref 79] Φ) := (wp_same xd227_21 (Or.inr rfl) rfl).trans ((wm_getr xd227_22 rfl (show ml_L[72]? = _ from rfl) rfl (Nat.le_of_ble_eq_true rfl)).trans ((wp_same xd227_25 (Or.inr rfl) rfl).trans (wm_cv (As := []) (rest := [.ref 79]) xd227_26 rfl rfl (show ml_L[72]? = _ from rfl) (Nat.le_of_ble_eq_true rfl) (Nat.le_of_ble_eq_true rfl) (Nat.le_of_ble_eq_true rfl) (Nat.le_of_ble_eq_true rfl))))
theorem x227_29 {x1 : Int32} {k : Nat} (hk : k < 208) : wp Ln xs 227 29 [.ref 72, .int x1] [.int (nI k), .ref 79] (u, ml_h m lm) Φ = Φ (.inl (some (.int (m 79 k)))) (u, ml_h m lm) := (wm_iald (k := k) xd227_29 ml_ia_79 (by decide) hk).trans (wp_fin (v := some (.int (m 79 k))) xd227_30 (Or.inr rfl) rfl (mj_fin_i rfl))
/- PickedFormsModel.partAll -/
theorem xd228_0 : decode (mj_b 228) 0 = .ok (.aload_n 0, 1) := by decide +kernel
theorem xd228_1 : decode (mj_b 228) 1 = .ok (.invokevirtual 96, 3) := by decide +kernel
theorem xd228_4 : decode (mj_b 228) 4 = .ok (.istore_n 1, 1) := by decide +kernel
theorem xd228_5 : decode (mj_b 228) 5 = .ok (.iconst 1, 1) := by decide +kernel
theorem xd228_6 : decode (mj_b 228) 6 = .ok (.istore_n 2, 1) := by decide +kernel
theorem xd228_7 : decode (mj_b 228) 7 = .ok (.iload_n 2, 1) := by decide +kernel
theorem xd228_8 : decode (mj_b 228) 8 = .ok (.iload_n 1, 1) := by decide +kernel
theorem xd228_9 : decode (mj_b 228) 9 = .ok (.if_icmp .gt 171, 3) := by decide +kernel
theorem xd228_12 : decode (mj_b 228) 12 = .ok (.aload_n 0, 1) := by decide +kernel
theorem xd228_13 : decode (mj_b 228) 13 = .ok (.getfield 28, 3) := by decide +kernel
theorem xd228_16 : decode (mj_b 228) 16 = .ok (.iload_n 2, 1) := by decide +kernel
theorem xd228_17 : decode (mj_b 228) 17 = .ok (.iconst 0, 1) := by decide +kernel
theorem xd228_18 : decode (mj_b 228) 18 = .ok (.iastore, 1) := by decide +kernel
theorem xd228_19 : decode (mj_b 228) 19 = .ok (.iconst 1, 1) := by decide +kernel
theorem xd228_20 : decode (mj_b 228) 20 = .ok (.istore_n 3, 1) := by decide +kernel
theorem xd228_21 : decode (mj_b 228) 21 = .ok (.iload_n 3, 1) := by decide +kernel
theorem xd228_22 : decode (mj_b 228) 22 = .ok (.bipush 16, 2) := by decide +kernel
theorem xd228_24 : decode (mj_b 228) 24 = .ok (.if_icmp .gt 150, 3) := by decide +kernel
theorem xd228_27 : decode (mj_b 228) 27 = .ok (.iload_n 3, 1) := by decide +kernel
theorem xd228_28 : decode (mj_b 228) 28 = .ok (.iload_n 2, 1) := by decide +kernel
theorem xd228_29 : decode (mj_b 228) 29 = .ok (.if_icmp .gt 145, 3) := by decide +kernel
theorem xd228_32 : decode (mj_b 228) 32 = .ok (.iload_n 2, 1) := by decide +kernel
theorem xd228_33 : decode (mj_b 228) 33 = .ok (.iload_n 3, 1) := by decide +kernel
theorem xd228_34 : decode (mj_b 228) 34 = .ok (.isub, 1) := by decide +kernel
theorem xd228_35 : decode (mj_b 228) 35 = .ok (.istore 4, 2) := by decide +kernel
theorem xd228_37 : decode (mj_b 228) 37 = .ok (.aload_n 0, 1) := by decide +kernel
theorem xd228_38 : decode (mj_b 228) 38 = .ok (.getfield 28, 3) := by decide +kernel
theorem xd228_41 : decode (mj_b 228) 41 = .ok (.iload 4, 2) := by decide +kernel
theorem xd228_43 : decode (mj_b 228) 43 = .ok (.iaload, 1) := by decide +kernel
theorem xd228_44 : decode (mj_b 228) 44 = .ok (.aload_n 0, 1) := by decide +kernel
theorem xd228_45 : decode (mj_b 228) 45 = .ok (.aload_n 0, 1) := by decide +kernel
theorem xd228_46 : decode (mj_b 228) 46 = .ok (.iload 4, 2) := by decide +kernel
theorem xd228_48 : decode (mj_b 228) 48 = .ok (.iload_n 3, 1) := by decide +kernel
theorem xd228_49 : decode (mj_b 228) 49 = .ok (.invokevirtual 83, 3) := by decide +kernel
theorem xd228_52 : decode (mj_b 228) 52 = .ok (.iload 4, 2) := by decide +kernel
theorem xd228_54 : decode (mj_b 228) 54 = .ok (.iload_n 3, 1) := by decide +kernel
theorem xd228_55 : decode (mj_b 228) 55 = .ok (.invokevirtual 79, 3) := by decide +kernel
theorem xd228_58 : decode (mj_b 228) 58 = .ok (.iadd, 1) := by decide +kernel
theorem xd228_59 : decode (mj_b 228) 59 = .ok (.bipush 7, 2) := by decide +kernel
theorem xd228_61 : decode (mj_b 228) 61 = .ok (.iadd, 1) := by decide +kernel
theorem xd228_62 : decode (mj_b 228) 62 = .ok (.istore 5, 2) := by decide +kernel
theorem xd228_64 : decode (mj_b 228) 64 = .ok (.aload_n 0, 1) := by decide +kernel
theorem xd228_65 : decode (mj_b 228) 65 = .ok (.getfield 31, 3) := by decide +kernel
theorem xd228_68 : decode (mj_b 228) 68 = .ok (.iload 4, 2) := by decide +kernel
theorem xd228_70 : decode (mj_b 228) 70 = .ok (.iaload, 1) := by decide +kernel
theorem xd228_71 : decode (mj_b 228) 71 = .ok (.iconst 1, 1) := by decide +kernel
theorem xd228_72 : decode (mj_b 228) 72 = .ok (.iadd, 1) := by decide +kernel
theorem xd228_73 : decode (mj_b 228) 73 = .ok (.istore 6, 2) := by decide +kernel
theorem xd228_75 : decode (mj_b 228) 75 = .ok (.aload_n 0, 1) := by decide +kernel
theorem xd228_76 : decode (mj_b 228) 76 = .ok (.getfield 28, 3) := by decide +kernel
theorem xd228_79 : decode (mj_b 228) 79 = .ok (.iload_n 2, 1) := by decide +kernel
theorem xd228_80 : decode (mj_b 228) 80 = .ok (.iaload, 1) := by decide +kernel
theorem xd228_81 : decode (mj_b 228) 81 = .ok (.ifCond .eq 36, 3) := by decide +kernel
theorem xd228_84 : decode (mj_b 228) 84 = .ok (.iload 5, 2) := by decide +kernel
theorem xd228_86 : decode (mj_b 228) 86 = .ok (.aload_n 0, 1) := by decide +kernel
theorem xd228_87 : decode (mj_b 228) 87 = .ok (.getfield 28, 3) := by decide +kernel
theorem xd228_90 : decode (mj_b 228) 90 = .ok (.iload_n 2, 1) := by decide +kernel
theorem xd228_91 : decode (mj_b 228) 91 = .ok (.iaload, 1) := by decide +kernel
theorem xd228_92 : decode (mj_b 228) 92 = .ok (.if_icmp .lt 25, 3) := by decide +kernel
theorem xd228_95 : decode (mj_b 228) 95 = .ok (.iload 5, 2) := by decide +kernel
theorem xd228_97 : decode (mj_b 228) 97 = .ok (.aload_n 0, 1) := by decide +kernel
theorem xd228_98 : decode (mj_b 228) 98 = .ok (.getfield 28, 3) := by decide +kernel
theorem xd228_101 : decode (mj_b 228) 101 = .ok (.iload_n 2, 1) := by decide +kernel
theorem xd228_102 : decode (mj_b 228) 102 = .ok (.iaload, 1) := by decide +kernel
theorem xd228_103 : decode (mj_b 228) 103 = .ok (.if_icmp .ne 18, 3) := by decide +kernel
theorem xd228_106 : decode (mj_b 228) 106 = .ok (.iload 6, 2) := by decide +kernel
theorem xd228_108 : decode (mj_b 228) 108 = .ok (.aload_n 0, 1) := by decide +kernel
theorem xd228_109 : decode (mj_b 228) 109 = .ok (.getfield 31, 3) := by decide +kernel
theorem xd228_112 : decode (mj_b 228) 112 = .ok (.iload_n 2, 1) := by decide +kernel
theorem xd228_113 : decode (mj_b 228) 113 = .ok (.iaload, 1) := by decide +kernel
theorem xd228_114 : decode (mj_b 228) 114 = .ok (.if_icmp .ge 7, 3) := by decide +kernel
theorem xd228_117 : decode (mj_b 228) 117 = .ok (.iconst 1, 1) := by decide +kernel
theorem xd228_118 : decode (mj_b 228) 118 = .ok (.goto 4, 3) := by decide +kernel
theorem xd228_121 : decode (mj_b 228) 121 = .ok (.iconst 0, 1) := by decide +kernel
theorem xd228_122 : decode (mj_b 228) 122 = .ok (.istore 7, 2) := by decide +kernel
theorem xd228_124 : decode (mj_b 228) 124 = .ok (.aload_n 0, 1) := by decide +kernel
theorem xd228_125 : decode (mj_b 228) 125 = .ok (.getfield 28, 3) := by decide +kernel
theorem xd228_128 : decode (mj_b 228) 128 = .ok (.iload_n 2, 1) := by decide +kernel
theorem xd228_129 : decode (mj_b 228) 129 = .ok (.iload 7, 2) := by decide +kernel
theorem xd228_131 : decode (mj_b 228) 131 = .ok (.ifCond .eq 8, 3) := by decide +kernel
theorem xd228_134 : decode (mj_b 228) 134 = .ok (.iload 5, 2) := by decide +kernel
theorem xd228_136 : decode (mj_b 228) 136 = .ok (.goto 9, 3) := by decide +kernel
theorem xd228_139 : decode (mj_b 228) 139 = .ok (.aload_n 0, 1) := by decide +kernel
theorem xd228_140 : decode (mj_b 228) 140 = .ok (.getfield 28, 3) := by decide +kernel
theorem xd228_143 : decode (mj_b 228) 143 = .ok (.iload_n 2, 1) := by decide +kernel
theorem xd228_144 : decode (mj_b 228) 144 = .ok (.iaload, 1) := by decide +kernel
theorem xd228_145 : decode (mj_b 228) 145 = .ok (.iastore, 1) := by decide +kernel
theorem xd228_146 : decode (mj_b 228) 146 = .ok (.aload_n 0, 1) := by decide +kernel
theorem xd228_147 : decode (mj_b 228) 147 = .ok (.getfield 31, 3) := by decide +kernel
theorem xd228_150 : decode (mj_b 228) 150 = .ok (.iload_n 2, 1) := by decide +kernel
theorem xd228_151 : decode (mj_b 228) 151 = .ok (.iload 7, 2) := by decide +kernel
theorem xd228_153 : decode (mj_b 228) 153 = .ok (.ifCond .eq 8, 3) := by decide +kernel
theorem xd228_156 : decode (mj_b 228) 156 = .ok (.iload 6, 2) := by decide +kernel
theorem xd228_158 : decode (mj_b 228) 158 = .ok (.goto 9, 3) := by decide +kernel
theorem xd228_161 : decode (mj_b 228) 161 = .ok (.aload_n 0, 1) := by decide +kernel
theorem xd228_162 : decode (mj_b 228) 162 = .ok (.getfield 31, 3) := by decide +kernel
theorem xd228_165 : decode (mj_b 228) 165 = .ok (.iload_n 2, 1) := by decide +kernel
theorem xd228_166 : decode (mj_b 228) 166 = .ok (.iaload, 1) := by decide +kernel
theorem xd228_167 : decode (mj_b 228) 167 = .ok (.iastore, 1) := by decide +kernel
theorem xd228_168 : decode (mj_b 228) 168 = .ok (.iinc 3 1, 3) := by decide +kernel
theorem xd228_171 : decode (mj_b 228) 171 = .ok (.goto (-150), 3) := by decide +kernel
theorem xd228_174 : decode (mj_b 228) 174 = .ok (.iinc 2 1, 3) := by decide +kernel
theorem xd228_177 : decode (mj_b 228) 177 = .ok (.goto (-170), 3) := by decide +kernel
theorem xd228_180 : decode (mj_b 228) 180 = .ok (.return_, 1) := by decide +kernel
theorem x228_0 : wp Ln xs 228 0 [.ref 72, mj_hole, mj_hole, mj_hole, mj_hole, mj_hole, mj_hole, mj_hole] [] (u, ml_h m lm) Φ = wp Ln xs 158 0 [.ref 72] [] (u, ml_h m lm) (mk Ln xs 228 1 [.ref 72, mj_hole, mj_hole, mj_hole, mj_hole, mj_hole, mj_hole, mj_hole] [] Φ) := (wp_same xd228_0 (Or.inr rfl) rfl).trans (wm_cv (As := []) (rest := []) xd228_1 rfl rfl (show ml_L[72]? = _ from rfl) (Nat.le_of_ble_eq_true rfl) (Nat.le_of_ble_eq_true rfl) (Nat.le_of_ble_eq_true rfl) (Nat.le_of_ble_eq_true rfl))
theorem x228_4 {xs0 : Int32} : wp Ln xs 228 4 [.ref 72, mj_hole, mj_hole, mj_hole, mj_hole, mj_hole, mj_hole, mj_hole] [.int xs0] (u, ml_h m lm) Φ = wp Ln xs 228 7 [.ref 72, .int xs0, .int (nI 1), mj_hole, mj_hole, mj_hole, mj_hole, mj_hole] [] (u, ml_h m lm) Φ := (wp_same (L' := [.ref 72, .int xs0, mj_hole, mj_hole, mj_hole, mj_hole, mj_hole, mj_hole]) xd228_4 (Or.inr rfl) rfl).trans ((wp_same (S' := [.int (nI 1)]) xd228_5 (Or.inr rfl) rfl).trans (wp_same (L' := [.ref 72, .int xs0, .int (nI 1), mj_hole, mj_hole, mj_hole, mj_hole, mj_hole]) xd228_6 (Or.inr rfl) rfl))
theorem x228_7 {x1 : Int32} {x2 : Int32} {v3 : Value} {v4 : Value} {v5 : Value} {v6 : Value} {v7 : Value} : wp Ln xs 228 7 [.ref 72, .int x1, .int x2, v3, v4, v5, v6, v7] [] (u, ml_h m lm) Φ = if x1 < x2 then wp Ln xs 228 180 [.ref 72, .int x1, .int x2, v3, v4, v5, v6, v7] [] (u, ml_h m lm) Φ else wp Ln xs 228 12 [.ref 72, .int x1, .int x2, v3, v4, v5, v6, v7] [] (u, ml_h m lm) Φ := (wp_same xd228_7 (Or.inr rfl) rfl).trans ((wp_same xd228_8 (Or.inr rfl) rfl).trans (wx_icmp xd228_9 rfl rfl (x1 < x2) mb_gt))
theorem x228_12 {x1 : Int32} {x2 : Int32} {v3 : Value} {v4 : Value} {v5 : Value} {v6 : Value} {v7 : Value} : wp Ln xs 228 12 [.ref 72, .int x1, .int x2, v3, v4, v5, v6, v7] [] (u, ml_h m lm) Φ = wp Ln xs 228 18 [.ref 72, .int x1, .int x2, v3, v4, v5, v6, v7] [.int (nI 0), .int x2, .ref 79] (u, ml_h m lm) Φ := (wp_same xd228_12 (Or.inr rfl) rfl).trans ((wm_getr xd228_13 rfl (show ml_L[72]? = _ from rfl) rfl (Nat.le_of_ble_eq_true rfl)).trans ((wp_same xd228_16 (Or.inr rfl) rfl).trans (wp_same (S' := [.int (nI 0), .int x2, .ref 79]) xd228_17 (Or.inr rfl) rfl)))
theorem x228_18 {x1 : Int32} {x2 : Int32} {v3 : Value} {v4 : Value} {v5 : Value} {v6 : Value} {v7 : Value} {xs0 : Int32} {k : Nat} (hk : k < 208) : wp Ln xs 228 18 [.ref 72, .int x1, .int x2, v3, v4, v5, v6, v7] [.int xs0, .int (nI k), .ref 79] (u, ml_h m lm) Φ = wp Ln xs 228 21 [.ref 72, .int x1, .int x2, .int (nI 1), v4, v5, v6, v7] [] (u, ml_h (ml_s m 79 k xs0) lm) Φ := (wm_iast (k := k) xd228_18 ml_ia_79 hk).trans ((wp_same (S' := [.int (nI 1)]) xd228_19 (Or.inr rfl) rfl).trans (wp_same (L' := [.ref 72, .int x1, .int x2, .int (nI 1), v4, v5, v6, v7]) xd228_20 (Or.inr rfl) rfl))
theorem x228_21 {x1 : Int32} {x2 : Int32} {x3 : Int32} {v4 : Value} {v5 : Value} {v6 : Value} {v7 : Value} : wp Ln xs 228 21 [.ref 72, .int x1, .int x2, .int x3, v4, v5, v6, v7] [] (u, ml_h m lm) Φ = if (nI 16) < x3 then wp Ln xs 228 174 [.ref 72, .int x1, .int x2, .int x3, v4, v5, v6, v7] [] (u, ml_h m lm) Φ else wp Ln xs 228 27 [.ref 72, .int x1, .int x2, .int x3, v4, v5, v6, v7] [] (u, ml_h m lm) Φ := (wp_same xd228_21 (Or.inr rfl) rfl).trans ((wp_same (S' := [.int (nI 16), .int x3]) xd228_22 (Or.inr rfl) rfl).trans (wx_icmp xd228_24 rfl rfl ((nI 16) < x3) mb_gt))
theorem x228_27 {x1 : Int32} {x2 : Int32} {x3 : Int32} {v4 : Value} {v5 : Value} {v6 : Value} {v7 : Value} : wp Ln xs 228 27 [.ref 72, .int x1, .int x2, .int x3, v4, v5, v6, v7] [] (u, ml_h m lm) Φ = if x2 < x3 then wp Ln xs 228 174 [.ref 72, .int x1, .int x2, .int x3, v4, v5, v6, v7] [] (u, ml_h m lm) Φ else wp Ln xs 228 32 [.ref 72, .int x1, .int x2, .int x3, v4, v5, v6, v7] [] (u, ml_h m lm) Φ := (wp_same xd228_27 (Or.inr rfl) rfl).trans ((wp_same xd228_28 (Or.inr rfl) rfl).trans (wx_icmp xd228_29 rfl rfl (x2 < x3) mb_gt))
theorem x228_32 {x1 : Int32} {x2 : Int32} {x3 : Int32} {v4 : Value} {v5 : Value} {v6 : Value} {v7 : Value} : wp Ln xs 228 32 [.ref 72, .int x1, .int x2, .int x3, v4, v5, v6, v7] [] (u, ml_h m lm) Φ = wp Ln xs 228 43 [.ref 72, .int x1, .int x2, .int x3, .int (x2 - x3), v5, v6, v7] [.int (x2 - x3), .ref 79] (u, ml_h m lm) Φ := (wp_same xd228_32 (Or.inr rfl) rfl).trans ((wp_same xd228_33 (Or.inr rfl) rfl).trans ((wp_same xd228_34 (Or.inr rfl) rfl).trans ((wp_same (L' := [.ref 72, .int x1, .int x2, .int x3, .int (x2 - x3), v5, v6, v7]) xd228_35 (Or.inr rfl) rfl).trans ((wp_same xd228_37 (Or.inr rfl) rfl).trans ((wm_getr xd228_38 rfl (show ml_L[72]? = _ from rfl) rfl (Nat.le_of_ble_eq_true rfl)).trans (wp_same xd228_41 (Or.inr rfl) rfl))))))
theorem x228_43 {x1 : Int32} {x2 : Int32} {x3 : Int32} {x4 : Int32} {v5 : Value} {v6 : Value} {v7 : Value} {k : Nat} (hk : k < 208) : wp Ln xs 228 43 [.ref 72, .int x1, .int x2, .int x3, .int x4, v5, v6, v7] [.int (nI k), .ref 79] (u, ml_h m lm) Φ = wp Ln xs 163 0 [.ref 72, .int x4, .int x3, mj_hole, mj_hole, mj_hole] [] (u, ml_h m lm) (mk Ln xs 228 49 [.ref 72, .int x1, .int x2, .int x3, .int x4, v5, v6, v7] [.ref 72, .int (m 79 k)] Φ) := (wm_iald (k := k) xd228_43 ml_ia_79 (by decide) hk).trans ((wp_same xd228_44 (Or.inr rfl) rfl).trans ((wp_same xd228_45 (Or.inr rfl) rfl).trans ((wp_same xd228_46 (Or.inr rfl) rfl).trans ((wp_same xd228_48 (Or.inr rfl) rfl).trans (wm_cv (As := [.int x4, .int x3]) (rest := [.ref 72, .int (m 79 k)]) xd228_49 rfl rfl (show ml_L[72]? = _ from rfl) (Nat.le_of_ble_eq_true rfl) (Nat.le_of_ble_eq_true rfl) (Nat.le_of_ble_eq_true rfl) (Nat.le_of_ble_eq_true rfl))))))
theorem x228_52 {x1 : Int32} {x2 : Int32} {x3 : Int32} {x4 : Int32} {v5 : Value} {v6 : Value} {v7 : Value} {xs0 : Int32} {xs2 : Int32} : wp Ln xs 228 52 [.ref 72, .int x1, .int x2, .int x3, .int x4, v5, v6, v7] [.int xs0, .ref 72, .int xs2] (u, ml_h m lm) Φ = wp Ln xs 164 0 [.ref 72, .int xs0, .int x4, .int x3] [] (u, ml_h m lm) (mk Ln xs 228 55 [.ref 72, .int x1, .int x2, .int x3, .int x4, v5, v6, v7] [.int xs2] Φ) := (wp_same xd228_52 (Or.inr rfl) rfl).trans ((wp_same xd228_54 (Or.inr rfl) rfl).trans (wm_cv (As := [.int xs0, .int x4, .int x3]) (rest := [.int xs2]) xd228_55 rfl rfl (show ml_L[72]? = _ from rfl) (Nat.le_of_ble_eq_true rfl) (Nat.le_of_ble_eq_true rfl) (Nat.le_of_ble_eq_true rfl) (Nat.le_of_ble_eq_true rfl)))
theorem x228_58 {x1 : Int32} {x2 : Int32} {x3 : Int32} {x4 : Int32} {v5 : Value} {v6 : Value} {v7 : Value} {xs0 : Int32} {xs1 : Int32} : wp Ln xs 228 58 [.ref 72, .int x1, .int x2, .int x3, .int x4, v5, v6, v7] [.int xs0, .int xs1] (u, ml_h m lm) Φ = wp Ln xs 228 70 [.ref 72, .int x1, .int x2, .int x3, .int x4, .int ((xs1 + xs0) + (nI 7)), v6, v7] [.int x4, .ref 80] (u, ml_h m lm) Φ := (wp_same xd228_58 (Or.inr rfl) rfl).trans ((wp_same (S' := [.int (nI 7), .int (xs1 + xs0)]) xd228_59 (Or.inr rfl) rfl).trans ((wp_same xd228_61 (Or.inr rfl) rfl).trans ((wp_same (L' := [.ref 72, .int x1, .int x2, .int x3, .int x4, .int ((xs1 + xs0) + (nI 7)), v6, v7]) xd228_62 (Or.inr rfl) rfl).trans ((wp_same xd228_64 (Or.inr rfl) rfl).trans ((wm_getr xd228_65 rfl (show ml_L[72]? = _ from rfl) rfl (Nat.le_of_ble_eq_true rfl)).trans (wp_same xd228_68 (Or.inr rfl) rfl))))))
theorem x228_70 {x1 : Int32} {x2 : Int32} {x3 : Int32} {x4 : Int32} {x5 : Int32} {v6 : Value} {v7 : Value} {k : Nat} (hk : k < 208) : wp Ln xs 228 70 [.ref 72, .int x1, .int x2, .int x3, .int x4, .int x5, v6, v7] [.int (nI k), .ref 80] (u, ml_h m lm) Φ = wp Ln xs 228 80 [.ref 72, .int x1, .int x2, .int x3, .int x4, .int x5, .int ((m 80 k) + (nI 1)), v7] [.int x2, .ref 79] (u, ml_h m lm) Φ := (wm_iald (k := k) xd228_70 ml_ia_80 (by decide) hk).trans ((wp_same (S' := [.int (nI 1), .int (m 80 k)]) xd228_71 (Or.inr rfl) rfl).trans ((wp_same xd228_72 (Or.inr rfl) rfl).trans ((wp_same (L' := [.ref 72, .int x1, .int x2, .int x3, .int x4, .int x5, .int ((m 80 k) + (nI 1)), v7]) xd228_73 (Or.inr rfl) rfl).trans ((wp_same xd228_75 (Or.inr rfl) rfl).trans ((wm_getr xd228_76 rfl (show ml_L[72]? = _ from rfl) rfl (Nat.le_of_ble_eq_true rfl)).trans (wp_same xd228_79 (Or.inr rfl) rfl))))))
theorem x228_80 {x1 : Int32} {x2 : Int32} {x3 : Int32} {x4 : Int32} {x5 : Int32} {x6 : Int32} {v7 : Value} {k : Nat} (hk : k < 208) : wp Ln xs 228 80 [.ref 72, .int x1, .int x2, .int x3, .int x4, .int x5, .int x6, v7] [.int (nI k), .ref 79] (u, ml_h m lm) Φ = if (m 79 k) = (nI 0) then wp Ln xs 228 117 [.ref 72, .int x1, .int x2, .int x3, .int x4, .int x5, .int x6, v7] [] (u, ml_h m lm) Φ else wp Ln xs 228 84 [.ref 72, .int x1, .int x2, .int x3, .int x4, .int x5, .int x6, v7] [] (u, ml_h m lm) Φ := (wm_iald (k := k) xd228_80 ml_ia_79 (by decide) hk).trans (wx_if xd228_81 rfl rfl ((m 79 k) = (nI 0)) mb_eq)
theorem x228_84 {x1 : Int32} {x2 : Int32} {x3 : Int32} {x4 : Int32} {x5 : Int32} {x6 : Int32} {v7 : Value} : wp Ln xs 228 84 [.ref 72, .int x1, .int x2, .int x3, .int x4, .int x5, .int x6, v7] [] (u, ml_h m lm) Φ = wp Ln xs 228 91 [.ref 72, .int x1, .int x2, .int x3, .int x4, .int x5, .int x6, v7] [.int x2, .ref 79, .int x5] (u, ml_h m lm) Φ := (wp_same xd228_84 (Or.inr rfl) rfl).trans ((wp_same xd228_86 (Or.inr rfl) rfl).trans ((wm_getr xd228_87 rfl (show ml_L[72]? = _ from rfl) rfl (Nat.le_of_ble_eq_true rfl)).trans (wp_same xd228_90 (Or.inr rfl) rfl)))
theorem x228_91 {x1 : Int32} {x2 : Int32} {x3 : Int32} {x4 : Int32} {x5 : Int32} {x6 : Int32} {v7 : Value} {k : Nat} {xs2 : Int32} (hk : k < 208) : wp Ln xs 228 91 [.ref 72, .int x1, .int x2, .int x3, .int x4, .int x5, .int x6, v7] [.int (nI k), .ref 79, .int xs2] (u, ml_h m lm) Φ = if xs2 < (m 79 k) then wp Ln xs 228 117 [.ref 72, .int x1, .int x2, .int x3, .int x4, .int x5, .int x6, v7] [] (u, ml_h m lm) Φ else wp Ln xs 228 95 [.ref 72, .int x1, .int x2, .int x3, .int x4, .int x5, .int x6, v7] [] (u, ml_h m lm) Φ := (wm_iald (k := k) xd228_91 ml_ia_79 (by decide) hk).trans (wx_icmp xd228_92 rfl rfl (xs2 < (m 79 k)) mb_lt)
theorem x228_95 {x1 : Int32} {x2 : Int32} {x3 : Int32} {x4 : Int32} {x5 : Int32} {x6 : Int32} {v7 : Value} : wp Ln xs 228 95 [.ref 72, .int x1, .int x2, .int x3, .int x4, .int x5, .int x6, v7] [] (u, ml_h m lm) Φ = wp Ln xs 228 102 [.ref 72, .int x1, .int x2, .int x3, .int x4, .int x5, .int x6, v7] [.int x2, .ref 79, .int x5] (u, ml_h m lm) Φ := (wp_same xd228_95 (Or.inr rfl) rfl).trans ((wp_same xd228_97 (Or.inr rfl) rfl).trans ((wm_getr xd228_98 rfl (show ml_L[72]? = _ from rfl) rfl (Nat.le_of_ble_eq_true rfl)).trans (wp_same xd228_101 (Or.inr rfl) rfl)))
theorem x228_102 {x1 : Int32} {x2 : Int32} {x3 : Int32} {x4 : Int32} {x5 : Int32} {x6 : Int32} {v7 : Value} {k : Nat} {xs2 : Int32} (hk : k < 208) : wp Ln xs 228 102 [.ref 72, .int x1, .int x2, .int x3, .int x4, .int x5, .int x6, v7] [.int (nI k), .ref 79, .int xs2] (u, ml_h m lm) Φ = if ¬ xs2 = (m 79 k) then wp Ln xs 228 121 [.ref 72, .int x1, .int x2, .int x3, .int x4, .int x5, .int x6, v7] [] (u, ml_h m lm) Φ else wp Ln xs 228 106 [.ref 72, .int x1, .int x2, .int x3, .int x4, .int x5, .int x6, v7] [] (u, ml_h m lm) Φ := (wm_iald (k := k) xd228_102 ml_ia_79 (by decide) hk).trans (wx_icmp xd228_103 rfl rfl (¬ xs2 = (m 79 k)) mb_ne)
theorem x228_106 {x1 : Int32} {x2 : Int32} {x3 : Int32} {x4 : Int32} {x5 : Int32} {x6 : Int32} {v7 : Value} : wp Ln xs 228 106 [.ref 72, .int x1, .int x2, .int x3, .int x4, .int x5, .int x6, v7] [] (u, ml_h m lm) Φ = wp Ln xs 228 113 [.ref 72, .int x1, .int x2, .int x3, .int x4, .int x5, .int x6, v7] [.int x2, .ref 80, .int x6] (u, ml_h m lm) Φ := (wp_same xd228_106 (Or.inr rfl) rfl).trans ((wp_same xd228_108 (Or.inr rfl) rfl).trans ((wm_getr xd228_109 rfl (show ml_L[72]? = _ from rfl) rfl (Nat.le_of_ble_eq_true rfl)).trans (wp_same xd228_112 (Or.inr rfl) rfl)))
theorem x228_113 {x1 : Int32} {x2 : Int32} {x3 : Int32} {x4 : Int32} {x5 : Int32} {x6 : Int32} {v7 : Value} {k : Nat} {xs2 : Int32} (hk : k < 208) : wp Ln xs 228 113 [.ref 72, .int x1, .int x2, .int x3, .int x4, .int x5, .int x6, v7] [.int (nI k), .ref 80, .int xs2] (u, ml_h m lm) Φ = if (m 80 k) ≤ xs2 then wp Ln xs 228 121 [.ref 72, .int x1, .int x2, .int x3, .int x4, .int x5, .int x6, v7] [] (u, ml_h m lm) Φ else wp Ln xs 228 117 [.ref 72, .int x1, .int x2, .int x3, .int x4, .int x5, .int x6, v7] [] (u, ml_h m lm) Φ := (wm_iald (k := k) xd228_113 ml_ia_80 (by decide) hk).trans (wx_icmp xd228_114 rfl rfl ((m 80 k) ≤ xs2) mb_ge)
theorem x228_117 {x1 : Int32} {x2 : Int32} {x3 : Int32} {x4 : Int32} {x5 : Int32} {x6 : Int32} {v7 : Value} : wp Ln xs 228 117 [.ref 72, .int x1, .int x2, .int x3, .int x4, .int x5, .int x6, v7] [] (u, ml_h m lm) Φ = wp Ln xs 228 122 [.ref 72, .int x1, .int x2, .int x3, .int x4, .int x5, .int x6, v7] [.int (nI 1)] (u, ml_h m lm) Φ := (wp_same (S' := [.int (nI 1)]) xd228_117 (Or.inr rfl) rfl).trans (wx_goto xd228_118 rfl)
theorem x228_121 {x1 : Int32} {x2 : Int32} {x3 : Int32} {x4 : Int32} {x5 : Int32} {x6 : Int32} {v7 : Value} : wp Ln xs 228 121 [.ref 72, .int x1, .int x2, .int x3, .int x4, .int x5, .int x6, v7] [] (u, ml_h m lm) Φ = wp Ln xs 228 122 [.ref 72, .int x1, .int x2, .int x3, .int x4, .int x5, .int x6, v7] [.int (nI 0)] (u, ml_h m lm) Φ := wp_same (S' := [.int (nI 0)]) xd228_121 (Or.inr rfl) rfl
theorem x228_122 {x1 : Int32} {x2 : Int32} {x3 : Int32} {x4 : Int32} {x5 : Int32} {x6 : Int32} {v7 : Value} {xs0 : Int32} : wp Ln xs 228 122 [.ref 72, .int x1, .int x2, .int x3, .int x4, .int x5, .int x6, v7] [.int xs0] (u, ml_h m lm) Φ = if xs0 = (nI 0) then wp Ln xs 228 139 [.ref 72, .int x1, .int x2, .int x3, .int x4, .int x5, .int x6, .int xs0] [.int x2, .ref 79] (u, ml_h m lm) Φ else wp Ln xs 228 134 [.ref 72, .int x1, .int x2, .int x3, .int x4, .int x5, .int x6, .int xs0] [.int x2, .ref 79] (u, ml_h m lm) Φ := (wp_same (L' := [.ref 72, .int x1, .int x2, .int x3, .int x4, .int x5, .int x6, .int xs0]) xd228_122 (Or.inr rfl) rfl).trans ((wp_same xd228_124 (Or.inr rfl) rfl).trans ((wm_getr xd228_125 rfl (show ml_L[72]? = _ from rfl) rfl (Nat.le_of_ble_eq_true rfl)).trans ((wp_same xd228_128 (Or.inr rfl) rfl).trans ((wp_same xd228_129 (Or.inr rfl) rfl).trans (wx_if xd228_131 rfl rfl (xs0 = (nI 0)) mb_eq)))))
theorem x228_134 {x1 : Int32} {x2 : Int32} {x3 : Int32} {x4 : Int32} {x5 : Int32} {x6 : Int32} {x7 : Int32} {xs0 : Int32} : wp Ln xs 228 134 [.ref 72, .int x1, .int x2, .int x3, .int x4, .int x5, .int x6, .int x7] [.int xs0, .ref 79] (u, ml_h m lm) Φ = wp Ln xs 228 145 [.ref 72, .int x1, .int x2, .int x3, .int x4, .int x5, .int x6, .int x7] [.int x5, .int xs0, .ref 79] (u, ml_h m lm) Φ := (wp_same xd228_134 (Or.inr rfl) rfl).trans (wx_goto xd228_136 rfl)
theorem x228_139 {x1 : Int32} {x2 : Int32} {x3 : Int32} {x4 : Int32} {x5 : Int32} {x6 : Int32} {x7 : Int32} {xs0 : Int32} : wp Ln xs 228 139 [.ref 72, .int x1, .int x2, .int x3, .int x4, .int x5, .int x6, .int x7] [.int xs0, .ref 79] (u, ml_h m lm) Φ = wp Ln xs 228 144 [.ref 72, .int x1, .int x2, .int x3, .int x4, .int x5, .int x6, .int x7] [.int x2, .ref 79, .int xs0, .ref 79] (u, ml_h m lm) Φ := (wp_same xd228_139 (Or.inr rfl) rfl).trans ((wm_getr xd228_140 rfl (show ml_L[72]? = _ from rfl) rfl (Nat.le_of_ble_eq_true rfl)).trans (wp_same xd228_143 (Or.inr rfl) rfl))
theorem x228_144 {x1 : Int32} {x2 : Int32} {x3 : Int32} {x4 : Int32} {x5 : Int32} {x6 : Int32} {x7 : Int32} {k : Nat} {xs2 : Int32} (hk : k < 208) : wp Ln xs 228 144 [.ref 72, .int x1, .int x2, .int x3, .int x4, .int x5, .int x6, .int x7] [.int (nI k), .ref 79, .int xs2, .ref 79] (u, ml_h m lm) Φ = wp Ln xs 228 145 [.ref 72, .int x1, .int x2, .int x3, .int x4, .int x5, .int x6, .int x7] [.int (m 79 k), .int xs2, .ref 79] (u, ml_h m lm) Φ := wm_iald (k := k) xd228_144 ml_ia_79 (by decide) hk
theorem x228_145 {x1 : Int32} {x2 : Int32} {x3 : Int32} {x4 : Int32} {x5 : Int32} {x6 : Int32} {x7 : Int32} {xs0 : Int32} {k : Nat} (hk : k < 208) : wp Ln xs 228 145 [.ref 72, .int x1, .int x2, .int x3, .int x4, .int x5, .int x6, .int x7] [.int xs0, .int (nI k), .ref 79] (u, ml_h m lm) Φ = if x7 = (nI 0) then wp Ln xs 228 161 [.ref 72, .int x1, .int x2, .int x3, .int x4, .int x5, .int x6, .int x7] [.int x2, .ref 80] (u, ml_h (ml_s m 79 k xs0) lm) Φ else wp Ln xs 228 156 [.ref 72, .int x1, .int x2, .int x3, .int x4, .int x5, .int x6, .int x7] [.int x2, .ref 80] (u, ml_h (ml_s m 79 k xs0) lm) Φ := (wm_iast (k := k) xd228_145 ml_ia_79 hk).trans ((wp_same xd228_146 (Or.inr rfl) rfl).trans ((wm_getr xd228_147 rfl (show ml_L[72]? = _ from rfl) rfl (Nat.le_of_ble_eq_true rfl)).trans ((wp_same xd228_150 (Or.inr rfl) rfl).trans ((wp_same xd228_151 (Or.inr rfl) rfl).trans (wx_if xd228_153 rfl rfl (x7 = (nI 0)) mb_eq)))))
theorem x228_156 {x1 : Int32} {x2 : Int32} {x3 : Int32} {x4 : Int32} {x5 : Int32} {x6 : Int32} {x7 : Int32} {xs0 : Int32} : wp Ln xs 228 156 [.ref 72, .int x1, .int x2, .int x3, .int x4, .int x5, .int x6, .int x7] [.int xs0, .ref 80] (u, ml_h m lm) Φ = wp Ln xs 228 167 [.ref 72, .int x1, .int x2, .int x3, .int x4, .int x5, .int x6, .int x7] [.int x6, .int xs0, .ref 80] (u, ml_h m lm) Φ := (wp_same xd228_156 (Or.inr rfl) rfl).trans (wx_goto xd228_158 rfl)
theorem x228_161 {x1 : Int32} {x2 : Int32} {x3 : Int32} {x4 : Int32} {x5 : Int32} {x6 : Int32} {x7 : Int32} {xs0 : Int32} : wp Ln xs 228 161 [.ref 72, .int x1, .int x2, .int x3, .int x4, .int x5, .int x6, .int x7] [.int xs0, .ref 80] (u, ml_h m lm) Φ = wp Ln xs 228 166 [.ref 72, .int x1, .int x2, .int x3, .int x4, .int x5, .int x6, .int x7] [.int x2, .ref 80, .int xs0, .ref 80] (u, ml_h m lm) Φ := (wp_same xd228_161 (Or.inr rfl) rfl).trans ((wm_getr xd228_162 rfl (show ml_L[72]? = _ from rfl) rfl (Nat.le_of_ble_eq_true rfl)).trans (wp_same xd228_165 (Or.inr rfl) rfl))
theorem x228_166 {x1 : Int32} {x2 : Int32} {x3 : Int32} {x4 : Int32} {x5 : Int32} {x6 : Int32} {x7 : Int32} {k : Nat} {xs2 : Int32} (hk : k < 208) : wp Ln xs 228 166 [.ref 72, .int x1, .int x2, .int x3, .int x4, .int x5, .int x6, .int x7] [.int (nI k), .ref 80, .int xs2, .ref 80] (u, ml_h m lm) Φ = wp Ln xs 228 167 [.ref 72, .int x1, .int x2, .int x3, .int x4, .int x5, .int x6, .int x7] [.int (m 80 k), .int xs2, .ref 80] (u, ml_h m lm) Φ := wm_iald (k := k) xd228_166 ml_ia_80 (by decide) hk
theorem x228_167 {x1 : Int32} {x2 : Int32} {x3 : Int32} {x4 : Int32} {x5 : Int32} {x6 : Int32} {x7 : Int32} {xs0 : Int32} {k : Nat} (hk : k < 208) : wp Ln xs 228 167 [.ref 72, .int x1, .int x2, .int x3, .int x4, .int x5, .int x6, .int x7] [.int xs0, .int (nI k), .ref 80] (u, ml_h m lm) Φ = wp Ln xs 228 21 [.ref 72, .int x1, .int x2, .int (x3 + nI 1), .int x4, .int x5, .int x6, .int x7] [] (u, ml_h (ml_s m 80 k xs0) lm) Φ := (wm_iast (k := k) xd228_167 ml_ia_80 hk).trans ((wp_same (L' := [.ref 72, .int x1, .int x2, .int (x3 + nI 1), .int x4, .int x5, .int x6, .int x7]) xd228_168 (Or.inr rfl) rfl).trans (wx_goto xd228_171 rfl))
theorem x228_174 {x1 : Int32} {x2 : Int32} {x3 : Int32} {v4 : Value} {v5 : Value} {v6 : Value} {v7 : Value} : wp Ln xs 228 174 [.ref 72, .int x1, .int x2, .int x3, v4, v5, v6, v7] [] (u, ml_h m lm) Φ = wp Ln xs 228 7 [.ref 72, .int x1, .int (x2 + nI 1), .int x3, v4, v5, v6, v7] [] (u, ml_h m lm) Φ := (wp_same (L' := [.ref 72, .int x1, .int (x2 + nI 1), .int x3, v4, v5, v6, v7]) xd228_174 (Or.inr rfl) rfl).trans (wx_goto xd228_177 rfl)
theorem x228_180 {x1 : Int32} {x2 : Int32} {v3 : Value} {v4 : Value} {v5 : Value} {v6 : Value} {v7 : Value} : wp Ln xs 228 180 [.ref 72, .int x1, .int x2, v3, v4, v5, v6, v7] [] (u, ml_h m lm) Φ = Φ (.inl none) (u, ml_h m lm) := wp_fin (v := none) xd228_180 (Or.inr rfl) rfl rfl
/- PickedFormsModel.sizeShare -/
theorem xd229_0 : decode (mj_b 229) 0 = .ok (.aload_n 0, 1) := by decide +kernel
theorem xd229_1 : decode (mj_b 229) 1 = .ok (.iconst 0, 1) := by decide +kernel
theorem xd229_2 : decode (mj_b 229) 2 = .ok (.putfield 34, 3) := by decide +kernel
theorem xd229_5 : decode (mj_b 229) 5 = .ok (.aload_n 0, 1) := by decide +kernel
theorem xd229_6 : decode (mj_b 229) 6 = .ok (.invokevirtual 237, 3) := by decide +kernel
theorem xd229_9 : decode (mj_b 229) 9 = .ok (.dreturn, 1) := by decide +kernel
theorem x229_0 : wp Ln xs 229 0 [.ref 72] [] (u, ml_h m lm) Φ = wp Ln xs 230 0 [.ref 72] [] (u, ml_h (ml_s m 72 8 (nI 0)) lm) (mk Ln xs 229 6 [.ref 72] [] Φ) := (wp_same xd229_0 (Or.inr rfl) rfl).trans ((wp_same (S' := [.int (nI 0), .ref 72]) xd229_1 (Or.inr rfl) rfl).trans ((wm_puti xd229_2 rfl (show ml_L[72]? = _ from rfl) rfl (Nat.le_of_ble_eq_true rfl) rfl rfl rfl).trans ((wp_same xd229_5 (Or.inr rfl) rfl).trans (wm_cv (As := []) (rest := []) xd229_6 rfl rfl (show ml_L[72]? = _ from rfl) (Nat.le_of_ble_eq_true rfl) (Nat.le_of_ble_eq_true rfl) (Nat.le_of_ble_eq_true rfl) (Nat.le_of_ble_eq_true rfl)))))
theorem x229_9 {zs0 : UInt64} : wp Ln xs 229 9 [.ref 72] [.double zs0] (u, ml_h m lm) Φ = Φ (.inl (some (.double zs0))) (u, ml_h m lm) := wp_fin (v := some (.double zs0)) xd229_9 (Or.inr rfl) rfl rfl
/- PickedFormsModel.shareTold -/
theorem xd230_0 : decode (mj_b 230) 0 = .ok (.aload_n 0, 1) := by decide +kernel
theorem xd230_1 : decode (mj_b 230) 1 = .ok (.invokevirtual 96, 3) := by decide +kernel
theorem xd230_4 : decode (mj_b 230) 4 = .ok (.ifCond .ne 7, 3) := by decide +kernel
theorem xd230_7 : decode (mj_b 230) 7 = .ok (.dconst 1, 1) := by decide +kernel
theorem xd230_8 : decode (mj_b 230) 8 = .ok (.goto 17, 3) := by decide +kernel
theorem xd230_11 : decode (mj_b 230) 11 = .ok (.aload_n 0, 1) := by decide +kernel
theorem xd230_12 : decode (mj_b 230) 12 = .ok (.invokevirtual 210, 3) := by decide +kernel
theorem xd230_15 : decode (mj_b 230) 15 = .ok (.i2d, 1) := by decide +kernel
theorem xd230_16 : decode (mj_b 230) 16 = .ok (.bipush 10, 2) := by decide +kernel
theorem xd230_18 : decode (mj_b 230) 18 = .ok (.aload_n 0, 1) := by decide +kernel
theorem xd230_19 : decode (mj_b 230) 19 = .ok (.invokevirtual 96, 3) := by decide +kernel
theorem xd230_22 : decode (mj_b 230) 22 = .ok (.imul, 1) := by decide +kernel
theorem xd230_23 : decode (mj_b 230) 23 = .ok (.i2d, 1) := by decide +kernel
theorem xd230_24 : decode (mj_b 230) 24 = .ok (.ddiv, 1) := by decide +kernel
theorem xd230_25 : decode (mj_b 230) 25 = .ok (.dreturn, 1) := by decide +kernel
theorem x230_0 : wp Ln xs 230 0 [.ref 72] [] (u, ml_h m lm) Φ = wp Ln xs 158 0 [.ref 72] [] (u, ml_h m lm) (mk Ln xs 230 1 [.ref 72] [] Φ) := (wp_same xd230_0 (Or.inr rfl) rfl).trans (wm_cv (As := []) (rest := []) xd230_1 rfl rfl (show ml_L[72]? = _ from rfl) (Nat.le_of_ble_eq_true rfl) (Nat.le_of_ble_eq_true rfl) (Nat.le_of_ble_eq_true rfl) (Nat.le_of_ble_eq_true rfl))
theorem x230_4 {xs0 : Int32} : wp Ln xs 230 4 [.ref 72] [.int xs0] (u, ml_h m lm) Φ = if ¬ xs0 = (nI 0) then wp Ln xs 230 11 [.ref 72] [] (u, ml_h m lm) Φ else wp Ln xs 230 7 [.ref 72] [] (u, ml_h m lm) Φ := wx_if xd230_4 rfl rfl (¬ xs0 = (nI 0)) mb_ne
theorem x230_7 : wp Ln xs 230 7 [.ref 72] [] (u, ml_h m lm) Φ = Φ (.inl (some (.double FP.dconst1))) (u, ml_h m lm) := (wp_same xd230_7 (Or.inr rfl) rfl).trans ((wx_goto xd230_8 rfl).trans (wp_fin (v := some (.double FP.dconst1)) xd230_25 (Or.inr rfl) rfl rfl))
theorem x230_11 : wp Ln xs 230 11 [.ref 72] [] (u, ml_h m lm) Φ = wp Ln xs 216 0 [.ref 72, mj_hole, mj_hole] [] (u, ml_h m lm) (mk Ln xs 230 12 [.ref 72] [] Φ) := (wp_same xd230_11 (Or.inr rfl) rfl).trans (wm_cv (As := []) (rest := []) xd230_12 rfl rfl (show ml_L[72]? = _ from rfl) (Nat.le_of_ble_eq_true rfl) (Nat.le_of_ble_eq_true rfl) (Nat.le_of_ble_eq_true rfl) (Nat.le_of_ble_eq_true rfl))
theorem x230_15 {xs0 : Int32} : wp Ln xs 230 15 [.ref 72] [.int xs0] (u, ml_h m lm) Φ = wp Ln xs 158 0 [.ref 72] [] (u, ml_h m lm) (mk Ln xs 230 19 [.ref 72] [.int (nI 10), .double (FP.i2d xs0)] Φ) := (wp_same xd230_15 (Or.inr rfl) rfl).trans ((wp_same (S' := [.int (nI 10), .double (FP.i2d xs0)]) xd230_16 (Or.inr rfl) rfl).trans ((wp_same xd230_18 (Or.inr rfl) rfl).trans (wm_cv (As := []) (rest := [.int (nI 10), .double (FP.i2d xs0)]) xd230_19 rfl rfl (show ml_L[72]? = _ from rfl) (Nat.le_of_ble_eq_true rfl) (Nat.le_of_ble_eq_true rfl) (Nat.le_of_ble_eq_true rfl) (Nat.le_of_ble_eq_true rfl))))
theorem x230_22 {xs0 : Int32} {xs1 : Int32} {zs2 : UInt64} (hn0 : FP.ddiv zs2 (FP.i2d (xs1 * xs0)) &&& 0x7fffffffffffffff ≤ 0x7ff0000000000000) : wp Ln xs 230 22 [.ref 72] [.int xs0, .int xs1, .double zs2] (u, ml_h m lm) Φ = Φ (.inl (some (.double (FP.ddiv zs2 (FP.i2d (xs1 * xs0)))))) (u, ml_h m lm) := (wp_same xd230_22 (Or.inr rfl) rfl).trans ((wp_same xd230_23 (Or.inr rfl) rfl).trans ((wx_ddiv xd230_24 hn0).trans (wp_fin (v := some (.double (FP.ddiv zs2 (FP.i2d (xs1 * xs0))))) xd230_25 (Or.inr rfl) rfl rfl)))
/- PickedFormsModel.meanBits -/
theorem xd231_0 : decode (mj_b 231) 0 = .ok (.aload_n 0, 1) := by decide +kernel
theorem xd231_1 : decode (mj_b 231) 1 = .ok (.iconst 0, 1) := by decide +kernel
theorem xd231_2 : decode (mj_b 231) 2 = .ok (.putfield 34, 3) := by decide +kernel
theorem xd231_5 : decode (mj_b 231) 5 = .ok (.aload_n 0, 1) := by decide +kernel
theorem xd231_6 : decode (mj_b 231) 6 = .ok (.invokevirtual 241, 3) := by decide +kernel
theorem xd231_9 : decode (mj_b 231) 9 = .ok (.freturn, 1) := by decide +kernel
theorem x231_0 : wp Ln xs 231 0 [.ref 72] [] (u, ml_h m lm) Φ = wp Ln xs 232 0 [.ref 72] [] (u, ml_h (ml_s m 72 8 (nI 0)) lm) (mk Ln xs 231 6 [.ref 72] [] Φ) := (wp_same xd231_0 (Or.inr rfl) rfl).trans ((wp_same (S' := [.int (nI 0), .ref 72]) xd231_1 (Or.inr rfl) rfl).trans ((wm_puti xd231_2 rfl (show ml_L[72]? = _ from rfl) rfl (Nat.le_of_ble_eq_true rfl) rfl rfl rfl).trans ((wp_same xd231_5 (Or.inr rfl) rfl).trans (wm_cv (As := []) (rest := []) xd231_6 rfl rfl (show ml_L[72]? = _ from rfl) (Nat.le_of_ble_eq_true rfl) (Nat.le_of_ble_eq_true rfl) (Nat.le_of_ble_eq_true rfl) (Nat.le_of_ble_eq_true rfl)))))
theorem x231_9 {zs0 : UInt32} : wp Ln xs 231 9 [.ref 72] [.float zs0] (u, ml_h m lm) Φ = Φ (.inl (some (.float zs0))) (u, ml_h m lm) := wp_fin (v := some (.float zs0)) xd231_9 (Or.inr rfl) rfl rfl
/- PickedFormsModel.meanTold -/
theorem xd232_0 : decode (mj_b 232) 0 = .ok (.aload_n 0, 1) := by decide +kernel
theorem xd232_1 : decode (mj_b 232) 1 = .ok (.invokevirtual 96, 3) := by decide +kernel
theorem xd232_4 : decode (mj_b 232) 4 = .ok (.ifCond .ne 7, 3) := by decide +kernel
theorem xd232_7 : decode (mj_b 232) 7 = .ok (.fconst 0, 1) := by decide +kernel
theorem xd232_8 : decode (mj_b 232) 8 = .ok (.goto 14, 3) := by decide +kernel
theorem xd232_11 : decode (mj_b 232) 11 = .ok (.aload_n 0, 1) := by decide +kernel
theorem xd232_12 : decode (mj_b 232) 12 = .ok (.invokevirtual 210, 3) := by decide +kernel
theorem xd232_15 : decode (mj_b 232) 15 = .ok (.i2f, 1) := by decide +kernel
theorem xd232_16 : decode (mj_b 232) 16 = .ok (.aload_n 0, 1) := by decide +kernel
theorem xd232_17 : decode (mj_b 232) 17 = .ok (.invokevirtual 96, 3) := by decide +kernel
theorem xd232_20 : decode (mj_b 232) 20 = .ok (.i2f, 1) := by decide +kernel
theorem xd232_21 : decode (mj_b 232) 21 = .ok (.fdiv, 1) := by decide +kernel
theorem xd232_22 : decode (mj_b 232) 22 = .ok (.freturn, 1) := by decide +kernel
theorem x232_0 : wp Ln xs 232 0 [.ref 72] [] (u, ml_h m lm) Φ = wp Ln xs 158 0 [.ref 72] [] (u, ml_h m lm) (mk Ln xs 232 1 [.ref 72] [] Φ) := (wp_same xd232_0 (Or.inr rfl) rfl).trans (wm_cv (As := []) (rest := []) xd232_1 rfl rfl (show ml_L[72]? = _ from rfl) (Nat.le_of_ble_eq_true rfl) (Nat.le_of_ble_eq_true rfl) (Nat.le_of_ble_eq_true rfl) (Nat.le_of_ble_eq_true rfl))
theorem x232_4 {xs0 : Int32} : wp Ln xs 232 4 [.ref 72] [.int xs0] (u, ml_h m lm) Φ = if ¬ xs0 = (nI 0) then wp Ln xs 232 11 [.ref 72] [] (u, ml_h m lm) Φ else wp Ln xs 232 7 [.ref 72] [] (u, ml_h m lm) Φ := wx_if xd232_4 rfl rfl (¬ xs0 = (nI 0)) mb_ne
theorem x232_7 : wp Ln xs 232 7 [.ref 72] [] (u, ml_h m lm) Φ = Φ (.inl (some (.float FP.fconst0))) (u, ml_h m lm) := (wp_same xd232_7 (Or.inr rfl) rfl).trans ((wx_goto xd232_8 rfl).trans (wp_fin (v := some (.float FP.fconst0)) xd232_22 (Or.inr rfl) rfl rfl))
theorem x232_11 : wp Ln xs 232 11 [.ref 72] [] (u, ml_h m lm) Φ = wp Ln xs 216 0 [.ref 72, mj_hole, mj_hole] [] (u, ml_h m lm) (mk Ln xs 232 12 [.ref 72] [] Φ) := (wp_same xd232_11 (Or.inr rfl) rfl).trans (wm_cv (As := []) (rest := []) xd232_12 rfl rfl (show ml_L[72]? = _ from rfl) (Nat.le_of_ble_eq_true rfl) (Nat.le_of_ble_eq_true rfl) (Nat.le_of_ble_eq_true rfl) (Nat.le_of_ble_eq_true rfl))
theorem x232_15 {xs0 : Int32} : wp Ln xs 232 15 [.ref 72] [.int xs0] (u, ml_h m lm) Φ = wp Ln xs 158 0 [.ref 72] [] (u, ml_h m lm) (mk Ln xs 232 17 [.ref 72] [.float (FP.i2f xs0)] Φ) := (wp_same xd232_15 (Or.inr rfl) rfl).trans ((wp_same xd232_16 (Or.inr rfl) rfl).trans (wm_cv (As := []) (rest := [.float (FP.i2f xs0)]) xd232_17 rfl rfl (show ml_L[72]? = _ from rfl) (Nat.le_of_ble_eq_true rfl) (Nat.le_of_ble_eq_true rfl) (Nat.le_of_ble_eq_true rfl) (Nat.le_of_ble_eq_true rfl)))
theorem x232_20 {xs0 : Int32} {zs1 : UInt32} (hn0 : FP.fdiv zs1 (FP.i2f xs0) &&& 0x7fffffff ≤ 0x7f800000) : wp Ln xs 232 20 [.ref 72] [.int xs0, .float zs1] (u, ml_h m lm) Φ = Φ (.inl (some (.float (FP.fdiv zs1 (FP.i2f xs0))))) (u, ml_h m lm) := (wp_same xd232_20 (Or.inr rfl) rfl).trans ((wx_fdiv xd232_21 hn0).trans (wp_fin (v := some (.float (FP.fdiv zs1 (FP.i2f xs0)))) xd232_22 (Or.inr rfl) rfl rfl))
/- PickedFormsModel.digest -/
theorem xd233_0 : decode (mj_b 233) 0 = .ok (.aload_n 0, 1) := by decide +kernel
theorem xd233_1 : decode (mj_b 233) 1 = .ok (.iconst 0, 1) := by decide +kernel
theorem xd233_2 : decode (mj_b 233) 2 = .ok (.putfield 34, 3) := by decide +kernel
theorem xd233_5 : decode (mj_b 233) 5 = .ok (.aload_n 0, 1) := by decide +kernel
theorem xd233_6 : decode (mj_b 233) 6 = .ok (.ldc2_w 265, 3) := by decide +kernel
theorem xd233_9 : decode (mj_b 233) 9 = .ok (.putfield 257, 3) := by decide +kernel
theorem xd233_12 : decode (mj_b 233) 12 = .ok (.iconst 0, 1) := by decide +kernel
theorem xd233_13 : decode (mj_b 233) 13 = .ok (.istore_n 1, 1) := by decide +kernel
theorem xd233_14 : decode (mj_b 233) 14 = .ok (.iload_n 1, 1) := by decide +kernel
theorem xd233_15 : decode (mj_b 233) 15 = .ok (.bipush 9, 2) := by decide +kernel
theorem xd233_17 : decode (mj_b 233) 17 = .ok (.if_icmp .ge 19, 3) := by decide +kernel
theorem xd233_20 : decode (mj_b 233) 20 = .ok (.aload_n 0, 1) := by decide +kernel
theorem xd233_21 : decode (mj_b 233) 21 = .ok (.aload_n 0, 1) := by decide +kernel
theorem xd233_22 : decode (mj_b 233) 22 = .ok (.iload_n 1, 1) := by decide +kernel
theorem xd233_23 : decode (mj_b 233) 23 = .ok (.invokevirtual 219, 3) := by decide +kernel
theorem xd233_26 : decode (mj_b 233) 26 = .ok (.i2l, 1) := by decide +kernel
theorem xd233_27 : decode (mj_b 233) 27 = .ok (.invokevirtual 261, 3) := by decide +kernel
theorem xd233_30 : decode (mj_b 233) 30 = .ok (.iinc 1 1, 3) := by decide +kernel
theorem xd233_33 : decode (mj_b 233) 33 = .ok (.goto (-19), 3) := by decide +kernel
theorem xd233_36 : decode (mj_b 233) 36 = .ok (.iconst 0, 1) := by decide +kernel
theorem xd233_37 : decode (mj_b 233) 37 = .ok (.istore_n 1, 1) := by decide +kernel
theorem xd233_38 : decode (mj_b 233) 38 = .ok (.iload_n 1, 1) := by decide +kernel
theorem xd233_39 : decode (mj_b 233) 39 = .ok (.iconst 3, 1) := by decide +kernel
theorem xd233_40 : decode (mj_b 233) 40 = .ok (.if_icmp .ge 22, 3) := by decide +kernel
theorem xd233_43 : decode (mj_b 233) 43 = .ok (.aload_n 0, 1) := by decide +kernel
theorem xd233_44 : decode (mj_b 233) 44 = .ok (.aload_n 0, 1) := by decide +kernel
theorem xd233_45 : decode (mj_b 233) 45 = .ok (.getfield 7, 3) := by decide +kernel
theorem xd233_48 : decode (mj_b 233) 48 = .ok (.iconst 2, 1) := by decide +kernel
theorem xd233_49 : decode (mj_b 233) 49 = .ok (.iload_n 1, 1) := by decide +kernel
theorem xd233_50 : decode (mj_b 233) 50 = .ok (.iadd, 1) := by decide +kernel
theorem xd233_51 : decode (mj_b 233) 51 = .ok (.iaload, 1) := by decide +kernel
theorem xd233_52 : decode (mj_b 233) 52 = .ok (.i2l, 1) := by decide +kernel
theorem xd233_53 : decode (mj_b 233) 53 = .ok (.invokevirtual 261, 3) := by decide +kernel
theorem xd233_56 : decode (mj_b 233) 56 = .ok (.iinc 1 1, 3) := by decide +kernel
theorem xd233_59 : decode (mj_b 233) 59 = .ok (.goto (-21), 3) := by decide +kernel
theorem xd233_62 : decode (mj_b 233) 62 = .ok (.iconst 0, 1) := by decide +kernel
theorem xd233_63 : decode (mj_b 233) 63 = .ok (.istore_n 1, 1) := by decide +kernel
theorem xd233_64 : decode (mj_b 233) 64 = .ok (.iload_n 1, 1) := by decide +kernel
theorem xd233_65 : decode (mj_b 233) 65 = .ok (.iconst 4, 1) := by decide +kernel
theorem xd233_66 : decode (mj_b 233) 66 = .ok (.aload_n 0, 1) := by decide +kernel
theorem xd233_67 : decode (mj_b 233) 67 = .ok (.invokevirtual 96, 3) := by decide +kernel
theorem xd233_70 : decode (mj_b 233) 70 = .ok (.imul, 1) := by decide +kernel
theorem xd233_71 : decode (mj_b 233) 71 = .ok (.if_icmp .ge 24, 3) := by decide +kernel
theorem xd233_74 : decode (mj_b 233) 74 = .ok (.aload_n 0, 1) := by decide +kernel
theorem xd233_75 : decode (mj_b 233) 75 = .ok (.aload_n 0, 1) := by decide +kernel
theorem xd233_76 : decode (mj_b 233) 76 = .ok (.iload_n 1, 1) := by decide +kernel
theorem xd233_77 : decode (mj_b 233) 77 = .ok (.iconst 4, 1) := by decide +kernel
theorem xd233_78 : decode (mj_b 233) 78 = .ok (.idiv, 1) := by decide +kernel
theorem xd233_79 : decode (mj_b 233) 79 = .ok (.iload_n 1, 1) := by decide +kernel
theorem xd233_80 : decode (mj_b 233) 80 = .ok (.iconst 4, 1) := by decide +kernel
theorem xd233_81 : decode (mj_b 233) 81 = .ok (.irem, 1) := by decide +kernel
theorem xd233_82 : decode (mj_b 233) 82 = .ok (.invokevirtual 185, 3) := by decide +kernel
theorem xd233_85 : decode (mj_b 233) 85 = .ok (.i2l, 1) := by decide +kernel
theorem xd233_86 : decode (mj_b 233) 86 = .ok (.invokevirtual 261, 3) := by decide +kernel
theorem xd233_89 : decode (mj_b 233) 89 = .ok (.iinc 1 1, 3) := by decide +kernel
theorem xd233_92 : decode (mj_b 233) 92 = .ok (.goto (-28), 3) := by decide +kernel
theorem xd233_95 : decode (mj_b 233) 95 = .ok (.iconst 0, 1) := by decide +kernel
theorem xd233_96 : decode (mj_b 233) 96 = .ok (.istore_n 1, 1) := by decide +kernel
theorem xd233_97 : decode (mj_b 233) 97 = .ok (.iload_n 1, 1) := by decide +kernel
theorem xd233_98 : decode (mj_b 233) 98 = .ok (.aload_n 0, 1) := by decide +kernel
theorem xd233_99 : decode (mj_b 233) 99 = .ok (.getfield 7, 3) := by decide +kernel
theorem xd233_102 : decode (mj_b 233) 102 = .ok (.iconst 0, 1) := by decide +kernel
theorem xd233_103 : decode (mj_b 233) 103 = .ok (.iaload, 1) := by decide +kernel
theorem xd233_104 : decode (mj_b 233) 104 = .ok (.if_icmp .ge 14, 3) := by decide +kernel
theorem xd233_107 : decode (mj_b 233) 107 = .ok (.aload_n 0, 1) := by decide +kernel
theorem xd233_108 : decode (mj_b 233) 108 = .ok (.iload_n 1, 1) := by decide +kernel
theorem xd233_109 : decode (mj_b 233) 109 = .ok (.invokevirtual 267, 3) := by decide +kernel
theorem xd233_112 : decode (mj_b 233) 112 = .ok (.iinc 1 1, 3) := by decide +kernel
theorem xd233_115 : decode (mj_b 233) 115 = .ok (.goto (-18), 3) := by decide +kernel
theorem xd233_118 : decode (mj_b 233) 118 = .ok (.aload_n 0, 1) := by decide +kernel
theorem xd233_119 : decode (mj_b 233) 119 = .ok (.iconst 0, 1) := by decide +kernel
theorem xd233_120 : decode (mj_b 233) 120 = .ok (.bipush 99, 2) := by decide +kernel
theorem xd233_122 : decode (mj_b 233) 122 = .ok (.invokevirtual 270, 3) := by decide +kernel
theorem xd233_125 : decode (mj_b 233) 125 = .ok (.aload_n 0, 1) := by decide +kernel
theorem xd233_126 : decode (mj_b 233) 126 = .ok (.bipush 100, 2) := by decide +kernel
theorem xd233_128 : decode (mj_b 233) 128 = .ok (.sipush 499, 3) := by decide +kernel
theorem xd233_131 : decode (mj_b 233) 131 = .ok (.invokevirtual 270, 3) := by decide +kernel
theorem xd233_134 : decode (mj_b 233) 134 = .ok (.aload_n 0, 1) := by decide +kernel
theorem xd233_135 : decode (mj_b 233) 135 = .ok (.iconst 0, 1) := by decide +kernel
theorem xd233_136 : decode (mj_b 233) 136 = .ok (.sipush 999, 3) := by decide +kernel
theorem xd233_139 : decode (mj_b 233) 139 = .ok (.invokevirtual 270, 3) := by decide +kernel
theorem xd233_142 : decode (mj_b 233) 142 = .ok (.iconst 0, 1) := by decide +kernel
theorem xd233_143 : decode (mj_b 233) 143 = .ok (.istore_n 1, 1) := by decide +kernel
theorem xd233_144 : decode (mj_b 233) 144 = .ok (.iload_n 1, 1) := by decide +kernel
theorem xd233_145 : decode (mj_b 233) 145 = .ok (.iconst 3, 1) := by decide +kernel
theorem xd233_146 : decode (mj_b 233) 146 = .ok (.if_icmp .ge 19, 3) := by decide +kernel
theorem xd233_149 : decode (mj_b 233) 149 = .ok (.aload_n 0, 1) := by decide +kernel
theorem xd233_150 : decode (mj_b 233) 150 = .ok (.aload_n 0, 1) := by decide +kernel
theorem xd233_151 : decode (mj_b 233) 151 = .ok (.iload_n 1, 1) := by decide +kernel
theorem xd233_152 : decode (mj_b 233) 152 = .ok (.invokevirtual 234, 3) := by decide +kernel
theorem xd233_155 : decode (mj_b 233) 155 = .ok (.i2l, 1) := by decide +kernel
theorem xd233_156 : decode (mj_b 233) 156 = .ok (.invokevirtual 261, 3) := by decide +kernel
theorem xd233_159 : decode (mj_b 233) 159 = .ok (.iinc 1 1, 3) := by decide +kernel
theorem xd233_162 : decode (mj_b 233) 162 = .ok (.goto (-18), 3) := by decide +kernel
theorem xd233_165 : decode (mj_b 233) 165 = .ok (.aload_n 0, 1) := by decide +kernel
theorem xd233_166 : decode (mj_b 233) 166 = .ok (.aload_n 0, 1) := by decide +kernel
theorem xd233_167 : decode (mj_b 233) 167 = .ok (.invokevirtual 237, 3) := by decide +kernel
theorem xd233_170 : decode (mj_b 233) 170 = .ok (.invokestatic 273, 3) := by decide +kernel
theorem xd233_173 : decode (mj_b 233) 173 = .ok (.invokevirtual 261, 3) := by decide +kernel
theorem xd233_176 : decode (mj_b 233) 176 = .ok (.aload_n 0, 1) := by decide +kernel
theorem xd233_177 : decode (mj_b 233) 177 = .ok (.aload_n 0, 1) := by decide +kernel
theorem xd233_178 : decode (mj_b 233) 178 = .ok (.invokevirtual 241, 3) := by decide +kernel
theorem xd233_181 : decode (mj_b 233) 181 = .ok (.invokestatic 277, 3) := by decide +kernel
theorem xd233_184 : decode (mj_b 233) 184 = .ok (.i2l, 1) := by decide +kernel
theorem xd233_185 : decode (mj_b 233) 185 = .ok (.invokevirtual 261, 3) := by decide +kernel
theorem xd233_188 : decode (mj_b 233) 188 = .ok (.aload_n 0, 1) := by decide +kernel
theorem xd233_189 : decode (mj_b 233) 189 = .ok (.aload_n 0, 1) := by decide +kernel
theorem xd233_190 : decode (mj_b 233) 190 = .ok (.getfield 178, 3) := by decide +kernel
theorem xd233_193 : decode (mj_b 233) 193 = .ok (.ifCond .eq 7, 3) := by decide +kernel
theorem xd233_196 : decode (mj_b 233) 196 = .ok (.lconst 1, 1) := by decide +kernel
theorem xd233_197 : decode (mj_b 233) 197 = .ok (.goto 4, 3) := by decide +kernel
theorem xd233_200 : decode (mj_b 233) 200 = .ok (.lconst 0, 1) := by decide +kernel
theorem xd233_201 : decode (mj_b 233) 201 = .ok (.invokevirtual 261, 3) := by decide +kernel
theorem xd233_204 : decode (mj_b 233) 204 = .ok (.aload_n 0, 1) := by decide +kernel
theorem xd233_205 : decode (mj_b 233) 205 = .ok (.aload_n 0, 1) := by decide +kernel
theorem xd233_206 : decode (mj_b 233) 206 = .ok (.getfield 141, 3) := by decide +kernel
theorem xd233_209 : decode (mj_b 233) 209 = .ok (.i2l, 1) := by decide +kernel
theorem xd233_210 : decode (mj_b 233) 210 = .ok (.invokevirtual 261, 3) := by decide +kernel
theorem xd233_213 : decode (mj_b 233) 213 = .ok (.iconst 0, 1) := by decide +kernel
theorem xd233_214 : decode (mj_b 233) 214 = .ok (.istore_n 1, 1) := by decide +kernel
theorem xd233_215 : decode (mj_b 233) 215 = .ok (.iload_n 1, 1) := by decide +kernel
theorem xd233_216 : decode (mj_b 233) 216 = .ok (.aload_n 0, 1) := by decide +kernel
theorem xd233_217 : decode (mj_b 233) 217 = .ok (.getfield 141, 3) := by decide +kernel
theorem xd233_220 : decode (mj_b 233) 220 = .ok (.if_icmp .ge 20, 3) := by decide +kernel
theorem xd233_223 : decode (mj_b 233) 223 = .ok (.aload_n 0, 1) := by decide +kernel
theorem xd233_224 : decode (mj_b 233) 224 = .ok (.aload_n 0, 1) := by decide +kernel
theorem xd233_225 : decode (mj_b 233) 225 = .ok (.getfield 22, 3) := by decide +kernel
theorem xd233_228 : decode (mj_b 233) 228 = .ok (.iload_n 1, 1) := by decide +kernel
theorem xd233_229 : decode (mj_b 233) 229 = .ok (.iaload, 1) := by decide +kernel
theorem xd233_230 : decode (mj_b 233) 230 = .ok (.i2l, 1) := by decide +kernel
theorem xd233_231 : decode (mj_b 233) 231 = .ok (.invokevirtual 261, 3) := by decide +kernel
theorem xd233_234 : decode (mj_b 233) 234 = .ok (.iinc 1 1, 3) := by decide +kernel
theorem xd233_237 : decode (mj_b 233) 237 = .ok (.goto (-22), 3) := by decide +kernel
theorem xd233_240 : decode (mj_b 233) 240 = .ok (.aload_n 0, 1) := by decide +kernel
theorem xd233_241 : decode (mj_b 233) 241 = .ok (.getfield 257, 3) := by decide +kernel
theorem xd233_244 : decode (mj_b 233) 244 = .ok (.lreturn, 1) := by decide +kernel
theorem x233_0 : wp Ln xs 233 0 [.ref 72, mj_hole] [] (u, ml_h m lm) Φ = wp Ln xs 233 14 [.ref 72, .int (nI 0)] [] (u, ml_h (ml_s m 72 8 (nI 0)) (ml_sj lm 72 17 3631)) Φ := (wp_same xd233_0 (Or.inr rfl) rfl).trans ((wp_same (S' := [.int (nI 0), .ref 72]) xd233_1 (Or.inr rfl) rfl).trans ((wm_puti xd233_2 rfl (show ml_L[72]? = _ from rfl) rfl (Nat.le_of_ble_eq_true rfl) rfl rfl rfl).trans ((wp_same xd233_5 (Or.inr rfl) rfl).trans ((wm_ldc2 (v := .long 3631) xd233_6 rfl rfl).trans ((wm_putj xd233_9 rfl (show ml_L[72]? = _ from rfl) rfl (Nat.le_of_ble_eq_true rfl) rfl rfl rfl).trans ((wp_same (S' := [.int (nI 0)]) xd233_12 (Or.inr rfl) rfl).trans (wp_same (L' := [.ref 72, .int (nI 0)]) xd233_13 (Or.inr rfl) rfl)))))))
theorem x233_14 {x1 : Int32} : wp Ln xs 233 14 [.ref 72, .int x1] [] (u, ml_h m lm) Φ = if (nI 9) ≤ x1 then wp Ln xs 233 36 [.ref 72, .int x1] [] (u, ml_h m lm) Φ else wp Ln xs 233 20 [.ref 72, .int x1] [] (u, ml_h m lm) Φ := (wp_same xd233_14 (Or.inr rfl) rfl).trans ((wp_same (S' := [.int (nI 9), .int x1]) xd233_15 (Or.inr rfl) rfl).trans (wx_icmp xd233_17 rfl rfl ((nI 9) ≤ x1) mb_ge))
theorem x233_20 {x1 : Int32} : wp Ln xs 233 20 [.ref 72, .int x1] [] (u, ml_h m lm) Φ = wp Ln xs 215 0 [.ref 72, .int x1] [] (u, ml_h m lm) (mk Ln xs 233 23 [.ref 72, .int x1] [.ref 72] Φ) := (wp_same xd233_20 (Or.inr rfl) rfl).trans ((wp_same xd233_21 (Or.inr rfl) rfl).trans ((wp_same xd233_22 (Or.inr rfl) rfl).trans (wm_cv (As := [.int x1]) (rest := [.ref 72]) xd233_23 rfl rfl (show ml_L[72]? = _ from rfl) (Nat.le_of_ble_eq_true rfl) (Nat.le_of_ble_eq_true rfl) (Nat.le_of_ble_eq_true rfl) (Nat.le_of_ble_eq_true rfl))))
theorem x233_26 {x1 : Int32} {xs0 : Int32} : wp Ln xs 233 26 [.ref 72, .int x1] [.int xs0, .ref 72] (u, ml_h m lm) Φ = wp Ln xs 234 0 [.ref 72, .long xs0.toInt64, mj_hole] [] (u, ml_h m lm) (mk Ln xs 233 27 [.ref 72, .int x1] [] Φ) := (wp_same xd233_26 (Or.inr rfl) rfl).trans (wm_cv (As := [.long xs0.toInt64]) (rest := []) xd233_27 rfl rfl (show ml_L[72]? = _ from rfl) (Nat.le_of_ble_eq_true rfl) (Nat.le_of_ble_eq_true rfl) (Nat.le_of_ble_eq_true rfl) (Nat.le_of_ble_eq_true rfl))
theorem x233_30 {x1 : Int32} : wp Ln xs 233 30 [.ref 72, .int x1] [] (u, ml_h m lm) Φ = wp Ln xs 233 14 [.ref 72, .int (x1 + nI 1)] [] (u, ml_h m lm) Φ := (wp_same (L' := [.ref 72, .int (x1 + nI 1)]) xd233_30 (Or.inr rfl) rfl).trans (wx_goto xd233_33 rfl)
theorem x233_36 {x1 : Int32} : wp Ln xs 233 36 [.ref 72, .int x1] [] (u, ml_h m lm) Φ = wp Ln xs 233 38 [.ref 72, .int (nI 0)] [] (u, ml_h m lm) Φ := (wp_same (S' := [.int (nI 0)]) xd233_36 (Or.inr rfl) rfl).trans (wp_same (L' := [.ref 72, .int (nI 0)]) xd233_37 (Or.inr rfl) rfl)
theorem x233_38 {x1 : Int32} : wp Ln xs 233 38 [.ref 72, .int x1] [] (u, ml_h m lm) Φ = if (nI 3) ≤ x1 then wp Ln xs 233 62 [.ref 72, .int x1] [] (u, ml_h m lm) Φ else wp Ln xs 233 43 [.ref 72, .int x1] [] (u, ml_h m lm) Φ := (wp_same xd233_38 (Or.inr rfl) rfl).trans ((wp_same (S' := [.int (nI 3), .int x1]) xd233_39 (Or.inr rfl) rfl).trans (wx_icmp xd233_40 rfl rfl ((nI 3) ≤ x1) mb_ge))
theorem x233_43 {x1 : Int32} : wp Ln xs 233 43 [.ref 72, .int x1] [] (u, ml_h m lm) Φ = wp Ln xs 233 51 [.ref 72, .int x1] [.int ((nI 2) + x1), .ref 73, .ref 72] (u, ml_h m lm) Φ := (wp_same xd233_43 (Or.inr rfl) rfl).trans ((wp_same xd233_44 (Or.inr rfl) rfl).trans ((wm_getr xd233_45 rfl (show ml_L[72]? = _ from rfl) rfl (Nat.le_of_ble_eq_true rfl)).trans ((wp_same (S' := [.int (nI 2), .ref 73, .ref 72]) xd233_48 (Or.inr rfl) rfl).trans ((wp_same xd233_49 (Or.inr rfl) rfl).trans (wp_same xd233_50 (Or.inr rfl) rfl)))))
theorem x233_51 {x1 : Int32} {k : Nat} (hk : k < 251) : wp Ln xs 233 51 [.ref 72, .int x1] [.int (nI k), .ref 73, .ref 72] (u, ml_h m lm) Φ = wp Ln xs 234 0 [.ref 72, .long ((m 73 k).toInt64), mj_hole] [] (u, ml_h m lm) (mk Ln xs 233 53 [.ref 72, .int x1] [] Φ) := (wm_iald (k := k) xd233_51 ml_ia_73 (by decide) hk).trans ((wp_same xd233_52 (Or.inr rfl) rfl).trans (wm_cv (As := [.long ((m 73 k).toInt64)]) (rest := []) xd233_53 rfl rfl (show ml_L[72]? = _ from rfl) (Nat.le_of_ble_eq_true rfl) (Nat.le_of_ble_eq_true rfl) (Nat.le_of_ble_eq_true rfl) (Nat.le_of_ble_eq_true rfl)))
theorem x233_56 {x1 : Int32} : wp Ln xs 233 56 [.ref 72, .int x1] [] (u, ml_h m lm) Φ = wp Ln xs 233 38 [.ref 72, .int (x1 + nI 1)] [] (u, ml_h m lm) Φ := (wp_same (L' := [.ref 72, .int (x1 + nI 1)]) xd233_56 (Or.inr rfl) rfl).trans (wx_goto xd233_59 rfl)
theorem x233_62 {x1 : Int32} : wp Ln xs 233 62 [.ref 72, .int x1] [] (u, ml_h m lm) Φ = wp Ln xs 233 64 [.ref 72, .int (nI 0)] [] (u, ml_h m lm) Φ := (wp_same (S' := [.int (nI 0)]) xd233_62 (Or.inr rfl) rfl).trans (wp_same (L' := [.ref 72, .int (nI 0)]) xd233_63 (Or.inr rfl) rfl)
theorem x233_64 {x1 : Int32} : wp Ln xs 233 64 [.ref 72, .int x1] [] (u, ml_h m lm) Φ = wp Ln xs 158 0 [.ref 72] [] (u, ml_h m lm) (mk Ln xs 233 67 [.ref 72, .int x1] [.int (nI 4), .int x1] Φ) := (wp_same xd233_64 (Or.inr rfl) rfl).trans ((wp_same (S' := [.int (nI 4), .int x1]) xd233_65 (Or.inr rfl) rfl).trans ((wp_same xd233_66 (Or.inr rfl) rfl).trans (wm_cv (As := []) (rest := [.int (nI 4), .int x1]) xd233_67 rfl rfl (show ml_L[72]? = _ from rfl) (Nat.le_of_ble_eq_true rfl) (Nat.le_of_ble_eq_true rfl) (Nat.le_of_ble_eq_true rfl) (Nat.le_of_ble_eq_true rfl))))
theorem x233_70 {x1 : Int32} {xs0 : Int32} {xs1 : Int32} {xs2 : Int32} : wp Ln xs 233 70 [.ref 72, .int x1] [.int xs0, .int xs1, .int xs2] (u, ml_h m lm) Φ = if (xs1 * xs0) ≤ xs2 then wp Ln xs 233 95 [.ref 72, .int x1] [] (u, ml_h m lm) Φ else wp Ln xs 233 74 [.ref 72, .int x1] [] (u, ml_h m lm) Φ := (wp_same xd233_70 (Or.inr rfl) rfl).trans (wx_icmp xd233_71 rfl rfl ((xs1 * xs0) ≤ xs2) mb_ge)
theorem x233_74 {x1 : Int32} : wp Ln xs 233 74 [.ref 72, .int x1] [] (u, ml_h m lm) Φ = wp Ln xs 203 0 [.ref 72, .int (x1 / (nI 4)), .int (x1 - x1 / (nI 4) * (nI 4)), mj_hole] [] (u, ml_h m lm) (mk Ln xs 233 82 [.ref 72, .int x1] [.ref 72] Φ) := (wp_same xd233_74 (Or.inr rfl) rfl).trans ((wp_same xd233_75 (Or.inr rfl) rfl).trans ((wp_same xd233_76 (Or.inr rfl) rfl).trans ((wp_same (S' := [.int (nI 4), .int x1, .ref 72, .ref 72]) xd233_77 (Or.inr rfl) rfl).trans ((wp_same xd233_78 (Or.inr rfl) rfl).trans ((wp_same xd233_79 (Or.inr rfl) rfl).trans ((wp_same (S' := [.int (nI 4), .int x1, .int (x1 / (nI 4)), .ref 72, .ref 72]) xd233_80 (Or.inr rfl) rfl).trans ((wp_same xd233_81 (Or.inr rfl) rfl).trans (wm_cv (As := [.int (x1 / (nI 4)), .int (x1 - x1 / (nI 4) * (nI 4))]) (rest := [.ref 72]) xd233_82 rfl rfl (show ml_L[72]? = _ from rfl) (Nat.le_of_ble_eq_true rfl) (Nat.le_of_ble_eq_true rfl) (Nat.le_of_ble_eq_true rfl) (Nat.le_of_ble_eq_true rfl)))))))))
theorem x233_85 {x1 : Int32} {xs0 : Int32} : wp Ln xs 233 85 [.ref 72, .int x1] [.int xs0, .ref 72] (u, ml_h m lm) Φ = wp Ln xs 234 0 [.ref 72, .long xs0.toInt64, mj_hole] [] (u, ml_h m lm) (mk Ln xs 233 86 [.ref 72, .int x1] [] Φ) := (wp_same xd233_85 (Or.inr rfl) rfl).trans (wm_cv (As := [.long xs0.toInt64]) (rest := []) xd233_86 rfl rfl (show ml_L[72]? = _ from rfl) (Nat.le_of_ble_eq_true rfl) (Nat.le_of_ble_eq_true rfl) (Nat.le_of_ble_eq_true rfl) (Nat.le_of_ble_eq_true rfl))
theorem x233_89 {x1 : Int32} : wp Ln xs 233 89 [.ref 72, .int x1] [] (u, ml_h m lm) Φ = wp Ln xs 233 64 [.ref 72, .int (x1 + nI 1)] [] (u, ml_h m lm) Φ := (wp_same (L' := [.ref 72, .int (x1 + nI 1)]) xd233_89 (Or.inr rfl) rfl).trans (wx_goto xd233_92 rfl)
theorem x233_95 {x1 : Int32} : wp Ln xs 233 95 [.ref 72, .int x1] [] (u, ml_h m lm) Φ = wp Ln xs 233 97 [.ref 72, .int (nI 0)] [] (u, ml_h m lm) Φ := (wp_same (S' := [.int (nI 0)]) xd233_95 (Or.inr rfl) rfl).trans (wp_same (L' := [.ref 72, .int (nI 0)]) xd233_96 (Or.inr rfl) rfl)
theorem x233_97 {x1 : Int32} : wp Ln xs 233 97 [.ref 72, .int x1] [] (u, ml_h m lm) Φ = if (m 73 0) ≤ x1 then wp Ln xs 233 118 [.ref 72, .int x1] [] (u, ml_h m lm) Φ else wp Ln xs 233 107 [.ref 72, .int x1] [] (u, ml_h m lm) Φ := (wp_same xd233_97 (Or.inr rfl) rfl).trans ((wp_same xd233_98 (Or.inr rfl) rfl).trans ((wm_getr xd233_99 rfl (show ml_L[72]? = _ from rfl) rfl (Nat.le_of_ble_eq_true rfl)).trans ((wp_same (S' := [.int (nI 0), .ref 73, .int x1]) xd233_102 (Or.inr rfl) rfl).trans ((wm_iald (k := 0) xd233_103 ml_ia_73 (by decide) (Nat.le_of_ble_eq_true rfl)).trans (wx_icmp xd233_104 rfl rfl ((m 73 0) ≤ x1) mb_ge)))))
theorem x233_107 {x1 : Int32} : wp Ln xs 233 107 [.ref 72, .int x1] [] (u, ml_h m lm) Φ = wp Ln xs 235 0 [.ref 72, .int x1, mj_hole] [] (u, ml_h m lm) (mk Ln xs 233 109 [.ref 72, .int x1] [] Φ) := (wp_same xd233_107 (Or.inr rfl) rfl).trans ((wp_same xd233_108 (Or.inr rfl) rfl).trans (wm_cv (As := [.int x1]) (rest := []) xd233_109 rfl rfl (show ml_L[72]? = _ from rfl) (Nat.le_of_ble_eq_true rfl) (Nat.le_of_ble_eq_true rfl) (Nat.le_of_ble_eq_true rfl) (Nat.le_of_ble_eq_true rfl)))
theorem x233_112 {x1 : Int32} : wp Ln xs 233 112 [.ref 72, .int x1] [] (u, ml_h m lm) Φ = wp Ln xs 233 97 [.ref 72, .int (x1 + nI 1)] [] (u, ml_h m lm) Φ := (wp_same (L' := [.ref 72, .int (x1 + nI 1)]) xd233_112 (Or.inr rfl) rfl).trans (wx_goto xd233_115 rfl)
theorem x233_118 {x1 : Int32} : wp Ln xs 233 118 [.ref 72, .int x1] [] (u, ml_h m lm) Φ = wp Ln xs 236 0 [.ref 72, .int (nI 0), .int (nI 99), mj_hole] [] (u, ml_h m lm) (mk Ln xs 233 122 [.ref 72, .int x1] [] Φ) := (wp_same xd233_118 (Or.inr rfl) rfl).trans ((wp_same (S' := [.int (nI 0), .ref 72]) xd233_119 (Or.inr rfl) rfl).trans ((wp_same (S' := [.int (nI 99), .int (nI 0), .ref 72]) xd233_120 (Or.inr rfl) rfl).trans (wm_cv (As := [.int (nI 0), .int (nI 99)]) (rest := []) xd233_122 rfl rfl (show ml_L[72]? = _ from rfl) (Nat.le_of_ble_eq_true rfl) (Nat.le_of_ble_eq_true rfl) (Nat.le_of_ble_eq_true rfl) (Nat.le_of_ble_eq_true rfl))))
theorem x233_125 {x1 : Int32} : wp Ln xs 233 125 [.ref 72, .int x1] [] (u, ml_h m lm) Φ = wp Ln xs 236 0 [.ref 72, .int (nI 100), .int (nI 499), mj_hole] [] (u, ml_h m lm) (mk Ln xs 233 131 [.ref 72, .int x1] [] Φ) := (wp_same xd233_125 (Or.inr rfl) rfl).trans ((wp_same (S' := [.int (nI 100), .ref 72]) xd233_126 (Or.inr rfl) rfl).trans ((wp_same (S' := [.int (nI 499), .int (nI 100), .ref 72]) xd233_128 (Or.inr rfl) rfl).trans (wm_cv (As := [.int (nI 100), .int (nI 499)]) (rest := []) xd233_131 rfl rfl (show ml_L[72]? = _ from rfl) (Nat.le_of_ble_eq_true rfl) (Nat.le_of_ble_eq_true rfl) (Nat.le_of_ble_eq_true rfl) (Nat.le_of_ble_eq_true rfl))))
theorem x233_134 {x1 : Int32} : wp Ln xs 233 134 [.ref 72, .int x1] [] (u, ml_h m lm) Φ = wp Ln xs 236 0 [.ref 72, .int (nI 0), .int (nI 999), mj_hole] [] (u, ml_h m lm) (mk Ln xs 233 139 [.ref 72, .int x1] [] Φ) := (wp_same xd233_134 (Or.inr rfl) rfl).trans ((wp_same (S' := [.int (nI 0), .ref 72]) xd233_135 (Or.inr rfl) rfl).trans ((wp_same (S' := [.int (nI 999), .int (nI 0), .ref 72]) xd233_136 (Or.inr rfl) rfl).trans (wm_cv (As := [.int (nI 0), .int (nI 999)]) (rest := []) xd233_139 rfl rfl (show ml_L[72]? = _ from rfl) (Nat.le_of_ble_eq_true rfl) (Nat.le_of_ble_eq_true rfl) (Nat.le_of_ble_eq_true rfl) (Nat.le_of_ble_eq_true rfl))))
theorem x233_142 {x1 : Int32} : wp Ln xs 233 142 [.ref 72, .int x1] [] (u, ml_h m lm) Φ = wp Ln xs 233 144 [.ref 72, .int (nI 0)] [] (u, ml_h m lm) Φ := (wp_same (S' := [.int (nI 0)]) xd233_142 (Or.inr rfl) rfl).trans (wp_same (L' := [.ref 72, .int (nI 0)]) xd233_143 (Or.inr rfl) rfl)
theorem x233_144 {x1 : Int32} : wp Ln xs 233 144 [.ref 72, .int x1] [] (u, ml_h m lm) Φ = if (nI 3) ≤ x1 then wp Ln xs 233 165 [.ref 72, .int x1] [] (u, ml_h m lm) Φ else wp Ln xs 233 149 [.ref 72, .int x1] [] (u, ml_h m lm) Φ := (wp_same xd233_144 (Or.inr rfl) rfl).trans ((wp_same (S' := [.int (nI 3), .int x1]) xd233_145 (Or.inr rfl) rfl).trans (wx_icmp xd233_146 rfl rfl ((nI 3) ≤ x1) mb_ge))
theorem x233_149 {x1 : Int32} : wp Ln xs 233 149 [.ref 72, .int x1] [] (u, ml_h m lm) Φ = wp Ln xs 227 0 [.ref 72, .int x1] [] (u, ml_h m lm) (mk Ln xs 233 152 [.ref 72, .int x1] [.ref 72] Φ) := (wp_same xd233_149 (Or.inr rfl) rfl).trans ((wp_same xd233_150 (Or.inr rfl) rfl).trans ((wp_same xd233_151 (Or.inr rfl) rfl).trans (wm_cv (As := [.int x1]) (rest := [.ref 72]) xd233_152 rfl rfl (show ml_L[72]? = _ from rfl) (Nat.le_of_ble_eq_true rfl) (Nat.le_of_ble_eq_true rfl) (Nat.le_of_ble_eq_true rfl) (Nat.le_of_ble_eq_true rfl))))
theorem x233_155 {x1 : Int32} {xs0 : Int32} : wp Ln xs 233 155 [.ref 72, .int x1] [.int xs0, .ref 72] (u, ml_h m lm) Φ = wp Ln xs 234 0 [.ref 72, .long xs0.toInt64, mj_hole] [] (u, ml_h m lm) (mk Ln xs 233 156 [.ref 72, .int x1] [] Φ) := (wp_same xd233_155 (Or.inr rfl) rfl).trans (wm_cv (As := [.long xs0.toInt64]) (rest := []) xd233_156 rfl rfl (show ml_L[72]? = _ from rfl) (Nat.le_of_ble_eq_true rfl) (Nat.le_of_ble_eq_true rfl) (Nat.le_of_ble_eq_true rfl) (Nat.le_of_ble_eq_true rfl))
theorem x233_159 {x1 : Int32} : wp Ln xs 233 159 [.ref 72, .int x1] [] (u, ml_h m lm) Φ = wp Ln xs 233 144 [.ref 72, .int (x1 + nI 1)] [] (u, ml_h m lm) Φ := (wp_same (L' := [.ref 72, .int (x1 + nI 1)]) xd233_159 (Or.inr rfl) rfl).trans (wx_goto xd233_162 rfl)
theorem x233_165 {x1 : Int32} : wp Ln xs 233 165 [.ref 72, .int x1] [] (u, ml_h m lm) Φ = wp Ln xs 230 0 [.ref 72] [] (u, ml_h m lm) (mk Ln xs 233 167 [.ref 72, .int x1] [.ref 72] Φ) := (wp_same xd233_165 (Or.inr rfl) rfl).trans ((wp_same xd233_166 (Or.inr rfl) rfl).trans (wm_cv (As := []) (rest := [.ref 72]) xd233_167 rfl rfl (show ml_L[72]? = _ from rfl) (Nat.le_of_ble_eq_true rfl) (Nat.le_of_ble_eq_true rfl) (Nat.le_of_ble_eq_true rfl) (Nat.le_of_ble_eq_true rfl)))
theorem x233_170 {x1 : Int32} {zs0 : UInt64} : wp Ln xs 233 170 [.ref 72, .int x1] [.double zs0, .ref 72] (u, ml_h m lm) Φ = wp Ln xs 237 0 [.double zs0, mj_hole, mj_hole, mj_hole, mj_hole, mj_hole] [] (u, ml_h m lm) (mk Ln xs 233 170 [.ref 72, .int x1] [.ref 72] Φ) := wm_cs (As := [.double zs0]) (rest := [.ref 72]) xd233_170 rfl rfl (Nat.le_of_ble_eq_true rfl) (Nat.le_of_ble_eq_true rfl) (Nat.le_of_ble_eq_true rfl) (Nat.le_of_ble_eq_true rfl)
theorem x233_173 {x1 : Int32} {ys0 : Int64} : wp Ln xs 233 173 [.ref 72, .int x1] [.long ys0, .ref 72] (u, ml_h m lm) Φ = wp Ln xs 234 0 [.ref 72, .long ys0, mj_hole] [] (u, ml_h m lm) (mk Ln xs 233 173 [.ref 72, .int x1] [] Φ) := wm_cv (As := [.long ys0]) (rest := []) xd233_173 rfl rfl (show ml_L[72]? = _ from rfl) (Nat.le_of_ble_eq_true rfl) (Nat.le_of_ble_eq_true rfl) (Nat.le_of_ble_eq_true rfl) (Nat.le_of_ble_eq_true rfl)
theorem x233_176 {x1 : Int32} : wp Ln xs 233 176 [.ref 72, .int x1] [] (u, ml_h m lm) Φ = wp Ln xs 232 0 [.ref 72] [] (u, ml_h m lm) (mk Ln xs 233 178 [.ref 72, .int x1] [.ref 72] Φ) := (wp_same xd233_176 (Or.inr rfl) rfl).trans ((wp_same xd233_177 (Or.inr rfl) rfl).trans (wm_cv (As := []) (rest := [.ref 72]) xd233_178 rfl rfl (show ml_L[72]? = _ from rfl) (Nat.le_of_ble_eq_true rfl) (Nat.le_of_ble_eq_true rfl) (Nat.le_of_ble_eq_true rfl) (Nat.le_of_ble_eq_true rfl)))
theorem x233_181 {x1 : Int32} {zs0 : UInt32} : wp Ln xs 233 181 [.ref 72, .int x1] [.float zs0, .ref 72] (u, ml_h m lm) Φ = wp Ln xs 238 0 [.float zs0, mj_hole, mj_hole] [] (u, ml_h m lm) (mk Ln xs 233 181 [.ref 72, .int x1] [.ref 72] Φ) := wm_cs (As := [.float zs0]) (rest := [.ref 72]) xd233_181 rfl rfl (Nat.le_of_ble_eq_true rfl) (Nat.le_of_ble_eq_true rfl) (Nat.le_of_ble_eq_true rfl) (Nat.le_of_ble_eq_true rfl)
theorem x233_184 {x1 : Int32} {xs0 : Int32} : wp Ln xs 233 184 [.ref 72, .int x1] [.int xs0, .ref 72] (u, ml_h m lm) Φ = wp Ln xs 234 0 [.ref 72, .long xs0.toInt64, mj_hole] [] (u, ml_h m lm) (mk Ln xs 233 185 [.ref 72, .int x1] [] Φ) := (wp_same xd233_184 (Or.inr rfl) rfl).trans (wm_cv (As := [.long xs0.toInt64]) (rest := []) xd233_185 rfl rfl (show ml_L[72]? = _ from rfl) (Nat.le_of_ble_eq_true rfl) (Nat.le_of_ble_eq_true rfl) (Nat.le_of_ble_eq_true rfl) (Nat.le_of_ble_eq_true rfl))
theorem x233_188 {x1 : Int32} : wp Ln xs 233 188 [.ref 72, .int x1] [] (u, ml_h m lm) Φ = if (m 72 4) = (nI 0) then wp Ln xs 233 200 [.ref 72, .int x1] [.ref 72] (u, ml_h m lm) Φ else wp Ln xs 233 196 [.ref 72, .int x1] [.ref 72] (u, ml_h m lm) Φ := (wp_same xd233_188 (Or.inr rfl) rfl).trans ((wp_same xd233_189 (Or.inr rfl) rfl).trans ((wm_geti xd233_190 rfl (show ml_L[72]? = _ from rfl) rfl (Nat.le_of_ble_eq_true rfl)).trans (wx_if xd233_193 rfl rfl ((m 72 4) = (nI 0)) mb_eq)))
theorem x233_196 {x1 : Int32} : wp Ln xs 233 196 [.ref 72, .int x1] [.ref 72] (u, ml_h m lm) Φ = wp Ln xs 233 201 [.ref 72, .int x1] [.long 1, .ref 72] (u, ml_h m lm) Φ := (wp_same xd233_196 (Or.inr rfl) rfl).trans (wx_goto xd233_197 rfl)
theorem x233_200 {x1 : Int32} : wp Ln xs 233 200 [.ref 72, .int x1] [.ref 72] (u, ml_h m lm) Φ = wp Ln xs 233 201 [.ref 72, .int x1] [.long 0, .ref 72] (u, ml_h m lm) Φ := wp_same xd233_200 (Or.inr rfl) rfl
theorem x233_201 {x1 : Int32} {ys0 : Int64} : wp Ln xs 233 201 [.ref 72, .int x1] [.long ys0, .ref 72] (u, ml_h m lm) Φ = wp Ln xs 234 0 [.ref 72, .long ys0, mj_hole] [] (u, ml_h m lm) (mk Ln xs 233 201 [.ref 72, .int x1] [] Φ) := wm_cv (As := [.long ys0]) (rest := []) xd233_201 rfl rfl (show ml_L[72]? = _ from rfl) (Nat.le_of_ble_eq_true rfl) (Nat.le_of_ble_eq_true rfl) (Nat.le_of_ble_eq_true rfl) (Nat.le_of_ble_eq_true rfl)
theorem x233_204 {x1 : Int32} : wp Ln xs 233 204 [.ref 72, .int x1] [] (u, ml_h m lm) Φ = wp Ln xs 234 0 [.ref 72, .long ((m 72 7).toInt64), mj_hole] [] (u, ml_h m lm) (mk Ln xs 233 210 [.ref 72, .int x1] [] Φ) := (wp_same xd233_204 (Or.inr rfl) rfl).trans ((wp_same xd233_205 (Or.inr rfl) rfl).trans ((wm_geti xd233_206 rfl (show ml_L[72]? = _ from rfl) rfl (Nat.le_of_ble_eq_true rfl)).trans ((wp_same xd233_209 (Or.inr rfl) rfl).trans (wm_cv (As := [.long ((m 72 7).toInt64)]) (rest := []) xd233_210 rfl rfl (show ml_L[72]? = _ from rfl) (Nat.le_of_ble_eq_true rfl) (Nat.le_of_ble_eq_true rfl) (Nat.le_of_ble_eq_true rfl) (Nat.le_of_ble_eq_true rfl)))))
theorem x233_213 {x1 : Int32} : wp Ln xs 233 213 [.ref 72, .int x1] [] (u, ml_h m lm) Φ = wp Ln xs 233 215 [.ref 72, .int (nI 0)] [] (u, ml_h m lm) Φ := (wp_same (S' := [.int (nI 0)]) xd233_213 (Or.inr rfl) rfl).trans (wp_same (L' := [.ref 72, .int (nI 0)]) xd233_214 (Or.inr rfl) rfl)
theorem x233_215 {x1 : Int32} : wp Ln xs 233 215 [.ref 72, .int x1] [] (u, ml_h m lm) Φ = if (m 72 7) ≤ x1 then wp Ln xs 233 240 [.ref 72, .int x1] [] (u, ml_h m lm) Φ else wp Ln xs 233 223 [.ref 72, .int x1] [] (u, ml_h m lm) Φ := (wp_same xd233_215 (Or.inr rfl) rfl).trans ((wp_same xd233_216 (Or.inr rfl) rfl).trans ((wm_geti xd233_217 rfl (show ml_L[72]? = _ from rfl) rfl (Nat.le_of_ble_eq_true rfl)).trans (wx_icmp xd233_220 rfl rfl ((m 72 7) ≤ x1) mb_ge)))
theorem x233_223 {x1 : Int32} : wp Ln xs 233 223 [.ref 72, .int x1] [] (u, ml_h m lm) Φ = wp Ln xs 233 229 [.ref 72, .int x1] [.int x1, .ref 77, .ref 72] (u, ml_h m lm) Φ := (wp_same xd233_223 (Or.inr rfl) rfl).trans ((wp_same xd233_224 (Or.inr rfl) rfl).trans ((wm_getr xd233_225 rfl (show ml_L[72]? = _ from rfl) rfl (Nat.le_of_ble_eq_true rfl)).trans (wp_same xd233_228 (Or.inr rfl) rfl)))
theorem x233_229 {x1 : Int32} {k : Nat} (hk : k < 60) : wp Ln xs 233 229 [.ref 72, .int x1] [.int (nI k), .ref 77, .ref 72] (u, ml_h m lm) Φ = wp Ln xs 234 0 [.ref 72, .long ((m 77 k).toInt64), mj_hole] [] (u, ml_h m lm) (mk Ln xs 233 231 [.ref 72, .int x1] [] Φ) := (wm_iald (k := k) xd233_229 ml_ia_77 (by decide) hk).trans ((wp_same xd233_230 (Or.inr rfl) rfl).trans (wm_cv (As := [.long ((m 77 k).toInt64)]) (rest := []) xd233_231 rfl rfl (show ml_L[72]? = _ from rfl) (Nat.le_of_ble_eq_true rfl) (Nat.le_of_ble_eq_true rfl) (Nat.le_of_ble_eq_true rfl) (Nat.le_of_ble_eq_true rfl)))
theorem x233_234 {x1 : Int32} : wp Ln xs 233 234 [.ref 72, .int x1] [] (u, ml_h m lm) Φ = wp Ln xs 233 215 [.ref 72, .int (x1 + nI 1)] [] (u, ml_h m lm) Φ := (wp_same (L' := [.ref 72, .int (x1 + nI 1)]) xd233_234 (Or.inr rfl) rfl).trans (wx_goto xd233_237 rfl)
theorem x233_240 {x1 : Int32} : wp Ln xs 233 240 [.ref 72, .int x1] [] (u, ml_h m lm) Φ = Φ (.inl (some (.long (lm 72 17)))) (u, ml_h m lm) := (wp_same xd233_240 (Or.inr rfl) rfl).trans ((wm_getj xd233_241 rfl (show ml_L[72]? = _ from rfl) rfl (Nat.le_of_ble_eq_true rfl)).trans (wp_fin (v := some (.long (lm 72 17))) xd233_244 (Or.inr rfl) rfl rfl))
/- PickedFormsModel.mix -/
theorem xd234_0 : decode (mj_b 234) 0 = .ok (.aload_n 0, 1) := by decide +kernel
theorem xd234_1 : decode (mj_b 234) 1 = .ok (.ldc2_w 255, 3) := by decide +kernel
theorem xd234_4 : decode (mj_b 234) 4 = .ok (.aload_n 0, 1) := by decide +kernel
theorem xd234_5 : decode (mj_b 234) 5 = .ok (.getfield 257, 3) := by decide +kernel
theorem xd234_8 : decode (mj_b 234) 8 = .ok (.lmul, 1) := by decide +kernel
theorem xd234_9 : decode (mj_b 234) 9 = .ok (.lload_n 1, 1) := by decide +kernel
theorem xd234_10 : decode (mj_b 234) 10 = .ok (.ladd, 1) := by decide +kernel
theorem xd234_11 : decode (mj_b 234) 11 = .ok (.putfield 257, 3) := by decide +kernel
theorem xd234_14 : decode (mj_b 234) 14 = .ok (.return_, 1) := by decide +kernel
theorem x234_0 {y1 : Int64} : wp Ln xs 234 0 [.ref 72, .long y1, mj_hole] [] (u, ml_h m lm) Φ = Φ (.inl none) (u, ml_h m (ml_sj lm 72 17 ((31 * (lm 72 17)) + y1))) := (wp_same xd234_0 (Or.inr rfl) rfl).trans ((wm_ldc2 (v := .long 31) xd234_1 rfl rfl).trans ((wp_same xd234_4 (Or.inr rfl) rfl).trans ((wm_getj xd234_5 rfl (show ml_L[72]? = _ from rfl) rfl (Nat.le_of_ble_eq_true rfl)).trans ((wp_same xd234_8 (Or.inr rfl) rfl).trans ((wp_same xd234_9 (Or.inr rfl) rfl).trans ((wp_same xd234_10 (Or.inr rfl) rfl).trans ((wm_putj xd234_11 rfl (show ml_L[72]? = _ from rfl) rfl (Nat.le_of_ble_eq_true rfl) rfl rfl rfl).trans (wp_fin (v := none) xd234_14 (Or.inr rfl) rfl rfl))))))))
/- PickedFormsModel.mixBlock -/
theorem xd235_0 : decode (mj_b 235) 0 = .ok (.iconst 0, 1) := by decide +kernel
theorem xd235_1 : decode (mj_b 235) 1 = .ok (.istore_n 2, 1) := by decide +kernel
theorem xd235_2 : decode (mj_b 235) 2 = .ok (.iload_n 2, 1) := by decide +kernel
theorem xd235_3 : decode (mj_b 235) 3 = .ok (.bipush 10, 2) := by decide +kernel
theorem xd235_5 : decode (mj_b 235) 5 = .ok (.if_icmp .ge 20, 3) := by decide +kernel
theorem xd235_8 : decode (mj_b 235) 8 = .ok (.aload_n 0, 1) := by decide +kernel
theorem xd235_9 : decode (mj_b 235) 9 = .ok (.aload_n 0, 1) := by decide +kernel
theorem xd235_10 : decode (mj_b 235) 10 = .ok (.iload_n 1, 1) := by decide +kernel
theorem xd235_11 : decode (mj_b 235) 11 = .ok (.iload_n 2, 1) := by decide +kernel
theorem xd235_12 : decode (mj_b 235) 12 = .ok (.invokevirtual 188, 3) := by decide +kernel
theorem xd235_15 : decode (mj_b 235) 15 = .ok (.i2l, 1) := by decide +kernel
theorem xd235_16 : decode (mj_b 235) 16 = .ok (.invokevirtual 261, 3) := by decide +kernel
theorem xd235_19 : decode (mj_b 235) 19 = .ok (.iinc 2 1, 3) := by decide +kernel
theorem xd235_22 : decode (mj_b 235) 22 = .ok (.goto (-20), 3) := by decide +kernel
theorem xd235_25 : decode (mj_b 235) 25 = .ok (.iconst 0, 1) := by decide +kernel
theorem xd235_26 : decode (mj_b 235) 26 = .ok (.istore_n 2, 1) := by decide +kernel
theorem xd235_27 : decode (mj_b 235) 27 = .ok (.iload_n 2, 1) := by decide +kernel
theorem xd235_28 : decode (mj_b 235) 28 = .ok (.iconst 5, 1) := by decide +kernel
theorem xd235_29 : decode (mj_b 235) 29 = .ok (.if_icmp .ge 33, 3) := by decide +kernel
theorem xd235_32 : decode (mj_b 235) 32 = .ok (.aload_n 0, 1) := by decide +kernel
theorem xd235_33 : decode (mj_b 235) 33 = .ok (.aload_n 0, 1) := by decide +kernel
theorem xd235_34 : decode (mj_b 235) 34 = .ok (.iload_n 2, 1) := by decide +kernel
theorem xd235_35 : decode (mj_b 235) 35 = .ok (.aload_n 0, 1) := by decide +kernel
theorem xd235_36 : decode (mj_b 235) 36 = .ok (.iload_n 1, 1) := by decide +kernel
theorem xd235_37 : decode (mj_b 235) 37 = .ok (.invokevirtual 49, 3) := by decide +kernel
theorem xd235_40 : decode (mj_b 235) 40 = .ok (.aload_n 0, 1) := by decide +kernel
theorem xd235_41 : decode (mj_b 235) 41 = .ok (.getfield 7, 3) := by decide +kernel
theorem xd235_44 : decode (mj_b 235) 44 = .ok (.bipush 7, 2) := by decide +kernel
theorem xd235_46 : decode (mj_b 235) 46 = .ok (.iload_n 1, 1) := by decide +kernel
theorem xd235_47 : decode (mj_b 235) 47 = .ok (.iadd, 1) := by decide +kernel
theorem xd235_48 : decode (mj_b 235) 48 = .ok (.iaload, 1) := by decide +kernel
theorem xd235_49 : decode (mj_b 235) 49 = .ok (.invokevirtual 79, 3) := by decide +kernel
theorem xd235_52 : decode (mj_b 235) 52 = .ok (.i2l, 1) := by decide +kernel
theorem xd235_53 : decode (mj_b 235) 53 = .ok (.invokevirtual 261, 3) := by decide +kernel
theorem xd235_56 : decode (mj_b 235) 56 = .ok (.iinc 2 1, 3) := by decide +kernel
theorem xd235_59 : decode (mj_b 235) 59 = .ok (.goto (-32), 3) := by decide +kernel
theorem xd235_62 : decode (mj_b 235) 62 = .ok (.aload_n 0, 1) := by decide +kernel
theorem xd235_63 : decode (mj_b 235) 63 = .ok (.iload_n 1, 1) := by decide +kernel
theorem xd235_64 : decode (mj_b 235) 64 = .ok (.invokevirtual 207, 3) := by decide +kernel
theorem xd235_67 : decode (mj_b 235) 67 = .ok (.iconst 0, 1) := by decide +kernel
theorem xd235_68 : decode (mj_b 235) 68 = .ok (.istore_n 2, 1) := by decide +kernel
theorem xd235_69 : decode (mj_b 235) 69 = .ok (.iload_n 2, 1) := by decide +kernel
theorem xd235_70 : decode (mj_b 235) 70 = .ok (.aload_n 0, 1) := by decide +kernel
theorem xd235_71 : decode (mj_b 235) 71 = .ok (.getfield 191, 3) := by decide +kernel
theorem xd235_74 : decode (mj_b 235) 74 = .ok (.if_icmp .ge 20, 3) := by decide +kernel
theorem xd235_77 : decode (mj_b 235) 77 = .ok (.aload_n 0, 1) := by decide +kernel
theorem xd235_78 : decode (mj_b 235) 78 = .ok (.aload_n 0, 1) := by decide +kernel
theorem xd235_79 : decode (mj_b 235) 79 = .ok (.getfield 25, 3) := by decide +kernel
theorem xd235_82 : decode (mj_b 235) 82 = .ok (.iload_n 2, 1) := by decide +kernel
theorem xd235_83 : decode (mj_b 235) 83 = .ok (.iaload, 1) := by decide +kernel
theorem xd235_84 : decode (mj_b 235) 84 = .ok (.i2l, 1) := by decide +kernel
theorem xd235_85 : decode (mj_b 235) 85 = .ok (.invokevirtual 261, 3) := by decide +kernel
theorem xd235_88 : decode (mj_b 235) 88 = .ok (.iinc 2 1, 3) := by decide +kernel
theorem xd235_91 : decode (mj_b 235) 91 = .ok (.goto (-22), 3) := by decide +kernel
theorem xd235_94 : decode (mj_b 235) 94 = .ok (.aload_n 0, 1) := by decide +kernel
theorem xd235_95 : decode (mj_b 235) 95 = .ok (.aload_n 0, 1) := by decide +kernel
theorem xd235_96 : decode (mj_b 235) 96 = .ok (.iload_n 1, 1) := by decide +kernel
theorem xd235_97 : decode (mj_b 235) 97 = .ok (.invokevirtual 228, 3) := by decide +kernel
theorem xd235_100 : decode (mj_b 235) 100 = .ok (.i2l, 1) := by decide +kernel
theorem xd235_101 : decode (mj_b 235) 101 = .ok (.invokevirtual 261, 3) := by decide +kernel
theorem xd235_104 : decode (mj_b 235) 104 = .ok (.return_, 1) := by decide +kernel
theorem x235_0 {x1 : Int32} : wp Ln xs 235 0 [.ref 72, .int x1, mj_hole] [] (u, ml_h m lm) Φ = wp Ln xs 235 2 [.ref 72, .int x1, .int (nI 0)] [] (u, ml_h m lm) Φ := (wp_same (S' := [.int (nI 0)]) xd235_0 (Or.inr rfl) rfl).trans (wp_same (L' := [.ref 72, .int x1, .int (nI 0)]) xd235_1 (Or.inr rfl) rfl)
theorem x235_2 {x1 : Int32} {x2 : Int32} : wp Ln xs 235 2 [.ref 72, .int x1, .int x2] [] (u, ml_h m lm) Φ = if (nI 10) ≤ x2 then wp Ln xs 235 25 [.ref 72, .int x1, .int x2] [] (u, ml_h m lm) Φ else wp Ln xs 235 8 [.ref 72, .int x1, .int x2] [] (u, ml_h m lm) Φ := (wp_same xd235_2 (Or.inr rfl) rfl).trans ((wp_same (S' := [.int (nI 10), .int x2]) xd235_3 (Or.inr rfl) rfl).trans (wx_icmp xd235_5 rfl rfl ((nI 10) ≤ x2) mb_ge))
theorem x235_8 {x1 : Int32} {x2 : Int32} : wp Ln xs 235 8 [.ref 72, .int x1, .int x2] [] (u, ml_h m lm) Φ = wp Ln xs 206 0 [.ref 72, .int x1, .int x2, mj_hole, mj_hole] [] (u, ml_h m lm) (mk Ln xs 235 12 [.ref 72, .int x1, .int x2] [.ref 72] Φ) := (wp_same xd235_8 (Or.inr rfl) rfl).trans ((wp_same xd235_9 (Or.inr rfl) rfl).trans ((wp_same xd235_10 (Or.inr rfl) rfl).trans ((wp_same xd235_11 (Or.inr rfl) rfl).trans (wm_cv (As := [.int x1, .int x2]) (rest := [.ref 72]) xd235_12 rfl rfl (show ml_L[72]? = _ from rfl) (Nat.le_of_ble_eq_true rfl) (Nat.le_of_ble_eq_true rfl) (Nat.le_of_ble_eq_true rfl) (Nat.le_of_ble_eq_true rfl)))))
theorem x235_15 {x1 : Int32} {x2 : Int32} {xs0 : Int32} : wp Ln xs 235 15 [.ref 72, .int x1, .int x2] [.int xs0, .ref 72] (u, ml_h m lm) Φ = wp Ln xs 234 0 [.ref 72, .long xs0.toInt64, mj_hole] [] (u, ml_h m lm) (mk Ln xs 235 16 [.ref 72, .int x1, .int x2] [] Φ) := (wp_same xd235_15 (Or.inr rfl) rfl).trans (wm_cv (As := [.long xs0.toInt64]) (rest := []) xd235_16 rfl rfl (show ml_L[72]? = _ from rfl) (Nat.le_of_ble_eq_true rfl) (Nat.le_of_ble_eq_true rfl) (Nat.le_of_ble_eq_true rfl) (Nat.le_of_ble_eq_true rfl))
theorem x235_19 {x1 : Int32} {x2 : Int32} : wp Ln xs 235 19 [.ref 72, .int x1, .int x2] [] (u, ml_h m lm) Φ = wp Ln xs 235 2 [.ref 72, .int x1, .int (x2 + nI 1)] [] (u, ml_h m lm) Φ := (wp_same (L' := [.ref 72, .int x1, .int (x2 + nI 1)]) xd235_19 (Or.inr rfl) rfl).trans (wx_goto xd235_22 rfl)
theorem x235_25 {x1 : Int32} {x2 : Int32} : wp Ln xs 235 25 [.ref 72, .int x1, .int x2] [] (u, ml_h m lm) Φ = wp Ln xs 235 27 [.ref 72, .int x1, .int (nI 0)] [] (u, ml_h m lm) Φ := (wp_same (S' := [.int (nI 0)]) xd235_25 (Or.inr rfl) rfl).trans (wp_same (L' := [.ref 72, .int x1, .int (nI 0)]) xd235_26 (Or.inr rfl) rfl)
theorem x235_27 {x1 : Int32} {x2 : Int32} : wp Ln xs 235 27 [.ref 72, .int x1, .int x2] [] (u, ml_h m lm) Φ = if (nI 5) ≤ x2 then wp Ln xs 235 62 [.ref 72, .int x1, .int x2] [] (u, ml_h m lm) Φ else wp Ln xs 235 32 [.ref 72, .int x1, .int x2] [] (u, ml_h m lm) Φ := (wp_same xd235_27 (Or.inr rfl) rfl).trans ((wp_same (S' := [.int (nI 5), .int x2]) xd235_28 (Or.inr rfl) rfl).trans (wx_icmp xd235_29 rfl rfl ((nI 5) ≤ x2) mb_ge))
theorem x235_32 {x1 : Int32} {x2 : Int32} : wp Ln xs 235 32 [.ref 72, .int x1, .int x2] [] (u, ml_h m lm) Φ = wp Ln xs 159 0 [.ref 72, .int x1, mj_hole, mj_hole] [] (u, ml_h m lm) (mk Ln xs 235 37 [.ref 72, .int x1, .int x2] [.int x2, .ref 72, .ref 72] Φ) := (wp_same xd235_32 (Or.inr rfl) rfl).trans ((wp_same xd235_33 (Or.inr rfl) rfl).trans ((wp_same xd235_34 (Or.inr rfl) rfl).trans ((wp_same xd235_35 (Or.inr rfl) rfl).trans ((wp_same xd235_36 (Or.inr rfl) rfl).trans (wm_cv (As := [.int x1]) (rest := [.int x2, .ref 72, .ref 72]) xd235_37 rfl rfl (show ml_L[72]? = _ from rfl) (Nat.le_of_ble_eq_true rfl) (Nat.le_of_ble_eq_true rfl) (Nat.le_of_ble_eq_true rfl) (Nat.le_of_ble_eq_true rfl))))))
theorem x235_40 {x1 : Int32} {x2 : Int32} {xs0 : Int32} {xs1 : Int32} : wp Ln xs 235 40 [.ref 72, .int x1, .int x2] [.int xs0, .int xs1, .ref 72, .ref 72] (u, ml_h m lm) Φ = wp Ln xs 235 48 [.ref 72, .int x1, .int x2] [.int ((nI 7) + x1), .ref 73, .int xs0, .int xs1, .ref 72, .ref 72] (u, ml_h m lm) Φ := (wp_same xd235_40 (Or.inr rfl) rfl).trans ((wm_getr xd235_41 rfl (show ml_L[72]? = _ from rfl) rfl (Nat.le_of_ble_eq_true rfl)).trans ((wp_same (S' := [.int (nI 7), .ref 73, .int xs0, .int xs1, .ref 72, .ref 72]) xd235_44 (Or.inr rfl) rfl).trans ((wp_same xd235_46 (Or.inr rfl) rfl).trans (wp_same xd235_47 (Or.inr rfl) rfl))))
theorem x235_48 {x1 : Int32} {x2 : Int32} {k : Nat} {xs2 : Int32} {xs3 : Int32} (hk : k < 251) : wp Ln xs 235 48 [.ref 72, .int x1, .int x2] [.int (nI k), .ref 73, .int xs2, .int xs3, .ref 72, .ref 72] (u, ml_h m lm) Φ = wp Ln xs 164 0 [.ref 72, .int xs3, .int xs2, .int (m 73 k)] [] (u, ml_h m lm) (mk Ln xs 235 49 [.ref 72, .int x1, .int x2] [.ref 72] Φ) := (wm_iald (k := k) xd235_48 ml_ia_73 (by decide) hk).trans (wm_cv (As := [.int xs3, .int xs2, .int (m 73 k)]) (rest := [.ref 72]) xd235_49 rfl rfl (show ml_L[72]? = _ from rfl) (Nat.le_of_ble_eq_true rfl) (Nat.le_of_ble_eq_true rfl) (Nat.le_of_ble_eq_true rfl) (Nat.le_of_ble_eq_true rfl))
theorem x235_52 {x1 : Int32} {x2 : Int32} {xs0 : Int32} : wp Ln xs 235 52 [.ref 72, .int x1, .int x2] [.int xs0, .ref 72] (u, ml_h m lm) Φ = wp Ln xs 234 0 [.ref 72, .long xs0.toInt64, mj_hole] [] (u, ml_h m lm) (mk Ln xs 235 53 [.ref 72, .int x1, .int x2] [] Φ) := (wp_same xd235_52 (Or.inr rfl) rfl).trans (wm_cv (As := [.long xs0.toInt64]) (rest := []) xd235_53 rfl rfl (show ml_L[72]? = _ from rfl) (Nat.le_of_ble_eq_true rfl) (Nat.le_of_ble_eq_true rfl) (Nat.le_of_ble_eq_true rfl) (Nat.le_of_ble_eq_true rfl))
theorem x235_56 {x1 : Int32} {x2 : Int32} : wp Ln xs 235 56 [.ref 72, .int x1, .int x2] [] (u, ml_h m lm) Φ = wp Ln xs 235 27 [.ref 72, .int x1, .int (x2 + nI 1)] [] (u, ml_h m lm) Φ := (wp_same (L' := [.ref 72, .int x1, .int (x2 + nI 1)]) xd235_56 (Or.inr rfl) rfl).trans (wx_goto xd235_59 rfl)
theorem x235_62 {x1 : Int32} {x2 : Int32} : wp Ln xs 235 62 [.ref 72, .int x1, .int x2] [] (u, ml_h m lm) Φ = wp Ln xs 209 0 [.ref 72, .int x1, mj_hole, mj_hole, mj_hole, mj_hole, mj_hole, mj_hole] [] (u, ml_h m lm) (mk Ln xs 235 64 [.ref 72, .int x1, .int x2] [] Φ) := (wp_same xd235_62 (Or.inr rfl) rfl).trans ((wp_same xd235_63 (Or.inr rfl) rfl).trans (wm_cv (As := [.int x1]) (rest := []) xd235_64 rfl rfl (show ml_L[72]? = _ from rfl) (Nat.le_of_ble_eq_true rfl) (Nat.le_of_ble_eq_true rfl) (Nat.le_of_ble_eq_true rfl) (Nat.le_of_ble_eq_true rfl)))
theorem x235_67 {x1 : Int32} {x2 : Int32} : wp Ln xs 235 67 [.ref 72, .int x1, .int x2] [] (u, ml_h m lm) Φ = wp Ln xs 235 69 [.ref 72, .int x1, .int (nI 0)] [] (u, ml_h m lm) Φ := (wp_same (S' := [.int (nI 0)]) xd235_67 (Or.inr rfl) rfl).trans (wp_same (L' := [.ref 72, .int x1, .int (nI 0)]) xd235_68 (Or.inr rfl) rfl)
theorem x235_69 {x1 : Int32} {x2 : Int32} : wp Ln xs 235 69 [.ref 72, .int x1, .int x2] [] (u, ml_h m lm) Φ = if (m 72 14) ≤ x2 then wp Ln xs 235 94 [.ref 72, .int x1, .int x2] [] (u, ml_h m lm) Φ else wp Ln xs 235 77 [.ref 72, .int x1, .int x2] [] (u, ml_h m lm) Φ := (wp_same xd235_69 (Or.inr rfl) rfl).trans ((wp_same xd235_70 (Or.inr rfl) rfl).trans ((wm_geti xd235_71 rfl (show ml_L[72]? = _ from rfl) rfl (Nat.le_of_ble_eq_true rfl)).trans (wx_icmp xd235_74 rfl rfl ((m 72 14) ≤ x2) mb_ge)))
theorem x235_77 {x1 : Int32} {x2 : Int32} : wp Ln xs 235 77 [.ref 72, .int x1, .int x2] [] (u, ml_h m lm) Φ = wp Ln xs 235 83 [.ref 72, .int x1, .int x2] [.int x2, .ref 78, .ref 72] (u, ml_h m lm) Φ := (wp_same xd235_77 (Or.inr rfl) rfl).trans ((wp_same xd235_78 (Or.inr rfl) rfl).trans ((wm_getr xd235_79 rfl (show ml_L[72]? = _ from rfl) rfl (Nat.le_of_ble_eq_true rfl)).trans (wp_same xd235_82 (Or.inr rfl) rfl)))
theorem x235_83 {x1 : Int32} {x2 : Int32} {k : Nat} (hk : k < 240) : wp Ln xs 235 83 [.ref 72, .int x1, .int x2] [.int (nI k), .ref 78, .ref 72] (u, ml_h m lm) Φ = wp Ln xs 234 0 [.ref 72, .long ((m 78 k).toInt64), mj_hole] [] (u, ml_h m lm) (mk Ln xs 235 85 [.ref 72, .int x1, .int x2] [] Φ) := (wm_iald (k := k) xd235_83 ml_ia_78 (by decide) hk).trans ((wp_same xd235_84 (Or.inr rfl) rfl).trans (wm_cv (As := [.long ((m 78 k).toInt64)]) (rest := []) xd235_85 rfl rfl (show ml_L[72]? = _ from rfl) (Nat.le_of_ble_eq_true rfl) (Nat.le_of_ble_eq_true rfl) (Nat.le_of_ble_eq_true rfl) (Nat.le_of_ble_eq_true rfl)))
theorem x235_88 {x1 : Int32} {x2 : Int32} : wp Ln xs 235 88 [.ref 72, .int x1, .int x2] [] (u, ml_h m lm) Φ = wp Ln xs 235 69 [.ref 72, .int x1, .int (x2 + nI 1)] [] (u, ml_h m lm) Φ := (wp_same (L' := [.ref 72, .int x1, .int (x2 + nI 1)]) xd235_88 (Or.inr rfl) rfl).trans (wx_goto xd235_91 rfl)
theorem x235_94 {x1 : Int32} {x2 : Int32} : wp Ln xs 235 94 [.ref 72, .int x1, .int x2] [] (u, ml_h m lm) Φ = wp Ln xs 225 0 [.ref 72, .int x1, mj_hole, mj_hole] [] (u, ml_h m lm) (mk Ln xs 235 97 [.ref 72, .int x1, .int x2] [.ref 72] Φ) := (wp_same xd235_94 (Or.inr rfl) rfl).trans ((wp_same xd235_95 (Or.inr rfl) rfl).trans ((wp_same xd235_96 (Or.inr rfl) rfl).trans (wm_cv (As := [.int x1]) (rest := [.ref 72]) xd235_97 rfl rfl (show ml_L[72]? = _ from rfl) (Nat.le_of_ble_eq_true rfl) (Nat.le_of_ble_eq_true rfl) (Nat.le_of_ble_eq_true rfl) (Nat.le_of_ble_eq_true rfl))))
theorem x235_100 {x1 : Int32} {x2 : Int32} {xs0 : Int32} : wp Ln xs 235 100 [.ref 72, .int x1, .int x2] [.int xs0, .ref 72] (u, ml_h m lm) Φ = wp Ln xs 234 0 [.ref 72, .long xs0.toInt64, mj_hole] [] (u, ml_h m lm) (mk Ln xs 235 101 [.ref 72, .int x1, .int x2] [] Φ) := (wp_same xd235_100 (Or.inr rfl) rfl).trans (wm_cv (As := [.long xs0.toInt64]) (rest := []) xd235_101 rfl rfl (show ml_L[72]? = _ from rfl) (Nat.le_of_ble_eq_true rfl) (Nat.le_of_ble_eq_true rfl) (Nat.le_of_ble_eq_true rfl) (Nat.le_of_ble_eq_true rfl))
theorem x235_104 {x1 : Int32} {x2 : Int32} : wp Ln xs 235 104 [.ref 72, .int x1, .int x2] [] (u, ml_h m lm) Φ = Φ (.inl none) (u, ml_h m lm) := wp_fin (v := none) xd235_104 (Or.inr rfl) rfl rfl
end MXl
