/-! ===== an equation for each straight piece of a method ===== -/
section MXf
variable {Ln : Nat} {xs : Nat → Int32} {u : mj_U} {m : ml_M} {lm : ml_J} {Φ : mj_R → mj_W → Prop}
/- PickedForms.change -/
theorem xd93_0 : decode (mj_b 93) 0 = .ok (.aload_n 0, 1) := by decide +kernel
theorem xd93_1 : decode (mj_b 93) 1 = .ok (.getfield 12, 3) := by decide +kernel
theorem xd93_4 : decode (mj_b 93) 4 = .ok (.iload_n 1, 1) := by decide +kernel
theorem xd93_5 : decode (mj_b 93) 5 = .ok (.invokevirtual 127, 3) := by decide +kernel
theorem xd93_8 : decode (mj_b 93) 8 = .ok (.ifCond .ne 13, 3) := by decide +kernel
theorem xd93_11 : decode (mj_b 93) 11 = .ok (.new 130, 3) := by decide +kernel
theorem xd93_21 : decode (mj_b 93) 21 = .ok (.iload_n 2, 1) := by decide +kernel
theorem xd93_22 : decode (mj_b 93) 22 = .ok (.invokestatic 76, 3) := by decide +kernel
theorem xd93_25 : decode (mj_b 93) 25 = .ok (.ifCond .ne 13, 3) := by decide +kernel
theorem xd93_28 : decode (mj_b 93) 28 = .ok (.new 80, 3) := by decide +kernel
theorem xd93_38 : decode (mj_b 93) 38 = .ok (.aload_n 0, 1) := by decide +kernel
theorem xd93_39 : decode (mj_b 93) 39 = .ok (.getfield 26, 3) := by decide +kernel
theorem xd93_42 : decode (mj_b 93) 42 = .ok (.aload_n 0, 1) := by decide +kernel
theorem xd93_43 : decode (mj_b 93) 43 = .ok (.getfield 12, 3) := by decide +kernel
theorem xd93_46 : decode (mj_b 93) 46 = .ok (.invokevirtual 96, 3) := by decide +kernel
theorem xd93_49 : decode (mj_b 93) 49 = .ok (.aload_n 0, 1) := by decide +kernel
theorem xd93_50 : decode (mj_b 93) 50 = .ok (.iload_n 1, 1) := by decide +kernel
theorem xd93_51 : decode (mj_b 93) 51 = .ok (.iload_n 2, 1) := by decide +kernel
theorem xd93_52 : decode (mj_b 93) 52 = .ok (.invokevirtual 135, 3) := by decide +kernel
theorem xd93_55 : decode (mj_b 93) 55 = .ok (.istore_n 3, 1) := by decide +kernel
theorem xd93_56 : decode (mj_b 93) 56 = .ok (.aload_n 0, 1) := by decide +kernel
theorem xd93_57 : decode (mj_b 93) 57 = .ok (.getfield 12, 3) := by decide +kernel
theorem xd93_60 : decode (mj_b 93) 60 = .ok (.getfield 139, 3) := by decide +kernel
theorem xd93_63 : decode (mj_b 93) 63 = .ok (.iload_n 1, 1) := by decide +kernel
theorem xd93_64 : decode (mj_b 93) 64 = .ok (.iload_n 2, 1) := by decide +kernel
theorem xd93_65 : decode (mj_b 93) 65 = .ok (.invokestatic 142, 3) := by decide +kernel
theorem xd93_68 : decode (mj_b 93) 68 = .ok (.iload_n 3, 1) := by decide +kernel
theorem xd93_69 : decode (mj_b 93) 69 = .ok (.iconst 1, 1) := by decide +kernel
theorem xd93_70 : decode (mj_b 93) 70 = .ok (.if_icmp .ne 19, 3) := by decide +kernel
theorem xd93_73 : decode (mj_b 93) 73 = .ok (.aload_n 0, 1) := by decide +kernel
theorem xd93_74 : decode (mj_b 93) 74 = .ok (.getfield 12, 3) := by decide +kernel
theorem xd93_77 : decode (mj_b 93) 77 = .ok (.dup, 1) := by decide +kernel
theorem xd93_78 : decode (mj_b 93) 78 = .ok (.getfield 148, 3) := by decide +kernel
theorem xd93_81 : decode (mj_b 93) 81 = .ok (.iconst 1, 1) := by decide +kernel
theorem xd93_82 : decode (mj_b 93) 82 = .ok (.iadd, 1) := by decide +kernel
theorem xd93_83 : decode (mj_b 93) 83 = .ok (.putfield 148, 3) := by decide +kernel
theorem xd93_86 : decode (mj_b 93) 86 = .ok (.goto 20, 3) := by decide +kernel
theorem xd93_89 : decode (mj_b 93) 89 = .ok (.iload_n 3, 1) := by decide +kernel
theorem xd93_90 : decode (mj_b 93) 90 = .ok (.iconst 2, 1) := by decide +kernel
theorem xd93_91 : decode (mj_b 93) 91 = .ok (.if_icmp .ne 15, 3) := by decide +kernel
theorem xd93_94 : decode (mj_b 93) 94 = .ok (.aload_n 0, 1) := by decide +kernel
theorem xd93_95 : decode (mj_b 93) 95 = .ok (.aload_n 0, 1) := by decide +kernel
theorem xd93_96 : decode (mj_b 93) 96 = .ok (.getfield 12, 3) := by decide +kernel
theorem xd93_99 : decode (mj_b 93) 99 = .ok (.iload_n 1, 1) := by decide +kernel
theorem xd93_100 : decode (mj_b 93) 100 = .ok (.invokevirtual 151, 3) := by decide +kernel
theorem xd93_103 : decode (mj_b 93) 103 = .ok (.invokevirtual 120, 3) := by decide +kernel
theorem xd93_106 : decode (mj_b 93) 106 = .ok (.iload_n 3, 1) := by decide +kernel
theorem xd93_107 : decode (mj_b 93) 107 = .ok (.ireturn, 1) := by decide +kernel
theorem x93_0 {x1 : Int32} {x2 : Int32} : wp Ln xs 93 0 [.ref 1, .int x1, .int x2, mj_hole] [] (u, ml_h m lm) Φ = wp Ln xs 94 0 [.ref 2, .int x1] [] (u, ml_h m lm) (mk Ln xs 93 5 [.ref 1, .int x1, .int x2, mj_hole] [] Φ) := (wp_same xd93_0 (Or.inr rfl) rfl).trans ((wm_getr xd93_1 rfl (show ml_L[1]? = _ from rfl) rfl (Nat.le_of_ble_eq_true rfl)).trans ((wp_same xd93_4 (Or.inr rfl) rfl).trans (wm_cv (As := [.int x1]) (rest := []) xd93_5 rfl rfl (show ml_L[2]? = _ from rfl) (Nat.le_of_ble_eq_true rfl) (Nat.le_of_ble_eq_true rfl) (Nat.le_of_ble_eq_true rfl) (Nat.le_of_ble_eq_true rfl))))
theorem x93_8 {x1 : Int32} {x2 : Int32} {xs0 : Int32} : wp Ln xs 93 8 [.ref 1, .int x1, .int x2, mj_hole] [.int xs0] (u, ml_h m lm) Φ = if ¬ xs0 = (nI 0) then wp Ln xs 93 21 [.ref 1, .int x1, .int x2, mj_hole] [] (u, ml_h m lm) Φ else wp Ln xs 93 11 [.ref 1, .int x1, .int x2, mj_hole] [] (u, ml_h m lm) Φ := wx_if xd93_8 rfl rfl (¬ xs0 = (nI 0)) mb_ne
theorem x93_11 {x1 : Int32} {x2 : Int32} : wp Ln xs 93 11 [.ref 1, .int x1, .int x2, mj_hole] [] (u, ml_h m lm) Φ = Φ (.inr 2) ((u.1, u.2.1 + 1, u.2.2 + 6), ml_h m lm) := wp_thr xd93_11 (Or.inr rfl) rfl rfl (E := 2) (by decide +kernel)
theorem x93_21 {x1 : Int32} {x2 : Int32} : wp Ln xs 93 21 [.ref 1, .int x1, .int x2, mj_hole] [] (u, ml_h m lm) Φ = wp Ln xs 83 0 [.int x2] [] (u, ml_h m lm) (mk Ln xs 93 22 [.ref 1, .int x1, .int x2, mj_hole] [] Φ) := (wp_same xd93_21 (Or.inr rfl) rfl).trans (wm_cs (As := [.int x2]) (rest := []) xd93_22 rfl rfl (Nat.le_of_ble_eq_true rfl) (Nat.le_of_ble_eq_true rfl) (Nat.le_of_ble_eq_true rfl) (Nat.le_of_ble_eq_true rfl))
theorem x93_25 {x1 : Int32} {x2 : Int32} {xs0 : Int32} : wp Ln xs 93 25 [.ref 1, .int x1, .int x2, mj_hole] [.int xs0] (u, ml_h m lm) Φ = if ¬ xs0 = (nI 0) then wp Ln xs 93 38 [.ref 1, .int x1, .int x2, mj_hole] [] (u, ml_h m lm) Φ else wp Ln xs 93 28 [.ref 1, .int x1, .int x2, mj_hole] [] (u, ml_h m lm) Φ := wx_if xd93_25 rfl rfl (¬ xs0 = (nI 0)) mb_ne
theorem x93_28 {x1 : Int32} {x2 : Int32} : wp Ln xs 93 28 [.ref 1, .int x1, .int x2, mj_hole] [] (u, ml_h m lm) Φ = Φ (.inr 0) ((u.1, u.2.1 + 1, u.2.2 + 6), ml_h m lm) := wp_thr xd93_28 (Or.inr rfl) rfl rfl (E := 0) (by decide +kernel)
theorem x93_38 {x1 : Int32} {x2 : Int32} : wp Ln xs 93 38 [.ref 1, .int x1, .int x2, mj_hole] [] (u, ml_h m lm) Φ = wp Ln xs 85 0 [.ref 14, .ref 2, mj_hole] [] (u, ml_h m lm) (mk Ln xs 93 46 [.ref 1, .int x1, .int x2, mj_hole] [] Φ) := (wp_same xd93_38 (Or.inr rfl) rfl).trans ((wm_getr xd93_39 rfl (show ml_L[1]? = _ from rfl) rfl (Nat.le_of_ble_eq_true rfl)).trans ((wp_same xd93_42 (Or.inr rfl) rfl).trans ((wm_getr xd93_43 rfl (show ml_L[1]? = _ from rfl) rfl (Nat.le_of_ble_eq_true rfl)).trans (wm_cv (As := [.ref 2]) (rest := []) xd93_46 rfl rfl (show ml_L[14]? = _ from rfl) (Nat.le_of_ble_eq_true rfl) (Nat.le_of_ble_eq_true rfl) (Nat.le_of_ble_eq_true rfl) (Nat.le_of_ble_eq_true rfl)))))
theorem x93_49 {x1 : Int32} {x2 : Int32} : wp Ln xs 93 49 [.ref 1, .int x1, .int x2, mj_hole] [] (u, ml_h m lm) Φ = wp Ln xs 95 0 [.ref 1, .int x1, .int x2, mj_hole, mj_hole, mj_hole, mj_hole] [] (u, ml_h m lm) (mk Ln xs 93 52 [.ref 1, .int x1, .int x2, mj_hole] [] Φ) := (wp_same xd93_49 (Or.inr rfl) rfl).trans ((wp_same xd93_50 (Or.inr rfl) rfl).trans ((wp_same xd93_51 (Or.inr rfl) rfl).trans (wm_cv (As := [.int x1, .int x2]) (rest := []) xd93_52 rfl rfl (show ml_L[1]? = _ from rfl) (Nat.le_of_ble_eq_true rfl) (Nat.le_of_ble_eq_true rfl) (Nat.le_of_ble_eq_true rfl) (Nat.le_of_ble_eq_true rfl))))
theorem x93_55 {x1 : Int32} {x2 : Int32} {xs0 : Int32} : wp Ln xs 93 55 [.ref 1, .int x1, .int x2, mj_hole] [.int xs0] (u, ml_h m lm) Φ = wp Ln xs 55 0 [.ref 3, .int x1, .int x2] [] (u, ml_h m lm) (mk Ln xs 93 65 [.ref 1, .int x1, .int x2, .int xs0] [] Φ) := (wp_same (L' := [.ref 1, .int x1, .int x2, .int xs0]) xd93_55 (Or.inr rfl) rfl).trans ((wp_same xd93_56 (Or.inr rfl) rfl).trans ((wm_getr xd93_57 rfl (show ml_L[1]? = _ from rfl) rfl (Nat.le_of_ble_eq_true rfl)).trans ((wm_getr xd93_60 rfl (show ml_L[2]? = _ from rfl) rfl (Nat.le_of_ble_eq_true rfl)).trans ((wp_same xd93_63 (Or.inr rfl) rfl).trans ((wp_same xd93_64 (Or.inr rfl) rfl).trans (wm_cs (As := [.ref 3, .int x1, .int x2]) (rest := []) xd93_65 rfl rfl (Nat.le_of_ble_eq_true rfl) (Nat.le_of_ble_eq_true rfl) (Nat.le_of_ble_eq_true rfl) (Nat.le_of_ble_eq_true rfl)))))))
theorem x93_68 {x1 : Int32} {x2 : Int32} {x3 : Int32} : wp Ln xs 93 68 [.ref 1, .int x1, .int x2, .int x3] [] (u, ml_h m lm) Φ = if ¬ x3 = (nI 1) then wp Ln xs 93 89 [.ref 1, .int x1, .int x2, .int x3] [] (u, ml_h m lm) Φ else wp Ln xs 93 73 [.ref 1, .int x1, .int x2, .int x3] [] (u, ml_h m lm) Φ := (wp_same xd93_68 (Or.inr rfl) rfl).trans ((wp_same (S' := [.int (nI 1), .int x3]) xd93_69 (Or.inr rfl) rfl).trans (wx_icmp xd93_70 rfl rfl (¬ x3 = (nI 1)) mb_ne))
theorem x93_73 {x1 : Int32} {x2 : Int32} {x3 : Int32} : wp Ln xs 93 73 [.ref 1, .int x1, .int x2, .int x3] [] (u, ml_h m lm) Φ = wp Ln xs 93 106 [.ref 1, .int x1, .int x2, .int x3] [] (u, ml_h (ml_s m 2 7 ((m 2 7) + (nI 1))) lm) Φ := (wp_same xd93_73 (Or.inr rfl) rfl).trans ((wm_getr xd93_74 rfl (show ml_L[1]? = _ from rfl) rfl (Nat.le_of_ble_eq_true rfl)).trans ((wp_same xd93_77 (Or.inr rfl) rfl).trans ((wm_geti xd93_78 rfl (show ml_L[2]? = _ from rfl) rfl (Nat.le_of_ble_eq_true rfl)).trans ((wp_same (S' := [.int (nI 1), .int (m 2 7), .ref 2]) xd93_81 (Or.inr rfl) rfl).trans ((wp_same xd93_82 (Or.inr rfl) rfl).trans ((wm_puti xd93_83 rfl (show ml_L[2]? = _ from rfl) rfl (Nat.le_of_ble_eq_true rfl) rfl rfl rfl).trans (wx_goto xd93_86 rfl)))))))
theorem x93_89 {x1 : Int32} {x2 : Int32} {x3 : Int32} : wp Ln xs 93 89 [.ref 1, .int x1, .int x2, .int x3] [] (u, ml_h m lm) Φ = if ¬ x3 = (nI 2) then wp Ln xs 93 106 [.ref 1, .int x1, .int x2, .int x3] [] (u, ml_h m lm) Φ else wp Ln xs 93 94 [.ref 1, .int x1, .int x2, .int x3] [] (u, ml_h m lm) Φ := (wp_same xd93_89 (Or.inr rfl) rfl).trans ((wp_same (S' := [.int (nI 2), .int x3]) xd93_90 (Or.inr rfl) rfl).trans (wx_icmp xd93_91 rfl rfl (¬ x3 = (nI 2)) mb_ne))
theorem x93_94 {x1 : Int32} {x2 : Int32} {x3 : Int32} : wp Ln xs 93 94 [.ref 1, .int x1, .int x2, .int x3] [] (u, ml_h m lm) Φ = wp Ln xs 44 0 [.ref 2, .int x1, mj_hole, mj_hole] [] (u, ml_h m lm) (mk Ln xs 93 100 [.ref 1, .int x1, .int x2, .int x3] [.ref 1] Φ) := (wp_same xd93_94 (Or.inr rfl) rfl).trans ((wp_same xd93_95 (Or.inr rfl) rfl).trans ((wm_getr xd93_96 rfl (show ml_L[1]? = _ from rfl) rfl (Nat.le_of_ble_eq_true rfl)).trans ((wp_same xd93_99 (Or.inr rfl) rfl).trans (wm_cv (As := [.int x1]) (rest := [.ref 1]) xd93_100 rfl rfl (show ml_L[2]? = _ from rfl) (Nat.le_of_ble_eq_true rfl) (Nat.le_of_ble_eq_true rfl) (Nat.le_of_ble_eq_true rfl) (Nat.le_of_ble_eq_true rfl)))))
theorem x93_103 {x1 : Int32} {x2 : Int32} {x3 : Int32} {xs0 : Int32} : wp Ln xs 93 103 [.ref 1, .int x1, .int x2, .int x3] [.int xs0, .ref 1] (u, ml_h m lm) Φ = wp Ln xs 89 0 [.ref 1, .int xs0] [] (u, ml_h m lm) (mk Ln xs 93 103 [.ref 1, .int x1, .int x2, .int x3] [] Φ) := wm_cv (As := [.int xs0]) (rest := []) xd93_103 rfl rfl (show ml_L[1]? = _ from rfl) (Nat.le_of_ble_eq_true rfl) (Nat.le_of_ble_eq_true rfl) (Nat.le_of_ble_eq_true rfl) (Nat.le_of_ble_eq_true rfl)
theorem x93_106 {x1 : Int32} {x2 : Int32} {x3 : Int32} : wp Ln xs 93 106 [.ref 1, .int x1, .int x2, .int x3] [] (u, ml_h m lm) Φ = Φ (.inl (some (.int x3))) (u, ml_h m lm) := (wp_same xd93_106 (Or.inr rfl) rfl).trans (wp_fin (v := some (.int x3)) xd93_107 (Or.inr rfl) rfl (mj_fin_i rfl))
/- PickedForms$Column.hasIndex -/
theorem xd94_0 : decode (mj_b 94) 0 = .ok (.iload_n 1, 1) := by decide +kernel
theorem xd94_1 : decode (mj_b 94) 1 = .ok (.ifCond .lt 15, 3) := by decide +kernel
theorem xd94_4 : decode (mj_b 94) 4 = .ok (.iload_n 1, 1) := by decide +kernel
theorem xd94_5 : decode (mj_b 94) 5 = .ok (.aload_n 0, 1) := by decide +kernel
theorem xd94_6 : decode (mj_b 94) 6 = .ok (.getfield 27, 3) := by decide +kernel
theorem xd94_9 : decode (mj_b 94) 9 = .ok (.if_icmp .ge 7, 3) := by decide +kernel
theorem xd94_12 : decode (mj_b 94) 12 = .ok (.iconst 1, 1) := by decide +kernel
theorem xd94_13 : decode (mj_b 94) 13 = .ok (.goto 4, 3) := by decide +kernel
theorem xd94_16 : decode (mj_b 94) 16 = .ok (.iconst 0, 1) := by decide +kernel
theorem xd94_17 : decode (mj_b 94) 17 = .ok (.ireturn, 1) := by decide +kernel
theorem x94_0 {x1 : Int32} : wp Ln xs 94 0 [.ref 2, .int x1] [] (u, ml_h m lm) Φ = if x1 < (nI 0) then wp Ln xs 94 16 [.ref 2, .int x1] [] (u, ml_h m lm) Φ else wp Ln xs 94 4 [.ref 2, .int x1] [] (u, ml_h m lm) Φ := (wp_same xd94_0 (Or.inr rfl) rfl).trans (wx_if xd94_1 rfl rfl (x1 < (nI 0)) mb_lt)
theorem x94_4 {x1 : Int32} : wp Ln xs 94 4 [.ref 2, .int x1] [] (u, ml_h m lm) Φ = if (m 2 5) ≤ x1 then wp Ln xs 94 16 [.ref 2, .int x1] [] (u, ml_h m lm) Φ else wp Ln xs 94 12 [.ref 2, .int x1] [] (u, ml_h m lm) Φ := (wp_same xd94_4 (Or.inr rfl) rfl).trans ((wp_same xd94_5 (Or.inr rfl) rfl).trans ((wm_geti xd94_6 rfl (show ml_L[2]? = _ from rfl) rfl (Nat.le_of_ble_eq_true rfl)).trans (wx_icmp xd94_9 rfl rfl ((m 2 5) ≤ x1) mb_ge)))
theorem x94_12 {x1 : Int32} : wp Ln xs 94 12 [.ref 2, .int x1] [] (u, ml_h m lm) Φ = Φ (.inl (some (.int (nI 1)))) (u, ml_h m lm) := (wp_same (S' := [.int (nI 1)]) xd94_12 (Or.inr rfl) rfl).trans ((wx_goto xd94_13 rfl).trans (wp_fin (v := some (.int (nI 1))) xd94_17 (Or.inr rfl) rfl rfl))
theorem x94_16 {x1 : Int32} : wp Ln xs 94 16 [.ref 2, .int x1] [] (u, ml_h m lm) Φ = Φ (.inl (some (.int (nI 0)))) (u, ml_h m lm) := (wp_same (S' := [.int (nI 0)]) xd94_16 (Or.inr rfl) rfl).trans (wp_fin (v := some (.int (nI 0))) xd94_17 (Or.inr rfl) rfl rfl)
/- PickedForms.outcomeOf -/
theorem xd95_0 : decode (mj_b 95) 0 = .ok (.aload_n 0, 1) := by decide +kernel
theorem xd95_1 : decode (mj_b 95) 1 = .ok (.getfield 12, 3) := by decide +kernel
theorem xd95_4 : decode (mj_b 95) 4 = .ok (.iload_n 1, 1) := by decide +kernel
theorem xd95_5 : decode (mj_b 95) 5 = .ok (.invokevirtual 151, 3) := by decide +kernel
theorem xd95_8 : decode (mj_b 95) 8 = .ok (.istore_n 3, 1) := by decide +kernel
theorem xd95_9 : decode (mj_b 95) 9 = .ok (.iload_n 3, 1) := by decide +kernel
theorem xd95_10 : decode (mj_b 95) 10 = .ok (.iconst (-1), 1) := by decide +kernel
theorem xd95_11 : decode (mj_b 95) 11 = .ok (.if_icmp .ne 5, 3) := by decide +kernel
theorem xd95_14 : decode (mj_b 95) 14 = .ok (.iconst 0, 1) := by decide +kernel
theorem xd95_15 : decode (mj_b 95) 15 = .ok (.ireturn, 1) := by decide +kernel
theorem xd95_16 : decode (mj_b 95) 16 = .ok (.aload_n 0, 1) := by decide +kernel
theorem xd95_17 : decode (mj_b 95) 17 = .ok (.getfield 12, 3) := by decide +kernel
theorem xd95_20 : decode (mj_b 95) 20 = .ok (.iload_n 3, 1) := by decide +kernel
theorem xd95_21 : decode (mj_b 95) 21 = .ok (.invokevirtual 182, 3) := by decide +kernel
theorem xd95_24 : decode (mj_b 95) 24 = .ok (.istore 4, 2) := by decide +kernel
theorem xd95_26 : decode (mj_b 95) 26 = .ok (.aload_n 0, 1) := by decide +kernel
theorem xd95_27 : decode (mj_b 95) 27 = .ok (.getfield 12, 3) := by decide +kernel
theorem xd95_30 : decode (mj_b 95) 30 = .ok (.iload_n 3, 1) := by decide +kernel
theorem xd95_31 : decode (mj_b 95) 31 = .ok (.invokevirtual 164, 3) := by decide +kernel
theorem xd95_34 : decode (mj_b 95) 34 = .ok (.istore 5, 2) := by decide +kernel
theorem xd95_36 : decode (mj_b 95) 36 = .ok (.iconst 0, 1) := by decide +kernel
theorem xd95_37 : decode (mj_b 95) 37 = .ok (.istore 6, 2) := by decide +kernel
theorem xd95_39 : decode (mj_b 95) 39 = .ok (.iload 6, 2) := by decide +kernel
theorem xd95_41 : decode (mj_b 95) 41 = .ok (.iload 5, 2) := by decide +kernel
theorem xd95_43 : decode (mj_b 95) 43 = .ok (.if_icmp .ge 33, 3) := by decide +kernel
theorem xd95_46 : decode (mj_b 95) 46 = .ok (.aload_n 0, 1) := by decide +kernel
theorem xd95_47 : decode (mj_b 95) 47 = .ok (.getfield 72, 3) := by decide +kernel
theorem xd95_50 : decode (mj_b 95) 50 = .ok (.iload 6, 2) := by decide +kernel
theorem xd95_52 : decode (mj_b 95) 52 = .ok (.aload_n 0, 1) := by decide +kernel
theorem xd95_53 : decode (mj_b 95) 53 = .ok (.getfield 12, 3) := by decide +kernel
theorem xd95_56 : decode (mj_b 95) 56 = .ok (.getfield 139, 3) := by decide +kernel
theorem xd95_59 : decode (mj_b 95) 59 = .ok (.iload 4, 2) := by decide +kernel
theorem xd95_61 : decode (mj_b 95) 61 = .ok (.iload 6, 2) := by decide +kernel
theorem xd95_63 : decode (mj_b 95) 63 = .ok (.iadd, 1) := by decide +kernel
theorem xd95_64 : decode (mj_b 95) 64 = .ok (.invokestatic 233, 3) := by decide +kernel
theorem xd95_67 : decode (mj_b 95) 67 = .ok (.invokestatic 142, 3) := by decide +kernel
theorem xd95_70 : decode (mj_b 95) 70 = .ok (.iinc 6 1, 3) := by decide +kernel
theorem xd95_73 : decode (mj_b 95) 73 = .ok (.goto (-34), 3) := by decide +kernel
theorem xd95_76 : decode (mj_b 95) 76 = .ok (.aload_n 0, 1) := by decide +kernel
theorem xd95_77 : decode (mj_b 95) 77 = .ok (.getfield 72, 3) := by decide +kernel
theorem xd95_80 : decode (mj_b 95) 80 = .ok (.iload_n 1, 1) := by decide +kernel
theorem xd95_81 : decode (mj_b 95) 81 = .ok (.iload 4, 2) := by decide +kernel
theorem xd95_83 : decode (mj_b 95) 83 = .ok (.isub, 1) := by decide +kernel
theorem xd95_84 : decode (mj_b 95) 84 = .ok (.iload_n 2, 1) := by decide +kernel
theorem xd95_85 : decode (mj_b 95) 85 = .ok (.invokestatic 142, 3) := by decide +kernel
theorem xd95_88 : decode (mj_b 95) 88 = .ok (.aload_n 0, 1) := by decide +kernel
theorem xd95_89 : decode (mj_b 95) 89 = .ok (.getfield 40, 3) := by decide +kernel
theorem xd95_92 : decode (mj_b 95) 92 = .ok (.aload_n 0, 1) := by decide +kernel
theorem xd95_93 : decode (mj_b 95) 93 = .ok (.getfield 72, 3) := by decide +kernel
theorem xd95_96 : decode (mj_b 95) 96 = .ok (.iconst 0, 1) := by decide +kernel
theorem xd95_97 : decode (mj_b 95) 97 = .ok (.iload 5, 2) := by decide +kernel
theorem xd95_99 : decode (mj_b 95) 99 = .ok (.invokevirtual 379, 3) := by decide +kernel
theorem xd95_102 : decode (mj_b 95) 102 = .ok (.aload_n 0, 1) := by decide +kernel
theorem xd95_103 : decode (mj_b 95) 103 = .ok (.getfield 40, 3) := by decide +kernel
theorem xd95_106 : decode (mj_b 95) 106 = .ok (.aload_n 0, 1) := by decide +kernel
theorem xd95_107 : decode (mj_b 95) 107 = .ok (.getfield 12, 3) := by decide +kernel
theorem xd95_110 : decode (mj_b 95) 110 = .ok (.iload_n 3, 1) := by decide +kernel
theorem xd95_111 : decode (mj_b 95) 111 = .ok (.invokevirtual 123, 3) := by decide +kernel
theorem xd95_114 : decode (mj_b 95) 114 = .ok (.invokevirtual 268, 3) := by decide +kernel
theorem xd95_117 : decode (mj_b 95) 117 = .ok (.aload_n 0, 1) := by decide +kernel
theorem xd95_118 : decode (mj_b 95) 118 = .ok (.getfield 12, 3) := by decide +kernel
theorem xd95_121 : decode (mj_b 95) 121 = .ok (.iload_n 3, 1) := by decide +kernel
theorem xd95_122 : decode (mj_b 95) 122 = .ok (.invokevirtual 159, 3) := by decide +kernel
theorem xd95_125 : decode (mj_b 95) 125 = .ok (.if_icmp .gt 7, 3) := by decide +kernel
theorem xd95_128 : decode (mj_b 95) 128 = .ok (.iconst 1, 1) := by decide +kernel
theorem xd95_129 : decode (mj_b 95) 129 = .ok (.goto 4, 3) := by decide +kernel
theorem xd95_132 : decode (mj_b 95) 132 = .ok (.iconst 2, 1) := by decide +kernel
theorem xd95_133 : decode (mj_b 95) 133 = .ok (.ireturn, 1) := by decide +kernel
theorem x95_0 {x1 : Int32} {x2 : Int32} : wp Ln xs 95 0 [.ref 1, .int x1, .int x2, mj_hole, mj_hole, mj_hole, mj_hole] [] (u, ml_h m lm) Φ = wp Ln xs 44 0 [.ref 2, .int x1, mj_hole, mj_hole] [] (u, ml_h m lm) (mk Ln xs 95 5 [.ref 1, .int x1, .int x2, mj_hole, mj_hole, mj_hole, mj_hole] [] Φ) := (wp_same xd95_0 (Or.inr rfl) rfl).trans ((wm_getr xd95_1 rfl (show ml_L[1]? = _ from rfl) rfl (Nat.le_of_ble_eq_true rfl)).trans ((wp_same xd95_4 (Or.inr rfl) rfl).trans (wm_cv (As := [.int x1]) (rest := []) xd95_5 rfl rfl (show ml_L[2]? = _ from rfl) (Nat.le_of_ble_eq_true rfl) (Nat.le_of_ble_eq_true rfl) (Nat.le_of_ble_eq_true rfl) (Nat.le_of_ble_eq_true rfl))))
theorem x95_8 {x1 : Int32} {x2 : Int32} {xs0 : Int32} : wp Ln xs 95 8 [.ref 1, .int x1, .int x2, mj_hole, mj_hole, mj_hole, mj_hole] [.int xs0] (u, ml_h m lm) Φ = if ¬ xs0 = ((-1)) then wp Ln xs 95 16 [.ref 1, .int x1, .int x2, .int xs0, mj_hole, mj_hole, mj_hole] [] (u, ml_h m lm) Φ else wp Ln xs 95 14 [.ref 1, .int x1, .int x2, .int xs0, mj_hole, mj_hole, mj_hole] [] (u, ml_h m lm) Φ := (wp_same (L' := [.ref 1, .int x1, .int x2, .int xs0, mj_hole, mj_hole, mj_hole]) xd95_8 (Or.inr rfl) rfl).trans ((wp_same xd95_9 (Or.inr rfl) rfl).trans ((wp_same (S' := [.int ((-1)), .int xs0]) xd95_10 (Or.inr rfl) rfl).trans (wx_icmp xd95_11 rfl rfl (¬ xs0 = ((-1))) mb_ne)))
theorem x95_14 {x1 : Int32} {x2 : Int32} {x3 : Int32} : wp Ln xs 95 14 [.ref 1, .int x1, .int x2, .int x3, mj_hole, mj_hole, mj_hole] [] (u, ml_h m lm) Φ = Φ (.inl (some (.int (nI 0)))) (u, ml_h m lm) := (wp_same (S' := [.int (nI 0)]) xd95_14 (Or.inr rfl) rfl).trans (wp_fin (v := some (.int (nI 0))) xd95_15 (Or.inr rfl) rfl (mj_fin_i rfl))
theorem x95_16 {x1 : Int32} {x2 : Int32} {x3 : Int32} : wp Ln xs 95 16 [.ref 1, .int x1, .int x2, .int x3, mj_hole, mj_hole, mj_hole] [] (u, ml_h m lm) Φ = wp Ln xs 24 0 [.ref 2, .int x3, mj_hole, mj_hole] [] (u, ml_h m lm) (mk Ln xs 95 21 [.ref 1, .int x1, .int x2, .int x3, mj_hole, mj_hole, mj_hole] [] Φ) := (wp_same xd95_16 (Or.inr rfl) rfl).trans ((wm_getr xd95_17 rfl (show ml_L[1]? = _ from rfl) rfl (Nat.le_of_ble_eq_true rfl)).trans ((wp_same xd95_20 (Or.inr rfl) rfl).trans (wm_cv (As := [.int x3]) (rest := []) xd95_21 rfl rfl (show ml_L[2]? = _ from rfl) (Nat.le_of_ble_eq_true rfl) (Nat.le_of_ble_eq_true rfl) (Nat.le_of_ble_eq_true rfl) (Nat.le_of_ble_eq_true rfl))))
theorem x95_24 {x1 : Int32} {x2 : Int32} {x3 : Int32} {xs0 : Int32} : wp Ln xs 95 24 [.ref 1, .int x1, .int x2, .int x3, mj_hole, mj_hole, mj_hole] [.int xs0] (u, ml_h m lm) Φ = wp Ln xs 30 0 [.ref 2, .int x3] [] (u, ml_h m lm) (mk Ln xs 95 31 [.ref 1, .int x1, .int x2, .int x3, .int xs0, mj_hole, mj_hole] [] Φ) := (wp_same (L' := [.ref 1, .int x1, .int x2, .int x3, .int xs0, mj_hole, mj_hole]) xd95_24 (Or.inr rfl) rfl).trans ((wp_same xd95_26 (Or.inr rfl) rfl).trans ((wm_getr xd95_27 rfl (show ml_L[1]? = _ from rfl) rfl (Nat.le_of_ble_eq_true rfl)).trans ((wp_same xd95_30 (Or.inr rfl) rfl).trans (wm_cv (As := [.int x3]) (rest := []) xd95_31 rfl rfl (show ml_L[2]? = _ from rfl) (Nat.le_of_ble_eq_true rfl) (Nat.le_of_ble_eq_true rfl) (Nat.le_of_ble_eq_true rfl) (Nat.le_of_ble_eq_true rfl)))))
theorem x95_34 {x1 : Int32} {x2 : Int32} {x3 : Int32} {x4 : Int32} {xs0 : Int32} : wp Ln xs 95 34 [.ref 1, .int x1, .int x2, .int x3, .int x4, mj_hole, mj_hole] [.int xs0] (u, ml_h m lm) Φ = wp Ln xs 95 39 [.ref 1, .int x1, .int x2, .int x3, .int x4, .int xs0, .int (nI 0)] [] (u, ml_h m lm) Φ := (wp_same (L' := [.ref 1, .int x1, .int x2, .int x3, .int x4, .int xs0, mj_hole]) xd95_34 (Or.inr rfl) rfl).trans ((wp_same (S' := [.int (nI 0)]) xd95_36 (Or.inr rfl) rfl).trans (wp_same (L' := [.ref 1, .int x1, .int x2, .int x3, .int x4, .int xs0, .int (nI 0)]) xd95_37 (Or.inr rfl) rfl))
theorem x95_39 {x1 : Int32} {x2 : Int32} {x3 : Int32} {x4 : Int32} {x5 : Int32} {x6 : Int32} : wp Ln xs 95 39 [.ref 1, .int x1, .int x2, .int x3, .int x4, .int x5, .int x6] [] (u, ml_h m lm) Φ = if x5 ≤ x6 then wp Ln xs 95 76 [.ref 1, .int x1, .int x2, .int x3, .int x4, .int x5, .int x6] [] (u, ml_h m lm) Φ else wp Ln xs 95 46 [.ref 1, .int x1, .int x2, .int x3, .int x4, .int x5, .int x6] [] (u, ml_h m lm) Φ := (wp_same xd95_39 (Or.inr rfl) rfl).trans ((wp_same xd95_41 (Or.inr rfl) rfl).trans (wx_icmp xd95_43 rfl rfl (x5 ≤ x6) mb_ge))
theorem x95_46 {x1 : Int32} {x2 : Int32} {x3 : Int32} {x4 : Int32} {x5 : Int32} {x6 : Int32} : wp Ln xs 95 46 [.ref 1, .int x1, .int x2, .int x3, .int x4, .int x5, .int x6] [] (u, ml_h m lm) Φ = wp Ln xs 13 0 [.ref 3, .int (x4 + x6)] [] (u, ml_h m lm) (mk Ln xs 95 64 [.ref 1, .int x1, .int x2, .int x3, .int x4, .int x5, .int x6] [.int x6, .ref 71] Φ) := (wp_same xd95_46 (Or.inr rfl) rfl).trans ((wm_getr xd95_47 rfl (show ml_L[1]? = _ from rfl) rfl (Nat.le_of_ble_eq_true rfl)).trans ((wp_same xd95_50 (Or.inr rfl) rfl).trans ((wp_same xd95_52 (Or.inr rfl) rfl).trans ((wm_getr xd95_53 rfl (show ml_L[1]? = _ from rfl) rfl (Nat.le_of_ble_eq_true rfl)).trans ((wm_getr xd95_56 rfl (show ml_L[2]? = _ from rfl) rfl (Nat.le_of_ble_eq_true rfl)).trans ((wp_same xd95_59 (Or.inr rfl) rfl).trans ((wp_same xd95_61 (Or.inr rfl) rfl).trans ((wp_same xd95_63 (Or.inr rfl) rfl).trans (wm_cs (As := [.ref 3, .int (x4 + x6)]) (rest := [.int x6, .ref 71]) xd95_64 rfl rfl (Nat.le_of_ble_eq_true rfl) (Nat.le_of_ble_eq_true rfl) (Nat.le_of_ble_eq_true rfl) (Nat.le_of_ble_eq_true rfl))))))))))
theorem x95_67 {x1 : Int32} {x2 : Int32} {x3 : Int32} {x4 : Int32} {x5 : Int32} {x6 : Int32} {xs0 : Int32} {xs1 : Int32} : wp Ln xs 95 67 [.ref 1, .int x1, .int x2, .int x3, .int x4, .int x5, .int x6] [.int xs0, .int xs1, .ref 71] (u, ml_h m lm) Φ = wp Ln xs 55 0 [.ref 71, .int xs1, .int xs0] [] (u, ml_h m lm) (mk Ln xs 95 67 [.ref 1, .int x1, .int x2, .int x3, .int x4, .int x5, .int x6] [] Φ) := wm_cs (As := [.ref 71, .int xs1, .int xs0]) (rest := []) xd95_67 rfl rfl (Nat.le_of_ble_eq_true rfl) (Nat.le_of_ble_eq_true rfl) (Nat.le_of_ble_eq_true rfl) (Nat.le_of_ble_eq_true rfl)
theorem x95_70 {x1 : Int32} {x2 : Int32} {x3 : Int32} {x4 : Int32} {x5 : Int32} {x6 : Int32} : wp Ln xs 95 70 [.ref 1, .int x1, .int x2, .int x3, .int x4, .int x5, .int x6] [] (u, ml_h m lm) Φ = wp Ln xs 95 39 [.ref 1, .int x1, .int x2, .int x3, .int x4, .int x5, .int (x6 + nI 1)] [] (u, ml_h m lm) Φ := (wp_same (L' := [.ref 1, .int x1, .int x2, .int x3, .int x4, .int x5, .int (x6 + nI 1)]) xd95_70 (Or.inr rfl) rfl).trans (wx_goto xd95_73 rfl)
theorem x95_76 {x1 : Int32} {x2 : Int32} {x3 : Int32} {x4 : Int32} {x5 : Int32} {x6 : Int32} : wp Ln xs 95 76 [.ref 1, .int x1, .int x2, .int x3, .int x4, .int x5, .int x6] [] (u, ml_h m lm) Φ = wp Ln xs 55 0 [.ref 71, .int (x1 - x4), .int x2] [] (u, ml_h m lm) (mk Ln xs 95 85 [.ref 1, .int x1, .int x2, .int x3, .int x4, .int x5, .int x6] [] Φ) := (wp_same xd95_76 (Or.inr rfl) rfl).trans ((wm_getr xd95_77 rfl (show ml_L[1]? = _ from rfl) rfl (Nat.le_of_ble_eq_true rfl)).trans ((wp_same xd95_80 (Or.inr rfl) rfl).trans ((wp_same xd95_81 (Or.inr rfl) rfl).trans ((wp_same xd95_83 (Or.inr rfl) rfl).trans ((wp_same xd95_84 (Or.inr rfl) rfl).trans (wm_cs (As := [.ref 71, .int (x1 - x4), .int x2]) (rest := []) xd95_85 rfl rfl (Nat.le_of_ble_eq_true rfl) (Nat.le_of_ble_eq_true rfl) (Nat.le_of_ble_eq_true rfl) (Nat.le_of_ble_eq_true rfl)))))))
theorem x95_88 {x1 : Int32} {x2 : Int32} {x3 : Int32} {x4 : Int32} {x5 : Int32} {x6 : Int32} : wp Ln xs 95 88 [.ref 1, .int x1, .int x2, .int x3, .int x4, .int x5, .int x6] [] (u, ml_h m lm) Φ = wp Ln xs 31 0 [.ref 56, .ref 71, .int (nI 0), .int x5, mj_hole] [] (u, ml_h m lm) (mk Ln xs 95 99 [.ref 1, .int x1, .int x2, .int x3, .int x4, .int x5, .int x6] [] Φ) := (wp_same xd95_88 (Or.inr rfl) rfl).trans ((wm_getr xd95_89 rfl (show ml_L[1]? = _ from rfl) rfl (Nat.le_of_ble_eq_true rfl)).trans ((wp_same xd95_92 (Or.inr rfl) rfl).trans ((wm_getr xd95_93 rfl (show ml_L[1]? = _ from rfl) rfl (Nat.le_of_ble_eq_true rfl)).trans ((wp_same (S' := [.int (nI 0), .ref 71, .ref 56]) xd95_96 (Or.inr rfl) rfl).trans ((wp_same xd95_97 (Or.inr rfl) rfl).trans (wm_cv (As := [.ref 71, .int (nI 0), .int x5]) (rest := []) xd95_99 rfl rfl (show ml_L[56]? = _ from rfl) (Nat.le_of_ble_eq_true rfl) (Nat.le_of_ble_eq_true rfl) (Nat.le_of_ble_eq_true rfl) (Nat.le_of_ble_eq_true rfl)))))))
theorem x95_102 {x1 : Int32} {x2 : Int32} {x3 : Int32} {x4 : Int32} {x5 : Int32} {x6 : Int32} : wp Ln xs 95 102 [.ref 1, .int x1, .int x2, .int x3, .int x4, .int x5, .int x6] [] (u, ml_h m lm) Φ = wp Ln xs 36 0 [.ref 2, .int x3] [] (u, ml_h m lm) (mk Ln xs 95 111 [.ref 1, .int x1, .int x2, .int x3, .int x4, .int x5, .int x6] [.ref 56] Φ) := (wp_same xd95_102 (Or.inr rfl) rfl).trans ((wm_getr xd95_103 rfl (show ml_L[1]? = _ from rfl) rfl (Nat.le_of_ble_eq_true rfl)).trans ((wp_same xd95_106 (Or.inr rfl) rfl).trans ((wm_getr xd95_107 rfl (show ml_L[1]? = _ from rfl) rfl (Nat.le_of_ble_eq_true rfl)).trans ((wp_same xd95_110 (Or.inr rfl) rfl).trans (wm_cv (As := [.int x3]) (rest := [.ref 56]) xd95_111 rfl rfl (show ml_L[2]? = _ from rfl) (Nat.le_of_ble_eq_true rfl) (Nat.le_of_ble_eq_true rfl) (Nat.le_of_ble_eq_true rfl) (Nat.le_of_ble_eq_true rfl))))))
theorem x95_114 {x1 : Int32} {x2 : Int32} {x3 : Int32} {x4 : Int32} {x5 : Int32} {x6 : Int32} {xs0 : Int32} : wp Ln xs 95 114 [.ref 1, .int x1, .int x2, .int x3, .int x4, .int x5, .int x6] [.int xs0, .ref 56] (u, ml_h m lm) Φ = wp Ln xs 37 0 [.ref 56, .int xs0] [] (u, ml_h m lm) (mk Ln xs 95 114 [.ref 1, .int x1, .int x2, .int x3, .int x4, .int x5, .int x6] [] Φ) := wm_cv (As := [.int xs0]) (rest := []) xd95_114 rfl rfl (show ml_L[56]? = _ from rfl) (Nat.le_of_ble_eq_true rfl) (Nat.le_of_ble_eq_true rfl) (Nat.le_of_ble_eq_true rfl) (Nat.le_of_ble_eq_true rfl)
theorem x95_117 {x1 : Int32} {x2 : Int32} {x3 : Int32} {x4 : Int32} {x5 : Int32} {x6 : Int32} {xs0 : Int32} : wp Ln xs 95 117 [.ref 1, .int x1, .int x2, .int x3, .int x4, .int x5, .int x6] [.int xs0] (u, ml_h m lm) Φ = wp Ln xs 48 0 [.ref 2, .int x3] [] (u, ml_h m lm) (mk Ln xs 95 122 [.ref 1, .int x1, .int x2, .int x3, .int x4, .int x5, .int x6] [.int xs0] Φ) := (wp_same xd95_117 (Or.inr rfl) rfl).trans ((wm_getr xd95_118 rfl (show ml_L[1]? = _ from rfl) rfl (Nat.le_of_ble_eq_true rfl)).trans ((wp_same xd95_121 (Or.inr rfl) rfl).trans (wm_cv (As := [.int x3]) (rest := [.int xs0]) xd95_122 rfl rfl (show ml_L[2]? = _ from rfl) (Nat.le_of_ble_eq_true rfl) (Nat.le_of_ble_eq_true rfl) (Nat.le_of_ble_eq_true rfl) (Nat.le_of_ble_eq_true rfl))))
theorem x95_125 {x1 : Int32} {x2 : Int32} {x3 : Int32} {x4 : Int32} {x5 : Int32} {x6 : Int32} {xs0 : Int32} {xs1 : Int32} : wp Ln xs 95 125 [.ref 1, .int x1, .int x2, .int x3, .int x4, .int x5, .int x6] [.int xs0, .int xs1] (u, ml_h m lm) Φ = if xs0 < xs1 then wp Ln xs 95 132 [.ref 1, .int x1, .int x2, .int x3, .int x4, .int x5, .int x6] [] (u, ml_h m lm) Φ else wp Ln xs 95 128 [.ref 1, .int x1, .int x2, .int x3, .int x4, .int x5, .int x6] [] (u, ml_h m lm) Φ := wx_icmp xd95_125 rfl rfl (xs0 < xs1) mb_gt
theorem x95_128 {x1 : Int32} {x2 : Int32} {x3 : Int32} {x4 : Int32} {x5 : Int32} {x6 : Int32} : wp Ln xs 95 128 [.ref 1, .int x1, .int x2, .int x3, .int x4, .int x5, .int x6] [] (u, ml_h m lm) Φ = Φ (.inl (some (.int (nI 1)))) (u, ml_h m lm) := (wp_same (S' := [.int (nI 1)]) xd95_128 (Or.inr rfl) rfl).trans ((wx_goto xd95_129 rfl).trans (wp_fin (v := some (.int (nI 1))) xd95_133 (Or.inr rfl) rfl (mj_fin_i rfl)))
theorem x95_132 {x1 : Int32} {x2 : Int32} {x3 : Int32} {x4 : Int32} {x5 : Int32} {x6 : Int32} : wp Ln xs 95 132 [.ref 1, .int x1, .int x2, .int x3, .int x4, .int x5, .int x6] [] (u, ml_h m lm) Φ = Φ (.inl (some (.int (nI 2)))) (u, ml_h m lm) := (wp_same (S' := [.int (nI 2)]) xd95_132 (Or.inr rfl) rfl).trans (wp_fin (v := some (.int (nI 2))) xd95_133 (Or.inr rfl) rfl (mj_fin_i rfl))
/- PickedFormsLaw.anew -/
theorem xd96_0 : decode (mj_b 96) 0 = .ok (.aload_n 2, 1) := by decide +kernel
theorem xd96_1 : decode (mj_b 96) 1 = .ok (.iconst 0, 1) := by decide +kernel
theorem xd96_2 : decode (mj_b 96) 2 = .ok (.aload_n 0, 1) := by decide +kernel
theorem xd96_3 : decode (mj_b 96) 3 = .ok (.iload_n 1, 1) := by decide +kernel
theorem xd96_4 : decode (mj_b 96) 4 = .ok (.invokevirtual 27, 3) := by decide +kernel
theorem xd96_7 : decode (mj_b 96) 7 = .ok (.i2l, 1) := by decide +kernel
theorem xd96_8 : decode (mj_b 96) 8 = .ok (.lastore, 1) := by decide +kernel
theorem xd96_9 : decode (mj_b 96) 9 = .ok (.goto 6, 3) := by decide +kernel
theorem xd96_13 : decode (mj_b 96) 13 = .ok (.iconst 1, 1) := by decide +kernel
theorem xd96_14 : decode (mj_b 96) 14 = .ok (.ireturn, 1) := by decide +kernel
theorem xd96_15 : decode (mj_b 96) 15 = .ok (.iconst 0, 1) := by decide +kernel
theorem xd96_16 : decode (mj_b 96) 16 = .ok (.ireturn, 1) := by decide +kernel
theorem x96_0 {x1 : Int32} : wp Ln xs 96 0 [.ref 1, .int x1, .ref 81, mj_hole] [] (u, ml_h m lm) Φ = wp Ln xs 97 0 [.ref 1, .int x1, mj_hole] [] (u, ml_h m lm) (mk Ln xs 96 4 [.ref 1, .int x1, .ref 81, mj_hole] [.int (nI 0), .ref 81] Φ) := (wp_same xd96_0 (Or.inr rfl) rfl).trans ((wp_same (S' := [.int (nI 0), .ref 81]) xd96_1 (Or.inr rfl) rfl).trans ((wp_same xd96_2 (Or.inr rfl) rfl).trans ((wp_same xd96_3 (Or.inr rfl) rfl).trans (wm_cv (As := [.int x1]) (rest := [.int (nI 0), .ref 81]) xd96_4 rfl rfl (show ml_L[1]? = _ from rfl) (Nat.le_of_ble_eq_true rfl) (Nat.le_of_ble_eq_true rfl) (Nat.le_of_ble_eq_true rfl) (Nat.le_of_ble_eq_true rfl)))))
theorem x96_7 {x1 : Int32} {xs0 : Int32} {xs1 : Int32} : wp Ln xs 96 7 [.ref 1, .int x1, .ref 81, mj_hole] [.int xs0, .int xs1, .ref 81] (u, ml_h m lm) Φ = wp Ln xs 96 8 [.ref 1, .int x1, .ref 81, mj_hole] [.long xs0.toInt64, .int xs1, .ref 81] (u, ml_h m lm) Φ := wp_same xd96_7 (Or.inr rfl) rfl
theorem x96_8 {x1 : Int32} {ys0 : Int64} {k : Nat} (hk : k < 1) : wp Ln xs 96 8 [.ref 1, .int x1, .ref 81, mj_hole] [.long ys0, .int (nI k), .ref 81] (u, ml_h m lm) Φ = wp Ln xs 96 15 [.ref 1, .int x1, .ref 81, mj_hole] [] (u, ml_h m (ml_sj lm 81 k ys0)) Φ := (wm_last (k := k) xd96_8 rfl hk (by decide)).trans (wx_goto xd96_9 rfl)
theorem x96_13 {x1 : Int32} : wp Ln xs 96 13 [.ref 1, .int x1, .ref 81, mj_hole] [] (u, ml_h m lm) Φ = Φ (.inl (some (.int (nI 1)))) (u, ml_h m lm) := (wp_same (S' := [.int (nI 1)]) xd96_13 (Or.inr rfl) rfl).trans (wp_fin (v := some (.int (nI 1))) xd96_14 (Or.inr rfl) rfl (mj_fin_i rfl))
theorem x96_15 {x1 : Int32} : wp Ln xs 96 15 [.ref 1, .int x1, .ref 81, mj_hole] [] (u, ml_h m lm) Φ = Φ (.inl (some (.int (nI 0)))) (u, ml_h m lm) := (wp_same (S' := [.int (nI 0)]) xd96_15 (Or.inr rfl) rfl).trans (wp_fin (v := some (.int (nI 0))) xd96_16 (Or.inr rfl) rfl (mj_fin_i rfl))
/- PickedForms.anew -/
theorem xd97_0 : decode (mj_b 97) 0 = .ok (.aload_n 0, 1) := by decide +kernel
theorem xd97_1 : decode (mj_b 97) 1 = .ok (.getfield 12, 3) := by decide +kernel
theorem xd97_4 : decode (mj_b 97) 4 = .ok (.iload_n 1, 1) := by decide +kernel
theorem xd97_5 : decode (mj_b 97) 5 = .ok (.invokevirtual 154, 3) := by decide +kernel
theorem xd97_8 : decode (mj_b 97) 8 = .ok (.ifCond .ne 13, 3) := by decide +kernel
theorem xd97_11 : decode (mj_b 97) 11 = .ok (.new 130, 3) := by decide +kernel
theorem xd97_21 : decode (mj_b 97) 21 = .ok (.aload_n 0, 1) := by decide +kernel
theorem xd97_22 : decode (mj_b 97) 22 = .ok (.getfield 26, 3) := by decide +kernel
theorem xd97_25 : decode (mj_b 97) 25 = .ok (.aload_n 0, 1) := by decide +kernel
theorem xd97_26 : decode (mj_b 97) 26 = .ok (.getfield 12, 3) := by decide +kernel
theorem xd97_29 : decode (mj_b 97) 29 = .ok (.invokevirtual 96, 3) := by decide +kernel
theorem xd97_32 : decode (mj_b 97) 32 = .ok (.aload_n 0, 1) := by decide +kernel
theorem xd97_33 : decode (mj_b 97) 33 = .ok (.getfield 12, 3) := by decide +kernel
theorem xd97_36 : decode (mj_b 97) 36 = .ok (.iload_n 1, 1) := by decide +kernel
theorem xd97_37 : decode (mj_b 97) 37 = .ok (.invokevirtual 159, 3) := by decide +kernel
theorem xd97_40 : decode (mj_b 97) 40 = .ok (.istore_n 2, 1) := by decide +kernel
theorem xd97_41 : decode (mj_b 97) 41 = .ok (.aload_n 0, 1) := by decide +kernel
theorem xd97_42 : decode (mj_b 97) 42 = .ok (.iload_n 1, 1) := by decide +kernel
theorem xd97_43 : decode (mj_b 97) 43 = .ok (.invokevirtual 120, 3) := by decide +kernel
theorem xd97_46 : decode (mj_b 97) 46 = .ok (.iload_n 2, 1) := by decide +kernel
theorem xd97_47 : decode (mj_b 97) 47 = .ok (.aload_n 0, 1) := by decide +kernel
theorem xd97_48 : decode (mj_b 97) 48 = .ok (.getfield 12, 3) := by decide +kernel
theorem xd97_51 : decode (mj_b 97) 51 = .ok (.iload_n 1, 1) := by decide +kernel
theorem xd97_52 : decode (mj_b 97) 52 = .ok (.invokevirtual 159, 3) := by decide +kernel
theorem xd97_55 : decode (mj_b 97) 55 = .ok (.isub, 1) := by decide +kernel
theorem xd97_56 : decode (mj_b 97) 56 = .ok (.ireturn, 1) := by decide +kernel
theorem x97_0 {x1 : Int32} : wp Ln xs 97 0 [.ref 1, .int x1, mj_hole] [] (u, ml_h m lm) Φ = wp Ln xs 98 0 [.ref 2, .int x1] [] (u, ml_h m lm) (mk Ln xs 97 5 [.ref 1, .int x1, mj_hole] [] Φ) := (wp_same xd97_0 (Or.inr rfl) rfl).trans ((wm_getr xd97_1 rfl (show ml_L[1]? = _ from rfl) rfl (Nat.le_of_ble_eq_true rfl)).trans ((wp_same xd97_4 (Or.inr rfl) rfl).trans (wm_cv (As := [.int x1]) (rest := []) xd97_5 rfl rfl (show ml_L[2]? = _ from rfl) (Nat.le_of_ble_eq_true rfl) (Nat.le_of_ble_eq_true rfl) (Nat.le_of_ble_eq_true rfl) (Nat.le_of_ble_eq_true rfl))))
theorem x97_8 {x1 : Int32} {xs0 : Int32} : wp Ln xs 97 8 [.ref 1, .int x1, mj_hole] [.int xs0] (u, ml_h m lm) Φ = if ¬ xs0 = (nI 0) then wp Ln xs 97 21 [.ref 1, .int x1, mj_hole] [] (u, ml_h m lm) Φ else wp Ln xs 97 11 [.ref 1, .int x1, mj_hole] [] (u, ml_h m lm) Φ := wx_if xd97_8 rfl rfl (¬ xs0 = (nI 0)) mb_ne
theorem x97_11 {x1 : Int32} : wp Ln xs 97 11 [.ref 1, .int x1, mj_hole] [] (u, ml_h m lm) Φ = Φ (.inr 2) ((u.1, u.2.1 + 1, u.2.2 + 6), ml_h m lm) := wp_thr xd97_11 (Or.inr rfl) rfl rfl (E := 2) (by decide +kernel)
theorem x97_21 {x1 : Int32} : wp Ln xs 97 21 [.ref 1, .int x1, mj_hole] [] (u, ml_h m lm) Φ = wp Ln xs 85 0 [.ref 14, .ref 2, mj_hole] [] (u, ml_h m lm) (mk Ln xs 97 29 [.ref 1, .int x1, mj_hole] [] Φ) := (wp_same xd97_21 (Or.inr rfl) rfl).trans ((wm_getr xd97_22 rfl (show ml_L[1]? = _ from rfl) rfl (Nat.le_of_ble_eq_true rfl)).trans ((wp_same xd97_25 (Or.inr rfl) rfl).trans ((wm_getr xd97_26 rfl (show ml_L[1]? = _ from rfl) rfl (Nat.le_of_ble_eq_true rfl)).trans (wm_cv (As := [.ref 2]) (rest := []) xd97_29 rfl rfl (show ml_L[14]? = _ from rfl) (Nat.le_of_ble_eq_true rfl) (Nat.le_of_ble_eq_true rfl) (Nat.le_of_ble_eq_true rfl) (Nat.le_of_ble_eq_true rfl)))))
theorem x97_32 {x1 : Int32} : wp Ln xs 97 32 [.ref 1, .int x1, mj_hole] [] (u, ml_h m lm) Φ = wp Ln xs 48 0 [.ref 2, .int x1] [] (u, ml_h m lm) (mk Ln xs 97 37 [.ref 1, .int x1, mj_hole] [] Φ) := (wp_same xd97_32 (Or.inr rfl) rfl).trans ((wm_getr xd97_33 rfl (show ml_L[1]? = _ from rfl) rfl (Nat.le_of_ble_eq_true rfl)).trans ((wp_same xd97_36 (Or.inr rfl) rfl).trans (wm_cv (As := [.int x1]) (rest := []) xd97_37 rfl rfl (show ml_L[2]? = _ from rfl) (Nat.le_of_ble_eq_true rfl) (Nat.le_of_ble_eq_true rfl) (Nat.le_of_ble_eq_true rfl) (Nat.le_of_ble_eq_true rfl))))
theorem x97_40 {x1 : Int32} {xs0 : Int32} : wp Ln xs 97 40 [.ref 1, .int x1, mj_hole] [.int xs0] (u, ml_h m lm) Φ = wp Ln xs 89 0 [.ref 1, .int x1] [] (u, ml_h m lm) (mk Ln xs 97 43 [.ref 1, .int x1, .int xs0] [] Φ) := (wp_same (L' := [.ref 1, .int x1, .int xs0]) xd97_40 (Or.inr rfl) rfl).trans ((wp_same xd97_41 (Or.inr rfl) rfl).trans ((wp_same xd97_42 (Or.inr rfl) rfl).trans (wm_cv (As := [.int x1]) (rest := []) xd97_43 rfl rfl (show ml_L[1]? = _ from rfl) (Nat.le_of_ble_eq_true rfl) (Nat.le_of_ble_eq_true rfl) (Nat.le_of_ble_eq_true rfl) (Nat.le_of_ble_eq_true rfl))))
theorem x97_46 {x1 : Int32} {x2 : Int32} : wp Ln xs 97 46 [.ref 1, .int x1, .int x2] [] (u, ml_h m lm) Φ = wp Ln xs 48 0 [.ref 2, .int x1] [] (u, ml_h m lm) (mk Ln xs 97 52 [.ref 1, .int x1, .int x2] [.int x2] Φ) := (wp_same xd97_46 (Or.inr rfl) rfl).trans ((wp_same xd97_47 (Or.inr rfl) rfl).trans ((wm_getr xd97_48 rfl (show ml_L[1]? = _ from rfl) rfl (Nat.le_of_ble_eq_true rfl)).trans ((wp_same xd97_51 (Or.inr rfl) rfl).trans (wm_cv (As := [.int x1]) (rest := [.int x2]) xd97_52 rfl rfl (show ml_L[2]? = _ from rfl) (Nat.le_of_ble_eq_true rfl) (Nat.le_of_ble_eq_true rfl) (Nat.le_of_ble_eq_true rfl) (Nat.le_of_ble_eq_true rfl)))))
theorem x97_55 {x1 : Int32} {x2 : Int32} {xs0 : Int32} {xs1 : Int32} : wp Ln xs 97 55 [.ref 1, .int x1, .int x2] [.int xs0, .int xs1] (u, ml_h m lm) Φ = Φ (.inl (some (.int (xs1 - xs0)))) (u, ml_h m lm) := (wp_same xd97_55 (Or.inr rfl) rfl).trans (wp_fin (v := some (.int (xs1 - xs0))) xd97_56 (Or.inr rfl) rfl (mj_fin_i rfl))
/- PickedForms$Column.hasBlock -/
theorem xd98_0 : decode (mj_b 98) 0 = .ok (.iload_n 1, 1) := by decide +kernel
theorem xd98_1 : decode (mj_b 98) 1 = .ok (.ifCond .lt 15, 3) := by decide +kernel
theorem xd98_4 : decode (mj_b 98) 4 = .ok (.iload_n 1, 1) := by decide +kernel
theorem xd98_5 : decode (mj_b 98) 5 = .ok (.aload_n 0, 1) := by decide +kernel
theorem xd98_6 : decode (mj_b 98) 6 = .ok (.getfield 31, 3) := by decide +kernel
theorem xd98_9 : decode (mj_b 98) 9 = .ok (.if_icmp .ge 7, 3) := by decide +kernel
theorem xd98_12 : decode (mj_b 98) 12 = .ok (.iconst 1, 1) := by decide +kernel
theorem xd98_13 : decode (mj_b 98) 13 = .ok (.goto 4, 3) := by decide +kernel
theorem xd98_16 : decode (mj_b 98) 16 = .ok (.iconst 0, 1) := by decide +kernel
theorem xd98_17 : decode (mj_b 98) 17 = .ok (.ireturn, 1) := by decide +kernel
theorem x98_0 {x1 : Int32} : wp Ln xs 98 0 [.ref 2, .int x1] [] (u, ml_h m lm) Φ = if x1 < (nI 0) then wp Ln xs 98 16 [.ref 2, .int x1] [] (u, ml_h m lm) Φ else wp Ln xs 98 4 [.ref 2, .int x1] [] (u, ml_h m lm) Φ := (wp_same xd98_0 (Or.inr rfl) rfl).trans (wx_if xd98_1 rfl rfl (x1 < (nI 0)) mb_lt)
theorem x98_4 {x1 : Int32} : wp Ln xs 98 4 [.ref 2, .int x1] [] (u, ml_h m lm) Φ = if (m 2 6) ≤ x1 then wp Ln xs 98 16 [.ref 2, .int x1] [] (u, ml_h m lm) Φ else wp Ln xs 98 12 [.ref 2, .int x1] [] (u, ml_h m lm) Φ := (wp_same xd98_4 (Or.inr rfl) rfl).trans ((wp_same xd98_5 (Or.inr rfl) rfl).trans ((wm_geti xd98_6 rfl (show ml_L[2]? = _ from rfl) rfl (Nat.le_of_ble_eq_true rfl)).trans (wx_icmp xd98_9 rfl rfl ((m 2 6) ≤ x1) mb_ge)))
theorem x98_12 {x1 : Int32} : wp Ln xs 98 12 [.ref 2, .int x1] [] (u, ml_h m lm) Φ = Φ (.inl (some (.int (nI 1)))) (u, ml_h m lm) := (wp_same (S' := [.int (nI 1)]) xd98_12 (Or.inr rfl) rfl).trans ((wx_goto xd98_13 rfl).trans (wp_fin (v := some (.int (nI 1))) xd98_17 (Or.inr rfl) rfl rfl))
theorem x98_16 {x1 : Int32} : wp Ln xs 98 16 [.ref 2, .int x1] [] (u, ml_h m lm) Φ = Φ (.inl (some (.int (nI 0)))) (u, ml_h m lm) := (wp_same (S' := [.int (nI 0)]) xd98_16 (Or.inr rfl) rfl).trans (wp_fin (v := some (.int (nI 0))) xd98_17 (Or.inr rfl) rfl rfl)
/- PickedFormsLaw.join -/
theorem xd99_0 : decode (mj_b 99) 0 = .ok (.aload_n 2, 1) := by decide +kernel
theorem xd99_1 : decode (mj_b 99) 1 = .ok (.iconst 0, 1) := by decide +kernel
theorem xd99_2 : decode (mj_b 99) 2 = .ok (.aload_n 0, 1) := by decide +kernel
theorem xd99_3 : decode (mj_b 99) 3 = .ok (.iload_n 1, 1) := by decide +kernel
theorem xd99_4 : decode (mj_b 99) 4 = .ok (.invokevirtual 30, 3) := by decide +kernel
theorem xd99_7 : decode (mj_b 99) 7 = .ok (.i2l, 1) := by decide +kernel
theorem xd99_8 : decode (mj_b 99) 8 = .ok (.lastore, 1) := by decide +kernel
theorem xd99_9 : decode (mj_b 99) 9 = .ok (.goto 9, 3) := by decide +kernel
theorem xd99_13 : decode (mj_b 99) 13 = .ok (.iconst 1, 1) := by decide +kernel
theorem xd99_14 : decode (mj_b 99) 14 = .ok (.ireturn, 1) := by decide +kernel
theorem xd99_16 : decode (mj_b 99) 16 = .ok (.iconst 2, 1) := by decide +kernel
theorem xd99_17 : decode (mj_b 99) 17 = .ok (.ireturn, 1) := by decide +kernel
theorem xd99_18 : decode (mj_b 99) 18 = .ok (.iconst 0, 1) := by decide +kernel
theorem xd99_19 : decode (mj_b 99) 19 = .ok (.ireturn, 1) := by decide +kernel
theorem x99_0 {x1 : Int32} : wp Ln xs 99 0 [.ref 1, .int x1, .ref 81, mj_hole] [] (u, ml_h m lm) Φ = wp Ln xs 100 0 [.ref 1, .int x1, mj_hole] [] (u, ml_h m lm) (mk Ln xs 99 4 [.ref 1, .int x1, .ref 81, mj_hole] [.int (nI 0), .ref 81] Φ) := (wp_same xd99_0 (Or.inr rfl) rfl).trans ((wp_same (S' := [.int (nI 0), .ref 81]) xd99_1 (Or.inr rfl) rfl).trans ((wp_same xd99_2 (Or.inr rfl) rfl).trans ((wp_same xd99_3 (Or.inr rfl) rfl).trans (wm_cv (As := [.int x1]) (rest := [.int (nI 0), .ref 81]) xd99_4 rfl rfl (show ml_L[1]? = _ from rfl) (Nat.le_of_ble_eq_true rfl) (Nat.le_of_ble_eq_true rfl) (Nat.le_of_ble_eq_true rfl) (Nat.le_of_ble_eq_true rfl)))))
theorem x99_7 {x1 : Int32} {xs0 : Int32} {xs1 : Int32} : wp Ln xs 99 7 [.ref 1, .int x1, .ref 81, mj_hole] [.int xs0, .int xs1, .ref 81] (u, ml_h m lm) Φ = wp Ln xs 99 8 [.ref 1, .int x1, .ref 81, mj_hole] [.long xs0.toInt64, .int xs1, .ref 81] (u, ml_h m lm) Φ := wp_same xd99_7 (Or.inr rfl) rfl
theorem x99_8 {x1 : Int32} {ys0 : Int64} {k : Nat} (hk : k < 1) : wp Ln xs 99 8 [.ref 1, .int x1, .ref 81, mj_hole] [.long ys0, .int (nI k), .ref 81] (u, ml_h m lm) Φ = wp Ln xs 99 18 [.ref 1, .int x1, .ref 81, mj_hole] [] (u, ml_h m (ml_sj lm 81 k ys0)) Φ := (wm_last (k := k) xd99_8 rfl hk (by decide)).trans (wx_goto xd99_9 rfl)
theorem x99_13 {x1 : Int32} : wp Ln xs 99 13 [.ref 1, .int x1, .ref 81, mj_hole] [] (u, ml_h m lm) Φ = Φ (.inl (some (.int (nI 1)))) (u, ml_h m lm) := (wp_same (S' := [.int (nI 1)]) xd99_13 (Or.inr rfl) rfl).trans (wp_fin (v := some (.int (nI 1))) xd99_14 (Or.inr rfl) rfl (mj_fin_i rfl))
theorem x99_16 {x1 : Int32} : wp Ln xs 99 16 [.ref 1, .int x1, .ref 81, mj_hole] [] (u, ml_h m lm) Φ = Φ (.inl (some (.int (nI 2)))) (u, ml_h m lm) := (wp_same (S' := [.int (nI 2)]) xd99_16 (Or.inr rfl) rfl).trans (wp_fin (v := some (.int (nI 2))) xd99_17 (Or.inr rfl) rfl (mj_fin_i rfl))
theorem x99_18 {x1 : Int32} : wp Ln xs 99 18 [.ref 1, .int x1, .ref 81, mj_hole] [] (u, ml_h m lm) Φ = Φ (.inl (some (.int (nI 0)))) (u, ml_h m lm) := (wp_same (S' := [.int (nI 0)]) xd99_18 (Or.inr rfl) rfl).trans (wp_fin (v := some (.int (nI 0))) xd99_19 (Or.inr rfl) rfl (mj_fin_i rfl))
/- PickedForms.join -/
theorem xd100_0 : decode (mj_b 100) 0 = .ok (.aload_n 0, 1) := by decide +kernel
theorem xd100_1 : decode (mj_b 100) 1 = .ok (.getfield 12, 3) := by decide +kernel
theorem xd100_4 : decode (mj_b 100) 4 = .ok (.iload_n 1, 1) := by decide +kernel
theorem xd100_5 : decode (mj_b 100) 5 = .ok (.invokevirtual 154, 3) := by decide +kernel
theorem xd100_8 : decode (mj_b 100) 8 = .ok (.ifCond .eq 16, 3) := by decide +kernel
theorem xd100_11 : decode (mj_b 100) 11 = .ok (.iload_n 1, 1) := by decide +kernel
theorem xd100_12 : decode (mj_b 100) 12 = .ok (.aload_n 0, 1) := by decide +kernel
theorem xd100_13 : decode (mj_b 100) 13 = .ok (.getfield 12, 3) := by decide +kernel
theorem xd100_16 : decode (mj_b 100) 16 = .ok (.getfield 112, 3) := by decide +kernel
theorem xd100_19 : decode (mj_b 100) 19 = .ok (.iconst 1, 1) := by decide +kernel
theorem xd100_20 : decode (mj_b 100) 20 = .ok (.isub, 1) := by decide +kernel
theorem xd100_21 : decode (mj_b 100) 21 = .ok (.if_icmp .ne 13, 3) := by decide +kernel
theorem xd100_24 : decode (mj_b 100) 24 = .ok (.new 130, 3) := by decide +kernel
theorem xd100_34 : decode (mj_b 100) 34 = .ok (.aload_n 0, 1) := by decide +kernel
theorem xd100_35 : decode (mj_b 100) 35 = .ok (.getfield 12, 3) := by decide +kernel
theorem xd100_38 : decode (mj_b 100) 38 = .ok (.iload_n 1, 1) := by decide +kernel
theorem xd100_39 : decode (mj_b 100) 39 = .ok (.invokevirtual 164, 3) := by decide +kernel
theorem xd100_42 : decode (mj_b 100) 42 = .ok (.aload_n 0, 1) := by decide +kernel
theorem xd100_43 : decode (mj_b 100) 43 = .ok (.getfield 12, 3) := by decide +kernel
theorem xd100_46 : decode (mj_b 100) 46 = .ok (.iload_n 1, 1) := by decide +kernel
theorem xd100_47 : decode (mj_b 100) 47 = .ok (.iconst 1, 1) := by decide +kernel
theorem xd100_48 : decode (mj_b 100) 48 = .ok (.iadd, 1) := by decide +kernel
theorem xd100_49 : decode (mj_b 100) 49 = .ok (.invokevirtual 164, 3) := by decide +kernel
theorem xd100_52 : decode (mj_b 100) 52 = .ok (.iadd, 1) := by decide +kernel
theorem xd100_53 : decode (mj_b 100) 53 = .ok (.istore_n 2, 1) := by decide +kernel
theorem xd100_54 : decode (mj_b 100) 54 = .ok (.iload_n 2, 1) := by decide +kernel
theorem xd100_55 : decode (mj_b 100) 55 = .ok (.bipush 16, 2) := by decide +kernel
theorem xd100_57 : decode (mj_b 100) 57 = .ok (.if_icmp .le 13, 3) := by decide +kernel
theorem xd100_60 : decode (mj_b 100) 60 = .ok (.new 91, 3) := by decide +kernel
theorem xd100_70 : decode (mj_b 100) 70 = .ok (.aload_n 0, 1) := by decide +kernel
theorem xd100_71 : decode (mj_b 100) 71 = .ok (.getfield 26, 3) := by decide +kernel
theorem xd100_74 : decode (mj_b 100) 74 = .ok (.aload_n 0, 1) := by decide +kernel
theorem xd100_75 : decode (mj_b 100) 75 = .ok (.getfield 12, 3) := by decide +kernel
theorem xd100_78 : decode (mj_b 100) 78 = .ok (.invokevirtual 96, 3) := by decide +kernel
theorem xd100_81 : decode (mj_b 100) 81 = .ok (.aload_n 0, 1) := by decide +kernel
theorem xd100_82 : decode (mj_b 100) 82 = .ok (.getfield 12, 3) := by decide +kernel
theorem xd100_85 : decode (mj_b 100) 85 = .ok (.iload_n 1, 1) := by decide +kernel
theorem xd100_86 : decode (mj_b 100) 86 = .ok (.iconst 1, 1) := by decide +kernel
theorem xd100_87 : decode (mj_b 100) 87 = .ok (.iadd, 1) := by decide +kernel
theorem xd100_88 : decode (mj_b 100) 88 = .ok (.invokevirtual 169, 3) := by decide +kernel
theorem xd100_91 : decode (mj_b 100) 91 = .ok (.aload_n 0, 1) := by decide +kernel
theorem xd100_92 : decode (mj_b 100) 92 = .ok (.getfield 12, 3) := by decide +kernel
theorem xd100_95 : decode (mj_b 100) 95 = .ok (.getfield 172, 3) := by decide +kernel
theorem xd100_98 : decode (mj_b 100) 98 = .ok (.iload_n 1, 1) := by decide +kernel
theorem xd100_99 : decode (mj_b 100) 99 = .ok (.iload_n 2, 1) := by decide +kernel
theorem xd100_100 : decode (mj_b 100) 100 = .ok (.invokestatic 142, 3) := by decide +kernel
theorem xd100_103 : decode (mj_b 100) 103 = .ok (.aload_n 0, 1) := by decide +kernel
theorem xd100_104 : decode (mj_b 100) 104 = .ok (.iload_n 1, 1) := by decide +kernel
theorem xd100_105 : decode (mj_b 100) 105 = .ok (.invokevirtual 120, 3) := by decide +kernel
theorem xd100_108 : decode (mj_b 100) 108 = .ok (.aload_n 0, 1) := by decide +kernel
theorem xd100_109 : decode (mj_b 100) 109 = .ok (.getfield 12, 3) := by decide +kernel
theorem xd100_112 : decode (mj_b 100) 112 = .ok (.iload_n 1, 1) := by decide +kernel
theorem xd100_113 : decode (mj_b 100) 113 = .ok (.invokevirtual 123, 3) := by decide +kernel
theorem xd100_116 : decode (mj_b 100) 116 = .ok (.ireturn, 1) := by decide +kernel
theorem x100_0 {x1 : Int32} : wp Ln xs 100 0 [.ref 1, .int x1, mj_hole] [] (u, ml_h m lm) Φ = wp Ln xs 98 0 [.ref 2, .int x1] [] (u, ml_h m lm) (mk Ln xs 100 5 [.ref 1, .int x1, mj_hole] [] Φ) := (wp_same xd100_0 (Or.inr rfl) rfl).trans ((wm_getr xd100_1 rfl (show ml_L[1]? = _ from rfl) rfl (Nat.le_of_ble_eq_true rfl)).trans ((wp_same xd100_4 (Or.inr rfl) rfl).trans (wm_cv (As := [.int x1]) (rest := []) xd100_5 rfl rfl (show ml_L[2]? = _ from rfl) (Nat.le_of_ble_eq_true rfl) (Nat.le_of_ble_eq_true rfl) (Nat.le_of_ble_eq_true rfl) (Nat.le_of_ble_eq_true rfl))))
theorem x100_8 {x1 : Int32} {xs0 : Int32} : wp Ln xs 100 8 [.ref 1, .int x1, mj_hole] [.int xs0] (u, ml_h m lm) Φ = if xs0 = (nI 0) then wp Ln xs 100 24 [.ref 1, .int x1, mj_hole] [] (u, ml_h m lm) Φ else wp Ln xs 100 11 [.ref 1, .int x1, mj_hole] [] (u, ml_h m lm) Φ := wx_if xd100_8 rfl rfl (xs0 = (nI 0)) mb_eq
theorem x100_11 {x1 : Int32} : wp Ln xs 100 11 [.ref 1, .int x1, mj_hole] [] (u, ml_h m lm) Φ = if ¬ x1 = ((m 2 6) - (nI 1)) then wp Ln xs 100 34 [.ref 1, .int x1, mj_hole] [] (u, ml_h m lm) Φ else wp Ln xs 100 24 [.ref 1, .int x1, mj_hole] [] (u, ml_h m lm) Φ := (wp_same xd100_11 (Or.inr rfl) rfl).trans ((wp_same xd100_12 (Or.inr rfl) rfl).trans ((wm_getr xd100_13 rfl (show ml_L[1]? = _ from rfl) rfl (Nat.le_of_ble_eq_true rfl)).trans ((wm_geti xd100_16 rfl (show ml_L[2]? = _ from rfl) rfl (Nat.le_of_ble_eq_true rfl)).trans ((wp_same (S' := [.int (nI 1), .int (m 2 6), .int x1]) xd100_19 (Or.inr rfl) rfl).trans ((wp_same xd100_20 (Or.inr rfl) rfl).trans (wx_icmp xd100_21 rfl rfl (¬ x1 = ((m 2 6) - (nI 1))) mb_ne))))))
theorem x100_24 {x1 : Int32} : wp Ln xs 100 24 [.ref 1, .int x1, mj_hole] [] (u, ml_h m lm) Φ = Φ (.inr 2) ((u.1, u.2.1 + 1, u.2.2 + 6), ml_h m lm) := wp_thr xd100_24 (Or.inr rfl) rfl rfl (E := 2) (by decide +kernel)
theorem x100_34 {x1 : Int32} : wp Ln xs 100 34 [.ref 1, .int x1, mj_hole] [] (u, ml_h m lm) Φ = wp Ln xs 30 0 [.ref 2, .int x1] [] (u, ml_h m lm) (mk Ln xs 100 39 [.ref 1, .int x1, mj_hole] [] Φ) := (wp_same xd100_34 (Or.inr rfl) rfl).trans ((wm_getr xd100_35 rfl (show ml_L[1]? = _ from rfl) rfl (Nat.le_of_ble_eq_true rfl)).trans ((wp_same xd100_38 (Or.inr rfl) rfl).trans (wm_cv (As := [.int x1]) (rest := []) xd100_39 rfl rfl (show ml_L[2]? = _ from rfl) (Nat.le_of_ble_eq_true rfl) (Nat.le_of_ble_eq_true rfl) (Nat.le_of_ble_eq_true rfl) (Nat.le_of_ble_eq_true rfl))))
theorem x100_42 {x1 : Int32} {xs0 : Int32} : wp Ln xs 100 42 [.ref 1, .int x1, mj_hole] [.int xs0] (u, ml_h m lm) Φ = wp Ln xs 30 0 [.ref 2, .int (x1 + (nI 1))] [] (u, ml_h m lm) (mk Ln xs 100 49 [.ref 1, .int x1, mj_hole] [.int xs0] Φ) := (wp_same xd100_42 (Or.inr rfl) rfl).trans ((wm_getr xd100_43 rfl (show ml_L[1]? = _ from rfl) rfl (Nat.le_of_ble_eq_true rfl)).trans ((wp_same xd100_46 (Or.inr rfl) rfl).trans ((wp_same (S' := [.int (nI 1), .int x1, .ref 2, .int xs0]) xd100_47 (Or.inr rfl) rfl).trans ((wp_same xd100_48 (Or.inr rfl) rfl).trans (wm_cv (As := [.int (x1 + (nI 1))]) (rest := [.int xs0]) xd100_49 rfl rfl (show ml_L[2]? = _ from rfl) (Nat.le_of_ble_eq_true rfl) (Nat.le_of_ble_eq_true rfl) (Nat.le_of_ble_eq_true rfl) (Nat.le_of_ble_eq_true rfl))))))
theorem x100_52 {x1 : Int32} {xs0 : Int32} {xs1 : Int32} : wp Ln xs 100 52 [.ref 1, .int x1, mj_hole] [.int xs0, .int xs1] (u, ml_h m lm) Φ = if (xs1 + xs0) ≤ (nI 16) then wp Ln xs 100 70 [.ref 1, .int x1, .int (xs1 + xs0)] [] (u, ml_h m lm) Φ else wp Ln xs 100 60 [.ref 1, .int x1, .int (xs1 + xs0)] [] (u, ml_h m lm) Φ := (wp_same xd100_52 (Or.inr rfl) rfl).trans ((wp_same (L' := [.ref 1, .int x1, .int (xs1 + xs0)]) xd100_53 (Or.inr rfl) rfl).trans ((wp_same xd100_54 (Or.inr rfl) rfl).trans ((wp_same (S' := [.int (nI 16), .int (xs1 + xs0)]) xd100_55 (Or.inr rfl) rfl).trans (wx_icmp xd100_57 rfl rfl ((xs1 + xs0) ≤ (nI 16)) mb_le))))
theorem x100_60 {x1 : Int32} {x2 : Int32} : wp Ln xs 100 60 [.ref 1, .int x1, .int x2] [] (u, ml_h m lm) Φ = Φ (.inr 1) ((u.1, u.2.1 + 1, u.2.2 + 6), ml_h m lm) := wp_thr xd100_60 (Or.inr rfl) rfl rfl (E := 1) (by decide +kernel)
theorem x100_70 {x1 : Int32} {x2 : Int32} : wp Ln xs 100 70 [.ref 1, .int x1, .int x2] [] (u, ml_h m lm) Φ = wp Ln xs 85 0 [.ref 14, .ref 2, mj_hole] [] (u, ml_h m lm) (mk Ln xs 100 78 [.ref 1, .int x1, .int x2] [] Φ) := (wp_same xd100_70 (Or.inr rfl) rfl).trans ((wm_getr xd100_71 rfl (show ml_L[1]? = _ from rfl) rfl (Nat.le_of_ble_eq_true rfl)).trans ((wp_same xd100_74 (Or.inr rfl) rfl).trans ((wm_getr xd100_75 rfl (show ml_L[1]? = _ from rfl) rfl (Nat.le_of_ble_eq_true rfl)).trans (wm_cv (As := [.ref 2]) (rest := []) xd100_78 rfl rfl (show ml_L[14]? = _ from rfl) (Nat.le_of_ble_eq_true rfl) (Nat.le_of_ble_eq_true rfl) (Nat.le_of_ble_eq_true rfl) (Nat.le_of_ble_eq_true rfl)))))
theorem x100_81 {x1 : Int32} {x2 : Int32} : wp Ln xs 100 81 [.ref 1, .int x1, .int x2] [] (u, ml_h m lm) Φ = wp Ln xs 101 0 [.ref 2, .int (x1 + (nI 1)), mj_hole] [] (u, ml_h m lm) (mk Ln xs 100 88 [.ref 1, .int x1, .int x2] [] Φ) := (wp_same xd100_81 (Or.inr rfl) rfl).trans ((wm_getr xd100_82 rfl (show ml_L[1]? = _ from rfl) rfl (Nat.le_of_ble_eq_true rfl)).trans ((wp_same xd100_85 (Or.inr rfl) rfl).trans ((wp_same (S' := [.int (nI 1), .int x1, .ref 2]) xd100_86 (Or.inr rfl) rfl).trans ((wp_same xd100_87 (Or.inr rfl) rfl).trans (wm_cv (As := [.int (x1 + (nI 1))]) (rest := []) xd100_88 rfl rfl (show ml_L[2]? = _ from rfl) (Nat.le_of_ble_eq_true rfl) (Nat.le_of_ble_eq_true rfl) (Nat.le_of_ble_eq_true rfl) (Nat.le_of_ble_eq_true rfl))))))
theorem x100_91 {x1 : Int32} {x2 : Int32} : wp Ln xs 100 91 [.ref 1, .int x1, .int x2] [] (u, ml_h m lm) Φ = wp Ln xs 55 0 [.ref 4, .int x1, .int x2] [] (u, ml_h m lm) (mk Ln xs 100 100 [.ref 1, .int x1, .int x2] [] Φ) := (wp_same xd100_91 (Or.inr rfl) rfl).trans ((wm_getr xd100_92 rfl (show ml_L[1]? = _ from rfl) rfl (Nat.le_of_ble_eq_true rfl)).trans ((wm_getr xd100_95 rfl (show ml_L[2]? = _ from rfl) rfl (Nat.le_of_ble_eq_true rfl)).trans ((wp_same xd100_98 (Or.inr rfl) rfl).trans ((wp_same xd100_99 (Or.inr rfl) rfl).trans (wm_cs (As := [.ref 4, .int x1, .int x2]) (rest := []) xd100_100 rfl rfl (Nat.le_of_ble_eq_true rfl) (Nat.le_of_ble_eq_true rfl) (Nat.le_of_ble_eq_true rfl) (Nat.le_of_ble_eq_true rfl))))))
theorem x100_103 {x1 : Int32} {x2 : Int32} : wp Ln xs 100 103 [.ref 1, .int x1, .int x2] [] (u, ml_h m lm) Φ = wp Ln xs 89 0 [.ref 1, .int x1] [] (u, ml_h m lm) (mk Ln xs 100 105 [.ref 1, .int x1, .int x2] [] Φ) := (wp_same xd100_103 (Or.inr rfl) rfl).trans ((wp_same xd100_104 (Or.inr rfl) rfl).trans (wm_cv (As := [.int x1]) (rest := []) xd100_105 rfl rfl (show ml_L[1]? = _ from rfl) (Nat.le_of_ble_eq_true rfl) (Nat.le_of_ble_eq_true rfl) (Nat.le_of_ble_eq_true rfl) (Nat.le_of_ble_eq_true rfl)))
theorem x100_108 {x1 : Int32} {x2 : Int32} : wp Ln xs 100 108 [.ref 1, .int x1, .int x2] [] (u, ml_h m lm) Φ = wp Ln xs 36 0 [.ref 2, .int x1] [] (u, ml_h m lm) (mk Ln xs 100 113 [.ref 1, .int x1, .int x2] [] Φ) := (wp_same xd100_108 (Or.inr rfl) rfl).trans ((wm_getr xd100_109 rfl (show ml_L[1]? = _ from rfl) rfl (Nat.le_of_ble_eq_true rfl)).trans ((wp_same xd100_112 (Or.inr rfl) rfl).trans (wm_cv (As := [.int x1]) (rest := []) xd100_113 rfl rfl (show ml_L[2]? = _ from rfl) (Nat.le_of_ble_eq_true rfl) (Nat.le_of_ble_eq_true rfl) (Nat.le_of_ble_eq_true rfl) (Nat.le_of_ble_eq_true rfl))))
theorem x100_116 {x1 : Int32} {x2 : Int32} {xs0 : Int32} : wp Ln xs 100 116 [.ref 1, .int x1, .int x2] [.int xs0] (u, ml_h m lm) Φ = Φ (.inl (some (.int xs0))) (u, ml_h m lm) := wp_fin (v := some (.int xs0)) xd100_116 (Or.inr rfl) rfl (mj_fin_i rfl)
/- PickedForms$Column.closeSlot -/
theorem xd101_0 : decode (mj_b 101) 0 = .ok (.iload_n 1, 1) := by decide +kernel
theorem xd101_1 : decode (mj_b 101) 1 = .ok (.istore_n 2, 1) := by decide +kernel
theorem xd101_2 : decode (mj_b 101) 2 = .ok (.iload_n 2, 1) := by decide +kernel
theorem xd101_3 : decode (mj_b 101) 3 = .ok (.iconst 1, 1) := by decide +kernel
theorem xd101_4 : decode (mj_b 101) 4 = .ok (.iadd, 1) := by decide +kernel
theorem xd101_5 : decode (mj_b 101) 5 = .ok (.aload_n 0, 1) := by decide +kernel
theorem xd101_6 : decode (mj_b 101) 6 = .ok (.getfield 31, 3) := by decide +kernel
theorem xd101_9 : decode (mj_b 101) 9 = .ok (.if_icmp .ge 17, 3) := by decide +kernel
theorem xd101_12 : decode (mj_b 101) 12 = .ok (.aload_n 0, 1) := by decide +kernel
theorem xd101_13 : decode (mj_b 101) 13 = .ok (.iload_n 2, 1) := by decide +kernel
theorem xd101_14 : decode (mj_b 101) 14 = .ok (.iconst 1, 1) := by decide +kernel
theorem xd101_15 : decode (mj_b 101) 15 = .ok (.iadd, 1) := by decide +kernel
theorem xd101_16 : decode (mj_b 101) 16 = .ok (.iload_n 2, 1) := by decide +kernel
theorem xd101_17 : decode (mj_b 101) 17 = .ok (.invokevirtual 65, 3) := by decide +kernel
theorem xd101_20 : decode (mj_b 101) 20 = .ok (.iinc 2 1, 3) := by decide +kernel
theorem xd101_23 : decode (mj_b 101) 23 = .ok (.goto (-21), 3) := by decide +kernel
theorem xd101_26 : decode (mj_b 101) 26 = .ok (.aload_n 0, 1) := by decide +kernel
theorem xd101_27 : decode (mj_b 101) 27 = .ok (.dup, 1) := by decide +kernel
theorem xd101_28 : decode (mj_b 101) 28 = .ok (.getfield 31, 3) := by decide +kernel
theorem xd101_31 : decode (mj_b 101) 31 = .ok (.iconst 1, 1) := by decide +kernel
theorem xd101_32 : decode (mj_b 101) 32 = .ok (.isub, 1) := by decide +kernel
theorem xd101_33 : decode (mj_b 101) 33 = .ok (.putfield 31, 3) := by decide +kernel
theorem xd101_36 : decode (mj_b 101) 36 = .ok (.return_, 1) := by decide +kernel
theorem x101_0 {x1 : Int32} : wp Ln xs 101 0 [.ref 2, .int x1, mj_hole] [] (u, ml_h m lm) Φ = wp Ln xs 101 2 [.ref 2, .int x1, .int x1] [] (u, ml_h m lm) Φ := (wp_same xd101_0 (Or.inr rfl) rfl).trans (wp_same (L' := [.ref 2, .int x1, .int x1]) xd101_1 (Or.inr rfl) rfl)
theorem x101_2 {x1 : Int32} {x2 : Int32} : wp Ln xs 101 2 [.ref 2, .int x1, .int x2] [] (u, ml_h m lm) Φ = if (m 2 6) ≤ (x2 + (nI 1)) then wp Ln xs 101 26 [.ref 2, .int x1, .int x2] [] (u, ml_h m lm) Φ else wp Ln xs 101 12 [.ref 2, .int x1, .int x2] [] (u, ml_h m lm) Φ := (wp_same xd101_2 (Or.inr rfl) rfl).trans ((wp_same (S' := [.int (nI 1), .int x2]) xd101_3 (Or.inr rfl) rfl).trans ((wp_same xd101_4 (Or.inr rfl) rfl).trans ((wp_same xd101_5 (Or.inr rfl) rfl).trans ((wm_geti xd101_6 rfl (show ml_L[2]? = _ from rfl) rfl (Nat.le_of_ble_eq_true rfl)).trans (wx_icmp xd101_9 rfl rfl ((m 2 6) ≤ (x2 + (nI 1))) mb_ge)))))
theorem x101_12 {x1 : Int32} {x2 : Int32} : wp Ln xs 101 12 [.ref 2, .int x1, .int x2] [] (u, ml_h m lm) Φ = wp Ln xs 102 0 [.ref 2, .int (x2 + (nI 1)), .int x2] [] (u, ml_h m lm) (mk Ln xs 101 17 [.ref 2, .int x1, .int x2] [] Φ) := (wp_same xd101_12 (Or.inr rfl) rfl).trans ((wp_same xd101_13 (Or.inr rfl) rfl).trans ((wp_same (S' := [.int (nI 1), .int x2, .ref 2]) xd101_14 (Or.inr rfl) rfl).trans ((wp_same xd101_15 (Or.inr rfl) rfl).trans ((wp_same xd101_16 (Or.inr rfl) rfl).trans (wm_cv (As := [.int (x2 + (nI 1)), .int x2]) (rest := []) xd101_17 rfl rfl (show ml_L[2]? = _ from rfl) (Nat.le_of_ble_eq_true rfl) (Nat.le_of_ble_eq_true rfl) (Nat.le_of_ble_eq_true rfl) (Nat.le_of_ble_eq_true rfl))))))
theorem x101_20 {x1 : Int32} {x2 : Int32} : wp Ln xs 101 20 [.ref 2, .int x1, .int x2] [] (u, ml_h m lm) Φ = wp Ln xs 101 2 [.ref 2, .int x1, .int (x2 + nI 1)] [] (u, ml_h m lm) Φ := (wp_same (L' := [.ref 2, .int x1, .int (x2 + nI 1)]) xd101_20 (Or.inr rfl) rfl).trans (wx_goto xd101_23 rfl)
theorem x101_26 {x1 : Int32} {x2 : Int32} : wp Ln xs 101 26 [.ref 2, .int x1, .int x2] [] (u, ml_h m lm) Φ = Φ (.inl none) (u, ml_h (ml_s m 2 6 ((m 2 6) - (nI 1))) lm) := (wp_same xd101_26 (Or.inr rfl) rfl).trans ((wp_same xd101_27 (Or.inr rfl) rfl).trans ((wm_geti xd101_28 rfl (show ml_L[2]? = _ from rfl) rfl (Nat.le_of_ble_eq_true rfl)).trans ((wp_same (S' := [.int (nI 1), .int (m 2 6), .ref 2]) xd101_31 (Or.inr rfl) rfl).trans ((wp_same xd101_32 (Or.inr rfl) rfl).trans ((wm_puti xd101_33 rfl (show ml_L[2]? = _ from rfl) rfl (Nat.le_of_ble_eq_true rfl) rfl rfl rfl).trans (wp_fin (v := none) xd101_36 (Or.inr rfl) rfl rfl))))))
/- PickedForms$Column.moveSlot -/
theorem xd102_0 : decode (mj_b 102) 0 = .ok (.aload_n 0, 1) := by decide +kernel
theorem xd102_1 : decode (mj_b 102) 1 = .ok (.getfield 15, 3) := by decide +kernel
theorem xd102_4 : decode (mj_b 102) 4 = .ok (.iload_n 2, 1) := by decide +kernel
theorem xd102_5 : decode (mj_b 102) 5 = .ok (.aload_n 0, 1) := by decide +kernel
theorem xd102_6 : decode (mj_b 102) 6 = .ok (.getfield 15, 3) := by decide +kernel
theorem xd102_9 : decode (mj_b 102) 9 = .ok (.iload_n 1, 1) := by decide +kernel
theorem xd102_10 : decode (mj_b 102) 10 = .ok (.invokestatic 46, 3) := by decide +kernel
theorem xd102_13 : decode (mj_b 102) 13 = .ok (.invokestatic 61, 3) := by decide +kernel
theorem xd102_16 : decode (mj_b 102) 16 = .ok (.aload_n 0, 1) := by decide +kernel
theorem xd102_17 : decode (mj_b 102) 17 = .ok (.getfield 18, 3) := by decide +kernel
theorem xd102_20 : decode (mj_b 102) 20 = .ok (.iload_n 2, 1) := by decide +kernel
theorem xd102_21 : decode (mj_b 102) 21 = .ok (.aload_n 0, 1) := by decide +kernel
theorem xd102_22 : decode (mj_b 102) 22 = .ok (.getfield 18, 3) := by decide +kernel
theorem xd102_25 : decode (mj_b 102) 25 = .ok (.iload_n 1, 1) := by decide +kernel
theorem xd102_26 : decode (mj_b 102) 26 = .ok (.invokestatic 46, 3) := by decide +kernel
theorem xd102_29 : decode (mj_b 102) 29 = .ok (.invokestatic 61, 3) := by decide +kernel
theorem xd102_32 : decode (mj_b 102) 32 = .ok (.aload_n 0, 1) := by decide +kernel
theorem xd102_33 : decode (mj_b 102) 33 = .ok (.getfield 21, 3) := by decide +kernel
theorem xd102_36 : decode (mj_b 102) 36 = .ok (.iload_n 2, 1) := by decide +kernel
theorem xd102_37 : decode (mj_b 102) 37 = .ok (.aload_n 0, 1) := by decide +kernel
theorem xd102_38 : decode (mj_b 102) 38 = .ok (.getfield 21, 3) := by decide +kernel
theorem xd102_41 : decode (mj_b 102) 41 = .ok (.iload_n 1, 1) := by decide +kernel
theorem xd102_42 : decode (mj_b 102) 42 = .ok (.invokestatic 46, 3) := by decide +kernel
theorem xd102_45 : decode (mj_b 102) 45 = .ok (.invokestatic 61, 3) := by decide +kernel
theorem xd102_48 : decode (mj_b 102) 48 = .ok (.return_, 1) := by decide +kernel
theorem x102_0 {x1 : Int32} {x2 : Int32} : wp Ln xs 102 0 [.ref 2, .int x1, .int x2] [] (u, ml_h m lm) Φ = wp Ln xs 13 0 [.ref 4, .int x1] [] (u, ml_h m lm) (mk Ln xs 102 10 [.ref 2, .int x1, .int x2] [.int x2, .ref 4] Φ) := (wp_same xd102_0 (Or.inr rfl) rfl).trans ((wm_getr xd102_1 rfl (show ml_L[2]? = _ from rfl) rfl (Nat.le_of_ble_eq_true rfl)).trans ((wp_same xd102_4 (Or.inr rfl) rfl).trans ((wp_same xd102_5 (Or.inr rfl) rfl).trans ((wm_getr xd102_6 rfl (show ml_L[2]? = _ from rfl) rfl (Nat.le_of_ble_eq_true rfl)).trans ((wp_same xd102_9 (Or.inr rfl) rfl).trans (wm_cs (As := [.ref 4, .int x1]) (rest := [.int x2, .ref 4]) xd102_10 rfl rfl (Nat.le_of_ble_eq_true rfl) (Nat.le_of_ble_eq_true rfl) (Nat.le_of_ble_eq_true rfl) (Nat.le_of_ble_eq_true rfl)))))))
theorem x102_13 {x1 : Int32} {x2 : Int32} {xs0 : Int32} {xs1 : Int32} : wp Ln xs 102 13 [.ref 2, .int x1, .int x2] [.int xs0, .int xs1, .ref 4] (u, ml_h m lm) Φ = wp Ln xs 55 0 [.ref 4, .int xs1, .int xs0] [] (u, ml_h m lm) (mk Ln xs 102 13 [.ref 2, .int x1, .int x2] [] Φ) := wm_cs (As := [.ref 4, .int xs1, .int xs0]) (rest := []) xd102_13 rfl rfl (Nat.le_of_ble_eq_true rfl) (Nat.le_of_ble_eq_true rfl) (Nat.le_of_ble_eq_true rfl) (Nat.le_of_ble_eq_true rfl)
theorem x102_16 {x1 : Int32} {x2 : Int32} : wp Ln xs 102 16 [.ref 2, .int x1, .int x2] [] (u, ml_h m lm) Φ = wp Ln xs 13 0 [.ref 5, .int x1] [] (u, ml_h m lm) (mk Ln xs 102 26 [.ref 2, .int x1, .int x2] [.int x2, .ref 5] Φ) := (wp_same xd102_16 (Or.inr rfl) rfl).trans ((wm_getr xd102_17 rfl (show ml_L[2]? = _ from rfl) rfl (Nat.le_of_ble_eq_true rfl)).trans ((wp_same xd102_20 (Or.inr rfl) rfl).trans ((wp_same xd102_21 (Or.inr rfl) rfl).trans ((wm_getr xd102_22 rfl (show ml_L[2]? = _ from rfl) rfl (Nat.le_of_ble_eq_true rfl)).trans ((wp_same xd102_25 (Or.inr rfl) rfl).trans (wm_cs (As := [.ref 5, .int x1]) (rest := [.int x2, .ref 5]) xd102_26 rfl rfl (Nat.le_of_ble_eq_true rfl) (Nat.le_of_ble_eq_true rfl) (Nat.le_of_ble_eq_true rfl) (Nat.le_of_ble_eq_true rfl)))))))
theorem x102_29 {x1 : Int32} {x2 : Int32} {xs0 : Int32} {xs1 : Int32} : wp Ln xs 102 29 [.ref 2, .int x1, .int x2] [.int xs0, .int xs1, .ref 5] (u, ml_h m lm) Φ = wp Ln xs 55 0 [.ref 5, .int xs1, .int xs0] [] (u, ml_h m lm) (mk Ln xs 102 29 [.ref 2, .int x1, .int x2] [] Φ) := wm_cs (As := [.ref 5, .int xs1, .int xs0]) (rest := []) xd102_29 rfl rfl (Nat.le_of_ble_eq_true rfl) (Nat.le_of_ble_eq_true rfl) (Nat.le_of_ble_eq_true rfl) (Nat.le_of_ble_eq_true rfl)
theorem x102_32 {x1 : Int32} {x2 : Int32} : wp Ln xs 102 32 [.ref 2, .int x1, .int x2] [] (u, ml_h m lm) Φ = wp Ln xs 13 0 [.ref 6, .int x1] [] (u, ml_h m lm) (mk Ln xs 102 42 [.ref 2, .int x1, .int x2] [.int x2, .ref 6] Φ) := (wp_same xd102_32 (Or.inr rfl) rfl).trans ((wm_getr xd102_33 rfl (show ml_L[2]? = _ from rfl) rfl (Nat.le_of_ble_eq_true rfl)).trans ((wp_same xd102_36 (Or.inr rfl) rfl).trans ((wp_same xd102_37 (Or.inr rfl) rfl).trans ((wm_getr xd102_38 rfl (show ml_L[2]? = _ from rfl) rfl (Nat.le_of_ble_eq_true rfl)).trans ((wp_same xd102_41 (Or.inr rfl) rfl).trans (wm_cs (As := [.ref 6, .int x1]) (rest := [.int x2, .ref 6]) xd102_42 rfl rfl (Nat.le_of_ble_eq_true rfl) (Nat.le_of_ble_eq_true rfl) (Nat.le_of_ble_eq_true rfl) (Nat.le_of_ble_eq_true rfl)))))))
theorem x102_45 {x1 : Int32} {x2 : Int32} {xs0 : Int32} {xs1 : Int32} : wp Ln xs 102 45 [.ref 2, .int x1, .int x2] [.int xs0, .int xs1, .ref 6] (u, ml_h m lm) Φ = wp Ln xs 55 0 [.ref 6, .int xs1, .int xs0] [] (u, ml_h m lm) (mk Ln xs 102 45 [.ref 2, .int x1, .int x2] [] Φ) := wm_cs (As := [.ref 6, .int xs1, .int xs0]) (rest := []) xd102_45 rfl rfl (Nat.le_of_ble_eq_true rfl) (Nat.le_of_ble_eq_true rfl) (Nat.le_of_ble_eq_true rfl) (Nat.le_of_ble_eq_true rfl)
theorem x102_48 {x1 : Int32} {x2 : Int32} : wp Ln xs 102 48 [.ref 2, .int x1, .int x2] [] (u, ml_h m lm) Φ = Φ (.inl none) (u, ml_h m lm) := wp_fin (v := none) xd102_48 (Or.inr rfl) rfl rfl
/- PickedFormsLaw.split -/
theorem xd103_0 : decode (mj_b 103) 0 = .ok (.aload_n 3, 1) := by decide +kernel
theorem xd103_1 : decode (mj_b 103) 1 = .ok (.iconst 0, 1) := by decide +kernel
theorem xd103_2 : decode (mj_b 103) 2 = .ok (.aload_n 0, 1) := by decide +kernel
theorem xd103_3 : decode (mj_b 103) 3 = .ok (.iload_n 1, 1) := by decide +kernel
theorem xd103_4 : decode (mj_b 103) 4 = .ok (.iload_n 2, 1) := by decide +kernel
theorem xd103_5 : decode (mj_b 103) 5 = .ok (.invokevirtual 33, 3) := by decide +kernel
theorem xd103_8 : decode (mj_b 103) 8 = .ok (.i2l, 1) := by decide +kernel
theorem xd103_9 : decode (mj_b 103) 9 = .ok (.lastore, 1) := by decide +kernel
theorem xd103_10 : decode (mj_b 103) 10 = .ok (.goto 11, 3) := by decide +kernel
theorem xd103_15 : decode (mj_b 103) 15 = .ok (.iconst 1, 1) := by decide +kernel
theorem xd103_16 : decode (mj_b 103) 16 = .ok (.ireturn, 1) := by decide +kernel
theorem xd103_19 : decode (mj_b 103) 19 = .ok (.iconst 2, 1) := by decide +kernel
theorem xd103_20 : decode (mj_b 103) 20 = .ok (.ireturn, 1) := by decide +kernel
theorem xd103_21 : decode (mj_b 103) 21 = .ok (.iconst 0, 1) := by decide +kernel
theorem xd103_22 : decode (mj_b 103) 22 = .ok (.ireturn, 1) := by decide +kernel
theorem x103_0 {x1 : Int32} {x2 : Int32} : wp Ln xs 103 0 [.ref 1, .int x1, .int x2, .ref 81, mj_hole] [] (u, ml_h m lm) Φ = wp Ln xs 104 0 [.ref 1, .int x1, .int x2, mj_hole, mj_hole] [] (u, ml_h m lm) (mk Ln xs 103 5 [.ref 1, .int x1, .int x2, .ref 81, mj_hole] [.int (nI 0), .ref 81] Φ) := (wp_same xd103_0 (Or.inr rfl) rfl).trans ((wp_same (S' := [.int (nI 0), .ref 81]) xd103_1 (Or.inr rfl) rfl).trans ((wp_same xd103_2 (Or.inr rfl) rfl).trans ((wp_same xd103_3 (Or.inr rfl) rfl).trans ((wp_same xd103_4 (Or.inr rfl) rfl).trans (wm_cv (As := [.int x1, .int x2]) (rest := [.int (nI 0), .ref 81]) xd103_5 rfl rfl (show ml_L[1]? = _ from rfl) (Nat.le_of_ble_eq_true rfl) (Nat.le_of_ble_eq_true rfl) (Nat.le_of_ble_eq_true rfl) (Nat.le_of_ble_eq_true rfl))))))
theorem x103_8 {x1 : Int32} {x2 : Int32} {xs0 : Int32} {xs1 : Int32} : wp Ln xs 103 8 [.ref 1, .int x1, .int x2, .ref 81, mj_hole] [.int xs0, .int xs1, .ref 81] (u, ml_h m lm) Φ = wp Ln xs 103 9 [.ref 1, .int x1, .int x2, .ref 81, mj_hole] [.long xs0.toInt64, .int xs1, .ref 81] (u, ml_h m lm) Φ := wp_same xd103_8 (Or.inr rfl) rfl
theorem x103_9 {x1 : Int32} {x2 : Int32} {ys0 : Int64} {k : Nat} (hk : k < 1) : wp Ln xs 103 9 [.ref 1, .int x1, .int x2, .ref 81, mj_hole] [.long ys0, .int (nI k), .ref 81] (u, ml_h m lm) Φ = wp Ln xs 103 21 [.ref 1, .int x1, .int x2, .ref 81, mj_hole] [] (u, ml_h m (ml_sj lm 81 k ys0)) Φ := (wm_last (k := k) xd103_9 rfl hk (by decide)).trans (wx_goto xd103_10 rfl)
theorem x103_15 {x1 : Int32} {x2 : Int32} : wp Ln xs 103 15 [.ref 1, .int x1, .int x2, .ref 81, mj_hole] [] (u, ml_h m lm) Φ = Φ (.inl (some (.int (nI 1)))) (u, ml_h m lm) := (wp_same (S' := [.int (nI 1)]) xd103_15 (Or.inr rfl) rfl).trans (wp_fin (v := some (.int (nI 1))) xd103_16 (Or.inr rfl) rfl (mj_fin_i rfl))
theorem x103_19 {x1 : Int32} {x2 : Int32} : wp Ln xs 103 19 [.ref 1, .int x1, .int x2, .ref 81, mj_hole] [] (u, ml_h m lm) Φ = Φ (.inl (some (.int (nI 2)))) (u, ml_h m lm) := (wp_same (S' := [.int (nI 2)]) xd103_19 (Or.inr rfl) rfl).trans (wp_fin (v := some (.int (nI 2))) xd103_20 (Or.inr rfl) rfl (mj_fin_i rfl))
theorem x103_21 {x1 : Int32} {x2 : Int32} : wp Ln xs 103 21 [.ref 1, .int x1, .int x2, .ref 81, mj_hole] [] (u, ml_h m lm) Φ = Φ (.inl (some (.int (nI 0)))) (u, ml_h m lm) := (wp_same (S' := [.int (nI 0)]) xd103_21 (Or.inr rfl) rfl).trans (wp_fin (v := some (.int (nI 0))) xd103_22 (Or.inr rfl) rfl (mj_fin_i rfl))
/- PickedForms.split -/
theorem xd104_0 : decode (mj_b 104) 0 = .ok (.aload_n 0, 1) := by decide +kernel
theorem xd104_1 : decode (mj_b 104) 1 = .ok (.getfield 12, 3) := by decide +kernel
theorem xd104_4 : decode (mj_b 104) 4 = .ok (.iload_n 1, 1) := by decide +kernel
theorem xd104_5 : decode (mj_b 104) 5 = .ok (.invokevirtual 154, 3) := by decide +kernel
theorem xd104_8 : decode (mj_b 104) 8 = .ok (.ifCond .eq 20, 3) := by decide +kernel
theorem xd104_11 : decode (mj_b 104) 11 = .ok (.iload_n 2, 1) := by decide +kernel
theorem xd104_12 : decode (mj_b 104) 12 = .ok (.iconst 1, 1) := by decide +kernel
theorem xd104_13 : decode (mj_b 104) 13 = .ok (.if_icmp .lt 15, 3) := by decide +kernel
theorem xd104_16 : decode (mj_b 104) 16 = .ok (.iload_n 2, 1) := by decide +kernel
theorem xd104_17 : decode (mj_b 104) 17 = .ok (.aload_n 0, 1) := by decide +kernel
theorem xd104_18 : decode (mj_b 104) 18 = .ok (.getfield 12, 3) := by decide +kernel
theorem xd104_21 : decode (mj_b 104) 21 = .ok (.iload_n 1, 1) := by decide +kernel
theorem xd104_22 : decode (mj_b 104) 22 = .ok (.invokevirtual 164, 3) := by decide +kernel
theorem xd104_25 : decode (mj_b 104) 25 = .ok (.if_icmp .lt 13, 3) := by decide +kernel
theorem xd104_28 : decode (mj_b 104) 28 = .ok (.new 130, 3) := by decide +kernel
theorem xd104_38 : decode (mj_b 104) 38 = .ok (.aload_n 0, 1) := by decide +kernel
theorem xd104_39 : decode (mj_b 104) 39 = .ok (.getfield 12, 3) := by decide +kernel
theorem xd104_42 : decode (mj_b 104) 42 = .ok (.getfield 112, 3) := by decide +kernel
theorem xd104_45 : decode (mj_b 104) 45 = .ok (.bipush 12, 2) := by decide +kernel
theorem xd104_47 : decode (mj_b 104) 47 = .ok (.if_icmp .lt 13, 3) := by decide +kernel
theorem xd104_50 : decode (mj_b 104) 50 = .ok (.new 91, 3) := by decide +kernel
theorem xd104_60 : decode (mj_b 104) 60 = .ok (.aload_n 0, 1) := by decide +kernel
theorem xd104_61 : decode (mj_b 104) 61 = .ok (.getfield 26, 3) := by decide +kernel
theorem xd104_64 : decode (mj_b 104) 64 = .ok (.aload_n 0, 1) := by decide +kernel
theorem xd104_65 : decode (mj_b 104) 65 = .ok (.getfield 12, 3) := by decide +kernel
theorem xd104_68 : decode (mj_b 104) 68 = .ok (.invokevirtual 96, 3) := by decide +kernel
theorem xd104_71 : decode (mj_b 104) 71 = .ok (.aload_n 0, 1) := by decide +kernel
theorem xd104_72 : decode (mj_b 104) 72 = .ok (.getfield 12, 3) := by decide +kernel
theorem xd104_75 : decode (mj_b 104) 75 = .ok (.iload_n 1, 1) := by decide +kernel
theorem xd104_76 : decode (mj_b 104) 76 = .ok (.invokevirtual 159, 3) := by decide +kernel
theorem xd104_79 : decode (mj_b 104) 79 = .ok (.istore_n 3, 1) := by decide +kernel
theorem xd104_80 : decode (mj_b 104) 80 = .ok (.aload_n 0, 1) := by decide +kernel
theorem xd104_81 : decode (mj_b 104) 81 = .ok (.getfield 12, 3) := by decide +kernel
theorem xd104_84 : decode (mj_b 104) 84 = .ok (.iload_n 1, 1) := by decide +kernel
theorem xd104_85 : decode (mj_b 104) 85 = .ok (.invokevirtual 164, 3) := by decide +kernel
theorem xd104_88 : decode (mj_b 104) 88 = .ok (.iload_n 2, 1) := by decide +kernel
theorem xd104_89 : decode (mj_b 104) 89 = .ok (.isub, 1) := by decide +kernel
theorem xd104_90 : decode (mj_b 104) 90 = .ok (.istore 4, 2) := by decide +kernel
theorem xd104_92 : decode (mj_b 104) 92 = .ok (.aload_n 0, 1) := by decide +kernel
theorem xd104_93 : decode (mj_b 104) 93 = .ok (.getfield 12, 3) := by decide +kernel
theorem xd104_96 : decode (mj_b 104) 96 = .ok (.iload_n 1, 1) := by decide +kernel
theorem xd104_97 : decode (mj_b 104) 97 = .ok (.iconst 1, 1) := by decide +kernel
theorem xd104_98 : decode (mj_b 104) 98 = .ok (.iadd, 1) := by decide +kernel
theorem xd104_99 : decode (mj_b 104) 99 = .ok (.invokevirtual 179, 3) := by decide +kernel
theorem xd104_102 : decode (mj_b 104) 102 = .ok (.aload_n 0, 1) := by decide +kernel
theorem xd104_103 : decode (mj_b 104) 103 = .ok (.getfield 12, 3) := by decide +kernel
theorem xd104_106 : decode (mj_b 104) 106 = .ok (.getfield 172, 3) := by decide +kernel
theorem xd104_109 : decode (mj_b 104) 109 = .ok (.iload_n 1, 1) := by decide +kernel
theorem xd104_110 : decode (mj_b 104) 110 = .ok (.iload_n 2, 1) := by decide +kernel
theorem xd104_111 : decode (mj_b 104) 111 = .ok (.invokestatic 142, 3) := by decide +kernel
theorem xd104_114 : decode (mj_b 104) 114 = .ok (.aload_n 0, 1) := by decide +kernel
theorem xd104_115 : decode (mj_b 104) 115 = .ok (.getfield 12, 3) := by decide +kernel
theorem xd104_118 : decode (mj_b 104) 118 = .ok (.getfield 172, 3) := by decide +kernel
theorem xd104_121 : decode (mj_b 104) 121 = .ok (.iload_n 1, 1) := by decide +kernel
theorem xd104_122 : decode (mj_b 104) 122 = .ok (.iconst 1, 1) := by decide +kernel
theorem xd104_123 : decode (mj_b 104) 123 = .ok (.iadd, 1) := by decide +kernel
theorem xd104_124 : decode (mj_b 104) 124 = .ok (.iload 4, 2) := by decide +kernel
theorem xd104_126 : decode (mj_b 104) 126 = .ok (.invokestatic 142, 3) := by decide +kernel
theorem xd104_129 : decode (mj_b 104) 129 = .ok (.aload_n 0, 1) := by decide +kernel
theorem xd104_130 : decode (mj_b 104) 130 = .ok (.iload_n 1, 1) := by decide +kernel
theorem xd104_131 : decode (mj_b 104) 131 = .ok (.invokevirtual 120, 3) := by decide +kernel
theorem xd104_134 : decode (mj_b 104) 134 = .ok (.aload_n 0, 1) := by decide +kernel
theorem xd104_135 : decode (mj_b 104) 135 = .ok (.iload_n 1, 1) := by decide +kernel
theorem xd104_136 : decode (mj_b 104) 136 = .ok (.iconst 1, 1) := by decide +kernel
theorem xd104_137 : decode (mj_b 104) 137 = .ok (.iadd, 1) := by decide +kernel
theorem xd104_138 : decode (mj_b 104) 138 = .ok (.invokevirtual 120, 3) := by decide +kernel
theorem xd104_141 : decode (mj_b 104) 141 = .ok (.iload_n 3, 1) := by decide +kernel
theorem xd104_142 : decode (mj_b 104) 142 = .ok (.aload_n 0, 1) := by decide +kernel
theorem xd104_143 : decode (mj_b 104) 143 = .ok (.getfield 12, 3) := by decide +kernel
theorem xd104_146 : decode (mj_b 104) 146 = .ok (.iload_n 1, 1) := by decide +kernel
theorem xd104_147 : decode (mj_b 104) 147 = .ok (.invokevirtual 159, 3) := by decide +kernel
theorem xd104_150 : decode (mj_b 104) 150 = .ok (.isub, 1) := by decide +kernel
theorem xd104_151 : decode (mj_b 104) 151 = .ok (.aload_n 0, 1) := by decide +kernel
theorem xd104_152 : decode (mj_b 104) 152 = .ok (.getfield 12, 3) := by decide +kernel
theorem xd104_155 : decode (mj_b 104) 155 = .ok (.iload_n 1, 1) := by decide +kernel
theorem xd104_156 : decode (mj_b 104) 156 = .ok (.iconst 1, 1) := by decide +kernel
theorem xd104_157 : decode (mj_b 104) 157 = .ok (.iadd, 1) := by decide +kernel
theorem xd104_158 : decode (mj_b 104) 158 = .ok (.invokevirtual 159, 3) := by decide +kernel
theorem xd104_161 : decode (mj_b 104) 161 = .ok (.isub, 1) := by decide +kernel
theorem xd104_162 : decode (mj_b 104) 162 = .ok (.bipush 7, 2) := by decide +kernel
theorem xd104_164 : decode (mj_b 104) 164 = .ok (.isub, 1) := by decide +kernel
theorem xd104_165 : decode (mj_b 104) 165 = .ok (.ireturn, 1) := by decide +kernel
theorem x104_0 {x1 : Int32} {x2 : Int32} : wp Ln xs 104 0 [.ref 1, .int x1, .int x2, mj_hole, mj_hole] [] (u, ml_h m lm) Φ = wp Ln xs 98 0 [.ref 2, .int x1] [] (u, ml_h m lm) (mk Ln xs 104 5 [.ref 1, .int x1, .int x2, mj_hole, mj_hole] [] Φ) := (wp_same xd104_0 (Or.inr rfl) rfl).trans ((wm_getr xd104_1 rfl (show ml_L[1]? = _ from rfl) rfl (Nat.le_of_ble_eq_true rfl)).trans ((wp_same xd104_4 (Or.inr rfl) rfl).trans (wm_cv (As := [.int x1]) (rest := []) xd104_5 rfl rfl (show ml_L[2]? = _ from rfl) (Nat.le_of_ble_eq_true rfl) (Nat.le_of_ble_eq_true rfl) (Nat.le_of_ble_eq_true rfl) (Nat.le_of_ble_eq_true rfl))))
theorem x104_8 {x1 : Int32} {x2 : Int32} {xs0 : Int32} : wp Ln xs 104 8 [.ref 1, .int x1, .int x2, mj_hole, mj_hole] [.int xs0] (u, ml_h m lm) Φ = if xs0 = (nI 0) then wp Ln xs 104 28 [.ref 1, .int x1, .int x2, mj_hole, mj_hole] [] (u, ml_h m lm) Φ else wp Ln xs 104 11 [.ref 1, .int x1, .int x2, mj_hole, mj_hole] [] (u, ml_h m lm) Φ := wx_if xd104_8 rfl rfl (xs0 = (nI 0)) mb_eq
theorem x104_11 {x1 : Int32} {x2 : Int32} : wp Ln xs 104 11 [.ref 1, .int x1, .int x2, mj_hole, mj_hole] [] (u, ml_h m lm) Φ = if x2 < (nI 1) then wp Ln xs 104 28 [.ref 1, .int x1, .int x2, mj_hole, mj_hole] [] (u, ml_h m lm) Φ else wp Ln xs 104 16 [.ref 1, .int x1, .int x2, mj_hole, mj_hole] [] (u, ml_h m lm) Φ := (wp_same xd104_11 (Or.inr rfl) rfl).trans ((wp_same (S' := [.int (nI 1), .int x2]) xd104_12 (Or.inr rfl) rfl).trans (wx_icmp xd104_13 rfl rfl (x2 < (nI 1)) mb_lt))
theorem x104_16 {x1 : Int32} {x2 : Int32} : wp Ln xs 104 16 [.ref 1, .int x1, .int x2, mj_hole, mj_hole] [] (u, ml_h m lm) Φ = wp Ln xs 30 0 [.ref 2, .int x1] [] (u, ml_h m lm) (mk Ln xs 104 22 [.ref 1, .int x1, .int x2, mj_hole, mj_hole] [.int x2] Φ) := (wp_same xd104_16 (Or.inr rfl) rfl).trans ((wp_same xd104_17 (Or.inr rfl) rfl).trans ((wm_getr xd104_18 rfl (show ml_L[1]? = _ from rfl) rfl (Nat.le_of_ble_eq_true rfl)).trans ((wp_same xd104_21 (Or.inr rfl) rfl).trans (wm_cv (As := [.int x1]) (rest := [.int x2]) xd104_22 rfl rfl (show ml_L[2]? = _ from rfl) (Nat.le_of_ble_eq_true rfl) (Nat.le_of_ble_eq_true rfl) (Nat.le_of_ble_eq_true rfl) (Nat.le_of_ble_eq_true rfl)))))
theorem x104_25 {x1 : Int32} {x2 : Int32} {xs0 : Int32} {xs1 : Int32} : wp Ln xs 104 25 [.ref 1, .int x1, .int x2, mj_hole, mj_hole] [.int xs0, .int xs1] (u, ml_h m lm) Φ = if xs1 < xs0 then wp Ln xs 104 38 [.ref 1, .int x1, .int x2, mj_hole, mj_hole] [] (u, ml_h m lm) Φ else wp Ln xs 104 28 [.ref 1, .int x1, .int x2, mj_hole, mj_hole] [] (u, ml_h m lm) Φ := wx_icmp xd104_25 rfl rfl (xs1 < xs0) mb_lt
theorem x104_28 {x1 : Int32} {x2 : Int32} : wp Ln xs 104 28 [.ref 1, .int x1, .int x2, mj_hole, mj_hole] [] (u, ml_h m lm) Φ = Φ (.inr 2) ((u.1, u.2.1 + 1, u.2.2 + 6), ml_h m lm) := wp_thr xd104_28 (Or.inr rfl) rfl rfl (E := 2) (by decide +kernel)
theorem x104_38 {x1 : Int32} {x2 : Int32} : wp Ln xs 104 38 [.ref 1, .int x1, .int x2, mj_hole, mj_hole] [] (u, ml_h m lm) Φ = if (m 2 6) < (nI 12) then wp Ln xs 104 60 [.ref 1, .int x1, .int x2, mj_hole, mj_hole] [] (u, ml_h m lm) Φ else wp Ln xs 104 50 [.ref 1, .int x1, .int x2, mj_hole, mj_hole] [] (u, ml_h m lm) Φ := (wp_same xd104_38 (Or.inr rfl) rfl).trans ((wm_getr xd104_39 rfl (show ml_L[1]? = _ from rfl) rfl (Nat.le_of_ble_eq_true rfl)).trans ((wm_geti xd104_42 rfl (show ml_L[2]? = _ from rfl) rfl (Nat.le_of_ble_eq_true rfl)).trans ((wp_same (S' := [.int (nI 12), .int (m 2 6)]) xd104_45 (Or.inr rfl) rfl).trans (wx_icmp xd104_47 rfl rfl ((m 2 6) < (nI 12)) mb_lt))))
theorem x104_50 {x1 : Int32} {x2 : Int32} : wp Ln xs 104 50 [.ref 1, .int x1, .int x2, mj_hole, mj_hole] [] (u, ml_h m lm) Φ = Φ (.inr 1) ((u.1, u.2.1 + 1, u.2.2 + 6), ml_h m lm) := wp_thr xd104_50 (Or.inr rfl) rfl rfl (E := 1) (by decide +kernel)
theorem x104_60 {x1 : Int32} {x2 : Int32} : wp Ln xs 104 60 [.ref 1, .int x1, .int x2, mj_hole, mj_hole] [] (u, ml_h m lm) Φ = wp Ln xs 85 0 [.ref 14, .ref 2, mj_hole] [] (u, ml_h m lm) (mk Ln xs 104 68 [.ref 1, .int x1, .int x2, mj_hole, mj_hole] [] Φ) := (wp_same xd104_60 (Or.inr rfl) rfl).trans ((wm_getr xd104_61 rfl (show ml_L[1]? = _ from rfl) rfl (Nat.le_of_ble_eq_true rfl)).trans ((wp_same xd104_64 (Or.inr rfl) rfl).trans ((wm_getr xd104_65 rfl (show ml_L[1]? = _ from rfl) rfl (Nat.le_of_ble_eq_true rfl)).trans (wm_cv (As := [.ref 2]) (rest := []) xd104_68 rfl rfl (show ml_L[14]? = _ from rfl) (Nat.le_of_ble_eq_true rfl) (Nat.le_of_ble_eq_true rfl) (Nat.le_of_ble_eq_true rfl) (Nat.le_of_ble_eq_true rfl)))))
theorem x104_71 {x1 : Int32} {x2 : Int32} : wp Ln xs 104 71 [.ref 1, .int x1, .int x2, mj_hole, mj_hole] [] (u, ml_h m lm) Φ = wp Ln xs 48 0 [.ref 2, .int x1] [] (u, ml_h m lm) (mk Ln xs 104 76 [.ref 1, .int x1, .int x2, mj_hole, mj_hole] [] Φ) := (wp_same xd104_71 (Or.inr rfl) rfl).trans ((wm_getr xd104_72 rfl (show ml_L[1]? = _ from rfl) rfl (Nat.le_of_ble_eq_true rfl)).trans ((wp_same xd104_75 (Or.inr rfl) rfl).trans (wm_cv (As := [.int x1]) (rest := []) xd104_76 rfl rfl (show ml_L[2]? = _ from rfl) (Nat.le_of_ble_eq_true rfl) (Nat.le_of_ble_eq_true rfl) (Nat.le_of_ble_eq_true rfl) (Nat.le_of_ble_eq_true rfl))))
theorem x104_79 {x1 : Int32} {x2 : Int32} {xs0 : Int32} : wp Ln xs 104 79 [.ref 1, .int x1, .int x2, mj_hole, mj_hole] [.int xs0] (u, ml_h m lm) Φ = wp Ln xs 30 0 [.ref 2, .int x1] [] (u, ml_h m lm) (mk Ln xs 104 85 [.ref 1, .int x1, .int x2, .int xs0, mj_hole] [] Φ) := (wp_same (L' := [.ref 1, .int x1, .int x2, .int xs0, mj_hole]) xd104_79 (Or.inr rfl) rfl).trans ((wp_same xd104_80 (Or.inr rfl) rfl).trans ((wm_getr xd104_81 rfl (show ml_L[1]? = _ from rfl) rfl (Nat.le_of_ble_eq_true rfl)).trans ((wp_same xd104_84 (Or.inr rfl) rfl).trans (wm_cv (As := [.int x1]) (rest := []) xd104_85 rfl rfl (show ml_L[2]? = _ from rfl) (Nat.le_of_ble_eq_true rfl) (Nat.le_of_ble_eq_true rfl) (Nat.le_of_ble_eq_true rfl) (Nat.le_of_ble_eq_true rfl)))))
theorem x104_88 {x1 : Int32} {x2 : Int32} {x3 : Int32} {xs0 : Int32} : wp Ln xs 104 88 [.ref 1, .int x1, .int x2, .int x3, mj_hole] [.int xs0] (u, ml_h m lm) Φ = wp Ln xs 105 0 [.ref 2, .int (x1 + (nI 1)), mj_hole] [] (u, ml_h m lm) (mk Ln xs 104 99 [.ref 1, .int x1, .int x2, .int x3, .int (xs0 - x2)] [] Φ) := (wp_same xd104_88 (Or.inr rfl) rfl).trans ((wp_same xd104_89 (Or.inr rfl) rfl).trans ((wp_same (L' := [.ref 1, .int x1, .int x2, .int x3, .int (xs0 - x2)]) xd104_90 (Or.inr rfl) rfl).trans ((wp_same xd104_92 (Or.inr rfl) rfl).trans ((wm_getr xd104_93 rfl (show ml_L[1]? = _ from rfl) rfl (Nat.le_of_ble_eq_true rfl)).trans ((wp_same xd104_96 (Or.inr rfl) rfl).trans ((wp_same (S' := [.int (nI 1), .int x1, .ref 2]) xd104_97 (Or.inr rfl) rfl).trans ((wp_same xd104_98 (Or.inr rfl) rfl).trans (wm_cv (As := [.int (x1 + (nI 1))]) (rest := []) xd104_99 rfl rfl (show ml_L[2]? = _ from rfl) (Nat.le_of_ble_eq_true rfl) (Nat.le_of_ble_eq_true rfl) (Nat.le_of_ble_eq_true rfl) (Nat.le_of_ble_eq_true rfl)))))))))
theorem x104_102 {x1 : Int32} {x2 : Int32} {x3 : Int32} {x4 : Int32} : wp Ln xs 104 102 [.ref 1, .int x1, .int x2, .int x3, .int x4] [] (u, ml_h m lm) Φ = wp Ln xs 55 0 [.ref 4, .int x1, .int x2] [] (u, ml_h m lm) (mk Ln xs 104 111 [.ref 1, .int x1, .int x2, .int x3, .int x4] [] Φ) := (wp_same xd104_102 (Or.inr rfl) rfl).trans ((wm_getr xd104_103 rfl (show ml_L[1]? = _ from rfl) rfl (Nat.le_of_ble_eq_true rfl)).trans ((wm_getr xd104_106 rfl (show ml_L[2]? = _ from rfl) rfl (Nat.le_of_ble_eq_true rfl)).trans ((wp_same xd104_109 (Or.inr rfl) rfl).trans ((wp_same xd104_110 (Or.inr rfl) rfl).trans (wm_cs (As := [.ref 4, .int x1, .int x2]) (rest := []) xd104_111 rfl rfl (Nat.le_of_ble_eq_true rfl) (Nat.le_of_ble_eq_true rfl) (Nat.le_of_ble_eq_true rfl) (Nat.le_of_ble_eq_true rfl))))))
theorem x104_114 {x1 : Int32} {x2 : Int32} {x3 : Int32} {x4 : Int32} : wp Ln xs 104 114 [.ref 1, .int x1, .int x2, .int x3, .int x4] [] (u, ml_h m lm) Φ = wp Ln xs 55 0 [.ref 4, .int (x1 + (nI 1)), .int x4] [] (u, ml_h m lm) (mk Ln xs 104 126 [.ref 1, .int x1, .int x2, .int x3, .int x4] [] Φ) := (wp_same xd104_114 (Or.inr rfl) rfl).trans ((wm_getr xd104_115 rfl (show ml_L[1]? = _ from rfl) rfl (Nat.le_of_ble_eq_true rfl)).trans ((wm_getr xd104_118 rfl (show ml_L[2]? = _ from rfl) rfl (Nat.le_of_ble_eq_true rfl)).trans ((wp_same xd104_121 (Or.inr rfl) rfl).trans ((wp_same (S' := [.int (nI 1), .int x1, .ref 4]) xd104_122 (Or.inr rfl) rfl).trans ((wp_same xd104_123 (Or.inr rfl) rfl).trans ((wp_same xd104_124 (Or.inr rfl) rfl).trans (wm_cs (As := [.ref 4, .int (x1 + (nI 1)), .int x4]) (rest := []) xd104_126 rfl rfl (Nat.le_of_ble_eq_true rfl) (Nat.le_of_ble_eq_true rfl) (Nat.le_of_ble_eq_true rfl) (Nat.le_of_ble_eq_true rfl))))))))
theorem x104_129 {x1 : Int32} {x2 : Int32} {x3 : Int32} {x4 : Int32} : wp Ln xs 104 129 [.ref 1, .int x1, .int x2, .int x3, .int x4] [] (u, ml_h m lm) Φ = wp Ln xs 89 0 [.ref 1, .int x1] [] (u, ml_h m lm) (mk Ln xs 104 131 [.ref 1, .int x1, .int x2, .int x3, .int x4] [] Φ) := (wp_same xd104_129 (Or.inr rfl) rfl).trans ((wp_same xd104_130 (Or.inr rfl) rfl).trans (wm_cv (As := [.int x1]) (rest := []) xd104_131 rfl rfl (show ml_L[1]? = _ from rfl) (Nat.le_of_ble_eq_true rfl) (Nat.le_of_ble_eq_true rfl) (Nat.le_of_ble_eq_true rfl) (Nat.le_of_ble_eq_true rfl)))
theorem x104_134 {x1 : Int32} {x2 : Int32} {x3 : Int32} {x4 : Int32} : wp Ln xs 104 134 [.ref 1, .int x1, .int x2, .int x3, .int x4] [] (u, ml_h m lm) Φ = wp Ln xs 89 0 [.ref 1, .int (x1 + (nI 1))] [] (u, ml_h m lm) (mk Ln xs 104 138 [.ref 1, .int x1, .int x2, .int x3, .int x4] [] Φ) := (wp_same xd104_134 (Or.inr rfl) rfl).trans ((wp_same xd104_135 (Or.inr rfl) rfl).trans ((wp_same (S' := [.int (nI 1), .int x1, .ref 1]) xd104_136 (Or.inr rfl) rfl).trans ((wp_same xd104_137 (Or.inr rfl) rfl).trans (wm_cv (As := [.int (x1 + (nI 1))]) (rest := []) xd104_138 rfl rfl (show ml_L[1]? = _ from rfl) (Nat.le_of_ble_eq_true rfl) (Nat.le_of_ble_eq_true rfl) (Nat.le_of_ble_eq_true rfl) (Nat.le_of_ble_eq_true rfl)))))
theorem x104_141 {x1 : Int32} {x2 : Int32} {x3 : Int32} {x4 : Int32} : wp Ln xs 104 141 [.ref 1, .int x1, .int x2, .int x3, .int x4] [] (u, ml_h m lm) Φ = wp Ln xs 48 0 [.ref 2, .int x1] [] (u, ml_h m lm) (mk Ln xs 104 147 [.ref 1, .int x1, .int x2, .int x3, .int x4] [.int x3] Φ) := (wp_same xd104_141 (Or.inr rfl) rfl).trans ((wp_same xd104_142 (Or.inr rfl) rfl).trans ((wm_getr xd104_143 rfl (show ml_L[1]? = _ from rfl) rfl (Nat.le_of_ble_eq_true rfl)).trans ((wp_same xd104_146 (Or.inr rfl) rfl).trans (wm_cv (As := [.int x1]) (rest := [.int x3]) xd104_147 rfl rfl (show ml_L[2]? = _ from rfl) (Nat.le_of_ble_eq_true rfl) (Nat.le_of_ble_eq_true rfl) (Nat.le_of_ble_eq_true rfl) (Nat.le_of_ble_eq_true rfl)))))
theorem x104_150 {x1 : Int32} {x2 : Int32} {x3 : Int32} {x4 : Int32} {xs0 : Int32} {xs1 : Int32} : wp Ln xs 104 150 [.ref 1, .int x1, .int x2, .int x3, .int x4] [.int xs0, .int xs1] (u, ml_h m lm) Φ = wp Ln xs 48 0 [.ref 2, .int (x1 + (nI 1))] [] (u, ml_h m lm) (mk Ln xs 104 158 [.ref 1, .int x1, .int x2, .int x3, .int x4] [.int (xs1 - xs0)] Φ) := (wp_same xd104_150 (Or.inr rfl) rfl).trans ((wp_same xd104_151 (Or.inr rfl) rfl).trans ((wm_getr xd104_152 rfl (show ml_L[1]? = _ from rfl) rfl (Nat.le_of_ble_eq_true rfl)).trans ((wp_same xd104_155 (Or.inr rfl) rfl).trans ((wp_same (S' := [.int (nI 1), .int x1, .ref 2, .int (xs1 - xs0)]) xd104_156 (Or.inr rfl) rfl).trans ((wp_same xd104_157 (Or.inr rfl) rfl).trans (wm_cv (As := [.int (x1 + (nI 1))]) (rest := [.int (xs1 - xs0)]) xd104_158 rfl rfl (show ml_L[2]? = _ from rfl) (Nat.le_of_ble_eq_true rfl) (Nat.le_of_ble_eq_true rfl) (Nat.le_of_ble_eq_true rfl) (Nat.le_of_ble_eq_true rfl)))))))
theorem x104_161 {x1 : Int32} {x2 : Int32} {x3 : Int32} {x4 : Int32} {xs0 : Int32} {xs1 : Int32} : wp Ln xs 104 161 [.ref 1, .int x1, .int x2, .int x3, .int x4] [.int xs0, .int xs1] (u, ml_h m lm) Φ = Φ (.inl (some (.int ((xs1 - xs0) - (nI 7))))) (u, ml_h m lm) := (wp_same xd104_161 (Or.inr rfl) rfl).trans ((wp_same (S' := [.int (nI 7), .int (xs1 - xs0)]) xd104_162 (Or.inr rfl) rfl).trans ((wp_same xd104_164 (Or.inr rfl) rfl).trans (wp_fin (v := some (.int ((xs1 - xs0) - (nI 7)))) xd104_165 (Or.inr rfl) rfl (mj_fin_i rfl))))
/- PickedForms$Column.openSlot -/
theorem xd105_0 : decode (mj_b 105) 0 = .ok (.aload_n 0, 1) := by decide +kernel
theorem xd105_1 : decode (mj_b 105) 1 = .ok (.getfield 31, 3) := by decide +kernel
theorem xd105_4 : decode (mj_b 105) 4 = .ok (.istore_n 2, 1) := by decide +kernel
theorem xd105_5 : decode (mj_b 105) 5 = .ok (.iload_n 2, 1) := by decide +kernel
theorem xd105_6 : decode (mj_b 105) 6 = .ok (.iload_n 1, 1) := by decide +kernel
theorem xd105_7 : decode (mj_b 105) 7 = .ok (.if_icmp .le 17, 3) := by decide +kernel
theorem xd105_10 : decode (mj_b 105) 10 = .ok (.aload_n 0, 1) := by decide +kernel
theorem xd105_11 : decode (mj_b 105) 11 = .ok (.iload_n 2, 1) := by decide +kernel
theorem xd105_12 : decode (mj_b 105) 12 = .ok (.iconst 1, 1) := by decide +kernel
theorem xd105_13 : decode (mj_b 105) 13 = .ok (.isub, 1) := by decide +kernel
theorem xd105_14 : decode (mj_b 105) 14 = .ok (.iload_n 2, 1) := by decide +kernel
theorem xd105_15 : decode (mj_b 105) 15 = .ok (.invokevirtual 65, 3) := by decide +kernel
theorem xd105_18 : decode (mj_b 105) 18 = .ok (.iinc 2 (-1), 3) := by decide +kernel
theorem xd105_21 : decode (mj_b 105) 21 = .ok (.goto (-16), 3) := by decide +kernel
theorem xd105_24 : decode (mj_b 105) 24 = .ok (.aload_n 0, 1) := by decide +kernel
theorem xd105_25 : decode (mj_b 105) 25 = .ok (.dup, 1) := by decide +kernel
theorem xd105_26 : decode (mj_b 105) 26 = .ok (.getfield 31, 3) := by decide +kernel
theorem xd105_29 : decode (mj_b 105) 29 = .ok (.iconst 1, 1) := by decide +kernel
theorem xd105_30 : decode (mj_b 105) 30 = .ok (.iadd, 1) := by decide +kernel
theorem xd105_31 : decode (mj_b 105) 31 = .ok (.putfield 31, 3) := by decide +kernel
theorem xd105_34 : decode (mj_b 105) 34 = .ok (.return_, 1) := by decide +kernel
theorem x105_0 {x1 : Int32} : wp Ln xs 105 0 [.ref 2, .int x1, mj_hole] [] (u, ml_h m lm) Φ = wp Ln xs 105 5 [.ref 2, .int x1, .int (m 2 6)] [] (u, ml_h m lm) Φ := (wp_same xd105_0 (Or.inr rfl) rfl).trans ((wm_geti xd105_1 rfl (show ml_L[2]? = _ from rfl) rfl (Nat.le_of_ble_eq_true rfl)).trans (wp_same (L' := [.ref 2, .int x1, .int (m 2 6)]) xd105_4 (Or.inr rfl) rfl))
theorem x105_5 {x1 : Int32} {x2 : Int32} : wp Ln xs 105 5 [.ref 2, .int x1, .int x2] [] (u, ml_h m lm) Φ = if x2 ≤ x1 then wp Ln xs 105 24 [.ref 2, .int x1, .int x2] [] (u, ml_h m lm) Φ else wp Ln xs 105 10 [.ref 2, .int x1, .int x2] [] (u, ml_h m lm) Φ := (wp_same xd105_5 (Or.inr rfl) rfl).trans ((wp_same xd105_6 (Or.inr rfl) rfl).trans (wx_icmp xd105_7 rfl rfl (x2 ≤ x1) mb_le))
theorem x105_10 {x1 : Int32} {x2 : Int32} : wp Ln xs 105 10 [.ref 2, .int x1, .int x2] [] (u, ml_h m lm) Φ = wp Ln xs 102 0 [.ref 2, .int (x2 - (nI 1)), .int x2] [] (u, ml_h m lm) (mk Ln xs 105 15 [.ref 2, .int x1, .int x2] [] Φ) := (wp_same xd105_10 (Or.inr rfl) rfl).trans ((wp_same xd105_11 (Or.inr rfl) rfl).trans ((wp_same (S' := [.int (nI 1), .int x2, .ref 2]) xd105_12 (Or.inr rfl) rfl).trans ((wp_same xd105_13 (Or.inr rfl) rfl).trans ((wp_same xd105_14 (Or.inr rfl) rfl).trans (wm_cv (As := [.int (x2 - (nI 1)), .int x2]) (rest := []) xd105_15 rfl rfl (show ml_L[2]? = _ from rfl) (Nat.le_of_ble_eq_true rfl) (Nat.le_of_ble_eq_true rfl) (Nat.le_of_ble_eq_true rfl) (Nat.le_of_ble_eq_true rfl))))))
theorem x105_18 {x1 : Int32} {x2 : Int32} : wp Ln xs 105 18 [.ref 2, .int x1, .int x2] [] (u, ml_h m lm) Φ = wp Ln xs 105 5 [.ref 2, .int x1, .int (x2 + (-1))] [] (u, ml_h m lm) Φ := (wp_same (L' := [.ref 2, .int x1, .int (x2 + (-1))]) xd105_18 (Or.inr rfl) rfl).trans (wx_goto xd105_21 rfl)
theorem x105_24 {x1 : Int32} {x2 : Int32} : wp Ln xs 105 24 [.ref 2, .int x1, .int x2] [] (u, ml_h m lm) Φ = Φ (.inl none) (u, ml_h (ml_s m 2 6 ((m 2 6) + (nI 1))) lm) := (wp_same xd105_24 (Or.inr rfl) rfl).trans ((wp_same xd105_25 (Or.inr rfl) rfl).trans ((wm_geti xd105_26 rfl (show ml_L[2]? = _ from rfl) rfl (Nat.le_of_ble_eq_true rfl)).trans ((wp_same (S' := [.int (nI 1), .int (m 2 6), .ref 2]) xd105_29 (Or.inr rfl) rfl).trans ((wp_same xd105_30 (Or.inr rfl) rfl).trans ((wm_puti xd105_31 rfl (show ml_L[2]? = _ from rfl) rfl (Nat.le_of_ble_eq_true rfl) rfl rfl rfl).trans (wp_fin (v := none) xd105_34 (Or.inr rfl) rfl rfl))))))
/- PickedFormsLaw.drop -/
theorem xd106_0 : decode (mj_b 106) 0 = .ok (.aload_n 2, 1) := by decide +kernel
theorem xd106_1 : decode (mj_b 106) 1 = .ok (.iconst 0, 1) := by decide +kernel
theorem xd106_2 : decode (mj_b 106) 2 = .ok (.aload_n 0, 1) := by decide +kernel
theorem xd106_3 : decode (mj_b 106) 3 = .ok (.iload_n 1, 1) := by decide +kernel
theorem xd106_4 : decode (mj_b 106) 4 = .ok (.invokevirtual 36, 3) := by decide +kernel
theorem xd106_7 : decode (mj_b 106) 7 = .ok (.i2l, 1) := by decide +kernel
theorem xd106_8 : decode (mj_b 106) 8 = .ok (.lastore, 1) := by decide +kernel
theorem xd106_9 : decode (mj_b 106) 9 = .ok (.goto 6, 3) := by decide +kernel
theorem xd106_13 : decode (mj_b 106) 13 = .ok (.iconst 1, 1) := by decide +kernel
theorem xd106_14 : decode (mj_b 106) 14 = .ok (.ireturn, 1) := by decide +kernel
theorem xd106_15 : decode (mj_b 106) 15 = .ok (.iconst 0, 1) := by decide +kernel
theorem xd106_16 : decode (mj_b 106) 16 = .ok (.ireturn, 1) := by decide +kernel
theorem x106_0 {x1 : Int32} : wp Ln xs 106 0 [.ref 1, .int x1, .ref 81, mj_hole] [] (u, ml_h m lm) Φ = wp Ln xs 107 0 [.ref 1, .int x1, mj_hole] [] (u, ml_h m lm) (mk Ln xs 106 4 [.ref 1, .int x1, .ref 81, mj_hole] [.int (nI 0), .ref 81] Φ) := (wp_same xd106_0 (Or.inr rfl) rfl).trans ((wp_same (S' := [.int (nI 0), .ref 81]) xd106_1 (Or.inr rfl) rfl).trans ((wp_same xd106_2 (Or.inr rfl) rfl).trans ((wp_same xd106_3 (Or.inr rfl) rfl).trans (wm_cv (As := [.int x1]) (rest := [.int (nI 0), .ref 81]) xd106_4 rfl rfl (show ml_L[1]? = _ from rfl) (Nat.le_of_ble_eq_true rfl) (Nat.le_of_ble_eq_true rfl) (Nat.le_of_ble_eq_true rfl) (Nat.le_of_ble_eq_true rfl)))))
theorem x106_7 {x1 : Int32} {xs0 : Int32} {xs1 : Int32} : wp Ln xs 106 7 [.ref 1, .int x1, .ref 81, mj_hole] [.int xs0, .int xs1, .ref 81] (u, ml_h m lm) Φ = wp Ln xs 106 8 [.ref 1, .int x1, .ref 81, mj_hole] [.long xs0.toInt64, .int xs1, .ref 81] (u, ml_h m lm) Φ := wp_same xd106_7 (Or.inr rfl) rfl
theorem x106_8 {x1 : Int32} {ys0 : Int64} {k : Nat} (hk : k < 1) : wp Ln xs 106 8 [.ref 1, .int x1, .ref 81, mj_hole] [.long ys0, .int (nI k), .ref 81] (u, ml_h m lm) Φ = wp Ln xs 106 15 [.ref 1, .int x1, .ref 81, mj_hole] [] (u, ml_h m (ml_sj lm 81 k ys0)) Φ := (wm_last (k := k) xd106_8 rfl hk (by decide)).trans (wx_goto xd106_9 rfl)
theorem x106_13 {x1 : Int32} : wp Ln xs 106 13 [.ref 1, .int x1, .ref 81, mj_hole] [] (u, ml_h m lm) Φ = Φ (.inl (some (.int (nI 1)))) (u, ml_h m lm) := (wp_same (S' := [.int (nI 1)]) xd106_13 (Or.inr rfl) rfl).trans (wp_fin (v := some (.int (nI 1))) xd106_14 (Or.inr rfl) rfl (mj_fin_i rfl))
theorem x106_15 {x1 : Int32} : wp Ln xs 106 15 [.ref 1, .int x1, .ref 81, mj_hole] [] (u, ml_h m lm) Φ = Φ (.inl (some (.int (nI 0)))) (u, ml_h m lm) := (wp_same (S' := [.int (nI 0)]) xd106_15 (Or.inr rfl) rfl).trans (wp_fin (v := some (.int (nI 0))) xd106_16 (Or.inr rfl) rfl (mj_fin_i rfl))
/- PickedForms.drop -/
theorem xd107_0 : decode (mj_b 107) 0 = .ok (.aload_n 0, 1) := by decide +kernel
theorem xd107_1 : decode (mj_b 107) 1 = .ok (.getfield 12, 3) := by decide +kernel
theorem xd107_4 : decode (mj_b 107) 4 = .ok (.iload_n 1, 1) := by decide +kernel
theorem xd107_5 : decode (mj_b 107) 5 = .ok (.invokevirtual 154, 3) := by decide +kernel
theorem xd107_8 : decode (mj_b 107) 8 = .ok (.ifCond .ne 13, 3) := by decide +kernel
theorem xd107_11 : decode (mj_b 107) 11 = .ok (.new 130, 3) := by decide +kernel
theorem xd107_21 : decode (mj_b 107) 21 = .ok (.aload_n 0, 1) := by decide +kernel
theorem xd107_22 : decode (mj_b 107) 22 = .ok (.getfield 26, 3) := by decide +kernel
theorem xd107_25 : decode (mj_b 107) 25 = .ok (.aload_n 0, 1) := by decide +kernel
theorem xd107_26 : decode (mj_b 107) 26 = .ok (.getfield 12, 3) := by decide +kernel
theorem xd107_29 : decode (mj_b 107) 29 = .ok (.invokevirtual 96, 3) := by decide +kernel
theorem xd107_32 : decode (mj_b 107) 32 = .ok (.aload_n 0, 1) := by decide +kernel
theorem xd107_33 : decode (mj_b 107) 33 = .ok (.getfield 12, 3) := by decide +kernel
theorem xd107_36 : decode (mj_b 107) 36 = .ok (.iload_n 1, 1) := by decide +kernel
theorem xd107_37 : decode (mj_b 107) 37 = .ok (.invokevirtual 164, 3) := by decide +kernel
theorem xd107_40 : decode (mj_b 107) 40 = .ok (.istore_n 2, 1) := by decide +kernel
theorem xd107_41 : decode (mj_b 107) 41 = .ok (.aload_n 0, 1) := by decide +kernel
theorem xd107_42 : decode (mj_b 107) 42 = .ok (.getfield 12, 3) := by decide +kernel
theorem xd107_45 : decode (mj_b 107) 45 = .ok (.aload_n 0, 1) := by decide +kernel
theorem xd107_46 : decode (mj_b 107) 46 = .ok (.getfield 12, 3) := by decide +kernel
theorem xd107_49 : decode (mj_b 107) 49 = .ok (.iload_n 1, 1) := by decide +kernel
theorem xd107_50 : decode (mj_b 107) 50 = .ok (.invokevirtual 182, 3) := by decide +kernel
theorem xd107_53 : decode (mj_b 107) 53 = .ok (.iload_n 2, 1) := by decide +kernel
theorem xd107_54 : decode (mj_b 107) 54 = .ok (.invokevirtual 185, 3) := by decide +kernel
theorem xd107_57 : decode (mj_b 107) 57 = .ok (.aload_n 0, 1) := by decide +kernel
theorem xd107_58 : decode (mj_b 107) 58 = .ok (.getfield 12, 3) := by decide +kernel
theorem xd107_61 : decode (mj_b 107) 61 = .ok (.iload_n 1, 1) := by decide +kernel
theorem xd107_62 : decode (mj_b 107) 62 = .ok (.invokevirtual 169, 3) := by decide +kernel
theorem xd107_65 : decode (mj_b 107) 65 = .ok (.iload_n 2, 1) := by decide +kernel
theorem xd107_66 : decode (mj_b 107) 66 = .ok (.ireturn, 1) := by decide +kernel
theorem x107_0 {x1 : Int32} : wp Ln xs 107 0 [.ref 1, .int x1, mj_hole] [] (u, ml_h m lm) Φ = wp Ln xs 98 0 [.ref 2, .int x1] [] (u, ml_h m lm) (mk Ln xs 107 5 [.ref 1, .int x1, mj_hole] [] Φ) := (wp_same xd107_0 (Or.inr rfl) rfl).trans ((wm_getr xd107_1 rfl (show ml_L[1]? = _ from rfl) rfl (Nat.le_of_ble_eq_true rfl)).trans ((wp_same xd107_4 (Or.inr rfl) rfl).trans (wm_cv (As := [.int x1]) (rest := []) xd107_5 rfl rfl (show ml_L[2]? = _ from rfl) (Nat.le_of_ble_eq_true rfl) (Nat.le_of_ble_eq_true rfl) (Nat.le_of_ble_eq_true rfl) (Nat.le_of_ble_eq_true rfl))))
theorem x107_8 {x1 : Int32} {xs0 : Int32} : wp Ln xs 107 8 [.ref 1, .int x1, mj_hole] [.int xs0] (u, ml_h m lm) Φ = if ¬ xs0 = (nI 0) then wp Ln xs 107 21 [.ref 1, .int x1, mj_hole] [] (u, ml_h m lm) Φ else wp Ln xs 107 11 [.ref 1, .int x1, mj_hole] [] (u, ml_h m lm) Φ := wx_if xd107_8 rfl rfl (¬ xs0 = (nI 0)) mb_ne
theorem x107_11 {x1 : Int32} : wp Ln xs 107 11 [.ref 1, .int x1, mj_hole] [] (u, ml_h m lm) Φ = Φ (.inr 2) ((u.1, u.2.1 + 1, u.2.2 + 6), ml_h m lm) := wp_thr xd107_11 (Or.inr rfl) rfl rfl (E := 2) (by decide +kernel)
theorem x107_21 {x1 : Int32} : wp Ln xs 107 21 [.ref 1, .int x1, mj_hole] [] (u, ml_h m lm) Φ = wp Ln xs 85 0 [.ref 14, .ref 2, mj_hole] [] (u, ml_h m lm) (mk Ln xs 107 29 [.ref 1, .int x1, mj_hole] [] Φ) := (wp_same xd107_21 (Or.inr rfl) rfl).trans ((wm_getr xd107_22 rfl (show ml_L[1]? = _ from rfl) rfl (Nat.le_of_ble_eq_true rfl)).trans ((wp_same xd107_25 (Or.inr rfl) rfl).trans ((wm_getr xd107_26 rfl (show ml_L[1]? = _ from rfl) rfl (Nat.le_of_ble_eq_true rfl)).trans (wm_cv (As := [.ref 2]) (rest := []) xd107_29 rfl rfl (show ml_L[14]? = _ from rfl) (Nat.le_of_ble_eq_true rfl) (Nat.le_of_ble_eq_true rfl) (Nat.le_of_ble_eq_true rfl) (Nat.le_of_ble_eq_true rfl)))))
theorem x107_32 {x1 : Int32} : wp Ln xs 107 32 [.ref 1, .int x1, mj_hole] [] (u, ml_h m lm) Φ = wp Ln xs 30 0 [.ref 2, .int x1] [] (u, ml_h m lm) (mk Ln xs 107 37 [.ref 1, .int x1, mj_hole] [] Φ) := (wp_same xd107_32 (Or.inr rfl) rfl).trans ((wm_getr xd107_33 rfl (show ml_L[1]? = _ from rfl) rfl (Nat.le_of_ble_eq_true rfl)).trans ((wp_same xd107_36 (Or.inr rfl) rfl).trans (wm_cv (As := [.int x1]) (rest := []) xd107_37 rfl rfl (show ml_L[2]? = _ from rfl) (Nat.le_of_ble_eq_true rfl) (Nat.le_of_ble_eq_true rfl) (Nat.le_of_ble_eq_true rfl) (Nat.le_of_ble_eq_true rfl))))
theorem x107_40 {x1 : Int32} {xs0 : Int32} : wp Ln xs 107 40 [.ref 1, .int x1, mj_hole] [.int xs0] (u, ml_h m lm) Φ = wp Ln xs 24 0 [.ref 2, .int x1, mj_hole, mj_hole] [] (u, ml_h m lm) (mk Ln xs 107 50 [.ref 1, .int x1, .int xs0] [.ref 2] Φ) := (wp_same (L' := [.ref 1, .int x1, .int xs0]) xd107_40 (Or.inr rfl) rfl).trans ((wp_same xd107_41 (Or.inr rfl) rfl).trans ((wm_getr xd107_42 rfl (show ml_L[1]? = _ from rfl) rfl (Nat.le_of_ble_eq_true rfl)).trans ((wp_same xd107_45 (Or.inr rfl) rfl).trans ((wm_getr xd107_46 rfl (show ml_L[1]? = _ from rfl) rfl (Nat.le_of_ble_eq_true rfl)).trans ((wp_same xd107_49 (Or.inr rfl) rfl).trans (wm_cv (As := [.int x1]) (rest := [.ref 2]) xd107_50 rfl rfl (show ml_L[2]? = _ from rfl) (Nat.le_of_ble_eq_true rfl) (Nat.le_of_ble_eq_true rfl) (Nat.le_of_ble_eq_true rfl) (Nat.le_of_ble_eq_true rfl)))))))
theorem x107_53 {x1 : Int32} {x2 : Int32} {xs0 : Int32} : wp Ln xs 107 53 [.ref 1, .int x1, .int x2] [.int xs0, .ref 2] (u, ml_h m lm) Φ = wp Ln xs 108 0 [.ref 2, .int xs0, .int x2, mj_hole] [] (u, ml_h m lm) (mk Ln xs 107 54 [.ref 1, .int x1, .int x2] [] Φ) := (wp_same xd107_53 (Or.inr rfl) rfl).trans (wm_cv (As := [.int xs0, .int x2]) (rest := []) xd107_54 rfl rfl (show ml_L[2]? = _ from rfl) (Nat.le_of_ble_eq_true rfl) (Nat.le_of_ble_eq_true rfl) (Nat.le_of_ble_eq_true rfl) (Nat.le_of_ble_eq_true rfl))
theorem x107_57 {x1 : Int32} {x2 : Int32} : wp Ln xs 107 57 [.ref 1, .int x1, .int x2] [] (u, ml_h m lm) Φ = wp Ln xs 101 0 [.ref 2, .int x1, mj_hole] [] (u, ml_h m lm) (mk Ln xs 107 62 [.ref 1, .int x1, .int x2] [] Φ) := (wp_same xd107_57 (Or.inr rfl) rfl).trans ((wm_getr xd107_58 rfl (show ml_L[1]? = _ from rfl) rfl (Nat.le_of_ble_eq_true rfl)).trans ((wp_same xd107_61 (Or.inr rfl) rfl).trans (wm_cv (As := [.int x1]) (rest := []) xd107_62 rfl rfl (show ml_L[2]? = _ from rfl) (Nat.le_of_ble_eq_true rfl) (Nat.le_of_ble_eq_true rfl) (Nat.le_of_ble_eq_true rfl) (Nat.le_of_ble_eq_true rfl))))
theorem x107_65 {x1 : Int32} {x2 : Int32} : wp Ln xs 107 65 [.ref 1, .int x1, .int x2] [] (u, ml_h m lm) Φ = Φ (.inl (some (.int x2))) (u, ml_h m lm) := (wp_same xd107_65 (Or.inr rfl) rfl).trans (wp_fin (v := some (.int x2)) xd107_66 (Or.inr rfl) rfl (mj_fin_i rfl))
/- PickedForms$Column.removeValues -/
theorem xd108_0 : decode (mj_b 108) 0 = .ok (.iload_n 1, 1) := by decide +kernel
theorem xd108_1 : decode (mj_b 108) 1 = .ok (.istore_n 3, 1) := by decide +kernel
theorem xd108_2 : decode (mj_b 108) 2 = .ok (.iload_n 3, 1) := by decide +kernel
theorem xd108_3 : decode (mj_b 108) 3 = .ok (.iload_n 2, 1) := by decide +kernel
theorem xd108_4 : decode (mj_b 108) 4 = .ok (.iadd, 1) := by decide +kernel
theorem xd108_5 : decode (mj_b 108) 5 = .ok (.aload_n 0, 1) := by decide +kernel
theorem xd108_6 : decode (mj_b 108) 6 = .ok (.getfield 27, 3) := by decide +kernel
theorem xd108_9 : decode (mj_b 108) 9 = .ok (.if_icmp .ge 27, 3) := by decide +kernel
theorem xd108_12 : decode (mj_b 108) 12 = .ok (.aload_n 0, 1) := by decide +kernel
theorem xd108_13 : decode (mj_b 108) 13 = .ok (.getfield 9, 3) := by decide +kernel
theorem xd108_16 : decode (mj_b 108) 16 = .ok (.iload_n 3, 1) := by decide +kernel
theorem xd108_17 : decode (mj_b 108) 17 = .ok (.aload_n 0, 1) := by decide +kernel
theorem xd108_18 : decode (mj_b 108) 18 = .ok (.getfield 9, 3) := by decide +kernel
theorem xd108_21 : decode (mj_b 108) 21 = .ok (.iload_n 3, 1) := by decide +kernel
theorem xd108_22 : decode (mj_b 108) 22 = .ok (.iload_n 2, 1) := by decide +kernel
theorem xd108_23 : decode (mj_b 108) 23 = .ok (.iadd, 1) := by decide +kernel
theorem xd108_24 : decode (mj_b 108) 24 = .ok (.invokestatic 46, 3) := by decide +kernel
theorem xd108_27 : decode (mj_b 108) 27 = .ok (.invokestatic 61, 3) := by decide +kernel
theorem xd108_30 : decode (mj_b 108) 30 = .ok (.iinc 3 1, 3) := by decide +kernel
theorem xd108_33 : decode (mj_b 108) 33 = .ok (.goto (-31), 3) := by decide +kernel
theorem xd108_36 : decode (mj_b 108) 36 = .ok (.aload_n 0, 1) := by decide +kernel
theorem xd108_37 : decode (mj_b 108) 37 = .ok (.dup, 1) := by decide +kernel
theorem xd108_38 : decode (mj_b 108) 38 = .ok (.getfield 27, 3) := by decide +kernel
theorem xd108_41 : decode (mj_b 108) 41 = .ok (.iload_n 2, 1) := by decide +kernel
theorem xd108_42 : decode (mj_b 108) 42 = .ok (.isub, 1) := by decide +kernel
theorem xd108_43 : decode (mj_b 108) 43 = .ok (.putfield 27, 3) := by decide +kernel
theorem xd108_46 : decode (mj_b 108) 46 = .ok (.return_, 1) := by decide +kernel
theorem x108_0 {x1 : Int32} {x2 : Int32} : wp Ln xs 108 0 [.ref 2, .int x1, .int x2, mj_hole] [] (u, ml_h m lm) Φ = wp Ln xs 108 2 [.ref 2, .int x1, .int x2, .int x1] [] (u, ml_h m lm) Φ := (wp_same xd108_0 (Or.inr rfl) rfl).trans (wp_same (L' := [.ref 2, .int x1, .int x2, .int x1]) xd108_1 (Or.inr rfl) rfl)
theorem x108_2 {x1 : Int32} {x2 : Int32} {x3 : Int32} : wp Ln xs 108 2 [.ref 2, .int x1, .int x2, .int x3] [] (u, ml_h m lm) Φ = if (m 2 5) ≤ (x3 + x2) then wp Ln xs 108 36 [.ref 2, .int x1, .int x2, .int x3] [] (u, ml_h m lm) Φ else wp Ln xs 108 12 [.ref 2, .int x1, .int x2, .int x3] [] (u, ml_h m lm) Φ := (wp_same xd108_2 (Or.inr rfl) rfl).trans ((wp_same xd108_3 (Or.inr rfl) rfl).trans ((wp_same xd108_4 (Or.inr rfl) rfl).trans ((wp_same xd108_5 (Or.inr rfl) rfl).trans ((wm_geti xd108_6 rfl (show ml_L[2]? = _ from rfl) rfl (Nat.le_of_ble_eq_true rfl)).trans (wx_icmp xd108_9 rfl rfl ((m 2 5) ≤ (x3 + x2)) mb_ge)))))
theorem x108_12 {x1 : Int32} {x2 : Int32} {x3 : Int32} : wp Ln xs 108 12 [.ref 2, .int x1, .int x2, .int x3] [] (u, ml_h m lm) Φ = wp Ln xs 13 0 [.ref 3, .int (x3 + x2)] [] (u, ml_h m lm) (mk Ln xs 108 24 [.ref 2, .int x1, .int x2, .int x3] [.int x3, .ref 3] Φ) := (wp_same xd108_12 (Or.inr rfl) rfl).trans ((wm_getr xd108_13 rfl (show ml_L[2]? = _ from rfl) rfl (Nat.le_of_ble_eq_true rfl)).trans ((wp_same xd108_16 (Or.inr rfl) rfl).trans ((wp_same xd108_17 (Or.inr rfl) rfl).trans ((wm_getr xd108_18 rfl (show ml_L[2]? = _ from rfl) rfl (Nat.le_of_ble_eq_true rfl)).trans ((wp_same xd108_21 (Or.inr rfl) rfl).trans ((wp_same xd108_22 (Or.inr rfl) rfl).trans ((wp_same xd108_23 (Or.inr rfl) rfl).trans (wm_cs (As := [.ref 3, .int (x3 + x2)]) (rest := [.int x3, .ref 3]) xd108_24 rfl rfl (Nat.le_of_ble_eq_true rfl) (Nat.le_of_ble_eq_true rfl) (Nat.le_of_ble_eq_true rfl) (Nat.le_of_ble_eq_true rfl)))))))))
theorem x108_27 {x1 : Int32} {x2 : Int32} {x3 : Int32} {xs0 : Int32} {xs1 : Int32} : wp Ln xs 108 27 [.ref 2, .int x1, .int x2, .int x3] [.int xs0, .int xs1, .ref 3] (u, ml_h m lm) Φ = wp Ln xs 55 0 [.ref 3, .int xs1, .int xs0] [] (u, ml_h m lm) (mk Ln xs 108 27 [.ref 2, .int x1, .int x2, .int x3] [] Φ) := wm_cs (As := [.ref 3, .int xs1, .int xs0]) (rest := []) xd108_27 rfl rfl (Nat.le_of_ble_eq_true rfl) (Nat.le_of_ble_eq_true rfl) (Nat.le_of_ble_eq_true rfl) (Nat.le_of_ble_eq_true rfl)
theorem x108_30 {x1 : Int32} {x2 : Int32} {x3 : Int32} : wp Ln xs 108 30 [.ref 2, .int x1, .int x2, .int x3] [] (u, ml_h m lm) Φ = wp Ln xs 108 2 [.ref 2, .int x1, .int x2, .int (x3 + nI 1)] [] (u, ml_h m lm) Φ := (wp_same (L' := [.ref 2, .int x1, .int x2, .int (x3 + nI 1)]) xd108_30 (Or.inr rfl) rfl).trans (wx_goto xd108_33 rfl)
theorem x108_36 {x1 : Int32} {x2 : Int32} {x3 : Int32} : wp Ln xs 108 36 [.ref 2, .int x1, .int x2, .int x3] [] (u, ml_h m lm) Φ = Φ (.inl none) (u, ml_h (ml_s m 2 5 ((m 2 5) - x2)) lm) := (wp_same xd108_36 (Or.inr rfl) rfl).trans ((wp_same xd108_37 (Or.inr rfl) rfl).trans ((wm_geti xd108_38 rfl (show ml_L[2]? = _ from rfl) rfl (Nat.le_of_ble_eq_true rfl)).trans ((wp_same xd108_41 (Or.inr rfl) rfl).trans ((wp_same xd108_42 (Or.inr rfl) rfl).trans ((wm_puti xd108_43 rfl (show ml_L[2]? = _ from rfl) rfl (Nat.le_of_ble_eq_true rfl) rfl rfl rfl).trans (wp_fin (v := none) xd108_46 (Or.inr rfl) rfl rfl))))))
/- PickedFormsLaw.set -/
theorem xd109_0 : decode (mj_b 109) 0 = .ok (.aload_n 3, 1) := by decide +kernel
theorem xd109_1 : decode (mj_b 109) 1 = .ok (.iconst 0, 1) := by decide +kernel
theorem xd109_2 : decode (mj_b 109) 2 = .ok (.aload_n 0, 1) := by decide +kernel
theorem xd109_3 : decode (mj_b 109) 3 = .ok (.iload_n 1, 1) := by decide +kernel
theorem xd109_4 : decode (mj_b 109) 4 = .ok (.iload_n 2, 1) := by decide +kernel
theorem xd109_5 : decode (mj_b 109) 5 = .ok (.invokevirtual 39, 3) := by decide +kernel
theorem xd109_8 : decode (mj_b 109) 8 = .ok (.i2l, 1) := by decide +kernel
theorem xd109_9 : decode (mj_b 109) 9 = .ok (.lastore, 1) := by decide +kernel
theorem xd109_10 : decode (mj_b 109) 10 = .ok (.goto 11, 3) := by decide +kernel
theorem xd109_15 : decode (mj_b 109) 15 = .ok (.iconst 1, 1) := by decide +kernel
theorem xd109_16 : decode (mj_b 109) 16 = .ok (.ireturn, 1) := by decide +kernel
theorem xd109_19 : decode (mj_b 109) 19 = .ok (.iconst 2, 1) := by decide +kernel
theorem xd109_20 : decode (mj_b 109) 20 = .ok (.ireturn, 1) := by decide +kernel
theorem xd109_21 : decode (mj_b 109) 21 = .ok (.iconst 0, 1) := by decide +kernel
theorem xd109_22 : decode (mj_b 109) 22 = .ok (.ireturn, 1) := by decide +kernel
theorem x109_0 {x1 : Int32} {x2 : Int32} : wp Ln xs 109 0 [.ref 1, .int x1, .int x2, .ref 81, mj_hole] [] (u, ml_h m lm) Φ = wp Ln xs 110 0 [.ref 1, .int x1, .int x2, mj_hole] [] (u, ml_h m lm) (mk Ln xs 109 5 [.ref 1, .int x1, .int x2, .ref 81, mj_hole] [.int (nI 0), .ref 81] Φ) := (wp_same xd109_0 (Or.inr rfl) rfl).trans ((wp_same (S' := [.int (nI 0), .ref 81]) xd109_1 (Or.inr rfl) rfl).trans ((wp_same xd109_2 (Or.inr rfl) rfl).trans ((wp_same xd109_3 (Or.inr rfl) rfl).trans ((wp_same xd109_4 (Or.inr rfl) rfl).trans (wm_cv (As := [.int x1, .int x2]) (rest := [.int (nI 0), .ref 81]) xd109_5 rfl rfl (show ml_L[1]? = _ from rfl) (Nat.le_of_ble_eq_true rfl) (Nat.le_of_ble_eq_true rfl) (Nat.le_of_ble_eq_true rfl) (Nat.le_of_ble_eq_true rfl))))))
theorem x109_8 {x1 : Int32} {x2 : Int32} {xs0 : Int32} {xs1 : Int32} : wp Ln xs 109 8 [.ref 1, .int x1, .int x2, .ref 81, mj_hole] [.int xs0, .int xs1, .ref 81] (u, ml_h m lm) Φ = wp Ln xs 109 9 [.ref 1, .int x1, .int x2, .ref 81, mj_hole] [.long xs0.toInt64, .int xs1, .ref 81] (u, ml_h m lm) Φ := wp_same xd109_8 (Or.inr rfl) rfl
theorem x109_9 {x1 : Int32} {x2 : Int32} {ys0 : Int64} {k : Nat} (hk : k < 1) : wp Ln xs 109 9 [.ref 1, .int x1, .int x2, .ref 81, mj_hole] [.long ys0, .int (nI k), .ref 81] (u, ml_h m lm) Φ = wp Ln xs 109 21 [.ref 1, .int x1, .int x2, .ref 81, mj_hole] [] (u, ml_h m (ml_sj lm 81 k ys0)) Φ := (wm_last (k := k) xd109_9 rfl hk (by decide)).trans (wx_goto xd109_10 rfl)
theorem x109_15 {x1 : Int32} {x2 : Int32} : wp Ln xs 109 15 [.ref 1, .int x1, .int x2, .ref 81, mj_hole] [] (u, ml_h m lm) Φ = Φ (.inl (some (.int (nI 1)))) (u, ml_h m lm) := (wp_same (S' := [.int (nI 1)]) xd109_15 (Or.inr rfl) rfl).trans (wp_fin (v := some (.int (nI 1))) xd109_16 (Or.inr rfl) rfl (mj_fin_i rfl))
theorem x109_19 {x1 : Int32} {x2 : Int32} : wp Ln xs 109 19 [.ref 1, .int x1, .int x2, .ref 81, mj_hole] [] (u, ml_h m lm) Φ = Φ (.inl (some (.int (nI 2)))) (u, ml_h m lm) := (wp_same (S' := [.int (nI 2)]) xd109_19 (Or.inr rfl) rfl).trans (wp_fin (v := some (.int (nI 2))) xd109_20 (Or.inr rfl) rfl (mj_fin_i rfl))
theorem x109_21 {x1 : Int32} {x2 : Int32} : wp Ln xs 109 21 [.ref 1, .int x1, .int x2, .ref 81, mj_hole] [] (u, ml_h m lm) Φ = Φ (.inl (some (.int (nI 0)))) (u, ml_h m lm) := (wp_same (S' := [.int (nI 0)]) xd109_21 (Or.inr rfl) rfl).trans (wp_fin (v := some (.int (nI 0))) xd109_22 (Or.inr rfl) rfl (mj_fin_i rfl))
/- PickedForms.set -/
theorem xd110_0 : decode (mj_b 110) 0 = .ok (.iload_n 1, 1) := by decide +kernel
theorem xd110_1 : decode (mj_b 110) 1 = .ok (.invokestatic 189, 3) := by decide +kernel
theorem xd110_4 : decode (mj_b 110) 4 = .ok (.ifCond .ne 13, 3) := by decide +kernel
theorem xd110_7 : decode (mj_b 110) 7 = .ok (.new 130, 3) := by decide +kernel
theorem xd110_17 : decode (mj_b 110) 17 = .ok (.iload_n 1, 1) := by decide +kernel
theorem xd110_18 : decode (mj_b 110) 18 = .ok (.iload_n 2, 1) := by decide +kernel
theorem xd110_19 : decode (mj_b 110) 19 = .ok (.invokestatic 194, 3) := by decide +kernel
theorem xd110_22 : decode (mj_b 110) 22 = .ok (.ifCond .ne 13, 3) := by decide +kernel
theorem xd110_25 : decode (mj_b 110) 25 = .ok (.new 80, 3) := by decide +kernel
theorem xd110_35 : decode (mj_b 110) 35 = .ok (.aload_n 0, 1) := by decide +kernel
theorem xd110_36 : decode (mj_b 110) 36 = .ok (.getfield 26, 3) := by decide +kernel
theorem xd110_39 : decode (mj_b 110) 39 = .ok (.aload_n 0, 1) := by decide +kernel
theorem xd110_40 : decode (mj_b 110) 40 = .ok (.getfield 12, 3) := by decide +kernel
theorem xd110_43 : decode (mj_b 110) 43 = .ok (.invokevirtual 96, 3) := by decide +kernel
theorem xd110_46 : decode (mj_b 110) 46 = .ok (.aload_n 0, 1) := by decide +kernel
theorem xd110_47 : decode (mj_b 110) 47 = .ok (.getfield 12, 3) := by decide +kernel
theorem xd110_50 : decode (mj_b 110) 50 = .ok (.iload_n 1, 1) := by decide +kernel
theorem xd110_51 : decode (mj_b 110) 51 = .ok (.invokevirtual 200, 3) := by decide +kernel
theorem xd110_54 : decode (mj_b 110) 54 = .ok (.istore_n 3, 1) := by decide +kernel
theorem xd110_55 : decode (mj_b 110) 55 = .ok (.aload_n 0, 1) := by decide +kernel
theorem xd110_56 : decode (mj_b 110) 56 = .ok (.getfield 12, 3) := by decide +kernel
theorem xd110_59 : decode (mj_b 110) 59 = .ok (.getfield 203, 3) := by decide +kernel
theorem xd110_62 : decode (mj_b 110) 62 = .ok (.iload_n 1, 1) := by decide +kernel
theorem xd110_63 : decode (mj_b 110) 63 = .ok (.iload_n 2, 1) := by decide +kernel
theorem xd110_64 : decode (mj_b 110) 64 = .ok (.invokestatic 142, 3) := by decide +kernel
theorem xd110_67 : decode (mj_b 110) 67 = .ok (.iload_n 3, 1) := by decide +kernel
theorem xd110_68 : decode (mj_b 110) 68 = .ok (.ireturn, 1) := by decide +kernel
theorem x110_0 {x1 : Int32} {x2 : Int32} : wp Ln xs 110 0 [.ref 1, .int x1, .int x2, mj_hole] [] (u, ml_h m lm) Φ = wp Ln xs 111 0 [.int x1] [] (u, ml_h m lm) (mk Ln xs 110 1 [.ref 1, .int x1, .int x2, mj_hole] [] Φ) := (wp_same xd110_0 (Or.inr rfl) rfl).trans (wm_cs (As := [.int x1]) (rest := []) xd110_1 rfl rfl (Nat.le_of_ble_eq_true rfl) (Nat.le_of_ble_eq_true rfl) (Nat.le_of_ble_eq_true rfl) (Nat.le_of_ble_eq_true rfl))
theorem x110_4 {x1 : Int32} {x2 : Int32} {xs0 : Int32} : wp Ln xs 110 4 [.ref 1, .int x1, .int x2, mj_hole] [.int xs0] (u, ml_h m lm) Φ = if ¬ xs0 = (nI 0) then wp Ln xs 110 17 [.ref 1, .int x1, .int x2, mj_hole] [] (u, ml_h m lm) Φ else wp Ln xs 110 7 [.ref 1, .int x1, .int x2, mj_hole] [] (u, ml_h m lm) Φ := wx_if xd110_4 rfl rfl (¬ xs0 = (nI 0)) mb_ne
theorem x110_7 {x1 : Int32} {x2 : Int32} : wp Ln xs 110 7 [.ref 1, .int x1, .int x2, mj_hole] [] (u, ml_h m lm) Φ = Φ (.inr 2) ((u.1, u.2.1 + 1, u.2.2 + 6), ml_h m lm) := wp_thr xd110_7 (Or.inr rfl) rfl rfl (E := 2) (by decide +kernel)
theorem x110_17 {x1 : Int32} {x2 : Int32} : wp Ln xs 110 17 [.ref 1, .int x1, .int x2, mj_hole] [] (u, ml_h m lm) Φ = wp Ln xs 112 0 [.int x1, .int x2] [] (u, ml_h m lm) (mk Ln xs 110 19 [.ref 1, .int x1, .int x2, mj_hole] [] Φ) := (wp_same xd110_17 (Or.inr rfl) rfl).trans ((wp_same xd110_18 (Or.inr rfl) rfl).trans (wm_cs (As := [.int x1, .int x2]) (rest := []) xd110_19 rfl rfl (Nat.le_of_ble_eq_true rfl) (Nat.le_of_ble_eq_true rfl) (Nat.le_of_ble_eq_true rfl) (Nat.le_of_ble_eq_true rfl)))
theorem x110_22 {x1 : Int32} {x2 : Int32} {xs0 : Int32} : wp Ln xs 110 22 [.ref 1, .int x1, .int x2, mj_hole] [.int xs0] (u, ml_h m lm) Φ = if ¬ xs0 = (nI 0) then wp Ln xs 110 35 [.ref 1, .int x1, .int x2, mj_hole] [] (u, ml_h m lm) Φ else wp Ln xs 110 25 [.ref 1, .int x1, .int x2, mj_hole] [] (u, ml_h m lm) Φ := wx_if xd110_22 rfl rfl (¬ xs0 = (nI 0)) mb_ne
theorem x110_25 {x1 : Int32} {x2 : Int32} : wp Ln xs 110 25 [.ref 1, .int x1, .int x2, mj_hole] [] (u, ml_h m lm) Φ = Φ (.inr 0) ((u.1, u.2.1 + 1, u.2.2 + 6), ml_h m lm) := wp_thr xd110_25 (Or.inr rfl) rfl rfl (E := 0) (by decide +kernel)
theorem x110_35 {x1 : Int32} {x2 : Int32} : wp Ln xs 110 35 [.ref 1, .int x1, .int x2, mj_hole] [] (u, ml_h m lm) Φ = wp Ln xs 85 0 [.ref 14, .ref 2, mj_hole] [] (u, ml_h m lm) (mk Ln xs 110 43 [.ref 1, .int x1, .int x2, mj_hole] [] Φ) := (wp_same xd110_35 (Or.inr rfl) rfl).trans ((wm_getr xd110_36 rfl (show ml_L[1]? = _ from rfl) rfl (Nat.le_of_ble_eq_true rfl)).trans ((wp_same xd110_39 (Or.inr rfl) rfl).trans ((wm_getr xd110_40 rfl (show ml_L[1]? = _ from rfl) rfl (Nat.le_of_ble_eq_true rfl)).trans (wm_cv (As := [.ref 2]) (rest := []) xd110_43 rfl rfl (show ml_L[14]? = _ from rfl) (Nat.le_of_ble_eq_true rfl) (Nat.le_of_ble_eq_true rfl) (Nat.le_of_ble_eq_true rfl) (Nat.le_of_ble_eq_true rfl)))))
theorem x110_46 {x1 : Int32} {x2 : Int32} : wp Ln xs 110 46 [.ref 1, .int x1, .int x2, mj_hole] [] (u, ml_h m lm) Φ = wp Ln xs 41 0 [.ref 2, .int x1] [] (u, ml_h m lm) (mk Ln xs 110 51 [.ref 1, .int x1, .int x2, mj_hole] [] Φ) := (wp_same xd110_46 (Or.inr rfl) rfl).trans ((wm_getr xd110_47 rfl (show ml_L[1]? = _ from rfl) rfl (Nat.le_of_ble_eq_true rfl)).trans ((wp_same xd110_50 (Or.inr rfl) rfl).trans (wm_cv (As := [.int x1]) (rest := []) xd110_51 rfl rfl (show ml_L[2]? = _ from rfl) (Nat.le_of_ble_eq_true rfl) (Nat.le_of_ble_eq_true rfl) (Nat.le_of_ble_eq_true rfl) (Nat.le_of_ble_eq_true rfl))))
theorem x110_54 {x1 : Int32} {x2 : Int32} {xs0 : Int32} : wp Ln xs 110 54 [.ref 1, .int x1, .int x2, mj_hole] [.int xs0] (u, ml_h m lm) Φ = wp Ln xs 55 0 [.ref 7, .int x1, .int x2] [] (u, ml_h m lm) (mk Ln xs 110 64 [.ref 1, .int x1, .int x2, .int xs0] [] Φ) := (wp_same (L' := [.ref 1, .int x1, .int x2, .int xs0]) xd110_54 (Or.inr rfl) rfl).trans ((wp_same xd110_55 (Or.inr rfl) rfl).trans ((wm_getr xd110_56 rfl (show ml_L[1]? = _ from rfl) rfl (Nat.le_of_ble_eq_true rfl)).trans ((wm_getr xd110_59 rfl (show ml_L[2]? = _ from rfl) rfl (Nat.le_of_ble_eq_true rfl)).trans ((wp_same xd110_62 (Or.inr rfl) rfl).trans ((wp_same xd110_63 (Or.inr rfl) rfl).trans (wm_cs (As := [.ref 7, .int x1, .int x2]) (rest := []) xd110_64 rfl rfl (Nat.le_of_ble_eq_true rfl) (Nat.le_of_ble_eq_true rfl) (Nat.le_of_ble_eq_true rfl) (Nat.le_of_ble_eq_true rfl)))))))
theorem x110_67 {x1 : Int32} {x2 : Int32} {x3 : Int32} : wp Ln xs 110 67 [.ref 1, .int x1, .int x2, .int x3] [] (u, ml_h m lm) Φ = Φ (.inl (some (.int x3))) (u, ml_h m lm) := (wp_same xd110_67 (Or.inr rfl) rfl).trans (wp_fin (v := some (.int x3)) xd110_68 (Or.inr rfl) rfl (mj_fin_i rfl))
/- PickedForms.isSetting -/
theorem xd111_0 : decode (mj_b 111) 0 = .ok (.iload_n 0, 1) := by decide +kernel
theorem xd111_1 : decode (mj_b 111) 1 = .ok (.ifCond .lt 12, 3) := by decide +kernel
theorem xd111_4 : decode (mj_b 111) 4 = .ok (.iload_n 0, 1) := by decide +kernel
theorem xd111_5 : decode (mj_b 111) 5 = .ok (.iconst 3, 1) := by decide +kernel
theorem xd111_6 : decode (mj_b 111) 6 = .ok (.if_icmp .ge 7, 3) := by decide +kernel
theorem xd111_9 : decode (mj_b 111) 9 = .ok (.iconst 1, 1) := by decide +kernel
theorem xd111_10 : decode (mj_b 111) 10 = .ok (.goto 4, 3) := by decide +kernel
theorem xd111_13 : decode (mj_b 111) 13 = .ok (.iconst 0, 1) := by decide +kernel
theorem xd111_14 : decode (mj_b 111) 14 = .ok (.ireturn, 1) := by decide +kernel
theorem x111_0 {x0 : Int32} : wp Ln xs 111 0 [.int x0] [] (u, ml_h m lm) Φ = if x0 < (nI 0) then wp Ln xs 111 13 [.int x0] [] (u, ml_h m lm) Φ else wp Ln xs 111 4 [.int x0] [] (u, ml_h m lm) Φ := (wp_same xd111_0 (Or.inr rfl) rfl).trans (wx_if xd111_1 rfl rfl (x0 < (nI 0)) mb_lt)
theorem x111_4 {x0 : Int32} : wp Ln xs 111 4 [.int x0] [] (u, ml_h m lm) Φ = if (nI 3) ≤ x0 then wp Ln xs 111 13 [.int x0] [] (u, ml_h m lm) Φ else wp Ln xs 111 9 [.int x0] [] (u, ml_h m lm) Φ := (wp_same xd111_4 (Or.inr rfl) rfl).trans ((wp_same (S' := [.int (nI 3), .int x0]) xd111_5 (Or.inr rfl) rfl).trans (wx_icmp xd111_6 rfl rfl ((nI 3) ≤ x0) mb_ge))
theorem x111_9 {x0 : Int32} : wp Ln xs 111 9 [.int x0] [] (u, ml_h m lm) Φ = Φ (.inl (some (.int (nI 1)))) (u, ml_h m lm) := (wp_same (S' := [.int (nI 1)]) xd111_9 (Or.inr rfl) rfl).trans ((wx_goto xd111_10 rfl).trans (wp_fin (v := some (.int (nI 1))) xd111_14 (Or.inr rfl) rfl rfl))
theorem x111_13 {x0 : Int32} : wp Ln xs 111 13 [.int x0] [] (u, ml_h m lm) Φ = Φ (.inl (some (.int (nI 0)))) (u, ml_h m lm) := (wp_same (S' := [.int (nI 0)]) xd111_13 (Or.inr rfl) rfl).trans (wp_fin (v := some (.int (nI 0))) xd111_14 (Or.inr rfl) rfl rfl)
/- PickedForms.isSettingValue -/
theorem xd112_0 : decode (mj_b 112) 0 = .ok (.iload_n 0, 1) := by decide +kernel
theorem xd112_1 : decode (mj_b 112) 1 = .ok (.tableswitch 85 0 2 #[27, 44, 61], 27) := by decide +kernel
theorem xd112_28 : decode (mj_b 112) 28 = .ok (.iload_n 1, 1) := by decide +kernel
theorem xd112_29 : decode (mj_b 112) 29 = .ok (.iconst 1, 1) := by decide +kernel
theorem xd112_30 : decode (mj_b 112) 30 = .ok (.if_icmp .lt 13, 3) := by decide +kernel
theorem xd112_33 : decode (mj_b 112) 33 = .ok (.iload_n 1, 1) := by decide +kernel
theorem xd112_34 : decode (mj_b 112) 34 = .ok (.bipush 16, 2) := by decide +kernel
theorem xd112_36 : decode (mj_b 112) 36 = .ok (.if_icmp .gt 7, 3) := by decide +kernel
theorem xd112_39 : decode (mj_b 112) 39 = .ok (.iconst 1, 1) := by decide +kernel
theorem xd112_40 : decode (mj_b 112) 40 = .ok (.goto 4, 3) := by decide +kernel
theorem xd112_43 : decode (mj_b 112) 43 = .ok (.iconst 0, 1) := by decide +kernel
theorem xd112_44 : decode (mj_b 112) 44 = .ok (.ireturn, 1) := by decide +kernel
theorem xd112_45 : decode (mj_b 112) 45 = .ok (.iload_n 1, 1) := by decide +kernel
theorem xd112_46 : decode (mj_b 112) 46 = .ok (.iconst 2, 1) := by decide +kernel
theorem xd112_47 : decode (mj_b 112) 47 = .ok (.if_icmp .lt 13, 3) := by decide +kernel
theorem xd112_50 : decode (mj_b 112) 50 = .ok (.iload_n 1, 1) := by decide +kernel
theorem xd112_51 : decode (mj_b 112) 51 = .ok (.bipush 16, 2) := by decide +kernel
theorem xd112_53 : decode (mj_b 112) 53 = .ok (.if_icmp .gt 7, 3) := by decide +kernel
theorem xd112_56 : decode (mj_b 112) 56 = .ok (.iconst 1, 1) := by decide +kernel
theorem xd112_57 : decode (mj_b 112) 57 = .ok (.goto 4, 3) := by decide +kernel
theorem xd112_60 : decode (mj_b 112) 60 = .ok (.iconst 0, 1) := by decide +kernel
theorem xd112_61 : decode (mj_b 112) 61 = .ok (.ireturn, 1) := by decide +kernel
theorem xd112_62 : decode (mj_b 112) 62 = .ok (.iload_n 1, 1) := by decide +kernel
theorem xd112_63 : decode (mj_b 112) 63 = .ok (.iconst 1, 1) := by decide +kernel
theorem xd112_64 : decode (mj_b 112) 64 = .ok (.if_icmp .lt 20, 3) := by decide +kernel
theorem xd112_67 : decode (mj_b 112) 67 = .ok (.iload_n 1, 1) := by decide +kernel
theorem xd112_68 : decode (mj_b 112) 68 = .ok (.bipush 31, 2) := by decide +kernel
theorem xd112_70 : decode (mj_b 112) 70 = .ok (.if_icmp .gt 14, 3) := by decide +kernel
theorem xd112_73 : decode (mj_b 112) 73 = .ok (.iload_n 1, 1) := by decide +kernel
theorem xd112_74 : decode (mj_b 112) 74 = .ok (.iconst 1, 1) := by decide +kernel
theorem xd112_75 : decode (mj_b 112) 75 = .ok (.iand, 1) := by decide +kernel
theorem xd112_76 : decode (mj_b 112) 76 = .ok (.iconst 1, 1) := by decide +kernel
theorem xd112_77 : decode (mj_b 112) 77 = .ok (.if_icmp .ne 7, 3) := by decide +kernel
theorem xd112_80 : decode (mj_b 112) 80 = .ok (.iconst 1, 1) := by decide +kernel
theorem xd112_81 : decode (mj_b 112) 81 = .ok (.goto 4, 3) := by decide +kernel
theorem xd112_84 : decode (mj_b 112) 84 = .ok (.iconst 0, 1) := by decide +kernel
theorem xd112_85 : decode (mj_b 112) 85 = .ok (.ireturn, 1) := by decide +kernel
theorem xd112_86 : decode (mj_b 112) 86 = .ok (.iconst 0, 1) := by decide +kernel
theorem xd112_87 : decode (mj_b 112) 87 = .ok (.ireturn, 1) := by decide +kernel
theorem x112_0 {x0 : Int32} {x1 : Int32} : wp Ln xs 112 0 [.int x0, .int x1] [] (u, ml_h m lm) Φ = wp Ln xs 112 1 [.int x0, .int x1] [.int x0] (u, ml_h m lm) Φ := wp_same xd112_0 (Or.inr rfl) rfl
theorem x112_1_0 {x0 : Int32} {x1 : Int32} : wp Ln xs 112 1 [.int x0, .int x1] [.int (nI 0)] (u, ml_h m lm) Φ = wp Ln xs 112 28 [.int x0, .int x1] [] (u, ml_h m lm) Φ := wp_same xd112_1 (Or.inl rfl) rfl
theorem x112_1_1 {x0 : Int32} {x1 : Int32} : wp Ln xs 112 1 [.int x0, .int x1] [.int (nI 1)] (u, ml_h m lm) Φ = wp Ln xs 112 45 [.int x0, .int x1] [] (u, ml_h m lm) Φ := wp_same xd112_1 (Or.inl rfl) rfl
theorem x112_1_2 {x0 : Int32} {x1 : Int32} : wp Ln xs 112 1 [.int x0, .int x1] [.int (nI 2)] (u, ml_h m lm) Φ = wp Ln xs 112 62 [.int x0, .int x1] [] (u, ml_h m lm) Φ := wp_same xd112_1 (Or.inl rfl) rfl
theorem x112_1_3 {x0 : Int32} {x1 : Int32} : wp Ln xs 112 1 [.int x0, .int x1] [.int (nI 3)] (u, ml_h m lm) Φ = wp Ln xs 112 86 [.int x0, .int x1] [] (u, ml_h m lm) Φ := wp_same xd112_1 (Or.inl rfl) rfl
theorem x112_1_4 {x0 : Int32} {x1 : Int32} : wp Ln xs 112 1 [.int x0, .int x1] [.int (nI 4)] (u, ml_h m lm) Φ = wp Ln xs 112 86 [.int x0, .int x1] [] (u, ml_h m lm) Φ := wp_same xd112_1 (Or.inl rfl) rfl
theorem x112_1_5 {x0 : Int32} {x1 : Int32} : wp Ln xs 112 1 [.int x0, .int x1] [.int (nI 5)] (u, ml_h m lm) Φ = wp Ln xs 112 86 [.int x0, .int x1] [] (u, ml_h m lm) Φ := wp_same xd112_1 (Or.inl rfl) rfl
theorem x112_28 {x0 : Int32} {x1 : Int32} : wp Ln xs 112 28 [.int x0, .int x1] [] (u, ml_h m lm) Φ = if x1 < (nI 1) then wp Ln xs 112 43 [.int x0, .int x1] [] (u, ml_h m lm) Φ else wp Ln xs 112 33 [.int x0, .int x1] [] (u, ml_h m lm) Φ := (wp_same xd112_28 (Or.inr rfl) rfl).trans ((wp_same (S' := [.int (nI 1), .int x1]) xd112_29 (Or.inr rfl) rfl).trans (wx_icmp xd112_30 rfl rfl (x1 < (nI 1)) mb_lt))
theorem x112_33 {x0 : Int32} {x1 : Int32} : wp Ln xs 112 33 [.int x0, .int x1] [] (u, ml_h m lm) Φ = if (nI 16) < x1 then wp Ln xs 112 43 [.int x0, .int x1] [] (u, ml_h m lm) Φ else wp Ln xs 112 39 [.int x0, .int x1] [] (u, ml_h m lm) Φ := (wp_same xd112_33 (Or.inr rfl) rfl).trans ((wp_same (S' := [.int (nI 16), .int x1]) xd112_34 (Or.inr rfl) rfl).trans (wx_icmp xd112_36 rfl rfl ((nI 16) < x1) mb_gt))
theorem x112_39 {x0 : Int32} {x1 : Int32} : wp Ln xs 112 39 [.int x0, .int x1] [] (u, ml_h m lm) Φ = Φ (.inl (some (.int (nI 1)))) (u, ml_h m lm) := (wp_same (S' := [.int (nI 1)]) xd112_39 (Or.inr rfl) rfl).trans ((wx_goto xd112_40 rfl).trans (wp_fin (v := some (.int (nI 1))) xd112_44 (Or.inr rfl) rfl rfl))
theorem x112_43 {x0 : Int32} {x1 : Int32} : wp Ln xs 112 43 [.int x0, .int x1] [] (u, ml_h m lm) Φ = Φ (.inl (some (.int (nI 0)))) (u, ml_h m lm) := (wp_same (S' := [.int (nI 0)]) xd112_43 (Or.inr rfl) rfl).trans (wp_fin (v := some (.int (nI 0))) xd112_44 (Or.inr rfl) rfl rfl)
theorem x112_45 {x0 : Int32} {x1 : Int32} : wp Ln xs 112 45 [.int x0, .int x1] [] (u, ml_h m lm) Φ = if x1 < (nI 2) then wp Ln xs 112 60 [.int x0, .int x1] [] (u, ml_h m lm) Φ else wp Ln xs 112 50 [.int x0, .int x1] [] (u, ml_h m lm) Φ := (wp_same xd112_45 (Or.inr rfl) rfl).trans ((wp_same (S' := [.int (nI 2), .int x1]) xd112_46 (Or.inr rfl) rfl).trans (wx_icmp xd112_47 rfl rfl (x1 < (nI 2)) mb_lt))
theorem x112_50 {x0 : Int32} {x1 : Int32} : wp Ln xs 112 50 [.int x0, .int x1] [] (u, ml_h m lm) Φ = if (nI 16) < x1 then wp Ln xs 112 60 [.int x0, .int x1] [] (u, ml_h m lm) Φ else wp Ln xs 112 56 [.int x0, .int x1] [] (u, ml_h m lm) Φ := (wp_same xd112_50 (Or.inr rfl) rfl).trans ((wp_same (S' := [.int (nI 16), .int x1]) xd112_51 (Or.inr rfl) rfl).trans (wx_icmp xd112_53 rfl rfl ((nI 16) < x1) mb_gt))
theorem x112_56 {x0 : Int32} {x1 : Int32} : wp Ln xs 112 56 [.int x0, .int x1] [] (u, ml_h m lm) Φ = Φ (.inl (some (.int (nI 1)))) (u, ml_h m lm) := (wp_same (S' := [.int (nI 1)]) xd112_56 (Or.inr rfl) rfl).trans ((wx_goto xd112_57 rfl).trans (wp_fin (v := some (.int (nI 1))) xd112_61 (Or.inr rfl) rfl rfl))
theorem x112_60 {x0 : Int32} {x1 : Int32} : wp Ln xs 112 60 [.int x0, .int x1] [] (u, ml_h m lm) Φ = Φ (.inl (some (.int (nI 0)))) (u, ml_h m lm) := (wp_same (S' := [.int (nI 0)]) xd112_60 (Or.inr rfl) rfl).trans (wp_fin (v := some (.int (nI 0))) xd112_61 (Or.inr rfl) rfl rfl)
theorem x112_62 {x0 : Int32} {x1 : Int32} : wp Ln xs 112 62 [.int x0, .int x1] [] (u, ml_h m lm) Φ = if x1 < (nI 1) then wp Ln xs 112 84 [.int x0, .int x1] [] (u, ml_h m lm) Φ else wp Ln xs 112 67 [.int x0, .int x1] [] (u, ml_h m lm) Φ := (wp_same xd112_62 (Or.inr rfl) rfl).trans ((wp_same (S' := [.int (nI 1), .int x1]) xd112_63 (Or.inr rfl) rfl).trans (wx_icmp xd112_64 rfl rfl (x1 < (nI 1)) mb_lt))
theorem x112_67 {x0 : Int32} {x1 : Int32} : wp Ln xs 112 67 [.int x0, .int x1] [] (u, ml_h m lm) Φ = if (nI 31) < x1 then wp Ln xs 112 84 [.int x0, .int x1] [] (u, ml_h m lm) Φ else wp Ln xs 112 73 [.int x0, .int x1] [] (u, ml_h m lm) Φ := (wp_same xd112_67 (Or.inr rfl) rfl).trans ((wp_same (S' := [.int (nI 31), .int x1]) xd112_68 (Or.inr rfl) rfl).trans (wx_icmp xd112_70 rfl rfl ((nI 31) < x1) mb_gt))
theorem x112_73 {x0 : Int32} {x1 : Int32} : wp Ln xs 112 73 [.int x0, .int x1] [] (u, ml_h m lm) Φ = if ¬ (x1 &&& (nI 1)) = (nI 1) then wp Ln xs 112 84 [.int x0, .int x1] [] (u, ml_h m lm) Φ else wp Ln xs 112 80 [.int x0, .int x1] [] (u, ml_h m lm) Φ := (wp_same xd112_73 (Or.inr rfl) rfl).trans ((wp_same (S' := [.int (nI 1), .int x1]) xd112_74 (Or.inr rfl) rfl).trans ((wp_same xd112_75 (Or.inr rfl) rfl).trans ((wp_same (S' := [.int (nI 1), .int (x1 &&& (nI 1))]) xd112_76 (Or.inr rfl) rfl).trans (wx_icmp xd112_77 rfl rfl (¬ (x1 &&& (nI 1)) = (nI 1)) mb_ne))))
theorem x112_80 {x0 : Int32} {x1 : Int32} : wp Ln xs 112 80 [.int x0, .int x1] [] (u, ml_h m lm) Φ = Φ (.inl (some (.int (nI 1)))) (u, ml_h m lm) := (wp_same (S' := [.int (nI 1)]) xd112_80 (Or.inr rfl) rfl).trans ((wx_goto xd112_81 rfl).trans (wp_fin (v := some (.int (nI 1))) xd112_85 (Or.inr rfl) rfl rfl))
theorem x112_84 {x0 : Int32} {x1 : Int32} : wp Ln xs 112 84 [.int x0, .int x1] [] (u, ml_h m lm) Φ = Φ (.inl (some (.int (nI 0)))) (u, ml_h m lm) := (wp_same (S' := [.int (nI 0)]) xd112_84 (Or.inr rfl) rfl).trans (wp_fin (v := some (.int (nI 0))) xd112_85 (Or.inr rfl) rfl rfl)
theorem x112_86 {x0 : Int32} {x1 : Int32} : wp Ln xs 112 86 [.int x0, .int x1] [] (u, ml_h m lm) Φ = Φ (.inl (some (.int (nI 0)))) (u, ml_h m lm) := (wp_same (S' := [.int (nI 0)]) xd112_86 (Or.inr rfl) rfl).trans (wp_fin (v := some (.int (nI 0))) xd112_87 (Or.inr rfl) rfl rfl)
/- PickedFormsLaw.append -/
theorem xd113_0 : decode (mj_b 113) 0 = .ok (.aload_n 2, 1) := by decide +kernel
theorem xd113_1 : decode (mj_b 113) 1 = .ok (.iconst 0, 1) := by decide +kernel
theorem xd113_2 : decode (mj_b 113) 2 = .ok (.aload_n 0, 1) := by decide +kernel
theorem xd113_3 : decode (mj_b 113) 3 = .ok (.iload_n 1, 1) := by decide +kernel
theorem xd113_4 : decode (mj_b 113) 4 = .ok (.invokevirtual 42, 3) := by decide +kernel
theorem xd113_7 : decode (mj_b 113) 7 = .ok (.i2l, 1) := by decide +kernel
theorem xd113_8 : decode (mj_b 113) 8 = .ok (.lastore, 1) := by decide +kernel
theorem xd113_9 : decode (mj_b 113) 9 = .ok (.goto 9, 3) := by decide +kernel
theorem xd113_13 : decode (mj_b 113) 13 = .ok (.iconst 1, 1) := by decide +kernel
theorem xd113_14 : decode (mj_b 113) 14 = .ok (.ireturn, 1) := by decide +kernel
theorem xd113_16 : decode (mj_b 113) 16 = .ok (.iconst 2, 1) := by decide +kernel
theorem xd113_17 : decode (mj_b 113) 17 = .ok (.ireturn, 1) := by decide +kernel
theorem xd113_18 : decode (mj_b 113) 18 = .ok (.iconst 0, 1) := by decide +kernel
theorem xd113_19 : decode (mj_b 113) 19 = .ok (.ireturn, 1) := by decide +kernel
theorem x113_0 {x1 : Int32} : wp Ln xs 113 0 [.ref 1, .int x1, .ref 81, mj_hole] [] (u, ml_h m lm) Φ = wp Ln xs 114 0 [.ref 1, .int x1] [] (u, ml_h m lm) (mk Ln xs 113 4 [.ref 1, .int x1, .ref 81, mj_hole] [.int (nI 0), .ref 81] Φ) := (wp_same xd113_0 (Or.inr rfl) rfl).trans ((wp_same (S' := [.int (nI 0), .ref 81]) xd113_1 (Or.inr rfl) rfl).trans ((wp_same xd113_2 (Or.inr rfl) rfl).trans ((wp_same xd113_3 (Or.inr rfl) rfl).trans (wm_cv (As := [.int x1]) (rest := [.int (nI 0), .ref 81]) xd113_4 rfl rfl (show ml_L[1]? = _ from rfl) (Nat.le_of_ble_eq_true rfl) (Nat.le_of_ble_eq_true rfl) (Nat.le_of_ble_eq_true rfl) (Nat.le_of_ble_eq_true rfl)))))
theorem x113_7 {x1 : Int32} {xs0 : Int32} {xs1 : Int32} : wp Ln xs 113 7 [.ref 1, .int x1, .ref 81, mj_hole] [.int xs0, .int xs1, .ref 81] (u, ml_h m lm) Φ = wp Ln xs 113 8 [.ref 1, .int x1, .ref 81, mj_hole] [.long xs0.toInt64, .int xs1, .ref 81] (u, ml_h m lm) Φ := wp_same xd113_7 (Or.inr rfl) rfl
theorem x113_8 {x1 : Int32} {ys0 : Int64} {k : Nat} (hk : k < 1) : wp Ln xs 113 8 [.ref 1, .int x1, .ref 81, mj_hole] [.long ys0, .int (nI k), .ref 81] (u, ml_h m lm) Φ = wp Ln xs 113 18 [.ref 1, .int x1, .ref 81, mj_hole] [] (u, ml_h m (ml_sj lm 81 k ys0)) Φ := (wm_last (k := k) xd113_8 rfl hk (by decide)).trans (wx_goto xd113_9 rfl)
theorem x113_13 {x1 : Int32} : wp Ln xs 113 13 [.ref 1, .int x1, .ref 81, mj_hole] [] (u, ml_h m lm) Φ = Φ (.inl (some (.int (nI 1)))) (u, ml_h m lm) := (wp_same (S' := [.int (nI 1)]) xd113_13 (Or.inr rfl) rfl).trans (wp_fin (v := some (.int (nI 1))) xd113_14 (Or.inr rfl) rfl (mj_fin_i rfl))
theorem x113_16 {x1 : Int32} : wp Ln xs 113 16 [.ref 1, .int x1, .ref 81, mj_hole] [] (u, ml_h m lm) Φ = Φ (.inl (some (.int (nI 2)))) (u, ml_h m lm) := (wp_same (S' := [.int (nI 2)]) xd113_16 (Or.inr rfl) rfl).trans (wp_fin (v := some (.int (nI 2))) xd113_17 (Or.inr rfl) rfl (mj_fin_i rfl))
theorem x113_18 {x1 : Int32} : wp Ln xs 113 18 [.ref 1, .int x1, .ref 81, mj_hole] [] (u, ml_h m lm) Φ = Φ (.inl (some (.int (nI 0)))) (u, ml_h m lm) := (wp_same (S' := [.int (nI 0)]) xd113_18 (Or.inr rfl) rfl).trans (wp_fin (v := some (.int (nI 0))) xd113_19 (Or.inr rfl) rfl (mj_fin_i rfl))
/- PickedForms.append -/
theorem xd114_0 : decode (mj_b 114) 0 = .ok (.iload_n 1, 1) := by decide +kernel
theorem xd114_1 : decode (mj_b 114) 1 = .ok (.bipush 33, 2) := by decide +kernel
theorem xd114_3 : decode (mj_b 114) 3 = .ok (.if_icmp .lt 9, 3) := by decide +kernel
theorem xd114_6 : decode (mj_b 114) 6 = .ok (.iload_n 1, 1) := by decide +kernel
theorem xd114_7 : decode (mj_b 114) 7 = .ok (.bipush 126, 2) := by decide +kernel
theorem xd114_9 : decode (mj_b 114) 9 = .ok (.if_icmp .le 13, 3) := by decide +kernel
theorem xd114_12 : decode (mj_b 114) 12 = .ok (.new 80, 3) := by decide +kernel
theorem xd114_22 : decode (mj_b 114) 22 = .ok (.aload_n 0, 1) := by decide +kernel
theorem xd114_23 : decode (mj_b 114) 23 = .ok (.getfield 33, 3) := by decide +kernel
theorem xd114_26 : decode (mj_b 114) 26 = .ok (.getfield 208, 3) := by decide +kernel
theorem xd114_29 : decode (mj_b 114) 29 = .ok (.bipush 60, 2) := by decide +kernel
theorem xd114_31 : decode (mj_b 114) 31 = .ok (.if_icmp .lt 13, 3) := by decide +kernel
theorem xd114_34 : decode (mj_b 114) 34 = .ok (.new 91, 3) := by decide +kernel
theorem xd114_44 : decode (mj_b 114) 44 = .ok (.aload_n 0, 1) := by decide +kernel
theorem xd114_45 : decode (mj_b 114) 45 = .ok (.getfield 33, 3) := by decide +kernel
theorem xd114_48 : decode (mj_b 114) 48 = .ok (.iload_n 1, 1) := by decide +kernel
theorem xd114_49 : decode (mj_b 114) 49 = .ok (.invokevirtual 213, 3) := by decide +kernel
theorem xd114_52 : decode (mj_b 114) 52 = .ok (.aload_n 0, 1) := by decide +kernel
theorem xd114_53 : decode (mj_b 114) 53 = .ok (.getfield 33, 3) := by decide +kernel
theorem xd114_56 : decode (mj_b 114) 56 = .ok (.getfield 208, 3) := by decide +kernel
theorem xd114_59 : decode (mj_b 114) 59 = .ok (.ireturn, 1) := by decide +kernel
theorem x114_0 {x1 : Int32} : wp Ln xs 114 0 [.ref 1, .int x1] [] (u, ml_h m lm) Φ = if x1 < (nI 33) then wp Ln xs 114 12 [.ref 1, .int x1] [] (u, ml_h m lm) Φ else wp Ln xs 114 6 [.ref 1, .int x1] [] (u, ml_h m lm) Φ := (wp_same xd114_0 (Or.inr rfl) rfl).trans ((wp_same (S' := [.int (nI 33), .int x1]) xd114_1 (Or.inr rfl) rfl).trans (wx_icmp xd114_3 rfl rfl (x1 < (nI 33)) mb_lt))
theorem x114_6 {x1 : Int32} : wp Ln xs 114 6 [.ref 1, .int x1] [] (u, ml_h m lm) Φ = if x1 ≤ (nI 126) then wp Ln xs 114 22 [.ref 1, .int x1] [] (u, ml_h m lm) Φ else wp Ln xs 114 12 [.ref 1, .int x1] [] (u, ml_h m lm) Φ := (wp_same xd114_6 (Or.inr rfl) rfl).trans ((wp_same (S' := [.int (nI 126), .int x1]) xd114_7 (Or.inr rfl) rfl).trans (wx_icmp xd114_9 rfl rfl (x1 ≤ (nI 126)) mb_le))
theorem x114_12 {x1 : Int32} : wp Ln xs 114 12 [.ref 1, .int x1] [] (u, ml_h m lm) Φ = Φ (.inr 0) ((u.1, u.2.1 + 1, u.2.2 + 6), ml_h m lm) := wp_thr xd114_12 (Or.inr rfl) rfl rfl (E := 0) (by decide +kernel)
theorem x114_22 {x1 : Int32} : wp Ln xs 114 22 [.ref 1, .int x1] [] (u, ml_h m lm) Φ = if (m 52 1) < (nI 60) then wp Ln xs 114 44 [.ref 1, .int x1] [] (u, ml_h m lm) Φ else wp Ln xs 114 34 [.ref 1, .int x1] [] (u, ml_h m lm) Φ := (wp_same xd114_22 (Or.inr rfl) rfl).trans ((wm_getr xd114_23 rfl (show ml_L[1]? = _ from rfl) rfl (Nat.le_of_ble_eq_true rfl)).trans ((wm_geti xd114_26 rfl (show ml_L[52]? = _ from rfl) rfl (Nat.le_of_ble_eq_true rfl)).trans ((wp_same (S' := [.int (nI 60), .int (m 52 1)]) xd114_29 (Or.inr rfl) rfl).trans (wx_icmp xd114_31 rfl rfl ((m 52 1) < (nI 60)) mb_lt))))
theorem x114_34 {x1 : Int32} : wp Ln xs 114 34 [.ref 1, .int x1] [] (u, ml_h m lm) Φ = Φ (.inr 1) ((u.1, u.2.1 + 1, u.2.2 + 6), ml_h m lm) := wp_thr xd114_34 (Or.inr rfl) rfl rfl (E := 1) (by decide +kernel)
theorem x114_44 {x1 : Int32} : wp Ln xs 114 44 [.ref 1, .int x1] [] (u, ml_h m lm) Φ = wp Ln xs 115 0 [.ref 52, .int x1] [] (u, ml_h m lm) (mk Ln xs 114 49 [.ref 1, .int x1] [] Φ) := (wp_same xd114_44 (Or.inr rfl) rfl).trans ((wm_getr xd114_45 rfl (show ml_L[1]? = _ from rfl) rfl (Nat.le_of_ble_eq_true rfl)).trans ((wp_same xd114_48 (Or.inr rfl) rfl).trans (wm_cv (As := [.int x1]) (rest := []) xd114_49 rfl rfl (show ml_L[52]? = _ from rfl) (Nat.le_of_ble_eq_true rfl) (Nat.le_of_ble_eq_true rfl) (Nat.le_of_ble_eq_true rfl) (Nat.le_of_ble_eq_true rfl))))
theorem x114_52 {x1 : Int32} : wp Ln xs 114 52 [.ref 1, .int x1] [] (u, ml_h m lm) Φ = Φ (.inl (some (.int (m 52 1)))) (u, ml_h m lm) := (wp_same xd114_52 (Or.inr rfl) rfl).trans ((wm_getr xd114_53 rfl (show ml_L[1]? = _ from rfl) rfl (Nat.le_of_ble_eq_true rfl)).trans ((wm_geti xd114_56 rfl (show ml_L[52]? = _ from rfl) rfl (Nat.le_of_ble_eq_true rfl)).trans (wp_fin (v := some (.int (m 52 1))) xd114_59 (Or.inr rfl) rfl (mj_fin_i rfl))))
end MXf
