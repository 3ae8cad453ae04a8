/-! ===== an equation for each straight piece of a method ===== -/
section MXb
variable {Ln : Nat} {xs : Nat → Int32} {u : mj_U} {m : ml_M} {lm : ml_J} {Φ : mj_R → mj_W → Prop}
/- PickedForms.isSetting -/
theorem xd31_0 : decode (mj_b 31) 0 = .ok (.iload_n 0, 1) := by decide +kernel
theorem xd31_1 : decode (mj_b 31) 1 = .ok (.ifCond .lt 12, 3) := by decide +kernel
theorem xd31_4 : decode (mj_b 31) 4 = .ok (.iload_n 0, 1) := by decide +kernel
theorem xd31_5 : decode (mj_b 31) 5 = .ok (.iconst 3, 1) := by decide +kernel
theorem xd31_6 : decode (mj_b 31) 6 = .ok (.if_icmp .ge 7, 3) := by decide +kernel
theorem xd31_9 : decode (mj_b 31) 9 = .ok (.iconst 1, 1) := by decide +kernel
theorem xd31_10 : decode (mj_b 31) 10 = .ok (.goto 4, 3) := by decide +kernel
theorem xd31_13 : decode (mj_b 31) 13 = .ok (.iconst 0, 1) := by decide +kernel
theorem xd31_14 : decode (mj_b 31) 14 = .ok (.ireturn, 1) := by decide +kernel
theorem x31_0 {x0 : Int32} : wp Ln xs 31 0 [.int x0] [] (u, ml_h m lm) Φ = if x0 < (nI 0) then wp Ln xs 31 13 [.int x0] [] (u, ml_h m lm) Φ else wp Ln xs 31 4 [.int x0] [] (u, ml_h m lm) Φ := (wp_same xd31_0 (Or.inr rfl) rfl).trans (wx_if xd31_1 rfl rfl (x0 < (nI 0)) mb_lt)
theorem x31_4 {x0 : Int32} : wp Ln xs 31 4 [.int x0] [] (u, ml_h m lm) Φ = if (nI 3) ≤ x0 then wp Ln xs 31 13 [.int x0] [] (u, ml_h m lm) Φ else wp Ln xs 31 9 [.int x0] [] (u, ml_h m lm) Φ := (wp_same xd31_4 (Or.inr rfl) rfl).trans ((wp_same (S' := [.int (nI 3), .int x0]) xd31_5 (Or.inr rfl) rfl).trans (wx_icmp xd31_6 rfl rfl ((nI 3) ≤ x0) mb_ge))
theorem x31_9 {x0 : Int32} : wp Ln xs 31 9 [.int x0] [] (u, ml_h m lm) Φ = Φ (.inl (some (.int (nI 1)))) (u, ml_h m lm) := (wp_same (S' := [.int (nI 1)]) xd31_9 (Or.inr rfl) rfl).trans ((wx_goto xd31_10 rfl).trans (wp_fin (v := some (.int (nI 1))) xd31_14 (Or.inr rfl) rfl rfl))
theorem x31_13 {x0 : Int32} : wp Ln xs 31 13 [.int x0] [] (u, ml_h m lm) Φ = Φ (.inl (some (.int (nI 0)))) (u, ml_h m lm) := (wp_same (S' := [.int (nI 0)]) xd31_13 (Or.inr rfl) rfl).trans (wp_fin (v := some (.int (nI 0))) xd31_14 (Or.inr rfl) rfl rfl)
/- PickedForms.isSettingValue -/
theorem xd32_0 : decode (mj_b 32) 0 = .ok (.iload_n 0, 1) := by decide +kernel
theorem xd32_1 : decode (mj_b 32) 1 = .ok (.tableswitch 85 0 2 #[27, 44, 61], 27) := by decide +kernel
theorem xd32_28 : decode (mj_b 32) 28 = .ok (.iload_n 1, 1) := by decide +kernel
theorem xd32_29 : decode (mj_b 32) 29 = .ok (.iconst 1, 1) := by decide +kernel
theorem xd32_30 : decode (mj_b 32) 30 = .ok (.if_icmp .lt 13, 3) := by decide +kernel
theorem xd32_33 : decode (mj_b 32) 33 = .ok (.iload_n 1, 1) := by decide +kernel
theorem xd32_34 : decode (mj_b 32) 34 = .ok (.bipush 16, 2) := by decide +kernel
theorem xd32_36 : decode (mj_b 32) 36 = .ok (.if_icmp .gt 7, 3) := by decide +kernel
theorem xd32_39 : decode (mj_b 32) 39 = .ok (.iconst 1, 1) := by decide +kernel
theorem xd32_40 : decode (mj_b 32) 40 = .ok (.goto 4, 3) := by decide +kernel
theorem xd32_43 : decode (mj_b 32) 43 = .ok (.iconst 0, 1) := by decide +kernel
theorem xd32_44 : decode (mj_b 32) 44 = .ok (.ireturn, 1) := by decide +kernel
theorem xd32_45 : decode (mj_b 32) 45 = .ok (.iload_n 1, 1) := by decide +kernel
theorem xd32_46 : decode (mj_b 32) 46 = .ok (.iconst 2, 1) := by decide +kernel
theorem xd32_47 : decode (mj_b 32) 47 = .ok (.if_icmp .lt 13, 3) := by decide +kernel
theorem xd32_50 : decode (mj_b 32) 50 = .ok (.iload_n 1, 1) := by decide +kernel
theorem xd32_51 : decode (mj_b 32) 51 = .ok (.bipush 16, 2) := by decide +kernel
theorem xd32_53 : decode (mj_b 32) 53 = .ok (.if_icmp .gt 7, 3) := by decide +kernel
theorem xd32_56 : decode (mj_b 32) 56 = .ok (.iconst 1, 1) := by decide +kernel
theorem xd32_57 : decode (mj_b 32) 57 = .ok (.goto 4, 3) := by decide +kernel
theorem xd32_60 : decode (mj_b 32) 60 = .ok (.iconst 0, 1) := by decide +kernel
theorem xd32_61 : decode (mj_b 32) 61 = .ok (.ireturn, 1) := by decide +kernel
theorem xd32_62 : decode (mj_b 32) 62 = .ok (.iload_n 1, 1) := by decide +kernel
theorem xd32_63 : decode (mj_b 32) 63 = .ok (.iconst 1, 1) := by decide +kernel
theorem xd32_64 : decode (mj_b 32) 64 = .ok (.if_icmp .lt 20, 3) := by decide +kernel
theorem xd32_67 : decode (mj_b 32) 67 = .ok (.iload_n 1, 1) := by decide +kernel
theorem xd32_68 : decode (mj_b 32) 68 = .ok (.bipush 31, 2) := by decide +kernel
theorem xd32_70 : decode (mj_b 32) 70 = .ok (.if_icmp .gt 14, 3) := by decide +kernel
theorem xd32_73 : decode (mj_b 32) 73 = .ok (.iload_n 1, 1) := by decide +kernel
theorem xd32_74 : decode (mj_b 32) 74 = .ok (.iconst 1, 1) := by decide +kernel
theorem xd32_75 : decode (mj_b 32) 75 = .ok (.iand, 1) := by decide +kernel
theorem xd32_76 : decode (mj_b 32) 76 = .ok (.iconst 1, 1) := by decide +kernel
theorem xd32_77 : decode (mj_b 32) 77 = .ok (.if_icmp .ne 7, 3) := by decide +kernel
theorem xd32_80 : decode (mj_b 32) 80 = .ok (.iconst 1, 1) := by decide +kernel
theorem xd32_81 : decode (mj_b 32) 81 = .ok (.goto 4, 3) := by decide +kernel
theorem xd32_84 : decode (mj_b 32) 84 = .ok (.iconst 0, 1) := by decide +kernel
theorem xd32_85 : decode (mj_b 32) 85 = .ok (.ireturn, 1) := by decide +kernel
theorem xd32_86 : decode (mj_b 32) 86 = .ok (.iconst 0, 1) := by decide +kernel
theorem xd32_87 : decode (mj_b 32) 87 = .ok (.ireturn, 1) := by decide +kernel
theorem x32_0 {x0 : Int32} {x1 : Int32} : wp Ln xs 32 0 [.int x0, .int x1] [] (u, ml_h m lm) Φ = wp Ln xs 32 1 [.int x0, .int x1] [.int x0] (u, ml_h m lm) Φ := wp_same xd32_0 (Or.inr rfl) rfl
theorem x32_1_0 {x0 : Int32} {x1 : Int32} : wp Ln xs 32 1 [.int x0, .int x1] [.int (nI 0)] (u, ml_h m lm) Φ = wp Ln xs 32 28 [.int x0, .int x1] [] (u, ml_h m lm) Φ := wp_same xd32_1 (Or.inl rfl) rfl
theorem x32_1_1 {x0 : Int32} {x1 : Int32} : wp Ln xs 32 1 [.int x0, .int x1] [.int (nI 1)] (u, ml_h m lm) Φ = wp Ln xs 32 45 [.int x0, .int x1] [] (u, ml_h m lm) Φ := wp_same xd32_1 (Or.inl rfl) rfl
theorem x32_1_2 {x0 : Int32} {x1 : Int32} : wp Ln xs 32 1 [.int x0, .int x1] [.int (nI 2)] (u, ml_h m lm) Φ = wp Ln xs 32 62 [.int x0, .int x1] [] (u, ml_h m lm) Φ := wp_same xd32_1 (Or.inl rfl) rfl
theorem x32_1_3 {x0 : Int32} {x1 : Int32} : wp Ln xs 32 1 [.int x0, .int x1] [.int (nI 3)] (u, ml_h m lm) Φ = wp Ln xs 32 86 [.int x0, .int x1] [] (u, ml_h m lm) Φ := wp_same xd32_1 (Or.inl rfl) rfl
theorem x32_1_4 {x0 : Int32} {x1 : Int32} : wp Ln xs 32 1 [.int x0, .int x1] [.int (nI 4)] (u, ml_h m lm) Φ = wp Ln xs 32 86 [.int x0, .int x1] [] (u, ml_h m lm) Φ := wp_same xd32_1 (Or.inl rfl) rfl
theorem x32_1_5 {x0 : Int32} {x1 : Int32} : wp Ln xs 32 1 [.int x0, .int x1] [.int (nI 5)] (u, ml_h m lm) Φ = wp Ln xs 32 86 [.int x0, .int x1] [] (u, ml_h m lm) Φ := wp_same xd32_1 (Or.inl rfl) rfl
theorem x32_28 {x0 : Int32} {x1 : Int32} : wp Ln xs 32 28 [.int x0, .int x1] [] (u, ml_h m lm) Φ = if x1 < (nI 1) then wp Ln xs 32 43 [.int x0, .int x1] [] (u, ml_h m lm) Φ else wp Ln xs 32 33 [.int x0, .int x1] [] (u, ml_h m lm) Φ := (wp_same xd32_28 (Or.inr rfl) rfl).trans ((wp_same (S' := [.int (nI 1), .int x1]) xd32_29 (Or.inr rfl) rfl).trans (wx_icmp xd32_30 rfl rfl (x1 < (nI 1)) mb_lt))
theorem x32_33 {x0 : Int32} {x1 : Int32} : wp Ln xs 32 33 [.int x0, .int x1] [] (u, ml_h m lm) Φ = if (nI 16) < x1 then wp Ln xs 32 43 [.int x0, .int x1] [] (u, ml_h m lm) Φ else wp Ln xs 32 39 [.int x0, .int x1] [] (u, ml_h m lm) Φ := (wp_same xd32_33 (Or.inr rfl) rfl).trans ((wp_same (S' := [.int (nI 16), .int x1]) xd32_34 (Or.inr rfl) rfl).trans (wx_icmp xd32_36 rfl rfl ((nI 16) < x1) mb_gt))
theorem x32_39 {x0 : Int32} {x1 : Int32} : wp Ln xs 32 39 [.int x0, .int x1] [] (u, ml_h m lm) Φ = Φ (.inl (some (.int (nI 1)))) (u, ml_h m lm) := (wp_same (S' := [.int (nI 1)]) xd32_39 (Or.inr rfl) rfl).trans ((wx_goto xd32_40 rfl).trans (wp_fin (v := some (.int (nI 1))) xd32_44 (Or.inr rfl) rfl rfl))
theorem x32_43 {x0 : Int32} {x1 : Int32} : wp Ln xs 32 43 [.int x0, .int x1] [] (u, ml_h m lm) Φ = Φ (.inl (some (.int (nI 0)))) (u, ml_h m lm) := (wp_same (S' := [.int (nI 0)]) xd32_43 (Or.inr rfl) rfl).trans (wp_fin (v := some (.int (nI 0))) xd32_44 (Or.inr rfl) rfl rfl)
theorem x32_45 {x0 : Int32} {x1 : Int32} : wp Ln xs 32 45 [.int x0, .int x1] [] (u, ml_h m lm) Φ = if x1 < (nI 2) then wp Ln xs 32 60 [.int x0, .int x1] [] (u, ml_h m lm) Φ else wp Ln xs 32 50 [.int x0, .int x1] [] (u, ml_h m lm) Φ := (wp_same xd32_45 (Or.inr rfl) rfl).trans ((wp_same (S' := [.int (nI 2), .int x1]) xd32_46 (Or.inr rfl) rfl).trans (wx_icmp xd32_47 rfl rfl (x1 < (nI 2)) mb_lt))
theorem x32_50 {x0 : Int32} {x1 : Int32} : wp Ln xs 32 50 [.int x0, .int x1] [] (u, ml_h m lm) Φ = if (nI 16) < x1 then wp Ln xs 32 60 [.int x0, .int x1] [] (u, ml_h m lm) Φ else wp Ln xs 32 56 [.int x0, .int x1] [] (u, ml_h m lm) Φ := (wp_same xd32_50 (Or.inr rfl) rfl).trans ((wp_same (S' := [.int (nI 16), .int x1]) xd32_51 (Or.inr rfl) rfl).trans (wx_icmp xd32_53 rfl rfl ((nI 16) < x1) mb_gt))
theorem x32_56 {x0 : Int32} {x1 : Int32} : wp Ln xs 32 56 [.int x0, .int x1] [] (u, ml_h m lm) Φ = Φ (.inl (some (.int (nI 1)))) (u, ml_h m lm) := (wp_same (S' := [.int (nI 1)]) xd32_56 (Or.inr rfl) rfl).trans ((wx_goto xd32_57 rfl).trans (wp_fin (v := some (.int (nI 1))) xd32_61 (Or.inr rfl) rfl rfl))
theorem x32_60 {x0 : Int32} {x1 : Int32} : wp Ln xs 32 60 [.int x0, .int x1] [] (u, ml_h m lm) Φ = Φ (.inl (some (.int (nI 0)))) (u, ml_h m lm) := (wp_same (S' := [.int (nI 0)]) xd32_60 (Or.inr rfl) rfl).trans (wp_fin (v := some (.int (nI 0))) xd32_61 (Or.inr rfl) rfl rfl)
theorem x32_62 {x0 : Int32} {x1 : Int32} : wp Ln xs 32 62 [.int x0, .int x1] [] (u, ml_h m lm) Φ = if x1 < (nI 1) then wp Ln xs 32 84 [.int x0, .int x1] [] (u, ml_h m lm) Φ else wp Ln xs 32 67 [.int x0, .int x1] [] (u, ml_h m lm) Φ := (wp_same xd32_62 (Or.inr rfl) rfl).trans ((wp_same (S' := [.int (nI 1), .int x1]) xd32_63 (Or.inr rfl) rfl).trans (wx_icmp xd32_64 rfl rfl (x1 < (nI 1)) mb_lt))
theorem x32_67 {x0 : Int32} {x1 : Int32} : wp Ln xs 32 67 [.int x0, .int x1] [] (u, ml_h m lm) Φ = if (nI 31) < x1 then wp Ln xs 32 84 [.int x0, .int x1] [] (u, ml_h m lm) Φ else wp Ln xs 32 73 [.int x0, .int x1] [] (u, ml_h m lm) Φ := (wp_same xd32_67 (Or.inr rfl) rfl).trans ((wp_same (S' := [.int (nI 31), .int x1]) xd32_68 (Or.inr rfl) rfl).trans (wx_icmp xd32_70 rfl rfl ((nI 31) < x1) mb_gt))
theorem x32_73 {x0 : Int32} {x1 : Int32} : wp Ln xs 32 73 [.int x0, .int x1] [] (u, ml_h m lm) Φ = if ¬ (x1 &&& (nI 1)) = (nI 1) then wp Ln xs 32 84 [.int x0, .int x1] [] (u, ml_h m lm) Φ else wp Ln xs 32 80 [.int x0, .int x1] [] (u, ml_h m lm) Φ := (wp_same xd32_73 (Or.inr rfl) rfl).trans ((wp_same (S' := [.int (nI 1), .int x1]) xd32_74 (Or.inr rfl) rfl).trans ((wp_same xd32_75 (Or.inr rfl) rfl).trans ((wp_same (S' := [.int (nI 1), .int (x1 &&& (nI 1))]) xd32_76 (Or.inr rfl) rfl).trans (wx_icmp xd32_77 rfl rfl (¬ (x1 &&& (nI 1)) = (nI 1)) mb_ne))))
theorem x32_80 {x0 : Int32} {x1 : Int32} : wp Ln xs 32 80 [.int x0, .int x1] [] (u, ml_h m lm) Φ = Φ (.inl (some (.int (nI 1)))) (u, ml_h m lm) := (wp_same (S' := [.int (nI 1)]) xd32_80 (Or.inr rfl) rfl).trans ((wx_goto xd32_81 rfl).trans (wp_fin (v := some (.int (nI 1))) xd32_85 (Or.inr rfl) rfl rfl))
theorem x32_84 {x0 : Int32} {x1 : Int32} : wp Ln xs 32 84 [.int x0, .int x1] [] (u, ml_h m lm) Φ = Φ (.inl (some (.int (nI 0)))) (u, ml_h m lm) := (wp_same (S' := [.int (nI 0)]) xd32_84 (Or.inr rfl) rfl).trans (wp_fin (v := some (.int (nI 0))) xd32_85 (Or.inr rfl) rfl rfl)
theorem x32_86 {x0 : Int32} {x1 : Int32} : wp Ln xs 32 86 [.int x0, .int x1] [] (u, ml_h m lm) Φ = Φ (.inl (some (.int (nI 0)))) (u, ml_h m lm) := (wp_same (S' := [.int (nI 0)]) xd32_86 (Or.inr rfl) rfl).trans (wp_fin (v := some (.int (nI 0))) xd32_87 (Or.inr rfl) rfl rfl)
/- PickedForms$Column.settingOf -/
theorem xd33_0 : decode (mj_b 33) 0 = .ok (.aload_n 0, 1) := by decide +kernel
theorem xd33_1 : decode (mj_b 33) 1 = .ok (.getfield 24, 3) := by decide +kernel
theorem xd33_4 : decode (mj_b 33) 4 = .ok (.iload_n 1, 1) := by decide +kernel
theorem xd33_5 : decode (mj_b 33) 5 = .ok (.invokestatic 46, 3) := by decide +kernel
theorem xd33_8 : decode (mj_b 33) 8 = .ok (.ireturn, 1) := by decide +kernel
theorem x33_0 {x1 : Int32} : wp Ln xs 33 0 [.ref 2, .int x1] [] (u, ml_h m lm) Φ = wp Ln xs 17 0 [.ref 7, .int x1] [] (u, ml_h m lm) (mk Ln xs 33 5 [.ref 2, .int x1] [] Φ) := (wp_same xd33_0 (Or.inr rfl) rfl).trans ((wm_getr xd33_1 rfl (show ml_L[2]? = _ from rfl) rfl (Nat.le_of_ble_eq_true rfl)).trans ((wp_same xd33_4 (Or.inr rfl) rfl).trans (wm_cs (As := [.ref 7, .int x1]) (rest := []) xd33_5 rfl rfl (Nat.le_of_ble_eq_true rfl) (Nat.le_of_ble_eq_true rfl) (Nat.le_of_ble_eq_true rfl) (Nat.le_of_ble_eq_true rfl))))
theorem x33_8 {x1 : Int32} {xs0 : Int32} : wp Ln xs 33 8 [.ref 2, .int x1] [.int xs0] (u, ml_h m lm) Φ = Φ (.inl (some (.int xs0))) (u, ml_h m lm) := wp_fin (v := some (.int xs0)) xd33_8 (Or.inr rfl) rfl (mj_fin_i rfl)
/- PickedForms.count -/
theorem xd34_0 : decode (mj_b 34) 0 = .ok (.iload_n 1, 1) := by decide +kernel
theorem xd34_1 : decode (mj_b 34) 1 = .ok (.ifCond .lt 9, 3) := by decide +kernel
theorem xd34_4 : decode (mj_b 34) 4 = .ok (.iload_n 1, 1) := by decide +kernel
theorem xd34_5 : decode (mj_b 34) 5 = .ok (.bipush 8, 2) := by decide +kernel
theorem xd34_7 : decode (mj_b 34) 7 = .ok (.if_icmp .le 14, 3) := by decide +kernel
theorem xd34_10 : decode (mj_b 34) 10 = .ok (.new 80, 3) := by decide +kernel
theorem xd34_21 : decode (mj_b 34) 21 = .ok (.aload_n 0, 1) := by decide +kernel
theorem xd34_22 : decode (mj_b 34) 22 = .ok (.iload_n 1, 1) := by decide +kernel
theorem xd34_23 : decode (mj_b 34) 23 = .ok (.invokevirtual 282, 3) := by decide +kernel
theorem xd34_26 : decode (mj_b 34) 26 = .ok (.ireturn, 1) := by decide +kernel
theorem x34_0 {x1 : Int32} : wp Ln xs 34 0 [.ref 1, .int x1] [] (u, ml_h m lm) Φ = if x1 < (nI 0) then wp Ln xs 34 10 [.ref 1, .int x1] [] (u, ml_h m lm) Φ else wp Ln xs 34 4 [.ref 1, .int x1] [] (u, ml_h m lm) Φ := (wp_same xd34_0 (Or.inr rfl) rfl).trans (wx_if xd34_1 rfl rfl (x1 < (nI 0)) mb_lt)
theorem x34_4 {x1 : Int32} : wp Ln xs 34 4 [.ref 1, .int x1] [] (u, ml_h m lm) Φ = if x1 ≤ (nI 8) then wp Ln xs 34 21 [.ref 1, .int x1] [] (u, ml_h m lm) Φ else wp Ln xs 34 10 [.ref 1, .int x1] [] (u, ml_h m lm) Φ := (wp_same xd34_4 (Or.inr rfl) rfl).trans ((wp_same (S' := [.int (nI 8), .int x1]) xd34_5 (Or.inr rfl) rfl).trans (wx_icmp xd34_7 rfl rfl (x1 ≤ (nI 8)) mb_le))
theorem x34_10 {x1 : Int32} : wp Ln xs 34 10 [.ref 1, .int x1] [] (u, ml_h m lm) Φ = Φ (.inr 0) ((u.1, u.2.1 + 1, u.2.2 + 6), ml_h m lm) := wp_thr xd34_10 (Or.inr rfl) rfl rfl (E := 0) (by decide +kernel)
theorem x34_21 {x1 : Int32} : wp Ln xs 34 21 [.ref 1, .int x1] [] (u, ml_h m lm) Φ = wp Ln xs 35 0 [.ref 1, .int x1] [] (u, ml_h m lm) (mk Ln xs 34 23 [.ref 1, .int x1] [] Φ) := (wp_same xd34_21 (Or.inr rfl) rfl).trans ((wp_same xd34_22 (Or.inr rfl) rfl).trans (wm_cv (As := [.int x1]) (rest := []) xd34_23 rfl rfl (show ml_L[1]? = _ from rfl) (Nat.le_of_ble_eq_true rfl) (Nat.le_of_ble_eq_true rfl) (Nat.le_of_ble_eq_true rfl) (Nat.le_of_ble_eq_true rfl)))
theorem x34_26 {x1 : Int32} {xs0 : Int32} : wp Ln xs 34 26 [.ref 1, .int x1] [.int xs0] (u, ml_h m lm) Φ = Φ (.inl (some (.int xs0))) (u, ml_h m lm) := wp_fin (v := some (.int xs0)) xd34_26 (Or.inr rfl) rfl (mj_fin_i rfl)
/- PickedForms.countNumber -/
theorem xd35_0 : decode (mj_b 35) 0 = .ok (.iload_n 1, 1) := by decide +kernel
theorem xd35_1 : decode (mj_b 35) 1 = .ok (.tableswitch 113 0 7 #[47, 55, 63, 71, 76, 84, 92, 105], 47) := by decide +kernel
theorem xd35_48 : decode (mj_b 35) 48 = .ok (.aload_n 0, 1) := by decide +kernel
theorem xd35_49 : decode (mj_b 35) 49 = .ok (.getfield 12, 3) := by decide +kernel
theorem xd35_52 : decode (mj_b 35) 52 = .ok (.getfield 104, 3) := by decide +kernel
theorem xd35_55 : decode (mj_b 35) 55 = .ok (.ireturn, 1) := by decide +kernel
theorem xd35_56 : decode (mj_b 35) 56 = .ok (.aload_n 0, 1) := by decide +kernel
theorem xd35_57 : decode (mj_b 35) 57 = .ok (.getfield 12, 3) := by decide +kernel
theorem xd35_60 : decode (mj_b 35) 60 = .ok (.getfield 112, 3) := by decide +kernel
theorem xd35_63 : decode (mj_b 35) 63 = .ok (.ireturn, 1) := by decide +kernel
theorem xd35_64 : decode (mj_b 35) 64 = .ok (.aload_n 0, 1) := by decide +kernel
theorem xd35_65 : decode (mj_b 35) 65 = .ok (.getfield 12, 3) := by decide +kernel
theorem xd35_68 : decode (mj_b 35) 68 = .ok (.invokevirtual 108, 3) := by decide +kernel
theorem xd35_71 : decode (mj_b 35) 71 = .ok (.ireturn, 1) := by decide +kernel
theorem xd35_72 : decode (mj_b 35) 72 = .ok (.aload_n 0, 1) := by decide +kernel
theorem xd35_73 : decode (mj_b 35) 73 = .ok (.invokevirtual 314, 3) := by decide +kernel
theorem xd35_76 : decode (mj_b 35) 76 = .ok (.ireturn, 1) := by decide +kernel
theorem xd35_77 : decode (mj_b 35) 77 = .ok (.aload_n 0, 1) := by decide +kernel
theorem xd35_78 : decode (mj_b 35) 78 = .ok (.getfield 12, 3) := by decide +kernel
theorem xd35_81 : decode (mj_b 35) 81 = .ok (.getfield 148, 3) := by decide +kernel
theorem xd35_84 : decode (mj_b 35) 84 = .ok (.ireturn, 1) := by decide +kernel
theorem xd35_85 : decode (mj_b 35) 85 = .ok (.aload_n 0, 1) := by decide +kernel
theorem xd35_86 : decode (mj_b 35) 86 = .ok (.getfield 12, 3) := by decide +kernel
theorem xd35_89 : decode (mj_b 35) 89 = .ok (.getfield 376, 3) := by decide +kernel
theorem xd35_92 : decode (mj_b 35) 92 = .ok (.ireturn, 1) := by decide +kernel
theorem xd35_93 : decode (mj_b 35) 93 = .ok (.aload_n 0, 1) := by decide +kernel
theorem xd35_94 : decode (mj_b 35) 94 = .ok (.getfield 12, 3) := by decide +kernel
theorem xd35_97 : decode (mj_b 35) 97 = .ok (.invokevirtual 401, 3) := by decide +kernel
theorem xd35_100 : decode (mj_b 35) 100 = .ok (.aload_n 0, 1) := by decide +kernel
theorem xd35_101 : decode (mj_b 35) 101 = .ok (.invokevirtual 404, 3) := by decide +kernel
theorem xd35_104 : decode (mj_b 35) 104 = .ok (.isub, 1) := by decide +kernel
theorem xd35_105 : decode (mj_b 35) 105 = .ok (.ireturn, 1) := by decide +kernel
theorem xd35_106 : decode (mj_b 35) 106 = .ok (.aload_n 0, 1) := by decide +kernel
theorem xd35_107 : decode (mj_b 35) 107 = .ok (.getfield 12, 3) := by decide +kernel
theorem xd35_110 : decode (mj_b 35) 110 = .ok (.invokevirtual 407, 3) := by decide +kernel
theorem xd35_113 : decode (mj_b 35) 113 = .ok (.ireturn, 1) := by decide +kernel
theorem xd35_114 : decode (mj_b 35) 114 = .ok (.aload_n 0, 1) := by decide +kernel
theorem xd35_115 : decode (mj_b 35) 115 = .ok (.getfield 26, 3) := by decide +kernel
theorem xd35_118 : decode (mj_b 35) 118 = .ok (.getfield 245, 3) := by decide +kernel
theorem xd35_121 : decode (mj_b 35) 121 = .ok (.ireturn, 1) := by decide +kernel
theorem x35_0 {x1 : Int32} : wp Ln xs 35 0 [.ref 1, .int x1] [] (u, ml_h m lm) Φ = wp Ln xs 35 1 [.ref 1, .int x1] [.int x1] (u, ml_h m lm) Φ := wp_same xd35_0 (Or.inr rfl) rfl
theorem x35_1_0 {x1 : Int32} : wp Ln xs 35 1 [.ref 1, .int x1] [.int (nI 0)] (u, ml_h m lm) Φ = wp Ln xs 35 48 [.ref 1, .int x1] [] (u, ml_h m lm) Φ := wp_same xd35_1 (Or.inl rfl) rfl
theorem x35_1_1 {x1 : Int32} : wp Ln xs 35 1 [.ref 1, .int x1] [.int (nI 1)] (u, ml_h m lm) Φ = wp Ln xs 35 56 [.ref 1, .int x1] [] (u, ml_h m lm) Φ := wp_same xd35_1 (Or.inl rfl) rfl
theorem x35_1_2 {x1 : Int32} : wp Ln xs 35 1 [.ref 1, .int x1] [.int (nI 2)] (u, ml_h m lm) Φ = wp Ln xs 35 64 [.ref 1, .int x1] [] (u, ml_h m lm) Φ := wp_same xd35_1 (Or.inl rfl) rfl
theorem x35_1_3 {x1 : Int32} : wp Ln xs 35 1 [.ref 1, .int x1] [.int (nI 3)] (u, ml_h m lm) Φ = wp Ln xs 35 72 [.ref 1, .int x1] [] (u, ml_h m lm) Φ := wp_same xd35_1 (Or.inl rfl) rfl
theorem x35_1_4 {x1 : Int32} : wp Ln xs 35 1 [.ref 1, .int x1] [.int (nI 4)] (u, ml_h m lm) Φ = wp Ln xs 35 77 [.ref 1, .int x1] [] (u, ml_h m lm) Φ := wp_same xd35_1 (Or.inl rfl) rfl
theorem x35_1_5 {x1 : Int32} : wp Ln xs 35 1 [.ref 1, .int x1] [.int (nI 5)] (u, ml_h m lm) Φ = wp Ln xs 35 85 [.ref 1, .int x1] [] (u, ml_h m lm) Φ := wp_same xd35_1 (Or.inl rfl) rfl
theorem x35_1_6 {x1 : Int32} : wp Ln xs 35 1 [.ref 1, .int x1] [.int (nI 6)] (u, ml_h m lm) Φ = wp Ln xs 35 93 [.ref 1, .int x1] [] (u, ml_h m lm) Φ := wp_same xd35_1 (Or.inl rfl) rfl
theorem x35_1_7 {x1 : Int32} : wp Ln xs 35 1 [.ref 1, .int x1] [.int (nI 7)] (u, ml_h m lm) Φ = wp Ln xs 35 106 [.ref 1, .int x1] [] (u, ml_h m lm) Φ := wp_same xd35_1 (Or.inl rfl) rfl
theorem x35_1_8 {x1 : Int32} : wp Ln xs 35 1 [.ref 1, .int x1] [.int (nI 8)] (u, ml_h m lm) Φ = wp Ln xs 35 114 [.ref 1, .int x1] [] (u, ml_h m lm) Φ := wp_same xd35_1 (Or.inl rfl) rfl
theorem x35_1_9 {x1 : Int32} : wp Ln xs 35 1 [.ref 1, .int x1] [.int (nI 9)] (u, ml_h m lm) Φ = wp Ln xs 35 114 [.ref 1, .int x1] [] (u, ml_h m lm) Φ := wp_same xd35_1 (Or.inl rfl) rfl
theorem x35_1_10 {x1 : Int32} : wp Ln xs 35 1 [.ref 1, .int x1] [.int (nI 10)] (u, ml_h m lm) Φ = wp Ln xs 35 114 [.ref 1, .int x1] [] (u, ml_h m lm) Φ := wp_same xd35_1 (Or.inl rfl) rfl
theorem x35_48 {x1 : Int32} : wp Ln xs 35 48 [.ref 1, .int x1] [] (u, ml_h m lm) Φ = Φ (.inl (some (.int (m 2 5)))) (u, ml_h m lm) := (wp_same xd35_48 (Or.inr rfl) rfl).trans ((wm_getr xd35_49 rfl (show ml_L[1]? = _ from rfl) rfl (Nat.le_of_ble_eq_true rfl)).trans ((wm_geti xd35_52 rfl (show ml_L[2]? = _ from rfl) rfl (Nat.le_of_ble_eq_true rfl)).trans (wp_fin (v := some (.int (m 2 5))) xd35_55 (Or.inr rfl) rfl (mj_fin_i rfl))))
theorem x35_56 {x1 : Int32} : wp Ln xs 35 56 [.ref 1, .int x1] [] (u, ml_h m lm) Φ = Φ (.inl (some (.int (m 2 6)))) (u, ml_h m lm) := (wp_same xd35_56 (Or.inr rfl) rfl).trans ((wm_getr xd35_57 rfl (show ml_L[1]? = _ from rfl) rfl (Nat.le_of_ble_eq_true rfl)).trans ((wm_geti xd35_60 rfl (show ml_L[2]? = _ from rfl) rfl (Nat.le_of_ble_eq_true rfl)).trans (wp_fin (v := some (.int (m 2 6))) xd35_63 (Or.inr rfl) rfl (mj_fin_i rfl))))
theorem x35_64 {x1 : Int32} : wp Ln xs 35 64 [.ref 1, .int x1] [] (u, ml_h m lm) Φ = wp Ln xs 36 0 [.ref 2] [] (u, ml_h m lm) (mk Ln xs 35 68 [.ref 1, .int x1] [] Φ) := (wp_same xd35_64 (Or.inr rfl) rfl).trans ((wm_getr xd35_65 rfl (show ml_L[1]? = _ from rfl) rfl (Nat.le_of_ble_eq_true rfl)).trans (wm_cv (As := []) (rest := []) xd35_68 rfl rfl (show ml_L[2]? = _ from rfl) (Nat.le_of_ble_eq_true rfl) (Nat.le_of_ble_eq_true rfl) (Nat.le_of_ble_eq_true rfl) (Nat.le_of_ble_eq_true rfl)))
theorem x35_71 {x1 : Int32} {xs0 : Int32} : wp Ln xs 35 71 [.ref 1, .int x1] [.int xs0] (u, ml_h m lm) Φ = Φ (.inl (some (.int xs0))) (u, ml_h m lm) := wp_fin (v := some (.int xs0)) xd35_71 (Or.inr rfl) rfl (mj_fin_i rfl)
theorem x35_72 {x1 : Int32} : wp Ln xs 35 72 [.ref 1, .int x1] [] (u, ml_h m lm) Φ = wp Ln xs 37 0 [.ref 1] [] (u, ml_h m lm) (mk Ln xs 35 73 [.ref 1, .int x1] [] Φ) := (wp_same xd35_72 (Or.inr rfl) rfl).trans (wm_cv (As := []) (rest := []) xd35_73 rfl rfl (show ml_L[1]? = _ from rfl) (Nat.le_of_ble_eq_true rfl) (Nat.le_of_ble_eq_true rfl) (Nat.le_of_ble_eq_true rfl) (Nat.le_of_ble_eq_true rfl))
theorem x35_76 {x1 : Int32} {xs0 : Int32} : wp Ln xs 35 76 [.ref 1, .int x1] [.int xs0] (u, ml_h m lm) Φ = Φ (.inl (some (.int xs0))) (u, ml_h m lm) := wp_fin (v := some (.int xs0)) xd35_76 (Or.inr rfl) rfl (mj_fin_i rfl)
theorem x35_77 {x1 : Int32} : wp Ln xs 35 77 [.ref 1, .int x1] [] (u, ml_h m lm) Φ = Φ (.inl (some (.int (m 2 7)))) (u, ml_h m lm) := (wp_same xd35_77 (Or.inr rfl) rfl).trans ((wm_getr xd35_78 rfl (show ml_L[1]? = _ from rfl) rfl (Nat.le_of_ble_eq_true rfl)).trans ((wm_geti xd35_81 rfl (show ml_L[2]? = _ from rfl) rfl (Nat.le_of_ble_eq_true rfl)).trans (wp_fin (v := some (.int (m 2 7))) xd35_84 (Or.inr rfl) rfl (mj_fin_i rfl))))
theorem x35_85 {x1 : Int32} : wp Ln xs 35 85 [.ref 1, .int x1] [] (u, ml_h m lm) Φ = Φ (.inl (some (.int (m 2 8)))) (u, ml_h m lm) := (wp_same xd35_85 (Or.inr rfl) rfl).trans ((wm_getr xd35_86 rfl (show ml_L[1]? = _ from rfl) rfl (Nat.le_of_ble_eq_true rfl)).trans ((wm_geti xd35_89 rfl (show ml_L[2]? = _ from rfl) rfl (Nat.le_of_ble_eq_true rfl)).trans (wp_fin (v := some (.int (m 2 8))) xd35_92 (Or.inr rfl) rfl (mj_fin_i rfl))))
theorem x35_93 {x1 : Int32} : wp Ln xs 35 93 [.ref 1, .int x1] [] (u, ml_h m lm) Φ = wp Ln xs 38 0 [.ref 2, mj_hole, mj_hole] [] (u, ml_h m lm) (mk Ln xs 35 97 [.ref 1, .int x1] [] Φ) := (wp_same xd35_93 (Or.inr rfl) rfl).trans ((wm_getr xd35_94 rfl (show ml_L[1]? = _ from rfl) rfl (Nat.le_of_ble_eq_true rfl)).trans (wm_cv (As := []) (rest := []) xd35_97 rfl rfl (show ml_L[2]? = _ from rfl) (Nat.le_of_ble_eq_true rfl) (Nat.le_of_ble_eq_true rfl) (Nat.le_of_ble_eq_true rfl) (Nat.le_of_ble_eq_true rfl)))
theorem x35_100 {x1 : Int32} {xs0 : Int32} : wp Ln xs 35 100 [.ref 1, .int x1] [.int xs0] (u, ml_h m lm) Φ = wp Ln xs 39 0 [.ref 1, mj_hole, mj_hole] [] (u, ml_h m lm) (mk Ln xs 35 101 [.ref 1, .int x1] [.int xs0] Φ) := (wp_same xd35_100 (Or.inr rfl) rfl).trans (wm_cv (As := []) (rest := [.int xs0]) xd35_101 rfl rfl (show ml_L[1]? = _ from rfl) (Nat.le_of_ble_eq_true rfl) (Nat.le_of_ble_eq_true rfl) (Nat.le_of_ble_eq_true rfl) (Nat.le_of_ble_eq_true rfl))
theorem x35_104 {x1 : Int32} {xs0 : Int32} {xs1 : Int32} : wp Ln xs 35 104 [.ref 1, .int x1] [.int xs0, .int xs1] (u, ml_h m lm) Φ = Φ (.inl (some (.int (xs1 - xs0)))) (u, ml_h m lm) := (wp_same xd35_104 (Or.inr rfl) rfl).trans (wp_fin (v := some (.int (xs1 - xs0))) xd35_105 (Or.inr rfl) rfl (mj_fin_i rfl))
theorem x35_106 {x1 : Int32} : wp Ln xs 35 106 [.ref 1, .int x1] [] (u, ml_h m lm) Φ = wp Ln xs 43 0 [.ref 2, mj_hole, mj_hole] [] (u, ml_h m lm) (mk Ln xs 35 110 [.ref 1, .int x1] [] Φ) := (wp_same xd35_106 (Or.inr rfl) rfl).trans ((wm_getr xd35_107 rfl (show ml_L[1]? = _ from rfl) rfl (Nat.le_of_ble_eq_true rfl)).trans (wm_cv (As := []) (rest := []) xd35_110 rfl rfl (show ml_L[2]? = _ from rfl) (Nat.le_of_ble_eq_true rfl) (Nat.le_of_ble_eq_true rfl) (Nat.le_of_ble_eq_true rfl) (Nat.le_of_ble_eq_true rfl)))
theorem x35_113 {x1 : Int32} {xs0 : Int32} : wp Ln xs 35 113 [.ref 1, .int x1] [.int xs0] (u, ml_h m lm) Φ = Φ (.inl (some (.int xs0))) (u, ml_h m lm) := wp_fin (v := some (.int xs0)) xd35_113 (Or.inr rfl) rfl (mj_fin_i rfl)
theorem x35_114 {x1 : Int32} : wp Ln xs 35 114 [.ref 1, .int x1] [] (u, ml_h m lm) Φ = Φ (.inl (some (.int (m 14 2)))) (u, ml_h m lm) := (wp_same xd35_114 (Or.inr rfl) rfl).trans ((wm_getr xd35_115 rfl (show ml_L[1]? = _ from rfl) rfl (Nat.le_of_ble_eq_true rfl)).trans ((wm_geti xd35_118 rfl (show ml_L[14]? = _ from rfl) rfl (Nat.le_of_ble_eq_true rfl)).trans (wp_fin (v := some (.int (m 14 2))) xd35_121 (Or.inr rfl) rfl (mj_fin_i rfl))))
/- PickedForms$Column.tailLength -/
theorem xd36_0 : decode (mj_b 36) 0 = .ok (.aload_n 0, 1) := by decide +kernel
theorem xd36_1 : decode (mj_b 36) 1 = .ok (.getfield 27, 3) := by decide +kernel
theorem xd36_4 : decode (mj_b 36) 4 = .ok (.aload_n 0, 1) := by decide +kernel
theorem xd36_5 : decode (mj_b 36) 5 = .ok (.aload_n 0, 1) := by decide +kernel
theorem xd36_6 : decode (mj_b 36) 6 = .ok (.getfield 31, 3) := by decide +kernel
theorem xd36_9 : decode (mj_b 36) 9 = .ok (.invokevirtual 50, 3) := by decide +kernel
theorem xd36_12 : decode (mj_b 36) 12 = .ok (.isub, 1) := by decide +kernel
theorem xd36_13 : decode (mj_b 36) 13 = .ok (.ireturn, 1) := by decide +kernel
theorem x36_0 : wp Ln xs 36 0 [.ref 2] [] (u, ml_h m lm) Φ = wp Ln xs 19 0 [.ref 2, .int (m 2 6), mj_hole, mj_hole] [] (u, ml_h m lm) (mk Ln xs 36 9 [.ref 2] [.int (m 2 5)] Φ) := (wp_same xd36_0 (Or.inr rfl) rfl).trans ((wm_geti xd36_1 rfl (show ml_L[2]? = _ from rfl) rfl (Nat.le_of_ble_eq_true rfl)).trans ((wp_same xd36_4 (Or.inr rfl) rfl).trans ((wp_same xd36_5 (Or.inr rfl) rfl).trans ((wm_geti xd36_6 rfl (show ml_L[2]? = _ from rfl) rfl (Nat.le_of_ble_eq_true rfl)).trans (wm_cv (As := [.int (m 2 6)]) (rest := [.int (m 2 5)]) xd36_9 rfl rfl (show ml_L[2]? = _ from rfl) (Nat.le_of_ble_eq_true rfl) (Nat.le_of_ble_eq_true rfl) (Nat.le_of_ble_eq_true rfl) (Nat.le_of_ble_eq_true rfl))))))
theorem x36_12 {xs0 : Int32} {xs1 : Int32} : wp Ln xs 36 12 [.ref 2] [.int xs0, .int xs1] (u, ml_h m lm) Φ = Φ (.inl (some (.int (xs1 - xs0)))) (u, ml_h m lm) := (wp_same xd36_12 (Or.inr rfl) rfl).trans (wp_fin (v := some (.int (xs1 - xs0))) xd36_13 (Or.inr rfl) rfl (mj_fin_i rfl))
/- PickedForms.weight -/
theorem xd37_0 : decode (mj_b 37) 0 = .ok (.aload_n 0, 1) := by decide +kernel
theorem xd37_1 : decode (mj_b 37) 1 = .ok (.getfield 12, 3) := by decide +kernel
theorem xd37_4 : decode (mj_b 37) 4 = .ok (.invokevirtual 401, 3) := by decide +kernel
theorem xd37_7 : decode (mj_b 37) 7 = .ok (.bipush 7, 2) := by decide +kernel
theorem xd37_9 : decode (mj_b 37) 9 = .ok (.aload_n 0, 1) := by decide +kernel
theorem xd37_10 : decode (mj_b 37) 10 = .ok (.getfield 12, 3) := by decide +kernel
theorem xd37_13 : decode (mj_b 37) 13 = .ok (.getfield 112, 3) := by decide +kernel
theorem xd37_16 : decode (mj_b 37) 16 = .ok (.imul, 1) := by decide +kernel
theorem xd37_17 : decode (mj_b 37) 17 = .ok (.iadd, 1) := by decide +kernel
theorem xd37_18 : decode (mj_b 37) 18 = .ok (.bipush 10, 2) := by decide +kernel
theorem xd37_20 : decode (mj_b 37) 20 = .ok (.aload_n 0, 1) := by decide +kernel
theorem xd37_21 : decode (mj_b 37) 21 = .ok (.getfield 12, 3) := by decide +kernel
theorem xd37_24 : decode (mj_b 37) 24 = .ok (.invokevirtual 108, 3) := by decide +kernel
theorem xd37_27 : decode (mj_b 37) 27 = .ok (.imul, 1) := by decide +kernel
theorem xd37_28 : decode (mj_b 37) 28 = .ok (.iadd, 1) := by decide +kernel
theorem xd37_29 : decode (mj_b 37) 29 = .ok (.ireturn, 1) := by decide +kernel
theorem x37_0 : wp Ln xs 37 0 [.ref 1] [] (u, ml_h m lm) Φ = wp Ln xs 38 0 [.ref 2, mj_hole, mj_hole] [] (u, ml_h m lm) (mk Ln xs 37 4 [.ref 1] [] Φ) := (wp_same xd37_0 (Or.inr rfl) rfl).trans ((wm_getr xd37_1 rfl (show ml_L[1]? = _ from rfl) rfl (Nat.le_of_ble_eq_true rfl)).trans (wm_cv (As := []) (rest := []) xd37_4 rfl rfl (show ml_L[2]? = _ from rfl) (Nat.le_of_ble_eq_true rfl) (Nat.le_of_ble_eq_true rfl) (Nat.le_of_ble_eq_true rfl) (Nat.le_of_ble_eq_true rfl)))
theorem x37_7 {xs0 : Int32} : wp Ln xs 37 7 [.ref 1] [.int xs0] (u, ml_h m lm) Φ = wp Ln xs 36 0 [.ref 2] [] (u, ml_h m lm) (mk Ln xs 37 24 [.ref 1] [.int (nI 10), .int (xs0 + ((nI 7) * (m 2 6)))] Φ) := (wp_same (S' := [.int (nI 7), .int xs0]) xd37_7 (Or.inr rfl) rfl).trans ((wp_same xd37_9 (Or.inr rfl) rfl).trans ((wm_getr xd37_10 rfl (show ml_L[1]? = _ from rfl) rfl (Nat.le_of_ble_eq_true rfl)).trans ((wm_geti xd37_13 rfl (show ml_L[2]? = _ from rfl) rfl (Nat.le_of_ble_eq_true rfl)).trans ((wp_same xd37_16 (Or.inr rfl) rfl).trans ((wp_same xd37_17 (Or.inr rfl) rfl).trans ((wp_same (S' := [.int (nI 10), .int (xs0 + ((nI 7) * (m 2 6)))]) xd37_18 (Or.inr rfl) rfl).trans ((wp_same xd37_20 (Or.inr rfl) rfl).trans ((wm_getr xd37_21 rfl (show ml_L[1]? = _ from rfl) rfl (Nat.le_of_ble_eq_true rfl)).trans (wm_cv (As := []) (rest := [.int (nI 10), .int (xs0 + ((nI 7) * (m 2 6)))]) xd37_24 rfl rfl (show ml_L[2]? = _ from rfl) (Nat.le_of_ble_eq_true rfl) (Nat.le_of_ble_eq_true rfl) (Nat.le_of_ble_eq_true rfl) (Nat.le_of_ble_eq_true rfl))))))))))
theorem x37_27 {xs0 : Int32} {xs1 : Int32} {xs2 : Int32} : wp Ln xs 37 27 [.ref 1] [.int xs0, .int xs1, .int xs2] (u, ml_h m lm) Φ = Φ (.inl (some (.int (xs2 + (xs1 * xs0))))) (u, ml_h m lm) := (wp_same xd37_27 (Or.inr rfl) rfl).trans ((wp_same xd37_28 (Or.inr rfl) rfl).trans (wp_fin (v := some (.int (xs2 + (xs1 * xs0)))) xd37_29 (Or.inr rfl) rfl (mj_fin_i rfl)))
/- PickedForms$Column.roomSum -/
theorem xd38_0 : decode (mj_b 38) 0 = .ok (.iconst 0, 1) := by decide +kernel
theorem xd38_1 : decode (mj_b 38) 1 = .ok (.istore_n 1, 1) := by decide +kernel
theorem xd38_2 : decode (mj_b 38) 2 = .ok (.iconst 0, 1) := by decide +kernel
theorem xd38_3 : decode (mj_b 38) 3 = .ok (.istore_n 2, 1) := by decide +kernel
theorem xd38_4 : decode (mj_b 38) 4 = .ok (.iload_n 2, 1) := by decide +kernel
theorem xd38_5 : decode (mj_b 38) 5 = .ok (.aload_n 0, 1) := by decide +kernel
theorem xd38_6 : decode (mj_b 38) 6 = .ok (.getfield 31, 3) := by decide +kernel
theorem xd38_9 : decode (mj_b 38) 9 = .ok (.if_icmp .ge 20, 3) := by decide +kernel
theorem xd38_12 : decode (mj_b 38) 12 = .ok (.iload_n 1, 1) := by decide +kernel
theorem xd38_13 : decode (mj_b 38) 13 = .ok (.aload_n 0, 1) := by decide +kernel
theorem xd38_14 : decode (mj_b 38) 14 = .ok (.getfield 21, 3) := by decide +kernel
theorem xd38_17 : decode (mj_b 38) 17 = .ok (.iload_n 2, 1) := by decide +kernel
theorem xd38_18 : decode (mj_b 38) 18 = .ok (.invokestatic 46, 3) := by decide +kernel
theorem xd38_21 : decode (mj_b 38) 21 = .ok (.iadd, 1) := by decide +kernel
theorem xd38_22 : decode (mj_b 38) 22 = .ok (.istore_n 1, 1) := by decide +kernel
theorem xd38_23 : decode (mj_b 38) 23 = .ok (.iinc 2 1, 3) := by decide +kernel
theorem xd38_26 : decode (mj_b 38) 26 = .ok (.goto (-22), 3) := by decide +kernel
theorem xd38_29 : decode (mj_b 38) 29 = .ok (.iload_n 1, 1) := by decide +kernel
theorem xd38_30 : decode (mj_b 38) 30 = .ok (.ireturn, 1) := by decide +kernel
theorem x38_0 : wp Ln xs 38 0 [.ref 2, mj_hole, mj_hole] [] (u, ml_h m lm) Φ = wp Ln xs 38 4 [.ref 2, .int (nI 0), .int (nI 0)] [] (u, ml_h m lm) Φ := (wp_same (S' := [.int (nI 0)]) xd38_0 (Or.inr rfl) rfl).trans ((wp_same (L' := [.ref 2, .int (nI 0), mj_hole]) xd38_1 (Or.inr rfl) rfl).trans ((wp_same (S' := [.int (nI 0)]) xd38_2 (Or.inr rfl) rfl).trans (wp_same (L' := [.ref 2, .int (nI 0), .int (nI 0)]) xd38_3 (Or.inr rfl) rfl)))
theorem x38_4 {x1 : Int32} {x2 : Int32} : wp Ln xs 38 4 [.ref 2, .int x1, .int x2] [] (u, ml_h m lm) Φ = if (m 2 6) ≤ x2 then wp Ln xs 38 29 [.ref 2, .int x1, .int x2] [] (u, ml_h m lm) Φ else wp Ln xs 38 12 [.ref 2, .int x1, .int x2] [] (u, ml_h m lm) Φ := (wp_same xd38_4 (Or.inr rfl) rfl).trans ((wp_same xd38_5 (Or.inr rfl) rfl).trans ((wm_geti xd38_6 rfl (show ml_L[2]? = _ from rfl) rfl (Nat.le_of_ble_eq_true rfl)).trans (wx_icmp xd38_9 rfl rfl ((m 2 6) ≤ x2) mb_ge)))
theorem x38_12 {x1 : Int32} {x2 : Int32} : wp Ln xs 38 12 [.ref 2, .int x1, .int x2] [] (u, ml_h m lm) Φ = wp Ln xs 17 0 [.ref 6, .int x2] [] (u, ml_h m lm) (mk Ln xs 38 18 [.ref 2, .int x1, .int x2] [.int x1] Φ) := (wp_same xd38_12 (Or.inr rfl) rfl).trans ((wp_same xd38_13 (Or.inr rfl) rfl).trans ((wm_getr xd38_14 rfl (show ml_L[2]? = _ from rfl) rfl (Nat.le_of_ble_eq_true rfl)).trans ((wp_same xd38_17 (Or.inr rfl) rfl).trans (wm_cs (As := [.ref 6, .int x2]) (rest := [.int x1]) xd38_18 rfl rfl (Nat.le_of_ble_eq_true rfl) (Nat.le_of_ble_eq_true rfl) (Nat.le_of_ble_eq_true rfl) (Nat.le_of_ble_eq_true rfl)))))
theorem x38_21 {x1 : Int32} {x2 : Int32} {xs0 : Int32} {xs1 : Int32} : wp Ln xs 38 21 [.ref 2, .int x1, .int x2] [.int xs0, .int xs1] (u, ml_h m lm) Φ = wp Ln xs 38 4 [.ref 2, .int (xs1 + xs0), .int (x2 + nI 1)] [] (u, ml_h m lm) Φ := (wp_same xd38_21 (Or.inr rfl) rfl).trans ((wp_same (L' := [.ref 2, .int (xs1 + xs0), .int x2]) xd38_22 (Or.inr rfl) rfl).trans ((wp_same (L' := [.ref 2, .int (xs1 + xs0), .int (x2 + nI 1)]) xd38_23 (Or.inr rfl) rfl).trans (wx_goto xd38_26 rfl)))
theorem x38_29 {x1 : Int32} {x2 : Int32} : wp Ln xs 38 29 [.ref 2, .int x1, .int x2] [] (u, ml_h m lm) Φ = Φ (.inl (some (.int x1))) (u, ml_h m lm) := (wp_same xd38_29 (Or.inr rfl) rfl).trans (wp_fin (v := some (.int x1)) xd38_30 (Or.inr rfl) rfl (mj_fin_i rfl))
/- PickedForms.usedBits -/
theorem xd39_0 : decode (mj_b 39) 0 = .ok (.iconst 0, 1) := by decide +kernel
theorem xd39_1 : decode (mj_b 39) 1 = .ok (.istore_n 1, 1) := by decide +kernel
theorem xd39_2 : decode (mj_b 39) 2 = .ok (.iconst 0, 1) := by decide +kernel
theorem xd39_3 : decode (mj_b 39) 3 = .ok (.istore_n 2, 1) := by decide +kernel
theorem xd39_4 : decode (mj_b 39) 4 = .ok (.iload_n 2, 1) := by decide +kernel
theorem xd39_5 : decode (mj_b 39) 5 = .ok (.aload_n 0, 1) := by decide +kernel
theorem xd39_6 : decode (mj_b 39) 6 = .ok (.getfield 12, 3) := by decide +kernel
theorem xd39_9 : decode (mj_b 39) 9 = .ok (.getfield 112, 3) := by decide +kernel
theorem xd39_12 : decode (mj_b 39) 12 = .ok (.if_icmp .ge 32, 3) := by decide +kernel
theorem xd39_15 : decode (mj_b 39) 15 = .ok (.aload_n 0, 1) := by decide +kernel
theorem xd39_16 : decode (mj_b 39) 16 = .ok (.iload_n 2, 1) := by decide +kernel
theorem xd39_17 : decode (mj_b 39) 17 = .ok (.invokevirtual 265, 3) := by decide +kernel
theorem xd39_20 : decode (mj_b 39) 20 = .ok (.iload_n 1, 1) := by decide +kernel
theorem xd39_21 : decode (mj_b 39) 21 = .ok (.aload_n 0, 1) := by decide +kernel
theorem xd39_22 : decode (mj_b 39) 22 = .ok (.getfield 40, 3) := by decide +kernel
theorem xd39_25 : decode (mj_b 39) 25 = .ok (.aload_n 0, 1) := by decide +kernel
theorem xd39_26 : decode (mj_b 39) 26 = .ok (.getfield 12, 3) := by decide +kernel
theorem xd39_29 : decode (mj_b 39) 29 = .ok (.iload_n 2, 1) := by decide +kernel
theorem xd39_30 : decode (mj_b 39) 30 = .ok (.invokevirtual 123, 3) := by decide +kernel
theorem xd39_33 : decode (mj_b 39) 33 = .ok (.invokevirtual 268, 3) := by decide +kernel
theorem xd39_36 : decode (mj_b 39) 36 = .ok (.iadd, 1) := by decide +kernel
theorem xd39_37 : decode (mj_b 39) 37 = .ok (.istore_n 1, 1) := by decide +kernel
theorem xd39_38 : decode (mj_b 39) 38 = .ok (.iinc 2 1, 3) := by decide +kernel
theorem xd39_41 : decode (mj_b 39) 41 = .ok (.goto (-37), 3) := by decide +kernel
theorem xd39_44 : decode (mj_b 39) 44 = .ok (.iload_n 1, 1) := by decide +kernel
theorem xd39_45 : decode (mj_b 39) 45 = .ok (.ireturn, 1) := by decide +kernel
theorem x39_0 : wp Ln xs 39 0 [.ref 1, mj_hole, mj_hole] [] (u, ml_h m lm) Φ = wp Ln xs 39 4 [.ref 1, .int (nI 0), .int (nI 0)] [] (u, ml_h m lm) Φ := (wp_same (S' := [.int (nI 0)]) xd39_0 (Or.inr rfl) rfl).trans ((wp_same (L' := [.ref 1, .int (nI 0), mj_hole]) xd39_1 (Or.inr rfl) rfl).trans ((wp_same (S' := [.int (nI 0)]) xd39_2 (Or.inr rfl) rfl).trans (wp_same (L' := [.ref 1, .int (nI 0), .int (nI 0)]) xd39_3 (Or.inr rfl) rfl)))
theorem x39_4 {x1 : Int32} {x2 : Int32} : wp Ln xs 39 4 [.ref 1, .int x1, .int x2] [] (u, ml_h m lm) Φ = if (m 2 6) ≤ x2 then wp Ln xs 39 44 [.ref 1, .int x1, .int x2] [] (u, ml_h m lm) Φ else wp Ln xs 39 15 [.ref 1, .int x1, .int x2] [] (u, ml_h m lm) Φ := (wp_same xd39_4 (Or.inr rfl) rfl).trans ((wp_same xd39_5 (Or.inr rfl) rfl).trans ((wm_getr xd39_6 rfl (show ml_L[1]? = _ from rfl) rfl (Nat.le_of_ble_eq_true rfl)).trans ((wm_geti xd39_9 rfl (show ml_L[2]? = _ from rfl) rfl (Nat.le_of_ble_eq_true rfl)).trans (wx_icmp xd39_12 rfl rfl ((m 2 6) ≤ x2) mb_ge))))
theorem x39_15 {x1 : Int32} {x2 : Int32} : wp Ln xs 39 15 [.ref 1, .int x1, .int x2] [] (u, ml_h m lm) Φ = wp Ln xs 40 0 [.ref 1, .int x2] [] (u, ml_h m lm) (mk Ln xs 39 17 [.ref 1, .int x1, .int x2] [] Φ) := (wp_same xd39_15 (Or.inr rfl) rfl).trans ((wp_same xd39_16 (Or.inr rfl) rfl).trans (wm_cv (As := [.int x2]) (rest := []) xd39_17 rfl rfl (show ml_L[1]? = _ from rfl) (Nat.le_of_ble_eq_true rfl) (Nat.le_of_ble_eq_true rfl) (Nat.le_of_ble_eq_true rfl) (Nat.le_of_ble_eq_true rfl)))
theorem x39_20 {x1 : Int32} {x2 : Int32} : wp Ln xs 39 20 [.ref 1, .int x1, .int x2] [] (u, ml_h m lm) Φ = wp Ln xs 42 0 [.ref 2, .int x2] [] (u, ml_h m lm) (mk Ln xs 39 30 [.ref 1, .int x1, .int x2] [.ref 56, .int x1] Φ) := (wp_same xd39_20 (Or.inr rfl) rfl).trans ((wp_same xd39_21 (Or.inr rfl) rfl).trans ((wm_getr xd39_22 rfl (show ml_L[1]? = _ from rfl) rfl (Nat.le_of_ble_eq_true rfl)).trans ((wp_same xd39_25 (Or.inr rfl) rfl).trans ((wm_getr xd39_26 rfl (show ml_L[1]? = _ from rfl) rfl (Nat.le_of_ble_eq_true rfl)).trans ((wp_same xd39_29 (Or.inr rfl) rfl).trans (wm_cv (As := [.int x2]) (rest := [.ref 56, .int x1]) xd39_30 rfl rfl (show ml_L[2]? = _ from rfl) (Nat.le_of_ble_eq_true rfl) (Nat.le_of_ble_eq_true rfl) (Nat.le_of_ble_eq_true rfl) (Nat.le_of_ble_eq_true rfl)))))))
theorem x39_33 {x1 : Int32} {x2 : Int32} {xs0 : Int32} {xs2 : Int32} : wp Ln xs 39 33 [.ref 1, .int x1, .int x2] [.int xs0, .ref 56, .int xs2] (u, ml_h m lm) Φ = wp Ln xs 27 0 [.ref 56, .int xs0] [] (u, ml_h m lm) (mk Ln xs 39 33 [.ref 1, .int x1, .int x2] [.int xs2] Φ) := wm_cv (As := [.int xs0]) (rest := [.int xs2]) xd39_33 rfl rfl (show ml_L[56]? = _ from rfl) (Nat.le_of_ble_eq_true rfl) (Nat.le_of_ble_eq_true rfl) (Nat.le_of_ble_eq_true rfl) (Nat.le_of_ble_eq_true rfl)
theorem x39_36 {x1 : Int32} {x2 : Int32} {xs0 : Int32} {xs1 : Int32} : wp Ln xs 39 36 [.ref 1, .int x1, .int x2] [.int xs0, .int xs1] (u, ml_h m lm) Φ = wp Ln xs 39 4 [.ref 1, .int (xs1 + xs0), .int (x2 + nI 1)] [] (u, ml_h m lm) Φ := (wp_same xd39_36 (Or.inr rfl) rfl).trans ((wp_same (L' := [.ref 1, .int (xs1 + xs0), .int x2]) xd39_37 (Or.inr rfl) rfl).trans ((wp_same (L' := [.ref 1, .int (xs1 + xs0), .int (x2 + nI 1)]) xd39_38 (Or.inr rfl) rfl).trans (wx_goto xd39_41 rfl)))
theorem x39_44 {x1 : Int32} {x2 : Int32} : wp Ln xs 39 44 [.ref 1, .int x1, .int x2] [] (u, ml_h m lm) Φ = Φ (.inl (some (.int x1))) (u, ml_h m lm) := (wp_same xd39_44 (Or.inr rfl) rfl).trans (wp_fin (v := some (.int x1)) xd39_45 (Or.inr rfl) rfl (mj_fin_i rfl))
/- PickedForms.readShape -/
theorem xd40_0 : decode (mj_b 40) 0 = .ok (.aload_n 0, 1) := by decide +kernel
theorem xd40_1 : decode (mj_b 40) 1 = .ok (.getfield 40, 3) := by decide +kernel
theorem xd40_4 : decode (mj_b 40) 4 = .ok (.aload_n 0, 1) := by decide +kernel
theorem xd40_5 : decode (mj_b 40) 5 = .ok (.getfield 12, 3) := by decide +kernel
theorem xd40_8 : decode (mj_b 40) 8 = .ok (.getfield 139, 3) := by decide +kernel
theorem xd40_11 : decode (mj_b 40) 11 = .ok (.aload_n 0, 1) := by decide +kernel
theorem xd40_12 : decode (mj_b 40) 12 = .ok (.getfield 12, 3) := by decide +kernel
theorem xd40_15 : decode (mj_b 40) 15 = .ok (.iload_n 1, 1) := by decide +kernel
theorem xd40_16 : decode (mj_b 40) 16 = .ok (.invokevirtual 182, 3) := by decide +kernel
theorem xd40_19 : decode (mj_b 40) 19 = .ok (.aload_n 0, 1) := by decide +kernel
theorem xd40_20 : decode (mj_b 40) 20 = .ok (.getfield 12, 3) := by decide +kernel
theorem xd40_23 : decode (mj_b 40) 23 = .ok (.iload_n 1, 1) := by decide +kernel
theorem xd40_24 : decode (mj_b 40) 24 = .ok (.invokevirtual 164, 3) := by decide +kernel
theorem xd40_27 : decode (mj_b 40) 27 = .ok (.invokevirtual 379, 3) := by decide +kernel
theorem xd40_30 : decode (mj_b 40) 30 = .ok (.return_, 1) := by decide +kernel
theorem x40_0 {x1 : Int32} : wp Ln xs 40 0 [.ref 1, .int x1] [] (u, ml_h m lm) Φ = wp Ln xs 19 0 [.ref 2, .int x1, mj_hole, mj_hole] [] (u, ml_h m lm) (mk Ln xs 40 16 [.ref 1, .int x1] [.ref 3, .ref 56] Φ) := (wp_same xd40_0 (Or.inr rfl) rfl).trans ((wm_getr xd40_1 rfl (show ml_L[1]? = _ from rfl) rfl (Nat.le_of_ble_eq_true rfl)).trans ((wp_same xd40_4 (Or.inr rfl) rfl).trans ((wm_getr xd40_5 rfl (show ml_L[1]? = _ from rfl) rfl (Nat.le_of_ble_eq_true rfl)).trans ((wm_getr xd40_8 rfl (show ml_L[2]? = _ from rfl) rfl (Nat.le_of_ble_eq_true rfl)).trans ((wp_same xd40_11 (Or.inr rfl) rfl).trans ((wm_getr xd40_12 rfl (show ml_L[1]? = _ from rfl) rfl (Nat.le_of_ble_eq_true rfl)).trans ((wp_same xd40_15 (Or.inr rfl) rfl).trans (wm_cv (As := [.int x1]) (rest := [.ref 3, .ref 56]) xd40_16 rfl rfl (show ml_L[2]? = _ from rfl) (Nat.le_of_ble_eq_true rfl) (Nat.le_of_ble_eq_true rfl) (Nat.le_of_ble_eq_true rfl) (Nat.le_of_ble_eq_true rfl)))))))))
theorem x40_19 {x1 : Int32} {xs0 : Int32} : wp Ln xs 40 19 [.ref 1, .int x1] [.int xs0, .ref 3, .ref 56] (u, ml_h m lm) Φ = wp Ln xs 20 0 [.ref 2, .int x1] [] (u, ml_h m lm) (mk Ln xs 40 24 [.ref 1, .int x1] [.int xs0, .ref 3, .ref 56] Φ) := (wp_same xd40_19 (Or.inr rfl) rfl).trans ((wm_getr xd40_20 rfl (show ml_L[1]? = _ from rfl) rfl (Nat.le_of_ble_eq_true rfl)).trans ((wp_same xd40_23 (Or.inr rfl) rfl).trans (wm_cv (As := [.int x1]) (rest := [.int xs0, .ref 3, .ref 56]) xd40_24 rfl rfl (show ml_L[2]? = _ from rfl) (Nat.le_of_ble_eq_true rfl) (Nat.le_of_ble_eq_true rfl) (Nat.le_of_ble_eq_true rfl) (Nat.le_of_ble_eq_true rfl))))
theorem x40_27 {x1 : Int32} {xs0 : Int32} {xs1 : Int32} : wp Ln xs 40 27 [.ref 1, .int x1] [.int xs0, .int xs1, .ref 3, .ref 56] (u, ml_h m lm) Φ = wp Ln xs 41 0 [.ref 56, .ref 3, .int xs1, .int xs0, mj_hole] [] (u, ml_h m lm) (mk Ln xs 40 27 [.ref 1, .int x1] [] Φ) := wm_cv (As := [.ref 3, .int xs1, .int xs0]) (rest := []) xd40_27 rfl rfl (show ml_L[56]? = _ from rfl) (Nat.le_of_ble_eq_true rfl) (Nat.le_of_ble_eq_true rfl) (Nat.le_of_ble_eq_true rfl) (Nat.le_of_ble_eq_true rfl)
theorem x40_30 {x1 : Int32} : wp Ln xs 40 30 [.ref 1, .int x1] [] (u, ml_h m lm) Φ = Φ (.inl none) (u, ml_h m lm) := wp_fin (v := none) xd40_30 (Or.inr rfl) rfl rfl
/- PickedForms$Shape.read -/
theorem xd41_0 : decode (mj_b 41) 0 = .ok (.aload_n 0, 1) := by decide +kernel
theorem xd41_1 : decode (mj_b 41) 1 = .ok (.invokevirtual 37, 3) := by decide +kernel
theorem xd41_4 : decode (mj_b 41) 4 = .ok (.iconst 0, 1) := by decide +kernel
theorem xd41_5 : decode (mj_b 41) 5 = .ok (.istore 4, 2) := by decide +kernel
theorem xd41_7 : decode (mj_b 41) 7 = .ok (.iload 4, 2) := by decide +kernel
theorem xd41_9 : decode (mj_b 41) 9 = .ok (.iload_n 3, 1) := by decide +kernel
theorem xd41_10 : decode (mj_b 41) 10 = .ok (.if_icmp .ge 21, 3) := by decide +kernel
theorem xd41_13 : decode (mj_b 41) 13 = .ok (.aload_n 0, 1) := by decide +kernel
theorem xd41_14 : decode (mj_b 41) 14 = .ok (.aload_n 1, 1) := by decide +kernel
theorem xd41_15 : decode (mj_b 41) 15 = .ok (.iload_n 2, 1) := by decide +kernel
theorem xd41_16 : decode (mj_b 41) 16 = .ok (.iload 4, 2) := by decide +kernel
theorem xd41_18 : decode (mj_b 41) 18 = .ok (.iadd, 1) := by decide +kernel
theorem xd41_19 : decode (mj_b 41) 19 = .ok (.invokestatic 40, 3) := by decide +kernel
theorem xd41_22 : decode (mj_b 41) 22 = .ok (.invokevirtual 46, 3) := by decide +kernel
theorem xd41_25 : decode (mj_b 41) 25 = .ok (.iinc 4 1, 3) := by decide +kernel
theorem xd41_28 : decode (mj_b 41) 28 = .ok (.goto (-21), 3) := by decide +kernel
theorem xd41_31 : decode (mj_b 41) 31 = .ok (.return_, 1) := by decide +kernel
theorem x41_0 {p r : Nat} {x2 : Int32} {x3 : Int32} (hp : ml_sh p) : wp Ln xs 41 0 [.ref p, .ref r, .int x2, .int x3, mj_hole] [] (u, ml_h m lm) Φ = wp Ln xs 22 0 [.ref p] [] (u, ml_h m lm) (mk Ln xs 41 1 [.ref p, .ref r, .int x2, .int x3, mj_hole] [] Φ) := (wp_same xd41_0 (Or.inr rfl) rfl).trans (wm_cv (As := []) (rest := []) xd41_1 rfl rfl hp.1 (Nat.le_of_ble_eq_true rfl) (Nat.le_of_ble_eq_true rfl) (Nat.le_of_ble_eq_true rfl) (Nat.le_of_ble_eq_true rfl))
theorem x41_4 {p r : Nat} {x2 : Int32} {x3 : Int32} : wp Ln xs 41 4 [.ref p, .ref r, .int x2, .int x3, mj_hole] [] (u, ml_h m lm) Φ = wp Ln xs 41 7 [.ref p, .ref r, .int x2, .int x3, .int (nI 0)] [] (u, ml_h m lm) Φ := (wp_same (S' := [.int (nI 0)]) xd41_4 (Or.inr rfl) rfl).trans (wp_same (L' := [.ref p, .ref r, .int x2, .int x3, .int (nI 0)]) xd41_5 (Or.inr rfl) rfl)
theorem x41_7 {p r : Nat} {x2 : Int32} {x3 : Int32} {x4 : Int32} : wp Ln xs 41 7 [.ref p, .ref r, .int x2, .int x3, .int x4] [] (u, ml_h m lm) Φ = if x3 ≤ x4 then wp Ln xs 41 31 [.ref p, .ref r, .int x2, .int x3, .int x4] [] (u, ml_h m lm) Φ else wp Ln xs 41 13 [.ref p, .ref r, .int x2, .int x3, .int x4] [] (u, ml_h m lm) Φ := (wp_same xd41_7 (Or.inr rfl) rfl).trans ((wp_same xd41_9 (Or.inr rfl) rfl).trans (wx_icmp xd41_10 rfl rfl (x3 ≤ x4) mb_ge))
theorem x41_13 {p r : Nat} {x2 : Int32} {x3 : Int32} {x4 : Int32} : wp Ln xs 41 13 [.ref p, .ref r, .int x2, .int x3, .int x4] [] (u, ml_h m lm) Φ = wp Ln xs 17 0 [.ref r, .int (x2 + x4)] [] (u, ml_h m lm) (mk Ln xs 41 19 [.ref p, .ref r, .int x2, .int x3, .int x4] [.ref p] Φ) := (wp_same xd41_13 (Or.inr rfl) rfl).trans ((wp_same xd41_14 (Or.inr rfl) rfl).trans ((wp_same xd41_15 (Or.inr rfl) rfl).trans ((wp_same xd41_16 (Or.inr rfl) rfl).trans ((wp_same xd41_18 (Or.inr rfl) rfl).trans (wm_cs (As := [.ref r, .int (x2 + x4)]) (rest := [.ref p]) xd41_19 rfl rfl (Nat.le_of_ble_eq_true rfl) (Nat.le_of_ble_eq_true rfl) (Nat.le_of_ble_eq_true rfl) (Nat.le_of_ble_eq_true rfl))))))
theorem x41_22 {p r : Nat} {x2 : Int32} {x3 : Int32} {x4 : Int32} {xs0 : Int32} (hp : ml_sh p) : wp Ln xs 41 22 [.ref p, .ref r, .int x2, .int x3, .int x4] [.int xs0, .ref p] (u, ml_h m lm) Φ = wp Ln xs 23 0 [.ref p, .int xs0] [] (u, ml_h m lm) (mk Ln xs 41 22 [.ref p, .ref r, .int x2, .int x3, .int x4] [] Φ) := wm_cv (As := [.int xs0]) (rest := []) xd41_22 rfl rfl hp.1 (Nat.le_of_ble_eq_true rfl) (Nat.le_of_ble_eq_true rfl) (Nat.le_of_ble_eq_true rfl) (Nat.le_of_ble_eq_true rfl)
theorem x41_25 {p r : Nat} {x2 : Int32} {x3 : Int32} {x4 : Int32} : wp Ln xs 41 25 [.ref p, .ref r, .int x2, .int x3, .int x4] [] (u, ml_h m lm) Φ = wp Ln xs 41 7 [.ref p, .ref r, .int x2, .int x3, .int (x4 + nI 1)] [] (u, ml_h m lm) Φ := (wp_same (L' := [.ref p, .ref r, .int x2, .int x3, .int (x4 + nI 1)]) xd41_25 (Or.inr rfl) rfl).trans (wx_goto xd41_28 rfl)
theorem x41_31 {p r : Nat} {x2 : Int32} {x3 : Int32} {x4 : Int32} : wp Ln xs 41 31 [.ref p, .ref r, .int x2, .int x3, .int x4] [] (u, ml_h m lm) Φ = Φ (.inl none) (u, ml_h m lm) := wp_fin (v := none) xd41_31 (Or.inr rfl) rfl rfl
/- PickedForms$Column.formOf -/
theorem xd42_0 : decode (mj_b 42) 0 = .ok (.aload_n 0, 1) := by decide +kernel
theorem xd42_1 : decode (mj_b 42) 1 = .ok (.getfield 18, 3) := by decide +kernel
theorem xd42_4 : decode (mj_b 42) 4 = .ok (.iload_n 1, 1) := by decide +kernel
theorem xd42_5 : decode (mj_b 42) 5 = .ok (.invokestatic 46, 3) := by decide +kernel
theorem xd42_8 : decode (mj_b 42) 8 = .ok (.ireturn, 1) := by decide +kernel
theorem x42_0 {x1 : Int32} : wp Ln xs 42 0 [.ref 2, .int x1] [] (u, ml_h m lm) Φ = wp Ln xs 17 0 [.ref 5, .int x1] [] (u, ml_h m lm) (mk Ln xs 42 5 [.ref 2, .int x1] [] Φ) := (wp_same xd42_0 (Or.inr rfl) rfl).trans ((wm_getr xd42_1 rfl (show ml_L[2]? = _ from rfl) rfl (Nat.le_of_ble_eq_true rfl)).trans ((wp_same xd42_4 (Or.inr rfl) rfl).trans (wm_cs (As := [.ref 5, .int x1]) (rest := []) xd42_5 rfl rfl (Nat.le_of_ble_eq_true rfl) (Nat.le_of_ble_eq_true rfl) (Nat.le_of_ble_eq_true rfl) (Nat.le_of_ble_eq_true rfl))))
theorem x42_8 {x1 : Int32} {xs0 : Int32} : wp Ln xs 42 8 [.ref 2, .int x1] [.int xs0] (u, ml_h m lm) Φ = Φ (.inl (some (.int xs0))) (u, ml_h m lm) := wp_fin (v := some (.int xs0)) xd42_8 (Or.inr rfl) rfl (mj_fin_i rfl)
/- PickedForms$Column.sum -/
theorem xd43_0 : decode (mj_b 43) 0 = .ok (.iconst 0, 1) := by decide +kernel
theorem xd43_1 : decode (mj_b 43) 1 = .ok (.istore_n 1, 1) := by decide +kernel
theorem xd43_2 : decode (mj_b 43) 2 = .ok (.iconst 0, 1) := by decide +kernel
theorem xd43_3 : decode (mj_b 43) 3 = .ok (.istore_n 2, 1) := by decide +kernel
theorem xd43_4 : decode (mj_b 43) 4 = .ok (.iload_n 2, 1) := by decide +kernel
theorem xd43_5 : decode (mj_b 43) 5 = .ok (.aload_n 0, 1) := by decide +kernel
theorem xd43_6 : decode (mj_b 43) 6 = .ok (.getfield 27, 3) := by decide +kernel
theorem xd43_9 : decode (mj_b 43) 9 = .ok (.if_icmp .ge 20, 3) := by decide +kernel
theorem xd43_12 : decode (mj_b 43) 12 = .ok (.iload_n 1, 1) := by decide +kernel
theorem xd43_13 : decode (mj_b 43) 13 = .ok (.aload_n 0, 1) := by decide +kernel
theorem xd43_14 : decode (mj_b 43) 14 = .ok (.getfield 9, 3) := by decide +kernel
theorem xd43_17 : decode (mj_b 43) 17 = .ok (.iload_n 2, 1) := by decide +kernel
theorem xd43_18 : decode (mj_b 43) 18 = .ok (.invokestatic 46, 3) := by decide +kernel
theorem xd43_21 : decode (mj_b 43) 21 = .ok (.iadd, 1) := by decide +kernel
theorem xd43_22 : decode (mj_b 43) 22 = .ok (.istore_n 1, 1) := by decide +kernel
theorem xd43_23 : decode (mj_b 43) 23 = .ok (.iinc 2 1, 3) := by decide +kernel
theorem xd43_26 : decode (mj_b 43) 26 = .ok (.goto (-22), 3) := by decide +kernel
theorem xd43_29 : decode (mj_b 43) 29 = .ok (.iload_n 1, 1) := by decide +kernel
theorem xd43_30 : decode (mj_b 43) 30 = .ok (.ireturn, 1) := by decide +kernel
theorem x43_0 : wp Ln xs 43 0 [.ref 2, mj_hole, mj_hole] [] (u, ml_h m lm) Φ = wp Ln xs 43 4 [.ref 2, .int (nI 0), .int (nI 0)] [] (u, ml_h m lm) Φ := (wp_same (S' := [.int (nI 0)]) xd43_0 (Or.inr rfl) rfl).trans ((wp_same (L' := [.ref 2, .int (nI 0), mj_hole]) xd43_1 (Or.inr rfl) rfl).trans ((wp_same (S' := [.int (nI 0)]) xd43_2 (Or.inr rfl) rfl).trans (wp_same (L' := [.ref 2, .int (nI 0), .int (nI 0)]) xd43_3 (Or.inr rfl) rfl)))
theorem x43_4 {x1 : Int32} {x2 : Int32} : wp Ln xs 43 4 [.ref 2, .int x1, .int x2] [] (u, ml_h m lm) Φ = if (m 2 5) ≤ x2 then wp Ln xs 43 29 [.ref 2, .int x1, .int x2] [] (u, ml_h m lm) Φ else wp Ln xs 43 12 [.ref 2, .int x1, .int x2] [] (u, ml_h m lm) Φ := (wp_same xd43_4 (Or.inr rfl) rfl).trans ((wp_same xd43_5 (Or.inr rfl) rfl).trans ((wm_geti xd43_6 rfl (show ml_L[2]? = _ from rfl) rfl (Nat.le_of_ble_eq_true rfl)).trans (wx_icmp xd43_9 rfl rfl ((m 2 5) ≤ x2) mb_ge)))
theorem x43_12 {x1 : Int32} {x2 : Int32} : wp Ln xs 43 12 [.ref 2, .int x1, .int x2] [] (u, ml_h m lm) Φ = wp Ln xs 17 0 [.ref 3, .int x2] [] (u, ml_h m lm) (mk Ln xs 43 18 [.ref 2, .int x1, .int x2] [.int x1] Φ) := (wp_same xd43_12 (Or.inr rfl) rfl).trans ((wp_same xd43_13 (Or.inr rfl) rfl).trans ((wm_getr xd43_14 rfl (show ml_L[2]? = _ from rfl) rfl (Nat.le_of_ble_eq_true rfl)).trans ((wp_same xd43_17 (Or.inr rfl) rfl).trans (wm_cs (As := [.ref 3, .int x2]) (rest := [.int x1]) xd43_18 rfl rfl (Nat.le_of_ble_eq_true rfl) (Nat.le_of_ble_eq_true rfl) (Nat.le_of_ble_eq_true rfl) (Nat.le_of_ble_eq_true rfl)))))
theorem x43_21 {x1 : Int32} {x2 : Int32} {xs0 : Int32} {xs1 : Int32} : wp Ln xs 43 21 [.ref 2, .int x1, .int x2] [.int xs0, .int xs1] (u, ml_h m lm) Φ = wp Ln xs 43 4 [.ref 2, .int (xs1 + xs0), .int (x2 + nI 1)] [] (u, ml_h m lm) Φ := (wp_same xd43_21 (Or.inr rfl) rfl).trans ((wp_same (L' := [.ref 2, .int (xs1 + xs0), .int x2]) xd43_22 (Or.inr rfl) rfl).trans ((wp_same (L' := [.ref 2, .int (xs1 + xs0), .int (x2 + nI 1)]) xd43_23 (Or.inr rfl) rfl).trans (wx_goto xd43_26 rfl)))
theorem x43_29 {x1 : Int32} {x2 : Int32} : wp Ln xs 43 29 [.ref 2, .int x1, .int x2] [] (u, ml_h m lm) Φ = Φ (.inl (some (.int x1))) (u, ml_h m lm) := (wp_same xd43_29 (Or.inr rfl) rfl).trans (wp_fin (v := some (.int x1)) xd43_30 (Or.inr rfl) rfl (mj_fin_i rfl))
/- PickedForms.least -/
theorem xd44_0 : decode (mj_b 44) 0 = .ok (.iload_n 1, 1) := by decide +kernel
theorem xd44_1 : decode (mj_b 44) 1 = .ok (.ifCond .lt 8, 3) := by decide +kernel
theorem xd44_4 : decode (mj_b 44) 4 = .ok (.iload_n 1, 1) := by decide +kernel
theorem xd44_5 : decode (mj_b 44) 5 = .ok (.iconst 2, 1) := by decide +kernel
theorem xd44_6 : decode (mj_b 44) 6 = .ok (.if_icmp .le 14, 3) := by decide +kernel
theorem xd44_9 : decode (mj_b 44) 9 = .ok (.new 80, 3) := by decide +kernel
theorem xd44_20 : decode (mj_b 44) 20 = .ok (.iload_n 1, 1) := by decide +kernel
theorem xd44_21 : decode (mj_b 44) 21 = .ok (.iconst 1, 1) := by decide +kernel
theorem xd44_22 : decode (mj_b 44) 22 = .ok (.if_icmp .ne 15, 3) := by decide +kernel
theorem xd44_25 : decode (mj_b 44) 25 = .ok (.aload_n 0, 1) := by decide +kernel
theorem xd44_26 : decode (mj_b 44) 26 = .ok (.getfield 61, 3) := by decide +kernel
theorem xd44_29 : decode (mj_b 44) 29 = .ok (.aload_n 0, 1) := by decide +kernel
theorem xd44_30 : decode (mj_b 44) 30 = .ok (.getfield 12, 3) := by decide +kernel
theorem xd44_33 : decode (mj_b 44) 33 = .ok (.invokevirtual 301, 3) := by decide +kernel
theorem xd44_36 : decode (mj_b 44) 36 = .ok (.ireturn, 1) := by decide +kernel
theorem xd44_37 : decode (mj_b 44) 37 = .ok (.aload_n 0, 1) := by decide +kernel
theorem xd44_38 : decode (mj_b 44) 38 = .ok (.getfield 61, 3) := by decide +kernel
theorem xd44_41 : decode (mj_b 44) 41 = .ok (.aload_n 0, 1) := by decide +kernel
theorem xd44_42 : decode (mj_b 44) 42 = .ok (.getfield 12, 3) := by decide +kernel
theorem xd44_45 : decode (mj_b 44) 45 = .ok (.invokevirtual 305, 3) := by decide +kernel
theorem xd44_48 : decode (mj_b 44) 48 = .ok (.iload_n 1, 1) := by decide +kernel
theorem xd44_49 : decode (mj_b 44) 49 = .ok (.ifCond .ne 17, 3) := by decide +kernel
theorem xd44_52 : decode (mj_b 44) 52 = .ok (.aload_n 0, 1) := by decide +kernel
theorem xd44_53 : decode (mj_b 44) 53 = .ok (.getfield 61, 3) := by decide +kernel
theorem xd44_56 : decode (mj_b 44) 56 = .ok (.aload_n 0, 1) := by decide +kernel
theorem xd44_57 : decode (mj_b 44) 57 = .ok (.getfield 12, 3) := by decide +kernel
theorem xd44_60 : decode (mj_b 44) 60 = .ok (.invokevirtual 308, 3) := by decide +kernel
theorem xd44_63 : decode (mj_b 44) 63 = .ok (.goto 14, 3) := by decide +kernel
theorem xd44_66 : decode (mj_b 44) 66 = .ok (.aload_n 0, 1) := by decide +kernel
theorem xd44_67 : decode (mj_b 44) 67 = .ok (.getfield 61, 3) := by decide +kernel
theorem xd44_70 : decode (mj_b 44) 70 = .ok (.aload_n 0, 1) := by decide +kernel
theorem xd44_71 : decode (mj_b 44) 71 = .ok (.getfield 12, 3) := by decide +kernel
theorem xd44_74 : decode (mj_b 44) 74 = .ok (.invokevirtual 311, 3) := by decide +kernel
theorem xd44_77 : decode (mj_b 44) 77 = .ok (.ireturn, 1) := by decide +kernel
theorem x44_0 {x1 : Int32} : wp Ln xs 44 0 [.ref 1, .int x1] [] (u, ml_h m lm) Φ = if x1 < (nI 0) then wp Ln xs 44 9 [.ref 1, .int x1] [] (u, ml_h m lm) Φ else wp Ln xs 44 4 [.ref 1, .int x1] [] (u, ml_h m lm) Φ := (wp_same xd44_0 (Or.inr rfl) rfl).trans (wx_if xd44_1 rfl rfl (x1 < (nI 0)) mb_lt)
theorem x44_4 {x1 : Int32} : wp Ln xs 44 4 [.ref 1, .int x1] [] (u, ml_h m lm) Φ = if x1 ≤ (nI 2) then wp Ln xs 44 20 [.ref 1, .int x1] [] (u, ml_h m lm) Φ else wp Ln xs 44 9 [.ref 1, .int x1] [] (u, ml_h m lm) Φ := (wp_same xd44_4 (Or.inr rfl) rfl).trans ((wp_same (S' := [.int (nI 2), .int x1]) xd44_5 (Or.inr rfl) rfl).trans (wx_icmp xd44_6 rfl rfl (x1 ≤ (nI 2)) mb_le))
theorem x44_9 {x1 : Int32} : wp Ln xs 44 9 [.ref 1, .int x1] [] (u, ml_h m lm) Φ = Φ (.inr 0) ((u.1, u.2.1 + 1, u.2.2 + 6), ml_h m lm) := wp_thr xd44_9 (Or.inr rfl) rfl rfl (E := 0) (by decide +kernel)
theorem x44_20 {x1 : Int32} : wp Ln xs 44 20 [.ref 1, .int x1] [] (u, ml_h m lm) Φ = if ¬ x1 = (nI 1) then wp Ln xs 44 37 [.ref 1, .int x1] [] (u, ml_h m lm) Φ else wp Ln xs 44 25 [.ref 1, .int x1] [] (u, ml_h m lm) Φ := (wp_same xd44_20 (Or.inr rfl) rfl).trans ((wp_same (S' := [.int (nI 1), .int x1]) xd44_21 (Or.inr rfl) rfl).trans (wx_icmp xd44_22 rfl rfl (¬ x1 = (nI 1)) mb_ne))
theorem x44_25 {x1 : Int32} : wp Ln xs 44 25 [.ref 1, .int x1] [] (u, ml_h m lm) Φ = wp Ln xs 45 0 [.ref 64, .ref 2, mj_hole, mj_hole, mj_hole, mj_hole] [] (u, ml_h m lm) (mk Ln xs 44 33 [.ref 1, .int x1] [] Φ) := (wp_same xd44_25 (Or.inr rfl) rfl).trans ((wm_getr xd44_26 rfl (show ml_L[1]? = _ from rfl) rfl (Nat.le_of_ble_eq_true rfl)).trans ((wp_same xd44_29 (Or.inr rfl) rfl).trans ((wm_getr xd44_30 rfl (show ml_L[1]? = _ from rfl) rfl (Nat.le_of_ble_eq_true rfl)).trans (wm_cv (As := [.ref 2]) (rest := []) xd44_33 rfl rfl (show ml_L[64]? = _ from rfl) (Nat.le_of_ble_eq_true rfl) (Nat.le_of_ble_eq_true rfl) (Nat.le_of_ble_eq_true rfl) (Nat.le_of_ble_eq_true rfl)))))
theorem x44_36 {x1 : Int32} {xs0 : Int32} : wp Ln xs 44 36 [.ref 1, .int x1] [.int xs0] (u, ml_h m lm) Φ = Φ (.inl (some (.int xs0))) (u, ml_h m lm) := wp_fin (v := some (.int xs0)) xd44_36 (Or.inr rfl) rfl (mj_fin_i rfl)
theorem x44_37 {x1 : Int32} : wp Ln xs 44 37 [.ref 1, .int x1] [] (u, ml_h m lm) Φ = wp Ln xs 49 0 [.ref 64, .ref 2, mj_hole, mj_hole, mj_hole, mj_hole] [] (u, ml_h m lm) (mk Ln xs 44 45 [.ref 1, .int x1] [] Φ) := (wp_same xd44_37 (Or.inr rfl) rfl).trans ((wm_getr xd44_38 rfl (show ml_L[1]? = _ from rfl) rfl (Nat.le_of_ble_eq_true rfl)).trans ((wp_same xd44_41 (Or.inr rfl) rfl).trans ((wm_getr xd44_42 rfl (show ml_L[1]? = _ from rfl) rfl (Nat.le_of_ble_eq_true rfl)).trans (wm_cv (As := [.ref 2]) (rest := []) xd44_45 rfl rfl (show ml_L[64]? = _ from rfl) (Nat.le_of_ble_eq_true rfl) (Nat.le_of_ble_eq_true rfl) (Nat.le_of_ble_eq_true rfl) (Nat.le_of_ble_eq_true rfl)))))
theorem x44_48 {x1 : Int32} : wp Ln xs 44 48 [.ref 1, .int x1] [] (u, ml_h m lm) Φ = if ¬ x1 = (nI 0) then wp Ln xs 44 66 [.ref 1, .int x1] [] (u, ml_h m lm) Φ else wp Ln xs 44 52 [.ref 1, .int x1] [] (u, ml_h m lm) Φ := (wp_same xd44_48 (Or.inr rfl) rfl).trans (wx_if xd44_49 rfl rfl (¬ x1 = (nI 0)) mb_ne)
theorem x44_52 {x1 : Int32} : wp Ln xs 44 52 [.ref 1, .int x1] [] (u, ml_h m lm) Φ = wp Ln xs 50 0 [.ref 64, .ref 2] [] (u, ml_h m lm) (mk Ln xs 44 60 [.ref 1, .int x1] [] Φ) := (wp_same xd44_52 (Or.inr rfl) rfl).trans ((wm_getr xd44_53 rfl (show ml_L[1]? = _ from rfl) rfl (Nat.le_of_ble_eq_true rfl)).trans ((wp_same xd44_56 (Or.inr rfl) rfl).trans ((wm_getr xd44_57 rfl (show ml_L[1]? = _ from rfl) rfl (Nat.le_of_ble_eq_true rfl)).trans (wm_cv (As := [.ref 2]) (rest := []) xd44_60 rfl rfl (show ml_L[64]? = _ from rfl) (Nat.le_of_ble_eq_true rfl) (Nat.le_of_ble_eq_true rfl) (Nat.le_of_ble_eq_true rfl) (Nat.le_of_ble_eq_true rfl)))))
theorem x44_63 {x1 : Int32} {xs0 : Int32} : wp Ln xs 44 63 [.ref 1, .int x1] [.int xs0] (u, ml_h m lm) Φ = Φ (.inl (some (.int xs0))) (u, ml_h m lm) := (wx_goto xd44_63 rfl).trans (wp_fin (v := some (.int xs0)) xd44_77 (Or.inr rfl) rfl (mj_fin_i rfl))
theorem x44_66 {x1 : Int32} : wp Ln xs 44 66 [.ref 1, .int x1] [] (u, ml_h m lm) Φ = wp Ln xs 51 0 [.ref 64, .ref 2] [] (u, ml_h m lm) (mk Ln xs 44 74 [.ref 1, .int x1] [] Φ) := (wp_same xd44_66 (Or.inr rfl) rfl).trans ((wm_getr xd44_67 rfl (show ml_L[1]? = _ from rfl) rfl (Nat.le_of_ble_eq_true rfl)).trans ((wp_same xd44_70 (Or.inr rfl) rfl).trans ((wm_getr xd44_71 rfl (show ml_L[1]? = _ from rfl) rfl (Nat.le_of_ble_eq_true rfl)).trans (wm_cv (As := [.ref 2]) (rest := []) xd44_74 rfl rfl (show ml_L[64]? = _ from rfl) (Nat.le_of_ble_eq_true rfl) (Nat.le_of_ble_eq_true rfl) (Nat.le_of_ble_eq_true rfl) (Nat.le_of_ble_eq_true rfl)))))
theorem x44_77 {x1 : Int32} {xs0 : Int32} : wp Ln xs 44 77 [.ref 1, .int x1] [.int xs0] (u, ml_h m lm) Φ = Φ (.inl (some (.int xs0))) (u, ml_h m lm) := wp_fin (v := some (.int xs0)) xd44_77 (Or.inr rfl) rfl (mj_fin_i rfl)
/- PickedForms$Parting.bitsFromLast -/
theorem xd45_0 : decode (mj_b 45) 0 = .ok (.aload_n 1, 1) := by decide +kernel
theorem xd45_1 : decode (mj_b 45) 1 = .ok (.iconst 2, 1) := by decide +kernel
theorem xd45_2 : decode (mj_b 45) 2 = .ok (.invokevirtual 25, 3) := by decide +kernel
theorem xd45_5 : decode (mj_b 45) 5 = .ok (.istore_n 2, 1) := by decide +kernel
theorem xd45_6 : decode (mj_b 45) 6 = .ok (.aload_n 0, 1) := by decide +kernel
theorem xd45_7 : decode (mj_b 45) 7 = .ok (.aload_n 1, 1) := by decide +kernel
theorem xd45_8 : decode (mj_b 45) 8 = .ok (.getfield 31, 3) := by decide +kernel
theorem xd45_11 : decode (mj_b 45) 11 = .ok (.aload_n 1, 1) := by decide +kernel
theorem xd45_12 : decode (mj_b 45) 12 = .ok (.getfield 31, 3) := by decide +kernel
theorem xd45_15 : decode (mj_b 45) 15 = .ok (.invokevirtual 35, 3) := by decide +kernel
theorem xd45_18 : decode (mj_b 45) 18 = .ok (.aload_n 1, 1) := by decide +kernel
theorem xd45_19 : decode (mj_b 45) 19 = .ok (.getfield 31, 3) := by decide +kernel
theorem xd45_22 : decode (mj_b 45) 22 = .ok (.iconst 1, 1) := by decide +kernel
theorem xd45_23 : decode (mj_b 45) 23 = .ok (.isub, 1) := by decide +kernel
theorem xd45_24 : decode (mj_b 45) 24 = .ok (.istore_n 3, 1) := by decide +kernel
theorem xd45_25 : decode (mj_b 45) 25 = .ok (.iload_n 3, 1) := by decide +kernel
theorem xd45_26 : decode (mj_b 45) 26 = .ok (.ifCond .lt 100, 3) := by decide +kernel
theorem xd45_29 : decode (mj_b 45) 29 = .ok (.bipush 16, 2) := by decide +kernel
theorem xd45_31 : decode (mj_b 45) 31 = .ok (.aload_n 1, 1) := by decide +kernel
theorem xd45_32 : decode (mj_b 45) 32 = .ok (.getfield 31, 3) := by decide +kernel
theorem xd45_35 : decode (mj_b 45) 35 = .ok (.iload_n 3, 1) := by decide +kernel
theorem xd45_36 : decode (mj_b 45) 36 = .ok (.isub, 1) := by decide +kernel
theorem xd45_37 : decode (mj_b 45) 37 = .ok (.invokestatic 39, 3) := by decide +kernel
theorem xd45_40 : decode (mj_b 45) 40 = .ok (.istore 4, 2) := by decide +kernel
theorem xd45_42 : decode (mj_b 45) 42 = .ok (.aload_n 0, 1) := by decide +kernel
theorem xd45_43 : decode (mj_b 45) 43 = .ok (.getfield 12, 3) := by decide +kernel
theorem xd45_46 : decode (mj_b 45) 46 = .ok (.invokevirtual 45, 3) := by decide +kernel
theorem xd45_49 : decode (mj_b 45) 49 = .ok (.iconst 1, 1) := by decide +kernel
theorem xd45_50 : decode (mj_b 45) 50 = .ok (.istore 5, 2) := by decide +kernel
theorem xd45_52 : decode (mj_b 45) 52 = .ok (.iload 5, 2) := by decide +kernel
theorem xd45_54 : decode (mj_b 45) 54 = .ok (.iload 4, 2) := by decide +kernel
theorem xd45_56 : decode (mj_b 45) 56 = .ok (.if_icmp .gt 64, 3) := by decide +kernel
theorem xd45_59 : decode (mj_b 45) 59 = .ok (.aload_n 0, 1) := by decide +kernel
theorem xd45_60 : decode (mj_b 45) 60 = .ok (.getfield 12, 3) := by decide +kernel
theorem xd45_63 : decode (mj_b 45) 63 = .ok (.aload_n 1, 1) := by decide +kernel
theorem xd45_64 : decode (mj_b 45) 64 = .ok (.getfield 48, 3) := by decide +kernel
theorem xd45_67 : decode (mj_b 45) 67 = .ok (.iload_n 3, 1) := by decide +kernel
theorem xd45_68 : decode (mj_b 45) 68 = .ok (.iload 5, 2) := by decide +kernel
theorem xd45_70 : decode (mj_b 45) 70 = .ok (.iadd, 1) := by decide +kernel
theorem xd45_71 : decode (mj_b 45) 71 = .ok (.iconst 1, 1) := by decide +kernel
theorem xd45_72 : decode (mj_b 45) 72 = .ok (.isub, 1) := by decide +kernel
theorem xd45_73 : decode (mj_b 45) 73 = .ok (.invokestatic 51, 3) := by decide +kernel
theorem xd45_76 : decode (mj_b 45) 76 = .ok (.invokevirtual 57, 3) := by decide +kernel
theorem xd45_79 : decode (mj_b 45) 79 = .ok (.aload_n 0, 1) := by decide +kernel
theorem xd45_80 : decode (mj_b 45) 80 = .ok (.iload_n 3, 1) := by decide +kernel
theorem xd45_81 : decode (mj_b 45) 81 = .ok (.aload_n 0, 1) := by decide +kernel
theorem xd45_82 : decode (mj_b 45) 82 = .ok (.getfield 18, 3) := by decide +kernel
theorem xd45_85 : decode (mj_b 45) 85 = .ok (.iload_n 3, 1) := by decide +kernel
theorem xd45_86 : decode (mj_b 45) 86 = .ok (.iload 5, 2) := by decide +kernel
theorem xd45_88 : decode (mj_b 45) 88 = .ok (.iadd, 1) := by decide +kernel
theorem xd45_89 : decode (mj_b 45) 89 = .ok (.invokestatic 51, 3) := by decide +kernel
theorem xd45_92 : decode (mj_b 45) 92 = .ok (.aload_n 0, 1) := by decide +kernel
theorem xd45_93 : decode (mj_b 45) 93 = .ok (.iload_n 2, 1) := by decide +kernel
theorem xd45_94 : decode (mj_b 45) 94 = .ok (.invokevirtual 61, 3) := by decide +kernel
theorem xd45_97 : decode (mj_b 45) 97 = .ok (.iadd, 1) := by decide +kernel
theorem xd45_98 : decode (mj_b 45) 98 = .ok (.aload_n 0, 1) := by decide +kernel
theorem xd45_99 : decode (mj_b 45) 99 = .ok (.getfield 22, 3) := by decide +kernel
theorem xd45_102 : decode (mj_b 45) 102 = .ok (.iload_n 3, 1) := by decide +kernel
theorem xd45_103 : decode (mj_b 45) 103 = .ok (.iload 5, 2) := by decide +kernel
theorem xd45_105 : decode (mj_b 45) 105 = .ok (.iadd, 1) := by decide +kernel
theorem xd45_106 : decode (mj_b 45) 106 = .ok (.invokestatic 51, 3) := by decide +kernel
theorem xd45_109 : decode (mj_b 45) 109 = .ok (.iconst 1, 1) := by decide +kernel
theorem xd45_110 : decode (mj_b 45) 110 = .ok (.iadd, 1) := by decide +kernel
theorem xd45_111 : decode (mj_b 45) 111 = .ok (.invokevirtual 64, 3) := by decide +kernel
theorem xd45_114 : decode (mj_b 45) 114 = .ok (.iinc 5 1, 3) := by decide +kernel
theorem xd45_117 : decode (mj_b 45) 117 = .ok (.goto (-65), 3) := by decide +kernel
theorem xd45_120 : decode (mj_b 45) 120 = .ok (.iinc 3 (-1), 3) := by decide +kernel
theorem xd45_123 : decode (mj_b 45) 123 = .ok (.goto (-98), 3) := by decide +kernel
theorem xd45_126 : decode (mj_b 45) 126 = .ok (.aload_n 0, 1) := by decide +kernel
theorem xd45_127 : decode (mj_b 45) 127 = .ok (.getfield 18, 3) := by decide +kernel
theorem xd45_130 : decode (mj_b 45) 130 = .ok (.iconst 0, 1) := by decide +kernel
theorem xd45_131 : decode (mj_b 45) 131 = .ok (.invokestatic 51, 3) := by decide +kernel
theorem xd45_134 : decode (mj_b 45) 134 = .ok (.ireturn, 1) := by decide +kernel
theorem x45_0 : wp Ln xs 45 0 [.ref 64, .ref 2, mj_hole, mj_hole, mj_hole, mj_hole] [] (u, ml_h m lm) Φ = wp Ln xs 33 0 [.ref 2, .int (nI 2)] [] (u, ml_h m lm) (mk Ln xs 45 2 [.ref 64, .ref 2, mj_hole, mj_hole, mj_hole, mj_hole] [] Φ) := (wp_same xd45_0 (Or.inr rfl) rfl).trans ((wp_same (S' := [.int (nI 2), .ref 2]) xd45_1 (Or.inr rfl) rfl).trans (wm_cv (As := [.int (nI 2)]) (rest := []) xd45_2 rfl rfl (show ml_L[2]? = _ from rfl) (Nat.le_of_ble_eq_true rfl) (Nat.le_of_ble_eq_true rfl) (Nat.le_of_ble_eq_true rfl) (Nat.le_of_ble_eq_true rfl)))
theorem x45_5 {xs0 : Int32} : wp Ln xs 45 5 [.ref 64, .ref 2, mj_hole, mj_hole, mj_hole, mj_hole] [.int xs0] (u, ml_h m lm) Φ = wp Ln xs 46 0 [.ref 64, .int (m 2 5), .int (m 2 5), mj_hole] [] (u, ml_h m lm) (mk Ln xs 45 15 [.ref 64, .ref 2, .int xs0, mj_hole, mj_hole, mj_hole] [] Φ) := (wp_same (L' := [.ref 64, .ref 2, .int xs0, mj_hole, mj_hole, mj_hole]) xd45_5 (Or.inr rfl) rfl).trans ((wp_same xd45_6 (Or.inr rfl) rfl).trans ((wp_same xd45_7 (Or.inr rfl) rfl).trans ((wm_geti xd45_8 rfl (show ml_L[2]? = _ from rfl) rfl (Nat.le_of_ble_eq_true rfl)).trans ((wp_same xd45_11 (Or.inr rfl) rfl).trans ((wm_geti xd45_12 rfl (show ml_L[2]? = _ from rfl) rfl (Nat.le_of_ble_eq_true rfl)).trans (wm_cv (As := [.int (m 2 5), .int (m 2 5)]) (rest := []) xd45_15 rfl rfl (show ml_L[64]? = _ from rfl) (Nat.le_of_ble_eq_true rfl) (Nat.le_of_ble_eq_true rfl) (Nat.le_of_ble_eq_true rfl) (Nat.le_of_ble_eq_true rfl)))))))
theorem x45_18 {x2 : Int32} : wp Ln xs 45 18 [.ref 64, .ref 2, .int x2, mj_hole, mj_hole, mj_hole] [] (u, ml_h m lm) Φ = wp Ln xs 45 25 [.ref 64, .ref 2, .int x2, .int ((m 2 5) - (nI 1)), mj_hole, mj_hole] [] (u, ml_h m lm) Φ := (wp_same xd45_18 (Or.inr rfl) rfl).trans ((wm_geti xd45_19 rfl (show ml_L[2]? = _ from rfl) rfl (Nat.le_of_ble_eq_true rfl)).trans ((wp_same (S' := [.int (nI 1), .int (m 2 5)]) xd45_22 (Or.inr rfl) rfl).trans ((wp_same xd45_23 (Or.inr rfl) rfl).trans (wp_same (L' := [.ref 64, .ref 2, .int x2, .int ((m 2 5) - (nI 1)), mj_hole, mj_hole]) xd45_24 (Or.inr rfl) rfl))))
theorem x45_25 {x2 : Int32} {x3 : Int32} {v4 : Value} {v5 : Value} : wp Ln xs 45 25 [.ref 64, .ref 2, .int x2, .int x3, v4, v5] [] (u, ml_h m lm) Φ = if x3 < (nI 0) then wp Ln xs 45 126 [.ref 64, .ref 2, .int x2, .int x3, v4, v5] [] (u, ml_h m lm) Φ else wp Ln xs 45 29 [.ref 64, .ref 2, .int x2, .int x3, v4, v5] [] (u, ml_h m lm) Φ := (wp_same xd45_25 (Or.inr rfl) rfl).trans (wx_if xd45_26 rfl rfl (x3 < (nI 0)) mb_lt)
theorem x45_29 {x2 : Int32} {x3 : Int32} {v4 : Value} {v5 : Value} : wp Ln xs 45 29 [.ref 64, .ref 2, .int x2, .int x3, v4, v5] [] (u, ml_h m lm) Φ = wp Ln xs 22 0 [.ref 65] [] (u, ml_h m lm) (mk Ln xs 45 46 [.ref 64, .ref 2, .int x2, .int x3, .int (if ((m 2 5) - x3) < (nI 16) then (m 2 5) - x3 else nI 16), v5] [] Φ) := (wp_same (S' := [.int (nI 16)]) xd45_29 (Or.inr rfl) rfl).trans ((wp_same xd45_31 (Or.inr rfl) rfl).trans ((wm_geti xd45_32 rfl (show ml_L[2]? = _ from rfl) rfl (Nat.le_of_ble_eq_true rfl)).trans ((wp_same xd45_35 (Or.inr rfl) rfl).trans ((wp_same xd45_36 (Or.inr rfl) rfl).trans ((wm_min xd45_37 rfl (Nat.le_of_ble_eq_true rfl) (Nat.le_of_ble_eq_true rfl) (Nat.le_of_ble_eq_true rfl)).trans ((wp_same (L' := [.ref 64, .ref 2, .int x2, .int x3, .int (if ((m 2 5) - x3) < (nI 16) then (m 2 5) - x3 else nI 16), v5]) xd45_40 (Or.inr rfl) rfl).trans ((wp_same xd45_42 (Or.inr rfl) rfl).trans ((wm_getr xd45_43 rfl (show ml_L[64]? = _ from rfl) rfl (Nat.le_of_ble_eq_true rfl)).trans (wm_cv (As := []) (rest := []) xd45_46 rfl rfl (show ml_L[65]? = _ from rfl) (Nat.le_of_ble_eq_true rfl) (Nat.le_of_ble_eq_true rfl) (Nat.le_of_ble_eq_true rfl) (Nat.le_of_ble_eq_true rfl))))))))))
theorem x45_49 {x2 : Int32} {x3 : Int32} {x4 : Int32} {v5 : Value} : wp Ln xs 45 49 [.ref 64, .ref 2, .int x2, .int x3, .int x4, v5] [] (u, ml_h m lm) Φ = wp Ln xs 45 52 [.ref 64, .ref 2, .int x2, .int x3, .int x4, .int (nI 1)] [] (u, ml_h m lm) Φ := (wp_same (S' := [.int (nI 1)]) xd45_49 (Or.inr rfl) rfl).trans (wp_same (L' := [.ref 64, .ref 2, .int x2, .int x3, .int x4, .int (nI 1)]) xd45_50 (Or.inr rfl) rfl)
theorem x45_52 {x2 : Int32} {x3 : Int32} {x4 : Int32} {x5 : Int32} : wp Ln xs 45 52 [.ref 64, .ref 2, .int x2, .int x3, .int x4, .int x5] [] (u, ml_h m lm) Φ = if x4 < x5 then wp Ln xs 45 120 [.ref 64, .ref 2, .int x2, .int x3, .int x4, .int x5] [] (u, ml_h m lm) Φ else wp Ln xs 45 59 [.ref 64, .ref 2, .int x2, .int x3, .int x4, .int x5] [] (u, ml_h m lm) Φ := (wp_same xd45_52 (Or.inr rfl) rfl).trans ((wp_same xd45_54 (Or.inr rfl) rfl).trans (wx_icmp xd45_56 rfl rfl (x4 < x5) mb_gt))
theorem x45_59 {x2 : Int32} {x3 : Int32} {x4 : Int32} {x5 : Int32} : wp Ln xs 45 59 [.ref 64, .ref 2, .int x2, .int x3, .int x4, .int x5] [] (u, ml_h m lm) Φ = wp Ln xs 17 0 [.ref 3, .int ((x3 + x5) - (nI 1))] [] (u, ml_h m lm) (mk Ln xs 45 73 [.ref 64, .ref 2, .int x2, .int x3, .int x4, .int x5] [.ref 65] Φ) := (wp_same xd45_59 (Or.inr rfl) rfl).trans ((wm_getr xd45_60 rfl (show ml_L[64]? = _ from rfl) rfl (Nat.le_of_ble_eq_true rfl)).trans ((wp_same xd45_63 (Or.inr rfl) rfl).trans ((wm_getr xd45_64 rfl (show ml_L[2]? = _ from rfl) rfl (Nat.le_of_ble_eq_true rfl)).trans ((wp_same xd45_67 (Or.inr rfl) rfl).trans ((wp_same xd45_68 (Or.inr rfl) rfl).trans ((wp_same xd45_70 (Or.inr rfl) rfl).trans ((wp_same (S' := [.int (nI 1), .int (x3 + x5), .ref 3, .ref 65]) xd45_71 (Or.inr rfl) rfl).trans ((wp_same xd45_72 (Or.inr rfl) rfl).trans (wm_cs (As := [.ref 3, .int ((x3 + x5) - (nI 1))]) (rest := [.ref 65]) xd45_73 rfl rfl (Nat.le_of_ble_eq_true rfl) (Nat.le_of_ble_eq_true rfl) (Nat.le_of_ble_eq_true rfl) (Nat.le_of_ble_eq_true rfl))))))))))
theorem x45_76 {x2 : Int32} {x3 : Int32} {x4 : Int32} {x5 : Int32} {xs0 : Int32} : wp Ln xs 45 76 [.ref 64, .ref 2, .int x2, .int x3, .int x4, .int x5] [.int xs0, .ref 65] (u, ml_h m lm) Φ = wp Ln xs 23 0 [.ref 65, .int xs0] [] (u, ml_h m lm) (mk Ln xs 45 76 [.ref 64, .ref 2, .int x2, .int x3, .int x4, .int x5] [] Φ) := wm_cv (As := [.int xs0]) (rest := []) xd45_76 rfl rfl (show ml_L[65]? = _ from rfl) (Nat.le_of_ble_eq_true rfl) (Nat.le_of_ble_eq_true rfl) (Nat.le_of_ble_eq_true rfl) (Nat.le_of_ble_eq_true rfl)
theorem x45_79 {x2 : Int32} {x3 : Int32} {x4 : Int32} {x5 : Int32} : wp Ln xs 45 79 [.ref 64, .ref 2, .int x2, .int x3, .int x4, .int x5] [] (u, ml_h m lm) Φ = wp Ln xs 17 0 [.ref 67, .int (x3 + x5)] [] (u, ml_h m lm) (mk Ln xs 45 89 [.ref 64, .ref 2, .int x2, .int x3, .int x4, .int x5] [.int x3, .ref 64] Φ) := (wp_same xd45_79 (Or.inr rfl) rfl).trans ((wp_same xd45_80 (Or.inr rfl) rfl).trans ((wp_same xd45_81 (Or.inr rfl) rfl).trans ((wm_getr xd45_82 rfl (show ml_L[64]? = _ from rfl) rfl (Nat.le_of_ble_eq_true rfl)).trans ((wp_same xd45_85 (Or.inr rfl) rfl).trans ((wp_same xd45_86 (Or.inr rfl) rfl).trans ((wp_same xd45_88 (Or.inr rfl) rfl).trans (wm_cs (As := [.ref 67, .int (x3 + x5)]) (rest := [.int x3, .ref 64]) xd45_89 rfl rfl (Nat.le_of_ble_eq_true rfl) (Nat.le_of_ble_eq_true rfl) (Nat.le_of_ble_eq_true rfl) (Nat.le_of_ble_eq_true rfl))))))))
theorem x45_92 {x2 : Int32} {x3 : Int32} {x4 : Int32} {x5 : Int32} {xs0 : Int32} {xs1 : Int32} : wp Ln xs 45 92 [.ref 64, .ref 2, .int x2, .int x3, .int x4, .int x5] [.int xs0, .int xs1, .ref 64] (u, ml_h m lm) Φ = wp Ln xs 47 0 [.ref 64, .int x2] [] (u, ml_h m lm) (mk Ln xs 45 94 [.ref 64, .ref 2, .int x2, .int x3, .int x4, .int x5] [.int xs0, .int xs1, .ref 64] Φ) := (wp_same xd45_92 (Or.inr rfl) rfl).trans ((wp_same xd45_93 (Or.inr rfl) rfl).trans (wm_cv (As := [.int x2]) (rest := [.int xs0, .int xs1, .ref 64]) xd45_94 rfl rfl (show ml_L[64]? = _ from rfl) (Nat.le_of_ble_eq_true rfl) (Nat.le_of_ble_eq_true rfl) (Nat.le_of_ble_eq_true rfl) (Nat.le_of_ble_eq_true rfl)))
theorem x45_97 {x2 : Int32} {x3 : Int32} {x4 : Int32} {x5 : Int32} {xs0 : Int32} {xs1 : Int32} {xs2 : Int32} : wp Ln xs 45 97 [.ref 64, .ref 2, .int x2, .int x3, .int x4, .int x5] [.int xs0, .int xs1, .int xs2, .ref 64] (u, ml_h m lm) Φ = wp Ln xs 17 0 [.ref 68, .int (x3 + x5)] [] (u, ml_h m lm) (mk Ln xs 45 106 [.ref 64, .ref 2, .int x2, .int x3, .int x4, .int x5] [.int (xs1 + xs0), .int xs2, .ref 64] Φ) := (wp_same xd45_97 (Or.inr rfl) rfl).trans ((wp_same xd45_98 (Or.inr rfl) rfl).trans ((wm_getr xd45_99 rfl (show ml_L[64]? = _ from rfl) rfl (Nat.le_of_ble_eq_true rfl)).trans ((wp_same xd45_102 (Or.inr rfl) rfl).trans ((wp_same xd45_103 (Or.inr rfl) rfl).trans ((wp_same xd45_105 (Or.inr rfl) rfl).trans (wm_cs (As := [.ref 68, .int (x3 + x5)]) (rest := [.int (xs1 + xs0), .int xs2, .ref 64]) xd45_106 rfl rfl (Nat.le_of_ble_eq_true rfl) (Nat.le_of_ble_eq_true rfl) (Nat.le_of_ble_eq_true rfl) (Nat.le_of_ble_eq_true rfl)))))))
theorem x45_109 {x2 : Int32} {x3 : Int32} {x4 : Int32} {x5 : Int32} {xs0 : Int32} {xs1 : Int32} {xs2 : Int32} : wp Ln xs 45 109 [.ref 64, .ref 2, .int x2, .int x3, .int x4, .int x5] [.int xs0, .int xs1, .int xs2, .ref 64] (u, ml_h m lm) Φ = wp Ln xs 48 0 [.ref 64, .int xs2, .int xs1, .int (xs0 + (nI 1)), mj_hole] [] (u, ml_h m lm) (mk Ln xs 45 111 [.ref 64, .ref 2, .int x2, .int x3, .int x4, .int x5] [] Φ) := (wp_same (S' := [.int (nI 1), .int xs0, .int xs1, .int xs2, .ref 64]) xd45_109 (Or.inr rfl) rfl).trans ((wp_same xd45_110 (Or.inr rfl) rfl).trans (wm_cv (As := [.int xs2, .int xs1, .int (xs0 + (nI 1))]) (rest := []) xd45_111 rfl rfl (show ml_L[64]? = _ from rfl) (Nat.le_of_ble_eq_true rfl) (Nat.le_of_ble_eq_true rfl) (Nat.le_of_ble_eq_true rfl) (Nat.le_of_ble_eq_true rfl)))
theorem x45_114 {x2 : Int32} {x3 : Int32} {x4 : Int32} {x5 : Int32} : wp Ln xs 45 114 [.ref 64, .ref 2, .int x2, .int x3, .int x4, .int x5] [] (u, ml_h m lm) Φ = wp Ln xs 45 52 [.ref 64, .ref 2, .int x2, .int x3, .int x4, .int (x5 + nI 1)] [] (u, ml_h m lm) Φ := (wp_same (L' := [.ref 64, .ref 2, .int x2, .int x3, .int x4, .int (x5 + nI 1)]) xd45_114 (Or.inr rfl) rfl).trans (wx_goto xd45_117 rfl)
theorem x45_120 {x2 : Int32} {x3 : Int32} {x4 : Int32} {x5 : Int32} : wp Ln xs 45 120 [.ref 64, .ref 2, .int x2, .int x3, .int x4, .int x5] [] (u, ml_h m lm) Φ = wp Ln xs 45 25 [.ref 64, .ref 2, .int x2, .int (x3 + (-1)), .int x4, .int x5] [] (u, ml_h m lm) Φ := (wp_same (L' := [.ref 64, .ref 2, .int x2, .int (x3 + (-1)), .int x4, .int x5]) xd45_120 (Or.inr rfl) rfl).trans (wx_goto xd45_123 rfl)
theorem x45_126 {x2 : Int32} {x3 : Int32} {v4 : Value} {v5 : Value} : wp Ln xs 45 126 [.ref 64, .ref 2, .int x2, .int x3, v4, v5] [] (u, ml_h m lm) Φ = wp Ln xs 17 0 [.ref 67, .int (nI 0)] [] (u, ml_h m lm) (mk Ln xs 45 131 [.ref 64, .ref 2, .int x2, .int x3, v4, v5] [] Φ) := (wp_same xd45_126 (Or.inr rfl) rfl).trans ((wm_getr xd45_127 rfl (show ml_L[64]? = _ from rfl) rfl (Nat.le_of_ble_eq_true rfl)).trans ((wp_same (S' := [.int (nI 0), .ref 67]) xd45_130 (Or.inr rfl) rfl).trans (wm_cs (As := [.ref 67, .int (nI 0)]) (rest := []) xd45_131 rfl rfl (Nat.le_of_ble_eq_true rfl) (Nat.le_of_ble_eq_true rfl) (Nat.le_of_ble_eq_true rfl) (Nat.le_of_ble_eq_true rfl))))
theorem x45_134 {x2 : Int32} {x3 : Int32} {v4 : Value} {v5 : Value} {xs0 : Int32} : wp Ln xs 45 134 [.ref 64, .ref 2, .int x2, .int x3, v4, v5] [.int xs0] (u, ml_h m lm) Φ = Φ (.inl (some (.int xs0))) (u, ml_h m lm) := wp_fin (v := some (.int xs0)) xd45_134 (Or.inr rfl) rfl (mj_fin_i rfl)
/- PickedForms$Parting.forget -/
theorem xd46_0 : decode (mj_b 46) 0 = .ok (.iconst 0, 1) := by decide +kernel
theorem xd46_1 : decode (mj_b 46) 1 = .ok (.istore_n 3, 1) := by decide +kernel
theorem xd46_2 : decode (mj_b 46) 2 = .ok (.iload_n 3, 1) := by decide +kernel
theorem xd46_3 : decode (mj_b 46) 3 = .ok (.iload_n 2, 1) := by decide +kernel
theorem xd46_4 : decode (mj_b 46) 4 = .ok (.if_icmp .gt 28, 3) := by decide +kernel
theorem xd46_7 : decode (mj_b 46) 7 = .ok (.aload_n 0, 1) := by decide +kernel
theorem xd46_8 : decode (mj_b 46) 8 = .ok (.getfield 18, 3) := by decide +kernel
theorem xd46_11 : decode (mj_b 46) 11 = .ok (.iload_n 3, 1) := by decide +kernel
theorem xd46_12 : decode (mj_b 46) 12 = .ok (.ldc 68, 2) := by decide +kernel
theorem xd46_14 : decode (mj_b 46) 14 = .ok (.invokestatic 69, 3) := by decide +kernel
theorem xd46_17 : decode (mj_b 46) 17 = .ok (.aload_n 0, 1) := by decide +kernel
theorem xd46_18 : decode (mj_b 46) 18 = .ok (.getfield 22, 3) := by decide +kernel
theorem xd46_21 : decode (mj_b 46) 21 = .ok (.iload_n 3, 1) := by decide +kernel
theorem xd46_22 : decode (mj_b 46) 22 = .ok (.iconst 0, 1) := by decide +kernel
theorem xd46_23 : decode (mj_b 46) 23 = .ok (.invokestatic 69, 3) := by decide +kernel
theorem xd46_26 : decode (mj_b 46) 26 = .ok (.iinc 3 1, 3) := by decide +kernel
theorem xd46_29 : decode (mj_b 46) 29 = .ok (.goto (-27), 3) := by decide +kernel
theorem xd46_32 : decode (mj_b 46) 32 = .ok (.aload_n 0, 1) := by decide +kernel
theorem xd46_33 : decode (mj_b 46) 33 = .ok (.getfield 18, 3) := by decide +kernel
theorem xd46_36 : decode (mj_b 46) 36 = .ok (.iload_n 1, 1) := by decide +kernel
theorem xd46_37 : decode (mj_b 46) 37 = .ok (.iconst 0, 1) := by decide +kernel
theorem xd46_38 : decode (mj_b 46) 38 = .ok (.invokestatic 69, 3) := by decide +kernel
theorem xd46_41 : decode (mj_b 46) 41 = .ok (.return_, 1) := by decide +kernel
theorem x46_0 {x1 : Int32} {x2 : Int32} : wp Ln xs 46 0 [.ref 64, .int x1, .int x2, mj_hole] [] (u, ml_h m lm) Φ = wp Ln xs 46 2 [.ref 64, .int x1, .int x2, .int (nI 0)] [] (u, ml_h m lm) Φ := (wp_same (S' := [.int (nI 0)]) xd46_0 (Or.inr rfl) rfl).trans (wp_same (L' := [.ref 64, .int x1, .int x2, .int (nI 0)]) xd46_1 (Or.inr rfl) rfl)
theorem x46_2 {x1 : Int32} {x2 : Int32} {x3 : Int32} : wp Ln xs 46 2 [.ref 64, .int x1, .int x2, .int x3] [] (u, ml_h m lm) Φ = if x2 < x3 then wp Ln xs 46 32 [.ref 64, .int x1, .int x2, .int x3] [] (u, ml_h m lm) Φ else wp Ln xs 46 7 [.ref 64, .int x1, .int x2, .int x3] [] (u, ml_h m lm) Φ := (wp_same xd46_2 (Or.inr rfl) rfl).trans ((wp_same xd46_3 (Or.inr rfl) rfl).trans (wx_icmp xd46_4 rfl rfl (x2 < x3) mb_gt))
theorem x46_7 {x1 : Int32} {x2 : Int32} {x3 : Int32} : wp Ln xs 46 7 [.ref 64, .int x1, .int x2, .int x3] [] (u, ml_h m lm) Φ = wp Ln xs 29 0 [.ref 67, .int x3, .int (nI 1000000)] [] (u, ml_h m lm) (mk Ln xs 46 14 [.ref 64, .int x1, .int x2, .int x3] [] Φ) := (wp_same xd46_7 (Or.inr rfl) rfl).trans ((wm_getr xd46_8 rfl (show ml_L[64]? = _ from rfl) rfl (Nat.le_of_ble_eq_true rfl)).trans ((wp_same xd46_11 (Or.inr rfl) rfl).trans ((wm_ldc (v := .int (nI 1000000)) xd46_12 rfl rfl ⟨rfl, rfl⟩).trans (wm_cs (As := [.ref 67, .int x3, .int (nI 1000000)]) (rest := []) xd46_14 rfl rfl (Nat.le_of_ble_eq_true rfl) (Nat.le_of_ble_eq_true rfl) (Nat.le_of_ble_eq_true rfl) (Nat.le_of_ble_eq_true rfl)))))
theorem x46_17 {x1 : Int32} {x2 : Int32} {x3 : Int32} : wp Ln xs 46 17 [.ref 64, .int x1, .int x2, .int x3] [] (u, ml_h m lm) Φ = wp Ln xs 29 0 [.ref 68, .int x3, .int (nI 0)] [] (u, ml_h m lm) (mk Ln xs 46 23 [.ref 64, .int x1, .int x2, .int x3] [] Φ) := (wp_same xd46_17 (Or.inr rfl) rfl).trans ((wm_getr xd46_18 rfl (show ml_L[64]? = _ from rfl) rfl (Nat.le_of_ble_eq_true rfl)).trans ((wp_same xd46_21 (Or.inr rfl) rfl).trans ((wp_same (S' := [.int (nI 0), .int x3, .ref 68]) xd46_22 (Or.inr rfl) rfl).trans (wm_cs (As := [.ref 68, .int x3, .int (nI 0)]) (rest := []) xd46_23 rfl rfl (Nat.le_of_ble_eq_true rfl) (Nat.le_of_ble_eq_true rfl) (Nat.le_of_ble_eq_true rfl) (Nat.le_of_ble_eq_true rfl)))))
theorem x46_26 {x1 : Int32} {x2 : Int32} {x3 : Int32} : wp Ln xs 46 26 [.ref 64, .int x1, .int x2, .int x3] [] (u, ml_h m lm) Φ = wp Ln xs 46 2 [.ref 64, .int x1, .int x2, .int (x3 + nI 1)] [] (u, ml_h m lm) Φ := (wp_same (L' := [.ref 64, .int x1, .int x2, .int (x3 + nI 1)]) xd46_26 (Or.inr rfl) rfl).trans (wx_goto xd46_29 rfl)
theorem x46_32 {x1 : Int32} {x2 : Int32} {x3 : Int32} : wp Ln xs 46 32 [.ref 64, .int x1, .int x2, .int x3] [] (u, ml_h m lm) Φ = wp Ln xs 29 0 [.ref 67, .int x1, .int (nI 0)] [] (u, ml_h m lm) (mk Ln xs 46 38 [.ref 64, .int x1, .int x2, .int x3] [] Φ) := (wp_same xd46_32 (Or.inr rfl) rfl).trans ((wm_getr xd46_33 rfl (show ml_L[64]? = _ from rfl) rfl (Nat.le_of_ble_eq_true rfl)).trans ((wp_same xd46_36 (Or.inr rfl) rfl).trans ((wp_same (S' := [.int (nI 0), .int x1, .ref 67]) xd46_37 (Or.inr rfl) rfl).trans (wm_cs (As := [.ref 67, .int x1, .int (nI 0)]) (rest := []) xd46_38 rfl rfl (Nat.le_of_ble_eq_true rfl) (Nat.le_of_ble_eq_true rfl) (Nat.le_of_ble_eq_true rfl) (Nat.le_of_ble_eq_true rfl)))))
theorem x46_41 {x1 : Int32} {x2 : Int32} {x3 : Int32} : wp Ln xs 46 41 [.ref 64, .int x1, .int x2, .int x3] [] (u, ml_h m lm) Φ = Φ (.inl none) (u, ml_h m lm) := wp_fin (v := none) xd46_41 (Or.inr rfl) rfl rfl
/- PickedForms$Parting.blockBits -/
theorem xd47_0 : decode (mj_b 47) 0 = .ok (.bipush 7, 2) := by decide +kernel
theorem xd47_2 : decode (mj_b 47) 2 = .ok (.aload_n 0, 1) := by decide +kernel
theorem xd47_3 : decode (mj_b 47) 3 = .ok (.getfield 12, 3) := by decide +kernel
theorem xd47_6 : decode (mj_b 47) 6 = .ok (.aload_n 0, 1) := by decide +kernel
theorem xd47_7 : decode (mj_b 47) 7 = .ok (.getfield 12, 3) := by decide +kernel
theorem xd47_10 : decode (mj_b 47) 10 = .ok (.iload_n 1, 1) := by decide +kernel
theorem xd47_11 : decode (mj_b 47) 11 = .ok (.invokevirtual 73, 3) := by decide +kernel
theorem xd47_14 : decode (mj_b 47) 14 = .ok (.invokevirtual 76, 3) := by decide +kernel
theorem xd47_17 : decode (mj_b 47) 17 = .ok (.iadd, 1) := by decide +kernel
theorem xd47_18 : decode (mj_b 47) 18 = .ok (.ireturn, 1) := by decide +kernel
theorem x47_0 {x1 : Int32} : wp Ln xs 47 0 [.ref 64, .int x1] [] (u, ml_h m lm) Φ = wp Ln xs 26 0 [.ref 65, .int x1, mj_hole, mj_hole, mj_hole, mj_hole] [] (u, ml_h m lm) (mk Ln xs 47 11 [.ref 64, .int x1] [.ref 65, .int (nI 7)] Φ) := (wp_same (S' := [.int (nI 7)]) xd47_0 (Or.inr rfl) rfl).trans ((wp_same xd47_2 (Or.inr rfl) rfl).trans ((wm_getr xd47_3 rfl (show ml_L[64]? = _ from rfl) rfl (Nat.le_of_ble_eq_true rfl)).trans ((wp_same xd47_6 (Or.inr rfl) rfl).trans ((wm_getr xd47_7 rfl (show ml_L[64]? = _ from rfl) rfl (Nat.le_of_ble_eq_true rfl)).trans ((wp_same xd47_10 (Or.inr rfl) rfl).trans (wm_cv (As := [.int x1]) (rest := [.ref 65, .int (nI 7)]) xd47_11 rfl rfl (show ml_L[65]? = _ from rfl) (Nat.le_of_ble_eq_true rfl) (Nat.le_of_ble_eq_true rfl) (Nat.le_of_ble_eq_true rfl) (Nat.le_of_ble_eq_true rfl)))))))
theorem x47_14 {x1 : Int32} {xs0 : Int32} {xs2 : Int32} : wp Ln xs 47 14 [.ref 64, .int x1] [.int xs0, .ref 65, .int xs2] (u, ml_h m lm) Φ = wp Ln xs 27 0 [.ref 65, .int xs0] [] (u, ml_h m lm) (mk Ln xs 47 14 [.ref 64, .int x1] [.int xs2] Φ) := wm_cv (As := [.int xs0]) (rest := [.int xs2]) xd47_14 rfl rfl (show ml_L[65]? = _ from rfl) (Nat.le_of_ble_eq_true rfl) (Nat.le_of_ble_eq_true rfl) (Nat.le_of_ble_eq_true rfl) (Nat.le_of_ble_eq_true rfl)
theorem x47_17 {x1 : Int32} {xs0 : Int32} {xs1 : Int32} : wp Ln xs 47 17 [.ref 64, .int x1] [.int xs0, .int xs1] (u, ml_h m lm) Φ = Φ (.inl (some (.int (xs1 + xs0)))) (u, ml_h m lm) := (wp_same xd47_17 (Or.inr rfl) rfl).trans (wp_fin (v := some (.int (xs1 + xs0))) xd47_18 (Or.inr rfl) rfl (mj_fin_i rfl))
/- PickedForms$Parting.offer -/
theorem xd48_0 : decode (mj_b 48) 0 = .ok (.aload_n 0, 1) := by decide +kernel
theorem xd48_1 : decode (mj_b 48) 1 = .ok (.getfield 18, 3) := by decide +kernel
theorem xd48_4 : decode (mj_b 48) 4 = .ok (.iload_n 1, 1) := by decide +kernel
theorem xd48_5 : decode (mj_b 48) 5 = .ok (.invokestatic 51, 3) := by decide +kernel
theorem xd48_8 : decode (mj_b 48) 8 = .ok (.istore 4, 2) := by decide +kernel
theorem xd48_10 : decode (mj_b 48) 10 = .ok (.iload_n 2, 1) := by decide +kernel
theorem xd48_11 : decode (mj_b 48) 11 = .ok (.iload 4, 2) := by decide +kernel
theorem xd48_13 : decode (mj_b 48) 13 = .ok (.if_icmp .lt 21, 3) := by decide +kernel
theorem xd48_16 : decode (mj_b 48) 16 = .ok (.iload_n 2, 1) := by decide +kernel
theorem xd48_17 : decode (mj_b 48) 17 = .ok (.iload 4, 2) := by decide +kernel
theorem xd48_19 : decode (mj_b 48) 19 = .ok (.if_icmp .ne 33, 3) := by decide +kernel
theorem xd48_22 : decode (mj_b 48) 22 = .ok (.iload_n 3, 1) := by decide +kernel
theorem xd48_23 : decode (mj_b 48) 23 = .ok (.aload_n 0, 1) := by decide +kernel
theorem xd48_24 : decode (mj_b 48) 24 = .ok (.getfield 22, 3) := by decide +kernel
theorem xd48_27 : decode (mj_b 48) 27 = .ok (.iload_n 1, 1) := by decide +kernel
theorem xd48_28 : decode (mj_b 48) 28 = .ok (.invokestatic 51, 3) := by decide +kernel
theorem xd48_31 : decode (mj_b 48) 31 = .ok (.if_icmp .ge 21, 3) := by decide +kernel
theorem xd48_34 : decode (mj_b 48) 34 = .ok (.aload_n 0, 1) := by decide +kernel
theorem xd48_35 : decode (mj_b 48) 35 = .ok (.getfield 18, 3) := by decide +kernel
theorem xd48_38 : decode (mj_b 48) 38 = .ok (.iload_n 1, 1) := by decide +kernel
theorem xd48_39 : decode (mj_b 48) 39 = .ok (.iload_n 2, 1) := by decide +kernel
theorem xd48_40 : decode (mj_b 48) 40 = .ok (.invokestatic 69, 3) := by decide +kernel
theorem xd48_43 : decode (mj_b 48) 43 = .ok (.aload_n 0, 1) := by decide +kernel
theorem xd48_44 : decode (mj_b 48) 44 = .ok (.getfield 22, 3) := by decide +kernel
theorem xd48_47 : decode (mj_b 48) 47 = .ok (.iload_n 1, 1) := by decide +kernel
theorem xd48_48 : decode (mj_b 48) 48 = .ok (.iload_n 3, 1) := by decide +kernel
theorem xd48_49 : decode (mj_b 48) 49 = .ok (.invokestatic 69, 3) := by decide +kernel
theorem xd48_52 : decode (mj_b 48) 52 = .ok (.return_, 1) := by decide +kernel
theorem x48_0 {x1 : Int32} {x2 : Int32} {x3 : Int32} : wp Ln xs 48 0 [.ref 64, .int x1, .int x2, .int x3, mj_hole] [] (u, ml_h m lm) Φ = wp Ln xs 17 0 [.ref 67, .int x1] [] (u, ml_h m lm) (mk Ln xs 48 5 [.ref 64, .int x1, .int x2, .int x3, mj_hole] [] Φ) := (wp_same xd48_0 (Or.inr rfl) rfl).trans ((wm_getr xd48_1 rfl (show ml_L[64]? = _ from rfl) rfl (Nat.le_of_ble_eq_true rfl)).trans ((wp_same xd48_4 (Or.inr rfl) rfl).trans (wm_cs (As := [.ref 67, .int x1]) (rest := []) xd48_5 rfl rfl (Nat.le_of_ble_eq_true rfl) (Nat.le_of_ble_eq_true rfl) (Nat.le_of_ble_eq_true rfl) (Nat.le_of_ble_eq_true rfl))))
theorem x48_8 {x1 : Int32} {x2 : Int32} {x3 : Int32} {xs0 : Int32} : wp Ln xs 48 8 [.ref 64, .int x1, .int x2, .int x3, mj_hole] [.int xs0] (u, ml_h m lm) Φ = if x2 < xs0 then wp Ln xs 48 34 [.ref 64, .int x1, .int x2, .int x3, .int xs0] [] (u, ml_h m lm) Φ else wp Ln xs 48 16 [.ref 64, .int x1, .int x2, .int x3, .int xs0] [] (u, ml_h m lm) Φ := (wp_same (L' := [.ref 64, .int x1, .int x2, .int x3, .int xs0]) xd48_8 (Or.inr rfl) rfl).trans ((wp_same xd48_10 (Or.inr rfl) rfl).trans ((wp_same xd48_11 (Or.inr rfl) rfl).trans (wx_icmp xd48_13 rfl rfl (x2 < xs0) mb_lt)))
theorem x48_16 {x1 : Int32} {x2 : Int32} {x3 : Int32} {x4 : Int32} : wp Ln xs 48 16 [.ref 64, .int x1, .int x2, .int x3, .int x4] [] (u, ml_h m lm) Φ = if ¬ x2 = x4 then wp Ln xs 48 52 [.ref 64, .int x1, .int x2, .int x3, .int x4] [] (u, ml_h m lm) Φ else wp Ln xs 48 22 [.ref 64, .int x1, .int x2, .int x3, .int x4] [] (u, ml_h m lm) Φ := (wp_same xd48_16 (Or.inr rfl) rfl).trans ((wp_same xd48_17 (Or.inr rfl) rfl).trans (wx_icmp xd48_19 rfl rfl (¬ x2 = x4) mb_ne))
theorem x48_22 {x1 : Int32} {x2 : Int32} {x3 : Int32} {x4 : Int32} : wp Ln xs 48 22 [.ref 64, .int x1, .int x2, .int x3, .int x4] [] (u, ml_h m lm) Φ = wp Ln xs 17 0 [.ref 68, .int x1] [] (u, ml_h m lm) (mk Ln xs 48 28 [.ref 64, .int x1, .int x2, .int x3, .int x4] [.int x3] Φ) := (wp_same xd48_22 (Or.inr rfl) rfl).trans ((wp_same xd48_23 (Or.inr rfl) rfl).trans ((wm_getr xd48_24 rfl (show ml_L[64]? = _ from rfl) rfl (Nat.le_of_ble_eq_true rfl)).trans ((wp_same xd48_27 (Or.inr rfl) rfl).trans (wm_cs (As := [.ref 68, .int x1]) (rest := [.int x3]) xd48_28 rfl rfl (Nat.le_of_ble_eq_true rfl) (Nat.le_of_ble_eq_true rfl) (Nat.le_of_ble_eq_true rfl) (Nat.le_of_ble_eq_true rfl)))))
theorem x48_31 {x1 : Int32} {x2 : Int32} {x3 : Int32} {x4 : Int32} {xs0 : Int32} {xs1 : Int32} : wp Ln xs 48 31 [.ref 64, .int x1, .int x2, .int x3, .int x4] [.int xs0, .int xs1] (u, ml_h m lm) Φ = if xs0 ≤ xs1 then wp Ln xs 48 52 [.ref 64, .int x1, .int x2, .int x3, .int x4] [] (u, ml_h m lm) Φ else wp Ln xs 48 34 [.ref 64, .int x1, .int x2, .int x3, .int x4] [] (u, ml_h m lm) Φ := wx_icmp xd48_31 rfl rfl (xs0 ≤ xs1) mb_ge
theorem x48_34 {x1 : Int32} {x2 : Int32} {x3 : Int32} {x4 : Int32} : wp Ln xs 48 34 [.ref 64, .int x1, .int x2, .int x3, .int x4] [] (u, ml_h m lm) Φ = wp Ln xs 29 0 [.ref 67, .int x1, .int x2] [] (u, ml_h m lm) (mk Ln xs 48 40 [.ref 64, .int x1, .int x2, .int x3, .int x4] [] Φ) := (wp_same xd48_34 (Or.inr rfl) rfl).trans ((wm_getr xd48_35 rfl (show ml_L[64]? = _ from rfl) rfl (Nat.le_of_ble_eq_true rfl)).trans ((wp_same xd48_38 (Or.inr rfl) rfl).trans ((wp_same xd48_39 (Or.inr rfl) rfl).trans (wm_cs (As := [.ref 67, .int x1, .int x2]) (rest := []) xd48_40 rfl rfl (Nat.le_of_ble_eq_true rfl) (Nat.le_of_ble_eq_true rfl) (Nat.le_of_ble_eq_true rfl) (Nat.le_of_ble_eq_true rfl)))))
theorem x48_43 {x1 : Int32} {x2 : Int32} {x3 : Int32} {x4 : Int32} : wp Ln xs 48 43 [.ref 64, .int x1, .int x2, .int x3, .int x4] [] (u, ml_h m lm) Φ = wp Ln xs 29 0 [.ref 68, .int x1, .int x3] [] (u, ml_h m lm) (mk Ln xs 48 49 [.ref 64, .int x1, .int x2, .int x3, .int x4] [] Φ) := (wp_same xd48_43 (Or.inr rfl) rfl).trans ((wm_getr xd48_44 rfl (show ml_L[64]? = _ from rfl) rfl (Nat.le_of_ble_eq_true rfl)).trans ((wp_same xd48_47 (Or.inr rfl) rfl).trans ((wp_same xd48_48 (Or.inr rfl) rfl).trans (wm_cs (As := [.ref 68, .int x1, .int x3]) (rest := []) xd48_49 rfl rfl (Nat.le_of_ble_eq_true rfl) (Nat.le_of_ble_eq_true rfl) (Nat.le_of_ble_eq_true rfl) (Nat.le_of_ble_eq_true rfl)))))
theorem x48_52 {x1 : Int32} {x2 : Int32} {x3 : Int32} {x4 : Int32} : wp Ln xs 48 52 [.ref 64, .int x1, .int x2, .int x3, .int x4] [] (u, ml_h m lm) Φ = Φ (.inl none) (u, ml_h m lm) := wp_fin (v := none) xd48_52 (Or.inr rfl) rfl rfl
/- PickedForms$Parting.readFromFirst -/
theorem xd49_0 : decode (mj_b 49) 0 = .ok (.aload_n 1, 1) := by decide +kernel
theorem xd49_1 : decode (mj_b 49) 1 = .ok (.iconst 2, 1) := by decide +kernel
theorem xd49_2 : decode (mj_b 49) 2 = .ok (.invokevirtual 25, 3) := by decide +kernel
theorem xd49_5 : decode (mj_b 49) 5 = .ok (.istore_n 2, 1) := by decide +kernel
theorem xd49_6 : decode (mj_b 49) 6 = .ok (.aload_n 0, 1) := by decide +kernel
theorem xd49_7 : decode (mj_b 49) 7 = .ok (.iconst 0, 1) := by decide +kernel
theorem xd49_8 : decode (mj_b 49) 8 = .ok (.aload_n 1, 1) := by decide +kernel
theorem xd49_9 : decode (mj_b 49) 9 = .ok (.getfield 31, 3) := by decide +kernel
theorem xd49_12 : decode (mj_b 49) 12 = .ok (.invokevirtual 35, 3) := by decide +kernel
theorem xd49_15 : decode (mj_b 49) 15 = .ok (.iconst 0, 1) := by decide +kernel
theorem xd49_16 : decode (mj_b 49) 16 = .ok (.istore_n 3, 1) := by decide +kernel
theorem xd49_17 : decode (mj_b 49) 17 = .ok (.iload_n 3, 1) := by decide +kernel
theorem xd49_18 : decode (mj_b 49) 18 = .ok (.aload_n 1, 1) := by decide +kernel
theorem xd49_19 : decode (mj_b 49) 19 = .ok (.getfield 31, 3) := by decide +kernel
theorem xd49_22 : decode (mj_b 49) 22 = .ok (.if_icmp .ge 97, 3) := by decide +kernel
theorem xd49_25 : decode (mj_b 49) 25 = .ok (.bipush 16, 2) := by decide +kernel
theorem xd49_27 : decode (mj_b 49) 27 = .ok (.aload_n 1, 1) := by decide +kernel
theorem xd49_28 : decode (mj_b 49) 28 = .ok (.getfield 31, 3) := by decide +kernel
theorem xd49_31 : decode (mj_b 49) 31 = .ok (.iload_n 3, 1) := by decide +kernel
theorem xd49_32 : decode (mj_b 49) 32 = .ok (.isub, 1) := by decide +kernel
theorem xd49_33 : decode (mj_b 49) 33 = .ok (.invokestatic 39, 3) := by decide +kernel
theorem xd49_36 : decode (mj_b 49) 36 = .ok (.istore 4, 2) := by decide +kernel
theorem xd49_38 : decode (mj_b 49) 38 = .ok (.aload_n 0, 1) := by decide +kernel
theorem xd49_39 : decode (mj_b 49) 39 = .ok (.getfield 12, 3) := by decide +kernel
theorem xd49_42 : decode (mj_b 49) 42 = .ok (.invokevirtual 45, 3) := by decide +kernel
theorem xd49_45 : decode (mj_b 49) 45 = .ok (.iconst 1, 1) := by decide +kernel
theorem xd49_46 : decode (mj_b 49) 46 = .ok (.istore 5, 2) := by decide +kernel
theorem xd49_48 : decode (mj_b 49) 48 = .ok (.iload 5, 2) := by decide +kernel
theorem xd49_50 : decode (mj_b 49) 50 = .ok (.iload 4, 2) := by decide +kernel
theorem xd49_52 : decode (mj_b 49) 52 = .ok (.if_icmp .gt 61, 3) := by decide +kernel
theorem xd49_55 : decode (mj_b 49) 55 = .ok (.aload_n 0, 1) := by decide +kernel
theorem xd49_56 : decode (mj_b 49) 56 = .ok (.getfield 12, 3) := by decide +kernel
theorem xd49_59 : decode (mj_b 49) 59 = .ok (.aload_n 1, 1) := by decide +kernel
theorem xd49_60 : decode (mj_b 49) 60 = .ok (.getfield 48, 3) := by decide +kernel
theorem xd49_63 : decode (mj_b 49) 63 = .ok (.iload_n 3, 1) := by decide +kernel
theorem xd49_64 : decode (mj_b 49) 64 = .ok (.iload 5, 2) := by decide +kernel
theorem xd49_66 : decode (mj_b 49) 66 = .ok (.iadd, 1) := by decide +kernel
theorem xd49_67 : decode (mj_b 49) 67 = .ok (.iconst 1, 1) := by decide +kernel
theorem xd49_68 : decode (mj_b 49) 68 = .ok (.isub, 1) := by decide +kernel
theorem xd49_69 : decode (mj_b 49) 69 = .ok (.invokestatic 51, 3) := by decide +kernel
theorem xd49_72 : decode (mj_b 49) 72 = .ok (.invokevirtual 57, 3) := by decide +kernel
theorem xd49_75 : decode (mj_b 49) 75 = .ok (.aload_n 0, 1) := by decide +kernel
theorem xd49_76 : decode (mj_b 49) 76 = .ok (.iload_n 3, 1) := by decide +kernel
theorem xd49_77 : decode (mj_b 49) 77 = .ok (.iload 5, 2) := by decide +kernel
theorem xd49_79 : decode (mj_b 49) 79 = .ok (.iadd, 1) := by decide +kernel
theorem xd49_80 : decode (mj_b 49) 80 = .ok (.aload_n 0, 1) := by decide +kernel
theorem xd49_81 : decode (mj_b 49) 81 = .ok (.getfield 18, 3) := by decide +kernel
theorem xd49_84 : decode (mj_b 49) 84 = .ok (.iload_n 3, 1) := by decide +kernel
theorem xd49_85 : decode (mj_b 49) 85 = .ok (.invokestatic 51, 3) := by decide +kernel
theorem xd49_88 : decode (mj_b 49) 88 = .ok (.aload_n 0, 1) := by decide +kernel
theorem xd49_89 : decode (mj_b 49) 89 = .ok (.iload_n 2, 1) := by decide +kernel
theorem xd49_90 : decode (mj_b 49) 90 = .ok (.invokevirtual 61, 3) := by decide +kernel
theorem xd49_93 : decode (mj_b 49) 93 = .ok (.iadd, 1) := by decide +kernel
theorem xd49_94 : decode (mj_b 49) 94 = .ok (.aload_n 0, 1) := by decide +kernel
theorem xd49_95 : decode (mj_b 49) 95 = .ok (.getfield 22, 3) := by decide +kernel
theorem xd49_98 : decode (mj_b 49) 98 = .ok (.iload_n 3, 1) := by decide +kernel
theorem xd49_99 : decode (mj_b 49) 99 = .ok (.invokestatic 51, 3) := by decide +kernel
theorem xd49_102 : decode (mj_b 49) 102 = .ok (.iconst 1, 1) := by decide +kernel
theorem xd49_103 : decode (mj_b 49) 103 = .ok (.iadd, 1) := by decide +kernel
theorem xd49_104 : decode (mj_b 49) 104 = .ok (.invokevirtual 64, 3) := by decide +kernel
theorem xd49_107 : decode (mj_b 49) 107 = .ok (.iinc 5 1, 3) := by decide +kernel
theorem xd49_110 : decode (mj_b 49) 110 = .ok (.goto (-62), 3) := by decide +kernel
theorem xd49_113 : decode (mj_b 49) 113 = .ok (.iinc 3 1, 3) := by decide +kernel
theorem xd49_116 : decode (mj_b 49) 116 = .ok (.goto (-99), 3) := by decide +kernel
theorem xd49_119 : decode (mj_b 49) 119 = .ok (.return_, 1) := by decide +kernel
theorem x49_0 : wp Ln xs 49 0 [.ref 64, .ref 2, mj_hole, mj_hole, mj_hole, mj_hole] [] (u, ml_h m lm) Φ = wp Ln xs 33 0 [.ref 2, .int (nI 2)] [] (u, ml_h m lm) (mk Ln xs 49 2 [.ref 64, .ref 2, mj_hole, mj_hole, mj_hole, mj_hole] [] Φ) := (wp_same xd49_0 (Or.inr rfl) rfl).trans ((wp_same (S' := [.int (nI 2), .ref 2]) xd49_1 (Or.inr rfl) rfl).trans (wm_cv (As := [.int (nI 2)]) (rest := []) xd49_2 rfl rfl (show ml_L[2]? = _ from rfl) (Nat.le_of_ble_eq_true rfl) (Nat.le_of_ble_eq_true rfl) (Nat.le_of_ble_eq_true rfl) (Nat.le_of_ble_eq_true rfl)))
theorem x49_5 {xs0 : Int32} : wp Ln xs 49 5 [.ref 64, .ref 2, mj_hole, mj_hole, mj_hole, mj_hole] [.int xs0] (u, ml_h m lm) Φ = wp Ln xs 46 0 [.ref 64, .int (nI 0), .int (m 2 5), mj_hole] [] (u, ml_h m lm) (mk Ln xs 49 12 [.ref 64, .ref 2, .int xs0, mj_hole, mj_hole, mj_hole] [] Φ) := (wp_same (L' := [.ref 64, .ref 2, .int xs0, mj_hole, mj_hole, mj_hole]) xd49_5 (Or.inr rfl) rfl).trans ((wp_same xd49_6 (Or.inr rfl) rfl).trans ((wp_same (S' := [.int (nI 0), .ref 64]) xd49_7 (Or.inr rfl) rfl).trans ((wp_same xd49_8 (Or.inr rfl) rfl).trans ((wm_geti xd49_9 rfl (show ml_L[2]? = _ from rfl) rfl (Nat.le_of_ble_eq_true rfl)).trans (wm_cv (As := [.int (nI 0), .int (m 2 5)]) (rest := []) xd49_12 rfl rfl (show ml_L[64]? = _ from rfl) (Nat.le_of_ble_eq_true rfl) (Nat.le_of_ble_eq_true rfl) (Nat.le_of_ble_eq_true rfl) (Nat.le_of_ble_eq_true rfl))))))
theorem x49_15 {x2 : Int32} : wp Ln xs 49 15 [.ref 64, .ref 2, .int x2, mj_hole, mj_hole, mj_hole] [] (u, ml_h m lm) Φ = wp Ln xs 49 17 [.ref 64, .ref 2, .int x2, .int (nI 0), mj_hole, mj_hole] [] (u, ml_h m lm) Φ := (wp_same (S' := [.int (nI 0)]) xd49_15 (Or.inr rfl) rfl).trans (wp_same (L' := [.ref 64, .ref 2, .int x2, .int (nI 0), mj_hole, mj_hole]) xd49_16 (Or.inr rfl) rfl)
theorem x49_17 {x2 : Int32} {x3 : Int32} {v4 : Value} {v5 : Value} : wp Ln xs 49 17 [.ref 64, .ref 2, .int x2, .int x3, v4, v5] [] (u, ml_h m lm) Φ = if (m 2 5) ≤ x3 then wp Ln xs 49 119 [.ref 64, .ref 2, .int x2, .int x3, v4, v5] [] (u, ml_h m lm) Φ else wp Ln xs 49 25 [.ref 64, .ref 2, .int x2, .int x3, v4, v5] [] (u, ml_h m lm) Φ := (wp_same xd49_17 (Or.inr rfl) rfl).trans ((wp_same xd49_18 (Or.inr rfl) rfl).trans ((wm_geti xd49_19 rfl (show ml_L[2]? = _ from rfl) rfl (Nat.le_of_ble_eq_true rfl)).trans (wx_icmp xd49_22 rfl rfl ((m 2 5) ≤ x3) mb_ge)))
theorem x49_25 {x2 : Int32} {x3 : Int32} {v4 : Value} {v5 : Value} : wp Ln xs 49 25 [.ref 64, .ref 2, .int x2, .int x3, v4, v5] [] (u, ml_h m lm) Φ = wp Ln xs 22 0 [.ref 65] [] (u, ml_h m lm) (mk Ln xs 49 42 [.ref 64, .ref 2, .int x2, .int x3, .int (if ((m 2 5) - x3) < (nI 16) then (m 2 5) - x3 else nI 16), v5] [] Φ) := (wp_same (S' := [.int (nI 16)]) xd49_25 (Or.inr rfl) rfl).trans ((wp_same xd49_27 (Or.inr rfl) rfl).trans ((wm_geti xd49_28 rfl (show ml_L[2]? = _ from rfl) rfl (Nat.le_of_ble_eq_true rfl)).trans ((wp_same xd49_31 (Or.inr rfl) rfl).trans ((wp_same xd49_32 (Or.inr rfl) rfl).trans ((wm_min xd49_33 rfl (Nat.le_of_ble_eq_true rfl) (Nat.le_of_ble_eq_true rfl) (Nat.le_of_ble_eq_true rfl)).trans ((wp_same (L' := [.ref 64, .ref 2, .int x2, .int x3, .int (if ((m 2 5) - x3) < (nI 16) then (m 2 5) - x3 else nI 16), v5]) xd49_36 (Or.inr rfl) rfl).trans ((wp_same xd49_38 (Or.inr rfl) rfl).trans ((wm_getr xd49_39 rfl (show ml_L[64]? = _ from rfl) rfl (Nat.le_of_ble_eq_true rfl)).trans (wm_cv (As := []) (rest := []) xd49_42 rfl rfl (show ml_L[65]? = _ from rfl) (Nat.le_of_ble_eq_true rfl) (Nat.le_of_ble_eq_true rfl) (Nat.le_of_ble_eq_true rfl) (Nat.le_of_ble_eq_true rfl))))))))))
theorem x49_45 {x2 : Int32} {x3 : Int32} {x4 : Int32} {v5 : Value} : wp Ln xs 49 45 [.ref 64, .ref 2, .int x2, .int x3, .int x4, v5] [] (u, ml_h m lm) Φ = wp Ln xs 49 48 [.ref 64, .ref 2, .int x2, .int x3, .int x4, .int (nI 1)] [] (u, ml_h m lm) Φ := (wp_same (S' := [.int (nI 1)]) xd49_45 (Or.inr rfl) rfl).trans (wp_same (L' := [.ref 64, .ref 2, .int x2, .int x3, .int x4, .int (nI 1)]) xd49_46 (Or.inr rfl) rfl)
theorem x49_48 {x2 : Int32} {x3 : Int32} {x4 : Int32} {x5 : Int32} : wp Ln xs 49 48 [.ref 64, .ref 2, .int x2, .int x3, .int x4, .int x5] [] (u, ml_h m lm) Φ = if x4 < x5 then wp Ln xs 49 113 [.ref 64, .ref 2, .int x2, .int x3, .int x4, .int x5] [] (u, ml_h m lm) Φ else wp Ln xs 49 55 [.ref 64, .ref 2, .int x2, .int x3, .int x4, .int x5] [] (u, ml_h m lm) Φ := (wp_same xd49_48 (Or.inr rfl) rfl).trans ((wp_same xd49_50 (Or.inr rfl) rfl).trans (wx_icmp xd49_52 rfl rfl (x4 < x5) mb_gt))
theorem x49_55 {x2 : Int32} {x3 : Int32} {x4 : Int32} {x5 : Int32} : wp Ln xs 49 55 [.ref 64, .ref 2, .int x2, .int x3, .int x4, .int x5] [] (u, ml_h m lm) Φ = wp Ln xs 17 0 [.ref 3, .int ((x3 + x5) - (nI 1))] [] (u, ml_h m lm) (mk Ln xs 49 69 [.ref 64, .ref 2, .int x2, .int x3, .int x4, .int x5] [.ref 65] Φ) := (wp_same xd49_55 (Or.inr rfl) rfl).trans ((wm_getr xd49_56 rfl (show ml_L[64]? = _ from rfl) rfl (Nat.le_of_ble_eq_true rfl)).trans ((wp_same xd49_59 (Or.inr rfl) rfl).trans ((wm_getr xd49_60 rfl (show ml_L[2]? = _ from rfl) rfl (Nat.le_of_ble_eq_true rfl)).trans ((wp_same xd49_63 (Or.inr rfl) rfl).trans ((wp_same xd49_64 (Or.inr rfl) rfl).trans ((wp_same xd49_66 (Or.inr rfl) rfl).trans ((wp_same (S' := [.int (nI 1), .int (x3 + x5), .ref 3, .ref 65]) xd49_67 (Or.inr rfl) rfl).trans ((wp_same xd49_68 (Or.inr rfl) rfl).trans (wm_cs (As := [.ref 3, .int ((x3 + x5) - (nI 1))]) (rest := [.ref 65]) xd49_69 rfl rfl (Nat.le_of_ble_eq_true rfl) (Nat.le_of_ble_eq_true rfl) (Nat.le_of_ble_eq_true rfl) (Nat.le_of_ble_eq_true rfl))))))))))
theorem x49_72 {x2 : Int32} {x3 : Int32} {x4 : Int32} {x5 : Int32} {xs0 : Int32} : wp Ln xs 49 72 [.ref 64, .ref 2, .int x2, .int x3, .int x4, .int x5] [.int xs0, .ref 65] (u, ml_h m lm) Φ = wp Ln xs 23 0 [.ref 65, .int xs0] [] (u, ml_h m lm) (mk Ln xs 49 72 [.ref 64, .ref 2, .int x2, .int x3, .int x4, .int x5] [] Φ) := wm_cv (As := [.int xs0]) (rest := []) xd49_72 rfl rfl (show ml_L[65]? = _ from rfl) (Nat.le_of_ble_eq_true rfl) (Nat.le_of_ble_eq_true rfl) (Nat.le_of_ble_eq_true rfl) (Nat.le_of_ble_eq_true rfl)
theorem x49_75 {x2 : Int32} {x3 : Int32} {x4 : Int32} {x5 : Int32} : wp Ln xs 49 75 [.ref 64, .ref 2, .int x2, .int x3, .int x4, .int x5] [] (u, ml_h m lm) Φ = wp Ln xs 17 0 [.ref 67, .int x3] [] (u, ml_h m lm) (mk Ln xs 49 85 [.ref 64, .ref 2, .int x2, .int x3, .int x4, .int x5] [.int (x3 + x5), .ref 64] Φ) := (wp_same xd49_75 (Or.inr rfl) rfl).trans ((wp_same xd49_76 (Or.inr rfl) rfl).trans ((wp_same xd49_77 (Or.inr rfl) rfl).trans ((wp_same xd49_79 (Or.inr rfl) rfl).trans ((wp_same xd49_80 (Or.inr rfl) rfl).trans ((wm_getr xd49_81 rfl (show ml_L[64]? = _ from rfl) rfl (Nat.le_of_ble_eq_true rfl)).trans ((wp_same xd49_84 (Or.inr rfl) rfl).trans (wm_cs (As := [.ref 67, .int x3]) (rest := [.int (x3 + x5), .ref 64]) xd49_85 rfl rfl (Nat.le_of_ble_eq_true rfl) (Nat.le_of_ble_eq_true rfl) (Nat.le_of_ble_eq_true rfl) (Nat.le_of_ble_eq_true rfl))))))))
theorem x49_88 {x2 : Int32} {x3 : Int32} {x4 : Int32} {x5 : Int32} {xs0 : Int32} {xs1 : Int32} : wp Ln xs 49 88 [.ref 64, .ref 2, .int x2, .int x3, .int x4, .int x5] [.int xs0, .int xs1, .ref 64] (u, ml_h m lm) Φ = wp Ln xs 47 0 [.ref 64, .int x2] [] (u, ml_h m lm) (mk Ln xs 49 90 [.ref 64, .ref 2, .int x2, .int x3, .int x4, .int x5] [.int xs0, .int xs1, .ref 64] Φ) := (wp_same xd49_88 (Or.inr rfl) rfl).trans ((wp_same xd49_89 (Or.inr rfl) rfl).trans (wm_cv (As := [.int x2]) (rest := [.int xs0, .int xs1, .ref 64]) xd49_90 rfl rfl (show ml_L[64]? = _ from rfl) (Nat.le_of_ble_eq_true rfl) (Nat.le_of_ble_eq_true rfl) (Nat.le_of_ble_eq_true rfl) (Nat.le_of_ble_eq_true rfl)))
theorem x49_93 {x2 : Int32} {x3 : Int32} {x4 : Int32} {x5 : Int32} {xs0 : Int32} {xs1 : Int32} {xs2 : Int32} : wp Ln xs 49 93 [.ref 64, .ref 2, .int x2, .int x3, .int x4, .int x5] [.int xs0, .int xs1, .int xs2, .ref 64] (u, ml_h m lm) Φ = wp Ln xs 17 0 [.ref 68, .int x3] [] (u, ml_h m lm) (mk Ln xs 49 99 [.ref 64, .ref 2, .int x2, .int x3, .int x4, .int x5] [.int (xs1 + xs0), .int xs2, .ref 64] Φ) := (wp_same xd49_93 (Or.inr rfl) rfl).trans ((wp_same xd49_94 (Or.inr rfl) rfl).trans ((wm_getr xd49_95 rfl (show ml_L[64]? = _ from rfl) rfl (Nat.le_of_ble_eq_true rfl)).trans ((wp_same xd49_98 (Or.inr rfl) rfl).trans (wm_cs (As := [.ref 68, .int x3]) (rest := [.int (xs1 + xs0), .int xs2, .ref 64]) xd49_99 rfl rfl (Nat.le_of_ble_eq_true rfl) (Nat.le_of_ble_eq_true rfl) (Nat.le_of_ble_eq_true rfl) (Nat.le_of_ble_eq_true rfl)))))
theorem x49_102 {x2 : Int32} {x3 : Int32} {x4 : Int32} {x5 : Int32} {xs0 : Int32} {xs1 : Int32} {xs2 : Int32} : wp Ln xs 49 102 [.ref 64, .ref 2, .int x2, .int x3, .int x4, .int x5] [.int xs0, .int xs1, .int xs2, .ref 64] (u, ml_h m lm) Φ = wp Ln xs 48 0 [.ref 64, .int xs2, .int xs1, .int (xs0 + (nI 1)), mj_hole] [] (u, ml_h m lm) (mk Ln xs 49 104 [.ref 64, .ref 2, .int x2, .int x3, .int x4, .int x5] [] Φ) := (wp_same (S' := [.int (nI 1), .int xs0, .int xs1, .int xs2, .ref 64]) xd49_102 (Or.inr rfl) rfl).trans ((wp_same xd49_103 (Or.inr rfl) rfl).trans (wm_cv (As := [.int xs2, .int xs1, .int (xs0 + (nI 1))]) (rest := []) xd49_104 rfl rfl (show ml_L[64]? = _ from rfl) (Nat.le_of_ble_eq_true rfl) (Nat.le_of_ble_eq_true rfl) (Nat.le_of_ble_eq_true rfl) (Nat.le_of_ble_eq_true rfl)))
theorem x49_107 {x2 : Int32} {x3 : Int32} {x4 : Int32} {x5 : Int32} : wp Ln xs 49 107 [.ref 64, .ref 2, .int x2, .int x3, .int x4, .int x5] [] (u, ml_h m lm) Φ = wp Ln xs 49 48 [.ref 64, .ref 2, .int x2, .int x3, .int x4, .int (x5 + nI 1)] [] (u, ml_h m lm) Φ := (wp_same (L' := [.ref 64, .ref 2, .int x2, .int x3, .int x4, .int (x5 + nI 1)]) xd49_107 (Or.inr rfl) rfl).trans (wx_goto xd49_110 rfl)
theorem x49_113 {x2 : Int32} {x3 : Int32} {x4 : Int32} {x5 : Int32} : wp Ln xs 49 113 [.ref 64, .ref 2, .int x2, .int x3, .int x4, .int x5] [] (u, ml_h m lm) Φ = wp Ln xs 49 17 [.ref 64, .ref 2, .int x2, .int (x3 + nI 1), .int x4, .int x5] [] (u, ml_h m lm) Φ := (wp_same (L' := [.ref 64, .ref 2, .int x2, .int (x3 + nI 1), .int x4, .int x5]) xd49_113 (Or.inr rfl) rfl).trans (wx_goto xd49_116 rfl)
theorem x49_119 {x2 : Int32} {x3 : Int32} {v4 : Value} {v5 : Value} : wp Ln xs 49 119 [.ref 64, .ref 2, .int x2, .int x3, v4, v5] [] (u, ml_h m lm) Φ = Φ (.inl none) (u, ml_h m lm) := wp_fin (v := none) xd49_119 (Or.inr rfl) rfl rfl
/- PickedForms$Parting.bitsFromFirst -/
theorem xd50_0 : decode (mj_b 50) 0 = .ok (.aload_n 0, 1) := by decide +kernel
theorem xd50_1 : decode (mj_b 50) 1 = .ok (.getfield 18, 3) := by decide +kernel
theorem xd50_4 : decode (mj_b 50) 4 = .ok (.aload_n 1, 1) := by decide +kernel
theorem xd50_5 : decode (mj_b 50) 5 = .ok (.getfield 31, 3) := by decide +kernel
theorem xd50_8 : decode (mj_b 50) 8 = .ok (.invokestatic 51, 3) := by decide +kernel
theorem xd50_11 : decode (mj_b 50) 11 = .ok (.ireturn, 1) := by decide +kernel
theorem x50_0 : wp Ln xs 50 0 [.ref 64, .ref 2] [] (u, ml_h m lm) Φ = wp Ln xs 17 0 [.ref 67, .int (m 2 5)] [] (u, ml_h m lm) (mk Ln xs 50 8 [.ref 64, .ref 2] [] Φ) := (wp_same xd50_0 (Or.inr rfl) rfl).trans ((wm_getr xd50_1 rfl (show ml_L[64]? = _ from rfl) rfl (Nat.le_of_ble_eq_true rfl)).trans ((wp_same xd50_4 (Or.inr rfl) rfl).trans ((wm_geti xd50_5 rfl (show ml_L[2]? = _ from rfl) rfl (Nat.le_of_ble_eq_true rfl)).trans (wm_cs (As := [.ref 67, .int (m 2 5)]) (rest := []) xd50_8 rfl rfl (Nat.le_of_ble_eq_true rfl) (Nat.le_of_ble_eq_true rfl) (Nat.le_of_ble_eq_true rfl) (Nat.le_of_ble_eq_true rfl)))))
theorem x50_11 {xs0 : Int32} : wp Ln xs 50 11 [.ref 64, .ref 2] [.int xs0] (u, ml_h m lm) Φ = Φ (.inl (some (.int xs0))) (u, ml_h m lm) := wp_fin (v := some (.int xs0)) xd50_11 (Or.inr rfl) rfl (mj_fin_i rfl)
/- PickedForms$Parting.blocksFromFirst -/
theorem xd51_0 : decode (mj_b 51) 0 = .ok (.aload_n 0, 1) := by decide +kernel
theorem xd51_1 : decode (mj_b 51) 1 = .ok (.getfield 22, 3) := by decide +kernel
theorem xd51_4 : decode (mj_b 51) 4 = .ok (.aload_n 1, 1) := by decide +kernel
theorem xd51_5 : decode (mj_b 51) 5 = .ok (.getfield 31, 3) := by decide +kernel
theorem xd51_8 : decode (mj_b 51) 8 = .ok (.invokestatic 51, 3) := by decide +kernel
theorem xd51_11 : decode (mj_b 51) 11 = .ok (.ireturn, 1) := by decide +kernel
theorem x51_0 : wp Ln xs 51 0 [.ref 64, .ref 2] [] (u, ml_h m lm) Φ = wp Ln xs 17 0 [.ref 68, .int (m 2 5)] [] (u, ml_h m lm) (mk Ln xs 51 8 [.ref 64, .ref 2] [] Φ) := (wp_same xd51_0 (Or.inr rfl) rfl).trans ((wm_getr xd51_1 rfl (show ml_L[64]? = _ from rfl) rfl (Nat.le_of_ble_eq_true rfl)).trans ((wp_same xd51_4 (Or.inr rfl) rfl).trans ((wm_geti xd51_5 rfl (show ml_L[2]? = _ from rfl) rfl (Nat.le_of_ble_eq_true rfl)).trans (wm_cs (As := [.ref 68, .int (m 2 5)]) (rest := []) xd51_8 rfl rfl (Nat.le_of_ble_eq_true rfl) (Nat.le_of_ble_eq_true rfl) (Nat.le_of_ble_eq_true rfl) (Nat.le_of_ble_eq_true rfl)))))
theorem x51_11 {xs0 : Int32} : wp Ln xs 51 11 [.ref 64, .ref 2] [.int xs0] (u, ml_h m lm) Φ = Φ (.inl (some (.int xs0))) (u, ml_h m lm) := wp_fin (v := some (.int xs0)) xd51_11 (Or.inr rfl) rfl (mj_fin_i rfl)
/- PickedForms.sizeShare -/
theorem xd52_0 : decode (mj_b 52) 0 = .ok (.aload_n 0, 1) := by decide +kernel
theorem xd52_1 : decode (mj_b 52) 1 = .ok (.getfield 12, 3) := by decide +kernel
theorem xd52_4 : decode (mj_b 52) 4 = .ok (.getfield 104, 3) := by decide +kernel
theorem xd52_7 : decode (mj_b 52) 7 = .ok (.ifCond .ne 5, 3) := by decide +kernel
theorem xd52_10 : decode (mj_b 52) 10 = .ok (.dconst 1, 1) := by decide +kernel
theorem xd52_11 : decode (mj_b 52) 11 = .ok (.dreturn, 1) := by decide +kernel
theorem xd52_12 : decode (mj_b 52) 12 = .ok (.aload_n 0, 1) := by decide +kernel
theorem xd52_13 : decode (mj_b 52) 13 = .ok (.invokevirtual 314, 3) := by decide +kernel
theorem xd52_16 : decode (mj_b 52) 16 = .ok (.i2d, 1) := by decide +kernel
theorem xd52_17 : decode (mj_b 52) 17 = .ok (.ldc2_w 317, 3) := by decide +kernel
theorem xd52_20 : decode (mj_b 52) 20 = .ok (.aload_n 0, 1) := by decide +kernel
theorem xd52_21 : decode (mj_b 52) 21 = .ok (.getfield 12, 3) := by decide +kernel
theorem xd52_24 : decode (mj_b 52) 24 = .ok (.getfield 104, 3) := by decide +kernel
theorem xd52_27 : decode (mj_b 52) 27 = .ok (.i2d, 1) := by decide +kernel
theorem xd52_28 : decode (mj_b 52) 28 = .ok (.dmul, 1) := by decide +kernel
theorem xd52_29 : decode (mj_b 52) 29 = .ok (.ddiv, 1) := by decide +kernel
theorem xd52_30 : decode (mj_b 52) 30 = .ok (.dreturn, 1) := by decide +kernel
theorem x52_0 : wp Ln xs 52 0 [.ref 1] [] (u, ml_h m lm) Φ = if ¬ (m 2 5) = (nI 0) then wp Ln xs 52 12 [.ref 1] [] (u, ml_h m lm) Φ else wp Ln xs 52 10 [.ref 1] [] (u, ml_h m lm) Φ := (wp_same xd52_0 (Or.inr rfl) rfl).trans ((wm_getr xd52_1 rfl (show ml_L[1]? = _ from rfl) rfl (Nat.le_of_ble_eq_true rfl)).trans ((wm_geti xd52_4 rfl (show ml_L[2]? = _ from rfl) rfl (Nat.le_of_ble_eq_true rfl)).trans (wx_if xd52_7 rfl rfl (¬ (m 2 5) = (nI 0)) mb_ne)))
theorem x52_10 : wp Ln xs 52 10 [.ref 1] [] (u, ml_h m lm) Φ = Φ (.inl (some (.double FP.dconst1))) (u, ml_h m lm) := (wp_same xd52_10 (Or.inr rfl) rfl).trans (wp_fin (v := some (.double FP.dconst1)) xd52_11 (Or.inr rfl) rfl rfl)
theorem x52_12 : wp Ln xs 52 12 [.ref 1] [] (u, ml_h m lm) Φ = wp Ln xs 37 0 [.ref 1] [] (u, ml_h m lm) (mk Ln xs 52 13 [.ref 1] [] Φ) := (wp_same xd52_12 (Or.inr rfl) rfl).trans (wm_cv (As := []) (rest := []) xd52_13 rfl rfl (show ml_L[1]? = _ from rfl) (Nat.le_of_ble_eq_true rfl) (Nat.le_of_ble_eq_true rfl) (Nat.le_of_ble_eq_true rfl) (Nat.le_of_ble_eq_true rfl))
theorem x52_16 {xs0 : Int32} (hn0 : FP.dmul 4621819117588971520 (FP.i2d (m 2 5)) &&& 0x7fffffffffffffff ≤ 0x7ff0000000000000) (hn1 : FP.ddiv (FP.i2d xs0) (FP.dmul 4621819117588971520 (FP.i2d (m 2 5))) &&& 0x7fffffffffffffff ≤ 0x7ff0000000000000) : wp Ln xs 52 16 [.ref 1] [.int xs0] (u, ml_h m lm) Φ = Φ (.inl (some (.double (FP.ddiv (FP.i2d xs0) (FP.dmul 4621819117588971520 (FP.i2d (m 2 5))))))) (u, ml_h m lm) := (wp_same xd52_16 (Or.inr rfl) rfl).trans ((wm_ldc2 (v := .double 4621819117588971520) xd52_17 rfl rfl).trans ((wp_same xd52_20 (Or.inr rfl) rfl).trans ((wm_getr xd52_21 rfl (show ml_L[1]? = _ from rfl) rfl (Nat.le_of_ble_eq_true rfl)).trans ((wm_geti xd52_24 rfl (show ml_L[2]? = _ from rfl) rfl (Nat.le_of_ble_eq_true rfl)).trans ((wp_same xd52_27 (Or.inr rfl) rfl).trans ((wx_dmul xd52_28 hn0).trans ((wx_ddiv xd52_29 hn1).trans (wp_fin (v := some (.double (FP.ddiv (FP.i2d xs0) (FP.dmul 4621819117588971520 (FP.i2d (m 2 5)))))) xd52_30 (Or.inr rfl) rfl rfl))))))))
/- PickedForms.meanBits -/
theorem xd53_0 : decode (mj_b 53) 0 = .ok (.aload_n 0, 1) := by decide +kernel
theorem xd53_1 : decode (mj_b 53) 1 = .ok (.getfield 12, 3) := by decide +kernel
theorem xd53_4 : decode (mj_b 53) 4 = .ok (.getfield 104, 3) := by decide +kernel
theorem xd53_7 : decode (mj_b 53) 7 = .ok (.ifCond .ne 5, 3) := by decide +kernel
theorem xd53_10 : decode (mj_b 53) 10 = .ok (.fconst 0, 1) := by decide +kernel
theorem xd53_11 : decode (mj_b 53) 11 = .ok (.freturn, 1) := by decide +kernel
theorem xd53_12 : decode (mj_b 53) 12 = .ok (.aload_n 0, 1) := by decide +kernel
theorem xd53_13 : decode (mj_b 53) 13 = .ok (.invokevirtual 314, 3) := by decide +kernel
theorem xd53_16 : decode (mj_b 53) 16 = .ok (.i2f, 1) := by decide +kernel
theorem xd53_17 : decode (mj_b 53) 17 = .ok (.aload_n 0, 1) := by decide +kernel
theorem xd53_18 : decode (mj_b 53) 18 = .ok (.getfield 12, 3) := by decide +kernel
theorem xd53_21 : decode (mj_b 53) 21 = .ok (.getfield 104, 3) := by decide +kernel
theorem xd53_24 : decode (mj_b 53) 24 = .ok (.i2f, 1) := by decide +kernel
theorem xd53_25 : decode (mj_b 53) 25 = .ok (.fdiv, 1) := by decide +kernel
theorem xd53_26 : decode (mj_b 53) 26 = .ok (.freturn, 1) := by decide +kernel
theorem x53_0 : wp Ln xs 53 0 [.ref 1] [] (u, ml_h m lm) Φ = if ¬ (m 2 5) = (nI 0) then wp Ln xs 53 12 [.ref 1] [] (u, ml_h m lm) Φ else wp Ln xs 53 10 [.ref 1] [] (u, ml_h m lm) Φ := (wp_same xd53_0 (Or.inr rfl) rfl).trans ((wm_getr xd53_1 rfl (show ml_L[1]? = _ from rfl) rfl (Nat.le_of_ble_eq_true rfl)).trans ((wm_geti xd53_4 rfl (show ml_L[2]? = _ from rfl) rfl (Nat.le_of_ble_eq_true rfl)).trans (wx_if xd53_7 rfl rfl (¬ (m 2 5) = (nI 0)) mb_ne)))
theorem x53_10 : wp Ln xs 53 10 [.ref 1] [] (u, ml_h m lm) Φ = Φ (.inl (some (.float FP.fconst0))) (u, ml_h m lm) := (wp_same xd53_10 (Or.inr rfl) rfl).trans (wp_fin (v := some (.float FP.fconst0)) xd53_11 (Or.inr rfl) rfl rfl)
theorem x53_12 : wp Ln xs 53 12 [.ref 1] [] (u, ml_h m lm) Φ = wp Ln xs 37 0 [.ref 1] [] (u, ml_h m lm) (mk Ln xs 53 13 [.ref 1] [] Φ) := (wp_same xd53_12 (Or.inr rfl) rfl).trans (wm_cv (As := []) (rest := []) xd53_13 rfl rfl (show ml_L[1]? = _ from rfl) (Nat.le_of_ble_eq_true rfl) (Nat.le_of_ble_eq_true rfl) (Nat.le_of_ble_eq_true rfl) (Nat.le_of_ble_eq_true rfl))
theorem x53_16 {xs0 : Int32} (hn0 : FP.fdiv (FP.i2f xs0) (FP.i2f (m 2 5)) &&& 0x7fffffff ≤ 0x7f800000) : wp Ln xs 53 16 [.ref 1] [.int xs0] (u, ml_h m lm) Φ = Φ (.inl (some (.float (FP.fdiv (FP.i2f xs0) (FP.i2f (m 2 5)))))) (u, ml_h m lm) := (wp_same xd53_16 (Or.inr rfl) rfl).trans ((wp_same xd53_17 (Or.inr rfl) rfl).trans ((wm_getr xd53_18 rfl (show ml_L[1]? = _ from rfl) rfl (Nat.le_of_ble_eq_true rfl)).trans ((wm_geti xd53_21 rfl (show ml_L[2]? = _ from rfl) rfl (Nat.le_of_ble_eq_true rfl)).trans ((wp_same xd53_24 (Or.inr rfl) rfl).trans ((wx_fdiv xd53_25 hn0).trans (wp_fin (v := some (.float (FP.fdiv (FP.i2f xs0) (FP.i2f (m 2 5))))) xd53_26 (Or.inr rfl) rfl rfl))))))
/- PickedFormsLaw.cell -/
theorem xd54_0 : decode (mj_b 54) 0 = .ok (.iload_n 1, 1) := by decide +kernel
theorem xd54_1 : decode (mj_b 54) 1 = .ok (.aload_n 0, 1) := by decide +kernel
theorem xd54_2 : decode (mj_b 54) 2 = .ok (.arraylength, 1) := by decide +kernel
theorem xd54_3 : decode (mj_b 54) 3 = .ok (.if_icmp .ge 9, 3) := by decide +kernel
theorem xd54_6 : decode (mj_b 54) 6 = .ok (.aload_n 0, 1) := by decide +kernel
theorem xd54_7 : decode (mj_b 54) 7 = .ok (.iload_n 1, 1) := by decide +kernel
theorem xd54_8 : decode (mj_b 54) 8 = .ok (.iaload, 1) := by decide +kernel
theorem xd54_9 : decode (mj_b 54) 9 = .ok (.goto 12, 3) := by decide +kernel
theorem xd54_12 : decode (mj_b 54) 12 = .ok (.ldc 7, 2) := by decide +kernel
theorem xd54_14 : decode (mj_b 54) 14 = .ok (.iload_n 1, 1) := by decide +kernel
theorem xd54_15 : decode (mj_b 54) 15 = .ok (.iconst 5, 1) := by decide +kernel
theorem xd54_16 : decode (mj_b 54) 16 = .ok (.iadd, 1) := by decide +kernel
theorem xd54_17 : decode (mj_b 54) 17 = .ok (.imul, 1) := by decide +kernel
theorem xd54_18 : decode (mj_b 54) 18 = .ok (.ldc 8, 2) := by decide +kernel
theorem xd54_20 : decode (mj_b 54) 20 = .ok (.iadd, 1) := by decide +kernel
theorem xd54_21 : decode (mj_b 54) 21 = .ok (.ireturn, 1) := by decide +kernel
theorem x54_0 {x1 : Int32} : wp Ln xs 54 0 [.ref 0, .int x1] [] (u, ml_h m lm) Φ = if (nI Ln) ≤ x1 then wp Ln xs 54 12 [.ref 0, .int x1] [] (u, ml_h m lm) Φ else wp Ln xs 54 6 [.ref 0, .int x1] [] (u, ml_h m lm) Φ := (wp_same xd54_0 (Or.inr rfl) rfl).trans ((wp_same xd54_1 (Or.inr rfl) rfl).trans ((wp_same xd54_2 (Or.inr rfl) rfl).trans (wx_icmp xd54_3 rfl rfl ((nI Ln) ≤ x1) mb_ge)))
theorem x54_6 {x1 : Int32} : wp Ln xs 54 6 [.ref 0, .int x1] [] (u, ml_h m lm) Φ = wp Ln xs 54 8 [.ref 0, .int x1] [.int x1, .ref 0] (u, ml_h m lm) Φ := (wp_same xd54_6 (Or.inr rfl) rfl).trans (wp_same xd54_7 (Or.inr rfl) rfl)
theorem x54_8 {x1 : Int32} {k : Nat} (hk : k < Ln) (hL : Ln < 2 ^ 31) : wp Ln xs 54 8 [.ref 0, .int x1] [.int (nI k), .ref 0] (u, ml_h m lm) Φ = Φ (.inl (some (.int (xs k)))) (u, ml_h m lm) := (wx_ald0 xd54_8 hk hL).trans ((wx_goto xd54_9 rfl).trans (wp_fin (v := some (.int (xs k))) xd54_21 (Or.inr rfl) rfl (mj_fin_i rfl)))
theorem x54_12 {x1 : Int32} : wp Ln xs 54 12 [.ref 0, .int x1] [] (u, ml_h m lm) Φ = Φ (.inl (some (.int (((nI 901371873) * (x1 + (nI 5))) + (nI 746844583))))) (u, ml_h m lm) := (wm_ldc (v := .int (nI 901371873)) xd54_12 rfl rfl ⟨rfl, rfl⟩).trans ((wp_same xd54_14 (Or.inr rfl) rfl).trans ((wp_same (S' := [.int (nI 5), .int x1, .int (nI 901371873)]) xd54_15 (Or.inr rfl) rfl).trans ((wp_same xd54_16 (Or.inr rfl) rfl).trans ((wp_same xd54_17 (Or.inr rfl) rfl).trans ((wm_ldc (v := .int (nI 746844583)) xd54_18 rfl rfl ⟨rfl, rfl⟩).trans ((wp_same xd54_20 (Or.inr rfl) rfl).trans (wp_fin (v := some (.int (((nI 901371873) * (x1 + (nI 5))) + (nI 746844583)))) xd54_21 (Or.inr rfl) rfl (mj_fin_i rfl))))))))
/- PickedFormsLaw.holds -/
theorem xd55_0 : decode (mj_b 55) 0 = .ok (.iconst 0, 1) := by decide +kernel
theorem xd55_1 : decode (mj_b 55) 1 = .ok (.istore_n 2, 1) := by decide +kernel
theorem xd55_2 : decode (mj_b 55) 2 = .ok (.iconst 0, 1) := by decide +kernel
theorem xd55_3 : decode (mj_b 55) 3 = .ok (.istore_n 3, 1) := by decide +kernel
theorem xd55_4 : decode (mj_b 55) 4 = .ok (.iconst 0, 1) := by decide +kernel
theorem xd55_5 : decode (mj_b 55) 5 = .ok (.istore 4, 2) := by decide +kernel
theorem xd55_7 : decode (mj_b 55) 7 = .ok (.iconst 0, 1) := by decide +kernel
theorem xd55_8 : decode (mj_b 55) 8 = .ok (.istore 5, 2) := by decide +kernel
theorem xd55_10 : decode (mj_b 55) 10 = .ok (.iconst 0, 1) := by decide +kernel
theorem xd55_11 : decode (mj_b 55) 11 = .ok (.istore 6, 2) := by decide +kernel
theorem xd55_13 : decode (mj_b 55) 13 = .ok (.iload 6, 2) := by decide +kernel
theorem xd55_15 : decode (mj_b 55) 15 = .ok (.aload_n 0, 1) := by decide +kernel
theorem xd55_16 : decode (mj_b 55) 16 = .ok (.iconst 1, 1) := by decide +kernel
theorem xd55_17 : decode (mj_b 55) 17 = .ok (.invokevirtual 38, 3) := by decide +kernel
theorem xd55_20 : decode (mj_b 55) 20 = .ok (.if_icmp .ge 60, 3) := by decide +kernel
theorem xd55_23 : decode (mj_b 55) 23 = .ok (.iload_n 2, 1) := by decide +kernel
theorem xd55_24 : decode (mj_b 55) 24 = .ok (.aload_n 0, 1) := by decide +kernel
theorem xd55_25 : decode (mj_b 55) 25 = .ok (.iload 6, 2) := by decide +kernel
theorem xd55_27 : decode (mj_b 55) 27 = .ok (.iconst 3, 1) := by decide +kernel
theorem xd55_28 : decode (mj_b 55) 28 = .ok (.invokevirtual 16, 3) := by decide +kernel
theorem xd55_31 : decode (mj_b 55) 31 = .ok (.iadd, 1) := by decide +kernel
theorem xd55_32 : decode (mj_b 55) 32 = .ok (.istore_n 2, 1) := by decide +kernel
theorem xd55_33 : decode (mj_b 55) 33 = .ok (.iload_n 3, 1) := by decide +kernel
theorem xd55_34 : decode (mj_b 55) 34 = .ok (.aload_n 0, 1) := by decide +kernel
theorem xd55_35 : decode (mj_b 55) 35 = .ok (.iload 6, 2) := by decide +kernel
theorem xd55_37 : decode (mj_b 55) 37 = .ok (.iconst 3, 1) := by decide +kernel
theorem xd55_38 : decode (mj_b 55) 38 = .ok (.invokevirtual 16, 3) := by decide +kernel
theorem xd55_41 : decode (mj_b 55) 41 = .ok (.aload_n 0, 1) := by decide +kernel
theorem xd55_42 : decode (mj_b 55) 42 = .ok (.iload 6, 2) := by decide +kernel
theorem xd55_44 : decode (mj_b 55) 44 = .ok (.iconst 2, 1) := by decide +kernel
theorem xd55_45 : decode (mj_b 55) 45 = .ok (.invokevirtual 16, 3) := by decide +kernel
theorem xd55_48 : decode (mj_b 55) 48 = .ok (.isub, 1) := by decide +kernel
theorem xd55_49 : decode (mj_b 55) 49 = .ok (.iadd, 1) := by decide +kernel
theorem xd55_50 : decode (mj_b 55) 50 = .ok (.istore_n 3, 1) := by decide +kernel
theorem xd55_51 : decode (mj_b 55) 51 = .ok (.iload 4, 2) := by decide +kernel
theorem xd55_53 : decode (mj_b 55) 53 = .ok (.aload_n 0, 1) := by decide +kernel
theorem xd55_54 : decode (mj_b 55) 54 = .ok (.iload 6, 2) := by decide +kernel
theorem xd55_56 : decode (mj_b 55) 56 = .ok (.iconst 1, 1) := by decide +kernel
theorem xd55_57 : decode (mj_b 55) 57 = .ok (.invokevirtual 16, 3) := by decide +kernel
theorem xd55_60 : decode (mj_b 55) 60 = .ok (.iadd, 1) := by decide +kernel
theorem xd55_61 : decode (mj_b 55) 61 = .ok (.istore 4, 2) := by decide +kernel
theorem xd55_63 : decode (mj_b 55) 63 = .ok (.aload_n 0, 1) := by decide +kernel
theorem xd55_64 : decode (mj_b 55) 64 = .ok (.iload 6, 2) := by decide +kernel
theorem xd55_66 : decode (mj_b 55) 66 = .ok (.invokestatic 45, 3) := by decide +kernel
theorem xd55_69 : decode (mj_b 55) 69 = .ok (.ifCond .ne 5, 3) := by decide +kernel
theorem xd55_72 : decode (mj_b 55) 72 = .ok (.iconst 0, 1) := by decide +kernel
theorem xd55_73 : decode (mj_b 55) 73 = .ok (.ireturn, 1) := by decide +kernel
theorem xd55_74 : decode (mj_b 55) 74 = .ok (.iinc 6 1, 3) := by decide +kernel
theorem xd55_77 : decode (mj_b 55) 77 = .ok (.goto (-64), 3) := by decide +kernel
theorem xd55_80 : decode (mj_b 55) 80 = .ok (.iconst 0, 1) := by decide +kernel
theorem xd55_81 : decode (mj_b 55) 81 = .ok (.istore 6, 2) := by decide +kernel
theorem xd55_83 : decode (mj_b 55) 83 = .ok (.iload 6, 2) := by decide +kernel
theorem xd55_85 : decode (mj_b 55) 85 = .ok (.aload_n 0, 1) := by decide +kernel
theorem xd55_86 : decode (mj_b 55) 86 = .ok (.iconst 0, 1) := by decide +kernel
theorem xd55_87 : decode (mj_b 55) 87 = .ok (.invokevirtual 38, 3) := by decide +kernel
theorem xd55_90 : decode (mj_b 55) 90 = .ok (.if_icmp .ge 67, 3) := by decide +kernel
theorem xd55_93 : decode (mj_b 55) 93 = .ok (.iload 5, 2) := by decide +kernel
theorem xd55_95 : decode (mj_b 55) 95 = .ok (.aload_n 0, 1) := by decide +kernel
theorem xd55_96 : decode (mj_b 55) 96 = .ok (.iload 6, 2) := by decide +kernel
theorem xd55_98 : decode (mj_b 55) 98 = .ok (.iconst 0, 1) := by decide +kernel
theorem xd55_99 : decode (mj_b 55) 99 = .ok (.invokevirtual 32, 3) := by decide +kernel
theorem xd55_102 : decode (mj_b 55) 102 = .ok (.iadd, 1) := by decide +kernel
theorem xd55_103 : decode (mj_b 55) 103 = .ok (.istore 5, 2) := by decide +kernel
theorem xd55_105 : decode (mj_b 55) 105 = .ok (.iload 6, 2) := by decide +kernel
theorem xd55_107 : decode (mj_b 55) 107 = .ok (.iload 4, 2) := by decide +kernel
theorem xd55_109 : decode (mj_b 55) 109 = .ok (.if_icmp .lt 42, 3) := by decide +kernel
theorem xd55_112 : decode (mj_b 55) 112 = .ok (.aload_n 0, 1) := by decide +kernel
theorem xd55_113 : decode (mj_b 55) 113 = .ok (.iload 6, 2) := by decide +kernel
theorem xd55_115 : decode (mj_b 55) 115 = .ok (.iconst 1, 1) := by decide +kernel
theorem xd55_116 : decode (mj_b 55) 116 = .ok (.invokevirtual 32, 3) := by decide +kernel
theorem xd55_119 : decode (mj_b 55) 119 = .ok (.iconst (-1), 1) := by decide +kernel
theorem xd55_120 : decode (mj_b 55) 120 = .ok (.if_icmp .ne 29, 3) := by decide +kernel
theorem xd55_123 : decode (mj_b 55) 123 = .ok (.aload_n 0, 1) := by decide +kernel
theorem xd55_124 : decode (mj_b 55) 124 = .ok (.iload 6, 2) := by decide +kernel
theorem xd55_126 : decode (mj_b 55) 126 = .ok (.iconst 2, 1) := by decide +kernel
theorem xd55_127 : decode (mj_b 55) 127 = .ok (.invokevirtual 32, 3) := by decide +kernel
theorem xd55_130 : decode (mj_b 55) 130 = .ok (.iload 6, 2) := by decide +kernel
theorem xd55_132 : decode (mj_b 55) 132 = .ok (.iload 4, 2) := by decide +kernel
theorem xd55_134 : decode (mj_b 55) 134 = .ok (.isub, 1) := by decide +kernel
theorem xd55_135 : decode (mj_b 55) 135 = .ok (.if_icmp .ne 14, 3) := by decide +kernel
theorem xd55_138 : decode (mj_b 55) 138 = .ok (.aload_n 0, 1) := by decide +kernel
theorem xd55_139 : decode (mj_b 55) 139 = .ok (.iload 6, 2) := by decide +kernel
theorem xd55_141 : decode (mj_b 55) 141 = .ok (.iconst 3, 1) := by decide +kernel
theorem xd55_142 : decode (mj_b 55) 142 = .ok (.invokevirtual 32, 3) := by decide +kernel
theorem xd55_145 : decode (mj_b 55) 145 = .ok (.iconst 1, 1) := by decide +kernel
theorem xd55_146 : decode (mj_b 55) 146 = .ok (.if_icmp .eq 5, 3) := by decide +kernel
theorem xd55_149 : decode (mj_b 55) 149 = .ok (.iconst 0, 1) := by decide +kernel
theorem xd55_150 : decode (mj_b 55) 150 = .ok (.ireturn, 1) := by decide +kernel
theorem xd55_151 : decode (mj_b 55) 151 = .ok (.iinc 6 1, 3) := by decide +kernel
theorem xd55_154 : decode (mj_b 55) 154 = .ok (.goto (-71), 3) := by decide +kernel
theorem xd55_157 : decode (mj_b 55) 157 = .ok (.aload_n 0, 1) := by decide +kernel
theorem xd55_158 : decode (mj_b 55) 158 = .ok (.iconst 0, 1) := by decide +kernel
theorem xd55_159 : decode (mj_b 55) 159 = .ok (.invokevirtual 38, 3) := by decide +kernel
theorem xd55_162 : decode (mj_b 55) 162 = .ok (.iload 4, 2) := by decide +kernel
theorem xd55_164 : decode (mj_b 55) 164 = .ok (.aload_n 0, 1) := by decide +kernel
theorem xd55_165 : decode (mj_b 55) 165 = .ok (.iconst 2, 1) := by decide +kernel
theorem xd55_166 : decode (mj_b 55) 166 = .ok (.invokevirtual 38, 3) := by decide +kernel
theorem xd55_169 : decode (mj_b 55) 169 = .ok (.iadd, 1) := by decide +kernel
theorem xd55_170 : decode (mj_b 55) 170 = .ok (.if_icmp .ne 84, 3) := by decide +kernel
theorem xd55_173 : decode (mj_b 55) 173 = .ok (.aload_n 0, 1) := by decide +kernel
theorem xd55_174 : decode (mj_b 55) 174 = .ok (.iconst 1, 1) := by decide +kernel
theorem xd55_175 : decode (mj_b 55) 175 = .ok (.invokevirtual 38, 3) := by decide +kernel
theorem xd55_178 : decode (mj_b 55) 178 = .ok (.bipush 12, 2) := by decide +kernel
theorem xd55_180 : decode (mj_b 55) 180 = .ok (.if_icmp .gt 74, 3) := by decide +kernel
theorem xd55_183 : decode (mj_b 55) 183 = .ok (.aload_n 0, 1) := by decide +kernel
theorem xd55_184 : decode (mj_b 55) 184 = .ok (.iconst 2, 1) := by decide +kernel
theorem xd55_185 : decode (mj_b 55) 185 = .ok (.invokevirtual 38, 3) := by decide +kernel
theorem xd55_188 : decode (mj_b 55) 188 = .ok (.bipush 15, 2) := by decide +kernel
theorem xd55_190 : decode (mj_b 55) 190 = .ok (.if_icmp .gt 64, 3) := by decide +kernel
theorem xd55_193 : decode (mj_b 55) 193 = .ok (.aload_n 0, 1) := by decide +kernel
theorem xd55_194 : decode (mj_b 55) 194 = .ok (.iconst 3, 1) := by decide +kernel
theorem xd55_195 : decode (mj_b 55) 195 = .ok (.invokevirtual 38, 3) := by decide +kernel
theorem xd55_198 : decode (mj_b 55) 198 = .ok (.iload_n 2, 1) := by decide +kernel
theorem xd55_199 : decode (mj_b 55) 199 = .ok (.bipush 7, 2) := by decide +kernel
theorem xd55_201 : decode (mj_b 55) 201 = .ok (.aload_n 0, 1) := by decide +kernel
theorem xd55_202 : decode (mj_b 55) 202 = .ok (.iconst 1, 1) := by decide +kernel
theorem xd55_203 : decode (mj_b 55) 203 = .ok (.invokevirtual 38, 3) := by decide +kernel
theorem xd55_206 : decode (mj_b 55) 206 = .ok (.imul, 1) := by decide +kernel
theorem xd55_207 : decode (mj_b 55) 207 = .ok (.iadd, 1) := by decide +kernel
theorem xd55_208 : decode (mj_b 55) 208 = .ok (.bipush 10, 2) := by decide +kernel
theorem xd55_210 : decode (mj_b 55) 210 = .ok (.aload_n 0, 1) := by decide +kernel
theorem xd55_211 : decode (mj_b 55) 211 = .ok (.iconst 2, 1) := by decide +kernel
theorem xd55_212 : decode (mj_b 55) 212 = .ok (.invokevirtual 38, 3) := by decide +kernel
theorem xd55_215 : decode (mj_b 55) 215 = .ok (.imul, 1) := by decide +kernel
theorem xd55_216 : decode (mj_b 55) 216 = .ok (.iadd, 1) := by decide +kernel
theorem xd55_217 : decode (mj_b 55) 217 = .ok (.if_icmp .ne 37, 3) := by decide +kernel
theorem xd55_220 : decode (mj_b 55) 220 = .ok (.aload_n 0, 1) := by decide +kernel
theorem xd55_221 : decode (mj_b 55) 221 = .ok (.bipush 6, 2) := by decide +kernel
theorem xd55_223 : decode (mj_b 55) 223 = .ok (.invokevirtual 38, 3) := by decide +kernel
theorem xd55_226 : decode (mj_b 55) 226 = .ok (.iload_n 3, 1) := by decide +kernel
theorem xd55_227 : decode (mj_b 55) 227 = .ok (.if_icmp .ne 27, 3) := by decide +kernel
theorem xd55_230 : decode (mj_b 55) 230 = .ok (.aload_n 0, 1) := by decide +kernel
theorem xd55_231 : decode (mj_b 55) 231 = .ok (.bipush 7, 2) := by decide +kernel
theorem xd55_233 : decode (mj_b 55) 233 = .ok (.invokevirtual 38, 3) := by decide +kernel
theorem xd55_236 : decode (mj_b 55) 236 = .ok (.iload 5, 2) := by decide +kernel
theorem xd55_238 : decode (mj_b 55) 238 = .ok (.if_icmp .ne 16, 3) := by decide +kernel
theorem xd55_241 : decode (mj_b 55) 241 = .ok (.aload_n 0, 1) := by decide +kernel
theorem xd55_242 : decode (mj_b 55) 242 = .ok (.invokevirtual 48, 3) := by decide +kernel
theorem xd55_245 : decode (mj_b 55) 245 = .ok (.dconst 0, 1) := by decide +kernel
theorem xd55_246 : decode (mj_b 55) 246 = .ok (.dcmp .l, 1) := by decide +kernel
theorem xd55_247 : decode (mj_b 55) 247 = .ok (.ifCond .le 7, 3) := by decide +kernel
theorem xd55_250 : decode (mj_b 55) 250 = .ok (.iconst 1, 1) := by decide +kernel
theorem xd55_251 : decode (mj_b 55) 251 = .ok (.goto 4, 3) := by decide +kernel
theorem xd55_254 : decode (mj_b 55) 254 = .ok (.iconst 0, 1) := by decide +kernel
theorem xd55_255 : decode (mj_b 55) 255 = .ok (.istore 6, 2) := by decide +kernel
theorem xd55_257 : decode (mj_b 55) 257 = .ok (.iload_n 1, 1) := by decide +kernel
theorem xd55_258 : decode (mj_b 55) 258 = .ok (.sipush 1000, 3) := by decide +kernel
theorem xd55_261 : decode (mj_b 55) 261 = .ok (.invokestatic 52, 3) := by decide +kernel
theorem xd55_264 : decode (mj_b 55) 264 = .ok (.istore 7, 2) := by decide +kernel
theorem xd55_266 : decode (mj_b 55) 266 = .ok (.iload_n 1, 1) := by decide +kernel
theorem xd55_267 : decode (mj_b 55) 267 = .ok (.bipush 9, 2) := by decide +kernel
theorem xd55_269 : decode (mj_b 55) 269 = .ok (.ishr, 1) := by decide +kernel
theorem xd55_270 : decode (mj_b 55) 270 = .ok (.sipush 1000, 3) := by decide +kernel
theorem xd55_273 : decode (mj_b 55) 273 = .ok (.invokestatic 52, 3) := by decide +kernel
theorem xd55_276 : decode (mj_b 55) 276 = .ok (.istore 8, 2) := by decide +kernel
theorem xd55_278 : decode (mj_b 55) 278 = .ok (.iload 6, 2) := by decide +kernel
theorem xd55_280 : decode (mj_b 55) 280 = .ok (.ifCond .eq 80, 3) := by decide +kernel
theorem xd55_283 : decode (mj_b 55) 283 = .ok (.aload_n 0, 1) := by decide +kernel
theorem xd55_284 : decode (mj_b 55) 284 = .ok (.iload 7, 2) := by decide +kernel
theorem xd55_286 : decode (mj_b 55) 286 = .ok (.iload 8, 2) := by decide +kernel
theorem xd55_288 : decode (mj_b 55) 288 = .ok (.invokestatic 55, 3) := by decide +kernel
theorem xd55_291 : decode (mj_b 55) 291 = .ok (.ifCond .eq 69, 3) := by decide +kernel
theorem xd55_294 : decode (mj_b 55) 294 = .ok (.aload_n 0, 1) := by decide +kernel
theorem xd55_295 : decode (mj_b 55) 295 = .ok (.iload 8, 2) := by decide +kernel
theorem xd55_297 : decode (mj_b 55) 297 = .ok (.iload 7, 2) := by decide +kernel
theorem xd55_299 : decode (mj_b 55) 299 = .ok (.invokestatic 55, 3) := by decide +kernel
theorem xd55_302 : decode (mj_b 55) 302 = .ok (.ifCond .eq 58, 3) := by decide +kernel
theorem xd55_305 : decode (mj_b 55) 305 = .ok (.aload_n 0, 1) := by decide +kernel
theorem xd55_306 : decode (mj_b 55) 306 = .ok (.iload 7, 2) := by decide +kernel
theorem xd55_308 : decode (mj_b 55) 308 = .ok (.iload 7, 2) := by decide +kernel
theorem xd55_310 : decode (mj_b 55) 310 = .ok (.invokestatic 55, 3) := by decide +kernel
theorem xd55_313 : decode (mj_b 55) 313 = .ok (.ifCond .eq 47, 3) := by decide +kernel
theorem xd55_316 : decode (mj_b 55) 316 = .ok (.aload_n 0, 1) := by decide +kernel
theorem xd55_317 : decode (mj_b 55) 317 = .ok (.iconst 0, 1) := by decide +kernel
theorem xd55_318 : decode (mj_b 55) 318 = .ok (.sipush 999, 3) := by decide +kernel
theorem xd55_321 : decode (mj_b 55) 321 = .ok (.iconst 0, 1) := by decide +kernel
theorem xd55_322 : decode (mj_b 55) 322 = .ok (.invokevirtual 41, 3) := by decide +kernel
theorem xd55_325 : decode (mj_b 55) 325 = .ok (.aload_n 0, 1) := by decide +kernel
theorem xd55_326 : decode (mj_b 55) 326 = .ok (.iconst 0, 1) := by decide +kernel
theorem xd55_327 : decode (mj_b 55) 327 = .ok (.invokevirtual 38, 3) := by decide +kernel
theorem xd55_330 : decode (mj_b 55) 330 = .ok (.if_icmp .ne 30, 3) := by decide +kernel
theorem xd55_333 : decode (mj_b 55) 333 = .ok (.aload_n 0, 1) := by decide +kernel
theorem xd55_334 : decode (mj_b 55) 334 = .ok (.iconst 0, 1) := by decide +kernel
theorem xd55_335 : decode (mj_b 55) 335 = .ok (.sipush 999, 3) := by decide +kernel
theorem xd55_338 : decode (mj_b 55) 338 = .ok (.iconst 2, 1) := by decide +kernel
theorem xd55_339 : decode (mj_b 55) 339 = .ok (.invokevirtual 41, 3) := by decide +kernel
theorem xd55_342 : decode (mj_b 55) 342 = .ok (.aload_n 0, 1) := by decide +kernel
theorem xd55_343 : decode (mj_b 55) 343 = .ok (.iconst 1, 1) := by decide +kernel
theorem xd55_344 : decode (mj_b 55) 344 = .ok (.invokevirtual 38, 3) := by decide +kernel
theorem xd55_347 : decode (mj_b 55) 347 = .ok (.aload_n 0, 1) := by decide +kernel
theorem xd55_348 : decode (mj_b 55) 348 = .ok (.iconst 2, 1) := by decide +kernel
theorem xd55_349 : decode (mj_b 55) 349 = .ok (.invokevirtual 38, 3) := by decide +kernel
theorem xd55_352 : decode (mj_b 55) 352 = .ok (.iadd, 1) := by decide +kernel
theorem xd55_353 : decode (mj_b 55) 353 = .ok (.if_icmp .ne 7, 3) := by decide +kernel
theorem xd55_356 : decode (mj_b 55) 356 = .ok (.iconst 1, 1) := by decide +kernel
theorem xd55_357 : decode (mj_b 55) 357 = .ok (.goto 4, 3) := by decide +kernel
theorem xd55_360 : decode (mj_b 55) 360 = .ok (.iconst 0, 1) := by decide +kernel
theorem xd55_361 : decode (mj_b 55) 361 = .ok (.istore 6, 2) := by decide +kernel
theorem xd55_363 : decode (mj_b 55) 363 = .ok (.iload 6, 2) := by decide +kernel
theorem xd55_365 : decode (mj_b 55) 365 = .ok (.ifCond .eq 97, 3) := by decide +kernel
theorem xd55_368 : decode (mj_b 55) 368 = .ok (.aload_n 0, 1) := by decide +kernel
theorem xd55_369 : decode (mj_b 55) 369 = .ok (.iconst 0, 1) := by decide +kernel
theorem xd55_370 : decode (mj_b 55) 370 = .ok (.invokevirtual 59, 3) := by decide +kernel
theorem xd55_373 : decode (mj_b 55) 373 = .ok (.aload_n 0, 1) := by decide +kernel
theorem xd55_374 : decode (mj_b 55) 374 = .ok (.iconst 1, 1) := by decide +kernel
theorem xd55_375 : decode (mj_b 55) 375 = .ok (.invokevirtual 59, 3) := by decide +kernel
theorem xd55_378 : decode (mj_b 55) 378 = .ok (.if_icmp .ne 84, 3) := by decide +kernel
theorem xd55_381 : decode (mj_b 55) 381 = .ok (.aload_n 0, 1) := by decide +kernel
theorem xd55_382 : decode (mj_b 55) 382 = .ok (.iconst 2, 1) := by decide +kernel
theorem xd55_383 : decode (mj_b 55) 383 = .ok (.invokevirtual 59, 3) := by decide +kernel
theorem xd55_386 : decode (mj_b 55) 386 = .ok (.ifCond .ne 7, 3) := by decide +kernel
theorem xd55_389 : decode (mj_b 55) 389 = .ok (.iconst 1, 1) := by decide +kernel
theorem xd55_390 : decode (mj_b 55) 390 = .ok (.goto 4, 3) := by decide +kernel
theorem xd55_393 : decode (mj_b 55) 393 = .ok (.iconst 0, 1) := by decide +kernel
theorem xd55_394 : decode (mj_b 55) 394 = .ok (.aload_n 0, 1) := by decide +kernel
theorem xd55_395 : decode (mj_b 55) 395 = .ok (.iconst 0, 1) := by decide +kernel
theorem xd55_396 : decode (mj_b 55) 396 = .ok (.invokevirtual 38, 3) := by decide +kernel
theorem xd55_399 : decode (mj_b 55) 399 = .ok (.ifCond .ne 7, 3) := by decide +kernel
theorem xd55_402 : decode (mj_b 55) 402 = .ok (.iconst 1, 1) := by decide +kernel
theorem xd55_403 : decode (mj_b 55) 403 = .ok (.goto 4, 3) := by decide +kernel
theorem xd55_406 : decode (mj_b 55) 406 = .ok (.iconst 0, 1) := by decide +kernel
theorem xd55_407 : decode (mj_b 55) 407 = .ok (.if_icmp .ne 55, 3) := by decide +kernel
theorem xd55_410 : decode (mj_b 55) 410 = .ok (.bipush 16, 2) := by decide +kernel
theorem xd55_412 : decode (mj_b 55) 412 = .ok (.aload_n 0, 1) := by decide +kernel
theorem xd55_413 : decode (mj_b 55) 413 = .ok (.iconst 2, 1) := by decide +kernel
theorem xd55_414 : decode (mj_b 55) 414 = .ok (.invokevirtual 59, 3) := by decide +kernel
theorem xd55_417 : decode (mj_b 55) 417 = .ok (.imul, 1) := by decide +kernel
theorem xd55_418 : decode (mj_b 55) 418 = .ok (.aload_n 0, 1) := by decide +kernel
theorem xd55_419 : decode (mj_b 55) 419 = .ok (.iconst 0, 1) := by decide +kernel
theorem xd55_420 : decode (mj_b 55) 420 = .ok (.invokevirtual 38, 3) := by decide +kernel
theorem xd55_423 : decode (mj_b 55) 423 = .ok (.if_icmp .lt 39, 3) := by decide +kernel
theorem xd55_426 : decode (mj_b 55) 426 = .ok (.aload_n 0, 1) := by decide +kernel
theorem xd55_427 : decode (mj_b 55) 427 = .ok (.iconst 0, 1) := by decide +kernel
theorem xd55_428 : decode (mj_b 55) 428 = .ok (.invokevirtual 59, 3) := by decide +kernel
theorem xd55_431 : decode (mj_b 55) 431 = .ok (.bipush 17, 2) := by decide +kernel
theorem xd55_433 : decode (mj_b 55) 433 = .ok (.aload_n 0, 1) := by decide +kernel
theorem xd55_434 : decode (mj_b 55) 434 = .ok (.iconst 2, 1) := by decide +kernel
theorem xd55_435 : decode (mj_b 55) 435 = .ok (.invokevirtual 59, 3) := by decide +kernel
theorem xd55_438 : decode (mj_b 55) 438 = .ok (.imul, 1) := by decide +kernel
theorem xd55_439 : decode (mj_b 55) 439 = .ok (.if_icmp .lt 23, 3) := by decide +kernel
theorem xd55_442 : decode (mj_b 55) 442 = .ok (.aload_n 0, 1) := by decide +kernel
theorem xd55_443 : decode (mj_b 55) 443 = .ok (.iconst 0, 1) := by decide +kernel
theorem xd55_444 : decode (mj_b 55) 444 = .ok (.invokevirtual 59, 3) := by decide +kernel
theorem xd55_447 : decode (mj_b 55) 447 = .ok (.bipush 17, 2) := by decide +kernel
theorem xd55_449 : decode (mj_b 55) 449 = .ok (.aload_n 0, 1) := by decide +kernel
theorem xd55_450 : decode (mj_b 55) 450 = .ok (.iconst 0, 1) := by decide +kernel
theorem xd55_451 : decode (mj_b 55) 451 = .ok (.invokevirtual 38, 3) := by decide +kernel
theorem xd55_454 : decode (mj_b 55) 454 = .ok (.imul, 1) := by decide +kernel
theorem xd55_455 : decode (mj_b 55) 455 = .ok (.if_icmp .gt 7, 3) := by decide +kernel
theorem xd55_458 : decode (mj_b 55) 458 = .ok (.iconst 1, 1) := by decide +kernel
theorem xd55_459 : decode (mj_b 55) 459 = .ok (.goto 4, 3) := by decide +kernel
theorem xd55_462 : decode (mj_b 55) 462 = .ok (.iconst 0, 1) := by decide +kernel
theorem xd55_463 : decode (mj_b 55) 463 = .ok (.ireturn, 1) := by decide +kernel
theorem x55_0 {x1 : Int32} : wp Ln xs 55 0 [.ref 1, .int x1, mj_hole, mj_hole, mj_hole, mj_hole, mj_hole, mj_hole, mj_hole] [] (u, ml_h m lm) Φ = wp Ln xs 55 13 [.ref 1, .int x1, .int (nI 0), .int (nI 0), .int (nI 0), .int (nI 0), .int (nI 0), mj_hole, mj_hole] [] (u, ml_h m lm) Φ := (wp_same (S' := [.int (nI 0)]) xd55_0 (Or.inr rfl) rfl).trans ((wp_same (L' := [.ref 1, .int x1, .int (nI 0), mj_hole, mj_hole, mj_hole, mj_hole, mj_hole, mj_hole]) xd55_1 (Or.inr rfl) rfl).trans ((wp_same (S' := [.int (nI 0)]) xd55_2 (Or.inr rfl) rfl).trans ((wp_same (L' := [.ref 1, .int x1, .int (nI 0), .int (nI 0), mj_hole, mj_hole, mj_hole, mj_hole, mj_hole]) xd55_3 (Or.inr rfl) rfl).trans ((wp_same (S' := [.int (nI 0)]) xd55_4 (Or.inr rfl) rfl).trans ((wp_same (L' := [.ref 1, .int x1, .int (nI 0), .int (nI 0), .int (nI 0), mj_hole, mj_hole, mj_hole, mj_hole]) xd55_5 (Or.inr rfl) rfl).trans ((wp_same (S' := [.int (nI 0)]) xd55_7 (Or.inr rfl) rfl).trans ((wp_same (L' := [.ref 1, .int x1, .int (nI 0), .int (nI 0), .int (nI 0), .int (nI 0), mj_hole, mj_hole, mj_hole]) xd55_8 (Or.inr rfl) rfl).trans ((wp_same (S' := [.int (nI 0)]) xd55_10 (Or.inr rfl) rfl).trans (wp_same (L' := [.ref 1, .int x1, .int (nI 0), .int (nI 0), .int (nI 0), .int (nI 0), .int (nI 0), mj_hole, mj_hole]) xd55_11 (Or.inr rfl) rfl)))))))))
theorem x55_13 {x1 : Int32} {x2 : Int32} {x3 : Int32} {x4 : Int32} {x5 : Int32} {x6 : Int32} : wp Ln xs 55 13 [.ref 1, .int x1, .int x2, .int x3, .int x4, .int x5, .int x6, mj_hole, mj_hole] [] (u, ml_h m lm) Φ = wp Ln xs 34 0 [.ref 1, .int (nI 1)] [] (u, ml_h m lm) (mk Ln xs 55 17 [.ref 1, .int x1, .int x2, .int x3, .int x4, .int x5, .int x6, mj_hole, mj_hole] [.int x6] Φ) := (wp_same xd55_13 (Or.inr rfl) rfl).trans ((wp_same xd55_15 (Or.inr rfl) rfl).trans ((wp_same (S' := [.int (nI 1), .ref 1, .int x6]) xd55_16 (Or.inr rfl) rfl).trans (wm_cv (As := [.int (nI 1)]) (rest := [.int x6]) xd55_17 rfl rfl (show ml_L[1]? = _ from rfl) (Nat.le_of_ble_eq_true rfl) (Nat.le_of_ble_eq_true rfl) (Nat.le_of_ble_eq_true rfl) (Nat.le_of_ble_eq_true rfl))))
theorem x55_20 {x1 : Int32} {x2 : Int32} {x3 : Int32} {x4 : Int32} {x5 : Int32} {x6 : Int32} {xs0 : Int32} {xs1 : Int32} : wp Ln xs 55 20 [.ref 1, .int x1, .int x2, .int x3, .int x4, .int x5, .int x6, mj_hole, mj_hole] [.int xs0, .int xs1] (u, ml_h m lm) Φ = if xs0 ≤ xs1 then wp Ln xs 55 80 [.ref 1, .int x1, .int x2, .int x3, .int x4, .int x5, .int x6, mj_hole, mj_hole] [] (u, ml_h m lm) Φ else wp Ln xs 55 23 [.ref 1, .int x1, .int x2, .int x3, .int x4, .int x5, .int x6, mj_hole, mj_hole] [] (u, ml_h m lm) Φ := wx_icmp xd55_20 rfl rfl (xs0 ≤ xs1) mb_ge
theorem x55_23 {x1 : Int32} {x2 : Int32} {x3 : Int32} {x4 : Int32} {x5 : Int32} {x6 : Int32} : wp Ln xs 55 23 [.ref 1, .int x1, .int x2, .int x3, .int x4, .int x5, .int x6, mj_hole, mj_hole] [] (u, ml_h m lm) Φ = wp Ln xs 56 0 [.ref 1, .int x6, .int (nI 3)] [] (u, ml_h m lm) (mk Ln xs 55 28 [.ref 1, .int x1, .int x2, .int x3, .int x4, .int x5, .int x6, mj_hole, mj_hole] [.int x2] Φ) := (wp_same xd55_23 (Or.inr rfl) rfl).trans ((wp_same xd55_24 (Or.inr rfl) rfl).trans ((wp_same xd55_25 (Or.inr rfl) rfl).trans ((wp_same (S' := [.int (nI 3), .int x6, .ref 1, .int x2]) xd55_27 (Or.inr rfl) rfl).trans (wm_cv (As := [.int x6, .int (nI 3)]) (rest := [.int x2]) xd55_28 rfl rfl (show ml_L[1]? = _ from rfl) (Nat.le_of_ble_eq_true rfl) (Nat.le_of_ble_eq_true rfl) (Nat.le_of_ble_eq_true rfl) (Nat.le_of_ble_eq_true rfl)))))
theorem x55_31 {x1 : Int32} {x2 : Int32} {x3 : Int32} {x4 : Int32} {x5 : Int32} {x6 : Int32} {xs0 : Int32} {xs1 : Int32} : wp Ln xs 55 31 [.ref 1, .int x1, .int x2, .int x3, .int x4, .int x5, .int x6, mj_hole, mj_hole] [.int xs0, .int xs1] (u, ml_h m lm) Φ = wp Ln xs 56 0 [.ref 1, .int x6, .int (nI 3)] [] (u, ml_h m lm) (mk Ln xs 55 38 [.ref 1, .int x1, .int (xs1 + xs0), .int x3, .int x4, .int x5, .int x6, mj_hole, mj_hole] [.int x3] Φ) := (wp_same xd55_31 (Or.inr rfl) rfl).trans ((wp_same (L' := [.ref 1, .int x1, .int (xs1 + xs0), .int x3, .int x4, .int x5, .int x6, mj_hole, mj_hole]) xd55_32 (Or.inr rfl) rfl).trans ((wp_same xd55_33 (Or.inr rfl) rfl).trans ((wp_same xd55_34 (Or.inr rfl) rfl).trans ((wp_same xd55_35 (Or.inr rfl) rfl).trans ((wp_same (S' := [.int (nI 3), .int x6, .ref 1, .int x3]) xd55_37 (Or.inr rfl) rfl).trans (wm_cv (As := [.int x6, .int (nI 3)]) (rest := [.int x3]) xd55_38 rfl rfl (show ml_L[1]? = _ from rfl) (Nat.le_of_ble_eq_true rfl) (Nat.le_of_ble_eq_true rfl) (Nat.le_of_ble_eq_true rfl) (Nat.le_of_ble_eq_true rfl)))))))
theorem x55_41 {x1 : Int32} {x2 : Int32} {x3 : Int32} {x4 : Int32} {x5 : Int32} {x6 : Int32} {xs0 : Int32} {xs1 : Int32} : wp Ln xs 55 41 [.ref 1, .int x1, .int x2, .int x3, .int x4, .int x5, .int x6, mj_hole, mj_hole] [.int xs0, .int xs1] (u, ml_h m lm) Φ = wp Ln xs 56 0 [.ref 1, .int x6, .int (nI 2)] [] (u, ml_h m lm) (mk Ln xs 55 45 [.ref 1, .int x1, .int x2, .int x3, .int x4, .int x5, .int x6, mj_hole, mj_hole] [.int xs0, .int xs1] Φ) := (wp_same xd55_41 (Or.inr rfl) rfl).trans ((wp_same xd55_42 (Or.inr rfl) rfl).trans ((wp_same (S' := [.int (nI 2), .int x6, .ref 1, .int xs0, .int xs1]) xd55_44 (Or.inr rfl) rfl).trans (wm_cv (As := [.int x6, .int (nI 2)]) (rest := [.int xs0, .int xs1]) xd55_45 rfl rfl (show ml_L[1]? = _ from rfl) (Nat.le_of_ble_eq_true rfl) (Nat.le_of_ble_eq_true rfl) (Nat.le_of_ble_eq_true rfl) (Nat.le_of_ble_eq_true rfl))))
theorem x55_48 {x1 : Int32} {x2 : Int32} {x3 : Int32} {x4 : Int32} {x5 : Int32} {x6 : Int32} {xs0 : Int32} {xs1 : Int32} {xs2 : Int32} : wp Ln xs 55 48 [.ref 1, .int x1, .int x2, .int x3, .int x4, .int x5, .int x6, mj_hole, mj_hole] [.int xs0, .int xs1, .int xs2] (u, ml_h m lm) Φ = wp Ln xs 56 0 [.ref 1, .int x6, .int (nI 1)] [] (u, ml_h m lm) (mk Ln xs 55 57 [.ref 1, .int x1, .int x2, .int (xs2 + (xs1 - xs0)), .int x4, .int x5, .int x6, mj_hole, mj_hole] [.int x4] Φ) := (wp_same xd55_48 (Or.inr rfl) rfl).trans ((wp_same xd55_49 (Or.inr rfl) rfl).trans ((wp_same (L' := [.ref 1, .int x1, .int x2, .int (xs2 + (xs1 - xs0)), .int x4, .int x5, .int x6, mj_hole, mj_hole]) xd55_50 (Or.inr rfl) rfl).trans ((wp_same xd55_51 (Or.inr rfl) rfl).trans ((wp_same xd55_53 (Or.inr rfl) rfl).trans ((wp_same xd55_54 (Or.inr rfl) rfl).trans ((wp_same (S' := [.int (nI 1), .int x6, .ref 1, .int x4]) xd55_56 (Or.inr rfl) rfl).trans (wm_cv (As := [.int x6, .int (nI 1)]) (rest := [.int x4]) xd55_57 rfl rfl (show ml_L[1]? = _ from rfl) (Nat.le_of_ble_eq_true rfl) (Nat.le_of_ble_eq_true rfl) (Nat.le_of_ble_eq_true rfl) (Nat.le_of_ble_eq_true rfl))))))))
theorem x55_60 {x1 : Int32} {x2 : Int32} {x3 : Int32} {x4 : Int32} {x5 : Int32} {x6 : Int32} {xs0 : Int32} {xs1 : Int32} : wp Ln xs 55 60 [.ref 1, .int x1, .int x2, .int x3, .int x4, .int x5, .int x6, mj_hole, mj_hole] [.int xs0, .int xs1] (u, ml_h m lm) Φ = wp Ln xs 58 0 [.ref 1, .int x6, mj_hole, mj_hole, mj_hole, mj_hole, mj_hole] [] (u, ml_h m lm) (mk Ln xs 55 66 [.ref 1, .int x1, .int x2, .int x3, .int (xs1 + xs0), .int x5, .int x6, mj_hole, mj_hole] [] Φ) := (wp_same xd55_60 (Or.inr rfl) rfl).trans ((wp_same (L' := [.ref 1, .int x1, .int x2, .int x3, .int (xs1 + xs0), .int x5, .int x6, mj_hole, mj_hole]) xd55_61 (Or.inr rfl) rfl).trans ((wp_same xd55_63 (Or.inr rfl) rfl).trans ((wp_same xd55_64 (Or.inr rfl) rfl).trans (wm_cs (As := [.ref 1, .int x6]) (rest := []) xd55_66 rfl rfl (Nat.le_of_ble_eq_true rfl) (Nat.le_of_ble_eq_true rfl) (Nat.le_of_ble_eq_true rfl) (Nat.le_of_ble_eq_true rfl)))))
theorem x55_69 {x1 : Int32} {x2 : Int32} {x3 : Int32} {x4 : Int32} {x5 : Int32} {x6 : Int32} {xs0 : Int32} : wp Ln xs 55 69 [.ref 1, .int x1, .int x2, .int x3, .int x4, .int x5, .int x6, mj_hole, mj_hole] [.int xs0] (u, ml_h m lm) Φ = if ¬ xs0 = (nI 0) then wp Ln xs 55 74 [.ref 1, .int x1, .int x2, .int x3, .int x4, .int x5, .int x6, mj_hole, mj_hole] [] (u, ml_h m lm) Φ else wp Ln xs 55 72 [.ref 1, .int x1, .int x2, .int x3, .int x4, .int x5, .int x6, mj_hole, mj_hole] [] (u, ml_h m lm) Φ := wx_if xd55_69 rfl rfl (¬ xs0 = (nI 0)) mb_ne
theorem x55_72 {x1 : Int32} {x2 : Int32} {x3 : Int32} {x4 : Int32} {x5 : Int32} {x6 : Int32} : wp Ln xs 55 72 [.ref 1, .int x1, .int x2, .int x3, .int x4, .int x5, .int x6, mj_hole, mj_hole] [] (u, ml_h m lm) Φ = Φ (.inl (some (.int (nI 0)))) (u, ml_h m lm) := (wp_same (S' := [.int (nI 0)]) xd55_72 (Or.inr rfl) rfl).trans (wp_fin (v := some (.int (nI 0))) xd55_73 (Or.inr rfl) rfl rfl)
theorem x55_74 {x1 : Int32} {x2 : Int32} {x3 : Int32} {x4 : Int32} {x5 : Int32} {x6 : Int32} : wp Ln xs 55 74 [.ref 1, .int x1, .int x2, .int x3, .int x4, .int x5, .int x6, mj_hole, mj_hole] [] (u, ml_h m lm) Φ = wp Ln xs 55 13 [.ref 1, .int x1, .int x2, .int x3, .int x4, .int x5, .int (x6 + nI 1), mj_hole, mj_hole] [] (u, ml_h m lm) Φ := (wp_same (L' := [.ref 1, .int x1, .int x2, .int x3, .int x4, .int x5, .int (x6 + nI 1), mj_hole, mj_hole]) xd55_74 (Or.inr rfl) rfl).trans (wx_goto xd55_77 rfl)
theorem x55_80 {x1 : Int32} {x2 : Int32} {x3 : Int32} {x4 : Int32} {x5 : Int32} {x6 : Int32} : wp Ln xs 55 80 [.ref 1, .int x1, .int x2, .int x3, .int x4, .int x5, .int x6, mj_hole, mj_hole] [] (u, ml_h m lm) Φ = wp Ln xs 55 83 [.ref 1, .int x1, .int x2, .int x3, .int x4, .int x5, .int (nI 0), mj_hole, mj_hole] [] (u, ml_h m lm) Φ := (wp_same (S' := [.int (nI 0)]) xd55_80 (Or.inr rfl) rfl).trans (wp_same (L' := [.ref 1, .int x1, .int x2, .int x3, .int x4, .int x5, .int (nI 0), mj_hole, mj_hole]) xd55_81 (Or.inr rfl) rfl)
theorem x55_83 {x1 : Int32} {x2 : Int32} {x3 : Int32} {x4 : Int32} {x5 : Int32} {x6 : Int32} : wp Ln xs 55 83 [.ref 1, .int x1, .int x2, .int x3, .int x4, .int x5, .int x6, mj_hole, mj_hole] [] (u, ml_h m lm) Φ = wp Ln xs 34 0 [.ref 1, .int (nI 0)] [] (u, ml_h m lm) (mk Ln xs 55 87 [.ref 1, .int x1, .int x2, .int x3, .int x4, .int x5, .int x6, mj_hole, mj_hole] [.int x6] Φ) := (wp_same xd55_83 (Or.inr rfl) rfl).trans ((wp_same xd55_85 (Or.inr rfl) rfl).trans ((wp_same (S' := [.int (nI 0), .ref 1, .int x6]) xd55_86 (Or.inr rfl) rfl).trans (wm_cv (As := [.int (nI 0)]) (rest := [.int x6]) xd55_87 rfl rfl (show ml_L[1]? = _ from rfl) (Nat.le_of_ble_eq_true rfl) (Nat.le_of_ble_eq_true rfl) (Nat.le_of_ble_eq_true rfl) (Nat.le_of_ble_eq_true rfl))))
theorem x55_90 {x1 : Int32} {x2 : Int32} {x3 : Int32} {x4 : Int32} {x5 : Int32} {x6 : Int32} {xs0 : Int32} {xs1 : Int32} : wp Ln xs 55 90 [.ref 1, .int x1, .int x2, .int x3, .int x4, .int x5, .int x6, mj_hole, mj_hole] [.int xs0, .int xs1] (u, ml_h m lm) Φ = if xs0 ≤ xs1 then wp Ln xs 55 157 [.ref 1, .int x1, .int x2, .int x3, .int x4, .int x5, .int x6, mj_hole, mj_hole] [] (u, ml_h m lm) Φ else wp Ln xs 55 93 [.ref 1, .int x1, .int x2, .int x3, .int x4, .int x5, .int x6, mj_hole, mj_hole] [] (u, ml_h m lm) Φ := wx_icmp xd55_90 rfl rfl (xs0 ≤ xs1) mb_ge
theorem x55_93 {x1 : Int32} {x2 : Int32} {x3 : Int32} {x4 : Int32} {x5 : Int32} {x6 : Int32} : wp Ln xs 55 93 [.ref 1, .int x1, .int x2, .int x3, .int x4, .int x5, .int x6, mj_hole, mj_hole] [] (u, ml_h m lm) Φ = wp Ln xs 72 0 [.ref 1, .int x6, .int (nI 0)] [] (u, ml_h m lm) (mk Ln xs 55 99 [.ref 1, .int x1, .int x2, .int x3, .int x4, .int x5, .int x6, mj_hole, mj_hole] [.int x5] Φ) := (wp_same xd55_93 (Or.inr rfl) rfl).trans ((wp_same xd55_95 (Or.inr rfl) rfl).trans ((wp_same xd55_96 (Or.inr rfl) rfl).trans ((wp_same (S' := [.int (nI 0), .int x6, .ref 1, .int x5]) xd55_98 (Or.inr rfl) rfl).trans (wm_cv (As := [.int x6, .int (nI 0)]) (rest := [.int x5]) xd55_99 rfl rfl (show ml_L[1]? = _ from rfl) (Nat.le_of_ble_eq_true rfl) (Nat.le_of_ble_eq_true rfl) (Nat.le_of_ble_eq_true rfl) (Nat.le_of_ble_eq_true rfl)))))
theorem x55_102 {x1 : Int32} {x2 : Int32} {x3 : Int32} {x4 : Int32} {x5 : Int32} {x6 : Int32} {xs0 : Int32} {xs1 : Int32} : wp Ln xs 55 102 [.ref 1, .int x1, .int x2, .int x3, .int x4, .int x5, .int x6, mj_hole, mj_hole] [.int xs0, .int xs1] (u, ml_h m lm) Φ = if x6 < x4 then wp Ln xs 55 151 [.ref 1, .int x1, .int x2, .int x3, .int x4, .int (xs1 + xs0), .int x6, mj_hole, mj_hole] [] (u, ml_h m lm) Φ else wp Ln xs 55 112 [.ref 1, .int x1, .int x2, .int x3, .int x4, .int (xs1 + xs0), .int x6, mj_hole, mj_hole] [] (u, ml_h m lm) Φ := (wp_same xd55_102 (Or.inr rfl) rfl).trans ((wp_same (L' := [.ref 1, .int x1, .int x2, .int x3, .int x4, .int (xs1 + xs0), .int x6, mj_hole, mj_hole]) xd55_103 (Or.inr rfl) rfl).trans ((wp_same xd55_105 (Or.inr rfl) rfl).trans ((wp_same xd55_107 (Or.inr rfl) rfl).trans (wx_icmp xd55_109 rfl rfl (x6 < x4) mb_lt))))
theorem x55_112 {x1 : Int32} {x2 : Int32} {x3 : Int32} {x4 : Int32} {x5 : Int32} {x6 : Int32} : wp Ln xs 55 112 [.ref 1, .int x1, .int x2, .int x3, .int x4, .int x5, .int x6, mj_hole, mj_hole] [] (u, ml_h m lm) Φ = wp Ln xs 72 0 [.ref 1, .int x6, .int (nI 1)] [] (u, ml_h m lm) (mk Ln xs 55 116 [.ref 1, .int x1, .int x2, .int x3, .int x4, .int x5, .int x6, mj_hole, mj_hole] [] Φ) := (wp_same xd55_112 (Or.inr rfl) rfl).trans ((wp_same xd55_113 (Or.inr rfl) rfl).trans ((wp_same (S' := [.int (nI 1), .int x6, .ref 1]) xd55_115 (Or.inr rfl) rfl).trans (wm_cv (As := [.int x6, .int (nI 1)]) (rest := []) xd55_116 rfl rfl (show ml_L[1]? = _ from rfl) (Nat.le_of_ble_eq_true rfl) (Nat.le_of_ble_eq_true rfl) (Nat.le_of_ble_eq_true rfl) (Nat.le_of_ble_eq_true rfl))))
theorem x55_119 {x1 : Int32} {x2 : Int32} {x3 : Int32} {x4 : Int32} {x5 : Int32} {x6 : Int32} {xs0 : Int32} : wp Ln xs 55 119 [.ref 1, .int x1, .int x2, .int x3, .int x4, .int x5, .int x6, mj_hole, mj_hole] [.int xs0] (u, ml_h m lm) Φ = if ¬ xs0 = ((-1)) then wp Ln xs 55 149 [.ref 1, .int x1, .int x2, .int x3, .int x4, .int x5, .int x6, mj_hole, mj_hole] [] (u, ml_h m lm) Φ else wp Ln xs 55 123 [.ref 1, .int x1, .int x2, .int x3, .int x4, .int x5, .int x6, mj_hole, mj_hole] [] (u, ml_h m lm) Φ := (wp_same (S' := [.int ((-1)), .int xs0]) xd55_119 (Or.inr rfl) rfl).trans (wx_icmp xd55_120 rfl rfl (¬ xs0 = ((-1))) mb_ne)
theorem x55_123 {x1 : Int32} {x2 : Int32} {x3 : Int32} {x4 : Int32} {x5 : Int32} {x6 : Int32} : wp Ln xs 55 123 [.ref 1, .int x1, .int x2, .int x3, .int x4, .int x5, .int x6, mj_hole, mj_hole] [] (u, ml_h m lm) Φ = wp Ln xs 72 0 [.ref 1, .int x6, .int (nI 2)] [] (u, ml_h m lm) (mk Ln xs 55 127 [.ref 1, .int x1, .int x2, .int x3, .int x4, .int x5, .int x6, mj_hole, mj_hole] [] Φ) := (wp_same xd55_123 (Or.inr rfl) rfl).trans ((wp_same xd55_124 (Or.inr rfl) rfl).trans ((wp_same (S' := [.int (nI 2), .int x6, .ref 1]) xd55_126 (Or.inr rfl) rfl).trans (wm_cv (As := [.int x6, .int (nI 2)]) (rest := []) xd55_127 rfl rfl (show ml_L[1]? = _ from rfl) (Nat.le_of_ble_eq_true rfl) (Nat.le_of_ble_eq_true rfl) (Nat.le_of_ble_eq_true rfl) (Nat.le_of_ble_eq_true rfl))))
theorem x55_130 {x1 : Int32} {x2 : Int32} {x3 : Int32} {x4 : Int32} {x5 : Int32} {x6 : Int32} {xs0 : Int32} : wp Ln xs 55 130 [.ref 1, .int x1, .int x2, .int x3, .int x4, .int x5, .int x6, mj_hole, mj_hole] [.int xs0] (u, ml_h m lm) Φ = if ¬ xs0 = (x6 - x4) then wp Ln xs 55 149 [.ref 1, .int x1, .int x2, .int x3, .int x4, .int x5, .int x6, mj_hole, mj_hole] [] (u, ml_h m lm) Φ else wp Ln xs 55 138 [.ref 1, .int x1, .int x2, .int x3, .int x4, .int x5, .int x6, mj_hole, mj_hole] [] (u, ml_h m lm) Φ := (wp_same xd55_130 (Or.inr rfl) rfl).trans ((wp_same xd55_132 (Or.inr rfl) rfl).trans ((wp_same xd55_134 (Or.inr rfl) rfl).trans (wx_icmp xd55_135 rfl rfl (¬ xs0 = (x6 - x4)) mb_ne)))
theorem x55_138 {x1 : Int32} {x2 : Int32} {x3 : Int32} {x4 : Int32} {x5 : Int32} {x6 : Int32} : wp Ln xs 55 138 [.ref 1, .int x1, .int x2, .int x3, .int x4, .int x5, .int x6, mj_hole, mj_hole] [] (u, ml_h m lm) Φ = wp Ln xs 72 0 [.ref 1, .int x6, .int (nI 3)] [] (u, ml_h m lm) (mk Ln xs 55 142 [.ref 1, .int x1, .int x2, .int x3, .int x4, .int x5, .int x6, mj_hole, mj_hole] [] Φ) := (wp_same xd55_138 (Or.inr rfl) rfl).trans ((wp_same xd55_139 (Or.inr rfl) rfl).trans ((wp_same (S' := [.int (nI 3), .int x6, .ref 1]) xd55_141 (Or.inr rfl) rfl).trans (wm_cv (As := [.int x6, .int (nI 3)]) (rest := []) xd55_142 rfl rfl (show ml_L[1]? = _ from rfl) (Nat.le_of_ble_eq_true rfl) (Nat.le_of_ble_eq_true rfl) (Nat.le_of_ble_eq_true rfl) (Nat.le_of_ble_eq_true rfl))))
theorem x55_145 {x1 : Int32} {x2 : Int32} {x3 : Int32} {x4 : Int32} {x5 : Int32} {x6 : Int32} {xs0 : Int32} : wp Ln xs 55 145 [.ref 1, .int x1, .int x2, .int x3, .int x4, .int x5, .int x6, mj_hole, mj_hole] [.int xs0] (u, ml_h m lm) Φ = if xs0 = (nI 1) then wp Ln xs 55 151 [.ref 1, .int x1, .int x2, .int x3, .int x4, .int x5, .int x6, mj_hole, mj_hole] [] (u, ml_h m lm) Φ else wp Ln xs 55 149 [.ref 1, .int x1, .int x2, .int x3, .int x4, .int x5, .int x6, mj_hole, mj_hole] [] (u, ml_h m lm) Φ := (wp_same (S' := [.int (nI 1), .int xs0]) xd55_145 (Or.inr rfl) rfl).trans (wx_icmp xd55_146 rfl rfl (xs0 = (nI 1)) mb_eq)
theorem x55_149 {x1 : Int32} {x2 : Int32} {x3 : Int32} {x4 : Int32} {x5 : Int32} {x6 : Int32} : wp Ln xs 55 149 [.ref 1, .int x1, .int x2, .int x3, .int x4, .int x5, .int x6, mj_hole, mj_hole] [] (u, ml_h m lm) Φ = Φ (.inl (some (.int (nI 0)))) (u, ml_h m lm) := (wp_same (S' := [.int (nI 0)]) xd55_149 (Or.inr rfl) rfl).trans (wp_fin (v := some (.int (nI 0))) xd55_150 (Or.inr rfl) rfl rfl)
theorem x55_151 {x1 : Int32} {x2 : Int32} {x3 : Int32} {x4 : Int32} {x5 : Int32} {x6 : Int32} : wp Ln xs 55 151 [.ref 1, .int x1, .int x2, .int x3, .int x4, .int x5, .int x6, mj_hole, mj_hole] [] (u, ml_h m lm) Φ = wp Ln xs 55 83 [.ref 1, .int x1, .int x2, .int x3, .int x4, .int x5, .int (x6 + nI 1), mj_hole, mj_hole] [] (u, ml_h m lm) Φ := (wp_same (L' := [.ref 1, .int x1, .int x2, .int x3, .int x4, .int x5, .int (x6 + nI 1), mj_hole, mj_hole]) xd55_151 (Or.inr rfl) rfl).trans (wx_goto xd55_154 rfl)
theorem x55_157 {x1 : Int32} {x2 : Int32} {x3 : Int32} {x4 : Int32} {x5 : Int32} {x6 : Int32} : wp Ln xs 55 157 [.ref 1, .int x1, .int x2, .int x3, .int x4, .int x5, .int x6, mj_hole, mj_hole] [] (u, ml_h m lm) Φ = wp Ln xs 34 0 [.ref 1, .int (nI 0)] [] (u, ml_h m lm) (mk Ln xs 55 159 [.ref 1, .int x1, .int x2, .int x3, .int x4, .int x5, .int x6, mj_hole, mj_hole] [] Φ) := (wp_same xd55_157 (Or.inr rfl) rfl).trans ((wp_same (S' := [.int (nI 0), .ref 1]) xd55_158 (Or.inr rfl) rfl).trans (wm_cv (As := [.int (nI 0)]) (rest := []) xd55_159 rfl rfl (show ml_L[1]? = _ from rfl) (Nat.le_of_ble_eq_true rfl) (Nat.le_of_ble_eq_true rfl) (Nat.le_of_ble_eq_true rfl) (Nat.le_of_ble_eq_true rfl)))
theorem x55_162 {x1 : Int32} {x2 : Int32} {x3 : Int32} {x4 : Int32} {x5 : Int32} {x6 : Int32} {xs0 : Int32} : wp Ln xs 55 162 [.ref 1, .int x1, .int x2, .int x3, .int x4, .int x5, .int x6, mj_hole, mj_hole] [.int xs0] (u, ml_h m lm) Φ = wp Ln xs 34 0 [.ref 1, .int (nI 2)] [] (u, ml_h m lm) (mk Ln xs 55 166 [.ref 1, .int x1, .int x2, .int x3, .int x4, .int x5, .int x6, mj_hole, mj_hole] [.int x4, .int xs0] Φ) := (wp_same xd55_162 (Or.inr rfl) rfl).trans ((wp_same xd55_164 (Or.inr rfl) rfl).trans ((wp_same (S' := [.int (nI 2), .ref 1, .int x4, .int xs0]) xd55_165 (Or.inr rfl) rfl).trans (wm_cv (As := [.int (nI 2)]) (rest := [.int x4, .int xs0]) xd55_166 rfl rfl (show ml_L[1]? = _ from rfl) (Nat.le_of_ble_eq_true rfl) (Nat.le_of_ble_eq_true rfl) (Nat.le_of_ble_eq_true rfl) (Nat.le_of_ble_eq_true rfl))))
theorem x55_169 {x1 : Int32} {x2 : Int32} {x3 : Int32} {x4 : Int32} {x5 : Int32} {x6 : Int32} {xs0 : Int32} {xs1 : Int32} {xs2 : Int32} : wp Ln xs 55 169 [.ref 1, .int x1, .int x2, .int x3, .int x4, .int x5, .int x6, mj_hole, mj_hole] [.int xs0, .int xs1, .int xs2] (u, ml_h m lm) Φ = if ¬ xs2 = (xs1 + xs0) then wp Ln xs 55 254 [.ref 1, .int x1, .int x2, .int x3, .int x4, .int x5, .int x6, mj_hole, mj_hole] [] (u, ml_h m lm) Φ else wp Ln xs 55 173 [.ref 1, .int x1, .int x2, .int x3, .int x4, .int x5, .int x6, mj_hole, mj_hole] [] (u, ml_h m lm) Φ := (wp_same xd55_169 (Or.inr rfl) rfl).trans (wx_icmp xd55_170 rfl rfl (¬ xs2 = (xs1 + xs0)) mb_ne)
theorem x55_173 {x1 : Int32} {x2 : Int32} {x3 : Int32} {x4 : Int32} {x5 : Int32} {x6 : Int32} : wp Ln xs 55 173 [.ref 1, .int x1, .int x2, .int x3, .int x4, .int x5, .int x6, mj_hole, mj_hole] [] (u, ml_h m lm) Φ = wp Ln xs 34 0 [.ref 1, .int (nI 1)] [] (u, ml_h m lm) (mk Ln xs 55 175 [.ref 1, .int x1, .int x2, .int x3, .int x4, .int x5, .int x6, mj_hole, mj_hole] [] Φ) := (wp_same xd55_173 (Or.inr rfl) rfl).trans ((wp_same (S' := [.int (nI 1), .ref 1]) xd55_174 (Or.inr rfl) rfl).trans (wm_cv (As := [.int (nI 1)]) (rest := []) xd55_175 rfl rfl (show ml_L[1]? = _ from rfl) (Nat.le_of_ble_eq_true rfl) (Nat.le_of_ble_eq_true rfl) (Nat.le_of_ble_eq_true rfl) (Nat.le_of_ble_eq_true rfl)))
theorem x55_178 {x1 : Int32} {x2 : Int32} {x3 : Int32} {x4 : Int32} {x5 : Int32} {x6 : Int32} {xs0 : Int32} : wp Ln xs 55 178 [.ref 1, .int x1, .int x2, .int x3, .int x4, .int x5, .int x6, mj_hole, mj_hole] [.int xs0] (u, ml_h m lm) Φ = if (nI 12) < xs0 then wp Ln xs 55 254 [.ref 1, .int x1, .int x2, .int x3, .int x4, .int x5, .int x6, mj_hole, mj_hole] [] (u, ml_h m lm) Φ else wp Ln xs 55 183 [.ref 1, .int x1, .int x2, .int x3, .int x4, .int x5, .int x6, mj_hole, mj_hole] [] (u, ml_h m lm) Φ := (wp_same (S' := [.int (nI 12), .int xs0]) xd55_178 (Or.inr rfl) rfl).trans (wx_icmp xd55_180 rfl rfl ((nI 12) < xs0) mb_gt)
theorem x55_183 {x1 : Int32} {x2 : Int32} {x3 : Int32} {x4 : Int32} {x5 : Int32} {x6 : Int32} : wp Ln xs 55 183 [.ref 1, .int x1, .int x2, .int x3, .int x4, .int x5, .int x6, mj_hole, mj_hole] [] (u, ml_h m lm) Φ = wp Ln xs 34 0 [.ref 1, .int (nI 2)] [] (u, ml_h m lm) (mk Ln xs 55 185 [.ref 1, .int x1, .int x2, .int x3, .int x4, .int x5, .int x6, mj_hole, mj_hole] [] Φ) := (wp_same xd55_183 (Or.inr rfl) rfl).trans ((wp_same (S' := [.int (nI 2), .ref 1]) xd55_184 (Or.inr rfl) rfl).trans (wm_cv (As := [.int (nI 2)]) (rest := []) xd55_185 rfl rfl (show ml_L[1]? = _ from rfl) (Nat.le_of_ble_eq_true rfl) (Nat.le_of_ble_eq_true rfl) (Nat.le_of_ble_eq_true rfl) (Nat.le_of_ble_eq_true rfl)))
theorem x55_188 {x1 : Int32} {x2 : Int32} {x3 : Int32} {x4 : Int32} {x5 : Int32} {x6 : Int32} {xs0 : Int32} : wp Ln xs 55 188 [.ref 1, .int x1, .int x2, .int x3, .int x4, .int x5, .int x6, mj_hole, mj_hole] [.int xs0] (u, ml_h m lm) Φ = if (nI 15) < xs0 then wp Ln xs 55 254 [.ref 1, .int x1, .int x2, .int x3, .int x4, .int x5, .int x6, mj_hole, mj_hole] [] (u, ml_h m lm) Φ else wp Ln xs 55 193 [.ref 1, .int x1, .int x2, .int x3, .int x4, .int x5, .int x6, mj_hole, mj_hole] [] (u, ml_h m lm) Φ := (wp_same (S' := [.int (nI 15), .int xs0]) xd55_188 (Or.inr rfl) rfl).trans (wx_icmp xd55_190 rfl rfl ((nI 15) < xs0) mb_gt)
theorem x55_193 {x1 : Int32} {x2 : Int32} {x3 : Int32} {x4 : Int32} {x5 : Int32} {x6 : Int32} : wp Ln xs 55 193 [.ref 1, .int x1, .int x2, .int x3, .int x4, .int x5, .int x6, mj_hole, mj_hole] [] (u, ml_h m lm) Φ = wp Ln xs 34 0 [.ref 1, .int (nI 3)] [] (u, ml_h m lm) (mk Ln xs 55 195 [.ref 1, .int x1, .int x2, .int x3, .int x4, .int x5, .int x6, mj_hole, mj_hole] [] Φ) := (wp_same xd55_193 (Or.inr rfl) rfl).trans ((wp_same (S' := [.int (nI 3), .ref 1]) xd55_194 (Or.inr rfl) rfl).trans (wm_cv (As := [.int (nI 3)]) (rest := []) xd55_195 rfl rfl (show ml_L[1]? = _ from rfl) (Nat.le_of_ble_eq_true rfl) (Nat.le_of_ble_eq_true rfl) (Nat.le_of_ble_eq_true rfl) (Nat.le_of_ble_eq_true rfl)))
theorem x55_198 {x1 : Int32} {x2 : Int32} {x3 : Int32} {x4 : Int32} {x5 : Int32} {x6 : Int32} {xs0 : Int32} : wp Ln xs 55 198 [.ref 1, .int x1, .int x2, .int x3, .int x4, .int x5, .int x6, mj_hole, mj_hole] [.int xs0] (u, ml_h m lm) Φ = wp Ln xs 34 0 [.ref 1, .int (nI 1)] [] (u, ml_h m lm) (mk Ln xs 55 203 [.ref 1, .int x1, .int x2, .int x3, .int x4, .int x5, .int x6, mj_hole, mj_hole] [.int (nI 7), .int x2, .int xs0] Φ) := (wp_same xd55_198 (Or.inr rfl) rfl).trans ((wp_same (S' := [.int (nI 7), .int x2, .int xs0]) xd55_199 (Or.inr rfl) rfl).trans ((wp_same xd55_201 (Or.inr rfl) rfl).trans ((wp_same (S' := [.int (nI 1), .ref 1, .int (nI 7), .int x2, .int xs0]) xd55_202 (Or.inr rfl) rfl).trans (wm_cv (As := [.int (nI 1)]) (rest := [.int (nI 7), .int x2, .int xs0]) xd55_203 rfl rfl (show ml_L[1]? = _ from rfl) (Nat.le_of_ble_eq_true rfl) (Nat.le_of_ble_eq_true rfl) (Nat.le_of_ble_eq_true rfl) (Nat.le_of_ble_eq_true rfl)))))
theorem x55_206 {x1 : Int32} {x2 : Int32} {x3 : Int32} {x4 : Int32} {x5 : Int32} {x6 : Int32} {xs0 : Int32} {xs1 : Int32} {xs2 : Int32} {xs3 : Int32} : wp Ln xs 55 206 [.ref 1, .int x1, .int x2, .int x3, .int x4, .int x5, .int x6, mj_hole, mj_hole] [.int xs0, .int xs1, .int xs2, .int xs3] (u, ml_h m lm) Φ = wp Ln xs 34 0 [.ref 1, .int (nI 2)] [] (u, ml_h m lm) (mk Ln xs 55 212 [.ref 1, .int x1, .int x2, .int x3, .int x4, .int x5, .int x6, mj_hole, mj_hole] [.int (nI 10), .int (xs2 + (xs1 * xs0)), .int xs3] Φ) := (wp_same xd55_206 (Or.inr rfl) rfl).trans ((wp_same xd55_207 (Or.inr rfl) rfl).trans ((wp_same (S' := [.int (nI 10), .int (xs2 + (xs1 * xs0)), .int xs3]) xd55_208 (Or.inr rfl) rfl).trans ((wp_same xd55_210 (Or.inr rfl) rfl).trans ((wp_same (S' := [.int (nI 2), .ref 1, .int (nI 10), .int (xs2 + (xs1 * xs0)), .int xs3]) xd55_211 (Or.inr rfl) rfl).trans (wm_cv (As := [.int (nI 2)]) (rest := [.int (nI 10), .int (xs2 + (xs1 * xs0)), .int xs3]) xd55_212 rfl rfl (show ml_L[1]? = _ from rfl) (Nat.le_of_ble_eq_true rfl) (Nat.le_of_ble_eq_true rfl) (Nat.le_of_ble_eq_true rfl) (Nat.le_of_ble_eq_true rfl))))))
theorem x55_215 {x1 : Int32} {x2 : Int32} {x3 : Int32} {x4 : Int32} {x5 : Int32} {x6 : Int32} {xs0 : Int32} {xs1 : Int32} {xs2 : Int32} {xs3 : Int32} : wp Ln xs 55 215 [.ref 1, .int x1, .int x2, .int x3, .int x4, .int x5, .int x6, mj_hole, mj_hole] [.int xs0, .int xs1, .int xs2, .int xs3] (u, ml_h m lm) Φ = if ¬ xs3 = (xs2 + (xs1 * xs0)) then wp Ln xs 55 254 [.ref 1, .int x1, .int x2, .int x3, .int x4, .int x5, .int x6, mj_hole, mj_hole] [] (u, ml_h m lm) Φ else wp Ln xs 55 220 [.ref 1, .int x1, .int x2, .int x3, .int x4, .int x5, .int x6, mj_hole, mj_hole] [] (u, ml_h m lm) Φ := (wp_same xd55_215 (Or.inr rfl) rfl).trans ((wp_same xd55_216 (Or.inr rfl) rfl).trans (wx_icmp xd55_217 rfl rfl (¬ xs3 = (xs2 + (xs1 * xs0))) mb_ne))
theorem x55_220 {x1 : Int32} {x2 : Int32} {x3 : Int32} {x4 : Int32} {x5 : Int32} {x6 : Int32} : wp Ln xs 55 220 [.ref 1, .int x1, .int x2, .int x3, .int x4, .int x5, .int x6, mj_hole, mj_hole] [] (u, ml_h m lm) Φ = wp Ln xs 34 0 [.ref 1, .int (nI 6)] [] (u, ml_h m lm) (mk Ln xs 55 223 [.ref 1, .int x1, .int x2, .int x3, .int x4, .int x5, .int x6, mj_hole, mj_hole] [] Φ) := (wp_same xd55_220 (Or.inr rfl) rfl).trans ((wp_same (S' := [.int (nI 6), .ref 1]) xd55_221 (Or.inr rfl) rfl).trans (wm_cv (As := [.int (nI 6)]) (rest := []) xd55_223 rfl rfl (show ml_L[1]? = _ from rfl) (Nat.le_of_ble_eq_true rfl) (Nat.le_of_ble_eq_true rfl) (Nat.le_of_ble_eq_true rfl) (Nat.le_of_ble_eq_true rfl)))
theorem x55_226 {x1 : Int32} {x2 : Int32} {x3 : Int32} {x4 : Int32} {x5 : Int32} {x6 : Int32} {xs0 : Int32} : wp Ln xs 55 226 [.ref 1, .int x1, .int x2, .int x3, .int x4, .int x5, .int x6, mj_hole, mj_hole] [.int xs0] (u, ml_h m lm) Φ = if ¬ xs0 = x3 then wp Ln xs 55 254 [.ref 1, .int x1, .int x2, .int x3, .int x4, .int x5, .int x6, mj_hole, mj_hole] [] (u, ml_h m lm) Φ else wp Ln xs 55 230 [.ref 1, .int x1, .int x2, .int x3, .int x4, .int x5, .int x6, mj_hole, mj_hole] [] (u, ml_h m lm) Φ := (wp_same xd55_226 (Or.inr rfl) rfl).trans (wx_icmp xd55_227 rfl rfl (¬ xs0 = x3) mb_ne)
theorem x55_230 {x1 : Int32} {x2 : Int32} {x3 : Int32} {x4 : Int32} {x5 : Int32} {x6 : Int32} : wp Ln xs 55 230 [.ref 1, .int x1, .int x2, .int x3, .int x4, .int x5, .int x6, mj_hole, mj_hole] [] (u, ml_h m lm) Φ = wp Ln xs 34 0 [.ref 1, .int (nI 7)] [] (u, ml_h m lm) (mk Ln xs 55 233 [.ref 1, .int x1, .int x2, .int x3, .int x4, .int x5, .int x6, mj_hole, mj_hole] [] Φ) := (wp_same xd55_230 (Or.inr rfl) rfl).trans ((wp_same (S' := [.int (nI 7), .ref 1]) xd55_231 (Or.inr rfl) rfl).trans (wm_cv (As := [.int (nI 7)]) (rest := []) xd55_233 rfl rfl (show ml_L[1]? = _ from rfl) (Nat.le_of_ble_eq_true rfl) (Nat.le_of_ble_eq_true rfl) (Nat.le_of_ble_eq_true rfl) (Nat.le_of_ble_eq_true rfl)))
theorem x55_236 {x1 : Int32} {x2 : Int32} {x3 : Int32} {x4 : Int32} {x5 : Int32} {x6 : Int32} {xs0 : Int32} : wp Ln xs 55 236 [.ref 1, .int x1, .int x2, .int x3, .int x4, .int x5, .int x6, mj_hole, mj_hole] [.int xs0] (u, ml_h m lm) Φ = if ¬ xs0 = x5 then wp Ln xs 55 254 [.ref 1, .int x1, .int x2, .int x3, .int x4, .int x5, .int x6, mj_hole, mj_hole] [] (u, ml_h m lm) Φ else wp Ln xs 55 241 [.ref 1, .int x1, .int x2, .int x3, .int x4, .int x5, .int x6, mj_hole, mj_hole] [] (u, ml_h m lm) Φ := (wp_same xd55_236 (Or.inr rfl) rfl).trans (wx_icmp xd55_238 rfl rfl (¬ xs0 = x5) mb_ne)
theorem x55_241 {x1 : Int32} {x2 : Int32} {x3 : Int32} {x4 : Int32} {x5 : Int32} {x6 : Int32} : wp Ln xs 55 241 [.ref 1, .int x1, .int x2, .int x3, .int x4, .int x5, .int x6, mj_hole, mj_hole] [] (u, ml_h m lm) Φ = wp Ln xs 52 0 [.ref 1] [] (u, ml_h m lm) (mk Ln xs 55 242 [.ref 1, .int x1, .int x2, .int x3, .int x4, .int x5, .int x6, mj_hole, mj_hole] [] Φ) := (wp_same xd55_241 (Or.inr rfl) rfl).trans (wm_cv (As := []) (rest := []) xd55_242 rfl rfl (show ml_L[1]? = _ from rfl) (Nat.le_of_ble_eq_true rfl) (Nat.le_of_ble_eq_true rfl) (Nat.le_of_ble_eq_true rfl) (Nat.le_of_ble_eq_true rfl))
theorem x55_245 {x1 : Int32} {x2 : Int32} {x3 : Int32} {x4 : Int32} {x5 : Int32} {x6 : Int32} {zs0 : UInt64} : wp Ln xs 55 245 [.ref 1, .int x1, .int x2, .int x3, .int x4, .int x5, .int x6, mj_hole, mj_hole] [.double zs0] (u, ml_h m lm) Φ = if (Op.cmpValue (FP.dcmp zs0 FP.dconst0) .l) ≤ (nI 0) then wp Ln xs 55 254 [.ref 1, .int x1, .int x2, .int x3, .int x4, .int x5, .int x6, mj_hole, mj_hole] [] (u, ml_h m lm) Φ else wp Ln xs 55 250 [.ref 1, .int x1, .int x2, .int x3, .int x4, .int x5, .int x6, mj_hole, mj_hole] [] (u, ml_h m lm) Φ := (wp_same xd55_245 (Or.inr rfl) rfl).trans ((wp_same xd55_246 (Or.inr rfl) rfl).trans (wx_if xd55_247 rfl rfl ((Op.cmpValue (FP.dcmp zs0 FP.dconst0) .l) ≤ (nI 0)) mb_le))
theorem x55_250 {x1 : Int32} {x2 : Int32} {x3 : Int32} {x4 : Int32} {x5 : Int32} {x6 : Int32} : wp Ln xs 55 250 [.ref 1, .int x1, .int x2, .int x3, .int x4, .int x5, .int x6, mj_hole, mj_hole] [] (u, ml_h m lm) Φ = wp Ln xs 55 255 [.ref 1, .int x1, .int x2, .int x3, .int x4, .int x5, .int x6, mj_hole, mj_hole] [.int (nI 1)] (u, ml_h m lm) Φ := (wp_same (S' := [.int (nI 1)]) xd55_250 (Or.inr rfl) rfl).trans (wx_goto xd55_251 rfl)
theorem x55_254 {x1 : Int32} {x2 : Int32} {x3 : Int32} {x4 : Int32} {x5 : Int32} {x6 : Int32} : wp Ln xs 55 254 [.ref 1, .int x1, .int x2, .int x3, .int x4, .int x5, .int x6, mj_hole, mj_hole] [] (u, ml_h m lm) Φ = wp Ln xs 55 255 [.ref 1, .int x1, .int x2, .int x3, .int x4, .int x5, .int x6, mj_hole, mj_hole] [.int (nI 0)] (u, ml_h m lm) Φ := wp_same (S' := [.int (nI 0)]) xd55_254 (Or.inr rfl) rfl
theorem x55_255 {x1 : Int32} {x2 : Int32} {x3 : Int32} {x4 : Int32} {x5 : Int32} {x6 : Int32} {xs0 : Int32} : wp Ln xs 55 255 [.ref 1, .int x1, .int x2, .int x3, .int x4, .int x5, .int x6, mj_hole, mj_hole] [.int xs0] (u, ml_h m lm) Φ = wp Ln xs 79 0 [.int x1, .int (nI 1000)] [] (u, ml_h m lm) (mk Ln xs 55 261 [.ref 1, .int x1, .int x2, .int x3, .int x4, .int x5, .int xs0, mj_hole, mj_hole] [] Φ) := (wp_same (L' := [.ref 1, .int x1, .int x2, .int x3, .int x4, .int x5, .int xs0, mj_hole, mj_hole]) xd55_255 (Or.inr rfl) rfl).trans ((wp_same xd55_257 (Or.inr rfl) rfl).trans ((wp_same (S' := [.int (nI 1000), .int x1]) xd55_258 (Or.inr rfl) rfl).trans (wm_cs (As := [.int x1, .int (nI 1000)]) (rest := []) xd55_261 rfl rfl (Nat.le_of_ble_eq_true rfl) (Nat.le_of_ble_eq_true rfl) (Nat.le_of_ble_eq_true rfl) (Nat.le_of_ble_eq_true rfl))))
theorem x55_264 {x1 : Int32} {x2 : Int32} {x3 : Int32} {x4 : Int32} {x5 : Int32} {x6 : Int32} {xs0 : Int32} : wp Ln xs 55 264 [.ref 1, .int x1, .int x2, .int x3, .int x4, .int x5, .int x6, mj_hole, mj_hole] [.int xs0] (u, ml_h m lm) Φ = wp Ln xs 79 0 [.int (x1 >>> ((nI 9) &&& 31)), .int (nI 1000)] [] (u, ml_h m lm) (mk Ln xs 55 273 [.ref 1, .int x1, .int x2, .int x3, .int x4, .int x5, .int x6, .int xs0, mj_hole] [] Φ) := (wp_same (L' := [.ref 1, .int x1, .int x2, .int x3, .int x4, .int x5, .int x6, .int xs0, mj_hole]) xd55_264 (Or.inr rfl) rfl).trans ((wp_same xd55_266 (Or.inr rfl) rfl).trans ((wp_same (S' := [.int (nI 9), .int x1]) xd55_267 (Or.inr rfl) rfl).trans ((wp_same xd55_269 (Or.inr rfl) rfl).trans ((wp_same (S' := [.int (nI 1000), .int (x1 >>> ((nI 9) &&& 31))]) xd55_270 (Or.inr rfl) rfl).trans (wm_cs (As := [.int (x1 >>> ((nI 9) &&& 31)), .int (nI 1000)]) (rest := []) xd55_273 rfl rfl (Nat.le_of_ble_eq_true rfl) (Nat.le_of_ble_eq_true rfl) (Nat.le_of_ble_eq_true rfl) (Nat.le_of_ble_eq_true rfl))))))
theorem x55_276 {x1 : Int32} {x2 : Int32} {x3 : Int32} {x4 : Int32} {x5 : Int32} {x6 : Int32} {x7 : Int32} {xs0 : Int32} : wp Ln xs 55 276 [.ref 1, .int x1, .int x2, .int x3, .int x4, .int x5, .int x6, .int x7, mj_hole] [.int xs0] (u, ml_h m lm) Φ = if x6 = (nI 0) then wp Ln xs 55 360 [.ref 1, .int x1, .int x2, .int x3, .int x4, .int x5, .int x6, .int x7, .int xs0] [] (u, ml_h m lm) Φ else wp Ln xs 55 283 [.ref 1, .int x1, .int x2, .int x3, .int x4, .int x5, .int x6, .int x7, .int xs0] [] (u, ml_h m lm) Φ := (wp_same (L' := [.ref 1, .int x1, .int x2, .int x3, .int x4, .int x5, .int x6, .int x7, .int xs0]) xd55_276 (Or.inr rfl) rfl).trans ((wp_same xd55_278 (Or.inr rfl) rfl).trans (wx_if xd55_280 rfl rfl (x6 = (nI 0)) mb_eq))
theorem x55_283 {x1 : Int32} {x2 : Int32} {x3 : Int32} {x4 : Int32} {x5 : Int32} {x6 : Int32} {x7 : Int32} {x8 : Int32} : wp Ln xs 55 283 [.ref 1, .int x1, .int x2, .int x3, .int x4, .int x5, .int x6, .int x7, .int x8] [] (u, ml_h m lm) Φ = wp Ln xs 80 0 [.ref 1, .int x7, .int x8, mj_hole, mj_hole, mj_hole, mj_hole] [] (u, ml_h m lm) (mk Ln xs 55 288 [.ref 1, .int x1, .int x2, .int x3, .int x4, .int x5, .int x6, .int x7, .int x8] [] Φ) := (wp_same xd55_283 (Or.inr rfl) rfl).trans ((wp_same xd55_284 (Or.inr rfl) rfl).trans ((wp_same xd55_286 (Or.inr rfl) rfl).trans (wm_cs (As := [.ref 1, .int x7, .int x8]) (rest := []) xd55_288 rfl rfl (Nat.le_of_ble_eq_true rfl) (Nat.le_of_ble_eq_true rfl) (Nat.le_of_ble_eq_true rfl) (Nat.le_of_ble_eq_true rfl))))
theorem x55_291 {x1 : Int32} {x2 : Int32} {x3 : Int32} {x4 : Int32} {x5 : Int32} {x6 : Int32} {x7 : Int32} {x8 : Int32} {xs0 : Int32} : wp Ln xs 55 291 [.ref 1, .int x1, .int x2, .int x3, .int x4, .int x5, .int x6, .int x7, .int x8] [.int xs0] (u, ml_h m lm) Φ = if xs0 = (nI 0) then wp Ln xs 55 360 [.ref 1, .int x1, .int x2, .int x3, .int x4, .int x5, .int x6, .int x7, .int x8] [] (u, ml_h m lm) Φ else wp Ln xs 55 294 [.ref 1, .int x1, .int x2, .int x3, .int x4, .int x5, .int x6, .int x7, .int x8] [] (u, ml_h m lm) Φ := wx_if xd55_291 rfl rfl (xs0 = (nI 0)) mb_eq
theorem x55_294 {x1 : Int32} {x2 : Int32} {x3 : Int32} {x4 : Int32} {x5 : Int32} {x6 : Int32} {x7 : Int32} {x8 : Int32} : wp Ln xs 55 294 [.ref 1, .int x1, .int x2, .int x3, .int x4, .int x5, .int x6, .int x7, .int x8] [] (u, ml_h m lm) Φ = wp Ln xs 80 0 [.ref 1, .int x8, .int x7, mj_hole, mj_hole, mj_hole, mj_hole] [] (u, ml_h m lm) (mk Ln xs 55 299 [.ref 1, .int x1, .int x2, .int x3, .int x4, .int x5, .int x6, .int x7, .int x8] [] Φ) := (wp_same xd55_294 (Or.inr rfl) rfl).trans ((wp_same xd55_295 (Or.inr rfl) rfl).trans ((wp_same xd55_297 (Or.inr rfl) rfl).trans (wm_cs (As := [.ref 1, .int x8, .int x7]) (rest := []) xd55_299 rfl rfl (Nat.le_of_ble_eq_true rfl) (Nat.le_of_ble_eq_true rfl) (Nat.le_of_ble_eq_true rfl) (Nat.le_of_ble_eq_true rfl))))
theorem x55_302 {x1 : Int32} {x2 : Int32} {x3 : Int32} {x4 : Int32} {x5 : Int32} {x6 : Int32} {x7 : Int32} {x8 : Int32} {xs0 : Int32} : wp Ln xs 55 302 [.ref 1, .int x1, .int x2, .int x3, .int x4, .int x5, .int x6, .int x7, .int x8] [.int xs0] (u, ml_h m lm) Φ = if xs0 = (nI 0) then wp Ln xs 55 360 [.ref 1, .int x1, .int x2, .int x3, .int x4, .int x5, .int x6, .int x7, .int x8] [] (u, ml_h m lm) Φ else wp Ln xs 55 305 [.ref 1, .int x1, .int x2, .int x3, .int x4, .int x5, .int x6, .int x7, .int x8] [] (u, ml_h m lm) Φ := wx_if xd55_302 rfl rfl (xs0 = (nI 0)) mb_eq
theorem x55_305 {x1 : Int32} {x2 : Int32} {x3 : Int32} {x4 : Int32} {x5 : Int32} {x6 : Int32} {x7 : Int32} {x8 : Int32} : wp Ln xs 55 305 [.ref 1, .int x1, .int x2, .int x3, .int x4, .int x5, .int x6, .int x7, .int x8] [] (u, ml_h m lm) Φ = wp Ln xs 80 0 [.ref 1, .int x7, .int x7, mj_hole, mj_hole, mj_hole, mj_hole] [] (u, ml_h m lm) (mk Ln xs 55 310 [.ref 1, .int x1, .int x2, .int x3, .int x4, .int x5, .int x6, .int x7, .int x8] [] Φ) := (wp_same xd55_305 (Or.inr rfl) rfl).trans ((wp_same xd55_306 (Or.inr rfl) rfl).trans ((wp_same xd55_308 (Or.inr rfl) rfl).trans (wm_cs (As := [.ref 1, .int x7, .int x7]) (rest := []) xd55_310 rfl rfl (Nat.le_of_ble_eq_true rfl) (Nat.le_of_ble_eq_true rfl) (Nat.le_of_ble_eq_true rfl) (Nat.le_of_ble_eq_true rfl))))
theorem x55_313 {x1 : Int32} {x2 : Int32} {x3 : Int32} {x4 : Int32} {x5 : Int32} {x6 : Int32} {x7 : Int32} {x8 : Int32} {xs0 : Int32} : wp Ln xs 55 313 [.ref 1, .int x1, .int x2, .int x3, .int x4, .int x5, .int x6, .int x7, .int x8] [.int xs0] (u, ml_h m lm) Φ = if xs0 = (nI 0) then wp Ln xs 55 360 [.ref 1, .int x1, .int x2, .int x3, .int x4, .int x5, .int x6, .int x7, .int x8] [] (u, ml_h m lm) Φ else wp Ln xs 55 316 [.ref 1, .int x1, .int x2, .int x3, .int x4, .int x5, .int x6, .int x7, .int x8] [] (u, ml_h m lm) Φ := wx_if xd55_313 rfl rfl (xs0 = (nI 0)) mb_eq
theorem x55_316 {x1 : Int32} {x2 : Int32} {x3 : Int32} {x4 : Int32} {x5 : Int32} {x6 : Int32} {x7 : Int32} {x8 : Int32} : wp Ln xs 55 316 [.ref 1, .int x1, .int x2, .int x3, .int x4, .int x5, .int x6, .int x7, .int x8] [] (u, ml_h m lm) Φ = wp Ln xs 81 0 [.ref 1, .int (nI 0), .int (nI 999), .int (nI 0)] [] (u, ml_h m lm) (mk Ln xs 55 322 [.ref 1, .int x1, .int x2, .int x3, .int x4, .int x5, .int x6, .int x7, .int x8] [] Φ) := (wp_same xd55_316 (Or.inr rfl) rfl).trans ((wp_same (S' := [.int (nI 0), .ref 1]) xd55_317 (Or.inr rfl) rfl).trans ((wp_same (S' := [.int (nI 999), .int (nI 0), .ref 1]) xd55_318 (Or.inr rfl) rfl).trans ((wp_same (S' := [.int (nI 0), .int (nI 999), .int (nI 0), .ref 1]) xd55_321 (Or.inr rfl) rfl).trans (wm_cv (As := [.int (nI 0), .int (nI 999), .int (nI 0)]) (rest := []) xd55_322 rfl rfl (show ml_L[1]? = _ from rfl) (Nat.le_of_ble_eq_true rfl) (Nat.le_of_ble_eq_true rfl) (Nat.le_of_ble_eq_true rfl) (Nat.le_of_ble_eq_true rfl)))))
theorem x55_325 {x1 : Int32} {x2 : Int32} {x3 : Int32} {x4 : Int32} {x5 : Int32} {x6 : Int32} {x7 : Int32} {x8 : Int32} {xs0 : Int32} : wp Ln xs 55 325 [.ref 1, .int x1, .int x2, .int x3, .int x4, .int x5, .int x6, .int x7, .int x8] [.int xs0] (u, ml_h m lm) Φ = wp Ln xs 34 0 [.ref 1, .int (nI 0)] [] (u, ml_h m lm) (mk Ln xs 55 327 [.ref 1, .int x1, .int x2, .int x3, .int x4, .int x5, .int x6, .int x7, .int x8] [.int xs0] Φ) := (wp_same xd55_325 (Or.inr rfl) rfl).trans ((wp_same (S' := [.int (nI 0), .ref 1, .int xs0]) xd55_326 (Or.inr rfl) rfl).trans (wm_cv (As := [.int (nI 0)]) (rest := [.int xs0]) xd55_327 rfl rfl (show ml_L[1]? = _ from rfl) (Nat.le_of_ble_eq_true rfl) (Nat.le_of_ble_eq_true rfl) (Nat.le_of_ble_eq_true rfl) (Nat.le_of_ble_eq_true rfl)))
theorem x55_330 {x1 : Int32} {x2 : Int32} {x3 : Int32} {x4 : Int32} {x5 : Int32} {x6 : Int32} {x7 : Int32} {x8 : Int32} {xs0 : Int32} {xs1 : Int32} : wp Ln xs 55 330 [.ref 1, .int x1, .int x2, .int x3, .int x4, .int x5, .int x6, .int x7, .int x8] [.int xs0, .int xs1] (u, ml_h m lm) Φ = if ¬ xs1 = xs0 then wp Ln xs 55 360 [.ref 1, .int x1, .int x2, .int x3, .int x4, .int x5, .int x6, .int x7, .int x8] [] (u, ml_h m lm) Φ else wp Ln xs 55 333 [.ref 1, .int x1, .int x2, .int x3, .int x4, .int x5, .int x6, .int x7, .int x8] [] (u, ml_h m lm) Φ := wx_icmp xd55_330 rfl rfl (¬ xs1 = xs0) mb_ne
theorem x55_333 {x1 : Int32} {x2 : Int32} {x3 : Int32} {x4 : Int32} {x5 : Int32} {x6 : Int32} {x7 : Int32} {x8 : Int32} : wp Ln xs 55 333 [.ref 1, .int x1, .int x2, .int x3, .int x4, .int x5, .int x6, .int x7, .int x8] [] (u, ml_h m lm) Φ = wp Ln xs 81 0 [.ref 1, .int (nI 0), .int (nI 999), .int (nI 2)] [] (u, ml_h m lm) (mk Ln xs 55 339 [.ref 1, .int x1, .int x2, .int x3, .int x4, .int x5, .int x6, .int x7, .int x8] [] Φ) := (wp_same xd55_333 (Or.inr rfl) rfl).trans ((wp_same (S' := [.int (nI 0), .ref 1]) xd55_334 (Or.inr rfl) rfl).trans ((wp_same (S' := [.int (nI 999), .int (nI 0), .ref 1]) xd55_335 (Or.inr rfl) rfl).trans ((wp_same (S' := [.int (nI 2), .int (nI 999), .int (nI 0), .ref 1]) xd55_338 (Or.inr rfl) rfl).trans (wm_cv (As := [.int (nI 0), .int (nI 999), .int (nI 2)]) (rest := []) xd55_339 rfl rfl (show ml_L[1]? = _ from rfl) (Nat.le_of_ble_eq_true rfl) (Nat.le_of_ble_eq_true rfl) (Nat.le_of_ble_eq_true rfl) (Nat.le_of_ble_eq_true rfl)))))
theorem x55_342 {x1 : Int32} {x2 : Int32} {x3 : Int32} {x4 : Int32} {x5 : Int32} {x6 : Int32} {x7 : Int32} {x8 : Int32} {xs0 : Int32} : wp Ln xs 55 342 [.ref 1, .int x1, .int x2, .int x3, .int x4, .int x5, .int x6, .int x7, .int x8] [.int xs0] (u, ml_h m lm) Φ = wp Ln xs 34 0 [.ref 1, .int (nI 1)] [] (u, ml_h m lm) (mk Ln xs 55 344 [.ref 1, .int x1, .int x2, .int x3, .int x4, .int x5, .int x6, .int x7, .int x8] [.int xs0] Φ) := (wp_same xd55_342 (Or.inr rfl) rfl).trans ((wp_same (S' := [.int (nI 1), .ref 1, .int xs0]) xd55_343 (Or.inr rfl) rfl).trans (wm_cv (As := [.int (nI 1)]) (rest := [.int xs0]) xd55_344 rfl rfl (show ml_L[1]? = _ from rfl) (Nat.le_of_ble_eq_true rfl) (Nat.le_of_ble_eq_true rfl) (Nat.le_of_ble_eq_true rfl) (Nat.le_of_ble_eq_true rfl)))
theorem x55_347 {x1 : Int32} {x2 : Int32} {x3 : Int32} {x4 : Int32} {x5 : Int32} {x6 : Int32} {x7 : Int32} {x8 : Int32} {xs0 : Int32} {xs1 : Int32} : wp Ln xs 55 347 [.ref 1, .int x1, .int x2, .int x3, .int x4, .int x5, .int x6, .int x7, .int x8] [.int xs0, .int xs1] (u, ml_h m lm) Φ = wp Ln xs 34 0 [.ref 1, .int (nI 2)] [] (u, ml_h m lm) (mk Ln xs 55 349 [.ref 1, .int x1, .int x2, .int x3, .int x4, .int x5, .int x6, .int x7, .int x8] [.int xs0, .int xs1] Φ) := (wp_same xd55_347 (Or.inr rfl) rfl).trans ((wp_same (S' := [.int (nI 2), .ref 1, .int xs0, .int xs1]) xd55_348 (Or.inr rfl) rfl).trans (wm_cv (As := [.int (nI 2)]) (rest := [.int xs0, .int xs1]) xd55_349 rfl rfl (show ml_L[1]? = _ from rfl) (Nat.le_of_ble_eq_true rfl) (Nat.le_of_ble_eq_true rfl) (Nat.le_of_ble_eq_true rfl) (Nat.le_of_ble_eq_true rfl)))
theorem x55_352 {x1 : Int32} {x2 : Int32} {x3 : Int32} {x4 : Int32} {x5 : Int32} {x6 : Int32} {x7 : Int32} {x8 : Int32} {xs0 : Int32} {xs1 : Int32} {xs2 : Int32} : wp Ln xs 55 352 [.ref 1, .int x1, .int x2, .int x3, .int x4, .int x5, .int x6, .int x7, .int x8] [.int xs0, .int xs1, .int xs2] (u, ml_h m lm) Φ = if ¬ xs2 = (xs1 + xs0) then wp Ln xs 55 360 [.ref 1, .int x1, .int x2, .int x3, .int x4, .int x5, .int x6, .int x7, .int x8] [] (u, ml_h m lm) Φ else wp Ln xs 55 356 [.ref 1, .int x1, .int x2, .int x3, .int x4, .int x5, .int x6, .int x7, .int x8] [] (u, ml_h m lm) Φ := (wp_same xd55_352 (Or.inr rfl) rfl).trans (wx_icmp xd55_353 rfl rfl (¬ xs2 = (xs1 + xs0)) mb_ne)
theorem x55_356 {x1 : Int32} {x2 : Int32} {x3 : Int32} {x4 : Int32} {x5 : Int32} {x6 : Int32} {x7 : Int32} {x8 : Int32} : wp Ln xs 55 356 [.ref 1, .int x1, .int x2, .int x3, .int x4, .int x5, .int x6, .int x7, .int x8] [] (u, ml_h m lm) Φ = wp Ln xs 55 361 [.ref 1, .int x1, .int x2, .int x3, .int x4, .int x5, .int x6, .int x7, .int x8] [.int (nI 1)] (u, ml_h m lm) Φ := (wp_same (S' := [.int (nI 1)]) xd55_356 (Or.inr rfl) rfl).trans (wx_goto xd55_357 rfl)
theorem x55_360 {x1 : Int32} {x2 : Int32} {x3 : Int32} {x4 : Int32} {x5 : Int32} {x6 : Int32} {x7 : Int32} {x8 : Int32} : wp Ln xs 55 360 [.ref 1, .int x1, .int x2, .int x3, .int x4, .int x5, .int x6, .int x7, .int x8] [] (u, ml_h m lm) Φ = wp Ln xs 55 361 [.ref 1, .int x1, .int x2, .int x3, .int x4, .int x5, .int x6, .int x7, .int x8] [.int (nI 0)] (u, ml_h m lm) Φ := wp_same (S' := [.int (nI 0)]) xd55_360 (Or.inr rfl) rfl
theorem x55_361 {x1 : Int32} {x2 : Int32} {x3 : Int32} {x4 : Int32} {x5 : Int32} {x6 : Int32} {x7 : Int32} {x8 : Int32} {xs0 : Int32} : wp Ln xs 55 361 [.ref 1, .int x1, .int x2, .int x3, .int x4, .int x5, .int x6, .int x7, .int x8] [.int xs0] (u, ml_h m lm) Φ = if xs0 = (nI 0) then wp Ln xs 55 462 [.ref 1, .int x1, .int x2, .int x3, .int x4, .int x5, .int xs0, .int x7, .int x8] [] (u, ml_h m lm) Φ else wp Ln xs 55 368 [.ref 1, .int x1, .int x2, .int x3, .int x4, .int x5, .int xs0, .int x7, .int x8] [] (u, ml_h m lm) Φ := (wp_same (L' := [.ref 1, .int x1, .int x2, .int x3, .int x4, .int x5, .int xs0, .int x7, .int x8]) xd55_361 (Or.inr rfl) rfl).trans ((wp_same xd55_363 (Or.inr rfl) rfl).trans (wx_if xd55_365 rfl rfl (xs0 = (nI 0)) mb_eq))
theorem x55_368 {x1 : Int32} {x2 : Int32} {x3 : Int32} {x4 : Int32} {x5 : Int32} {x6 : Int32} {x7 : Int32} {x8 : Int32} : wp Ln xs 55 368 [.ref 1, .int x1, .int x2, .int x3, .int x4, .int x5, .int x6, .int x7, .int x8] [] (u, ml_h m lm) Φ = wp Ln xs 44 0 [.ref 1, .int (nI 0)] [] (u, ml_h m lm) (mk Ln xs 55 370 [.ref 1, .int x1, .int x2, .int x3, .int x4, .int x5, .int x6, .int x7, .int x8] [] Φ) := (wp_same xd55_368 (Or.inr rfl) rfl).trans ((wp_same (S' := [.int (nI 0), .ref 1]) xd55_369 (Or.inr rfl) rfl).trans (wm_cv (As := [.int (nI 0)]) (rest := []) xd55_370 rfl rfl (show ml_L[1]? = _ from rfl) (Nat.le_of_ble_eq_true rfl) (Nat.le_of_ble_eq_true rfl) (Nat.le_of_ble_eq_true rfl) (Nat.le_of_ble_eq_true rfl)))
theorem x55_373 {x1 : Int32} {x2 : Int32} {x3 : Int32} {x4 : Int32} {x5 : Int32} {x6 : Int32} {x7 : Int32} {x8 : Int32} {xs0 : Int32} : wp Ln xs 55 373 [.ref 1, .int x1, .int x2, .int x3, .int x4, .int x5, .int x6, .int x7, .int x8] [.int xs0] (u, ml_h m lm) Φ = wp Ln xs 44 0 [.ref 1, .int (nI 1)] [] (u, ml_h m lm) (mk Ln xs 55 375 [.ref 1, .int x1, .int x2, .int x3, .int x4, .int x5, .int x6, .int x7, .int x8] [.int xs0] Φ) := (wp_same xd55_373 (Or.inr rfl) rfl).trans ((wp_same (S' := [.int (nI 1), .ref 1, .int xs0]) xd55_374 (Or.inr rfl) rfl).trans (wm_cv (As := [.int (nI 1)]) (rest := [.int xs0]) xd55_375 rfl rfl (show ml_L[1]? = _ from rfl) (Nat.le_of_ble_eq_true rfl) (Nat.le_of_ble_eq_true rfl) (Nat.le_of_ble_eq_true rfl) (Nat.le_of_ble_eq_true rfl)))
theorem x55_378 {x1 : Int32} {x2 : Int32} {x3 : Int32} {x4 : Int32} {x5 : Int32} {x6 : Int32} {x7 : Int32} {x8 : Int32} {xs0 : Int32} {xs1 : Int32} : wp Ln xs 55 378 [.ref 1, .int x1, .int x2, .int x3, .int x4, .int x5, .int x6, .int x7, .int x8] [.int xs0, .int xs1] (u, ml_h m lm) Φ = if ¬ xs1 = xs0 then wp Ln xs 55 462 [.ref 1, .int x1, .int x2, .int x3, .int x4, .int x5, .int x6, .int x7, .int x8] [] (u, ml_h m lm) Φ else wp Ln xs 55 381 [.ref 1, .int x1, .int x2, .int x3, .int x4, .int x5, .int x6, .int x7, .int x8] [] (u, ml_h m lm) Φ := wx_icmp xd55_378 rfl rfl (¬ xs1 = xs0) mb_ne
theorem x55_381 {x1 : Int32} {x2 : Int32} {x3 : Int32} {x4 : Int32} {x5 : Int32} {x6 : Int32} {x7 : Int32} {x8 : Int32} : wp Ln xs 55 381 [.ref 1, .int x1, .int x2, .int x3, .int x4, .int x5, .int x6, .int x7, .int x8] [] (u, ml_h m lm) Φ = wp Ln xs 44 0 [.ref 1, .int (nI 2)] [] (u, ml_h m lm) (mk Ln xs 55 383 [.ref 1, .int x1, .int x2, .int x3, .int x4, .int x5, .int x6, .int x7, .int x8] [] Φ) := (wp_same xd55_381 (Or.inr rfl) rfl).trans ((wp_same (S' := [.int (nI 2), .ref 1]) xd55_382 (Or.inr rfl) rfl).trans (wm_cv (As := [.int (nI 2)]) (rest := []) xd55_383 rfl rfl (show ml_L[1]? = _ from rfl) (Nat.le_of_ble_eq_true rfl) (Nat.le_of_ble_eq_true rfl) (Nat.le_of_ble_eq_true rfl) (Nat.le_of_ble_eq_true rfl)))
theorem x55_386 {x1 : Int32} {x2 : Int32} {x3 : Int32} {x4 : Int32} {x5 : Int32} {x6 : Int32} {x7 : Int32} {x8 : Int32} {xs0 : Int32} : wp Ln xs 55 386 [.ref 1, .int x1, .int x2, .int x3, .int x4, .int x5, .int x6, .int x7, .int x8] [.int xs0] (u, ml_h m lm) Φ = if ¬ xs0 = (nI 0) then wp Ln xs 55 393 [.ref 1, .int x1, .int x2, .int x3, .int x4, .int x5, .int x6, .int x7, .int x8] [] (u, ml_h m lm) Φ else wp Ln xs 55 389 [.ref 1, .int x1, .int x2, .int x3, .int x4, .int x5, .int x6, .int x7, .int x8] [] (u, ml_h m lm) Φ := wx_if xd55_386 rfl rfl (¬ xs0 = (nI 0)) mb_ne
theorem x55_389 {x1 : Int32} {x2 : Int32} {x3 : Int32} {x4 : Int32} {x5 : Int32} {x6 : Int32} {x7 : Int32} {x8 : Int32} : wp Ln xs 55 389 [.ref 1, .int x1, .int x2, .int x3, .int x4, .int x5, .int x6, .int x7, .int x8] [] (u, ml_h m lm) Φ = wp Ln xs 55 394 [.ref 1, .int x1, .int x2, .int x3, .int x4, .int x5, .int x6, .int x7, .int x8] [.int (nI 1)] (u, ml_h m lm) Φ := (wp_same (S' := [.int (nI 1)]) xd55_389 (Or.inr rfl) rfl).trans (wx_goto xd55_390 rfl)
theorem x55_393 {x1 : Int32} {x2 : Int32} {x3 : Int32} {x4 : Int32} {x5 : Int32} {x6 : Int32} {x7 : Int32} {x8 : Int32} : wp Ln xs 55 393 [.ref 1, .int x1, .int x2, .int x3, .int x4, .int x5, .int x6, .int x7, .int x8] [] (u, ml_h m lm) Φ = wp Ln xs 55 394 [.ref 1, .int x1, .int x2, .int x3, .int x4, .int x5, .int x6, .int x7, .int x8] [.int (nI 0)] (u, ml_h m lm) Φ := wp_same (S' := [.int (nI 0)]) xd55_393 (Or.inr rfl) rfl
theorem x55_394 {x1 : Int32} {x2 : Int32} {x3 : Int32} {x4 : Int32} {x5 : Int32} {x6 : Int32} {x7 : Int32} {x8 : Int32} {xs0 : Int32} : wp Ln xs 55 394 [.ref 1, .int x1, .int x2, .int x3, .int x4, .int x5, .int x6, .int x7, .int x8] [.int xs0] (u, ml_h m lm) Φ = wp Ln xs 34 0 [.ref 1, .int (nI 0)] [] (u, ml_h m lm) (mk Ln xs 55 396 [.ref 1, .int x1, .int x2, .int x3, .int x4, .int x5, .int x6, .int x7, .int x8] [.int xs0] Φ) := (wp_same xd55_394 (Or.inr rfl) rfl).trans ((wp_same (S' := [.int (nI 0), .ref 1, .int xs0]) xd55_395 (Or.inr rfl) rfl).trans (wm_cv (As := [.int (nI 0)]) (rest := [.int xs0]) xd55_396 rfl rfl (show ml_L[1]? = _ from rfl) (Nat.le_of_ble_eq_true rfl) (Nat.le_of_ble_eq_true rfl) (Nat.le_of_ble_eq_true rfl) (Nat.le_of_ble_eq_true rfl)))
theorem x55_399 {x1 : Int32} {x2 : Int32} {x3 : Int32} {x4 : Int32} {x5 : Int32} {x6 : Int32} {x7 : Int32} {x8 : Int32} {xs0 : Int32} {xs1 : Int32} : wp Ln xs 55 399 [.ref 1, .int x1, .int x2, .int x3, .int x4, .int x5, .int x6, .int x7, .int x8] [.int xs0, .int xs1] (u, ml_h m lm) Φ = if ¬ xs0 = (nI 0) then wp Ln xs 55 406 [.ref 1, .int x1, .int x2, .int x3, .int x4, .int x5, .int x6, .int x7, .int x8] [.int xs1] (u, ml_h m lm) Φ else wp Ln xs 55 402 [.ref 1, .int x1, .int x2, .int x3, .int x4, .int x5, .int x6, .int x7, .int x8] [.int xs1] (u, ml_h m lm) Φ := wx_if xd55_399 rfl rfl (¬ xs0 = (nI 0)) mb_ne
theorem x55_402 {x1 : Int32} {x2 : Int32} {x3 : Int32} {x4 : Int32} {x5 : Int32} {x6 : Int32} {x7 : Int32} {x8 : Int32} {xs0 : Int32} : wp Ln xs 55 402 [.ref 1, .int x1, .int x2, .int x3, .int x4, .int x5, .int x6, .int x7, .int x8] [.int xs0] (u, ml_h m lm) Φ = wp Ln xs 55 407 [.ref 1, .int x1, .int x2, .int x3, .int x4, .int x5, .int x6, .int x7, .int x8] [.int (nI 1), .int xs0] (u, ml_h m lm) Φ := (wp_same (S' := [.int (nI 1), .int xs0]) xd55_402 (Or.inr rfl) rfl).trans (wx_goto xd55_403 rfl)
theorem x55_406 {x1 : Int32} {x2 : Int32} {x3 : Int32} {x4 : Int32} {x5 : Int32} {x6 : Int32} {x7 : Int32} {x8 : Int32} {xs0 : Int32} : wp Ln xs 55 406 [.ref 1, .int x1, .int x2, .int x3, .int x4, .int x5, .int x6, .int x7, .int x8] [.int xs0] (u, ml_h m lm) Φ = wp Ln xs 55 407 [.ref 1, .int x1, .int x2, .int x3, .int x4, .int x5, .int x6, .int x7, .int x8] [.int (nI 0), .int xs0] (u, ml_h m lm) Φ := wp_same (S' := [.int (nI 0), .int xs0]) xd55_406 (Or.inr rfl) rfl
theorem x55_407 {x1 : Int32} {x2 : Int32} {x3 : Int32} {x4 : Int32} {x5 : Int32} {x6 : Int32} {x7 : Int32} {x8 : Int32} {xs0 : Int32} {xs1 : Int32} : wp Ln xs 55 407 [.ref 1, .int x1, .int x2, .int x3, .int x4, .int x5, .int x6, .int x7, .int x8] [.int xs0, .int xs1] (u, ml_h m lm) Φ = if ¬ xs1 = xs0 then wp Ln xs 55 462 [.ref 1, .int x1, .int x2, .int x3, .int x4, .int x5, .int x6, .int x7, .int x8] [] (u, ml_h m lm) Φ else wp Ln xs 55 410 [.ref 1, .int x1, .int x2, .int x3, .int x4, .int x5, .int x6, .int x7, .int x8] [] (u, ml_h m lm) Φ := wx_icmp xd55_407 rfl rfl (¬ xs1 = xs0) mb_ne
theorem x55_410 {x1 : Int32} {x2 : Int32} {x3 : Int32} {x4 : Int32} {x5 : Int32} {x6 : Int32} {x7 : Int32} {x8 : Int32} : wp Ln xs 55 410 [.ref 1, .int x1, .int x2, .int x3, .int x4, .int x5, .int x6, .int x7, .int x8] [] (u, ml_h m lm) Φ = wp Ln xs 44 0 [.ref 1, .int (nI 2)] [] (u, ml_h m lm) (mk Ln xs 55 414 [.ref 1, .int x1, .int x2, .int x3, .int x4, .int x5, .int x6, .int x7, .int x8] [.int (nI 16)] Φ) := (wp_same (S' := [.int (nI 16)]) xd55_410 (Or.inr rfl) rfl).trans ((wp_same xd55_412 (Or.inr rfl) rfl).trans ((wp_same (S' := [.int (nI 2), .ref 1, .int (nI 16)]) xd55_413 (Or.inr rfl) rfl).trans (wm_cv (As := [.int (nI 2)]) (rest := [.int (nI 16)]) xd55_414 rfl rfl (show ml_L[1]? = _ from rfl) (Nat.le_of_ble_eq_true rfl) (Nat.le_of_ble_eq_true rfl) (Nat.le_of_ble_eq_true rfl) (Nat.le_of_ble_eq_true rfl))))
theorem x55_417 {x1 : Int32} {x2 : Int32} {x3 : Int32} {x4 : Int32} {x5 : Int32} {x6 : Int32} {x7 : Int32} {x8 : Int32} {xs0 : Int32} {xs1 : Int32} : wp Ln xs 55 417 [.ref 1, .int x1, .int x2, .int x3, .int x4, .int x5, .int x6, .int x7, .int x8] [.int xs0, .int xs1] (u, ml_h m lm) Φ = wp Ln xs 34 0 [.ref 1, .int (nI 0)] [] (u, ml_h m lm) (mk Ln xs 55 420 [.ref 1, .int x1, .int x2, .int x3, .int x4, .int x5, .int x6, .int x7, .int x8] [.int (xs1 * xs0)] Φ) := (wp_same xd55_417 (Or.inr rfl) rfl).trans ((wp_same xd55_418 (Or.inr rfl) rfl).trans ((wp_same (S' := [.int (nI 0), .ref 1, .int (xs1 * xs0)]) xd55_419 (Or.inr rfl) rfl).trans (wm_cv (As := [.int (nI 0)]) (rest := [.int (xs1 * xs0)]) xd55_420 rfl rfl (show ml_L[1]? = _ from rfl) (Nat.le_of_ble_eq_true rfl) (Nat.le_of_ble_eq_true rfl) (Nat.le_of_ble_eq_true rfl) (Nat.le_of_ble_eq_true rfl))))
theorem x55_423 {x1 : Int32} {x2 : Int32} {x3 : Int32} {x4 : Int32} {x5 : Int32} {x6 : Int32} {x7 : Int32} {x8 : Int32} {xs0 : Int32} {xs1 : Int32} : wp Ln xs 55 423 [.ref 1, .int x1, .int x2, .int x3, .int x4, .int x5, .int x6, .int x7, .int x8] [.int xs0, .int xs1] (u, ml_h m lm) Φ = if xs1 < xs0 then wp Ln xs 55 462 [.ref 1, .int x1, .int x2, .int x3, .int x4, .int x5, .int x6, .int x7, .int x8] [] (u, ml_h m lm) Φ else wp Ln xs 55 426 [.ref 1, .int x1, .int x2, .int x3, .int x4, .int x5, .int x6, .int x7, .int x8] [] (u, ml_h m lm) Φ := wx_icmp xd55_423 rfl rfl (xs1 < xs0) mb_lt
theorem x55_426 {x1 : Int32} {x2 : Int32} {x3 : Int32} {x4 : Int32} {x5 : Int32} {x6 : Int32} {x7 : Int32} {x8 : Int32} : wp Ln xs 55 426 [.ref 1, .int x1, .int x2, .int x3, .int x4, .int x5, .int x6, .int x7, .int x8] [] (u, ml_h m lm) Φ = wp Ln xs 44 0 [.ref 1, .int (nI 0)] [] (u, ml_h m lm) (mk Ln xs 55 428 [.ref 1, .int x1, .int x2, .int x3, .int x4, .int x5, .int x6, .int x7, .int x8] [] Φ) := (wp_same xd55_426 (Or.inr rfl) rfl).trans ((wp_same (S' := [.int (nI 0), .ref 1]) xd55_427 (Or.inr rfl) rfl).trans (wm_cv (As := [.int (nI 0)]) (rest := []) xd55_428 rfl rfl (show ml_L[1]? = _ from rfl) (Nat.le_of_ble_eq_true rfl) (Nat.le_of_ble_eq_true rfl) (Nat.le_of_ble_eq_true rfl) (Nat.le_of_ble_eq_true rfl)))
theorem x55_431 {x1 : Int32} {x2 : Int32} {x3 : Int32} {x4 : Int32} {x5 : Int32} {x6 : Int32} {x7 : Int32} {x8 : Int32} {xs0 : Int32} : wp Ln xs 55 431 [.ref 1, .int x1, .int x2, .int x3, .int x4, .int x5, .int x6, .int x7, .int x8] [.int xs0] (u, ml_h m lm) Φ = wp Ln xs 44 0 [.ref 1, .int (nI 2)] [] (u, ml_h m lm) (mk Ln xs 55 435 [.ref 1, .int x1, .int x2, .int x3, .int x4, .int x5, .int x6, .int x7, .int x8] [.int (nI 17), .int xs0] Φ) := (wp_same (S' := [.int (nI 17), .int xs0]) xd55_431 (Or.inr rfl) rfl).trans ((wp_same xd55_433 (Or.inr rfl) rfl).trans ((wp_same (S' := [.int (nI 2), .ref 1, .int (nI 17), .int xs0]) xd55_434 (Or.inr rfl) rfl).trans (wm_cv (As := [.int (nI 2)]) (rest := [.int (nI 17), .int xs0]) xd55_435 rfl rfl (show ml_L[1]? = _ from rfl) (Nat.le_of_ble_eq_true rfl) (Nat.le_of_ble_eq_true rfl) (Nat.le_of_ble_eq_true rfl) (Nat.le_of_ble_eq_true rfl))))
theorem x55_438 {x1 : Int32} {x2 : Int32} {x3 : Int32} {x4 : Int32} {x5 : Int32} {x6 : Int32} {x7 : Int32} {x8 : Int32} {xs0 : Int32} {xs1 : Int32} {xs2 : Int32} : wp Ln xs 55 438 [.ref 1, .int x1, .int x2, .int x3, .int x4, .int x5, .int x6, .int x7, .int x8] [.int xs0, .int xs1, .int xs2] (u, ml_h m lm) Φ = if xs2 < (xs1 * xs0) then wp Ln xs 55 462 [.ref 1, .int x1, .int x2, .int x3, .int x4, .int x5, .int x6, .int x7, .int x8] [] (u, ml_h m lm) Φ else wp Ln xs 55 442 [.ref 1, .int x1, .int x2, .int x3, .int x4, .int x5, .int x6, .int x7, .int x8] [] (u, ml_h m lm) Φ := (wp_same xd55_438 (Or.inr rfl) rfl).trans (wx_icmp xd55_439 rfl rfl (xs2 < (xs1 * xs0)) mb_lt)
theorem x55_442 {x1 : Int32} {x2 : Int32} {x3 : Int32} {x4 : Int32} {x5 : Int32} {x6 : Int32} {x7 : Int32} {x8 : Int32} : wp Ln xs 55 442 [.ref 1, .int x1, .int x2, .int x3, .int x4, .int x5, .int x6, .int x7, .int x8] [] (u, ml_h m lm) Φ = wp Ln xs 44 0 [.ref 1, .int (nI 0)] [] (u, ml_h m lm) (mk Ln xs 55 444 [.ref 1, .int x1, .int x2, .int x3, .int x4, .int x5, .int x6, .int x7, .int x8] [] Φ) := (wp_same xd55_442 (Or.inr rfl) rfl).trans ((wp_same (S' := [.int (nI 0), .ref 1]) xd55_443 (Or.inr rfl) rfl).trans (wm_cv (As := [.int (nI 0)]) (rest := []) xd55_444 rfl rfl (show ml_L[1]? = _ from rfl) (Nat.le_of_ble_eq_true rfl) (Nat.le_of_ble_eq_true rfl) (Nat.le_of_ble_eq_true rfl) (Nat.le_of_ble_eq_true rfl)))
theorem x55_447 {x1 : Int32} {x2 : Int32} {x3 : Int32} {x4 : Int32} {x5 : Int32} {x6 : Int32} {x7 : Int32} {x8 : Int32} {xs0 : Int32} : wp Ln xs 55 447 [.ref 1, .int x1, .int x2, .int x3, .int x4, .int x5, .int x6, .int x7, .int x8] [.int xs0] (u, ml_h m lm) Φ = wp Ln xs 34 0 [.ref 1, .int (nI 0)] [] (u, ml_h m lm) (mk Ln xs 55 451 [.ref 1, .int x1, .int x2, .int x3, .int x4, .int x5, .int x6, .int x7, .int x8] [.int (nI 17), .int xs0] Φ) := (wp_same (S' := [.int (nI 17), .int xs0]) xd55_447 (Or.inr rfl) rfl).trans ((wp_same xd55_449 (Or.inr rfl) rfl).trans ((wp_same (S' := [.int (nI 0), .ref 1, .int (nI 17), .int xs0]) xd55_450 (Or.inr rfl) rfl).trans (wm_cv (As := [.int (nI 0)]) (rest := [.int (nI 17), .int xs0]) xd55_451 rfl rfl (show ml_L[1]? = _ from rfl) (Nat.le_of_ble_eq_true rfl) (Nat.le_of_ble_eq_true rfl) (Nat.le_of_ble_eq_true rfl) (Nat.le_of_ble_eq_true rfl))))
theorem x55_454 {x1 : Int32} {x2 : Int32} {x3 : Int32} {x4 : Int32} {x5 : Int32} {x6 : Int32} {x7 : Int32} {x8 : Int32} {xs0 : Int32} {xs1 : Int32} {xs2 : Int32} : wp Ln xs 55 454 [.ref 1, .int x1, .int x2, .int x3, .int x4, .int x5, .int x6, .int x7, .int x8] [.int xs0, .int xs1, .int xs2] (u, ml_h m lm) Φ = if (xs1 * xs0) < xs2 then wp Ln xs 55 462 [.ref 1, .int x1, .int x2, .int x3, .int x4, .int x5, .int x6, .int x7, .int x8] [] (u, ml_h m lm) Φ else wp Ln xs 55 458 [.ref 1, .int x1, .int x2, .int x3, .int x4, .int x5, .int x6, .int x7, .int x8] [] (u, ml_h m lm) Φ := (wp_same xd55_454 (Or.inr rfl) rfl).trans (wx_icmp xd55_455 rfl rfl ((xs1 * xs0) < xs2) mb_gt)
theorem x55_458 {x1 : Int32} {x2 : Int32} {x3 : Int32} {x4 : Int32} {x5 : Int32} {x6 : Int32} {x7 : Int32} {x8 : Int32} : wp Ln xs 55 458 [.ref 1, .int x1, .int x2, .int x3, .int x4, .int x5, .int x6, .int x7, .int x8] [] (u, ml_h m lm) Φ = Φ (.inl (some (.int (nI 1)))) (u, ml_h m lm) := (wp_same (S' := [.int (nI 1)]) xd55_458 (Or.inr rfl) rfl).trans ((wx_goto xd55_459 rfl).trans (wp_fin (v := some (.int (nI 1))) xd55_463 (Or.inr rfl) rfl rfl))
theorem x55_462 {x1 : Int32} {x2 : Int32} {x3 : Int32} {x4 : Int32} {x5 : Int32} {x6 : Int32} {x7 : Int32} {x8 : Int32} : wp Ln xs 55 462 [.ref 1, .int x1, .int x2, .int x3, .int x4, .int x5, .int x6, .int x7, .int x8] [] (u, ml_h m lm) Φ = Φ (.inl (some (.int (nI 0)))) (u, ml_h m lm) := (wp_same (S' := [.int (nI 0)]) xd55_462 (Or.inr rfl) rfl).trans (wp_fin (v := some (.int (nI 0))) xd55_463 (Or.inr rfl) rfl rfl)
end MXb
