/-! ===== an equation for each straight piece of a method ===== -/
section MXb
variable {Ln : Nat} {xs : Nat → Int32} {u : mj_U} {m : ml_M} {lm : ml_J} {Φ : mj_R → mj_W → Prop}
/- PickedForms.clearBuffer -/
theorem xd10_0 : decode (mj_b 10) 0 = .ok (.aload_n 0, 1) := by decide +kernel
theorem xd10_1 : decode (mj_b 10) 1 = .ok (.getfield 33, 3) := by decide +kernel
theorem xd10_4 : decode (mj_b 10) 4 = .ok (.getfield 208, 3) := by decide +kernel
theorem xd10_7 : decode (mj_b 10) 7 = .ok (.istore_n 1, 1) := by decide +kernel
theorem xd10_8 : decode (mj_b 10) 8 = .ok (.aload_n 0, 1) := by decide +kernel
theorem xd10_9 : decode (mj_b 10) 9 = .ok (.getfield 33, 3) := by decide +kernel
theorem xd10_12 : decode (mj_b 10) 12 = .ok (.iconst 0, 1) := by decide +kernel
theorem xd10_13 : decode (mj_b 10) 13 = .ok (.putfield 208, 3) := by decide +kernel
theorem xd10_16 : decode (mj_b 10) 16 = .ok (.iload_n 1, 1) := by decide +kernel
theorem xd10_17 : decode (mj_b 10) 17 = .ok (.ireturn, 1) := by decide +kernel
theorem x10_0 : wp Ln xs 10 0 [.ref 1, mj_hole] [] (u, ml_h m lm) Φ = Φ (.inl (some (.int (m 52 1)))) (u, ml_h (ml_s m 52 1 (nI 0)) lm) := (wp_same xd10_0 (Or.inr rfl) rfl).trans ((wm_getr xd10_1 rfl (show ml_L[1]? = _ from rfl) rfl (Nat.le_of_ble_eq_true rfl)).trans ((wm_geti xd10_4 rfl (show ml_L[52]? = _ from rfl) rfl (Nat.le_of_ble_eq_true rfl)).trans ((wp_same (L' := [.ref 1, .int (m 52 1)]) xd10_7 (Or.inr rfl) rfl).trans ((wp_same xd10_8 (Or.inr rfl) rfl).trans ((wm_getr xd10_9 rfl (show ml_L[1]? = _ from rfl) rfl (Nat.le_of_ble_eq_true rfl)).trans ((wp_same (S' := [.int (nI 0), .ref 52]) xd10_12 (Or.inr rfl) rfl).trans ((wm_puti xd10_13 rfl (show ml_L[52]? = _ from rfl) rfl (Nat.le_of_ble_eq_true rfl) rfl rfl rfl).trans ((wp_same xd10_16 (Or.inr rfl) rfl).trans (wp_fin (v := some (.int (m 52 1))) xd10_17 (Or.inr rfl) rfl (mj_fin_i rfl))))))))))
/- PickedForms.firstError -/
theorem xd11_0 : decode (mj_b 11) 0 = .ok (.aload_n 0, 1) := by decide +kernel
theorem xd11_1 : decode (mj_b 11) 1 = .ok (.getfield 33, 3) := by decide +kernel
theorem xd11_4 : decode (mj_b 11) 4 = .ok (.invokevirtual 216, 3) := by decide +kernel
theorem xd11_7 : decode (mj_b 11) 7 = .ok (.ireturn, 1) := by decide +kernel
theorem x11_0 : wp Ln xs 11 0 [.ref 1] [] (u, ml_h m lm) Φ = wp Ln xs 12 0 [.ref 52, mj_hole, mj_hole] [] (u, ml_h m lm) (mk Ln xs 11 4 [.ref 1] [] Φ) := (wp_same xd11_0 (Or.inr rfl) rfl).trans ((wm_getr xd11_1 rfl (show ml_L[1]? = _ from rfl) rfl (Nat.le_of_ble_eq_true rfl)).trans (wm_cv (As := []) (rest := []) xd11_4 rfl rfl (show ml_L[52]? = _ from rfl) (Nat.le_of_ble_eq_true rfl) (Nat.le_of_ble_eq_true rfl) (Nat.le_of_ble_eq_true rfl) (Nat.le_of_ble_eq_true rfl)))
theorem x11_7 {xs0 : Int32} : wp Ln xs 11 7 [.ref 1] [.int xs0] (u, ml_h m lm) Φ = Φ (.inl (some (.int xs0))) (u, ml_h m lm) := wp_fin (v := some (.int xs0)) xd11_7 (Or.inr rfl) rfl (mj_fin_i rfl)
/- PickedForms$Text.wrongAt -/
theorem xd12_0 : decode (mj_b 12) 0 = .ok (.iconst 0, 1) := by decide +kernel
theorem xd12_1 : decode (mj_b 12) 1 = .ok (.istore_n 1, 1) := by decide +kernel
theorem xd12_2 : decode (mj_b 12) 2 = .ok (.iconst 0, 1) := by decide +kernel
theorem xd12_3 : decode (mj_b 12) 3 = .ok (.istore_n 2, 1) := by decide +kernel
theorem xd12_4 : decode (mj_b 12) 4 = .ok (.iload_n 2, 1) := by decide +kernel
theorem xd12_5 : decode (mj_b 12) 5 = .ok (.aload_n 0, 1) := by decide +kernel
theorem xd12_6 : decode (mj_b 12) 6 = .ok (.getfield 15, 3) := by decide +kernel
theorem xd12_9 : decode (mj_b 12) 9 = .ok (.if_icmp .ge 30, 3) := by decide +kernel
theorem xd12_12 : decode (mj_b 12) 12 = .ok (.iload_n 1, 1) := by decide +kernel
theorem xd12_13 : decode (mj_b 12) 13 = .ok (.aload_n 0, 1) := by decide +kernel
theorem xd12_14 : decode (mj_b 12) 14 = .ok (.getfield 9, 3) := by decide +kernel
theorem xd12_17 : decode (mj_b 12) 17 = .ok (.iload_n 2, 1) := by decide +kernel
theorem xd12_18 : decode (mj_b 12) 18 = .ok (.invokestatic 34, 3) := by decide +kernel
theorem xd12_21 : decode (mj_b 12) 21 = .ok (.invokestatic 38, 3) := by decide +kernel
theorem xd12_24 : decode (mj_b 12) 24 = .ok (.istore_n 1, 1) := by decide +kernel
theorem xd12_25 : decode (mj_b 12) 25 = .ok (.iload_n 1, 1) := by decide +kernel
theorem xd12_26 : decode (mj_b 12) 26 = .ok (.bipush 7, 2) := by decide +kernel
theorem xd12_28 : decode (mj_b 12) 28 = .ok (.if_icmp .ne 5, 3) := by decide +kernel
theorem xd12_31 : decode (mj_b 12) 31 = .ok (.iload_n 2, 1) := by decide +kernel
theorem xd12_32 : decode (mj_b 12) 32 = .ok (.ireturn, 1) := by decide +kernel
theorem xd12_33 : decode (mj_b 12) 33 = .ok (.iinc 2 1, 3) := by decide +kernel
theorem xd12_36 : decode (mj_b 12) 36 = .ok (.goto (-32), 3) := by decide +kernel
theorem xd12_39 : decode (mj_b 12) 39 = .ok (.aload_n 0, 1) := by decide +kernel
theorem xd12_40 : decode (mj_b 12) 40 = .ok (.getfield 15, 3) := by decide +kernel
theorem xd12_43 : decode (mj_b 12) 43 = .ok (.ireturn, 1) := by decide +kernel
theorem x12_0 : wp Ln xs 12 0 [.ref 52, mj_hole, mj_hole] [] (u, ml_h m lm) Φ = wp Ln xs 12 4 [.ref 52, .int (nI 0), .int (nI 0)] [] (u, ml_h m lm) Φ := (wp_same (S' := [.int (nI 0)]) xd12_0 (Or.inr rfl) rfl).trans ((wp_same (L' := [.ref 52, .int (nI 0), mj_hole]) xd12_1 (Or.inr rfl) rfl).trans ((wp_same (S' := [.int (nI 0)]) xd12_2 (Or.inr rfl) rfl).trans (wp_same (L' := [.ref 52, .int (nI 0), .int (nI 0)]) xd12_3 (Or.inr rfl) rfl)))
theorem x12_4 {x1 : Int32} {x2 : Int32} : wp Ln xs 12 4 [.ref 52, .int x1, .int x2] [] (u, ml_h m lm) Φ = if (m 52 1) ≤ x2 then wp Ln xs 12 39 [.ref 52, .int x1, .int x2] [] (u, ml_h m lm) Φ else wp Ln xs 12 12 [.ref 52, .int x1, .int x2] [] (u, ml_h m lm) Φ := (wp_same xd12_4 (Or.inr rfl) rfl).trans ((wp_same xd12_5 (Or.inr rfl) rfl).trans ((wm_geti xd12_6 rfl (show ml_L[52]? = _ from rfl) rfl (Nat.le_of_ble_eq_true rfl)).trans (wx_icmp xd12_9 rfl rfl ((m 52 1) ≤ x2) mb_ge)))
theorem x12_12 {x1 : Int32} {x2 : Int32} : wp Ln xs 12 12 [.ref 52, .int x1, .int x2] [] (u, ml_h m lm) Φ = wp Ln xs 13 0 [.ref 53, .int x2] [] (u, ml_h m lm) (mk Ln xs 12 18 [.ref 52, .int x1, .int x2] [.int x1] Φ) := (wp_same xd12_12 (Or.inr rfl) rfl).trans ((wp_same xd12_13 (Or.inr rfl) rfl).trans ((wm_getr xd12_14 rfl (show ml_L[52]? = _ from rfl) rfl (Nat.le_of_ble_eq_true rfl)).trans ((wp_same xd12_17 (Or.inr rfl) rfl).trans (wm_cs (As := [.ref 53, .int x2]) (rest := [.int x1]) xd12_18 rfl rfl (Nat.le_of_ble_eq_true rfl) (Nat.le_of_ble_eq_true rfl) (Nat.le_of_ble_eq_true rfl) (Nat.le_of_ble_eq_true rfl)))))
theorem x12_21 {x1 : Int32} {x2 : Int32} {xs0 : Int32} {xs1 : Int32} : wp Ln xs 12 21 [.ref 52, .int x1, .int x2] [.int xs0, .int xs1] (u, ml_h m lm) Φ = wp Ln xs 14 0 [.int xs1, .int xs0] [] (u, ml_h m lm) (mk Ln xs 12 21 [.ref 52, .int x1, .int x2] [] Φ) := wm_cs (As := [.int xs1, .int xs0]) (rest := []) xd12_21 rfl rfl (Nat.le_of_ble_eq_true rfl) (Nat.le_of_ble_eq_true rfl) (Nat.le_of_ble_eq_true rfl) (Nat.le_of_ble_eq_true rfl)
theorem x12_24 {x1 : Int32} {x2 : Int32} {xs0 : Int32} : wp Ln xs 12 24 [.ref 52, .int x1, .int x2] [.int xs0] (u, ml_h m lm) Φ = if ¬ xs0 = (nI 7) then wp Ln xs 12 33 [.ref 52, .int xs0, .int x2] [] (u, ml_h m lm) Φ else wp Ln xs 12 31 [.ref 52, .int xs0, .int x2] [] (u, ml_h m lm) Φ := (wp_same (L' := [.ref 52, .int xs0, .int x2]) xd12_24 (Or.inr rfl) rfl).trans ((wp_same xd12_25 (Or.inr rfl) rfl).trans ((wp_same (S' := [.int (nI 7), .int xs0]) xd12_26 (Or.inr rfl) rfl).trans (wx_icmp xd12_28 rfl rfl (¬ xs0 = (nI 7)) mb_ne)))
theorem x12_31 {x1 : Int32} {x2 : Int32} : wp Ln xs 12 31 [.ref 52, .int x1, .int x2] [] (u, ml_h m lm) Φ = Φ (.inl (some (.int x2))) (u, ml_h m lm) := (wp_same xd12_31 (Or.inr rfl) rfl).trans (wp_fin (v := some (.int x2)) xd12_32 (Or.inr rfl) rfl (mj_fin_i rfl))
theorem x12_33 {x1 : Int32} {x2 : Int32} : wp Ln xs 12 33 [.ref 52, .int x1, .int x2] [] (u, ml_h m lm) Φ = wp Ln xs 12 4 [.ref 52, .int x1, .int (x2 + nI 1)] [] (u, ml_h m lm) Φ := (wp_same (L' := [.ref 52, .int x1, .int (x2 + nI 1)]) xd12_33 (Or.inr rfl) rfl).trans (wx_goto xd12_36 rfl)
theorem x12_39 {x1 : Int32} {x2 : Int32} : wp Ln xs 12 39 [.ref 52, .int x1, .int x2] [] (u, ml_h m lm) Φ = Φ (.inl (some (.int (m 52 1)))) (u, ml_h m lm) := (wp_same xd12_39 (Or.inr rfl) rfl).trans ((wm_geti xd12_40 rfl (show ml_L[52]? = _ from rfl) rfl (Nat.le_of_ble_eq_true rfl)).trans (wp_fin (v := some (.int (m 52 1))) xd12_43 (Or.inr rfl) rfl (mj_fin_i rfl)))
/- PickedForms$Rows.at -/
theorem xd13_0 : decode (mj_b 13) 0 = .ok (.iload_n 1, 1) := by decide +kernel
theorem xd13_1 : decode (mj_b 13) 1 = .ok (.ifCond .lt 15, 3) := by decide +kernel
theorem xd13_4 : decode (mj_b 13) 4 = .ok (.iload_n 1, 1) := by decide +kernel
theorem xd13_5 : decode (mj_b 13) 5 = .ok (.aload_n 0, 1) := by decide +kernel
theorem xd13_6 : decode (mj_b 13) 6 = .ok (.arraylength, 1) := by decide +kernel
theorem xd13_7 : decode (mj_b 13) 7 = .ok (.if_icmp .ge 9, 3) := by decide +kernel
theorem xd13_10 : decode (mj_b 13) 10 = .ok (.aload_n 0, 1) := by decide +kernel
theorem xd13_11 : decode (mj_b 13) 11 = .ok (.iload_n 1, 1) := by decide +kernel
theorem xd13_12 : decode (mj_b 13) 12 = .ok (.iaload, 1) := by decide +kernel
theorem xd13_13 : decode (mj_b 13) 13 = .ok (.goto 4, 3) := by decide +kernel
theorem xd13_16 : decode (mj_b 13) 16 = .ok (.iconst 0, 1) := by decide +kernel
theorem xd13_17 : decode (mj_b 13) 17 = .ok (.ireturn, 1) := by decide +kernel
theorem x13_0 {r : Nat} {x1 : Int32} : wp Ln xs 13 0 [.ref r, .int x1] [] (u, ml_h m lm) Φ = if x1 < (nI 0) then wp Ln xs 13 16 [.ref r, .int x1] [] (u, ml_h m lm) Φ else wp Ln xs 13 4 [.ref r, .int x1] [] (u, ml_h m lm) Φ := (wp_same xd13_0 (Or.inr rfl) rfl).trans (wx_if xd13_1 rfl rfl (x1 < (nI 0)) mb_lt)
theorem x13_4 {r : Nat} {x1 : Int32} (hr : ml_ia r) (hr0 : r ≠ 0) : wp Ln xs 13 4 [.ref r, .int x1] [] (u, ml_h m lm) Φ = if (nI (ml_n r)) ≤ x1 then wp Ln xs 13 16 [.ref r, .int x1] [] (u, ml_h m lm) Φ else wp Ln xs 13 10 [.ref r, .int x1] [] (u, ml_h m lm) Φ := (wp_same xd13_4 (Or.inr rfl) rfl).trans ((wp_same xd13_5 (Or.inr rfl) rfl).trans ((wm_alen xd13_6 hr hr0).trans (wx_icmp xd13_7 rfl rfl ((nI (ml_n r)) ≤ x1) mb_ge)))
theorem x13_10 {r : Nat} {x1 : Int32} : wp Ln xs 13 10 [.ref r, .int x1] [] (u, ml_h m lm) Φ = wp Ln xs 13 12 [.ref r, .int x1] [.int x1, .ref r] (u, ml_h m lm) Φ := (wp_same xd13_10 (Or.inr rfl) rfl).trans (wp_same xd13_11 (Or.inr rfl) rfl)
theorem x13_12 {r : Nat} {x1 : Int32} {k : Nat} (hr : ml_ia r) (hr0 : r ≠ 0) (hk : k < ml_n r) : wp Ln xs 13 12 [.ref r, .int x1] [.int (nI k), .ref r] (u, ml_h m lm) Φ = Φ (.inl (some (.int (m r k)))) (u, ml_h m lm) := (wm_iald (k := k) xd13_12 hr hr0 hk).trans ((wx_goto xd13_13 rfl).trans (wp_fin (v := some (.int (m r k))) xd13_17 (Or.inr rfl) rfl (mj_fin_i rfl)))
theorem x13_16 {r : Nat} {x1 : Int32} : wp Ln xs 13 16 [.ref r, .int x1] [] (u, ml_h m lm) Φ = Φ (.inl (some (.int (nI 0)))) (u, ml_h m lm) := (wp_same (S' := [.int (nI 0)]) xd13_16 (Or.inr rfl) rfl).trans (wp_fin (v := some (.int (nI 0))) xd13_17 (Or.inr rfl) rfl (mj_fin_i rfl))
/- PickedForms$Text.behind -/
theorem xd14_0 : decode (mj_b 14) 0 = .ok (.iload_n 0, 1) := by decide +kernel
theorem xd14_1 : decode (mj_b 14) 1 = .ok (.tableswitch 167 0 6 #[43, 67, 83, 99, 104, 134, 154], 43) := by decide +kernel
theorem xd14_44 : decode (mj_b 14) 44 = .ok (.iload_n 1, 1) := by decide +kernel
theorem xd14_45 : decode (mj_b 14) 45 = .ok (.bipush 48, 2) := by decide +kernel
theorem xd14_47 : decode (mj_b 14) 47 = .ok (.if_icmp .ne 7, 3) := by decide +kernel
theorem xd14_50 : decode (mj_b 14) 50 = .ok (.iconst 3, 1) := by decide +kernel
theorem xd14_51 : decode (mj_b 14) 51 = .ok (.goto 16, 3) := by decide +kernel
theorem xd14_54 : decode (mj_b 14) 54 = .ok (.iload_n 1, 1) := by decide +kernel
theorem xd14_55 : decode (mj_b 14) 55 = .ok (.invokestatic 42, 3) := by decide +kernel
theorem xd14_58 : decode (mj_b 14) 58 = .ok (.ifCond .eq 7, 3) := by decide +kernel
theorem xd14_61 : decode (mj_b 14) 61 = .ok (.iconst 1, 1) := by decide +kernel
theorem xd14_62 : decode (mj_b 14) 62 = .ok (.goto 5, 3) := by decide +kernel
theorem xd14_65 : decode (mj_b 14) 65 = .ok (.bipush 7, 2) := by decide +kernel
theorem xd14_67 : decode (mj_b 14) 67 = .ok (.ireturn, 1) := by decide +kernel
theorem xd14_68 : decode (mj_b 14) 68 = .ok (.iload_n 1, 1) := by decide +kernel
theorem xd14_69 : decode (mj_b 14) 69 = .ok (.invokestatic 42, 3) := by decide +kernel
theorem xd14_72 : decode (mj_b 14) 72 = .ok (.ifCond .eq 7, 3) := by decide +kernel
theorem xd14_75 : decode (mj_b 14) 75 = .ok (.iconst 2, 1) := by decide +kernel
theorem xd14_76 : decode (mj_b 14) 76 = .ok (.goto 7, 3) := by decide +kernel
theorem xd14_79 : decode (mj_b 14) 79 = .ok (.iload_n 1, 1) := by decide +kernel
theorem xd14_80 : decode (mj_b 14) 80 = .ok (.invokestatic 50, 3) := by decide +kernel
theorem xd14_83 : decode (mj_b 14) 83 = .ok (.ireturn, 1) := by decide +kernel
theorem xd14_84 : decode (mj_b 14) 84 = .ok (.iload_n 1, 1) := by decide +kernel
theorem xd14_85 : decode (mj_b 14) 85 = .ok (.invokestatic 42, 3) := by decide +kernel
theorem xd14_88 : decode (mj_b 14) 88 = .ok (.ifCond .eq 7, 3) := by decide +kernel
theorem xd14_91 : decode (mj_b 14) 91 = .ok (.iconst 3, 1) := by decide +kernel
theorem xd14_92 : decode (mj_b 14) 92 = .ok (.goto 7, 3) := by decide +kernel
theorem xd14_95 : decode (mj_b 14) 95 = .ok (.iload_n 1, 1) := by decide +kernel
theorem xd14_96 : decode (mj_b 14) 96 = .ok (.invokestatic 50, 3) := by decide +kernel
theorem xd14_99 : decode (mj_b 14) 99 = .ok (.ireturn, 1) := by decide +kernel
theorem xd14_100 : decode (mj_b 14) 100 = .ok (.iload_n 1, 1) := by decide +kernel
theorem xd14_101 : decode (mj_b 14) 101 = .ok (.invokestatic 50, 3) := by decide +kernel
theorem xd14_104 : decode (mj_b 14) 104 = .ok (.ireturn, 1) := by decide +kernel
theorem xd14_105 : decode (mj_b 14) 105 = .ok (.iload_n 1, 1) := by decide +kernel
theorem xd14_106 : decode (mj_b 14) 106 = .ok (.bipush 49, 2) := by decide +kernel
theorem xd14_108 : decode (mj_b 14) 108 = .ok (.if_icmp .ne 7, 3) := by decide +kernel
theorem xd14_111 : decode (mj_b 14) 111 = .ok (.iconst 5, 1) := by decide +kernel
theorem xd14_112 : decode (mj_b 14) 112 = .ok (.goto 22, 3) := by decide +kernel
theorem xd14_115 : decode (mj_b 14) 115 = .ok (.iload_n 1, 1) := by decide +kernel
theorem xd14_116 : decode (mj_b 14) 116 = .ok (.bipush 50, 2) := by decide +kernel
theorem xd14_118 : decode (mj_b 14) 118 = .ok (.if_icmp .lt 14, 3) := by decide +kernel
theorem xd14_121 : decode (mj_b 14) 121 = .ok (.iload_n 1, 1) := by decide +kernel
theorem xd14_122 : decode (mj_b 14) 122 = .ok (.bipush 57, 2) := by decide +kernel
theorem xd14_124 : decode (mj_b 14) 124 = .ok (.if_icmp .gt 8, 3) := by decide +kernel
theorem xd14_127 : decode (mj_b 14) 127 = .ok (.bipush 6, 2) := by decide +kernel
theorem xd14_129 : decode (mj_b 14) 129 = .ok (.goto 5, 3) := by decide +kernel
theorem xd14_132 : decode (mj_b 14) 132 = .ok (.bipush 7, 2) := by decide +kernel
theorem xd14_134 : decode (mj_b 14) 134 = .ok (.ireturn, 1) := by decide +kernel
theorem xd14_135 : decode (mj_b 14) 135 = .ok (.iload_n 1, 1) := by decide +kernel
theorem xd14_136 : decode (mj_b 14) 136 = .ok (.bipush 48, 2) := by decide +kernel
theorem xd14_138 : decode (mj_b 14) 138 = .ok (.if_icmp .lt 14, 3) := by decide +kernel
theorem xd14_141 : decode (mj_b 14) 141 = .ok (.iload_n 1, 1) := by decide +kernel
theorem xd14_142 : decode (mj_b 14) 142 = .ok (.bipush 54, 2) := by decide +kernel
theorem xd14_144 : decode (mj_b 14) 144 = .ok (.if_icmp .gt 8, 3) := by decide +kernel
theorem xd14_147 : decode (mj_b 14) 147 = .ok (.bipush 6, 2) := by decide +kernel
theorem xd14_149 : decode (mj_b 14) 149 = .ok (.goto 5, 3) := by decide +kernel
theorem xd14_152 : decode (mj_b 14) 152 = .ok (.bipush 7, 2) := by decide +kernel
theorem xd14_154 : decode (mj_b 14) 154 = .ok (.ireturn, 1) := by decide +kernel
theorem xd14_155 : decode (mj_b 14) 155 = .ok (.iload_n 1, 1) := by decide +kernel
theorem xd14_156 : decode (mj_b 14) 156 = .ok (.bipush 44, 2) := by decide +kernel
theorem xd14_158 : decode (mj_b 14) 158 = .ok (.if_icmp .ne 7, 3) := by decide +kernel
theorem xd14_161 : decode (mj_b 14) 161 = .ok (.iconst 0, 1) := by decide +kernel
theorem xd14_162 : decode (mj_b 14) 162 = .ok (.goto 5, 3) := by decide +kernel
theorem xd14_165 : decode (mj_b 14) 165 = .ok (.bipush 7, 2) := by decide +kernel
theorem xd14_167 : decode (mj_b 14) 167 = .ok (.ireturn, 1) := by decide +kernel
theorem xd14_168 : decode (mj_b 14) 168 = .ok (.bipush 7, 2) := by decide +kernel
theorem xd14_170 : decode (mj_b 14) 170 = .ok (.ireturn, 1) := by decide +kernel
theorem x14_0 {x0 : Int32} {x1 : Int32} : wp Ln xs 14 0 [.int x0, .int x1] [] (u, ml_h m lm) Φ = wp Ln xs 14 1 [.int x0, .int x1] [.int x0] (u, ml_h m lm) Φ := wp_same xd14_0 (Or.inr rfl) rfl
theorem x14_1_0 {x0 : Int32} {x1 : Int32} : wp Ln xs 14 1 [.int x0, .int x1] [.int (nI 0)] (u, ml_h m lm) Φ = wp Ln xs 14 44 [.int x0, .int x1] [] (u, ml_h m lm) Φ := wp_same xd14_1 (Or.inl rfl) rfl
theorem x14_1_1 {x0 : Int32} {x1 : Int32} : wp Ln xs 14 1 [.int x0, .int x1] [.int (nI 1)] (u, ml_h m lm) Φ = wp Ln xs 14 68 [.int x0, .int x1] [] (u, ml_h m lm) Φ := wp_same xd14_1 (Or.inl rfl) rfl
theorem x14_1_2 {x0 : Int32} {x1 : Int32} : wp Ln xs 14 1 [.int x0, .int x1] [.int (nI 2)] (u, ml_h m lm) Φ = wp Ln xs 14 84 [.int x0, .int x1] [] (u, ml_h m lm) Φ := wp_same xd14_1 (Or.inl rfl) rfl
theorem x14_1_3 {x0 : Int32} {x1 : Int32} : wp Ln xs 14 1 [.int x0, .int x1] [.int (nI 3)] (u, ml_h m lm) Φ = wp Ln xs 14 100 [.int x0, .int x1] [] (u, ml_h m lm) Φ := wp_same xd14_1 (Or.inl rfl) rfl
theorem x14_1_4 {x0 : Int32} {x1 : Int32} : wp Ln xs 14 1 [.int x0, .int x1] [.int (nI 4)] (u, ml_h m lm) Φ = wp Ln xs 14 105 [.int x0, .int x1] [] (u, ml_h m lm) Φ := wp_same xd14_1 (Or.inl rfl) rfl
theorem x14_1_5 {x0 : Int32} {x1 : Int32} : wp Ln xs 14 1 [.int x0, .int x1] [.int (nI 5)] (u, ml_h m lm) Φ = wp Ln xs 14 135 [.int x0, .int x1] [] (u, ml_h m lm) Φ := wp_same xd14_1 (Or.inl rfl) rfl
theorem x14_1_6 {x0 : Int32} {x1 : Int32} : wp Ln xs 14 1 [.int x0, .int x1] [.int (nI 6)] (u, ml_h m lm) Φ = wp Ln xs 14 155 [.int x0, .int x1] [] (u, ml_h m lm) Φ := wp_same xd14_1 (Or.inl rfl) rfl
theorem x14_1_7 {x0 : Int32} {x1 : Int32} : wp Ln xs 14 1 [.int x0, .int x1] [.int (nI 7)] (u, ml_h m lm) Φ = wp Ln xs 14 168 [.int x0, .int x1] [] (u, ml_h m lm) Φ := wp_same xd14_1 (Or.inl rfl) rfl
theorem x14_1_8 {x0 : Int32} {x1 : Int32} : wp Ln xs 14 1 [.int x0, .int x1] [.int (nI 8)] (u, ml_h m lm) Φ = wp Ln xs 14 168 [.int x0, .int x1] [] (u, ml_h m lm) Φ := wp_same xd14_1 (Or.inl rfl) rfl
theorem x14_1_9 {x0 : Int32} {x1 : Int32} : wp Ln xs 14 1 [.int x0, .int x1] [.int (nI 9)] (u, ml_h m lm) Φ = wp Ln xs 14 168 [.int x0, .int x1] [] (u, ml_h m lm) Φ := wp_same xd14_1 (Or.inl rfl) rfl
theorem x14_44 {x0 : Int32} {x1 : Int32} : wp Ln xs 14 44 [.int x0, .int x1] [] (u, ml_h m lm) Φ = if ¬ x1 = (nI 48) then wp Ln xs 14 54 [.int x0, .int x1] [] (u, ml_h m lm) Φ else wp Ln xs 14 50 [.int x0, .int x1] [] (u, ml_h m lm) Φ := (wp_same xd14_44 (Or.inr rfl) rfl).trans ((wp_same (S' := [.int (nI 48), .int x1]) xd14_45 (Or.inr rfl) rfl).trans (wx_icmp xd14_47 rfl rfl (¬ x1 = (nI 48)) mb_ne))
theorem x14_50 {x0 : Int32} {x1 : Int32} : wp Ln xs 14 50 [.int x0, .int x1] [] (u, ml_h m lm) Φ = Φ (.inl (some (.int (nI 3)))) (u, ml_h m lm) := (wp_same (S' := [.int (nI 3)]) xd14_50 (Or.inr rfl) rfl).trans ((wx_goto xd14_51 rfl).trans (wp_fin (v := some (.int (nI 3))) xd14_67 (Or.inr rfl) rfl (mj_fin_i rfl)))
theorem x14_54 {x0 : Int32} {x1 : Int32} : wp Ln xs 14 54 [.int x0, .int x1] [] (u, ml_h m lm) Φ = wp Ln xs 15 0 [.int x1] [] (u, ml_h m lm) (mk Ln xs 14 55 [.int x0, .int x1] [] Φ) := (wp_same xd14_54 (Or.inr rfl) rfl).trans (wm_cs (As := [.int x1]) (rest := []) xd14_55 rfl rfl (Nat.le_of_ble_eq_true rfl) (Nat.le_of_ble_eq_true rfl) (Nat.le_of_ble_eq_true rfl) (Nat.le_of_ble_eq_true rfl))
theorem x14_58 {x0 : Int32} {x1 : Int32} {xs0 : Int32} : wp Ln xs 14 58 [.int x0, .int x1] [.int xs0] (u, ml_h m lm) Φ = if xs0 = (nI 0) then wp Ln xs 14 65 [.int x0, .int x1] [] (u, ml_h m lm) Φ else wp Ln xs 14 61 [.int x0, .int x1] [] (u, ml_h m lm) Φ := wx_if xd14_58 rfl rfl (xs0 = (nI 0)) mb_eq
theorem x14_61 {x0 : Int32} {x1 : Int32} : wp Ln xs 14 61 [.int x0, .int x1] [] (u, ml_h m lm) Φ = Φ (.inl (some (.int (nI 1)))) (u, ml_h m lm) := (wp_same (S' := [.int (nI 1)]) xd14_61 (Or.inr rfl) rfl).trans ((wx_goto xd14_62 rfl).trans (wp_fin (v := some (.int (nI 1))) xd14_67 (Or.inr rfl) rfl (mj_fin_i rfl)))
theorem x14_65 {x0 : Int32} {x1 : Int32} : wp Ln xs 14 65 [.int x0, .int x1] [] (u, ml_h m lm) Φ = Φ (.inl (some (.int (nI 7)))) (u, ml_h m lm) := (wp_same (S' := [.int (nI 7)]) xd14_65 (Or.inr rfl) rfl).trans (wp_fin (v := some (.int (nI 7))) xd14_67 (Or.inr rfl) rfl (mj_fin_i rfl))
theorem x14_68 {x0 : Int32} {x1 : Int32} : wp Ln xs 14 68 [.int x0, .int x1] [] (u, ml_h m lm) Φ = wp Ln xs 15 0 [.int x1] [] (u, ml_h m lm) (mk Ln xs 14 69 [.int x0, .int x1] [] Φ) := (wp_same xd14_68 (Or.inr rfl) rfl).trans (wm_cs (As := [.int x1]) (rest := []) xd14_69 rfl rfl (Nat.le_of_ble_eq_true rfl) (Nat.le_of_ble_eq_true rfl) (Nat.le_of_ble_eq_true rfl) (Nat.le_of_ble_eq_true rfl))
theorem x14_72 {x0 : Int32} {x1 : Int32} {xs0 : Int32} : wp Ln xs 14 72 [.int x0, .int x1] [.int xs0] (u, ml_h m lm) Φ = if xs0 = (nI 0) then wp Ln xs 14 79 [.int x0, .int x1] [] (u, ml_h m lm) Φ else wp Ln xs 14 75 [.int x0, .int x1] [] (u, ml_h m lm) Φ := wx_if xd14_72 rfl rfl (xs0 = (nI 0)) mb_eq
theorem x14_75 {x0 : Int32} {x1 : Int32} : wp Ln xs 14 75 [.int x0, .int x1] [] (u, ml_h m lm) Φ = Φ (.inl (some (.int (nI 2)))) (u, ml_h m lm) := (wp_same (S' := [.int (nI 2)]) xd14_75 (Or.inr rfl) rfl).trans ((wx_goto xd14_76 rfl).trans (wp_fin (v := some (.int (nI 2))) xd14_83 (Or.inr rfl) rfl (mj_fin_i rfl)))
theorem x14_79 {x0 : Int32} {x1 : Int32} : wp Ln xs 14 79 [.int x0, .int x1] [] (u, ml_h m lm) Φ = wp Ln xs 16 0 [.int x1] [] (u, ml_h m lm) (mk Ln xs 14 80 [.int x0, .int x1] [] Φ) := (wp_same xd14_79 (Or.inr rfl) rfl).trans (wm_cs (As := [.int x1]) (rest := []) xd14_80 rfl rfl (Nat.le_of_ble_eq_true rfl) (Nat.le_of_ble_eq_true rfl) (Nat.le_of_ble_eq_true rfl) (Nat.le_of_ble_eq_true rfl))
theorem x14_83 {x0 : Int32} {x1 : Int32} {xs0 : Int32} : wp Ln xs 14 83 [.int x0, .int x1] [.int xs0] (u, ml_h m lm) Φ = Φ (.inl (some (.int xs0))) (u, ml_h m lm) := wp_fin (v := some (.int xs0)) xd14_83 (Or.inr rfl) rfl (mj_fin_i rfl)
theorem x14_84 {x0 : Int32} {x1 : Int32} : wp Ln xs 14 84 [.int x0, .int x1] [] (u, ml_h m lm) Φ = wp Ln xs 15 0 [.int x1] [] (u, ml_h m lm) (mk Ln xs 14 85 [.int x0, .int x1] [] Φ) := (wp_same xd14_84 (Or.inr rfl) rfl).trans (wm_cs (As := [.int x1]) (rest := []) xd14_85 rfl rfl (Nat.le_of_ble_eq_true rfl) (Nat.le_of_ble_eq_true rfl) (Nat.le_of_ble_eq_true rfl) (Nat.le_of_ble_eq_true rfl))
theorem x14_88 {x0 : Int32} {x1 : Int32} {xs0 : Int32} : wp Ln xs 14 88 [.int x0, .int x1] [.int xs0] (u, ml_h m lm) Φ = if xs0 = (nI 0) then wp Ln xs 14 95 [.int x0, .int x1] [] (u, ml_h m lm) Φ else wp Ln xs 14 91 [.int x0, .int x1] [] (u, ml_h m lm) Φ := wx_if xd14_88 rfl rfl (xs0 = (nI 0)) mb_eq
theorem x14_91 {x0 : Int32} {x1 : Int32} : wp Ln xs 14 91 [.int x0, .int x1] [] (u, ml_h m lm) Φ = Φ (.inl (some (.int (nI 3)))) (u, ml_h m lm) := (wp_same (S' := [.int (nI 3)]) xd14_91 (Or.inr rfl) rfl).trans ((wx_goto xd14_92 rfl).trans (wp_fin (v := some (.int (nI 3))) xd14_99 (Or.inr rfl) rfl (mj_fin_i rfl)))
theorem x14_95 {x0 : Int32} {x1 : Int32} : wp Ln xs 14 95 [.int x0, .int x1] [] (u, ml_h m lm) Φ = wp Ln xs 16 0 [.int x1] [] (u, ml_h m lm) (mk Ln xs 14 96 [.int x0, .int x1] [] Φ) := (wp_same xd14_95 (Or.inr rfl) rfl).trans (wm_cs (As := [.int x1]) (rest := []) xd14_96 rfl rfl (Nat.le_of_ble_eq_true rfl) (Nat.le_of_ble_eq_true rfl) (Nat.le_of_ble_eq_true rfl) (Nat.le_of_ble_eq_true rfl))
theorem x14_99 {x0 : Int32} {x1 : Int32} {xs0 : Int32} : wp Ln xs 14 99 [.int x0, .int x1] [.int xs0] (u, ml_h m lm) Φ = Φ (.inl (some (.int xs0))) (u, ml_h m lm) := wp_fin (v := some (.int xs0)) xd14_99 (Or.inr rfl) rfl (mj_fin_i rfl)
theorem x14_100 {x0 : Int32} {x1 : Int32} : wp Ln xs 14 100 [.int x0, .int x1] [] (u, ml_h m lm) Φ = wp Ln xs 16 0 [.int x1] [] (u, ml_h m lm) (mk Ln xs 14 101 [.int x0, .int x1] [] Φ) := (wp_same xd14_100 (Or.inr rfl) rfl).trans (wm_cs (As := [.int x1]) (rest := []) xd14_101 rfl rfl (Nat.le_of_ble_eq_true rfl) (Nat.le_of_ble_eq_true rfl) (Nat.le_of_ble_eq_true rfl) (Nat.le_of_ble_eq_true rfl))
theorem x14_104 {x0 : Int32} {x1 : Int32} {xs0 : Int32} : wp Ln xs 14 104 [.int x0, .int x1] [.int xs0] (u, ml_h m lm) Φ = Φ (.inl (some (.int xs0))) (u, ml_h m lm) := wp_fin (v := some (.int xs0)) xd14_104 (Or.inr rfl) rfl (mj_fin_i rfl)
theorem x14_105 {x0 : Int32} {x1 : Int32} : wp Ln xs 14 105 [.int x0, .int x1] [] (u, ml_h m lm) Φ = if ¬ x1 = (nI 49) then wp Ln xs 14 115 [.int x0, .int x1] [] (u, ml_h m lm) Φ else wp Ln xs 14 111 [.int x0, .int x1] [] (u, ml_h m lm) Φ := (wp_same xd14_105 (Or.inr rfl) rfl).trans ((wp_same (S' := [.int (nI 49), .int x1]) xd14_106 (Or.inr rfl) rfl).trans (wx_icmp xd14_108 rfl rfl (¬ x1 = (nI 49)) mb_ne))
theorem x14_111 {x0 : Int32} {x1 : Int32} : wp Ln xs 14 111 [.int x0, .int x1] [] (u, ml_h m lm) Φ = Φ (.inl (some (.int (nI 5)))) (u, ml_h m lm) := (wp_same (S' := [.int (nI 5)]) xd14_111 (Or.inr rfl) rfl).trans ((wx_goto xd14_112 rfl).trans (wp_fin (v := some (.int (nI 5))) xd14_134 (Or.inr rfl) rfl (mj_fin_i rfl)))
theorem x14_115 {x0 : Int32} {x1 : Int32} : wp Ln xs 14 115 [.int x0, .int x1] [] (u, ml_h m lm) Φ = if x1 < (nI 50) then wp Ln xs 14 132 [.int x0, .int x1] [] (u, ml_h m lm) Φ else wp Ln xs 14 121 [.int x0, .int x1] [] (u, ml_h m lm) Φ := (wp_same xd14_115 (Or.inr rfl) rfl).trans ((wp_same (S' := [.int (nI 50), .int x1]) xd14_116 (Or.inr rfl) rfl).trans (wx_icmp xd14_118 rfl rfl (x1 < (nI 50)) mb_lt))
theorem x14_121 {x0 : Int32} {x1 : Int32} : wp Ln xs 14 121 [.int x0, .int x1] [] (u, ml_h m lm) Φ = if (nI 57) < x1 then wp Ln xs 14 132 [.int x0, .int x1] [] (u, ml_h m lm) Φ else wp Ln xs 14 127 [.int x0, .int x1] [] (u, ml_h m lm) Φ := (wp_same xd14_121 (Or.inr rfl) rfl).trans ((wp_same (S' := [.int (nI 57), .int x1]) xd14_122 (Or.inr rfl) rfl).trans (wx_icmp xd14_124 rfl rfl ((nI 57) < x1) mb_gt))
theorem x14_127 {x0 : Int32} {x1 : Int32} : wp Ln xs 14 127 [.int x0, .int x1] [] (u, ml_h m lm) Φ = Φ (.inl (some (.int (nI 6)))) (u, ml_h m lm) := (wp_same (S' := [.int (nI 6)]) xd14_127 (Or.inr rfl) rfl).trans ((wx_goto xd14_129 rfl).trans (wp_fin (v := some (.int (nI 6))) xd14_134 (Or.inr rfl) rfl (mj_fin_i rfl)))
theorem x14_132 {x0 : Int32} {x1 : Int32} : wp Ln xs 14 132 [.int x0, .int x1] [] (u, ml_h m lm) Φ = Φ (.inl (some (.int (nI 7)))) (u, ml_h m lm) := (wp_same (S' := [.int (nI 7)]) xd14_132 (Or.inr rfl) rfl).trans (wp_fin (v := some (.int (nI 7))) xd14_134 (Or.inr rfl) rfl (mj_fin_i rfl))
theorem x14_135 {x0 : Int32} {x1 : Int32} : wp Ln xs 14 135 [.int x0, .int x1] [] (u, ml_h m lm) Φ = if x1 < (nI 48) then wp Ln xs 14 152 [.int x0, .int x1] [] (u, ml_h m lm) Φ else wp Ln xs 14 141 [.int x0, .int x1] [] (u, ml_h m lm) Φ := (wp_same xd14_135 (Or.inr rfl) rfl).trans ((wp_same (S' := [.int (nI 48), .int x1]) xd14_136 (Or.inr rfl) rfl).trans (wx_icmp xd14_138 rfl rfl (x1 < (nI 48)) mb_lt))
theorem x14_141 {x0 : Int32} {x1 : Int32} : wp Ln xs 14 141 [.int x0, .int x1] [] (u, ml_h m lm) Φ = if (nI 54) < x1 then wp Ln xs 14 152 [.int x0, .int x1] [] (u, ml_h m lm) Φ else wp Ln xs 14 147 [.int x0, .int x1] [] (u, ml_h m lm) Φ := (wp_same xd14_141 (Or.inr rfl) rfl).trans ((wp_same (S' := [.int (nI 54), .int x1]) xd14_142 (Or.inr rfl) rfl).trans (wx_icmp xd14_144 rfl rfl ((nI 54) < x1) mb_gt))
theorem x14_147 {x0 : Int32} {x1 : Int32} : wp Ln xs 14 147 [.int x0, .int x1] [] (u, ml_h m lm) Φ = Φ (.inl (some (.int (nI 6)))) (u, ml_h m lm) := (wp_same (S' := [.int (nI 6)]) xd14_147 (Or.inr rfl) rfl).trans ((wx_goto xd14_149 rfl).trans (wp_fin (v := some (.int (nI 6))) xd14_154 (Or.inr rfl) rfl (mj_fin_i rfl)))
theorem x14_152 {x0 : Int32} {x1 : Int32} : wp Ln xs 14 152 [.int x0, .int x1] [] (u, ml_h m lm) Φ = Φ (.inl (some (.int (nI 7)))) (u, ml_h m lm) := (wp_same (S' := [.int (nI 7)]) xd14_152 (Or.inr rfl) rfl).trans (wp_fin (v := some (.int (nI 7))) xd14_154 (Or.inr rfl) rfl (mj_fin_i rfl))
theorem x14_155 {x0 : Int32} {x1 : Int32} : wp Ln xs 14 155 [.int x0, .int x1] [] (u, ml_h m lm) Φ = if ¬ x1 = (nI 44) then wp Ln xs 14 165 [.int x0, .int x1] [] (u, ml_h m lm) Φ else wp Ln xs 14 161 [.int x0, .int x1] [] (u, ml_h m lm) Φ := (wp_same xd14_155 (Or.inr rfl) rfl).trans ((wp_same (S' := [.int (nI 44), .int x1]) xd14_156 (Or.inr rfl) rfl).trans (wx_icmp xd14_158 rfl rfl (¬ x1 = (nI 44)) mb_ne))
theorem x14_161 {x0 : Int32} {x1 : Int32} : wp Ln xs 14 161 [.int x0, .int x1] [] (u, ml_h m lm) Φ = Φ (.inl (some (.int (nI 0)))) (u, ml_h m lm) := (wp_same (S' := [.int (nI 0)]) xd14_161 (Or.inr rfl) rfl).trans ((wx_goto xd14_162 rfl).trans (wp_fin (v := some (.int (nI 0))) xd14_167 (Or.inr rfl) rfl (mj_fin_i rfl)))
theorem x14_165 {x0 : Int32} {x1 : Int32} : wp Ln xs 14 165 [.int x0, .int x1] [] (u, ml_h m lm) Φ = Φ (.inl (some (.int (nI 7)))) (u, ml_h m lm) := (wp_same (S' := [.int (nI 7)]) xd14_165 (Or.inr rfl) rfl).trans (wp_fin (v := some (.int (nI 7))) xd14_167 (Or.inr rfl) rfl (mj_fin_i rfl))
theorem x14_168 {x0 : Int32} {x1 : Int32} : wp Ln xs 14 168 [.int x0, .int x1] [] (u, ml_h m lm) Φ = Φ (.inl (some (.int (nI 7)))) (u, ml_h m lm) := (wp_same (S' := [.int (nI 7)]) xd14_168 (Or.inr rfl) rfl).trans (wp_fin (v := some (.int (nI 7))) xd14_170 (Or.inr rfl) rfl (mj_fin_i rfl))
/- PickedForms$Text.isDigit -/
theorem xd15_0 : decode (mj_b 15) 0 = .ok (.iload_n 0, 1) := by decide +kernel
theorem xd15_1 : decode (mj_b 15) 1 = .ok (.bipush 48, 2) := by decide +kernel
theorem xd15_3 : decode (mj_b 15) 3 = .ok (.if_icmp .lt 13, 3) := by decide +kernel
theorem xd15_6 : decode (mj_b 15) 6 = .ok (.iload_n 0, 1) := by decide +kernel
theorem xd15_7 : decode (mj_b 15) 7 = .ok (.bipush 57, 2) := by decide +kernel
theorem xd15_9 : decode (mj_b 15) 9 = .ok (.if_icmp .gt 7, 3) := by decide +kernel
theorem xd15_12 : decode (mj_b 15) 12 = .ok (.iconst 1, 1) := by decide +kernel
theorem xd15_13 : decode (mj_b 15) 13 = .ok (.goto 4, 3) := by decide +kernel
theorem xd15_16 : decode (mj_b 15) 16 = .ok (.iconst 0, 1) := by decide +kernel
theorem xd15_17 : decode (mj_b 15) 17 = .ok (.ireturn, 1) := by decide +kernel
theorem x15_0 {x0 : Int32} : wp Ln xs 15 0 [.int x0] [] (u, ml_h m lm) Φ = if x0 < (nI 48) then wp Ln xs 15 16 [.int x0] [] (u, ml_h m lm) Φ else wp Ln xs 15 6 [.int x0] [] (u, ml_h m lm) Φ := (wp_same xd15_0 (Or.inr rfl) rfl).trans ((wp_same (S' := [.int (nI 48), .int x0]) xd15_1 (Or.inr rfl) rfl).trans (wx_icmp xd15_3 rfl rfl (x0 < (nI 48)) mb_lt))
theorem x15_6 {x0 : Int32} : wp Ln xs 15 6 [.int x0] [] (u, ml_h m lm) Φ = if (nI 57) < x0 then wp Ln xs 15 16 [.int x0] [] (u, ml_h m lm) Φ else wp Ln xs 15 12 [.int x0] [] (u, ml_h m lm) Φ := (wp_same xd15_6 (Or.inr rfl) rfl).trans ((wp_same (S' := [.int (nI 57), .int x0]) xd15_7 (Or.inr rfl) rfl).trans (wx_icmp xd15_9 rfl rfl ((nI 57) < x0) mb_gt))
theorem x15_12 {x0 : Int32} : wp Ln xs 15 12 [.int x0] [] (u, ml_h m lm) Φ = Φ (.inl (some (.int (nI 1)))) (u, ml_h m lm) := (wp_same (S' := [.int (nI 1)]) xd15_12 (Or.inr rfl) rfl).trans ((wx_goto xd15_13 rfl).trans (wp_fin (v := some (.int (nI 1))) xd15_17 (Or.inr rfl) rfl rfl))
theorem x15_16 {x0 : Int32} : wp Ln xs 15 16 [.int x0] [] (u, ml_h m lm) Φ = Φ (.inl (some (.int (nI 0)))) (u, ml_h m lm) := (wp_same (S' := [.int (nI 0)]) xd15_16 (Or.inr rfl) rfl).trans (wp_fin (v := some (.int (nI 0))) xd15_17 (Or.inr rfl) rfl rfl)
/- PickedForms$Text.behindValue -/
theorem xd16_0 : decode (mj_b 16) 0 = .ok (.iload_n 0, 1) := by decide +kernel
theorem xd16_1 : decode (mj_b 16) 1 = .ok (.bipush 42, 2) := by decide +kernel
theorem xd16_3 : decode (mj_b 16) 3 = .ok (.if_icmp .ne 7, 3) := by decide +kernel
theorem xd16_6 : decode (mj_b 16) 6 = .ok (.iconst 4, 1) := by decide +kernel
theorem xd16_7 : decode (mj_b 16) 7 = .ok (.goto 15, 3) := by decide +kernel
theorem xd16_10 : decode (mj_b 16) 10 = .ok (.iload_n 0, 1) := by decide +kernel
theorem xd16_11 : decode (mj_b 16) 11 = .ok (.bipush 44, 2) := by decide +kernel
theorem xd16_13 : decode (mj_b 16) 13 = .ok (.if_icmp .ne 7, 3) := by decide +kernel
theorem xd16_16 : decode (mj_b 16) 16 = .ok (.iconst 0, 1) := by decide +kernel
theorem xd16_17 : decode (mj_b 16) 17 = .ok (.goto 5, 3) := by decide +kernel
theorem xd16_20 : decode (mj_b 16) 20 = .ok (.bipush 7, 2) := by decide +kernel
theorem xd16_22 : decode (mj_b 16) 22 = .ok (.ireturn, 1) := by decide +kernel
theorem x16_0 {x0 : Int32} : wp Ln xs 16 0 [.int x0] [] (u, ml_h m lm) Φ = if ¬ x0 = (nI 42) then wp Ln xs 16 10 [.int x0] [] (u, ml_h m lm) Φ else wp Ln xs 16 6 [.int x0] [] (u, ml_h m lm) Φ := (wp_same xd16_0 (Or.inr rfl) rfl).trans ((wp_same (S' := [.int (nI 42), .int x0]) xd16_1 (Or.inr rfl) rfl).trans (wx_icmp xd16_3 rfl rfl (¬ x0 = (nI 42)) mb_ne))
theorem x16_6 {x0 : Int32} : wp Ln xs 16 6 [.int x0] [] (u, ml_h m lm) Φ = Φ (.inl (some (.int (nI 4)))) (u, ml_h m lm) := (wp_same (S' := [.int (nI 4)]) xd16_6 (Or.inr rfl) rfl).trans ((wx_goto xd16_7 rfl).trans (wp_fin (v := some (.int (nI 4))) xd16_22 (Or.inr rfl) rfl (mj_fin_i rfl)))
theorem x16_10 {x0 : Int32} : wp Ln xs 16 10 [.int x0] [] (u, ml_h m lm) Φ = if ¬ x0 = (nI 44) then wp Ln xs 16 20 [.int x0] [] (u, ml_h m lm) Φ else wp Ln xs 16 16 [.int x0] [] (u, ml_h m lm) Φ := (wp_same xd16_10 (Or.inr rfl) rfl).trans ((wp_same (S' := [.int (nI 44), .int x0]) xd16_11 (Or.inr rfl) rfl).trans (wx_icmp xd16_13 rfl rfl (¬ x0 = (nI 44)) mb_ne))
theorem x16_16 {x0 : Int32} : wp Ln xs 16 16 [.int x0] [] (u, ml_h m lm) Φ = Φ (.inl (some (.int (nI 0)))) (u, ml_h m lm) := (wp_same (S' := [.int (nI 0)]) xd16_16 (Or.inr rfl) rfl).trans ((wx_goto xd16_17 rfl).trans (wp_fin (v := some (.int (nI 0))) xd16_22 (Or.inr rfl) rfl (mj_fin_i rfl)))
theorem x16_20 {x0 : Int32} : wp Ln xs 16 20 [.int x0] [] (u, ml_h m lm) Φ = Φ (.inl (some (.int (nI 7)))) (u, ml_h m lm) := (wp_same (S' := [.int (nI 7)]) xd16_20 (Or.inr rfl) rfl).trans (wp_fin (v := some (.int (nI 7))) xd16_22 (Or.inr rfl) rfl (mj_fin_i rfl))
/- PickedForms.keep -/
theorem xd17_0 : decode (mj_b 17) 0 = .ok (.aload_n 0, 1) := by decide +kernel
theorem xd17_1 : decode (mj_b 17) 1 = .ok (.getfield 16, 3) := by decide +kernel
theorem xd17_4 : decode (mj_b 17) 4 = .ok (.aload_n 0, 1) := by decide +kernel
theorem xd17_5 : decode (mj_b 17) 5 = .ok (.getfield 12, 3) := by decide +kernel
theorem xd17_8 : decode (mj_b 17) 8 = .ok (.invokevirtual 240, 3) := by decide +kernel
theorem xd17_11 : decode (mj_b 17) 11 = .ok (.aload_n 0, 1) := by decide +kernel
theorem xd17_12 : decode (mj_b 17) 12 = .ok (.iconst 1, 1) := by decide +kernel
theorem xd17_13 : decode (mj_b 17) 13 = .ok (.putfield 19, 3) := by decide +kernel
theorem xd17_16 : decode (mj_b 17) 16 = .ok (.aload_n 0, 1) := by decide +kernel
theorem xd17_17 : decode (mj_b 17) 17 = .ok (.getfield 12, 3) := by decide +kernel
theorem xd17_20 : decode (mj_b 17) 20 = .ok (.getfield 104, 3) := by decide +kernel
theorem xd17_23 : decode (mj_b 17) 23 = .ok (.ireturn, 1) := by decide +kernel
theorem x17_0 : wp Ln xs 17 0 [.ref 1] [] (u, ml_h m lm) Φ = wp Ln xs 18 0 [.ref 8, .ref 2] [] (u, ml_h m lm) (mk Ln xs 17 8 [.ref 1] [] Φ) := (wp_same xd17_0 (Or.inr rfl) rfl).trans ((wm_getr xd17_1 rfl (show ml_L[1]? = _ from rfl) rfl (Nat.le_of_ble_eq_true rfl)).trans ((wp_same xd17_4 (Or.inr rfl) rfl).trans ((wm_getr xd17_5 rfl (show ml_L[1]? = _ from rfl) rfl (Nat.le_of_ble_eq_true rfl)).trans (wm_cv (As := [.ref 2]) (rest := []) xd17_8 rfl rfl (show ml_L[8]? = _ from rfl) (Nat.le_of_ble_eq_true rfl) (Nat.le_of_ble_eq_true rfl) (Nat.le_of_ble_eq_true rfl) (Nat.le_of_ble_eq_true rfl)))))
theorem x17_11 : wp Ln xs 17 11 [.ref 1] [] (u, ml_h m lm) Φ = Φ (.inl (some (.int ((ml_s m 1 2 (nI 1)) 2 5)))) (u, ml_h (ml_s m 1 2 (nI 1)) lm) := (wp_same xd17_11 (Or.inr rfl) rfl).trans ((wp_same (S' := [.int (nI 1), .ref 1]) xd17_12 (Or.inr rfl) rfl).trans ((wm_puti xd17_13 rfl (show ml_L[1]? = _ from rfl) rfl (Nat.le_of_ble_eq_true rfl) rfl rfl rfl).trans ((wp_same xd17_16 (Or.inr rfl) rfl).trans ((wm_getr xd17_17 rfl (show ml_L[1]? = _ from rfl) rfl (Nat.le_of_ble_eq_true rfl)).trans ((wm_geti xd17_20 rfl (show ml_L[2]? = _ from rfl) rfl (Nat.le_of_ble_eq_true rfl)).trans (wp_fin (v := some (.int ((ml_s m 1 2 (nI 1)) 2 5))) xd17_23 (Or.inr rfl) rfl (mj_fin_i rfl)))))))
/- PickedForms$Column.copyFrom -/
theorem xd18_0 : decode (mj_b 18) 0 = .ok (.aload_n 1, 1) := by decide +kernel
theorem xd18_1 : decode (mj_b 18) 1 = .ok (.getfield 9, 3) := by decide +kernel
theorem xd18_4 : decode (mj_b 18) 4 = .ok (.aload_n 0, 1) := by decide +kernel
theorem xd18_5 : decode (mj_b 18) 5 = .ok (.getfield 9, 3) := by decide +kernel
theorem xd18_8 : decode (mj_b 18) 8 = .ok (.invokestatic 40, 3) := by decide +kernel
theorem xd18_11 : decode (mj_b 18) 11 = .ok (.aload_n 1, 1) := by decide +kernel
theorem xd18_12 : decode (mj_b 18) 12 = .ok (.getfield 15, 3) := by decide +kernel
theorem xd18_15 : decode (mj_b 18) 15 = .ok (.aload_n 0, 1) := by decide +kernel
theorem xd18_16 : decode (mj_b 18) 16 = .ok (.getfield 15, 3) := by decide +kernel
theorem xd18_19 : decode (mj_b 18) 19 = .ok (.invokestatic 40, 3) := by decide +kernel
theorem xd18_22 : decode (mj_b 18) 22 = .ok (.aload_n 1, 1) := by decide +kernel
theorem xd18_23 : decode (mj_b 18) 23 = .ok (.getfield 18, 3) := by decide +kernel
theorem xd18_26 : decode (mj_b 18) 26 = .ok (.aload_n 0, 1) := by decide +kernel
theorem xd18_27 : decode (mj_b 18) 27 = .ok (.getfield 18, 3) := by decide +kernel
theorem xd18_30 : decode (mj_b 18) 30 = .ok (.invokestatic 40, 3) := by decide +kernel
theorem xd18_33 : decode (mj_b 18) 33 = .ok (.aload_n 1, 1) := by decide +kernel
theorem xd18_34 : decode (mj_b 18) 34 = .ok (.getfield 21, 3) := by decide +kernel
theorem xd18_37 : decode (mj_b 18) 37 = .ok (.aload_n 0, 1) := by decide +kernel
theorem xd18_38 : decode (mj_b 18) 38 = .ok (.getfield 21, 3) := by decide +kernel
theorem xd18_41 : decode (mj_b 18) 41 = .ok (.invokestatic 40, 3) := by decide +kernel
theorem xd18_44 : decode (mj_b 18) 44 = .ok (.aload_n 1, 1) := by decide +kernel
theorem xd18_45 : decode (mj_b 18) 45 = .ok (.getfield 24, 3) := by decide +kernel
theorem xd18_48 : decode (mj_b 18) 48 = .ok (.aload_n 0, 1) := by decide +kernel
theorem xd18_49 : decode (mj_b 18) 49 = .ok (.getfield 24, 3) := by decide +kernel
theorem xd18_52 : decode (mj_b 18) 52 = .ok (.invokestatic 40, 3) := by decide +kernel
theorem xd18_55 : decode (mj_b 18) 55 = .ok (.aload_n 0, 1) := by decide +kernel
theorem xd18_56 : decode (mj_b 18) 56 = .ok (.aload_n 1, 1) := by decide +kernel
theorem xd18_57 : decode (mj_b 18) 57 = .ok (.getfield 27, 3) := by decide +kernel
theorem xd18_60 : decode (mj_b 18) 60 = .ok (.putfield 27, 3) := by decide +kernel
theorem xd18_63 : decode (mj_b 18) 63 = .ok (.aload_n 0, 1) := by decide +kernel
theorem xd18_64 : decode (mj_b 18) 64 = .ok (.aload_n 1, 1) := by decide +kernel
theorem xd18_65 : decode (mj_b 18) 65 = .ok (.getfield 31, 3) := by decide +kernel
theorem xd18_68 : decode (mj_b 18) 68 = .ok (.putfield 31, 3) := by decide +kernel
theorem xd18_71 : decode (mj_b 18) 71 = .ok (.aload_n 0, 1) := by decide +kernel
theorem xd18_72 : decode (mj_b 18) 72 = .ok (.aload_n 1, 1) := by decide +kernel
theorem xd18_73 : decode (mj_b 18) 73 = .ok (.getfield 34, 3) := by decide +kernel
theorem xd18_76 : decode (mj_b 18) 76 = .ok (.putfield 34, 3) := by decide +kernel
theorem xd18_79 : decode (mj_b 18) 79 = .ok (.aload_n 0, 1) := by decide +kernel
theorem xd18_80 : decode (mj_b 18) 80 = .ok (.aload_n 1, 1) := by decide +kernel
theorem xd18_81 : decode (mj_b 18) 81 = .ok (.getfield 37, 3) := by decide +kernel
theorem xd18_84 : decode (mj_b 18) 84 = .ok (.putfield 37, 3) := by decide +kernel
theorem xd18_87 : decode (mj_b 18) 87 = .ok (.return_, 1) := by decide +kernel
theorem x18_0 {p q : Nat} (hq : ml_co q) (hp : ml_co p) : wp Ln xs 18 0 [.ref p, .ref q] [] (u, ml_h m lm) Φ = wp Ln xs 19 0 [.ref (q + 1), .ref (p + 1)] [] (u, ml_h m lm) (mk Ln xs 18 8 [.ref p, .ref q] [] Φ) := (wp_same xd18_0 (Or.inr rfl) rfl).trans ((wm_getr xd18_1 rfl hq.1 rfl (Nat.le_of_ble_eq_true rfl)).trans ((wp_same xd18_4 (Or.inr rfl) rfl).trans ((wm_getr xd18_5 rfl hp.1 rfl (Nat.le_of_ble_eq_true rfl)).trans (wm_cs (As := [.ref (q + 1), .ref (p + 1)]) (rest := []) xd18_8 rfl rfl (Nat.le_of_ble_eq_true rfl) (Nat.le_of_ble_eq_true rfl) (Nat.le_of_ble_eq_true rfl) (Nat.le_of_ble_eq_true rfl)))))
theorem x18_11 {p q : Nat} (hq : ml_co q) (hp : ml_co p) : wp Ln xs 18 11 [.ref p, .ref q] [] (u, ml_h m lm) Φ = wp Ln xs 19 0 [.ref (q + 2), .ref (p + 2)] [] (u, ml_h m lm) (mk Ln xs 18 19 [.ref p, .ref q] [] Φ) := (wp_same xd18_11 (Or.inr rfl) rfl).trans ((wm_getr xd18_12 rfl hq.1 rfl (Nat.le_of_ble_eq_true rfl)).trans ((wp_same xd18_15 (Or.inr rfl) rfl).trans ((wm_getr xd18_16 rfl hp.1 rfl (Nat.le_of_ble_eq_true rfl)).trans (wm_cs (As := [.ref (q + 2), .ref (p + 2)]) (rest := []) xd18_19 rfl rfl (Nat.le_of_ble_eq_true rfl) (Nat.le_of_ble_eq_true rfl) (Nat.le_of_ble_eq_true rfl) (Nat.le_of_ble_eq_true rfl)))))
theorem x18_22 {p q : Nat} (hq : ml_co q) (hp : ml_co p) : wp Ln xs 18 22 [.ref p, .ref q] [] (u, ml_h m lm) Φ = wp Ln xs 19 0 [.ref (q + 3), .ref (p + 3)] [] (u, ml_h m lm) (mk Ln xs 18 30 [.ref p, .ref q] [] Φ) := (wp_same xd18_22 (Or.inr rfl) rfl).trans ((wm_getr xd18_23 rfl hq.1 rfl (Nat.le_of_ble_eq_true rfl)).trans ((wp_same xd18_26 (Or.inr rfl) rfl).trans ((wm_getr xd18_27 rfl hp.1 rfl (Nat.le_of_ble_eq_true rfl)).trans (wm_cs (As := [.ref (q + 3), .ref (p + 3)]) (rest := []) xd18_30 rfl rfl (Nat.le_of_ble_eq_true rfl) (Nat.le_of_ble_eq_true rfl) (Nat.le_of_ble_eq_true rfl) (Nat.le_of_ble_eq_true rfl)))))
theorem x18_33 {p q : Nat} (hq : ml_co q) (hp : ml_co p) : wp Ln xs 18 33 [.ref p, .ref q] [] (u, ml_h m lm) Φ = wp Ln xs 19 0 [.ref (q + 4), .ref (p + 4)] [] (u, ml_h m lm) (mk Ln xs 18 41 [.ref p, .ref q] [] Φ) := (wp_same xd18_33 (Or.inr rfl) rfl).trans ((wm_getr xd18_34 rfl hq.1 rfl (Nat.le_of_ble_eq_true rfl)).trans ((wp_same xd18_37 (Or.inr rfl) rfl).trans ((wm_getr xd18_38 rfl hp.1 rfl (Nat.le_of_ble_eq_true rfl)).trans (wm_cs (As := [.ref (q + 4), .ref (p + 4)]) (rest := []) xd18_41 rfl rfl (Nat.le_of_ble_eq_true rfl) (Nat.le_of_ble_eq_true rfl) (Nat.le_of_ble_eq_true rfl) (Nat.le_of_ble_eq_true rfl)))))
theorem x18_44 {p q : Nat} (hq : ml_co q) (hp : ml_co p) : wp Ln xs 18 44 [.ref p, .ref q] [] (u, ml_h m lm) Φ = wp Ln xs 19 0 [.ref (q + 5), .ref (p + 5)] [] (u, ml_h m lm) (mk Ln xs 18 52 [.ref p, .ref q] [] Φ) := (wp_same xd18_44 (Or.inr rfl) rfl).trans ((wm_getr xd18_45 rfl hq.1 rfl (Nat.le_of_ble_eq_true rfl)).trans ((wp_same xd18_48 (Or.inr rfl) rfl).trans ((wm_getr xd18_49 rfl hp.1 rfl (Nat.le_of_ble_eq_true rfl)).trans (wm_cs (As := [.ref (q + 5), .ref (p + 5)]) (rest := []) xd18_52 rfl rfl (Nat.le_of_ble_eq_true rfl) (Nat.le_of_ble_eq_true rfl) (Nat.le_of_ble_eq_true rfl) (Nat.le_of_ble_eq_true rfl)))))
theorem x18_55 {p q : Nat} (hq : ml_co q) (hp : ml_co p) : wp Ln xs 18 55 [.ref p, .ref q] [] (u, ml_h m lm) Φ = Φ (.inl none) (u, ml_h (ml_s (ml_s (ml_s (ml_s m p 5 (m q 5)) p 6 ((ml_s m p 5 (m q 5)) q 6)) p 7 ((ml_s (ml_s m p 5 (m q 5)) p 6 ((ml_s m p 5 (m q 5)) q 6)) q 7)) p 8 ((ml_s (ml_s (ml_s m p 5 (m q 5)) p 6 ((ml_s m p 5 (m q 5)) q 6)) p 7 ((ml_s (ml_s m p 5 (m q 5)) p 6 ((ml_s m p 5 (m q 5)) q 6)) q 7)) q 8)) lm) := (wp_same xd18_55 (Or.inr rfl) rfl).trans ((wp_same xd18_56 (Or.inr rfl) rfl).trans ((wm_geti xd18_57 rfl hq.1 rfl (Nat.le_of_ble_eq_true rfl)).trans ((wm_puti xd18_60 rfl hp.1 rfl (Nat.le_of_ble_eq_true rfl) rfl rfl rfl).trans ((wp_same xd18_63 (Or.inr rfl) rfl).trans ((wp_same xd18_64 (Or.inr rfl) rfl).trans ((wm_geti xd18_65 rfl hq.1 rfl (Nat.le_of_ble_eq_true rfl)).trans ((wm_puti xd18_68 rfl hp.1 rfl (Nat.le_of_ble_eq_true rfl) rfl rfl rfl).trans ((wp_same xd18_71 (Or.inr rfl) rfl).trans ((wp_same xd18_72 (Or.inr rfl) rfl).trans ((wm_geti xd18_73 rfl hq.1 rfl (Nat.le_of_ble_eq_true rfl)).trans ((wm_puti xd18_76 rfl hp.1 rfl (Nat.le_of_ble_eq_true rfl) rfl rfl rfl).trans ((wp_same xd18_79 (Or.inr rfl) rfl).trans ((wp_same xd18_80 (Or.inr rfl) rfl).trans ((wm_geti xd18_81 rfl hq.1 rfl (Nat.le_of_ble_eq_true rfl)).trans ((wm_puti xd18_84 rfl hp.1 rfl (Nat.le_of_ble_eq_true rfl) rfl rfl rfl).trans (wp_fin (v := none) xd18_87 (Or.inr rfl) rfl rfl))))))))))))))))
/- PickedForms$Rows.copy -/
theorem xd19_0 : decode (mj_b 19) 0 = .ok (.aload_n 0, 1) := by decide +kernel
theorem xd19_1 : decode (mj_b 19) 1 = .ok (.iconst 0, 1) := by decide +kernel
theorem xd19_2 : decode (mj_b 19) 2 = .ok (.aload_n 1, 1) := by decide +kernel
theorem xd19_3 : decode (mj_b 19) 3 = .ok (.iconst 0, 1) := by decide +kernel
theorem xd19_4 : decode (mj_b 19) 4 = .ok (.aload_n 0, 1) := by decide +kernel
theorem xd19_5 : decode (mj_b 19) 5 = .ok (.arraylength, 1) := by decide +kernel
theorem xd19_6 : decode (mj_b 19) 6 = .ok (.aload_n 1, 1) := by decide +kernel
theorem xd19_7 : decode (mj_b 19) 7 = .ok (.arraylength, 1) := by decide +kernel
theorem xd19_8 : decode (mj_b 19) 8 = .ok (.invokestatic 7, 3) := by decide +kernel
theorem xd19_11 : decode (mj_b 19) 11 = .ok (.invokestatic 13, 3) := by decide +kernel
theorem xd19_14 : decode (mj_b 19) 14 = .ok (.return_, 1) := by decide +kernel
theorem x19_0 {q r : Nat} (hr : ml_ia r) (hr0 : r ≠ 0) (hq : ml_ia q) (hq0 : q ≠ 0) : wp Ln xs 19 0 [.ref r, .ref q] [] (u, ml_h m lm) Φ = wp Ln xs 19 11 [.ref r, .ref q] [.int (if (nI (ml_n q)) < (nI (ml_n r)) then nI (ml_n q) else nI (ml_n r)), .int (nI 0), .ref q, .int (nI 0), .ref r] (u, ml_h m lm) Φ := (wp_same xd19_0 (Or.inr rfl) rfl).trans ((wp_same (S' := [.int (nI 0), .ref r]) xd19_1 (Or.inr rfl) rfl).trans ((wp_same xd19_2 (Or.inr rfl) rfl).trans ((wp_same (S' := [.int (nI 0), .ref q, .int (nI 0), .ref r]) xd19_3 (Or.inr rfl) rfl).trans ((wp_same xd19_4 (Or.inr rfl) rfl).trans ((wm_alen xd19_5 hr hr0).trans ((wp_same xd19_6 (Or.inr rfl) rfl).trans ((wm_alen xd19_7 hq hq0).trans (wm_min xd19_8 rfl (Nat.le_of_ble_eq_true rfl) (Nat.le_of_ble_eq_true rfl) (Nat.le_of_ble_eq_true rfl)))))))))
theorem x19_11 {q r : Nat} {k : Nat} (hr : ml_ia r) (hq : ml_ia q) (h1 : k ≤ ml_n r) (h2 : k ≤ ml_n q) : wp Ln xs 19 11 [.ref r, .ref q] [.int (nI k), .int 0, .ref q, .int 0, .ref r] (u, ml_h m lm) Φ = Φ (.inl none) (u, ml_h (ml_cp m r q 0 0 k) lm) := (wm_copy xd19_11 rfl hr hq h1 h2 (Nat.le_of_ble_eq_true rfl) (Nat.le_of_ble_eq_true rfl) (Nat.le_of_ble_eq_true rfl)).trans (wp_fin (v := none) xd19_14 (Or.inr rfl) rfl rfl)
/- PickedForms.sizeShare -/
theorem xd20_0 : decode (mj_b 20) 0 = .ok (.aload_n 0, 1) := by decide +kernel
theorem xd20_1 : decode (mj_b 20) 1 = .ok (.getfield 12, 3) := by decide +kernel
theorem xd20_4 : decode (mj_b 20) 4 = .ok (.getfield 104, 3) := by decide +kernel
theorem xd20_7 : decode (mj_b 20) 7 = .ok (.ifCond .ne 5, 3) := by decide +kernel
theorem xd20_10 : decode (mj_b 20) 10 = .ok (.dconst 1, 1) := by decide +kernel
theorem xd20_11 : decode (mj_b 20) 11 = .ok (.dreturn, 1) := by decide +kernel
theorem xd20_12 : decode (mj_b 20) 12 = .ok (.aload_n 0, 1) := by decide +kernel
theorem xd20_13 : decode (mj_b 20) 13 = .ok (.invokevirtual 314, 3) := by decide +kernel
theorem xd20_16 : decode (mj_b 20) 16 = .ok (.i2d, 1) := by decide +kernel
theorem xd20_17 : decode (mj_b 20) 17 = .ok (.ldc2_w 317, 3) := by decide +kernel
theorem xd20_20 : decode (mj_b 20) 20 = .ok (.aload_n 0, 1) := by decide +kernel
theorem xd20_21 : decode (mj_b 20) 21 = .ok (.getfield 12, 3) := by decide +kernel
theorem xd20_24 : decode (mj_b 20) 24 = .ok (.getfield 104, 3) := by decide +kernel
theorem xd20_27 : decode (mj_b 20) 27 = .ok (.i2d, 1) := by decide +kernel
theorem xd20_28 : decode (mj_b 20) 28 = .ok (.dmul, 1) := by decide +kernel
theorem xd20_29 : decode (mj_b 20) 29 = .ok (.ddiv, 1) := by decide +kernel
theorem xd20_30 : decode (mj_b 20) 30 = .ok (.dreturn, 1) := by decide +kernel
theorem x20_0 : wp Ln xs 20 0 [.ref 1] [] (u, ml_h m lm) Φ = if ¬ (m 2 5) = (nI 0) then wp Ln xs 20 12 [.ref 1] [] (u, ml_h m lm) Φ else wp Ln xs 20 10 [.ref 1] [] (u, ml_h m lm) Φ := (wp_same xd20_0 (Or.inr rfl) rfl).trans ((wm_getr xd20_1 rfl (show ml_L[1]? = _ from rfl) rfl (Nat.le_of_ble_eq_true rfl)).trans ((wm_geti xd20_4 rfl (show ml_L[2]? = _ from rfl) rfl (Nat.le_of_ble_eq_true rfl)).trans (wx_if xd20_7 rfl rfl (¬ (m 2 5) = (nI 0)) mb_ne)))
theorem x20_10 : wp Ln xs 20 10 [.ref 1] [] (u, ml_h m lm) Φ = Φ (.inl (some (.double FP.dconst1))) (u, ml_h m lm) := (wp_same xd20_10 (Or.inr rfl) rfl).trans (wp_fin (v := some (.double FP.dconst1)) xd20_11 (Or.inr rfl) rfl rfl)
theorem x20_12 : wp Ln xs 20 12 [.ref 1] [] (u, ml_h m lm) Φ = wp Ln xs 21 0 [.ref 1] [] (u, ml_h m lm) (mk Ln xs 20 13 [.ref 1] [] Φ) := (wp_same xd20_12 (Or.inr rfl) rfl).trans (wm_cv (As := []) (rest := []) xd20_13 rfl rfl (show ml_L[1]? = _ from rfl) (Nat.le_of_ble_eq_true rfl) (Nat.le_of_ble_eq_true rfl) (Nat.le_of_ble_eq_true rfl) (Nat.le_of_ble_eq_true rfl))
theorem x20_16 {xs0 : Int32} (hn0 : FP.dmul 4621819117588971520 (FP.i2d (m 2 5)) &&& 0x7fffffffffffffff ≤ 0x7ff0000000000000) (hn1 : FP.ddiv (FP.i2d xs0) (FP.dmul 4621819117588971520 (FP.i2d (m 2 5))) &&& 0x7fffffffffffffff ≤ 0x7ff0000000000000) : wp Ln xs 20 16 [.ref 1] [.int xs0] (u, ml_h m lm) Φ = Φ (.inl (some (.double (FP.ddiv (FP.i2d xs0) (FP.dmul 4621819117588971520 (FP.i2d (m 2 5))))))) (u, ml_h m lm) := (wp_same xd20_16 (Or.inr rfl) rfl).trans ((wm_ldc2 (v := .double 4621819117588971520) xd20_17 rfl rfl).trans ((wp_same xd20_20 (Or.inr rfl) rfl).trans ((wm_getr xd20_21 rfl (show ml_L[1]? = _ from rfl) rfl (Nat.le_of_ble_eq_true rfl)).trans ((wm_geti xd20_24 rfl (show ml_L[2]? = _ from rfl) rfl (Nat.le_of_ble_eq_true rfl)).trans ((wp_same xd20_27 (Or.inr rfl) rfl).trans ((wx_dmul xd20_28 hn0).trans ((wx_ddiv xd20_29 hn1).trans (wp_fin (v := some (.double (FP.ddiv (FP.i2d xs0) (FP.dmul 4621819117588971520 (FP.i2d (m 2 5)))))) xd20_30 (Or.inr rfl) rfl rfl))))))))
/- PickedForms.weight -/
theorem xd21_0 : decode (mj_b 21) 0 = .ok (.aload_n 0, 1) := by decide +kernel
theorem xd21_1 : decode (mj_b 21) 1 = .ok (.getfield 12, 3) := by decide +kernel
theorem xd21_4 : decode (mj_b 21) 4 = .ok (.invokevirtual 401, 3) := by decide +kernel
theorem xd21_7 : decode (mj_b 21) 7 = .ok (.bipush 7, 2) := by decide +kernel
theorem xd21_9 : decode (mj_b 21) 9 = .ok (.aload_n 0, 1) := by decide +kernel
theorem xd21_10 : decode (mj_b 21) 10 = .ok (.getfield 12, 3) := by decide +kernel
theorem xd21_13 : decode (mj_b 21) 13 = .ok (.getfield 112, 3) := by decide +kernel
theorem xd21_16 : decode (mj_b 21) 16 = .ok (.imul, 1) := by decide +kernel
theorem xd21_17 : decode (mj_b 21) 17 = .ok (.iadd, 1) := by decide +kernel
theorem xd21_18 : decode (mj_b 21) 18 = .ok (.bipush 10, 2) := by decide +kernel
theorem xd21_20 : decode (mj_b 21) 20 = .ok (.aload_n 0, 1) := by decide +kernel
theorem xd21_21 : decode (mj_b 21) 21 = .ok (.getfield 12, 3) := by decide +kernel
theorem xd21_24 : decode (mj_b 21) 24 = .ok (.invokevirtual 108, 3) := by decide +kernel
theorem xd21_27 : decode (mj_b 21) 27 = .ok (.imul, 1) := by decide +kernel
theorem xd21_28 : decode (mj_b 21) 28 = .ok (.iadd, 1) := by decide +kernel
theorem xd21_29 : decode (mj_b 21) 29 = .ok (.ireturn, 1) := by decide +kernel
theorem x21_0 : wp Ln xs 21 0 [.ref 1] [] (u, ml_h m lm) Φ = wp Ln xs 22 0 [.ref 2, mj_hole, mj_hole] [] (u, ml_h m lm) (mk Ln xs 21 4 [.ref 1] [] Φ) := (wp_same xd21_0 (Or.inr rfl) rfl).trans ((wm_getr xd21_1 rfl (show ml_L[1]? = _ from rfl) rfl (Nat.le_of_ble_eq_true rfl)).trans (wm_cv (As := []) (rest := []) xd21_4 rfl rfl (show ml_L[2]? = _ from rfl) (Nat.le_of_ble_eq_true rfl) (Nat.le_of_ble_eq_true rfl) (Nat.le_of_ble_eq_true rfl) (Nat.le_of_ble_eq_true rfl)))
theorem x21_7 {xs0 : Int32} : wp Ln xs 21 7 [.ref 1] [.int xs0] (u, ml_h m lm) Φ = wp Ln xs 23 0 [.ref 2] [] (u, ml_h m lm) (mk Ln xs 21 24 [.ref 1] [.int (nI 10), .int (xs0 + ((nI 7) * (m 2 6)))] Φ) := (wp_same (S' := [.int (nI 7), .int xs0]) xd21_7 (Or.inr rfl) rfl).trans ((wp_same xd21_9 (Or.inr rfl) rfl).trans ((wm_getr xd21_10 rfl (show ml_L[1]? = _ from rfl) rfl (Nat.le_of_ble_eq_true rfl)).trans ((wm_geti xd21_13 rfl (show ml_L[2]? = _ from rfl) rfl (Nat.le_of_ble_eq_true rfl)).trans ((wp_same xd21_16 (Or.inr rfl) rfl).trans ((wp_same xd21_17 (Or.inr rfl) rfl).trans ((wp_same (S' := [.int (nI 10), .int (xs0 + ((nI 7) * (m 2 6)))]) xd21_18 (Or.inr rfl) rfl).trans ((wp_same xd21_20 (Or.inr rfl) rfl).trans ((wm_getr xd21_21 rfl (show ml_L[1]? = _ from rfl) rfl (Nat.le_of_ble_eq_true rfl)).trans (wm_cv (As := []) (rest := [.int (nI 10), .int (xs0 + ((nI 7) * (m 2 6)))]) xd21_24 rfl rfl (show ml_L[2]? = _ from rfl) (Nat.le_of_ble_eq_true rfl) (Nat.le_of_ble_eq_true rfl) (Nat.le_of_ble_eq_true rfl) (Nat.le_of_ble_eq_true rfl))))))))))
theorem x21_27 {xs0 : Int32} {xs1 : Int32} {xs2 : Int32} : wp Ln xs 21 27 [.ref 1] [.int xs0, .int xs1, .int xs2] (u, ml_h m lm) Φ = Φ (.inl (some (.int (xs2 + (xs1 * xs0))))) (u, ml_h m lm) := (wp_same xd21_27 (Or.inr rfl) rfl).trans ((wp_same xd21_28 (Or.inr rfl) rfl).trans (wp_fin (v := some (.int (xs2 + (xs1 * xs0)))) xd21_29 (Or.inr rfl) rfl (mj_fin_i rfl)))
/- PickedForms$Column.roomSum -/
theorem xd22_0 : decode (mj_b 22) 0 = .ok (.iconst 0, 1) := by decide +kernel
theorem xd22_1 : decode (mj_b 22) 1 = .ok (.istore_n 1, 1) := by decide +kernel
theorem xd22_2 : decode (mj_b 22) 2 = .ok (.iconst 0, 1) := by decide +kernel
theorem xd22_3 : decode (mj_b 22) 3 = .ok (.istore_n 2, 1) := by decide +kernel
theorem xd22_4 : decode (mj_b 22) 4 = .ok (.iload_n 2, 1) := by decide +kernel
theorem xd22_5 : decode (mj_b 22) 5 = .ok (.aload_n 0, 1) := by decide +kernel
theorem xd22_6 : decode (mj_b 22) 6 = .ok (.getfield 31, 3) := by decide +kernel
theorem xd22_9 : decode (mj_b 22) 9 = .ok (.if_icmp .ge 20, 3) := by decide +kernel
theorem xd22_12 : decode (mj_b 22) 12 = .ok (.iload_n 1, 1) := by decide +kernel
theorem xd22_13 : decode (mj_b 22) 13 = .ok (.aload_n 0, 1) := by decide +kernel
theorem xd22_14 : decode (mj_b 22) 14 = .ok (.getfield 21, 3) := by decide +kernel
theorem xd22_17 : decode (mj_b 22) 17 = .ok (.iload_n 2, 1) := by decide +kernel
theorem xd22_18 : decode (mj_b 22) 18 = .ok (.invokestatic 46, 3) := by decide +kernel
theorem xd22_21 : decode (mj_b 22) 21 = .ok (.iadd, 1) := by decide +kernel
theorem xd22_22 : decode (mj_b 22) 22 = .ok (.istore_n 1, 1) := by decide +kernel
theorem xd22_23 : decode (mj_b 22) 23 = .ok (.iinc 2 1, 3) := by decide +kernel
theorem xd22_26 : decode (mj_b 22) 26 = .ok (.goto (-22), 3) := by decide +kernel
theorem xd22_29 : decode (mj_b 22) 29 = .ok (.iload_n 1, 1) := by decide +kernel
theorem xd22_30 : decode (mj_b 22) 30 = .ok (.ireturn, 1) := by decide +kernel
theorem x22_0 : wp Ln xs 22 0 [.ref 2, mj_hole, mj_hole] [] (u, ml_h m lm) Φ = wp Ln xs 22 4 [.ref 2, .int (nI 0), .int (nI 0)] [] (u, ml_h m lm) Φ := (wp_same (S' := [.int (nI 0)]) xd22_0 (Or.inr rfl) rfl).trans ((wp_same (L' := [.ref 2, .int (nI 0), mj_hole]) xd22_1 (Or.inr rfl) rfl).trans ((wp_same (S' := [.int (nI 0)]) xd22_2 (Or.inr rfl) rfl).trans (wp_same (L' := [.ref 2, .int (nI 0), .int (nI 0)]) xd22_3 (Or.inr rfl) rfl)))
theorem x22_4 {x1 : Int32} {x2 : Int32} : wp Ln xs 22 4 [.ref 2, .int x1, .int x2] [] (u, ml_h m lm) Φ = if (m 2 6) ≤ x2 then wp Ln xs 22 29 [.ref 2, .int x1, .int x2] [] (u, ml_h m lm) Φ else wp Ln xs 22 12 [.ref 2, .int x1, .int x2] [] (u, ml_h m lm) Φ := (wp_same xd22_4 (Or.inr rfl) rfl).trans ((wp_same xd22_5 (Or.inr rfl) rfl).trans ((wm_geti xd22_6 rfl (show ml_L[2]? = _ from rfl) rfl (Nat.le_of_ble_eq_true rfl)).trans (wx_icmp xd22_9 rfl rfl ((m 2 6) ≤ x2) mb_ge)))
theorem x22_12 {x1 : Int32} {x2 : Int32} : wp Ln xs 22 12 [.ref 2, .int x1, .int x2] [] (u, ml_h m lm) Φ = wp Ln xs 13 0 [.ref 6, .int x2] [] (u, ml_h m lm) (mk Ln xs 22 18 [.ref 2, .int x1, .int x2] [.int x1] Φ) := (wp_same xd22_12 (Or.inr rfl) rfl).trans ((wp_same xd22_13 (Or.inr rfl) rfl).trans ((wm_getr xd22_14 rfl (show ml_L[2]? = _ from rfl) rfl (Nat.le_of_ble_eq_true rfl)).trans ((wp_same xd22_17 (Or.inr rfl) rfl).trans (wm_cs (As := [.ref 6, .int x2]) (rest := [.int x1]) xd22_18 rfl rfl (Nat.le_of_ble_eq_true rfl) (Nat.le_of_ble_eq_true rfl) (Nat.le_of_ble_eq_true rfl) (Nat.le_of_ble_eq_true rfl)))))
theorem x22_21 {x1 : Int32} {x2 : Int32} {xs0 : Int32} {xs1 : Int32} : wp Ln xs 22 21 [.ref 2, .int x1, .int x2] [.int xs0, .int xs1] (u, ml_h m lm) Φ = wp Ln xs 22 4 [.ref 2, .int (xs1 + xs0), .int (x2 + nI 1)] [] (u, ml_h m lm) Φ := (wp_same xd22_21 (Or.inr rfl) rfl).trans ((wp_same (L' := [.ref 2, .int (xs1 + xs0), .int x2]) xd22_22 (Or.inr rfl) rfl).trans ((wp_same (L' := [.ref 2, .int (xs1 + xs0), .int (x2 + nI 1)]) xd22_23 (Or.inr rfl) rfl).trans (wx_goto xd22_26 rfl)))
theorem x22_29 {x1 : Int32} {x2 : Int32} : wp Ln xs 22 29 [.ref 2, .int x1, .int x2] [] (u, ml_h m lm) Φ = Φ (.inl (some (.int x1))) (u, ml_h m lm) := (wp_same xd22_29 (Or.inr rfl) rfl).trans (wp_fin (v := some (.int x1)) xd22_30 (Or.inr rfl) rfl (mj_fin_i rfl))
/- PickedForms$Column.tailLength -/
theorem xd23_0 : decode (mj_b 23) 0 = .ok (.aload_n 0, 1) := by decide +kernel
theorem xd23_1 : decode (mj_b 23) 1 = .ok (.getfield 27, 3) := by decide +kernel
theorem xd23_4 : decode (mj_b 23) 4 = .ok (.aload_n 0, 1) := by decide +kernel
theorem xd23_5 : decode (mj_b 23) 5 = .ok (.aload_n 0, 1) := by decide +kernel
theorem xd23_6 : decode (mj_b 23) 6 = .ok (.getfield 31, 3) := by decide +kernel
theorem xd23_9 : decode (mj_b 23) 9 = .ok (.invokevirtual 50, 3) := by decide +kernel
theorem xd23_12 : decode (mj_b 23) 12 = .ok (.isub, 1) := by decide +kernel
theorem xd23_13 : decode (mj_b 23) 13 = .ok (.ireturn, 1) := by decide +kernel
theorem x23_0 : wp Ln xs 23 0 [.ref 2] [] (u, ml_h m lm) Φ = wp Ln xs 24 0 [.ref 2, .int (m 2 6), mj_hole, mj_hole] [] (u, ml_h m lm) (mk Ln xs 23 9 [.ref 2] [.int (m 2 5)] Φ) := (wp_same xd23_0 (Or.inr rfl) rfl).trans ((wm_geti xd23_1 rfl (show ml_L[2]? = _ from rfl) rfl (Nat.le_of_ble_eq_true rfl)).trans ((wp_same xd23_4 (Or.inr rfl) rfl).trans ((wp_same xd23_5 (Or.inr rfl) rfl).trans ((wm_geti xd23_6 rfl (show ml_L[2]? = _ from rfl) rfl (Nat.le_of_ble_eq_true rfl)).trans (wm_cv (As := [.int (m 2 6)]) (rest := [.int (m 2 5)]) xd23_9 rfl rfl (show ml_L[2]? = _ from rfl) (Nat.le_of_ble_eq_true rfl) (Nat.le_of_ble_eq_true rfl) (Nat.le_of_ble_eq_true rfl) (Nat.le_of_ble_eq_true rfl))))))
theorem x23_12 {xs0 : Int32} {xs1 : Int32} : wp Ln xs 23 12 [.ref 2] [.int xs0, .int xs1] (u, ml_h m lm) Φ = Φ (.inl (some (.int (xs1 - xs0)))) (u, ml_h m lm) := (wp_same xd23_12 (Or.inr rfl) rfl).trans (wp_fin (v := some (.int (xs1 - xs0))) xd23_13 (Or.inr rfl) rfl (mj_fin_i rfl))
/- PickedForms$Column.startOf -/
theorem xd24_0 : decode (mj_b 24) 0 = .ok (.iconst 0, 1) := by decide +kernel
theorem xd24_1 : decode (mj_b 24) 1 = .ok (.istore_n 2, 1) := by decide +kernel
theorem xd24_2 : decode (mj_b 24) 2 = .ok (.iconst 0, 1) := by decide +kernel
theorem xd24_3 : decode (mj_b 24) 3 = .ok (.istore_n 3, 1) := by decide +kernel
theorem xd24_4 : decode (mj_b 24) 4 = .ok (.iload_n 3, 1) := by decide +kernel
theorem xd24_5 : decode (mj_b 24) 5 = .ok (.iload_n 1, 1) := by decide +kernel
theorem xd24_6 : decode (mj_b 24) 6 = .ok (.if_icmp .ge 20, 3) := by decide +kernel
theorem xd24_9 : decode (mj_b 24) 9 = .ok (.iload_n 2, 1) := by decide +kernel
theorem xd24_10 : decode (mj_b 24) 10 = .ok (.aload_n 0, 1) := by decide +kernel
theorem xd24_11 : decode (mj_b 24) 11 = .ok (.getfield 15, 3) := by decide +kernel
theorem xd24_14 : decode (mj_b 24) 14 = .ok (.iload_n 3, 1) := by decide +kernel
theorem xd24_15 : decode (mj_b 24) 15 = .ok (.invokestatic 46, 3) := by decide +kernel
theorem xd24_18 : decode (mj_b 24) 18 = .ok (.iadd, 1) := by decide +kernel
theorem xd24_19 : decode (mj_b 24) 19 = .ok (.istore_n 2, 1) := by decide +kernel
theorem xd24_20 : decode (mj_b 24) 20 = .ok (.iinc 3 1, 3) := by decide +kernel
theorem xd24_23 : decode (mj_b 24) 23 = .ok (.goto (-19), 3) := by decide +kernel
theorem xd24_26 : decode (mj_b 24) 26 = .ok (.iload_n 2, 1) := by decide +kernel
theorem xd24_27 : decode (mj_b 24) 27 = .ok (.ireturn, 1) := by decide +kernel
theorem x24_0 {x1 : Int32} : wp Ln xs 24 0 [.ref 2, .int x1, mj_hole, mj_hole] [] (u, ml_h m lm) Φ = wp Ln xs 24 4 [.ref 2, .int x1, .int (nI 0), .int (nI 0)] [] (u, ml_h m lm) Φ := (wp_same (S' := [.int (nI 0)]) xd24_0 (Or.inr rfl) rfl).trans ((wp_same (L' := [.ref 2, .int x1, .int (nI 0), mj_hole]) xd24_1 (Or.inr rfl) rfl).trans ((wp_same (S' := [.int (nI 0)]) xd24_2 (Or.inr rfl) rfl).trans (wp_same (L' := [.ref 2, .int x1, .int (nI 0), .int (nI 0)]) xd24_3 (Or.inr rfl) rfl)))
theorem x24_4 {x1 : Int32} {x2 : Int32} {x3 : Int32} : wp Ln xs 24 4 [.ref 2, .int x1, .int x2, .int x3] [] (u, ml_h m lm) Φ = if x1 ≤ x3 then wp Ln xs 24 26 [.ref 2, .int x1, .int x2, .int x3] [] (u, ml_h m lm) Φ else wp Ln xs 24 9 [.ref 2, .int x1, .int x2, .int x3] [] (u, ml_h m lm) Φ := (wp_same xd24_4 (Or.inr rfl) rfl).trans ((wp_same xd24_5 (Or.inr rfl) rfl).trans (wx_icmp xd24_6 rfl rfl (x1 ≤ x3) mb_ge))
theorem x24_9 {x1 : Int32} {x2 : Int32} {x3 : Int32} : wp Ln xs 24 9 [.ref 2, .int x1, .int x2, .int x3] [] (u, ml_h m lm) Φ = wp Ln xs 13 0 [.ref 4, .int x3] [] (u, ml_h m lm) (mk Ln xs 24 15 [.ref 2, .int x1, .int x2, .int x3] [.int x2] Φ) := (wp_same xd24_9 (Or.inr rfl) rfl).trans ((wp_same xd24_10 (Or.inr rfl) rfl).trans ((wm_getr xd24_11 rfl (show ml_L[2]? = _ from rfl) rfl (Nat.le_of_ble_eq_true rfl)).trans ((wp_same xd24_14 (Or.inr rfl) rfl).trans (wm_cs (As := [.ref 4, .int x3]) (rest := [.int x2]) xd24_15 rfl rfl (Nat.le_of_ble_eq_true rfl) (Nat.le_of_ble_eq_true rfl) (Nat.le_of_ble_eq_true rfl) (Nat.le_of_ble_eq_true rfl)))))
theorem x24_18 {x1 : Int32} {x2 : Int32} {x3 : Int32} {xs0 : Int32} {xs1 : Int32} : wp Ln xs 24 18 [.ref 2, .int x1, .int x2, .int x3] [.int xs0, .int xs1] (u, ml_h m lm) Φ = wp Ln xs 24 4 [.ref 2, .int x1, .int (xs1 + xs0), .int (x3 + nI 1)] [] (u, ml_h m lm) Φ := (wp_same xd24_18 (Or.inr rfl) rfl).trans ((wp_same (L' := [.ref 2, .int x1, .int (xs1 + xs0), .int x3]) xd24_19 (Or.inr rfl) rfl).trans ((wp_same (L' := [.ref 2, .int x1, .int (xs1 + xs0), .int (x3 + nI 1)]) xd24_20 (Or.inr rfl) rfl).trans (wx_goto xd24_23 rfl)))
theorem x24_26 {x1 : Int32} {x2 : Int32} {x3 : Int32} : wp Ln xs 24 26 [.ref 2, .int x1, .int x2, .int x3] [] (u, ml_h m lm) Φ = Φ (.inl (some (.int x2))) (u, ml_h m lm) := (wp_same xd24_26 (Or.inr rfl) rfl).trans (wp_fin (v := some (.int x2)) xd24_27 (Or.inr rfl) rfl (mj_fin_i rfl))
/- PickedForms.meanBits -/
theorem xd25_0 : decode (mj_b 25) 0 = .ok (.aload_n 0, 1) := by decide +kernel
theorem xd25_1 : decode (mj_b 25) 1 = .ok (.getfield 12, 3) := by decide +kernel
theorem xd25_4 : decode (mj_b 25) 4 = .ok (.getfield 104, 3) := by decide +kernel
theorem xd25_7 : decode (mj_b 25) 7 = .ok (.ifCond .ne 5, 3) := by decide +kernel
theorem xd25_10 : decode (mj_b 25) 10 = .ok (.fconst 0, 1) := by decide +kernel
theorem xd25_11 : decode (mj_b 25) 11 = .ok (.freturn, 1) := by decide +kernel
theorem xd25_12 : decode (mj_b 25) 12 = .ok (.aload_n 0, 1) := by decide +kernel
theorem xd25_13 : decode (mj_b 25) 13 = .ok (.invokevirtual 314, 3) := by decide +kernel
theorem xd25_16 : decode (mj_b 25) 16 = .ok (.i2f, 1) := by decide +kernel
theorem xd25_17 : decode (mj_b 25) 17 = .ok (.aload_n 0, 1) := by decide +kernel
theorem xd25_18 : decode (mj_b 25) 18 = .ok (.getfield 12, 3) := by decide +kernel
theorem xd25_21 : decode (mj_b 25) 21 = .ok (.getfield 104, 3) := by decide +kernel
theorem xd25_24 : decode (mj_b 25) 24 = .ok (.i2f, 1) := by decide +kernel
theorem xd25_25 : decode (mj_b 25) 25 = .ok (.fdiv, 1) := by decide +kernel
theorem xd25_26 : decode (mj_b 25) 26 = .ok (.freturn, 1) := by decide +kernel
theorem x25_0 : wp Ln xs 25 0 [.ref 1] [] (u, ml_h m lm) Φ = if ¬ (m 2 5) = (nI 0) then wp Ln xs 25 12 [.ref 1] [] (u, ml_h m lm) Φ else wp Ln xs 25 10 [.ref 1] [] (u, ml_h m lm) Φ := (wp_same xd25_0 (Or.inr rfl) rfl).trans ((wm_getr xd25_1 rfl (show ml_L[1]? = _ from rfl) rfl (Nat.le_of_ble_eq_true rfl)).trans ((wm_geti xd25_4 rfl (show ml_L[2]? = _ from rfl) rfl (Nat.le_of_ble_eq_true rfl)).trans (wx_if xd25_7 rfl rfl (¬ (m 2 5) = (nI 0)) mb_ne)))
theorem x25_10 : wp Ln xs 25 10 [.ref 1] [] (u, ml_h m lm) Φ = Φ (.inl (some (.float FP.fconst0))) (u, ml_h m lm) := (wp_same xd25_10 (Or.inr rfl) rfl).trans (wp_fin (v := some (.float FP.fconst0)) xd25_11 (Or.inr rfl) rfl rfl)
theorem x25_12 : wp Ln xs 25 12 [.ref 1] [] (u, ml_h m lm) Φ = wp Ln xs 21 0 [.ref 1] [] (u, ml_h m lm) (mk Ln xs 25 13 [.ref 1] [] Φ) := (wp_same xd25_12 (Or.inr rfl) rfl).trans (wm_cv (As := []) (rest := []) xd25_13 rfl rfl (show ml_L[1]? = _ from rfl) (Nat.le_of_ble_eq_true rfl) (Nat.le_of_ble_eq_true rfl) (Nat.le_of_ble_eq_true rfl) (Nat.le_of_ble_eq_true rfl))
theorem x25_16 {xs0 : Int32} (hn0 : FP.fdiv (FP.i2f xs0) (FP.i2f (m 2 5)) &&& 0x7fffffff ≤ 0x7f800000) : wp Ln xs 25 16 [.ref 1] [.int xs0] (u, ml_h m lm) Φ = Φ (.inl (some (.float (FP.fdiv (FP.i2f xs0) (FP.i2f (m 2 5)))))) (u, ml_h m lm) := (wp_same xd25_16 (Or.inr rfl) rfl).trans ((wp_same xd25_17 (Or.inr rfl) rfl).trans ((wm_getr xd25_18 rfl (show ml_L[1]? = _ from rfl) rfl (Nat.le_of_ble_eq_true rfl)).trans ((wm_geti xd25_21 rfl (show ml_L[2]? = _ from rfl) rfl (Nat.le_of_ble_eq_true rfl)).trans ((wp_same xd25_24 (Or.inr rfl) rfl).trans ((wx_fdiv xd25_25 hn0).trans (wp_fin (v := some (.float (FP.fdiv (FP.i2f xs0) (FP.i2f (m 2 5))))) xd25_26 (Or.inr rfl) rfl rfl))))))
/- PickedForms.digest -/
theorem xd26_0 : decode (mj_b 26) 0 = .ok (.ldc2_w 319, 3) := by decide +kernel
theorem xd26_3 : decode (mj_b 26) 3 = .ok (.lstore_n 1, 1) := by decide +kernel
theorem xd26_4 : decode (mj_b 26) 4 = .ok (.iconst 0, 1) := by decide +kernel
theorem xd26_5 : decode (mj_b 26) 5 = .ok (.istore_n 3, 1) := by decide +kernel
theorem xd26_6 : decode (mj_b 26) 6 = .ok (.iload_n 3, 1) := by decide +kernel
theorem xd26_7 : decode (mj_b 26) 7 = .ok (.bipush 8, 2) := by decide +kernel
theorem xd26_9 : decode (mj_b 26) 9 = .ok (.if_icmp .gt 20, 3) := by decide +kernel
theorem xd26_12 : decode (mj_b 26) 12 = .ok (.lload_n 1, 1) := by decide +kernel
theorem xd26_13 : decode (mj_b 26) 13 = .ok (.aload_n 0, 1) := by decide +kernel
theorem xd26_14 : decode (mj_b 26) 14 = .ok (.iload_n 3, 1) := by decide +kernel
theorem xd26_15 : decode (mj_b 26) 15 = .ok (.invokevirtual 282, 3) := by decide +kernel
theorem xd26_18 : decode (mj_b 26) 18 = .ok (.i2l, 1) := by decide +kernel
theorem xd26_19 : decode (mj_b 26) 19 = .ok (.invokestatic 321, 3) := by decide +kernel
theorem xd26_22 : decode (mj_b 26) 22 = .ok (.lstore_n 1, 1) := by decide +kernel
theorem xd26_23 : decode (mj_b 26) 23 = .ok (.iinc 3 1, 3) := by decide +kernel
theorem xd26_26 : decode (mj_b 26) 26 = .ok (.goto (-20), 3) := by decide +kernel
theorem xd26_29 : decode (mj_b 26) 29 = .ok (.iconst 0, 1) := by decide +kernel
theorem xd26_30 : decode (mj_b 26) 30 = .ok (.istore_n 3, 1) := by decide +kernel
theorem xd26_31 : decode (mj_b 26) 31 = .ok (.iload_n 3, 1) := by decide +kernel
theorem xd26_32 : decode (mj_b 26) 32 = .ok (.iconst 3, 1) := by decide +kernel
theorem xd26_33 : decode (mj_b 26) 33 = .ok (.if_icmp .ge 23, 3) := by decide +kernel
theorem xd26_36 : decode (mj_b 26) 36 = .ok (.lload_n 1, 1) := by decide +kernel
theorem xd26_37 : decode (mj_b 26) 37 = .ok (.aload_n 0, 1) := by decide +kernel
theorem xd26_38 : decode (mj_b 26) 38 = .ok (.getfield 12, 3) := by decide +kernel
theorem xd26_41 : decode (mj_b 26) 41 = .ok (.iload_n 3, 1) := by decide +kernel
theorem xd26_42 : decode (mj_b 26) 42 = .ok (.invokevirtual 200, 3) := by decide +kernel
theorem xd26_45 : decode (mj_b 26) 45 = .ok (.i2l, 1) := by decide +kernel
theorem xd26_46 : decode (mj_b 26) 46 = .ok (.invokestatic 321, 3) := by decide +kernel
theorem xd26_49 : decode (mj_b 26) 49 = .ok (.lstore_n 1, 1) := by decide +kernel
theorem xd26_50 : decode (mj_b 26) 50 = .ok (.iinc 3 1, 3) := by decide +kernel
theorem xd26_53 : decode (mj_b 26) 53 = .ok (.goto (-22), 3) := by decide +kernel
theorem xd26_56 : decode (mj_b 26) 56 = .ok (.aload_n 0, 1) := by decide +kernel
theorem xd26_57 : decode (mj_b 26) 57 = .ok (.lload_n 1, 1) := by decide +kernel
theorem xd26_58 : decode (mj_b 26) 58 = .ok (.invokevirtual 325, 3) := by decide +kernel
theorem xd26_61 : decode (mj_b 26) 61 = .ok (.lstore_n 1, 1) := by decide +kernel
theorem xd26_62 : decode (mj_b 26) 62 = .ok (.aload_n 0, 1) := by decide +kernel
theorem xd26_63 : decode (mj_b 26) 63 = .ok (.lload_n 1, 1) := by decide +kernel
theorem xd26_64 : decode (mj_b 26) 64 = .ok (.invokevirtual 329, 3) := by decide +kernel
theorem xd26_67 : decode (mj_b 26) 67 = .ok (.lstore_n 1, 1) := by decide +kernel
theorem xd26_68 : decode (mj_b 26) 68 = .ok (.aload_n 0, 1) := by decide +kernel
theorem xd26_69 : decode (mj_b 26) 69 = .ok (.lload_n 1, 1) := by decide +kernel
theorem xd26_70 : decode (mj_b 26) 70 = .ok (.iconst 0, 1) := by decide +kernel
theorem xd26_71 : decode (mj_b 26) 71 = .ok (.bipush 99, 2) := by decide +kernel
theorem xd26_73 : decode (mj_b 26) 73 = .ok (.invokevirtual 332, 3) := by decide +kernel
theorem xd26_76 : decode (mj_b 26) 76 = .ok (.lstore_n 1, 1) := by decide +kernel
theorem xd26_77 : decode (mj_b 26) 77 = .ok (.aload_n 0, 1) := by decide +kernel
theorem xd26_78 : decode (mj_b 26) 78 = .ok (.lload_n 1, 1) := by decide +kernel
theorem xd26_79 : decode (mj_b 26) 79 = .ok (.bipush 100, 2) := by decide +kernel
theorem xd26_81 : decode (mj_b 26) 81 = .ok (.sipush 499, 3) := by decide +kernel
theorem xd26_84 : decode (mj_b 26) 84 = .ok (.invokevirtual 332, 3) := by decide +kernel
theorem xd26_87 : decode (mj_b 26) 87 = .ok (.lstore_n 1, 1) := by decide +kernel
theorem xd26_88 : decode (mj_b 26) 88 = .ok (.aload_n 0, 1) := by decide +kernel
theorem xd26_89 : decode (mj_b 26) 89 = .ok (.lload_n 1, 1) := by decide +kernel
theorem xd26_90 : decode (mj_b 26) 90 = .ok (.iconst 0, 1) := by decide +kernel
theorem xd26_91 : decode (mj_b 26) 91 = .ok (.sipush 999, 3) := by decide +kernel
theorem xd26_94 : decode (mj_b 26) 94 = .ok (.invokevirtual 332, 3) := by decide +kernel
theorem xd26_97 : decode (mj_b 26) 97 = .ok (.lstore_n 1, 1) := by decide +kernel
theorem xd26_98 : decode (mj_b 26) 98 = .ok (.aload_n 0, 1) := by decide +kernel
theorem xd26_99 : decode (mj_b 26) 99 = .ok (.lload_n 1, 1) := by decide +kernel
theorem xd26_100 : decode (mj_b 26) 100 = .ok (.invokevirtual 336, 3) := by decide +kernel
theorem xd26_103 : decode (mj_b 26) 103 = .ok (.lstore_n 1, 1) := by decide +kernel
theorem xd26_104 : decode (mj_b 26) 104 = .ok (.lload_n 1, 1) := by decide +kernel
theorem xd26_105 : decode (mj_b 26) 105 = .ok (.aload_n 0, 1) := by decide +kernel
theorem xd26_106 : decode (mj_b 26) 106 = .ok (.invokevirtual 339, 3) := by decide +kernel
theorem xd26_109 : decode (mj_b 26) 109 = .ok (.invokestatic 343, 3) := by decide +kernel
theorem xd26_112 : decode (mj_b 26) 112 = .ok (.invokestatic 321, 3) := by decide +kernel
theorem xd26_115 : decode (mj_b 26) 115 = .ok (.lstore_n 1, 1) := by decide +kernel
theorem xd26_116 : decode (mj_b 26) 116 = .ok (.lload_n 1, 1) := by decide +kernel
theorem xd26_117 : decode (mj_b 26) 117 = .ok (.aload_n 0, 1) := by decide +kernel
theorem xd26_118 : decode (mj_b 26) 118 = .ok (.invokevirtual 349, 3) := by decide +kernel
theorem xd26_121 : decode (mj_b 26) 121 = .ok (.invokestatic 353, 3) := by decide +kernel
theorem xd26_124 : decode (mj_b 26) 124 = .ok (.i2l, 1) := by decide +kernel
theorem xd26_125 : decode (mj_b 26) 125 = .ok (.invokestatic 321, 3) := by decide +kernel
theorem xd26_128 : decode (mj_b 26) 128 = .ok (.lstore_n 1, 1) := by decide +kernel
theorem xd26_129 : decode (mj_b 26) 129 = .ok (.lload_n 1, 1) := by decide +kernel
theorem xd26_130 : decode (mj_b 26) 130 = .ok (.aload_n 0, 1) := by decide +kernel
theorem xd26_131 : decode (mj_b 26) 131 = .ok (.getfield 19, 3) := by decide +kernel
theorem xd26_134 : decode (mj_b 26) 134 = .ok (.ifCond .eq 7, 3) := by decide +kernel
theorem xd26_137 : decode (mj_b 26) 137 = .ok (.lconst 1, 1) := by decide +kernel
theorem xd26_138 : decode (mj_b 26) 138 = .ok (.goto 4, 3) := by decide +kernel
theorem xd26_141 : decode (mj_b 26) 141 = .ok (.lconst 0, 1) := by decide +kernel
theorem xd26_142 : decode (mj_b 26) 142 = .ok (.invokestatic 321, 3) := by decide +kernel
theorem xd26_145 : decode (mj_b 26) 145 = .ok (.lstore_n 1, 1) := by decide +kernel
theorem xd26_146 : decode (mj_b 26) 146 = .ok (.lload_n 1, 1) := by decide +kernel
theorem xd26_147 : decode (mj_b 26) 147 = .ok (.aload_n 0, 1) := by decide +kernel
theorem xd26_148 : decode (mj_b 26) 148 = .ok (.getfield 33, 3) := by decide +kernel
theorem xd26_151 : decode (mj_b 26) 151 = .ok (.getfield 208, 3) := by decide +kernel
theorem xd26_154 : decode (mj_b 26) 154 = .ok (.i2l, 1) := by decide +kernel
theorem xd26_155 : decode (mj_b 26) 155 = .ok (.invokestatic 321, 3) := by decide +kernel
theorem xd26_158 : decode (mj_b 26) 158 = .ok (.lstore_n 1, 1) := by decide +kernel
theorem xd26_159 : decode (mj_b 26) 159 = .ok (.iconst 0, 1) := by decide +kernel
theorem xd26_160 : decode (mj_b 26) 160 = .ok (.istore_n 3, 1) := by decide +kernel
theorem xd26_161 : decode (mj_b 26) 161 = .ok (.iload_n 3, 1) := by decide +kernel
theorem xd26_162 : decode (mj_b 26) 162 = .ok (.aload_n 0, 1) := by decide +kernel
theorem xd26_163 : decode (mj_b 26) 163 = .ok (.getfield 33, 3) := by decide +kernel
theorem xd26_166 : decode (mj_b 26) 166 = .ok (.getfield 208, 3) := by decide +kernel
theorem xd26_169 : decode (mj_b 26) 169 = .ok (.if_icmp .ge 26, 3) := by decide +kernel
theorem xd26_172 : decode (mj_b 26) 172 = .ok (.lload_n 1, 1) := by decide +kernel
theorem xd26_173 : decode (mj_b 26) 173 = .ok (.aload_n 0, 1) := by decide +kernel
theorem xd26_174 : decode (mj_b 26) 174 = .ok (.getfield 33, 3) := by decide +kernel
theorem xd26_177 : decode (mj_b 26) 177 = .ok (.getfield 357, 3) := by decide +kernel
theorem xd26_180 : decode (mj_b 26) 180 = .ok (.iload_n 3, 1) := by decide +kernel
theorem xd26_181 : decode (mj_b 26) 181 = .ok (.invokestatic 233, 3) := by decide +kernel
theorem xd26_184 : decode (mj_b 26) 184 = .ok (.i2l, 1) := by decide +kernel
theorem xd26_185 : decode (mj_b 26) 185 = .ok (.invokestatic 321, 3) := by decide +kernel
theorem xd26_188 : decode (mj_b 26) 188 = .ok (.lstore_n 1, 1) := by decide +kernel
theorem xd26_189 : decode (mj_b 26) 189 = .ok (.iinc 3 1, 3) := by decide +kernel
theorem xd26_192 : decode (mj_b 26) 192 = .ok (.goto (-31), 3) := by decide +kernel
theorem xd26_195 : decode (mj_b 26) 195 = .ok (.lload_n 1, 1) := by decide +kernel
theorem xd26_196 : decode (mj_b 26) 196 = .ok (.lreturn, 1) := by decide +kernel
theorem x26_0 : wp Ln xs 26 0 [.ref 1, mj_hole, mj_hole, mj_hole] [] (u, ml_h m lm) Φ = wp Ln xs 26 6 [.ref 1, .long 3631, mj_hole, .int (nI 0)] [] (u, ml_h m lm) Φ := (wm_ldc2 (v := .long 3631) xd26_0 rfl rfl).trans ((wp_same (L' := [.ref 1, .long 3631, mj_hole, mj_hole]) xd26_3 (Or.inr rfl) rfl).trans ((wp_same (S' := [.int (nI 0)]) xd26_4 (Or.inr rfl) rfl).trans (wp_same (L' := [.ref 1, .long 3631, mj_hole, .int (nI 0)]) xd26_5 (Or.inr rfl) rfl)))
theorem x26_6 {y1 : Int64} {x3 : Int32} : wp Ln xs 26 6 [.ref 1, .long y1, mj_hole, .int x3] [] (u, ml_h m lm) Φ = if (nI 8) < x3 then wp Ln xs 26 29 [.ref 1, .long y1, mj_hole, .int x3] [] (u, ml_h m lm) Φ else wp Ln xs 26 12 [.ref 1, .long y1, mj_hole, .int x3] [] (u, ml_h m lm) Φ := (wp_same xd26_6 (Or.inr rfl) rfl).trans ((wp_same (S' := [.int (nI 8), .int x3]) xd26_7 (Or.inr rfl) rfl).trans (wx_icmp xd26_9 rfl rfl ((nI 8) < x3) mb_gt))
theorem x26_12 {y1 : Int64} {x3 : Int32} : wp Ln xs 26 12 [.ref 1, .long y1, mj_hole, .int x3] [] (u, ml_h m lm) Φ = wp Ln xs 27 0 [.ref 1, .int x3] [] (u, ml_h m lm) (mk Ln xs 26 15 [.ref 1, .long y1, mj_hole, .int x3] [.long y1] Φ) := (wp_same xd26_12 (Or.inr rfl) rfl).trans ((wp_same xd26_13 (Or.inr rfl) rfl).trans ((wp_same xd26_14 (Or.inr rfl) rfl).trans (wm_cv (As := [.int x3]) (rest := [.long y1]) xd26_15 rfl rfl (show ml_L[1]? = _ from rfl) (Nat.le_of_ble_eq_true rfl) (Nat.le_of_ble_eq_true rfl) (Nat.le_of_ble_eq_true rfl) (Nat.le_of_ble_eq_true rfl))))
theorem x26_18 {y1 : Int64} {x3 : Int32} {xs0 : Int32} {ys1 : Int64} : wp Ln xs 26 18 [.ref 1, .long y1, mj_hole, .int x3] [.int xs0, .long ys1] (u, ml_h m lm) Φ = wp Ln xs 40 0 [.long ys1, mj_hole, .long xs0.toInt64, mj_hole] [] (u, ml_h m lm) (mk Ln xs 26 19 [.ref 1, .long y1, mj_hole, .int x3] [] Φ) := (wp_same xd26_18 (Or.inr rfl) rfl).trans (wm_cs (As := [.long ys1, .long xs0.toInt64]) (rest := []) xd26_19 rfl rfl (Nat.le_of_ble_eq_true rfl) (Nat.le_of_ble_eq_true rfl) (Nat.le_of_ble_eq_true rfl) (Nat.le_of_ble_eq_true rfl))
theorem x26_22 {y1 : Int64} {x3 : Int32} {ys0 : Int64} : wp Ln xs 26 22 [.ref 1, .long y1, mj_hole, .int x3] [.long ys0] (u, ml_h m lm) Φ = wp Ln xs 26 6 [.ref 1, .long ys0, mj_hole, .int (x3 + nI 1)] [] (u, ml_h m lm) Φ := (wp_same (L' := [.ref 1, .long ys0, mj_hole, .int x3]) xd26_22 (Or.inr rfl) rfl).trans ((wp_same (L' := [.ref 1, .long ys0, mj_hole, .int (x3 + nI 1)]) xd26_23 (Or.inr rfl) rfl).trans (wx_goto xd26_26 rfl))
theorem x26_29 {y1 : Int64} {x3 : Int32} : wp Ln xs 26 29 [.ref 1, .long y1, mj_hole, .int x3] [] (u, ml_h m lm) Φ = wp Ln xs 26 31 [.ref 1, .long y1, mj_hole, .int (nI 0)] [] (u, ml_h m lm) Φ := (wp_same (S' := [.int (nI 0)]) xd26_29 (Or.inr rfl) rfl).trans (wp_same (L' := [.ref 1, .long y1, mj_hole, .int (nI 0)]) xd26_30 (Or.inr rfl) rfl)
theorem x26_31 {y1 : Int64} {x3 : Int32} : wp Ln xs 26 31 [.ref 1, .long y1, mj_hole, .int x3] [] (u, ml_h m lm) Φ = if (nI 3) ≤ x3 then wp Ln xs 26 56 [.ref 1, .long y1, mj_hole, .int x3] [] (u, ml_h m lm) Φ else wp Ln xs 26 36 [.ref 1, .long y1, mj_hole, .int x3] [] (u, ml_h m lm) Φ := (wp_same xd26_31 (Or.inr rfl) rfl).trans ((wp_same (S' := [.int (nI 3), .int x3]) xd26_32 (Or.inr rfl) rfl).trans (wx_icmp xd26_33 rfl rfl ((nI 3) ≤ x3) mb_ge))
theorem x26_36 {y1 : Int64} {x3 : Int32} : wp Ln xs 26 36 [.ref 1, .long y1, mj_hole, .int x3] [] (u, ml_h m lm) Φ = wp Ln xs 41 0 [.ref 2, .int x3] [] (u, ml_h m lm) (mk Ln xs 26 42 [.ref 1, .long y1, mj_hole, .int x3] [.long y1] Φ) := (wp_same xd26_36 (Or.inr rfl) rfl).trans ((wp_same xd26_37 (Or.inr rfl) rfl).trans ((wm_getr xd26_38 rfl (show ml_L[1]? = _ from rfl) rfl (Nat.le_of_ble_eq_true rfl)).trans ((wp_same xd26_41 (Or.inr rfl) rfl).trans (wm_cv (As := [.int x3]) (rest := [.long y1]) xd26_42 rfl rfl (show ml_L[2]? = _ from rfl) (Nat.le_of_ble_eq_true rfl) (Nat.le_of_ble_eq_true rfl) (Nat.le_of_ble_eq_true rfl) (Nat.le_of_ble_eq_true rfl)))))
theorem x26_45 {y1 : Int64} {x3 : Int32} {xs0 : Int32} {ys1 : Int64} : wp Ln xs 26 45 [.ref 1, .long y1, mj_hole, .int x3] [.int xs0, .long ys1] (u, ml_h m lm) Φ = wp Ln xs 40 0 [.long ys1, mj_hole, .long xs0.toInt64, mj_hole] [] (u, ml_h m lm) (mk Ln xs 26 46 [.ref 1, .long y1, mj_hole, .int x3] [] Φ) := (wp_same xd26_45 (Or.inr rfl) rfl).trans (wm_cs (As := [.long ys1, .long xs0.toInt64]) (rest := []) xd26_46 rfl rfl (Nat.le_of_ble_eq_true rfl) (Nat.le_of_ble_eq_true rfl) (Nat.le_of_ble_eq_true rfl) (Nat.le_of_ble_eq_true rfl))
theorem x26_49 {y1 : Int64} {x3 : Int32} {ys0 : Int64} : wp Ln xs 26 49 [.ref 1, .long y1, mj_hole, .int x3] [.long ys0] (u, ml_h m lm) Φ = wp Ln xs 26 31 [.ref 1, .long ys0, mj_hole, .int (x3 + nI 1)] [] (u, ml_h m lm) Φ := (wp_same (L' := [.ref 1, .long ys0, mj_hole, .int x3]) xd26_49 (Or.inr rfl) rfl).trans ((wp_same (L' := [.ref 1, .long ys0, mj_hole, .int (x3 + nI 1)]) xd26_50 (Or.inr rfl) rfl).trans (wx_goto xd26_53 rfl))
theorem x26_56 {y1 : Int64} {x3 : Int32} : wp Ln xs 26 56 [.ref 1, .long y1, mj_hole, .int x3] [] (u, ml_h m lm) Φ = wp Ln xs 42 0 [.ref 1, .long y1, mj_hole, mj_hole, mj_hole, mj_hole, mj_hole] [] (u, ml_h m lm) (mk Ln xs 26 58 [.ref 1, .long y1, mj_hole, .int x3] [] Φ) := (wp_same xd26_56 (Or.inr rfl) rfl).trans ((wp_same xd26_57 (Or.inr rfl) rfl).trans (wm_cv (As := [.long y1]) (rest := []) xd26_58 rfl rfl (show ml_L[1]? = _ from rfl) (Nat.le_of_ble_eq_true rfl) (Nat.le_of_ble_eq_true rfl) (Nat.le_of_ble_eq_true rfl) (Nat.le_of_ble_eq_true rfl)))
theorem x26_61 {y1 : Int64} {x3 : Int32} {ys0 : Int64} : wp Ln xs 26 61 [.ref 1, .long y1, mj_hole, .int x3] [.long ys0] (u, ml_h m lm) Φ = wp Ln xs 46 0 [.ref 1, .long ys0, mj_hole, mj_hole, mj_hole, mj_hole, mj_hole] [] (u, ml_h m lm) (mk Ln xs 26 64 [.ref 1, .long ys0, mj_hole, .int x3] [] Φ) := (wp_same (L' := [.ref 1, .long ys0, mj_hole, .int x3]) xd26_61 (Or.inr rfl) rfl).trans ((wp_same xd26_62 (Or.inr rfl) rfl).trans ((wp_same xd26_63 (Or.inr rfl) rfl).trans (wm_cv (As := [.long ys0]) (rest := []) xd26_64 rfl rfl (show ml_L[1]? = _ from rfl) (Nat.le_of_ble_eq_true rfl) (Nat.le_of_ble_eq_true rfl) (Nat.le_of_ble_eq_true rfl) (Nat.le_of_ble_eq_true rfl))))
theorem x26_67 {y1 : Int64} {x3 : Int32} {ys0 : Int64} : wp Ln xs 26 67 [.ref 1, .long y1, mj_hole, .int x3] [.long ys0] (u, ml_h m lm) Φ = wp Ln xs 62 0 [.ref 1, .long ys0, mj_hole, .int (nI 0), .int (nI 99), mj_hole, mj_hole] [] (u, ml_h m lm) (mk Ln xs 26 73 [.ref 1, .long ys0, mj_hole, .int x3] [] Φ) := (wp_same (L' := [.ref 1, .long ys0, mj_hole, .int x3]) xd26_67 (Or.inr rfl) rfl).trans ((wp_same xd26_68 (Or.inr rfl) rfl).trans ((wp_same xd26_69 (Or.inr rfl) rfl).trans ((wp_same (S' := [.int (nI 0), .long ys0, .ref 1]) xd26_70 (Or.inr rfl) rfl).trans ((wp_same (S' := [.int (nI 99), .int (nI 0), .long ys0, .ref 1]) xd26_71 (Or.inr rfl) rfl).trans (wm_cv (As := [.long ys0, .int (nI 0), .int (nI 99)]) (rest := []) xd26_73 rfl rfl (show ml_L[1]? = _ from rfl) (Nat.le_of_ble_eq_true rfl) (Nat.le_of_ble_eq_true rfl) (Nat.le_of_ble_eq_true rfl) (Nat.le_of_ble_eq_true rfl))))))
theorem x26_76 {y1 : Int64} {x3 : Int32} {ys0 : Int64} : wp Ln xs 26 76 [.ref 1, .long y1, mj_hole, .int x3] [.long ys0] (u, ml_h m lm) Φ = wp Ln xs 62 0 [.ref 1, .long ys0, mj_hole, .int (nI 100), .int (nI 499), mj_hole, mj_hole] [] (u, ml_h m lm) (mk Ln xs 26 84 [.ref 1, .long ys0, mj_hole, .int x3] [] Φ) := (wp_same (L' := [.ref 1, .long ys0, mj_hole, .int x3]) xd26_76 (Or.inr rfl) rfl).trans ((wp_same xd26_77 (Or.inr rfl) rfl).trans ((wp_same xd26_78 (Or.inr rfl) rfl).trans ((wp_same (S' := [.int (nI 100), .long ys0, .ref 1]) xd26_79 (Or.inr rfl) rfl).trans ((wp_same (S' := [.int (nI 499), .int (nI 100), .long ys0, .ref 1]) xd26_81 (Or.inr rfl) rfl).trans (wm_cv (As := [.long ys0, .int (nI 100), .int (nI 499)]) (rest := []) xd26_84 rfl rfl (show ml_L[1]? = _ from rfl) (Nat.le_of_ble_eq_true rfl) (Nat.le_of_ble_eq_true rfl) (Nat.le_of_ble_eq_true rfl) (Nat.le_of_ble_eq_true rfl))))))
theorem x26_87 {y1 : Int64} {x3 : Int32} {ys0 : Int64} : wp Ln xs 26 87 [.ref 1, .long y1, mj_hole, .int x3] [.long ys0] (u, ml_h m lm) Φ = wp Ln xs 62 0 [.ref 1, .long ys0, mj_hole, .int (nI 0), .int (nI 999), mj_hole, mj_hole] [] (u, ml_h m lm) (mk Ln xs 26 94 [.ref 1, .long ys0, mj_hole, .int x3] [] Φ) := (wp_same (L' := [.ref 1, .long ys0, mj_hole, .int x3]) xd26_87 (Or.inr rfl) rfl).trans ((wp_same xd26_88 (Or.inr rfl) rfl).trans ((wp_same xd26_89 (Or.inr rfl) rfl).trans ((wp_same (S' := [.int (nI 0), .long ys0, .ref 1]) xd26_90 (Or.inr rfl) rfl).trans ((wp_same (S' := [.int (nI 999), .int (nI 0), .long ys0, .ref 1]) xd26_91 (Or.inr rfl) rfl).trans (wm_cv (As := [.long ys0, .int (nI 0), .int (nI 999)]) (rest := []) xd26_94 rfl rfl (show ml_L[1]? = _ from rfl) (Nat.le_of_ble_eq_true rfl) (Nat.le_of_ble_eq_true rfl) (Nat.le_of_ble_eq_true rfl) (Nat.le_of_ble_eq_true rfl))))))
theorem x26_97 {y1 : Int64} {x3 : Int32} {ys0 : Int64} : wp Ln xs 26 97 [.ref 1, .long y1, mj_hole, .int x3] [.long ys0] (u, ml_h m lm) Φ = wp Ln xs 71 0 [.ref 1, .long ys0, mj_hole, mj_hole, mj_hole, mj_hole, mj_hole] [] (u, ml_h m lm) (mk Ln xs 26 100 [.ref 1, .long ys0, mj_hole, .int x3] [] Φ) := (wp_same (L' := [.ref 1, .long ys0, mj_hole, .int x3]) xd26_97 (Or.inr rfl) rfl).trans ((wp_same xd26_98 (Or.inr rfl) rfl).trans ((wp_same xd26_99 (Or.inr rfl) rfl).trans (wm_cv (As := [.long ys0]) (rest := []) xd26_100 rfl rfl (show ml_L[1]? = _ from rfl) (Nat.le_of_ble_eq_true rfl) (Nat.le_of_ble_eq_true rfl) (Nat.le_of_ble_eq_true rfl) (Nat.le_of_ble_eq_true rfl))))
theorem x26_103 {y1 : Int64} {x3 : Int32} {ys0 : Int64} : wp Ln xs 26 103 [.ref 1, .long y1, mj_hole, .int x3] [.long ys0] (u, ml_h m lm) Φ = wp Ln xs 20 0 [.ref 1] [] (u, ml_h m lm) (mk Ln xs 26 106 [.ref 1, .long ys0, mj_hole, .int x3] [.long ys0] Φ) := (wp_same (L' := [.ref 1, .long ys0, mj_hole, .int x3]) xd26_103 (Or.inr rfl) rfl).trans ((wp_same xd26_104 (Or.inr rfl) rfl).trans ((wp_same xd26_105 (Or.inr rfl) rfl).trans (wm_cv (As := []) (rest := [.long ys0]) xd26_106 rfl rfl (show ml_L[1]? = _ from rfl) (Nat.le_of_ble_eq_true rfl) (Nat.le_of_ble_eq_true rfl) (Nat.le_of_ble_eq_true rfl) (Nat.le_of_ble_eq_true rfl))))
theorem x26_109 {y1 : Int64} {x3 : Int32} {zs0 : UInt64} {ys1 : Int64} : wp Ln xs 26 109 [.ref 1, .long y1, mj_hole, .int x3] [.double zs0, .long ys1] (u, ml_h m lm) Φ = wp Ln xs 79 0 [.double zs0, mj_hole, mj_hole, mj_hole, mj_hole, mj_hole, mj_hole] [] (u, ml_h m lm) (mk Ln xs 26 109 [.ref 1, .long y1, mj_hole, .int x3] [.long ys1] Φ) := wm_cs (As := [.double zs0]) (rest := [.long ys1]) xd26_109 rfl rfl (Nat.le_of_ble_eq_true rfl) (Nat.le_of_ble_eq_true rfl) (Nat.le_of_ble_eq_true rfl) (Nat.le_of_ble_eq_true rfl)
theorem x26_112 {y1 : Int64} {x3 : Int32} {ys0 : Int64} {ys1 : Int64} : wp Ln xs 26 112 [.ref 1, .long y1, mj_hole, .int x3] [.long ys0, .long ys1] (u, ml_h m lm) Φ = wp Ln xs 40 0 [.long ys1, mj_hole, .long ys0, mj_hole] [] (u, ml_h m lm) (mk Ln xs 26 112 [.ref 1, .long y1, mj_hole, .int x3] [] Φ) := wm_cs (As := [.long ys1, .long ys0]) (rest := []) xd26_112 rfl rfl (Nat.le_of_ble_eq_true rfl) (Nat.le_of_ble_eq_true rfl) (Nat.le_of_ble_eq_true rfl) (Nat.le_of_ble_eq_true rfl)
theorem x26_115 {y1 : Int64} {x3 : Int32} {ys0 : Int64} : wp Ln xs 26 115 [.ref 1, .long y1, mj_hole, .int x3] [.long ys0] (u, ml_h m lm) Φ = wp Ln xs 25 0 [.ref 1] [] (u, ml_h m lm) (mk Ln xs 26 118 [.ref 1, .long ys0, mj_hole, .int x3] [.long ys0] Φ) := (wp_same (L' := [.ref 1, .long ys0, mj_hole, .int x3]) xd26_115 (Or.inr rfl) rfl).trans ((wp_same xd26_116 (Or.inr rfl) rfl).trans ((wp_same xd26_117 (Or.inr rfl) rfl).trans (wm_cv (As := []) (rest := [.long ys0]) xd26_118 rfl rfl (show ml_L[1]? = _ from rfl) (Nat.le_of_ble_eq_true rfl) (Nat.le_of_ble_eq_true rfl) (Nat.le_of_ble_eq_true rfl) (Nat.le_of_ble_eq_true rfl))))
theorem x26_121 {y1 : Int64} {x3 : Int32} {zs0 : UInt32} {ys1 : Int64} : wp Ln xs 26 121 [.ref 1, .long y1, mj_hole, .int x3] [.float zs0, .long ys1] (u, ml_h m lm) Φ = wp Ln xs 80 0 [.float zs0, mj_hole, mj_hole, mj_hole] [] (u, ml_h m lm) (mk Ln xs 26 121 [.ref 1, .long y1, mj_hole, .int x3] [.long ys1] Φ) := wm_cs (As := [.float zs0]) (rest := [.long ys1]) xd26_121 rfl rfl (Nat.le_of_ble_eq_true rfl) (Nat.le_of_ble_eq_true rfl) (Nat.le_of_ble_eq_true rfl) (Nat.le_of_ble_eq_true rfl)
theorem x26_124 {y1 : Int64} {x3 : Int32} {xs0 : Int32} {ys1 : Int64} : wp Ln xs 26 124 [.ref 1, .long y1, mj_hole, .int x3] [.int xs0, .long ys1] (u, ml_h m lm) Φ = wp Ln xs 40 0 [.long ys1, mj_hole, .long xs0.toInt64, mj_hole] [] (u, ml_h m lm) (mk Ln xs 26 125 [.ref 1, .long y1, mj_hole, .int x3] [] Φ) := (wp_same xd26_124 (Or.inr rfl) rfl).trans (wm_cs (As := [.long ys1, .long xs0.toInt64]) (rest := []) xd26_125 rfl rfl (Nat.le_of_ble_eq_true rfl) (Nat.le_of_ble_eq_true rfl) (Nat.le_of_ble_eq_true rfl) (Nat.le_of_ble_eq_true rfl))
theorem x26_128 {y1 : Int64} {x3 : Int32} {ys0 : Int64} : wp Ln xs 26 128 [.ref 1, .long y1, mj_hole, .int x3] [.long ys0] (u, ml_h m lm) Φ = if (m 1 2) = (nI 0) then wp Ln xs 26 141 [.ref 1, .long ys0, mj_hole, .int x3] [.long ys0] (u, ml_h m lm) Φ else wp Ln xs 26 137 [.ref 1, .long ys0, mj_hole, .int x3] [.long ys0] (u, ml_h m lm) Φ := (wp_same (L' := [.ref 1, .long ys0, mj_hole, .int x3]) xd26_128 (Or.inr rfl) rfl).trans ((wp_same xd26_129 (Or.inr rfl) rfl).trans ((wp_same xd26_130 (Or.inr rfl) rfl).trans ((wm_geti xd26_131 rfl (show ml_L[1]? = _ from rfl) rfl (Nat.le_of_ble_eq_true rfl)).trans (wx_if xd26_134 rfl rfl ((m 1 2) = (nI 0)) mb_eq))))
theorem x26_137 {y1 : Int64} {x3 : Int32} {ys0 : Int64} : wp Ln xs 26 137 [.ref 1, .long y1, mj_hole, .int x3] [.long ys0] (u, ml_h m lm) Φ = wp Ln xs 26 142 [.ref 1, .long y1, mj_hole, .int x3] [.long 1, .long ys0] (u, ml_h m lm) Φ := (wp_same xd26_137 (Or.inr rfl) rfl).trans (wx_goto xd26_138 rfl)
theorem x26_141 {y1 : Int64} {x3 : Int32} {ys0 : Int64} : wp Ln xs 26 141 [.ref 1, .long y1, mj_hole, .int x3] [.long ys0] (u, ml_h m lm) Φ = wp Ln xs 26 142 [.ref 1, .long y1, mj_hole, .int x3] [.long 0, .long ys0] (u, ml_h m lm) Φ := wp_same xd26_141 (Or.inr rfl) rfl
theorem x26_142 {y1 : Int64} {x3 : Int32} {ys0 : Int64} {ys1 : Int64} : wp Ln xs 26 142 [.ref 1, .long y1, mj_hole, .int x3] [.long ys0, .long ys1] (u, ml_h m lm) Φ = wp Ln xs 40 0 [.long ys1, mj_hole, .long ys0, mj_hole] [] (u, ml_h m lm) (mk Ln xs 26 142 [.ref 1, .long y1, mj_hole, .int x3] [] Φ) := wm_cs (As := [.long ys1, .long ys0]) (rest := []) xd26_142 rfl rfl (Nat.le_of_ble_eq_true rfl) (Nat.le_of_ble_eq_true rfl) (Nat.le_of_ble_eq_true rfl) (Nat.le_of_ble_eq_true rfl)
theorem x26_145 {y1 : Int64} {x3 : Int32} {ys0 : Int64} : wp Ln xs 26 145 [.ref 1, .long y1, mj_hole, .int x3] [.long ys0] (u, ml_h m lm) Φ = wp Ln xs 40 0 [.long ys0, mj_hole, .long ((m 52 1).toInt64), mj_hole] [] (u, ml_h m lm) (mk Ln xs 26 155 [.ref 1, .long ys0, mj_hole, .int x3] [] Φ) := (wp_same (L' := [.ref 1, .long ys0, mj_hole, .int x3]) xd26_145 (Or.inr rfl) rfl).trans ((wp_same xd26_146 (Or.inr rfl) rfl).trans ((wp_same xd26_147 (Or.inr rfl) rfl).trans ((wm_getr xd26_148 rfl (show ml_L[1]? = _ from rfl) rfl (Nat.le_of_ble_eq_true rfl)).trans ((wm_geti xd26_151 rfl (show ml_L[52]? = _ from rfl) rfl (Nat.le_of_ble_eq_true rfl)).trans ((wp_same xd26_154 (Or.inr rfl) rfl).trans (wm_cs (As := [.long ys0, .long ((m 52 1).toInt64)]) (rest := []) xd26_155 rfl rfl (Nat.le_of_ble_eq_true rfl) (Nat.le_of_ble_eq_true rfl) (Nat.le_of_ble_eq_true rfl) (Nat.le_of_ble_eq_true rfl)))))))
theorem x26_158 {y1 : Int64} {x3 : Int32} {ys0 : Int64} : wp Ln xs 26 158 [.ref 1, .long y1, mj_hole, .int x3] [.long ys0] (u, ml_h m lm) Φ = wp Ln xs 26 161 [.ref 1, .long ys0, mj_hole, .int (nI 0)] [] (u, ml_h m lm) Φ := (wp_same (L' := [.ref 1, .long ys0, mj_hole, .int x3]) xd26_158 (Or.inr rfl) rfl).trans ((wp_same (S' := [.int (nI 0)]) xd26_159 (Or.inr rfl) rfl).trans (wp_same (L' := [.ref 1, .long ys0, mj_hole, .int (nI 0)]) xd26_160 (Or.inr rfl) rfl))
theorem x26_161 {y1 : Int64} {x3 : Int32} : wp Ln xs 26 161 [.ref 1, .long y1, mj_hole, .int x3] [] (u, ml_h m lm) Φ = if (m 52 1) ≤ x3 then wp Ln xs 26 195 [.ref 1, .long y1, mj_hole, .int x3] [] (u, ml_h m lm) Φ else wp Ln xs 26 172 [.ref 1, .long y1, mj_hole, .int x3] [] (u, ml_h m lm) Φ := (wp_same xd26_161 (Or.inr rfl) rfl).trans ((wp_same xd26_162 (Or.inr rfl) rfl).trans ((wm_getr xd26_163 rfl (show ml_L[1]? = _ from rfl) rfl (Nat.le_of_ble_eq_true rfl)).trans ((wm_geti xd26_166 rfl (show ml_L[52]? = _ from rfl) rfl (Nat.le_of_ble_eq_true rfl)).trans (wx_icmp xd26_169 rfl rfl ((m 52 1) ≤ x3) mb_ge))))
theorem x26_172 {y1 : Int64} {x3 : Int32} : wp Ln xs 26 172 [.ref 1, .long y1, mj_hole, .int x3] [] (u, ml_h m lm) Φ = wp Ln xs 13 0 [.ref 53, .int x3] [] (u, ml_h m lm) (mk Ln xs 26 181 [.ref 1, .long y1, mj_hole, .int x3] [.long y1] Φ) := (wp_same xd26_172 (Or.inr rfl) rfl).trans ((wp_same xd26_173 (Or.inr rfl) rfl).trans ((wm_getr xd26_174 rfl (show ml_L[1]? = _ from rfl) rfl (Nat.le_of_ble_eq_true rfl)).trans ((wm_getr xd26_177 rfl (show ml_L[52]? = _ from rfl) rfl (Nat.le_of_ble_eq_true rfl)).trans ((wp_same xd26_180 (Or.inr rfl) rfl).trans (wm_cs (As := [.ref 53, .int x3]) (rest := [.long y1]) xd26_181 rfl rfl (Nat.le_of_ble_eq_true rfl) (Nat.le_of_ble_eq_true rfl) (Nat.le_of_ble_eq_true rfl) (Nat.le_of_ble_eq_true rfl))))))
theorem x26_184 {y1 : Int64} {x3 : Int32} {xs0 : Int32} {ys1 : Int64} : wp Ln xs 26 184 [.ref 1, .long y1, mj_hole, .int x3] [.int xs0, .long ys1] (u, ml_h m lm) Φ = wp Ln xs 40 0 [.long ys1, mj_hole, .long xs0.toInt64, mj_hole] [] (u, ml_h m lm) (mk Ln xs 26 185 [.ref 1, .long y1, mj_hole, .int x3] [] Φ) := (wp_same xd26_184 (Or.inr rfl) rfl).trans (wm_cs (As := [.long ys1, .long xs0.toInt64]) (rest := []) xd26_185 rfl rfl (Nat.le_of_ble_eq_true rfl) (Nat.le_of_ble_eq_true rfl) (Nat.le_of_ble_eq_true rfl) (Nat.le_of_ble_eq_true rfl))
theorem x26_188 {y1 : Int64} {x3 : Int32} {ys0 : Int64} : wp Ln xs 26 188 [.ref 1, .long y1, mj_hole, .int x3] [.long ys0] (u, ml_h m lm) Φ = wp Ln xs 26 161 [.ref 1, .long ys0, mj_hole, .int (x3 + nI 1)] [] (u, ml_h m lm) Φ := (wp_same (L' := [.ref 1, .long ys0, mj_hole, .int x3]) xd26_188 (Or.inr rfl) rfl).trans ((wp_same (L' := [.ref 1, .long ys0, mj_hole, .int (x3 + nI 1)]) xd26_189 (Or.inr rfl) rfl).trans (wx_goto xd26_192 rfl))
theorem x26_195 {y1 : Int64} {x3 : Int32} : wp Ln xs 26 195 [.ref 1, .long y1, mj_hole, .int x3] [] (u, ml_h m lm) Φ = Φ (.inl (some (.long y1))) (u, ml_h m lm) := (wp_same xd26_195 (Or.inr rfl) rfl).trans (wp_fin (v := some (.long y1)) xd26_196 (Or.inr rfl) rfl rfl)
/- PickedForms.countNumber -/
theorem xd27_0 : decode (mj_b 27) 0 = .ok (.iload_n 1, 1) := by decide +kernel
theorem xd27_1 : decode (mj_b 27) 1 = .ok (.tableswitch 113 0 7 #[47, 55, 63, 71, 76, 84, 92, 105], 47) := by decide +kernel
theorem xd27_48 : decode (mj_b 27) 48 = .ok (.aload_n 0, 1) := by decide +kernel
theorem xd27_49 : decode (mj_b 27) 49 = .ok (.getfield 12, 3) := by decide +kernel
theorem xd27_52 : decode (mj_b 27) 52 = .ok (.getfield 104, 3) := by decide +kernel
theorem xd27_55 : decode (mj_b 27) 55 = .ok (.ireturn, 1) := by decide +kernel
theorem xd27_56 : decode (mj_b 27) 56 = .ok (.aload_n 0, 1) := by decide +kernel
theorem xd27_57 : decode (mj_b 27) 57 = .ok (.getfield 12, 3) := by decide +kernel
theorem xd27_60 : decode (mj_b 27) 60 = .ok (.getfield 112, 3) := by decide +kernel
theorem xd27_63 : decode (mj_b 27) 63 = .ok (.ireturn, 1) := by decide +kernel
theorem xd27_64 : decode (mj_b 27) 64 = .ok (.aload_n 0, 1) := by decide +kernel
theorem xd27_65 : decode (mj_b 27) 65 = .ok (.getfield 12, 3) := by decide +kernel
theorem xd27_68 : decode (mj_b 27) 68 = .ok (.invokevirtual 108, 3) := by decide +kernel
theorem xd27_71 : decode (mj_b 27) 71 = .ok (.ireturn, 1) := by decide +kernel
theorem xd27_72 : decode (mj_b 27) 72 = .ok (.aload_n 0, 1) := by decide +kernel
theorem xd27_73 : decode (mj_b 27) 73 = .ok (.invokevirtual 314, 3) := by decide +kernel
theorem xd27_76 : decode (mj_b 27) 76 = .ok (.ireturn, 1) := by decide +kernel
theorem xd27_77 : decode (mj_b 27) 77 = .ok (.aload_n 0, 1) := by decide +kernel
theorem xd27_78 : decode (mj_b 27) 78 = .ok (.getfield 12, 3) := by decide +kernel
theorem xd27_81 : decode (mj_b 27) 81 = .ok (.getfield 148, 3) := by decide +kernel
theorem xd27_84 : decode (mj_b 27) 84 = .ok (.ireturn, 1) := by decide +kernel
theorem xd27_85 : decode (mj_b 27) 85 = .ok (.aload_n 0, 1) := by decide +kernel
theorem xd27_86 : decode (mj_b 27) 86 = .ok (.getfield 12, 3) := by decide +kernel
theorem xd27_89 : decode (mj_b 27) 89 = .ok (.getfield 376, 3) := by decide +kernel
theorem xd27_92 : decode (mj_b 27) 92 = .ok (.ireturn, 1) := by decide +kernel
theorem xd27_93 : decode (mj_b 27) 93 = .ok (.aload_n 0, 1) := by decide +kernel
theorem xd27_94 : decode (mj_b 27) 94 = .ok (.getfield 12, 3) := by decide +kernel
theorem xd27_97 : decode (mj_b 27) 97 = .ok (.invokevirtual 401, 3) := by decide +kernel
theorem xd27_100 : decode (mj_b 27) 100 = .ok (.aload_n 0, 1) := by decide +kernel
theorem xd27_101 : decode (mj_b 27) 101 = .ok (.invokevirtual 404, 3) := by decide +kernel
theorem xd27_104 : decode (mj_b 27) 104 = .ok (.isub, 1) := by decide +kernel
theorem xd27_105 : decode (mj_b 27) 105 = .ok (.ireturn, 1) := by decide +kernel
theorem xd27_106 : decode (mj_b 27) 106 = .ok (.aload_n 0, 1) := by decide +kernel
theorem xd27_107 : decode (mj_b 27) 107 = .ok (.getfield 12, 3) := by decide +kernel
theorem xd27_110 : decode (mj_b 27) 110 = .ok (.invokevirtual 407, 3) := by decide +kernel
theorem xd27_113 : decode (mj_b 27) 113 = .ok (.ireturn, 1) := by decide +kernel
theorem xd27_114 : decode (mj_b 27) 114 = .ok (.aload_n 0, 1) := by decide +kernel
theorem xd27_115 : decode (mj_b 27) 115 = .ok (.getfield 26, 3) := by decide +kernel
theorem xd27_118 : decode (mj_b 27) 118 = .ok (.getfield 245, 3) := by decide +kernel
theorem xd27_121 : decode (mj_b 27) 121 = .ok (.ireturn, 1) := by decide +kernel
theorem x27_0 {x1 : Int32} : wp Ln xs 27 0 [.ref 1, .int x1] [] (u, ml_h m lm) Φ = wp Ln xs 27 1 [.ref 1, .int x1] [.int x1] (u, ml_h m lm) Φ := wp_same xd27_0 (Or.inr rfl) rfl
theorem x27_1_0 {x1 : Int32} : wp Ln xs 27 1 [.ref 1, .int x1] [.int (nI 0)] (u, ml_h m lm) Φ = wp Ln xs 27 48 [.ref 1, .int x1] [] (u, ml_h m lm) Φ := wp_same xd27_1 (Or.inl rfl) rfl
theorem x27_1_1 {x1 : Int32} : wp Ln xs 27 1 [.ref 1, .int x1] [.int (nI 1)] (u, ml_h m lm) Φ = wp Ln xs 27 56 [.ref 1, .int x1] [] (u, ml_h m lm) Φ := wp_same xd27_1 (Or.inl rfl) rfl
theorem x27_1_2 {x1 : Int32} : wp Ln xs 27 1 [.ref 1, .int x1] [.int (nI 2)] (u, ml_h m lm) Φ = wp Ln xs 27 64 [.ref 1, .int x1] [] (u, ml_h m lm) Φ := wp_same xd27_1 (Or.inl rfl) rfl
theorem x27_1_3 {x1 : Int32} : wp Ln xs 27 1 [.ref 1, .int x1] [.int (nI 3)] (u, ml_h m lm) Φ = wp Ln xs 27 72 [.ref 1, .int x1] [] (u, ml_h m lm) Φ := wp_same xd27_1 (Or.inl rfl) rfl
theorem x27_1_4 {x1 : Int32} : wp Ln xs 27 1 [.ref 1, .int x1] [.int (nI 4)] (u, ml_h m lm) Φ = wp Ln xs 27 77 [.ref 1, .int x1] [] (u, ml_h m lm) Φ := wp_same xd27_1 (Or.inl rfl) rfl
theorem x27_1_5 {x1 : Int32} : wp Ln xs 27 1 [.ref 1, .int x1] [.int (nI 5)] (u, ml_h m lm) Φ = wp Ln xs 27 85 [.ref 1, .int x1] [] (u, ml_h m lm) Φ := wp_same xd27_1 (Or.inl rfl) rfl
theorem x27_1_6 {x1 : Int32} : wp Ln xs 27 1 [.ref 1, .int x1] [.int (nI 6)] (u, ml_h m lm) Φ = wp Ln xs 27 93 [.ref 1, .int x1] [] (u, ml_h m lm) Φ := wp_same xd27_1 (Or.inl rfl) rfl
theorem x27_1_7 {x1 : Int32} : wp Ln xs 27 1 [.ref 1, .int x1] [.int (nI 7)] (u, ml_h m lm) Φ = wp Ln xs 27 106 [.ref 1, .int x1] [] (u, ml_h m lm) Φ := wp_same xd27_1 (Or.inl rfl) rfl
theorem x27_1_8 {x1 : Int32} : wp Ln xs 27 1 [.ref 1, .int x1] [.int (nI 8)] (u, ml_h m lm) Φ = wp Ln xs 27 114 [.ref 1, .int x1] [] (u, ml_h m lm) Φ := wp_same xd27_1 (Or.inl rfl) rfl
theorem x27_1_9 {x1 : Int32} : wp Ln xs 27 1 [.ref 1, .int x1] [.int (nI 9)] (u, ml_h m lm) Φ = wp Ln xs 27 114 [.ref 1, .int x1] [] (u, ml_h m lm) Φ := wp_same xd27_1 (Or.inl rfl) rfl
theorem x27_1_10 {x1 : Int32} : wp Ln xs 27 1 [.ref 1, .int x1] [.int (nI 10)] (u, ml_h m lm) Φ = wp Ln xs 27 114 [.ref 1, .int x1] [] (u, ml_h m lm) Φ := wp_same xd27_1 (Or.inl rfl) rfl
theorem x27_48 {x1 : Int32} : wp Ln xs 27 48 [.ref 1, .int x1] [] (u, ml_h m lm) Φ = Φ (.inl (some (.int (m 2 5)))) (u, ml_h m lm) := (wp_same xd27_48 (Or.inr rfl) rfl).trans ((wm_getr xd27_49 rfl (show ml_L[1]? = _ from rfl) rfl (Nat.le_of_ble_eq_true rfl)).trans ((wm_geti xd27_52 rfl (show ml_L[2]? = _ from rfl) rfl (Nat.le_of_ble_eq_true rfl)).trans (wp_fin (v := some (.int (m 2 5))) xd27_55 (Or.inr rfl) rfl (mj_fin_i rfl))))
theorem x27_56 {x1 : Int32} : wp Ln xs 27 56 [.ref 1, .int x1] [] (u, ml_h m lm) Φ = Φ (.inl (some (.int (m 2 6)))) (u, ml_h m lm) := (wp_same xd27_56 (Or.inr rfl) rfl).trans ((wm_getr xd27_57 rfl (show ml_L[1]? = _ from rfl) rfl (Nat.le_of_ble_eq_true rfl)).trans ((wm_geti xd27_60 rfl (show ml_L[2]? = _ from rfl) rfl (Nat.le_of_ble_eq_true rfl)).trans (wp_fin (v := some (.int (m 2 6))) xd27_63 (Or.inr rfl) rfl (mj_fin_i rfl))))
theorem x27_64 {x1 : Int32} : wp Ln xs 27 64 [.ref 1, .int x1] [] (u, ml_h m lm) Φ = wp Ln xs 23 0 [.ref 2] [] (u, ml_h m lm) (mk Ln xs 27 68 [.ref 1, .int x1] [] Φ) := (wp_same xd27_64 (Or.inr rfl) rfl).trans ((wm_getr xd27_65 rfl (show ml_L[1]? = _ from rfl) rfl (Nat.le_of_ble_eq_true rfl)).trans (wm_cv (As := []) (rest := []) xd27_68 rfl rfl (show ml_L[2]? = _ from rfl) (Nat.le_of_ble_eq_true rfl) (Nat.le_of_ble_eq_true rfl) (Nat.le_of_ble_eq_true rfl) (Nat.le_of_ble_eq_true rfl)))
theorem x27_71 {x1 : Int32} {xs0 : Int32} : wp Ln xs 27 71 [.ref 1, .int x1] [.int xs0] (u, ml_h m lm) Φ = Φ (.inl (some (.int xs0))) (u, ml_h m lm) := wp_fin (v := some (.int xs0)) xd27_71 (Or.inr rfl) rfl (mj_fin_i rfl)
theorem x27_72 {x1 : Int32} : wp Ln xs 27 72 [.ref 1, .int x1] [] (u, ml_h m lm) Φ = wp Ln xs 21 0 [.ref 1] [] (u, ml_h m lm) (mk Ln xs 27 73 [.ref 1, .int x1] [] Φ) := (wp_same xd27_72 (Or.inr rfl) rfl).trans (wm_cv (As := []) (rest := []) xd27_73 rfl rfl (show ml_L[1]? = _ from rfl) (Nat.le_of_ble_eq_true rfl) (Nat.le_of_ble_eq_true rfl) (Nat.le_of_ble_eq_true rfl) (Nat.le_of_ble_eq_true rfl))
theorem x27_76 {x1 : Int32} {xs0 : Int32} : wp Ln xs 27 76 [.ref 1, .int x1] [.int xs0] (u, ml_h m lm) Φ = Φ (.inl (some (.int xs0))) (u, ml_h m lm) := wp_fin (v := some (.int xs0)) xd27_76 (Or.inr rfl) rfl (mj_fin_i rfl)
theorem x27_77 {x1 : Int32} : wp Ln xs 27 77 [.ref 1, .int x1] [] (u, ml_h m lm) Φ = Φ (.inl (some (.int (m 2 7)))) (u, ml_h m lm) := (wp_same xd27_77 (Or.inr rfl) rfl).trans ((wm_getr xd27_78 rfl (show ml_L[1]? = _ from rfl) rfl (Nat.le_of_ble_eq_true rfl)).trans ((wm_geti xd27_81 rfl (show ml_L[2]? = _ from rfl) rfl (Nat.le_of_ble_eq_true rfl)).trans (wp_fin (v := some (.int (m 2 7))) xd27_84 (Or.inr rfl) rfl (mj_fin_i rfl))))
theorem x27_85 {x1 : Int32} : wp Ln xs 27 85 [.ref 1, .int x1] [] (u, ml_h m lm) Φ = Φ (.inl (some (.int (m 2 8)))) (u, ml_h m lm) := (wp_same xd27_85 (Or.inr rfl) rfl).trans ((wm_getr xd27_86 rfl (show ml_L[1]? = _ from rfl) rfl (Nat.le_of_ble_eq_true rfl)).trans ((wm_geti xd27_89 rfl (show ml_L[2]? = _ from rfl) rfl (Nat.le_of_ble_eq_true rfl)).trans (wp_fin (v := some (.int (m 2 8))) xd27_92 (Or.inr rfl) rfl (mj_fin_i rfl))))
theorem x27_93 {x1 : Int32} : wp Ln xs 27 93 [.ref 1, .int x1] [] (u, ml_h m lm) Φ = wp Ln xs 22 0 [.ref 2, mj_hole, mj_hole] [] (u, ml_h m lm) (mk Ln xs 27 97 [.ref 1, .int x1] [] Φ) := (wp_same xd27_93 (Or.inr rfl) rfl).trans ((wm_getr xd27_94 rfl (show ml_L[1]? = _ from rfl) rfl (Nat.le_of_ble_eq_true rfl)).trans (wm_cv (As := []) (rest := []) xd27_97 rfl rfl (show ml_L[2]? = _ from rfl) (Nat.le_of_ble_eq_true rfl) (Nat.le_of_ble_eq_true rfl) (Nat.le_of_ble_eq_true rfl) (Nat.le_of_ble_eq_true rfl)))
theorem x27_100 {x1 : Int32} {xs0 : Int32} : wp Ln xs 27 100 [.ref 1, .int x1] [.int xs0] (u, ml_h m lm) Φ = wp Ln xs 28 0 [.ref 1, mj_hole, mj_hole] [] (u, ml_h m lm) (mk Ln xs 27 101 [.ref 1, .int x1] [.int xs0] Φ) := (wp_same xd27_100 (Or.inr rfl) rfl).trans (wm_cv (As := []) (rest := [.int xs0]) xd27_101 rfl rfl (show ml_L[1]? = _ from rfl) (Nat.le_of_ble_eq_true rfl) (Nat.le_of_ble_eq_true rfl) (Nat.le_of_ble_eq_true rfl) (Nat.le_of_ble_eq_true rfl))
theorem x27_104 {x1 : Int32} {xs0 : Int32} {xs1 : Int32} : wp Ln xs 27 104 [.ref 1, .int x1] [.int xs0, .int xs1] (u, ml_h m lm) Φ = Φ (.inl (some (.int (xs1 - xs0)))) (u, ml_h m lm) := (wp_same xd27_104 (Or.inr rfl) rfl).trans (wp_fin (v := some (.int (xs1 - xs0))) xd27_105 (Or.inr rfl) rfl (mj_fin_i rfl))
theorem x27_106 {x1 : Int32} : wp Ln xs 27 106 [.ref 1, .int x1] [] (u, ml_h m lm) Φ = wp Ln xs 39 0 [.ref 2, mj_hole, mj_hole] [] (u, ml_h m lm) (mk Ln xs 27 110 [.ref 1, .int x1] [] Φ) := (wp_same xd27_106 (Or.inr rfl) rfl).trans ((wm_getr xd27_107 rfl (show ml_L[1]? = _ from rfl) rfl (Nat.le_of_ble_eq_true rfl)).trans (wm_cv (As := []) (rest := []) xd27_110 rfl rfl (show ml_L[2]? = _ from rfl) (Nat.le_of_ble_eq_true rfl) (Nat.le_of_ble_eq_true rfl) (Nat.le_of_ble_eq_true rfl) (Nat.le_of_ble_eq_true rfl)))
theorem x27_113 {x1 : Int32} {xs0 : Int32} : wp Ln xs 27 113 [.ref 1, .int x1] [.int xs0] (u, ml_h m lm) Φ = Φ (.inl (some (.int xs0))) (u, ml_h m lm) := wp_fin (v := some (.int xs0)) xd27_113 (Or.inr rfl) rfl (mj_fin_i rfl)
theorem x27_114 {x1 : Int32} : wp Ln xs 27 114 [.ref 1, .int x1] [] (u, ml_h m lm) Φ = Φ (.inl (some (.int (m 14 2)))) (u, ml_h m lm) := (wp_same xd27_114 (Or.inr rfl) rfl).trans ((wm_getr xd27_115 rfl (show ml_L[1]? = _ from rfl) rfl (Nat.le_of_ble_eq_true rfl)).trans ((wm_geti xd27_118 rfl (show ml_L[14]? = _ from rfl) rfl (Nat.le_of_ble_eq_true rfl)).trans (wp_fin (v := some (.int (m 14 2))) xd27_121 (Or.inr rfl) rfl (mj_fin_i rfl))))
/- PickedForms.usedBits -/
theorem xd28_0 : decode (mj_b 28) 0 = .ok (.iconst 0, 1) := by decide +kernel
theorem xd28_1 : decode (mj_b 28) 1 = .ok (.istore_n 1, 1) := by decide +kernel
theorem xd28_2 : decode (mj_b 28) 2 = .ok (.iconst 0, 1) := by decide +kernel
theorem xd28_3 : decode (mj_b 28) 3 = .ok (.istore_n 2, 1) := by decide +kernel
theorem xd28_4 : decode (mj_b 28) 4 = .ok (.iload_n 2, 1) := by decide +kernel
theorem xd28_5 : decode (mj_b 28) 5 = .ok (.aload_n 0, 1) := by decide +kernel
theorem xd28_6 : decode (mj_b 28) 6 = .ok (.getfield 12, 3) := by decide +kernel
theorem xd28_9 : decode (mj_b 28) 9 = .ok (.getfield 112, 3) := by decide +kernel
theorem xd28_12 : decode (mj_b 28) 12 = .ok (.if_icmp .ge 32, 3) := by decide +kernel
theorem xd28_15 : decode (mj_b 28) 15 = .ok (.aload_n 0, 1) := by decide +kernel
theorem xd28_16 : decode (mj_b 28) 16 = .ok (.iload_n 2, 1) := by decide +kernel
theorem xd28_17 : decode (mj_b 28) 17 = .ok (.invokevirtual 265, 3) := by decide +kernel
theorem xd28_20 : decode (mj_b 28) 20 = .ok (.iload_n 1, 1) := by decide +kernel
theorem xd28_21 : decode (mj_b 28) 21 = .ok (.aload_n 0, 1) := by decide +kernel
theorem xd28_22 : decode (mj_b 28) 22 = .ok (.getfield 40, 3) := by decide +kernel
theorem xd28_25 : decode (mj_b 28) 25 = .ok (.aload_n 0, 1) := by decide +kernel
theorem xd28_26 : decode (mj_b 28) 26 = .ok (.getfield 12, 3) := by decide +kernel
theorem xd28_29 : decode (mj_b 28) 29 = .ok (.iload_n 2, 1) := by decide +kernel
theorem xd28_30 : decode (mj_b 28) 30 = .ok (.invokevirtual 123, 3) := by decide +kernel
theorem xd28_33 : decode (mj_b 28) 33 = .ok (.invokevirtual 268, 3) := by decide +kernel
theorem xd28_36 : decode (mj_b 28) 36 = .ok (.iadd, 1) := by decide +kernel
theorem xd28_37 : decode (mj_b 28) 37 = .ok (.istore_n 1, 1) := by decide +kernel
theorem xd28_38 : decode (mj_b 28) 38 = .ok (.iinc 2 1, 3) := by decide +kernel
theorem xd28_41 : decode (mj_b 28) 41 = .ok (.goto (-37), 3) := by decide +kernel
theorem xd28_44 : decode (mj_b 28) 44 = .ok (.iload_n 1, 1) := by decide +kernel
theorem xd28_45 : decode (mj_b 28) 45 = .ok (.ireturn, 1) := by decide +kernel
theorem x28_0 : wp Ln xs 28 0 [.ref 1, mj_hole, mj_hole] [] (u, ml_h m lm) Φ = wp Ln xs 28 4 [.ref 1, .int (nI 0), .int (nI 0)] [] (u, ml_h m lm) Φ := (wp_same (S' := [.int (nI 0)]) xd28_0 (Or.inr rfl) rfl).trans ((wp_same (L' := [.ref 1, .int (nI 0), mj_hole]) xd28_1 (Or.inr rfl) rfl).trans ((wp_same (S' := [.int (nI 0)]) xd28_2 (Or.inr rfl) rfl).trans (wp_same (L' := [.ref 1, .int (nI 0), .int (nI 0)]) xd28_3 (Or.inr rfl) rfl)))
theorem x28_4 {x1 : Int32} {x2 : Int32} : wp Ln xs 28 4 [.ref 1, .int x1, .int x2] [] (u, ml_h m lm) Φ = if (m 2 6) ≤ x2 then wp Ln xs 28 44 [.ref 1, .int x1, .int x2] [] (u, ml_h m lm) Φ else wp Ln xs 28 15 [.ref 1, .int x1, .int x2] [] (u, ml_h m lm) Φ := (wp_same xd28_4 (Or.inr rfl) rfl).trans ((wp_same xd28_5 (Or.inr rfl) rfl).trans ((wm_getr xd28_6 rfl (show ml_L[1]? = _ from rfl) rfl (Nat.le_of_ble_eq_true rfl)).trans ((wm_geti xd28_9 rfl (show ml_L[2]? = _ from rfl) rfl (Nat.le_of_ble_eq_true rfl)).trans (wx_icmp xd28_12 rfl rfl ((m 2 6) ≤ x2) mb_ge))))
theorem x28_15 {x1 : Int32} {x2 : Int32} : wp Ln xs 28 15 [.ref 1, .int x1, .int x2] [] (u, ml_h m lm) Φ = wp Ln xs 29 0 [.ref 1, .int x2] [] (u, ml_h m lm) (mk Ln xs 28 17 [.ref 1, .int x1, .int x2] [] Φ) := (wp_same xd28_15 (Or.inr rfl) rfl).trans ((wp_same xd28_16 (Or.inr rfl) rfl).trans (wm_cv (As := [.int x2]) (rest := []) xd28_17 rfl rfl (show ml_L[1]? = _ from rfl) (Nat.le_of_ble_eq_true rfl) (Nat.le_of_ble_eq_true rfl) (Nat.le_of_ble_eq_true rfl) (Nat.le_of_ble_eq_true rfl)))
theorem x28_20 {x1 : Int32} {x2 : Int32} : wp Ln xs 28 20 [.ref 1, .int x1, .int x2] [] (u, ml_h m lm) Φ = wp Ln xs 36 0 [.ref 2, .int x2] [] (u, ml_h m lm) (mk Ln xs 28 30 [.ref 1, .int x1, .int x2] [.ref 56, .int x1] Φ) := (wp_same xd28_20 (Or.inr rfl) rfl).trans ((wp_same xd28_21 (Or.inr rfl) rfl).trans ((wm_getr xd28_22 rfl (show ml_L[1]? = _ from rfl) rfl (Nat.le_of_ble_eq_true rfl)).trans ((wp_same xd28_25 (Or.inr rfl) rfl).trans ((wm_getr xd28_26 rfl (show ml_L[1]? = _ from rfl) rfl (Nat.le_of_ble_eq_true rfl)).trans ((wp_same xd28_29 (Or.inr rfl) rfl).trans (wm_cv (As := [.int x2]) (rest := [.ref 56, .int x1]) xd28_30 rfl rfl (show ml_L[2]? = _ from rfl) (Nat.le_of_ble_eq_true rfl) (Nat.le_of_ble_eq_true rfl) (Nat.le_of_ble_eq_true rfl) (Nat.le_of_ble_eq_true rfl)))))))
theorem x28_33 {x1 : Int32} {x2 : Int32} {xs0 : Int32} {xs2 : Int32} : wp Ln xs 28 33 [.ref 1, .int x1, .int x2] [.int xs0, .ref 56, .int xs2] (u, ml_h m lm) Φ = wp Ln xs 37 0 [.ref 56, .int xs0] [] (u, ml_h m lm) (mk Ln xs 28 33 [.ref 1, .int x1, .int x2] [.int xs2] Φ) := wm_cv (As := [.int xs0]) (rest := [.int xs2]) xd28_33 rfl rfl (show ml_L[56]? = _ from rfl) (Nat.le_of_ble_eq_true rfl) (Nat.le_of_ble_eq_true rfl) (Nat.le_of_ble_eq_true rfl) (Nat.le_of_ble_eq_true rfl)
theorem x28_36 {x1 : Int32} {x2 : Int32} {xs0 : Int32} {xs1 : Int32} : wp Ln xs 28 36 [.ref 1, .int x1, .int x2] [.int xs0, .int xs1] (u, ml_h m lm) Φ = wp Ln xs 28 4 [.ref 1, .int (xs1 + xs0), .int (x2 + nI 1)] [] (u, ml_h m lm) Φ := (wp_same xd28_36 (Or.inr rfl) rfl).trans ((wp_same (L' := [.ref 1, .int (xs1 + xs0), .int x2]) xd28_37 (Or.inr rfl) rfl).trans ((wp_same (L' := [.ref 1, .int (xs1 + xs0), .int (x2 + nI 1)]) xd28_38 (Or.inr rfl) rfl).trans (wx_goto xd28_41 rfl)))
theorem x28_44 {x1 : Int32} {x2 : Int32} : wp Ln xs 28 44 [.ref 1, .int x1, .int x2] [] (u, ml_h m lm) Φ = Φ (.inl (some (.int x1))) (u, ml_h m lm) := (wp_same xd28_44 (Or.inr rfl) rfl).trans (wp_fin (v := some (.int x1)) xd28_45 (Or.inr rfl) rfl (mj_fin_i rfl))
/- PickedForms.readShape -/
theorem xd29_0 : decode (mj_b 29) 0 = .ok (.aload_n 0, 1) := by decide +kernel
theorem xd29_1 : decode (mj_b 29) 1 = .ok (.getfield 40, 3) := by decide +kernel
theorem xd29_4 : decode (mj_b 29) 4 = .ok (.aload_n 0, 1) := by decide +kernel
theorem xd29_5 : decode (mj_b 29) 5 = .ok (.getfield 12, 3) := by decide +kernel
theorem xd29_8 : decode (mj_b 29) 8 = .ok (.getfield 139, 3) := by decide +kernel
theorem xd29_11 : decode (mj_b 29) 11 = .ok (.aload_n 0, 1) := by decide +kernel
theorem xd29_12 : decode (mj_b 29) 12 = .ok (.getfield 12, 3) := by decide +kernel
theorem xd29_15 : decode (mj_b 29) 15 = .ok (.iload_n 1, 1) := by decide +kernel
theorem xd29_16 : decode (mj_b 29) 16 = .ok (.invokevirtual 182, 3) := by decide +kernel
theorem xd29_19 : decode (mj_b 29) 19 = .ok (.aload_n 0, 1) := by decide +kernel
theorem xd29_20 : decode (mj_b 29) 20 = .ok (.getfield 12, 3) := by decide +kernel
theorem xd29_23 : decode (mj_b 29) 23 = .ok (.iload_n 1, 1) := by decide +kernel
theorem xd29_24 : decode (mj_b 29) 24 = .ok (.invokevirtual 164, 3) := by decide +kernel
theorem xd29_27 : decode (mj_b 29) 27 = .ok (.invokevirtual 379, 3) := by decide +kernel
theorem xd29_30 : decode (mj_b 29) 30 = .ok (.return_, 1) := by decide +kernel
theorem x29_0 {x1 : Int32} : wp Ln xs 29 0 [.ref 1, .int x1] [] (u, ml_h m lm) Φ = wp Ln xs 24 0 [.ref 2, .int x1, mj_hole, mj_hole] [] (u, ml_h m lm) (mk Ln xs 29 16 [.ref 1, .int x1] [.ref 3, .ref 56] Φ) := (wp_same xd29_0 (Or.inr rfl) rfl).trans ((wm_getr xd29_1 rfl (show ml_L[1]? = _ from rfl) rfl (Nat.le_of_ble_eq_true rfl)).trans ((wp_same xd29_4 (Or.inr rfl) rfl).trans ((wm_getr xd29_5 rfl (show ml_L[1]? = _ from rfl) rfl (Nat.le_of_ble_eq_true rfl)).trans ((wm_getr xd29_8 rfl (show ml_L[2]? = _ from rfl) rfl (Nat.le_of_ble_eq_true rfl)).trans ((wp_same xd29_11 (Or.inr rfl) rfl).trans ((wm_getr xd29_12 rfl (show ml_L[1]? = _ from rfl) rfl (Nat.le_of_ble_eq_true rfl)).trans ((wp_same xd29_15 (Or.inr rfl) rfl).trans (wm_cv (As := [.int x1]) (rest := [.ref 3, .ref 56]) xd29_16 rfl rfl (show ml_L[2]? = _ from rfl) (Nat.le_of_ble_eq_true rfl) (Nat.le_of_ble_eq_true rfl) (Nat.le_of_ble_eq_true rfl) (Nat.le_of_ble_eq_true rfl)))))))))
theorem x29_19 {x1 : Int32} {xs0 : Int32} : wp Ln xs 29 19 [.ref 1, .int x1] [.int xs0, .ref 3, .ref 56] (u, ml_h m lm) Φ = wp Ln xs 30 0 [.ref 2, .int x1] [] (u, ml_h m lm) (mk Ln xs 29 24 [.ref 1, .int x1] [.int xs0, .ref 3, .ref 56] Φ) := (wp_same xd29_19 (Or.inr rfl) rfl).trans ((wm_getr xd29_20 rfl (show ml_L[1]? = _ from rfl) rfl (Nat.le_of_ble_eq_true rfl)).trans ((wp_same xd29_23 (Or.inr rfl) rfl).trans (wm_cv (As := [.int x1]) (rest := [.int xs0, .ref 3, .ref 56]) xd29_24 rfl rfl (show ml_L[2]? = _ from rfl) (Nat.le_of_ble_eq_true rfl) (Nat.le_of_ble_eq_true rfl) (Nat.le_of_ble_eq_true rfl) (Nat.le_of_ble_eq_true rfl))))
theorem x29_27 {x1 : Int32} {xs0 : Int32} {xs1 : Int32} : wp Ln xs 29 27 [.ref 1, .int x1] [.int xs0, .int xs1, .ref 3, .ref 56] (u, ml_h m lm) Φ = wp Ln xs 31 0 [.ref 56, .ref 3, .int xs1, .int xs0, mj_hole] [] (u, ml_h m lm) (mk Ln xs 29 27 [.ref 1, .int x1] [] Φ) := wm_cv (As := [.ref 3, .int xs1, .int xs0]) (rest := []) xd29_27 rfl rfl (show ml_L[56]? = _ from rfl) (Nat.le_of_ble_eq_true rfl) (Nat.le_of_ble_eq_true rfl) (Nat.le_of_ble_eq_true rfl) (Nat.le_of_ble_eq_true rfl)
theorem x29_30 {x1 : Int32} : wp Ln xs 29 30 [.ref 1, .int x1] [] (u, ml_h m lm) Φ = Φ (.inl none) (u, ml_h m lm) := wp_fin (v := none) xd29_30 (Or.inr rfl) rfl rfl
/- PickedForms$Column.lengthOf -/
theorem xd30_0 : decode (mj_b 30) 0 = .ok (.aload_n 0, 1) := by decide +kernel
theorem xd30_1 : decode (mj_b 30) 1 = .ok (.getfield 15, 3) := by decide +kernel
theorem xd30_4 : decode (mj_b 30) 4 = .ok (.iload_n 1, 1) := by decide +kernel
theorem xd30_5 : decode (mj_b 30) 5 = .ok (.invokestatic 46, 3) := by decide +kernel
theorem xd30_8 : decode (mj_b 30) 8 = .ok (.ireturn, 1) := by decide +kernel
theorem x30_0 {x1 : Int32} : wp Ln xs 30 0 [.ref 2, .int x1] [] (u, ml_h m lm) Φ = wp Ln xs 13 0 [.ref 4, .int x1] [] (u, ml_h m lm) (mk Ln xs 30 5 [.ref 2, .int x1] [] Φ) := (wp_same xd30_0 (Or.inr rfl) rfl).trans ((wm_getr xd30_1 rfl (show ml_L[2]? = _ from rfl) rfl (Nat.le_of_ble_eq_true rfl)).trans ((wp_same xd30_4 (Or.inr rfl) rfl).trans (wm_cs (As := [.ref 4, .int x1]) (rest := []) xd30_5 rfl rfl (Nat.le_of_ble_eq_true rfl) (Nat.le_of_ble_eq_true rfl) (Nat.le_of_ble_eq_true rfl) (Nat.le_of_ble_eq_true rfl))))
theorem x30_8 {x1 : Int32} {xs0 : Int32} : wp Ln xs 30 8 [.ref 2, .int x1] [.int xs0] (u, ml_h m lm) Φ = Φ (.inl (some (.int xs0))) (u, ml_h m lm) := wp_fin (v := some (.int xs0)) xd30_8 (Or.inr rfl) rfl (mj_fin_i rfl)
/- PickedForms$Shape.read -/
theorem xd31_0 : decode (mj_b 31) 0 = .ok (.aload_n 0, 1) := by decide +kernel
theorem xd31_1 : decode (mj_b 31) 1 = .ok (.invokevirtual 37, 3) := by decide +kernel
theorem xd31_4 : decode (mj_b 31) 4 = .ok (.iconst 0, 1) := by decide +kernel
theorem xd31_5 : decode (mj_b 31) 5 = .ok (.istore 4, 2) := by decide +kernel
theorem xd31_7 : decode (mj_b 31) 7 = .ok (.iload 4, 2) := by decide +kernel
theorem xd31_9 : decode (mj_b 31) 9 = .ok (.iload_n 3, 1) := by decide +kernel
theorem xd31_10 : decode (mj_b 31) 10 = .ok (.if_icmp .ge 21, 3) := by decide +kernel
theorem xd31_13 : decode (mj_b 31) 13 = .ok (.aload_n 0, 1) := by decide +kernel
theorem xd31_14 : decode (mj_b 31) 14 = .ok (.aload_n 1, 1) := by decide +kernel
theorem xd31_15 : decode (mj_b 31) 15 = .ok (.iload_n 2, 1) := by decide +kernel
theorem xd31_16 : decode (mj_b 31) 16 = .ok (.iload 4, 2) := by decide +kernel
theorem xd31_18 : decode (mj_b 31) 18 = .ok (.iadd, 1) := by decide +kernel
theorem xd31_19 : decode (mj_b 31) 19 = .ok (.invokestatic 40, 3) := by decide +kernel
theorem xd31_22 : decode (mj_b 31) 22 = .ok (.invokevirtual 46, 3) := by decide +kernel
theorem xd31_25 : decode (mj_b 31) 25 = .ok (.iinc 4 1, 3) := by decide +kernel
theorem xd31_28 : decode (mj_b 31) 28 = .ok (.goto (-21), 3) := by decide +kernel
theorem xd31_31 : decode (mj_b 31) 31 = .ok (.return_, 1) := by decide +kernel
theorem x31_0 {p r : Nat} {x2 : Int32} {x3 : Int32} (hp : ml_sh p) : wp Ln xs 31 0 [.ref p, .ref r, .int x2, .int x3, mj_hole] [] (u, ml_h m lm) Φ = wp Ln xs 32 0 [.ref p] [] (u, ml_h m lm) (mk Ln xs 31 1 [.ref p, .ref r, .int x2, .int x3, mj_hole] [] Φ) := (wp_same xd31_0 (Or.inr rfl) rfl).trans (wm_cv (As := []) (rest := []) xd31_1 rfl rfl hp.1 (Nat.le_of_ble_eq_true rfl) (Nat.le_of_ble_eq_true rfl) (Nat.le_of_ble_eq_true rfl) (Nat.le_of_ble_eq_true rfl))
theorem x31_4 {p r : Nat} {x2 : Int32} {x3 : Int32} : wp Ln xs 31 4 [.ref p, .ref r, .int x2, .int x3, mj_hole] [] (u, ml_h m lm) Φ = wp Ln xs 31 7 [.ref p, .ref r, .int x2, .int x3, .int (nI 0)] [] (u, ml_h m lm) Φ := (wp_same (S' := [.int (nI 0)]) xd31_4 (Or.inr rfl) rfl).trans (wp_same (L' := [.ref p, .ref r, .int x2, .int x3, .int (nI 0)]) xd31_5 (Or.inr rfl) rfl)
theorem x31_7 {p r : Nat} {x2 : Int32} {x3 : Int32} {x4 : Int32} : wp Ln xs 31 7 [.ref p, .ref r, .int x2, .int x3, .int x4] [] (u, ml_h m lm) Φ = if x3 ≤ x4 then wp Ln xs 31 31 [.ref p, .ref r, .int x2, .int x3, .int x4] [] (u, ml_h m lm) Φ else wp Ln xs 31 13 [.ref p, .ref r, .int x2, .int x3, .int x4] [] (u, ml_h m lm) Φ := (wp_same xd31_7 (Or.inr rfl) rfl).trans ((wp_same xd31_9 (Or.inr rfl) rfl).trans (wx_icmp xd31_10 rfl rfl (x3 ≤ x4) mb_ge))
theorem x31_13 {p r : Nat} {x2 : Int32} {x3 : Int32} {x4 : Int32} : wp Ln xs 31 13 [.ref p, .ref r, .int x2, .int x3, .int x4] [] (u, ml_h m lm) Φ = wp Ln xs 13 0 [.ref r, .int (x2 + x4)] [] (u, ml_h m lm) (mk Ln xs 31 19 [.ref p, .ref r, .int x2, .int x3, .int x4] [.ref p] Φ) := (wp_same xd31_13 (Or.inr rfl) rfl).trans ((wp_same xd31_14 (Or.inr rfl) rfl).trans ((wp_same xd31_15 (Or.inr rfl) rfl).trans ((wp_same xd31_16 (Or.inr rfl) rfl).trans ((wp_same xd31_18 (Or.inr rfl) rfl).trans (wm_cs (As := [.ref r, .int (x2 + x4)]) (rest := [.ref p]) xd31_19 rfl rfl (Nat.le_of_ble_eq_true rfl) (Nat.le_of_ble_eq_true rfl) (Nat.le_of_ble_eq_true rfl) (Nat.le_of_ble_eq_true rfl))))))
theorem x31_22 {p r : Nat} {x2 : Int32} {x3 : Int32} {x4 : Int32} {xs0 : Int32} (hp : ml_sh p) : wp Ln xs 31 22 [.ref p, .ref r, .int x2, .int x3, .int x4] [.int xs0, .ref p] (u, ml_h m lm) Φ = wp Ln xs 33 0 [.ref p, .int xs0] [] (u, ml_h m lm) (mk Ln xs 31 22 [.ref p, .ref r, .int x2, .int x3, .int x4] [] Φ) := wm_cv (As := [.int xs0]) (rest := []) xd31_22 rfl rfl hp.1 (Nat.le_of_ble_eq_true rfl) (Nat.le_of_ble_eq_true rfl) (Nat.le_of_ble_eq_true rfl) (Nat.le_of_ble_eq_true rfl)
theorem x31_25 {p r : Nat} {x2 : Int32} {x3 : Int32} {x4 : Int32} : wp Ln xs 31 25 [.ref p, .ref r, .int x2, .int x3, .int x4] [] (u, ml_h m lm) Φ = wp Ln xs 31 7 [.ref p, .ref r, .int x2, .int x3, .int (x4 + nI 1)] [] (u, ml_h m lm) Φ := (wp_same (L' := [.ref p, .ref r, .int x2, .int x3, .int (x4 + nI 1)]) xd31_25 (Or.inr rfl) rfl).trans (wx_goto xd31_28 rfl)
theorem x31_31 {p r : Nat} {x2 : Int32} {x3 : Int32} {x4 : Int32} : wp Ln xs 31 31 [.ref p, .ref r, .int x2, .int x3, .int x4] [] (u, ml_h m lm) Φ = Φ (.inl none) (u, ml_h m lm) := wp_fin (v := none) xd31_31 (Or.inr rfl) rfl rfl
/- PickedForms$Shape.clear -/
theorem xd32_0 : decode (mj_b 32) 0 = .ok (.aload_n 0, 1) := by decide +kernel
theorem xd32_1 : decode (mj_b 32) 1 = .ok (.iconst 0, 1) := by decide +kernel
theorem xd32_2 : decode (mj_b 32) 2 = .ok (.putfield 15, 3) := by decide +kernel
theorem xd32_5 : decode (mj_b 32) 5 = .ok (.aload_n 0, 1) := by decide +kernel
theorem xd32_6 : decode (mj_b 32) 6 = .ok (.iconst 0, 1) := by decide +kernel
theorem xd32_7 : decode (mj_b 32) 7 = .ok (.putfield 19, 3) := by decide +kernel
theorem xd32_10 : decode (mj_b 32) 10 = .ok (.aload_n 0, 1) := by decide +kernel
theorem xd32_11 : decode (mj_b 32) 11 = .ok (.iconst 0, 1) := by decide +kernel
theorem xd32_12 : decode (mj_b 32) 12 = .ok (.putfield 28, 3) := by decide +kernel
theorem xd32_15 : decode (mj_b 32) 15 = .ok (.aload_n 0, 1) := by decide +kernel
theorem xd32_16 : decode (mj_b 32) 16 = .ok (.iconst 0, 1) := by decide +kernel
theorem xd32_17 : decode (mj_b 32) 17 = .ok (.putfield 31, 3) := by decide +kernel
theorem xd32_20 : decode (mj_b 32) 20 = .ok (.return_, 1) := by decide +kernel
theorem x32_0 {p : Nat} (hp : ml_sh p) : wp Ln xs 32 0 [.ref p] [] (u, ml_h m lm) Φ = Φ (.inl none) (u, ml_h (ml_s (ml_s (ml_s (ml_s m p 1 (nI 0)) p 2 (nI 0)) p 5 (nI 0)) p 6 (nI 0)) lm) := (wp_same xd32_0 (Or.inr rfl) rfl).trans ((wp_same (S' := [.int (nI 0), .ref p]) xd32_1 (Or.inr rfl) rfl).trans ((wm_puti xd32_2 rfl hp.1 rfl (Nat.le_of_ble_eq_true rfl) rfl rfl rfl).trans ((wp_same xd32_5 (Or.inr rfl) rfl).trans ((wp_same (S' := [.int (nI 0), .ref p]) xd32_6 (Or.inr rfl) rfl).trans ((wm_puti xd32_7 rfl hp.1 rfl (Nat.le_of_ble_eq_true rfl) rfl rfl rfl).trans ((wp_same xd32_10 (Or.inr rfl) rfl).trans ((wp_same (S' := [.int (nI 0), .ref p]) xd32_11 (Or.inr rfl) rfl).trans ((wm_puti xd32_12 rfl hp.1 rfl (Nat.le_of_ble_eq_true rfl) rfl rfl rfl).trans ((wp_same xd32_15 (Or.inr rfl) rfl).trans ((wp_same (S' := [.int (nI 0), .ref p]) xd32_16 (Or.inr rfl) rfl).trans ((wm_puti xd32_17 rfl hp.1 rfl (Nat.le_of_ble_eq_true rfl) rfl rfl rfl).trans (wp_fin (v := none) xd32_20 (Or.inr rfl) rfl rfl))))))))))))
/- PickedForms$Shape.add -/
theorem xd33_0 : decode (mj_b 33) 0 = .ok (.aload_n 0, 1) := by decide +kernel
theorem xd33_1 : decode (mj_b 33) 1 = .ok (.getfield 19, 3) := by decide +kernel
theorem xd33_4 : decode (mj_b 33) 4 = .ok (.ifCond .ne 21, 3) := by decide +kernel
theorem xd33_7 : decode (mj_b 33) 7 = .ok (.aload_n 0, 1) := by decide +kernel
theorem xd33_8 : decode (mj_b 33) 8 = .ok (.iload_n 1, 1) := by decide +kernel
theorem xd33_9 : decode (mj_b 33) 9 = .ok (.putfield 22, 3) := by decide +kernel
theorem xd33_12 : decode (mj_b 33) 12 = .ok (.aload_n 0, 1) := by decide +kernel
theorem xd33_13 : decode (mj_b 33) 13 = .ok (.iload_n 1, 1) := by decide +kernel
theorem xd33_14 : decode (mj_b 33) 14 = .ok (.putfield 25, 3) := by decide +kernel
theorem xd33_17 : decode (mj_b 33) 17 = .ok (.aload_n 0, 1) := by decide +kernel
theorem xd33_18 : decode (mj_b 33) 18 = .ok (.iconst 1, 1) := by decide +kernel
theorem xd33_19 : decode (mj_b 33) 19 = .ok (.putfield 28, 3) := by decide +kernel
theorem xd33_22 : decode (mj_b 33) 22 = .ok (.goto 87, 3) := by decide +kernel
theorem xd33_25 : decode (mj_b 33) 25 = .ok (.aload_n 0, 1) := by decide +kernel
theorem xd33_26 : decode (mj_b 33) 26 = .ok (.iload_n 1, 1) := by decide +kernel
theorem xd33_27 : decode (mj_b 33) 27 = .ok (.aload_n 0, 1) := by decide +kernel
theorem xd33_28 : decode (mj_b 33) 28 = .ok (.getfield 22, 3) := by decide +kernel
theorem xd33_31 : decode (mj_b 33) 31 = .ok (.if_icmp .ge 7, 3) := by decide +kernel
theorem xd33_34 : decode (mj_b 33) 34 = .ok (.iload_n 1, 1) := by decide +kernel
theorem xd33_35 : decode (mj_b 33) 35 = .ok (.goto 7, 3) := by decide +kernel
theorem xd33_38 : decode (mj_b 33) 38 = .ok (.aload_n 0, 1) := by decide +kernel
theorem xd33_39 : decode (mj_b 33) 39 = .ok (.getfield 22, 3) := by decide +kernel
theorem xd33_42 : decode (mj_b 33) 42 = .ok (.putfield 22, 3) := by decide +kernel
theorem xd33_45 : decode (mj_b 33) 45 = .ok (.aload_n 0, 1) := by decide +kernel
theorem xd33_46 : decode (mj_b 33) 46 = .ok (.iload_n 1, 1) := by decide +kernel
theorem xd33_47 : decode (mj_b 33) 47 = .ok (.aload_n 0, 1) := by decide +kernel
theorem xd33_48 : decode (mj_b 33) 48 = .ok (.getfield 25, 3) := by decide +kernel
theorem xd33_51 : decode (mj_b 33) 51 = .ok (.if_icmp .le 7, 3) := by decide +kernel
theorem xd33_54 : decode (mj_b 33) 54 = .ok (.iload_n 1, 1) := by decide +kernel
theorem xd33_55 : decode (mj_b 33) 55 = .ok (.goto 7, 3) := by decide +kernel
theorem xd33_58 : decode (mj_b 33) 58 = .ok (.aload_n 0, 1) := by decide +kernel
theorem xd33_59 : decode (mj_b 33) 59 = .ok (.getfield 25, 3) := by decide +kernel
theorem xd33_62 : decode (mj_b 33) 62 = .ok (.putfield 25, 3) := by decide +kernel
theorem xd33_65 : decode (mj_b 33) 65 = .ok (.aload_n 0, 1) := by decide +kernel
theorem xd33_66 : decode (mj_b 33) 66 = .ok (.iload_n 1, 1) := by decide +kernel
theorem xd33_67 : decode (mj_b 33) 67 = .ok (.aload_n 0, 1) := by decide +kernel
theorem xd33_68 : decode (mj_b 33) 68 = .ok (.getfield 34, 3) := by decide +kernel
theorem xd33_71 : decode (mj_b 33) 71 = .ok (.if_icmp .ne 10, 3) := by decide +kernel
theorem xd33_74 : decode (mj_b 33) 74 = .ok (.aload_n 0, 1) := by decide +kernel
theorem xd33_75 : decode (mj_b 33) 75 = .ok (.getfield 28, 3) := by decide +kernel
theorem xd33_78 : decode (mj_b 33) 78 = .ok (.goto 9, 3) := by decide +kernel
theorem xd33_81 : decode (mj_b 33) 81 = .ok (.aload_n 0, 1) := by decide +kernel
theorem xd33_82 : decode (mj_b 33) 82 = .ok (.getfield 28, 3) := by decide +kernel
theorem xd33_85 : decode (mj_b 33) 85 = .ok (.iconst 1, 1) := by decide +kernel
theorem xd33_86 : decode (mj_b 33) 86 = .ok (.iadd, 1) := by decide +kernel
theorem xd33_87 : decode (mj_b 33) 87 = .ok (.putfield 28, 3) := by decide +kernel
theorem xd33_90 : decode (mj_b 33) 90 = .ok (.aload_n 0, 1) := by decide +kernel
theorem xd33_91 : decode (mj_b 33) 91 = .ok (.aload_n 0, 1) := by decide +kernel
theorem xd33_92 : decode (mj_b 33) 92 = .ok (.getfield 31, 3) := by decide +kernel
theorem xd33_95 : decode (mj_b 33) 95 = .ok (.aload_n 0, 1) := by decide +kernel
theorem xd33_96 : decode (mj_b 33) 96 = .ok (.getfield 34, 3) := by decide +kernel
theorem xd33_99 : decode (mj_b 33) 99 = .ok (.iload_n 1, 1) := by decide +kernel
theorem xd33_100 : decode (mj_b 33) 100 = .ok (.invokestatic 50, 3) := by decide +kernel
theorem xd33_103 : decode (mj_b 33) 103 = .ok (.invokestatic 54, 3) := by decide +kernel
theorem xd33_106 : decode (mj_b 33) 106 = .ok (.putfield 31, 3) := by decide +kernel
theorem xd33_109 : decode (mj_b 33) 109 = .ok (.aload_n 0, 1) := by decide +kernel
theorem xd33_110 : decode (mj_b 33) 110 = .ok (.iload_n 1, 1) := by decide +kernel
theorem xd33_111 : decode (mj_b 33) 111 = .ok (.putfield 34, 3) := by decide +kernel
theorem xd33_114 : decode (mj_b 33) 114 = .ok (.aload_n 0, 1) := by decide +kernel
theorem xd33_115 : decode (mj_b 33) 115 = .ok (.dup, 1) := by decide +kernel
theorem xd33_116 : decode (mj_b 33) 116 = .ok (.getfield 19, 3) := by decide +kernel
theorem xd33_119 : decode (mj_b 33) 119 = .ok (.iconst 1, 1) := by decide +kernel
theorem xd33_120 : decode (mj_b 33) 120 = .ok (.iadd, 1) := by decide +kernel
theorem xd33_121 : decode (mj_b 33) 121 = .ok (.putfield 19, 3) := by decide +kernel
theorem xd33_124 : decode (mj_b 33) 124 = .ok (.aload_n 0, 1) := by decide +kernel
theorem xd33_125 : decode (mj_b 33) 125 = .ok (.iload_n 1, 1) := by decide +kernel
theorem xd33_126 : decode (mj_b 33) 126 = .ok (.invokevirtual 59, 3) := by decide +kernel
theorem xd33_129 : decode (mj_b 33) 129 = .ok (.return_, 1) := by decide +kernel
theorem x33_0 {p : Nat} {x1 : Int32} (hp : ml_sh p) : wp Ln xs 33 0 [.ref p, .int x1] [] (u, ml_h m lm) Φ = if ¬ (m p 2) = (nI 0) then wp Ln xs 33 25 [.ref p, .int x1] [] (u, ml_h m lm) Φ else wp Ln xs 33 7 [.ref p, .int x1] [] (u, ml_h m lm) Φ := (wp_same xd33_0 (Or.inr rfl) rfl).trans ((wm_geti xd33_1 rfl hp.1 rfl (Nat.le_of_ble_eq_true rfl)).trans (wx_if xd33_4 rfl rfl (¬ (m p 2) = (nI 0)) mb_ne))
theorem x33_7 {p : Nat} {x1 : Int32} (hp : ml_sh p) : wp Ln xs 33 7 [.ref p, .int x1] [] (u, ml_h m lm) Φ = wp Ln xs 33 109 [.ref p, .int x1] [] (u, ml_h (ml_s (ml_s (ml_s m p 3 x1) p 4 x1) p 5 (nI 1)) lm) Φ := (wp_same xd33_7 (Or.inr rfl) rfl).trans ((wp_same xd33_8 (Or.inr rfl) rfl).trans ((wm_puti xd33_9 rfl hp.1 rfl (Nat.le_of_ble_eq_true rfl) rfl rfl rfl).trans ((wp_same xd33_12 (Or.inr rfl) rfl).trans ((wp_same xd33_13 (Or.inr rfl) rfl).trans ((wm_puti xd33_14 rfl hp.1 rfl (Nat.le_of_ble_eq_true rfl) rfl rfl rfl).trans ((wp_same xd33_17 (Or.inr rfl) rfl).trans ((wp_same (S' := [.int (nI 1), .ref p]) xd33_18 (Or.inr rfl) rfl).trans ((wm_puti xd33_19 rfl hp.1 rfl (Nat.le_of_ble_eq_true rfl) rfl rfl rfl).trans (wx_goto xd33_22 rfl)))))))))
theorem x33_25 {p : Nat} {x1 : Int32} (hp : ml_sh p) : wp Ln xs 33 25 [.ref p, .int x1] [] (u, ml_h m lm) Φ = if (m p 3) ≤ x1 then wp Ln xs 33 38 [.ref p, .int x1] [.ref p] (u, ml_h m lm) Φ else wp Ln xs 33 34 [.ref p, .int x1] [.ref p] (u, ml_h m lm) Φ := (wp_same xd33_25 (Or.inr rfl) rfl).trans ((wp_same xd33_26 (Or.inr rfl) rfl).trans ((wp_same xd33_27 (Or.inr rfl) rfl).trans ((wm_geti xd33_28 rfl hp.1 rfl (Nat.le_of_ble_eq_true rfl)).trans (wx_icmp xd33_31 rfl rfl ((m p 3) ≤ x1) mb_ge))))
theorem x33_34 {p : Nat} {x1 : Int32} : wp Ln xs 33 34 [.ref p, .int x1] [.ref p] (u, ml_h m lm) Φ = wp Ln xs 33 42 [.ref p, .int x1] [.int x1, .ref p] (u, ml_h m lm) Φ := (wp_same xd33_34 (Or.inr rfl) rfl).trans (wx_goto xd33_35 rfl)
theorem x33_38 {p : Nat} {x1 : Int32} (hp : ml_sh p) : wp Ln xs 33 38 [.ref p, .int x1] [.ref p] (u, ml_h m lm) Φ = wp Ln xs 33 42 [.ref p, .int x1] [.int (m p 3), .ref p] (u, ml_h m lm) Φ := (wp_same xd33_38 (Or.inr rfl) rfl).trans (wm_geti xd33_39 rfl hp.1 rfl (Nat.le_of_ble_eq_true rfl))
theorem x33_42 {p : Nat} {x1 : Int32} {xs0 : Int32} (hp : ml_sh p) : wp Ln xs 33 42 [.ref p, .int x1] [.int xs0, .ref p] (u, ml_h m lm) Φ = if x1 ≤ ((ml_s m p 3 xs0) p 4) then wp Ln xs 33 58 [.ref p, .int x1] [.ref p] (u, ml_h (ml_s m p 3 xs0) lm) Φ else wp Ln xs 33 54 [.ref p, .int x1] [.ref p] (u, ml_h (ml_s m p 3 xs0) lm) Φ := (wm_puti xd33_42 rfl hp.1 rfl (Nat.le_of_ble_eq_true rfl) rfl rfl rfl).trans ((wp_same xd33_45 (Or.inr rfl) rfl).trans ((wp_same xd33_46 (Or.inr rfl) rfl).trans ((wp_same xd33_47 (Or.inr rfl) rfl).trans ((wm_geti xd33_48 rfl hp.1 rfl (Nat.le_of_ble_eq_true rfl)).trans (wx_icmp xd33_51 rfl rfl (x1 ≤ ((ml_s m p 3 xs0) p 4)) mb_le)))))
theorem x33_54 {p : Nat} {x1 : Int32} : wp Ln xs 33 54 [.ref p, .int x1] [.ref p] (u, ml_h m lm) Φ = wp Ln xs 33 62 [.ref p, .int x1] [.int x1, .ref p] (u, ml_h m lm) Φ := (wp_same xd33_54 (Or.inr rfl) rfl).trans (wx_goto xd33_55 rfl)
theorem x33_58 {p : Nat} {x1 : Int32} (hp : ml_sh p) : wp Ln xs 33 58 [.ref p, .int x1] [.ref p] (u, ml_h m lm) Φ = wp Ln xs 33 62 [.ref p, .int x1] [.int (m p 4), .ref p] (u, ml_h m lm) Φ := (wp_same xd33_58 (Or.inr rfl) rfl).trans (wm_geti xd33_59 rfl hp.1 rfl (Nat.le_of_ble_eq_true rfl))
theorem x33_62 {p : Nat} {x1 : Int32} {xs0 : Int32} (hp : ml_sh p) : wp Ln xs 33 62 [.ref p, .int x1] [.int xs0, .ref p] (u, ml_h m lm) Φ = if ¬ x1 = ((ml_s m p 4 xs0) p 7) then wp Ln xs 33 81 [.ref p, .int x1] [.ref p] (u, ml_h (ml_s m p 4 xs0) lm) Φ else wp Ln xs 33 74 [.ref p, .int x1] [.ref p] (u, ml_h (ml_s m p 4 xs0) lm) Φ := (wm_puti xd33_62 rfl hp.1 rfl (Nat.le_of_ble_eq_true rfl) rfl rfl rfl).trans ((wp_same xd33_65 (Or.inr rfl) rfl).trans ((wp_same xd33_66 (Or.inr rfl) rfl).trans ((wp_same xd33_67 (Or.inr rfl) rfl).trans ((wm_geti xd33_68 rfl hp.1 rfl (Nat.le_of_ble_eq_true rfl)).trans (wx_icmp xd33_71 rfl rfl (¬ x1 = ((ml_s m p 4 xs0) p 7)) mb_ne)))))
theorem x33_74 {p : Nat} {x1 : Int32} (hp : ml_sh p) : wp Ln xs 33 74 [.ref p, .int x1] [.ref p] (u, ml_h m lm) Φ = wp Ln xs 33 87 [.ref p, .int x1] [.int (m p 5), .ref p] (u, ml_h m lm) Φ := (wp_same xd33_74 (Or.inr rfl) rfl).trans ((wm_geti xd33_75 rfl hp.1 rfl (Nat.le_of_ble_eq_true rfl)).trans (wx_goto xd33_78 rfl))
theorem x33_81 {p : Nat} {x1 : Int32} (hp : ml_sh p) : wp Ln xs 33 81 [.ref p, .int x1] [.ref p] (u, ml_h m lm) Φ = wp Ln xs 33 87 [.ref p, .int x1] [.int ((m p 5) + (nI 1)), .ref p] (u, ml_h m lm) Φ := (wp_same xd33_81 (Or.inr rfl) rfl).trans ((wm_geti xd33_82 rfl hp.1 rfl (Nat.le_of_ble_eq_true rfl)).trans ((wp_same (S' := [.int (nI 1), .int (m p 5), .ref p]) xd33_85 (Or.inr rfl) rfl).trans (wp_same xd33_86 (Or.inr rfl) rfl)))
theorem x33_87 {p : Nat} {x1 : Int32} {xs0 : Int32} (hp : ml_sh p) : wp Ln xs 33 87 [.ref p, .int x1] [.int xs0, .ref p] (u, ml_h m lm) Φ = wp Ln xs 34 0 [.int ((ml_s m p 5 xs0) p 7), .int x1, mj_hole] [] (u, ml_h (ml_s m p 5 xs0) lm) (mk Ln xs 33 100 [.ref p, .int x1] [.int ((ml_s m p 5 xs0) p 6), .ref p] Φ) := (wm_puti xd33_87 rfl hp.1 rfl (Nat.le_of_ble_eq_true rfl) rfl rfl rfl).trans ((wp_same xd33_90 (Or.inr rfl) rfl).trans ((wp_same xd33_91 (Or.inr rfl) rfl).trans ((wm_geti xd33_92 rfl hp.1 rfl (Nat.le_of_ble_eq_true rfl)).trans ((wp_same xd33_95 (Or.inr rfl) rfl).trans ((wm_geti xd33_96 rfl hp.1 rfl (Nat.le_of_ble_eq_true rfl)).trans ((wp_same xd33_99 (Or.inr rfl) rfl).trans (wm_cs (As := [.int ((ml_s m p 5 xs0) p 7), .int x1]) (rest := [.int ((ml_s m p 5 xs0) p 6), .ref p]) xd33_100 rfl rfl (Nat.le_of_ble_eq_true rfl) (Nat.le_of_ble_eq_true rfl) (Nat.le_of_ble_eq_true rfl) (Nat.le_of_ble_eq_true rfl))))))))
theorem x33_103 {p : Nat} {x1 : Int32} {xs0 : Int32} {xs1 : Int32} (hp : ml_sh p) : wp Ln xs 33 103 [.ref p, .int x1] [.int xs0, .int xs1, .ref p] (u, ml_h m lm) Φ = wp Ln xs 33 109 [.ref p, .int x1] [] (u, ml_h (ml_s m p 6 (if xs1 < xs0 then xs0 else xs1)) lm) Φ := (wm_max xd33_103 rfl (Nat.le_of_ble_eq_true rfl) (Nat.le_of_ble_eq_true rfl) (Nat.le_of_ble_eq_true rfl)).trans (wm_puti xd33_106 rfl hp.1 rfl (Nat.le_of_ble_eq_true rfl) rfl rfl rfl)
theorem x33_109 {p : Nat} {x1 : Int32} (hp : ml_sh p) : wp Ln xs 33 109 [.ref p, .int x1] [] (u, ml_h m lm) Φ = wp Ln xs 35 0 [.ref p, .int x1, mj_hole, mj_hole] [] (u, ml_h (ml_s (ml_s m p 7 x1) p 2 (((ml_s m p 7 x1) p 2) + (nI 1))) lm) (mk Ln xs 33 126 [.ref p, .int x1] [] Φ) := (wp_same xd33_109 (Or.inr rfl) rfl).trans ((wp_same xd33_110 (Or.inr rfl) rfl).trans ((wm_puti xd33_111 rfl hp.1 rfl (Nat.le_of_ble_eq_true rfl) rfl rfl rfl).trans ((wp_same xd33_114 (Or.inr rfl) rfl).trans ((wp_same xd33_115 (Or.inr rfl) rfl).trans ((wm_geti xd33_116 rfl hp.1 rfl (Nat.le_of_ble_eq_true rfl)).trans ((wp_same (S' := [.int (nI 1), .int ((ml_s m p 7 x1) p 2), .ref p]) xd33_119 (Or.inr rfl) rfl).trans ((wp_same xd33_120 (Or.inr rfl) rfl).trans ((wm_puti xd33_121 rfl hp.1 rfl (Nat.le_of_ble_eq_true rfl) rfl rfl rfl).trans ((wp_same xd33_124 (Or.inr rfl) rfl).trans ((wp_same xd33_125 (Or.inr rfl) rfl).trans (wm_cv (As := [.int x1]) (rest := []) xd33_126 rfl rfl hp.1 (Nat.le_of_ble_eq_true rfl) (Nat.le_of_ble_eq_true rfl) (Nat.le_of_ble_eq_true rfl) (Nat.le_of_ble_eq_true rfl))))))))))))
theorem x33_129 {p : Nat} {x1 : Int32} : wp Ln xs 33 129 [.ref p, .int x1] [] (u, ml_h m lm) Φ = Φ (.inl none) (u, ml_h m lm) := wp_fin (v := none) xd33_129 (Or.inr rfl) rfl rfl
/- PickedForms$Rows.step -/
theorem xd34_0 : decode (mj_b 34) 0 = .ok (.iload_n 1, 1) := by decide +kernel
theorem xd34_1 : decode (mj_b 34) 1 = .ok (.iload_n 0, 1) := by decide +kernel
theorem xd34_2 : decode (mj_b 34) 2 = .ok (.isub, 1) := by decide +kernel
theorem xd34_3 : decode (mj_b 34) 3 = .ok (.istore_n 2, 1) := by decide +kernel
theorem xd34_4 : decode (mj_b 34) 4 = .ok (.iload_n 2, 1) := by decide +kernel
theorem xd34_5 : decode (mj_b 34) 5 = .ok (.ifCond .lt 9, 3) := by decide +kernel
theorem xd34_8 : decode (mj_b 34) 8 = .ok (.iconst 2, 1) := by decide +kernel
theorem xd34_9 : decode (mj_b 34) 9 = .ok (.iload_n 2, 1) := by decide +kernel
theorem xd34_10 : decode (mj_b 34) 10 = .ok (.imul, 1) := by decide +kernel
theorem xd34_11 : decode (mj_b 34) 11 = .ok (.goto 9, 3) := by decide +kernel
theorem xd34_14 : decode (mj_b 34) 14 = .ok (.bipush (-2), 2) := by decide +kernel
theorem xd34_16 : decode (mj_b 34) 16 = .ok (.iload_n 2, 1) := by decide +kernel
theorem xd34_17 : decode (mj_b 34) 17 = .ok (.imul, 1) := by decide +kernel
theorem xd34_18 : decode (mj_b 34) 18 = .ok (.iconst 1, 1) := by decide +kernel
theorem xd34_19 : decode (mj_b 34) 19 = .ok (.isub, 1) := by decide +kernel
theorem xd34_20 : decode (mj_b 34) 20 = .ok (.ireturn, 1) := by decide +kernel
theorem x34_0 {x0 : Int32} {x1 : Int32} : wp Ln xs 34 0 [.int x0, .int x1, mj_hole] [] (u, ml_h m lm) Φ = if (x1 - x0) < (nI 0) then wp Ln xs 34 14 [.int x0, .int x1, .int (x1 - x0)] [] (u, ml_h m lm) Φ else wp Ln xs 34 8 [.int x0, .int x1, .int (x1 - x0)] [] (u, ml_h m lm) Φ := (wp_same xd34_0 (Or.inr rfl) rfl).trans ((wp_same xd34_1 (Or.inr rfl) rfl).trans ((wp_same xd34_2 (Or.inr rfl) rfl).trans ((wp_same (L' := [.int x0, .int x1, .int (x1 - x0)]) xd34_3 (Or.inr rfl) rfl).trans ((wp_same xd34_4 (Or.inr rfl) rfl).trans (wx_if xd34_5 rfl rfl ((x1 - x0) < (nI 0)) mb_lt)))))
theorem x34_8 {x0 : Int32} {x1 : Int32} {x2 : Int32} : wp Ln xs 34 8 [.int x0, .int x1, .int x2] [] (u, ml_h m lm) Φ = Φ (.inl (some (.int ((nI 2) * x2)))) (u, ml_h m lm) := (wp_same (S' := [.int (nI 2)]) xd34_8 (Or.inr rfl) rfl).trans ((wp_same xd34_9 (Or.inr rfl) rfl).trans ((wp_same xd34_10 (Or.inr rfl) rfl).trans ((wx_goto xd34_11 rfl).trans (wp_fin (v := some (.int ((nI 2) * x2))) xd34_20 (Or.inr rfl) rfl (mj_fin_i rfl)))))
theorem x34_14 {x0 : Int32} {x1 : Int32} {x2 : Int32} : wp Ln xs 34 14 [.int x0, .int x1, .int x2] [] (u, ml_h m lm) Φ = Φ (.inl (some (.int ((((-2)) * x2) - (nI 1))))) (u, ml_h m lm) := (wp_same (S' := [.int ((-2))]) xd34_14 (Or.inr rfl) rfl).trans ((wp_same xd34_16 (Or.inr rfl) rfl).trans ((wp_same xd34_17 (Or.inr rfl) rfl).trans ((wp_same (S' := [.int (nI 1), .int (((-2)) * x2)]) xd34_18 (Or.inr rfl) rfl).trans ((wp_same xd34_19 (Or.inr rfl) rfl).trans (wp_fin (v := some (.int ((((-2)) * x2) - (nI 1)))) xd34_20 (Or.inr rfl) rfl (mj_fin_i rfl))))))
/- PickedForms$Shape.addUnlike -/
theorem xd35_0 : decode (mj_b 35) 0 = .ok (.iconst 0, 1) := by decide +kernel
theorem xd35_1 : decode (mj_b 35) 1 = .ok (.istore_n 2, 1) := by decide +kernel
theorem xd35_2 : decode (mj_b 35) 2 = .ok (.iconst 0, 1) := by decide +kernel
theorem xd35_3 : decode (mj_b 35) 3 = .ok (.istore_n 3, 1) := by decide +kernel
theorem xd35_4 : decode (mj_b 35) 4 = .ok (.iload_n 3, 1) := by decide +kernel
theorem xd35_5 : decode (mj_b 35) 5 = .ok (.aload_n 0, 1) := by decide +kernel
theorem xd35_6 : decode (mj_b 35) 6 = .ok (.getfield 15, 3) := by decide +kernel
theorem xd35_9 : decode (mj_b 35) 9 = .ok (.if_icmp .ge 42, 3) := by decide +kernel
theorem xd35_12 : decode (mj_b 35) 12 = .ok (.iload_n 3, 1) := by decide +kernel
theorem xd35_13 : decode (mj_b 35) 13 = .ok (.aload_n 0, 1) := by decide +kernel
theorem xd35_14 : decode (mj_b 35) 14 = .ok (.getfield 9, 3) := by decide +kernel
theorem xd35_17 : decode (mj_b 35) 17 = .ok (.arraylength, 1) := by decide +kernel
theorem xd35_18 : decode (mj_b 35) 18 = .ok (.if_icmp .ge 33, 3) := by decide +kernel
theorem xd35_21 : decode (mj_b 35) 21 = .ok (.aload_n 0, 1) := by decide +kernel
theorem xd35_22 : decode (mj_b 35) 22 = .ok (.getfield 9, 3) := by decide +kernel
theorem xd35_25 : decode (mj_b 35) 25 = .ok (.iload_n 3, 1) := by decide +kernel
theorem xd35_26 : decode (mj_b 35) 26 = .ok (.iaload, 1) := by decide +kernel
theorem xd35_27 : decode (mj_b 35) 27 = .ok (.iload_n 1, 1) := by decide +kernel
theorem xd35_28 : decode (mj_b 35) 28 = .ok (.if_icmp .ne 4, 3) := by decide +kernel
theorem xd35_31 : decode (mj_b 35) 31 = .ok (.return_, 1) := by decide +kernel
theorem xd35_32 : decode (mj_b 35) 32 = .ok (.aload_n 0, 1) := by decide +kernel
theorem xd35_33 : decode (mj_b 35) 33 = .ok (.getfield 9, 3) := by decide +kernel
theorem xd35_36 : decode (mj_b 35) 36 = .ok (.iload_n 3, 1) := by decide +kernel
theorem xd35_37 : decode (mj_b 35) 37 = .ok (.iaload, 1) := by decide +kernel
theorem xd35_38 : decode (mj_b 35) 38 = .ok (.iload_n 1, 1) := by decide +kernel
theorem xd35_39 : decode (mj_b 35) 39 = .ok (.if_icmp .ge 6, 3) := by decide +kernel
theorem xd35_42 : decode (mj_b 35) 42 = .ok (.iinc 2 1, 3) := by decide +kernel
theorem xd35_45 : decode (mj_b 35) 45 = .ok (.iinc 3 1, 3) := by decide +kernel
theorem xd35_48 : decode (mj_b 35) 48 = .ok (.goto (-44), 3) := by decide +kernel
theorem xd35_51 : decode (mj_b 35) 51 = .ok (.aload_n 0, 1) := by decide +kernel
theorem xd35_52 : decode (mj_b 35) 52 = .ok (.getfield 15, 3) := by decide +kernel
theorem xd35_55 : decode (mj_b 35) 55 = .ok (.aload_n 0, 1) := by decide +kernel
theorem xd35_56 : decode (mj_b 35) 56 = .ok (.getfield 9, 3) := by decide +kernel
theorem xd35_59 : decode (mj_b 35) 59 = .ok (.arraylength, 1) := by decide +kernel
theorem xd35_60 : decode (mj_b 35) 60 = .ok (.if_icmp .lt 4, 3) := by decide +kernel
theorem xd35_63 : decode (mj_b 35) 63 = .ok (.return_, 1) := by decide +kernel
theorem xd35_64 : decode (mj_b 35) 64 = .ok (.aload_n 0, 1) := by decide +kernel
theorem xd35_65 : decode (mj_b 35) 65 = .ok (.getfield 15, 3) := by decide +kernel
theorem xd35_68 : decode (mj_b 35) 68 = .ok (.istore_n 3, 1) := by decide +kernel
theorem xd35_69 : decode (mj_b 35) 69 = .ok (.iload_n 3, 1) := by decide +kernel
theorem xd35_70 : decode (mj_b 35) 70 = .ok (.iload_n 2, 1) := by decide +kernel
theorem xd35_71 : decode (mj_b 35) 71 = .ok (.if_icmp .le 23, 3) := by decide +kernel
theorem xd35_74 : decode (mj_b 35) 74 = .ok (.aload_n 0, 1) := by decide +kernel
theorem xd35_75 : decode (mj_b 35) 75 = .ok (.getfield 9, 3) := by decide +kernel
theorem xd35_78 : decode (mj_b 35) 78 = .ok (.iload_n 3, 1) := by decide +kernel
theorem xd35_79 : decode (mj_b 35) 79 = .ok (.aload_n 0, 1) := by decide +kernel
theorem xd35_80 : decode (mj_b 35) 80 = .ok (.getfield 9, 3) := by decide +kernel
theorem xd35_83 : decode (mj_b 35) 83 = .ok (.iload_n 3, 1) := by decide +kernel
theorem xd35_84 : decode (mj_b 35) 84 = .ok (.iconst 1, 1) := by decide +kernel
theorem xd35_85 : decode (mj_b 35) 85 = .ok (.isub, 1) := by decide +kernel
theorem xd35_86 : decode (mj_b 35) 86 = .ok (.iaload, 1) := by decide +kernel
theorem xd35_87 : decode (mj_b 35) 87 = .ok (.iastore, 1) := by decide +kernel
theorem xd35_88 : decode (mj_b 35) 88 = .ok (.iinc 3 (-1), 3) := by decide +kernel
theorem xd35_91 : decode (mj_b 35) 91 = .ok (.goto (-22), 3) := by decide +kernel
theorem xd35_94 : decode (mj_b 35) 94 = .ok (.aload_n 0, 1) := by decide +kernel
theorem xd35_95 : decode (mj_b 35) 95 = .ok (.getfield 9, 3) := by decide +kernel
theorem xd35_98 : decode (mj_b 35) 98 = .ok (.iload_n 2, 1) := by decide +kernel
theorem xd35_99 : decode (mj_b 35) 99 = .ok (.iload_n 1, 1) := by decide +kernel
theorem xd35_100 : decode (mj_b 35) 100 = .ok (.iastore, 1) := by decide +kernel
theorem xd35_101 : decode (mj_b 35) 101 = .ok (.aload_n 0, 1) := by decide +kernel
theorem xd35_102 : decode (mj_b 35) 102 = .ok (.dup, 1) := by decide +kernel
theorem xd35_103 : decode (mj_b 35) 103 = .ok (.getfield 15, 3) := by decide +kernel
theorem xd35_106 : decode (mj_b 35) 106 = .ok (.iconst 1, 1) := by decide +kernel
theorem xd35_107 : decode (mj_b 35) 107 = .ok (.iadd, 1) := by decide +kernel
theorem xd35_108 : decode (mj_b 35) 108 = .ok (.putfield 15, 3) := by decide +kernel
theorem xd35_111 : decode (mj_b 35) 111 = .ok (.return_, 1) := by decide +kernel
theorem x35_0 {p : Nat} {x1 : Int32} : wp Ln xs 35 0 [.ref p, .int x1, mj_hole, mj_hole] [] (u, ml_h m lm) Φ = wp Ln xs 35 4 [.ref p, .int x1, .int (nI 0), .int (nI 0)] [] (u, ml_h m lm) Φ := (wp_same (S' := [.int (nI 0)]) xd35_0 (Or.inr rfl) rfl).trans ((wp_same (L' := [.ref p, .int x1, .int (nI 0), mj_hole]) xd35_1 (Or.inr rfl) rfl).trans ((wp_same (S' := [.int (nI 0)]) xd35_2 (Or.inr rfl) rfl).trans (wp_same (L' := [.ref p, .int x1, .int (nI 0), .int (nI 0)]) xd35_3 (Or.inr rfl) rfl)))
theorem x35_4 {p : Nat} {x1 : Int32} {x2 : Int32} {x3 : Int32} (hp : ml_sh p) : wp Ln xs 35 4 [.ref p, .int x1, .int x2, .int x3] [] (u, ml_h m lm) Φ = if (m p 1) ≤ x3 then wp Ln xs 35 51 [.ref p, .int x1, .int x2, .int x3] [] (u, ml_h m lm) Φ else wp Ln xs 35 12 [.ref p, .int x1, .int x2, .int x3] [] (u, ml_h m lm) Φ := (wp_same xd35_4 (Or.inr rfl) rfl).trans ((wp_same xd35_5 (Or.inr rfl) rfl).trans ((wm_geti xd35_6 rfl hp.1 rfl (Nat.le_of_ble_eq_true rfl)).trans (wx_icmp xd35_9 rfl rfl ((m p 1) ≤ x3) mb_ge)))
theorem x35_12 {p : Nat} {x1 : Int32} {x2 : Int32} {x3 : Int32} (hp : ml_sh p) : wp Ln xs 35 12 [.ref p, .int x1, .int x2, .int x3] [] (u, ml_h m lm) Φ = if (nI 16) ≤ x3 then wp Ln xs 35 51 [.ref p, .int x1, .int x2, .int x3] [] (u, ml_h m lm) Φ else wp Ln xs 35 21 [.ref p, .int x1, .int x2, .int x3] [] (u, ml_h m lm) Φ := (wp_same xd35_12 (Or.inr rfl) rfl).trans ((wp_same xd35_13 (Or.inr rfl) rfl).trans ((wm_getr xd35_14 rfl hp.1 rfl (Nat.le_of_ble_eq_true rfl)).trans ((wm_alenk xd35_17 (ml_sh_ia hp) (Nat.succ_ne_zero _) (ml_sh_n hp)).trans (wx_icmp xd35_18 rfl rfl ((nI 16) ≤ x3) mb_ge))))
theorem x35_21 {p : Nat} {x1 : Int32} {x2 : Int32} {x3 : Int32} (hp : ml_sh p) : wp Ln xs 35 21 [.ref p, .int x1, .int x2, .int x3] [] (u, ml_h m lm) Φ = wp Ln xs 35 26 [.ref p, .int x1, .int x2, .int x3] [.int x3, .ref (p + 1)] (u, ml_h m lm) Φ := (wp_same xd35_21 (Or.inr rfl) rfl).trans ((wm_getr xd35_22 rfl hp.1 rfl (Nat.le_of_ble_eq_true rfl)).trans (wp_same xd35_25 (Or.inr rfl) rfl))
theorem x35_26 {p : Nat} {x1 : Int32} {x2 : Int32} {x3 : Int32} {k : Nat} (hp : ml_sh p) (hk : k < 16) : wp Ln xs 35 26 [.ref p, .int x1, .int x2, .int x3] [.int (nI k), .ref (p + 1)] (u, ml_h m lm) Φ = if ¬ (m (p + 1) k) = x1 then wp Ln xs 35 32 [.ref p, .int x1, .int x2, .int x3] [] (u, ml_h m lm) Φ else wp Ln xs 35 31 [.ref p, .int x1, .int x2, .int x3] [] (u, ml_h m lm) Φ := (wm_iald (k := k) xd35_26 (ml_sh_ia hp) (Nat.succ_ne_zero _) (show k < ml_n (p + 1) from (ml_sh_n hp).symm ▸ hk)).trans ((wp_same xd35_27 (Or.inr rfl) rfl).trans (wx_icmp xd35_28 rfl rfl (¬ (m (p + 1) k) = x1) mb_ne))
theorem x35_31 {p : Nat} {x1 : Int32} {x2 : Int32} {x3 : Int32} : wp Ln xs 35 31 [.ref p, .int x1, .int x2, .int x3] [] (u, ml_h m lm) Φ = Φ (.inl none) (u, ml_h m lm) := wp_fin (v := none) xd35_31 (Or.inr rfl) rfl rfl
theorem x35_32 {p : Nat} {x1 : Int32} {x2 : Int32} {x3 : Int32} (hp : ml_sh p) : wp Ln xs 35 32 [.ref p, .int x1, .int x2, .int x3] [] (u, ml_h m lm) Φ = wp Ln xs 35 37 [.ref p, .int x1, .int x2, .int x3] [.int x3, .ref (p + 1)] (u, ml_h m lm) Φ := (wp_same xd35_32 (Or.inr rfl) rfl).trans ((wm_getr xd35_33 rfl hp.1 rfl (Nat.le_of_ble_eq_true rfl)).trans (wp_same xd35_36 (Or.inr rfl) rfl))
theorem x35_37 {p : Nat} {x1 : Int32} {x2 : Int32} {x3 : Int32} {k : Nat} (hp : ml_sh p) (hk : k < 16) : wp Ln xs 35 37 [.ref p, .int x1, .int x2, .int x3] [.int (nI k), .ref (p + 1)] (u, ml_h m lm) Φ = if x1 ≤ (m (p + 1) k) then wp Ln xs 35 45 [.ref p, .int x1, .int x2, .int x3] [] (u, ml_h m lm) Φ else wp Ln xs 35 42 [.ref p, .int x1, .int x2, .int x3] [] (u, ml_h m lm) Φ := (wm_iald (k := k) xd35_37 (ml_sh_ia hp) (Nat.succ_ne_zero _) (show k < ml_n (p + 1) from (ml_sh_n hp).symm ▸ hk)).trans ((wp_same xd35_38 (Or.inr rfl) rfl).trans (wx_icmp xd35_39 rfl rfl (x1 ≤ (m (p + 1) k)) mb_ge))
theorem x35_42 {p : Nat} {x1 : Int32} {x2 : Int32} {x3 : Int32} : wp Ln xs 35 42 [.ref p, .int x1, .int x2, .int x3] [] (u, ml_h m lm) Φ = wp Ln xs 35 45 [.ref p, .int x1, .int (x2 + nI 1), .int x3] [] (u, ml_h m lm) Φ := wp_same (L' := [.ref p, .int x1, .int (x2 + nI 1), .int x3]) xd35_42 (Or.inr rfl) rfl
theorem x35_45 {p : Nat} {x1 : Int32} {x2 : Int32} {x3 : Int32} : wp Ln xs 35 45 [.ref p, .int x1, .int x2, .int x3] [] (u, ml_h m lm) Φ = wp Ln xs 35 4 [.ref p, .int x1, .int x2, .int (x3 + nI 1)] [] (u, ml_h m lm) Φ := (wp_same (L' := [.ref p, .int x1, .int x2, .int (x3 + nI 1)]) xd35_45 (Or.inr rfl) rfl).trans (wx_goto xd35_48 rfl)
theorem x35_51 {p : Nat} {x1 : Int32} {x2 : Int32} {x3 : Int32} (hp : ml_sh p) : wp Ln xs 35 51 [.ref p, .int x1, .int x2, .int x3] [] (u, ml_h m lm) Φ = if (m p 1) < (nI 16) then wp Ln xs 35 64 [.ref p, .int x1, .int x2, .int x3] [] (u, ml_h m lm) Φ else wp Ln xs 35 63 [.ref p, .int x1, .int x2, .int x3] [] (u, ml_h m lm) Φ := (wp_same xd35_51 (Or.inr rfl) rfl).trans ((wm_geti xd35_52 rfl hp.1 rfl (Nat.le_of_ble_eq_true rfl)).trans ((wp_same xd35_55 (Or.inr rfl) rfl).trans ((wm_getr xd35_56 rfl hp.1 rfl (Nat.le_of_ble_eq_true rfl)).trans ((wm_alenk xd35_59 (ml_sh_ia hp) (Nat.succ_ne_zero _) (ml_sh_n hp)).trans (wx_icmp xd35_60 rfl rfl ((m p 1) < (nI 16)) mb_lt)))))
theorem x35_63 {p : Nat} {x1 : Int32} {x2 : Int32} {x3 : Int32} : wp Ln xs 35 63 [.ref p, .int x1, .int x2, .int x3] [] (u, ml_h m lm) Φ = Φ (.inl none) (u, ml_h m lm) := wp_fin (v := none) xd35_63 (Or.inr rfl) rfl rfl
theorem x35_64 {p : Nat} {x1 : Int32} {x2 : Int32} {x3 : Int32} (hp : ml_sh p) : wp Ln xs 35 64 [.ref p, .int x1, .int x2, .int x3] [] (u, ml_h m lm) Φ = wp Ln xs 35 69 [.ref p, .int x1, .int x2, .int (m p 1)] [] (u, ml_h m lm) Φ := (wp_same xd35_64 (Or.inr rfl) rfl).trans ((wm_geti xd35_65 rfl hp.1 rfl (Nat.le_of_ble_eq_true rfl)).trans (wp_same (L' := [.ref p, .int x1, .int x2, .int (m p 1)]) xd35_68 (Or.inr rfl) rfl))
theorem x35_69 {p : Nat} {x1 : Int32} {x2 : Int32} {x3 : Int32} : wp Ln xs 35 69 [.ref p, .int x1, .int x2, .int x3] [] (u, ml_h m lm) Φ = if x3 ≤ x2 then wp Ln xs 35 94 [.ref p, .int x1, .int x2, .int x3] [] (u, ml_h m lm) Φ else wp Ln xs 35 74 [.ref p, .int x1, .int x2, .int x3] [] (u, ml_h m lm) Φ := (wp_same xd35_69 (Or.inr rfl) rfl).trans ((wp_same xd35_70 (Or.inr rfl) rfl).trans (wx_icmp xd35_71 rfl rfl (x3 ≤ x2) mb_le))
theorem x35_74 {p : Nat} {x1 : Int32} {x2 : Int32} {x3 : Int32} (hp : ml_sh p) : wp Ln xs 35 74 [.ref p, .int x1, .int x2, .int x3] [] (u, ml_h m lm) Φ = wp Ln xs 35 86 [.ref p, .int x1, .int x2, .int x3] [.int (x3 - (nI 1)), .ref (p + 1), .int x3, .ref (p + 1)] (u, ml_h m lm) Φ := (wp_same xd35_74 (Or.inr rfl) rfl).trans ((wm_getr xd35_75 rfl hp.1 rfl (Nat.le_of_ble_eq_true rfl)).trans ((wp_same xd35_78 (Or.inr rfl) rfl).trans ((wp_same xd35_79 (Or.inr rfl) rfl).trans ((wm_getr xd35_80 rfl hp.1 rfl (Nat.le_of_ble_eq_true rfl)).trans ((wp_same xd35_83 (Or.inr rfl) rfl).trans ((wp_same (S' := [.int (nI 1), .int x3, .ref (p + 1), .int x3, .ref (p + 1)]) xd35_84 (Or.inr rfl) rfl).trans (wp_same xd35_85 (Or.inr rfl) rfl)))))))
theorem x35_86 {p : Nat} {x1 : Int32} {x2 : Int32} {x3 : Int32} {k : Nat} {xs2 : Int32} (hp : ml_sh p) (hk : k < 16) : wp Ln xs 35 86 [.ref p, .int x1, .int x2, .int x3] [.int (nI k), .ref (p + 1), .int xs2, .ref (p + 1)] (u, ml_h m lm) Φ = wp Ln xs 35 87 [.ref p, .int x1, .int x2, .int x3] [.int (m (p + 1) k), .int xs2, .ref (p + 1)] (u, ml_h m lm) Φ := wm_iald (k := k) xd35_86 (ml_sh_ia hp) (Nat.succ_ne_zero _) (show k < ml_n (p + 1) from (ml_sh_n hp).symm ▸ hk)
theorem x35_87 {p : Nat} {x1 : Int32} {x2 : Int32} {x3 : Int32} {xs0 : Int32} {k : Nat} (hp : ml_sh p) (hk : k < 16) : wp Ln xs 35 87 [.ref p, .int x1, .int x2, .int x3] [.int xs0, .int (nI k), .ref (p + 1)] (u, ml_h m lm) Φ = wp Ln xs 35 69 [.ref p, .int x1, .int x2, .int (x3 + (-1))] [] (u, ml_h (ml_s m (p + 1) k xs0) lm) Φ := (wm_iast (k := k) xd35_87 (ml_sh_ia hp) (show k < ml_n (p + 1) from (ml_sh_n hp).symm ▸ hk)).trans ((wp_same (L' := [.ref p, .int x1, .int x2, .int (x3 + (-1))]) xd35_88 (Or.inr rfl) rfl).trans (wx_goto xd35_91 rfl))
theorem x35_94 {p : Nat} {x1 : Int32} {x2 : Int32} {x3 : Int32} (hp : ml_sh p) : wp Ln xs 35 94 [.ref p, .int x1, .int x2, .int x3] [] (u, ml_h m lm) Φ = wp Ln xs 35 100 [.ref p, .int x1, .int x2, .int x3] [.int x1, .int x2, .ref (p + 1)] (u, ml_h m lm) Φ := (wp_same xd35_94 (Or.inr rfl) rfl).trans ((wm_getr xd35_95 rfl hp.1 rfl (Nat.le_of_ble_eq_true rfl)).trans ((wp_same xd35_98 (Or.inr rfl) rfl).trans (wp_same xd35_99 (Or.inr rfl) rfl)))
theorem x35_100 {p : Nat} {x1 : Int32} {x2 : Int32} {x3 : Int32} {xs0 : Int32} {k : Nat} (hp : ml_sh p) (hk : k < 16) : wp Ln xs 35 100 [.ref p, .int x1, .int x2, .int x3] [.int xs0, .int (nI k), .ref (p + 1)] (u, ml_h m lm) Φ = Φ (.inl none) (u, ml_h (ml_s (ml_s m (p + 1) k xs0) p 1 (((ml_s m (p + 1) k xs0) p 1) + (nI 1))) lm) := (wm_iast (k := k) xd35_100 (ml_sh_ia hp) (show k < ml_n (p + 1) from (ml_sh_n hp).symm ▸ hk)).trans ((wp_same xd35_101 (Or.inr rfl) rfl).trans ((wp_same xd35_102 (Or.inr rfl) rfl).trans ((wm_geti xd35_103 rfl hp.1 rfl (Nat.le_of_ble_eq_true rfl)).trans ((wp_same (S' := [.int (nI 1), .int ((ml_s m (p + 1) k xs0) p 1), .ref p]) xd35_106 (Or.inr rfl) rfl).trans ((wp_same xd35_107 (Or.inr rfl) rfl).trans ((wm_puti xd35_108 rfl hp.1 rfl (Nat.le_of_ble_eq_true rfl) rfl rfl rfl).trans (wp_fin (v := none) xd35_111 (Or.inr rfl) rfl rfl)))))))
end MXb
