/-! ===== an equation for each straight piece of a method ===== -/
section MXc
variable {Ln : Nat} {xs : Nat → Int32} {u : mj_U} {m : ml_M} {lm : ml_J} {Φ : mj_R → mj_W → Prop}
/- PickedForms.block -/
theorem xd56_0 : decode (mj_b 56) 0 = .ok (.aload_n 0, 1) := by decide +kernel
theorem xd56_1 : decode (mj_b 56) 1 = .ok (.getfield 12, 3) := by decide +kernel
theorem xd56_4 : decode (mj_b 56) 4 = .ok (.iload_n 1, 1) := by decide +kernel
theorem xd56_5 : decode (mj_b 56) 5 = .ok (.invokevirtual 154, 3) := by decide +kernel
theorem xd56_8 : decode (mj_b 56) 8 = .ok (.ifCond .ne 13, 3) := by decide +kernel
theorem xd56_11 : decode (mj_b 56) 11 = .ok (.new 130, 3) := by decide +kernel
theorem xd56_21 : decode (mj_b 56) 21 = .ok (.iload_n 2, 1) := by decide +kernel
theorem xd56_22 : decode (mj_b 56) 22 = .ok (.ifCond .lt 9, 3) := by decide +kernel
theorem xd56_25 : decode (mj_b 56) 25 = .ok (.iload_n 2, 1) := by decide +kernel
theorem xd56_26 : decode (mj_b 56) 26 = .ok (.bipush 9, 2) := by decide +kernel
theorem xd56_28 : decode (mj_b 56) 28 = .ok (.if_icmp .le 14, 3) := by decide +kernel
theorem xd56_31 : decode (mj_b 56) 31 = .ok (.new 80, 3) := by decide +kernel
theorem xd56_42 : decode (mj_b 56) 42 = .ok (.aload_n 0, 1) := by decide +kernel
theorem xd56_43 : decode (mj_b 56) 43 = .ok (.iload_n 1, 1) := by decide +kernel
theorem xd56_44 : decode (mj_b 56) 44 = .ok (.iload_n 2, 1) := by decide +kernel
theorem xd56_45 : decode (mj_b 56) 45 = .ok (.invokevirtual 260, 3) := by decide +kernel
theorem xd56_48 : decode (mj_b 56) 48 = .ok (.ireturn, 1) := by decide +kernel
theorem x56_0 {x1 : Int32} {x2 : Int32} : wp Ln xs 56 0 [.ref 1, .int x1, .int x2] [] (u, ml_h m lm) Φ = wp Ln xs 11 0 [.ref 2, .int x1] [] (u, ml_h m lm) (mk Ln xs 56 5 [.ref 1, .int x1, .int x2] [] Φ) := (wp_same xd56_0 (Or.inr rfl) rfl).trans ((wm_getr xd56_1 rfl (show ml_L[1]? = _ from rfl) rfl (Nat.le_of_ble_eq_true rfl)).trans ((wp_same xd56_4 (Or.inr rfl) rfl).trans (wm_cv (As := [.int x1]) (rest := []) xd56_5 rfl rfl (show ml_L[2]? = _ from rfl) (Nat.le_of_ble_eq_true rfl) (Nat.le_of_ble_eq_true rfl) (Nat.le_of_ble_eq_true rfl) (Nat.le_of_ble_eq_true rfl))))
theorem x56_8 {x1 : Int32} {x2 : Int32} {xs0 : Int32} : wp Ln xs 56 8 [.ref 1, .int x1, .int x2] [.int xs0] (u, ml_h m lm) Φ = if ¬ xs0 = (nI 0) then wp Ln xs 56 21 [.ref 1, .int x1, .int x2] [] (u, ml_h m lm) Φ else wp Ln xs 56 11 [.ref 1, .int x1, .int x2] [] (u, ml_h m lm) Φ := wx_if xd56_8 rfl rfl (¬ xs0 = (nI 0)) mb_ne
theorem x56_11 {x1 : Int32} {x2 : Int32} : wp Ln xs 56 11 [.ref 1, .int x1, .int x2] [] (u, ml_h m lm) Φ = Φ (.inr 2) ((u.1, u.2.1 + 1, u.2.2 + 6), ml_h m lm) := wp_thr xd56_11 (Or.inr rfl) rfl rfl (E := 2) (by decide +kernel)
theorem x56_21 {x1 : Int32} {x2 : Int32} : wp Ln xs 56 21 [.ref 1, .int x1, .int x2] [] (u, ml_h m lm) Φ = if x2 < (nI 0) then wp Ln xs 56 31 [.ref 1, .int x1, .int x2] [] (u, ml_h m lm) Φ else wp Ln xs 56 25 [.ref 1, .int x1, .int x2] [] (u, ml_h m lm) Φ := (wp_same xd56_21 (Or.inr rfl) rfl).trans (wx_if xd56_22 rfl rfl (x2 < (nI 0)) mb_lt)
theorem x56_25 {x1 : Int32} {x2 : Int32} : wp Ln xs 56 25 [.ref 1, .int x1, .int x2] [] (u, ml_h m lm) Φ = if x2 ≤ (nI 9) then wp Ln xs 56 42 [.ref 1, .int x1, .int x2] [] (u, ml_h m lm) Φ else wp Ln xs 56 31 [.ref 1, .int x1, .int x2] [] (u, ml_h m lm) Φ := (wp_same xd56_25 (Or.inr rfl) rfl).trans ((wp_same (S' := [.int (nI 9), .int x2]) xd56_26 (Or.inr rfl) rfl).trans (wx_icmp xd56_28 rfl rfl (x2 ≤ (nI 9)) mb_le))
theorem x56_31 {x1 : Int32} {x2 : Int32} : wp Ln xs 56 31 [.ref 1, .int x1, .int x2] [] (u, ml_h m lm) Φ = Φ (.inr 0) ((u.1, u.2.1 + 1, u.2.2 + 6), ml_h m lm) := wp_thr xd56_31 (Or.inr rfl) rfl rfl (E := 0) (by decide +kernel)
theorem x56_42 {x1 : Int32} {x2 : Int32} : wp Ln xs 56 42 [.ref 1, .int x1, .int x2] [] (u, ml_h m lm) Φ = wp Ln xs 57 0 [.ref 1, .int x1, .int x2] [] (u, ml_h m lm) (mk Ln xs 56 45 [.ref 1, .int x1, .int x2] [] Φ) := (wp_same xd56_42 (Or.inr rfl) rfl).trans ((wp_same xd56_43 (Or.inr rfl) rfl).trans ((wp_same xd56_44 (Or.inr rfl) rfl).trans (wm_cv (As := [.int x1, .int x2]) (rest := []) xd56_45 rfl rfl (show ml_L[1]? = _ from rfl) (Nat.le_of_ble_eq_true rfl) (Nat.le_of_ble_eq_true rfl) (Nat.le_of_ble_eq_true rfl) (Nat.le_of_ble_eq_true rfl))))
theorem x56_48 {x1 : Int32} {x2 : Int32} {xs0 : Int32} : wp Ln xs 56 48 [.ref 1, .int x1, .int x2] [.int xs0] (u, ml_h m lm) Φ = Φ (.inl (some (.int xs0))) (u, ml_h m lm) := wp_fin (v := some (.int xs0)) xd56_48 (Or.inr rfl) rfl (mj_fin_i rfl)
/- PickedForms.blockNumber -/
theorem xd57_0 : decode (mj_b 57) 0 = .ok (.aload_n 0, 1) := by decide +kernel
theorem xd57_1 : decode (mj_b 57) 1 = .ok (.iload_n 1, 1) := by decide +kernel
theorem xd57_2 : decode (mj_b 57) 2 = .ok (.invokevirtual 265, 3) := by decide +kernel
theorem xd57_5 : decode (mj_b 57) 5 = .ok (.iload_n 2, 1) := by decide +kernel
theorem xd57_6 : decode (mj_b 57) 6 = .ok (.tableswitch 170 0 8 #[50, 59, 68, 84, 93, 101, 109, 117, 125], 50) := by decide +kernel
theorem xd57_56 : decode (mj_b 57) 56 = .ok (.aload_n 0, 1) := by decide +kernel
theorem xd57_57 : decode (mj_b 57) 57 = .ok (.getfield 12, 3) := by decide +kernel
theorem xd57_60 : decode (mj_b 57) 60 = .ok (.iload_n 1, 1) := by decide +kernel
theorem xd57_61 : decode (mj_b 57) 61 = .ok (.invokevirtual 123, 3) := by decide +kernel
theorem xd57_64 : decode (mj_b 57) 64 = .ok (.ireturn, 1) := by decide +kernel
theorem xd57_65 : decode (mj_b 57) 65 = .ok (.aload_n 0, 1) := by decide +kernel
theorem xd57_66 : decode (mj_b 57) 66 = .ok (.getfield 12, 3) := by decide +kernel
theorem xd57_69 : decode (mj_b 57) 69 = .ok (.iload_n 1, 1) := by decide +kernel
theorem xd57_70 : decode (mj_b 57) 70 = .ok (.invokevirtual 164, 3) := by decide +kernel
theorem xd57_73 : decode (mj_b 57) 73 = .ok (.ireturn, 1) := by decide +kernel
theorem xd57_74 : decode (mj_b 57) 74 = .ok (.aload_n 0, 1) := by decide +kernel
theorem xd57_75 : decode (mj_b 57) 75 = .ok (.getfield 40, 3) := by decide +kernel
theorem xd57_78 : decode (mj_b 57) 78 = .ok (.aload_n 0, 1) := by decide +kernel
theorem xd57_79 : decode (mj_b 57) 79 = .ok (.getfield 12, 3) := by decide +kernel
theorem xd57_82 : decode (mj_b 57) 82 = .ok (.iload_n 1, 1) := by decide +kernel
theorem xd57_83 : decode (mj_b 57) 83 = .ok (.invokevirtual 123, 3) := by decide +kernel
theorem xd57_86 : decode (mj_b 57) 86 = .ok (.invokevirtual 268, 3) := by decide +kernel
theorem xd57_89 : decode (mj_b 57) 89 = .ok (.ireturn, 1) := by decide +kernel
theorem xd57_90 : decode (mj_b 57) 90 = .ok (.aload_n 0, 1) := by decide +kernel
theorem xd57_91 : decode (mj_b 57) 91 = .ok (.getfield 12, 3) := by decide +kernel
theorem xd57_94 : decode (mj_b 57) 94 = .ok (.iload_n 1, 1) := by decide +kernel
theorem xd57_95 : decode (mj_b 57) 95 = .ok (.invokevirtual 159, 3) := by decide +kernel
theorem xd57_98 : decode (mj_b 57) 98 = .ok (.ireturn, 1) := by decide +kernel
theorem xd57_99 : decode (mj_b 57) 99 = .ok (.aload_n 0, 1) := by decide +kernel
theorem xd57_100 : decode (mj_b 57) 100 = .ok (.getfield 40, 3) := by decide +kernel
theorem xd57_103 : decode (mj_b 57) 103 = .ok (.getfield 392, 3) := by decide +kernel
theorem xd57_106 : decode (mj_b 57) 106 = .ok (.ireturn, 1) := by decide +kernel
theorem xd57_107 : decode (mj_b 57) 107 = .ok (.aload_n 0, 1) := by decide +kernel
theorem xd57_108 : decode (mj_b 57) 108 = .ok (.getfield 40, 3) := by decide +kernel
theorem xd57_111 : decode (mj_b 57) 111 = .ok (.getfield 395, 3) := by decide +kernel
theorem xd57_114 : decode (mj_b 57) 114 = .ok (.ireturn, 1) := by decide +kernel
theorem xd57_115 : decode (mj_b 57) 115 = .ok (.aload_n 0, 1) := by decide +kernel
theorem xd57_116 : decode (mj_b 57) 116 = .ok (.getfield 40, 3) := by decide +kernel
theorem xd57_119 : decode (mj_b 57) 119 = .ok (.getfield 389, 3) := by decide +kernel
theorem xd57_122 : decode (mj_b 57) 122 = .ok (.ireturn, 1) := by decide +kernel
theorem xd57_123 : decode (mj_b 57) 123 = .ok (.aload_n 0, 1) := by decide +kernel
theorem xd57_124 : decode (mj_b 57) 124 = .ok (.getfield 40, 3) := by decide +kernel
theorem xd57_127 : decode (mj_b 57) 127 = .ok (.getfield 398, 3) := by decide +kernel
theorem xd57_130 : decode (mj_b 57) 130 = .ok (.ireturn, 1) := by decide +kernel
theorem xd57_131 : decode (mj_b 57) 131 = .ok (.aload_n 0, 1) := by decide +kernel
theorem xd57_132 : decode (mj_b 57) 132 = .ok (.getfield 47, 3) := by decide +kernel
theorem xd57_135 : decode (mj_b 57) 135 = .ok (.aload_n 0, 1) := by decide +kernel
theorem xd57_136 : decode (mj_b 57) 136 = .ok (.getfield 12, 3) := by decide +kernel
theorem xd57_139 : decode (mj_b 57) 139 = .ok (.getfield 139, 3) := by decide +kernel
theorem xd57_142 : decode (mj_b 57) 142 = .ok (.aload_n 0, 1) := by decide +kernel
theorem xd57_143 : decode (mj_b 57) 143 = .ok (.getfield 12, 3) := by decide +kernel
theorem xd57_146 : decode (mj_b 57) 146 = .ok (.iload_n 1, 1) := by decide +kernel
theorem xd57_147 : decode (mj_b 57) 147 = .ok (.invokevirtual 182, 3) := by decide +kernel
theorem xd57_150 : decode (mj_b 57) 150 = .ok (.aload_n 0, 1) := by decide +kernel
theorem xd57_151 : decode (mj_b 57) 151 = .ok (.getfield 12, 3) := by decide +kernel
theorem xd57_154 : decode (mj_b 57) 154 = .ok (.iload_n 1, 1) := by decide +kernel
theorem xd57_155 : decode (mj_b 57) 155 = .ok (.invokevirtual 164, 3) := by decide +kernel
theorem xd57_158 : decode (mj_b 57) 158 = .ok (.aload_n 0, 1) := by decide +kernel
theorem xd57_159 : decode (mj_b 57) 159 = .ok (.getfield 12, 3) := by decide +kernel
theorem xd57_162 : decode (mj_b 57) 162 = .ok (.getfield 203, 3) := by decide +kernel
theorem xd57_165 : decode (mj_b 57) 165 = .ok (.invokevirtual 360, 3) := by decide +kernel
theorem xd57_168 : decode (mj_b 57) 168 = .ok (.aload_n 0, 1) := by decide +kernel
theorem xd57_169 : decode (mj_b 57) 169 = .ok (.getfield 47, 3) := by decide +kernel
theorem xd57_172 : decode (mj_b 57) 172 = .ok (.getfield 367, 3) := by decide +kernel
theorem xd57_175 : decode (mj_b 57) 175 = .ok (.ireturn, 1) := by decide +kernel
theorem xd57_176 : decode (mj_b 57) 176 = .ok (.aload_n 0, 1) := by decide +kernel
theorem xd57_177 : decode (mj_b 57) 177 = .ok (.getfield 12, 3) := by decide +kernel
theorem xd57_180 : decode (mj_b 57) 180 = .ok (.iload_n 1, 1) := by decide +kernel
theorem xd57_181 : decode (mj_b 57) 181 = .ok (.invokevirtual 182, 3) := by decide +kernel
theorem xd57_184 : decode (mj_b 57) 184 = .ok (.ireturn, 1) := by decide +kernel
theorem x57_0 {x1 : Int32} {x2 : Int32} : wp Ln xs 57 0 [.ref 1, .int x1, .int x2] [] (u, ml_h m lm) Φ = wp Ln xs 40 0 [.ref 1, .int x1] [] (u, ml_h m lm) (mk Ln xs 57 2 [.ref 1, .int x1, .int x2] [] Φ) := (wp_same xd57_0 (Or.inr rfl) rfl).trans ((wp_same xd57_1 (Or.inr rfl) rfl).trans (wm_cv (As := [.int x1]) (rest := []) xd57_2 rfl rfl (show ml_L[1]? = _ from rfl) (Nat.le_of_ble_eq_true rfl) (Nat.le_of_ble_eq_true rfl) (Nat.le_of_ble_eq_true rfl) (Nat.le_of_ble_eq_true rfl)))
theorem x57_5 {x1 : Int32} {x2 : Int32} : wp Ln xs 57 5 [.ref 1, .int x1, .int x2] [] (u, ml_h m lm) Φ = wp Ln xs 57 6 [.ref 1, .int x1, .int x2] [.int x2] (u, ml_h m lm) Φ := wp_same xd57_5 (Or.inr rfl) rfl
theorem x57_6_0 {x1 : Int32} {x2 : Int32} : wp Ln xs 57 6 [.ref 1, .int x1, .int x2] [.int (nI 0)] (u, ml_h m lm) Φ = wp Ln xs 57 56 [.ref 1, .int x1, .int x2] [] (u, ml_h m lm) Φ := wp_same xd57_6 (Or.inl rfl) rfl
theorem x57_6_1 {x1 : Int32} {x2 : Int32} : wp Ln xs 57 6 [.ref 1, .int x1, .int x2] [.int (nI 1)] (u, ml_h m lm) Φ = wp Ln xs 57 65 [.ref 1, .int x1, .int x2] [] (u, ml_h m lm) Φ := wp_same xd57_6 (Or.inl rfl) rfl
theorem x57_6_2 {x1 : Int32} {x2 : Int32} : wp Ln xs 57 6 [.ref 1, .int x1, .int x2] [.int (nI 2)] (u, ml_h m lm) Φ = wp Ln xs 57 74 [.ref 1, .int x1, .int x2] [] (u, ml_h m lm) Φ := wp_same xd57_6 (Or.inl rfl) rfl
theorem x57_6_3 {x1 : Int32} {x2 : Int32} : wp Ln xs 57 6 [.ref 1, .int x1, .int x2] [.int (nI 3)] (u, ml_h m lm) Φ = wp Ln xs 57 90 [.ref 1, .int x1, .int x2] [] (u, ml_h m lm) Φ := wp_same xd57_6 (Or.inl rfl) rfl
theorem x57_6_4 {x1 : Int32} {x2 : Int32} : wp Ln xs 57 6 [.ref 1, .int x1, .int x2] [.int (nI 4)] (u, ml_h m lm) Φ = wp Ln xs 57 99 [.ref 1, .int x1, .int x2] [] (u, ml_h m lm) Φ := wp_same xd57_6 (Or.inl rfl) rfl
theorem x57_6_5 {x1 : Int32} {x2 : Int32} : wp Ln xs 57 6 [.ref 1, .int x1, .int x2] [.int (nI 5)] (u, ml_h m lm) Φ = wp Ln xs 57 107 [.ref 1, .int x1, .int x2] [] (u, ml_h m lm) Φ := wp_same xd57_6 (Or.inl rfl) rfl
theorem x57_6_6 {x1 : Int32} {x2 : Int32} : wp Ln xs 57 6 [.ref 1, .int x1, .int x2] [.int (nI 6)] (u, ml_h m lm) Φ = wp Ln xs 57 115 [.ref 1, .int x1, .int x2] [] (u, ml_h m lm) Φ := wp_same xd57_6 (Or.inl rfl) rfl
theorem x57_6_7 {x1 : Int32} {x2 : Int32} : wp Ln xs 57 6 [.ref 1, .int x1, .int x2] [.int (nI 7)] (u, ml_h m lm) Φ = wp Ln xs 57 123 [.ref 1, .int x1, .int x2] [] (u, ml_h m lm) Φ := wp_same xd57_6 (Or.inl rfl) rfl
theorem x57_6_8 {x1 : Int32} {x2 : Int32} : wp Ln xs 57 6 [.ref 1, .int x1, .int x2] [.int (nI 8)] (u, ml_h m lm) Φ = wp Ln xs 57 131 [.ref 1, .int x1, .int x2] [] (u, ml_h m lm) Φ := wp_same xd57_6 (Or.inl rfl) rfl
theorem x57_6_9 {x1 : Int32} {x2 : Int32} : wp Ln xs 57 6 [.ref 1, .int x1, .int x2] [.int (nI 9)] (u, ml_h m lm) Φ = wp Ln xs 57 176 [.ref 1, .int x1, .int x2] [] (u, ml_h m lm) Φ := wp_same xd57_6 (Or.inl rfl) rfl
theorem x57_6_10 {x1 : Int32} {x2 : Int32} : wp Ln xs 57 6 [.ref 1, .int x1, .int x2] [.int (nI 10)] (u, ml_h m lm) Φ = wp Ln xs 57 176 [.ref 1, .int x1, .int x2] [] (u, ml_h m lm) Φ := wp_same xd57_6 (Or.inl rfl) rfl
theorem x57_6_11 {x1 : Int32} {x2 : Int32} : wp Ln xs 57 6 [.ref 1, .int x1, .int x2] [.int (nI 11)] (u, ml_h m lm) Φ = wp Ln xs 57 176 [.ref 1, .int x1, .int x2] [] (u, ml_h m lm) Φ := wp_same xd57_6 (Or.inl rfl) rfl
theorem x57_56 {x1 : Int32} {x2 : Int32} : wp Ln xs 57 56 [.ref 1, .int x1, .int x2] [] (u, ml_h m lm) Φ = wp Ln xs 42 0 [.ref 2, .int x1] [] (u, ml_h m lm) (mk Ln xs 57 61 [.ref 1, .int x1, .int x2] [] Φ) := (wp_same xd57_56 (Or.inr rfl) rfl).trans ((wm_getr xd57_57 rfl (show ml_L[1]? = _ from rfl) rfl (Nat.le_of_ble_eq_true rfl)).trans ((wp_same xd57_60 (Or.inr rfl) rfl).trans (wm_cv (As := [.int x1]) (rest := []) xd57_61 rfl rfl (show ml_L[2]? = _ from rfl) (Nat.le_of_ble_eq_true rfl) (Nat.le_of_ble_eq_true rfl) (Nat.le_of_ble_eq_true rfl) (Nat.le_of_ble_eq_true rfl))))
theorem x57_64 {x1 : Int32} {x2 : Int32} {xs0 : Int32} : wp Ln xs 57 64 [.ref 1, .int x1, .int x2] [.int xs0] (u, ml_h m lm) Φ = Φ (.inl (some (.int xs0))) (u, ml_h m lm) := wp_fin (v := some (.int xs0)) xd57_64 (Or.inr rfl) rfl (mj_fin_i rfl)
theorem x57_65 {x1 : Int32} {x2 : Int32} : wp Ln xs 57 65 [.ref 1, .int x1, .int x2] [] (u, ml_h m lm) Φ = wp Ln xs 20 0 [.ref 2, .int x1] [] (u, ml_h m lm) (mk Ln xs 57 70 [.ref 1, .int x1, .int x2] [] Φ) := (wp_same xd57_65 (Or.inr rfl) rfl).trans ((wm_getr xd57_66 rfl (show ml_L[1]? = _ from rfl) rfl (Nat.le_of_ble_eq_true rfl)).trans ((wp_same xd57_69 (Or.inr rfl) rfl).trans (wm_cv (As := [.int x1]) (rest := []) xd57_70 rfl rfl (show ml_L[2]? = _ from rfl) (Nat.le_of_ble_eq_true rfl) (Nat.le_of_ble_eq_true rfl) (Nat.le_of_ble_eq_true rfl) (Nat.le_of_ble_eq_true rfl))))
theorem x57_73 {x1 : Int32} {x2 : Int32} {xs0 : Int32} : wp Ln xs 57 73 [.ref 1, .int x1, .int x2] [.int xs0] (u, ml_h m lm) Φ = Φ (.inl (some (.int xs0))) (u, ml_h m lm) := wp_fin (v := some (.int xs0)) xd57_73 (Or.inr rfl) rfl (mj_fin_i rfl)
theorem x57_74 {x1 : Int32} {x2 : Int32} : wp Ln xs 57 74 [.ref 1, .int x1, .int x2] [] (u, ml_h m lm) Φ = wp Ln xs 42 0 [.ref 2, .int x1] [] (u, ml_h m lm) (mk Ln xs 57 83 [.ref 1, .int x1, .int x2] [.ref 56] Φ) := (wp_same xd57_74 (Or.inr rfl) rfl).trans ((wm_getr xd57_75 rfl (show ml_L[1]? = _ from rfl) rfl (Nat.le_of_ble_eq_true rfl)).trans ((wp_same xd57_78 (Or.inr rfl) rfl).trans ((wm_getr xd57_79 rfl (show ml_L[1]? = _ from rfl) rfl (Nat.le_of_ble_eq_true rfl)).trans ((wp_same xd57_82 (Or.inr rfl) rfl).trans (wm_cv (As := [.int x1]) (rest := [.ref 56]) xd57_83 rfl rfl (show ml_L[2]? = _ from rfl) (Nat.le_of_ble_eq_true rfl) (Nat.le_of_ble_eq_true rfl) (Nat.le_of_ble_eq_true rfl) (Nat.le_of_ble_eq_true rfl))))))
theorem x57_86 {x1 : Int32} {x2 : Int32} {xs0 : Int32} : wp Ln xs 57 86 [.ref 1, .int x1, .int x2] [.int xs0, .ref 56] (u, ml_h m lm) Φ = wp Ln xs 27 0 [.ref 56, .int xs0] [] (u, ml_h m lm) (mk Ln xs 57 86 [.ref 1, .int x1, .int x2] [] Φ) := wm_cv (As := [.int xs0]) (rest := []) xd57_86 rfl rfl (show ml_L[56]? = _ from rfl) (Nat.le_of_ble_eq_true rfl) (Nat.le_of_ble_eq_true rfl) (Nat.le_of_ble_eq_true rfl) (Nat.le_of_ble_eq_true rfl)
theorem x57_89 {x1 : Int32} {x2 : Int32} {xs0 : Int32} : wp Ln xs 57 89 [.ref 1, .int x1, .int x2] [.int xs0] (u, ml_h m lm) Φ = Φ (.inl (some (.int xs0))) (u, ml_h m lm) := wp_fin (v := some (.int xs0)) xd57_89 (Or.inr rfl) rfl (mj_fin_i rfl)
theorem x57_90 {x1 : Int32} {x2 : Int32} : wp Ln xs 57 90 [.ref 1, .int x1, .int x2] [] (u, ml_h m lm) Φ = wp Ln xs 16 0 [.ref 2, .int x1] [] (u, ml_h m lm) (mk Ln xs 57 95 [.ref 1, .int x1, .int x2] [] Φ) := (wp_same xd57_90 (Or.inr rfl) rfl).trans ((wm_getr xd57_91 rfl (show ml_L[1]? = _ from rfl) rfl (Nat.le_of_ble_eq_true rfl)).trans ((wp_same xd57_94 (Or.inr rfl) rfl).trans (wm_cv (As := [.int x1]) (rest := []) xd57_95 rfl rfl (show ml_L[2]? = _ from rfl) (Nat.le_of_ble_eq_true rfl) (Nat.le_of_ble_eq_true rfl) (Nat.le_of_ble_eq_true rfl) (Nat.le_of_ble_eq_true rfl))))
theorem x57_98 {x1 : Int32} {x2 : Int32} {xs0 : Int32} : wp Ln xs 57 98 [.ref 1, .int x1, .int x2] [.int xs0] (u, ml_h m lm) Φ = Φ (.inl (some (.int xs0))) (u, ml_h m lm) := wp_fin (v := some (.int xs0)) xd57_98 (Or.inr rfl) rfl (mj_fin_i rfl)
theorem x57_99 {x1 : Int32} {x2 : Int32} : wp Ln xs 57 99 [.ref 1, .int x1, .int x2] [] (u, ml_h m lm) Φ = Φ (.inl (some (.int (m 56 3)))) (u, ml_h m lm) := (wp_same xd57_99 (Or.inr rfl) rfl).trans ((wm_getr xd57_100 rfl (show ml_L[1]? = _ from rfl) rfl (Nat.le_of_ble_eq_true rfl)).trans ((wm_geti xd57_103 rfl (show ml_L[56]? = _ from rfl) rfl (Nat.le_of_ble_eq_true rfl)).trans (wp_fin (v := some (.int (m 56 3))) xd57_106 (Or.inr rfl) rfl (mj_fin_i rfl))))
theorem x57_107 {x1 : Int32} {x2 : Int32} : wp Ln xs 57 107 [.ref 1, .int x1, .int x2] [] (u, ml_h m lm) Φ = Φ (.inl (some (.int (m 56 4)))) (u, ml_h m lm) := (wp_same xd57_107 (Or.inr rfl) rfl).trans ((wm_getr xd57_108 rfl (show ml_L[1]? = _ from rfl) rfl (Nat.le_of_ble_eq_true rfl)).trans ((wm_geti xd57_111 rfl (show ml_L[56]? = _ from rfl) rfl (Nat.le_of_ble_eq_true rfl)).trans (wp_fin (v := some (.int (m 56 4))) xd57_114 (Or.inr rfl) rfl (mj_fin_i rfl))))
theorem x57_115 {x1 : Int32} {x2 : Int32} : wp Ln xs 57 115 [.ref 1, .int x1, .int x2] [] (u, ml_h m lm) Φ = Φ (.inl (some (.int (m 56 5)))) (u, ml_h m lm) := (wp_same xd57_115 (Or.inr rfl) rfl).trans ((wm_getr xd57_116 rfl (show ml_L[1]? = _ from rfl) rfl (Nat.le_of_ble_eq_true rfl)).trans ((wm_geti xd57_119 rfl (show ml_L[56]? = _ from rfl) rfl (Nat.le_of_ble_eq_true rfl)).trans (wp_fin (v := some (.int (m 56 5))) xd57_122 (Or.inr rfl) rfl (mj_fin_i rfl))))
theorem x57_123 {x1 : Int32} {x2 : Int32} : wp Ln xs 57 123 [.ref 1, .int x1, .int x2] [] (u, ml_h m lm) Φ = Φ (.inl (some (.int (m 56 1)))) (u, ml_h m lm) := (wp_same xd57_123 (Or.inr rfl) rfl).trans ((wm_getr xd57_124 rfl (show ml_L[1]? = _ from rfl) rfl (Nat.le_of_ble_eq_true rfl)).trans ((wm_geti xd57_127 rfl (show ml_L[56]? = _ from rfl) rfl (Nat.le_of_ble_eq_true rfl)).trans (wp_fin (v := some (.int (m 56 1))) xd57_130 (Or.inr rfl) rfl (mj_fin_i rfl))))
theorem x57_131 {x1 : Int32} {x2 : Int32} : wp Ln xs 57 131 [.ref 1, .int x1, .int x2] [] (u, ml_h m lm) Φ = wp Ln xs 19 0 [.ref 2, .int x1, mj_hole, mj_hole] [] (u, ml_h m lm) (mk Ln xs 57 147 [.ref 1, .int x1, .int x2] [.ref 3, .ref 58] Φ) := (wp_same xd57_131 (Or.inr rfl) rfl).trans ((wm_getr xd57_132 rfl (show ml_L[1]? = _ from rfl) rfl (Nat.le_of_ble_eq_true rfl)).trans ((wp_same xd57_135 (Or.inr rfl) rfl).trans ((wm_getr xd57_136 rfl (show ml_L[1]? = _ from rfl) rfl (Nat.le_of_ble_eq_true rfl)).trans ((wm_getr xd57_139 rfl (show ml_L[2]? = _ from rfl) rfl (Nat.le_of_ble_eq_true rfl)).trans ((wp_same xd57_142 (Or.inr rfl) rfl).trans ((wm_getr xd57_143 rfl (show ml_L[1]? = _ from rfl) rfl (Nat.le_of_ble_eq_true rfl)).trans ((wp_same xd57_146 (Or.inr rfl) rfl).trans (wm_cv (As := [.int x1]) (rest := [.ref 3, .ref 58]) xd57_147 rfl rfl (show ml_L[2]? = _ from rfl) (Nat.le_of_ble_eq_true rfl) (Nat.le_of_ble_eq_true rfl) (Nat.le_of_ble_eq_true rfl) (Nat.le_of_ble_eq_true rfl)))))))))
theorem x57_150 {x1 : Int32} {x2 : Int32} {xs0 : Int32} : wp Ln xs 57 150 [.ref 1, .int x1, .int x2] [.int xs0, .ref 3, .ref 58] (u, ml_h m lm) Φ = wp Ln xs 20 0 [.ref 2, .int x1] [] (u, ml_h m lm) (mk Ln xs 57 155 [.ref 1, .int x1, .int x2] [.int xs0, .ref 3, .ref 58] Φ) := (wp_same xd57_150 (Or.inr rfl) rfl).trans ((wm_getr xd57_151 rfl (show ml_L[1]? = _ from rfl) rfl (Nat.le_of_ble_eq_true rfl)).trans ((wp_same xd57_154 (Or.inr rfl) rfl).trans (wm_cv (As := [.int x1]) (rest := [.int xs0, .ref 3, .ref 58]) xd57_155 rfl rfl (show ml_L[2]? = _ from rfl) (Nat.le_of_ble_eq_true rfl) (Nat.le_of_ble_eq_true rfl) (Nat.le_of_ble_eq_true rfl) (Nat.le_of_ble_eq_true rfl))))
theorem x57_158 {x1 : Int32} {x2 : Int32} {xs0 : Int32} {xs1 : Int32} : wp Ln xs 57 158 [.ref 1, .int x1, .int x2] [.int xs0, .int xs1, .ref 3, .ref 58] (u, ml_h m lm) Φ = wp Ln xs 21 0 [.ref 58, .ref 3, .int xs1, .int xs0, .ref 7, mj_hole, mj_hole] [] (u, ml_h m lm) (mk Ln xs 57 165 [.ref 1, .int x1, .int x2] [] Φ) := (wp_same xd57_158 (Or.inr rfl) rfl).trans ((wm_getr xd57_159 rfl (show ml_L[1]? = _ from rfl) rfl (Nat.le_of_ble_eq_true rfl)).trans ((wm_getr xd57_162 rfl (show ml_L[2]? = _ from rfl) rfl (Nat.le_of_ble_eq_true rfl)).trans (wm_cv (As := [.ref 3, .int xs1, .int xs0, .ref 7]) (rest := []) xd57_165 rfl rfl (show ml_L[58]? = _ from rfl) (Nat.le_of_ble_eq_true rfl) (Nat.le_of_ble_eq_true rfl) (Nat.le_of_ble_eq_true rfl) (Nat.le_of_ble_eq_true rfl))))
theorem x57_168 {x1 : Int32} {x2 : Int32} : wp Ln xs 57 168 [.ref 1, .int x1, .int x2] [] (u, ml_h m lm) Φ = Φ (.inl (some (.int (m 58 1)))) (u, ml_h m lm) := (wp_same xd57_168 (Or.inr rfl) rfl).trans ((wm_getr xd57_169 rfl (show ml_L[1]? = _ from rfl) rfl (Nat.le_of_ble_eq_true rfl)).trans ((wm_geti xd57_172 rfl (show ml_L[58]? = _ from rfl) rfl (Nat.le_of_ble_eq_true rfl)).trans (wp_fin (v := some (.int (m 58 1))) xd57_175 (Or.inr rfl) rfl (mj_fin_i rfl))))
theorem x57_176 {x1 : Int32} {x2 : Int32} : wp Ln xs 57 176 [.ref 1, .int x1, .int x2] [] (u, ml_h m lm) Φ = wp Ln xs 19 0 [.ref 2, .int x1, mj_hole, mj_hole] [] (u, ml_h m lm) (mk Ln xs 57 181 [.ref 1, .int x1, .int x2] [] Φ) := (wp_same xd57_176 (Or.inr rfl) rfl).trans ((wm_getr xd57_177 rfl (show ml_L[1]? = _ from rfl) rfl (Nat.le_of_ble_eq_true rfl)).trans ((wp_same xd57_180 (Or.inr rfl) rfl).trans (wm_cv (As := [.int x1]) (rest := []) xd57_181 rfl rfl (show ml_L[2]? = _ from rfl) (Nat.le_of_ble_eq_true rfl) (Nat.le_of_ble_eq_true rfl) (Nat.le_of_ble_eq_true rfl) (Nat.le_of_ble_eq_true rfl))))
theorem x57_184 {x1 : Int32} {x2 : Int32} {xs0 : Int32} : wp Ln xs 57 184 [.ref 1, .int x1, .int x2] [.int xs0] (u, ml_h m lm) Φ = Φ (.inl (some (.int xs0))) (u, ml_h m lm) := wp_fin (v := some (.int xs0)) xd57_184 (Or.inr rfl) rfl (mj_fin_i rfl)
/- PickedFormsLaw.isBlock -/
theorem xd58_0 : decode (mj_b 58) 0 = .ok (.aload_n 0, 1) := by decide +kernel
theorem xd58_1 : decode (mj_b 58) 1 = .ok (.iload_n 1, 1) := by decide +kernel
theorem xd58_2 : decode (mj_b 58) 2 = .ok (.iconst 1, 1) := by decide +kernel
theorem xd58_3 : decode (mj_b 58) 3 = .ok (.invokevirtual 16, 3) := by decide +kernel
theorem xd58_6 : decode (mj_b 58) 6 = .ok (.istore_n 2, 1) := by decide +kernel
theorem xd58_7 : decode (mj_b 58) 7 = .ok (.aload_n 0, 1) := by decide +kernel
theorem xd58_8 : decode (mj_b 58) 8 = .ok (.iload_n 1, 1) := by decide +kernel
theorem xd58_9 : decode (mj_b 58) 9 = .ok (.iconst 2, 1) := by decide +kernel
theorem xd58_10 : decode (mj_b 58) 10 = .ok (.invokevirtual 16, 3) := by decide +kernel
theorem xd58_13 : decode (mj_b 58) 13 = .ok (.istore_n 3, 1) := by decide +kernel
theorem xd58_14 : decode (mj_b 58) 14 = .ok (.iconst 0, 1) := by decide +kernel
theorem xd58_15 : decode (mj_b 58) 15 = .ok (.istore 4, 2) := by decide +kernel
theorem xd58_17 : decode (mj_b 58) 17 = .ok (.iconst 0, 1) := by decide +kernel
theorem xd58_18 : decode (mj_b 58) 18 = .ok (.istore 5, 2) := by decide +kernel
theorem xd58_20 : decode (mj_b 58) 20 = .ok (.iload 5, 2) := by decide +kernel
theorem xd58_22 : decode (mj_b 58) 22 = .ok (.iload_n 1, 1) := by decide +kernel
theorem xd58_23 : decode (mj_b 58) 23 = .ok (.if_icmp .ge 21, 3) := by decide +kernel
theorem xd58_26 : decode (mj_b 58) 26 = .ok (.iload 4, 2) := by decide +kernel
theorem xd58_28 : decode (mj_b 58) 28 = .ok (.aload_n 0, 1) := by decide +kernel
theorem xd58_29 : decode (mj_b 58) 29 = .ok (.iload 5, 2) := by decide +kernel
theorem xd58_31 : decode (mj_b 58) 31 = .ok (.iconst 1, 1) := by decide +kernel
theorem xd58_32 : decode (mj_b 58) 32 = .ok (.invokevirtual 16, 3) := by decide +kernel
theorem xd58_35 : decode (mj_b 58) 35 = .ok (.iadd, 1) := by decide +kernel
theorem xd58_36 : decode (mj_b 58) 36 = .ok (.istore 4, 2) := by decide +kernel
theorem xd58_38 : decode (mj_b 58) 38 = .ok (.iinc 5 1, 3) := by decide +kernel
theorem xd58_41 : decode (mj_b 58) 41 = .ok (.goto (-21), 3) := by decide +kernel
theorem xd58_44 : decode (mj_b 58) 44 = .ok (.iload_n 2, 1) := by decide +kernel
theorem xd58_45 : decode (mj_b 58) 45 = .ok (.iconst 1, 1) := by decide +kernel
theorem xd58_46 : decode (mj_b 58) 46 = .ok (.if_icmp .lt 139, 3) := by decide +kernel
theorem xd58_49 : decode (mj_b 58) 49 = .ok (.iload_n 2, 1) := by decide +kernel
theorem xd58_50 : decode (mj_b 58) 50 = .ok (.bipush 16, 2) := by decide +kernel
theorem xd58_52 : decode (mj_b 58) 52 = .ok (.if_icmp .gt 133, 3) := by decide +kernel
theorem xd58_55 : decode (mj_b 58) 55 = .ok (.iload_n 3, 1) := by decide +kernel
theorem xd58_56 : decode (mj_b 58) 56 = .ok (.aload_n 0, 1) := by decide +kernel
theorem xd58_57 : decode (mj_b 58) 57 = .ok (.iload_n 1, 1) := by decide +kernel
theorem xd58_58 : decode (mj_b 58) 58 = .ok (.aload_n 0, 1) := by decide +kernel
theorem xd58_59 : decode (mj_b 58) 59 = .ok (.iload_n 1, 1) := by decide +kernel
theorem xd58_60 : decode (mj_b 58) 60 = .ok (.iconst 0, 1) := by decide +kernel
theorem xd58_61 : decode (mj_b 58) 61 = .ok (.invokevirtual 16, 3) := by decide +kernel
theorem xd58_64 : decode (mj_b 58) 64 = .ok (.invokevirtual 20, 3) := by decide +kernel
theorem xd58_67 : decode (mj_b 58) 67 = .ok (.if_icmp .ne 118, 3) := by decide +kernel
theorem xd58_70 : decode (mj_b 58) 70 = .ok (.iload_n 3, 1) := by decide +kernel
theorem xd58_71 : decode (mj_b 58) 71 = .ok (.aload_n 0, 1) := by decide +kernel
theorem xd58_72 : decode (mj_b 58) 72 = .ok (.iload_n 1, 1) := by decide +kernel
theorem xd58_73 : decode (mj_b 58) 73 = .ok (.iconst 3, 1) := by decide +kernel
theorem xd58_74 : decode (mj_b 58) 74 = .ok (.invokevirtual 16, 3) := by decide +kernel
theorem xd58_77 : decode (mj_b 58) 77 = .ok (.if_icmp .gt 108, 3) := by decide +kernel
theorem xd58_80 : decode (mj_b 58) 80 = .ok (.aload_n 0, 1) := by decide +kernel
theorem xd58_81 : decode (mj_b 58) 81 = .ok (.iload_n 1, 1) := by decide +kernel
theorem xd58_82 : decode (mj_b 58) 82 = .ok (.iconst 0, 1) := by decide +kernel
theorem xd58_83 : decode (mj_b 58) 83 = .ok (.invokevirtual 20, 3) := by decide +kernel
theorem xd58_86 : decode (mj_b 58) 86 = .ok (.bipush 10, 2) := by decide +kernel
theorem xd58_88 : decode (mj_b 58) 88 = .ok (.iload_n 2, 1) := by decide +kernel
theorem xd58_89 : decode (mj_b 58) 89 = .ok (.imul, 1) := by decide +kernel
theorem xd58_90 : decode (mj_b 58) 90 = .ok (.if_icmp .ne 95, 3) := by decide +kernel
theorem xd58_93 : decode (mj_b 58) 93 = .ok (.aload_n 0, 1) := by decide +kernel
theorem xd58_94 : decode (mj_b 58) 94 = .ok (.iload_n 1, 1) := by decide +kernel
theorem xd58_95 : decode (mj_b 58) 95 = .ok (.iconst 2, 1) := by decide +kernel
theorem xd58_96 : decode (mj_b 58) 96 = .ok (.invokevirtual 20, 3) := by decide +kernel
theorem xd58_99 : decode (mj_b 58) 99 = .ok (.bipush 14, 2) := by decide +kernel
theorem xd58_101 : decode (mj_b 58) 101 = .ok (.aload_n 0, 1) := by decide +kernel
theorem xd58_102 : decode (mj_b 58) 102 = .ok (.iload_n 1, 1) := by decide +kernel
theorem xd58_103 : decode (mj_b 58) 103 = .ok (.bipush 6, 2) := by decide +kernel
theorem xd58_105 : decode (mj_b 58) 105 = .ok (.invokevirtual 16, 3) := by decide +kernel
theorem xd58_108 : decode (mj_b 58) 108 = .ok (.imul, 1) := by decide +kernel
theorem xd58_109 : decode (mj_b 58) 109 = .ok (.if_icmp .ne 76, 3) := by decide +kernel
theorem xd58_112 : decode (mj_b 58) 112 = .ok (.aload_n 0, 1) := by decide +kernel
theorem xd58_113 : decode (mj_b 58) 113 = .ok (.iload_n 1, 1) := by decide +kernel
theorem xd58_114 : decode (mj_b 58) 114 = .ok (.iconst 4, 1) := by decide +kernel
theorem xd58_115 : decode (mj_b 58) 115 = .ok (.invokevirtual 20, 3) := by decide +kernel
theorem xd58_118 : decode (mj_b 58) 118 = .ok (.bipush 14, 2) := by decide +kernel
theorem xd58_120 : decode (mj_b 58) 120 = .ok (.if_icmp .lt 65, 3) := by decide +kernel
theorem xd58_123 : decode (mj_b 58) 123 = .ok (.aload_n 0, 1) := by decide +kernel
theorem xd58_124 : decode (mj_b 58) 124 = .ok (.iload_n 1, 1) := by decide +kernel
theorem xd58_125 : decode (mj_b 58) 125 = .ok (.bipush 6, 2) := by decide +kernel
theorem xd58_127 : decode (mj_b 58) 127 = .ok (.invokevirtual 16, 3) := by decide +kernel
theorem xd58_130 : decode (mj_b 58) 130 = .ok (.aload_n 0, 1) := by decide +kernel
theorem xd58_131 : decode (mj_b 58) 131 = .ok (.iload_n 1, 1) := by decide +kernel
theorem xd58_132 : decode (mj_b 58) 132 = .ok (.bipush 7, 2) := by decide +kernel
theorem xd58_134 : decode (mj_b 58) 134 = .ok (.invokevirtual 16, 3) := by decide +kernel
theorem xd58_137 : decode (mj_b 58) 137 = .ok (.if_icmp .lt 48, 3) := by decide +kernel
theorem xd58_140 : decode (mj_b 58) 140 = .ok (.aload_n 0, 1) := by decide +kernel
theorem xd58_141 : decode (mj_b 58) 141 = .ok (.iload_n 1, 1) := by decide +kernel
theorem xd58_142 : decode (mj_b 58) 142 = .ok (.iconst 4, 1) := by decide +kernel
theorem xd58_143 : decode (mj_b 58) 143 = .ok (.invokevirtual 16, 3) := by decide +kernel
theorem xd58_146 : decode (mj_b 58) 146 = .ok (.aload_n 0, 1) := by decide +kernel
theorem xd58_147 : decode (mj_b 58) 147 = .ok (.iload_n 1, 1) := by decide +kernel
theorem xd58_148 : decode (mj_b 58) 148 = .ok (.iconst 5, 1) := by decide +kernel
theorem xd58_149 : decode (mj_b 58) 149 = .ok (.invokevirtual 16, 3) := by decide +kernel
theorem xd58_152 : decode (mj_b 58) 152 = .ok (.if_icmp .gt 33, 3) := by decide +kernel
theorem xd58_155 : decode (mj_b 58) 155 = .ok (.aload_n 0, 1) := by decide +kernel
theorem xd58_156 : decode (mj_b 58) 156 = .ok (.iload_n 1, 1) := by decide +kernel
theorem xd58_157 : decode (mj_b 58) 157 = .ok (.bipush 9, 2) := by decide +kernel
theorem xd58_159 : decode (mj_b 58) 159 = .ok (.invokevirtual 16, 3) := by decide +kernel
theorem xd58_162 : decode (mj_b 58) 162 = .ok (.iload 4, 2) := by decide +kernel
theorem xd58_164 : decode (mj_b 58) 164 = .ok (.if_icmp .ne 21, 3) := by decide +kernel
theorem xd58_167 : decode (mj_b 58) 167 = .ok (.aload_n 0, 1) := by decide +kernel
theorem xd58_168 : decode (mj_b 58) 168 = .ok (.aload_n 0, 1) := by decide +kernel
theorem xd58_169 : decode (mj_b 58) 169 = .ok (.iload_n 1, 1) := by decide +kernel
theorem xd58_170 : decode (mj_b 58) 170 = .ok (.bipush 8, 2) := by decide +kernel
theorem xd58_172 : decode (mj_b 58) 172 = .ok (.invokevirtual 16, 3) := by decide +kernel
theorem xd58_175 : decode (mj_b 58) 175 = .ok (.invokestatic 23, 3) := by decide +kernel
theorem xd58_178 : decode (mj_b 58) 178 = .ok (.ifCond .eq 7, 3) := by decide +kernel
theorem xd58_181 : decode (mj_b 58) 181 = .ok (.iconst 1, 1) := by decide +kernel
theorem xd58_182 : decode (mj_b 58) 182 = .ok (.goto 4, 3) := by decide +kernel
theorem xd58_185 : decode (mj_b 58) 185 = .ok (.iconst 0, 1) := by decide +kernel
theorem xd58_186 : decode (mj_b 58) 186 = .ok (.istore 5, 2) := by decide +kernel
theorem xd58_188 : decode (mj_b 58) 188 = .ok (.iload 5, 2) := by decide +kernel
theorem xd58_190 : decode (mj_b 58) 190 = .ok (.ifCond .eq 47, 3) := by decide +kernel
theorem xd58_193 : decode (mj_b 58) 193 = .ok (.aload_n 0, 1) := by decide +kernel
theorem xd58_194 : decode (mj_b 58) 194 = .ok (.iload_n 1, 1) := by decide +kernel
theorem xd58_195 : decode (mj_b 58) 195 = .ok (.iload_n 3, 1) := by decide +kernel
theorem xd58_196 : decode (mj_b 58) 196 = .ok (.invokevirtual 29, 3) := by decide +kernel
theorem xd58_199 : decode (mj_b 58) 199 = .ok (.iconst (-1), 1) := by decide +kernel
theorem xd58_200 : decode (mj_b 58) 200 = .ok (.if_icmp .ne 37, 3) := by decide +kernel
theorem xd58_203 : decode (mj_b 58) 203 = .ok (.aload_n 0, 1) := by decide +kernel
theorem xd58_204 : decode (mj_b 58) 204 = .ok (.iload_n 1, 1) := by decide +kernel
theorem xd58_205 : decode (mj_b 58) 205 = .ok (.iload_n 3, 1) := by decide +kernel
theorem xd58_206 : decode (mj_b 58) 206 = .ok (.iconst 1, 1) := by decide +kernel
theorem xd58_207 : decode (mj_b 58) 207 = .ok (.isub, 1) := by decide +kernel
theorem xd58_208 : decode (mj_b 58) 208 = .ok (.invokevirtual 29, 3) := by decide +kernel
theorem xd58_211 : decode (mj_b 58) 211 = .ok (.ifCond .lt 26, 3) := by decide +kernel
theorem xd58_214 : decode (mj_b 58) 214 = .ok (.aload_n 0, 1) := by decide +kernel
theorem xd58_215 : decode (mj_b 58) 215 = .ok (.iload_n 1, 1) := by decide +kernel
theorem xd58_216 : decode (mj_b 58) 216 = .ok (.iconst 0, 1) := by decide +kernel
theorem xd58_217 : decode (mj_b 58) 217 = .ok (.invokevirtual 29, 3) := by decide +kernel
theorem xd58_220 : decode (mj_b 58) 220 = .ok (.ifCond .lt 17, 3) := by decide +kernel
theorem xd58_223 : decode (mj_b 58) 223 = .ok (.aload_n 0, 1) := by decide +kernel
theorem xd58_224 : decode (mj_b 58) 224 = .ok (.iload_n 1, 1) := by decide +kernel
theorem xd58_225 : decode (mj_b 58) 225 = .ok (.iconst 0, 1) := by decide +kernel
theorem xd58_226 : decode (mj_b 58) 226 = .ok (.invokevirtual 29, 3) := by decide +kernel
theorem xd58_229 : decode (mj_b 58) 229 = .ok (.iconst 2, 1) := by decide +kernel
theorem xd58_230 : decode (mj_b 58) 230 = .ok (.if_icmp .ge 7, 3) := by decide +kernel
theorem xd58_233 : decode (mj_b 58) 233 = .ok (.iconst 1, 1) := by decide +kernel
theorem xd58_234 : decode (mj_b 58) 234 = .ok (.goto 4, 3) := by decide +kernel
theorem xd58_237 : decode (mj_b 58) 237 = .ok (.iconst 0, 1) := by decide +kernel
theorem xd58_238 : decode (mj_b 58) 238 = .ok (.istore 5, 2) := by decide +kernel
theorem xd58_240 : decode (mj_b 58) 240 = .ok (.iconst 0, 1) := by decide +kernel
theorem xd58_241 : decode (mj_b 58) 241 = .ok (.istore 6, 2) := by decide +kernel
theorem xd58_243 : decode (mj_b 58) 243 = .ok (.iload 6, 2) := by decide +kernel
theorem xd58_245 : decode (mj_b 58) 245 = .ok (.iload_n 2, 1) := by decide +kernel
theorem xd58_246 : decode (mj_b 58) 246 = .ok (.if_icmp .ge 117, 3) := by decide +kernel
theorem xd58_249 : decode (mj_b 58) 249 = .ok (.iload 5, 2) := by decide +kernel
theorem xd58_251 : decode (mj_b 58) 251 = .ok (.ifCond .eq 112, 3) := by decide +kernel
theorem xd58_254 : decode (mj_b 58) 254 = .ok (.aload_n 0, 1) := by decide +kernel
theorem xd58_255 : decode (mj_b 58) 255 = .ok (.iload 4, 2) := by decide +kernel
theorem xd58_257 : decode (mj_b 58) 257 = .ok (.iload 6, 2) := by decide +kernel
theorem xd58_259 : decode (mj_b 58) 259 = .ok (.iadd, 1) := by decide +kernel
theorem xd58_260 : decode (mj_b 58) 260 = .ok (.iconst 1, 1) := by decide +kernel
theorem xd58_261 : decode (mj_b 58) 261 = .ok (.invokevirtual 32, 3) := by decide +kernel
theorem xd58_264 : decode (mj_b 58) 264 = .ok (.iload_n 1, 1) := by decide +kernel
theorem xd58_265 : decode (mj_b 58) 265 = .ok (.if_icmp .ne 89, 3) := by decide +kernel
theorem xd58_268 : decode (mj_b 58) 268 = .ok (.aload_n 0, 1) := by decide +kernel
theorem xd58_269 : decode (mj_b 58) 269 = .ok (.iload 4, 2) := by decide +kernel
theorem xd58_271 : decode (mj_b 58) 271 = .ok (.iload 6, 2) := by decide +kernel
theorem xd58_273 : decode (mj_b 58) 273 = .ok (.iadd, 1) := by decide +kernel
theorem xd58_274 : decode (mj_b 58) 274 = .ok (.iconst 2, 1) := by decide +kernel
theorem xd58_275 : decode (mj_b 58) 275 = .ok (.invokevirtual 32, 3) := by decide +kernel
theorem xd58_278 : decode (mj_b 58) 278 = .ok (.iload 6, 2) := by decide +kernel
theorem xd58_280 : decode (mj_b 58) 280 = .ok (.if_icmp .ne 74, 3) := by decide +kernel
theorem xd58_283 : decode (mj_b 58) 283 = .ok (.aload_n 0, 1) := by decide +kernel
theorem xd58_284 : decode (mj_b 58) 284 = .ok (.iload 4, 2) := by decide +kernel
theorem xd58_286 : decode (mj_b 58) 286 = .ok (.iload 6, 2) := by decide +kernel
theorem xd58_288 : decode (mj_b 58) 288 = .ok (.iadd, 1) := by decide +kernel
theorem xd58_289 : decode (mj_b 58) 289 = .ok (.iconst 0, 1) := by decide +kernel
theorem xd58_290 : decode (mj_b 58) 290 = .ok (.invokevirtual 32, 3) := by decide +kernel
theorem xd58_293 : decode (mj_b 58) 293 = .ok (.aload_n 0, 1) := by decide +kernel
theorem xd58_294 : decode (mj_b 58) 294 = .ok (.iload_n 1, 1) := by decide +kernel
theorem xd58_295 : decode (mj_b 58) 295 = .ok (.iconst 4, 1) := by decide +kernel
theorem xd58_296 : decode (mj_b 58) 296 = .ok (.invokevirtual 16, 3) := by decide +kernel
theorem xd58_299 : decode (mj_b 58) 299 = .ok (.if_icmp .lt 55, 3) := by decide +kernel
theorem xd58_302 : decode (mj_b 58) 302 = .ok (.aload_n 0, 1) := by decide +kernel
theorem xd58_303 : decode (mj_b 58) 303 = .ok (.iload 4, 2) := by decide +kernel
theorem xd58_305 : decode (mj_b 58) 305 = .ok (.iload 6, 2) := by decide +kernel
theorem xd58_307 : decode (mj_b 58) 307 = .ok (.iadd, 1) := by decide +kernel
theorem xd58_308 : decode (mj_b 58) 308 = .ok (.iconst 0, 1) := by decide +kernel
theorem xd58_309 : decode (mj_b 58) 309 = .ok (.invokevirtual 32, 3) := by decide +kernel
theorem xd58_312 : decode (mj_b 58) 312 = .ok (.aload_n 0, 1) := by decide +kernel
theorem xd58_313 : decode (mj_b 58) 313 = .ok (.iload_n 1, 1) := by decide +kernel
theorem xd58_314 : decode (mj_b 58) 314 = .ok (.iconst 5, 1) := by decide +kernel
theorem xd58_315 : decode (mj_b 58) 315 = .ok (.invokevirtual 16, 3) := by decide +kernel
theorem xd58_318 : decode (mj_b 58) 318 = .ok (.if_icmp .gt 36, 3) := by decide +kernel
theorem xd58_321 : decode (mj_b 58) 321 = .ok (.aload_n 0, 1) := by decide +kernel
theorem xd58_322 : decode (mj_b 58) 322 = .ok (.iload 4, 2) := by decide +kernel
theorem xd58_324 : decode (mj_b 58) 324 = .ok (.iload 6, 2) := by decide +kernel
theorem xd58_326 : decode (mj_b 58) 326 = .ok (.iadd, 1) := by decide +kernel
theorem xd58_327 : decode (mj_b 58) 327 = .ok (.iconst 3, 1) := by decide +kernel
theorem xd58_328 : decode (mj_b 58) 328 = .ok (.invokevirtual 32, 3) := by decide +kernel
theorem xd58_331 : decode (mj_b 58) 331 = .ok (.iconst 1, 1) := by decide +kernel
theorem xd58_332 : decode (mj_b 58) 332 = .ok (.if_icmp .lt 22, 3) := by decide +kernel
theorem xd58_335 : decode (mj_b 58) 335 = .ok (.aload_n 0, 1) := by decide +kernel
theorem xd58_336 : decode (mj_b 58) 336 = .ok (.iload 4, 2) := by decide +kernel
theorem xd58_338 : decode (mj_b 58) 338 = .ok (.iload 6, 2) := by decide +kernel
theorem xd58_340 : decode (mj_b 58) 340 = .ok (.iadd, 1) := by decide +kernel
theorem xd58_341 : decode (mj_b 58) 341 = .ok (.iconst 3, 1) := by decide +kernel
theorem xd58_342 : decode (mj_b 58) 342 = .ok (.invokevirtual 32, 3) := by decide +kernel
theorem xd58_345 : decode (mj_b 58) 345 = .ok (.bipush 16, 2) := by decide +kernel
theorem xd58_347 : decode (mj_b 58) 347 = .ok (.if_icmp .gt 7, 3) := by decide +kernel
theorem xd58_350 : decode (mj_b 58) 350 = .ok (.iconst 1, 1) := by decide +kernel
theorem xd58_351 : decode (mj_b 58) 351 = .ok (.goto 4, 3) := by decide +kernel
theorem xd58_354 : decode (mj_b 58) 354 = .ok (.iconst 0, 1) := by decide +kernel
theorem xd58_355 : decode (mj_b 58) 355 = .ok (.istore 5, 2) := by decide +kernel
theorem xd58_357 : decode (mj_b 58) 357 = .ok (.iinc 6 1, 3) := by decide +kernel
theorem xd58_360 : decode (mj_b 58) 360 = .ok (.goto (-117), 3) := by decide +kernel
theorem xd58_363 : decode (mj_b 58) 363 = .ok (.iload 5, 2) := by decide +kernel
theorem xd58_365 : decode (mj_b 58) 365 = .ok (.ifCond .eq 34, 3) := by decide +kernel
theorem xd58_368 : decode (mj_b 58) 368 = .ok (.aload_n 0, 1) := by decide +kernel
theorem xd58_369 : decode (mj_b 58) 369 = .ok (.iload_n 1, 1) := by decide +kernel
theorem xd58_370 : decode (mj_b 58) 370 = .ok (.invokevirtual 35, 3) := by decide +kernel
theorem xd58_373 : decode (mj_b 58) 373 = .ok (.iconst (-1), 1) := by decide +kernel
theorem xd58_374 : decode (mj_b 58) 374 = .ok (.if_icmp .ne 7, 3) := by decide +kernel
theorem xd58_377 : decode (mj_b 58) 377 = .ok (.iconst 1, 1) := by decide +kernel
theorem xd58_378 : decode (mj_b 58) 378 = .ok (.goto 4, 3) := by decide +kernel
theorem xd58_381 : decode (mj_b 58) 381 = .ok (.iconst 0, 1) := by decide +kernel
theorem xd58_382 : decode (mj_b 58) 382 = .ok (.iload_n 2, 1) := by decide +kernel
theorem xd58_383 : decode (mj_b 58) 383 = .ok (.iconst 1, 1) := by decide +kernel
theorem xd58_384 : decode (mj_b 58) 384 = .ok (.if_icmp .ne 7, 3) := by decide +kernel
theorem xd58_387 : decode (mj_b 58) 387 = .ok (.iconst 1, 1) := by decide +kernel
theorem xd58_388 : decode (mj_b 58) 388 = .ok (.goto 4, 3) := by decide +kernel
theorem xd58_391 : decode (mj_b 58) 391 = .ok (.iconst 0, 1) := by decide +kernel
theorem xd58_392 : decode (mj_b 58) 392 = .ok (.if_icmp .ne 7, 3) := by decide +kernel
theorem xd58_395 : decode (mj_b 58) 395 = .ok (.iconst 1, 1) := by decide +kernel
theorem xd58_396 : decode (mj_b 58) 396 = .ok (.goto 4, 3) := by decide +kernel
theorem xd58_399 : decode (mj_b 58) 399 = .ok (.iconst 0, 1) := by decide +kernel
theorem xd58_400 : decode (mj_b 58) 400 = .ok (.ireturn, 1) := by decide +kernel
theorem x58_0 {x1 : Int32} : wp Ln xs 58 0 [.ref 1, .int x1, mj_hole, mj_hole, mj_hole, mj_hole, mj_hole] [] (u, ml_h m lm) Φ = wp Ln xs 56 0 [.ref 1, .int x1, .int (nI 1)] [] (u, ml_h m lm) (mk Ln xs 58 3 [.ref 1, .int x1, mj_hole, mj_hole, mj_hole, mj_hole, mj_hole] [] Φ) := (wp_same xd58_0 (Or.inr rfl) rfl).trans ((wp_same xd58_1 (Or.inr rfl) rfl).trans ((wp_same (S' := [.int (nI 1), .int x1, .ref 1]) xd58_2 (Or.inr rfl) rfl).trans (wm_cv (As := [.int x1, .int (nI 1)]) (rest := []) xd58_3 rfl rfl (show ml_L[1]? = _ from rfl) (Nat.le_of_ble_eq_true rfl) (Nat.le_of_ble_eq_true rfl) (Nat.le_of_ble_eq_true rfl) (Nat.le_of_ble_eq_true rfl))))
theorem x58_6 {x1 : Int32} {xs0 : Int32} : wp Ln xs 58 6 [.ref 1, .int x1, mj_hole, mj_hole, mj_hole, mj_hole, mj_hole] [.int xs0] (u, ml_h m lm) Φ = wp Ln xs 56 0 [.ref 1, .int x1, .int (nI 2)] [] (u, ml_h m lm) (mk Ln xs 58 10 [.ref 1, .int x1, .int xs0, mj_hole, mj_hole, mj_hole, mj_hole] [] Φ) := (wp_same (L' := [.ref 1, .int x1, .int xs0, mj_hole, mj_hole, mj_hole, mj_hole]) xd58_6 (Or.inr rfl) rfl).trans ((wp_same xd58_7 (Or.inr rfl) rfl).trans ((wp_same xd58_8 (Or.inr rfl) rfl).trans ((wp_same (S' := [.int (nI 2), .int x1, .ref 1]) xd58_9 (Or.inr rfl) rfl).trans (wm_cv (As := [.int x1, .int (nI 2)]) (rest := []) xd58_10 rfl rfl (show ml_L[1]? = _ from rfl) (Nat.le_of_ble_eq_true rfl) (Nat.le_of_ble_eq_true rfl) (Nat.le_of_ble_eq_true rfl) (Nat.le_of_ble_eq_true rfl)))))
theorem x58_13 {x1 : Int32} {x2 : Int32} {xs0 : Int32} : wp Ln xs 58 13 [.ref 1, .int x1, .int x2, mj_hole, mj_hole, mj_hole, mj_hole] [.int xs0] (u, ml_h m lm) Φ = wp Ln xs 58 20 [.ref 1, .int x1, .int x2, .int xs0, .int (nI 0), .int (nI 0), mj_hole] [] (u, ml_h m lm) Φ := (wp_same (L' := [.ref 1, .int x1, .int x2, .int xs0, mj_hole, mj_hole, mj_hole]) xd58_13 (Or.inr rfl) rfl).trans ((wp_same (S' := [.int (nI 0)]) xd58_14 (Or.inr rfl) rfl).trans ((wp_same (L' := [.ref 1, .int x1, .int x2, .int xs0, .int (nI 0), mj_hole, mj_hole]) xd58_15 (Or.inr rfl) rfl).trans ((wp_same (S' := [.int (nI 0)]) xd58_17 (Or.inr rfl) rfl).trans (wp_same (L' := [.ref 1, .int x1, .int x2, .int xs0, .int (nI 0), .int (nI 0), mj_hole]) xd58_18 (Or.inr rfl) rfl))))
theorem x58_20 {x1 : Int32} {x2 : Int32} {x3 : Int32} {x4 : Int32} {x5 : Int32} : wp Ln xs 58 20 [.ref 1, .int x1, .int x2, .int x3, .int x4, .int x5, mj_hole] [] (u, ml_h m lm) Φ = if x1 ≤ x5 then wp Ln xs 58 44 [.ref 1, .int x1, .int x2, .int x3, .int x4, .int x5, mj_hole] [] (u, ml_h m lm) Φ else wp Ln xs 58 26 [.ref 1, .int x1, .int x2, .int x3, .int x4, .int x5, mj_hole] [] (u, ml_h m lm) Φ := (wp_same xd58_20 (Or.inr rfl) rfl).trans ((wp_same xd58_22 (Or.inr rfl) rfl).trans (wx_icmp xd58_23 rfl rfl (x1 ≤ x5) mb_ge))
theorem x58_26 {x1 : Int32} {x2 : Int32} {x3 : Int32} {x4 : Int32} {x5 : Int32} : wp Ln xs 58 26 [.ref 1, .int x1, .int x2, .int x3, .int x4, .int x5, mj_hole] [] (u, ml_h m lm) Φ = wp Ln xs 56 0 [.ref 1, .int x5, .int (nI 1)] [] (u, ml_h m lm) (mk Ln xs 58 32 [.ref 1, .int x1, .int x2, .int x3, .int x4, .int x5, mj_hole] [.int x4] Φ) := (wp_same xd58_26 (Or.inr rfl) rfl).trans ((wp_same xd58_28 (Or.inr rfl) rfl).trans ((wp_same xd58_29 (Or.inr rfl) rfl).trans ((wp_same (S' := [.int (nI 1), .int x5, .ref 1, .int x4]) xd58_31 (Or.inr rfl) rfl).trans (wm_cv (As := [.int x5, .int (nI 1)]) (rest := [.int x4]) xd58_32 rfl rfl (show ml_L[1]? = _ from rfl) (Nat.le_of_ble_eq_true rfl) (Nat.le_of_ble_eq_true rfl) (Nat.le_of_ble_eq_true rfl) (Nat.le_of_ble_eq_true rfl)))))
theorem x58_35 {x1 : Int32} {x2 : Int32} {x3 : Int32} {x4 : Int32} {x5 : Int32} {xs0 : Int32} {xs1 : Int32} : wp Ln xs 58 35 [.ref 1, .int x1, .int x2, .int x3, .int x4, .int x5, mj_hole] [.int xs0, .int xs1] (u, ml_h m lm) Φ = wp Ln xs 58 20 [.ref 1, .int x1, .int x2, .int x3, .int (xs1 + xs0), .int (x5 + nI 1), mj_hole] [] (u, ml_h m lm) Φ := (wp_same xd58_35 (Or.inr rfl) rfl).trans ((wp_same (L' := [.ref 1, .int x1, .int x2, .int x3, .int (xs1 + xs0), .int x5, mj_hole]) xd58_36 (Or.inr rfl) rfl).trans ((wp_same (L' := [.ref 1, .int x1, .int x2, .int x3, .int (xs1 + xs0), .int (x5 + nI 1), mj_hole]) xd58_38 (Or.inr rfl) rfl).trans (wx_goto xd58_41 rfl)))
theorem x58_44 {x1 : Int32} {x2 : Int32} {x3 : Int32} {x4 : Int32} {x5 : Int32} : wp Ln xs 58 44 [.ref 1, .int x1, .int x2, .int x3, .int x4, .int x5, mj_hole] [] (u, ml_h m lm) Φ = if x2 < (nI 1) then wp Ln xs 58 185 [.ref 1, .int x1, .int x2, .int x3, .int x4, .int x5, mj_hole] [] (u, ml_h m lm) Φ else wp Ln xs 58 49 [.ref 1, .int x1, .int x2, .int x3, .int x4, .int x5, mj_hole] [] (u, ml_h m lm) Φ := (wp_same xd58_44 (Or.inr rfl) rfl).trans ((wp_same (S' := [.int (nI 1), .int x2]) xd58_45 (Or.inr rfl) rfl).trans (wx_icmp xd58_46 rfl rfl (x2 < (nI 1)) mb_lt))
theorem x58_49 {x1 : Int32} {x2 : Int32} {x3 : Int32} {x4 : Int32} {x5 : Int32} : wp Ln xs 58 49 [.ref 1, .int x1, .int x2, .int x3, .int x4, .int x5, mj_hole] [] (u, ml_h m lm) Φ = if (nI 16) < x2 then wp Ln xs 58 185 [.ref 1, .int x1, .int x2, .int x3, .int x4, .int x5, mj_hole] [] (u, ml_h m lm) Φ else wp Ln xs 58 55 [.ref 1, .int x1, .int x2, .int x3, .int x4, .int x5, mj_hole] [] (u, ml_h m lm) Φ := (wp_same xd58_49 (Or.inr rfl) rfl).trans ((wp_same (S' := [.int (nI 16), .int x2]) xd58_50 (Or.inr rfl) rfl).trans (wx_icmp xd58_52 rfl rfl ((nI 16) < x2) mb_gt))
theorem x58_55 {x1 : Int32} {x2 : Int32} {x3 : Int32} {x4 : Int32} {x5 : Int32} : wp Ln xs 58 55 [.ref 1, .int x1, .int x2, .int x3, .int x4, .int x5, mj_hole] [] (u, ml_h m lm) Φ = wp Ln xs 56 0 [.ref 1, .int x1, .int (nI 0)] [] (u, ml_h m lm) (mk Ln xs 58 61 [.ref 1, .int x1, .int x2, .int x3, .int x4, .int x5, mj_hole] [.int x1, .ref 1, .int x3] Φ) := (wp_same xd58_55 (Or.inr rfl) rfl).trans ((wp_same xd58_56 (Or.inr rfl) rfl).trans ((wp_same xd58_57 (Or.inr rfl) rfl).trans ((wp_same xd58_58 (Or.inr rfl) rfl).trans ((wp_same xd58_59 (Or.inr rfl) rfl).trans ((wp_same (S' := [.int (nI 0), .int x1, .ref 1, .int x1, .ref 1, .int x3]) xd58_60 (Or.inr rfl) rfl).trans (wm_cv (As := [.int x1, .int (nI 0)]) (rest := [.int x1, .ref 1, .int x3]) xd58_61 rfl rfl (show ml_L[1]? = _ from rfl) (Nat.le_of_ble_eq_true rfl) (Nat.le_of_ble_eq_true rfl) (Nat.le_of_ble_eq_true rfl) (Nat.le_of_ble_eq_true rfl)))))))
theorem x58_64 {x1 : Int32} {x2 : Int32} {x3 : Int32} {x4 : Int32} {x5 : Int32} {xs0 : Int32} {xs1 : Int32} {xs3 : Int32} : wp Ln xs 58 64 [.ref 1, .int x1, .int x2, .int x3, .int x4, .int x5, mj_hole] [.int xs0, .int xs1, .ref 1, .int xs3] (u, ml_h m lm) Φ = wp Ln xs 59 0 [.ref 1, .int xs1, .int xs0] [] (u, ml_h m lm) (mk Ln xs 58 64 [.ref 1, .int x1, .int x2, .int x3, .int x4, .int x5, mj_hole] [.int xs3] Φ) := wm_cv (As := [.int xs1, .int xs0]) (rest := [.int xs3]) xd58_64 rfl rfl (show ml_L[1]? = _ from rfl) (Nat.le_of_ble_eq_true rfl) (Nat.le_of_ble_eq_true rfl) (Nat.le_of_ble_eq_true rfl) (Nat.le_of_ble_eq_true rfl)
theorem x58_67 {x1 : Int32} {x2 : Int32} {x3 : Int32} {x4 : Int32} {x5 : Int32} {xs0 : Int32} {xs1 : Int32} : wp Ln xs 58 67 [.ref 1, .int x1, .int x2, .int x3, .int x4, .int x5, mj_hole] [.int xs0, .int xs1] (u, ml_h m lm) Φ = if ¬ xs1 = xs0 then wp Ln xs 58 185 [.ref 1, .int x1, .int x2, .int x3, .int x4, .int x5, mj_hole] [] (u, ml_h m lm) Φ else wp Ln xs 58 70 [.ref 1, .int x1, .int x2, .int x3, .int x4, .int x5, mj_hole] [] (u, ml_h m lm) Φ := wx_icmp xd58_67 rfl rfl (¬ xs1 = xs0) mb_ne
theorem x58_70 {x1 : Int32} {x2 : Int32} {x3 : Int32} {x4 : Int32} {x5 : Int32} : wp Ln xs 58 70 [.ref 1, .int x1, .int x2, .int x3, .int x4, .int x5, mj_hole] [] (u, ml_h m lm) Φ = wp Ln xs 56 0 [.ref 1, .int x1, .int (nI 3)] [] (u, ml_h m lm) (mk Ln xs 58 74 [.ref 1, .int x1, .int x2, .int x3, .int x4, .int x5, mj_hole] [.int x3] Φ) := (wp_same xd58_70 (Or.inr rfl) rfl).trans ((wp_same xd58_71 (Or.inr rfl) rfl).trans ((wp_same xd58_72 (Or.inr rfl) rfl).trans ((wp_same (S' := [.int (nI 3), .int x1, .ref 1, .int x3]) xd58_73 (Or.inr rfl) rfl).trans (wm_cv (As := [.int x1, .int (nI 3)]) (rest := [.int x3]) xd58_74 rfl rfl (show ml_L[1]? = _ from rfl) (Nat.le_of_ble_eq_true rfl) (Nat.le_of_ble_eq_true rfl) (Nat.le_of_ble_eq_true rfl) (Nat.le_of_ble_eq_true rfl)))))
theorem x58_77 {x1 : Int32} {x2 : Int32} {x3 : Int32} {x4 : Int32} {x5 : Int32} {xs0 : Int32} {xs1 : Int32} : wp Ln xs 58 77 [.ref 1, .int x1, .int x2, .int x3, .int x4, .int x5, mj_hole] [.int xs0, .int xs1] (u, ml_h m lm) Φ = if xs0 < xs1 then wp Ln xs 58 185 [.ref 1, .int x1, .int x2, .int x3, .int x4, .int x5, mj_hole] [] (u, ml_h m lm) Φ else wp Ln xs 58 80 [.ref 1, .int x1, .int x2, .int x3, .int x4, .int x5, mj_hole] [] (u, ml_h m lm) Φ := wx_icmp xd58_77 rfl rfl (xs0 < xs1) mb_gt
theorem x58_80 {x1 : Int32} {x2 : Int32} {x3 : Int32} {x4 : Int32} {x5 : Int32} : wp Ln xs 58 80 [.ref 1, .int x1, .int x2, .int x3, .int x4, .int x5, mj_hole] [] (u, ml_h m lm) Φ = wp Ln xs 59 0 [.ref 1, .int x1, .int (nI 0)] [] (u, ml_h m lm) (mk Ln xs 58 83 [.ref 1, .int x1, .int x2, .int x3, .int x4, .int x5, mj_hole] [] Φ) := (wp_same xd58_80 (Or.inr rfl) rfl).trans ((wp_same xd58_81 (Or.inr rfl) rfl).trans ((wp_same (S' := [.int (nI 0), .int x1, .ref 1]) xd58_82 (Or.inr rfl) rfl).trans (wm_cv (As := [.int x1, .int (nI 0)]) (rest := []) xd58_83 rfl rfl (show ml_L[1]? = _ from rfl) (Nat.le_of_ble_eq_true rfl) (Nat.le_of_ble_eq_true rfl) (Nat.le_of_ble_eq_true rfl) (Nat.le_of_ble_eq_true rfl))))
theorem x58_86 {x1 : Int32} {x2 : Int32} {x3 : Int32} {x4 : Int32} {x5 : Int32} {xs0 : Int32} : wp Ln xs 58 86 [.ref 1, .int x1, .int x2, .int x3, .int x4, .int x5, mj_hole] [.int xs0] (u, ml_h m lm) Φ = if ¬ xs0 = ((nI 10) * x2) then wp Ln xs 58 185 [.ref 1, .int x1, .int x2, .int x3, .int x4, .int x5, mj_hole] [] (u, ml_h m lm) Φ else wp Ln xs 58 93 [.ref 1, .int x1, .int x2, .int x3, .int x4, .int x5, mj_hole] [] (u, ml_h m lm) Φ := (wp_same (S' := [.int (nI 10), .int xs0]) xd58_86 (Or.inr rfl) rfl).trans ((wp_same xd58_88 (Or.inr rfl) rfl).trans ((wp_same xd58_89 (Or.inr rfl) rfl).trans (wx_icmp xd58_90 rfl rfl (¬ xs0 = ((nI 10) * x2)) mb_ne)))
theorem x58_93 {x1 : Int32} {x2 : Int32} {x3 : Int32} {x4 : Int32} {x5 : Int32} : wp Ln xs 58 93 [.ref 1, .int x1, .int x2, .int x3, .int x4, .int x5, mj_hole] [] (u, ml_h m lm) Φ = wp Ln xs 59 0 [.ref 1, .int x1, .int (nI 2)] [] (u, ml_h m lm) (mk Ln xs 58 96 [.ref 1, .int x1, .int x2, .int x3, .int x4, .int x5, mj_hole] [] Φ) := (wp_same xd58_93 (Or.inr rfl) rfl).trans ((wp_same xd58_94 (Or.inr rfl) rfl).trans ((wp_same (S' := [.int (nI 2), .int x1, .ref 1]) xd58_95 (Or.inr rfl) rfl).trans (wm_cv (As := [.int x1, .int (nI 2)]) (rest := []) xd58_96 rfl rfl (show ml_L[1]? = _ from rfl) (Nat.le_of_ble_eq_true rfl) (Nat.le_of_ble_eq_true rfl) (Nat.le_of_ble_eq_true rfl) (Nat.le_of_ble_eq_true rfl))))
theorem x58_99 {x1 : Int32} {x2 : Int32} {x3 : Int32} {x4 : Int32} {x5 : Int32} {xs0 : Int32} : wp Ln xs 58 99 [.ref 1, .int x1, .int x2, .int x3, .int x4, .int x5, mj_hole] [.int xs0] (u, ml_h m lm) Φ = wp Ln xs 56 0 [.ref 1, .int x1, .int (nI 6)] [] (u, ml_h m lm) (mk Ln xs 58 105 [.ref 1, .int x1, .int x2, .int x3, .int x4, .int x5, mj_hole] [.int (nI 14), .int xs0] Φ) := (wp_same (S' := [.int (nI 14), .int xs0]) xd58_99 (Or.inr rfl) rfl).trans ((wp_same xd58_101 (Or.inr rfl) rfl).trans ((wp_same xd58_102 (Or.inr rfl) rfl).trans ((wp_same (S' := [.int (nI 6), .int x1, .ref 1, .int (nI 14), .int xs0]) xd58_103 (Or.inr rfl) rfl).trans (wm_cv (As := [.int x1, .int (nI 6)]) (rest := [.int (nI 14), .int xs0]) xd58_105 rfl rfl (show ml_L[1]? = _ from rfl) (Nat.le_of_ble_eq_true rfl) (Nat.le_of_ble_eq_true rfl) (Nat.le_of_ble_eq_true rfl) (Nat.le_of_ble_eq_true rfl)))))
theorem x58_108 {x1 : Int32} {x2 : Int32} {x3 : Int32} {x4 : Int32} {x5 : Int32} {xs0 : Int32} {xs1 : Int32} {xs2 : Int32} : wp Ln xs 58 108 [.ref 1, .int x1, .int x2, .int x3, .int x4, .int x5, mj_hole] [.int xs0, .int xs1, .int xs2] (u, ml_h m lm) Φ = if ¬ xs2 = (xs1 * xs0) then wp Ln xs 58 185 [.ref 1, .int x1, .int x2, .int x3, .int x4, .int x5, mj_hole] [] (u, ml_h m lm) Φ else wp Ln xs 58 112 [.ref 1, .int x1, .int x2, .int x3, .int x4, .int x5, mj_hole] [] (u, ml_h m lm) Φ := (wp_same xd58_108 (Or.inr rfl) rfl).trans (wx_icmp xd58_109 rfl rfl (¬ xs2 = (xs1 * xs0)) mb_ne)
theorem x58_112 {x1 : Int32} {x2 : Int32} {x3 : Int32} {x4 : Int32} {x5 : Int32} : wp Ln xs 58 112 [.ref 1, .int x1, .int x2, .int x3, .int x4, .int x5, mj_hole] [] (u, ml_h m lm) Φ = wp Ln xs 59 0 [.ref 1, .int x1, .int (nI 4)] [] (u, ml_h m lm) (mk Ln xs 58 115 [.ref 1, .int x1, .int x2, .int x3, .int x4, .int x5, mj_hole] [] Φ) := (wp_same xd58_112 (Or.inr rfl) rfl).trans ((wp_same xd58_113 (Or.inr rfl) rfl).trans ((wp_same (S' := [.int (nI 4), .int x1, .ref 1]) xd58_114 (Or.inr rfl) rfl).trans (wm_cv (As := [.int x1, .int (nI 4)]) (rest := []) xd58_115 rfl rfl (show ml_L[1]? = _ from rfl) (Nat.le_of_ble_eq_true rfl) (Nat.le_of_ble_eq_true rfl) (Nat.le_of_ble_eq_true rfl) (Nat.le_of_ble_eq_true rfl))))
theorem x58_118 {x1 : Int32} {x2 : Int32} {x3 : Int32} {x4 : Int32} {x5 : Int32} {xs0 : Int32} : wp Ln xs 58 118 [.ref 1, .int x1, .int x2, .int x3, .int x4, .int x5, mj_hole] [.int xs0] (u, ml_h m lm) Φ = if xs0 < (nI 14) then wp Ln xs 58 185 [.ref 1, .int x1, .int x2, .int x3, .int x4, .int x5, mj_hole] [] (u, ml_h m lm) Φ else wp Ln xs 58 123 [.ref 1, .int x1, .int x2, .int x3, .int x4, .int x5, mj_hole] [] (u, ml_h m lm) Φ := (wp_same (S' := [.int (nI 14), .int xs0]) xd58_118 (Or.inr rfl) rfl).trans (wx_icmp xd58_120 rfl rfl (xs0 < (nI 14)) mb_lt)
theorem x58_123 {x1 : Int32} {x2 : Int32} {x3 : Int32} {x4 : Int32} {x5 : Int32} : wp Ln xs 58 123 [.ref 1, .int x1, .int x2, .int x3, .int x4, .int x5, mj_hole] [] (u, ml_h m lm) Φ = wp Ln xs 56 0 [.ref 1, .int x1, .int (nI 6)] [] (u, ml_h m lm) (mk Ln xs 58 127 [.ref 1, .int x1, .int x2, .int x3, .int x4, .int x5, mj_hole] [] Φ) := (wp_same xd58_123 (Or.inr rfl) rfl).trans ((wp_same xd58_124 (Or.inr rfl) rfl).trans ((wp_same (S' := [.int (nI 6), .int x1, .ref 1]) xd58_125 (Or.inr rfl) rfl).trans (wm_cv (As := [.int x1, .int (nI 6)]) (rest := []) xd58_127 rfl rfl (show ml_L[1]? = _ from rfl) (Nat.le_of_ble_eq_true rfl) (Nat.le_of_ble_eq_true rfl) (Nat.le_of_ble_eq_true rfl) (Nat.le_of_ble_eq_true rfl))))
theorem x58_130 {x1 : Int32} {x2 : Int32} {x3 : Int32} {x4 : Int32} {x5 : Int32} {xs0 : Int32} : wp Ln xs 58 130 [.ref 1, .int x1, .int x2, .int x3, .int x4, .int x5, mj_hole] [.int xs0] (u, ml_h m lm) Φ = wp Ln xs 56 0 [.ref 1, .int x1, .int (nI 7)] [] (u, ml_h m lm) (mk Ln xs 58 134 [.ref 1, .int x1, .int x2, .int x3, .int x4, .int x5, mj_hole] [.int xs0] Φ) := (wp_same xd58_130 (Or.inr rfl) rfl).trans ((wp_same xd58_131 (Or.inr rfl) rfl).trans ((wp_same (S' := [.int (nI 7), .int x1, .ref 1, .int xs0]) xd58_132 (Or.inr rfl) rfl).trans (wm_cv (As := [.int x1, .int (nI 7)]) (rest := [.int xs0]) xd58_134 rfl rfl (show ml_L[1]? = _ from rfl) (Nat.le_of_ble_eq_true rfl) (Nat.le_of_ble_eq_true rfl) (Nat.le_of_ble_eq_true rfl) (Nat.le_of_ble_eq_true rfl))))
theorem x58_137 {x1 : Int32} {x2 : Int32} {x3 : Int32} {x4 : Int32} {x5 : Int32} {xs0 : Int32} {xs1 : Int32} : wp Ln xs 58 137 [.ref 1, .int x1, .int x2, .int x3, .int x4, .int x5, mj_hole] [.int xs0, .int xs1] (u, ml_h m lm) Φ = if xs1 < xs0 then wp Ln xs 58 185 [.ref 1, .int x1, .int x2, .int x3, .int x4, .int x5, mj_hole] [] (u, ml_h m lm) Φ else wp Ln xs 58 140 [.ref 1, .int x1, .int x2, .int x3, .int x4, .int x5, mj_hole] [] (u, ml_h m lm) Φ := wx_icmp xd58_137 rfl rfl (xs1 < xs0) mb_lt
theorem x58_140 {x1 : Int32} {x2 : Int32} {x3 : Int32} {x4 : Int32} {x5 : Int32} : wp Ln xs 58 140 [.ref 1, .int x1, .int x2, .int x3, .int x4, .int x5, mj_hole] [] (u, ml_h m lm) Φ = wp Ln xs 56 0 [.ref 1, .int x1, .int (nI 4)] [] (u, ml_h m lm) (mk Ln xs 58 143 [.ref 1, .int x1, .int x2, .int x3, .int x4, .int x5, mj_hole] [] Φ) := (wp_same xd58_140 (Or.inr rfl) rfl).trans ((wp_same xd58_141 (Or.inr rfl) rfl).trans ((wp_same (S' := [.int (nI 4), .int x1, .ref 1]) xd58_142 (Or.inr rfl) rfl).trans (wm_cv (As := [.int x1, .int (nI 4)]) (rest := []) xd58_143 rfl rfl (show ml_L[1]? = _ from rfl) (Nat.le_of_ble_eq_true rfl) (Nat.le_of_ble_eq_true rfl) (Nat.le_of_ble_eq_true rfl) (Nat.le_of_ble_eq_true rfl))))
theorem x58_146 {x1 : Int32} {x2 : Int32} {x3 : Int32} {x4 : Int32} {x5 : Int32} {xs0 : Int32} : wp Ln xs 58 146 [.ref 1, .int x1, .int x2, .int x3, .int x4, .int x5, mj_hole] [.int xs0] (u, ml_h m lm) Φ = wp Ln xs 56 0 [.ref 1, .int x1, .int (nI 5)] [] (u, ml_h m lm) (mk Ln xs 58 149 [.ref 1, .int x1, .int x2, .int x3, .int x4, .int x5, mj_hole] [.int xs0] Φ) := (wp_same xd58_146 (Or.inr rfl) rfl).trans ((wp_same xd58_147 (Or.inr rfl) rfl).trans ((wp_same (S' := [.int (nI 5), .int x1, .ref 1, .int xs0]) xd58_148 (Or.inr rfl) rfl).trans (wm_cv (As := [.int x1, .int (nI 5)]) (rest := [.int xs0]) xd58_149 rfl rfl (show ml_L[1]? = _ from rfl) (Nat.le_of_ble_eq_true rfl) (Nat.le_of_ble_eq_true rfl) (Nat.le_of_ble_eq_true rfl) (Nat.le_of_ble_eq_true rfl))))
theorem x58_152 {x1 : Int32} {x2 : Int32} {x3 : Int32} {x4 : Int32} {x5 : Int32} {xs0 : Int32} {xs1 : Int32} : wp Ln xs 58 152 [.ref 1, .int x1, .int x2, .int x3, .int x4, .int x5, mj_hole] [.int xs0, .int xs1] (u, ml_h m lm) Φ = if xs0 < xs1 then wp Ln xs 58 185 [.ref 1, .int x1, .int x2, .int x3, .int x4, .int x5, mj_hole] [] (u, ml_h m lm) Φ else wp Ln xs 58 155 [.ref 1, .int x1, .int x2, .int x3, .int x4, .int x5, mj_hole] [] (u, ml_h m lm) Φ := wx_icmp xd58_152 rfl rfl (xs0 < xs1) mb_gt
theorem x58_155 {x1 : Int32} {x2 : Int32} {x3 : Int32} {x4 : Int32} {x5 : Int32} : wp Ln xs 58 155 [.ref 1, .int x1, .int x2, .int x3, .int x4, .int x5, mj_hole] [] (u, ml_h m lm) Φ = wp Ln xs 56 0 [.ref 1, .int x1, .int (nI 9)] [] (u, ml_h m lm) (mk Ln xs 58 159 [.ref 1, .int x1, .int x2, .int x3, .int x4, .int x5, mj_hole] [] Φ) := (wp_same xd58_155 (Or.inr rfl) rfl).trans ((wp_same xd58_156 (Or.inr rfl) rfl).trans ((wp_same (S' := [.int (nI 9), .int x1, .ref 1]) xd58_157 (Or.inr rfl) rfl).trans (wm_cv (As := [.int x1, .int (nI 9)]) (rest := []) xd58_159 rfl rfl (show ml_L[1]? = _ from rfl) (Nat.le_of_ble_eq_true rfl) (Nat.le_of_ble_eq_true rfl) (Nat.le_of_ble_eq_true rfl) (Nat.le_of_ble_eq_true rfl))))
theorem x58_162 {x1 : Int32} {x2 : Int32} {x3 : Int32} {x4 : Int32} {x5 : Int32} {xs0 : Int32} : wp Ln xs 58 162 [.ref 1, .int x1, .int x2, .int x3, .int x4, .int x5, mj_hole] [.int xs0] (u, ml_h m lm) Φ = if ¬ xs0 = x4 then wp Ln xs 58 185 [.ref 1, .int x1, .int x2, .int x3, .int x4, .int x5, mj_hole] [] (u, ml_h m lm) Φ else wp Ln xs 58 167 [.ref 1, .int x1, .int x2, .int x3, .int x4, .int x5, mj_hole] [] (u, ml_h m lm) Φ := (wp_same xd58_162 (Or.inr rfl) rfl).trans (wx_icmp xd58_164 rfl rfl (¬ xs0 = x4) mb_ne)
theorem x58_167 {x1 : Int32} {x2 : Int32} {x3 : Int32} {x4 : Int32} {x5 : Int32} : wp Ln xs 58 167 [.ref 1, .int x1, .int x2, .int x3, .int x4, .int x5, mj_hole] [] (u, ml_h m lm) Φ = wp Ln xs 56 0 [.ref 1, .int x1, .int (nI 8)] [] (u, ml_h m lm) (mk Ln xs 58 172 [.ref 1, .int x1, .int x2, .int x3, .int x4, .int x5, mj_hole] [.ref 1] Φ) := (wp_same xd58_167 (Or.inr rfl) rfl).trans ((wp_same xd58_168 (Or.inr rfl) rfl).trans ((wp_same xd58_169 (Or.inr rfl) rfl).trans ((wp_same (S' := [.int (nI 8), .int x1, .ref 1, .ref 1]) xd58_170 (Or.inr rfl) rfl).trans (wm_cv (As := [.int x1, .int (nI 8)]) (rest := [.ref 1]) xd58_172 rfl rfl (show ml_L[1]? = _ from rfl) (Nat.le_of_ble_eq_true rfl) (Nat.le_of_ble_eq_true rfl) (Nat.le_of_ble_eq_true rfl) (Nat.le_of_ble_eq_true rfl)))))
theorem x58_175 {x1 : Int32} {x2 : Int32} {x3 : Int32} {x4 : Int32} {x5 : Int32} {xs0 : Int32} : wp Ln xs 58 175 [.ref 1, .int x1, .int x2, .int x3, .int x4, .int x5, mj_hole] [.int xs0, .ref 1] (u, ml_h m lm) Φ = wp Ln xs 60 0 [.ref 1, .int xs0] [] (u, ml_h m lm) (mk Ln xs 58 175 [.ref 1, .int x1, .int x2, .int x3, .int x4, .int x5, mj_hole] [] Φ) := wm_cs (As := [.ref 1, .int xs0]) (rest := []) xd58_175 rfl rfl (Nat.le_of_ble_eq_true rfl) (Nat.le_of_ble_eq_true rfl) (Nat.le_of_ble_eq_true rfl) (Nat.le_of_ble_eq_true rfl)
theorem x58_178 {x1 : Int32} {x2 : Int32} {x3 : Int32} {x4 : Int32} {x5 : Int32} {xs0 : Int32} : wp Ln xs 58 178 [.ref 1, .int x1, .int x2, .int x3, .int x4, .int x5, mj_hole] [.int xs0] (u, ml_h m lm) Φ = if xs0 = (nI 0) then wp Ln xs 58 185 [.ref 1, .int x1, .int x2, .int x3, .int x4, .int x5, mj_hole] [] (u, ml_h m lm) Φ else wp Ln xs 58 181 [.ref 1, .int x1, .int x2, .int x3, .int x4, .int x5, mj_hole] [] (u, ml_h m lm) Φ := wx_if xd58_178 rfl rfl (xs0 = (nI 0)) mb_eq
theorem x58_181 {x1 : Int32} {x2 : Int32} {x3 : Int32} {x4 : Int32} {x5 : Int32} : wp Ln xs 58 181 [.ref 1, .int x1, .int x2, .int x3, .int x4, .int x5, mj_hole] [] (u, ml_h m lm) Φ = wp Ln xs 58 186 [.ref 1, .int x1, .int x2, .int x3, .int x4, .int x5, mj_hole] [.int (nI 1)] (u, ml_h m lm) Φ := (wp_same (S' := [.int (nI 1)]) xd58_181 (Or.inr rfl) rfl).trans (wx_goto xd58_182 rfl)
theorem x58_185 {x1 : Int32} {x2 : Int32} {x3 : Int32} {x4 : Int32} {x5 : Int32} : wp Ln xs 58 185 [.ref 1, .int x1, .int x2, .int x3, .int x4, .int x5, mj_hole] [] (u, ml_h m lm) Φ = wp Ln xs 58 186 [.ref 1, .int x1, .int x2, .int x3, .int x4, .int x5, mj_hole] [.int (nI 0)] (u, ml_h m lm) Φ := wp_same (S' := [.int (nI 0)]) xd58_185 (Or.inr rfl) rfl
theorem x58_186 {x1 : Int32} {x2 : Int32} {x3 : Int32} {x4 : Int32} {x5 : Int32} {xs0 : Int32} : wp Ln xs 58 186 [.ref 1, .int x1, .int x2, .int x3, .int x4, .int x5, mj_hole] [.int xs0] (u, ml_h m lm) Φ = if xs0 = (nI 0) then wp Ln xs 58 237 [.ref 1, .int x1, .int x2, .int x3, .int x4, .int xs0, mj_hole] [] (u, ml_h m lm) Φ else wp Ln xs 58 193 [.ref 1, .int x1, .int x2, .int x3, .int x4, .int xs0, mj_hole] [] (u, ml_h m lm) Φ := (wp_same (L' := [.ref 1, .int x1, .int x2, .int x3, .int x4, .int xs0, mj_hole]) xd58_186 (Or.inr rfl) rfl).trans ((wp_same xd58_188 (Or.inr rfl) rfl).trans (wx_if xd58_190 rfl rfl (xs0 = (nI 0)) mb_eq))
theorem x58_193 {x1 : Int32} {x2 : Int32} {x3 : Int32} {x4 : Int32} {x5 : Int32} : wp Ln xs 58 193 [.ref 1, .int x1, .int x2, .int x3, .int x4, .int x5, mj_hole] [] (u, ml_h m lm) Φ = wp Ln xs 62 0 [.ref 1, .int x1, .int x3] [] (u, ml_h m lm) (mk Ln xs 58 196 [.ref 1, .int x1, .int x2, .int x3, .int x4, .int x5, mj_hole] [] Φ) := (wp_same xd58_193 (Or.inr rfl) rfl).trans ((wp_same xd58_194 (Or.inr rfl) rfl).trans ((wp_same xd58_195 (Or.inr rfl) rfl).trans (wm_cv (As := [.int x1, .int x3]) (rest := []) xd58_196 rfl rfl (show ml_L[1]? = _ from rfl) (Nat.le_of_ble_eq_true rfl) (Nat.le_of_ble_eq_true rfl) (Nat.le_of_ble_eq_true rfl) (Nat.le_of_ble_eq_true rfl))))
theorem x58_199 {x1 : Int32} {x2 : Int32} {x3 : Int32} {x4 : Int32} {x5 : Int32} {xs0 : Int32} : wp Ln xs 58 199 [.ref 1, .int x1, .int x2, .int x3, .int x4, .int x5, mj_hole] [.int xs0] (u, ml_h m lm) Φ = if ¬ xs0 = ((-1)) then wp Ln xs 58 237 [.ref 1, .int x1, .int x2, .int x3, .int x4, .int x5, mj_hole] [] (u, ml_h m lm) Φ else wp Ln xs 58 203 [.ref 1, .int x1, .int x2, .int x3, .int x4, .int x5, mj_hole] [] (u, ml_h m lm) Φ := (wp_same (S' := [.int ((-1)), .int xs0]) xd58_199 (Or.inr rfl) rfl).trans (wx_icmp xd58_200 rfl rfl (¬ xs0 = ((-1))) mb_ne)
theorem x58_203 {x1 : Int32} {x2 : Int32} {x3 : Int32} {x4 : Int32} {x5 : Int32} : wp Ln xs 58 203 [.ref 1, .int x1, .int x2, .int x3, .int x4, .int x5, mj_hole] [] (u, ml_h m lm) Φ = wp Ln xs 62 0 [.ref 1, .int x1, .int (x3 - (nI 1))] [] (u, ml_h m lm) (mk Ln xs 58 208 [.ref 1, .int x1, .int x2, .int x3, .int x4, .int x5, mj_hole] [] Φ) := (wp_same xd58_203 (Or.inr rfl) rfl).trans ((wp_same xd58_204 (Or.inr rfl) rfl).trans ((wp_same xd58_205 (Or.inr rfl) rfl).trans ((wp_same (S' := [.int (nI 1), .int x3, .int x1, .ref 1]) xd58_206 (Or.inr rfl) rfl).trans ((wp_same xd58_207 (Or.inr rfl) rfl).trans (wm_cv (As := [.int x1, .int (x3 - (nI 1))]) (rest := []) xd58_208 rfl rfl (show ml_L[1]? = _ from rfl) (Nat.le_of_ble_eq_true rfl) (Nat.le_of_ble_eq_true rfl) (Nat.le_of_ble_eq_true rfl) (Nat.le_of_ble_eq_true rfl))))))
theorem x58_211 {x1 : Int32} {x2 : Int32} {x3 : Int32} {x4 : Int32} {x5 : Int32} {xs0 : Int32} : wp Ln xs 58 211 [.ref 1, .int x1, .int x2, .int x3, .int x4, .int x5, mj_hole] [.int xs0] (u, ml_h m lm) Φ = if xs0 < (nI 0) then wp Ln xs 58 237 [.ref 1, .int x1, .int x2, .int x3, .int x4, .int x5, mj_hole] [] (u, ml_h m lm) Φ else wp Ln xs 58 214 [.ref 1, .int x1, .int x2, .int x3, .int x4, .int x5, mj_hole] [] (u, ml_h m lm) Φ := wx_if xd58_211 rfl rfl (xs0 < (nI 0)) mb_lt
theorem x58_214 {x1 : Int32} {x2 : Int32} {x3 : Int32} {x4 : Int32} {x5 : Int32} : wp Ln xs 58 214 [.ref 1, .int x1, .int x2, .int x3, .int x4, .int x5, mj_hole] [] (u, ml_h m lm) Φ = wp Ln xs 62 0 [.ref 1, .int x1, .int (nI 0)] [] (u, ml_h m lm) (mk Ln xs 58 217 [.ref 1, .int x1, .int x2, .int x3, .int x4, .int x5, mj_hole] [] Φ) := (wp_same xd58_214 (Or.inr rfl) rfl).trans ((wp_same xd58_215 (Or.inr rfl) rfl).trans ((wp_same (S' := [.int (nI 0), .int x1, .ref 1]) xd58_216 (Or.inr rfl) rfl).trans (wm_cv (As := [.int x1, .int (nI 0)]) (rest := []) xd58_217 rfl rfl (show ml_L[1]? = _ from rfl) (Nat.le_of_ble_eq_true rfl) (Nat.le_of_ble_eq_true rfl) (Nat.le_of_ble_eq_true rfl) (Nat.le_of_ble_eq_true rfl))))
theorem x58_220 {x1 : Int32} {x2 : Int32} {x3 : Int32} {x4 : Int32} {x5 : Int32} {xs0 : Int32} : wp Ln xs 58 220 [.ref 1, .int x1, .int x2, .int x3, .int x4, .int x5, mj_hole] [.int xs0] (u, ml_h m lm) Φ = if xs0 < (nI 0) then wp Ln xs 58 237 [.ref 1, .int x1, .int x2, .int x3, .int x4, .int x5, mj_hole] [] (u, ml_h m lm) Φ else wp Ln xs 58 223 [.ref 1, .int x1, .int x2, .int x3, .int x4, .int x5, mj_hole] [] (u, ml_h m lm) Φ := wx_if xd58_220 rfl rfl (xs0 < (nI 0)) mb_lt
theorem x58_223 {x1 : Int32} {x2 : Int32} {x3 : Int32} {x4 : Int32} {x5 : Int32} : wp Ln xs 58 223 [.ref 1, .int x1, .int x2, .int x3, .int x4, .int x5, mj_hole] [] (u, ml_h m lm) Φ = wp Ln xs 62 0 [.ref 1, .int x1, .int (nI 0)] [] (u, ml_h m lm) (mk Ln xs 58 226 [.ref 1, .int x1, .int x2, .int x3, .int x4, .int x5, mj_hole] [] Φ) := (wp_same xd58_223 (Or.inr rfl) rfl).trans ((wp_same xd58_224 (Or.inr rfl) rfl).trans ((wp_same (S' := [.int (nI 0), .int x1, .ref 1]) xd58_225 (Or.inr rfl) rfl).trans (wm_cv (As := [.int x1, .int (nI 0)]) (rest := []) xd58_226 rfl rfl (show ml_L[1]? = _ from rfl) (Nat.le_of_ble_eq_true rfl) (Nat.le_of_ble_eq_true rfl) (Nat.le_of_ble_eq_true rfl) (Nat.le_of_ble_eq_true rfl))))
theorem x58_229 {x1 : Int32} {x2 : Int32} {x3 : Int32} {x4 : Int32} {x5 : Int32} {xs0 : Int32} : wp Ln xs 58 229 [.ref 1, .int x1, .int x2, .int x3, .int x4, .int x5, mj_hole] [.int xs0] (u, ml_h m lm) Φ = if (nI 2) ≤ xs0 then wp Ln xs 58 237 [.ref 1, .int x1, .int x2, .int x3, .int x4, .int x5, mj_hole] [] (u, ml_h m lm) Φ else wp Ln xs 58 233 [.ref 1, .int x1, .int x2, .int x3, .int x4, .int x5, mj_hole] [] (u, ml_h m lm) Φ := (wp_same (S' := [.int (nI 2), .int xs0]) xd58_229 (Or.inr rfl) rfl).trans (wx_icmp xd58_230 rfl rfl ((nI 2) ≤ xs0) mb_ge)
theorem x58_233 {x1 : Int32} {x2 : Int32} {x3 : Int32} {x4 : Int32} {x5 : Int32} : wp Ln xs 58 233 [.ref 1, .int x1, .int x2, .int x3, .int x4, .int x5, mj_hole] [] (u, ml_h m lm) Φ = wp Ln xs 58 238 [.ref 1, .int x1, .int x2, .int x3, .int x4, .int x5, mj_hole] [.int (nI 1)] (u, ml_h m lm) Φ := (wp_same (S' := [.int (nI 1)]) xd58_233 (Or.inr rfl) rfl).trans (wx_goto xd58_234 rfl)
theorem x58_237 {x1 : Int32} {x2 : Int32} {x3 : Int32} {x4 : Int32} {x5 : Int32} : wp Ln xs 58 237 [.ref 1, .int x1, .int x2, .int x3, .int x4, .int x5, mj_hole] [] (u, ml_h m lm) Φ = wp Ln xs 58 238 [.ref 1, .int x1, .int x2, .int x3, .int x4, .int x5, mj_hole] [.int (nI 0)] (u, ml_h m lm) Φ := wp_same (S' := [.int (nI 0)]) xd58_237 (Or.inr rfl) rfl
theorem x58_238 {x1 : Int32} {x2 : Int32} {x3 : Int32} {x4 : Int32} {x5 : Int32} {xs0 : Int32} : wp Ln xs 58 238 [.ref 1, .int x1, .int x2, .int x3, .int x4, .int x5, mj_hole] [.int xs0] (u, ml_h m lm) Φ = wp Ln xs 58 243 [.ref 1, .int x1, .int x2, .int x3, .int x4, .int xs0, .int (nI 0)] [] (u, ml_h m lm) Φ := (wp_same (L' := [.ref 1, .int x1, .int x2, .int x3, .int x4, .int xs0, mj_hole]) xd58_238 (Or.inr rfl) rfl).trans ((wp_same (S' := [.int (nI 0)]) xd58_240 (Or.inr rfl) rfl).trans (wp_same (L' := [.ref 1, .int x1, .int x2, .int x3, .int x4, .int xs0, .int (nI 0)]) xd58_241 (Or.inr rfl) rfl))
theorem x58_243 {x1 : Int32} {x2 : Int32} {x3 : Int32} {x4 : Int32} {x5 : Int32} {x6 : Int32} : wp Ln xs 58 243 [.ref 1, .int x1, .int x2, .int x3, .int x4, .int x5, .int x6] [] (u, ml_h m lm) Φ = if x2 ≤ x6 then wp Ln xs 58 363 [.ref 1, .int x1, .int x2, .int x3, .int x4, .int x5, .int x6] [] (u, ml_h m lm) Φ else wp Ln xs 58 249 [.ref 1, .int x1, .int x2, .int x3, .int x4, .int x5, .int x6] [] (u, ml_h m lm) Φ := (wp_same xd58_243 (Or.inr rfl) rfl).trans ((wp_same xd58_245 (Or.inr rfl) rfl).trans (wx_icmp xd58_246 rfl rfl (x2 ≤ x6) mb_ge))
theorem x58_249 {x1 : Int32} {x2 : Int32} {x3 : Int32} {x4 : Int32} {x5 : Int32} {x6 : Int32} : wp Ln xs 58 249 [.ref 1, .int x1, .int x2, .int x3, .int x4, .int x5, .int x6] [] (u, ml_h m lm) Φ = if x5 = (nI 0) then wp Ln xs 58 363 [.ref 1, .int x1, .int x2, .int x3, .int x4, .int x5, .int x6] [] (u, ml_h m lm) Φ else wp Ln xs 58 254 [.ref 1, .int x1, .int x2, .int x3, .int x4, .int x5, .int x6] [] (u, ml_h m lm) Φ := (wp_same xd58_249 (Or.inr rfl) rfl).trans (wx_if xd58_251 rfl rfl (x5 = (nI 0)) mb_eq)
theorem x58_254 {x1 : Int32} {x2 : Int32} {x3 : Int32} {x4 : Int32} {x5 : Int32} {x6 : Int32} : wp Ln xs 58 254 [.ref 1, .int x1, .int x2, .int x3, .int x4, .int x5, .int x6] [] (u, ml_h m lm) Φ = wp Ln xs 72 0 [.ref 1, .int (x4 + x6), .int (nI 1)] [] (u, ml_h m lm) (mk Ln xs 58 261 [.ref 1, .int x1, .int x2, .int x3, .int x4, .int x5, .int x6] [] Φ) := (wp_same xd58_254 (Or.inr rfl) rfl).trans ((wp_same xd58_255 (Or.inr rfl) rfl).trans ((wp_same xd58_257 (Or.inr rfl) rfl).trans ((wp_same xd58_259 (Or.inr rfl) rfl).trans ((wp_same (S' := [.int (nI 1), .int (x4 + x6), .ref 1]) xd58_260 (Or.inr rfl) rfl).trans (wm_cv (As := [.int (x4 + x6), .int (nI 1)]) (rest := []) xd58_261 rfl rfl (show ml_L[1]? = _ from rfl) (Nat.le_of_ble_eq_true rfl) (Nat.le_of_ble_eq_true rfl) (Nat.le_of_ble_eq_true rfl) (Nat.le_of_ble_eq_true rfl))))))
theorem x58_264 {x1 : Int32} {x2 : Int32} {x3 : Int32} {x4 : Int32} {x5 : Int32} {x6 : Int32} {xs0 : Int32} : wp Ln xs 58 264 [.ref 1, .int x1, .int x2, .int x3, .int x4, .int x5, .int x6] [.int xs0] (u, ml_h m lm) Φ = if ¬ xs0 = x1 then wp Ln xs 58 354 [.ref 1, .int x1, .int x2, .int x3, .int x4, .int x5, .int x6] [] (u, ml_h m lm) Φ else wp Ln xs 58 268 [.ref 1, .int x1, .int x2, .int x3, .int x4, .int x5, .int x6] [] (u, ml_h m lm) Φ := (wp_same xd58_264 (Or.inr rfl) rfl).trans (wx_icmp xd58_265 rfl rfl (¬ xs0 = x1) mb_ne)
theorem x58_268 {x1 : Int32} {x2 : Int32} {x3 : Int32} {x4 : Int32} {x5 : Int32} {x6 : Int32} : wp Ln xs 58 268 [.ref 1, .int x1, .int x2, .int x3, .int x4, .int x5, .int x6] [] (u, ml_h m lm) Φ = wp Ln xs 72 0 [.ref 1, .int (x4 + x6), .int (nI 2)] [] (u, ml_h m lm) (mk Ln xs 58 275 [.ref 1, .int x1, .int x2, .int x3, .int x4, .int x5, .int x6] [] Φ) := (wp_same xd58_268 (Or.inr rfl) rfl).trans ((wp_same xd58_269 (Or.inr rfl) rfl).trans ((wp_same xd58_271 (Or.inr rfl) rfl).trans ((wp_same xd58_273 (Or.inr rfl) rfl).trans ((wp_same (S' := [.int (nI 2), .int (x4 + x6), .ref 1]) xd58_274 (Or.inr rfl) rfl).trans (wm_cv (As := [.int (x4 + x6), .int (nI 2)]) (rest := []) xd58_275 rfl rfl (show ml_L[1]? = _ from rfl) (Nat.le_of_ble_eq_true rfl) (Nat.le_of_ble_eq_true rfl) (Nat.le_of_ble_eq_true rfl) (Nat.le_of_ble_eq_true rfl))))))
theorem x58_278 {x1 : Int32} {x2 : Int32} {x3 : Int32} {x4 : Int32} {x5 : Int32} {x6 : Int32} {xs0 : Int32} : wp Ln xs 58 278 [.ref 1, .int x1, .int x2, .int x3, .int x4, .int x5, .int x6] [.int xs0] (u, ml_h m lm) Φ = if ¬ xs0 = x6 then wp Ln xs 58 354 [.ref 1, .int x1, .int x2, .int x3, .int x4, .int x5, .int x6] [] (u, ml_h m lm) Φ else wp Ln xs 58 283 [.ref 1, .int x1, .int x2, .int x3, .int x4, .int x5, .int x6] [] (u, ml_h m lm) Φ := (wp_same xd58_278 (Or.inr rfl) rfl).trans (wx_icmp xd58_280 rfl rfl (¬ xs0 = x6) mb_ne)
theorem x58_283 {x1 : Int32} {x2 : Int32} {x3 : Int32} {x4 : Int32} {x5 : Int32} {x6 : Int32} : wp Ln xs 58 283 [.ref 1, .int x1, .int x2, .int x3, .int x4, .int x5, .int x6] [] (u, ml_h m lm) Φ = wp Ln xs 72 0 [.ref 1, .int (x4 + x6), .int (nI 0)] [] (u, ml_h m lm) (mk Ln xs 58 290 [.ref 1, .int x1, .int x2, .int x3, .int x4, .int x5, .int x6] [] Φ) := (wp_same xd58_283 (Or.inr rfl) rfl).trans ((wp_same xd58_284 (Or.inr rfl) rfl).trans ((wp_same xd58_286 (Or.inr rfl) rfl).trans ((wp_same xd58_288 (Or.inr rfl) rfl).trans ((wp_same (S' := [.int (nI 0), .int (x4 + x6), .ref 1]) xd58_289 (Or.inr rfl) rfl).trans (wm_cv (As := [.int (x4 + x6), .int (nI 0)]) (rest := []) xd58_290 rfl rfl (show ml_L[1]? = _ from rfl) (Nat.le_of_ble_eq_true rfl) (Nat.le_of_ble_eq_true rfl) (Nat.le_of_ble_eq_true rfl) (Nat.le_of_ble_eq_true rfl))))))
theorem x58_293 {x1 : Int32} {x2 : Int32} {x3 : Int32} {x4 : Int32} {x5 : Int32} {x6 : Int32} {xs0 : Int32} : wp Ln xs 58 293 [.ref 1, .int x1, .int x2, .int x3, .int x4, .int x5, .int x6] [.int xs0] (u, ml_h m lm) Φ = wp Ln xs 56 0 [.ref 1, .int x1, .int (nI 4)] [] (u, ml_h m lm) (mk Ln xs 58 296 [.ref 1, .int x1, .int x2, .int x3, .int x4, .int x5, .int x6] [.int xs0] Φ) := (wp_same xd58_293 (Or.inr rfl) rfl).trans ((wp_same xd58_294 (Or.inr rfl) rfl).trans ((wp_same (S' := [.int (nI 4), .int x1, .ref 1, .int xs0]) xd58_295 (Or.inr rfl) rfl).trans (wm_cv (As := [.int x1, .int (nI 4)]) (rest := [.int xs0]) xd58_296 rfl rfl (show ml_L[1]? = _ from rfl) (Nat.le_of_ble_eq_true rfl) (Nat.le_of_ble_eq_true rfl) (Nat.le_of_ble_eq_true rfl) (Nat.le_of_ble_eq_true rfl))))
theorem x58_299 {x1 : Int32} {x2 : Int32} {x3 : Int32} {x4 : Int32} {x5 : Int32} {x6 : Int32} {xs0 : Int32} {xs1 : Int32} : wp Ln xs 58 299 [.ref 1, .int x1, .int x2, .int x3, .int x4, .int x5, .int x6] [.int xs0, .int xs1] (u, ml_h m lm) Φ = if xs1 < xs0 then wp Ln xs 58 354 [.ref 1, .int x1, .int x2, .int x3, .int x4, .int x5, .int x6] [] (u, ml_h m lm) Φ else wp Ln xs 58 302 [.ref 1, .int x1, .int x2, .int x3, .int x4, .int x5, .int x6] [] (u, ml_h m lm) Φ := wx_icmp xd58_299 rfl rfl (xs1 < xs0) mb_lt
theorem x58_302 {x1 : Int32} {x2 : Int32} {x3 : Int32} {x4 : Int32} {x5 : Int32} {x6 : Int32} : wp Ln xs 58 302 [.ref 1, .int x1, .int x2, .int x3, .int x4, .int x5, .int x6] [] (u, ml_h m lm) Φ = wp Ln xs 72 0 [.ref 1, .int (x4 + x6), .int (nI 0)] [] (u, ml_h m lm) (mk Ln xs 58 309 [.ref 1, .int x1, .int x2, .int x3, .int x4, .int x5, .int x6] [] Φ) := (wp_same xd58_302 (Or.inr rfl) rfl).trans ((wp_same xd58_303 (Or.inr rfl) rfl).trans ((wp_same xd58_305 (Or.inr rfl) rfl).trans ((wp_same xd58_307 (Or.inr rfl) rfl).trans ((wp_same (S' := [.int (nI 0), .int (x4 + x6), .ref 1]) xd58_308 (Or.inr rfl) rfl).trans (wm_cv (As := [.int (x4 + x6), .int (nI 0)]) (rest := []) xd58_309 rfl rfl (show ml_L[1]? = _ from rfl) (Nat.le_of_ble_eq_true rfl) (Nat.le_of_ble_eq_true rfl) (Nat.le_of_ble_eq_true rfl) (Nat.le_of_ble_eq_true rfl))))))
theorem x58_312 {x1 : Int32} {x2 : Int32} {x3 : Int32} {x4 : Int32} {x5 : Int32} {x6 : Int32} {xs0 : Int32} : wp Ln xs 58 312 [.ref 1, .int x1, .int x2, .int x3, .int x4, .int x5, .int x6] [.int xs0] (u, ml_h m lm) Φ = wp Ln xs 56 0 [.ref 1, .int x1, .int (nI 5)] [] (u, ml_h m lm) (mk Ln xs 58 315 [.ref 1, .int x1, .int x2, .int x3, .int x4, .int x5, .int x6] [.int xs0] Φ) := (wp_same xd58_312 (Or.inr rfl) rfl).trans ((wp_same xd58_313 (Or.inr rfl) rfl).trans ((wp_same (S' := [.int (nI 5), .int x1, .ref 1, .int xs0]) xd58_314 (Or.inr rfl) rfl).trans (wm_cv (As := [.int x1, .int (nI 5)]) (rest := [.int xs0]) xd58_315 rfl rfl (show ml_L[1]? = _ from rfl) (Nat.le_of_ble_eq_true rfl) (Nat.le_of_ble_eq_true rfl) (Nat.le_of_ble_eq_true rfl) (Nat.le_of_ble_eq_true rfl))))
theorem x58_318 {x1 : Int32} {x2 : Int32} {x3 : Int32} {x4 : Int32} {x5 : Int32} {x6 : Int32} {xs0 : Int32} {xs1 : Int32} : wp Ln xs 58 318 [.ref 1, .int x1, .int x2, .int x3, .int x4, .int x5, .int x6] [.int xs0, .int xs1] (u, ml_h m lm) Φ = if xs0 < xs1 then wp Ln xs 58 354 [.ref 1, .int x1, .int x2, .int x3, .int x4, .int x5, .int x6] [] (u, ml_h m lm) Φ else wp Ln xs 58 321 [.ref 1, .int x1, .int x2, .int x3, .int x4, .int x5, .int x6] [] (u, ml_h m lm) Φ := wx_icmp xd58_318 rfl rfl (xs0 < xs1) mb_gt
theorem x58_321 {x1 : Int32} {x2 : Int32} {x3 : Int32} {x4 : Int32} {x5 : Int32} {x6 : Int32} : wp Ln xs 58 321 [.ref 1, .int x1, .int x2, .int x3, .int x4, .int x5, .int x6] [] (u, ml_h m lm) Φ = wp Ln xs 72 0 [.ref 1, .int (x4 + x6), .int (nI 3)] [] (u, ml_h m lm) (mk Ln xs 58 328 [.ref 1, .int x1, .int x2, .int x3, .int x4, .int x5, .int x6] [] Φ) := (wp_same xd58_321 (Or.inr rfl) rfl).trans ((wp_same xd58_322 (Or.inr rfl) rfl).trans ((wp_same xd58_324 (Or.inr rfl) rfl).trans ((wp_same xd58_326 (Or.inr rfl) rfl).trans ((wp_same (S' := [.int (nI 3), .int (x4 + x6), .ref 1]) xd58_327 (Or.inr rfl) rfl).trans (wm_cv (As := [.int (x4 + x6), .int (nI 3)]) (rest := []) xd58_328 rfl rfl (show ml_L[1]? = _ from rfl) (Nat.le_of_ble_eq_true rfl) (Nat.le_of_ble_eq_true rfl) (Nat.le_of_ble_eq_true rfl) (Nat.le_of_ble_eq_true rfl))))))
theorem x58_331 {x1 : Int32} {x2 : Int32} {x3 : Int32} {x4 : Int32} {x5 : Int32} {x6 : Int32} {xs0 : Int32} : wp Ln xs 58 331 [.ref 1, .int x1, .int x2, .int x3, .int x4, .int x5, .int x6] [.int xs0] (u, ml_h m lm) Φ = if xs0 < (nI 1) then wp Ln xs 58 354 [.ref 1, .int x1, .int x2, .int x3, .int x4, .int x5, .int x6] [] (u, ml_h m lm) Φ else wp Ln xs 58 335 [.ref 1, .int x1, .int x2, .int x3, .int x4, .int x5, .int x6] [] (u, ml_h m lm) Φ := (wp_same (S' := [.int (nI 1), .int xs0]) xd58_331 (Or.inr rfl) rfl).trans (wx_icmp xd58_332 rfl rfl (xs0 < (nI 1)) mb_lt)
theorem x58_335 {x1 : Int32} {x2 : Int32} {x3 : Int32} {x4 : Int32} {x5 : Int32} {x6 : Int32} : wp Ln xs 58 335 [.ref 1, .int x1, .int x2, .int x3, .int x4, .int x5, .int x6] [] (u, ml_h m lm) Φ = wp Ln xs 72 0 [.ref 1, .int (x4 + x6), .int (nI 3)] [] (u, ml_h m lm) (mk Ln xs 58 342 [.ref 1, .int x1, .int x2, .int x3, .int x4, .int x5, .int x6] [] Φ) := (wp_same xd58_335 (Or.inr rfl) rfl).trans ((wp_same xd58_336 (Or.inr rfl) rfl).trans ((wp_same xd58_338 (Or.inr rfl) rfl).trans ((wp_same xd58_340 (Or.inr rfl) rfl).trans ((wp_same (S' := [.int (nI 3), .int (x4 + x6), .ref 1]) xd58_341 (Or.inr rfl) rfl).trans (wm_cv (As := [.int (x4 + x6), .int (nI 3)]) (rest := []) xd58_342 rfl rfl (show ml_L[1]? = _ from rfl) (Nat.le_of_ble_eq_true rfl) (Nat.le_of_ble_eq_true rfl) (Nat.le_of_ble_eq_true rfl) (Nat.le_of_ble_eq_true rfl))))))
theorem x58_345 {x1 : Int32} {x2 : Int32} {x3 : Int32} {x4 : Int32} {x5 : Int32} {x6 : Int32} {xs0 : Int32} : wp Ln xs 58 345 [.ref 1, .int x1, .int x2, .int x3, .int x4, .int x5, .int x6] [.int xs0] (u, ml_h m lm) Φ = if (nI 16) < xs0 then wp Ln xs 58 354 [.ref 1, .int x1, .int x2, .int x3, .int x4, .int x5, .int x6] [] (u, ml_h m lm) Φ else wp Ln xs 58 350 [.ref 1, .int x1, .int x2, .int x3, .int x4, .int x5, .int x6] [] (u, ml_h m lm) Φ := (wp_same (S' := [.int (nI 16), .int xs0]) xd58_345 (Or.inr rfl) rfl).trans (wx_icmp xd58_347 rfl rfl ((nI 16) < xs0) mb_gt)
theorem x58_350 {x1 : Int32} {x2 : Int32} {x3 : Int32} {x4 : Int32} {x5 : Int32} {x6 : Int32} : wp Ln xs 58 350 [.ref 1, .int x1, .int x2, .int x3, .int x4, .int x5, .int x6] [] (u, ml_h m lm) Φ = wp Ln xs 58 355 [.ref 1, .int x1, .int x2, .int x3, .int x4, .int x5, .int x6] [.int (nI 1)] (u, ml_h m lm) Φ := (wp_same (S' := [.int (nI 1)]) xd58_350 (Or.inr rfl) rfl).trans (wx_goto xd58_351 rfl)
theorem x58_354 {x1 : Int32} {x2 : Int32} {x3 : Int32} {x4 : Int32} {x5 : Int32} {x6 : Int32} : wp Ln xs 58 354 [.ref 1, .int x1, .int x2, .int x3, .int x4, .int x5, .int x6] [] (u, ml_h m lm) Φ = wp Ln xs 58 355 [.ref 1, .int x1, .int x2, .int x3, .int x4, .int x5, .int x6] [.int (nI 0)] (u, ml_h m lm) Φ := wp_same (S' := [.int (nI 0)]) xd58_354 (Or.inr rfl) rfl
theorem x58_355 {x1 : Int32} {x2 : Int32} {x3 : Int32} {x4 : Int32} {x5 : Int32} {x6 : Int32} {xs0 : Int32} : wp Ln xs 58 355 [.ref 1, .int x1, .int x2, .int x3, .int x4, .int x5, .int x6] [.int xs0] (u, ml_h m lm) Φ = wp Ln xs 58 243 [.ref 1, .int x1, .int x2, .int x3, .int x4, .int xs0, .int (x6 + nI 1)] [] (u, ml_h m lm) Φ := (wp_same (L' := [.ref 1, .int x1, .int x2, .int x3, .int x4, .int xs0, .int x6]) xd58_355 (Or.inr rfl) rfl).trans ((wp_same (L' := [.ref 1, .int x1, .int x2, .int x3, .int x4, .int xs0, .int (x6 + nI 1)]) xd58_357 (Or.inr rfl) rfl).trans (wx_goto xd58_360 rfl))
theorem x58_363 {x1 : Int32} {x2 : Int32} {x3 : Int32} {x4 : Int32} {x5 : Int32} {x6 : Int32} : wp Ln xs 58 363 [.ref 1, .int x1, .int x2, .int x3, .int x4, .int x5, .int x6] [] (u, ml_h m lm) Φ = if x5 = (nI 0) then wp Ln xs 58 399 [.ref 1, .int x1, .int x2, .int x3, .int x4, .int x5, .int x6] [] (u, ml_h m lm) Φ else wp Ln xs 58 368 [.ref 1, .int x1, .int x2, .int x3, .int x4, .int x5, .int x6] [] (u, ml_h m lm) Φ := (wp_same xd58_363 (Or.inr rfl) rfl).trans (wx_if xd58_365 rfl rfl (x5 = (nI 0)) mb_eq)
theorem x58_368 {x1 : Int32} {x2 : Int32} {x3 : Int32} {x4 : Int32} {x5 : Int32} {x6 : Int32} : wp Ln xs 58 368 [.ref 1, .int x1, .int x2, .int x3, .int x4, .int x5, .int x6] [] (u, ml_h m lm) Φ = wp Ln xs 77 0 [.ref 1, .int x1] [] (u, ml_h m lm) (mk Ln xs 58 370 [.ref 1, .int x1, .int x2, .int x3, .int x4, .int x5, .int x6] [] Φ) := (wp_same xd58_368 (Or.inr rfl) rfl).trans ((wp_same xd58_369 (Or.inr rfl) rfl).trans (wm_cv (As := [.int x1]) (rest := []) xd58_370 rfl rfl (show ml_L[1]? = _ from rfl) (Nat.le_of_ble_eq_true rfl) (Nat.le_of_ble_eq_true rfl) (Nat.le_of_ble_eq_true rfl) (Nat.le_of_ble_eq_true rfl)))
theorem x58_373 {x1 : Int32} {x2 : Int32} {x3 : Int32} {x4 : Int32} {x5 : Int32} {x6 : Int32} {xs0 : Int32} : wp Ln xs 58 373 [.ref 1, .int x1, .int x2, .int x3, .int x4, .int x5, .int x6] [.int xs0] (u, ml_h m lm) Φ = if ¬ xs0 = ((-1)) then wp Ln xs 58 381 [.ref 1, .int x1, .int x2, .int x3, .int x4, .int x5, .int x6] [] (u, ml_h m lm) Φ else wp Ln xs 58 377 [.ref 1, .int x1, .int x2, .int x3, .int x4, .int x5, .int x6] [] (u, ml_h m lm) Φ := (wp_same (S' := [.int ((-1)), .int xs0]) xd58_373 (Or.inr rfl) rfl).trans (wx_icmp xd58_374 rfl rfl (¬ xs0 = ((-1))) mb_ne)
theorem x58_377 {x1 : Int32} {x2 : Int32} {x3 : Int32} {x4 : Int32} {x5 : Int32} {x6 : Int32} : wp Ln xs 58 377 [.ref 1, .int x1, .int x2, .int x3, .int x4, .int x5, .int x6] [] (u, ml_h m lm) Φ = wp Ln xs 58 382 [.ref 1, .int x1, .int x2, .int x3, .int x4, .int x5, .int x6] [.int (nI 1)] (u, ml_h m lm) Φ := (wp_same (S' := [.int (nI 1)]) xd58_377 (Or.inr rfl) rfl).trans (wx_goto xd58_378 rfl)
theorem x58_381 {x1 : Int32} {x2 : Int32} {x3 : Int32} {x4 : Int32} {x5 : Int32} {x6 : Int32} : wp Ln xs 58 381 [.ref 1, .int x1, .int x2, .int x3, .int x4, .int x5, .int x6] [] (u, ml_h m lm) Φ = wp Ln xs 58 382 [.ref 1, .int x1, .int x2, .int x3, .int x4, .int x5, .int x6] [.int (nI 0)] (u, ml_h m lm) Φ := wp_same (S' := [.int (nI 0)]) xd58_381 (Or.inr rfl) rfl
theorem x58_382 {x1 : Int32} {x2 : Int32} {x3 : Int32} {x4 : Int32} {x5 : Int32} {x6 : Int32} {xs0 : Int32} : wp Ln xs 58 382 [.ref 1, .int x1, .int x2, .int x3, .int x4, .int x5, .int x6] [.int xs0] (u, ml_h m lm) Φ = if ¬ x2 = (nI 1) then wp Ln xs 58 391 [.ref 1, .int x1, .int x2, .int x3, .int x4, .int x5, .int x6] [.int xs0] (u, ml_h m lm) Φ else wp Ln xs 58 387 [.ref 1, .int x1, .int x2, .int x3, .int x4, .int x5, .int x6] [.int xs0] (u, ml_h m lm) Φ := (wp_same xd58_382 (Or.inr rfl) rfl).trans ((wp_same (S' := [.int (nI 1), .int x2, .int xs0]) xd58_383 (Or.inr rfl) rfl).trans (wx_icmp xd58_384 rfl rfl (¬ x2 = (nI 1)) mb_ne))
theorem x58_387 {x1 : Int32} {x2 : Int32} {x3 : Int32} {x4 : Int32} {x5 : Int32} {x6 : Int32} {xs0 : Int32} : wp Ln xs 58 387 [.ref 1, .int x1, .int x2, .int x3, .int x4, .int x5, .int x6] [.int xs0] (u, ml_h m lm) Φ = wp Ln xs 58 392 [.ref 1, .int x1, .int x2, .int x3, .int x4, .int x5, .int x6] [.int (nI 1), .int xs0] (u, ml_h m lm) Φ := (wp_same (S' := [.int (nI 1), .int xs0]) xd58_387 (Or.inr rfl) rfl).trans (wx_goto xd58_388 rfl)
theorem x58_391 {x1 : Int32} {x2 : Int32} {x3 : Int32} {x4 : Int32} {x5 : Int32} {x6 : Int32} {xs0 : Int32} : wp Ln xs 58 391 [.ref 1, .int x1, .int x2, .int x3, .int x4, .int x5, .int x6] [.int xs0] (u, ml_h m lm) Φ = wp Ln xs 58 392 [.ref 1, .int x1, .int x2, .int x3, .int x4, .int x5, .int x6] [.int (nI 0), .int xs0] (u, ml_h m lm) Φ := wp_same (S' := [.int (nI 0), .int xs0]) xd58_391 (Or.inr rfl) rfl
theorem x58_392 {x1 : Int32} {x2 : Int32} {x3 : Int32} {x4 : Int32} {x5 : Int32} {x6 : Int32} {xs0 : Int32} {xs1 : Int32} : wp Ln xs 58 392 [.ref 1, .int x1, .int x2, .int x3, .int x4, .int x5, .int x6] [.int xs0, .int xs1] (u, ml_h m lm) Φ = if ¬ xs1 = xs0 then wp Ln xs 58 399 [.ref 1, .int x1, .int x2, .int x3, .int x4, .int x5, .int x6] [] (u, ml_h m lm) Φ else wp Ln xs 58 395 [.ref 1, .int x1, .int x2, .int x3, .int x4, .int x5, .int x6] [] (u, ml_h m lm) Φ := wx_icmp xd58_392 rfl rfl (¬ xs1 = xs0) mb_ne
theorem x58_395 {x1 : Int32} {x2 : Int32} {x3 : Int32} {x4 : Int32} {x5 : Int32} {x6 : Int32} : wp Ln xs 58 395 [.ref 1, .int x1, .int x2, .int x3, .int x4, .int x5, .int x6] [] (u, ml_h m lm) Φ = Φ (.inl (some (.int (nI 1)))) (u, ml_h m lm) := (wp_same (S' := [.int (nI 1)]) xd58_395 (Or.inr rfl) rfl).trans ((wx_goto xd58_396 rfl).trans (wp_fin (v := some (.int (nI 1))) xd58_400 (Or.inr rfl) rfl rfl))
theorem x58_399 {x1 : Int32} {x2 : Int32} {x3 : Int32} {x4 : Int32} {x5 : Int32} {x6 : Int32} : wp Ln xs 58 399 [.ref 1, .int x1, .int x2, .int x3, .int x4, .int x5, .int x6] [] (u, ml_h m lm) Φ = Φ (.inl (some (.int (nI 0)))) (u, ml_h m lm) := (wp_same (S' := [.int (nI 0)]) xd58_399 (Or.inr rfl) rfl).trans (wp_fin (v := some (.int (nI 0))) xd58_400 (Or.inr rfl) rfl rfl)
/- PickedForms.size -/
theorem xd59_0 : decode (mj_b 59) 0 = .ok (.aload_n 0, 1) := by decide +kernel
theorem xd59_1 : decode (mj_b 59) 1 = .ok (.getfield 12, 3) := by decide +kernel
theorem xd59_4 : decode (mj_b 59) 4 = .ok (.iload_n 1, 1) := by decide +kernel
theorem xd59_5 : decode (mj_b 59) 5 = .ok (.invokevirtual 154, 3) := by decide +kernel
theorem xd59_8 : decode (mj_b 59) 8 = .ok (.ifCond .ne 13, 3) := by decide +kernel
theorem xd59_11 : decode (mj_b 59) 11 = .ok (.new 130, 3) := by decide +kernel
theorem xd59_21 : decode (mj_b 59) 21 = .ok (.iload_n 2, 1) := by decide +kernel
theorem xd59_22 : decode (mj_b 59) 22 = .ok (.ifCond .lt 8, 3) := by decide +kernel
theorem xd59_25 : decode (mj_b 59) 25 = .ok (.iload_n 2, 1) := by decide +kernel
theorem xd59_26 : decode (mj_b 59) 26 = .ok (.iconst 5, 1) := by decide +kernel
theorem xd59_27 : decode (mj_b 59) 27 = .ok (.if_icmp .lt 14, 3) := by decide +kernel
theorem xd59_30 : decode (mj_b 59) 30 = .ok (.new 80, 3) := by decide +kernel
theorem xd59_41 : decode (mj_b 59) 41 = .ok (.aload_n 0, 1) := by decide +kernel
theorem xd59_42 : decode (mj_b 59) 42 = .ok (.iload_n 1, 1) := by decide +kernel
theorem xd59_43 : decode (mj_b 59) 43 = .ok (.invokevirtual 265, 3) := by decide +kernel
theorem xd59_46 : decode (mj_b 59) 46 = .ok (.aload_n 0, 1) := by decide +kernel
theorem xd59_47 : decode (mj_b 59) 47 = .ok (.getfield 40, 3) := by decide +kernel
theorem xd59_50 : decode (mj_b 59) 50 = .ok (.iload_n 2, 1) := by decide +kernel
theorem xd59_51 : decode (mj_b 59) 51 = .ok (.invokevirtual 268, 3) := by decide +kernel
theorem xd59_54 : decode (mj_b 59) 54 = .ok (.ireturn, 1) := by decide +kernel
theorem x59_0 {x1 : Int32} {x2 : Int32} : wp Ln xs 59 0 [.ref 1, .int x1, .int x2] [] (u, ml_h m lm) Φ = wp Ln xs 11 0 [.ref 2, .int x1] [] (u, ml_h m lm) (mk Ln xs 59 5 [.ref 1, .int x1, .int x2] [] Φ) := (wp_same xd59_0 (Or.inr rfl) rfl).trans ((wm_getr xd59_1 rfl (show ml_L[1]? = _ from rfl) rfl (Nat.le_of_ble_eq_true rfl)).trans ((wp_same xd59_4 (Or.inr rfl) rfl).trans (wm_cv (As := [.int x1]) (rest := []) xd59_5 rfl rfl (show ml_L[2]? = _ from rfl) (Nat.le_of_ble_eq_true rfl) (Nat.le_of_ble_eq_true rfl) (Nat.le_of_ble_eq_true rfl) (Nat.le_of_ble_eq_true rfl))))
theorem x59_8 {x1 : Int32} {x2 : Int32} {xs0 : Int32} : wp Ln xs 59 8 [.ref 1, .int x1, .int x2] [.int xs0] (u, ml_h m lm) Φ = if ¬ xs0 = (nI 0) then wp Ln xs 59 21 [.ref 1, .int x1, .int x2] [] (u, ml_h m lm) Φ else wp Ln xs 59 11 [.ref 1, .int x1, .int x2] [] (u, ml_h m lm) Φ := wx_if xd59_8 rfl rfl (¬ xs0 = (nI 0)) mb_ne
theorem x59_11 {x1 : Int32} {x2 : Int32} : wp Ln xs 59 11 [.ref 1, .int x1, .int x2] [] (u, ml_h m lm) Φ = Φ (.inr 2) ((u.1, u.2.1 + 1, u.2.2 + 6), ml_h m lm) := wp_thr xd59_11 (Or.inr rfl) rfl rfl (E := 2) (by decide +kernel)
theorem x59_21 {x1 : Int32} {x2 : Int32} : wp Ln xs 59 21 [.ref 1, .int x1, .int x2] [] (u, ml_h m lm) Φ = if x2 < (nI 0) then wp Ln xs 59 30 [.ref 1, .int x1, .int x2] [] (u, ml_h m lm) Φ else wp Ln xs 59 25 [.ref 1, .int x1, .int x2] [] (u, ml_h m lm) Φ := (wp_same xd59_21 (Or.inr rfl) rfl).trans (wx_if xd59_22 rfl rfl (x2 < (nI 0)) mb_lt)
theorem x59_25 {x1 : Int32} {x2 : Int32} : wp Ln xs 59 25 [.ref 1, .int x1, .int x2] [] (u, ml_h m lm) Φ = if x2 < (nI 5) then wp Ln xs 59 41 [.ref 1, .int x1, .int x2] [] (u, ml_h m lm) Φ else wp Ln xs 59 30 [.ref 1, .int x1, .int x2] [] (u, ml_h m lm) Φ := (wp_same xd59_25 (Or.inr rfl) rfl).trans ((wp_same (S' := [.int (nI 5), .int x2]) xd59_26 (Or.inr rfl) rfl).trans (wx_icmp xd59_27 rfl rfl (x2 < (nI 5)) mb_lt))
theorem x59_30 {x1 : Int32} {x2 : Int32} : wp Ln xs 59 30 [.ref 1, .int x1, .int x2] [] (u, ml_h m lm) Φ = Φ (.inr 0) ((u.1, u.2.1 + 1, u.2.2 + 6), ml_h m lm) := wp_thr xd59_30 (Or.inr rfl) rfl rfl (E := 0) (by decide +kernel)
theorem x59_41 {x1 : Int32} {x2 : Int32} : wp Ln xs 59 41 [.ref 1, .int x1, .int x2] [] (u, ml_h m lm) Φ = wp Ln xs 40 0 [.ref 1, .int x1] [] (u, ml_h m lm) (mk Ln xs 59 43 [.ref 1, .int x1, .int x2] [] Φ) := (wp_same xd59_41 (Or.inr rfl) rfl).trans ((wp_same xd59_42 (Or.inr rfl) rfl).trans (wm_cv (As := [.int x1]) (rest := []) xd59_43 rfl rfl (show ml_L[1]? = _ from rfl) (Nat.le_of_ble_eq_true rfl) (Nat.le_of_ble_eq_true rfl) (Nat.le_of_ble_eq_true rfl) (Nat.le_of_ble_eq_true rfl)))
theorem x59_46 {x1 : Int32} {x2 : Int32} : wp Ln xs 59 46 [.ref 1, .int x1, .int x2] [] (u, ml_h m lm) Φ = wp Ln xs 27 0 [.ref 56, .int x2] [] (u, ml_h m lm) (mk Ln xs 59 51 [.ref 1, .int x1, .int x2] [] Φ) := (wp_same xd59_46 (Or.inr rfl) rfl).trans ((wm_getr xd59_47 rfl (show ml_L[1]? = _ from rfl) rfl (Nat.le_of_ble_eq_true rfl)).trans ((wp_same xd59_50 (Or.inr rfl) rfl).trans (wm_cv (As := [.int x2]) (rest := []) xd59_51 rfl rfl (show ml_L[56]? = _ from rfl) (Nat.le_of_ble_eq_true rfl) (Nat.le_of_ble_eq_true rfl) (Nat.le_of_ble_eq_true rfl) (Nat.le_of_ble_eq_true rfl))))
theorem x59_54 {x1 : Int32} {x2 : Int32} {xs0 : Int32} : wp Ln xs 59 54 [.ref 1, .int x1, .int x2] [.int xs0] (u, ml_h m lm) Φ = Φ (.inl (some (.int xs0))) (u, ml_h m lm) := wp_fin (v := some (.int xs0)) xd59_54 (Or.inr rfl) rfl (mj_fin_i rfl)
/- PickedFormsLaw.isAllowed -/
theorem xd60_0 : decode (mj_b 60) 0 = .ok (.aload_n 0, 1) := by decide +kernel
theorem xd60_1 : decode (mj_b 60) 1 = .ok (.iconst 2, 1) := by decide +kernel
theorem xd60_2 : decode (mj_b 60) 2 = .ok (.invokevirtual 10, 3) := by decide +kernel
theorem xd60_5 : decode (mj_b 60) 5 = .ok (.iload_n 1, 1) := by decide +kernel
theorem xd60_6 : decode (mj_b 60) 6 = .ok (.ishr, 1) := by decide +kernel
theorem xd60_7 : decode (mj_b 60) 7 = .ok (.iconst 1, 1) := by decide +kernel
theorem xd60_8 : decode (mj_b 60) 8 = .ok (.iand, 1) := by decide +kernel
theorem xd60_9 : decode (mj_b 60) 9 = .ok (.iconst 1, 1) := by decide +kernel
theorem xd60_10 : decode (mj_b 60) 10 = .ok (.if_icmp .ne 7, 3) := by decide +kernel
theorem xd60_13 : decode (mj_b 60) 13 = .ok (.iconst 1, 1) := by decide +kernel
theorem xd60_14 : decode (mj_b 60) 14 = .ok (.goto 4, 3) := by decide +kernel
theorem xd60_17 : decode (mj_b 60) 17 = .ok (.iconst 0, 1) := by decide +kernel
theorem xd60_18 : decode (mj_b 60) 18 = .ok (.ireturn, 1) := by decide +kernel
theorem x60_0 {x1 : Int32} : wp Ln xs 60 0 [.ref 1, .int x1] [] (u, ml_h m lm) Φ = wp Ln xs 61 0 [.ref 1, .int (nI 2)] [] (u, ml_h m lm) (mk Ln xs 60 2 [.ref 1, .int x1] [] Φ) := (wp_same xd60_0 (Or.inr rfl) rfl).trans ((wp_same (S' := [.int (nI 2), .ref 1]) xd60_1 (Or.inr rfl) rfl).trans (wm_cv (As := [.int (nI 2)]) (rest := []) xd60_2 rfl rfl (show ml_L[1]? = _ from rfl) (Nat.le_of_ble_eq_true rfl) (Nat.le_of_ble_eq_true rfl) (Nat.le_of_ble_eq_true rfl) (Nat.le_of_ble_eq_true rfl)))
theorem x60_5 {x1 : Int32} {xs0 : Int32} : wp Ln xs 60 5 [.ref 1, .int x1] [.int xs0] (u, ml_h m lm) Φ = if ¬ ((xs0 >>> (x1 &&& 31)) &&& (nI 1)) = (nI 1) then wp Ln xs 60 17 [.ref 1, .int x1] [] (u, ml_h m lm) Φ else wp Ln xs 60 13 [.ref 1, .int x1] [] (u, ml_h m lm) Φ := (wp_same xd60_5 (Or.inr rfl) rfl).trans ((wp_same xd60_6 (Or.inr rfl) rfl).trans ((wp_same (S' := [.int (nI 1), .int (xs0 >>> (x1 &&& 31))]) xd60_7 (Or.inr rfl) rfl).trans ((wp_same xd60_8 (Or.inr rfl) rfl).trans ((wp_same (S' := [.int (nI 1), .int ((xs0 >>> (x1 &&& 31)) &&& (nI 1))]) xd60_9 (Or.inr rfl) rfl).trans (wx_icmp xd60_10 rfl rfl (¬ ((xs0 >>> (x1 &&& 31)) &&& (nI 1)) = (nI 1)) mb_ne)))))
theorem x60_13 {x1 : Int32} : wp Ln xs 60 13 [.ref 1, .int x1] [] (u, ml_h m lm) Φ = Φ (.inl (some (.int (nI 1)))) (u, ml_h m lm) := (wp_same (S' := [.int (nI 1)]) xd60_13 (Or.inr rfl) rfl).trans ((wx_goto xd60_14 rfl).trans (wp_fin (v := some (.int (nI 1))) xd60_18 (Or.inr rfl) rfl rfl))
theorem x60_17 {x1 : Int32} : wp Ln xs 60 17 [.ref 1, .int x1] [] (u, ml_h m lm) Φ = Φ (.inl (some (.int (nI 0)))) (u, ml_h m lm) := (wp_same (S' := [.int (nI 0)]) xd60_17 (Or.inr rfl) rfl).trans (wp_fin (v := some (.int (nI 0))) xd60_18 (Or.inr rfl) rfl rfl)
/- PickedForms.setting -/
theorem xd61_0 : decode (mj_b 61) 0 = .ok (.iload_n 1, 1) := by decide +kernel
theorem xd61_1 : decode (mj_b 61) 1 = .ok (.invokestatic 189, 3) := by decide +kernel
theorem xd61_4 : decode (mj_b 61) 4 = .ok (.ifCond .ne 13, 3) := by decide +kernel
theorem xd61_7 : decode (mj_b 61) 7 = .ok (.new 130, 3) := by decide +kernel
theorem xd61_17 : decode (mj_b 61) 17 = .ok (.aload_n 0, 1) := by decide +kernel
theorem xd61_18 : decode (mj_b 61) 18 = .ok (.getfield 12, 3) := by decide +kernel
theorem xd61_21 : decode (mj_b 61) 21 = .ok (.iload_n 1, 1) := by decide +kernel
theorem xd61_22 : decode (mj_b 61) 22 = .ok (.invokevirtual 200, 3) := by decide +kernel
theorem xd61_25 : decode (mj_b 61) 25 = .ok (.ireturn, 1) := by decide +kernel
theorem x61_0 {x1 : Int32} : wp Ln xs 61 0 [.ref 1, .int x1] [] (u, ml_h m lm) Φ = wp Ln xs 31 0 [.int x1] [] (u, ml_h m lm) (mk Ln xs 61 1 [.ref 1, .int x1] [] Φ) := (wp_same xd61_0 (Or.inr rfl) rfl).trans (wm_cs (As := [.int x1]) (rest := []) xd61_1 rfl rfl (Nat.le_of_ble_eq_true rfl) (Nat.le_of_ble_eq_true rfl) (Nat.le_of_ble_eq_true rfl) (Nat.le_of_ble_eq_true rfl))
theorem x61_4 {x1 : Int32} {xs0 : Int32} : wp Ln xs 61 4 [.ref 1, .int x1] [.int xs0] (u, ml_h m lm) Φ = if ¬ xs0 = (nI 0) then wp Ln xs 61 17 [.ref 1, .int x1] [] (u, ml_h m lm) Φ else wp Ln xs 61 7 [.ref 1, .int x1] [] (u, ml_h m lm) Φ := wx_if xd61_4 rfl rfl (¬ xs0 = (nI 0)) mb_ne
theorem x61_7 {x1 : Int32} : wp Ln xs 61 7 [.ref 1, .int x1] [] (u, ml_h m lm) Φ = Φ (.inr 2) ((u.1, u.2.1 + 1, u.2.2 + 6), ml_h m lm) := wp_thr xd61_7 (Or.inr rfl) rfl rfl (E := 2) (by decide +kernel)
theorem x61_17 {x1 : Int32} : wp Ln xs 61 17 [.ref 1, .int x1] [] (u, ml_h m lm) Φ = wp Ln xs 33 0 [.ref 2, .int x1] [] (u, ml_h m lm) (mk Ln xs 61 22 [.ref 1, .int x1] [] Φ) := (wp_same xd61_17 (Or.inr rfl) rfl).trans ((wm_getr xd61_18 rfl (show ml_L[1]? = _ from rfl) rfl (Nat.le_of_ble_eq_true rfl)).trans ((wp_same xd61_21 (Or.inr rfl) rfl).trans (wm_cv (As := [.int x1]) (rest := []) xd61_22 rfl rfl (show ml_L[2]? = _ from rfl) (Nat.le_of_ble_eq_true rfl) (Nat.le_of_ble_eq_true rfl) (Nat.le_of_ble_eq_true rfl) (Nat.le_of_ble_eq_true rfl))))
theorem x61_25 {x1 : Int32} {xs0 : Int32} : wp Ln xs 61 25 [.ref 1, .int x1] [.int xs0] (u, ml_h m lm) Φ = Φ (.inl (some (.int xs0))) (u, ml_h m lm) := wp_fin (v := some (.int xs0)) xd61_25 (Or.inr rfl) rfl (mj_fin_i rfl)
/- PickedForms.bit -/
theorem xd62_0 : decode (mj_b 62) 0 = .ok (.aload_n 0, 1) := by decide +kernel
theorem xd62_1 : decode (mj_b 62) 1 = .ok (.getfield 12, 3) := by decide +kernel
theorem xd62_4 : decode (mj_b 62) 4 = .ok (.iload_n 1, 1) := by decide +kernel
theorem xd62_5 : decode (mj_b 62) 5 = .ok (.invokevirtual 154, 3) := by decide +kernel
theorem xd62_8 : decode (mj_b 62) 8 = .ok (.ifCond .ne 13, 3) := by decide +kernel
theorem xd62_11 : decode (mj_b 62) 11 = .ok (.new 130, 3) := by decide +kernel
theorem xd62_21 : decode (mj_b 62) 21 = .ok (.iload_n 2, 1) := by decide +kernel
theorem xd62_22 : decode (mj_b 62) 22 = .ok (.ifCond .ge 14, 3) := by decide +kernel
theorem xd62_25 : decode (mj_b 62) 25 = .ok (.new 80, 3) := by decide +kernel
theorem xd62_36 : decode (mj_b 62) 36 = .ok (.aload_n 0, 1) := by decide +kernel
theorem xd62_37 : decode (mj_b 62) 37 = .ok (.iload_n 1, 1) := by decide +kernel
theorem xd62_38 : decode (mj_b 62) 38 = .ok (.invokevirtual 273, 3) := by decide +kernel
theorem xd62_41 : decode (mj_b 62) 41 = .ok (.iload_n 2, 1) := by decide +kernel
theorem xd62_42 : decode (mj_b 62) 42 = .ok (.aload_n 0, 1) := by decide +kernel
theorem xd62_43 : decode (mj_b 62) 43 = .ok (.getfield 68, 3) := by decide +kernel
theorem xd62_46 : decode (mj_b 62) 46 = .ok (.getfield 276, 3) := by decide +kernel
theorem xd62_49 : decode (mj_b 62) 49 = .ok (.if_icmp .ge 17, 3) := by decide +kernel
theorem xd62_52 : decode (mj_b 62) 52 = .ok (.aload_n 0, 1) := by decide +kernel
theorem xd62_53 : decode (mj_b 62) 53 = .ok (.getfield 68, 3) := by decide +kernel
theorem xd62_56 : decode (mj_b 62) 56 = .ok (.getfield 277, 3) := by decide +kernel
theorem xd62_59 : decode (mj_b 62) 59 = .ok (.iload_n 2, 1) := by decide +kernel
theorem xd62_60 : decode (mj_b 62) 60 = .ok (.invokestatic 233, 3) := by decide +kernel
theorem xd62_63 : decode (mj_b 62) 63 = .ok (.goto 4, 3) := by decide +kernel
theorem xd62_66 : decode (mj_b 62) 66 = .ok (.iconst (-1), 1) := by decide +kernel
theorem xd62_67 : decode (mj_b 62) 67 = .ok (.ireturn, 1) := by decide +kernel
theorem x62_0 {x1 : Int32} {x2 : Int32} : wp Ln xs 62 0 [.ref 1, .int x1, .int x2] [] (u, ml_h m lm) Φ = wp Ln xs 11 0 [.ref 2, .int x1] [] (u, ml_h m lm) (mk Ln xs 62 5 [.ref 1, .int x1, .int x2] [] Φ) := (wp_same xd62_0 (Or.inr rfl) rfl).trans ((wm_getr xd62_1 rfl (show ml_L[1]? = _ from rfl) rfl (Nat.le_of_ble_eq_true rfl)).trans ((wp_same xd62_4 (Or.inr rfl) rfl).trans (wm_cv (As := [.int x1]) (rest := []) xd62_5 rfl rfl (show ml_L[2]? = _ from rfl) (Nat.le_of_ble_eq_true rfl) (Nat.le_of_ble_eq_true rfl) (Nat.le_of_ble_eq_true rfl) (Nat.le_of_ble_eq_true rfl))))
theorem x62_8 {x1 : Int32} {x2 : Int32} {xs0 : Int32} : wp Ln xs 62 8 [.ref 1, .int x1, .int x2] [.int xs0] (u, ml_h m lm) Φ = if ¬ xs0 = (nI 0) then wp Ln xs 62 21 [.ref 1, .int x1, .int x2] [] (u, ml_h m lm) Φ else wp Ln xs 62 11 [.ref 1, .int x1, .int x2] [] (u, ml_h m lm) Φ := wx_if xd62_8 rfl rfl (¬ xs0 = (nI 0)) mb_ne
theorem x62_11 {x1 : Int32} {x2 : Int32} : wp Ln xs 62 11 [.ref 1, .int x1, .int x2] [] (u, ml_h m lm) Φ = Φ (.inr 2) ((u.1, u.2.1 + 1, u.2.2 + 6), ml_h m lm) := wp_thr xd62_11 (Or.inr rfl) rfl rfl (E := 2) (by decide +kernel)
theorem x62_21 {x1 : Int32} {x2 : Int32} : wp Ln xs 62 21 [.ref 1, .int x1, .int x2] [] (u, ml_h m lm) Φ = if (nI 0) ≤ x2 then wp Ln xs 62 36 [.ref 1, .int x1, .int x2] [] (u, ml_h m lm) Φ else wp Ln xs 62 25 [.ref 1, .int x1, .int x2] [] (u, ml_h m lm) Φ := (wp_same xd62_21 (Or.inr rfl) rfl).trans (wx_if xd62_22 rfl rfl ((nI 0) ≤ x2) mb_ge)
theorem x62_25 {x1 : Int32} {x2 : Int32} : wp Ln xs 62 25 [.ref 1, .int x1, .int x2] [] (u, ml_h m lm) Φ = Φ (.inr 0) ((u.1, u.2.1 + 1, u.2.2 + 6), ml_h m lm) := wp_thr xd62_25 (Or.inr rfl) rfl rfl (E := 0) (by decide +kernel)
theorem x62_36 {x1 : Int32} {x2 : Int32} : wp Ln xs 62 36 [.ref 1, .int x1, .int x2] [] (u, ml_h m lm) Φ = wp Ln xs 63 0 [.ref 1, .int x1] [] (u, ml_h m lm) (mk Ln xs 62 38 [.ref 1, .int x1, .int x2] [] Φ) := (wp_same xd62_36 (Or.inr rfl) rfl).trans ((wp_same xd62_37 (Or.inr rfl) rfl).trans (wm_cv (As := [.int x1]) (rest := []) xd62_38 rfl rfl (show ml_L[1]? = _ from rfl) (Nat.le_of_ble_eq_true rfl) (Nat.le_of_ble_eq_true rfl) (Nat.le_of_ble_eq_true rfl) (Nat.le_of_ble_eq_true rfl)))
theorem x62_41 {x1 : Int32} {x2 : Int32} : wp Ln xs 62 41 [.ref 1, .int x1, .int x2] [] (u, ml_h m lm) Φ = if (m 69 1) ≤ x2 then wp Ln xs 62 66 [.ref 1, .int x1, .int x2] [] (u, ml_h m lm) Φ else wp Ln xs 62 52 [.ref 1, .int x1, .int x2] [] (u, ml_h m lm) Φ := (wp_same xd62_41 (Or.inr rfl) rfl).trans ((wp_same xd62_42 (Or.inr rfl) rfl).trans ((wm_getr xd62_43 rfl (show ml_L[1]? = _ from rfl) rfl (Nat.le_of_ble_eq_true rfl)).trans ((wm_geti xd62_46 rfl (show ml_L[69]? = _ from rfl) rfl (Nat.le_of_ble_eq_true rfl)).trans (wx_icmp xd62_49 rfl rfl ((m 69 1) ≤ x2) mb_ge))))
theorem x62_52 {x1 : Int32} {x2 : Int32} : wp Ln xs 62 52 [.ref 1, .int x1, .int x2] [] (u, ml_h m lm) Φ = wp Ln xs 17 0 [.ref 70, .int x2] [] (u, ml_h m lm) (mk Ln xs 62 60 [.ref 1, .int x1, .int x2] [] Φ) := (wp_same xd62_52 (Or.inr rfl) rfl).trans ((wm_getr xd62_53 rfl (show ml_L[1]? = _ from rfl) rfl (Nat.le_of_ble_eq_true rfl)).trans ((wm_getr xd62_56 rfl (show ml_L[69]? = _ from rfl) rfl (Nat.le_of_ble_eq_true rfl)).trans ((wp_same xd62_59 (Or.inr rfl) rfl).trans (wm_cs (As := [.ref 70, .int x2]) (rest := []) xd62_60 rfl rfl (Nat.le_of_ble_eq_true rfl) (Nat.le_of_ble_eq_true rfl) (Nat.le_of_ble_eq_true rfl) (Nat.le_of_ble_eq_true rfl)))))
theorem x62_63 {x1 : Int32} {x2 : Int32} {xs0 : Int32} : wp Ln xs 62 63 [.ref 1, .int x1, .int x2] [.int xs0] (u, ml_h m lm) Φ = Φ (.inl (some (.int xs0))) (u, ml_h m lm) := (wx_goto xd62_63 rfl).trans (wp_fin (v := some (.int xs0)) xd62_67 (Or.inr rfl) rfl (mj_fin_i rfl))
theorem x62_66 {x1 : Int32} {x2 : Int32} : wp Ln xs 62 66 [.ref 1, .int x1, .int x2] [] (u, ml_h m lm) Φ = Φ (.inl (some (.int ((-1))))) (u, ml_h m lm) := (wp_same (S' := [.int ((-1))]) xd62_66 (Or.inr rfl) rfl).trans (wp_fin (v := some (.int ((-1)))) xd62_67 (Or.inr rfl) rfl (mj_fin_i rfl))
/- PickedForms.readBits -/
theorem xd63_0 : decode (mj_b 63) 0 = .ok (.aload_n 0, 1) := by decide +kernel
theorem xd63_1 : decode (mj_b 63) 1 = .ok (.iload_n 1, 1) := by decide +kernel
theorem xd63_2 : decode (mj_b 63) 2 = .ok (.invokevirtual 265, 3) := by decide +kernel
theorem xd63_5 : decode (mj_b 63) 5 = .ok (.aload_n 0, 1) := by decide +kernel
theorem xd63_6 : decode (mj_b 63) 6 = .ok (.getfield 68, 3) := by decide +kernel
theorem xd63_9 : decode (mj_b 63) 9 = .ok (.aload_n 0, 1) := by decide +kernel
theorem xd63_10 : decode (mj_b 63) 10 = .ok (.getfield 12, 3) := by decide +kernel
theorem xd63_13 : decode (mj_b 63) 13 = .ok (.iload_n 1, 1) := by decide +kernel
theorem xd63_14 : decode (mj_b 63) 14 = .ok (.aload_n 0, 1) := by decide +kernel
theorem xd63_15 : decode (mj_b 63) 15 = .ok (.getfield 40, 3) := by decide +kernel
theorem xd63_18 : decode (mj_b 63) 18 = .ok (.invokevirtual 382, 3) := by decide +kernel
theorem xd63_21 : decode (mj_b 63) 21 = .ok (.return_, 1) := by decide +kernel
theorem x63_0 {x1 : Int32} : wp Ln xs 63 0 [.ref 1, .int x1] [] (u, ml_h m lm) Φ = wp Ln xs 40 0 [.ref 1, .int x1] [] (u, ml_h m lm) (mk Ln xs 63 2 [.ref 1, .int x1] [] Φ) := (wp_same xd63_0 (Or.inr rfl) rfl).trans ((wp_same xd63_1 (Or.inr rfl) rfl).trans (wm_cv (As := [.int x1]) (rest := []) xd63_2 rfl rfl (show ml_L[1]? = _ from rfl) (Nat.le_of_ble_eq_true rfl) (Nat.le_of_ble_eq_true rfl) (Nat.le_of_ble_eq_true rfl) (Nat.le_of_ble_eq_true rfl)))
theorem x63_5 {x1 : Int32} : wp Ln xs 63 5 [.ref 1, .int x1] [] (u, ml_h m lm) Φ = wp Ln xs 64 0 [.ref 69, .ref 2, .int x1, .ref 56, mj_hole, mj_hole, mj_hole] [] (u, ml_h m lm) (mk Ln xs 63 18 [.ref 1, .int x1] [] Φ) := (wp_same xd63_5 (Or.inr rfl) rfl).trans ((wm_getr xd63_6 rfl (show ml_L[1]? = _ from rfl) rfl (Nat.le_of_ble_eq_true rfl)).trans ((wp_same xd63_9 (Or.inr rfl) rfl).trans ((wm_getr xd63_10 rfl (show ml_L[1]? = _ from rfl) rfl (Nat.le_of_ble_eq_true rfl)).trans ((wp_same xd63_13 (Or.inr rfl) rfl).trans ((wp_same xd63_14 (Or.inr rfl) rfl).trans ((wm_getr xd63_15 rfl (show ml_L[1]? = _ from rfl) rfl (Nat.le_of_ble_eq_true rfl)).trans (wm_cv (As := [.ref 2, .int x1, .ref 56]) (rest := []) xd63_18 rfl rfl (show ml_L[69]? = _ from rfl) (Nat.le_of_ble_eq_true rfl) (Nat.le_of_ble_eq_true rfl) (Nat.le_of_ble_eq_true rfl) (Nat.le_of_ble_eq_true rfl))))))))
theorem x63_21 {x1 : Int32} : wp Ln xs 63 21 [.ref 1, .int x1] [] (u, ml_h m lm) Φ = Φ (.inl none) (u, ml_h m lm) := wp_fin (v := none) xd63_21 (Or.inr rfl) rfl rfl
/- PickedForms$BitRow.encode -/
theorem xd64_0 : decode (mj_b 64) 0 = .ok (.aload_n 1, 1) := by decide +kernel
theorem xd64_1 : decode (mj_b 64) 1 = .ok (.getfield 19, 3) := by decide +kernel
theorem xd64_4 : decode (mj_b 64) 4 = .ok (.astore 4, 2) := by decide +kernel
theorem xd64_6 : decode (mj_b 64) 6 = .ok (.aload_n 1, 1) := by decide +kernel
theorem xd64_7 : decode (mj_b 64) 7 = .ok (.iload_n 2, 1) := by decide +kernel
theorem xd64_8 : decode (mj_b 64) 8 = .ok (.invokevirtual 24, 3) := by decide +kernel
theorem xd64_11 : decode (mj_b 64) 11 = .ok (.istore 5, 2) := by decide +kernel
theorem xd64_13 : decode (mj_b 64) 13 = .ok (.iload 5, 2) := by decide +kernel
theorem xd64_15 : decode (mj_b 64) 15 = .ok (.aload_n 1, 1) := by decide +kernel
theorem xd64_16 : decode (mj_b 64) 16 = .ok (.iload_n 2, 1) := by decide +kernel
theorem xd64_17 : decode (mj_b 64) 17 = .ok (.invokevirtual 28, 3) := by decide +kernel
theorem xd64_20 : decode (mj_b 64) 20 = .ok (.iadd, 1) := by decide +kernel
theorem xd64_21 : decode (mj_b 64) 21 = .ok (.istore 6, 2) := by decide +kernel
theorem xd64_23 : decode (mj_b 64) 23 = .ok (.aload_n 0, 1) := by decide +kernel
theorem xd64_24 : decode (mj_b 64) 24 = .ok (.iconst 0, 1) := by decide +kernel
theorem xd64_25 : decode (mj_b 64) 25 = .ok (.putfield 15, 3) := by decide +kernel
theorem xd64_28 : decode (mj_b 64) 28 = .ok (.aload_n 1, 1) := by decide +kernel
theorem xd64_29 : decode (mj_b 64) 29 = .ok (.iload_n 2, 1) := by decide +kernel
theorem xd64_30 : decode (mj_b 64) 30 = .ok (.invokevirtual 31, 3) := by decide +kernel
theorem xd64_33 : decode (mj_b 64) 33 = .ok (.tableswitch 86 1 4 #[31, 45, 58, 72], 31) := by decide +kernel
theorem xd64_64 : decode (mj_b 64) 64 = .ok (.aload_n 0, 1) := by decide +kernel
theorem xd64_65 : decode (mj_b 64) 65 = .ok (.aload 4, 2) := by decide +kernel
theorem xd64_67 : decode (mj_b 64) 67 = .ok (.iload 5, 2) := by decide +kernel
theorem xd64_69 : decode (mj_b 64) 69 = .ok (.iload 6, 2) := by decide +kernel
theorem xd64_71 : decode (mj_b 64) 71 = .ok (.aload_n 3, 1) := by decide +kernel
theorem xd64_72 : decode (mj_b 64) 72 = .ok (.invokevirtual 34, 3) := by decide +kernel
theorem xd64_75 : decode (mj_b 64) 75 = .ok (.goto 54, 3) := by decide +kernel
theorem xd64_78 : decode (mj_b 64) 78 = .ok (.aload_n 0, 1) := by decide +kernel
theorem xd64_79 : decode (mj_b 64) 79 = .ok (.aload 4, 2) := by decide +kernel
theorem xd64_81 : decode (mj_b 64) 81 = .ok (.iload 5, 2) := by decide +kernel
theorem xd64_83 : decode (mj_b 64) 83 = .ok (.iload 6, 2) := by decide +kernel
theorem xd64_85 : decode (mj_b 64) 85 = .ok (.invokevirtual 38, 3) := by decide +kernel
theorem xd64_88 : decode (mj_b 64) 88 = .ok (.goto 41, 3) := by decide +kernel
theorem xd64_91 : decode (mj_b 64) 91 = .ok (.aload_n 0, 1) := by decide +kernel
theorem xd64_92 : decode (mj_b 64) 92 = .ok (.aload 4, 2) := by decide +kernel
theorem xd64_94 : decode (mj_b 64) 94 = .ok (.iload 5, 2) := by decide +kernel
theorem xd64_96 : decode (mj_b 64) 96 = .ok (.iload 6, 2) := by decide +kernel
theorem xd64_98 : decode (mj_b 64) 98 = .ok (.aload_n 3, 1) := by decide +kernel
theorem xd64_99 : decode (mj_b 64) 99 = .ok (.invokevirtual 42, 3) := by decide +kernel
theorem xd64_102 : decode (mj_b 64) 102 = .ok (.goto 27, 3) := by decide +kernel
theorem xd64_105 : decode (mj_b 64) 105 = .ok (.aload_n 0, 1) := by decide +kernel
theorem xd64_106 : decode (mj_b 64) 106 = .ok (.aload 4, 2) := by decide +kernel
theorem xd64_108 : decode (mj_b 64) 108 = .ok (.iload 5, 2) := by decide +kernel
theorem xd64_110 : decode (mj_b 64) 110 = .ok (.iload 6, 2) := by decide +kernel
theorem xd64_112 : decode (mj_b 64) 112 = .ok (.aload_n 3, 1) := by decide +kernel
theorem xd64_113 : decode (mj_b 64) 113 = .ok (.invokevirtual 45, 3) := by decide +kernel
theorem xd64_116 : decode (mj_b 64) 116 = .ok (.goto 13, 3) := by decide +kernel
theorem xd64_119 : decode (mj_b 64) 119 = .ok (.aload_n 0, 1) := by decide +kernel
theorem xd64_120 : decode (mj_b 64) 120 = .ok (.aload 4, 2) := by decide +kernel
theorem xd64_122 : decode (mj_b 64) 122 = .ok (.iload 5, 2) := by decide +kernel
theorem xd64_124 : decode (mj_b 64) 124 = .ok (.iload 6, 2) := by decide +kernel
theorem xd64_126 : decode (mj_b 64) 126 = .ok (.invokevirtual 48, 3) := by decide +kernel
theorem xd64_129 : decode (mj_b 64) 129 = .ok (.return_, 1) := by decide +kernel
theorem x64_0 {x2 : Int32} : wp Ln xs 64 0 [.ref 69, .ref 2, .int x2, .ref 56, mj_hole, mj_hole, mj_hole] [] (u, ml_h m lm) Φ = wp Ln xs 19 0 [.ref 2, .int x2, mj_hole, mj_hole] [] (u, ml_h m lm) (mk Ln xs 64 8 [.ref 69, .ref 2, .int x2, .ref 56, .ref 3, mj_hole, mj_hole] [] Φ) := (wp_same xd64_0 (Or.inr rfl) rfl).trans ((wm_getr xd64_1 rfl (show ml_L[2]? = _ from rfl) rfl (Nat.le_of_ble_eq_true rfl)).trans ((wp_same (L' := [.ref 69, .ref 2, .int x2, .ref 56, .ref 3, mj_hole, mj_hole]) xd64_4 (Or.inr rfl) rfl).trans ((wp_same xd64_6 (Or.inr rfl) rfl).trans ((wp_same xd64_7 (Or.inr rfl) rfl).trans (wm_cv (As := [.int x2]) (rest := []) xd64_8 rfl rfl (show ml_L[2]? = _ from rfl) (Nat.le_of_ble_eq_true rfl) (Nat.le_of_ble_eq_true rfl) (Nat.le_of_ble_eq_true rfl) (Nat.le_of_ble_eq_true rfl))))))
theorem x64_11 {x2 : Int32} {xs0 : Int32} : wp Ln xs 64 11 [.ref 69, .ref 2, .int x2, .ref 56, .ref 3, mj_hole, mj_hole] [.int xs0] (u, ml_h m lm) Φ = wp Ln xs 20 0 [.ref 2, .int x2] [] (u, ml_h m lm) (mk Ln xs 64 17 [.ref 69, .ref 2, .int x2, .ref 56, .ref 3, .int xs0, mj_hole] [.int xs0] Φ) := (wp_same (L' := [.ref 69, .ref 2, .int x2, .ref 56, .ref 3, .int xs0, mj_hole]) xd64_11 (Or.inr rfl) rfl).trans ((wp_same xd64_13 (Or.inr rfl) rfl).trans ((wp_same xd64_15 (Or.inr rfl) rfl).trans ((wp_same xd64_16 (Or.inr rfl) rfl).trans (wm_cv (As := [.int x2]) (rest := [.int xs0]) xd64_17 rfl rfl (show ml_L[2]? = _ from rfl) (Nat.le_of_ble_eq_true rfl) (Nat.le_of_ble_eq_true rfl) (Nat.le_of_ble_eq_true rfl) (Nat.le_of_ble_eq_true rfl)))))
theorem x64_20 {x2 : Int32} {x5 : Int32} {xs0 : Int32} {xs1 : Int32} : wp Ln xs 64 20 [.ref 69, .ref 2, .int x2, .ref 56, .ref 3, .int x5, mj_hole] [.int xs0, .int xs1] (u, ml_h m lm) Φ = wp Ln xs 42 0 [.ref 2, .int x2] [] (u, ml_h (ml_s m 69 1 (nI 0)) lm) (mk Ln xs 64 30 [.ref 69, .ref 2, .int x2, .ref 56, .ref 3, .int x5, .int (xs1 + xs0)] [] Φ) := (wp_same xd64_20 (Or.inr rfl) rfl).trans ((wp_same (L' := [.ref 69, .ref 2, .int x2, .ref 56, .ref 3, .int x5, .int (xs1 + xs0)]) xd64_21 (Or.inr rfl) rfl).trans ((wp_same xd64_23 (Or.inr rfl) rfl).trans ((wp_same (S' := [.int (nI 0), .ref 69]) xd64_24 (Or.inr rfl) rfl).trans ((wm_puti xd64_25 rfl (show ml_L[69]? = _ from rfl) rfl (Nat.le_of_ble_eq_true rfl) rfl rfl rfl).trans ((wp_same xd64_28 (Or.inr rfl) rfl).trans ((wp_same xd64_29 (Or.inr rfl) rfl).trans (wm_cv (As := [.int x2]) (rest := []) xd64_30 rfl rfl (show ml_L[2]? = _ from rfl) (Nat.le_of_ble_eq_true rfl) (Nat.le_of_ble_eq_true rfl) (Nat.le_of_ble_eq_true rfl) (Nat.le_of_ble_eq_true rfl))))))))
theorem x64_33_0 {x2 : Int32} {x5 : Int32} {x6 : Int32} : wp Ln xs 64 33 [.ref 69, .ref 2, .int x2, .ref 56, .ref 3, .int x5, .int x6] [.int (nI 0)] (u, ml_h m lm) Φ = wp Ln xs 64 119 [.ref 69, .ref 2, .int x2, .ref 56, .ref 3, .int x5, .int x6] [] (u, ml_h m lm) Φ := wp_same xd64_33 (Or.inl rfl) rfl
theorem x64_33_1 {x2 : Int32} {x5 : Int32} {x6 : Int32} : wp Ln xs 64 33 [.ref 69, .ref 2, .int x2, .ref 56, .ref 3, .int x5, .int x6] [.int (nI 1)] (u, ml_h m lm) Φ = wp Ln xs 64 64 [.ref 69, .ref 2, .int x2, .ref 56, .ref 3, .int x5, .int x6] [] (u, ml_h m lm) Φ := wp_same xd64_33 (Or.inl rfl) rfl
theorem x64_33_2 {x2 : Int32} {x5 : Int32} {x6 : Int32} : wp Ln xs 64 33 [.ref 69, .ref 2, .int x2, .ref 56, .ref 3, .int x5, .int x6] [.int (nI 2)] (u, ml_h m lm) Φ = wp Ln xs 64 78 [.ref 69, .ref 2, .int x2, .ref 56, .ref 3, .int x5, .int x6] [] (u, ml_h m lm) Φ := wp_same xd64_33 (Or.inl rfl) rfl
theorem x64_33_3 {x2 : Int32} {x5 : Int32} {x6 : Int32} : wp Ln xs 64 33 [.ref 69, .ref 2, .int x2, .ref 56, .ref 3, .int x5, .int x6] [.int (nI 3)] (u, ml_h m lm) Φ = wp Ln xs 64 91 [.ref 69, .ref 2, .int x2, .ref 56, .ref 3, .int x5, .int x6] [] (u, ml_h m lm) Φ := wp_same xd64_33 (Or.inl rfl) rfl
theorem x64_33_4 {x2 : Int32} {x5 : Int32} {x6 : Int32} : wp Ln xs 64 33 [.ref 69, .ref 2, .int x2, .ref 56, .ref 3, .int x5, .int x6] [.int (nI 4)] (u, ml_h m lm) Φ = wp Ln xs 64 105 [.ref 69, .ref 2, .int x2, .ref 56, .ref 3, .int x5, .int x6] [] (u, ml_h m lm) Φ := wp_same xd64_33 (Or.inl rfl) rfl
theorem x64_33_5 {x2 : Int32} {x5 : Int32} {x6 : Int32} : wp Ln xs 64 33 [.ref 69, .ref 2, .int x2, .ref 56, .ref 3, .int x5, .int x6] [.int (nI 5)] (u, ml_h m lm) Φ = wp Ln xs 64 119 [.ref 69, .ref 2, .int x2, .ref 56, .ref 3, .int x5, .int x6] [] (u, ml_h m lm) Φ := wp_same xd64_33 (Or.inl rfl) rfl
theorem x64_33_6 {x2 : Int32} {x5 : Int32} {x6 : Int32} : wp Ln xs 64 33 [.ref 69, .ref 2, .int x2, .ref 56, .ref 3, .int x5, .int x6] [.int (nI 6)] (u, ml_h m lm) Φ = wp Ln xs 64 119 [.ref 69, .ref 2, .int x2, .ref 56, .ref 3, .int x5, .int x6] [] (u, ml_h m lm) Φ := wp_same xd64_33 (Or.inl rfl) rfl
theorem x64_33_7 {x2 : Int32} {x5 : Int32} {x6 : Int32} : wp Ln xs 64 33 [.ref 69, .ref 2, .int x2, .ref 56, .ref 3, .int x5, .int x6] [.int (nI 7)] (u, ml_h m lm) Φ = wp Ln xs 64 119 [.ref 69, .ref 2, .int x2, .ref 56, .ref 3, .int x5, .int x6] [] (u, ml_h m lm) Φ := wp_same xd64_33 (Or.inl rfl) rfl
theorem x64_64 {x2 : Int32} {x5 : Int32} {x6 : Int32} : wp Ln xs 64 64 [.ref 69, .ref 2, .int x2, .ref 56, .ref 3, .int x5, .int x6] [] (u, ml_h m lm) Φ = wp Ln xs 65 0 [.ref 69, .ref 3, .int x5, .int x6, .ref 56, mj_hole, mj_hole] [] (u, ml_h m lm) (mk Ln xs 64 72 [.ref 69, .ref 2, .int x2, .ref 56, .ref 3, .int x5, .int x6] [] Φ) := (wp_same xd64_64 (Or.inr rfl) rfl).trans ((wp_same xd64_65 (Or.inr rfl) rfl).trans ((wp_same xd64_67 (Or.inr rfl) rfl).trans ((wp_same xd64_69 (Or.inr rfl) rfl).trans ((wp_same xd64_71 (Or.inr rfl) rfl).trans (wm_cv (As := [.ref 3, .int x5, .int x6, .ref 56]) (rest := []) xd64_72 rfl rfl (show ml_L[69]? = _ from rfl) (Nat.le_of_ble_eq_true rfl) (Nat.le_of_ble_eq_true rfl) (Nat.le_of_ble_eq_true rfl) (Nat.le_of_ble_eq_true rfl))))))
theorem x64_75 {x2 : Int32} {x5 : Int32} {x6 : Int32} : wp Ln xs 64 75 [.ref 69, .ref 2, .int x2, .ref 56, .ref 3, .int x5, .int x6] [] (u, ml_h m lm) Φ = Φ (.inl none) (u, ml_h m lm) := (wx_goto xd64_75 rfl).trans (wp_fin (v := none) xd64_129 (Or.inr rfl) rfl rfl)
theorem x64_78 {x2 : Int32} {x5 : Int32} {x6 : Int32} : wp Ln xs 64 78 [.ref 69, .ref 2, .int x2, .ref 56, .ref 3, .int x5, .int x6] [] (u, ml_h m lm) Φ = wp Ln xs 67 0 [.ref 69, .ref 3, .int x5, .int x6, mj_hole, mj_hole, mj_hole] [] (u, ml_h m lm) (mk Ln xs 64 85 [.ref 69, .ref 2, .int x2, .ref 56, .ref 3, .int x5, .int x6] [] Φ) := (wp_same xd64_78 (Or.inr rfl) rfl).trans ((wp_same xd64_79 (Or.inr rfl) rfl).trans ((wp_same xd64_81 (Or.inr rfl) rfl).trans ((wp_same xd64_83 (Or.inr rfl) rfl).trans (wm_cv (As := [.ref 3, .int x5, .int x6]) (rest := []) xd64_85 rfl rfl (show ml_L[69]? = _ from rfl) (Nat.le_of_ble_eq_true rfl) (Nat.le_of_ble_eq_true rfl) (Nat.le_of_ble_eq_true rfl) (Nat.le_of_ble_eq_true rfl)))))
theorem x64_88 {x2 : Int32} {x5 : Int32} {x6 : Int32} : wp Ln xs 64 88 [.ref 69, .ref 2, .int x2, .ref 56, .ref 3, .int x5, .int x6] [] (u, ml_h m lm) Φ = Φ (.inl none) (u, ml_h m lm) := (wx_goto xd64_88 rfl).trans (wp_fin (v := none) xd64_129 (Or.inr rfl) rfl rfl)
theorem x64_91 {x2 : Int32} {x5 : Int32} {x6 : Int32} : wp Ln xs 64 91 [.ref 69, .ref 2, .int x2, .ref 56, .ref 3, .int x5, .int x6] [] (u, ml_h m lm) Φ = wp Ln xs 68 0 [.ref 69, .ref 3, .int x5, .int x6, .ref 56, mj_hole, mj_hole] [] (u, ml_h m lm) (mk Ln xs 64 99 [.ref 69, .ref 2, .int x2, .ref 56, .ref 3, .int x5, .int x6] [] Φ) := (wp_same xd64_91 (Or.inr rfl) rfl).trans ((wp_same xd64_92 (Or.inr rfl) rfl).trans ((wp_same xd64_94 (Or.inr rfl) rfl).trans ((wp_same xd64_96 (Or.inr rfl) rfl).trans ((wp_same xd64_98 (Or.inr rfl) rfl).trans (wm_cv (As := [.ref 3, .int x5, .int x6, .ref 56]) (rest := []) xd64_99 rfl rfl (show ml_L[69]? = _ from rfl) (Nat.le_of_ble_eq_true rfl) (Nat.le_of_ble_eq_true rfl) (Nat.le_of_ble_eq_true rfl) (Nat.le_of_ble_eq_true rfl))))))
theorem x64_102 {x2 : Int32} {x5 : Int32} {x6 : Int32} : wp Ln xs 64 102 [.ref 69, .ref 2, .int x2, .ref 56, .ref 3, .int x5, .int x6] [] (u, ml_h m lm) Φ = Φ (.inl none) (u, ml_h m lm) := (wx_goto xd64_102 rfl).trans (wp_fin (v := none) xd64_129 (Or.inr rfl) rfl rfl)
theorem x64_105 {x2 : Int32} {x5 : Int32} {x6 : Int32} : wp Ln xs 64 105 [.ref 69, .ref 2, .int x2, .ref 56, .ref 3, .int x5, .int x6] [] (u, ml_h m lm) Φ = wp Ln xs 69 0 [.ref 69, .ref 3, .int x5, .int x6, .ref 56, mj_hole, mj_hole] [] (u, ml_h m lm) (mk Ln xs 64 113 [.ref 69, .ref 2, .int x2, .ref 56, .ref 3, .int x5, .int x6] [] Φ) := (wp_same xd64_105 (Or.inr rfl) rfl).trans ((wp_same xd64_106 (Or.inr rfl) rfl).trans ((wp_same xd64_108 (Or.inr rfl) rfl).trans ((wp_same xd64_110 (Or.inr rfl) rfl).trans ((wp_same xd64_112 (Or.inr rfl) rfl).trans (wm_cv (As := [.ref 3, .int x5, .int x6, .ref 56]) (rest := []) xd64_113 rfl rfl (show ml_L[69]? = _ from rfl) (Nat.le_of_ble_eq_true rfl) (Nat.le_of_ble_eq_true rfl) (Nat.le_of_ble_eq_true rfl) (Nat.le_of_ble_eq_true rfl))))))
theorem x64_116 {x2 : Int32} {x5 : Int32} {x6 : Int32} : wp Ln xs 64 116 [.ref 69, .ref 2, .int x2, .ref 56, .ref 3, .int x5, .int x6] [] (u, ml_h m lm) Φ = Φ (.inl none) (u, ml_h m lm) := (wx_goto xd64_116 rfl).trans (wp_fin (v := none) xd64_129 (Or.inr rfl) rfl rfl)
theorem x64_119 {x2 : Int32} {x5 : Int32} {x6 : Int32} : wp Ln xs 64 119 [.ref 69, .ref 2, .int x2, .ref 56, .ref 3, .int x5, .int x6] [] (u, ml_h m lm) Φ = wp Ln xs 71 0 [.ref 69, .ref 3, .int x5, .int x6, mj_hole] [] (u, ml_h m lm) (mk Ln xs 64 126 [.ref 69, .ref 2, .int x2, .ref 56, .ref 3, .int x5, .int x6] [] Φ) := (wp_same xd64_119 (Or.inr rfl) rfl).trans ((wp_same xd64_120 (Or.inr rfl) rfl).trans ((wp_same xd64_122 (Or.inr rfl) rfl).trans ((wp_same xd64_124 (Or.inr rfl) rfl).trans (wm_cv (As := [.ref 3, .int x5, .int x6]) (rest := []) xd64_126 rfl rfl (show ml_L[69]? = _ from rfl) (Nat.le_of_ble_eq_true rfl) (Nat.le_of_ble_eq_true rfl) (Nat.le_of_ble_eq_true rfl) (Nat.le_of_ble_eq_true rfl)))))
theorem x64_129 {x2 : Int32} {x5 : Int32} {x6 : Int32} : wp Ln xs 64 129 [.ref 69, .ref 2, .int x2, .ref 56, .ref 3, .int x5, .int x6] [] (u, ml_h m lm) Φ = Φ (.inl none) (u, ml_h m lm) := wp_fin (v := none) xd64_129 (Or.inr rfl) rfl rfl
/- PickedForms$BitRow.encodePacked -/
theorem xd65_0 : decode (mj_b 65) 0 = .ok (.aload 4, 2) := by decide +kernel
theorem xd65_2 : decode (mj_b 65) 2 = .ok (.getfield 61, 3) := by decide +kernel
theorem xd65_5 : decode (mj_b 65) 5 = .ok (.aload 4, 2) := by decide +kernel
theorem xd65_7 : decode (mj_b 65) 7 = .ok (.getfield 66, 3) := by decide +kernel
theorem xd65_10 : decode (mj_b 65) 10 = .ok (.isub, 1) := by decide +kernel
theorem xd65_11 : decode (mj_b 65) 11 = .ok (.invokestatic 69, 3) := by decide +kernel
theorem xd65_14 : decode (mj_b 65) 14 = .ok (.istore 5, 2) := by decide +kernel
theorem xd65_16 : decode (mj_b 65) 16 = .ok (.aload_n 0, 1) := by decide +kernel
theorem xd65_17 : decode (mj_b 65) 17 = .ok (.aload 4, 2) := by decide +kernel
theorem xd65_19 : decode (mj_b 65) 19 = .ok (.getfield 66, 3) := by decide +kernel
theorem xd65_22 : decode (mj_b 65) 22 = .ok (.bipush 10, 2) := by decide +kernel
theorem xd65_24 : decode (mj_b 65) 24 = .ok (.invokevirtual 57, 3) := by decide +kernel
theorem xd65_27 : decode (mj_b 65) 27 = .ok (.aload_n 0, 1) := by decide +kernel
theorem xd65_28 : decode (mj_b 65) 28 = .ok (.iload 5, 2) := by decide +kernel
theorem xd65_30 : decode (mj_b 65) 30 = .ok (.iconst 4, 1) := by decide +kernel
theorem xd65_31 : decode (mj_b 65) 31 = .ok (.invokevirtual 57, 3) := by decide +kernel
theorem xd65_34 : decode (mj_b 65) 34 = .ok (.iload_n 2, 1) := by decide +kernel
theorem xd65_35 : decode (mj_b 65) 35 = .ok (.istore 6, 2) := by decide +kernel
theorem xd65_37 : decode (mj_b 65) 37 = .ok (.iload 6, 2) := by decide +kernel
theorem xd65_39 : decode (mj_b 65) 39 = .ok (.iload_n 3, 1) := by decide +kernel
theorem xd65_40 : decode (mj_b 65) 40 = .ok (.if_icmp .ge 27, 3) := by decide +kernel
theorem xd65_43 : decode (mj_b 65) 43 = .ok (.aload_n 0, 1) := by decide +kernel
theorem xd65_44 : decode (mj_b 65) 44 = .ok (.aload_n 1, 1) := by decide +kernel
theorem xd65_45 : decode (mj_b 65) 45 = .ok (.iload 6, 2) := by decide +kernel
theorem xd65_47 : decode (mj_b 65) 47 = .ok (.invokestatic 51, 3) := by decide +kernel
theorem xd65_50 : decode (mj_b 65) 50 = .ok (.aload 4, 2) := by decide +kernel
theorem xd65_52 : decode (mj_b 65) 52 = .ok (.getfield 66, 3) := by decide +kernel
theorem xd65_55 : decode (mj_b 65) 55 = .ok (.isub, 1) := by decide +kernel
theorem xd65_56 : decode (mj_b 65) 56 = .ok (.iload 5, 2) := by decide +kernel
theorem xd65_58 : decode (mj_b 65) 58 = .ok (.invokevirtual 57, 3) := by decide +kernel
theorem xd65_61 : decode (mj_b 65) 61 = .ok (.iinc 6 1, 3) := by decide +kernel
theorem xd65_64 : decode (mj_b 65) 64 = .ok (.goto (-27), 3) := by decide +kernel
theorem xd65_67 : decode (mj_b 65) 67 = .ok (.return_, 1) := by decide +kernel
theorem x65_0 {x2 : Int32} {x3 : Int32} : wp Ln xs 65 0 [.ref 69, .ref 3, .int x2, .int x3, .ref 56, mj_hole, mj_hole] [] (u, ml_h m lm) Φ = wp Ln xs 28 0 [.int ((m 56 4) - (m 56 3)), mj_hole, mj_hole] [] (u, ml_h m lm) (mk Ln xs 65 11 [.ref 69, .ref 3, .int x2, .int x3, .ref 56, mj_hole, mj_hole] [] Φ) := (wp_same xd65_0 (Or.inr rfl) rfl).trans ((wm_geti xd65_2 rfl (show ml_L[56]? = _ from rfl) rfl (Nat.le_of_ble_eq_true rfl)).trans ((wp_same xd65_5 (Or.inr rfl) rfl).trans ((wm_geti xd65_7 rfl (show ml_L[56]? = _ from rfl) rfl (Nat.le_of_ble_eq_true rfl)).trans ((wp_same xd65_10 (Or.inr rfl) rfl).trans (wm_cs (As := [.int ((m 56 4) - (m 56 3))]) (rest := []) xd65_11 rfl rfl (Nat.le_of_ble_eq_true rfl) (Nat.le_of_ble_eq_true rfl) (Nat.le_of_ble_eq_true rfl) (Nat.le_of_ble_eq_true rfl))))))
theorem x65_14 {x2 : Int32} {x3 : Int32} {xs0 : Int32} : wp Ln xs 65 14 [.ref 69, .ref 3, .int x2, .int x3, .ref 56, mj_hole, mj_hole] [.int xs0] (u, ml_h m lm) Φ = wp Ln xs 66 0 [.ref 69, .int (m 56 3), .int (nI 10), mj_hole] [] (u, ml_h m lm) (mk Ln xs 65 24 [.ref 69, .ref 3, .int x2, .int x3, .ref 56, .int xs0, mj_hole] [] Φ) := (wp_same (L' := [.ref 69, .ref 3, .int x2, .int x3, .ref 56, .int xs0, mj_hole]) xd65_14 (Or.inr rfl) rfl).trans ((wp_same xd65_16 (Or.inr rfl) rfl).trans ((wp_same xd65_17 (Or.inr rfl) rfl).trans ((wm_geti xd65_19 rfl (show ml_L[56]? = _ from rfl) rfl (Nat.le_of_ble_eq_true rfl)).trans ((wp_same (S' := [.int (nI 10), .int (m 56 3), .ref 69]) xd65_22 (Or.inr rfl) rfl).trans (wm_cv (As := [.int (m 56 3), .int (nI 10)]) (rest := []) xd65_24 rfl rfl (show ml_L[69]? = _ from rfl) (Nat.le_of_ble_eq_true rfl) (Nat.le_of_ble_eq_true rfl) (Nat.le_of_ble_eq_true rfl) (Nat.le_of_ble_eq_true rfl))))))
theorem x65_27 {x2 : Int32} {x3 : Int32} {x5 : Int32} : wp Ln xs 65 27 [.ref 69, .ref 3, .int x2, .int x3, .ref 56, .int x5, mj_hole] [] (u, ml_h m lm) Φ = wp Ln xs 66 0 [.ref 69, .int x5, .int (nI 4), mj_hole] [] (u, ml_h m lm) (mk Ln xs 65 31 [.ref 69, .ref 3, .int x2, .int x3, .ref 56, .int x5, mj_hole] [] Φ) := (wp_same xd65_27 (Or.inr rfl) rfl).trans ((wp_same xd65_28 (Or.inr rfl) rfl).trans ((wp_same (S' := [.int (nI 4), .int x5, .ref 69]) xd65_30 (Or.inr rfl) rfl).trans (wm_cv (As := [.int x5, .int (nI 4)]) (rest := []) xd65_31 rfl rfl (show ml_L[69]? = _ from rfl) (Nat.le_of_ble_eq_true rfl) (Nat.le_of_ble_eq_true rfl) (Nat.le_of_ble_eq_true rfl) (Nat.le_of_ble_eq_true rfl))))
theorem x65_34 {x2 : Int32} {x3 : Int32} {x5 : Int32} : wp Ln xs 65 34 [.ref 69, .ref 3, .int x2, .int x3, .ref 56, .int x5, mj_hole] [] (u, ml_h m lm) Φ = wp Ln xs 65 37 [.ref 69, .ref 3, .int x2, .int x3, .ref 56, .int x5, .int x2] [] (u, ml_h m lm) Φ := (wp_same xd65_34 (Or.inr rfl) rfl).trans (wp_same (L' := [.ref 69, .ref 3, .int x2, .int x3, .ref 56, .int x5, .int x2]) xd65_35 (Or.inr rfl) rfl)
theorem x65_37 {x2 : Int32} {x3 : Int32} {x5 : Int32} {x6 : Int32} : wp Ln xs 65 37 [.ref 69, .ref 3, .int x2, .int x3, .ref 56, .int x5, .int x6] [] (u, ml_h m lm) Φ = if x3 ≤ x6 then wp Ln xs 65 67 [.ref 69, .ref 3, .int x2, .int x3, .ref 56, .int x5, .int x6] [] (u, ml_h m lm) Φ else wp Ln xs 65 43 [.ref 69, .ref 3, .int x2, .int x3, .ref 56, .int x5, .int x6] [] (u, ml_h m lm) Φ := (wp_same xd65_37 (Or.inr rfl) rfl).trans ((wp_same xd65_39 (Or.inr rfl) rfl).trans (wx_icmp xd65_40 rfl rfl (x3 ≤ x6) mb_ge))
theorem x65_43 {x2 : Int32} {x3 : Int32} {x5 : Int32} {x6 : Int32} : wp Ln xs 65 43 [.ref 69, .ref 3, .int x2, .int x3, .ref 56, .int x5, .int x6] [] (u, ml_h m lm) Φ = wp Ln xs 17 0 [.ref 3, .int x6] [] (u, ml_h m lm) (mk Ln xs 65 47 [.ref 69, .ref 3, .int x2, .int x3, .ref 56, .int x5, .int x6] [.ref 69] Φ) := (wp_same xd65_43 (Or.inr rfl) rfl).trans ((wp_same xd65_44 (Or.inr rfl) rfl).trans ((wp_same xd65_45 (Or.inr rfl) rfl).trans (wm_cs (As := [.ref 3, .int x6]) (rest := [.ref 69]) xd65_47 rfl rfl (Nat.le_of_ble_eq_true rfl) (Nat.le_of_ble_eq_true rfl) (Nat.le_of_ble_eq_true rfl) (Nat.le_of_ble_eq_true rfl))))
theorem x65_50 {x2 : Int32} {x3 : Int32} {x5 : Int32} {x6 : Int32} {xs0 : Int32} : wp Ln xs 65 50 [.ref 69, .ref 3, .int x2, .int x3, .ref 56, .int x5, .int x6] [.int xs0, .ref 69] (u, ml_h m lm) Φ = wp Ln xs 66 0 [.ref 69, .int (xs0 - (m 56 3)), .int x5, mj_hole] [] (u, ml_h m lm) (mk Ln xs 65 58 [.ref 69, .ref 3, .int x2, .int x3, .ref 56, .int x5, .int x6] [] Φ) := (wp_same xd65_50 (Or.inr rfl) rfl).trans ((wm_geti xd65_52 rfl (show ml_L[56]? = _ from rfl) rfl (Nat.le_of_ble_eq_true rfl)).trans ((wp_same xd65_55 (Or.inr rfl) rfl).trans ((wp_same xd65_56 (Or.inr rfl) rfl).trans (wm_cv (As := [.int (xs0 - (m 56 3)), .int x5]) (rest := []) xd65_58 rfl rfl (show ml_L[69]? = _ from rfl) (Nat.le_of_ble_eq_true rfl) (Nat.le_of_ble_eq_true rfl) (Nat.le_of_ble_eq_true rfl) (Nat.le_of_ble_eq_true rfl)))))
theorem x65_61 {x2 : Int32} {x3 : Int32} {x5 : Int32} {x6 : Int32} : wp Ln xs 65 61 [.ref 69, .ref 3, .int x2, .int x3, .ref 56, .int x5, .int x6] [] (u, ml_h m lm) Φ = wp Ln xs 65 37 [.ref 69, .ref 3, .int x2, .int x3, .ref 56, .int x5, .int (x6 + nI 1)] [] (u, ml_h m lm) Φ := (wp_same (L' := [.ref 69, .ref 3, .int x2, .int x3, .ref 56, .int x5, .int (x6 + nI 1)]) xd65_61 (Or.inr rfl) rfl).trans (wx_goto xd65_64 rfl)
theorem x65_67 {x2 : Int32} {x3 : Int32} {x5 : Int32} {x6 : Int32} : wp Ln xs 65 67 [.ref 69, .ref 3, .int x2, .int x3, .ref 56, .int x5, .int x6] [] (u, ml_h m lm) Φ = Φ (.inl none) (u, ml_h m lm) := wp_fin (v := none) xd65_67 (Or.inr rfl) rfl rfl
/- PickedForms$BitRow.field -/
theorem xd66_0 : decode (mj_b 66) 0 = .ok (.iload_n 2, 1) := by decide +kernel
theorem xd66_1 : decode (mj_b 66) 1 = .ok (.iconst 1, 1) := by decide +kernel
theorem xd66_2 : decode (mj_b 66) 2 = .ok (.isub, 1) := by decide +kernel
theorem xd66_3 : decode (mj_b 66) 3 = .ok (.istore_n 3, 1) := by decide +kernel
theorem xd66_4 : decode (mj_b 66) 4 = .ok (.iload_n 3, 1) := by decide +kernel
theorem xd66_5 : decode (mj_b 66) 5 = .ok (.ifCond .lt 35, 3) := by decide +kernel
theorem xd66_8 : decode (mj_b 66) 8 = .ok (.aload_n 0, 1) := by decide +kernel
theorem xd66_9 : decode (mj_b 66) 9 = .ok (.getfield 9, 3) := by decide +kernel
theorem xd66_12 : decode (mj_b 66) 12 = .ok (.aload_n 0, 1) := by decide +kernel
theorem xd66_13 : decode (mj_b 66) 13 = .ok (.getfield 15, 3) := by decide +kernel
theorem xd66_16 : decode (mj_b 66) 16 = .ok (.iload_n 1, 1) := by decide +kernel
theorem xd66_17 : decode (mj_b 66) 17 = .ok (.iload_n 3, 1) := by decide +kernel
theorem xd66_18 : decode (mj_b 66) 18 = .ok (.ishr, 1) := by decide +kernel
theorem xd66_19 : decode (mj_b 66) 19 = .ok (.iconst 1, 1) := by decide +kernel
theorem xd66_20 : decode (mj_b 66) 20 = .ok (.iand, 1) := by decide +kernel
theorem xd66_21 : decode (mj_b 66) 21 = .ok (.invokestatic 88, 3) := by decide +kernel
theorem xd66_24 : decode (mj_b 66) 24 = .ok (.aload_n 0, 1) := by decide +kernel
theorem xd66_25 : decode (mj_b 66) 25 = .ok (.dup, 1) := by decide +kernel
theorem xd66_26 : decode (mj_b 66) 26 = .ok (.getfield 15, 3) := by decide +kernel
theorem xd66_29 : decode (mj_b 66) 29 = .ok (.iconst 1, 1) := by decide +kernel
theorem xd66_30 : decode (mj_b 66) 30 = .ok (.iadd, 1) := by decide +kernel
theorem xd66_31 : decode (mj_b 66) 31 = .ok (.putfield 15, 3) := by decide +kernel
theorem xd66_34 : decode (mj_b 66) 34 = .ok (.iinc 3 (-1), 3) := by decide +kernel
theorem xd66_37 : decode (mj_b 66) 37 = .ok (.goto (-33), 3) := by decide +kernel
theorem xd66_40 : decode (mj_b 66) 40 = .ok (.return_, 1) := by decide +kernel
theorem x66_0 {x1 : Int32} {x2 : Int32} : wp Ln xs 66 0 [.ref 69, .int x1, .int x2, mj_hole] [] (u, ml_h m lm) Φ = wp Ln xs 66 4 [.ref 69, .int x1, .int x2, .int (x2 - (nI 1))] [] (u, ml_h m lm) Φ := (wp_same xd66_0 (Or.inr rfl) rfl).trans ((wp_same (S' := [.int (nI 1), .int x2]) xd66_1 (Or.inr rfl) rfl).trans ((wp_same xd66_2 (Or.inr rfl) rfl).trans (wp_same (L' := [.ref 69, .int x1, .int x2, .int (x2 - (nI 1))]) xd66_3 (Or.inr rfl) rfl)))
theorem x66_4 {x1 : Int32} {x2 : Int32} {x3 : Int32} : wp Ln xs 66 4 [.ref 69, .int x1, .int x2, .int x3] [] (u, ml_h m lm) Φ = if x3 < (nI 0) then wp Ln xs 66 40 [.ref 69, .int x1, .int x2, .int x3] [] (u, ml_h m lm) Φ else wp Ln xs 66 8 [.ref 69, .int x1, .int x2, .int x3] [] (u, ml_h m lm) Φ := (wp_same xd66_4 (Or.inr rfl) rfl).trans (wx_if xd66_5 rfl rfl (x3 < (nI 0)) mb_lt)
theorem x66_8 {x1 : Int32} {x2 : Int32} {x3 : Int32} : wp Ln xs 66 8 [.ref 69, .int x1, .int x2, .int x3] [] (u, ml_h m lm) Φ = wp Ln xs 29 0 [.ref 70, .int (m 69 1), .int ((x1 >>> (x3 &&& 31)) &&& (nI 1))] [] (u, ml_h m lm) (mk Ln xs 66 21 [.ref 69, .int x1, .int x2, .int x3] [] Φ) := (wp_same xd66_8 (Or.inr rfl) rfl).trans ((wm_getr xd66_9 rfl (show ml_L[69]? = _ from rfl) rfl (Nat.le_of_ble_eq_true rfl)).trans ((wp_same xd66_12 (Or.inr rfl) rfl).trans ((wm_geti xd66_13 rfl (show ml_L[69]? = _ from rfl) rfl (Nat.le_of_ble_eq_true rfl)).trans ((wp_same xd66_16 (Or.inr rfl) rfl).trans ((wp_same xd66_17 (Or.inr rfl) rfl).trans ((wp_same xd66_18 (Or.inr rfl) rfl).trans ((wp_same (S' := [.int (nI 1), .int (x1 >>> (x3 &&& 31)), .int (m 69 1), .ref 70]) xd66_19 (Or.inr rfl) rfl).trans ((wp_same xd66_20 (Or.inr rfl) rfl).trans (wm_cs (As := [.ref 70, .int (m 69 1), .int ((x1 >>> (x3 &&& 31)) &&& (nI 1))]) (rest := []) xd66_21 rfl rfl (Nat.le_of_ble_eq_true rfl) (Nat.le_of_ble_eq_true rfl) (Nat.le_of_ble_eq_true rfl) (Nat.le_of_ble_eq_true rfl))))))))))
theorem x66_24 {x1 : Int32} {x2 : Int32} {x3 : Int32} : wp Ln xs 66 24 [.ref 69, .int x1, .int x2, .int x3] [] (u, ml_h m lm) Φ = wp Ln xs 66 4 [.ref 69, .int x1, .int x2, .int (x3 + (-1))] [] (u, ml_h (ml_s m 69 1 ((m 69 1) + (nI 1))) lm) Φ := (wp_same xd66_24 (Or.inr rfl) rfl).trans ((wp_same xd66_25 (Or.inr rfl) rfl).trans ((wm_geti xd66_26 rfl (show ml_L[69]? = _ from rfl) rfl (Nat.le_of_ble_eq_true rfl)).trans ((wp_same (S' := [.int (nI 1), .int (m 69 1), .ref 69]) xd66_29 (Or.inr rfl) rfl).trans ((wp_same xd66_30 (Or.inr rfl) rfl).trans ((wm_puti xd66_31 rfl (show ml_L[69]? = _ from rfl) rfl (Nat.le_of_ble_eq_true rfl) rfl rfl rfl).trans ((wp_same (L' := [.ref 69, .int x1, .int x2, .int (x3 + (-1))]) xd66_34 (Or.inr rfl) rfl).trans (wx_goto xd66_37 rfl)))))))
theorem x66_40 {x1 : Int32} {x2 : Int32} {x3 : Int32} : wp Ln xs 66 40 [.ref 69, .int x1, .int x2, .int x3] [] (u, ml_h m lm) Φ = Φ (.inl none) (u, ml_h m lm) := wp_fin (v := none) xd66_40 (Or.inr rfl) rfl rfl
/- PickedForms$BitRow.encodeRuns -/
theorem xd67_0 : decode (mj_b 67) 0 = .ok (.iconst 0, 1) := by decide +kernel
theorem xd67_1 : decode (mj_b 67) 1 = .ok (.istore 4, 2) := by decide +kernel
theorem xd67_3 : decode (mj_b 67) 3 = .ok (.iload_n 2, 1) := by decide +kernel
theorem xd67_4 : decode (mj_b 67) 4 = .ok (.istore 5, 2) := by decide +kernel
theorem xd67_6 : decode (mj_b 67) 6 = .ok (.iload 5, 2) := by decide +kernel
theorem xd67_8 : decode (mj_b 67) 8 = .ok (.iload_n 3, 1) := by decide +kernel
theorem xd67_9 : decode (mj_b 67) 9 = .ok (.if_icmp .ge 61, 3) := by decide +kernel
theorem xd67_12 : decode (mj_b 67) 12 = .ok (.aload_n 1, 1) := by decide +kernel
theorem xd67_13 : decode (mj_b 67) 13 = .ok (.iload 5, 2) := by decide +kernel
theorem xd67_15 : decode (mj_b 67) 15 = .ok (.invokestatic 51, 3) := by decide +kernel
theorem xd67_18 : decode (mj_b 67) 18 = .ok (.istore 6, 2) := by decide +kernel
theorem xd67_20 : decode (mj_b 67) 20 = .ok (.iinc 4 1, 3) := by decide +kernel
theorem xd67_23 : decode (mj_b 67) 23 = .ok (.iload 5, 2) := by decide +kernel
theorem xd67_25 : decode (mj_b 67) 25 = .ok (.iconst 1, 1) := by decide +kernel
theorem xd67_26 : decode (mj_b 67) 26 = .ok (.iadd, 1) := by decide +kernel
theorem xd67_27 : decode (mj_b 67) 27 = .ok (.iload_n 3, 1) := by decide +kernel
theorem xd67_28 : decode (mj_b 67) 28 = .ok (.if_icmp .eq 16, 3) := by decide +kernel
theorem xd67_31 : decode (mj_b 67) 31 = .ok (.aload_n 1, 1) := by decide +kernel
theorem xd67_32 : decode (mj_b 67) 32 = .ok (.iload 5, 2) := by decide +kernel
theorem xd67_34 : decode (mj_b 67) 34 = .ok (.iconst 1, 1) := by decide +kernel
theorem xd67_35 : decode (mj_b 67) 35 = .ok (.iadd, 1) := by decide +kernel
theorem xd67_36 : decode (mj_b 67) 36 = .ok (.invokestatic 51, 3) := by decide +kernel
theorem xd67_39 : decode (mj_b 67) 39 = .ok (.iload 6, 2) := by decide +kernel
theorem xd67_41 : decode (mj_b 67) 41 = .ok (.if_icmp .eq 23, 3) := by decide +kernel
theorem xd67_44 : decode (mj_b 67) 44 = .ok (.aload_n 0, 1) := by decide +kernel
theorem xd67_45 : decode (mj_b 67) 45 = .ok (.iload 6, 2) := by decide +kernel
theorem xd67_47 : decode (mj_b 67) 47 = .ok (.bipush 10, 2) := by decide +kernel
theorem xd67_49 : decode (mj_b 67) 49 = .ok (.invokevirtual 57, 3) := by decide +kernel
theorem xd67_52 : decode (mj_b 67) 52 = .ok (.aload_n 0, 1) := by decide +kernel
theorem xd67_53 : decode (mj_b 67) 53 = .ok (.iload 4, 2) := by decide +kernel
theorem xd67_55 : decode (mj_b 67) 55 = .ok (.iconst 1, 1) := by decide +kernel
theorem xd67_56 : decode (mj_b 67) 56 = .ok (.isub, 1) := by decide +kernel
theorem xd67_57 : decode (mj_b 67) 57 = .ok (.iconst 4, 1) := by decide +kernel
theorem xd67_58 : decode (mj_b 67) 58 = .ok (.invokevirtual 57, 3) := by decide +kernel
theorem xd67_61 : decode (mj_b 67) 61 = .ok (.iconst 0, 1) := by decide +kernel
theorem xd67_62 : decode (mj_b 67) 62 = .ok (.istore 4, 2) := by decide +kernel
theorem xd67_64 : decode (mj_b 67) 64 = .ok (.iinc 5 1, 3) := by decide +kernel
theorem xd67_67 : decode (mj_b 67) 67 = .ok (.goto (-61), 3) := by decide +kernel
theorem xd67_70 : decode (mj_b 67) 70 = .ok (.return_, 1) := by decide +kernel
theorem x67_0 {x2 : Int32} {x3 : Int32} : wp Ln xs 67 0 [.ref 69, .ref 3, .int x2, .int x3, mj_hole, mj_hole, mj_hole] [] (u, ml_h m lm) Φ = wp Ln xs 67 6 [.ref 69, .ref 3, .int x2, .int x3, .int (nI 0), .int x2, mj_hole] [] (u, ml_h m lm) Φ := (wp_same (S' := [.int (nI 0)]) xd67_0 (Or.inr rfl) rfl).trans ((wp_same (L' := [.ref 69, .ref 3, .int x2, .int x3, .int (nI 0), mj_hole, mj_hole]) xd67_1 (Or.inr rfl) rfl).trans ((wp_same xd67_3 (Or.inr rfl) rfl).trans (wp_same (L' := [.ref 69, .ref 3, .int x2, .int x3, .int (nI 0), .int x2, mj_hole]) xd67_4 (Or.inr rfl) rfl)))
theorem x67_6 {x2 : Int32} {x3 : Int32} {x4 : Int32} {x5 : Int32} {v6 : Value} : wp Ln xs 67 6 [.ref 69, .ref 3, .int x2, .int x3, .int x4, .int x5, v6] [] (u, ml_h m lm) Φ = if x3 ≤ x5 then wp Ln xs 67 70 [.ref 69, .ref 3, .int x2, .int x3, .int x4, .int x5, v6] [] (u, ml_h m lm) Φ else wp Ln xs 67 12 [.ref 69, .ref 3, .int x2, .int x3, .int x4, .int x5, v6] [] (u, ml_h m lm) Φ := (wp_same xd67_6 (Or.inr rfl) rfl).trans ((wp_same xd67_8 (Or.inr rfl) rfl).trans (wx_icmp xd67_9 rfl rfl (x3 ≤ x5) mb_ge))
theorem x67_12 {x2 : Int32} {x3 : Int32} {x4 : Int32} {x5 : Int32} {v6 : Value} : wp Ln xs 67 12 [.ref 69, .ref 3, .int x2, .int x3, .int x4, .int x5, v6] [] (u, ml_h m lm) Φ = wp Ln xs 17 0 [.ref 3, .int x5] [] (u, ml_h m lm) (mk Ln xs 67 15 [.ref 69, .ref 3, .int x2, .int x3, .int x4, .int x5, v6] [] Φ) := (wp_same xd67_12 (Or.inr rfl) rfl).trans ((wp_same xd67_13 (Or.inr rfl) rfl).trans (wm_cs (As := [.ref 3, .int x5]) (rest := []) xd67_15 rfl rfl (Nat.le_of_ble_eq_true rfl) (Nat.le_of_ble_eq_true rfl) (Nat.le_of_ble_eq_true rfl) (Nat.le_of_ble_eq_true rfl)))
theorem x67_18 {x2 : Int32} {x3 : Int32} {x4 : Int32} {x5 : Int32} {v6 : Value} {xs0 : Int32} : wp Ln xs 67 18 [.ref 69, .ref 3, .int x2, .int x3, .int x4, .int x5, v6] [.int xs0] (u, ml_h m lm) Φ = if (x5 + (nI 1)) = x3 then wp Ln xs 67 44 [.ref 69, .ref 3, .int x2, .int x3, .int (x4 + nI 1), .int x5, .int xs0] [] (u, ml_h m lm) Φ else wp Ln xs 67 31 [.ref 69, .ref 3, .int x2, .int x3, .int (x4 + nI 1), .int x5, .int xs0] [] (u, ml_h m lm) Φ := (wp_same (L' := [.ref 69, .ref 3, .int x2, .int x3, .int x4, .int x5, .int xs0]) xd67_18 (Or.inr rfl) rfl).trans ((wp_same (L' := [.ref 69, .ref 3, .int x2, .int x3, .int (x4 + nI 1), .int x5, .int xs0]) xd67_20 (Or.inr rfl) rfl).trans ((wp_same xd67_23 (Or.inr rfl) rfl).trans ((wp_same (S' := [.int (nI 1), .int x5]) xd67_25 (Or.inr rfl) rfl).trans ((wp_same xd67_26 (Or.inr rfl) rfl).trans ((wp_same xd67_27 (Or.inr rfl) rfl).trans (wx_icmp xd67_28 rfl rfl ((x5 + (nI 1)) = x3) mb_eq))))))
theorem x67_31 {x2 : Int32} {x3 : Int32} {x4 : Int32} {x5 : Int32} {x6 : Int32} : wp Ln xs 67 31 [.ref 69, .ref 3, .int x2, .int x3, .int x4, .int x5, .int x6] [] (u, ml_h m lm) Φ = wp Ln xs 17 0 [.ref 3, .int (x5 + (nI 1))] [] (u, ml_h m lm) (mk Ln xs 67 36 [.ref 69, .ref 3, .int x2, .int x3, .int x4, .int x5, .int x6] [] Φ) := (wp_same xd67_31 (Or.inr rfl) rfl).trans ((wp_same xd67_32 (Or.inr rfl) rfl).trans ((wp_same (S' := [.int (nI 1), .int x5, .ref 3]) xd67_34 (Or.inr rfl) rfl).trans ((wp_same xd67_35 (Or.inr rfl) rfl).trans (wm_cs (As := [.ref 3, .int (x5 + (nI 1))]) (rest := []) xd67_36 rfl rfl (Nat.le_of_ble_eq_true rfl) (Nat.le_of_ble_eq_true rfl) (Nat.le_of_ble_eq_true rfl) (Nat.le_of_ble_eq_true rfl)))))
theorem x67_39 {x2 : Int32} {x3 : Int32} {x4 : Int32} {x5 : Int32} {x6 : Int32} {xs0 : Int32} : wp Ln xs 67 39 [.ref 69, .ref 3, .int x2, .int x3, .int x4, .int x5, .int x6] [.int xs0] (u, ml_h m lm) Φ = if xs0 = x6 then wp Ln xs 67 64 [.ref 69, .ref 3, .int x2, .int x3, .int x4, .int x5, .int x6] [] (u, ml_h m lm) Φ else wp Ln xs 67 44 [.ref 69, .ref 3, .int x2, .int x3, .int x4, .int x5, .int x6] [] (u, ml_h m lm) Φ := (wp_same xd67_39 (Or.inr rfl) rfl).trans (wx_icmp xd67_41 rfl rfl (xs0 = x6) mb_eq)
theorem x67_44 {x2 : Int32} {x3 : Int32} {x4 : Int32} {x5 : Int32} {x6 : Int32} : wp Ln xs 67 44 [.ref 69, .ref 3, .int x2, .int x3, .int x4, .int x5, .int x6] [] (u, ml_h m lm) Φ = wp Ln xs 66 0 [.ref 69, .int x6, .int (nI 10), mj_hole] [] (u, ml_h m lm) (mk Ln xs 67 49 [.ref 69, .ref 3, .int x2, .int x3, .int x4, .int x5, .int x6] [] Φ) := (wp_same xd67_44 (Or.inr rfl) rfl).trans ((wp_same xd67_45 (Or.inr rfl) rfl).trans ((wp_same (S' := [.int (nI 10), .int x6, .ref 69]) xd67_47 (Or.inr rfl) rfl).trans (wm_cv (As := [.int x6, .int (nI 10)]) (rest := []) xd67_49 rfl rfl (show ml_L[69]? = _ from rfl) (Nat.le_of_ble_eq_true rfl) (Nat.le_of_ble_eq_true rfl) (Nat.le_of_ble_eq_true rfl) (Nat.le_of_ble_eq_true rfl))))
theorem x67_52 {x2 : Int32} {x3 : Int32} {x4 : Int32} {x5 : Int32} {x6 : Int32} : wp Ln xs 67 52 [.ref 69, .ref 3, .int x2, .int x3, .int x4, .int x5, .int x6] [] (u, ml_h m lm) Φ = wp Ln xs 66 0 [.ref 69, .int (x4 - (nI 1)), .int (nI 4), mj_hole] [] (u, ml_h m lm) (mk Ln xs 67 58 [.ref 69, .ref 3, .int x2, .int x3, .int x4, .int x5, .int x6] [] Φ) := (wp_same xd67_52 (Or.inr rfl) rfl).trans ((wp_same xd67_53 (Or.inr rfl) rfl).trans ((wp_same (S' := [.int (nI 1), .int x4, .ref 69]) xd67_55 (Or.inr rfl) rfl).trans ((wp_same xd67_56 (Or.inr rfl) rfl).trans ((wp_same (S' := [.int (nI 4), .int (x4 - (nI 1)), .ref 69]) xd67_57 (Or.inr rfl) rfl).trans (wm_cv (As := [.int (x4 - (nI 1)), .int (nI 4)]) (rest := []) xd67_58 rfl rfl (show ml_L[69]? = _ from rfl) (Nat.le_of_ble_eq_true rfl) (Nat.le_of_ble_eq_true rfl) (Nat.le_of_ble_eq_true rfl) (Nat.le_of_ble_eq_true rfl))))))
theorem x67_61 {x2 : Int32} {x3 : Int32} {x4 : Int32} {x5 : Int32} {x6 : Int32} : wp Ln xs 67 61 [.ref 69, .ref 3, .int x2, .int x3, .int x4, .int x5, .int x6] [] (u, ml_h m lm) Φ = wp Ln xs 67 64 [.ref 69, .ref 3, .int x2, .int x3, .int (nI 0), .int x5, .int x6] [] (u, ml_h m lm) Φ := (wp_same (S' := [.int (nI 0)]) xd67_61 (Or.inr rfl) rfl).trans (wp_same (L' := [.ref 69, .ref 3, .int x2, .int x3, .int (nI 0), .int x5, .int x6]) xd67_62 (Or.inr rfl) rfl)
theorem x67_64 {x2 : Int32} {x3 : Int32} {x4 : Int32} {x5 : Int32} {x6 : Int32} : wp Ln xs 67 64 [.ref 69, .ref 3, .int x2, .int x3, .int x4, .int x5, .int x6] [] (u, ml_h m lm) Φ = wp Ln xs 67 6 [.ref 69, .ref 3, .int x2, .int x3, .int x4, .int (x5 + nI 1), .int x6] [] (u, ml_h m lm) Φ := (wp_same (L' := [.ref 69, .ref 3, .int x2, .int x3, .int x4, .int (x5 + nI 1), .int x6]) xd67_64 (Or.inr rfl) rfl).trans (wx_goto xd67_67 rfl)
theorem x67_70 {x2 : Int32} {x3 : Int32} {x4 : Int32} {x5 : Int32} {v6 : Value} : wp Ln xs 67 70 [.ref 69, .ref 3, .int x2, .int x3, .int x4, .int x5, v6] [] (u, ml_h m lm) Φ = Φ (.inl none) (u, ml_h m lm) := wp_fin (v := none) xd67_70 (Or.inr rfl) rfl rfl
end MXc
