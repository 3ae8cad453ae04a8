/-! ===== an equation for each straight piece of a method ===== -/
section MXk
variable {Ln : Nat} {xs : Nat → Int32} {u : mj_U} {m : ml_M} {lm : ml_J} {Φ : mj_R → mj_W → Prop}
/- PickedFormsModel.bit -/
theorem xd208_0 : decode (mj_b 208) 0 = .ok (.aload_n 0, 1) := by decide +kernel
theorem xd208_1 : decode (mj_b 208) 1 = .ok (.aload_n 0, 1) := by decide +kernel
theorem xd208_2 : decode (mj_b 208) 2 = .ok (.iload_n 1, 1) := by decide +kernel
theorem xd208_3 : decode (mj_b 208) 3 = .ok (.invokevirtual 126, 3) := by decide +kernel
theorem xd208_6 : decode (mj_b 208) 6 = .ok (.ifCond .ne 7, 3) := by decide +kernel
theorem xd208_9 : decode (mj_b 208) 9 = .ok (.iconst 1, 1) := by decide +kernel
theorem xd208_10 : decode (mj_b 208) 10 = .ok (.goto 12, 3) := by decide +kernel
theorem xd208_13 : decode (mj_b 208) 13 = .ok (.iload_n 2, 1) := by decide +kernel
theorem xd208_14 : decode (mj_b 208) 14 = .ok (.ifCond .ge 7, 3) := by decide +kernel
theorem xd208_17 : decode (mj_b 208) 17 = .ok (.iconst 2, 1) := by decide +kernel
theorem xd208_18 : decode (mj_b 208) 18 = .ok (.goto 4, 3) := by decide +kernel
theorem xd208_21 : decode (mj_b 208) 21 = .ok (.iconst 0, 1) := by decide +kernel
theorem xd208_22 : decode (mj_b 208) 22 = .ok (.invokevirtual 114, 3) := by decide +kernel
theorem xd208_25 : decode (mj_b 208) 25 = .ok (.ifCond .ne 5, 3) := by decide +kernel
theorem xd208_28 : decode (mj_b 208) 28 = .ok (.iconst 0, 1) := by decide +kernel
theorem xd208_29 : decode (mj_b 208) 29 = .ok (.ireturn, 1) := by decide +kernel
theorem xd208_30 : decode (mj_b 208) 30 = .ok (.aload_n 0, 1) := by decide +kernel
theorem xd208_31 : decode (mj_b 208) 31 = .ok (.iload_n 1, 1) := by decide +kernel
theorem xd208_32 : decode (mj_b 208) 32 = .ok (.invokevirtual 207, 3) := by decide +kernel
theorem xd208_35 : decode (mj_b 208) 35 = .ok (.iload_n 2, 1) := by decide +kernel
theorem xd208_36 : decode (mj_b 208) 36 = .ok (.aload_n 0, 1) := by decide +kernel
theorem xd208_37 : decode (mj_b 208) 37 = .ok (.getfield 191, 3) := by decide +kernel
theorem xd208_40 : decode (mj_b 208) 40 = .ok (.if_icmp .ge 12, 3) := by decide +kernel
theorem xd208_43 : decode (mj_b 208) 43 = .ok (.aload_n 0, 1) := by decide +kernel
theorem xd208_44 : decode (mj_b 208) 44 = .ok (.getfield 25, 3) := by decide +kernel
theorem xd208_47 : decode (mj_b 208) 47 = .ok (.iload_n 2, 1) := by decide +kernel
theorem xd208_48 : decode (mj_b 208) 48 = .ok (.iaload, 1) := by decide +kernel
theorem xd208_49 : decode (mj_b 208) 49 = .ok (.goto 4, 3) := by decide +kernel
theorem xd208_52 : decode (mj_b 208) 52 = .ok (.iconst (-1), 1) := by decide +kernel
theorem xd208_53 : decode (mj_b 208) 53 = .ok (.ireturn, 1) := by decide +kernel
theorem x208_0 {x1 : Int32} {x2 : Int32} : wp Ln xs 208 0 [.ref 72, .int x1, .int x2] [] (u, ml_h m lm) Φ = wp Ln xs 179 0 [.ref 72, .int x1] [] (u, ml_h m lm) (mk Ln xs 208 3 [.ref 72, .int x1, .int x2] [.ref 72] Φ) := (wp_same xd208_0 (Or.inr rfl) rfl).trans ((wp_same xd208_1 (Or.inr rfl) rfl).trans ((wp_same xd208_2 (Or.inr rfl) rfl).trans (wm_cv (As := [.int x1]) (rest := [.ref 72]) xd208_3 rfl rfl (show ml_L[72]? = _ from rfl) (Nat.le_of_ble_eq_true rfl) (Nat.le_of_ble_eq_true rfl) (Nat.le_of_ble_eq_true rfl) (Nat.le_of_ble_eq_true rfl))))
theorem x208_6 {x1 : Int32} {x2 : Int32} {xs0 : Int32} : wp Ln xs 208 6 [.ref 72, .int x1, .int x2] [.int xs0, .ref 72] (u, ml_h m lm) Φ = if ¬ xs0 = (nI 0) then wp Ln xs 208 13 [.ref 72, .int x1, .int x2] [.ref 72] (u, ml_h m lm) Φ else wp Ln xs 208 9 [.ref 72, .int x1, .int x2] [.ref 72] (u, ml_h m lm) Φ := wx_if xd208_6 rfl rfl (¬ xs0 = (nI 0)) mb_ne
theorem x208_9 {x1 : Int32} {x2 : Int32} : wp Ln xs 208 9 [.ref 72, .int x1, .int x2] [.ref 72] (u, ml_h m lm) Φ = wp Ln xs 208 22 [.ref 72, .int x1, .int x2] [.int (nI 1), .ref 72] (u, ml_h m lm) Φ := (wp_same (S' := [.int (nI 1), .ref 72]) xd208_9 (Or.inr rfl) rfl).trans (wx_goto xd208_10 rfl)
theorem x208_13 {x1 : Int32} {x2 : Int32} : wp Ln xs 208 13 [.ref 72, .int x1, .int x2] [.ref 72] (u, ml_h m lm) Φ = if (nI 0) ≤ x2 then wp Ln xs 208 21 [.ref 72, .int x1, .int x2] [.ref 72] (u, ml_h m lm) Φ else wp Ln xs 208 17 [.ref 72, .int x1, .int x2] [.ref 72] (u, ml_h m lm) Φ := (wp_same xd208_13 (Or.inr rfl) rfl).trans (wx_if xd208_14 rfl rfl ((nI 0) ≤ x2) mb_ge)
theorem x208_17 {x1 : Int32} {x2 : Int32} : wp Ln xs 208 17 [.ref 72, .int x1, .int x2] [.ref 72] (u, ml_h m lm) Φ = wp Ln xs 208 22 [.ref 72, .int x1, .int x2] [.int (nI 2), .ref 72] (u, ml_h m lm) Φ := (wp_same (S' := [.int (nI 2), .ref 72]) xd208_17 (Or.inr rfl) rfl).trans (wx_goto xd208_18 rfl)
theorem x208_21 {x1 : Int32} {x2 : Int32} : wp Ln xs 208 21 [.ref 72, .int x1, .int x2] [.ref 72] (u, ml_h m lm) Φ = wp Ln xs 208 22 [.ref 72, .int x1, .int x2] [.int (nI 0), .ref 72] (u, ml_h m lm) Φ := wp_same (S' := [.int (nI 0), .ref 72]) xd208_21 (Or.inr rfl) rfl
theorem x208_22 {x1 : Int32} {x2 : Int32} {xs0 : Int32} : wp Ln xs 208 22 [.ref 72, .int x1, .int x2] [.int xs0, .ref 72] (u, ml_h m lm) Φ = wp Ln xs 154 0 [.ref 72, .int xs0] [] (u, ml_h m lm) (mk Ln xs 208 22 [.ref 72, .int x1, .int x2] [] Φ) := wm_cv (As := [.int xs0]) (rest := []) xd208_22 rfl rfl (show ml_L[72]? = _ from rfl) (Nat.le_of_ble_eq_true rfl) (Nat.le_of_ble_eq_true rfl) (Nat.le_of_ble_eq_true rfl) (Nat.le_of_ble_eq_true rfl)
theorem x208_25 {x1 : Int32} {x2 : Int32} {xs0 : Int32} : wp Ln xs 208 25 [.ref 72, .int x1, .int x2] [.int xs0] (u, ml_h m lm) Φ = if ¬ xs0 = (nI 0) then wp Ln xs 208 30 [.ref 72, .int x1, .int x2] [] (u, ml_h m lm) Φ else wp Ln xs 208 28 [.ref 72, .int x1, .int x2] [] (u, ml_h m lm) Φ := wx_if xd208_25 rfl rfl (¬ xs0 = (nI 0)) mb_ne
theorem x208_28 {x1 : Int32} {x2 : Int32} : wp Ln xs 208 28 [.ref 72, .int x1, .int x2] [] (u, ml_h m lm) Φ = Φ (.inl (some (.int (nI 0)))) (u, ml_h m lm) := (wp_same (S' := [.int (nI 0)]) xd208_28 (Or.inr rfl) rfl).trans (wp_fin (v := some (.int (nI 0))) xd208_29 (Or.inr rfl) rfl (mj_fin_i rfl))
theorem x208_30 {x1 : Int32} {x2 : Int32} : wp Ln xs 208 30 [.ref 72, .int x1, .int x2] [] (u, ml_h m lm) Φ = wp Ln xs 209 0 [.ref 72, .int x1, mj_hole, mj_hole, mj_hole, mj_hole, mj_hole, mj_hole] [] (u, ml_h m lm) (mk Ln xs 208 32 [.ref 72, .int x1, .int x2] [] Φ) := (wp_same xd208_30 (Or.inr rfl) rfl).trans ((wp_same xd208_31 (Or.inr rfl) rfl).trans (wm_cv (As := [.int x1]) (rest := []) xd208_32 rfl rfl (show ml_L[72]? = _ from rfl) (Nat.le_of_ble_eq_true rfl) (Nat.le_of_ble_eq_true rfl) (Nat.le_of_ble_eq_true rfl) (Nat.le_of_ble_eq_true rfl)))
theorem x208_35 {x1 : Int32} {x2 : Int32} : wp Ln xs 208 35 [.ref 72, .int x1, .int x2] [] (u, ml_h m lm) Φ = if (m 72 14) ≤ x2 then wp Ln xs 208 52 [.ref 72, .int x1, .int x2] [] (u, ml_h m lm) Φ else wp Ln xs 208 43 [.ref 72, .int x1, .int x2] [] (u, ml_h m lm) Φ := (wp_same xd208_35 (Or.inr rfl) rfl).trans ((wp_same xd208_36 (Or.inr rfl) rfl).trans ((wm_geti xd208_37 rfl (show ml_L[72]? = _ from rfl) rfl (Nat.le_of_ble_eq_true rfl)).trans (wx_icmp xd208_40 rfl rfl ((m 72 14) ≤ x2) mb_ge)))
theorem x208_43 {x1 : Int32} {x2 : Int32} : wp Ln xs 208 43 [.ref 72, .int x1, .int x2] [] (u, ml_h m lm) Φ = wp Ln xs 208 48 [.ref 72, .int x1, .int x2] [.int x2, .ref 78] (u, ml_h m lm) Φ := (wp_same xd208_43 (Or.inr rfl) rfl).trans ((wm_getr xd208_44 rfl (show ml_L[72]? = _ from rfl) rfl (Nat.le_of_ble_eq_true rfl)).trans (wp_same xd208_47 (Or.inr rfl) rfl))
theorem x208_48 {x1 : Int32} {x2 : Int32} {k : Nat} (hk : k < 240) : wp Ln xs 208 48 [.ref 72, .int x1, .int x2] [.int (nI k), .ref 78] (u, ml_h m lm) Φ = Φ (.inl (some (.int (m 78 k)))) (u, ml_h m lm) := (wm_iald (k := k) xd208_48 ml_ia_78 (by decide) hk).trans ((wx_goto xd208_49 rfl).trans (wp_fin (v := some (.int (m 78 k))) xd208_53 (Or.inr rfl) rfl (mj_fin_i rfl)))
theorem x208_52 {x1 : Int32} {x2 : Int32} : wp Ln xs 208 52 [.ref 72, .int x1, .int x2] [] (u, ml_h m lm) Φ = Φ (.inl (some (.int ((-1))))) (u, ml_h m lm) := (wp_same (S' := [.int ((-1))]) xd208_52 (Or.inr rfl) rfl).trans (wp_fin (v := some (.int ((-1)))) xd208_53 (Or.inr rfl) rfl (mj_fin_i rfl))
/- PickedFormsModel.layBlock -/
theorem xd209_0 : decode (mj_b 209) 0 = .ok (.aload_n 0, 1) := by decide +kernel
theorem xd209_1 : decode (mj_b 209) 1 = .ok (.iload_n 1, 1) := by decide +kernel
theorem xd209_2 : decode (mj_b 209) 2 = .ok (.invokevirtual 49, 3) := by decide +kernel
theorem xd209_5 : decode (mj_b 209) 5 = .ok (.istore_n 2, 1) := by decide +kernel
theorem xd209_6 : decode (mj_b 209) 6 = .ok (.aload_n 0, 1) := by decide +kernel
theorem xd209_7 : decode (mj_b 209) 7 = .ok (.getfield 7, 3) := by decide +kernel
theorem xd209_10 : decode (mj_b 209) 10 = .ok (.bipush 7, 2) := by decide +kernel
theorem xd209_12 : decode (mj_b 209) 12 = .ok (.iload_n 1, 1) := by decide +kernel
theorem xd209_13 : decode (mj_b 209) 13 = .ok (.iadd, 1) := by decide +kernel
theorem xd209_14 : decode (mj_b 209) 14 = .ok (.iaload, 1) := by decide +kernel
theorem xd209_15 : decode (mj_b 209) 15 = .ok (.istore_n 3, 1) := by decide +kernel
theorem xd209_16 : decode (mj_b 209) 16 = .ok (.aload_n 0, 1) := by decide +kernel
theorem xd209_17 : decode (mj_b 209) 17 = .ok (.getfield 7, 3) := by decide +kernel
theorem xd209_20 : decode (mj_b 209) 20 = .ok (.bipush 19, 2) := by decide +kernel
theorem xd209_22 : decode (mj_b 209) 22 = .ok (.iload_n 1, 1) := by decide +kernel
theorem xd209_23 : decode (mj_b 209) 23 = .ok (.iadd, 1) := by decide +kernel
theorem xd209_24 : decode (mj_b 209) 24 = .ok (.iaload, 1) := by decide +kernel
theorem xd209_25 : decode (mj_b 209) 25 = .ok (.istore 4, 2) := by decide +kernel
theorem xd209_27 : decode (mj_b 209) 27 = .ok (.aload_n 0, 1) := by decide +kernel
theorem xd209_28 : decode (mj_b 209) 28 = .ok (.iconst 0, 1) := by decide +kernel
theorem xd209_29 : decode (mj_b 209) 29 = .ok (.putfield 191, 3) := by decide +kernel
theorem xd209_32 : decode (mj_b 209) 32 = .ok (.iload 4, 2) := by decide +kernel
theorem xd209_34 : decode (mj_b 209) 34 = .ok (.iconst 2, 1) := by decide +kernel
theorem xd209_35 : decode (mj_b 209) 35 = .ok (.if_icmp .ne 10, 3) := by decide +kernel
theorem xd209_38 : decode (mj_b 209) 38 = .ok (.aload_n 0, 1) := by decide +kernel
theorem xd209_39 : decode (mj_b 209) 39 = .ok (.iload_n 2, 1) := by decide +kernel
theorem xd209_40 : decode (mj_b 209) 40 = .ok (.iload_n 3, 1) := by decide +kernel
theorem xd209_41 : decode (mj_b 209) 41 = .ok (.invokevirtual 201, 3) := by decide +kernel
theorem xd209_44 : decode (mj_b 209) 44 = .ok (.return_, 1) := by decide +kernel
theorem xd209_45 : decode (mj_b 209) 45 = .ok (.iload 4, 2) := by decide +kernel
theorem xd209_47 : decode (mj_b 209) 47 = .ok (.iconst 4, 1) := by decide +kernel
theorem xd209_48 : decode (mj_b 209) 48 = .ok (.if_icmp .ne 10, 3) := by decide +kernel
theorem xd209_51 : decode (mj_b 209) 51 = .ok (.aload_n 0, 1) := by decide +kernel
theorem xd209_52 : decode (mj_b 209) 52 = .ok (.iload_n 2, 1) := by decide +kernel
theorem xd209_53 : decode (mj_b 209) 53 = .ok (.iload_n 3, 1) := by decide +kernel
theorem xd209_54 : decode (mj_b 209) 54 = .ok (.invokevirtual 204, 3) := by decide +kernel
theorem xd209_57 : decode (mj_b 209) 57 = .ok (.return_, 1) := by decide +kernel
theorem xd209_58 : decode (mj_b 209) 58 = .ok (.iload 4, 2) := by decide +kernel
theorem xd209_60 : decode (mj_b 209) 60 = .ok (.iconst 1, 1) := by decide +kernel
theorem xd209_61 : decode (mj_b 209) 61 = .ok (.if_icmp .ne 12, 3) := by decide +kernel
theorem xd209_64 : decode (mj_b 209) 64 = .ok (.aload_n 0, 1) := by decide +kernel
theorem xd209_65 : decode (mj_b 209) 65 = .ok (.iload_n 2, 1) := by decide +kernel
theorem xd209_66 : decode (mj_b 209) 66 = .ok (.iload_n 3, 1) := by decide +kernel
theorem xd209_67 : decode (mj_b 209) 67 = .ok (.invokevirtual 64, 3) := by decide +kernel
theorem xd209_70 : decode (mj_b 209) 70 = .ok (.goto 4, 3) := by decide +kernel
theorem xd209_73 : decode (mj_b 209) 73 = .ok (.iconst 0, 1) := by decide +kernel
theorem xd209_74 : decode (mj_b 209) 74 = .ok (.istore 5, 2) := by decide +kernel
theorem xd209_76 : decode (mj_b 209) 76 = .ok (.iload 4, 2) := by decide +kernel
theorem xd209_78 : decode (mj_b 209) 78 = .ok (.iconst 1, 1) := by decide +kernel
theorem xd209_79 : decode (mj_b 209) 79 = .ok (.if_icmp .ne 18, 3) := by decide +kernel
theorem xd209_82 : decode (mj_b 209) 82 = .ok (.aload_n 0, 1) := by decide +kernel
theorem xd209_83 : decode (mj_b 209) 83 = .ok (.iload_n 2, 1) := by decide +kernel
theorem xd209_84 : decode (mj_b 209) 84 = .ok (.iload_n 3, 1) := by decide +kernel
theorem xd209_85 : decode (mj_b 209) 85 = .ok (.invokevirtual 60, 3) := by decide +kernel
theorem xd209_88 : decode (mj_b 209) 88 = .ok (.iload 5, 2) := by decide +kernel
theorem xd209_90 : decode (mj_b 209) 90 = .ok (.isub, 1) := by decide +kernel
theorem xd209_91 : decode (mj_b 209) 91 = .ok (.invokestatic 67, 3) := by decide +kernel
theorem xd209_94 : decode (mj_b 209) 94 = .ok (.goto 23, 3) := by decide +kernel
theorem xd209_97 : decode (mj_b 209) 97 = .ok (.iload 4, 2) := by decide +kernel
theorem xd209_99 : decode (mj_b 209) 99 = .ok (.iconst 3, 1) := by decide +kernel
theorem xd209_100 : decode (mj_b 209) 100 = .ok (.if_icmp .ne 15, 3) := by decide +kernel
theorem xd209_103 : decode (mj_b 209) 103 = .ok (.aload_n 0, 1) := by decide +kernel
theorem xd209_104 : decode (mj_b 209) 104 = .ok (.iload_n 2, 1) := by decide +kernel
theorem xd209_105 : decode (mj_b 209) 105 = .ok (.iload_n 3, 1) := by decide +kernel
theorem xd209_106 : decode (mj_b 209) 106 = .ok (.invokevirtual 73, 3) := by decide +kernel
theorem xd209_109 : decode (mj_b 209) 109 = .ok (.invokestatic 67, 3) := by decide +kernel
theorem xd209_112 : decode (mj_b 209) 112 = .ok (.goto 5, 3) := by decide +kernel
theorem xd209_115 : decode (mj_b 209) 115 = .ok (.bipush 10, 2) := by decide +kernel
theorem xd209_117 : decode (mj_b 209) 117 = .ok (.istore 6, 2) := by decide +kernel
theorem xd209_119 : decode (mj_b 209) 119 = .ok (.iload 4, 2) := by decide +kernel
theorem xd209_121 : decode (mj_b 209) 121 = .ok (.ifCond .eq 36, 3) := by decide +kernel
theorem xd209_124 : decode (mj_b 209) 124 = .ok (.aload_n 0, 1) := by decide +kernel
theorem xd209_125 : decode (mj_b 209) 125 = .ok (.iload 4, 2) := by decide +kernel
theorem xd209_127 : decode (mj_b 209) 127 = .ok (.iconst 1, 1) := by decide +kernel
theorem xd209_128 : decode (mj_b 209) 128 = .ok (.if_icmp .ne 8, 3) := by decide +kernel
theorem xd209_131 : decode (mj_b 209) 131 = .ok (.iload 5, 2) := by decide +kernel
theorem xd209_133 : decode (mj_b 209) 133 = .ok (.goto 12, 3) := by decide +kernel
theorem xd209_136 : decode (mj_b 209) 136 = .ok (.aload_n 0, 1) := by decide +kernel
theorem xd209_137 : decode (mj_b 209) 137 = .ok (.getfield 7, 3) := by decide +kernel
theorem xd209_140 : decode (mj_b 209) 140 = .ok (.bipush 43, 2) := by decide +kernel
theorem xd209_142 : decode (mj_b 209) 142 = .ok (.iload_n 2, 1) := by decide +kernel
theorem xd209_143 : decode (mj_b 209) 143 = .ok (.iadd, 1) := by decide +kernel
theorem xd209_144 : decode (mj_b 209) 144 = .ok (.iaload, 1) := by decide +kernel
theorem xd209_145 : decode (mj_b 209) 145 = .ok (.bipush 10, 2) := by decide +kernel
theorem xd209_147 : decode (mj_b 209) 147 = .ok (.invokevirtual 194, 3) := by decide +kernel
theorem xd209_150 : decode (mj_b 209) 150 = .ok (.aload_n 0, 1) := by decide +kernel
theorem xd209_151 : decode (mj_b 209) 151 = .ok (.iload 6, 2) := by decide +kernel
theorem xd209_153 : decode (mj_b 209) 153 = .ok (.iconst 4, 1) := by decide +kernel
theorem xd209_154 : decode (mj_b 209) 154 = .ok (.invokevirtual 194, 3) := by decide +kernel
theorem xd209_157 : decode (mj_b 209) 157 = .ok (.iload_n 2, 1) := by decide +kernel
theorem xd209_158 : decode (mj_b 209) 158 = .ok (.istore 7, 2) := by decide +kernel
theorem xd209_160 : decode (mj_b 209) 160 = .ok (.iload 7, 2) := by decide +kernel
theorem xd209_162 : decode (mj_b 209) 162 = .ok (.iload_n 2, 1) := by decide +kernel
theorem xd209_163 : decode (mj_b 209) 163 = .ok (.iload_n 3, 1) := by decide +kernel
theorem xd209_164 : decode (mj_b 209) 164 = .ok (.iadd, 1) := by decide +kernel
theorem xd209_165 : decode (mj_b 209) 165 = .ok (.if_icmp .ge 55, 3) := by decide +kernel
theorem xd209_168 : decode (mj_b 209) 168 = .ok (.iload 4, 2) := by decide +kernel
theorem xd209_170 : decode (mj_b 209) 170 = .ok (.iconst 3, 1) := by decide +kernel
theorem xd209_171 : decode (mj_b 209) 171 = .ok (.if_icmp .eq 25, 3) := by decide +kernel
theorem xd209_174 : decode (mj_b 209) 174 = .ok (.aload_n 0, 1) := by decide +kernel
theorem xd209_175 : decode (mj_b 209) 175 = .ok (.aload_n 0, 1) := by decide +kernel
theorem xd209_176 : decode (mj_b 209) 176 = .ok (.getfield 7, 3) := by decide +kernel
theorem xd209_179 : decode (mj_b 209) 179 = .ok (.bipush 43, 2) := by decide +kernel
theorem xd209_181 : decode (mj_b 209) 181 = .ok (.iload 7, 2) := by decide +kernel
theorem xd209_183 : decode (mj_b 209) 183 = .ok (.iadd, 1) := by decide +kernel
theorem xd209_184 : decode (mj_b 209) 184 = .ok (.iaload, 1) := by decide +kernel
theorem xd209_185 : decode (mj_b 209) 185 = .ok (.iload 5, 2) := by decide +kernel
theorem xd209_187 : decode (mj_b 209) 187 = .ok (.isub, 1) := by decide +kernel
theorem xd209_188 : decode (mj_b 209) 188 = .ok (.iload 6, 2) := by decide +kernel
theorem xd209_190 : decode (mj_b 209) 190 = .ok (.invokevirtual 194, 3) := by decide +kernel
theorem xd209_193 : decode (mj_b 209) 193 = .ok (.goto 21, 3) := by decide +kernel
theorem xd209_196 : decode (mj_b 209) 196 = .ok (.iload 7, 2) := by decide +kernel
theorem xd209_198 : decode (mj_b 209) 198 = .ok (.iload_n 2, 1) := by decide +kernel
theorem xd209_199 : decode (mj_b 209) 199 = .ok (.if_icmp .le 15, 3) := by decide +kernel
theorem xd209_202 : decode (mj_b 209) 202 = .ok (.aload_n 0, 1) := by decide +kernel
theorem xd209_203 : decode (mj_b 209) 203 = .ok (.aload_n 0, 1) := by decide +kernel
theorem xd209_204 : decode (mj_b 209) 204 = .ok (.iload 7, 2) := by decide +kernel
theorem xd209_206 : decode (mj_b 209) 206 = .ok (.invokevirtual 57, 3) := by decide +kernel
theorem xd209_209 : decode (mj_b 209) 209 = .ok (.iload 6, 2) := by decide +kernel
theorem xd209_211 : decode (mj_b 209) 211 = .ok (.invokevirtual 194, 3) := by decide +kernel
theorem xd209_214 : decode (mj_b 209) 214 = .ok (.iinc 7 1, 3) := by decide +kernel
theorem xd209_217 : decode (mj_b 209) 217 = .ok (.goto (-57), 3) := by decide +kernel
theorem xd209_220 : decode (mj_b 209) 220 = .ok (.return_, 1) := by decide +kernel
theorem x209_0 {x1 : Int32} : wp Ln xs 209 0 [.ref 72, .int x1, mj_hole, mj_hole, mj_hole, mj_hole, mj_hole, mj_hole] [] (u, ml_h m lm) Φ = wp Ln xs 159 0 [.ref 72, .int x1, mj_hole, mj_hole] [] (u, ml_h m lm) (mk Ln xs 209 2 [.ref 72, .int x1, mj_hole, mj_hole, mj_hole, mj_hole, mj_hole, mj_hole] [] Φ) := (wp_same xd209_0 (Or.inr rfl) rfl).trans ((wp_same xd209_1 (Or.inr rfl) rfl).trans (wm_cv (As := [.int x1]) (rest := []) xd209_2 rfl rfl (show ml_L[72]? = _ from rfl) (Nat.le_of_ble_eq_true rfl) (Nat.le_of_ble_eq_true rfl) (Nat.le_of_ble_eq_true rfl) (Nat.le_of_ble_eq_true rfl)))
theorem x209_5 {x1 : Int32} {xs0 : Int32} : wp Ln xs 209 5 [.ref 72, .int x1, mj_hole, mj_hole, mj_hole, mj_hole, mj_hole, mj_hole] [.int xs0] (u, ml_h m lm) Φ = wp Ln xs 209 14 [.ref 72, .int x1, .int xs0, mj_hole, mj_hole, mj_hole, mj_hole, mj_hole] [.int ((nI 7) + x1), .ref 73] (u, ml_h m lm) Φ := (wp_same (L' := [.ref 72, .int x1, .int xs0, mj_hole, mj_hole, mj_hole, mj_hole, mj_hole]) xd209_5 (Or.inr rfl) rfl).trans ((wp_same xd209_6 (Or.inr rfl) rfl).trans ((wm_getr xd209_7 rfl (show ml_L[72]? = _ from rfl) rfl (Nat.le_of_ble_eq_true rfl)).trans ((wp_same (S' := [.int (nI 7), .ref 73]) xd209_10 (Or.inr rfl) rfl).trans ((wp_same xd209_12 (Or.inr rfl) rfl).trans (wp_same xd209_13 (Or.inr rfl) rfl)))))
theorem x209_14 {x1 : Int32} {x2 : Int32} {k : Nat} (hk : k < 251) : wp Ln xs 209 14 [.ref 72, .int x1, .int x2, mj_hole, mj_hole, mj_hole, mj_hole, mj_hole] [.int (nI k), .ref 73] (u, ml_h m lm) Φ = wp Ln xs 209 24 [.ref 72, .int x1, .int x2, .int (m 73 k), mj_hole, mj_hole, mj_hole, mj_hole] [.int ((nI 19) + x1), .ref 73] (u, ml_h m lm) Φ := (wm_iald (k := k) xd209_14 ml_ia_73 (by decide) hk).trans ((wp_same (L' := [.ref 72, .int x1, .int x2, .int (m 73 k), mj_hole, mj_hole, mj_hole, mj_hole]) xd209_15 (Or.inr rfl) rfl).trans ((wp_same xd209_16 (Or.inr rfl) rfl).trans ((wm_getr xd209_17 rfl (show ml_L[72]? = _ from rfl) rfl (Nat.le_of_ble_eq_true rfl)).trans ((wp_same (S' := [.int (nI 19), .ref 73]) xd209_20 (Or.inr rfl) rfl).trans ((wp_same xd209_22 (Or.inr rfl) rfl).trans (wp_same xd209_23 (Or.inr rfl) rfl))))))
theorem x209_24 {x1 : Int32} {x2 : Int32} {x3 : Int32} {k : Nat} (hk : k < 251) : wp Ln xs 209 24 [.ref 72, .int x1, .int x2, .int x3, mj_hole, mj_hole, mj_hole, mj_hole] [.int (nI k), .ref 73] (u, ml_h m lm) Φ = if ¬ (m 73 k) = (nI 2) then wp Ln xs 209 45 [.ref 72, .int x1, .int x2, .int x3, .int (m 73 k), mj_hole, mj_hole, mj_hole] [] (u, ml_h (ml_s m 72 14 (nI 0)) lm) Φ else wp Ln xs 209 38 [.ref 72, .int x1, .int x2, .int x3, .int (m 73 k), mj_hole, mj_hole, mj_hole] [] (u, ml_h (ml_s m 72 14 (nI 0)) lm) Φ := (wm_iald (k := k) xd209_24 ml_ia_73 (by decide) hk).trans ((wp_same (L' := [.ref 72, .int x1, .int x2, .int x3, .int (m 73 k), mj_hole, mj_hole, mj_hole]) xd209_25 (Or.inr rfl) rfl).trans ((wp_same xd209_27 (Or.inr rfl) rfl).trans ((wp_same (S' := [.int (nI 0), .ref 72]) xd209_28 (Or.inr rfl) rfl).trans ((wm_puti xd209_29 rfl (show ml_L[72]? = _ from rfl) rfl (Nat.le_of_ble_eq_true rfl) rfl rfl rfl).trans ((wp_same xd209_32 (Or.inr rfl) rfl).trans ((wp_same (S' := [.int (nI 2), .int (m 73 k)]) xd209_34 (Or.inr rfl) rfl).trans (wx_icmp xd209_35 rfl rfl (¬ (m 73 k) = (nI 2)) mb_ne)))))))
theorem x209_38 {x1 : Int32} {x2 : Int32} {x3 : Int32} {x4 : Int32} : wp Ln xs 209 38 [.ref 72, .int x1, .int x2, .int x3, .int x4, mj_hole, mj_hole, mj_hole] [] (u, ml_h m lm) Φ = wp Ln xs 210 0 [.ref 72, .int x2, .int x3, mj_hole, mj_hole] [] (u, ml_h m lm) (mk Ln xs 209 41 [.ref 72, .int x1, .int x2, .int x3, .int x4, mj_hole, mj_hole, mj_hole] [] Φ) := (wp_same xd209_38 (Or.inr rfl) rfl).trans ((wp_same xd209_39 (Or.inr rfl) rfl).trans ((wp_same xd209_40 (Or.inr rfl) rfl).trans (wm_cv (As := [.int x2, .int x3]) (rest := []) xd209_41 rfl rfl (show ml_L[72]? = _ from rfl) (Nat.le_of_ble_eq_true rfl) (Nat.le_of_ble_eq_true rfl) (Nat.le_of_ble_eq_true rfl) (Nat.le_of_ble_eq_true rfl))))
theorem x209_44 {x1 : Int32} {x2 : Int32} {x3 : Int32} {x4 : Int32} : wp Ln xs 209 44 [.ref 72, .int x1, .int x2, .int x3, .int x4, mj_hole, mj_hole, mj_hole] [] (u, ml_h m lm) Φ = Φ (.inl none) (u, ml_h m lm) := wp_fin (v := none) xd209_44 (Or.inr rfl) rfl rfl
theorem x209_45 {x1 : Int32} {x2 : Int32} {x3 : Int32} {x4 : Int32} : wp Ln xs 209 45 [.ref 72, .int x1, .int x2, .int x3, .int x4, mj_hole, mj_hole, mj_hole] [] (u, ml_h m lm) Φ = if ¬ x4 = (nI 4) then wp Ln xs 209 58 [.ref 72, .int x1, .int x2, .int x3, .int x4, mj_hole, mj_hole, mj_hole] [] (u, ml_h m lm) Φ else wp Ln xs 209 51 [.ref 72, .int x1, .int x2, .int x3, .int x4, mj_hole, mj_hole, mj_hole] [] (u, ml_h m lm) Φ := (wp_same xd209_45 (Or.inr rfl) rfl).trans ((wp_same (S' := [.int (nI 4), .int x4]) xd209_47 (Or.inr rfl) rfl).trans (wx_icmp xd209_48 rfl rfl (¬ x4 = (nI 4)) mb_ne))
theorem x209_51 {x1 : Int32} {x2 : Int32} {x3 : Int32} {x4 : Int32} : wp Ln xs 209 51 [.ref 72, .int x1, .int x2, .int x3, .int x4, mj_hole, mj_hole, mj_hole] [] (u, ml_h m lm) Φ = wp Ln xs 212 0 [.ref 72, .int x2, .int x3, mj_hole, mj_hole, mj_hole] [] (u, ml_h m lm) (mk Ln xs 209 54 [.ref 72, .int x1, .int x2, .int x3, .int x4, mj_hole, mj_hole, mj_hole] [] Φ) := (wp_same xd209_51 (Or.inr rfl) rfl).trans ((wp_same xd209_52 (Or.inr rfl) rfl).trans ((wp_same xd209_53 (Or.inr rfl) rfl).trans (wm_cv (As := [.int x2, .int x3]) (rest := []) xd209_54 rfl rfl (show ml_L[72]? = _ from rfl) (Nat.le_of_ble_eq_true rfl) (Nat.le_of_ble_eq_true rfl) (Nat.le_of_ble_eq_true rfl) (Nat.le_of_ble_eq_true rfl))))
theorem x209_57 {x1 : Int32} {x2 : Int32} {x3 : Int32} {x4 : Int32} : wp Ln xs 209 57 [.ref 72, .int x1, .int x2, .int x3, .int x4, mj_hole, mj_hole, mj_hole] [] (u, ml_h m lm) Φ = Φ (.inl none) (u, ml_h m lm) := wp_fin (v := none) xd209_57 (Or.inr rfl) rfl rfl
theorem x209_58 {x1 : Int32} {x2 : Int32} {x3 : Int32} {x4 : Int32} : wp Ln xs 209 58 [.ref 72, .int x1, .int x2, .int x3, .int x4, mj_hole, mj_hole, mj_hole] [] (u, ml_h m lm) Φ = if ¬ x4 = (nI 1) then wp Ln xs 209 73 [.ref 72, .int x1, .int x2, .int x3, .int x4, mj_hole, mj_hole, mj_hole] [] (u, ml_h m lm) Φ else wp Ln xs 209 64 [.ref 72, .int x1, .int x2, .int x3, .int x4, mj_hole, mj_hole, mj_hole] [] (u, ml_h m lm) Φ := (wp_same xd209_58 (Or.inr rfl) rfl).trans ((wp_same (S' := [.int (nI 1), .int x4]) xd209_60 (Or.inr rfl) rfl).trans (wx_icmp xd209_61 rfl rfl (¬ x4 = (nI 1)) mb_ne))
theorem x209_64 {x1 : Int32} {x2 : Int32} {x3 : Int32} {x4 : Int32} : wp Ln xs 209 64 [.ref 72, .int x1, .int x2, .int x3, .int x4, mj_hole, mj_hole, mj_hole] [] (u, ml_h m lm) Φ = wp Ln xs 166 0 [.ref 72, .int x2, .int x3, mj_hole, mj_hole] [] (u, ml_h m lm) (mk Ln xs 209 67 [.ref 72, .int x1, .int x2, .int x3, .int x4, mj_hole, mj_hole, mj_hole] [] Φ) := (wp_same xd209_64 (Or.inr rfl) rfl).trans ((wp_same xd209_65 (Or.inr rfl) rfl).trans ((wp_same xd209_66 (Or.inr rfl) rfl).trans (wm_cv (As := [.int x2, .int x3]) (rest := []) xd209_67 rfl rfl (show ml_L[72]? = _ from rfl) (Nat.le_of_ble_eq_true rfl) (Nat.le_of_ble_eq_true rfl) (Nat.le_of_ble_eq_true rfl) (Nat.le_of_ble_eq_true rfl))))
theorem x209_70 {x1 : Int32} {x2 : Int32} {x3 : Int32} {x4 : Int32} {xs0 : Int32} : wp Ln xs 209 70 [.ref 72, .int x1, .int x2, .int x3, .int x4, mj_hole, mj_hole, mj_hole] [.int xs0] (u, ml_h m lm) Φ = wp Ln xs 209 74 [.ref 72, .int x1, .int x2, .int x3, .int x4, mj_hole, mj_hole, mj_hole] [.int xs0] (u, ml_h m lm) Φ := wx_goto xd209_70 rfl
theorem x209_73 {x1 : Int32} {x2 : Int32} {x3 : Int32} {x4 : Int32} : wp Ln xs 209 73 [.ref 72, .int x1, .int x2, .int x3, .int x4, mj_hole, mj_hole, mj_hole] [] (u, ml_h m lm) Φ = wp Ln xs 209 74 [.ref 72, .int x1, .int x2, .int x3, .int x4, mj_hole, mj_hole, mj_hole] [.int (nI 0)] (u, ml_h m lm) Φ := wp_same (S' := [.int (nI 0)]) xd209_73 (Or.inr rfl) rfl
theorem x209_74 {x1 : Int32} {x2 : Int32} {x3 : Int32} {x4 : Int32} {xs0 : Int32} : wp Ln xs 209 74 [.ref 72, .int x1, .int x2, .int x3, .int x4, mj_hole, mj_hole, mj_hole] [.int xs0] (u, ml_h m lm) Φ = if ¬ x4 = (nI 1) then wp Ln xs 209 97 [.ref 72, .int x1, .int x2, .int x3, .int x4, .int xs0, mj_hole, mj_hole] [] (u, ml_h m lm) Φ else wp Ln xs 209 82 [.ref 72, .int x1, .int x2, .int x3, .int x4, .int xs0, mj_hole, mj_hole] [] (u, ml_h m lm) Φ := (wp_same (L' := [.ref 72, .int x1, .int x2, .int x3, .int x4, .int xs0, mj_hole, mj_hole]) xd209_74 (Or.inr rfl) rfl).trans ((wp_same xd209_76 (Or.inr rfl) rfl).trans ((wp_same (S' := [.int (nI 1), .int x4]) xd209_78 (Or.inr rfl) rfl).trans (wx_icmp xd209_79 rfl rfl (¬ x4 = (nI 1)) mb_ne)))
theorem x209_82 {x1 : Int32} {x2 : Int32} {x3 : Int32} {x4 : Int32} {x5 : Int32} : wp Ln xs 209 82 [.ref 72, .int x1, .int x2, .int x3, .int x4, .int x5, mj_hole, mj_hole] [] (u, ml_h m lm) Φ = wp Ln xs 165 0 [.ref 72, .int x2, .int x3, mj_hole, mj_hole] [] (u, ml_h m lm) (mk Ln xs 209 85 [.ref 72, .int x1, .int x2, .int x3, .int x4, .int x5, mj_hole, mj_hole] [] Φ) := (wp_same xd209_82 (Or.inr rfl) rfl).trans ((wp_same xd209_83 (Or.inr rfl) rfl).trans ((wp_same xd209_84 (Or.inr rfl) rfl).trans (wm_cv (As := [.int x2, .int x3]) (rest := []) xd209_85 rfl rfl (show ml_L[72]? = _ from rfl) (Nat.le_of_ble_eq_true rfl) (Nat.le_of_ble_eq_true rfl) (Nat.le_of_ble_eq_true rfl) (Nat.le_of_ble_eq_true rfl))))
theorem x209_88 {x1 : Int32} {x2 : Int32} {x3 : Int32} {x4 : Int32} {x5 : Int32} {xs0 : Int32} : wp Ln xs 209 88 [.ref 72, .int x1, .int x2, .int x3, .int x4, .int x5, mj_hole, mj_hole] [.int xs0] (u, ml_h m lm) Φ = wp Ln xs 167 0 [.int (xs0 - x5), mj_hole, mj_hole] [] (u, ml_h m lm) (mk Ln xs 209 91 [.ref 72, .int x1, .int x2, .int x3, .int x4, .int x5, mj_hole, mj_hole] [] Φ) := (wp_same xd209_88 (Or.inr rfl) rfl).trans ((wp_same xd209_90 (Or.inr rfl) rfl).trans (wm_cs (As := [.int (xs0 - x5)]) (rest := []) xd209_91 rfl rfl (Nat.le_of_ble_eq_true rfl) (Nat.le_of_ble_eq_true rfl) (Nat.le_of_ble_eq_true rfl) (Nat.le_of_ble_eq_true rfl)))
theorem x209_94 {x1 : Int32} {x2 : Int32} {x3 : Int32} {x4 : Int32} {x5 : Int32} {xs0 : Int32} : wp Ln xs 209 94 [.ref 72, .int x1, .int x2, .int x3, .int x4, .int x5, mj_hole, mj_hole] [.int xs0] (u, ml_h m lm) Φ = wp Ln xs 209 117 [.ref 72, .int x1, .int x2, .int x3, .int x4, .int x5, mj_hole, mj_hole] [.int xs0] (u, ml_h m lm) Φ := wx_goto xd209_94 rfl
theorem x209_97 {x1 : Int32} {x2 : Int32} {x3 : Int32} {x4 : Int32} {x5 : Int32} : wp Ln xs 209 97 [.ref 72, .int x1, .int x2, .int x3, .int x4, .int x5, mj_hole, mj_hole] [] (u, ml_h m lm) Φ = if ¬ x4 = (nI 3) then wp Ln xs 209 115 [.ref 72, .int x1, .int x2, .int x3, .int x4, .int x5, mj_hole, mj_hole] [] (u, ml_h m lm) Φ else wp Ln xs 209 103 [.ref 72, .int x1, .int x2, .int x3, .int x4, .int x5, mj_hole, mj_hole] [] (u, ml_h m lm) Φ := (wp_same xd209_97 (Or.inr rfl) rfl).trans ((wp_same (S' := [.int (nI 3), .int x4]) xd209_99 (Or.inr rfl) rfl).trans (wx_icmp xd209_100 rfl rfl (¬ x4 = (nI 3)) mb_ne))
theorem x209_103 {x1 : Int32} {x2 : Int32} {x3 : Int32} {x4 : Int32} {x5 : Int32} : wp Ln xs 209 103 [.ref 72, .int x1, .int x2, .int x3, .int x4, .int x5, mj_hole, mj_hole] [] (u, ml_h m lm) Φ = wp Ln xs 169 0 [.ref 72, .int x2, .int x3, mj_hole, mj_hole] [] (u, ml_h m lm) (mk Ln xs 209 106 [.ref 72, .int x1, .int x2, .int x3, .int x4, .int x5, mj_hole, mj_hole] [] Φ) := (wp_same xd209_103 (Or.inr rfl) rfl).trans ((wp_same xd209_104 (Or.inr rfl) rfl).trans ((wp_same xd209_105 (Or.inr rfl) rfl).trans (wm_cv (As := [.int x2, .int x3]) (rest := []) xd209_106 rfl rfl (show ml_L[72]? = _ from rfl) (Nat.le_of_ble_eq_true rfl) (Nat.le_of_ble_eq_true rfl) (Nat.le_of_ble_eq_true rfl) (Nat.le_of_ble_eq_true rfl))))
theorem x209_109 {x1 : Int32} {x2 : Int32} {x3 : Int32} {x4 : Int32} {x5 : Int32} {xs0 : Int32} : wp Ln xs 209 109 [.ref 72, .int x1, .int x2, .int x3, .int x4, .int x5, mj_hole, mj_hole] [.int xs0] (u, ml_h m lm) Φ = wp Ln xs 167 0 [.int xs0, mj_hole, mj_hole] [] (u, ml_h m lm) (mk Ln xs 209 109 [.ref 72, .int x1, .int x2, .int x3, .int x4, .int x5, mj_hole, mj_hole] [] Φ) := wm_cs (As := [.int xs0]) (rest := []) xd209_109 rfl rfl (Nat.le_of_ble_eq_true rfl) (Nat.le_of_ble_eq_true rfl) (Nat.le_of_ble_eq_true rfl) (Nat.le_of_ble_eq_true rfl)
theorem x209_112 {x1 : Int32} {x2 : Int32} {x3 : Int32} {x4 : Int32} {x5 : Int32} {xs0 : Int32} : wp Ln xs 209 112 [.ref 72, .int x1, .int x2, .int x3, .int x4, .int x5, mj_hole, mj_hole] [.int xs0] (u, ml_h m lm) Φ = wp Ln xs 209 117 [.ref 72, .int x1, .int x2, .int x3, .int x4, .int x5, mj_hole, mj_hole] [.int xs0] (u, ml_h m lm) Φ := wx_goto xd209_112 rfl
theorem x209_115 {x1 : Int32} {x2 : Int32} {x3 : Int32} {x4 : Int32} {x5 : Int32} : wp Ln xs 209 115 [.ref 72, .int x1, .int x2, .int x3, .int x4, .int x5, mj_hole, mj_hole] [] (u, ml_h m lm) Φ = wp Ln xs 209 117 [.ref 72, .int x1, .int x2, .int x3, .int x4, .int x5, mj_hole, mj_hole] [.int (nI 10)] (u, ml_h m lm) Φ := wp_same (S' := [.int (nI 10)]) xd209_115 (Or.inr rfl) rfl
theorem x209_117 {x1 : Int32} {x2 : Int32} {x3 : Int32} {x4 : Int32} {x5 : Int32} {xs0 : Int32} : wp Ln xs 209 117 [.ref 72, .int x1, .int x2, .int x3, .int x4, .int x5, mj_hole, mj_hole] [.int xs0] (u, ml_h m lm) Φ = if x4 = (nI 0) then wp Ln xs 209 157 [.ref 72, .int x1, .int x2, .int x3, .int x4, .int x5, .int xs0, mj_hole] [] (u, ml_h m lm) Φ else wp Ln xs 209 124 [.ref 72, .int x1, .int x2, .int x3, .int x4, .int x5, .int xs0, mj_hole] [] (u, ml_h m lm) Φ := (wp_same (L' := [.ref 72, .int x1, .int x2, .int x3, .int x4, .int x5, .int xs0, mj_hole]) xd209_117 (Or.inr rfl) rfl).trans ((wp_same xd209_119 (Or.inr rfl) rfl).trans (wx_if xd209_121 rfl rfl (x4 = (nI 0)) mb_eq))
theorem x209_124 {x1 : Int32} {x2 : Int32} {x3 : Int32} {x4 : Int32} {x5 : Int32} {x6 : Int32} : wp Ln xs 209 124 [.ref 72, .int x1, .int x2, .int x3, .int x4, .int x5, .int x6, mj_hole] [] (u, ml_h m lm) Φ = if ¬ x4 = (nI 1) then wp Ln xs 209 136 [.ref 72, .int x1, .int x2, .int x3, .int x4, .int x5, .int x6, mj_hole] [.ref 72] (u, ml_h m lm) Φ else wp Ln xs 209 131 [.ref 72, .int x1, .int x2, .int x3, .int x4, .int x5, .int x6, mj_hole] [.ref 72] (u, ml_h m lm) Φ := (wp_same xd209_124 (Or.inr rfl) rfl).trans ((wp_same xd209_125 (Or.inr rfl) rfl).trans ((wp_same (S' := [.int (nI 1), .int x4, .ref 72]) xd209_127 (Or.inr rfl) rfl).trans (wx_icmp xd209_128 rfl rfl (¬ x4 = (nI 1)) mb_ne)))
theorem x209_131 {x1 : Int32} {x2 : Int32} {x3 : Int32} {x4 : Int32} {x5 : Int32} {x6 : Int32} : wp Ln xs 209 131 [.ref 72, .int x1, .int x2, .int x3, .int x4, .int x5, .int x6, mj_hole] [.ref 72] (u, ml_h m lm) Φ = wp Ln xs 209 145 [.ref 72, .int x1, .int x2, .int x3, .int x4, .int x5, .int x6, mj_hole] [.int x5, .ref 72] (u, ml_h m lm) Φ := (wp_same xd209_131 (Or.inr rfl) rfl).trans (wx_goto xd209_133 rfl)
theorem x209_136 {x1 : Int32} {x2 : Int32} {x3 : Int32} {x4 : Int32} {x5 : Int32} {x6 : Int32} : wp Ln xs 209 136 [.ref 72, .int x1, .int x2, .int x3, .int x4, .int x5, .int x6, mj_hole] [.ref 72] (u, ml_h m lm) Φ = wp Ln xs 209 144 [.ref 72, .int x1, .int x2, .int x3, .int x4, .int x5, .int x6, mj_hole] [.int ((nI 43) + x2), .ref 73, .ref 72] (u, ml_h m lm) Φ := (wp_same xd209_136 (Or.inr rfl) rfl).trans ((wm_getr xd209_137 rfl (show ml_L[72]? = _ from rfl) rfl (Nat.le_of_ble_eq_true rfl)).trans ((wp_same (S' := [.int (nI 43), .ref 73, .ref 72]) xd209_140 (Or.inr rfl) rfl).trans ((wp_same xd209_142 (Or.inr rfl) rfl).trans (wp_same xd209_143 (Or.inr rfl) rfl))))
theorem x209_144 {x1 : Int32} {x2 : Int32} {x3 : Int32} {x4 : Int32} {x5 : Int32} {x6 : Int32} {k : Nat} (hk : k < 251) : wp Ln xs 209 144 [.ref 72, .int x1, .int x2, .int x3, .int x4, .int x5, .int x6, mj_hole] [.int (nI k), .ref 73, .ref 72] (u, ml_h m lm) Φ = wp Ln xs 209 145 [.ref 72, .int x1, .int x2, .int x3, .int x4, .int x5, .int x6, mj_hole] [.int (m 73 k), .ref 72] (u, ml_h m lm) Φ := wm_iald (k := k) xd209_144 ml_ia_73 (by decide) hk
theorem x209_145 {x1 : Int32} {x2 : Int32} {x3 : Int32} {x4 : Int32} {x5 : Int32} {x6 : Int32} {xs0 : Int32} : wp Ln xs 209 145 [.ref 72, .int x1, .int x2, .int x3, .int x4, .int x5, .int x6, mj_hole] [.int xs0, .ref 72] (u, ml_h m lm) Φ = wp Ln xs 211 0 [.ref 72, .int xs0, .int (nI 10), mj_hole] [] (u, ml_h m lm) (mk Ln xs 209 147 [.ref 72, .int x1, .int x2, .int x3, .int x4, .int x5, .int x6, mj_hole] [] Φ) := (wp_same (S' := [.int (nI 10), .int xs0, .ref 72]) xd209_145 (Or.inr rfl) rfl).trans (wm_cv (As := [.int xs0, .int (nI 10)]) (rest := []) xd209_147 rfl rfl (show ml_L[72]? = _ from rfl) (Nat.le_of_ble_eq_true rfl) (Nat.le_of_ble_eq_true rfl) (Nat.le_of_ble_eq_true rfl) (Nat.le_of_ble_eq_true rfl))
theorem x209_150 {x1 : Int32} {x2 : Int32} {x3 : Int32} {x4 : Int32} {x5 : Int32} {x6 : Int32} : wp Ln xs 209 150 [.ref 72, .int x1, .int x2, .int x3, .int x4, .int x5, .int x6, mj_hole] [] (u, ml_h m lm) Φ = wp Ln xs 211 0 [.ref 72, .int x6, .int (nI 4), mj_hole] [] (u, ml_h m lm) (mk Ln xs 209 154 [.ref 72, .int x1, .int x2, .int x3, .int x4, .int x5, .int x6, mj_hole] [] Φ) := (wp_same xd209_150 (Or.inr rfl) rfl).trans ((wp_same xd209_151 (Or.inr rfl) rfl).trans ((wp_same (S' := [.int (nI 4), .int x6, .ref 72]) xd209_153 (Or.inr rfl) rfl).trans (wm_cv (As := [.int x6, .int (nI 4)]) (rest := []) xd209_154 rfl rfl (show ml_L[72]? = _ from rfl) (Nat.le_of_ble_eq_true rfl) (Nat.le_of_ble_eq_true rfl) (Nat.le_of_ble_eq_true rfl) (Nat.le_of_ble_eq_true rfl))))
theorem x209_157 {x1 : Int32} {x2 : Int32} {x3 : Int32} {x4 : Int32} {x5 : Int32} {x6 : Int32} : wp Ln xs 209 157 [.ref 72, .int x1, .int x2, .int x3, .int x4, .int x5, .int x6, mj_hole] [] (u, ml_h m lm) Φ = wp Ln xs 209 160 [.ref 72, .int x1, .int x2, .int x3, .int x4, .int x5, .int x6, .int x2] [] (u, ml_h m lm) Φ := (wp_same xd209_157 (Or.inr rfl) rfl).trans (wp_same (L' := [.ref 72, .int x1, .int x2, .int x3, .int x4, .int x5, .int x6, .int x2]) xd209_158 (Or.inr rfl) rfl)
theorem x209_160 {x1 : Int32} {x2 : Int32} {x3 : Int32} {x4 : Int32} {x5 : Int32} {x6 : Int32} {x7 : Int32} : wp Ln xs 209 160 [.ref 72, .int x1, .int x2, .int x3, .int x4, .int x5, .int x6, .int x7] [] (u, ml_h m lm) Φ = if (x2 + x3) ≤ x7 then wp Ln xs 209 220 [.ref 72, .int x1, .int x2, .int x3, .int x4, .int x5, .int x6, .int x7] [] (u, ml_h m lm) Φ else wp Ln xs 209 168 [.ref 72, .int x1, .int x2, .int x3, .int x4, .int x5, .int x6, .int x7] [] (u, ml_h m lm) Φ := (wp_same xd209_160 (Or.inr rfl) rfl).trans ((wp_same xd209_162 (Or.inr rfl) rfl).trans ((wp_same xd209_163 (Or.inr rfl) rfl).trans ((wp_same xd209_164 (Or.inr rfl) rfl).trans (wx_icmp xd209_165 rfl rfl ((x2 + x3) ≤ x7) mb_ge))))
theorem x209_168 {x1 : Int32} {x2 : Int32} {x3 : Int32} {x4 : Int32} {x5 : Int32} {x6 : Int32} {x7 : Int32} : wp Ln xs 209 168 [.ref 72, .int x1, .int x2, .int x3, .int x4, .int x5, .int x6, .int x7] [] (u, ml_h m lm) Φ = if x4 = (nI 3) then wp Ln xs 209 196 [.ref 72, .int x1, .int x2, .int x3, .int x4, .int x5, .int x6, .int x7] [] (u, ml_h m lm) Φ else wp Ln xs 209 174 [.ref 72, .int x1, .int x2, .int x3, .int x4, .int x5, .int x6, .int x7] [] (u, ml_h m lm) Φ := (wp_same xd209_168 (Or.inr rfl) rfl).trans ((wp_same (S' := [.int (nI 3), .int x4]) xd209_170 (Or.inr rfl) rfl).trans (wx_icmp xd209_171 rfl rfl (x4 = (nI 3)) mb_eq))
theorem x209_174 {x1 : Int32} {x2 : Int32} {x3 : Int32} {x4 : Int32} {x5 : Int32} {x6 : Int32} {x7 : Int32} : wp Ln xs 209 174 [.ref 72, .int x1, .int x2, .int x3, .int x4, .int x5, .int x6, .int x7] [] (u, ml_h m lm) Φ = wp Ln xs 209 184 [.ref 72, .int x1, .int x2, .int x3, .int x4, .int x5, .int x6, .int x7] [.int ((nI 43) + x7), .ref 73, .ref 72] (u, ml_h m lm) Φ := (wp_same xd209_174 (Or.inr rfl) rfl).trans ((wp_same xd209_175 (Or.inr rfl) rfl).trans ((wm_getr xd209_176 rfl (show ml_L[72]? = _ from rfl) rfl (Nat.le_of_ble_eq_true rfl)).trans ((wp_same (S' := [.int (nI 43), .ref 73, .ref 72]) xd209_179 (Or.inr rfl) rfl).trans ((wp_same xd209_181 (Or.inr rfl) rfl).trans (wp_same xd209_183 (Or.inr rfl) rfl)))))
theorem x209_184 {x1 : Int32} {x2 : Int32} {x3 : Int32} {x4 : Int32} {x5 : Int32} {x6 : Int32} {x7 : Int32} {k : Nat} (hk : k < 251) : wp Ln xs 209 184 [.ref 72, .int x1, .int x2, .int x3, .int x4, .int x5, .int x6, .int x7] [.int (nI k), .ref 73, .ref 72] (u, ml_h m lm) Φ = wp Ln xs 211 0 [.ref 72, .int ((m 73 k) - x5), .int x6, mj_hole] [] (u, ml_h m lm) (mk Ln xs 209 190 [.ref 72, .int x1, .int x2, .int x3, .int x4, .int x5, .int x6, .int x7] [] Φ) := (wm_iald (k := k) xd209_184 ml_ia_73 (by decide) hk).trans ((wp_same xd209_185 (Or.inr rfl) rfl).trans ((wp_same xd209_187 (Or.inr rfl) rfl).trans ((wp_same xd209_188 (Or.inr rfl) rfl).trans (wm_cv (As := [.int ((m 73 k) - x5), .int x6]) (rest := []) xd209_190 rfl rfl (show ml_L[72]? = _ from rfl) (Nat.le_of_ble_eq_true rfl) (Nat.le_of_ble_eq_true rfl) (Nat.le_of_ble_eq_true rfl) (Nat.le_of_ble_eq_true rfl)))))
theorem x209_193 {x1 : Int32} {x2 : Int32} {x3 : Int32} {x4 : Int32} {x5 : Int32} {x6 : Int32} {x7 : Int32} : wp Ln xs 209 193 [.ref 72, .int x1, .int x2, .int x3, .int x4, .int x5, .int x6, .int x7] [] (u, ml_h m lm) Φ = wp Ln xs 209 214 [.ref 72, .int x1, .int x2, .int x3, .int x4, .int x5, .int x6, .int x7] [] (u, ml_h m lm) Φ := wx_goto xd209_193 rfl
theorem x209_196 {x1 : Int32} {x2 : Int32} {x3 : Int32} {x4 : Int32} {x5 : Int32} {x6 : Int32} {x7 : Int32} : wp Ln xs 209 196 [.ref 72, .int x1, .int x2, .int x3, .int x4, .int x5, .int x6, .int x7] [] (u, ml_h m lm) Φ = if x7 ≤ x2 then wp Ln xs 209 214 [.ref 72, .int x1, .int x2, .int x3, .int x4, .int x5, .int x6, .int x7] [] (u, ml_h m lm) Φ else wp Ln xs 209 202 [.ref 72, .int x1, .int x2, .int x3, .int x4, .int x5, .int x6, .int x7] [] (u, ml_h m lm) Φ := (wp_same xd209_196 (Or.inr rfl) rfl).trans ((wp_same xd209_198 (Or.inr rfl) rfl).trans (wx_icmp xd209_199 rfl rfl (x7 ≤ x2) mb_le))
theorem x209_202 {x1 : Int32} {x2 : Int32} {x3 : Int32} {x4 : Int32} {x5 : Int32} {x6 : Int32} {x7 : Int32} : wp Ln xs 209 202 [.ref 72, .int x1, .int x2, .int x3, .int x4, .int x5, .int x6, .int x7] [] (u, ml_h m lm) Φ = wp Ln xs 170 0 [.ref 72, .int x7, mj_hole] [] (u, ml_h m lm) (mk Ln xs 209 206 [.ref 72, .int x1, .int x2, .int x3, .int x4, .int x5, .int x6, .int x7] [.ref 72] Φ) := (wp_same xd209_202 (Or.inr rfl) rfl).trans ((wp_same xd209_203 (Or.inr rfl) rfl).trans ((wp_same xd209_204 (Or.inr rfl) rfl).trans (wm_cv (As := [.int x7]) (rest := [.ref 72]) xd209_206 rfl rfl (show ml_L[72]? = _ from rfl) (Nat.le_of_ble_eq_true rfl) (Nat.le_of_ble_eq_true rfl) (Nat.le_of_ble_eq_true rfl) (Nat.le_of_ble_eq_true rfl))))
theorem x209_209 {x1 : Int32} {x2 : Int32} {x3 : Int32} {x4 : Int32} {x5 : Int32} {x6 : Int32} {x7 : Int32} {xs0 : Int32} : wp Ln xs 209 209 [.ref 72, .int x1, .int x2, .int x3, .int x4, .int x5, .int x6, .int x7] [.int xs0, .ref 72] (u, ml_h m lm) Φ = wp Ln xs 211 0 [.ref 72, .int xs0, .int x6, mj_hole] [] (u, ml_h m lm) (mk Ln xs 209 211 [.ref 72, .int x1, .int x2, .int x3, .int x4, .int x5, .int x6, .int x7] [] Φ) := (wp_same xd209_209 (Or.inr rfl) rfl).trans (wm_cv (As := [.int xs0, .int x6]) (rest := []) xd209_211 rfl rfl (show ml_L[72]? = _ from rfl) (Nat.le_of_ble_eq_true rfl) (Nat.le_of_ble_eq_true rfl) (Nat.le_of_ble_eq_true rfl) (Nat.le_of_ble_eq_true rfl))
theorem x209_214 {x1 : Int32} {x2 : Int32} {x3 : Int32} {x4 : Int32} {x5 : Int32} {x6 : Int32} {x7 : Int32} : wp Ln xs 209 214 [.ref 72, .int x1, .int x2, .int x3, .int x4, .int x5, .int x6, .int x7] [] (u, ml_h m lm) Φ = wp Ln xs 209 160 [.ref 72, .int x1, .int x2, .int x3, .int x4, .int x5, .int x6, .int (x7 + nI 1)] [] (u, ml_h m lm) Φ := (wp_same (L' := [.ref 72, .int x1, .int x2, .int x3, .int x4, .int x5, .int x6, .int (x7 + nI 1)]) xd209_214 (Or.inr rfl) rfl).trans (wx_goto xd209_217 rfl)
theorem x209_220 {x1 : Int32} {x2 : Int32} {x3 : Int32} {x4 : Int32} {x5 : Int32} {x6 : Int32} {x7 : Int32} : wp Ln xs 209 220 [.ref 72, .int x1, .int x2, .int x3, .int x4, .int x5, .int x6, .int x7] [] (u, ml_h m lm) Φ = Φ (.inl none) (u, ml_h m lm) := wp_fin (v := none) xd209_220 (Or.inr rfl) rfl rfl
/- PickedFormsModel.layRuns -/
theorem xd210_0 : decode (mj_b 210) 0 = .ok (.iload_n 1, 1) := by decide +kernel
theorem xd210_1 : decode (mj_b 210) 1 = .ok (.istore_n 3, 1) := by decide +kernel
theorem xd210_2 : decode (mj_b 210) 2 = .ok (.iload_n 3, 1) := by decide +kernel
theorem xd210_3 : decode (mj_b 210) 3 = .ok (.iload_n 1, 1) := by decide +kernel
theorem xd210_4 : decode (mj_b 210) 4 = .ok (.iload_n 2, 1) := by decide +kernel
theorem xd210_5 : decode (mj_b 210) 5 = .ok (.iadd, 1) := by decide +kernel
theorem xd210_6 : decode (mj_b 210) 6 = .ok (.if_icmp .ge 78, 3) := by decide +kernel
theorem xd210_9 : decode (mj_b 210) 9 = .ok (.iconst 1, 1) := by decide +kernel
theorem xd210_10 : decode (mj_b 210) 10 = .ok (.istore 4, 2) := by decide +kernel
theorem xd210_12 : decode (mj_b 210) 12 = .ok (.iload_n 3, 1) := by decide +kernel
theorem xd210_13 : decode (mj_b 210) 13 = .ok (.iload 4, 2) := by decide +kernel
theorem xd210_15 : decode (mj_b 210) 15 = .ok (.iadd, 1) := by decide +kernel
theorem xd210_16 : decode (mj_b 210) 16 = .ok (.iload_n 1, 1) := by decide +kernel
theorem xd210_17 : decode (mj_b 210) 17 = .ok (.iload_n 2, 1) := by decide +kernel
theorem xd210_18 : decode (mj_b 210) 18 = .ok (.iadd, 1) := by decide +kernel
theorem xd210_19 : decode (mj_b 210) 19 = .ok (.if_icmp .ge 33, 3) := by decide +kernel
theorem xd210_22 : decode (mj_b 210) 22 = .ok (.aload_n 0, 1) := by decide +kernel
theorem xd210_23 : decode (mj_b 210) 23 = .ok (.getfield 7, 3) := by decide +kernel
theorem xd210_26 : decode (mj_b 210) 26 = .ok (.bipush 43, 2) := by decide +kernel
theorem xd210_28 : decode (mj_b 210) 28 = .ok (.iload_n 3, 1) := by decide +kernel
theorem xd210_29 : decode (mj_b 210) 29 = .ok (.iadd, 1) := by decide +kernel
theorem xd210_30 : decode (mj_b 210) 30 = .ok (.iload 4, 2) := by decide +kernel
theorem xd210_32 : decode (mj_b 210) 32 = .ok (.iadd, 1) := by decide +kernel
theorem xd210_33 : decode (mj_b 210) 33 = .ok (.iaload, 1) := by decide +kernel
theorem xd210_34 : decode (mj_b 210) 34 = .ok (.aload_n 0, 1) := by decide +kernel
theorem xd210_35 : decode (mj_b 210) 35 = .ok (.getfield 7, 3) := by decide +kernel
theorem xd210_38 : decode (mj_b 210) 38 = .ok (.bipush 43, 2) := by decide +kernel
theorem xd210_40 : decode (mj_b 210) 40 = .ok (.iload_n 3, 1) := by decide +kernel
theorem xd210_41 : decode (mj_b 210) 41 = .ok (.iadd, 1) := by decide +kernel
theorem xd210_42 : decode (mj_b 210) 42 = .ok (.iaload, 1) := by decide +kernel
theorem xd210_43 : decode (mj_b 210) 43 = .ok (.if_icmp .ne 9, 3) := by decide +kernel
theorem xd210_46 : decode (mj_b 210) 46 = .ok (.iinc 4 1, 3) := by decide +kernel
theorem xd210_49 : decode (mj_b 210) 49 = .ok (.goto (-37), 3) := by decide +kernel
theorem xd210_52 : decode (mj_b 210) 52 = .ok (.aload_n 0, 1) := by decide +kernel
theorem xd210_53 : decode (mj_b 210) 53 = .ok (.aload_n 0, 1) := by decide +kernel
theorem xd210_54 : decode (mj_b 210) 54 = .ok (.getfield 7, 3) := by decide +kernel
theorem xd210_57 : decode (mj_b 210) 57 = .ok (.bipush 43, 2) := by decide +kernel
theorem xd210_59 : decode (mj_b 210) 59 = .ok (.iload_n 3, 1) := by decide +kernel
theorem xd210_60 : decode (mj_b 210) 60 = .ok (.iadd, 1) := by decide +kernel
theorem xd210_61 : decode (mj_b 210) 61 = .ok (.iaload, 1) := by decide +kernel
theorem xd210_62 : decode (mj_b 210) 62 = .ok (.bipush 10, 2) := by decide +kernel
theorem xd210_64 : decode (mj_b 210) 64 = .ok (.invokevirtual 194, 3) := by decide +kernel
theorem xd210_67 : decode (mj_b 210) 67 = .ok (.aload_n 0, 1) := by decide +kernel
theorem xd210_68 : decode (mj_b 210) 68 = .ok (.iload 4, 2) := by decide +kernel
theorem xd210_70 : decode (mj_b 210) 70 = .ok (.iconst 1, 1) := by decide +kernel
theorem xd210_71 : decode (mj_b 210) 71 = .ok (.isub, 1) := by decide +kernel
theorem xd210_72 : decode (mj_b 210) 72 = .ok (.iconst 4, 1) := by decide +kernel
theorem xd210_73 : decode (mj_b 210) 73 = .ok (.invokevirtual 194, 3) := by decide +kernel
theorem xd210_76 : decode (mj_b 210) 76 = .ok (.iload_n 3, 1) := by decide +kernel
theorem xd210_77 : decode (mj_b 210) 77 = .ok (.iload 4, 2) := by decide +kernel
theorem xd210_79 : decode (mj_b 210) 79 = .ok (.iadd, 1) := by decide +kernel
theorem xd210_80 : decode (mj_b 210) 80 = .ok (.istore_n 3, 1) := by decide +kernel
theorem xd210_81 : decode (mj_b 210) 81 = .ok (.goto (-79), 3) := by decide +kernel
theorem xd210_84 : decode (mj_b 210) 84 = .ok (.return_, 1) := by decide +kernel
theorem x210_0 {x1 : Int32} {x2 : Int32} : wp Ln xs 210 0 [.ref 72, .int x1, .int x2, mj_hole, mj_hole] [] (u, ml_h m lm) Φ = wp Ln xs 210 2 [.ref 72, .int x1, .int x2, .int x1, mj_hole] [] (u, ml_h m lm) Φ := (wp_same xd210_0 (Or.inr rfl) rfl).trans (wp_same (L' := [.ref 72, .int x1, .int x2, .int x1, mj_hole]) xd210_1 (Or.inr rfl) rfl)
theorem x210_2 {x1 : Int32} {x2 : Int32} {x3 : Int32} {v4 : Value} : wp Ln xs 210 2 [.ref 72, .int x1, .int x2, .int x3, v4] [] (u, ml_h m lm) Φ = if (x1 + x2) ≤ x3 then wp Ln xs 210 84 [.ref 72, .int x1, .int x2, .int x3, v4] [] (u, ml_h m lm) Φ else wp Ln xs 210 9 [.ref 72, .int x1, .int x2, .int x3, v4] [] (u, ml_h m lm) Φ := (wp_same xd210_2 (Or.inr rfl) rfl).trans ((wp_same xd210_3 (Or.inr rfl) rfl).trans ((wp_same xd210_4 (Or.inr rfl) rfl).trans ((wp_same xd210_5 (Or.inr rfl) rfl).trans (wx_icmp xd210_6 rfl rfl ((x1 + x2) ≤ x3) mb_ge))))
theorem x210_9 {x1 : Int32} {x2 : Int32} {x3 : Int32} {v4 : Value} : wp Ln xs 210 9 [.ref 72, .int x1, .int x2, .int x3, v4] [] (u, ml_h m lm) Φ = wp Ln xs 210 12 [.ref 72, .int x1, .int x2, .int x3, .int (nI 1)] [] (u, ml_h m lm) Φ := (wp_same (S' := [.int (nI 1)]) xd210_9 (Or.inr rfl) rfl).trans (wp_same (L' := [.ref 72, .int x1, .int x2, .int x3, .int (nI 1)]) xd210_10 (Or.inr rfl) rfl)
theorem x210_12 {x1 : Int32} {x2 : Int32} {x3 : Int32} {x4 : Int32} : wp Ln xs 210 12 [.ref 72, .int x1, .int x2, .int x3, .int x4] [] (u, ml_h m lm) Φ = if (x1 + x2) ≤ (x3 + x4) then wp Ln xs 210 52 [.ref 72, .int x1, .int x2, .int x3, .int x4] [] (u, ml_h m lm) Φ else wp Ln xs 210 22 [.ref 72, .int x1, .int x2, .int x3, .int x4] [] (u, ml_h m lm) Φ := (wp_same xd210_12 (Or.inr rfl) rfl).trans ((wp_same xd210_13 (Or.inr rfl) rfl).trans ((wp_same xd210_15 (Or.inr rfl) rfl).trans ((wp_same xd210_16 (Or.inr rfl) rfl).trans ((wp_same xd210_17 (Or.inr rfl) rfl).trans ((wp_same xd210_18 (Or.inr rfl) rfl).trans (wx_icmp xd210_19 rfl rfl ((x1 + x2) ≤ (x3 + x4)) mb_ge))))))
theorem x210_22 {x1 : Int32} {x2 : Int32} {x3 : Int32} {x4 : Int32} : wp Ln xs 210 22 [.ref 72, .int x1, .int x2, .int x3, .int x4] [] (u, ml_h m lm) Φ = wp Ln xs 210 33 [.ref 72, .int x1, .int x2, .int x3, .int x4] [.int (((nI 43) + x3) + x4), .ref 73] (u, ml_h m lm) Φ := (wp_same xd210_22 (Or.inr rfl) rfl).trans ((wm_getr xd210_23 rfl (show ml_L[72]? = _ from rfl) rfl (Nat.le_of_ble_eq_true rfl)).trans ((wp_same (S' := [.int (nI 43), .ref 73]) xd210_26 (Or.inr rfl) rfl).trans ((wp_same xd210_28 (Or.inr rfl) rfl).trans ((wp_same xd210_29 (Or.inr rfl) rfl).trans ((wp_same xd210_30 (Or.inr rfl) rfl).trans (wp_same xd210_32 (Or.inr rfl) rfl))))))
theorem x210_33 {x1 : Int32} {x2 : Int32} {x3 : Int32} {x4 : Int32} {k : Nat} (hk : k < 251) : wp Ln xs 210 33 [.ref 72, .int x1, .int x2, .int x3, .int x4] [.int (nI k), .ref 73] (u, ml_h m lm) Φ = wp Ln xs 210 42 [.ref 72, .int x1, .int x2, .int x3, .int x4] [.int ((nI 43) + x3), .ref 73, .int (m 73 k)] (u, ml_h m lm) Φ := (wm_iald (k := k) xd210_33 ml_ia_73 (by decide) hk).trans ((wp_same xd210_34 (Or.inr rfl) rfl).trans ((wm_getr xd210_35 rfl (show ml_L[72]? = _ from rfl) rfl (Nat.le_of_ble_eq_true rfl)).trans ((wp_same (S' := [.int (nI 43), .ref 73, .int (m 73 k)]) xd210_38 (Or.inr rfl) rfl).trans ((wp_same xd210_40 (Or.inr rfl) rfl).trans (wp_same xd210_41 (Or.inr rfl) rfl)))))
theorem x210_42 {x1 : Int32} {x2 : Int32} {x3 : Int32} {x4 : Int32} {k : Nat} {xs2 : Int32} (hk : k < 251) : wp Ln xs 210 42 [.ref 72, .int x1, .int x2, .int x3, .int x4] [.int (nI k), .ref 73, .int xs2] (u, ml_h m lm) Φ = if ¬ xs2 = (m 73 k) then wp Ln xs 210 52 [.ref 72, .int x1, .int x2, .int x3, .int x4] [] (u, ml_h m lm) Φ else wp Ln xs 210 46 [.ref 72, .int x1, .int x2, .int x3, .int x4] [] (u, ml_h m lm) Φ := (wm_iald (k := k) xd210_42 ml_ia_73 (by decide) hk).trans (wx_icmp xd210_43 rfl rfl (¬ xs2 = (m 73 k)) mb_ne)
theorem x210_46 {x1 : Int32} {x2 : Int32} {x3 : Int32} {x4 : Int32} : wp Ln xs 210 46 [.ref 72, .int x1, .int x2, .int x3, .int x4] [] (u, ml_h m lm) Φ = wp Ln xs 210 12 [.ref 72, .int x1, .int x2, .int x3, .int (x4 + nI 1)] [] (u, ml_h m lm) Φ := (wp_same (L' := [.ref 72, .int x1, .int x2, .int x3, .int (x4 + nI 1)]) xd210_46 (Or.inr rfl) rfl).trans (wx_goto xd210_49 rfl)
theorem x210_52 {x1 : Int32} {x2 : Int32} {x3 : Int32} {x4 : Int32} : wp Ln xs 210 52 [.ref 72, .int x1, .int x2, .int x3, .int x4] [] (u, ml_h m lm) Φ = wp Ln xs 210 61 [.ref 72, .int x1, .int x2, .int x3, .int x4] [.int ((nI 43) + x3), .ref 73, .ref 72] (u, ml_h m lm) Φ := (wp_same xd210_52 (Or.inr rfl) rfl).trans ((wp_same xd210_53 (Or.inr rfl) rfl).trans ((wm_getr xd210_54 rfl (show ml_L[72]? = _ from rfl) rfl (Nat.le_of_ble_eq_true rfl)).trans ((wp_same (S' := [.int (nI 43), .ref 73, .ref 72]) xd210_57 (Or.inr rfl) rfl).trans ((wp_same xd210_59 (Or.inr rfl) rfl).trans (wp_same xd210_60 (Or.inr rfl) rfl)))))
theorem x210_61 {x1 : Int32} {x2 : Int32} {x3 : Int32} {x4 : Int32} {k : Nat} (hk : k < 251) : wp Ln xs 210 61 [.ref 72, .int x1, .int x2, .int x3, .int x4] [.int (nI k), .ref 73, .ref 72] (u, ml_h m lm) Φ = wp Ln xs 211 0 [.ref 72, .int (m 73 k), .int (nI 10), mj_hole] [] (u, ml_h m lm) (mk Ln xs 210 64 [.ref 72, .int x1, .int x2, .int x3, .int x4] [] Φ) := (wm_iald (k := k) xd210_61 ml_ia_73 (by decide) hk).trans ((wp_same (S' := [.int (nI 10), .int (m 73 k), .ref 72]) xd210_62 (Or.inr rfl) rfl).trans (wm_cv (As := [.int (m 73 k), .int (nI 10)]) (rest := []) xd210_64 rfl rfl (show ml_L[72]? = _ from rfl) (Nat.le_of_ble_eq_true rfl) (Nat.le_of_ble_eq_true rfl) (Nat.le_of_ble_eq_true rfl) (Nat.le_of_ble_eq_true rfl)))
theorem x210_67 {x1 : Int32} {x2 : Int32} {x3 : Int32} {x4 : Int32} : wp Ln xs 210 67 [.ref 72, .int x1, .int x2, .int x3, .int x4] [] (u, ml_h m lm) Φ = wp Ln xs 211 0 [.ref 72, .int (x4 - (nI 1)), .int (nI 4), mj_hole] [] (u, ml_h m lm) (mk Ln xs 210 73 [.ref 72, .int x1, .int x2, .int x3, .int x4] [] Φ) := (wp_same xd210_67 (Or.inr rfl) rfl).trans ((wp_same xd210_68 (Or.inr rfl) rfl).trans ((wp_same (S' := [.int (nI 1), .int x4, .ref 72]) xd210_70 (Or.inr rfl) rfl).trans ((wp_same xd210_71 (Or.inr rfl) rfl).trans ((wp_same (S' := [.int (nI 4), .int (x4 - (nI 1)), .ref 72]) xd210_72 (Or.inr rfl) rfl).trans (wm_cv (As := [.int (x4 - (nI 1)), .int (nI 4)]) (rest := []) xd210_73 rfl rfl (show ml_L[72]? = _ from rfl) (Nat.le_of_ble_eq_true rfl) (Nat.le_of_ble_eq_true rfl) (Nat.le_of_ble_eq_true rfl) (Nat.le_of_ble_eq_true rfl))))))
theorem x210_76 {x1 : Int32} {x2 : Int32} {x3 : Int32} {x4 : Int32} : wp Ln xs 210 76 [.ref 72, .int x1, .int x2, .int x3, .int x4] [] (u, ml_h m lm) Φ = wp Ln xs 210 2 [.ref 72, .int x1, .int x2, .int (x3 + x4), .int x4] [] (u, ml_h m lm) Φ := (wp_same xd210_76 (Or.inr rfl) rfl).trans ((wp_same xd210_77 (Or.inr rfl) rfl).trans ((wp_same xd210_79 (Or.inr rfl) rfl).trans ((wp_same (L' := [.ref 72, .int x1, .int x2, .int (x3 + x4), .int x4]) xd210_80 (Or.inr rfl) rfl).trans (wx_goto xd210_81 rfl))))
theorem x210_84 {x1 : Int32} {x2 : Int32} {x3 : Int32} {v4 : Value} : wp Ln xs 210 84 [.ref 72, .int x1, .int x2, .int x3, v4] [] (u, ml_h m lm) Φ = Φ (.inl none) (u, ml_h m lm) := wp_fin (v := none) xd210_84 (Or.inr rfl) rfl rfl
/- PickedFormsModel.lay -/
theorem xd211_0 : decode (mj_b 211) 0 = .ok (.iload_n 2, 1) := by decide +kernel
theorem xd211_1 : decode (mj_b 211) 1 = .ok (.iconst 1, 1) := by decide +kernel
theorem xd211_2 : decode (mj_b 211) 2 = .ok (.isub, 1) := by decide +kernel
theorem xd211_3 : decode (mj_b 211) 3 = .ok (.istore_n 3, 1) := by decide +kernel
theorem xd211_4 : decode (mj_b 211) 4 = .ok (.iload_n 3, 1) := by decide +kernel
theorem xd211_5 : decode (mj_b 211) 5 = .ok (.ifCond .lt 33, 3) := by decide +kernel
theorem xd211_8 : decode (mj_b 211) 8 = .ok (.aload_n 0, 1) := by decide +kernel
theorem xd211_9 : decode (mj_b 211) 9 = .ok (.getfield 25, 3) := by decide +kernel
theorem xd211_12 : decode (mj_b 211) 12 = .ok (.aload_n 0, 1) := by decide +kernel
theorem xd211_13 : decode (mj_b 211) 13 = .ok (.getfield 191, 3) := by decide +kernel
theorem xd211_16 : decode (mj_b 211) 16 = .ok (.iload_n 1, 1) := by decide +kernel
theorem xd211_17 : decode (mj_b 211) 17 = .ok (.iload_n 3, 1) := by decide +kernel
theorem xd211_18 : decode (mj_b 211) 18 = .ok (.ishr, 1) := by decide +kernel
theorem xd211_19 : decode (mj_b 211) 19 = .ok (.iconst 1, 1) := by decide +kernel
theorem xd211_20 : decode (mj_b 211) 20 = .ok (.iand, 1) := by decide +kernel
theorem xd211_21 : decode (mj_b 211) 21 = .ok (.iastore, 1) := by decide +kernel
theorem xd211_22 : decode (mj_b 211) 22 = .ok (.aload_n 0, 1) := by decide +kernel
theorem xd211_23 : decode (mj_b 211) 23 = .ok (.dup, 1) := by decide +kernel
theorem xd211_24 : decode (mj_b 211) 24 = .ok (.getfield 191, 3) := by decide +kernel
theorem xd211_27 : decode (mj_b 211) 27 = .ok (.iconst 1, 1) := by decide +kernel
theorem xd211_28 : decode (mj_b 211) 28 = .ok (.iadd, 1) := by decide +kernel
theorem xd211_29 : decode (mj_b 211) 29 = .ok (.putfield 191, 3) := by decide +kernel
theorem xd211_32 : decode (mj_b 211) 32 = .ok (.iinc 3 (-1), 3) := by decide +kernel
theorem xd211_35 : decode (mj_b 211) 35 = .ok (.goto (-31), 3) := by decide +kernel
theorem xd211_38 : decode (mj_b 211) 38 = .ok (.return_, 1) := by decide +kernel
theorem x211_0 {x1 : Int32} {x2 : Int32} : wp Ln xs 211 0 [.ref 72, .int x1, .int x2, mj_hole] [] (u, ml_h m lm) Φ = wp Ln xs 211 4 [.ref 72, .int x1, .int x2, .int (x2 - (nI 1))] [] (u, ml_h m lm) Φ := (wp_same xd211_0 (Or.inr rfl) rfl).trans ((wp_same (S' := [.int (nI 1), .int x2]) xd211_1 (Or.inr rfl) rfl).trans ((wp_same xd211_2 (Or.inr rfl) rfl).trans (wp_same (L' := [.ref 72, .int x1, .int x2, .int (x2 - (nI 1))]) xd211_3 (Or.inr rfl) rfl)))
theorem x211_4 {x1 : Int32} {x2 : Int32} {x3 : Int32} : wp Ln xs 211 4 [.ref 72, .int x1, .int x2, .int x3] [] (u, ml_h m lm) Φ = if x3 < (nI 0) then wp Ln xs 211 38 [.ref 72, .int x1, .int x2, .int x3] [] (u, ml_h m lm) Φ else wp Ln xs 211 8 [.ref 72, .int x1, .int x2, .int x3] [] (u, ml_h m lm) Φ := (wp_same xd211_4 (Or.inr rfl) rfl).trans (wx_if xd211_5 rfl rfl (x3 < (nI 0)) mb_lt)
theorem x211_8 {x1 : Int32} {x2 : Int32} {x3 : Int32} : wp Ln xs 211 8 [.ref 72, .int x1, .int x2, .int x3] [] (u, ml_h m lm) Φ = wp Ln xs 211 21 [.ref 72, .int x1, .int x2, .int x3] [.int ((x1 >>> (x3 &&& 31)) &&& (nI 1)), .int (m 72 14), .ref 78] (u, ml_h m lm) Φ := (wp_same xd211_8 (Or.inr rfl) rfl).trans ((wm_getr xd211_9 rfl (show ml_L[72]? = _ from rfl) rfl (Nat.le_of_ble_eq_true rfl)).trans ((wp_same xd211_12 (Or.inr rfl) rfl).trans ((wm_geti xd211_13 rfl (show ml_L[72]? = _ from rfl) rfl (Nat.le_of_ble_eq_true rfl)).trans ((wp_same xd211_16 (Or.inr rfl) rfl).trans ((wp_same xd211_17 (Or.inr rfl) rfl).trans ((wp_same xd211_18 (Or.inr rfl) rfl).trans ((wp_same (S' := [.int (nI 1), .int (x1 >>> (x3 &&& 31)), .int (m 72 14), .ref 78]) xd211_19 (Or.inr rfl) rfl).trans (wp_same xd211_20 (Or.inr rfl) rfl))))))))
theorem x211_21 {x1 : Int32} {x2 : Int32} {x3 : Int32} {xs0 : Int32} {k : Nat} (hk : k < 240) : wp Ln xs 211 21 [.ref 72, .int x1, .int x2, .int x3] [.int xs0, .int (nI k), .ref 78] (u, ml_h m lm) Φ = wp Ln xs 211 4 [.ref 72, .int x1, .int x2, .int (x3 + (-1))] [] (u, ml_h (ml_s (ml_s m 78 k xs0) 72 14 (((ml_s m 78 k xs0) 72 14) + (nI 1))) lm) Φ := (wm_iast (k := k) xd211_21 ml_ia_78 hk).trans ((wp_same xd211_22 (Or.inr rfl) rfl).trans ((wp_same xd211_23 (Or.inr rfl) rfl).trans ((wm_geti xd211_24 rfl (show ml_L[72]? = _ from rfl) rfl (Nat.le_of_ble_eq_true rfl)).trans ((wp_same (S' := [.int (nI 1), .int ((ml_s m 78 k xs0) 72 14), .ref 72]) xd211_27 (Or.inr rfl) rfl).trans ((wp_same xd211_28 (Or.inr rfl) rfl).trans ((wm_puti xd211_29 rfl (show ml_L[72]? = _ from rfl) rfl (Nat.le_of_ble_eq_true rfl) rfl rfl rfl).trans ((wp_same (L' := [.ref 72, .int x1, .int x2, .int (x3 + (-1))]) xd211_32 (Or.inr rfl) rfl).trans (wx_goto xd211_35 rfl))))))))
theorem x211_38 {x1 : Int32} {x2 : Int32} {x3 : Int32} : wp Ln xs 211 38 [.ref 72, .int x1, .int x2, .int x3] [] (u, ml_h m lm) Φ = Φ (.inl none) (u, ml_h m lm) := wp_fin (v := none) xd211_38 (Or.inr rfl) rfl rfl
/- PickedFormsModel.layList -/
theorem xd212_0 : decode (mj_b 212) 0 = .ok (.aload_n 0, 1) := by decide +kernel
theorem xd212_1 : decode (mj_b 212) 1 = .ok (.iload_n 1, 1) := by decide +kernel
theorem xd212_2 : decode (mj_b 212) 2 = .ok (.iload_n 2, 1) := by decide +kernel
theorem xd212_3 : decode (mj_b 212) 3 = .ok (.invokevirtual 76, 3) := by decide +kernel
theorem xd212_6 : decode (mj_b 212) 6 = .ok (.istore_n 3, 1) := by decide +kernel
theorem xd212_7 : decode (mj_b 212) 7 = .ok (.aload_n 0, 1) := by decide +kernel
theorem xd212_8 : decode (mj_b 212) 8 = .ok (.iload_n 3, 1) := by decide +kernel
theorem xd212_9 : decode (mj_b 212) 9 = .ok (.iconst 1, 1) := by decide +kernel
theorem xd212_10 : decode (mj_b 212) 10 = .ok (.isub, 1) := by decide +kernel
theorem xd212_11 : decode (mj_b 212) 11 = .ok (.iconst 4, 1) := by decide +kernel
theorem xd212_12 : decode (mj_b 212) 12 = .ok (.invokevirtual 194, 3) := by decide +kernel
theorem xd212_15 : decode (mj_b 212) 15 = .ok (.iconst 0, 1) := by decide +kernel
theorem xd212_16 : decode (mj_b 212) 16 = .ok (.istore 4, 2) := by decide +kernel
theorem xd212_18 : decode (mj_b 212) 18 = .ok (.iload 4, 2) := by decide +kernel
theorem xd212_20 : decode (mj_b 212) 20 = .ok (.iload_n 3, 1) := by decide +kernel
theorem xd212_21 : decode (mj_b 212) 21 = .ok (.if_icmp .ge 73, 3) := by decide +kernel
theorem xd212_24 : decode (mj_b 212) 24 = .ok (.iload_n 1, 1) := by decide +kernel
theorem xd212_25 : decode (mj_b 212) 25 = .ok (.istore 5, 2) := by decide +kernel
theorem xd212_27 : decode (mj_b 212) 27 = .ok (.iload 5, 2) := by decide +kernel
theorem xd212_29 : decode (mj_b 212) 29 = .ok (.iload_n 1, 1) := by decide +kernel
theorem xd212_30 : decode (mj_b 212) 30 = .ok (.iload_n 2, 1) := by decide +kernel
theorem xd212_31 : decode (mj_b 212) 31 = .ok (.iadd, 1) := by decide +kernel
theorem xd212_32 : decode (mj_b 212) 32 = .ok (.if_icmp .ge 56, 3) := by decide +kernel
theorem xd212_35 : decode (mj_b 212) 35 = .ok (.aload_n 0, 1) := by decide +kernel
theorem xd212_36 : decode (mj_b 212) 36 = .ok (.iload_n 1, 1) := by decide +kernel
theorem xd212_37 : decode (mj_b 212) 37 = .ok (.iload 5, 2) := by decide +kernel
theorem xd212_39 : decode (mj_b 212) 39 = .ok (.invokevirtual 53, 3) := by decide +kernel
theorem xd212_42 : decode (mj_b 212) 42 = .ok (.ifCond .eq 40, 3) := by decide +kernel
theorem xd212_45 : decode (mj_b 212) 45 = .ok (.aload_n 0, 1) := by decide +kernel
theorem xd212_46 : decode (mj_b 212) 46 = .ok (.iload_n 1, 1) := by decide +kernel
theorem xd212_47 : decode (mj_b 212) 47 = .ok (.iload_n 2, 1) := by decide +kernel
theorem xd212_48 : decode (mj_b 212) 48 = .ok (.aload_n 0, 1) := by decide +kernel
theorem xd212_49 : decode (mj_b 212) 49 = .ok (.getfield 7, 3) := by decide +kernel
theorem xd212_52 : decode (mj_b 212) 52 = .ok (.bipush 43, 2) := by decide +kernel
theorem xd212_54 : decode (mj_b 212) 54 = .ok (.iload 5, 2) := by decide +kernel
theorem xd212_56 : decode (mj_b 212) 56 = .ok (.iadd, 1) := by decide +kernel
theorem xd212_57 : decode (mj_b 212) 57 = .ok (.iaload, 1) := by decide +kernel
theorem xd212_58 : decode (mj_b 212) 58 = .ok (.invokevirtual 198, 3) := by decide +kernel
theorem xd212_61 : decode (mj_b 212) 61 = .ok (.iload 4, 2) := by decide +kernel
theorem xd212_63 : decode (mj_b 212) 63 = .ok (.if_icmp .ne 19, 3) := by decide +kernel
theorem xd212_66 : decode (mj_b 212) 66 = .ok (.aload_n 0, 1) := by decide +kernel
theorem xd212_67 : decode (mj_b 212) 67 = .ok (.aload_n 0, 1) := by decide +kernel
theorem xd212_68 : decode (mj_b 212) 68 = .ok (.getfield 7, 3) := by decide +kernel
theorem xd212_71 : decode (mj_b 212) 71 = .ok (.bipush 43, 2) := by decide +kernel
theorem xd212_73 : decode (mj_b 212) 73 = .ok (.iload 5, 2) := by decide +kernel
theorem xd212_75 : decode (mj_b 212) 75 = .ok (.iadd, 1) := by decide +kernel
theorem xd212_76 : decode (mj_b 212) 76 = .ok (.iaload, 1) := by decide +kernel
theorem xd212_77 : decode (mj_b 212) 77 = .ok (.bipush 10, 2) := by decide +kernel
theorem xd212_79 : decode (mj_b 212) 79 = .ok (.invokevirtual 194, 3) := by decide +kernel
theorem xd212_82 : decode (mj_b 212) 82 = .ok (.iinc 5 1, 3) := by decide +kernel
theorem xd212_85 : decode (mj_b 212) 85 = .ok (.goto (-58), 3) := by decide +kernel
theorem xd212_88 : decode (mj_b 212) 88 = .ok (.iinc 4 1, 3) := by decide +kernel
theorem xd212_91 : decode (mj_b 212) 91 = .ok (.goto (-73), 3) := by decide +kernel
theorem xd212_94 : decode (mj_b 212) 94 = .ok (.iload_n 1, 1) := by decide +kernel
theorem xd212_95 : decode (mj_b 212) 95 = .ok (.istore 4, 2) := by decide +kernel
theorem xd212_97 : decode (mj_b 212) 97 = .ok (.iload 4, 2) := by decide +kernel
theorem xd212_99 : decode (mj_b 212) 99 = .ok (.iload_n 1, 1) := by decide +kernel
theorem xd212_100 : decode (mj_b 212) 100 = .ok (.iload_n 2, 1) := by decide +kernel
theorem xd212_101 : decode (mj_b 212) 101 = .ok (.iadd, 1) := by decide +kernel
theorem xd212_102 : decode (mj_b 212) 102 = .ok (.if_icmp .ge 35, 3) := by decide +kernel
theorem xd212_105 : decode (mj_b 212) 105 = .ok (.aload_n 0, 1) := by decide +kernel
theorem xd212_106 : decode (mj_b 212) 106 = .ok (.aload_n 0, 1) := by decide +kernel
theorem xd212_107 : decode (mj_b 212) 107 = .ok (.iload_n 1, 1) := by decide +kernel
theorem xd212_108 : decode (mj_b 212) 108 = .ok (.iload_n 2, 1) := by decide +kernel
theorem xd212_109 : decode (mj_b 212) 109 = .ok (.aload_n 0, 1) := by decide +kernel
theorem xd212_110 : decode (mj_b 212) 110 = .ok (.getfield 7, 3) := by decide +kernel
theorem xd212_113 : decode (mj_b 212) 113 = .ok (.bipush 43, 2) := by decide +kernel
theorem xd212_115 : decode (mj_b 212) 115 = .ok (.iload 4, 2) := by decide +kernel
theorem xd212_117 : decode (mj_b 212) 117 = .ok (.iadd, 1) := by decide +kernel
theorem xd212_118 : decode (mj_b 212) 118 = .ok (.iaload, 1) := by decide +kernel
theorem xd212_119 : decode (mj_b 212) 119 = .ok (.invokevirtual 198, 3) := by decide +kernel
theorem xd212_122 : decode (mj_b 212) 122 = .ok (.iload_n 3, 1) := by decide +kernel
theorem xd212_123 : decode (mj_b 212) 123 = .ok (.iconst 1, 1) := by decide +kernel
theorem xd212_124 : decode (mj_b 212) 124 = .ok (.isub, 1) := by decide +kernel
theorem xd212_125 : decode (mj_b 212) 125 = .ok (.invokestatic 67, 3) := by decide +kernel
theorem xd212_128 : decode (mj_b 212) 128 = .ok (.invokevirtual 194, 3) := by decide +kernel
theorem xd212_131 : decode (mj_b 212) 131 = .ok (.iinc 4 1, 3) := by decide +kernel
theorem xd212_134 : decode (mj_b 212) 134 = .ok (.goto (-37), 3) := by decide +kernel
theorem xd212_137 : decode (mj_b 212) 137 = .ok (.return_, 1) := by decide +kernel
theorem x212_0 {x1 : Int32} {x2 : Int32} : wp Ln xs 212 0 [.ref 72, .int x1, .int x2, mj_hole, mj_hole, mj_hole] [] (u, ml_h m lm) Φ = wp Ln xs 171 0 [.ref 72, .int x1, .int x2, mj_hole, mj_hole] [] (u, ml_h m lm) (mk Ln xs 212 3 [.ref 72, .int x1, .int x2, mj_hole, mj_hole, mj_hole] [] Φ) := (wp_same xd212_0 (Or.inr rfl) rfl).trans ((wp_same xd212_1 (Or.inr rfl) rfl).trans ((wp_same xd212_2 (Or.inr rfl) rfl).trans (wm_cv (As := [.int x1, .int x2]) (rest := []) xd212_3 rfl rfl (show ml_L[72]? = _ from rfl) (Nat.le_of_ble_eq_true rfl) (Nat.le_of_ble_eq_true rfl) (Nat.le_of_ble_eq_true rfl) (Nat.le_of_ble_eq_true rfl))))
theorem x212_6 {x1 : Int32} {x2 : Int32} {xs0 : Int32} : wp Ln xs 212 6 [.ref 72, .int x1, .int x2, mj_hole, mj_hole, mj_hole] [.int xs0] (u, ml_h m lm) Φ = wp Ln xs 211 0 [.ref 72, .int (xs0 - (nI 1)), .int (nI 4), mj_hole] [] (u, ml_h m lm) (mk Ln xs 212 12 [.ref 72, .int x1, .int x2, .int xs0, mj_hole, mj_hole] [] Φ) := (wp_same (L' := [.ref 72, .int x1, .int x2, .int xs0, mj_hole, mj_hole]) xd212_6 (Or.inr rfl) rfl).trans ((wp_same xd212_7 (Or.inr rfl) rfl).trans ((wp_same xd212_8 (Or.inr rfl) rfl).trans ((wp_same (S' := [.int (nI 1), .int xs0, .ref 72]) xd212_9 (Or.inr rfl) rfl).trans ((wp_same xd212_10 (Or.inr rfl) rfl).trans ((wp_same (S' := [.int (nI 4), .int (xs0 - (nI 1)), .ref 72]) xd212_11 (Or.inr rfl) rfl).trans (wm_cv (As := [.int (xs0 - (nI 1)), .int (nI 4)]) (rest := []) xd212_12 rfl rfl (show ml_L[72]? = _ from rfl) (Nat.le_of_ble_eq_true rfl) (Nat.le_of_ble_eq_true rfl) (Nat.le_of_ble_eq_true rfl) (Nat.le_of_ble_eq_true rfl)))))))
theorem x212_15 {x1 : Int32} {x2 : Int32} {x3 : Int32} : wp Ln xs 212 15 [.ref 72, .int x1, .int x2, .int x3, mj_hole, mj_hole] [] (u, ml_h m lm) Φ = wp Ln xs 212 18 [.ref 72, .int x1, .int x2, .int x3, .int (nI 0), mj_hole] [] (u, ml_h m lm) Φ := (wp_same (S' := [.int (nI 0)]) xd212_15 (Or.inr rfl) rfl).trans (wp_same (L' := [.ref 72, .int x1, .int x2, .int x3, .int (nI 0), mj_hole]) xd212_16 (Or.inr rfl) rfl)
theorem x212_18 {x1 : Int32} {x2 : Int32} {x3 : Int32} {x4 : Int32} {v5 : Value} : wp Ln xs 212 18 [.ref 72, .int x1, .int x2, .int x3, .int x4, v5] [] (u, ml_h m lm) Φ = if x3 ≤ x4 then wp Ln xs 212 94 [.ref 72, .int x1, .int x2, .int x3, .int x4, v5] [] (u, ml_h m lm) Φ else wp Ln xs 212 24 [.ref 72, .int x1, .int x2, .int x3, .int x4, v5] [] (u, ml_h m lm) Φ := (wp_same xd212_18 (Or.inr rfl) rfl).trans ((wp_same xd212_20 (Or.inr rfl) rfl).trans (wx_icmp xd212_21 rfl rfl (x3 ≤ x4) mb_ge))
theorem x212_24 {x1 : Int32} {x2 : Int32} {x3 : Int32} {x4 : Int32} {v5 : Value} : wp Ln xs 212 24 [.ref 72, .int x1, .int x2, .int x3, .int x4, v5] [] (u, ml_h m lm) Φ = wp Ln xs 212 27 [.ref 72, .int x1, .int x2, .int x3, .int x4, .int x1] [] (u, ml_h m lm) Φ := (wp_same xd212_24 (Or.inr rfl) rfl).trans (wp_same (L' := [.ref 72, .int x1, .int x2, .int x3, .int x4, .int x1]) xd212_25 (Or.inr rfl) rfl)
theorem x212_27 {x1 : Int32} {x2 : Int32} {x3 : Int32} {x4 : Int32} {x5 : Int32} : wp Ln xs 212 27 [.ref 72, .int x1, .int x2, .int x3, .int x4, .int x5] [] (u, ml_h m lm) Φ = if (x1 + x2) ≤ x5 then wp Ln xs 212 88 [.ref 72, .int x1, .int x2, .int x3, .int x4, .int x5] [] (u, ml_h m lm) Φ else wp Ln xs 212 35 [.ref 72, .int x1, .int x2, .int x3, .int x4, .int x5] [] (u, ml_h m lm) Φ := (wp_same xd212_27 (Or.inr rfl) rfl).trans ((wp_same xd212_29 (Or.inr rfl) rfl).trans ((wp_same xd212_30 (Or.inr rfl) rfl).trans ((wp_same xd212_31 (Or.inr rfl) rfl).trans (wx_icmp xd212_32 rfl rfl ((x1 + x2) ≤ x5) mb_ge))))
theorem x212_35 {x1 : Int32} {x2 : Int32} {x3 : Int32} {x4 : Int32} {x5 : Int32} : wp Ln xs 212 35 [.ref 72, .int x1, .int x2, .int x3, .int x4, .int x5] [] (u, ml_h m lm) Φ = wp Ln xs 172 0 [.ref 72, .int x1, .int x5, mj_hole, mj_hole] [] (u, ml_h m lm) (mk Ln xs 212 39 [.ref 72, .int x1, .int x2, .int x3, .int x4, .int x5] [] Φ) := (wp_same xd212_35 (Or.inr rfl) rfl).trans ((wp_same xd212_36 (Or.inr rfl) rfl).trans ((wp_same xd212_37 (Or.inr rfl) rfl).trans (wm_cv (As := [.int x1, .int x5]) (rest := []) xd212_39 rfl rfl (show ml_L[72]? = _ from rfl) (Nat.le_of_ble_eq_true rfl) (Nat.le_of_ble_eq_true rfl) (Nat.le_of_ble_eq_true rfl) (Nat.le_of_ble_eq_true rfl))))
theorem x212_42 {x1 : Int32} {x2 : Int32} {x3 : Int32} {x4 : Int32} {x5 : Int32} {xs0 : Int32} : wp Ln xs 212 42 [.ref 72, .int x1, .int x2, .int x3, .int x4, .int x5] [.int xs0] (u, ml_h m lm) Φ = if xs0 = (nI 0) then wp Ln xs 212 82 [.ref 72, .int x1, .int x2, .int x3, .int x4, .int x5] [] (u, ml_h m lm) Φ else wp Ln xs 212 45 [.ref 72, .int x1, .int x2, .int x3, .int x4, .int x5] [] (u, ml_h m lm) Φ := wx_if xd212_42 rfl rfl (xs0 = (nI 0)) mb_eq
theorem x212_45 {x1 : Int32} {x2 : Int32} {x3 : Int32} {x4 : Int32} {x5 : Int32} : wp Ln xs 212 45 [.ref 72, .int x1, .int x2, .int x3, .int x4, .int x5] [] (u, ml_h m lm) Φ = wp Ln xs 212 57 [.ref 72, .int x1, .int x2, .int x3, .int x4, .int x5] [.int ((nI 43) + x5), .ref 73, .int x2, .int x1, .ref 72] (u, ml_h m lm) Φ := (wp_same xd212_45 (Or.inr rfl) rfl).trans ((wp_same xd212_46 (Or.inr rfl) rfl).trans ((wp_same xd212_47 (Or.inr rfl) rfl).trans ((wp_same xd212_48 (Or.inr rfl) rfl).trans ((wm_getr xd212_49 rfl (show ml_L[72]? = _ from rfl) rfl (Nat.le_of_ble_eq_true rfl)).trans ((wp_same (S' := [.int (nI 43), .ref 73, .int x2, .int x1, .ref 72]) xd212_52 (Or.inr rfl) rfl).trans ((wp_same xd212_54 (Or.inr rfl) rfl).trans (wp_same xd212_56 (Or.inr rfl) rfl)))))))
theorem x212_57 {x1 : Int32} {x2 : Int32} {x3 : Int32} {x4 : Int32} {x5 : Int32} {k : Nat} {xs2 : Int32} {xs3 : Int32} (hk : k < 251) : wp Ln xs 212 57 [.ref 72, .int x1, .int x2, .int x3, .int x4, .int x5] [.int (nI k), .ref 73, .int xs2, .int xs3, .ref 72] (u, ml_h m lm) Φ = wp Ln xs 213 0 [.ref 72, .int xs3, .int xs2, .int (m 73 k), mj_hole, mj_hole] [] (u, ml_h m lm) (mk Ln xs 212 58 [.ref 72, .int x1, .int x2, .int x3, .int x4, .int x5] [] Φ) := (wm_iald (k := k) xd212_57 ml_ia_73 (by decide) hk).trans (wm_cv (As := [.int xs3, .int xs2, .int (m 73 k)]) (rest := []) xd212_58 rfl rfl (show ml_L[72]? = _ from rfl) (Nat.le_of_ble_eq_true rfl) (Nat.le_of_ble_eq_true rfl) (Nat.le_of_ble_eq_true rfl) (Nat.le_of_ble_eq_true rfl))
theorem x212_61 {x1 : Int32} {x2 : Int32} {x3 : Int32} {x4 : Int32} {x5 : Int32} {xs0 : Int32} : wp Ln xs 212 61 [.ref 72, .int x1, .int x2, .int x3, .int x4, .int x5] [.int xs0] (u, ml_h m lm) Φ = if ¬ xs0 = x4 then wp Ln xs 212 82 [.ref 72, .int x1, .int x2, .int x3, .int x4, .int x5] [] (u, ml_h m lm) Φ else wp Ln xs 212 66 [.ref 72, .int x1, .int x2, .int x3, .int x4, .int x5] [] (u, ml_h m lm) Φ := (wp_same xd212_61 (Or.inr rfl) rfl).trans (wx_icmp xd212_63 rfl rfl (¬ xs0 = x4) mb_ne)
theorem x212_66 {x1 : Int32} {x2 : Int32} {x3 : Int32} {x4 : Int32} {x5 : Int32} : wp Ln xs 212 66 [.ref 72, .int x1, .int x2, .int x3, .int x4, .int x5] [] (u, ml_h m lm) Φ = wp Ln xs 212 76 [.ref 72, .int x1, .int x2, .int x3, .int x4, .int x5] [.int ((nI 43) + x5), .ref 73, .ref 72] (u, ml_h m lm) Φ := (wp_same xd212_66 (Or.inr rfl) rfl).trans ((wp_same xd212_67 (Or.inr rfl) rfl).trans ((wm_getr xd212_68 rfl (show ml_L[72]? = _ from rfl) rfl (Nat.le_of_ble_eq_true rfl)).trans ((wp_same (S' := [.int (nI 43), .ref 73, .ref 72]) xd212_71 (Or.inr rfl) rfl).trans ((wp_same xd212_73 (Or.inr rfl) rfl).trans (wp_same xd212_75 (Or.inr rfl) rfl)))))
theorem x212_76 {x1 : Int32} {x2 : Int32} {x3 : Int32} {x4 : Int32} {x5 : Int32} {k : Nat} (hk : k < 251) : wp Ln xs 212 76 [.ref 72, .int x1, .int x2, .int x3, .int x4, .int x5] [.int (nI k), .ref 73, .ref 72] (u, ml_h m lm) Φ = wp Ln xs 211 0 [.ref 72, .int (m 73 k), .int (nI 10), mj_hole] [] (u, ml_h m lm) (mk Ln xs 212 79 [.ref 72, .int x1, .int x2, .int x3, .int x4, .int x5] [] Φ) := (wm_iald (k := k) xd212_76 ml_ia_73 (by decide) hk).trans ((wp_same (S' := [.int (nI 10), .int (m 73 k), .ref 72]) xd212_77 (Or.inr rfl) rfl).trans (wm_cv (As := [.int (m 73 k), .int (nI 10)]) (rest := []) xd212_79 rfl rfl (show ml_L[72]? = _ from rfl) (Nat.le_of_ble_eq_true rfl) (Nat.le_of_ble_eq_true rfl) (Nat.le_of_ble_eq_true rfl) (Nat.le_of_ble_eq_true rfl)))
theorem x212_82 {x1 : Int32} {x2 : Int32} {x3 : Int32} {x4 : Int32} {x5 : Int32} : wp Ln xs 212 82 [.ref 72, .int x1, .int x2, .int x3, .int x4, .int x5] [] (u, ml_h m lm) Φ = wp Ln xs 212 27 [.ref 72, .int x1, .int x2, .int x3, .int x4, .int (x5 + nI 1)] [] (u, ml_h m lm) Φ := (wp_same (L' := [.ref 72, .int x1, .int x2, .int x3, .int x4, .int (x5 + nI 1)]) xd212_82 (Or.inr rfl) rfl).trans (wx_goto xd212_85 rfl)
theorem x212_88 {x1 : Int32} {x2 : Int32} {x3 : Int32} {x4 : Int32} {x5 : Int32} : wp Ln xs 212 88 [.ref 72, .int x1, .int x2, .int x3, .int x4, .int x5] [] (u, ml_h m lm) Φ = wp Ln xs 212 18 [.ref 72, .int x1, .int x2, .int x3, .int (x4 + nI 1), .int x5] [] (u, ml_h m lm) Φ := (wp_same (L' := [.ref 72, .int x1, .int x2, .int x3, .int (x4 + nI 1), .int x5]) xd212_88 (Or.inr rfl) rfl).trans (wx_goto xd212_91 rfl)
theorem x212_94 {x1 : Int32} {x2 : Int32} {x3 : Int32} {x4 : Int32} {v5 : Value} : wp Ln xs 212 94 [.ref 72, .int x1, .int x2, .int x3, .int x4, v5] [] (u, ml_h m lm) Φ = wp Ln xs 212 97 [.ref 72, .int x1, .int x2, .int x3, .int x1, v5] [] (u, ml_h m lm) Φ := (wp_same xd212_94 (Or.inr rfl) rfl).trans (wp_same (L' := [.ref 72, .int x1, .int x2, .int x3, .int x1, v5]) xd212_95 (Or.inr rfl) rfl)
theorem x212_97 {x1 : Int32} {x2 : Int32} {x3 : Int32} {x4 : Int32} {v5 : Value} : wp Ln xs 212 97 [.ref 72, .int x1, .int x2, .int x3, .int x4, v5] [] (u, ml_h m lm) Φ = if (x1 + x2) ≤ x4 then wp Ln xs 212 137 [.ref 72, .int x1, .int x2, .int x3, .int x4, v5] [] (u, ml_h m lm) Φ else wp Ln xs 212 105 [.ref 72, .int x1, .int x2, .int x3, .int x4, v5] [] (u, ml_h m lm) Φ := (wp_same xd212_97 (Or.inr rfl) rfl).trans ((wp_same xd212_99 (Or.inr rfl) rfl).trans ((wp_same xd212_100 (Or.inr rfl) rfl).trans ((wp_same xd212_101 (Or.inr rfl) rfl).trans (wx_icmp xd212_102 rfl rfl ((x1 + x2) ≤ x4) mb_ge))))
theorem x212_105 {x1 : Int32} {x2 : Int32} {x3 : Int32} {x4 : Int32} {v5 : Value} : wp Ln xs 212 105 [.ref 72, .int x1, .int x2, .int x3, .int x4, v5] [] (u, ml_h m lm) Φ = wp Ln xs 212 118 [.ref 72, .int x1, .int x2, .int x3, .int x4, v5] [.int ((nI 43) + x4), .ref 73, .int x2, .int x1, .ref 72, .ref 72] (u, ml_h m lm) Φ := (wp_same xd212_105 (Or.inr rfl) rfl).trans ((wp_same xd212_106 (Or.inr rfl) rfl).trans ((wp_same xd212_107 (Or.inr rfl) rfl).trans ((wp_same xd212_108 (Or.inr rfl) rfl).trans ((wp_same xd212_109 (Or.inr rfl) rfl).trans ((wm_getr xd212_110 rfl (show ml_L[72]? = _ from rfl) rfl (Nat.le_of_ble_eq_true rfl)).trans ((wp_same (S' := [.int (nI 43), .ref 73, .int x2, .int x1, .ref 72, .ref 72]) xd212_113 (Or.inr rfl) rfl).trans ((wp_same xd212_115 (Or.inr rfl) rfl).trans (wp_same xd212_117 (Or.inr rfl) rfl))))))))
theorem x212_118 {x1 : Int32} {x2 : Int32} {x3 : Int32} {x4 : Int32} {v5 : Value} {k : Nat} {xs2 : Int32} {xs3 : Int32} (hk : k < 251) : wp Ln xs 212 118 [.ref 72, .int x1, .int x2, .int x3, .int x4, v5] [.int (nI k), .ref 73, .int xs2, .int xs3, .ref 72, .ref 72] (u, ml_h m lm) Φ = wp Ln xs 213 0 [.ref 72, .int xs3, .int xs2, .int (m 73 k), mj_hole, mj_hole] [] (u, ml_h m lm) (mk Ln xs 212 119 [.ref 72, .int x1, .int x2, .int x3, .int x4, v5] [.ref 72] Φ) := (wm_iald (k := k) xd212_118 ml_ia_73 (by decide) hk).trans (wm_cv (As := [.int xs3, .int xs2, .int (m 73 k)]) (rest := [.ref 72]) xd212_119 rfl rfl (show ml_L[72]? = _ from rfl) (Nat.le_of_ble_eq_true rfl) (Nat.le_of_ble_eq_true rfl) (Nat.le_of_ble_eq_true rfl) (Nat.le_of_ble_eq_true rfl))
theorem x212_122 {x1 : Int32} {x2 : Int32} {x3 : Int32} {x4 : Int32} {v5 : Value} {xs0 : Int32} : wp Ln xs 212 122 [.ref 72, .int x1, .int x2, .int x3, .int x4, v5] [.int xs0, .ref 72] (u, ml_h m lm) Φ = wp Ln xs 167 0 [.int (x3 - (nI 1)), mj_hole, mj_hole] [] (u, ml_h m lm) (mk Ln xs 212 125 [.ref 72, .int x1, .int x2, .int x3, .int x4, v5] [.int xs0, .ref 72] Φ) := (wp_same xd212_122 (Or.inr rfl) rfl).trans ((wp_same (S' := [.int (nI 1), .int x3, .int xs0, .ref 72]) xd212_123 (Or.inr rfl) rfl).trans ((wp_same xd212_124 (Or.inr rfl) rfl).trans (wm_cs (As := [.int (x3 - (nI 1))]) (rest := [.int xs0, .ref 72]) xd212_125 rfl rfl (Nat.le_of_ble_eq_true rfl) (Nat.le_of_ble_eq_true rfl) (Nat.le_of_ble_eq_true rfl) (Nat.le_of_ble_eq_true rfl))))
theorem x212_128 {x1 : Int32} {x2 : Int32} {x3 : Int32} {x4 : Int32} {v5 : Value} {xs0 : Int32} {xs1 : Int32} : wp Ln xs 212 128 [.ref 72, .int x1, .int x2, .int x3, .int x4, v5] [.int xs0, .int xs1, .ref 72] (u, ml_h m lm) Φ = wp Ln xs 211 0 [.ref 72, .int xs1, .int xs0, mj_hole] [] (u, ml_h m lm) (mk Ln xs 212 128 [.ref 72, .int x1, .int x2, .int x3, .int x4, v5] [] Φ) := wm_cv (As := [.int xs1, .int xs0]) (rest := []) xd212_128 rfl rfl (show ml_L[72]? = _ from rfl) (Nat.le_of_ble_eq_true rfl) (Nat.le_of_ble_eq_true rfl) (Nat.le_of_ble_eq_true rfl) (Nat.le_of_ble_eq_true rfl)
theorem x212_131 {x1 : Int32} {x2 : Int32} {x3 : Int32} {x4 : Int32} {v5 : Value} : wp Ln xs 212 131 [.ref 72, .int x1, .int x2, .int x3, .int x4, v5] [] (u, ml_h m lm) Φ = wp Ln xs 212 97 [.ref 72, .int x1, .int x2, .int x3, .int (x4 + nI 1), v5] [] (u, ml_h m lm) Φ := (wp_same (L' := [.ref 72, .int x1, .int x2, .int x3, .int (x4 + nI 1), v5]) xd212_131 (Or.inr rfl) rfl).trans (wx_goto xd212_134 rfl)
theorem x212_137 {x1 : Int32} {x2 : Int32} {x3 : Int32} {x4 : Int32} {v5 : Value} : wp Ln xs 212 137 [.ref 72, .int x1, .int x2, .int x3, .int x4, v5] [] (u, ml_h m lm) Φ = Φ (.inl none) (u, ml_h m lm) := wp_fin (v := none) xd212_137 (Or.inr rfl) rfl rfl
/- PickedFormsModel.rankOf -/
theorem xd213_0 : decode (mj_b 213) 0 = .ok (.iconst 0, 1) := by decide +kernel
theorem xd213_1 : decode (mj_b 213) 1 = .ok (.istore 4, 2) := by decide +kernel
theorem xd213_3 : decode (mj_b 213) 3 = .ok (.iload_n 1, 1) := by decide +kernel
theorem xd213_4 : decode (mj_b 213) 4 = .ok (.istore 5, 2) := by decide +kernel
theorem xd213_6 : decode (mj_b 213) 6 = .ok (.iload 5, 2) := by decide +kernel
theorem xd213_8 : decode (mj_b 213) 8 = .ok (.iload_n 1, 1) := by decide +kernel
theorem xd213_9 : decode (mj_b 213) 9 = .ok (.iload_n 2, 1) := by decide +kernel
theorem xd213_10 : decode (mj_b 213) 10 = .ok (.iadd, 1) := by decide +kernel
theorem xd213_11 : decode (mj_b 213) 11 = .ok (.if_icmp .ge 43, 3) := by decide +kernel
theorem xd213_14 : decode (mj_b 213) 14 = .ok (.iload 4, 2) := by decide +kernel
theorem xd213_16 : decode (mj_b 213) 16 = .ok (.aload_n 0, 1) := by decide +kernel
theorem xd213_17 : decode (mj_b 213) 17 = .ok (.getfield 7, 3) := by decide +kernel
theorem xd213_20 : decode (mj_b 213) 20 = .ok (.bipush 43, 2) := by decide +kernel
theorem xd213_22 : decode (mj_b 213) 22 = .ok (.iload 5, 2) := by decide +kernel
theorem xd213_24 : decode (mj_b 213) 24 = .ok (.iadd, 1) := by decide +kernel
theorem xd213_25 : decode (mj_b 213) 25 = .ok (.iaload, 1) := by decide +kernel
theorem xd213_26 : decode (mj_b 213) 26 = .ok (.iload_n 3, 1) := by decide +kernel
theorem xd213_27 : decode (mj_b 213) 27 = .ok (.if_icmp .ge 17, 3) := by decide +kernel
theorem xd213_30 : decode (mj_b 213) 30 = .ok (.aload_n 0, 1) := by decide +kernel
theorem xd213_31 : decode (mj_b 213) 31 = .ok (.iload_n 1, 1) := by decide +kernel
theorem xd213_32 : decode (mj_b 213) 32 = .ok (.iload 5, 2) := by decide +kernel
theorem xd213_34 : decode (mj_b 213) 34 = .ok (.invokevirtual 53, 3) := by decide +kernel
theorem xd213_37 : decode (mj_b 213) 37 = .ok (.ifCond .eq 7, 3) := by decide +kernel
theorem xd213_40 : decode (mj_b 213) 40 = .ok (.iconst 1, 1) := by decide +kernel
theorem xd213_41 : decode (mj_b 213) 41 = .ok (.goto 4, 3) := by decide +kernel
theorem xd213_44 : decode (mj_b 213) 44 = .ok (.iconst 0, 1) := by decide +kernel
theorem xd213_45 : decode (mj_b 213) 45 = .ok (.iadd, 1) := by decide +kernel
theorem xd213_46 : decode (mj_b 213) 46 = .ok (.istore 4, 2) := by decide +kernel
theorem xd213_48 : decode (mj_b 213) 48 = .ok (.iinc 5 1, 3) := by decide +kernel
theorem xd213_51 : decode (mj_b 213) 51 = .ok (.goto (-45), 3) := by decide +kernel
theorem xd213_54 : decode (mj_b 213) 54 = .ok (.iload 4, 2) := by decide +kernel
theorem xd213_56 : decode (mj_b 213) 56 = .ok (.ireturn, 1) := by decide +kernel
theorem x213_0 {x1 : Int32} {x2 : Int32} {x3 : Int32} : wp Ln xs 213 0 [.ref 72, .int x1, .int x2, .int x3, mj_hole, mj_hole] [] (u, ml_h m lm) Φ = wp Ln xs 213 6 [.ref 72, .int x1, .int x2, .int x3, .int (nI 0), .int x1] [] (u, ml_h m lm) Φ := (wp_same (S' := [.int (nI 0)]) xd213_0 (Or.inr rfl) rfl).trans ((wp_same (L' := [.ref 72, .int x1, .int x2, .int x3, .int (nI 0), mj_hole]) xd213_1 (Or.inr rfl) rfl).trans ((wp_same xd213_3 (Or.inr rfl) rfl).trans (wp_same (L' := [.ref 72, .int x1, .int x2, .int x3, .int (nI 0), .int x1]) xd213_4 (Or.inr rfl) rfl)))
theorem x213_6 {x1 : Int32} {x2 : Int32} {x3 : Int32} {x4 : Int32} {x5 : Int32} : wp Ln xs 213 6 [.ref 72, .int x1, .int x2, .int x3, .int x4, .int x5] [] (u, ml_h m lm) Φ = if (x1 + x2) ≤ x5 then wp Ln xs 213 54 [.ref 72, .int x1, .int x2, .int x3, .int x4, .int x5] [] (u, ml_h m lm) Φ else wp Ln xs 213 14 [.ref 72, .int x1, .int x2, .int x3, .int x4, .int x5] [] (u, ml_h m lm) Φ := (wp_same xd213_6 (Or.inr rfl) rfl).trans ((wp_same xd213_8 (Or.inr rfl) rfl).trans ((wp_same xd213_9 (Or.inr rfl) rfl).trans ((wp_same xd213_10 (Or.inr rfl) rfl).trans (wx_icmp xd213_11 rfl rfl ((x1 + x2) ≤ x5) mb_ge))))
theorem x213_14 {x1 : Int32} {x2 : Int32} {x3 : Int32} {x4 : Int32} {x5 : Int32} : wp Ln xs 213 14 [.ref 72, .int x1, .int x2, .int x3, .int x4, .int x5] [] (u, ml_h m lm) Φ = wp Ln xs 213 25 [.ref 72, .int x1, .int x2, .int x3, .int x4, .int x5] [.int ((nI 43) + x5), .ref 73, .int x4] (u, ml_h m lm) Φ := (wp_same xd213_14 (Or.inr rfl) rfl).trans ((wp_same xd213_16 (Or.inr rfl) rfl).trans ((wm_getr xd213_17 rfl (show ml_L[72]? = _ from rfl) rfl (Nat.le_of_ble_eq_true rfl)).trans ((wp_same (S' := [.int (nI 43), .ref 73, .int x4]) xd213_20 (Or.inr rfl) rfl).trans ((wp_same xd213_22 (Or.inr rfl) rfl).trans (wp_same xd213_24 (Or.inr rfl) rfl)))))
theorem x213_25 {x1 : Int32} {x2 : Int32} {x3 : Int32} {x4 : Int32} {x5 : Int32} {k : Nat} {xs2 : Int32} (hk : k < 251) : wp Ln xs 213 25 [.ref 72, .int x1, .int x2, .int x3, .int x4, .int x5] [.int (nI k), .ref 73, .int xs2] (u, ml_h m lm) Φ = if x3 ≤ (m 73 k) then wp Ln xs 213 44 [.ref 72, .int x1, .int x2, .int x3, .int x4, .int x5] [.int xs2] (u, ml_h m lm) Φ else wp Ln xs 213 30 [.ref 72, .int x1, .int x2, .int x3, .int x4, .int x5] [.int xs2] (u, ml_h m lm) Φ := (wm_iald (k := k) xd213_25 ml_ia_73 (by decide) hk).trans ((wp_same xd213_26 (Or.inr rfl) rfl).trans (wx_icmp xd213_27 rfl rfl (x3 ≤ (m 73 k)) mb_ge))
theorem x213_30 {x1 : Int32} {x2 : Int32} {x3 : Int32} {x4 : Int32} {x5 : Int32} {xs0 : Int32} : wp Ln xs 213 30 [.ref 72, .int x1, .int x2, .int x3, .int x4, .int x5] [.int xs0] (u, ml_h m lm) Φ = wp Ln xs 172 0 [.ref 72, .int x1, .int x5, mj_hole, mj_hole] [] (u, ml_h m lm) (mk Ln xs 213 34 [.ref 72, .int x1, .int x2, .int x3, .int x4, .int x5] [.int xs0] Φ) := (wp_same xd213_30 (Or.inr rfl) rfl).trans ((wp_same xd213_31 (Or.inr rfl) rfl).trans ((wp_same xd213_32 (Or.inr rfl) rfl).trans (wm_cv (As := [.int x1, .int x5]) (rest := [.int xs0]) xd213_34 rfl rfl (show ml_L[72]? = _ from rfl) (Nat.le_of_ble_eq_true rfl) (Nat.le_of_ble_eq_true rfl) (Nat.le_of_ble_eq_true rfl) (Nat.le_of_ble_eq_true rfl))))
theorem x213_37 {x1 : Int32} {x2 : Int32} {x3 : Int32} {x4 : Int32} {x5 : Int32} {xs0 : Int32} {xs1 : Int32} : wp Ln xs 213 37 [.ref 72, .int x1, .int x2, .int x3, .int x4, .int x5] [.int xs0, .int xs1] (u, ml_h m lm) Φ = if xs0 = (nI 0) then wp Ln xs 213 44 [.ref 72, .int x1, .int x2, .int x3, .int x4, .int x5] [.int xs1] (u, ml_h m lm) Φ else wp Ln xs 213 40 [.ref 72, .int x1, .int x2, .int x3, .int x4, .int x5] [.int xs1] (u, ml_h m lm) Φ := wx_if xd213_37 rfl rfl (xs0 = (nI 0)) mb_eq
theorem x213_40 {x1 : Int32} {x2 : Int32} {x3 : Int32} {x4 : Int32} {x5 : Int32} {xs0 : Int32} : wp Ln xs 213 40 [.ref 72, .int x1, .int x2, .int x3, .int x4, .int x5] [.int xs0] (u, ml_h m lm) Φ = wp Ln xs 213 45 [.ref 72, .int x1, .int x2, .int x3, .int x4, .int x5] [.int (nI 1), .int xs0] (u, ml_h m lm) Φ := (wp_same (S' := [.int (nI 1), .int xs0]) xd213_40 (Or.inr rfl) rfl).trans (wx_goto xd213_41 rfl)
theorem x213_44 {x1 : Int32} {x2 : Int32} {x3 : Int32} {x4 : Int32} {x5 : Int32} {xs0 : Int32} : wp Ln xs 213 44 [.ref 72, .int x1, .int x2, .int x3, .int x4, .int x5] [.int xs0] (u, ml_h m lm) Φ = wp Ln xs 213 45 [.ref 72, .int x1, .int x2, .int x3, .int x4, .int x5] [.int (nI 0), .int xs0] (u, ml_h m lm) Φ := wp_same (S' := [.int (nI 0), .int xs0]) xd213_44 (Or.inr rfl) rfl
theorem x213_45 {x1 : Int32} {x2 : Int32} {x3 : Int32} {x4 : Int32} {x5 : Int32} {xs0 : Int32} {xs1 : Int32} : wp Ln xs 213 45 [.ref 72, .int x1, .int x2, .int x3, .int x4, .int x5] [.int xs0, .int xs1] (u, ml_h m lm) Φ = wp Ln xs 213 6 [.ref 72, .int x1, .int x2, .int x3, .int (xs1 + xs0), .int (x5 + nI 1)] [] (u, ml_h m lm) Φ := (wp_same xd213_45 (Or.inr rfl) rfl).trans ((wp_same (L' := [.ref 72, .int x1, .int x2, .int x3, .int (xs1 + xs0), .int x5]) xd213_46 (Or.inr rfl) rfl).trans ((wp_same (L' := [.ref 72, .int x1, .int x2, .int x3, .int (xs1 + xs0), .int (x5 + nI 1)]) xd213_48 (Or.inr rfl) rfl).trans (wx_goto xd213_51 rfl)))
theorem x213_54 {x1 : Int32} {x2 : Int32} {x3 : Int32} {x4 : Int32} {x5 : Int32} : wp Ln xs 213 54 [.ref 72, .int x1, .int x2, .int x3, .int x4, .int x5] [] (u, ml_h m lm) Φ = Φ (.inl (some (.int x4))) (u, ml_h m lm) := (wp_same xd213_54 (Or.inr rfl) rfl).trans (wp_fin (v := some (.int x4)) xd213_56 (Or.inr rfl) rfl (mj_fin_i rfl))
/- PickedFormsModel.count -/
theorem xd214_0 : decode (mj_b 214) 0 = .ok (.aload_n 0, 1) := by decide +kernel
theorem xd214_1 : decode (mj_b 214) 1 = .ok (.iload_n 1, 1) := by decide +kernel
theorem xd214_2 : decode (mj_b 214) 2 = .ok (.iconst 0, 1) := by decide +kernel
theorem xd214_3 : decode (mj_b 214) 3 = .ok (.bipush 8, 2) := by decide +kernel
theorem xd214_5 : decode (mj_b 214) 5 = .ok (.invokestatic 38, 3) := by decide +kernel
theorem xd214_8 : decode (mj_b 214) 8 = .ok (.ifCond .eq 7, 3) := by decide +kernel
theorem xd214_11 : decode (mj_b 214) 11 = .ok (.iconst 0, 1) := by decide +kernel
theorem xd214_12 : decode (mj_b 214) 12 = .ok (.goto 4, 3) := by decide +kernel
theorem xd214_15 : decode (mj_b 214) 15 = .ok (.iconst 1, 1) := by decide +kernel
theorem xd214_16 : decode (mj_b 214) 16 = .ok (.invokevirtual 114, 3) := by decide +kernel
theorem xd214_19 : decode (mj_b 214) 19 = .ok (.ifCond .eq 11, 3) := by decide +kernel
theorem xd214_22 : decode (mj_b 214) 22 = .ok (.aload_n 0, 1) := by decide +kernel
theorem xd214_23 : decode (mj_b 214) 23 = .ok (.iload_n 1, 1) := by decide +kernel
theorem xd214_24 : decode (mj_b 214) 24 = .ok (.invokevirtual 219, 3) := by decide +kernel
theorem xd214_27 : decode (mj_b 214) 27 = .ok (.goto 4, 3) := by decide +kernel
theorem xd214_30 : decode (mj_b 214) 30 = .ok (.iconst 0, 1) := by decide +kernel
theorem xd214_31 : decode (mj_b 214) 31 = .ok (.ireturn, 1) := by decide +kernel
theorem x214_0 {x1 : Int32} : wp Ln xs 214 0 [.ref 72, .int x1] [] (u, ml_h m lm) Φ = wp Ln xs 152 0 [.int x1, .int (nI 0), .int (nI 8)] [] (u, ml_h m lm) (mk Ln xs 214 5 [.ref 72, .int x1] [.ref 72] Φ) := (wp_same xd214_0 (Or.inr rfl) rfl).trans ((wp_same xd214_1 (Or.inr rfl) rfl).trans ((wp_same (S' := [.int (nI 0), .int x1, .ref 72]) xd214_2 (Or.inr rfl) rfl).trans ((wp_same (S' := [.int (nI 8), .int (nI 0), .int x1, .ref 72]) xd214_3 (Or.inr rfl) rfl).trans (wm_cs (As := [.int x1, .int (nI 0), .int (nI 8)]) (rest := [.ref 72]) xd214_5 rfl rfl (Nat.le_of_ble_eq_true rfl) (Nat.le_of_ble_eq_true rfl) (Nat.le_of_ble_eq_true rfl) (Nat.le_of_ble_eq_true rfl)))))
theorem x214_8 {x1 : Int32} {xs0 : Int32} : wp Ln xs 214 8 [.ref 72, .int x1] [.int xs0, .ref 72] (u, ml_h m lm) Φ = if xs0 = (nI 0) then wp Ln xs 214 15 [.ref 72, .int x1] [.ref 72] (u, ml_h m lm) Φ else wp Ln xs 214 11 [.ref 72, .int x1] [.ref 72] (u, ml_h m lm) Φ := wx_if xd214_8 rfl rfl (xs0 = (nI 0)) mb_eq
theorem x214_11 {x1 : Int32} : wp Ln xs 214 11 [.ref 72, .int x1] [.ref 72] (u, ml_h m lm) Φ = wp Ln xs 214 16 [.ref 72, .int x1] [.int (nI 0), .ref 72] (u, ml_h m lm) Φ := (wp_same (S' := [.int (nI 0), .ref 72]) xd214_11 (Or.inr rfl) rfl).trans (wx_goto xd214_12 rfl)
theorem x214_15 {x1 : Int32} : wp Ln xs 214 15 [.ref 72, .int x1] [.ref 72] (u, ml_h m lm) Φ = wp Ln xs 214 16 [.ref 72, .int x1] [.int (nI 1), .ref 72] (u, ml_h m lm) Φ := wp_same (S' := [.int (nI 1), .ref 72]) xd214_15 (Or.inr rfl) rfl
theorem x214_16 {x1 : Int32} {xs0 : Int32} : wp Ln xs 214 16 [.ref 72, .int x1] [.int xs0, .ref 72] (u, ml_h m lm) Φ = wp Ln xs 154 0 [.ref 72, .int xs0] [] (u, ml_h m lm) (mk Ln xs 214 16 [.ref 72, .int x1] [] Φ) := wm_cv (As := [.int xs0]) (rest := []) xd214_16 rfl rfl (show ml_L[72]? = _ from rfl) (Nat.le_of_ble_eq_true rfl) (Nat.le_of_ble_eq_true rfl) (Nat.le_of_ble_eq_true rfl) (Nat.le_of_ble_eq_true rfl)
theorem x214_19 {x1 : Int32} {xs0 : Int32} : wp Ln xs 214 19 [.ref 72, .int x1] [.int xs0] (u, ml_h m lm) Φ = if xs0 = (nI 0) then wp Ln xs 214 30 [.ref 72, .int x1] [] (u, ml_h m lm) Φ else wp Ln xs 214 22 [.ref 72, .int x1] [] (u, ml_h m lm) Φ := wx_if xd214_19 rfl rfl (xs0 = (nI 0)) mb_eq
theorem x214_22 {x1 : Int32} : wp Ln xs 214 22 [.ref 72, .int x1] [] (u, ml_h m lm) Φ = wp Ln xs 215 0 [.ref 72, .int x1] [] (u, ml_h m lm) (mk Ln xs 214 24 [.ref 72, .int x1] [] Φ) := (wp_same xd214_22 (Or.inr rfl) rfl).trans ((wp_same xd214_23 (Or.inr rfl) rfl).trans (wm_cv (As := [.int x1]) (rest := []) xd214_24 rfl rfl (show ml_L[72]? = _ from rfl) (Nat.le_of_ble_eq_true rfl) (Nat.le_of_ble_eq_true rfl) (Nat.le_of_ble_eq_true rfl) (Nat.le_of_ble_eq_true rfl)))
theorem x214_27 {x1 : Int32} {xs0 : Int32} : wp Ln xs 214 27 [.ref 72, .int x1] [.int xs0] (u, ml_h m lm) Φ = Φ (.inl (some (.int xs0))) (u, ml_h m lm) := (wx_goto xd214_27 rfl).trans (wp_fin (v := some (.int xs0)) xd214_31 (Or.inr rfl) rfl (mj_fin_i rfl))
theorem x214_30 {x1 : Int32} : wp Ln xs 214 30 [.ref 72, .int x1] [] (u, ml_h m lm) Φ = Φ (.inl (some (.int (nI 0)))) (u, ml_h m lm) := (wp_same (S' := [.int (nI 0)]) xd214_30 (Or.inr rfl) rfl).trans (wp_fin (v := some (.int (nI 0))) xd214_31 (Or.inr rfl) rfl (mj_fin_i rfl))
/- PickedFormsModel.countTold -/
theorem xd215_0 : decode (mj_b 215) 0 = .ok (.iload_n 1, 1) := by decide +kernel
theorem xd215_1 : decode (mj_b 215) 1 = .ok (.tableswitch 91 0 7 #[47, 52, 52, 61, 66, 73, 81, 86], 47) := by decide +kernel
theorem xd215_48 : decode (mj_b 215) 48 = .ok (.aload_n 0, 1) := by decide +kernel
theorem xd215_49 : decode (mj_b 215) 49 = .ok (.invokevirtual 96, 3) := by decide +kernel
theorem xd215_52 : decode (mj_b 215) 52 = .ok (.ireturn, 1) := by decide +kernel
theorem xd215_53 : decode (mj_b 215) 53 = .ok (.aload_n 0, 1) := by decide +kernel
theorem xd215_54 : decode (mj_b 215) 54 = .ok (.getfield 7, 3) := by decide +kernel
theorem xd215_57 : decode (mj_b 215) 57 = .ok (.iload_n 1, 1) := by decide +kernel
theorem xd215_58 : decode (mj_b 215) 58 = .ok (.iconst 1, 1) := by decide +kernel
theorem xd215_59 : decode (mj_b 215) 59 = .ok (.isub, 1) := by decide +kernel
theorem xd215_60 : decode (mj_b 215) 60 = .ok (.iaload, 1) := by decide +kernel
theorem xd215_61 : decode (mj_b 215) 61 = .ok (.ireturn, 1) := by decide +kernel
theorem xd215_62 : decode (mj_b 215) 62 = .ok (.aload_n 0, 1) := by decide +kernel
theorem xd215_63 : decode (mj_b 215) 63 = .ok (.invokevirtual 210, 3) := by decide +kernel
theorem xd215_66 : decode (mj_b 215) 66 = .ok (.ireturn, 1) := by decide +kernel
theorem xd215_67 : decode (mj_b 215) 67 = .ok (.aload_n 0, 1) := by decide +kernel
theorem xd215_68 : decode (mj_b 215) 68 = .ok (.getfield 7, 3) := by decide +kernel
theorem xd215_71 : decode (mj_b 215) 71 = .ok (.iconst 5, 1) := by decide +kernel
theorem xd215_72 : decode (mj_b 215) 72 = .ok (.iaload, 1) := by decide +kernel
theorem xd215_73 : decode (mj_b 215) 73 = .ok (.ireturn, 1) := by decide +kernel
theorem xd215_74 : decode (mj_b 215) 74 = .ok (.aload_n 0, 1) := by decide +kernel
theorem xd215_75 : decode (mj_b 215) 75 = .ok (.getfield 7, 3) := by decide +kernel
theorem xd215_78 : decode (mj_b 215) 78 = .ok (.bipush 6, 2) := by decide +kernel
theorem xd215_80 : decode (mj_b 215) 80 = .ok (.iaload, 1) := by decide +kernel
theorem xd215_81 : decode (mj_b 215) 81 = .ok (.ireturn, 1) := by decide +kernel
theorem xd215_82 : decode (mj_b 215) 82 = .ok (.aload_n 0, 1) := by decide +kernel
theorem xd215_83 : decode (mj_b 215) 83 = .ok (.invokevirtual 213, 3) := by decide +kernel
theorem xd215_86 : decode (mj_b 215) 86 = .ok (.ireturn, 1) := by decide +kernel
theorem xd215_87 : decode (mj_b 215) 87 = .ok (.aload_n 0, 1) := by decide +kernel
theorem xd215_88 : decode (mj_b 215) 88 = .ok (.invokevirtual 216, 3) := by decide +kernel
theorem xd215_91 : decode (mj_b 215) 91 = .ok (.ireturn, 1) := by decide +kernel
theorem xd215_92 : decode (mj_b 215) 92 = .ok (.aload_n 0, 1) := by decide +kernel
theorem xd215_93 : decode (mj_b 215) 93 = .ok (.getfield 42, 3) := by decide +kernel
theorem xd215_96 : decode (mj_b 215) 96 = .ok (.ireturn, 1) := by decide +kernel
theorem x215_0 {x1 : Int32} : wp Ln xs 215 0 [.ref 72, .int x1] [] (u, ml_h m lm) Φ = wp Ln xs 215 1 [.ref 72, .int x1] [.int x1] (u, ml_h m lm) Φ := wp_same xd215_0 (Or.inr rfl) rfl
theorem x215_1_0 {x1 : Int32} : wp Ln xs 215 1 [.ref 72, .int x1] [.int (nI 0)] (u, ml_h m lm) Φ = wp Ln xs 215 48 [.ref 72, .int x1] [] (u, ml_h m lm) Φ := wp_same xd215_1 (Or.inl rfl) rfl
theorem x215_1_1 {x1 : Int32} : wp Ln xs 215 1 [.ref 72, .int x1] [.int (nI 1)] (u, ml_h m lm) Φ = wp Ln xs 215 53 [.ref 72, .int x1] [] (u, ml_h m lm) Φ := wp_same xd215_1 (Or.inl rfl) rfl
theorem x215_1_2 {x1 : Int32} : wp Ln xs 215 1 [.ref 72, .int x1] [.int (nI 2)] (u, ml_h m lm) Φ = wp Ln xs 215 53 [.ref 72, .int x1] [] (u, ml_h m lm) Φ := wp_same xd215_1 (Or.inl rfl) rfl
theorem x215_1_3 {x1 : Int32} : wp Ln xs 215 1 [.ref 72, .int x1] [.int (nI 3)] (u, ml_h m lm) Φ = wp Ln xs 215 62 [.ref 72, .int x1] [] (u, ml_h m lm) Φ := wp_same xd215_1 (Or.inl rfl) rfl
theorem x215_1_4 {x1 : Int32} : wp Ln xs 215 1 [.ref 72, .int x1] [.int (nI 4)] (u, ml_h m lm) Φ = wp Ln xs 215 67 [.ref 72, .int x1] [] (u, ml_h m lm) Φ := wp_same xd215_1 (Or.inl rfl) rfl
theorem x215_1_5 {x1 : Int32} : wp Ln xs 215 1 [.ref 72, .int x1] [.int (nI 5)] (u, ml_h m lm) Φ = wp Ln xs 215 74 [.ref 72, .int x1] [] (u, ml_h m lm) Φ := wp_same xd215_1 (Or.inl rfl) rfl
theorem x215_1_6 {x1 : Int32} : wp Ln xs 215 1 [.ref 72, .int x1] [.int (nI 6)] (u, ml_h m lm) Φ = wp Ln xs 215 82 [.ref 72, .int x1] [] (u, ml_h m lm) Φ := wp_same xd215_1 (Or.inl rfl) rfl
theorem x215_1_7 {x1 : Int32} : wp Ln xs 215 1 [.ref 72, .int x1] [.int (nI 7)] (u, ml_h m lm) Φ = wp Ln xs 215 87 [.ref 72, .int x1] [] (u, ml_h m lm) Φ := wp_same xd215_1 (Or.inl rfl) rfl
theorem x215_1_8 {x1 : Int32} : wp Ln xs 215 1 [.ref 72, .int x1] [.int (nI 8)] (u, ml_h m lm) Φ = wp Ln xs 215 92 [.ref 72, .int x1] [] (u, ml_h m lm) Φ := wp_same xd215_1 (Or.inl rfl) rfl
theorem x215_1_9 {x1 : Int32} : wp Ln xs 215 1 [.ref 72, .int x1] [.int (nI 9)] (u, ml_h m lm) Φ = wp Ln xs 215 92 [.ref 72, .int x1] [] (u, ml_h m lm) Φ := wp_same xd215_1 (Or.inl rfl) rfl
theorem x215_1_10 {x1 : Int32} : wp Ln xs 215 1 [.ref 72, .int x1] [.int (nI 10)] (u, ml_h m lm) Φ = wp Ln xs 215 92 [.ref 72, .int x1] [] (u, ml_h m lm) Φ := wp_same xd215_1 (Or.inl rfl) rfl
theorem x215_48 {x1 : Int32} : wp Ln xs 215 48 [.ref 72, .int x1] [] (u, ml_h m lm) Φ = wp Ln xs 158 0 [.ref 72] [] (u, ml_h m lm) (mk Ln xs 215 49 [.ref 72, .int x1] [] Φ) := (wp_same xd215_48 (Or.inr rfl) rfl).trans (wm_cv (As := []) (rest := []) xd215_49 rfl rfl (show ml_L[72]? = _ from rfl) (Nat.le_of_ble_eq_true rfl) (Nat.le_of_ble_eq_true rfl) (Nat.le_of_ble_eq_true rfl) (Nat.le_of_ble_eq_true rfl))
theorem x215_52 {x1 : Int32} {xs0 : Int32} : wp Ln xs 215 52 [.ref 72, .int x1] [.int xs0] (u, ml_h m lm) Φ = Φ (.inl (some (.int xs0))) (u, ml_h m lm) := wp_fin (v := some (.int xs0)) xd215_52 (Or.inr rfl) rfl (mj_fin_i rfl)
theorem x215_53 {x1 : Int32} : wp Ln xs 215 53 [.ref 72, .int x1] [] (u, ml_h m lm) Φ = wp Ln xs 215 60 [.ref 72, .int x1] [.int (x1 - (nI 1)), .ref 73] (u, ml_h m lm) Φ := (wp_same xd215_53 (Or.inr rfl) rfl).trans ((wm_getr xd215_54 rfl (show ml_L[72]? = _ from rfl) rfl (Nat.le_of_ble_eq_true rfl)).trans ((wp_same xd215_57 (Or.inr rfl) rfl).trans ((wp_same (S' := [.int (nI 1), .int x1, .ref 73]) xd215_58 (Or.inr rfl) rfl).trans (wp_same xd215_59 (Or.inr rfl) rfl))))
theorem x215_60 {x1 : Int32} {k : Nat} (hk : k < 251) : wp Ln xs 215 60 [.ref 72, .int x1] [.int (nI k), .ref 73] (u, ml_h m lm) Φ = Φ (.inl (some (.int (m 73 k)))) (u, ml_h m lm) := (wm_iald (k := k) xd215_60 ml_ia_73 (by decide) hk).trans (wp_fin (v := some (.int (m 73 k))) xd215_61 (Or.inr rfl) rfl (mj_fin_i rfl))
theorem x215_62 {x1 : Int32} : wp Ln xs 215 62 [.ref 72, .int x1] [] (u, ml_h m lm) Φ = wp Ln xs 216 0 [.ref 72, mj_hole, mj_hole] [] (u, ml_h m lm) (mk Ln xs 215 63 [.ref 72, .int x1] [] Φ) := (wp_same xd215_62 (Or.inr rfl) rfl).trans (wm_cv (As := []) (rest := []) xd215_63 rfl rfl (show ml_L[72]? = _ from rfl) (Nat.le_of_ble_eq_true rfl) (Nat.le_of_ble_eq_true rfl) (Nat.le_of_ble_eq_true rfl) (Nat.le_of_ble_eq_true rfl))
theorem x215_66 {x1 : Int32} {xs0 : Int32} : wp Ln xs 215 66 [.ref 72, .int x1] [.int xs0] (u, ml_h m lm) Φ = Φ (.inl (some (.int xs0))) (u, ml_h m lm) := wp_fin (v := some (.int xs0)) xd215_66 (Or.inr rfl) rfl (mj_fin_i rfl)
theorem x215_67 {x1 : Int32} : wp Ln xs 215 67 [.ref 72, .int x1] [] (u, ml_h m lm) Φ = Φ (.inl (some (.int (m 73 5)))) (u, ml_h m lm) := (wp_same xd215_67 (Or.inr rfl) rfl).trans ((wm_getr xd215_68 rfl (show ml_L[72]? = _ from rfl) rfl (Nat.le_of_ble_eq_true rfl)).trans ((wp_same (S' := [.int (nI 5), .ref 73]) xd215_71 (Or.inr rfl) rfl).trans ((wm_iald (k := 5) xd215_72 ml_ia_73 (by decide) (Nat.le_of_ble_eq_true rfl)).trans (wp_fin (v := some (.int (m 73 5))) xd215_73 (Or.inr rfl) rfl (mj_fin_i rfl)))))
theorem x215_74 {x1 : Int32} : wp Ln xs 215 74 [.ref 72, .int x1] [] (u, ml_h m lm) Φ = Φ (.inl (some (.int (m 73 6)))) (u, ml_h m lm) := (wp_same xd215_74 (Or.inr rfl) rfl).trans ((wm_getr xd215_75 rfl (show ml_L[72]? = _ from rfl) rfl (Nat.le_of_ble_eq_true rfl)).trans ((wp_same (S' := [.int (nI 6), .ref 73]) xd215_78 (Or.inr rfl) rfl).trans ((wm_iald (k := 6) xd215_80 ml_ia_73 (by decide) (Nat.le_of_ble_eq_true rfl)).trans (wp_fin (v := some (.int (m 73 6))) xd215_81 (Or.inr rfl) rfl (mj_fin_i rfl)))))
theorem x215_82 {x1 : Int32} : wp Ln xs 215 82 [.ref 72, .int x1] [] (u, ml_h m lm) Φ = wp Ln xs 217 0 [.ref 72, mj_hole, mj_hole] [] (u, ml_h m lm) (mk Ln xs 215 83 [.ref 72, .int x1] [] Φ) := (wp_same xd215_82 (Or.inr rfl) rfl).trans (wm_cv (As := []) (rest := []) xd215_83 rfl rfl (show ml_L[72]? = _ from rfl) (Nat.le_of_ble_eq_true rfl) (Nat.le_of_ble_eq_true rfl) (Nat.le_of_ble_eq_true rfl) (Nat.le_of_ble_eq_true rfl))
theorem x215_86 {x1 : Int32} {xs0 : Int32} : wp Ln xs 215 86 [.ref 72, .int x1] [.int xs0] (u, ml_h m lm) Φ = Φ (.inl (some (.int xs0))) (u, ml_h m lm) := wp_fin (v := some (.int xs0)) xd215_86 (Or.inr rfl) rfl (mj_fin_i rfl)
theorem x215_87 {x1 : Int32} : wp Ln xs 215 87 [.ref 72, .int x1] [] (u, ml_h m lm) Φ = wp Ln xs 218 0 [.ref 72, mj_hole, mj_hole] [] (u, ml_h m lm) (mk Ln xs 215 88 [.ref 72, .int x1] [] Φ) := (wp_same xd215_87 (Or.inr rfl) rfl).trans (wm_cv (As := []) (rest := []) xd215_88 rfl rfl (show ml_L[72]? = _ from rfl) (Nat.le_of_ble_eq_true rfl) (Nat.le_of_ble_eq_true rfl) (Nat.le_of_ble_eq_true rfl) (Nat.le_of_ble_eq_true rfl))
theorem x215_91 {x1 : Int32} {xs0 : Int32} : wp Ln xs 215 91 [.ref 72, .int x1] [.int xs0] (u, ml_h m lm) Φ = Φ (.inl (some (.int xs0))) (u, ml_h m lm) := wp_fin (v := some (.int xs0)) xd215_91 (Or.inr rfl) rfl (mj_fin_i rfl)
theorem x215_92 {x1 : Int32} : wp Ln xs 215 92 [.ref 72, .int x1] [] (u, ml_h m lm) Φ = Φ (.inl (some (.int (m 72 2)))) (u, ml_h m lm) := (wp_same xd215_92 (Or.inr rfl) rfl).trans ((wm_geti xd215_93 rfl (show ml_L[72]? = _ from rfl) rfl (Nat.le_of_ble_eq_true rfl)).trans (wp_fin (v := some (.int (m 72 2))) xd215_96 (Or.inr rfl) rfl (mj_fin_i rfl)))
/- PickedFormsModel.allBits -/
theorem xd216_0 : decode (mj_b 216) 0 = .ok (.bipush 10, 2) := by decide +kernel
theorem xd216_2 : decode (mj_b 216) 2 = .ok (.aload_n 0, 1) := by decide +kernel
theorem xd216_3 : decode (mj_b 216) 3 = .ok (.getfield 7, 3) := by decide +kernel
theorem xd216_6 : decode (mj_b 216) 6 = .ok (.iconst 1, 1) := by decide +kernel
theorem xd216_7 : decode (mj_b 216) 7 = .ok (.iaload, 1) := by decide +kernel
theorem xd216_8 : decode (mj_b 216) 8 = .ok (.imul, 1) := by decide +kernel
theorem xd216_9 : decode (mj_b 216) 9 = .ok (.istore_n 1, 1) := by decide +kernel
theorem xd216_10 : decode (mj_b 216) 10 = .ok (.iconst 0, 1) := by decide +kernel
theorem xd216_11 : decode (mj_b 216) 11 = .ok (.istore_n 2, 1) := by decide +kernel
theorem xd216_12 : decode (mj_b 216) 12 = .ok (.iload_n 2, 1) := by decide +kernel
theorem xd216_13 : decode (mj_b 216) 13 = .ok (.aload_n 0, 1) := by decide +kernel
theorem xd216_14 : decode (mj_b 216) 14 = .ok (.getfield 7, 3) := by decide +kernel
theorem xd216_17 : decode (mj_b 216) 17 = .ok (.iconst 0, 1) := by decide +kernel
theorem xd216_18 : decode (mj_b 216) 18 = .ok (.iaload, 1) := by decide +kernel
theorem xd216_19 : decode (mj_b 216) 19 = .ok (.if_icmp .ge 24, 3) := by decide +kernel
theorem xd216_22 : decode (mj_b 216) 22 = .ok (.iload_n 1, 1) := by decide +kernel
theorem xd216_23 : decode (mj_b 216) 23 = .ok (.aload_n 0, 1) := by decide +kernel
theorem xd216_24 : decode (mj_b 216) 24 = .ok (.getfield 7, 3) := by decide +kernel
theorem xd216_27 : decode (mj_b 216) 27 = .ok (.bipush 31, 2) := by decide +kernel
theorem xd216_29 : decode (mj_b 216) 29 = .ok (.iload_n 2, 1) := by decide +kernel
theorem xd216_30 : decode (mj_b 216) 30 = .ok (.iadd, 1) := by decide +kernel
theorem xd216_31 : decode (mj_b 216) 31 = .ok (.iaload, 1) := by decide +kernel
theorem xd216_32 : decode (mj_b 216) 32 = .ok (.bipush 7, 2) := by decide +kernel
theorem xd216_34 : decode (mj_b 216) 34 = .ok (.iadd, 1) := by decide +kernel
theorem xd216_35 : decode (mj_b 216) 35 = .ok (.iadd, 1) := by decide +kernel
theorem xd216_36 : decode (mj_b 216) 36 = .ok (.istore_n 1, 1) := by decide +kernel
theorem xd216_37 : decode (mj_b 216) 37 = .ok (.iinc 2 1, 3) := by decide +kernel
theorem xd216_40 : decode (mj_b 216) 40 = .ok (.goto (-28), 3) := by decide +kernel
theorem xd216_43 : decode (mj_b 216) 43 = .ok (.iload_n 1, 1) := by decide +kernel
theorem xd216_44 : decode (mj_b 216) 44 = .ok (.ireturn, 1) := by decide +kernel
theorem x216_0 : wp Ln xs 216 0 [.ref 72, mj_hole, mj_hole] [] (u, ml_h m lm) Φ = wp Ln xs 216 12 [.ref 72, .int ((nI 10) * (m 73 1)), .int (nI 0)] [] (u, ml_h m lm) Φ := (wp_same (S' := [.int (nI 10)]) xd216_0 (Or.inr rfl) rfl).trans ((wp_same xd216_2 (Or.inr rfl) rfl).trans ((wm_getr xd216_3 rfl (show ml_L[72]? = _ from rfl) rfl (Nat.le_of_ble_eq_true rfl)).trans ((wp_same (S' := [.int (nI 1), .ref 73, .int (nI 10)]) xd216_6 (Or.inr rfl) rfl).trans ((wm_iald (k := 1) xd216_7 ml_ia_73 (by decide) (Nat.le_of_ble_eq_true rfl)).trans ((wp_same xd216_8 (Or.inr rfl) rfl).trans ((wp_same (L' := [.ref 72, .int ((nI 10) * (m 73 1)), mj_hole]) xd216_9 (Or.inr rfl) rfl).trans ((wp_same (S' := [.int (nI 0)]) xd216_10 (Or.inr rfl) rfl).trans (wp_same (L' := [.ref 72, .int ((nI 10) * (m 73 1)), .int (nI 0)]) xd216_11 (Or.inr rfl) rfl))))))))
theorem x216_12 {x1 : Int32} {x2 : Int32} : wp Ln xs 216 12 [.ref 72, .int x1, .int x2] [] (u, ml_h m lm) Φ = if (m 73 0) ≤ x2 then wp Ln xs 216 43 [.ref 72, .int x1, .int x2] [] (u, ml_h m lm) Φ else wp Ln xs 216 22 [.ref 72, .int x1, .int x2] [] (u, ml_h m lm) Φ := (wp_same xd216_12 (Or.inr rfl) rfl).trans ((wp_same xd216_13 (Or.inr rfl) rfl).trans ((wm_getr xd216_14 rfl (show ml_L[72]? = _ from rfl) rfl (Nat.le_of_ble_eq_true rfl)).trans ((wp_same (S' := [.int (nI 0), .ref 73, .int x2]) xd216_17 (Or.inr rfl) rfl).trans ((wm_iald (k := 0) xd216_18 ml_ia_73 (by decide) (Nat.le_of_ble_eq_true rfl)).trans (wx_icmp xd216_19 rfl rfl ((m 73 0) ≤ x2) mb_ge)))))
theorem x216_22 {x1 : Int32} {x2 : Int32} : wp Ln xs 216 22 [.ref 72, .int x1, .int x2] [] (u, ml_h m lm) Φ = wp Ln xs 216 31 [.ref 72, .int x1, .int x2] [.int ((nI 31) + x2), .ref 73, .int x1] (u, ml_h m lm) Φ := (wp_same xd216_22 (Or.inr rfl) rfl).trans ((wp_same xd216_23 (Or.inr rfl) rfl).trans ((wm_getr xd216_24 rfl (show ml_L[72]? = _ from rfl) rfl (Nat.le_of_ble_eq_true rfl)).trans ((wp_same (S' := [.int (nI 31), .ref 73, .int x1]) xd216_27 (Or.inr rfl) rfl).trans ((wp_same xd216_29 (Or.inr rfl) rfl).trans (wp_same xd216_30 (Or.inr rfl) rfl)))))
theorem x216_31 {x1 : Int32} {x2 : Int32} {k : Nat} {xs2 : Int32} (hk : k < 251) : wp Ln xs 216 31 [.ref 72, .int x1, .int x2] [.int (nI k), .ref 73, .int xs2] (u, ml_h m lm) Φ = wp Ln xs 216 12 [.ref 72, .int (xs2 + ((m 73 k) + (nI 7))), .int (x2 + nI 1)] [] (u, ml_h m lm) Φ := (wm_iald (k := k) xd216_31 ml_ia_73 (by decide) hk).trans ((wp_same (S' := [.int (nI 7), .int (m 73 k), .int xs2]) xd216_32 (Or.inr rfl) rfl).trans ((wp_same xd216_34 (Or.inr rfl) rfl).trans ((wp_same xd216_35 (Or.inr rfl) rfl).trans ((wp_same (L' := [.ref 72, .int (xs2 + ((m 73 k) + (nI 7))), .int x2]) xd216_36 (Or.inr rfl) rfl).trans ((wp_same (L' := [.ref 72, .int (xs2 + ((m 73 k) + (nI 7))), .int (x2 + nI 1)]) xd216_37 (Or.inr rfl) rfl).trans (wx_goto xd216_40 rfl))))))
theorem x216_43 {x1 : Int32} {x2 : Int32} : wp Ln xs 216 43 [.ref 72, .int x1, .int x2] [] (u, ml_h m lm) Φ = Φ (.inl (some (.int x1))) (u, ml_h m lm) := (wp_same xd216_43 (Or.inr rfl) rfl).trans (wp_fin (v := some (.int x1)) xd216_44 (Or.inr rfl) rfl (mj_fin_i rfl))
/- PickedFormsModel.unused -/
theorem xd217_0 : decode (mj_b 217) 0 = .ok (.iconst 0, 1) := by decide +kernel
theorem xd217_1 : decode (mj_b 217) 1 = .ok (.istore_n 1, 1) := by decide +kernel
theorem xd217_2 : decode (mj_b 217) 2 = .ok (.iconst 0, 1) := by decide +kernel
theorem xd217_3 : decode (mj_b 217) 3 = .ok (.istore_n 2, 1) := by decide +kernel
theorem xd217_4 : decode (mj_b 217) 4 = .ok (.iload_n 2, 1) := by decide +kernel
theorem xd217_5 : decode (mj_b 217) 5 = .ok (.aload_n 0, 1) := by decide +kernel
theorem xd217_6 : decode (mj_b 217) 6 = .ok (.getfield 7, 3) := by decide +kernel
theorem xd217_9 : decode (mj_b 217) 9 = .ok (.iconst 0, 1) := by decide +kernel
theorem xd217_10 : decode (mj_b 217) 10 = .ok (.iaload, 1) := by decide +kernel
theorem xd217_11 : decode (mj_b 217) 11 = .ok (.if_icmp .ge 27, 3) := by decide +kernel
theorem xd217_14 : decode (mj_b 217) 14 = .ok (.iload_n 1, 1) := by decide +kernel
theorem xd217_15 : decode (mj_b 217) 15 = .ok (.aload_n 0, 1) := by decide +kernel
theorem xd217_16 : decode (mj_b 217) 16 = .ok (.getfield 7, 3) := by decide +kernel
theorem xd217_19 : decode (mj_b 217) 19 = .ok (.bipush 31, 2) := by decide +kernel
theorem xd217_21 : decode (mj_b 217) 21 = .ok (.iload_n 2, 1) := by decide +kernel
theorem xd217_22 : decode (mj_b 217) 22 = .ok (.iadd, 1) := by decide +kernel
theorem xd217_23 : decode (mj_b 217) 23 = .ok (.iaload, 1) := by decide +kernel
theorem xd217_24 : decode (mj_b 217) 24 = .ok (.aload_n 0, 1) := by decide +kernel
theorem xd217_25 : decode (mj_b 217) 25 = .ok (.iload_n 2, 1) := by decide +kernel
theorem xd217_26 : decode (mj_b 217) 26 = .ok (.invokevirtual 89, 3) := by decide +kernel
theorem xd217_29 : decode (mj_b 217) 29 = .ok (.isub, 1) := by decide +kernel
theorem xd217_30 : decode (mj_b 217) 30 = .ok (.iadd, 1) := by decide +kernel
theorem xd217_31 : decode (mj_b 217) 31 = .ok (.istore_n 1, 1) := by decide +kernel
theorem xd217_32 : decode (mj_b 217) 32 = .ok (.iinc 2 1, 3) := by decide +kernel
theorem xd217_35 : decode (mj_b 217) 35 = .ok (.goto (-31), 3) := by decide +kernel
theorem xd217_38 : decode (mj_b 217) 38 = .ok (.iload_n 1, 1) := by decide +kernel
theorem xd217_39 : decode (mj_b 217) 39 = .ok (.ireturn, 1) := by decide +kernel
theorem x217_0 : wp Ln xs 217 0 [.ref 72, mj_hole, mj_hole] [] (u, ml_h m lm) Φ = wp Ln xs 217 4 [.ref 72, .int (nI 0), .int (nI 0)] [] (u, ml_h m lm) Φ := (wp_same (S' := [.int (nI 0)]) xd217_0 (Or.inr rfl) rfl).trans ((wp_same (L' := [.ref 72, .int (nI 0), mj_hole]) xd217_1 (Or.inr rfl) rfl).trans ((wp_same (S' := [.int (nI 0)]) xd217_2 (Or.inr rfl) rfl).trans (wp_same (L' := [.ref 72, .int (nI 0), .int (nI 0)]) xd217_3 (Or.inr rfl) rfl)))
theorem x217_4 {x1 : Int32} {x2 : Int32} : wp Ln xs 217 4 [.ref 72, .int x1, .int x2] [] (u, ml_h m lm) Φ = if (m 73 0) ≤ x2 then wp Ln xs 217 38 [.ref 72, .int x1, .int x2] [] (u, ml_h m lm) Φ else wp Ln xs 217 14 [.ref 72, .int x1, .int x2] [] (u, ml_h m lm) Φ := (wp_same xd217_4 (Or.inr rfl) rfl).trans ((wp_same xd217_5 (Or.inr rfl) rfl).trans ((wm_getr xd217_6 rfl (show ml_L[72]? = _ from rfl) rfl (Nat.le_of_ble_eq_true rfl)).trans ((wp_same (S' := [.int (nI 0), .ref 73, .int x2]) xd217_9 (Or.inr rfl) rfl).trans ((wm_iald (k := 0) xd217_10 ml_ia_73 (by decide) (Nat.le_of_ble_eq_true rfl)).trans (wx_icmp xd217_11 rfl rfl ((m 73 0) ≤ x2) mb_ge)))))
theorem x217_14 {x1 : Int32} {x2 : Int32} : wp Ln xs 217 14 [.ref 72, .int x1, .int x2] [] (u, ml_h m lm) Φ = wp Ln xs 217 23 [.ref 72, .int x1, .int x2] [.int ((nI 31) + x2), .ref 73, .int x1] (u, ml_h m lm) Φ := (wp_same xd217_14 (Or.inr rfl) rfl).trans ((wp_same xd217_15 (Or.inr rfl) rfl).trans ((wm_getr xd217_16 rfl (show ml_L[72]? = _ from rfl) rfl (Nat.le_of_ble_eq_true rfl)).trans ((wp_same (S' := [.int (nI 31), .ref 73, .int x1]) xd217_19 (Or.inr rfl) rfl).trans ((wp_same xd217_21 (Or.inr rfl) rfl).trans (wp_same xd217_22 (Or.inr rfl) rfl)))))
theorem x217_23 {x1 : Int32} {x2 : Int32} {k : Nat} {xs2 : Int32} (hk : k < 251) : wp Ln xs 217 23 [.ref 72, .int x1, .int x2] [.int (nI k), .ref 73, .int xs2] (u, ml_h m lm) Φ = wp Ln xs 173 0 [.ref 72, .int x2] [] (u, ml_h m lm) (mk Ln xs 217 26 [.ref 72, .int x1, .int x2] [.int (m 73 k), .int xs2] Φ) := (wm_iald (k := k) xd217_23 ml_ia_73 (by decide) hk).trans ((wp_same xd217_24 (Or.inr rfl) rfl).trans ((wp_same xd217_25 (Or.inr rfl) rfl).trans (wm_cv (As := [.int x2]) (rest := [.int (m 73 k), .int xs2]) xd217_26 rfl rfl (show ml_L[72]? = _ from rfl) (Nat.le_of_ble_eq_true rfl) (Nat.le_of_ble_eq_true rfl) (Nat.le_of_ble_eq_true rfl) (Nat.le_of_ble_eq_true rfl))))
theorem x217_29 {x1 : Int32} {x2 : Int32} {xs0 : Int32} {xs1 : Int32} {xs2 : Int32} : wp Ln xs 217 29 [.ref 72, .int x1, .int x2] [.int xs0, .int xs1, .int xs2] (u, ml_h m lm) Φ = wp Ln xs 217 4 [.ref 72, .int (xs2 + (xs1 - xs0)), .int (x2 + nI 1)] [] (u, ml_h m lm) Φ := (wp_same xd217_29 (Or.inr rfl) rfl).trans ((wp_same xd217_30 (Or.inr rfl) rfl).trans ((wp_same (L' := [.ref 72, .int (xs2 + (xs1 - xs0)), .int x2]) xd217_31 (Or.inr rfl) rfl).trans ((wp_same (L' := [.ref 72, .int (xs2 + (xs1 - xs0)), .int (x2 + nI 1)]) xd217_32 (Or.inr rfl) rfl).trans (wx_goto xd217_35 rfl))))
theorem x217_38 {x1 : Int32} {x2 : Int32} : wp Ln xs 217 38 [.ref 72, .int x1, .int x2] [] (u, ml_h m lm) Φ = Φ (.inl (some (.int x1))) (u, ml_h m lm) := (wp_same xd217_38 (Or.inr rfl) rfl).trans (wp_fin (v := some (.int x1)) xd217_39 (Or.inr rfl) rfl (mj_fin_i rfl))
/- PickedFormsModel.sum -/
theorem xd218_0 : decode (mj_b 218) 0 = .ok (.iconst 0, 1) := by decide +kernel
theorem xd218_1 : decode (mj_b 218) 1 = .ok (.istore_n 1, 1) := by decide +kernel
theorem xd218_2 : decode (mj_b 218) 2 = .ok (.iconst 0, 1) := by decide +kernel
theorem xd218_3 : decode (mj_b 218) 3 = .ok (.istore_n 2, 1) := by decide +kernel
theorem xd218_4 : decode (mj_b 218) 4 = .ok (.iload_n 2, 1) := by decide +kernel
theorem xd218_5 : decode (mj_b 218) 5 = .ok (.aload_n 0, 1) := by decide +kernel
theorem xd218_6 : decode (mj_b 218) 6 = .ok (.invokevirtual 96, 3) := by decide +kernel
theorem xd218_9 : decode (mj_b 218) 9 = .ok (.if_icmp .ge 21, 3) := by decide +kernel
theorem xd218_12 : decode (mj_b 218) 12 = .ok (.iload_n 1, 1) := by decide +kernel
theorem xd218_13 : decode (mj_b 218) 13 = .ok (.aload_n 0, 1) := by decide +kernel
theorem xd218_14 : decode (mj_b 218) 14 = .ok (.getfield 7, 3) := by decide +kernel
theorem xd218_17 : decode (mj_b 218) 17 = .ok (.bipush 43, 2) := by decide +kernel
theorem xd218_19 : decode (mj_b 218) 19 = .ok (.iload_n 2, 1) := by decide +kernel
theorem xd218_20 : decode (mj_b 218) 20 = .ok (.iadd, 1) := by decide +kernel
theorem xd218_21 : decode (mj_b 218) 21 = .ok (.iaload, 1) := by decide +kernel
theorem xd218_22 : decode (mj_b 218) 22 = .ok (.iadd, 1) := by decide +kernel
theorem xd218_23 : decode (mj_b 218) 23 = .ok (.istore_n 1, 1) := by decide +kernel
theorem xd218_24 : decode (mj_b 218) 24 = .ok (.iinc 2 1, 3) := by decide +kernel
theorem xd218_27 : decode (mj_b 218) 27 = .ok (.goto (-23), 3) := by decide +kernel
theorem xd218_30 : decode (mj_b 218) 30 = .ok (.iload_n 1, 1) := by decide +kernel
theorem xd218_31 : decode (mj_b 218) 31 = .ok (.ireturn, 1) := by decide +kernel
theorem x218_0 : wp Ln xs 218 0 [.ref 72, mj_hole, mj_hole] [] (u, ml_h m lm) Φ = wp Ln xs 218 4 [.ref 72, .int (nI 0), .int (nI 0)] [] (u, ml_h m lm) Φ := (wp_same (S' := [.int (nI 0)]) xd218_0 (Or.inr rfl) rfl).trans ((wp_same (L' := [.ref 72, .int (nI 0), mj_hole]) xd218_1 (Or.inr rfl) rfl).trans ((wp_same (S' := [.int (nI 0)]) xd218_2 (Or.inr rfl) rfl).trans (wp_same (L' := [.ref 72, .int (nI 0), .int (nI 0)]) xd218_3 (Or.inr rfl) rfl)))
theorem x218_4 {x1 : Int32} {x2 : Int32} : wp Ln xs 218 4 [.ref 72, .int x1, .int x2] [] (u, ml_h m lm) Φ = wp Ln xs 158 0 [.ref 72] [] (u, ml_h m lm) (mk Ln xs 218 6 [.ref 72, .int x1, .int x2] [.int x2] Φ) := (wp_same xd218_4 (Or.inr rfl) rfl).trans ((wp_same xd218_5 (Or.inr rfl) rfl).trans (wm_cv (As := []) (rest := [.int x2]) xd218_6 rfl rfl (show ml_L[72]? = _ from rfl) (Nat.le_of_ble_eq_true rfl) (Nat.le_of_ble_eq_true rfl) (Nat.le_of_ble_eq_true rfl) (Nat.le_of_ble_eq_true rfl)))
theorem x218_9 {x1 : Int32} {x2 : Int32} {xs0 : Int32} {xs1 : Int32} : wp Ln xs 218 9 [.ref 72, .int x1, .int x2] [.int xs0, .int xs1] (u, ml_h m lm) Φ = if xs0 ≤ xs1 then wp Ln xs 218 30 [.ref 72, .int x1, .int x2] [] (u, ml_h m lm) Φ else wp Ln xs 218 12 [.ref 72, .int x1, .int x2] [] (u, ml_h m lm) Φ := wx_icmp xd218_9 rfl rfl (xs0 ≤ xs1) mb_ge
theorem x218_12 {x1 : Int32} {x2 : Int32} : wp Ln xs 218 12 [.ref 72, .int x1, .int x2] [] (u, ml_h m lm) Φ = wp Ln xs 218 21 [.ref 72, .int x1, .int x2] [.int ((nI 43) + x2), .ref 73, .int x1] (u, ml_h m lm) Φ := (wp_same xd218_12 (Or.inr rfl) rfl).trans ((wp_same xd218_13 (Or.inr rfl) rfl).trans ((wm_getr xd218_14 rfl (show ml_L[72]? = _ from rfl) rfl (Nat.le_of_ble_eq_true rfl)).trans ((wp_same (S' := [.int (nI 43), .ref 73, .int x1]) xd218_17 (Or.inr rfl) rfl).trans ((wp_same xd218_19 (Or.inr rfl) rfl).trans (wp_same xd218_20 (Or.inr rfl) rfl)))))
theorem x218_21 {x1 : Int32} {x2 : Int32} {k : Nat} {xs2 : Int32} (hk : k < 251) : wp Ln xs 218 21 [.ref 72, .int x1, .int x2] [.int (nI k), .ref 73, .int xs2] (u, ml_h m lm) Φ = wp Ln xs 218 4 [.ref 72, .int (xs2 + (m 73 k)), .int (x2 + nI 1)] [] (u, ml_h m lm) Φ := (wm_iald (k := k) xd218_21 ml_ia_73 (by decide) hk).trans ((wp_same xd218_22 (Or.inr rfl) rfl).trans ((wp_same (L' := [.ref 72, .int (xs2 + (m 73 k)), .int x2]) xd218_23 (Or.inr rfl) rfl).trans ((wp_same (L' := [.ref 72, .int (xs2 + (m 73 k)), .int (x2 + nI 1)]) xd218_24 (Or.inr rfl) rfl).trans (wx_goto xd218_27 rfl))))
theorem x218_30 {x1 : Int32} {x2 : Int32} : wp Ln xs 218 30 [.ref 72, .int x1, .int x2] [] (u, ml_h m lm) Φ = Φ (.inl (some (.int x1))) (u, ml_h m lm) := (wp_same xd218_30 (Or.inr rfl) rfl).trans (wp_fin (v := some (.int x1)) xd218_31 (Or.inr rfl) rfl (mj_fin_i rfl))
/- PickedFormsModel.setting -/
theorem xd219_0 : decode (mj_b 219) 0 = .ok (.aload_n 0, 1) := by decide +kernel
theorem xd219_1 : decode (mj_b 219) 1 = .ok (.iload_n 1, 1) := by decide +kernel
theorem xd219_2 : decode (mj_b 219) 2 = .ok (.iconst 0, 1) := by decide +kernel
theorem xd219_3 : decode (mj_b 219) 3 = .ok (.iconst 2, 1) := by decide +kernel
theorem xd219_4 : decode (mj_b 219) 4 = .ok (.invokestatic 38, 3) := by decide +kernel
theorem xd219_7 : decode (mj_b 219) 7 = .ok (.ifCond .eq 7, 3) := by decide +kernel
theorem xd219_10 : decode (mj_b 219) 10 = .ok (.iconst 0, 1) := by decide +kernel
theorem xd219_11 : decode (mj_b 219) 11 = .ok (.goto 4, 3) := by decide +kernel
theorem xd219_14 : decode (mj_b 219) 14 = .ok (.iconst 1, 1) := by decide +kernel
theorem xd219_15 : decode (mj_b 219) 15 = .ok (.invokevirtual 114, 3) := by decide +kernel
theorem xd219_18 : decode (mj_b 219) 18 = .ok (.ifCond .eq 14, 3) := by decide +kernel
theorem xd219_21 : decode (mj_b 219) 21 = .ok (.aload_n 0, 1) := by decide +kernel
theorem xd219_22 : decode (mj_b 219) 22 = .ok (.getfield 7, 3) := by decide +kernel
theorem xd219_25 : decode (mj_b 219) 25 = .ok (.iconst 2, 1) := by decide +kernel
theorem xd219_26 : decode (mj_b 219) 26 = .ok (.iload_n 1, 1) := by decide +kernel
theorem xd219_27 : decode (mj_b 219) 27 = .ok (.iadd, 1) := by decide +kernel
theorem xd219_28 : decode (mj_b 219) 28 = .ok (.iaload, 1) := by decide +kernel
theorem xd219_29 : decode (mj_b 219) 29 = .ok (.goto 4, 3) := by decide +kernel
theorem xd219_32 : decode (mj_b 219) 32 = .ok (.iconst 0, 1) := by decide +kernel
theorem xd219_33 : decode (mj_b 219) 33 = .ok (.ireturn, 1) := by decide +kernel
theorem x219_0 {x1 : Int32} : wp Ln xs 219 0 [.ref 72, .int x1] [] (u, ml_h m lm) Φ = wp Ln xs 152 0 [.int x1, .int (nI 0), .int (nI 2)] [] (u, ml_h m lm) (mk Ln xs 219 4 [.ref 72, .int x1] [.ref 72] Φ) := (wp_same xd219_0 (Or.inr rfl) rfl).trans ((wp_same xd219_1 (Or.inr rfl) rfl).trans ((wp_same (S' := [.int (nI 0), .int x1, .ref 72]) xd219_2 (Or.inr rfl) rfl).trans ((wp_same (S' := [.int (nI 2), .int (nI 0), .int x1, .ref 72]) xd219_3 (Or.inr rfl) rfl).trans (wm_cs (As := [.int x1, .int (nI 0), .int (nI 2)]) (rest := [.ref 72]) xd219_4 rfl rfl (Nat.le_of_ble_eq_true rfl) (Nat.le_of_ble_eq_true rfl) (Nat.le_of_ble_eq_true rfl) (Nat.le_of_ble_eq_true rfl)))))
theorem x219_7 {x1 : Int32} {xs0 : Int32} : wp Ln xs 219 7 [.ref 72, .int x1] [.int xs0, .ref 72] (u, ml_h m lm) Φ = if xs0 = (nI 0) then wp Ln xs 219 14 [.ref 72, .int x1] [.ref 72] (u, ml_h m lm) Φ else wp Ln xs 219 10 [.ref 72, .int x1] [.ref 72] (u, ml_h m lm) Φ := wx_if xd219_7 rfl rfl (xs0 = (nI 0)) mb_eq
theorem x219_10 {x1 : Int32} : wp Ln xs 219 10 [.ref 72, .int x1] [.ref 72] (u, ml_h m lm) Φ = wp Ln xs 219 15 [.ref 72, .int x1] [.int (nI 0), .ref 72] (u, ml_h m lm) Φ := (wp_same (S' := [.int (nI 0), .ref 72]) xd219_10 (Or.inr rfl) rfl).trans (wx_goto xd219_11 rfl)
theorem x219_14 {x1 : Int32} : wp Ln xs 219 14 [.ref 72, .int x1] [.ref 72] (u, ml_h m lm) Φ = wp Ln xs 219 15 [.ref 72, .int x1] [.int (nI 1), .ref 72] (u, ml_h m lm) Φ := wp_same (S' := [.int (nI 1), .ref 72]) xd219_14 (Or.inr rfl) rfl
theorem x219_15 {x1 : Int32} {xs0 : Int32} : wp Ln xs 219 15 [.ref 72, .int x1] [.int xs0, .ref 72] (u, ml_h m lm) Φ = wp Ln xs 154 0 [.ref 72, .int xs0] [] (u, ml_h m lm) (mk Ln xs 219 15 [.ref 72, .int x1] [] Φ) := wm_cv (As := [.int xs0]) (rest := []) xd219_15 rfl rfl (show ml_L[72]? = _ from rfl) (Nat.le_of_ble_eq_true rfl) (Nat.le_of_ble_eq_true rfl) (Nat.le_of_ble_eq_true rfl) (Nat.le_of_ble_eq_true rfl)
theorem x219_18 {x1 : Int32} {xs0 : Int32} : wp Ln xs 219 18 [.ref 72, .int x1] [.int xs0] (u, ml_h m lm) Φ = if xs0 = (nI 0) then wp Ln xs 219 32 [.ref 72, .int x1] [] (u, ml_h m lm) Φ else wp Ln xs 219 21 [.ref 72, .int x1] [] (u, ml_h m lm) Φ := wx_if xd219_18 rfl rfl (xs0 = (nI 0)) mb_eq
theorem x219_21 {x1 : Int32} : wp Ln xs 219 21 [.ref 72, .int x1] [] (u, ml_h m lm) Φ = wp Ln xs 219 28 [.ref 72, .int x1] [.int ((nI 2) + x1), .ref 73] (u, ml_h m lm) Φ := (wp_same xd219_21 (Or.inr rfl) rfl).trans ((wm_getr xd219_22 rfl (show ml_L[72]? = _ from rfl) rfl (Nat.le_of_ble_eq_true rfl)).trans ((wp_same (S' := [.int (nI 2), .ref 73]) xd219_25 (Or.inr rfl) rfl).trans ((wp_same xd219_26 (Or.inr rfl) rfl).trans (wp_same xd219_27 (Or.inr rfl) rfl))))
theorem x219_28 {x1 : Int32} {k : Nat} (hk : k < 251) : wp Ln xs 219 28 [.ref 72, .int x1] [.int (nI k), .ref 73] (u, ml_h m lm) Φ = Φ (.inl (some (.int (m 73 k)))) (u, ml_h m lm) := (wm_iald (k := k) xd219_28 ml_ia_73 (by decide) hk).trans ((wx_goto xd219_29 rfl).trans (wp_fin (v := some (.int (m 73 k))) xd219_33 (Or.inr rfl) rfl (mj_fin_i rfl)))
theorem x219_32 {x1 : Int32} : wp Ln xs 219 32 [.ref 72, .int x1] [] (u, ml_h m lm) Φ = Φ (.inl (some (.int (nI 0)))) (u, ml_h m lm) := (wp_same (S' := [.int (nI 0)]) xd219_32 (Or.inr rfl) rfl).trans (wp_fin (v := some (.int (nI 0))) xd219_33 (Or.inr rfl) rfl (mj_fin_i rfl))
/- PickedFormsModel.match -/
theorem xd220_0 : decode (mj_b 220) 0 = .ok (.aload_n 0, 1) := by decide +kernel
theorem xd220_1 : decode (mj_b 220) 1 = .ok (.iload_n 1, 1) := by decide +kernel
theorem xd220_2 : decode (mj_b 220) 2 = .ok (.invokestatic 106, 3) := by decide +kernel
theorem xd220_5 : decode (mj_b 220) 5 = .ok (.ifCond .eq 23, 3) := by decide +kernel
theorem xd220_8 : decode (mj_b 220) 8 = .ok (.iload_n 2, 1) := by decide +kernel
theorem xd220_9 : decode (mj_b 220) 9 = .ok (.invokestatic 106, 3) := by decide +kernel
theorem xd220_12 : decode (mj_b 220) 12 = .ok (.ifCond .eq 16, 3) := by decide +kernel
theorem xd220_15 : decode (mj_b 220) 15 = .ok (.iload_n 3, 1) := by decide +kernel
theorem xd220_16 : decode (mj_b 220) 16 = .ok (.iconst 0, 1) := by decide +kernel
theorem xd220_17 : decode (mj_b 220) 17 = .ok (.iconst 3, 1) := by decide +kernel
theorem xd220_18 : decode (mj_b 220) 18 = .ok (.invokestatic 38, 3) := by decide +kernel
theorem xd220_21 : decode (mj_b 220) 21 = .ok (.ifCond .eq 7, 3) := by decide +kernel
theorem xd220_24 : decode (mj_b 220) 24 = .ok (.iconst 0, 1) := by decide +kernel
theorem xd220_25 : decode (mj_b 220) 25 = .ok (.goto 4, 3) := by decide +kernel
theorem xd220_28 : decode (mj_b 220) 28 = .ok (.iconst 1, 1) := by decide +kernel
theorem xd220_29 : decode (mj_b 220) 29 = .ok (.invokevirtual 114, 3) := by decide +kernel
theorem xd220_32 : decode (mj_b 220) 32 = .ok (.ifCond .eq 13, 3) := by decide +kernel
theorem xd220_35 : decode (mj_b 220) 35 = .ok (.aload_n 0, 1) := by decide +kernel
theorem xd220_36 : decode (mj_b 220) 36 = .ok (.iload_n 1, 1) := by decide +kernel
theorem xd220_37 : decode (mj_b 220) 37 = .ok (.iload_n 2, 1) := by decide +kernel
theorem xd220_38 : decode (mj_b 220) 38 = .ok (.iload_n 3, 1) := by decide +kernel
theorem xd220_39 : decode (mj_b 220) 39 = .ok (.invokevirtual 225, 3) := by decide +kernel
theorem xd220_42 : decode (mj_b 220) 42 = .ok (.goto 4, 3) := by decide +kernel
theorem xd220_45 : decode (mj_b 220) 45 = .ok (.iconst 0, 1) := by decide +kernel
theorem xd220_46 : decode (mj_b 220) 46 = .ok (.ireturn, 1) := by decide +kernel
theorem x220_0 {x1 : Int32} {x2 : Int32} {x3 : Int32} : wp Ln xs 220 0 [.ref 72, .int x1, .int x2, .int x3] [] (u, ml_h m lm) Φ = wp Ln xs 151 0 [.int x1] [] (u, ml_h m lm) (mk Ln xs 220 2 [.ref 72, .int x1, .int x2, .int x3] [.ref 72] Φ) := (wp_same xd220_0 (Or.inr rfl) rfl).trans ((wp_same xd220_1 (Or.inr rfl) rfl).trans (wm_cs (As := [.int x1]) (rest := [.ref 72]) xd220_2 rfl rfl (Nat.le_of_ble_eq_true rfl) (Nat.le_of_ble_eq_true rfl) (Nat.le_of_ble_eq_true rfl) (Nat.le_of_ble_eq_true rfl)))
theorem x220_5 {x1 : Int32} {x2 : Int32} {x3 : Int32} {xs0 : Int32} : wp Ln xs 220 5 [.ref 72, .int x1, .int x2, .int x3] [.int xs0, .ref 72] (u, ml_h m lm) Φ = if xs0 = (nI 0) then wp Ln xs 220 28 [.ref 72, .int x1, .int x2, .int x3] [.ref 72] (u, ml_h m lm) Φ else wp Ln xs 220 8 [.ref 72, .int x1, .int x2, .int x3] [.ref 72] (u, ml_h m lm) Φ := wx_if xd220_5 rfl rfl (xs0 = (nI 0)) mb_eq
theorem x220_8 {x1 : Int32} {x2 : Int32} {x3 : Int32} : wp Ln xs 220 8 [.ref 72, .int x1, .int x2, .int x3] [.ref 72] (u, ml_h m lm) Φ = wp Ln xs 151 0 [.int x2] [] (u, ml_h m lm) (mk Ln xs 220 9 [.ref 72, .int x1, .int x2, .int x3] [.ref 72] Φ) := (wp_same xd220_8 (Or.inr rfl) rfl).trans (wm_cs (As := [.int x2]) (rest := [.ref 72]) xd220_9 rfl rfl (Nat.le_of_ble_eq_true rfl) (Nat.le_of_ble_eq_true rfl) (Nat.le_of_ble_eq_true rfl) (Nat.le_of_ble_eq_true rfl))
theorem x220_12 {x1 : Int32} {x2 : Int32} {x3 : Int32} {xs0 : Int32} : wp Ln xs 220 12 [.ref 72, .int x1, .int x2, .int x3] [.int xs0, .ref 72] (u, ml_h m lm) Φ = if xs0 = (nI 0) then wp Ln xs 220 28 [.ref 72, .int x1, .int x2, .int x3] [.ref 72] (u, ml_h m lm) Φ else wp Ln xs 220 15 [.ref 72, .int x1, .int x2, .int x3] [.ref 72] (u, ml_h m lm) Φ := wx_if xd220_12 rfl rfl (xs0 = (nI 0)) mb_eq
theorem x220_15 {x1 : Int32} {x2 : Int32} {x3 : Int32} : wp Ln xs 220 15 [.ref 72, .int x1, .int x2, .int x3] [.ref 72] (u, ml_h m lm) Φ = wp Ln xs 152 0 [.int x3, .int (nI 0), .int (nI 3)] [] (u, ml_h m lm) (mk Ln xs 220 18 [.ref 72, .int x1, .int x2, .int x3] [.ref 72] Φ) := (wp_same xd220_15 (Or.inr rfl) rfl).trans ((wp_same (S' := [.int (nI 0), .int x3, .ref 72]) xd220_16 (Or.inr rfl) rfl).trans ((wp_same (S' := [.int (nI 3), .int (nI 0), .int x3, .ref 72]) xd220_17 (Or.inr rfl) rfl).trans (wm_cs (As := [.int x3, .int (nI 0), .int (nI 3)]) (rest := [.ref 72]) xd220_18 rfl rfl (Nat.le_of_ble_eq_true rfl) (Nat.le_of_ble_eq_true rfl) (Nat.le_of_ble_eq_true rfl) (Nat.le_of_ble_eq_true rfl))))
theorem x220_21 {x1 : Int32} {x2 : Int32} {x3 : Int32} {xs0 : Int32} : wp Ln xs 220 21 [.ref 72, .int x1, .int x2, .int x3] [.int xs0, .ref 72] (u, ml_h m lm) Φ = if xs0 = (nI 0) then wp Ln xs 220 28 [.ref 72, .int x1, .int x2, .int x3] [.ref 72] (u, ml_h m lm) Φ else wp Ln xs 220 24 [.ref 72, .int x1, .int x2, .int x3] [.ref 72] (u, ml_h m lm) Φ := wx_if xd220_21 rfl rfl (xs0 = (nI 0)) mb_eq
theorem x220_24 {x1 : Int32} {x2 : Int32} {x3 : Int32} : wp Ln xs 220 24 [.ref 72, .int x1, .int x2, .int x3] [.ref 72] (u, ml_h m lm) Φ = wp Ln xs 220 29 [.ref 72, .int x1, .int x2, .int x3] [.int (nI 0), .ref 72] (u, ml_h m lm) Φ := (wp_same (S' := [.int (nI 0), .ref 72]) xd220_24 (Or.inr rfl) rfl).trans (wx_goto xd220_25 rfl)
theorem x220_28 {x1 : Int32} {x2 : Int32} {x3 : Int32} : wp Ln xs 220 28 [.ref 72, .int x1, .int x2, .int x3] [.ref 72] (u, ml_h m lm) Φ = wp Ln xs 220 29 [.ref 72, .int x1, .int x2, .int x3] [.int (nI 1), .ref 72] (u, ml_h m lm) Φ := wp_same (S' := [.int (nI 1), .ref 72]) xd220_28 (Or.inr rfl) rfl
theorem x220_29 {x1 : Int32} {x2 : Int32} {x3 : Int32} {xs0 : Int32} : wp Ln xs 220 29 [.ref 72, .int x1, .int x2, .int x3] [.int xs0, .ref 72] (u, ml_h m lm) Φ = wp Ln xs 154 0 [.ref 72, .int xs0] [] (u, ml_h m lm) (mk Ln xs 220 29 [.ref 72, .int x1, .int x2, .int x3] [] Φ) := wm_cv (As := [.int xs0]) (rest := []) xd220_29 rfl rfl (show ml_L[72]? = _ from rfl) (Nat.le_of_ble_eq_true rfl) (Nat.le_of_ble_eq_true rfl) (Nat.le_of_ble_eq_true rfl) (Nat.le_of_ble_eq_true rfl)
theorem x220_32 {x1 : Int32} {x2 : Int32} {x3 : Int32} {xs0 : Int32} : wp Ln xs 220 32 [.ref 72, .int x1, .int x2, .int x3] [.int xs0] (u, ml_h m lm) Φ = if xs0 = (nI 0) then wp Ln xs 220 45 [.ref 72, .int x1, .int x2, .int x3] [] (u, ml_h m lm) Φ else wp Ln xs 220 35 [.ref 72, .int x1, .int x2, .int x3] [] (u, ml_h m lm) Φ := wx_if xd220_32 rfl rfl (xs0 = (nI 0)) mb_eq
theorem x220_35 {x1 : Int32} {x2 : Int32} {x3 : Int32} : wp Ln xs 220 35 [.ref 72, .int x1, .int x2, .int x3] [] (u, ml_h m lm) Φ = wp Ln xs 221 0 [.ref 72, .int x1, .int x2, .int x3, mj_hole, mj_hole, mj_hole, mj_hole, mj_hole] [] (u, ml_h m lm) (mk Ln xs 220 39 [.ref 72, .int x1, .int x2, .int x3] [] Φ) := (wp_same xd220_35 (Or.inr rfl) rfl).trans ((wp_same xd220_36 (Or.inr rfl) rfl).trans ((wp_same xd220_37 (Or.inr rfl) rfl).trans ((wp_same xd220_38 (Or.inr rfl) rfl).trans (wm_cv (As := [.int x1, .int x2, .int x3]) (rest := []) xd220_39 rfl rfl (show ml_L[72]? = _ from rfl) (Nat.le_of_ble_eq_true rfl) (Nat.le_of_ble_eq_true rfl) (Nat.le_of_ble_eq_true rfl) (Nat.le_of_ble_eq_true rfl)))))
theorem x220_42 {x1 : Int32} {x2 : Int32} {x3 : Int32} {xs0 : Int32} : wp Ln xs 220 42 [.ref 72, .int x1, .int x2, .int x3] [.int xs0] (u, ml_h m lm) Φ = Φ (.inl (some (.int xs0))) (u, ml_h m lm) := (wx_goto xd220_42 rfl).trans (wp_fin (v := some (.int xs0)) xd220_46 (Or.inr rfl) rfl (mj_fin_i rfl))
theorem x220_45 {x1 : Int32} {x2 : Int32} {x3 : Int32} : wp Ln xs 220 45 [.ref 72, .int x1, .int x2, .int x3] [] (u, ml_h m lm) Φ = Φ (.inl (some (.int (nI 0)))) (u, ml_h m lm) := (wp_same (S' := [.int (nI 0)]) xd220_45 (Or.inr rfl) rfl).trans (wp_fin (v := some (.int (nI 0))) xd220_46 (Or.inr rfl) rfl (mj_fin_i rfl))
/- PickedFormsModel.matchTold -/
theorem xd221_0 : decode (mj_b 221) 0 = .ok (.iconst 0, 1) := by decide +kernel
theorem xd221_1 : decode (mj_b 221) 1 = .ok (.istore 4, 2) := by decide +kernel
theorem xd221_3 : decode (mj_b 221) 3 = .ok (.iconst (-1), 1) := by decide +kernel
theorem xd221_4 : decode (mj_b 221) 4 = .ok (.istore 5, 2) := by decide +kernel
theorem xd221_6 : decode (mj_b 221) 6 = .ok (.aload_n 0, 1) := by decide +kernel
theorem xd221_7 : decode (mj_b 221) 7 = .ok (.getfield 7, 3) := by decide +kernel
theorem xd221_10 : decode (mj_b 221) 10 = .ok (.iconst 1, 1) := by decide +kernel
theorem xd221_11 : decode (mj_b 221) 11 = .ok (.iaload, 1) := by decide +kernel
theorem xd221_12 : decode (mj_b 221) 12 = .ok (.istore 6, 2) := by decide +kernel
theorem xd221_14 : decode (mj_b 221) 14 = .ok (.aload_n 0, 1) := by decide +kernel
theorem xd221_15 : decode (mj_b 221) 15 = .ok (.invokevirtual 96, 3) := by decide +kernel
theorem xd221_18 : decode (mj_b 221) 18 = .ok (.iconst 1, 1) := by decide +kernel
theorem xd221_19 : decode (mj_b 221) 19 = .ok (.isub, 1) := by decide +kernel
theorem xd221_20 : decode (mj_b 221) 20 = .ok (.istore 7, 2) := by decide +kernel
theorem xd221_22 : decode (mj_b 221) 22 = .ok (.iload 7, 2) := by decide +kernel
theorem xd221_24 : decode (mj_b 221) 24 = .ok (.ifCond .lt 55, 3) := by decide +kernel
theorem xd221_27 : decode (mj_b 221) 27 = .ok (.aload_n 0, 1) := by decide +kernel
theorem xd221_28 : decode (mj_b 221) 28 = .ok (.getfield 7, 3) := by decide +kernel
theorem xd221_31 : decode (mj_b 221) 31 = .ok (.bipush 43, 2) := by decide +kernel
theorem xd221_33 : decode (mj_b 221) 33 = .ok (.iload 7, 2) := by decide +kernel
theorem xd221_35 : decode (mj_b 221) 35 = .ok (.iadd, 1) := by decide +kernel
theorem xd221_36 : decode (mj_b 221) 36 = .ok (.iaload, 1) := by decide +kernel
theorem xd221_37 : decode (mj_b 221) 37 = .ok (.iload_n 1, 1) := by decide +kernel
theorem xd221_38 : decode (mj_b 221) 38 = .ok (.iload_n 2, 1) := by decide +kernel
theorem xd221_39 : decode (mj_b 221) 39 = .ok (.invokestatic 38, 3) := by decide +kernel
theorem xd221_42 : decode (mj_b 221) 42 = .ok (.istore 8, 2) := by decide +kernel
theorem xd221_44 : decode (mj_b 221) 44 = .ok (.iload 4, 2) := by decide +kernel
theorem xd221_46 : decode (mj_b 221) 46 = .ok (.iload 8, 2) := by decide +kernel
theorem xd221_48 : decode (mj_b 221) 48 = .ok (.ifCond .eq 7, 3) := by decide +kernel
theorem xd221_51 : decode (mj_b 221) 51 = .ok (.iconst 1, 1) := by decide +kernel
theorem xd221_52 : decode (mj_b 221) 52 = .ok (.goto 4, 3) := by decide +kernel
theorem xd221_55 : decode (mj_b 221) 55 = .ok (.iconst 0, 1) := by decide +kernel
theorem xd221_56 : decode (mj_b 221) 56 = .ok (.iadd, 1) := by decide +kernel
theorem xd221_57 : decode (mj_b 221) 57 = .ok (.istore 4, 2) := by decide +kernel
theorem xd221_59 : decode (mj_b 221) 59 = .ok (.iload 8, 2) := by decide +kernel
theorem xd221_61 : decode (mj_b 221) 61 = .ok (.ifCond .eq 8, 3) := by decide +kernel
theorem xd221_64 : decode (mj_b 221) 64 = .ok (.iload 7, 2) := by decide +kernel
theorem xd221_66 : decode (mj_b 221) 66 = .ok (.goto 5, 3) := by decide +kernel
theorem xd221_69 : decode (mj_b 221) 69 = .ok (.iload 5, 2) := by decide +kernel
theorem xd221_71 : decode (mj_b 221) 71 = .ok (.istore 5, 2) := by decide +kernel
theorem xd221_73 : decode (mj_b 221) 73 = .ok (.iinc 7 (-1), 3) := by decide +kernel
theorem xd221_76 : decode (mj_b 221) 76 = .ok (.goto (-54), 3) := by decide +kernel
theorem xd221_79 : decode (mj_b 221) 79 = .ok (.iconst 0, 1) := by decide +kernel
theorem xd221_80 : decode (mj_b 221) 80 = .ok (.istore 7, 2) := by decide +kernel
theorem xd221_82 : decode (mj_b 221) 82 = .ok (.iload 7, 2) := by decide +kernel
theorem xd221_84 : decode (mj_b 221) 84 = .ok (.aload_n 0, 1) := by decide +kernel
theorem xd221_85 : decode (mj_b 221) 85 = .ok (.getfield 7, 3) := by decide +kernel
theorem xd221_88 : decode (mj_b 221) 88 = .ok (.iconst 0, 1) := by decide +kernel
theorem xd221_89 : decode (mj_b 221) 89 = .ok (.iaload, 1) := by decide +kernel
theorem xd221_90 : decode (mj_b 221) 90 = .ok (.if_icmp .ge 22, 3) := by decide +kernel
theorem xd221_93 : decode (mj_b 221) 93 = .ok (.iload 6, 2) := by decide +kernel
theorem xd221_95 : decode (mj_b 221) 95 = .ok (.aload_n 0, 1) := by decide +kernel
theorem xd221_96 : decode (mj_b 221) 96 = .ok (.iload 7, 2) := by decide +kernel
theorem xd221_98 : decode (mj_b 221) 98 = .ok (.iload_n 1, 1) := by decide +kernel
theorem xd221_99 : decode (mj_b 221) 99 = .ok (.iload_n 2, 1) := by decide +kernel
theorem xd221_100 : decode (mj_b 221) 100 = .ok (.invokevirtual 222, 3) := by decide +kernel
theorem xd221_103 : decode (mj_b 221) 103 = .ok (.iadd, 1) := by decide +kernel
theorem xd221_104 : decode (mj_b 221) 104 = .ok (.istore 6, 2) := by decide +kernel
theorem xd221_106 : decode (mj_b 221) 106 = .ok (.iinc 7 1, 3) := by decide +kernel
theorem xd221_109 : decode (mj_b 221) 109 = .ok (.goto (-27), 3) := by decide +kernel
theorem xd221_112 : decode (mj_b 221) 112 = .ok (.iload_n 3, 1) := by decide +kernel
theorem xd221_113 : decode (mj_b 221) 113 = .ok (.iconst 2, 1) := by decide +kernel
theorem xd221_114 : decode (mj_b 221) 114 = .ok (.if_icmp .ge 8, 3) := by decide +kernel
theorem xd221_117 : decode (mj_b 221) 117 = .ok (.iload 4, 2) := by decide +kernel
theorem xd221_119 : decode (mj_b 221) 119 = .ok (.goto 15, 3) := by decide +kernel
theorem xd221_122 : decode (mj_b 221) 122 = .ok (.iload_n 3, 1) := by decide +kernel
theorem xd221_123 : decode (mj_b 221) 123 = .ok (.iconst 2, 1) := by decide +kernel
theorem xd221_124 : decode (mj_b 221) 124 = .ok (.if_icmp .ne 8, 3) := by decide +kernel
theorem xd221_127 : decode (mj_b 221) 127 = .ok (.iload 6, 2) := by decide +kernel
theorem xd221_129 : decode (mj_b 221) 129 = .ok (.goto 5, 3) := by decide +kernel
theorem xd221_132 : decode (mj_b 221) 132 = .ok (.iload 5, 2) := by decide +kernel
theorem xd221_134 : decode (mj_b 221) 134 = .ok (.ireturn, 1) := by decide +kernel
theorem x221_0 {x1 : Int32} {x2 : Int32} {x3 : Int32} : wp Ln xs 221 0 [.ref 72, .int x1, .int x2, .int x3, mj_hole, mj_hole, mj_hole, mj_hole, mj_hole] [] (u, ml_h m lm) Φ = wp Ln xs 158 0 [.ref 72] [] (u, ml_h m lm) (mk Ln xs 221 15 [.ref 72, .int x1, .int x2, .int x3, .int (nI 0), .int ((-1)), .int (m 73 1), mj_hole, mj_hole] [] Φ) := (wp_same (S' := [.int (nI 0)]) xd221_0 (Or.inr rfl) rfl).trans ((wp_same (L' := [.ref 72, .int x1, .int x2, .int x3, .int (nI 0), mj_hole, mj_hole, mj_hole, mj_hole]) xd221_1 (Or.inr rfl) rfl).trans ((wp_same (S' := [.int ((-1))]) xd221_3 (Or.inr rfl) rfl).trans ((wp_same (L' := [.ref 72, .int x1, .int x2, .int x3, .int (nI 0), .int ((-1)), mj_hole, mj_hole, mj_hole]) xd221_4 (Or.inr rfl) rfl).trans ((wp_same xd221_6 (Or.inr rfl) rfl).trans ((wm_getr xd221_7 rfl (show ml_L[72]? = _ from rfl) rfl (Nat.le_of_ble_eq_true rfl)).trans ((wp_same (S' := [.int (nI 1), .ref 73]) xd221_10 (Or.inr rfl) rfl).trans ((wm_iald (k := 1) xd221_11 ml_ia_73 (by decide) (Nat.le_of_ble_eq_true rfl)).trans ((wp_same (L' := [.ref 72, .int x1, .int x2, .int x3, .int (nI 0), .int ((-1)), .int (m 73 1), mj_hole, mj_hole]) xd221_12 (Or.inr rfl) rfl).trans ((wp_same xd221_14 (Or.inr rfl) rfl).trans (wm_cv (As := []) (rest := []) xd221_15 rfl rfl (show ml_L[72]? = _ from rfl) (Nat.le_of_ble_eq_true rfl) (Nat.le_of_ble_eq_true rfl) (Nat.le_of_ble_eq_true rfl) (Nat.le_of_ble_eq_true rfl)))))))))))
theorem x221_18 {x1 : Int32} {x2 : Int32} {x3 : Int32} {x4 : Int32} {x5 : Int32} {x6 : Int32} {xs0 : Int32} : wp Ln xs 221 18 [.ref 72, .int x1, .int x2, .int x3, .int x4, .int x5, .int x6, mj_hole, mj_hole] [.int xs0] (u, ml_h m lm) Φ = wp Ln xs 221 22 [.ref 72, .int x1, .int x2, .int x3, .int x4, .int x5, .int x6, .int (xs0 - (nI 1)), mj_hole] [] (u, ml_h m lm) Φ := (wp_same (S' := [.int (nI 1), .int xs0]) xd221_18 (Or.inr rfl) rfl).trans ((wp_same xd221_19 (Or.inr rfl) rfl).trans (wp_same (L' := [.ref 72, .int x1, .int x2, .int x3, .int x4, .int x5, .int x6, .int (xs0 - (nI 1)), mj_hole]) xd221_20 (Or.inr rfl) rfl))
theorem x221_22 {x1 : Int32} {x2 : Int32} {x3 : Int32} {x4 : Int32} {x5 : Int32} {x6 : Int32} {x7 : Int32} {v8 : Value} : wp Ln xs 221 22 [.ref 72, .int x1, .int x2, .int x3, .int x4, .int x5, .int x6, .int x7, v8] [] (u, ml_h m lm) Φ = if x7 < (nI 0) then wp Ln xs 221 79 [.ref 72, .int x1, .int x2, .int x3, .int x4, .int x5, .int x6, .int x7, v8] [] (u, ml_h m lm) Φ else wp Ln xs 221 27 [.ref 72, .int x1, .int x2, .int x3, .int x4, .int x5, .int x6, .int x7, v8] [] (u, ml_h m lm) Φ := (wp_same xd221_22 (Or.inr rfl) rfl).trans (wx_if xd221_24 rfl rfl (x7 < (nI 0)) mb_lt)
theorem x221_27 {x1 : Int32} {x2 : Int32} {x3 : Int32} {x4 : Int32} {x5 : Int32} {x6 : Int32} {x7 : Int32} {v8 : Value} : wp Ln xs 221 27 [.ref 72, .int x1, .int x2, .int x3, .int x4, .int x5, .int x6, .int x7, v8] [] (u, ml_h m lm) Φ = wp Ln xs 221 36 [.ref 72, .int x1, .int x2, .int x3, .int x4, .int x5, .int x6, .int x7, v8] [.int ((nI 43) + x7), .ref 73] (u, ml_h m lm) Φ := (wp_same xd221_27 (Or.inr rfl) rfl).trans ((wm_getr xd221_28 rfl (show ml_L[72]? = _ from rfl) rfl (Nat.le_of_ble_eq_true rfl)).trans ((wp_same (S' := [.int (nI 43), .ref 73]) xd221_31 (Or.inr rfl) rfl).trans ((wp_same xd221_33 (Or.inr rfl) rfl).trans (wp_same xd221_35 (Or.inr rfl) rfl))))
theorem x221_36 {x1 : Int32} {x2 : Int32} {x3 : Int32} {x4 : Int32} {x5 : Int32} {x6 : Int32} {x7 : Int32} {v8 : Value} {k : Nat} (hk : k < 251) : wp Ln xs 221 36 [.ref 72, .int x1, .int x2, .int x3, .int x4, .int x5, .int x6, .int x7, v8] [.int (nI k), .ref 73] (u, ml_h m lm) Φ = wp Ln xs 152 0 [.int (m 73 k), .int x1, .int x2] [] (u, ml_h m lm) (mk Ln xs 221 39 [.ref 72, .int x1, .int x2, .int x3, .int x4, .int x5, .int x6, .int x7, v8] [] Φ) := (wm_iald (k := k) xd221_36 ml_ia_73 (by decide) hk).trans ((wp_same xd221_37 (Or.inr rfl) rfl).trans ((wp_same xd221_38 (Or.inr rfl) rfl).trans (wm_cs (As := [.int (m 73 k), .int x1, .int x2]) (rest := []) xd221_39 rfl rfl (Nat.le_of_ble_eq_true rfl) (Nat.le_of_ble_eq_true rfl) (Nat.le_of_ble_eq_true rfl) (Nat.le_of_ble_eq_true rfl))))
theorem x221_42 {x1 : Int32} {x2 : Int32} {x3 : Int32} {x4 : Int32} {x5 : Int32} {x6 : Int32} {x7 : Int32} {v8 : Value} {xs0 : Int32} : wp Ln xs 221 42 [.ref 72, .int x1, .int x2, .int x3, .int x4, .int x5, .int x6, .int x7, v8] [.int xs0] (u, ml_h m lm) Φ = if xs0 = (nI 0) then wp Ln xs 221 55 [.ref 72, .int x1, .int x2, .int x3, .int x4, .int x5, .int x6, .int x7, .int xs0] [.int x4] (u, ml_h m lm) Φ else wp Ln xs 221 51 [.ref 72, .int x1, .int x2, .int x3, .int x4, .int x5, .int x6, .int x7, .int xs0] [.int x4] (u, ml_h m lm) Φ := (wp_same (L' := [.ref 72, .int x1, .int x2, .int x3, .int x4, .int x5, .int x6, .int x7, .int xs0]) xd221_42 (Or.inr rfl) rfl).trans ((wp_same xd221_44 (Or.inr rfl) rfl).trans ((wp_same xd221_46 (Or.inr rfl) rfl).trans (wx_if xd221_48 rfl rfl (xs0 = (nI 0)) mb_eq)))
theorem x221_51 {x1 : Int32} {x2 : Int32} {x3 : Int32} {x4 : Int32} {x5 : Int32} {x6 : Int32} {x7 : Int32} {x8 : Int32} {xs0 : Int32} : wp Ln xs 221 51 [.ref 72, .int x1, .int x2, .int x3, .int x4, .int x5, .int x6, .int x7, .int x8] [.int xs0] (u, ml_h m lm) Φ = wp Ln xs 221 56 [.ref 72, .int x1, .int x2, .int x3, .int x4, .int x5, .int x6, .int x7, .int x8] [.int (nI 1), .int xs0] (u, ml_h m lm) Φ := (wp_same (S' := [.int (nI 1), .int xs0]) xd221_51 (Or.inr rfl) rfl).trans (wx_goto xd221_52 rfl)
theorem x221_55 {x1 : Int32} {x2 : Int32} {x3 : Int32} {x4 : Int32} {x5 : Int32} {x6 : Int32} {x7 : Int32} {x8 : Int32} {xs0 : Int32} : wp Ln xs 221 55 [.ref 72, .int x1, .int x2, .int x3, .int x4, .int x5, .int x6, .int x7, .int x8] [.int xs0] (u, ml_h m lm) Φ = wp Ln xs 221 56 [.ref 72, .int x1, .int x2, .int x3, .int x4, .int x5, .int x6, .int x7, .int x8] [.int (nI 0), .int xs0] (u, ml_h m lm) Φ := wp_same (S' := [.int (nI 0), .int xs0]) xd221_55 (Or.inr rfl) rfl
theorem x221_56 {x1 : Int32} {x2 : Int32} {x3 : Int32} {x4 : Int32} {x5 : Int32} {x6 : Int32} {x7 : Int32} {x8 : Int32} {xs0 : Int32} {xs1 : Int32} : wp Ln xs 221 56 [.ref 72, .int x1, .int x2, .int x3, .int x4, .int x5, .int x6, .int x7, .int x8] [.int xs0, .int xs1] (u, ml_h m lm) Φ = if x8 = (nI 0) then wp Ln xs 221 69 [.ref 72, .int x1, .int x2, .int x3, .int (xs1 + xs0), .int x5, .int x6, .int x7, .int x8] [] (u, ml_h m lm) Φ else wp Ln xs 221 64 [.ref 72, .int x1, .int x2, .int x3, .int (xs1 + xs0), .int x5, .int x6, .int x7, .int x8] [] (u, ml_h m lm) Φ := (wp_same xd221_56 (Or.inr rfl) rfl).trans ((wp_same (L' := [.ref 72, .int x1, .int x2, .int x3, .int (xs1 + xs0), .int x5, .int x6, .int x7, .int x8]) xd221_57 (Or.inr rfl) rfl).trans ((wp_same xd221_59 (Or.inr rfl) rfl).trans (wx_if xd221_61 rfl rfl (x8 = (nI 0)) mb_eq)))
theorem x221_64 {x1 : Int32} {x2 : Int32} {x3 : Int32} {x4 : Int32} {x5 : Int32} {x6 : Int32} {x7 : Int32} {x8 : Int32} : wp Ln xs 221 64 [.ref 72, .int x1, .int x2, .int x3, .int x4, .int x5, .int x6, .int x7, .int x8] [] (u, ml_h m lm) Φ = wp Ln xs 221 71 [.ref 72, .int x1, .int x2, .int x3, .int x4, .int x5, .int x6, .int x7, .int x8] [.int x7] (u, ml_h m lm) Φ := (wp_same xd221_64 (Or.inr rfl) rfl).trans (wx_goto xd221_66 rfl)
theorem x221_69 {x1 : Int32} {x2 : Int32} {x3 : Int32} {x4 : Int32} {x5 : Int32} {x6 : Int32} {x7 : Int32} {x8 : Int32} : wp Ln xs 221 69 [.ref 72, .int x1, .int x2, .int x3, .int x4, .int x5, .int x6, .int x7, .int x8] [] (u, ml_h m lm) Φ = wp Ln xs 221 71 [.ref 72, .int x1, .int x2, .int x3, .int x4, .int x5, .int x6, .int x7, .int x8] [.int x5] (u, ml_h m lm) Φ := wp_same xd221_69 (Or.inr rfl) rfl
theorem x221_71 {x1 : Int32} {x2 : Int32} {x3 : Int32} {x4 : Int32} {x5 : Int32} {x6 : Int32} {x7 : Int32} {x8 : Int32} {xs0 : Int32} : wp Ln xs 221 71 [.ref 72, .int x1, .int x2, .int x3, .int x4, .int x5, .int x6, .int x7, .int x8] [.int xs0] (u, ml_h m lm) Φ = wp Ln xs 221 22 [.ref 72, .int x1, .int x2, .int x3, .int x4, .int xs0, .int x6, .int (x7 + (-1)), .int x8] [] (u, ml_h m lm) Φ := (wp_same (L' := [.ref 72, .int x1, .int x2, .int x3, .int x4, .int xs0, .int x6, .int x7, .int x8]) xd221_71 (Or.inr rfl) rfl).trans ((wp_same (L' := [.ref 72, .int x1, .int x2, .int x3, .int x4, .int xs0, .int x6, .int (x7 + (-1)), .int x8]) xd221_73 (Or.inr rfl) rfl).trans (wx_goto xd221_76 rfl))
theorem x221_79 {x1 : Int32} {x2 : Int32} {x3 : Int32} {x4 : Int32} {x5 : Int32} {x6 : Int32} {x7 : Int32} {v8 : Value} : wp Ln xs 221 79 [.ref 72, .int x1, .int x2, .int x3, .int x4, .int x5, .int x6, .int x7, v8] [] (u, ml_h m lm) Φ = wp Ln xs 221 82 [.ref 72, .int x1, .int x2, .int x3, .int x4, .int x5, .int x6, .int (nI 0), v8] [] (u, ml_h m lm) Φ := (wp_same (S' := [.int (nI 0)]) xd221_79 (Or.inr rfl) rfl).trans (wp_same (L' := [.ref 72, .int x1, .int x2, .int x3, .int x4, .int x5, .int x6, .int (nI 0), v8]) xd221_80 (Or.inr rfl) rfl)
theorem x221_82 {x1 : Int32} {x2 : Int32} {x3 : Int32} {x4 : Int32} {x5 : Int32} {x6 : Int32} {x7 : Int32} {v8 : Value} : wp Ln xs 221 82 [.ref 72, .int x1, .int x2, .int x3, .int x4, .int x5, .int x6, .int x7, v8] [] (u, ml_h m lm) Φ = if (m 73 0) ≤ x7 then wp Ln xs 221 112 [.ref 72, .int x1, .int x2, .int x3, .int x4, .int x5, .int x6, .int x7, v8] [] (u, ml_h m lm) Φ else wp Ln xs 221 93 [.ref 72, .int x1, .int x2, .int x3, .int x4, .int x5, .int x6, .int x7, v8] [] (u, ml_h m lm) Φ := (wp_same xd221_82 (Or.inr rfl) rfl).trans ((wp_same xd221_84 (Or.inr rfl) rfl).trans ((wm_getr xd221_85 rfl (show ml_L[72]? = _ from rfl) rfl (Nat.le_of_ble_eq_true rfl)).trans ((wp_same (S' := [.int (nI 0), .ref 73, .int x7]) xd221_88 (Or.inr rfl) rfl).trans ((wm_iald (k := 0) xd221_89 ml_ia_73 (by decide) (Nat.le_of_ble_eq_true rfl)).trans (wx_icmp xd221_90 rfl rfl ((m 73 0) ≤ x7) mb_ge)))))
theorem x221_93 {x1 : Int32} {x2 : Int32} {x3 : Int32} {x4 : Int32} {x5 : Int32} {x6 : Int32} {x7 : Int32} {v8 : Value} : wp Ln xs 221 93 [.ref 72, .int x1, .int x2, .int x3, .int x4, .int x5, .int x6, .int x7, v8] [] (u, ml_h m lm) Φ = wp Ln xs 222 0 [.ref 72, .int x7, .int x1, .int x2, mj_hole, mj_hole, mj_hole, mj_hole, mj_hole] [] (u, ml_h m lm) (mk Ln xs 221 100 [.ref 72, .int x1, .int x2, .int x3, .int x4, .int x5, .int x6, .int x7, v8] [.int x6] Φ) := (wp_same xd221_93 (Or.inr rfl) rfl).trans ((wp_same xd221_95 (Or.inr rfl) rfl).trans ((wp_same xd221_96 (Or.inr rfl) rfl).trans ((wp_same xd221_98 (Or.inr rfl) rfl).trans ((wp_same xd221_99 (Or.inr rfl) rfl).trans (wm_cv (As := [.int x7, .int x1, .int x2]) (rest := [.int x6]) xd221_100 rfl rfl (show ml_L[72]? = _ from rfl) (Nat.le_of_ble_eq_true rfl) (Nat.le_of_ble_eq_true rfl) (Nat.le_of_ble_eq_true rfl) (Nat.le_of_ble_eq_true rfl))))))
theorem x221_103 {x1 : Int32} {x2 : Int32} {x3 : Int32} {x4 : Int32} {x5 : Int32} {x6 : Int32} {x7 : Int32} {v8 : Value} {xs0 : Int32} {xs1 : Int32} : wp Ln xs 221 103 [.ref 72, .int x1, .int x2, .int x3, .int x4, .int x5, .int x6, .int x7, v8] [.int xs0, .int xs1] (u, ml_h m lm) Φ = wp Ln xs 221 82 [.ref 72, .int x1, .int x2, .int x3, .int x4, .int x5, .int (xs1 + xs0), .int (x7 + nI 1), v8] [] (u, ml_h m lm) Φ := (wp_same xd221_103 (Or.inr rfl) rfl).trans ((wp_same (L' := [.ref 72, .int x1, .int x2, .int x3, .int x4, .int x5, .int (xs1 + xs0), .int x7, v8]) xd221_104 (Or.inr rfl) rfl).trans ((wp_same (L' := [.ref 72, .int x1, .int x2, .int x3, .int x4, .int x5, .int (xs1 + xs0), .int (x7 + nI 1), v8]) xd221_106 (Or.inr rfl) rfl).trans (wx_goto xd221_109 rfl)))
theorem x221_112 {x1 : Int32} {x2 : Int32} {x3 : Int32} {x4 : Int32} {x5 : Int32} {x6 : Int32} {x7 : Int32} {v8 : Value} : wp Ln xs 221 112 [.ref 72, .int x1, .int x2, .int x3, .int x4, .int x5, .int x6, .int x7, v8] [] (u, ml_h m lm) Φ = if (nI 2) ≤ x3 then wp Ln xs 221 122 [.ref 72, .int x1, .int x2, .int x3, .int x4, .int x5, .int x6, .int x7, v8] [] (u, ml_h m lm) Φ else wp Ln xs 221 117 [.ref 72, .int x1, .int x2, .int x3, .int x4, .int x5, .int x6, .int x7, v8] [] (u, ml_h m lm) Φ := (wp_same xd221_112 (Or.inr rfl) rfl).trans ((wp_same (S' := [.int (nI 2), .int x3]) xd221_113 (Or.inr rfl) rfl).trans (wx_icmp xd221_114 rfl rfl ((nI 2) ≤ x3) mb_ge))
theorem x221_117 {x1 : Int32} {x2 : Int32} {x3 : Int32} {x4 : Int32} {x5 : Int32} {x6 : Int32} {x7 : Int32} {v8 : Value} : wp Ln xs 221 117 [.ref 72, .int x1, .int x2, .int x3, .int x4, .int x5, .int x6, .int x7, v8] [] (u, ml_h m lm) Φ = Φ (.inl (some (.int x4))) (u, ml_h m lm) := (wp_same xd221_117 (Or.inr rfl) rfl).trans ((wx_goto xd221_119 rfl).trans (wp_fin (v := some (.int x4)) xd221_134 (Or.inr rfl) rfl (mj_fin_i rfl)))
theorem x221_122 {x1 : Int32} {x2 : Int32} {x3 : Int32} {x4 : Int32} {x5 : Int32} {x6 : Int32} {x7 : Int32} {v8 : Value} : wp Ln xs 221 122 [.ref 72, .int x1, .int x2, .int x3, .int x4, .int x5, .int x6, .int x7, v8] [] (u, ml_h m lm) Φ = if ¬ x3 = (nI 2) then wp Ln xs 221 132 [.ref 72, .int x1, .int x2, .int x3, .int x4, .int x5, .int x6, .int x7, v8] [] (u, ml_h m lm) Φ else wp Ln xs 221 127 [.ref 72, .int x1, .int x2, .int x3, .int x4, .int x5, .int x6, .int x7, v8] [] (u, ml_h m lm) Φ := (wp_same xd221_122 (Or.inr rfl) rfl).trans ((wp_same (S' := [.int (nI 2), .int x3]) xd221_123 (Or.inr rfl) rfl).trans (wx_icmp xd221_124 rfl rfl (¬ x3 = (nI 2)) mb_ne))
theorem x221_127 {x1 : Int32} {x2 : Int32} {x3 : Int32} {x4 : Int32} {x5 : Int32} {x6 : Int32} {x7 : Int32} {v8 : Value} : wp Ln xs 221 127 [.ref 72, .int x1, .int x2, .int x3, .int x4, .int x5, .int x6, .int x7, v8] [] (u, ml_h m lm) Φ = Φ (.inl (some (.int x6))) (u, ml_h m lm) := (wp_same xd221_127 (Or.inr rfl) rfl).trans ((wx_goto xd221_129 rfl).trans (wp_fin (v := some (.int x6)) xd221_134 (Or.inr rfl) rfl (mj_fin_i rfl)))
theorem x221_132 {x1 : Int32} {x2 : Int32} {x3 : Int32} {x4 : Int32} {x5 : Int32} {x6 : Int32} {x7 : Int32} {v8 : Value} : wp Ln xs 221 132 [.ref 72, .int x1, .int x2, .int x3, .int x4, .int x5, .int x6, .int x7, v8] [] (u, ml_h m lm) Φ = Φ (.inl (some (.int x5))) (u, ml_h m lm) := (wp_same xd221_132 (Or.inr rfl) rfl).trans (wp_fin (v := some (.int x5)) xd221_134 (Or.inr rfl) rfl (mj_fin_i rfl))
end MXk
