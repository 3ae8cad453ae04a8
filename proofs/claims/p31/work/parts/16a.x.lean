/-! ===== an equation for each straight piece of a method ===== -/
section MXa
variable {Ln : Nat} {xs : Nat → Int32} {u : mj_U} {m : ml_M} {lm : ml_J} {Φ : mj_R → mj_W → Prop}
/- PickedFormsLaw.law -/
theorem xd0_8 : decode (mj_b 0) 8 = .ok (.aload_n 1, 1) := by decide +kernel
theorem xd0_9 : decode (mj_b 0) 9 = .ok (.bipush 77, 2) := by decide +kernel
theorem xd0_11 : decode (mj_b 0) 11 = .ok (.invokestatic 124, 3) := by decide +kernel
theorem xd0_14 : decode (mj_b 0) 14 = .ok (.ifCond .eq 21, 3) := by decide +kernel
theorem xd0_17 : decode (mj_b 0) 17 = .ok (.aload_n 1, 1) := by decide +kernel
theorem xd0_18 : decode (mj_b 0) 18 = .ok (.invokevirtual 48, 3) := by decide +kernel
theorem xd0_21 : decode (mj_b 0) 21 = .ok (.dconst 1, 1) := by decide +kernel
theorem xd0_22 : decode (mj_b 0) 22 = .ok (.dcmp .l, 1) := by decide +kernel
theorem xd0_23 : decode (mj_b 0) 23 = .ok (.ifCond .ne 12, 3) := by decide +kernel
theorem xd0_26 : decode (mj_b 0) 26 = .ok (.aload_n 1, 1) := by decide +kernel
theorem xd0_27 : decode (mj_b 0) 27 = .ok (.invokevirtual 127, 3) := by decide +kernel
theorem xd0_30 : decode (mj_b 0) 30 = .ok (.fconst 0, 1) := by decide +kernel
theorem xd0_31 : decode (mj_b 0) 31 = .ok (.fcmp .l, 1) := by decide +kernel
theorem xd0_32 : decode (mj_b 0) 32 = .ok (.ifCond .eq 5, 3) := by decide +kernel
theorem xd0_35 : decode (mj_b 0) 35 = .ok (.iconst 0, 1) := by decide +kernel
theorem xd0_36 : decode (mj_b 0) 36 = .ok (.ireturn, 1) := by decide +kernel
theorem xd0_37 : decode (mj_b 0) 37 = .ok (.iconst 0, 1) := by decide +kernel
theorem xd0_38 : decode (mj_b 0) 38 = .ok (.istore_n 2, 1) := by decide +kernel
theorem xd0_39 : decode (mj_b 0) 39 = .ok (.iload_n 2, 1) := by decide +kernel
theorem xd0_40 : decode (mj_b 0) 40 = .ok (.bipush 30, 2) := by decide +kernel
theorem xd0_42 : decode (mj_b 0) 42 = .ok (.if_icmp .ge 52, 3) := by decide +kernel
theorem xd0_45 : decode (mj_b 0) 45 = .ok (.aload_n 1, 1) := by decide +kernel
theorem xd0_46 : decode (mj_b 0) 46 = .ok (.aload_n 0, 1) := by decide +kernel
theorem xd0_47 : decode (mj_b 0) 47 = .ok (.iconst 2, 1) := by decide +kernel
theorem xd0_48 : decode (mj_b 0) 48 = .ok (.iload_n 2, 1) := by decide +kernel
theorem xd0_49 : decode (mj_b 0) 49 = .ok (.imul, 1) := by decide +kernel
theorem xd0_50 : decode (mj_b 0) 50 = .ok (.invokestatic 131, 3) := by decide +kernel
theorem xd0_53 : decode (mj_b 0) 53 = .ok (.aload_n 0, 1) := by decide +kernel
theorem xd0_54 : decode (mj_b 0) 54 = .ok (.iconst 2, 1) := by decide +kernel
theorem xd0_55 : decode (mj_b 0) 55 = .ok (.iload_n 2, 1) := by decide +kernel
theorem xd0_56 : decode (mj_b 0) 56 = .ok (.imul, 1) := by decide +kernel
theorem xd0_57 : decode (mj_b 0) 57 = .ok (.iconst 1, 1) := by decide +kernel
theorem xd0_58 : decode (mj_b 0) 58 = .ok (.iadd, 1) := by decide +kernel
theorem xd0_59 : decode (mj_b 0) 59 = .ok (.invokestatic 131, 3) := by decide +kernel
theorem xd0_62 : decode (mj_b 0) 62 = .ok (.invokestatic 135, 3) := by decide +kernel
theorem xd0_65 : decode (mj_b 0) 65 = .ok (.ifCond .eq 21, 3) := by decide +kernel
theorem xd0_68 : decode (mj_b 0) 68 = .ok (.aload_n 1, 1) := by decide +kernel
theorem xd0_69 : decode (mj_b 0) 69 = .ok (.aload_n 0, 1) := by decide +kernel
theorem xd0_70 : decode (mj_b 0) 70 = .ok (.iconst 2, 1) := by decide +kernel
theorem xd0_71 : decode (mj_b 0) 71 = .ok (.iload_n 2, 1) := by decide +kernel
theorem xd0_72 : decode (mj_b 0) 72 = .ok (.imul, 1) := by decide +kernel
theorem xd0_73 : decode (mj_b 0) 73 = .ok (.iconst 1, 1) := by decide +kernel
theorem xd0_74 : decode (mj_b 0) 74 = .ok (.iadd, 1) := by decide +kernel
theorem xd0_75 : decode (mj_b 0) 75 = .ok (.invokestatic 131, 3) := by decide +kernel
theorem xd0_78 : decode (mj_b 0) 78 = .ok (.iconst 2, 1) := by decide +kernel
theorem xd0_79 : decode (mj_b 0) 79 = .ok (.ishr, 1) := by decide +kernel
theorem xd0_80 : decode (mj_b 0) 80 = .ok (.invokestatic 124, 3) := by decide +kernel
theorem xd0_83 : decode (mj_b 0) 83 = .ok (.ifCond .ne 5, 3) := by decide +kernel
theorem xd0_86 : decode (mj_b 0) 86 = .ok (.iconst 0, 1) := by decide +kernel
theorem xd0_87 : decode (mj_b 0) 87 = .ok (.ireturn, 1) := by decide +kernel
theorem xd0_88 : decode (mj_b 0) 88 = .ok (.iinc 2 1, 3) := by decide +kernel
theorem xd0_91 : decode (mj_b 0) 91 = .ok (.goto (-52), 3) := by decide +kernel
theorem xd0_94 : decode (mj_b 0) 94 = .ok (.aload_n 1, 1) := by decide +kernel
theorem xd0_95 : decode (mj_b 0) 95 = .ok (.iconst 0, 1) := by decide +kernel
theorem xd0_96 : decode (mj_b 0) 96 = .ok (.bipush 16, 2) := by decide +kernel
theorem xd0_98 : decode (mj_b 0) 98 = .ok (.invokevirtual 110, 3) := by decide +kernel
theorem xd0_101 : decode (mj_b 0) 101 = .ok (.istore_n 2, 1) := by decide +kernel
theorem xd0_102 : decode (mj_b 0) 102 = .ok (.iconst 0, 1) := by decide +kernel
theorem xd0_103 : decode (mj_b 0) 103 = .ok (.istore_n 3, 1) := by decide +kernel
theorem xd0_104 : decode (mj_b 0) 104 = .ok (.iload_n 3, 1) := by decide +kernel
theorem xd0_105 : decode (mj_b 0) 105 = .ok (.aload_n 1, 1) := by decide +kernel
theorem xd0_106 : decode (mj_b 0) 106 = .ok (.iconst 1, 1) := by decide +kernel
theorem xd0_107 : decode (mj_b 0) 107 = .ok (.invokevirtual 38, 3) := by decide +kernel
theorem xd0_110 : decode (mj_b 0) 110 = .ok (.if_icmp .ge 16, 3) := by decide +kernel
theorem xd0_113 : decode (mj_b 0) 113 = .ok (.aload_n 1, 1) := by decide +kernel
theorem xd0_114 : decode (mj_b 0) 114 = .ok (.iload_n 3, 1) := by decide +kernel
theorem xd0_115 : decode (mj_b 0) 115 = .ok (.invokevirtual 89, 3) := by decide +kernel
theorem xd0_118 : decode (mj_b 0) 118 = .ok (.istore 4, 2) := by decide +kernel
theorem xd0_120 : decode (mj_b 0) 120 = .ok (.iinc 3 1, 3) := by decide +kernel
theorem xd0_123 : decode (mj_b 0) 123 = .ok (.goto (-19), 3) := by decide +kernel
theorem xd0_126 : decode (mj_b 0) 126 = .ok (.iload_n 2, 1) := by decide +kernel
theorem xd0_127 : decode (mj_b 0) 127 = .ok (.ifCond .le 28, 3) := by decide +kernel
theorem xd0_130 : decode (mj_b 0) 130 = .ok (.aload_n 1, 1) := by decide +kernel
theorem xd0_131 : decode (mj_b 0) 131 = .ok (.iconst 2, 1) := by decide +kernel
theorem xd0_132 : decode (mj_b 0) 132 = .ok (.invokevirtual 38, 3) := by decide +kernel
theorem xd0_135 : decode (mj_b 0) 135 = .ok (.ifCond .gt 16, 3) := by decide +kernel
theorem xd0_138 : decode (mj_b 0) 138 = .ok (.aload_n 1, 1) := by decide +kernel
theorem xd0_139 : decode (mj_b 0) 139 = .ok (.iconst 0, 1) := by decide +kernel
theorem xd0_140 : decode (mj_b 0) 140 = .ok (.invokevirtual 59, 3) := by decide +kernel
theorem xd0_143 : decode (mj_b 0) 143 = .ok (.aload_n 1, 1) := by decide +kernel
theorem xd0_144 : decode (mj_b 0) 144 = .ok (.iconst 3, 1) := by decide +kernel
theorem xd0_145 : decode (mj_b 0) 145 = .ok (.invokevirtual 38, 3) := by decide +kernel
theorem xd0_148 : decode (mj_b 0) 148 = .ok (.if_icmp .gt 7, 3) := by decide +kernel
theorem xd0_151 : decode (mj_b 0) 151 = .ok (.iconst 1, 1) := by decide +kernel
theorem xd0_152 : decode (mj_b 0) 152 = .ok (.goto 4, 3) := by decide +kernel
theorem xd0_155 : decode (mj_b 0) 155 = .ok (.iconst 0, 1) := by decide +kernel
theorem xd0_156 : decode (mj_b 0) 156 = .ok (.ireturn, 1) := by decide +kernel
theorem x0_8 : wp Ln xs 0 8 [.ref 0, .ref 1, mj_hole, mj_hole, mj_hole] [] (u, ml_h m lm) Φ = wp Ln xs 55 0 [.ref 1, .int (nI 77), mj_hole, mj_hole, mj_hole, mj_hole, mj_hole, mj_hole, mj_hole] [] (u, ml_h m lm) (mk Ln xs 0 11 [.ref 0, .ref 1, mj_hole, mj_hole, mj_hole] [] Φ) := (wp_same xd0_8 (Or.inr rfl) rfl).trans ((wp_same (S' := [.int (nI 77), .ref 1]) xd0_9 (Or.inr rfl) rfl).trans (wm_cs (As := [.ref 1, .int (nI 77)]) (rest := []) xd0_11 rfl rfl (Nat.le_of_ble_eq_true rfl) (Nat.le_of_ble_eq_true rfl) (Nat.le_of_ble_eq_true rfl) (Nat.le_of_ble_eq_true rfl)))
theorem x0_14 {xs0 : Int32} : wp Ln xs 0 14 [.ref 0, .ref 1, mj_hole, mj_hole, mj_hole] [.int xs0] (u, ml_h m lm) Φ = if xs0 = (nI 0) then wp Ln xs 0 35 [.ref 0, .ref 1, mj_hole, mj_hole, mj_hole] [] (u, ml_h m lm) Φ else wp Ln xs 0 17 [.ref 0, .ref 1, mj_hole, mj_hole, mj_hole] [] (u, ml_h m lm) Φ := wx_if xd0_14 rfl rfl (xs0 = (nI 0)) mb_eq
theorem x0_17 : wp Ln xs 0 17 [.ref 0, .ref 1, mj_hole, mj_hole, mj_hole] [] (u, ml_h m lm) Φ = wp Ln xs 52 0 [.ref 1] [] (u, ml_h m lm) (mk Ln xs 0 18 [.ref 0, .ref 1, mj_hole, mj_hole, mj_hole] [] Φ) := (wp_same xd0_17 (Or.inr rfl) rfl).trans (wm_cv (As := []) (rest := []) xd0_18 rfl rfl (show ml_L[1]? = _ from rfl) (Nat.le_of_ble_eq_true rfl) (Nat.le_of_ble_eq_true rfl) (Nat.le_of_ble_eq_true rfl) (Nat.le_of_ble_eq_true rfl))
theorem x0_21 {zs0 : UInt64} : wp Ln xs 0 21 [.ref 0, .ref 1, mj_hole, mj_hole, mj_hole] [.double zs0] (u, ml_h m lm) Φ = if ¬ (Op.cmpValue (FP.dcmp zs0 FP.dconst1) .l) = (nI 0) then wp Ln xs 0 35 [.ref 0, .ref 1, mj_hole, mj_hole, mj_hole] [] (u, ml_h m lm) Φ else wp Ln xs 0 26 [.ref 0, .ref 1, mj_hole, mj_hole, mj_hole] [] (u, ml_h m lm) Φ := (wp_same xd0_21 (Or.inr rfl) rfl).trans ((wp_same xd0_22 (Or.inr rfl) rfl).trans (wx_if xd0_23 rfl rfl (¬ (Op.cmpValue (FP.dcmp zs0 FP.dconst1) .l) = (nI 0)) mb_ne))
theorem x0_26 : wp Ln xs 0 26 [.ref 0, .ref 1, mj_hole, mj_hole, mj_hole] [] (u, ml_h m lm) Φ = wp Ln xs 53 0 [.ref 1] [] (u, ml_h m lm) (mk Ln xs 0 27 [.ref 0, .ref 1, mj_hole, mj_hole, mj_hole] [] Φ) := (wp_same xd0_26 (Or.inr rfl) rfl).trans (wm_cv (As := []) (rest := []) xd0_27 rfl rfl (show ml_L[1]? = _ from rfl) (Nat.le_of_ble_eq_true rfl) (Nat.le_of_ble_eq_true rfl) (Nat.le_of_ble_eq_true rfl) (Nat.le_of_ble_eq_true rfl))
theorem x0_30 {zs0 : UInt32} : wp Ln xs 0 30 [.ref 0, .ref 1, mj_hole, mj_hole, mj_hole] [.float zs0] (u, ml_h m lm) Φ = if (Op.cmpValue (FP.fcmp zs0 FP.fconst0) .l) = (nI 0) then wp Ln xs 0 37 [.ref 0, .ref 1, mj_hole, mj_hole, mj_hole] [] (u, ml_h m lm) Φ else wp Ln xs 0 35 [.ref 0, .ref 1, mj_hole, mj_hole, mj_hole] [] (u, ml_h m lm) Φ := (wp_same xd0_30 (Or.inr rfl) rfl).trans ((wp_same xd0_31 (Or.inr rfl) rfl).trans (wx_if xd0_32 rfl rfl ((Op.cmpValue (FP.fcmp zs0 FP.fconst0) .l) = (nI 0)) mb_eq))
theorem x0_35 : wp Ln xs 0 35 [.ref 0, .ref 1, mj_hole, mj_hole, mj_hole] [] (u, ml_h m lm) Φ = Φ (.inl (some (.int (nI 0)))) (u, ml_h m lm) := (wp_same (S' := [.int (nI 0)]) xd0_35 (Or.inr rfl) rfl).trans (wp_fin (v := some (.int (nI 0))) xd0_36 (Or.inr rfl) rfl rfl)
theorem x0_37 : wp Ln xs 0 37 [.ref 0, .ref 1, mj_hole, mj_hole, mj_hole] [] (u, ml_h m lm) Φ = wp Ln xs 0 39 [.ref 0, .ref 1, .int (nI 0), mj_hole, mj_hole] [] (u, ml_h m lm) Φ := (wp_same (S' := [.int (nI 0)]) xd0_37 (Or.inr rfl) rfl).trans (wp_same (L' := [.ref 0, .ref 1, .int (nI 0), mj_hole, mj_hole]) xd0_38 (Or.inr rfl) rfl)
theorem x0_39 {x2 : Int32} : wp Ln xs 0 39 [.ref 0, .ref 1, .int x2, mj_hole, mj_hole] [] (u, ml_h m lm) Φ = if (nI 30) ≤ x2 then wp Ln xs 0 94 [.ref 0, .ref 1, .int x2, mj_hole, mj_hole] [] (u, ml_h m lm) Φ else wp Ln xs 0 45 [.ref 0, .ref 1, .int x2, mj_hole, mj_hole] [] (u, ml_h m lm) Φ := (wp_same xd0_39 (Or.inr rfl) rfl).trans ((wp_same (S' := [.int (nI 30), .int x2]) xd0_40 (Or.inr rfl) rfl).trans (wx_icmp xd0_42 rfl rfl ((nI 30) ≤ x2) mb_ge))
theorem x0_45 {x2 : Int32} : wp Ln xs 0 45 [.ref 0, .ref 1, .int x2, mj_hole, mj_hole] [] (u, ml_h m lm) Φ = wp Ln xs 54 0 [.ref 0, .int ((nI 2) * x2)] [] (u, ml_h m lm) (mk Ln xs 0 50 [.ref 0, .ref 1, .int x2, mj_hole, mj_hole] [.ref 1] Φ) := (wp_same xd0_45 (Or.inr rfl) rfl).trans ((wp_same xd0_46 (Or.inr rfl) rfl).trans ((wp_same (S' := [.int (nI 2), .ref 0, .ref 1]) xd0_47 (Or.inr rfl) rfl).trans ((wp_same xd0_48 (Or.inr rfl) rfl).trans ((wp_same xd0_49 (Or.inr rfl) rfl).trans (wm_cs (As := [.ref 0, .int ((nI 2) * x2)]) (rest := [.ref 1]) xd0_50 rfl rfl (Nat.le_of_ble_eq_true rfl) (Nat.le_of_ble_eq_true rfl) (Nat.le_of_ble_eq_true rfl) (Nat.le_of_ble_eq_true rfl))))))
theorem x0_53 {x2 : Int32} {xs0 : Int32} : wp Ln xs 0 53 [.ref 0, .ref 1, .int x2, mj_hole, mj_hole] [.int xs0, .ref 1] (u, ml_h m lm) Φ = wp Ln xs 54 0 [.ref 0, .int (((nI 2) * x2) + (nI 1))] [] (u, ml_h m lm) (mk Ln xs 0 59 [.ref 0, .ref 1, .int x2, mj_hole, mj_hole] [.int xs0, .ref 1] Φ) := (wp_same xd0_53 (Or.inr rfl) rfl).trans ((wp_same (S' := [.int (nI 2), .ref 0, .int xs0, .ref 1]) xd0_54 (Or.inr rfl) rfl).trans ((wp_same xd0_55 (Or.inr rfl) rfl).trans ((wp_same xd0_56 (Or.inr rfl) rfl).trans ((wp_same (S' := [.int (nI 1), .int ((nI 2) * x2), .ref 0, .int xs0, .ref 1]) xd0_57 (Or.inr rfl) rfl).trans ((wp_same xd0_58 (Or.inr rfl) rfl).trans (wm_cs (As := [.ref 0, .int (((nI 2) * x2) + (nI 1))]) (rest := [.int xs0, .ref 1]) xd0_59 rfl rfl (Nat.le_of_ble_eq_true rfl) (Nat.le_of_ble_eq_true rfl) (Nat.le_of_ble_eq_true rfl) (Nat.le_of_ble_eq_true rfl)))))))
theorem x0_62 {x2 : Int32} {xs0 : Int32} {xs1 : Int32} : wp Ln xs 0 62 [.ref 0, .ref 1, .int x2, mj_hole, mj_hole] [.int xs0, .int xs1, .ref 1] (u, ml_h m lm) Φ = wp Ln xs 92 0 [.ref 1, .int xs1, .int xs0, mj_hole, mj_hole, mj_hole, mj_hole, mj_hole, mj_hole] [] (u, ml_h m lm) (mk Ln xs 0 62 [.ref 0, .ref 1, .int x2, mj_hole, mj_hole] [] Φ) := wm_cs (As := [.ref 1, .int xs1, .int xs0]) (rest := []) xd0_62 rfl rfl (Nat.le_of_ble_eq_true rfl) (Nat.le_of_ble_eq_true rfl) (Nat.le_of_ble_eq_true rfl) (Nat.le_of_ble_eq_true rfl)
theorem x0_65 {x2 : Int32} {xs0 : Int32} : wp Ln xs 0 65 [.ref 0, .ref 1, .int x2, mj_hole, mj_hole] [.int xs0] (u, ml_h m lm) Φ = if xs0 = (nI 0) then wp Ln xs 0 86 [.ref 0, .ref 1, .int x2, mj_hole, mj_hole] [] (u, ml_h m lm) Φ else wp Ln xs 0 68 [.ref 0, .ref 1, .int x2, mj_hole, mj_hole] [] (u, ml_h m lm) Φ := wx_if xd0_65 rfl rfl (xs0 = (nI 0)) mb_eq
theorem x0_68 {x2 : Int32} : wp Ln xs 0 68 [.ref 0, .ref 1, .int x2, mj_hole, mj_hole] [] (u, ml_h m lm) Φ = wp Ln xs 54 0 [.ref 0, .int (((nI 2) * x2) + (nI 1))] [] (u, ml_h m lm) (mk Ln xs 0 75 [.ref 0, .ref 1, .int x2, mj_hole, mj_hole] [.ref 1] Φ) := (wp_same xd0_68 (Or.inr rfl) rfl).trans ((wp_same xd0_69 (Or.inr rfl) rfl).trans ((wp_same (S' := [.int (nI 2), .ref 0, .ref 1]) xd0_70 (Or.inr rfl) rfl).trans ((wp_same xd0_71 (Or.inr rfl) rfl).trans ((wp_same xd0_72 (Or.inr rfl) rfl).trans ((wp_same (S' := [.int (nI 1), .int ((nI 2) * x2), .ref 0, .ref 1]) xd0_73 (Or.inr rfl) rfl).trans ((wp_same xd0_74 (Or.inr rfl) rfl).trans (wm_cs (As := [.ref 0, .int (((nI 2) * x2) + (nI 1))]) (rest := [.ref 1]) xd0_75 rfl rfl (Nat.le_of_ble_eq_true rfl) (Nat.le_of_ble_eq_true rfl) (Nat.le_of_ble_eq_true rfl) (Nat.le_of_ble_eq_true rfl))))))))
theorem x0_78 {x2 : Int32} {xs0 : Int32} : wp Ln xs 0 78 [.ref 0, .ref 1, .int x2, mj_hole, mj_hole] [.int xs0, .ref 1] (u, ml_h m lm) Φ = wp Ln xs 55 0 [.ref 1, .int (xs0 >>> ((nI 2) &&& 31)), mj_hole, mj_hole, mj_hole, mj_hole, mj_hole, mj_hole, mj_hole] [] (u, ml_h m lm) (mk Ln xs 0 80 [.ref 0, .ref 1, .int x2, mj_hole, mj_hole] [] Φ) := (wp_same (S' := [.int (nI 2), .int xs0, .ref 1]) xd0_78 (Or.inr rfl) rfl).trans ((wp_same xd0_79 (Or.inr rfl) rfl).trans (wm_cs (As := [.ref 1, .int (xs0 >>> ((nI 2) &&& 31))]) (rest := []) xd0_80 rfl rfl (Nat.le_of_ble_eq_true rfl) (Nat.le_of_ble_eq_true rfl) (Nat.le_of_ble_eq_true rfl) (Nat.le_of_ble_eq_true rfl)))
theorem x0_83 {x2 : Int32} {xs0 : Int32} : wp Ln xs 0 83 [.ref 0, .ref 1, .int x2, mj_hole, mj_hole] [.int xs0] (u, ml_h m lm) Φ = if ¬ xs0 = (nI 0) then wp Ln xs 0 88 [.ref 0, .ref 1, .int x2, mj_hole, mj_hole] [] (u, ml_h m lm) Φ else wp Ln xs 0 86 [.ref 0, .ref 1, .int x2, mj_hole, mj_hole] [] (u, ml_h m lm) Φ := wx_if xd0_83 rfl rfl (¬ xs0 = (nI 0)) mb_ne
theorem x0_86 {x2 : Int32} : wp Ln xs 0 86 [.ref 0, .ref 1, .int x2, mj_hole, mj_hole] [] (u, ml_h m lm) Φ = Φ (.inl (some (.int (nI 0)))) (u, ml_h m lm) := (wp_same (S' := [.int (nI 0)]) xd0_86 (Or.inr rfl) rfl).trans (wp_fin (v := some (.int (nI 0))) xd0_87 (Or.inr rfl) rfl rfl)
theorem x0_88 {x2 : Int32} : wp Ln xs 0 88 [.ref 0, .ref 1, .int x2, mj_hole, mj_hole] [] (u, ml_h m lm) Φ = wp Ln xs 0 39 [.ref 0, .ref 1, .int (x2 + nI 1), mj_hole, mj_hole] [] (u, ml_h m lm) Φ := (wp_same (L' := [.ref 0, .ref 1, .int (x2 + nI 1), mj_hole, mj_hole]) xd0_88 (Or.inr rfl) rfl).trans (wx_goto xd0_91 rfl)
theorem x0_94 {x2 : Int32} : wp Ln xs 0 94 [.ref 0, .ref 1, .int x2, mj_hole, mj_hole] [] (u, ml_h m lm) Φ = wp Ln xs 30 0 [.ref 1, .int (nI 0), .int (nI 16), mj_hole] [] (u, ml_h m lm) (mk Ln xs 0 98 [.ref 0, .ref 1, .int x2, mj_hole, mj_hole] [] Φ) := (wp_same xd0_94 (Or.inr rfl) rfl).trans ((wp_same (S' := [.int (nI 0), .ref 1]) xd0_95 (Or.inr rfl) rfl).trans ((wp_same (S' := [.int (nI 16), .int (nI 0), .ref 1]) xd0_96 (Or.inr rfl) rfl).trans (wm_cv (As := [.int (nI 0), .int (nI 16)]) (rest := []) xd0_98 rfl rfl (show ml_L[1]? = _ from rfl) (Nat.le_of_ble_eq_true rfl) (Nat.le_of_ble_eq_true rfl) (Nat.le_of_ble_eq_true rfl) (Nat.le_of_ble_eq_true rfl))))
theorem x0_101 {x2 : Int32} {xs0 : Int32} : wp Ln xs 0 101 [.ref 0, .ref 1, .int x2, mj_hole, mj_hole] [.int xs0] (u, ml_h m lm) Φ = wp Ln xs 0 104 [.ref 0, .ref 1, .int xs0, .int (nI 0), mj_hole] [] (u, ml_h m lm) Φ := (wp_same (L' := [.ref 0, .ref 1, .int xs0, mj_hole, mj_hole]) xd0_101 (Or.inr rfl) rfl).trans ((wp_same (S' := [.int (nI 0)]) xd0_102 (Or.inr rfl) rfl).trans (wp_same (L' := [.ref 0, .ref 1, .int xs0, .int (nI 0), mj_hole]) xd0_103 (Or.inr rfl) rfl))
theorem x0_104 {x2 : Int32} {x3 : Int32} {v4 : Value} : wp Ln xs 0 104 [.ref 0, .ref 1, .int x2, .int x3, v4] [] (u, ml_h m lm) Φ = wp Ln xs 34 0 [.ref 1, .int (nI 1)] [] (u, ml_h m lm) (mk Ln xs 0 107 [.ref 0, .ref 1, .int x2, .int x3, v4] [.int x3] Φ) := (wp_same xd0_104 (Or.inr rfl) rfl).trans ((wp_same xd0_105 (Or.inr rfl) rfl).trans ((wp_same (S' := [.int (nI 1), .ref 1, .int x3]) xd0_106 (Or.inr rfl) rfl).trans (wm_cv (As := [.int (nI 1)]) (rest := [.int x3]) xd0_107 rfl rfl (show ml_L[1]? = _ from rfl) (Nat.le_of_ble_eq_true rfl) (Nat.le_of_ble_eq_true rfl) (Nat.le_of_ble_eq_true rfl) (Nat.le_of_ble_eq_true rfl))))
theorem x0_110 {x2 : Int32} {x3 : Int32} {v4 : Value} {xs0 : Int32} {xs1 : Int32} : wp Ln xs 0 110 [.ref 0, .ref 1, .int x2, .int x3, v4] [.int xs0, .int xs1] (u, ml_h m lm) Φ = if xs0 ≤ xs1 then wp Ln xs 0 126 [.ref 0, .ref 1, .int x2, .int x3, v4] [] (u, ml_h m lm) Φ else wp Ln xs 0 113 [.ref 0, .ref 1, .int x2, .int x3, v4] [] (u, ml_h m lm) Φ := wx_icmp xd0_110 rfl rfl (xs0 ≤ xs1) mb_ge
theorem x0_113 {x2 : Int32} {x3 : Int32} {v4 : Value} : wp Ln xs 0 113 [.ref 0, .ref 1, .int x2, .int x3, v4] [] (u, ml_h m lm) Φ = wp Ln xs 10 0 [.ref 1, .int x3, mj_hole] [] (u, ml_h m lm) (mk Ln xs 0 115 [.ref 0, .ref 1, .int x2, .int x3, v4] [] Φ) := (wp_same xd0_113 (Or.inr rfl) rfl).trans ((wp_same xd0_114 (Or.inr rfl) rfl).trans (wm_cv (As := [.int x3]) (rest := []) xd0_115 rfl rfl (show ml_L[1]? = _ from rfl) (Nat.le_of_ble_eq_true rfl) (Nat.le_of_ble_eq_true rfl) (Nat.le_of_ble_eq_true rfl) (Nat.le_of_ble_eq_true rfl)))
theorem x0_118 {x2 : Int32} {x3 : Int32} {v4 : Value} {xs0 : Int32} : wp Ln xs 0 118 [.ref 0, .ref 1, .int x2, .int x3, v4] [.int xs0] (u, ml_h m lm) Φ = wp Ln xs 0 104 [.ref 0, .ref 1, .int x2, .int (x3 + nI 1), .int xs0] [] (u, ml_h m lm) Φ := (wp_same (L' := [.ref 0, .ref 1, .int x2, .int x3, .int xs0]) xd0_118 (Or.inr rfl) rfl).trans ((wp_same (L' := [.ref 0, .ref 1, .int x2, .int (x3 + nI 1), .int xs0]) xd0_120 (Or.inr rfl) rfl).trans (wx_goto xd0_123 rfl))
theorem x0_126 {x2 : Int32} {x3 : Int32} {v4 : Value} : wp Ln xs 0 126 [.ref 0, .ref 1, .int x2, .int x3, v4] [] (u, ml_h m lm) Φ = if x2 ≤ (nI 0) then wp Ln xs 0 155 [.ref 0, .ref 1, .int x2, .int x3, v4] [] (u, ml_h m lm) Φ else wp Ln xs 0 130 [.ref 0, .ref 1, .int x2, .int x3, v4] [] (u, ml_h m lm) Φ := (wp_same xd0_126 (Or.inr rfl) rfl).trans (wx_if xd0_127 rfl rfl (x2 ≤ (nI 0)) mb_le)
theorem x0_130 {x2 : Int32} {x3 : Int32} {v4 : Value} : wp Ln xs 0 130 [.ref 0, .ref 1, .int x2, .int x3, v4] [] (u, ml_h m lm) Φ = wp Ln xs 34 0 [.ref 1, .int (nI 2)] [] (u, ml_h m lm) (mk Ln xs 0 132 [.ref 0, .ref 1, .int x2, .int x3, v4] [] Φ) := (wp_same xd0_130 (Or.inr rfl) rfl).trans ((wp_same (S' := [.int (nI 2), .ref 1]) xd0_131 (Or.inr rfl) rfl).trans (wm_cv (As := [.int (nI 2)]) (rest := []) xd0_132 rfl rfl (show ml_L[1]? = _ from rfl) (Nat.le_of_ble_eq_true rfl) (Nat.le_of_ble_eq_true rfl) (Nat.le_of_ble_eq_true rfl) (Nat.le_of_ble_eq_true rfl)))
theorem x0_135 {x2 : Int32} {x3 : Int32} {v4 : Value} {xs0 : Int32} : wp Ln xs 0 135 [.ref 0, .ref 1, .int x2, .int x3, v4] [.int xs0] (u, ml_h m lm) Φ = if (nI 0) < xs0 then wp Ln xs 0 151 [.ref 0, .ref 1, .int x2, .int x3, v4] [] (u, ml_h m lm) Φ else wp Ln xs 0 138 [.ref 0, .ref 1, .int x2, .int x3, v4] [] (u, ml_h m lm) Φ := wx_if xd0_135 rfl rfl ((nI 0) < xs0) mb_gt
theorem x0_138 {x2 : Int32} {x3 : Int32} {v4 : Value} : wp Ln xs 0 138 [.ref 0, .ref 1, .int x2, .int x3, v4] [] (u, ml_h m lm) Φ = wp Ln xs 44 0 [.ref 1, .int (nI 0)] [] (u, ml_h m lm) (mk Ln xs 0 140 [.ref 0, .ref 1, .int x2, .int x3, v4] [] Φ) := (wp_same xd0_138 (Or.inr rfl) rfl).trans ((wp_same (S' := [.int (nI 0), .ref 1]) xd0_139 (Or.inr rfl) rfl).trans (wm_cv (As := [.int (nI 0)]) (rest := []) xd0_140 rfl rfl (show ml_L[1]? = _ from rfl) (Nat.le_of_ble_eq_true rfl) (Nat.le_of_ble_eq_true rfl) (Nat.le_of_ble_eq_true rfl) (Nat.le_of_ble_eq_true rfl)))
theorem x0_143 {x2 : Int32} {x3 : Int32} {v4 : Value} {xs0 : Int32} : wp Ln xs 0 143 [.ref 0, .ref 1, .int x2, .int x3, v4] [.int xs0] (u, ml_h m lm) Φ = wp Ln xs 34 0 [.ref 1, .int (nI 3)] [] (u, ml_h m lm) (mk Ln xs 0 145 [.ref 0, .ref 1, .int x2, .int x3, v4] [.int xs0] Φ) := (wp_same xd0_143 (Or.inr rfl) rfl).trans ((wp_same (S' := [.int (nI 3), .ref 1, .int xs0]) xd0_144 (Or.inr rfl) rfl).trans (wm_cv (As := [.int (nI 3)]) (rest := [.int xs0]) xd0_145 rfl rfl (show ml_L[1]? = _ from rfl) (Nat.le_of_ble_eq_true rfl) (Nat.le_of_ble_eq_true rfl) (Nat.le_of_ble_eq_true rfl) (Nat.le_of_ble_eq_true rfl)))
theorem x0_148 {x2 : Int32} {x3 : Int32} {v4 : Value} {xs0 : Int32} {xs1 : Int32} : wp Ln xs 0 148 [.ref 0, .ref 1, .int x2, .int x3, v4] [.int xs0, .int xs1] (u, ml_h m lm) Φ = if xs0 < xs1 then wp Ln xs 0 155 [.ref 0, .ref 1, .int x2, .int x3, v4] [] (u, ml_h m lm) Φ else wp Ln xs 0 151 [.ref 0, .ref 1, .int x2, .int x3, v4] [] (u, ml_h m lm) Φ := wx_icmp xd0_148 rfl rfl (xs0 < xs1) mb_gt
theorem x0_151 {x2 : Int32} {x3 : Int32} {v4 : Value} : wp Ln xs 0 151 [.ref 0, .ref 1, .int x2, .int x3, v4] [] (u, ml_h m lm) Φ = Φ (.inl (some (.int (nI 1)))) (u, ml_h m lm) := (wp_same (S' := [.int (nI 1)]) xd0_151 (Or.inr rfl) rfl).trans ((wx_goto xd0_152 rfl).trans (wp_fin (v := some (.int (nI 1))) xd0_156 (Or.inr rfl) rfl rfl))
theorem x0_155 {x2 : Int32} {x3 : Int32} {v4 : Value} : wp Ln xs 0 155 [.ref 0, .ref 1, .int x2, .int x3, v4] [] (u, ml_h m lm) Φ = Φ (.inl (some (.int (nI 0)))) (u, ml_h m lm) := (wp_same (S' := [.int (nI 0)]) xd0_155 (Or.inr rfl) rfl).trans (wp_fin (v := some (.int (nI 0))) xd0_156 (Or.inr rfl) rfl rfl)
/- PickedForms.anew -/
theorem xd10_0 : decode (mj_b 10) 0 = .ok (.aload_n 0, 1) := by decide +kernel
theorem xd10_1 : decode (mj_b 10) 1 = .ok (.getfield 12, 3) := by decide +kernel
theorem xd10_4 : decode (mj_b 10) 4 = .ok (.iload_n 1, 1) := by decide +kernel
theorem xd10_5 : decode (mj_b 10) 5 = .ok (.invokevirtual 154, 3) := by decide +kernel
theorem xd10_8 : decode (mj_b 10) 8 = .ok (.ifCond .ne 13, 3) := by decide +kernel
theorem xd10_11 : decode (mj_b 10) 11 = .ok (.new 130, 3) := by decide +kernel
theorem xd10_21 : decode (mj_b 10) 21 = .ok (.aload_n 0, 1) := by decide +kernel
theorem xd10_22 : decode (mj_b 10) 22 = .ok (.getfield 26, 3) := by decide +kernel
theorem xd10_25 : decode (mj_b 10) 25 = .ok (.aload_n 0, 1) := by decide +kernel
theorem xd10_26 : decode (mj_b 10) 26 = .ok (.getfield 12, 3) := by decide +kernel
theorem xd10_29 : decode (mj_b 10) 29 = .ok (.invokevirtual 96, 3) := by decide +kernel
theorem xd10_32 : decode (mj_b 10) 32 = .ok (.aload_n 0, 1) := by decide +kernel
theorem xd10_33 : decode (mj_b 10) 33 = .ok (.getfield 12, 3) := by decide +kernel
theorem xd10_36 : decode (mj_b 10) 36 = .ok (.iload_n 1, 1) := by decide +kernel
theorem xd10_37 : decode (mj_b 10) 37 = .ok (.invokevirtual 159, 3) := by decide +kernel
theorem xd10_40 : decode (mj_b 10) 40 = .ok (.istore_n 2, 1) := by decide +kernel
theorem xd10_41 : decode (mj_b 10) 41 = .ok (.aload_n 0, 1) := by decide +kernel
theorem xd10_42 : decode (mj_b 10) 42 = .ok (.iload_n 1, 1) := by decide +kernel
theorem xd10_43 : decode (mj_b 10) 43 = .ok (.invokevirtual 120, 3) := by decide +kernel
theorem xd10_46 : decode (mj_b 10) 46 = .ok (.iload_n 2, 1) := by decide +kernel
theorem xd10_47 : decode (mj_b 10) 47 = .ok (.aload_n 0, 1) := by decide +kernel
theorem xd10_48 : decode (mj_b 10) 48 = .ok (.getfield 12, 3) := by decide +kernel
theorem xd10_51 : decode (mj_b 10) 51 = .ok (.iload_n 1, 1) := by decide +kernel
theorem xd10_52 : decode (mj_b 10) 52 = .ok (.invokevirtual 159, 3) := by decide +kernel
theorem xd10_55 : decode (mj_b 10) 55 = .ok (.isub, 1) := by decide +kernel
theorem xd10_56 : decode (mj_b 10) 56 = .ok (.ireturn, 1) := by decide +kernel
theorem x10_0 {x1 : Int32} : wp Ln xs 10 0 [.ref 1, .int x1, mj_hole] [] (u, ml_h m lm) Φ = wp Ln xs 11 0 [.ref 2, .int x1] [] (u, ml_h m lm) (mk Ln xs 10 5 [.ref 1, .int x1, mj_hole] [] Φ) := (wp_same xd10_0 (Or.inr rfl) rfl).trans ((wm_getr xd10_1 rfl (show ml_L[1]? = _ from rfl) rfl (Nat.le_of_ble_eq_true rfl)).trans ((wp_same xd10_4 (Or.inr rfl) rfl).trans (wm_cv (As := [.int x1]) (rest := []) xd10_5 rfl rfl (show ml_L[2]? = _ from rfl) (Nat.le_of_ble_eq_true rfl) (Nat.le_of_ble_eq_true rfl) (Nat.le_of_ble_eq_true rfl) (Nat.le_of_ble_eq_true rfl))))
theorem x10_8 {x1 : Int32} {xs0 : Int32} : wp Ln xs 10 8 [.ref 1, .int x1, mj_hole] [.int xs0] (u, ml_h m lm) Φ = if ¬ xs0 = (nI 0) then wp Ln xs 10 21 [.ref 1, .int x1, mj_hole] [] (u, ml_h m lm) Φ else wp Ln xs 10 11 [.ref 1, .int x1, mj_hole] [] (u, ml_h m lm) Φ := wx_if xd10_8 rfl rfl (¬ xs0 = (nI 0)) mb_ne
theorem x10_11 {x1 : Int32} : wp Ln xs 10 11 [.ref 1, .int x1, mj_hole] [] (u, ml_h m lm) Φ = Φ (.inr 2) ((u.1, u.2.1 + 1, u.2.2 + 6), ml_h m lm) := wp_thr xd10_11 (Or.inr rfl) rfl rfl (E := 2) (by decide +kernel)
theorem x10_21 {x1 : Int32} : wp Ln xs 10 21 [.ref 1, .int x1, mj_hole] [] (u, ml_h m lm) Φ = wp Ln xs 12 0 [.ref 14, .ref 2, mj_hole] [] (u, ml_h m lm) (mk Ln xs 10 29 [.ref 1, .int x1, mj_hole] [] Φ) := (wp_same xd10_21 (Or.inr rfl) rfl).trans ((wm_getr xd10_22 rfl (show ml_L[1]? = _ from rfl) rfl (Nat.le_of_ble_eq_true rfl)).trans ((wp_same xd10_25 (Or.inr rfl) rfl).trans ((wm_getr xd10_26 rfl (show ml_L[1]? = _ from rfl) rfl (Nat.le_of_ble_eq_true rfl)).trans (wm_cv (As := [.ref 2]) (rest := []) xd10_29 rfl rfl (show ml_L[14]? = _ from rfl) (Nat.le_of_ble_eq_true rfl) (Nat.le_of_ble_eq_true rfl) (Nat.le_of_ble_eq_true rfl) (Nat.le_of_ble_eq_true rfl)))))
theorem x10_32 {x1 : Int32} : wp Ln xs 10 32 [.ref 1, .int x1, mj_hole] [] (u, ml_h m lm) Φ = wp Ln xs 16 0 [.ref 2, .int x1] [] (u, ml_h m lm) (mk Ln xs 10 37 [.ref 1, .int x1, mj_hole] [] Φ) := (wp_same xd10_32 (Or.inr rfl) rfl).trans ((wm_getr xd10_33 rfl (show ml_L[1]? = _ from rfl) rfl (Nat.le_of_ble_eq_true rfl)).trans ((wp_same xd10_36 (Or.inr rfl) rfl).trans (wm_cv (As := [.int x1]) (rest := []) xd10_37 rfl rfl (show ml_L[2]? = _ from rfl) (Nat.le_of_ble_eq_true rfl) (Nat.le_of_ble_eq_true rfl) (Nat.le_of_ble_eq_true rfl) (Nat.le_of_ble_eq_true rfl))))
theorem x10_40 {x1 : Int32} {xs0 : Int32} : wp Ln xs 10 40 [.ref 1, .int x1, mj_hole] [.int xs0] (u, ml_h m lm) Φ = wp Ln xs 18 0 [.ref 1, .int x1] [] (u, ml_h m lm) (mk Ln xs 10 43 [.ref 1, .int x1, .int xs0] [] Φ) := (wp_same (L' := [.ref 1, .int x1, .int xs0]) xd10_40 (Or.inr rfl) rfl).trans ((wp_same xd10_41 (Or.inr rfl) rfl).trans ((wp_same xd10_42 (Or.inr rfl) rfl).trans (wm_cv (As := [.int x1]) (rest := []) xd10_43 rfl rfl (show ml_L[1]? = _ from rfl) (Nat.le_of_ble_eq_true rfl) (Nat.le_of_ble_eq_true rfl) (Nat.le_of_ble_eq_true rfl) (Nat.le_of_ble_eq_true rfl))))
theorem x10_46 {x1 : Int32} {x2 : Int32} : wp Ln xs 10 46 [.ref 1, .int x1, .int x2] [] (u, ml_h m lm) Φ = wp Ln xs 16 0 [.ref 2, .int x1] [] (u, ml_h m lm) (mk Ln xs 10 52 [.ref 1, .int x1, .int x2] [.int x2] Φ) := (wp_same xd10_46 (Or.inr rfl) rfl).trans ((wp_same xd10_47 (Or.inr rfl) rfl).trans ((wm_getr xd10_48 rfl (show ml_L[1]? = _ from rfl) rfl (Nat.le_of_ble_eq_true rfl)).trans ((wp_same xd10_51 (Or.inr rfl) rfl).trans (wm_cv (As := [.int x1]) (rest := [.int x2]) xd10_52 rfl rfl (show ml_L[2]? = _ from rfl) (Nat.le_of_ble_eq_true rfl) (Nat.le_of_ble_eq_true rfl) (Nat.le_of_ble_eq_true rfl) (Nat.le_of_ble_eq_true rfl)))))
theorem x10_55 {x1 : Int32} {x2 : Int32} {xs0 : Int32} {xs1 : Int32} : wp Ln xs 10 55 [.ref 1, .int x1, .int x2] [.int xs0, .int xs1] (u, ml_h m lm) Φ = Φ (.inl (some (.int (xs1 - xs0)))) (u, ml_h m lm) := (wp_same xd10_55 (Or.inr rfl) rfl).trans (wp_fin (v := some (.int (xs1 - xs0))) xd10_56 (Or.inr rfl) rfl (mj_fin_i rfl))
/- PickedForms$Column.hasBlock -/
theorem xd11_0 : decode (mj_b 11) 0 = .ok (.iload_n 1, 1) := by decide +kernel
theorem xd11_1 : decode (mj_b 11) 1 = .ok (.ifCond .lt 15, 3) := by decide +kernel
theorem xd11_4 : decode (mj_b 11) 4 = .ok (.iload_n 1, 1) := by decide +kernel
theorem xd11_5 : decode (mj_b 11) 5 = .ok (.aload_n 0, 1) := by decide +kernel
theorem xd11_6 : decode (mj_b 11) 6 = .ok (.getfield 31, 3) := by decide +kernel
theorem xd11_9 : decode (mj_b 11) 9 = .ok (.if_icmp .ge 7, 3) := by decide +kernel
theorem xd11_12 : decode (mj_b 11) 12 = .ok (.iconst 1, 1) := by decide +kernel
theorem xd11_13 : decode (mj_b 11) 13 = .ok (.goto 4, 3) := by decide +kernel
theorem xd11_16 : decode (mj_b 11) 16 = .ok (.iconst 0, 1) := by decide +kernel
theorem xd11_17 : decode (mj_b 11) 17 = .ok (.ireturn, 1) := by decide +kernel
theorem x11_0 {x1 : Int32} : wp Ln xs 11 0 [.ref 2, .int x1] [] (u, ml_h m lm) Φ = if x1 < (nI 0) then wp Ln xs 11 16 [.ref 2, .int x1] [] (u, ml_h m lm) Φ else wp Ln xs 11 4 [.ref 2, .int x1] [] (u, ml_h m lm) Φ := (wp_same xd11_0 (Or.inr rfl) rfl).trans (wx_if xd11_1 rfl rfl (x1 < (nI 0)) mb_lt)
theorem x11_4 {x1 : Int32} : wp Ln xs 11 4 [.ref 2, .int x1] [] (u, ml_h m lm) Φ = if (m 2 6) ≤ x1 then wp Ln xs 11 16 [.ref 2, .int x1] [] (u, ml_h m lm) Φ else wp Ln xs 11 12 [.ref 2, .int x1] [] (u, ml_h m lm) Φ := (wp_same xd11_4 (Or.inr rfl) rfl).trans ((wp_same xd11_5 (Or.inr rfl) rfl).trans ((wm_geti xd11_6 rfl (show ml_L[2]? = _ from rfl) rfl (Nat.le_of_ble_eq_true rfl)).trans (wx_icmp xd11_9 rfl rfl ((m 2 6) ≤ x1) mb_ge)))
theorem x11_12 {x1 : Int32} : wp Ln xs 11 12 [.ref 2, .int x1] [] (u, ml_h m lm) Φ = Φ (.inl (some (.int (nI 1)))) (u, ml_h m lm) := (wp_same (S' := [.int (nI 1)]) xd11_12 (Or.inr rfl) rfl).trans ((wx_goto xd11_13 rfl).trans (wp_fin (v := some (.int (nI 1))) xd11_17 (Or.inr rfl) rfl rfl))
theorem x11_16 {x1 : Int32} : wp Ln xs 11 16 [.ref 2, .int x1] [] (u, ml_h m lm) Φ = Φ (.inl (some (.int (nI 0)))) (u, ml_h m lm) := (wp_same (S' := [.int (nI 0)]) xd11_16 (Or.inr rfl) rfl).trans (wp_fin (v := some (.int (nI 0))) xd11_17 (Or.inr rfl) rfl rfl)
/- PickedForms$History.push -/
theorem xd12_0 : decode (mj_b 12) 0 = .ok (.aload_n 0, 1) := by decide +kernel
theorem xd12_1 : decode (mj_b 12) 1 = .ok (.aload_n 0, 1) := by decide +kernel
theorem xd12_2 : decode (mj_b 12) 2 = .ok (.getfield 17, 3) := by decide +kernel
theorem xd12_5 : decode (mj_b 12) 5 = .ok (.aload_n 0, 1) := by decide +kernel
theorem xd12_6 : decode (mj_b 12) 6 = .ok (.getfield 21, 3) := by decide +kernel
theorem xd12_9 : decode (mj_b 12) 9 = .ok (.iadd, 1) := by decide +kernel
theorem xd12_10 : decode (mj_b 12) 10 = .ok (.invokevirtual 25, 3) := by decide +kernel
theorem xd12_13 : decode (mj_b 12) 13 = .ok (.astore_n 2, 1) := by decide +kernel
theorem xd12_14 : decode (mj_b 12) 14 = .ok (.aload_n 2, 1) := by decide +kernel
theorem xd12_15 : decode (mj_b 12) 15 = .ok (.ifnull 8, 3) := by decide +kernel
theorem xd12_18 : decode (mj_b 12) 18 = .ok (.aload_n 2, 1) := by decide +kernel
theorem xd12_19 : decode (mj_b 12) 19 = .ok (.aload_n 1, 1) := by decide +kernel
theorem xd12_20 : decode (mj_b 12) 20 = .ok (.invokevirtual 29, 3) := by decide +kernel
theorem xd12_23 : decode (mj_b 12) 23 = .ok (.aload_n 0, 1) := by decide +kernel
theorem xd12_24 : decode (mj_b 12) 24 = .ok (.getfield 21, 3) := by decide +kernel
theorem xd12_27 : decode (mj_b 12) 27 = .ok (.bipush 6, 2) := by decide +kernel
theorem xd12_29 : decode (mj_b 12) 29 = .ok (.if_icmp .ge 16, 3) := by decide +kernel
theorem xd12_32 : decode (mj_b 12) 32 = .ok (.aload_n 0, 1) := by decide +kernel
theorem xd12_33 : decode (mj_b 12) 33 = .ok (.dup, 1) := by decide +kernel
theorem xd12_34 : decode (mj_b 12) 34 = .ok (.getfield 21, 3) := by decide +kernel
theorem xd12_37 : decode (mj_b 12) 37 = .ok (.iconst 1, 1) := by decide +kernel
theorem xd12_38 : decode (mj_b 12) 38 = .ok (.iadd, 1) := by decide +kernel
theorem xd12_39 : decode (mj_b 12) 39 = .ok (.putfield 21, 3) := by decide +kernel
theorem xd12_42 : decode (mj_b 12) 42 = .ok (.goto 16, 3) := by decide +kernel
theorem xd12_45 : decode (mj_b 12) 45 = .ok (.aload_n 0, 1) := by decide +kernel
theorem xd12_46 : decode (mj_b 12) 46 = .ok (.aload_n 0, 1) := by decide +kernel
theorem xd12_47 : decode (mj_b 12) 47 = .ok (.getfield 17, 3) := by decide +kernel
theorem xd12_50 : decode (mj_b 12) 50 = .ok (.iconst 1, 1) := by decide +kernel
theorem xd12_51 : decode (mj_b 12) 51 = .ok (.iadd, 1) := by decide +kernel
theorem xd12_52 : decode (mj_b 12) 52 = .ok (.bipush 6, 2) := by decide +kernel
theorem xd12_54 : decode (mj_b 12) 54 = .ok (.irem, 1) := by decide +kernel
theorem xd12_55 : decode (mj_b 12) 55 = .ok (.putfield 17, 3) := by decide +kernel
theorem xd12_58 : decode (mj_b 12) 58 = .ok (.return_, 1) := by decide +kernel
theorem x12_0 : wp Ln xs 12 0 [.ref 14, .ref 2, mj_hole] [] (u, ml_h m lm) Φ = wp Ln xs 13 0 [.ref 14, .int ((m 14 1) + (m 14 2)), mj_hole] [] (u, ml_h m lm) (mk Ln xs 12 10 [.ref 14, .ref 2, mj_hole] [] Φ) := (wp_same xd12_0 (Or.inr rfl) rfl).trans ((wp_same xd12_1 (Or.inr rfl) rfl).trans ((wm_geti xd12_2 rfl (show ml_L[14]? = _ from rfl) rfl (Nat.le_of_ble_eq_true rfl)).trans ((wp_same xd12_5 (Or.inr rfl) rfl).trans ((wm_geti xd12_6 rfl (show ml_L[14]? = _ from rfl) rfl (Nat.le_of_ble_eq_true rfl)).trans ((wp_same xd12_9 (Or.inr rfl) rfl).trans (wm_cv (As := [.int ((m 14 1) + (m 14 2))]) (rest := []) xd12_10 rfl rfl (show ml_L[14]? = _ from rfl) (Nat.le_of_ble_eq_true rfl) (Nat.le_of_ble_eq_true rfl) (Nat.le_of_ble_eq_true rfl) (Nat.le_of_ble_eq_true rfl)))))))
theorem x12_13 {rs0 : Nat} (hrs0 : ml_co rs0) : wp Ln xs 12 13 [.ref 14, .ref 2, mj_hole] [.ref rs0] (u, ml_h m lm) Φ = wp Ln xs 14 0 [.ref rs0, .ref 2] [] (u, ml_h m lm) (mk Ln xs 12 20 [.ref 14, .ref 2, .ref rs0] [] Φ) := (wp_same (L' := [.ref 14, .ref 2, .ref rs0]) xd12_13 (Or.inr rfl) rfl).trans ((wp_same xd12_14 (Or.inr rfl) rfl).trans ((wp_same xd12_15 (Or.inr rfl) rfl).trans ((wp_same xd12_18 (Or.inr rfl) rfl).trans ((wp_same xd12_19 (Or.inr rfl) rfl).trans (wm_cv (As := [.ref 2]) (rest := []) xd12_20 rfl rfl hrs0.1 (Nat.le_of_ble_eq_true rfl) (Nat.le_of_ble_eq_true rfl) (Nat.le_of_ble_eq_true rfl) (Nat.le_of_ble_eq_true rfl))))))
theorem x12_23 {r2 : Nat} : wp Ln xs 12 23 [.ref 14, .ref 2, .ref r2] [] (u, ml_h m lm) Φ = if (nI 6) ≤ (m 14 2) then wp Ln xs 12 45 [.ref 14, .ref 2, .ref r2] [] (u, ml_h m lm) Φ else wp Ln xs 12 32 [.ref 14, .ref 2, .ref r2] [] (u, ml_h m lm) Φ := (wp_same xd12_23 (Or.inr rfl) rfl).trans ((wm_geti xd12_24 rfl (show ml_L[14]? = _ from rfl) rfl (Nat.le_of_ble_eq_true rfl)).trans ((wp_same (S' := [.int (nI 6), .int (m 14 2)]) xd12_27 (Or.inr rfl) rfl).trans (wx_icmp xd12_29 rfl rfl ((nI 6) ≤ (m 14 2)) mb_ge)))
theorem x12_32 {r2 : Nat} : wp Ln xs 12 32 [.ref 14, .ref 2, .ref r2] [] (u, ml_h m lm) Φ = Φ (.inl none) (u, ml_h (ml_s m 14 2 ((m 14 2) + (nI 1))) lm) := (wp_same xd12_32 (Or.inr rfl) rfl).trans ((wp_same xd12_33 (Or.inr rfl) rfl).trans ((wm_geti xd12_34 rfl (show ml_L[14]? = _ from rfl) rfl (Nat.le_of_ble_eq_true rfl)).trans ((wp_same (S' := [.int (nI 1), .int (m 14 2), .ref 14]) xd12_37 (Or.inr rfl) rfl).trans ((wp_same xd12_38 (Or.inr rfl) rfl).trans ((wm_puti xd12_39 rfl (show ml_L[14]? = _ from rfl) rfl (Nat.le_of_ble_eq_true rfl) rfl rfl rfl).trans ((wx_goto xd12_42 rfl).trans (wp_fin (v := none) xd12_58 (Or.inr rfl) rfl rfl)))))))
theorem x12_45 {r2 : Nat} : wp Ln xs 12 45 [.ref 14, .ref 2, .ref r2] [] (u, ml_h m lm) Φ = Φ (.inl none) (u, ml_h (ml_s m 14 1 (((m 14 1) + (nI 1)) - ((m 14 1) + (nI 1)) / (nI 6) * (nI 6))) lm) := (wp_same xd12_45 (Or.inr rfl) rfl).trans ((wp_same xd12_46 (Or.inr rfl) rfl).trans ((wm_geti xd12_47 rfl (show ml_L[14]? = _ from rfl) rfl (Nat.le_of_ble_eq_true rfl)).trans ((wp_same (S' := [.int (nI 1), .int (m 14 1), .ref 14]) xd12_50 (Or.inr rfl) rfl).trans ((wp_same xd12_51 (Or.inr rfl) rfl).trans ((wp_same (S' := [.int (nI 6), .int ((m 14 1) + (nI 1)), .ref 14]) xd12_52 (Or.inr rfl) rfl).trans ((wp_same xd12_54 (Or.inr rfl) rfl).trans ((wm_puti xd12_55 rfl (show ml_L[14]? = _ from rfl) rfl (Nat.le_of_ble_eq_true rfl) rfl rfl rfl).trans (wp_fin (v := none) xd12_58 (Or.inr rfl) rfl rfl))))))))
/- PickedForms$History.slotAt -/
theorem xd13_0 : decode (mj_b 13) 0 = .ok (.iload_n 1, 1) := by decide +kernel
theorem xd13_1 : decode (mj_b 13) 1 = .ok (.bipush 6, 2) := by decide +kernel
theorem xd13_3 : decode (mj_b 13) 3 = .ok (.irem, 1) := by decide +kernel
theorem xd13_4 : decode (mj_b 13) 4 = .ok (.istore_n 2, 1) := by decide +kernel
theorem xd13_5 : decode (mj_b 13) 5 = .ok (.iload_n 2, 1) := by decide +kernel
theorem xd13_6 : decode (mj_b 13) 6 = .ok (.ifCond .lt 21, 3) := by decide +kernel
theorem xd13_9 : decode (mj_b 13) 9 = .ok (.iload_n 2, 1) := by decide +kernel
theorem xd13_10 : decode (mj_b 13) 10 = .ok (.aload_n 0, 1) := by decide +kernel
theorem xd13_11 : decode (mj_b 13) 11 = .ok (.getfield 11, 3) := by decide +kernel
theorem xd13_14 : decode (mj_b 13) 14 = .ok (.arraylength, 1) := by decide +kernel
theorem xd13_15 : decode (mj_b 13) 15 = .ok (.if_icmp .ge 12, 3) := by decide +kernel
theorem xd13_18 : decode (mj_b 13) 18 = .ok (.aload_n 0, 1) := by decide +kernel
theorem xd13_19 : decode (mj_b 13) 19 = .ok (.getfield 11, 3) := by decide +kernel
theorem xd13_22 : decode (mj_b 13) 22 = .ok (.iload_n 2, 1) := by decide +kernel
theorem xd13_23 : decode (mj_b 13) 23 = .ok (.aaload, 1) := by decide +kernel
theorem xd13_24 : decode (mj_b 13) 24 = .ok (.goto 4, 3) := by decide +kernel
theorem xd13_27 : decode (mj_b 13) 27 = .ok (.aconst_null, 1) := by decide +kernel
theorem xd13_28 : decode (mj_b 13) 28 = .ok (.areturn, 1) := by decide +kernel
theorem x13_0 {x1 : Int32} : wp Ln xs 13 0 [.ref 14, .int x1, mj_hole] [] (u, ml_h m lm) Φ = if (x1 - x1 / (nI 6) * (nI 6)) < (nI 0) then wp Ln xs 13 27 [.ref 14, .int x1, .int (x1 - x1 / (nI 6) * (nI 6))] [] (u, ml_h m lm) Φ else wp Ln xs 13 9 [.ref 14, .int x1, .int (x1 - x1 / (nI 6) * (nI 6))] [] (u, ml_h m lm) Φ := (wp_same xd13_0 (Or.inr rfl) rfl).trans ((wp_same (S' := [.int (nI 6), .int x1]) xd13_1 (Or.inr rfl) rfl).trans ((wp_same xd13_3 (Or.inr rfl) rfl).trans ((wp_same (L' := [.ref 14, .int x1, .int (x1 - x1 / (nI 6) * (nI 6))]) xd13_4 (Or.inr rfl) rfl).trans ((wp_same xd13_5 (Or.inr rfl) rfl).trans (wx_if xd13_6 rfl rfl ((x1 - x1 / (nI 6) * (nI 6)) < (nI 0)) mb_lt)))))
theorem x13_9 {x1 : Int32} {x2 : Int32} : wp Ln xs 13 9 [.ref 14, .int x1, .int x2] [] (u, ml_h m lm) Φ = if (nI 6) ≤ x2 then wp Ln xs 13 27 [.ref 14, .int x1, .int x2] [] (u, ml_h m lm) Φ else wp Ln xs 13 18 [.ref 14, .int x1, .int x2] [] (u, ml_h m lm) Φ := (wp_same xd13_9 (Or.inr rfl) rfl).trans ((wp_same xd13_10 (Or.inr rfl) rfl).trans ((wm_getr xd13_11 rfl (show ml_L[14]? = _ from rfl) rfl (Nat.le_of_ble_eq_true rfl)).trans ((wm_alenq xd13_14 rfl (by decide)).trans (wx_icmp xd13_15 rfl rfl ((nI 6) ≤ x2) mb_ge))))
theorem x13_18 {x1 : Int32} {x2 : Int32} : wp Ln xs 13 18 [.ref 14, .int x1, .int x2] [] (u, ml_h m lm) Φ = wp Ln xs 13 23 [.ref 14, .int x1, .int x2] [.int x2, .ref 15] (u, ml_h m lm) Φ := (wp_same xd13_18 (Or.inr rfl) rfl).trans ((wm_getr xd13_19 rfl (show ml_L[14]? = _ from rfl) rfl (Nat.le_of_ble_eq_true rfl)).trans (wp_same xd13_22 (Or.inr rfl) rfl))
theorem x13_23 {x1 : Int32} {x2 : Int32} {k : Nat} (hk : k < 6) : wp Ln xs 13 23 [.ref 14, .int x1, .int x2] [.int (nI k), .ref 15] (u, ml_h m lm) Φ = Φ (.inl (some (.ref (16 + 6 * k)))) (u, ml_h m lm) := (wm_aald xd13_23 rfl hk).trans ((wx_goto xd13_24 rfl).trans (wp_fin (v := some (.ref (16 + 6 * k))) xd13_28 (Or.inr rfl) rfl rfl))
/- PickedForms$Column.copyFrom -/
theorem xd14_0 : decode (mj_b 14) 0 = .ok (.aload_n 1, 1) := by decide +kernel
theorem xd14_1 : decode (mj_b 14) 1 = .ok (.getfield 9, 3) := by decide +kernel
theorem xd14_4 : decode (mj_b 14) 4 = .ok (.aload_n 0, 1) := by decide +kernel
theorem xd14_5 : decode (mj_b 14) 5 = .ok (.getfield 9, 3) := by decide +kernel
theorem xd14_8 : decode (mj_b 14) 8 = .ok (.invokestatic 40, 3) := by decide +kernel
theorem xd14_11 : decode (mj_b 14) 11 = .ok (.aload_n 1, 1) := by decide +kernel
theorem xd14_12 : decode (mj_b 14) 12 = .ok (.getfield 15, 3) := by decide +kernel
theorem xd14_15 : decode (mj_b 14) 15 = .ok (.aload_n 0, 1) := by decide +kernel
theorem xd14_16 : decode (mj_b 14) 16 = .ok (.getfield 15, 3) := by decide +kernel
theorem xd14_19 : decode (mj_b 14) 19 = .ok (.invokestatic 40, 3) := by decide +kernel
theorem xd14_22 : decode (mj_b 14) 22 = .ok (.aload_n 1, 1) := by decide +kernel
theorem xd14_23 : decode (mj_b 14) 23 = .ok (.getfield 18, 3) := by decide +kernel
theorem xd14_26 : decode (mj_b 14) 26 = .ok (.aload_n 0, 1) := by decide +kernel
theorem xd14_27 : decode (mj_b 14) 27 = .ok (.getfield 18, 3) := by decide +kernel
theorem xd14_30 : decode (mj_b 14) 30 = .ok (.invokestatic 40, 3) := by decide +kernel
theorem xd14_33 : decode (mj_b 14) 33 = .ok (.aload_n 1, 1) := by decide +kernel
theorem xd14_34 : decode (mj_b 14) 34 = .ok (.getfield 21, 3) := by decide +kernel
theorem xd14_37 : decode (mj_b 14) 37 = .ok (.aload_n 0, 1) := by decide +kernel
theorem xd14_38 : decode (mj_b 14) 38 = .ok (.getfield 21, 3) := by decide +kernel
theorem xd14_41 : decode (mj_b 14) 41 = .ok (.invokestatic 40, 3) := by decide +kernel
theorem xd14_44 : decode (mj_b 14) 44 = .ok (.aload_n 1, 1) := by decide +kernel
theorem xd14_45 : decode (mj_b 14) 45 = .ok (.getfield 24, 3) := by decide +kernel
theorem xd14_48 : decode (mj_b 14) 48 = .ok (.aload_n 0, 1) := by decide +kernel
theorem xd14_49 : decode (mj_b 14) 49 = .ok (.getfield 24, 3) := by decide +kernel
theorem xd14_52 : decode (mj_b 14) 52 = .ok (.invokestatic 40, 3) := by decide +kernel
theorem xd14_55 : decode (mj_b 14) 55 = .ok (.aload_n 0, 1) := by decide +kernel
theorem xd14_56 : decode (mj_b 14) 56 = .ok (.aload_n 1, 1) := by decide +kernel
theorem xd14_57 : decode (mj_b 14) 57 = .ok (.getfield 27, 3) := by decide +kernel
theorem xd14_60 : decode (mj_b 14) 60 = .ok (.putfield 27, 3) := by decide +kernel
theorem xd14_63 : decode (mj_b 14) 63 = .ok (.aload_n 0, 1) := by decide +kernel
theorem xd14_64 : decode (mj_b 14) 64 = .ok (.aload_n 1, 1) := by decide +kernel
theorem xd14_65 : decode (mj_b 14) 65 = .ok (.getfield 31, 3) := by decide +kernel
theorem xd14_68 : decode (mj_b 14) 68 = .ok (.putfield 31, 3) := by decide +kernel
theorem xd14_71 : decode (mj_b 14) 71 = .ok (.aload_n 0, 1) := by decide +kernel
theorem xd14_72 : decode (mj_b 14) 72 = .ok (.aload_n 1, 1) := by decide +kernel
theorem xd14_73 : decode (mj_b 14) 73 = .ok (.getfield 34, 3) := by decide +kernel
theorem xd14_76 : decode (mj_b 14) 76 = .ok (.putfield 34, 3) := by decide +kernel
theorem xd14_79 : decode (mj_b 14) 79 = .ok (.aload_n 0, 1) := by decide +kernel
theorem xd14_80 : decode (mj_b 14) 80 = .ok (.aload_n 1, 1) := by decide +kernel
theorem xd14_81 : decode (mj_b 14) 81 = .ok (.getfield 37, 3) := by decide +kernel
theorem xd14_84 : decode (mj_b 14) 84 = .ok (.putfield 37, 3) := by decide +kernel
theorem xd14_87 : decode (mj_b 14) 87 = .ok (.return_, 1) := by decide +kernel
theorem x14_0 {p q : Nat} (hq : ml_co q) (hp : ml_co p) : wp Ln xs 14 0 [.ref p, .ref q] [] (u, ml_h m lm) Φ = wp Ln xs 15 0 [.ref (q + 1), .ref (p + 1)] [] (u, ml_h m lm) (mk Ln xs 14 8 [.ref p, .ref q] [] Φ) := (wp_same xd14_0 (Or.inr rfl) rfl).trans ((wm_getr xd14_1 rfl hq.1 rfl (Nat.le_of_ble_eq_true rfl)).trans ((wp_same xd14_4 (Or.inr rfl) rfl).trans ((wm_getr xd14_5 rfl hp.1 rfl (Nat.le_of_ble_eq_true rfl)).trans (wm_cs (As := [.ref (q + 1), .ref (p + 1)]) (rest := []) xd14_8 rfl rfl (Nat.le_of_ble_eq_true rfl) (Nat.le_of_ble_eq_true rfl) (Nat.le_of_ble_eq_true rfl) (Nat.le_of_ble_eq_true rfl)))))
theorem x14_11 {p q : Nat} (hq : ml_co q) (hp : ml_co p) : wp Ln xs 14 11 [.ref p, .ref q] [] (u, ml_h m lm) Φ = wp Ln xs 15 0 [.ref (q + 2), .ref (p + 2)] [] (u, ml_h m lm) (mk Ln xs 14 19 [.ref p, .ref q] [] Φ) := (wp_same xd14_11 (Or.inr rfl) rfl).trans ((wm_getr xd14_12 rfl hq.1 rfl (Nat.le_of_ble_eq_true rfl)).trans ((wp_same xd14_15 (Or.inr rfl) rfl).trans ((wm_getr xd14_16 rfl hp.1 rfl (Nat.le_of_ble_eq_true rfl)).trans (wm_cs (As := [.ref (q + 2), .ref (p + 2)]) (rest := []) xd14_19 rfl rfl (Nat.le_of_ble_eq_true rfl) (Nat.le_of_ble_eq_true rfl) (Nat.le_of_ble_eq_true rfl) (Nat.le_of_ble_eq_true rfl)))))
theorem x14_22 {p q : Nat} (hq : ml_co q) (hp : ml_co p) : wp Ln xs 14 22 [.ref p, .ref q] [] (u, ml_h m lm) Φ = wp Ln xs 15 0 [.ref (q + 3), .ref (p + 3)] [] (u, ml_h m lm) (mk Ln xs 14 30 [.ref p, .ref q] [] Φ) := (wp_same xd14_22 (Or.inr rfl) rfl).trans ((wm_getr xd14_23 rfl hq.1 rfl (Nat.le_of_ble_eq_true rfl)).trans ((wp_same xd14_26 (Or.inr rfl) rfl).trans ((wm_getr xd14_27 rfl hp.1 rfl (Nat.le_of_ble_eq_true rfl)).trans (wm_cs (As := [.ref (q + 3), .ref (p + 3)]) (rest := []) xd14_30 rfl rfl (Nat.le_of_ble_eq_true rfl) (Nat.le_of_ble_eq_true rfl) (Nat.le_of_ble_eq_true rfl) (Nat.le_of_ble_eq_true rfl)))))
theorem x14_33 {p q : Nat} (hq : ml_co q) (hp : ml_co p) : wp Ln xs 14 33 [.ref p, .ref q] [] (u, ml_h m lm) Φ = wp Ln xs 15 0 [.ref (q + 4), .ref (p + 4)] [] (u, ml_h m lm) (mk Ln xs 14 41 [.ref p, .ref q] [] Φ) := (wp_same xd14_33 (Or.inr rfl) rfl).trans ((wm_getr xd14_34 rfl hq.1 rfl (Nat.le_of_ble_eq_true rfl)).trans ((wp_same xd14_37 (Or.inr rfl) rfl).trans ((wm_getr xd14_38 rfl hp.1 rfl (Nat.le_of_ble_eq_true rfl)).trans (wm_cs (As := [.ref (q + 4), .ref (p + 4)]) (rest := []) xd14_41 rfl rfl (Nat.le_of_ble_eq_true rfl) (Nat.le_of_ble_eq_true rfl) (Nat.le_of_ble_eq_true rfl) (Nat.le_of_ble_eq_true rfl)))))
theorem x14_44 {p q : Nat} (hq : ml_co q) (hp : ml_co p) : wp Ln xs 14 44 [.ref p, .ref q] [] (u, ml_h m lm) Φ = wp Ln xs 15 0 [.ref (q + 5), .ref (p + 5)] [] (u, ml_h m lm) (mk Ln xs 14 52 [.ref p, .ref q] [] Φ) := (wp_same xd14_44 (Or.inr rfl) rfl).trans ((wm_getr xd14_45 rfl hq.1 rfl (Nat.le_of_ble_eq_true rfl)).trans ((wp_same xd14_48 (Or.inr rfl) rfl).trans ((wm_getr xd14_49 rfl hp.1 rfl (Nat.le_of_ble_eq_true rfl)).trans (wm_cs (As := [.ref (q + 5), .ref (p + 5)]) (rest := []) xd14_52 rfl rfl (Nat.le_of_ble_eq_true rfl) (Nat.le_of_ble_eq_true rfl) (Nat.le_of_ble_eq_true rfl) (Nat.le_of_ble_eq_true rfl)))))
theorem x14_55 {p q : Nat} (hq : ml_co q) (hp : ml_co p) : wp Ln xs 14 55 [.ref p, .ref q] [] (u, ml_h m lm) Φ = Φ (.inl none) (u, ml_h (ml_s (ml_s (ml_s (ml_s m p 5 (m q 5)) p 6 ((ml_s m p 5 (m q 5)) q 6)) p 7 ((ml_s (ml_s m p 5 (m q 5)) p 6 ((ml_s m p 5 (m q 5)) q 6)) q 7)) p 8 ((ml_s (ml_s (ml_s m p 5 (m q 5)) p 6 ((ml_s m p 5 (m q 5)) q 6)) p 7 ((ml_s (ml_s m p 5 (m q 5)) p 6 ((ml_s m p 5 (m q 5)) q 6)) q 7)) q 8)) lm) := (wp_same xd14_55 (Or.inr rfl) rfl).trans ((wp_same xd14_56 (Or.inr rfl) rfl).trans ((wm_geti xd14_57 rfl hq.1 rfl (Nat.le_of_ble_eq_true rfl)).trans ((wm_puti xd14_60 rfl hp.1 rfl (Nat.le_of_ble_eq_true rfl) rfl rfl rfl).trans ((wp_same xd14_63 (Or.inr rfl) rfl).trans ((wp_same xd14_64 (Or.inr rfl) rfl).trans ((wm_geti xd14_65 rfl hq.1 rfl (Nat.le_of_ble_eq_true rfl)).trans ((wm_puti xd14_68 rfl hp.1 rfl (Nat.le_of_ble_eq_true rfl) rfl rfl rfl).trans ((wp_same xd14_71 (Or.inr rfl) rfl).trans ((wp_same xd14_72 (Or.inr rfl) rfl).trans ((wm_geti xd14_73 rfl hq.1 rfl (Nat.le_of_ble_eq_true rfl)).trans ((wm_puti xd14_76 rfl hp.1 rfl (Nat.le_of_ble_eq_true rfl) rfl rfl rfl).trans ((wp_same xd14_79 (Or.inr rfl) rfl).trans ((wp_same xd14_80 (Or.inr rfl) rfl).trans ((wm_geti xd14_81 rfl hq.1 rfl (Nat.le_of_ble_eq_true rfl)).trans ((wm_puti xd14_84 rfl hp.1 rfl (Nat.le_of_ble_eq_true rfl) rfl rfl rfl).trans (wp_fin (v := none) xd14_87 (Or.inr rfl) rfl rfl))))))))))))))))
/- PickedForms$Rows.copy -/
theorem xd15_0 : decode (mj_b 15) 0 = .ok (.aload_n 0, 1) := by decide +kernel
theorem xd15_1 : decode (mj_b 15) 1 = .ok (.iconst 0, 1) := by decide +kernel
theorem xd15_2 : decode (mj_b 15) 2 = .ok (.aload_n 1, 1) := by decide +kernel
theorem xd15_3 : decode (mj_b 15) 3 = .ok (.iconst 0, 1) := by decide +kernel
theorem xd15_4 : decode (mj_b 15) 4 = .ok (.aload_n 0, 1) := by decide +kernel
theorem xd15_5 : decode (mj_b 15) 5 = .ok (.arraylength, 1) := by decide +kernel
theorem xd15_6 : decode (mj_b 15) 6 = .ok (.aload_n 1, 1) := by decide +kernel
theorem xd15_7 : decode (mj_b 15) 7 = .ok (.arraylength, 1) := by decide +kernel
theorem xd15_8 : decode (mj_b 15) 8 = .ok (.invokestatic 7, 3) := by decide +kernel
theorem xd15_11 : decode (mj_b 15) 11 = .ok (.invokestatic 13, 3) := by decide +kernel
theorem xd15_14 : decode (mj_b 15) 14 = .ok (.return_, 1) := by decide +kernel
theorem x15_0 {q r : Nat} (hr : ml_ia r) (hr0 : r ≠ 0) (hq : ml_ia q) (hq0 : q ≠ 0) : wp Ln xs 15 0 [.ref r, .ref q] [] (u, ml_h m lm) Φ = wp Ln xs 15 11 [.ref r, .ref q] [.int (if (nI (ml_n q)) < (nI (ml_n r)) then nI (ml_n q) else nI (ml_n r)), .int (nI 0), .ref q, .int (nI 0), .ref r] (u, ml_h m lm) Φ := (wp_same xd15_0 (Or.inr rfl) rfl).trans ((wp_same (S' := [.int (nI 0), .ref r]) xd15_1 (Or.inr rfl) rfl).trans ((wp_same xd15_2 (Or.inr rfl) rfl).trans ((wp_same (S' := [.int (nI 0), .ref q, .int (nI 0), .ref r]) xd15_3 (Or.inr rfl) rfl).trans ((wp_same xd15_4 (Or.inr rfl) rfl).trans ((wm_alen xd15_5 hr hr0).trans ((wp_same xd15_6 (Or.inr rfl) rfl).trans ((wm_alen xd15_7 hq hq0).trans (wm_min xd15_8 rfl (Nat.le_of_ble_eq_true rfl) (Nat.le_of_ble_eq_true rfl) (Nat.le_of_ble_eq_true rfl)))))))))
theorem x15_11 {q r : Nat} {k : Nat} (hr : ml_ia r) (hq : ml_ia q) (h1 : k ≤ ml_n r) (h2 : k ≤ ml_n q) : wp Ln xs 15 11 [.ref r, .ref q] [.int (nI k), .int 0, .ref q, .int 0, .ref r] (u, ml_h m lm) Φ = Φ (.inl none) (u, ml_h (ml_cp m r q 0 0 k) lm) := (wm_copy xd15_11 rfl hr hq h1 h2 (Nat.le_of_ble_eq_true rfl) (Nat.le_of_ble_eq_true rfl) (Nat.le_of_ble_eq_true rfl)).trans (wp_fin (v := none) xd15_14 (Or.inr rfl) rfl rfl)
/- PickedForms$Column.roomOf -/
theorem xd16_0 : decode (mj_b 16) 0 = .ok (.aload_n 0, 1) := by decide +kernel
theorem xd16_1 : decode (mj_b 16) 1 = .ok (.getfield 21, 3) := by decide +kernel
theorem xd16_4 : decode (mj_b 16) 4 = .ok (.iload_n 1, 1) := by decide +kernel
theorem xd16_5 : decode (mj_b 16) 5 = .ok (.invokestatic 46, 3) := by decide +kernel
theorem xd16_8 : decode (mj_b 16) 8 = .ok (.ireturn, 1) := by decide +kernel
theorem x16_0 {x1 : Int32} : wp Ln xs 16 0 [.ref 2, .int x1] [] (u, ml_h m lm) Φ = wp Ln xs 17 0 [.ref 6, .int x1] [] (u, ml_h m lm) (mk Ln xs 16 5 [.ref 2, .int x1] [] Φ) := (wp_same xd16_0 (Or.inr rfl) rfl).trans ((wm_getr xd16_1 rfl (show ml_L[2]? = _ from rfl) rfl (Nat.le_of_ble_eq_true rfl)).trans ((wp_same xd16_4 (Or.inr rfl) rfl).trans (wm_cs (As := [.ref 6, .int x1]) (rest := []) xd16_5 rfl rfl (Nat.le_of_ble_eq_true rfl) (Nat.le_of_ble_eq_true rfl) (Nat.le_of_ble_eq_true rfl) (Nat.le_of_ble_eq_true rfl))))
theorem x16_8 {x1 : Int32} {xs0 : Int32} : wp Ln xs 16 8 [.ref 2, .int x1] [.int xs0] (u, ml_h m lm) Φ = Φ (.inl (some (.int xs0))) (u, ml_h m lm) := wp_fin (v := some (.int xs0)) xd16_8 (Or.inr rfl) rfl (mj_fin_i rfl)
/- PickedForms$Rows.at -/
theorem xd17_0 : decode (mj_b 17) 0 = .ok (.iload_n 1, 1) := by decide +kernel
theorem xd17_1 : decode (mj_b 17) 1 = .ok (.ifCond .lt 15, 3) := by decide +kernel
theorem xd17_4 : decode (mj_b 17) 4 = .ok (.iload_n 1, 1) := by decide +kernel
theorem xd17_5 : decode (mj_b 17) 5 = .ok (.aload_n 0, 1) := by decide +kernel
theorem xd17_6 : decode (mj_b 17) 6 = .ok (.arraylength, 1) := by decide +kernel
theorem xd17_7 : decode (mj_b 17) 7 = .ok (.if_icmp .ge 9, 3) := by decide +kernel
theorem xd17_10 : decode (mj_b 17) 10 = .ok (.aload_n 0, 1) := by decide +kernel
theorem xd17_11 : decode (mj_b 17) 11 = .ok (.iload_n 1, 1) := by decide +kernel
theorem xd17_12 : decode (mj_b 17) 12 = .ok (.iaload, 1) := by decide +kernel
theorem xd17_13 : decode (mj_b 17) 13 = .ok (.goto 4, 3) := by decide +kernel
theorem xd17_16 : decode (mj_b 17) 16 = .ok (.iconst 0, 1) := by decide +kernel
theorem xd17_17 : decode (mj_b 17) 17 = .ok (.ireturn, 1) := by decide +kernel
theorem x17_0 {r : Nat} {x1 : Int32} : wp Ln xs 17 0 [.ref r, .int x1] [] (u, ml_h m lm) Φ = if x1 < (nI 0) then wp Ln xs 17 16 [.ref r, .int x1] [] (u, ml_h m lm) Φ else wp Ln xs 17 4 [.ref r, .int x1] [] (u, ml_h m lm) Φ := (wp_same xd17_0 (Or.inr rfl) rfl).trans (wx_if xd17_1 rfl rfl (x1 < (nI 0)) mb_lt)
theorem x17_4 {r : Nat} {x1 : Int32} (hr : ml_ia r) (hr0 : r ≠ 0) : wp Ln xs 17 4 [.ref r, .int x1] [] (u, ml_h m lm) Φ = if (nI (ml_n r)) ≤ x1 then wp Ln xs 17 16 [.ref r, .int x1] [] (u, ml_h m lm) Φ else wp Ln xs 17 10 [.ref r, .int x1] [] (u, ml_h m lm) Φ := (wp_same xd17_4 (Or.inr rfl) rfl).trans ((wp_same xd17_5 (Or.inr rfl) rfl).trans ((wm_alen xd17_6 hr hr0).trans (wx_icmp xd17_7 rfl rfl ((nI (ml_n r)) ≤ x1) mb_ge)))
theorem x17_10 {r : Nat} {x1 : Int32} : wp Ln xs 17 10 [.ref r, .int x1] [] (u, ml_h m lm) Φ = wp Ln xs 17 12 [.ref r, .int x1] [.int x1, .ref r] (u, ml_h m lm) Φ := (wp_same xd17_10 (Or.inr rfl) rfl).trans (wp_same xd17_11 (Or.inr rfl) rfl)
theorem x17_12 {r : Nat} {x1 : Int32} {k : Nat} (hr : ml_ia r) (hr0 : r ≠ 0) (hk : k < ml_n r) : wp Ln xs 17 12 [.ref r, .int x1] [.int (nI k), .ref r] (u, ml_h m lm) Φ = Φ (.inl (some (.int (m r k)))) (u, ml_h m lm) := (wm_iald (k := k) xd17_12 hr hr0 hk).trans ((wx_goto xd17_13 rfl).trans (wp_fin (v := some (.int (m r k))) xd17_17 (Or.inr rfl) rfl (mj_fin_i rfl)))
theorem x17_16 {r : Nat} {x1 : Int32} : wp Ln xs 17 16 [.ref r, .int x1] [] (u, ml_h m lm) Φ = Φ (.inl (some (.int (nI 0)))) (u, ml_h m lm) := (wp_same (S' := [.int (nI 0)]) xd17_16 (Or.inr rfl) rfl).trans (wp_fin (v := some (.int (nI 0))) xd17_17 (Or.inr rfl) rfl (mj_fin_i rfl))
/- PickedForms.writeAnew -/
theorem xd18_0 : decode (mj_b 18) 0 = .ok (.aload_n 0, 1) := by decide +kernel
theorem xd18_1 : decode (mj_b 18) 1 = .ok (.getfield 47, 3) := by decide +kernel
theorem xd18_4 : decode (mj_b 18) 4 = .ok (.aload_n 0, 1) := by decide +kernel
theorem xd18_5 : decode (mj_b 18) 5 = .ok (.getfield 12, 3) := by decide +kernel
theorem xd18_8 : decode (mj_b 18) 8 = .ok (.getfield 139, 3) := by decide +kernel
theorem xd18_11 : decode (mj_b 18) 11 = .ok (.aload_n 0, 1) := by decide +kernel
theorem xd18_12 : decode (mj_b 18) 12 = .ok (.getfield 12, 3) := by decide +kernel
theorem xd18_15 : decode (mj_b 18) 15 = .ok (.iload_n 1, 1) := by decide +kernel
theorem xd18_16 : decode (mj_b 18) 16 = .ok (.invokevirtual 182, 3) := by decide +kernel
theorem xd18_19 : decode (mj_b 18) 19 = .ok (.aload_n 0, 1) := by decide +kernel
theorem xd18_20 : decode (mj_b 18) 20 = .ok (.getfield 12, 3) := by decide +kernel
theorem xd18_23 : decode (mj_b 18) 23 = .ok (.iload_n 1, 1) := by decide +kernel
theorem xd18_24 : decode (mj_b 18) 24 = .ok (.invokevirtual 164, 3) := by decide +kernel
theorem xd18_27 : decode (mj_b 18) 27 = .ok (.aload_n 0, 1) := by decide +kernel
theorem xd18_28 : decode (mj_b 18) 28 = .ok (.getfield 12, 3) := by decide +kernel
theorem xd18_31 : decode (mj_b 18) 31 = .ok (.getfield 203, 3) := by decide +kernel
theorem xd18_34 : decode (mj_b 18) 34 = .ok (.invokevirtual 360, 3) := by decide +kernel
theorem xd18_37 : decode (mj_b 18) 37 = .ok (.aload_n 0, 1) := by decide +kernel
theorem xd18_38 : decode (mj_b 18) 38 = .ok (.getfield 12, 3) := by decide +kernel
theorem xd18_41 : decode (mj_b 18) 41 = .ok (.getfield 364, 3) := by decide +kernel
theorem xd18_44 : decode (mj_b 18) 44 = .ok (.iload_n 1, 1) := by decide +kernel
theorem xd18_45 : decode (mj_b 18) 45 = .ok (.aload_n 0, 1) := by decide +kernel
theorem xd18_46 : decode (mj_b 18) 46 = .ok (.getfield 47, 3) := by decide +kernel
theorem xd18_49 : decode (mj_b 18) 49 = .ok (.getfield 367, 3) := by decide +kernel
theorem xd18_52 : decode (mj_b 18) 52 = .ok (.invokestatic 142, 3) := by decide +kernel
theorem xd18_55 : decode (mj_b 18) 55 = .ok (.aload_n 0, 1) := by decide +kernel
theorem xd18_56 : decode (mj_b 18) 56 = .ok (.getfield 12, 3) := by decide +kernel
theorem xd18_59 : decode (mj_b 18) 59 = .ok (.getfield 370, 3) := by decide +kernel
theorem xd18_62 : decode (mj_b 18) 62 = .ok (.iload_n 1, 1) := by decide +kernel
theorem xd18_63 : decode (mj_b 18) 63 = .ok (.aload_n 0, 1) := by decide +kernel
theorem xd18_64 : decode (mj_b 18) 64 = .ok (.getfield 47, 3) := by decide +kernel
theorem xd18_67 : decode (mj_b 18) 67 = .ok (.getfield 373, 3) := by decide +kernel
theorem xd18_70 : decode (mj_b 18) 70 = .ok (.invokestatic 142, 3) := by decide +kernel
theorem xd18_73 : decode (mj_b 18) 73 = .ok (.aload_n 0, 1) := by decide +kernel
theorem xd18_74 : decode (mj_b 18) 74 = .ok (.getfield 12, 3) := by decide +kernel
theorem xd18_77 : decode (mj_b 18) 77 = .ok (.dup, 1) := by decide +kernel
theorem xd18_78 : decode (mj_b 18) 78 = .ok (.getfield 376, 3) := by decide +kernel
theorem xd18_81 : decode (mj_b 18) 81 = .ok (.iconst 1, 1) := by decide +kernel
theorem xd18_82 : decode (mj_b 18) 82 = .ok (.iadd, 1) := by decide +kernel
theorem xd18_83 : decode (mj_b 18) 83 = .ok (.putfield 376, 3) := by decide +kernel
theorem xd18_86 : decode (mj_b 18) 86 = .ok (.return_, 1) := by decide +kernel
theorem x18_0 {x1 : Int32} : wp Ln xs 18 0 [.ref 1, .int x1] [] (u, ml_h m lm) Φ = wp Ln xs 19 0 [.ref 2, .int x1, mj_hole, mj_hole] [] (u, ml_h m lm) (mk Ln xs 18 16 [.ref 1, .int x1] [.ref 3, .ref 58] Φ) := (wp_same xd18_0 (Or.inr rfl) rfl).trans ((wm_getr xd18_1 rfl (show ml_L[1]? = _ from rfl) rfl (Nat.le_of_ble_eq_true rfl)).trans ((wp_same xd18_4 (Or.inr rfl) rfl).trans ((wm_getr xd18_5 rfl (show ml_L[1]? = _ from rfl) rfl (Nat.le_of_ble_eq_true rfl)).trans ((wm_getr xd18_8 rfl (show ml_L[2]? = _ from rfl) rfl (Nat.le_of_ble_eq_true rfl)).trans ((wp_same xd18_11 (Or.inr rfl) rfl).trans ((wm_getr xd18_12 rfl (show ml_L[1]? = _ from rfl) rfl (Nat.le_of_ble_eq_true rfl)).trans ((wp_same xd18_15 (Or.inr rfl) rfl).trans (wm_cv (As := [.int x1]) (rest := [.ref 3, .ref 58]) xd18_16 rfl rfl (show ml_L[2]? = _ from rfl) (Nat.le_of_ble_eq_true rfl) (Nat.le_of_ble_eq_true rfl) (Nat.le_of_ble_eq_true rfl) (Nat.le_of_ble_eq_true rfl)))))))))
theorem x18_19 {x1 : Int32} {xs0 : Int32} : wp Ln xs 18 19 [.ref 1, .int x1] [.int xs0, .ref 3, .ref 58] (u, ml_h m lm) Φ = wp Ln xs 20 0 [.ref 2, .int x1] [] (u, ml_h m lm) (mk Ln xs 18 24 [.ref 1, .int x1] [.int xs0, .ref 3, .ref 58] Φ) := (wp_same xd18_19 (Or.inr rfl) rfl).trans ((wm_getr xd18_20 rfl (show ml_L[1]? = _ from rfl) rfl (Nat.le_of_ble_eq_true rfl)).trans ((wp_same xd18_23 (Or.inr rfl) rfl).trans (wm_cv (As := [.int x1]) (rest := [.int xs0, .ref 3, .ref 58]) xd18_24 rfl rfl (show ml_L[2]? = _ from rfl) (Nat.le_of_ble_eq_true rfl) (Nat.le_of_ble_eq_true rfl) (Nat.le_of_ble_eq_true rfl) (Nat.le_of_ble_eq_true rfl))))
theorem x18_27 {x1 : Int32} {xs0 : Int32} {xs1 : Int32} : wp Ln xs 18 27 [.ref 1, .int x1] [.int xs0, .int xs1, .ref 3, .ref 58] (u, ml_h m lm) Φ = wp Ln xs 21 0 [.ref 58, .ref 3, .int xs1, .int xs0, .ref 7, mj_hole, mj_hole] [] (u, ml_h m lm) (mk Ln xs 18 34 [.ref 1, .int x1] [] Φ) := (wp_same xd18_27 (Or.inr rfl) rfl).trans ((wm_getr xd18_28 rfl (show ml_L[1]? = _ from rfl) rfl (Nat.le_of_ble_eq_true rfl)).trans ((wm_getr xd18_31 rfl (show ml_L[2]? = _ from rfl) rfl (Nat.le_of_ble_eq_true rfl)).trans (wm_cv (As := [.ref 3, .int xs1, .int xs0, .ref 7]) (rest := []) xd18_34 rfl rfl (show ml_L[58]? = _ from rfl) (Nat.le_of_ble_eq_true rfl) (Nat.le_of_ble_eq_true rfl) (Nat.le_of_ble_eq_true rfl) (Nat.le_of_ble_eq_true rfl))))
theorem x18_37 {x1 : Int32} : wp Ln xs 18 37 [.ref 1, .int x1] [] (u, ml_h m lm) Φ = wp Ln xs 29 0 [.ref 5, .int x1, .int (m 58 1)] [] (u, ml_h m lm) (mk Ln xs 18 52 [.ref 1, .int x1] [] Φ) := (wp_same xd18_37 (Or.inr rfl) rfl).trans ((wm_getr xd18_38 rfl (show ml_L[1]? = _ from rfl) rfl (Nat.le_of_ble_eq_true rfl)).trans ((wm_getr xd18_41 rfl (show ml_L[2]? = _ from rfl) rfl (Nat.le_of_ble_eq_true rfl)).trans ((wp_same xd18_44 (Or.inr rfl) rfl).trans ((wp_same xd18_45 (Or.inr rfl) rfl).trans ((wm_getr xd18_46 rfl (show ml_L[1]? = _ from rfl) rfl (Nat.le_of_ble_eq_true rfl)).trans ((wm_geti xd18_49 rfl (show ml_L[58]? = _ from rfl) rfl (Nat.le_of_ble_eq_true rfl)).trans (wm_cs (As := [.ref 5, .int x1, .int (m 58 1)]) (rest := []) xd18_52 rfl rfl (Nat.le_of_ble_eq_true rfl) (Nat.le_of_ble_eq_true rfl) (Nat.le_of_ble_eq_true rfl) (Nat.le_of_ble_eq_true rfl))))))))
theorem x18_55 {x1 : Int32} : wp Ln xs 18 55 [.ref 1, .int x1] [] (u, ml_h m lm) Φ = wp Ln xs 29 0 [.ref 6, .int x1, .int (m 58 2)] [] (u, ml_h m lm) (mk Ln xs 18 70 [.ref 1, .int x1] [] Φ) := (wp_same xd18_55 (Or.inr rfl) rfl).trans ((wm_getr xd18_56 rfl (show ml_L[1]? = _ from rfl) rfl (Nat.le_of_ble_eq_true rfl)).trans ((wm_getr xd18_59 rfl (show ml_L[2]? = _ from rfl) rfl (Nat.le_of_ble_eq_true rfl)).trans ((wp_same xd18_62 (Or.inr rfl) rfl).trans ((wp_same xd18_63 (Or.inr rfl) rfl).trans ((wm_getr xd18_64 rfl (show ml_L[1]? = _ from rfl) rfl (Nat.le_of_ble_eq_true rfl)).trans ((wm_geti xd18_67 rfl (show ml_L[58]? = _ from rfl) rfl (Nat.le_of_ble_eq_true rfl)).trans (wm_cs (As := [.ref 6, .int x1, .int (m 58 2)]) (rest := []) xd18_70 rfl rfl (Nat.le_of_ble_eq_true rfl) (Nat.le_of_ble_eq_true rfl) (Nat.le_of_ble_eq_true rfl) (Nat.le_of_ble_eq_true rfl))))))))
theorem x18_73 {x1 : Int32} : wp Ln xs 18 73 [.ref 1, .int x1] [] (u, ml_h m lm) Φ = Φ (.inl none) (u, ml_h (ml_s m 2 8 ((m 2 8) + (nI 1))) lm) := (wp_same xd18_73 (Or.inr rfl) rfl).trans ((wm_getr xd18_74 rfl (show ml_L[1]? = _ from rfl) rfl (Nat.le_of_ble_eq_true rfl)).trans ((wp_same xd18_77 (Or.inr rfl) rfl).trans ((wm_geti xd18_78 rfl (show ml_L[2]? = _ from rfl) rfl (Nat.le_of_ble_eq_true rfl)).trans ((wp_same (S' := [.int (nI 1), .int (m 2 8), .ref 2]) xd18_81 (Or.inr rfl) rfl).trans ((wp_same xd18_82 (Or.inr rfl) rfl).trans ((wm_puti xd18_83 rfl (show ml_L[2]? = _ from rfl) rfl (Nat.le_of_ble_eq_true rfl) rfl rfl rfl).trans (wp_fin (v := none) xd18_86 (Or.inr rfl) rfl rfl)))))))
/- PickedForms$Column.startOf -/
theorem xd19_0 : decode (mj_b 19) 0 = .ok (.iconst 0, 1) := by decide +kernel
theorem xd19_1 : decode (mj_b 19) 1 = .ok (.istore_n 2, 1) := by decide +kernel
theorem xd19_2 : decode (mj_b 19) 2 = .ok (.iconst 0, 1) := by decide +kernel
theorem xd19_3 : decode (mj_b 19) 3 = .ok (.istore_n 3, 1) := by decide +kernel
theorem xd19_4 : decode (mj_b 19) 4 = .ok (.iload_n 3, 1) := by decide +kernel
theorem xd19_5 : decode (mj_b 19) 5 = .ok (.iload_n 1, 1) := by decide +kernel
theorem xd19_6 : decode (mj_b 19) 6 = .ok (.if_icmp .ge 20, 3) := by decide +kernel
theorem xd19_9 : decode (mj_b 19) 9 = .ok (.iload_n 2, 1) := by decide +kernel
theorem xd19_10 : decode (mj_b 19) 10 = .ok (.aload_n 0, 1) := by decide +kernel
theorem xd19_11 : decode (mj_b 19) 11 = .ok (.getfield 15, 3) := by decide +kernel
theorem xd19_14 : decode (mj_b 19) 14 = .ok (.iload_n 3, 1) := by decide +kernel
theorem xd19_15 : decode (mj_b 19) 15 = .ok (.invokestatic 46, 3) := by decide +kernel
theorem xd19_18 : decode (mj_b 19) 18 = .ok (.iadd, 1) := by decide +kernel
theorem xd19_19 : decode (mj_b 19) 19 = .ok (.istore_n 2, 1) := by decide +kernel
theorem xd19_20 : decode (mj_b 19) 20 = .ok (.iinc 3 1, 3) := by decide +kernel
theorem xd19_23 : decode (mj_b 19) 23 = .ok (.goto (-19), 3) := by decide +kernel
theorem xd19_26 : decode (mj_b 19) 26 = .ok (.iload_n 2, 1) := by decide +kernel
theorem xd19_27 : decode (mj_b 19) 27 = .ok (.ireturn, 1) := by decide +kernel
theorem x19_0 {x1 : Int32} : wp Ln xs 19 0 [.ref 2, .int x1, mj_hole, mj_hole] [] (u, ml_h m lm) Φ = wp Ln xs 19 4 [.ref 2, .int x1, .int (nI 0), .int (nI 0)] [] (u, ml_h m lm) Φ := (wp_same (S' := [.int (nI 0)]) xd19_0 (Or.inr rfl) rfl).trans ((wp_same (L' := [.ref 2, .int x1, .int (nI 0), mj_hole]) xd19_1 (Or.inr rfl) rfl).trans ((wp_same (S' := [.int (nI 0)]) xd19_2 (Or.inr rfl) rfl).trans (wp_same (L' := [.ref 2, .int x1, .int (nI 0), .int (nI 0)]) xd19_3 (Or.inr rfl) rfl)))
theorem x19_4 {x1 : Int32} {x2 : Int32} {x3 : Int32} : wp Ln xs 19 4 [.ref 2, .int x1, .int x2, .int x3] [] (u, ml_h m lm) Φ = if x1 ≤ x3 then wp Ln xs 19 26 [.ref 2, .int x1, .int x2, .int x3] [] (u, ml_h m lm) Φ else wp Ln xs 19 9 [.ref 2, .int x1, .int x2, .int x3] [] (u, ml_h m lm) Φ := (wp_same xd19_4 (Or.inr rfl) rfl).trans ((wp_same xd19_5 (Or.inr rfl) rfl).trans (wx_icmp xd19_6 rfl rfl (x1 ≤ x3) mb_ge))
theorem x19_9 {x1 : Int32} {x2 : Int32} {x3 : Int32} : wp Ln xs 19 9 [.ref 2, .int x1, .int x2, .int x3] [] (u, ml_h m lm) Φ = wp Ln xs 17 0 [.ref 4, .int x3] [] (u, ml_h m lm) (mk Ln xs 19 15 [.ref 2, .int x1, .int x2, .int x3] [.int x2] Φ) := (wp_same xd19_9 (Or.inr rfl) rfl).trans ((wp_same xd19_10 (Or.inr rfl) rfl).trans ((wm_getr xd19_11 rfl (show ml_L[2]? = _ from rfl) rfl (Nat.le_of_ble_eq_true rfl)).trans ((wp_same xd19_14 (Or.inr rfl) rfl).trans (wm_cs (As := [.ref 4, .int x3]) (rest := [.int x2]) xd19_15 rfl rfl (Nat.le_of_ble_eq_true rfl) (Nat.le_of_ble_eq_true rfl) (Nat.le_of_ble_eq_true rfl) (Nat.le_of_ble_eq_true rfl)))))
theorem x19_18 {x1 : Int32} {x2 : Int32} {x3 : Int32} {xs0 : Int32} {xs1 : Int32} : wp Ln xs 19 18 [.ref 2, .int x1, .int x2, .int x3] [.int xs0, .int xs1] (u, ml_h m lm) Φ = wp Ln xs 19 4 [.ref 2, .int x1, .int (xs1 + xs0), .int (x3 + nI 1)] [] (u, ml_h m lm) Φ := (wp_same xd19_18 (Or.inr rfl) rfl).trans ((wp_same (L' := [.ref 2, .int x1, .int (xs1 + xs0), .int x3]) xd19_19 (Or.inr rfl) rfl).trans ((wp_same (L' := [.ref 2, .int x1, .int (xs1 + xs0), .int (x3 + nI 1)]) xd19_20 (Or.inr rfl) rfl).trans (wx_goto xd19_23 rfl)))
theorem x19_26 {x1 : Int32} {x2 : Int32} {x3 : Int32} : wp Ln xs 19 26 [.ref 2, .int x1, .int x2, .int x3] [] (u, ml_h m lm) Φ = Φ (.inl (some (.int x2))) (u, ml_h m lm) := (wp_same xd19_26 (Or.inr rfl) rfl).trans (wp_fin (v := some (.int x2)) xd19_27 (Or.inr rfl) rfl (mj_fin_i rfl))
/- PickedForms$Column.lengthOf -/
theorem xd20_0 : decode (mj_b 20) 0 = .ok (.aload_n 0, 1) := by decide +kernel
theorem xd20_1 : decode (mj_b 20) 1 = .ok (.getfield 15, 3) := by decide +kernel
theorem xd20_4 : decode (mj_b 20) 4 = .ok (.iload_n 1, 1) := by decide +kernel
theorem xd20_5 : decode (mj_b 20) 5 = .ok (.invokestatic 46, 3) := by decide +kernel
theorem xd20_8 : decode (mj_b 20) 8 = .ok (.ireturn, 1) := by decide +kernel
theorem x20_0 {x1 : Int32} : wp Ln xs 20 0 [.ref 2, .int x1] [] (u, ml_h m lm) Φ = wp Ln xs 17 0 [.ref 4, .int x1] [] (u, ml_h m lm) (mk Ln xs 20 5 [.ref 2, .int x1] [] Φ) := (wp_same xd20_0 (Or.inr rfl) rfl).trans ((wm_getr xd20_1 rfl (show ml_L[2]? = _ from rfl) rfl (Nat.le_of_ble_eq_true rfl)).trans ((wp_same xd20_4 (Or.inr rfl) rfl).trans (wm_cs (As := [.ref 4, .int x1]) (rest := []) xd20_5 rfl rfl (Nat.le_of_ble_eq_true rfl) (Nat.le_of_ble_eq_true rfl) (Nat.le_of_ble_eq_true rfl) (Nat.le_of_ble_eq_true rfl))))
theorem x20_8 {x1 : Int32} {xs0 : Int32} : wp Ln xs 20 8 [.ref 2, .int x1] [.int xs0] (u, ml_h m lm) Φ = Φ (.inl (some (.int xs0))) (u, ml_h m lm) := wp_fin (v := some (.int xs0)) xd20_8 (Or.inr rfl) rfl (mj_fin_i rfl)
/- PickedForms$Pick.choose -/
theorem xd21_0 : decode (mj_b 21) 0 = .ok (.iload_n 3, 1) := by decide +kernel
theorem xd21_1 : decode (mj_b 21) 1 = .ok (.aload 4, 2) := by decide +kernel
theorem xd21_3 : decode (mj_b 21) 3 = .ok (.iconst 0, 1) := by decide +kernel
theorem xd21_4 : decode (mj_b 21) 4 = .ok (.invokestatic 25, 3) := by decide +kernel
theorem xd21_7 : decode (mj_b 21) 7 = .ok (.invokestatic 31, 3) := by decide +kernel
theorem xd21_10 : decode (mj_b 21) 10 = .ok (.istore 5, 2) := by decide +kernel
theorem xd21_12 : decode (mj_b 21) 12 = .ok (.aload_n 0, 1) := by decide +kernel
theorem xd21_13 : decode (mj_b 21) 13 = .ok (.iconst 0, 1) := by decide +kernel
theorem xd21_14 : decode (mj_b 21) 14 = .ok (.putfield 18, 3) := by decide +kernel
theorem xd21_17 : decode (mj_b 21) 17 = .ok (.aload_n 0, 1) := by decide +kernel
theorem xd21_18 : decode (mj_b 21) 18 = .ok (.getfield 12, 3) := by decide +kernel
theorem xd21_21 : decode (mj_b 21) 21 = .ok (.invokevirtual 37, 3) := by decide +kernel
theorem xd21_24 : decode (mj_b 21) 24 = .ok (.iconst 0, 1) := by decide +kernel
theorem xd21_25 : decode (mj_b 21) 25 = .ok (.istore 6, 2) := by decide +kernel
theorem xd21_27 : decode (mj_b 21) 27 = .ok (.iload 6, 2) := by decide +kernel
theorem xd21_29 : decode (mj_b 21) 29 = .ok (.iload_n 3, 1) := by decide +kernel
theorem xd21_30 : decode (mj_b 21) 30 = .ok (.if_icmp .ge 50, 3) := by decide +kernel
theorem xd21_33 : decode (mj_b 21) 33 = .ok (.aload_n 0, 1) := by decide +kernel
theorem xd21_34 : decode (mj_b 21) 34 = .ok (.getfield 12, 3) := by decide +kernel
theorem xd21_37 : decode (mj_b 21) 37 = .ok (.aload_n 1, 1) := by decide +kernel
theorem xd21_38 : decode (mj_b 21) 38 = .ok (.iload_n 2, 1) := by decide +kernel
theorem xd21_39 : decode (mj_b 21) 39 = .ok (.iload 6, 2) := by decide +kernel
theorem xd21_41 : decode (mj_b 21) 41 = .ok (.iadd, 1) := by decide +kernel
theorem xd21_42 : decode (mj_b 21) 42 = .ok (.invokestatic 25, 3) := by decide +kernel
theorem xd21_45 : decode (mj_b 21) 45 = .ok (.invokevirtual 40, 3) := by decide +kernel
theorem xd21_48 : decode (mj_b 21) 48 = .ok (.iload 6, 2) := by decide +kernel
theorem xd21_50 : decode (mj_b 21) 50 = .ok (.iconst 1, 1) := by decide +kernel
theorem xd21_51 : decode (mj_b 21) 51 = .ok (.iadd, 1) := by decide +kernel
theorem xd21_52 : decode (mj_b 21) 52 = .ok (.iload 5, 2) := by decide +kernel
theorem xd21_54 : decode (mj_b 21) 54 = .ok (.if_icmp .ne 20, 3) := by decide +kernel
theorem xd21_57 : decode (mj_b 21) 57 = .ok (.aload_n 0, 1) := by decide +kernel
theorem xd21_58 : decode (mj_b 21) 58 = .ok (.aload_n 0, 1) := by decide +kernel
theorem xd21_59 : decode (mj_b 21) 59 = .ok (.getfield 12, 3) := by decide +kernel
theorem xd21_62 : decode (mj_b 21) 62 = .ok (.aload 4, 2) := by decide +kernel
theorem xd21_64 : decode (mj_b 21) 64 = .ok (.iconst 2, 1) := by decide +kernel
theorem xd21_65 : decode (mj_b 21) 65 = .ok (.invokestatic 25, 3) := by decide +kernel
theorem xd21_68 : decode (mj_b 21) 68 = .ok (.invokevirtual 44, 3) := by decide +kernel
theorem xd21_71 : decode (mj_b 21) 71 = .ok (.putfield 18, 3) := by decide +kernel
theorem xd21_74 : decode (mj_b 21) 74 = .ok (.iinc 6 1, 3) := by decide +kernel
theorem xd21_77 : decode (mj_b 21) 77 = .ok (.goto (-50), 3) := by decide +kernel
theorem xd21_80 : decode (mj_b 21) 80 = .ok (.aload_n 0, 1) := by decide +kernel
theorem xd21_81 : decode (mj_b 21) 81 = .ok (.aload_n 0, 1) := by decide +kernel
theorem xd21_82 : decode (mj_b 21) 82 = .ok (.getfield 12, 3) := by decide +kernel
theorem xd21_85 : decode (mj_b 21) 85 = .ok (.aload_n 0, 1) := by decide +kernel
theorem xd21_86 : decode (mj_b 21) 86 = .ok (.getfield 18, 3) := by decide +kernel
theorem xd21_89 : decode (mj_b 21) 89 = .ok (.invokevirtual 48, 3) := by decide +kernel
theorem xd21_92 : decode (mj_b 21) 92 = .ok (.putfield 22, 3) := by decide +kernel
theorem xd21_95 : decode (mj_b 21) 95 = .ok (.return_, 1) := by decide +kernel
theorem x21_0 {r : Nat} {x2 : Int32} {x3 : Int32} : wp Ln xs 21 0 [.ref 58, .ref r, .int x2, .int x3, .ref 7, mj_hole, mj_hole] [] (u, ml_h m lm) Φ = wp Ln xs 17 0 [.ref 7, .int (nI 0)] [] (u, ml_h m lm) (mk Ln xs 21 4 [.ref 58, .ref r, .int x2, .int x3, .ref 7, mj_hole, mj_hole] [.int x3] Φ) := (wp_same xd21_0 (Or.inr rfl) rfl).trans ((wp_same xd21_1 (Or.inr rfl) rfl).trans ((wp_same (S' := [.int (nI 0), .ref 7, .int x3]) xd21_3 (Or.inr rfl) rfl).trans (wm_cs (As := [.ref 7, .int (nI 0)]) (rest := [.int x3]) xd21_4 rfl rfl (Nat.le_of_ble_eq_true rfl) (Nat.le_of_ble_eq_true rfl) (Nat.le_of_ble_eq_true rfl) (Nat.le_of_ble_eq_true rfl))))
theorem x21_7 {r : Nat} {x2 : Int32} {x3 : Int32} {xs0 : Int32} {xs1 : Int32} : wp Ln xs 21 7 [.ref 58, .ref r, .int x2, .int x3, .ref 7, mj_hole, mj_hole] [.int xs0, .int xs1] (u, ml_h m lm) Φ = wp Ln xs 22 0 [.ref 59] [] (u, ml_h (ml_s m 58 1 (nI 0)) lm) (mk Ln xs 21 21 [.ref 58, .ref r, .int x2, .int x3, .ref 7, .int (if xs0 < xs1 then xs0 else xs1), mj_hole] [] Φ) := (wm_min xd21_7 rfl (Nat.le_of_ble_eq_true rfl) (Nat.le_of_ble_eq_true rfl) (Nat.le_of_ble_eq_true rfl)).trans ((wp_same (L' := [.ref 58, .ref r, .int x2, .int x3, .ref 7, .int (if xs0 < xs1 then xs0 else xs1), mj_hole]) xd21_10 (Or.inr rfl) rfl).trans ((wp_same xd21_12 (Or.inr rfl) rfl).trans ((wp_same (S' := [.int (nI 0), .ref 58]) xd21_13 (Or.inr rfl) rfl).trans ((wm_puti xd21_14 rfl (show ml_L[58]? = _ from rfl) rfl (Nat.le_of_ble_eq_true rfl) rfl rfl rfl).trans ((wp_same xd21_17 (Or.inr rfl) rfl).trans ((wm_getr xd21_18 rfl (show ml_L[58]? = _ from rfl) rfl (Nat.le_of_ble_eq_true rfl)).trans (wm_cv (As := []) (rest := []) xd21_21 rfl rfl (show ml_L[59]? = _ from rfl) (Nat.le_of_ble_eq_true rfl) (Nat.le_of_ble_eq_true rfl) (Nat.le_of_ble_eq_true rfl) (Nat.le_of_ble_eq_true rfl))))))))
theorem x21_24 {r : Nat} {x2 : Int32} {x3 : Int32} {x5 : Int32} : wp Ln xs 21 24 [.ref 58, .ref r, .int x2, .int x3, .ref 7, .int x5, mj_hole] [] (u, ml_h m lm) Φ = wp Ln xs 21 27 [.ref 58, .ref r, .int x2, .int x3, .ref 7, .int x5, .int (nI 0)] [] (u, ml_h m lm) Φ := (wp_same (S' := [.int (nI 0)]) xd21_24 (Or.inr rfl) rfl).trans (wp_same (L' := [.ref 58, .ref r, .int x2, .int x3, .ref 7, .int x5, .int (nI 0)]) xd21_25 (Or.inr rfl) rfl)
theorem x21_27 {r : Nat} {x2 : Int32} {x3 : Int32} {x5 : Int32} {x6 : Int32} : wp Ln xs 21 27 [.ref 58, .ref r, .int x2, .int x3, .ref 7, .int x5, .int x6] [] (u, ml_h m lm) Φ = if x3 ≤ x6 then wp Ln xs 21 80 [.ref 58, .ref r, .int x2, .int x3, .ref 7, .int x5, .int x6] [] (u, ml_h m lm) Φ else wp Ln xs 21 33 [.ref 58, .ref r, .int x2, .int x3, .ref 7, .int x5, .int x6] [] (u, ml_h m lm) Φ := (wp_same xd21_27 (Or.inr rfl) rfl).trans ((wp_same xd21_29 (Or.inr rfl) rfl).trans (wx_icmp xd21_30 rfl rfl (x3 ≤ x6) mb_ge))
theorem x21_33 {r : Nat} {x2 : Int32} {x3 : Int32} {x5 : Int32} {x6 : Int32} : wp Ln xs 21 33 [.ref 58, .ref r, .int x2, .int x3, .ref 7, .int x5, .int x6] [] (u, ml_h m lm) Φ = wp Ln xs 17 0 [.ref r, .int (x2 + x6)] [] (u, ml_h m lm) (mk Ln xs 21 42 [.ref 58, .ref r, .int x2, .int x3, .ref 7, .int x5, .int x6] [.ref 59] Φ) := (wp_same xd21_33 (Or.inr rfl) rfl).trans ((wm_getr xd21_34 rfl (show ml_L[58]? = _ from rfl) rfl (Nat.le_of_ble_eq_true rfl)).trans ((wp_same xd21_37 (Or.inr rfl) rfl).trans ((wp_same xd21_38 (Or.inr rfl) rfl).trans ((wp_same xd21_39 (Or.inr rfl) rfl).trans ((wp_same xd21_41 (Or.inr rfl) rfl).trans (wm_cs (As := [.ref r, .int (x2 + x6)]) (rest := [.ref 59]) xd21_42 rfl rfl (Nat.le_of_ble_eq_true rfl) (Nat.le_of_ble_eq_true rfl) (Nat.le_of_ble_eq_true rfl) (Nat.le_of_ble_eq_true rfl)))))))
theorem x21_45 {r : Nat} {x2 : Int32} {x3 : Int32} {x5 : Int32} {x6 : Int32} {xs0 : Int32} : wp Ln xs 21 45 [.ref 58, .ref r, .int x2, .int x3, .ref 7, .int x5, .int x6] [.int xs0, .ref 59] (u, ml_h m lm) Φ = wp Ln xs 23 0 [.ref 59, .int xs0] [] (u, ml_h m lm) (mk Ln xs 21 45 [.ref 58, .ref r, .int x2, .int x3, .ref 7, .int x5, .int x6] [] Φ) := wm_cv (As := [.int xs0]) (rest := []) xd21_45 rfl rfl (show ml_L[59]? = _ from rfl) (Nat.le_of_ble_eq_true rfl) (Nat.le_of_ble_eq_true rfl) (Nat.le_of_ble_eq_true rfl) (Nat.le_of_ble_eq_true rfl)
theorem x21_48 {r : Nat} {x2 : Int32} {x3 : Int32} {x5 : Int32} {x6 : Int32} : wp Ln xs 21 48 [.ref 58, .ref r, .int x2, .int x3, .ref 7, .int x5, .int x6] [] (u, ml_h m lm) Φ = if ¬ (x6 + (nI 1)) = x5 then wp Ln xs 21 74 [.ref 58, .ref r, .int x2, .int x3, .ref 7, .int x5, .int x6] [] (u, ml_h m lm) Φ else wp Ln xs 21 57 [.ref 58, .ref r, .int x2, .int x3, .ref 7, .int x5, .int x6] [] (u, ml_h m lm) Φ := (wp_same xd21_48 (Or.inr rfl) rfl).trans ((wp_same (S' := [.int (nI 1), .int x6]) xd21_50 (Or.inr rfl) rfl).trans ((wp_same xd21_51 (Or.inr rfl) rfl).trans ((wp_same xd21_52 (Or.inr rfl) rfl).trans (wx_icmp xd21_54 rfl rfl (¬ (x6 + (nI 1)) = x5) mb_ne))))
theorem x21_57 {r : Nat} {x2 : Int32} {x3 : Int32} {x5 : Int32} {x6 : Int32} : wp Ln xs 21 57 [.ref 58, .ref r, .int x2, .int x3, .ref 7, .int x5, .int x6] [] (u, ml_h m lm) Φ = wp Ln xs 17 0 [.ref 7, .int (nI 2)] [] (u, ml_h m lm) (mk Ln xs 21 65 [.ref 58, .ref r, .int x2, .int x3, .ref 7, .int x5, .int x6] [.ref 59, .ref 58] Φ) := (wp_same xd21_57 (Or.inr rfl) rfl).trans ((wp_same xd21_58 (Or.inr rfl) rfl).trans ((wm_getr xd21_59 rfl (show ml_L[58]? = _ from rfl) rfl (Nat.le_of_ble_eq_true rfl)).trans ((wp_same xd21_62 (Or.inr rfl) rfl).trans ((wp_same (S' := [.int (nI 2), .ref 7, .ref 59, .ref 58]) xd21_64 (Or.inr rfl) rfl).trans (wm_cs (As := [.ref 7, .int (nI 2)]) (rest := [.ref 59, .ref 58]) xd21_65 rfl rfl (Nat.le_of_ble_eq_true rfl) (Nat.le_of_ble_eq_true rfl) (Nat.le_of_ble_eq_true rfl) (Nat.le_of_ble_eq_true rfl))))))
theorem x21_68 {r : Nat} {x2 : Int32} {x3 : Int32} {x5 : Int32} {x6 : Int32} {xs0 : Int32} : wp Ln xs 21 68 [.ref 58, .ref r, .int x2, .int x3, .ref 7, .int x5, .int x6] [.int xs0, .ref 59, .ref 58] (u, ml_h m lm) Φ = wp Ln xs 26 0 [.ref 59, .int xs0, mj_hole, mj_hole, mj_hole, mj_hole] [] (u, ml_h m lm) (mk Ln xs 21 68 [.ref 58, .ref r, .int x2, .int x3, .ref 7, .int x5, .int x6] [.ref 58] Φ) := wm_cv (As := [.int xs0]) (rest := [.ref 58]) xd21_68 rfl rfl (show ml_L[59]? = _ from rfl) (Nat.le_of_ble_eq_true rfl) (Nat.le_of_ble_eq_true rfl) (Nat.le_of_ble_eq_true rfl) (Nat.le_of_ble_eq_true rfl)
theorem x21_71 {r : Nat} {x2 : Int32} {x3 : Int32} {x5 : Int32} {x6 : Int32} {xs0 : Int32} : wp Ln xs 21 71 [.ref 58, .ref r, .int x2, .int x3, .ref 7, .int x5, .int x6] [.int xs0, .ref 58] (u, ml_h m lm) Φ = wp Ln xs 21 74 [.ref 58, .ref r, .int x2, .int x3, .ref 7, .int x5, .int x6] [] (u, ml_h (ml_s m 58 1 xs0) lm) Φ := wm_puti xd21_71 rfl (show ml_L[58]? = _ from rfl) rfl (Nat.le_of_ble_eq_true rfl) rfl rfl rfl
theorem x21_74 {r : Nat} {x2 : Int32} {x3 : Int32} {x5 : Int32} {x6 : Int32} : wp Ln xs 21 74 [.ref 58, .ref r, .int x2, .int x3, .ref 7, .int x5, .int x6] [] (u, ml_h m lm) Φ = wp Ln xs 21 27 [.ref 58, .ref r, .int x2, .int x3, .ref 7, .int x5, .int (x6 + nI 1)] [] (u, ml_h m lm) Φ := (wp_same (L' := [.ref 58, .ref r, .int x2, .int x3, .ref 7, .int x5, .int (x6 + nI 1)]) xd21_74 (Or.inr rfl) rfl).trans (wx_goto xd21_77 rfl)
theorem x21_80 {r : Nat} {x2 : Int32} {x3 : Int32} {x5 : Int32} {x6 : Int32} : wp Ln xs 21 80 [.ref 58, .ref r, .int x2, .int x3, .ref 7, .int x5, .int x6] [] (u, ml_h m lm) Φ = wp Ln xs 27 0 [.ref 59, .int (m 58 1)] [] (u, ml_h m lm) (mk Ln xs 21 89 [.ref 58, .ref r, .int x2, .int x3, .ref 7, .int x5, .int x6] [.ref 58] Φ) := (wp_same xd21_80 (Or.inr rfl) rfl).trans ((wp_same xd21_81 (Or.inr rfl) rfl).trans ((wm_getr xd21_82 rfl (show ml_L[58]? = _ from rfl) rfl (Nat.le_of_ble_eq_true rfl)).trans ((wp_same xd21_85 (Or.inr rfl) rfl).trans ((wm_geti xd21_86 rfl (show ml_L[58]? = _ from rfl) rfl (Nat.le_of_ble_eq_true rfl)).trans (wm_cv (As := [.int (m 58 1)]) (rest := [.ref 58]) xd21_89 rfl rfl (show ml_L[59]? = _ from rfl) (Nat.le_of_ble_eq_true rfl) (Nat.le_of_ble_eq_true rfl) (Nat.le_of_ble_eq_true rfl) (Nat.le_of_ble_eq_true rfl))))))
theorem x21_92 {r : Nat} {x2 : Int32} {x3 : Int32} {x5 : Int32} {x6 : Int32} {xs0 : Int32} : wp Ln xs 21 92 [.ref 58, .ref r, .int x2, .int x3, .ref 7, .int x5, .int x6] [.int xs0, .ref 58] (u, ml_h m lm) Φ = Φ (.inl none) (u, ml_h (ml_s m 58 2 xs0) lm) := (wm_puti xd21_92 rfl (show ml_L[58]? = _ from rfl) rfl (Nat.le_of_ble_eq_true rfl) rfl rfl rfl).trans (wp_fin (v := none) xd21_95 (Or.inr rfl) rfl rfl)
/- PickedForms$Shape.clear -/
theorem xd22_0 : decode (mj_b 22) 0 = .ok (.aload_n 0, 1) := by decide +kernel
theorem xd22_1 : decode (mj_b 22) 1 = .ok (.iconst 0, 1) := by decide +kernel
theorem xd22_2 : decode (mj_b 22) 2 = .ok (.putfield 15, 3) := by decide +kernel
theorem xd22_5 : decode (mj_b 22) 5 = .ok (.aload_n 0, 1) := by decide +kernel
theorem xd22_6 : decode (mj_b 22) 6 = .ok (.iconst 0, 1) := by decide +kernel
theorem xd22_7 : decode (mj_b 22) 7 = .ok (.putfield 19, 3) := by decide +kernel
theorem xd22_10 : decode (mj_b 22) 10 = .ok (.aload_n 0, 1) := by decide +kernel
theorem xd22_11 : decode (mj_b 22) 11 = .ok (.iconst 0, 1) := by decide +kernel
theorem xd22_12 : decode (mj_b 22) 12 = .ok (.putfield 28, 3) := by decide +kernel
theorem xd22_15 : decode (mj_b 22) 15 = .ok (.aload_n 0, 1) := by decide +kernel
theorem xd22_16 : decode (mj_b 22) 16 = .ok (.iconst 0, 1) := by decide +kernel
theorem xd22_17 : decode (mj_b 22) 17 = .ok (.putfield 31, 3) := by decide +kernel
theorem xd22_20 : decode (mj_b 22) 20 = .ok (.return_, 1) := by decide +kernel
theorem x22_0 {p : Nat} (hp : ml_sh p) : wp Ln xs 22 0 [.ref p] [] (u, ml_h m lm) Φ = Φ (.inl none) (u, ml_h (ml_s (ml_s (ml_s (ml_s m p 1 (nI 0)) p 2 (nI 0)) p 5 (nI 0)) p 6 (nI 0)) lm) := (wp_same xd22_0 (Or.inr rfl) rfl).trans ((wp_same (S' := [.int (nI 0), .ref p]) xd22_1 (Or.inr rfl) rfl).trans ((wm_puti xd22_2 rfl hp.1 rfl (Nat.le_of_ble_eq_true rfl) rfl rfl rfl).trans ((wp_same xd22_5 (Or.inr rfl) rfl).trans ((wp_same (S' := [.int (nI 0), .ref p]) xd22_6 (Or.inr rfl) rfl).trans ((wm_puti xd22_7 rfl hp.1 rfl (Nat.le_of_ble_eq_true rfl) rfl rfl rfl).trans ((wp_same xd22_10 (Or.inr rfl) rfl).trans ((wp_same (S' := [.int (nI 0), .ref p]) xd22_11 (Or.inr rfl) rfl).trans ((wm_puti xd22_12 rfl hp.1 rfl (Nat.le_of_ble_eq_true rfl) rfl rfl rfl).trans ((wp_same xd22_15 (Or.inr rfl) rfl).trans ((wp_same (S' := [.int (nI 0), .ref p]) xd22_16 (Or.inr rfl) rfl).trans ((wm_puti xd22_17 rfl hp.1 rfl (Nat.le_of_ble_eq_true rfl) rfl rfl rfl).trans (wp_fin (v := none) xd22_20 (Or.inr rfl) rfl rfl))))))))))))
/- PickedForms$Shape.add -/
theorem xd23_0 : decode (mj_b 23) 0 = .ok (.aload_n 0, 1) := by decide +kernel
theorem xd23_1 : decode (mj_b 23) 1 = .ok (.getfield 19, 3) := by decide +kernel
theorem xd23_4 : decode (mj_b 23) 4 = .ok (.ifCond .ne 21, 3) := by decide +kernel
theorem xd23_7 : decode (mj_b 23) 7 = .ok (.aload_n 0, 1) := by decide +kernel
theorem xd23_8 : decode (mj_b 23) 8 = .ok (.iload_n 1, 1) := by decide +kernel
theorem xd23_9 : decode (mj_b 23) 9 = .ok (.putfield 22, 3) := by decide +kernel
theorem xd23_12 : decode (mj_b 23) 12 = .ok (.aload_n 0, 1) := by decide +kernel
theorem xd23_13 : decode (mj_b 23) 13 = .ok (.iload_n 1, 1) := by decide +kernel
theorem xd23_14 : decode (mj_b 23) 14 = .ok (.putfield 25, 3) := by decide +kernel
theorem xd23_17 : decode (mj_b 23) 17 = .ok (.aload_n 0, 1) := by decide +kernel
theorem xd23_18 : decode (mj_b 23) 18 = .ok (.iconst 1, 1) := by decide +kernel
theorem xd23_19 : decode (mj_b 23) 19 = .ok (.putfield 28, 3) := by decide +kernel
theorem xd23_22 : decode (mj_b 23) 22 = .ok (.goto 87, 3) := by decide +kernel
theorem xd23_25 : decode (mj_b 23) 25 = .ok (.aload_n 0, 1) := by decide +kernel
theorem xd23_26 : decode (mj_b 23) 26 = .ok (.iload_n 1, 1) := by decide +kernel
theorem xd23_27 : decode (mj_b 23) 27 = .ok (.aload_n 0, 1) := by decide +kernel
theorem xd23_28 : decode (mj_b 23) 28 = .ok (.getfield 22, 3) := by decide +kernel
theorem xd23_31 : decode (mj_b 23) 31 = .ok (.if_icmp .ge 7, 3) := by decide +kernel
theorem xd23_34 : decode (mj_b 23) 34 = .ok (.iload_n 1, 1) := by decide +kernel
theorem xd23_35 : decode (mj_b 23) 35 = .ok (.goto 7, 3) := by decide +kernel
theorem xd23_38 : decode (mj_b 23) 38 = .ok (.aload_n 0, 1) := by decide +kernel
theorem xd23_39 : decode (mj_b 23) 39 = .ok (.getfield 22, 3) := by decide +kernel
theorem xd23_42 : decode (mj_b 23) 42 = .ok (.putfield 22, 3) := by decide +kernel
theorem xd23_45 : decode (mj_b 23) 45 = .ok (.aload_n 0, 1) := by decide +kernel
theorem xd23_46 : decode (mj_b 23) 46 = .ok (.iload_n 1, 1) := by decide +kernel
theorem xd23_47 : decode (mj_b 23) 47 = .ok (.aload_n 0, 1) := by decide +kernel
theorem xd23_48 : decode (mj_b 23) 48 = .ok (.getfield 25, 3) := by decide +kernel
theorem xd23_51 : decode (mj_b 23) 51 = .ok (.if_icmp .le 7, 3) := by decide +kernel
theorem xd23_54 : decode (mj_b 23) 54 = .ok (.iload_n 1, 1) := by decide +kernel
theorem xd23_55 : decode (mj_b 23) 55 = .ok (.goto 7, 3) := by decide +kernel
theorem xd23_58 : decode (mj_b 23) 58 = .ok (.aload_n 0, 1) := by decide +kernel
theorem xd23_59 : decode (mj_b 23) 59 = .ok (.getfield 25, 3) := by decide +kernel
theorem xd23_62 : decode (mj_b 23) 62 = .ok (.putfield 25, 3) := by decide +kernel
theorem xd23_65 : decode (mj_b 23) 65 = .ok (.aload_n 0, 1) := by decide +kernel
theorem xd23_66 : decode (mj_b 23) 66 = .ok (.iload_n 1, 1) := by decide +kernel
theorem xd23_67 : decode (mj_b 23) 67 = .ok (.aload_n 0, 1) := by decide +kernel
theorem xd23_68 : decode (mj_b 23) 68 = .ok (.getfield 34, 3) := by decide +kernel
theorem xd23_71 : decode (mj_b 23) 71 = .ok (.if_icmp .ne 10, 3) := by decide +kernel
theorem xd23_74 : decode (mj_b 23) 74 = .ok (.aload_n 0, 1) := by decide +kernel
theorem xd23_75 : decode (mj_b 23) 75 = .ok (.getfield 28, 3) := by decide +kernel
theorem xd23_78 : decode (mj_b 23) 78 = .ok (.goto 9, 3) := by decide +kernel
theorem xd23_81 : decode (mj_b 23) 81 = .ok (.aload_n 0, 1) := by decide +kernel
theorem xd23_82 : decode (mj_b 23) 82 = .ok (.getfield 28, 3) := by decide +kernel
theorem xd23_85 : decode (mj_b 23) 85 = .ok (.iconst 1, 1) := by decide +kernel
theorem xd23_86 : decode (mj_b 23) 86 = .ok (.iadd, 1) := by decide +kernel
theorem xd23_87 : decode (mj_b 23) 87 = .ok (.putfield 28, 3) := by decide +kernel
theorem xd23_90 : decode (mj_b 23) 90 = .ok (.aload_n 0, 1) := by decide +kernel
theorem xd23_91 : decode (mj_b 23) 91 = .ok (.aload_n 0, 1) := by decide +kernel
theorem xd23_92 : decode (mj_b 23) 92 = .ok (.getfield 31, 3) := by decide +kernel
theorem xd23_95 : decode (mj_b 23) 95 = .ok (.aload_n 0, 1) := by decide +kernel
theorem xd23_96 : decode (mj_b 23) 96 = .ok (.getfield 34, 3) := by decide +kernel
theorem xd23_99 : decode (mj_b 23) 99 = .ok (.iload_n 1, 1) := by decide +kernel
theorem xd23_100 : decode (mj_b 23) 100 = .ok (.invokestatic 50, 3) := by decide +kernel
theorem xd23_103 : decode (mj_b 23) 103 = .ok (.invokestatic 54, 3) := by decide +kernel
theorem xd23_106 : decode (mj_b 23) 106 = .ok (.putfield 31, 3) := by decide +kernel
theorem xd23_109 : decode (mj_b 23) 109 = .ok (.aload_n 0, 1) := by decide +kernel
theorem xd23_110 : decode (mj_b 23) 110 = .ok (.iload_n 1, 1) := by decide +kernel
theorem xd23_111 : decode (mj_b 23) 111 = .ok (.putfield 34, 3) := by decide +kernel
theorem xd23_114 : decode (mj_b 23) 114 = .ok (.aload_n 0, 1) := by decide +kernel
theorem xd23_115 : decode (mj_b 23) 115 = .ok (.dup, 1) := by decide +kernel
theorem xd23_116 : decode (mj_b 23) 116 = .ok (.getfield 19, 3) := by decide +kernel
theorem xd23_119 : decode (mj_b 23) 119 = .ok (.iconst 1, 1) := by decide +kernel
theorem xd23_120 : decode (mj_b 23) 120 = .ok (.iadd, 1) := by decide +kernel
theorem xd23_121 : decode (mj_b 23) 121 = .ok (.putfield 19, 3) := by decide +kernel
theorem xd23_124 : decode (mj_b 23) 124 = .ok (.aload_n 0, 1) := by decide +kernel
theorem xd23_125 : decode (mj_b 23) 125 = .ok (.iload_n 1, 1) := by decide +kernel
theorem xd23_126 : decode (mj_b 23) 126 = .ok (.invokevirtual 59, 3) := by decide +kernel
theorem xd23_129 : decode (mj_b 23) 129 = .ok (.return_, 1) := by decide +kernel
theorem x23_0 {p : Nat} {x1 : Int32} (hp : ml_sh p) : wp Ln xs 23 0 [.ref p, .int x1] [] (u, ml_h m lm) Φ = if ¬ (m p 2) = (nI 0) then wp Ln xs 23 25 [.ref p, .int x1] [] (u, ml_h m lm) Φ else wp Ln xs 23 7 [.ref p, .int x1] [] (u, ml_h m lm) Φ := (wp_same xd23_0 (Or.inr rfl) rfl).trans ((wm_geti xd23_1 rfl hp.1 rfl (Nat.le_of_ble_eq_true rfl)).trans (wx_if xd23_4 rfl rfl (¬ (m p 2) = (nI 0)) mb_ne))
theorem x23_7 {p : Nat} {x1 : Int32} (hp : ml_sh p) : wp Ln xs 23 7 [.ref p, .int x1] [] (u, ml_h m lm) Φ = wp Ln xs 23 109 [.ref p, .int x1] [] (u, ml_h (ml_s (ml_s (ml_s m p 3 x1) p 4 x1) p 5 (nI 1)) lm) Φ := (wp_same xd23_7 (Or.inr rfl) rfl).trans ((wp_same xd23_8 (Or.inr rfl) rfl).trans ((wm_puti xd23_9 rfl hp.1 rfl (Nat.le_of_ble_eq_true rfl) rfl rfl rfl).trans ((wp_same xd23_12 (Or.inr rfl) rfl).trans ((wp_same xd23_13 (Or.inr rfl) rfl).trans ((wm_puti xd23_14 rfl hp.1 rfl (Nat.le_of_ble_eq_true rfl) rfl rfl rfl).trans ((wp_same xd23_17 (Or.inr rfl) rfl).trans ((wp_same (S' := [.int (nI 1), .ref p]) xd23_18 (Or.inr rfl) rfl).trans ((wm_puti xd23_19 rfl hp.1 rfl (Nat.le_of_ble_eq_true rfl) rfl rfl rfl).trans (wx_goto xd23_22 rfl)))))))))
theorem x23_25 {p : Nat} {x1 : Int32} (hp : ml_sh p) : wp Ln xs 23 25 [.ref p, .int x1] [] (u, ml_h m lm) Φ = if (m p 3) ≤ x1 then wp Ln xs 23 38 [.ref p, .int x1] [.ref p] (u, ml_h m lm) Φ else wp Ln xs 23 34 [.ref p, .int x1] [.ref p] (u, ml_h m lm) Φ := (wp_same xd23_25 (Or.inr rfl) rfl).trans ((wp_same xd23_26 (Or.inr rfl) rfl).trans ((wp_same xd23_27 (Or.inr rfl) rfl).trans ((wm_geti xd23_28 rfl hp.1 rfl (Nat.le_of_ble_eq_true rfl)).trans (wx_icmp xd23_31 rfl rfl ((m p 3) ≤ x1) mb_ge))))
theorem x23_34 {p : Nat} {x1 : Int32} : wp Ln xs 23 34 [.ref p, .int x1] [.ref p] (u, ml_h m lm) Φ = wp Ln xs 23 42 [.ref p, .int x1] [.int x1, .ref p] (u, ml_h m lm) Φ := (wp_same xd23_34 (Or.inr rfl) rfl).trans (wx_goto xd23_35 rfl)
theorem x23_38 {p : Nat} {x1 : Int32} (hp : ml_sh p) : wp Ln xs 23 38 [.ref p, .int x1] [.ref p] (u, ml_h m lm) Φ = wp Ln xs 23 42 [.ref p, .int x1] [.int (m p 3), .ref p] (u, ml_h m lm) Φ := (wp_same xd23_38 (Or.inr rfl) rfl).trans (wm_geti xd23_39 rfl hp.1 rfl (Nat.le_of_ble_eq_true rfl))
theorem x23_42 {p : Nat} {x1 : Int32} {xs0 : Int32} (hp : ml_sh p) : wp Ln xs 23 42 [.ref p, .int x1] [.int xs0, .ref p] (u, ml_h m lm) Φ = if x1 ≤ ((ml_s m p 3 xs0) p 4) then wp Ln xs 23 58 [.ref p, .int x1] [.ref p] (u, ml_h (ml_s m p 3 xs0) lm) Φ else wp Ln xs 23 54 [.ref p, .int x1] [.ref p] (u, ml_h (ml_s m p 3 xs0) lm) Φ := (wm_puti xd23_42 rfl hp.1 rfl (Nat.le_of_ble_eq_true rfl) rfl rfl rfl).trans ((wp_same xd23_45 (Or.inr rfl) rfl).trans ((wp_same xd23_46 (Or.inr rfl) rfl).trans ((wp_same xd23_47 (Or.inr rfl) rfl).trans ((wm_geti xd23_48 rfl hp.1 rfl (Nat.le_of_ble_eq_true rfl)).trans (wx_icmp xd23_51 rfl rfl (x1 ≤ ((ml_s m p 3 xs0) p 4)) mb_le)))))
theorem x23_54 {p : Nat} {x1 : Int32} : wp Ln xs 23 54 [.ref p, .int x1] [.ref p] (u, ml_h m lm) Φ = wp Ln xs 23 62 [.ref p, .int x1] [.int x1, .ref p] (u, ml_h m lm) Φ := (wp_same xd23_54 (Or.inr rfl) rfl).trans (wx_goto xd23_55 rfl)
theorem x23_58 {p : Nat} {x1 : Int32} (hp : ml_sh p) : wp Ln xs 23 58 [.ref p, .int x1] [.ref p] (u, ml_h m lm) Φ = wp Ln xs 23 62 [.ref p, .int x1] [.int (m p 4), .ref p] (u, ml_h m lm) Φ := (wp_same xd23_58 (Or.inr rfl) rfl).trans (wm_geti xd23_59 rfl hp.1 rfl (Nat.le_of_ble_eq_true rfl))
theorem x23_62 {p : Nat} {x1 : Int32} {xs0 : Int32} (hp : ml_sh p) : wp Ln xs 23 62 [.ref p, .int x1] [.int xs0, .ref p] (u, ml_h m lm) Φ = if ¬ x1 = ((ml_s m p 4 xs0) p 7) then wp Ln xs 23 81 [.ref p, .int x1] [.ref p] (u, ml_h (ml_s m p 4 xs0) lm) Φ else wp Ln xs 23 74 [.ref p, .int x1] [.ref p] (u, ml_h (ml_s m p 4 xs0) lm) Φ := (wm_puti xd23_62 rfl hp.1 rfl (Nat.le_of_ble_eq_true rfl) rfl rfl rfl).trans ((wp_same xd23_65 (Or.inr rfl) rfl).trans ((wp_same xd23_66 (Or.inr rfl) rfl).trans ((wp_same xd23_67 (Or.inr rfl) rfl).trans ((wm_geti xd23_68 rfl hp.1 rfl (Nat.le_of_ble_eq_true rfl)).trans (wx_icmp xd23_71 rfl rfl (¬ x1 = ((ml_s m p 4 xs0) p 7)) mb_ne)))))
theorem x23_74 {p : Nat} {x1 : Int32} (hp : ml_sh p) : wp Ln xs 23 74 [.ref p, .int x1] [.ref p] (u, ml_h m lm) Φ = wp Ln xs 23 87 [.ref p, .int x1] [.int (m p 5), .ref p] (u, ml_h m lm) Φ := (wp_same xd23_74 (Or.inr rfl) rfl).trans ((wm_geti xd23_75 rfl hp.1 rfl (Nat.le_of_ble_eq_true rfl)).trans (wx_goto xd23_78 rfl))
theorem x23_81 {p : Nat} {x1 : Int32} (hp : ml_sh p) : wp Ln xs 23 81 [.ref p, .int x1] [.ref p] (u, ml_h m lm) Φ = wp Ln xs 23 87 [.ref p, .int x1] [.int ((m p 5) + (nI 1)), .ref p] (u, ml_h m lm) Φ := (wp_same xd23_81 (Or.inr rfl) rfl).trans ((wm_geti xd23_82 rfl hp.1 rfl (Nat.le_of_ble_eq_true rfl)).trans ((wp_same (S' := [.int (nI 1), .int (m p 5), .ref p]) xd23_85 (Or.inr rfl) rfl).trans (wp_same xd23_86 (Or.inr rfl) rfl)))
theorem x23_87 {p : Nat} {x1 : Int32} {xs0 : Int32} (hp : ml_sh p) : wp Ln xs 23 87 [.ref p, .int x1] [.int xs0, .ref p] (u, ml_h m lm) Φ = wp Ln xs 24 0 [.int ((ml_s m p 5 xs0) p 7), .int x1, mj_hole] [] (u, ml_h (ml_s m p 5 xs0) lm) (mk Ln xs 23 100 [.ref p, .int x1] [.int ((ml_s m p 5 xs0) p 6), .ref p] Φ) := (wm_puti xd23_87 rfl hp.1 rfl (Nat.le_of_ble_eq_true rfl) rfl rfl rfl).trans ((wp_same xd23_90 (Or.inr rfl) rfl).trans ((wp_same xd23_91 (Or.inr rfl) rfl).trans ((wm_geti xd23_92 rfl hp.1 rfl (Nat.le_of_ble_eq_true rfl)).trans ((wp_same xd23_95 (Or.inr rfl) rfl).trans ((wm_geti xd23_96 rfl hp.1 rfl (Nat.le_of_ble_eq_true rfl)).trans ((wp_same xd23_99 (Or.inr rfl) rfl).trans (wm_cs (As := [.int ((ml_s m p 5 xs0) p 7), .int x1]) (rest := [.int ((ml_s m p 5 xs0) p 6), .ref p]) xd23_100 rfl rfl (Nat.le_of_ble_eq_true rfl) (Nat.le_of_ble_eq_true rfl) (Nat.le_of_ble_eq_true rfl) (Nat.le_of_ble_eq_true rfl))))))))
theorem x23_103 {p : Nat} {x1 : Int32} {xs0 : Int32} {xs1 : Int32} (hp : ml_sh p) : wp Ln xs 23 103 [.ref p, .int x1] [.int xs0, .int xs1, .ref p] (u, ml_h m lm) Φ = wp Ln xs 23 109 [.ref p, .int x1] [] (u, ml_h (ml_s m p 6 (if xs1 < xs0 then xs0 else xs1)) lm) Φ := (wm_max xd23_103 rfl (Nat.le_of_ble_eq_true rfl) (Nat.le_of_ble_eq_true rfl) (Nat.le_of_ble_eq_true rfl)).trans (wm_puti xd23_106 rfl hp.1 rfl (Nat.le_of_ble_eq_true rfl) rfl rfl rfl)
theorem x23_109 {p : Nat} {x1 : Int32} (hp : ml_sh p) : wp Ln xs 23 109 [.ref p, .int x1] [] (u, ml_h m lm) Φ = wp Ln xs 25 0 [.ref p, .int x1, mj_hole, mj_hole] [] (u, ml_h (ml_s (ml_s m p 7 x1) p 2 (((ml_s m p 7 x1) p 2) + (nI 1))) lm) (mk Ln xs 23 126 [.ref p, .int x1] [] Φ) := (wp_same xd23_109 (Or.inr rfl) rfl).trans ((wp_same xd23_110 (Or.inr rfl) rfl).trans ((wm_puti xd23_111 rfl hp.1 rfl (Nat.le_of_ble_eq_true rfl) rfl rfl rfl).trans ((wp_same xd23_114 (Or.inr rfl) rfl).trans ((wp_same xd23_115 (Or.inr rfl) rfl).trans ((wm_geti xd23_116 rfl hp.1 rfl (Nat.le_of_ble_eq_true rfl)).trans ((wp_same (S' := [.int (nI 1), .int ((ml_s m p 7 x1) p 2), .ref p]) xd23_119 (Or.inr rfl) rfl).trans ((wp_same xd23_120 (Or.inr rfl) rfl).trans ((wm_puti xd23_121 rfl hp.1 rfl (Nat.le_of_ble_eq_true rfl) rfl rfl rfl).trans ((wp_same xd23_124 (Or.inr rfl) rfl).trans ((wp_same xd23_125 (Or.inr rfl) rfl).trans (wm_cv (As := [.int x1]) (rest := []) xd23_126 rfl rfl hp.1 (Nat.le_of_ble_eq_true rfl) (Nat.le_of_ble_eq_true rfl) (Nat.le_of_ble_eq_true rfl) (Nat.le_of_ble_eq_true rfl))))))))))))
theorem x23_129 {p : Nat} {x1 : Int32} : wp Ln xs 23 129 [.ref p, .int x1] [] (u, ml_h m lm) Φ = Φ (.inl none) (u, ml_h m lm) := wp_fin (v := none) xd23_129 (Or.inr rfl) rfl rfl
/- PickedForms$Rows.step -/
theorem xd24_0 : decode (mj_b 24) 0 = .ok (.iload_n 1, 1) := by decide +kernel
theorem xd24_1 : decode (mj_b 24) 1 = .ok (.iload_n 0, 1) := by decide +kernel
theorem xd24_2 : decode (mj_b 24) 2 = .ok (.isub, 1) := by decide +kernel
theorem xd24_3 : decode (mj_b 24) 3 = .ok (.istore_n 2, 1) := by decide +kernel
theorem xd24_4 : decode (mj_b 24) 4 = .ok (.iload_n 2, 1) := by decide +kernel
theorem xd24_5 : decode (mj_b 24) 5 = .ok (.ifCond .lt 9, 3) := by decide +kernel
theorem xd24_8 : decode (mj_b 24) 8 = .ok (.iconst 2, 1) := by decide +kernel
theorem xd24_9 : decode (mj_b 24) 9 = .ok (.iload_n 2, 1) := by decide +kernel
theorem xd24_10 : decode (mj_b 24) 10 = .ok (.imul, 1) := by decide +kernel
theorem xd24_11 : decode (mj_b 24) 11 = .ok (.goto 9, 3) := by decide +kernel
theorem xd24_14 : decode (mj_b 24) 14 = .ok (.bipush (-2), 2) := by decide +kernel
theorem xd24_16 : decode (mj_b 24) 16 = .ok (.iload_n 2, 1) := by decide +kernel
theorem xd24_17 : decode (mj_b 24) 17 = .ok (.imul, 1) := by decide +kernel
theorem xd24_18 : decode (mj_b 24) 18 = .ok (.iconst 1, 1) := by decide +kernel
theorem xd24_19 : decode (mj_b 24) 19 = .ok (.isub, 1) := by decide +kernel
theorem xd24_20 : decode (mj_b 24) 20 = .ok (.ireturn, 1) := by decide +kernel
theorem x24_0 {x0 : Int32} {x1 : Int32} : wp Ln xs 24 0 [.int x0, .int x1, mj_hole] [] (u, ml_h m lm) Φ = if (x1 - x0) < (nI 0) then wp Ln xs 24 14 [.int x0, .int x1, .int (x1 - x0)] [] (u, ml_h m lm) Φ else wp Ln xs 24 8 [.int x0, .int x1, .int (x1 - x0)] [] (u, ml_h m lm) Φ := (wp_same xd24_0 (Or.inr rfl) rfl).trans ((wp_same xd24_1 (Or.inr rfl) rfl).trans ((wp_same xd24_2 (Or.inr rfl) rfl).trans ((wp_same (L' := [.int x0, .int x1, .int (x1 - x0)]) xd24_3 (Or.inr rfl) rfl).trans ((wp_same xd24_4 (Or.inr rfl) rfl).trans (wx_if xd24_5 rfl rfl ((x1 - x0) < (nI 0)) mb_lt)))))
theorem x24_8 {x0 : Int32} {x1 : Int32} {x2 : Int32} : wp Ln xs 24 8 [.int x0, .int x1, .int x2] [] (u, ml_h m lm) Φ = Φ (.inl (some (.int ((nI 2) * x2)))) (u, ml_h m lm) := (wp_same (S' := [.int (nI 2)]) xd24_8 (Or.inr rfl) rfl).trans ((wp_same xd24_9 (Or.inr rfl) rfl).trans ((wp_same xd24_10 (Or.inr rfl) rfl).trans ((wx_goto xd24_11 rfl).trans (wp_fin (v := some (.int ((nI 2) * x2))) xd24_20 (Or.inr rfl) rfl (mj_fin_i rfl)))))
theorem x24_14 {x0 : Int32} {x1 : Int32} {x2 : Int32} : wp Ln xs 24 14 [.int x0, .int x1, .int x2] [] (u, ml_h m lm) Φ = Φ (.inl (some (.int ((((-2)) * x2) - (nI 1))))) (u, ml_h m lm) := (wp_same (S' := [.int ((-2))]) xd24_14 (Or.inr rfl) rfl).trans ((wp_same xd24_16 (Or.inr rfl) rfl).trans ((wp_same xd24_17 (Or.inr rfl) rfl).trans ((wp_same (S' := [.int (nI 1), .int (((-2)) * x2)]) xd24_18 (Or.inr rfl) rfl).trans ((wp_same xd24_19 (Or.inr rfl) rfl).trans (wp_fin (v := some (.int ((((-2)) * x2) - (nI 1)))) xd24_20 (Or.inr rfl) rfl (mj_fin_i rfl))))))
/- PickedForms$Shape.addUnlike -/
theorem xd25_0 : decode (mj_b 25) 0 = .ok (.iconst 0, 1) := by decide +kernel
theorem xd25_1 : decode (mj_b 25) 1 = .ok (.istore_n 2, 1) := by decide +kernel
theorem xd25_2 : decode (mj_b 25) 2 = .ok (.iconst 0, 1) := by decide +kernel
theorem xd25_3 : decode (mj_b 25) 3 = .ok (.istore_n 3, 1) := by decide +kernel
theorem xd25_4 : decode (mj_b 25) 4 = .ok (.iload_n 3, 1) := by decide +kernel
theorem xd25_5 : decode (mj_b 25) 5 = .ok (.aload_n 0, 1) := by decide +kernel
theorem xd25_6 : decode (mj_b 25) 6 = .ok (.getfield 15, 3) := by decide +kernel
theorem xd25_9 : decode (mj_b 25) 9 = .ok (.if_icmp .ge 42, 3) := by decide +kernel
theorem xd25_12 : decode (mj_b 25) 12 = .ok (.iload_n 3, 1) := by decide +kernel
theorem xd25_13 : decode (mj_b 25) 13 = .ok (.aload_n 0, 1) := by decide +kernel
theorem xd25_14 : decode (mj_b 25) 14 = .ok (.getfield 9, 3) := by decide +kernel
theorem xd25_17 : decode (mj_b 25) 17 = .ok (.arraylength, 1) := by decide +kernel
theorem xd25_18 : decode (mj_b 25) 18 = .ok (.if_icmp .ge 33, 3) := by decide +kernel
theorem xd25_21 : decode (mj_b 25) 21 = .ok (.aload_n 0, 1) := by decide +kernel
theorem xd25_22 : decode (mj_b 25) 22 = .ok (.getfield 9, 3) := by decide +kernel
theorem xd25_25 : decode (mj_b 25) 25 = .ok (.iload_n 3, 1) := by decide +kernel
theorem xd25_26 : decode (mj_b 25) 26 = .ok (.iaload, 1) := by decide +kernel
theorem xd25_27 : decode (mj_b 25) 27 = .ok (.iload_n 1, 1) := by decide +kernel
theorem xd25_28 : decode (mj_b 25) 28 = .ok (.if_icmp .ne 4, 3) := by decide +kernel
theorem xd25_31 : decode (mj_b 25) 31 = .ok (.return_, 1) := by decide +kernel
theorem xd25_32 : decode (mj_b 25) 32 = .ok (.aload_n 0, 1) := by decide +kernel
theorem xd25_33 : decode (mj_b 25) 33 = .ok (.getfield 9, 3) := by decide +kernel
theorem xd25_36 : decode (mj_b 25) 36 = .ok (.iload_n 3, 1) := by decide +kernel
theorem xd25_37 : decode (mj_b 25) 37 = .ok (.iaload, 1) := by decide +kernel
theorem xd25_38 : decode (mj_b 25) 38 = .ok (.iload_n 1, 1) := by decide +kernel
theorem xd25_39 : decode (mj_b 25) 39 = .ok (.if_icmp .ge 6, 3) := by decide +kernel
theorem xd25_42 : decode (mj_b 25) 42 = .ok (.iinc 2 1, 3) := by decide +kernel
theorem xd25_45 : decode (mj_b 25) 45 = .ok (.iinc 3 1, 3) := by decide +kernel
theorem xd25_48 : decode (mj_b 25) 48 = .ok (.goto (-44), 3) := by decide +kernel
theorem xd25_51 : decode (mj_b 25) 51 = .ok (.aload_n 0, 1) := by decide +kernel
theorem xd25_52 : decode (mj_b 25) 52 = .ok (.getfield 15, 3) := by decide +kernel
theorem xd25_55 : decode (mj_b 25) 55 = .ok (.aload_n 0, 1) := by decide +kernel
theorem xd25_56 : decode (mj_b 25) 56 = .ok (.getfield 9, 3) := by decide +kernel
theorem xd25_59 : decode (mj_b 25) 59 = .ok (.arraylength, 1) := by decide +kernel
theorem xd25_60 : decode (mj_b 25) 60 = .ok (.if_icmp .lt 4, 3) := by decide +kernel
theorem xd25_63 : decode (mj_b 25) 63 = .ok (.return_, 1) := by decide +kernel
theorem xd25_64 : decode (mj_b 25) 64 = .ok (.aload_n 0, 1) := by decide +kernel
theorem xd25_65 : decode (mj_b 25) 65 = .ok (.getfield 15, 3) := by decide +kernel
theorem xd25_68 : decode (mj_b 25) 68 = .ok (.istore_n 3, 1) := by decide +kernel
theorem xd25_69 : decode (mj_b 25) 69 = .ok (.iload_n 3, 1) := by decide +kernel
theorem xd25_70 : decode (mj_b 25) 70 = .ok (.iload_n 2, 1) := by decide +kernel
theorem xd25_71 : decode (mj_b 25) 71 = .ok (.if_icmp .le 23, 3) := by decide +kernel
theorem xd25_74 : decode (mj_b 25) 74 = .ok (.aload_n 0, 1) := by decide +kernel
theorem xd25_75 : decode (mj_b 25) 75 = .ok (.getfield 9, 3) := by decide +kernel
theorem xd25_78 : decode (mj_b 25) 78 = .ok (.iload_n 3, 1) := by decide +kernel
theorem xd25_79 : decode (mj_b 25) 79 = .ok (.aload_n 0, 1) := by decide +kernel
theorem xd25_80 : decode (mj_b 25) 80 = .ok (.getfield 9, 3) := by decide +kernel
theorem xd25_83 : decode (mj_b 25) 83 = .ok (.iload_n 3, 1) := by decide +kernel
theorem xd25_84 : decode (mj_b 25) 84 = .ok (.iconst 1, 1) := by decide +kernel
theorem xd25_85 : decode (mj_b 25) 85 = .ok (.isub, 1) := by decide +kernel
theorem xd25_86 : decode (mj_b 25) 86 = .ok (.iaload, 1) := by decide +kernel
theorem xd25_87 : decode (mj_b 25) 87 = .ok (.iastore, 1) := by decide +kernel
theorem xd25_88 : decode (mj_b 25) 88 = .ok (.iinc 3 (-1), 3) := by decide +kernel
theorem xd25_91 : decode (mj_b 25) 91 = .ok (.goto (-22), 3) := by decide +kernel
theorem xd25_94 : decode (mj_b 25) 94 = .ok (.aload_n 0, 1) := by decide +kernel
theorem xd25_95 : decode (mj_b 25) 95 = .ok (.getfield 9, 3) := by decide +kernel
theorem xd25_98 : decode (mj_b 25) 98 = .ok (.iload_n 2, 1) := by decide +kernel
theorem xd25_99 : decode (mj_b 25) 99 = .ok (.iload_n 1, 1) := by decide +kernel
theorem xd25_100 : decode (mj_b 25) 100 = .ok (.iastore, 1) := by decide +kernel
theorem xd25_101 : decode (mj_b 25) 101 = .ok (.aload_n 0, 1) := by decide +kernel
theorem xd25_102 : decode (mj_b 25) 102 = .ok (.dup, 1) := by decide +kernel
theorem xd25_103 : decode (mj_b 25) 103 = .ok (.getfield 15, 3) := by decide +kernel
theorem xd25_106 : decode (mj_b 25) 106 = .ok (.iconst 1, 1) := by decide +kernel
theorem xd25_107 : decode (mj_b 25) 107 = .ok (.iadd, 1) := by decide +kernel
theorem xd25_108 : decode (mj_b 25) 108 = .ok (.putfield 15, 3) := by decide +kernel
theorem xd25_111 : decode (mj_b 25) 111 = .ok (.return_, 1) := by decide +kernel
theorem x25_0 {p : Nat} {x1 : Int32} : wp Ln xs 25 0 [.ref p, .int x1, mj_hole, mj_hole] [] (u, ml_h m lm) Φ = wp Ln xs 25 4 [.ref p, .int x1, .int (nI 0), .int (nI 0)] [] (u, ml_h m lm) Φ := (wp_same (S' := [.int (nI 0)]) xd25_0 (Or.inr rfl) rfl).trans ((wp_same (L' := [.ref p, .int x1, .int (nI 0), mj_hole]) xd25_1 (Or.inr rfl) rfl).trans ((wp_same (S' := [.int (nI 0)]) xd25_2 (Or.inr rfl) rfl).trans (wp_same (L' := [.ref p, .int x1, .int (nI 0), .int (nI 0)]) xd25_3 (Or.inr rfl) rfl)))
theorem x25_4 {p : Nat} {x1 : Int32} {x2 : Int32} {x3 : Int32} (hp : ml_sh p) : wp Ln xs 25 4 [.ref p, .int x1, .int x2, .int x3] [] (u, ml_h m lm) Φ = if (m p 1) ≤ x3 then wp Ln xs 25 51 [.ref p, .int x1, .int x2, .int x3] [] (u, ml_h m lm) Φ else wp Ln xs 25 12 [.ref p, .int x1, .int x2, .int x3] [] (u, ml_h m lm) Φ := (wp_same xd25_4 (Or.inr rfl) rfl).trans ((wp_same xd25_5 (Or.inr rfl) rfl).trans ((wm_geti xd25_6 rfl hp.1 rfl (Nat.le_of_ble_eq_true rfl)).trans (wx_icmp xd25_9 rfl rfl ((m p 1) ≤ x3) mb_ge)))
theorem x25_12 {p : Nat} {x1 : Int32} {x2 : Int32} {x3 : Int32} (hp : ml_sh p) : wp Ln xs 25 12 [.ref p, .int x1, .int x2, .int x3] [] (u, ml_h m lm) Φ = if (nI 16) ≤ x3 then wp Ln xs 25 51 [.ref p, .int x1, .int x2, .int x3] [] (u, ml_h m lm) Φ else wp Ln xs 25 21 [.ref p, .int x1, .int x2, .int x3] [] (u, ml_h m lm) Φ := (wp_same xd25_12 (Or.inr rfl) rfl).trans ((wp_same xd25_13 (Or.inr rfl) rfl).trans ((wm_getr xd25_14 rfl hp.1 rfl (Nat.le_of_ble_eq_true rfl)).trans ((wm_alenk xd25_17 (ml_sh_ia hp) (Nat.succ_ne_zero _) (ml_sh_n hp)).trans (wx_icmp xd25_18 rfl rfl ((nI 16) ≤ x3) mb_ge))))
theorem x25_21 {p : Nat} {x1 : Int32} {x2 : Int32} {x3 : Int32} (hp : ml_sh p) : wp Ln xs 25 21 [.ref p, .int x1, .int x2, .int x3] [] (u, ml_h m lm) Φ = wp Ln xs 25 26 [.ref p, .int x1, .int x2, .int x3] [.int x3, .ref (p + 1)] (u, ml_h m lm) Φ := (wp_same xd25_21 (Or.inr rfl) rfl).trans ((wm_getr xd25_22 rfl hp.1 rfl (Nat.le_of_ble_eq_true rfl)).trans (wp_same xd25_25 (Or.inr rfl) rfl))
theorem x25_26 {p : Nat} {x1 : Int32} {x2 : Int32} {x3 : Int32} {k : Nat} (hp : ml_sh p) (hk : k < 16) : wp Ln xs 25 26 [.ref p, .int x1, .int x2, .int x3] [.int (nI k), .ref (p + 1)] (u, ml_h m lm) Φ = if ¬ (m (p + 1) k) = x1 then wp Ln xs 25 32 [.ref p, .int x1, .int x2, .int x3] [] (u, ml_h m lm) Φ else wp Ln xs 25 31 [.ref p, .int x1, .int x2, .int x3] [] (u, ml_h m lm) Φ := (wm_iald (k := k) xd25_26 (ml_sh_ia hp) (Nat.succ_ne_zero _) (show k < ml_n (p + 1) from (ml_sh_n hp).symm ▸ hk)).trans ((wp_same xd25_27 (Or.inr rfl) rfl).trans (wx_icmp xd25_28 rfl rfl (¬ (m (p + 1) k) = x1) mb_ne))
theorem x25_31 {p : Nat} {x1 : Int32} {x2 : Int32} {x3 : Int32} : wp Ln xs 25 31 [.ref p, .int x1, .int x2, .int x3] [] (u, ml_h m lm) Φ = Φ (.inl none) (u, ml_h m lm) := wp_fin (v := none) xd25_31 (Or.inr rfl) rfl rfl
theorem x25_32 {p : Nat} {x1 : Int32} {x2 : Int32} {x3 : Int32} (hp : ml_sh p) : wp Ln xs 25 32 [.ref p, .int x1, .int x2, .int x3] [] (u, ml_h m lm) Φ = wp Ln xs 25 37 [.ref p, .int x1, .int x2, .int x3] [.int x3, .ref (p + 1)] (u, ml_h m lm) Φ := (wp_same xd25_32 (Or.inr rfl) rfl).trans ((wm_getr xd25_33 rfl hp.1 rfl (Nat.le_of_ble_eq_true rfl)).trans (wp_same xd25_36 (Or.inr rfl) rfl))
theorem x25_37 {p : Nat} {x1 : Int32} {x2 : Int32} {x3 : Int32} {k : Nat} (hp : ml_sh p) (hk : k < 16) : wp Ln xs 25 37 [.ref p, .int x1, .int x2, .int x3] [.int (nI k), .ref (p + 1)] (u, ml_h m lm) Φ = if x1 ≤ (m (p + 1) k) then wp Ln xs 25 45 [.ref p, .int x1, .int x2, .int x3] [] (u, ml_h m lm) Φ else wp Ln xs 25 42 [.ref p, .int x1, .int x2, .int x3] [] (u, ml_h m lm) Φ := (wm_iald (k := k) xd25_37 (ml_sh_ia hp) (Nat.succ_ne_zero _) (show k < ml_n (p + 1) from (ml_sh_n hp).symm ▸ hk)).trans ((wp_same xd25_38 (Or.inr rfl) rfl).trans (wx_icmp xd25_39 rfl rfl (x1 ≤ (m (p + 1) k)) mb_ge))
theorem x25_42 {p : Nat} {x1 : Int32} {x2 : Int32} {x3 : Int32} : wp Ln xs 25 42 [.ref p, .int x1, .int x2, .int x3] [] (u, ml_h m lm) Φ = wp Ln xs 25 45 [.ref p, .int x1, .int (x2 + nI 1), .int x3] [] (u, ml_h m lm) Φ := wp_same (L' := [.ref p, .int x1, .int (x2 + nI 1), .int x3]) xd25_42 (Or.inr rfl) rfl
theorem x25_45 {p : Nat} {x1 : Int32} {x2 : Int32} {x3 : Int32} : wp Ln xs 25 45 [.ref p, .int x1, .int x2, .int x3] [] (u, ml_h m lm) Φ = wp Ln xs 25 4 [.ref p, .int x1, .int x2, .int (x3 + nI 1)] [] (u, ml_h m lm) Φ := (wp_same (L' := [.ref p, .int x1, .int x2, .int (x3 + nI 1)]) xd25_45 (Or.inr rfl) rfl).trans (wx_goto xd25_48 rfl)
theorem x25_51 {p : Nat} {x1 : Int32} {x2 : Int32} {x3 : Int32} (hp : ml_sh p) : wp Ln xs 25 51 [.ref p, .int x1, .int x2, .int x3] [] (u, ml_h m lm) Φ = if (m p 1) < (nI 16) then wp Ln xs 25 64 [.ref p, .int x1, .int x2, .int x3] [] (u, ml_h m lm) Φ else wp Ln xs 25 63 [.ref p, .int x1, .int x2, .int x3] [] (u, ml_h m lm) Φ := (wp_same xd25_51 (Or.inr rfl) rfl).trans ((wm_geti xd25_52 rfl hp.1 rfl (Nat.le_of_ble_eq_true rfl)).trans ((wp_same xd25_55 (Or.inr rfl) rfl).trans ((wm_getr xd25_56 rfl hp.1 rfl (Nat.le_of_ble_eq_true rfl)).trans ((wm_alenk xd25_59 (ml_sh_ia hp) (Nat.succ_ne_zero _) (ml_sh_n hp)).trans (wx_icmp xd25_60 rfl rfl ((m p 1) < (nI 16)) mb_lt)))))
theorem x25_63 {p : Nat} {x1 : Int32} {x2 : Int32} {x3 : Int32} : wp Ln xs 25 63 [.ref p, .int x1, .int x2, .int x3] [] (u, ml_h m lm) Φ = Φ (.inl none) (u, ml_h m lm) := wp_fin (v := none) xd25_63 (Or.inr rfl) rfl rfl
theorem x25_64 {p : Nat} {x1 : Int32} {x2 : Int32} {x3 : Int32} (hp : ml_sh p) : wp Ln xs 25 64 [.ref p, .int x1, .int x2, .int x3] [] (u, ml_h m lm) Φ = wp Ln xs 25 69 [.ref p, .int x1, .int x2, .int (m p 1)] [] (u, ml_h m lm) Φ := (wp_same xd25_64 (Or.inr rfl) rfl).trans ((wm_geti xd25_65 rfl hp.1 rfl (Nat.le_of_ble_eq_true rfl)).trans (wp_same (L' := [.ref p, .int x1, .int x2, .int (m p 1)]) xd25_68 (Or.inr rfl) rfl))
theorem x25_69 {p : Nat} {x1 : Int32} {x2 : Int32} {x3 : Int32} : wp Ln xs 25 69 [.ref p, .int x1, .int x2, .int x3] [] (u, ml_h m lm) Φ = if x3 ≤ x2 then wp Ln xs 25 94 [.ref p, .int x1, .int x2, .int x3] [] (u, ml_h m lm) Φ else wp Ln xs 25 74 [.ref p, .int x1, .int x2, .int x3] [] (u, ml_h m lm) Φ := (wp_same xd25_69 (Or.inr rfl) rfl).trans ((wp_same xd25_70 (Or.inr rfl) rfl).trans (wx_icmp xd25_71 rfl rfl (x3 ≤ x2) mb_le))
theorem x25_74 {p : Nat} {x1 : Int32} {x2 : Int32} {x3 : Int32} (hp : ml_sh p) : wp Ln xs 25 74 [.ref p, .int x1, .int x2, .int x3] [] (u, ml_h m lm) Φ = wp Ln xs 25 86 [.ref p, .int x1, .int x2, .int x3] [.int (x3 - (nI 1)), .ref (p + 1), .int x3, .ref (p + 1)] (u, ml_h m lm) Φ := (wp_same xd25_74 (Or.inr rfl) rfl).trans ((wm_getr xd25_75 rfl hp.1 rfl (Nat.le_of_ble_eq_true rfl)).trans ((wp_same xd25_78 (Or.inr rfl) rfl).trans ((wp_same xd25_79 (Or.inr rfl) rfl).trans ((wm_getr xd25_80 rfl hp.1 rfl (Nat.le_of_ble_eq_true rfl)).trans ((wp_same xd25_83 (Or.inr rfl) rfl).trans ((wp_same (S' := [.int (nI 1), .int x3, .ref (p + 1), .int x3, .ref (p + 1)]) xd25_84 (Or.inr rfl) rfl).trans (wp_same xd25_85 (Or.inr rfl) rfl)))))))
theorem x25_86 {p : Nat} {x1 : Int32} {x2 : Int32} {x3 : Int32} {k : Nat} {xs2 : Int32} (hp : ml_sh p) (hk : k < 16) : wp Ln xs 25 86 [.ref p, .int x1, .int x2, .int x3] [.int (nI k), .ref (p + 1), .int xs2, .ref (p + 1)] (u, ml_h m lm) Φ = wp Ln xs 25 87 [.ref p, .int x1, .int x2, .int x3] [.int (m (p + 1) k), .int xs2, .ref (p + 1)] (u, ml_h m lm) Φ := wm_iald (k := k) xd25_86 (ml_sh_ia hp) (Nat.succ_ne_zero _) (show k < ml_n (p + 1) from (ml_sh_n hp).symm ▸ hk)
theorem x25_87 {p : Nat} {x1 : Int32} {x2 : Int32} {x3 : Int32} {xs0 : Int32} {k : Nat} (hp : ml_sh p) (hk : k < 16) : wp Ln xs 25 87 [.ref p, .int x1, .int x2, .int x3] [.int xs0, .int (nI k), .ref (p + 1)] (u, ml_h m lm) Φ = wp Ln xs 25 69 [.ref p, .int x1, .int x2, .int (x3 + (-1))] [] (u, ml_h (ml_s m (p + 1) k xs0) lm) Φ := (wm_iast (k := k) xd25_87 (ml_sh_ia hp) (show k < ml_n (p + 1) from (ml_sh_n hp).symm ▸ hk)).trans ((wp_same (L' := [.ref p, .int x1, .int x2, .int (x3 + (-1))]) xd25_88 (Or.inr rfl) rfl).trans (wx_goto xd25_91 rfl))
theorem x25_94 {p : Nat} {x1 : Int32} {x2 : Int32} {x3 : Int32} (hp : ml_sh p) : wp Ln xs 25 94 [.ref p, .int x1, .int x2, .int x3] [] (u, ml_h m lm) Φ = wp Ln xs 25 100 [.ref p, .int x1, .int x2, .int x3] [.int x1, .int x2, .ref (p + 1)] (u, ml_h m lm) Φ := (wp_same xd25_94 (Or.inr rfl) rfl).trans ((wm_getr xd25_95 rfl hp.1 rfl (Nat.le_of_ble_eq_true rfl)).trans ((wp_same xd25_98 (Or.inr rfl) rfl).trans (wp_same xd25_99 (Or.inr rfl) rfl)))
theorem x25_100 {p : Nat} {x1 : Int32} {x2 : Int32} {x3 : Int32} {xs0 : Int32} {k : Nat} (hp : ml_sh p) (hk : k < 16) : wp Ln xs 25 100 [.ref p, .int x1, .int x2, .int x3] [.int xs0, .int (nI k), .ref (p + 1)] (u, ml_h m lm) Φ = Φ (.inl none) (u, ml_h (ml_s (ml_s m (p + 1) k xs0) p 1 (((ml_s m (p + 1) k xs0) p 1) + (nI 1))) lm) := (wm_iast (k := k) xd25_100 (ml_sh_ia hp) (show k < ml_n (p + 1) from (ml_sh_n hp).symm ▸ hk)).trans ((wp_same xd25_101 (Or.inr rfl) rfl).trans ((wp_same xd25_102 (Or.inr rfl) rfl).trans ((wm_geti xd25_103 rfl hp.1 rfl (Nat.le_of_ble_eq_true rfl)).trans ((wp_same (S' := [.int (nI 1), .int ((ml_s m (p + 1) k xs0) p 1), .ref p]) xd25_106 (Or.inr rfl) rfl).trans ((wp_same xd25_107 (Or.inr rfl) rfl).trans ((wm_puti xd25_108 rfl hp.1 rfl (Nat.le_of_ble_eq_true rfl) rfl rfl rfl).trans (wp_fin (v := none) xd25_111 (Or.inr rfl) rfl rfl)))))))
/- PickedForms$Shape.lightestForm -/
theorem xd26_0 : decode (mj_b 26) 0 = .ok (.iconst 0, 1) := by decide +kernel
theorem xd26_1 : decode (mj_b 26) 1 = .ok (.istore_n 2, 1) := by decide +kernel
theorem xd26_2 : decode (mj_b 26) 2 = .ok (.aload_n 0, 1) := by decide +kernel
theorem xd26_3 : decode (mj_b 26) 3 = .ok (.iconst 0, 1) := by decide +kernel
theorem xd26_4 : decode (mj_b 26) 4 = .ok (.invokevirtual 66, 3) := by decide +kernel
theorem xd26_7 : decode (mj_b 26) 7 = .ok (.istore_n 3, 1) := by decide +kernel
theorem xd26_8 : decode (mj_b 26) 8 = .ok (.iconst 1, 1) := by decide +kernel
theorem xd26_9 : decode (mj_b 26) 9 = .ok (.istore 4, 2) := by decide +kernel
theorem xd26_11 : decode (mj_b 26) 11 = .ok (.iload 4, 2) := by decide +kernel
theorem xd26_13 : decode (mj_b 26) 13 = .ok (.iconst 5, 1) := by decide +kernel
theorem xd26_14 : decode (mj_b 26) 14 = .ok (.if_icmp .ge 39, 3) := by decide +kernel
theorem xd26_17 : decode (mj_b 26) 17 = .ok (.iload_n 1, 1) := by decide +kernel
theorem xd26_18 : decode (mj_b 26) 18 = .ok (.iload 4, 2) := by decide +kernel
theorem xd26_20 : decode (mj_b 26) 20 = .ok (.ishr, 1) := by decide +kernel
theorem xd26_21 : decode (mj_b 26) 21 = .ok (.iconst 1, 1) := by decide +kernel
theorem xd26_22 : decode (mj_b 26) 22 = .ok (.iand, 1) := by decide +kernel
theorem xd26_23 : decode (mj_b 26) 23 = .ok (.iconst 1, 1) := by decide +kernel
theorem xd26_24 : decode (mj_b 26) 24 = .ok (.if_icmp .ne 23, 3) := by decide +kernel
theorem xd26_27 : decode (mj_b 26) 27 = .ok (.aload_n 0, 1) := by decide +kernel
theorem xd26_28 : decode (mj_b 26) 28 = .ok (.iload 4, 2) := by decide +kernel
theorem xd26_30 : decode (mj_b 26) 30 = .ok (.invokevirtual 66, 3) := by decide +kernel
theorem xd26_33 : decode (mj_b 26) 33 = .ok (.istore 5, 2) := by decide +kernel
theorem xd26_35 : decode (mj_b 26) 35 = .ok (.iload 5, 2) := by decide +kernel
theorem xd26_37 : decode (mj_b 26) 37 = .ok (.iload_n 3, 1) := by decide +kernel
theorem xd26_38 : decode (mj_b 26) 38 = .ok (.if_icmp .ge 9, 3) := by decide +kernel
theorem xd26_41 : decode (mj_b 26) 41 = .ok (.iload 4, 2) := by decide +kernel
theorem xd26_43 : decode (mj_b 26) 43 = .ok (.istore_n 2, 1) := by decide +kernel
theorem xd26_44 : decode (mj_b 26) 44 = .ok (.iload 5, 2) := by decide +kernel
theorem xd26_46 : decode (mj_b 26) 46 = .ok (.istore_n 3, 1) := by decide +kernel
theorem xd26_47 : decode (mj_b 26) 47 = .ok (.iinc 4 1, 3) := by decide +kernel
theorem xd26_50 : decode (mj_b 26) 50 = .ok (.goto (-39), 3) := by decide +kernel
theorem xd26_53 : decode (mj_b 26) 53 = .ok (.iload_n 2, 1) := by decide +kernel
theorem xd26_54 : decode (mj_b 26) 54 = .ok (.ireturn, 1) := by decide +kernel
theorem x26_0 {p : Nat} {x1 : Int32} (hp : ml_sh p) : wp Ln xs 26 0 [.ref p, .int x1, mj_hole, mj_hole, mj_hole, mj_hole] [] (u, ml_h m lm) Φ = wp Ln xs 27 0 [.ref p, .int (nI 0)] [] (u, ml_h m lm) (mk Ln xs 26 4 [.ref p, .int x1, .int (nI 0), mj_hole, mj_hole, mj_hole] [] Φ) := (wp_same (S' := [.int (nI 0)]) xd26_0 (Or.inr rfl) rfl).trans ((wp_same (L' := [.ref p, .int x1, .int (nI 0), mj_hole, mj_hole, mj_hole]) xd26_1 (Or.inr rfl) rfl).trans ((wp_same xd26_2 (Or.inr rfl) rfl).trans ((wp_same (S' := [.int (nI 0), .ref p]) xd26_3 (Or.inr rfl) rfl).trans (wm_cv (As := [.int (nI 0)]) (rest := []) xd26_4 rfl rfl hp.1 (Nat.le_of_ble_eq_true rfl) (Nat.le_of_ble_eq_true rfl) (Nat.le_of_ble_eq_true rfl) (Nat.le_of_ble_eq_true rfl)))))
theorem x26_7 {p : Nat} {x1 : Int32} {x2 : Int32} {xs0 : Int32} : wp Ln xs 26 7 [.ref p, .int x1, .int x2, mj_hole, mj_hole, mj_hole] [.int xs0] (u, ml_h m lm) Φ = wp Ln xs 26 11 [.ref p, .int x1, .int x2, .int xs0, .int (nI 1), mj_hole] [] (u, ml_h m lm) Φ := (wp_same (L' := [.ref p, .int x1, .int x2, .int xs0, mj_hole, mj_hole]) xd26_7 (Or.inr rfl) rfl).trans ((wp_same (S' := [.int (nI 1)]) xd26_8 (Or.inr rfl) rfl).trans (wp_same (L' := [.ref p, .int x1, .int x2, .int xs0, .int (nI 1), mj_hole]) xd26_9 (Or.inr rfl) rfl))
theorem x26_11 {p : Nat} {x1 : Int32} {x2 : Int32} {x3 : Int32} {x4 : Int32} {v5 : Value} : wp Ln xs 26 11 [.ref p, .int x1, .int x2, .int x3, .int x4, v5] [] (u, ml_h m lm) Φ = if (nI 5) ≤ x4 then wp Ln xs 26 53 [.ref p, .int x1, .int x2, .int x3, .int x4, v5] [] (u, ml_h m lm) Φ else wp Ln xs 26 17 [.ref p, .int x1, .int x2, .int x3, .int x4, v5] [] (u, ml_h m lm) Φ := (wp_same xd26_11 (Or.inr rfl) rfl).trans ((wp_same (S' := [.int (nI 5), .int x4]) xd26_13 (Or.inr rfl) rfl).trans (wx_icmp xd26_14 rfl rfl ((nI 5) ≤ x4) mb_ge))
theorem x26_17 {p : Nat} {x1 : Int32} {x2 : Int32} {x3 : Int32} {x4 : Int32} {v5 : Value} : wp Ln xs 26 17 [.ref p, .int x1, .int x2, .int x3, .int x4, v5] [] (u, ml_h m lm) Φ = if ¬ ((x1 >>> (x4 &&& 31)) &&& (nI 1)) = (nI 1) then wp Ln xs 26 47 [.ref p, .int x1, .int x2, .int x3, .int x4, v5] [] (u, ml_h m lm) Φ else wp Ln xs 26 27 [.ref p, .int x1, .int x2, .int x3, .int x4, v5] [] (u, ml_h m lm) Φ := (wp_same xd26_17 (Or.inr rfl) rfl).trans ((wp_same xd26_18 (Or.inr rfl) rfl).trans ((wp_same xd26_20 (Or.inr rfl) rfl).trans ((wp_same (S' := [.int (nI 1), .int (x1 >>> (x4 &&& 31))]) xd26_21 (Or.inr rfl) rfl).trans ((wp_same xd26_22 (Or.inr rfl) rfl).trans ((wp_same (S' := [.int (nI 1), .int ((x1 >>> (x4 &&& 31)) &&& (nI 1))]) xd26_23 (Or.inr rfl) rfl).trans (wx_icmp xd26_24 rfl rfl (¬ ((x1 >>> (x4 &&& 31)) &&& (nI 1)) = (nI 1)) mb_ne))))))
theorem x26_27 {p : Nat} {x1 : Int32} {x2 : Int32} {x3 : Int32} {x4 : Int32} {v5 : Value} (hp : ml_sh p) : wp Ln xs 26 27 [.ref p, .int x1, .int x2, .int x3, .int x4, v5] [] (u, ml_h m lm) Φ = wp Ln xs 27 0 [.ref p, .int x4] [] (u, ml_h m lm) (mk Ln xs 26 30 [.ref p, .int x1, .int x2, .int x3, .int x4, v5] [] Φ) := (wp_same xd26_27 (Or.inr rfl) rfl).trans ((wp_same xd26_28 (Or.inr rfl) rfl).trans (wm_cv (As := [.int x4]) (rest := []) xd26_30 rfl rfl hp.1 (Nat.le_of_ble_eq_true rfl) (Nat.le_of_ble_eq_true rfl) (Nat.le_of_ble_eq_true rfl) (Nat.le_of_ble_eq_true rfl)))
theorem x26_33 {p : Nat} {x1 : Int32} {x2 : Int32} {x3 : Int32} {x4 : Int32} {v5 : Value} {xs0 : Int32} : wp Ln xs 26 33 [.ref p, .int x1, .int x2, .int x3, .int x4, v5] [.int xs0] (u, ml_h m lm) Φ = if x3 ≤ xs0 then wp Ln xs 26 47 [.ref p, .int x1, .int x2, .int x3, .int x4, .int xs0] [] (u, ml_h m lm) Φ else wp Ln xs 26 41 [.ref p, .int x1, .int x2, .int x3, .int x4, .int xs0] [] (u, ml_h m lm) Φ := (wp_same (L' := [.ref p, .int x1, .int x2, .int x3, .int x4, .int xs0]) xd26_33 (Or.inr rfl) rfl).trans ((wp_same xd26_35 (Or.inr rfl) rfl).trans ((wp_same xd26_37 (Or.inr rfl) rfl).trans (wx_icmp xd26_38 rfl rfl (x3 ≤ xs0) mb_ge)))
theorem x26_41 {p : Nat} {x1 : Int32} {x2 : Int32} {x3 : Int32} {x4 : Int32} {x5 : Int32} : wp Ln xs 26 41 [.ref p, .int x1, .int x2, .int x3, .int x4, .int x5] [] (u, ml_h m lm) Φ = wp Ln xs 26 47 [.ref p, .int x1, .int x4, .int x5, .int x4, .int x5] [] (u, ml_h m lm) Φ := (wp_same xd26_41 (Or.inr rfl) rfl).trans ((wp_same (L' := [.ref p, .int x1, .int x4, .int x3, .int x4, .int x5]) xd26_43 (Or.inr rfl) rfl).trans ((wp_same xd26_44 (Or.inr rfl) rfl).trans (wp_same (L' := [.ref p, .int x1, .int x4, .int x5, .int x4, .int x5]) xd26_46 (Or.inr rfl) rfl)))
theorem x26_47 {p : Nat} {x1 : Int32} {x2 : Int32} {x3 : Int32} {x4 : Int32} {v5 : Value} : wp Ln xs 26 47 [.ref p, .int x1, .int x2, .int x3, .int x4, v5] [] (u, ml_h m lm) Φ = wp Ln xs 26 11 [.ref p, .int x1, .int x2, .int x3, .int (x4 + nI 1), v5] [] (u, ml_h m lm) Φ := (wp_same (L' := [.ref p, .int x1, .int x2, .int x3, .int (x4 + nI 1), v5]) xd26_47 (Or.inr rfl) rfl).trans (wx_goto xd26_50 rfl)
theorem x26_53 {p : Nat} {x1 : Int32} {x2 : Int32} {x3 : Int32} {x4 : Int32} {v5 : Value} : wp Ln xs 26 53 [.ref p, .int x1, .int x2, .int x3, .int x4, v5] [] (u, ml_h m lm) Φ = Φ (.inl (some (.int x2))) (u, ml_h m lm) := (wp_same xd26_53 (Or.inr rfl) rfl).trans (wp_fin (v := some (.int x2)) xd26_54 (Or.inr rfl) rfl (mj_fin_i rfl))
/- PickedForms$Shape.bitsIn -/
theorem xd27_0 : decode (mj_b 27) 0 = .ok (.iload_n 1, 1) := by decide +kernel
theorem xd27_1 : decode (mj_b 27) 1 = .ok (.tableswitch 103 1 4 #[31, 52, 60, 78], 31) := by decide +kernel
theorem xd27_32 : decode (mj_b 27) 32 = .ok (.bipush 14, 2) := by decide +kernel
theorem xd27_34 : decode (mj_b 27) 34 = .ok (.aload_n 0, 1) := by decide +kernel
theorem xd27_35 : decode (mj_b 27) 35 = .ok (.getfield 19, 3) := by decide +kernel
theorem xd27_38 : decode (mj_b 27) 38 = .ok (.aload_n 0, 1) := by decide +kernel
theorem xd27_39 : decode (mj_b 27) 39 = .ok (.getfield 25, 3) := by decide +kernel
theorem xd27_42 : decode (mj_b 27) 42 = .ok (.aload_n 0, 1) := by decide +kernel
theorem xd27_43 : decode (mj_b 27) 43 = .ok (.getfield 22, 3) := by decide +kernel
theorem xd27_46 : decode (mj_b 27) 46 = .ok (.isub, 1) := by decide +kernel
theorem xd27_47 : decode (mj_b 27) 47 = .ok (.invokestatic 62, 3) := by decide +kernel
theorem xd27_50 : decode (mj_b 27) 50 = .ok (.imul, 1) := by decide +kernel
theorem xd27_51 : decode (mj_b 27) 51 = .ok (.iadd, 1) := by decide +kernel
theorem xd27_52 : decode (mj_b 27) 52 = .ok (.ireturn, 1) := by decide +kernel
theorem xd27_53 : decode (mj_b 27) 53 = .ok (.aload_n 0, 1) := by decide +kernel
theorem xd27_54 : decode (mj_b 27) 54 = .ok (.getfield 28, 3) := by decide +kernel
theorem xd27_57 : decode (mj_b 27) 57 = .ok (.bipush 14, 2) := by decide +kernel
theorem xd27_59 : decode (mj_b 27) 59 = .ok (.imul, 1) := by decide +kernel
theorem xd27_60 : decode (mj_b 27) 60 = .ok (.ireturn, 1) := by decide +kernel
theorem xd27_61 : decode (mj_b 27) 61 = .ok (.bipush 14, 2) := by decide +kernel
theorem xd27_63 : decode (mj_b 27) 63 = .ok (.aload_n 0, 1) := by decide +kernel
theorem xd27_64 : decode (mj_b 27) 64 = .ok (.getfield 19, 3) := by decide +kernel
theorem xd27_67 : decode (mj_b 27) 67 = .ok (.iconst 1, 1) := by decide +kernel
theorem xd27_68 : decode (mj_b 27) 68 = .ok (.isub, 1) := by decide +kernel
theorem xd27_69 : decode (mj_b 27) 69 = .ok (.aload_n 0, 1) := by decide +kernel
theorem xd27_70 : decode (mj_b 27) 70 = .ok (.getfield 31, 3) := by decide +kernel
theorem xd27_73 : decode (mj_b 27) 73 = .ok (.invokestatic 62, 3) := by decide +kernel
theorem xd27_76 : decode (mj_b 27) 76 = .ok (.imul, 1) := by decide +kernel
theorem xd27_77 : decode (mj_b 27) 77 = .ok (.iadd, 1) := by decide +kernel
theorem xd27_78 : decode (mj_b 27) 78 = .ok (.ireturn, 1) := by decide +kernel
theorem xd27_79 : decode (mj_b 27) 79 = .ok (.iconst 4, 1) := by decide +kernel
theorem xd27_80 : decode (mj_b 27) 80 = .ok (.aload_n 0, 1) := by decide +kernel
theorem xd27_81 : decode (mj_b 27) 81 = .ok (.getfield 15, 3) := by decide +kernel
theorem xd27_84 : decode (mj_b 27) 84 = .ok (.bipush 10, 2) := by decide +kernel
theorem xd27_86 : decode (mj_b 27) 86 = .ok (.imul, 1) := by decide +kernel
theorem xd27_87 : decode (mj_b 27) 87 = .ok (.iadd, 1) := by decide +kernel
theorem xd27_88 : decode (mj_b 27) 88 = .ok (.aload_n 0, 1) := by decide +kernel
theorem xd27_89 : decode (mj_b 27) 89 = .ok (.getfield 19, 3) := by decide +kernel
theorem xd27_92 : decode (mj_b 27) 92 = .ok (.aload_n 0, 1) := by decide +kernel
theorem xd27_93 : decode (mj_b 27) 93 = .ok (.getfield 15, 3) := by decide +kernel
theorem xd27_96 : decode (mj_b 27) 96 = .ok (.iconst 1, 1) := by decide +kernel
theorem xd27_97 : decode (mj_b 27) 97 = .ok (.isub, 1) := by decide +kernel
theorem xd27_98 : decode (mj_b 27) 98 = .ok (.invokestatic 62, 3) := by decide +kernel
theorem xd27_101 : decode (mj_b 27) 101 = .ok (.imul, 1) := by decide +kernel
theorem xd27_102 : decode (mj_b 27) 102 = .ok (.iadd, 1) := by decide +kernel
theorem xd27_103 : decode (mj_b 27) 103 = .ok (.ireturn, 1) := by decide +kernel
theorem xd27_104 : decode (mj_b 27) 104 = .ok (.aload_n 0, 1) := by decide +kernel
theorem xd27_105 : decode (mj_b 27) 105 = .ok (.getfield 19, 3) := by decide +kernel
theorem xd27_108 : decode (mj_b 27) 108 = .ok (.bipush 10, 2) := by decide +kernel
theorem xd27_110 : decode (mj_b 27) 110 = .ok (.imul, 1) := by decide +kernel
theorem xd27_111 : decode (mj_b 27) 111 = .ok (.ireturn, 1) := by decide +kernel
theorem x27_0 {p : Nat} {x1 : Int32} : wp Ln xs 27 0 [.ref p, .int x1] [] (u, ml_h m lm) Φ = wp Ln xs 27 1 [.ref p, .int x1] [.int x1] (u, ml_h m lm) Φ := wp_same xd27_0 (Or.inr rfl) rfl
theorem x27_1_0 {p : Nat} {x1 : Int32} : wp Ln xs 27 1 [.ref p, .int x1] [.int (nI 0)] (u, ml_h m lm) Φ = wp Ln xs 27 104 [.ref p, .int x1] [] (u, ml_h m lm) Φ := wp_same xd27_1 (Or.inl rfl) rfl
theorem x27_1_1 {p : Nat} {x1 : Int32} : wp Ln xs 27 1 [.ref p, .int x1] [.int (nI 1)] (u, ml_h m lm) Φ = wp Ln xs 27 32 [.ref p, .int x1] [] (u, ml_h m lm) Φ := wp_same xd27_1 (Or.inl rfl) rfl
theorem x27_1_2 {p : Nat} {x1 : Int32} : wp Ln xs 27 1 [.ref p, .int x1] [.int (nI 2)] (u, ml_h m lm) Φ = wp Ln xs 27 53 [.ref p, .int x1] [] (u, ml_h m lm) Φ := wp_same xd27_1 (Or.inl rfl) rfl
theorem x27_1_3 {p : Nat} {x1 : Int32} : wp Ln xs 27 1 [.ref p, .int x1] [.int (nI 3)] (u, ml_h m lm) Φ = wp Ln xs 27 61 [.ref p, .int x1] [] (u, ml_h m lm) Φ := wp_same xd27_1 (Or.inl rfl) rfl
theorem x27_1_4 {p : Nat} {x1 : Int32} : wp Ln xs 27 1 [.ref p, .int x1] [.int (nI 4)] (u, ml_h m lm) Φ = wp Ln xs 27 79 [.ref p, .int x1] [] (u, ml_h m lm) Φ := wp_same xd27_1 (Or.inl rfl) rfl
theorem x27_1_5 {p : Nat} {x1 : Int32} : wp Ln xs 27 1 [.ref p, .int x1] [.int (nI 5)] (u, ml_h m lm) Φ = wp Ln xs 27 104 [.ref p, .int x1] [] (u, ml_h m lm) Φ := wp_same xd27_1 (Or.inl rfl) rfl
theorem x27_1_6 {p : Nat} {x1 : Int32} : wp Ln xs 27 1 [.ref p, .int x1] [.int (nI 6)] (u, ml_h m lm) Φ = wp Ln xs 27 104 [.ref p, .int x1] [] (u, ml_h m lm) Φ := wp_same xd27_1 (Or.inl rfl) rfl
theorem x27_1_7 {p : Nat} {x1 : Int32} : wp Ln xs 27 1 [.ref p, .int x1] [.int (nI 7)] (u, ml_h m lm) Φ = wp Ln xs 27 104 [.ref p, .int x1] [] (u, ml_h m lm) Φ := wp_same xd27_1 (Or.inl rfl) rfl
theorem x27_32 {p : Nat} {x1 : Int32} (hp : ml_sh p) : wp Ln xs 27 32 [.ref p, .int x1] [] (u, ml_h m lm) Φ = wp Ln xs 28 0 [.int ((m p 4) - (m p 3)), mj_hole, mj_hole] [] (u, ml_h m lm) (mk Ln xs 27 47 [.ref p, .int x1] [.int (m p 2), .int (nI 14)] Φ) := (wp_same (S' := [.int (nI 14)]) xd27_32 (Or.inr rfl) rfl).trans ((wp_same xd27_34 (Or.inr rfl) rfl).trans ((wm_geti xd27_35 rfl hp.1 rfl (Nat.le_of_ble_eq_true rfl)).trans ((wp_same xd27_38 (Or.inr rfl) rfl).trans ((wm_geti xd27_39 rfl hp.1 rfl (Nat.le_of_ble_eq_true rfl)).trans ((wp_same xd27_42 (Or.inr rfl) rfl).trans ((wm_geti xd27_43 rfl hp.1 rfl (Nat.le_of_ble_eq_true rfl)).trans ((wp_same xd27_46 (Or.inr rfl) rfl).trans (wm_cs (As := [.int ((m p 4) - (m p 3))]) (rest := [.int (m p 2), .int (nI 14)]) xd27_47 rfl rfl (Nat.le_of_ble_eq_true rfl) (Nat.le_of_ble_eq_true rfl) (Nat.le_of_ble_eq_true rfl) (Nat.le_of_ble_eq_true rfl)))))))))
theorem x27_50 {p : Nat} {x1 : Int32} {xs0 : Int32} {xs1 : Int32} {xs2 : Int32} : wp Ln xs 27 50 [.ref p, .int x1] [.int xs0, .int xs1, .int xs2] (u, ml_h m lm) Φ = Φ (.inl (some (.int (xs2 + (xs1 * xs0))))) (u, ml_h m lm) := (wp_same xd27_50 (Or.inr rfl) rfl).trans ((wp_same xd27_51 (Or.inr rfl) rfl).trans (wp_fin (v := some (.int (xs2 + (xs1 * xs0)))) xd27_52 (Or.inr rfl) rfl (mj_fin_i rfl)))
theorem x27_53 {p : Nat} {x1 : Int32} (hp : ml_sh p) : wp Ln xs 27 53 [.ref p, .int x1] [] (u, ml_h m lm) Φ = Φ (.inl (some (.int ((m p 5) * (nI 14))))) (u, ml_h m lm) := (wp_same xd27_53 (Or.inr rfl) rfl).trans ((wm_geti xd27_54 rfl hp.1 rfl (Nat.le_of_ble_eq_true rfl)).trans ((wp_same (S' := [.int (nI 14), .int (m p 5)]) xd27_57 (Or.inr rfl) rfl).trans ((wp_same xd27_59 (Or.inr rfl) rfl).trans (wp_fin (v := some (.int ((m p 5) * (nI 14)))) xd27_60 (Or.inr rfl) rfl (mj_fin_i rfl)))))
theorem x27_61 {p : Nat} {x1 : Int32} (hp : ml_sh p) : wp Ln xs 27 61 [.ref p, .int x1] [] (u, ml_h m lm) Φ = wp Ln xs 28 0 [.int (m p 6), mj_hole, mj_hole] [] (u, ml_h m lm) (mk Ln xs 27 73 [.ref p, .int x1] [.int ((m p 2) - (nI 1)), .int (nI 14)] Φ) := (wp_same (S' := [.int (nI 14)]) xd27_61 (Or.inr rfl) rfl).trans ((wp_same xd27_63 (Or.inr rfl) rfl).trans ((wm_geti xd27_64 rfl hp.1 rfl (Nat.le_of_ble_eq_true rfl)).trans ((wp_same (S' := [.int (nI 1), .int (m p 2), .int (nI 14)]) xd27_67 (Or.inr rfl) rfl).trans ((wp_same xd27_68 (Or.inr rfl) rfl).trans ((wp_same xd27_69 (Or.inr rfl) rfl).trans ((wm_geti xd27_70 rfl hp.1 rfl (Nat.le_of_ble_eq_true rfl)).trans (wm_cs (As := [.int (m p 6)]) (rest := [.int ((m p 2) - (nI 1)), .int (nI 14)]) xd27_73 rfl rfl (Nat.le_of_ble_eq_true rfl) (Nat.le_of_ble_eq_true rfl) (Nat.le_of_ble_eq_true rfl) (Nat.le_of_ble_eq_true rfl))))))))
theorem x27_76 {p : Nat} {x1 : Int32} {xs0 : Int32} {xs1 : Int32} {xs2 : Int32} : wp Ln xs 27 76 [.ref p, .int x1] [.int xs0, .int xs1, .int xs2] (u, ml_h m lm) Φ = Φ (.inl (some (.int (xs2 + (xs1 * xs0))))) (u, ml_h m lm) := (wp_same xd27_76 (Or.inr rfl) rfl).trans ((wp_same xd27_77 (Or.inr rfl) rfl).trans (wp_fin (v := some (.int (xs2 + (xs1 * xs0)))) xd27_78 (Or.inr rfl) rfl (mj_fin_i rfl)))
theorem x27_79 {p : Nat} {x1 : Int32} (hp : ml_sh p) : wp Ln xs 27 79 [.ref p, .int x1] [] (u, ml_h m lm) Φ = wp Ln xs 28 0 [.int ((m p 1) - (nI 1)), mj_hole, mj_hole] [] (u, ml_h m lm) (mk Ln xs 27 98 [.ref p, .int x1] [.int (m p 2), .int ((nI 4) + ((m p 1) * (nI 10)))] Φ) := (wp_same (S' := [.int (nI 4)]) xd27_79 (Or.inr rfl) rfl).trans ((wp_same xd27_80 (Or.inr rfl) rfl).trans ((wm_geti xd27_81 rfl hp.1 rfl (Nat.le_of_ble_eq_true rfl)).trans ((wp_same (S' := [.int (nI 10), .int (m p 1), .int (nI 4)]) xd27_84 (Or.inr rfl) rfl).trans ((wp_same xd27_86 (Or.inr rfl) rfl).trans ((wp_same xd27_87 (Or.inr rfl) rfl).trans ((wp_same xd27_88 (Or.inr rfl) rfl).trans ((wm_geti xd27_89 rfl hp.1 rfl (Nat.le_of_ble_eq_true rfl)).trans ((wp_same xd27_92 (Or.inr rfl) rfl).trans ((wm_geti xd27_93 rfl hp.1 rfl (Nat.le_of_ble_eq_true rfl)).trans ((wp_same (S' := [.int (nI 1), .int (m p 1), .int (m p 2), .int ((nI 4) + ((m p 1) * (nI 10)))]) xd27_96 (Or.inr rfl) rfl).trans ((wp_same xd27_97 (Or.inr rfl) rfl).trans (wm_cs (As := [.int ((m p 1) - (nI 1))]) (rest := [.int (m p 2), .int ((nI 4) + ((m p 1) * (nI 10)))]) xd27_98 rfl rfl (Nat.le_of_ble_eq_true rfl) (Nat.le_of_ble_eq_true rfl) (Nat.le_of_ble_eq_true rfl) (Nat.le_of_ble_eq_true rfl)))))))))))))
theorem x27_101 {p : Nat} {x1 : Int32} {xs0 : Int32} {xs1 : Int32} {xs2 : Int32} : wp Ln xs 27 101 [.ref p, .int x1] [.int xs0, .int xs1, .int xs2] (u, ml_h m lm) Φ = Φ (.inl (some (.int (xs2 + (xs1 * xs0))))) (u, ml_h m lm) := (wp_same xd27_101 (Or.inr rfl) rfl).trans ((wp_same xd27_102 (Or.inr rfl) rfl).trans (wp_fin (v := some (.int (xs2 + (xs1 * xs0)))) xd27_103 (Or.inr rfl) rfl (mj_fin_i rfl)))
theorem x27_104 {p : Nat} {x1 : Int32} (hp : ml_sh p) : wp Ln xs 27 104 [.ref p, .int x1] [] (u, ml_h m lm) Φ = Φ (.inl (some (.int ((m p 2) * (nI 10))))) (u, ml_h m lm) := (wp_same xd27_104 (Or.inr rfl) rfl).trans ((wm_geti xd27_105 rfl hp.1 rfl (Nat.le_of_ble_eq_true rfl)).trans ((wp_same (S' := [.int (nI 10), .int (m p 2)]) xd27_108 (Or.inr rfl) rfl).trans ((wp_same xd27_110 (Or.inr rfl) rfl).trans (wp_fin (v := some (.int ((m p 2) * (nI 10)))) xd27_111 (Or.inr rfl) rfl (mj_fin_i rfl)))))
/- PickedForms$Rows.width -/
theorem xd28_0 : decode (mj_b 28) 0 = .ok (.iconst 0, 1) := by decide +kernel
theorem xd28_1 : decode (mj_b 28) 1 = .ok (.istore_n 1, 1) := by decide +kernel
theorem xd28_2 : decode (mj_b 28) 2 = .ok (.iconst 0, 1) := by decide +kernel
theorem xd28_3 : decode (mj_b 28) 3 = .ok (.istore_n 2, 1) := by decide +kernel
theorem xd28_4 : decode (mj_b 28) 4 = .ok (.iload_n 2, 1) := by decide +kernel
theorem xd28_5 : decode (mj_b 28) 5 = .ok (.bipush 31, 2) := by decide +kernel
theorem xd28_7 : decode (mj_b 28) 7 = .ok (.if_icmp .ge 18, 3) := by decide +kernel
theorem xd28_10 : decode (mj_b 28) 10 = .ok (.iload_n 0, 1) := by decide +kernel
theorem xd28_11 : decode (mj_b 28) 11 = .ok (.iload_n 2, 1) := by decide +kernel
theorem xd28_12 : decode (mj_b 28) 12 = .ok (.ishr, 1) := by decide +kernel
theorem xd28_13 : decode (mj_b 28) 13 = .ok (.ifCond .le 12, 3) := by decide +kernel
theorem xd28_16 : decode (mj_b 28) 16 = .ok (.iinc 1 1, 3) := by decide +kernel
theorem xd28_19 : decode (mj_b 28) 19 = .ok (.iinc 2 1, 3) := by decide +kernel
theorem xd28_22 : decode (mj_b 28) 22 = .ok (.goto (-18), 3) := by decide +kernel
theorem xd28_25 : decode (mj_b 28) 25 = .ok (.iload_n 1, 1) := by decide +kernel
theorem xd28_26 : decode (mj_b 28) 26 = .ok (.ireturn, 1) := by decide +kernel
theorem x28_0 {x0 : Int32} : wp Ln xs 28 0 [.int x0, mj_hole, mj_hole] [] (u, ml_h m lm) Φ = wp Ln xs 28 4 [.int x0, .int (nI 0), .int (nI 0)] [] (u, ml_h m lm) Φ := (wp_same (S' := [.int (nI 0)]) xd28_0 (Or.inr rfl) rfl).trans ((wp_same (L' := [.int x0, .int (nI 0), mj_hole]) xd28_1 (Or.inr rfl) rfl).trans ((wp_same (S' := [.int (nI 0)]) xd28_2 (Or.inr rfl) rfl).trans (wp_same (L' := [.int x0, .int (nI 0), .int (nI 0)]) xd28_3 (Or.inr rfl) rfl)))
theorem x28_4 {x0 : Int32} {x1 : Int32} {x2 : Int32} : wp Ln xs 28 4 [.int x0, .int x1, .int x2] [] (u, ml_h m lm) Φ = if (nI 31) ≤ x2 then wp Ln xs 28 25 [.int x0, .int x1, .int x2] [] (u, ml_h m lm) Φ else wp Ln xs 28 10 [.int x0, .int x1, .int x2] [] (u, ml_h m lm) Φ := (wp_same xd28_4 (Or.inr rfl) rfl).trans ((wp_same (S' := [.int (nI 31), .int x2]) xd28_5 (Or.inr rfl) rfl).trans (wx_icmp xd28_7 rfl rfl ((nI 31) ≤ x2) mb_ge))
theorem x28_10 {x0 : Int32} {x1 : Int32} {x2 : Int32} : wp Ln xs 28 10 [.int x0, .int x1, .int x2] [] (u, ml_h m lm) Φ = if (x0 >>> (x2 &&& 31)) ≤ (nI 0) then wp Ln xs 28 25 [.int x0, .int x1, .int x2] [] (u, ml_h m lm) Φ else wp Ln xs 28 16 [.int x0, .int x1, .int x2] [] (u, ml_h m lm) Φ := (wp_same xd28_10 (Or.inr rfl) rfl).trans ((wp_same xd28_11 (Or.inr rfl) rfl).trans ((wp_same xd28_12 (Or.inr rfl) rfl).trans (wx_if xd28_13 rfl rfl ((x0 >>> (x2 &&& 31)) ≤ (nI 0)) mb_le)))
theorem x28_16 {x0 : Int32} {x1 : Int32} {x2 : Int32} : wp Ln xs 28 16 [.int x0, .int x1, .int x2] [] (u, ml_h m lm) Φ = wp Ln xs 28 4 [.int x0, .int (x1 + nI 1), .int (x2 + nI 1)] [] (u, ml_h m lm) Φ := (wp_same (L' := [.int x0, .int (x1 + nI 1), .int x2]) xd28_16 (Or.inr rfl) rfl).trans ((wp_same (L' := [.int x0, .int (x1 + nI 1), .int (x2 + nI 1)]) xd28_19 (Or.inr rfl) rfl).trans (wx_goto xd28_22 rfl))
theorem x28_25 {x0 : Int32} {x1 : Int32} {x2 : Int32} : wp Ln xs 28 25 [.int x0, .int x1, .int x2] [] (u, ml_h m lm) Φ = Φ (.inl (some (.int x1))) (u, ml_h m lm) := (wp_same xd28_25 (Or.inr rfl) rfl).trans (wp_fin (v := some (.int x1)) xd28_26 (Or.inr rfl) rfl (mj_fin_i rfl))
/- PickedForms$Rows.put -/
theorem xd29_0 : decode (mj_b 29) 0 = .ok (.iload_n 1, 1) := by decide +kernel
theorem xd29_1 : decode (mj_b 29) 1 = .ok (.ifCond .lt 13, 3) := by decide +kernel
theorem xd29_4 : decode (mj_b 29) 4 = .ok (.iload_n 1, 1) := by decide +kernel
theorem xd29_5 : decode (mj_b 29) 5 = .ok (.aload_n 0, 1) := by decide +kernel
theorem xd29_6 : decode (mj_b 29) 6 = .ok (.arraylength, 1) := by decide +kernel
theorem xd29_7 : decode (mj_b 29) 7 = .ok (.if_icmp .ge 7, 3) := by decide +kernel
theorem xd29_10 : decode (mj_b 29) 10 = .ok (.aload_n 0, 1) := by decide +kernel
theorem xd29_11 : decode (mj_b 29) 11 = .ok (.iload_n 1, 1) := by decide +kernel
theorem xd29_12 : decode (mj_b 29) 12 = .ok (.iload_n 2, 1) := by decide +kernel
theorem xd29_13 : decode (mj_b 29) 13 = .ok (.iastore, 1) := by decide +kernel
theorem xd29_14 : decode (mj_b 29) 14 = .ok (.return_, 1) := by decide +kernel
theorem x29_0 {r : Nat} {x1 : Int32} {x2 : Int32} : wp Ln xs 29 0 [.ref r, .int x1, .int x2] [] (u, ml_h m lm) Φ = if x1 < (nI 0) then wp Ln xs 29 14 [.ref r, .int x1, .int x2] [] (u, ml_h m lm) Φ else wp Ln xs 29 4 [.ref r, .int x1, .int x2] [] (u, ml_h m lm) Φ := (wp_same xd29_0 (Or.inr rfl) rfl).trans (wx_if xd29_1 rfl rfl (x1 < (nI 0)) mb_lt)
theorem x29_4 {r : Nat} {x1 : Int32} {x2 : Int32} (hr : ml_ia r) (hr0 : r ≠ 0) : wp Ln xs 29 4 [.ref r, .int x1, .int x2] [] (u, ml_h m lm) Φ = if (nI (ml_n r)) ≤ x1 then wp Ln xs 29 14 [.ref r, .int x1, .int x2] [] (u, ml_h m lm) Φ else wp Ln xs 29 10 [.ref r, .int x1, .int x2] [] (u, ml_h m lm) Φ := (wp_same xd29_4 (Or.inr rfl) rfl).trans ((wp_same xd29_5 (Or.inr rfl) rfl).trans ((wm_alen xd29_6 hr hr0).trans (wx_icmp xd29_7 rfl rfl ((nI (ml_n r)) ≤ x1) mb_ge)))
theorem x29_10 {r : Nat} {x1 : Int32} {x2 : Int32} : wp Ln xs 29 10 [.ref r, .int x1, .int x2] [] (u, ml_h m lm) Φ = wp Ln xs 29 13 [.ref r, .int x1, .int x2] [.int x2, .int x1, .ref r] (u, ml_h m lm) Φ := (wp_same xd29_10 (Or.inr rfl) rfl).trans ((wp_same xd29_11 (Or.inr rfl) rfl).trans (wp_same xd29_12 (Or.inr rfl) rfl))
theorem x29_13 {r : Nat} {x1 : Int32} {x2 : Int32} {xs0 : Int32} {k : Nat} (hr : ml_ia r) (hr0 : r ≠ 0) (hk : k < ml_n r) : wp Ln xs 29 13 [.ref r, .int x1, .int x2] [.int xs0, .int (nI k), .ref r] (u, ml_h m lm) Φ = Φ (.inl none) (u, ml_h (ml_s m r k xs0) lm) := (wm_iast (k := k) xd29_13 hr hk).trans (wp_fin (v := none) xd29_14 (Or.inr rfl) rfl rfl)
theorem x29_14 {r : Nat} {x1 : Int32} {x2 : Int32} : wp Ln xs 29 14 [.ref r, .int x1, .int x2] [] (u, ml_h m lm) Φ = Φ (.inl none) (u, ml_h m lm) := wp_fin (v := none) xd29_14 (Or.inr rfl) rfl rfl
/- PickedForms.set -/
theorem xd30_0 : decode (mj_b 30) 0 = .ok (.iload_n 1, 1) := by decide +kernel
theorem xd30_1 : decode (mj_b 30) 1 = .ok (.invokestatic 189, 3) := by decide +kernel
theorem xd30_4 : decode (mj_b 30) 4 = .ok (.ifCond .ne 13, 3) := by decide +kernel
theorem xd30_7 : decode (mj_b 30) 7 = .ok (.new 130, 3) := by decide +kernel
theorem xd30_17 : decode (mj_b 30) 17 = .ok (.iload_n 1, 1) := by decide +kernel
theorem xd30_18 : decode (mj_b 30) 18 = .ok (.iload_n 2, 1) := by decide +kernel
theorem xd30_19 : decode (mj_b 30) 19 = .ok (.invokestatic 194, 3) := by decide +kernel
theorem xd30_22 : decode (mj_b 30) 22 = .ok (.ifCond .ne 13, 3) := by decide +kernel
theorem xd30_25 : decode (mj_b 30) 25 = .ok (.new 80, 3) := by decide +kernel
theorem xd30_35 : decode (mj_b 30) 35 = .ok (.aload_n 0, 1) := by decide +kernel
theorem xd30_36 : decode (mj_b 30) 36 = .ok (.getfield 26, 3) := by decide +kernel
theorem xd30_39 : decode (mj_b 30) 39 = .ok (.aload_n 0, 1) := by decide +kernel
theorem xd30_40 : decode (mj_b 30) 40 = .ok (.getfield 12, 3) := by decide +kernel
theorem xd30_43 : decode (mj_b 30) 43 = .ok (.invokevirtual 96, 3) := by decide +kernel
theorem xd30_46 : decode (mj_b 30) 46 = .ok (.aload_n 0, 1) := by decide +kernel
theorem xd30_47 : decode (mj_b 30) 47 = .ok (.getfield 12, 3) := by decide +kernel
theorem xd30_50 : decode (mj_b 30) 50 = .ok (.iload_n 1, 1) := by decide +kernel
theorem xd30_51 : decode (mj_b 30) 51 = .ok (.invokevirtual 200, 3) := by decide +kernel
theorem xd30_54 : decode (mj_b 30) 54 = .ok (.istore_n 3, 1) := by decide +kernel
theorem xd30_55 : decode (mj_b 30) 55 = .ok (.aload_n 0, 1) := by decide +kernel
theorem xd30_56 : decode (mj_b 30) 56 = .ok (.getfield 12, 3) := by decide +kernel
theorem xd30_59 : decode (mj_b 30) 59 = .ok (.getfield 203, 3) := by decide +kernel
theorem xd30_62 : decode (mj_b 30) 62 = .ok (.iload_n 1, 1) := by decide +kernel
theorem xd30_63 : decode (mj_b 30) 63 = .ok (.iload_n 2, 1) := by decide +kernel
theorem xd30_64 : decode (mj_b 30) 64 = .ok (.invokestatic 142, 3) := by decide +kernel
theorem xd30_67 : decode (mj_b 30) 67 = .ok (.iload_n 3, 1) := by decide +kernel
theorem xd30_68 : decode (mj_b 30) 68 = .ok (.ireturn, 1) := by decide +kernel
theorem x30_0 {x1 : Int32} {x2 : Int32} : wp Ln xs 30 0 [.ref 1, .int x1, .int x2, mj_hole] [] (u, ml_h m lm) Φ = wp Ln xs 31 0 [.int x1] [] (u, ml_h m lm) (mk Ln xs 30 1 [.ref 1, .int x1, .int x2, mj_hole] [] Φ) := (wp_same xd30_0 (Or.inr rfl) rfl).trans (wm_cs (As := [.int x1]) (rest := []) xd30_1 rfl rfl (Nat.le_of_ble_eq_true rfl) (Nat.le_of_ble_eq_true rfl) (Nat.le_of_ble_eq_true rfl) (Nat.le_of_ble_eq_true rfl))
theorem x30_4 {x1 : Int32} {x2 : Int32} {xs0 : Int32} : wp Ln xs 30 4 [.ref 1, .int x1, .int x2, mj_hole] [.int xs0] (u, ml_h m lm) Φ = if ¬ xs0 = (nI 0) then wp Ln xs 30 17 [.ref 1, .int x1, .int x2, mj_hole] [] (u, ml_h m lm) Φ else wp Ln xs 30 7 [.ref 1, .int x1, .int x2, mj_hole] [] (u, ml_h m lm) Φ := wx_if xd30_4 rfl rfl (¬ xs0 = (nI 0)) mb_ne
theorem x30_7 {x1 : Int32} {x2 : Int32} : wp Ln xs 30 7 [.ref 1, .int x1, .int x2, mj_hole] [] (u, ml_h m lm) Φ = Φ (.inr 2) ((u.1, u.2.1 + 1, u.2.2 + 6), ml_h m lm) := wp_thr xd30_7 (Or.inr rfl) rfl rfl (E := 2) (by decide +kernel)
theorem x30_17 {x1 : Int32} {x2 : Int32} : wp Ln xs 30 17 [.ref 1, .int x1, .int x2, mj_hole] [] (u, ml_h m lm) Φ = wp Ln xs 32 0 [.int x1, .int x2] [] (u, ml_h m lm) (mk Ln xs 30 19 [.ref 1, .int x1, .int x2, mj_hole] [] Φ) := (wp_same xd30_17 (Or.inr rfl) rfl).trans ((wp_same xd30_18 (Or.inr rfl) rfl).trans (wm_cs (As := [.int x1, .int x2]) (rest := []) xd30_19 rfl rfl (Nat.le_of_ble_eq_true rfl) (Nat.le_of_ble_eq_true rfl) (Nat.le_of_ble_eq_true rfl) (Nat.le_of_ble_eq_true rfl)))
theorem x30_22 {x1 : Int32} {x2 : Int32} {xs0 : Int32} : wp Ln xs 30 22 [.ref 1, .int x1, .int x2, mj_hole] [.int xs0] (u, ml_h m lm) Φ = if ¬ xs0 = (nI 0) then wp Ln xs 30 35 [.ref 1, .int x1, .int x2, mj_hole] [] (u, ml_h m lm) Φ else wp Ln xs 30 25 [.ref 1, .int x1, .int x2, mj_hole] [] (u, ml_h m lm) Φ := wx_if xd30_22 rfl rfl (¬ xs0 = (nI 0)) mb_ne
theorem x30_25 {x1 : Int32} {x2 : Int32} : wp Ln xs 30 25 [.ref 1, .int x1, .int x2, mj_hole] [] (u, ml_h m lm) Φ = Φ (.inr 0) ((u.1, u.2.1 + 1, u.2.2 + 6), ml_h m lm) := wp_thr xd30_25 (Or.inr rfl) rfl rfl (E := 0) (by decide +kernel)
theorem x30_35 {x1 : Int32} {x2 : Int32} : wp Ln xs 30 35 [.ref 1, .int x1, .int x2, mj_hole] [] (u, ml_h m lm) Φ = wp Ln xs 12 0 [.ref 14, .ref 2, mj_hole] [] (u, ml_h m lm) (mk Ln xs 30 43 [.ref 1, .int x1, .int x2, mj_hole] [] Φ) := (wp_same xd30_35 (Or.inr rfl) rfl).trans ((wm_getr xd30_36 rfl (show ml_L[1]? = _ from rfl) rfl (Nat.le_of_ble_eq_true rfl)).trans ((wp_same xd30_39 (Or.inr rfl) rfl).trans ((wm_getr xd30_40 rfl (show ml_L[1]? = _ from rfl) rfl (Nat.le_of_ble_eq_true rfl)).trans (wm_cv (As := [.ref 2]) (rest := []) xd30_43 rfl rfl (show ml_L[14]? = _ from rfl) (Nat.le_of_ble_eq_true rfl) (Nat.le_of_ble_eq_true rfl) (Nat.le_of_ble_eq_true rfl) (Nat.le_of_ble_eq_true rfl)))))
theorem x30_46 {x1 : Int32} {x2 : Int32} : wp Ln xs 30 46 [.ref 1, .int x1, .int x2, mj_hole] [] (u, ml_h m lm) Φ = wp Ln xs 33 0 [.ref 2, .int x1] [] (u, ml_h m lm) (mk Ln xs 30 51 [.ref 1, .int x1, .int x2, mj_hole] [] Φ) := (wp_same xd30_46 (Or.inr rfl) rfl).trans ((wm_getr xd30_47 rfl (show ml_L[1]? = _ from rfl) rfl (Nat.le_of_ble_eq_true rfl)).trans ((wp_same xd30_50 (Or.inr rfl) rfl).trans (wm_cv (As := [.int x1]) (rest := []) xd30_51 rfl rfl (show ml_L[2]? = _ from rfl) (Nat.le_of_ble_eq_true rfl) (Nat.le_of_ble_eq_true rfl) (Nat.le_of_ble_eq_true rfl) (Nat.le_of_ble_eq_true rfl))))
theorem x30_54 {x1 : Int32} {x2 : Int32} {xs0 : Int32} : wp Ln xs 30 54 [.ref 1, .int x1, .int x2, mj_hole] [.int xs0] (u, ml_h m lm) Φ = wp Ln xs 29 0 [.ref 7, .int x1, .int x2] [] (u, ml_h m lm) (mk Ln xs 30 64 [.ref 1, .int x1, .int x2, .int xs0] [] Φ) := (wp_same (L' := [.ref 1, .int x1, .int x2, .int xs0]) xd30_54 (Or.inr rfl) rfl).trans ((wp_same xd30_55 (Or.inr rfl) rfl).trans ((wm_getr xd30_56 rfl (show ml_L[1]? = _ from rfl) rfl (Nat.le_of_ble_eq_true rfl)).trans ((wm_getr xd30_59 rfl (show ml_L[2]? = _ from rfl) rfl (Nat.le_of_ble_eq_true rfl)).trans ((wp_same xd30_62 (Or.inr rfl) rfl).trans ((wp_same xd30_63 (Or.inr rfl) rfl).trans (wm_cs (As := [.ref 7, .int x1, .int x2]) (rest := []) xd30_64 rfl rfl (Nat.le_of_ble_eq_true rfl) (Nat.le_of_ble_eq_true rfl) (Nat.le_of_ble_eq_true rfl) (Nat.le_of_ble_eq_true rfl)))))))
theorem x30_67 {x1 : Int32} {x2 : Int32} {x3 : Int32} : wp Ln xs 30 67 [.ref 1, .int x1, .int x2, .int x3] [] (u, ml_h m lm) Φ = Φ (.inl (some (.int x3))) (u, ml_h m lm) := (wp_same xd30_67 (Or.inr rfl) rfl).trans (wp_fin (v := some (.int x3)) xd30_68 (Or.inr rfl) rfl (mj_fin_i rfl))
end MXa
