/-! ===== an equation for each straight piece of a method ===== -/
section MXm
variable {Ln : Nat} {xs : Nat → Int32} {u : mj_U} {m : ml_M} {lm : ml_J} {Φ : mj_R → mj_W → Prop}
/- PickedFormsModel.mixMatch -/
theorem xd236_0 : decode (mj_b 236) 0 = .ok (.iconst 0, 1) := by decide +kernel
theorem xd236_1 : decode (mj_b 236) 1 = .ok (.istore_n 3, 1) := by decide +kernel
theorem xd236_2 : decode (mj_b 236) 2 = .ok (.iload_n 3, 1) := by decide +kernel
theorem xd236_3 : decode (mj_b 236) 3 = .ok (.iconst 4, 1) := by decide +kernel
theorem xd236_4 : decode (mj_b 236) 4 = .ok (.if_icmp .ge 21, 3) := by decide +kernel
theorem xd236_7 : decode (mj_b 236) 7 = .ok (.aload_n 0, 1) := by decide +kernel
theorem xd236_8 : decode (mj_b 236) 8 = .ok (.aload_n 0, 1) := by decide +kernel
theorem xd236_9 : decode (mj_b 236) 9 = .ok (.iload_n 1, 1) := by decide +kernel
theorem xd236_10 : decode (mj_b 236) 10 = .ok (.iload_n 2, 1) := by decide +kernel
theorem xd236_11 : decode (mj_b 236) 11 = .ok (.iload_n 3, 1) := by decide +kernel
theorem xd236_12 : decode (mj_b 236) 12 = .ok (.invokevirtual 225, 3) := by decide +kernel
theorem xd236_15 : decode (mj_b 236) 15 = .ok (.i2l, 1) := by decide +kernel
theorem xd236_16 : decode (mj_b 236) 16 = .ok (.invokevirtual 261, 3) := by decide +kernel
theorem xd236_19 : decode (mj_b 236) 19 = .ok (.iinc 3 1, 3) := by decide +kernel
theorem xd236_22 : decode (mj_b 236) 22 = .ok (.goto (-20), 3) := by decide +kernel
theorem xd236_25 : decode (mj_b 236) 25 = .ok (.return_, 1) := by decide +kernel
theorem x236_0 {x1 : Int32} {x2 : Int32} : wp Ln xs 236 0 [.ref 72, .int x1, .int x2, mj_hole] [] (u, ml_h m lm) Φ = wp Ln xs 236 2 [.ref 72, .int x1, .int x2, .int (nI 0)] [] (u, ml_h m lm) Φ := (wp_same (S' := [.int (nI 0)]) xd236_0 (Or.inr rfl) rfl).trans (wp_same (L' := [.ref 72, .int x1, .int x2, .int (nI 0)]) xd236_1 (Or.inr rfl) rfl)
theorem x236_2 {x1 : Int32} {x2 : Int32} {x3 : Int32} : wp Ln xs 236 2 [.ref 72, .int x1, .int x2, .int x3] [] (u, ml_h m lm) Φ = if (nI 4) ≤ x3 then wp Ln xs 236 25 [.ref 72, .int x1, .int x2, .int x3] [] (u, ml_h m lm) Φ else wp Ln xs 236 7 [.ref 72, .int x1, .int x2, .int x3] [] (u, ml_h m lm) Φ := (wp_same xd236_2 (Or.inr rfl) rfl).trans ((wp_same (S' := [.int (nI 4), .int x3]) xd236_3 (Or.inr rfl) rfl).trans (wx_icmp xd236_4 rfl rfl ((nI 4) ≤ x3) mb_ge))
theorem x236_7 {x1 : Int32} {x2 : Int32} {x3 : Int32} : wp Ln xs 236 7 [.ref 72, .int x1, .int x2, .int x3] [] (u, ml_h m lm) Φ = wp Ln xs 221 0 [.ref 72, .int x1, .int x2, .int x3, mj_hole, mj_hole, mj_hole, mj_hole, mj_hole] [] (u, ml_h m lm) (mk Ln xs 236 12 [.ref 72, .int x1, .int x2, .int x3] [.ref 72] Φ) := (wp_same xd236_7 (Or.inr rfl) rfl).trans ((wp_same xd236_8 (Or.inr rfl) rfl).trans ((wp_same xd236_9 (Or.inr rfl) rfl).trans ((wp_same xd236_10 (Or.inr rfl) rfl).trans ((wp_same xd236_11 (Or.inr rfl) rfl).trans (wm_cv (As := [.int x1, .int x2, .int x3]) (rest := [.ref 72]) xd236_12 rfl rfl (show ml_L[72]? = _ from rfl) (Nat.le_of_ble_eq_true rfl) (Nat.le_of_ble_eq_true rfl) (Nat.le_of_ble_eq_true rfl) (Nat.le_of_ble_eq_true rfl))))))
theorem x236_15 {x1 : Int32} {x2 : Int32} {x3 : Int32} {xs0 : Int32} : wp Ln xs 236 15 [.ref 72, .int x1, .int x2, .int x3] [.int xs0, .ref 72] (u, ml_h m lm) Φ = wp Ln xs 234 0 [.ref 72, .long xs0.toInt64, mj_hole] [] (u, ml_h m lm) (mk Ln xs 236 16 [.ref 72, .int x1, .int x2, .int x3] [] Φ) := (wp_same xd236_15 (Or.inr rfl) rfl).trans (wm_cv (As := [.long xs0.toInt64]) (rest := []) xd236_16 rfl rfl (show ml_L[72]? = _ from rfl) (Nat.le_of_ble_eq_true rfl) (Nat.le_of_ble_eq_true rfl) (Nat.le_of_ble_eq_true rfl) (Nat.le_of_ble_eq_true rfl))
theorem x236_19 {x1 : Int32} {x2 : Int32} {x3 : Int32} : wp Ln xs 236 19 [.ref 72, .int x1, .int x2, .int x3] [] (u, ml_h m lm) Φ = wp Ln xs 236 2 [.ref 72, .int x1, .int x2, .int (x3 + nI 1)] [] (u, ml_h m lm) Φ := (wp_same (L' := [.ref 72, .int x1, .int x2, .int (x3 + nI 1)]) xd236_19 (Or.inr rfl) rfl).trans (wx_goto xd236_22 rfl)
theorem x236_25 {x1 : Int32} {x2 : Int32} {x3 : Int32} : wp Ln xs 236 25 [.ref 72, .int x1, .int x2, .int x3] [] (u, ml_h m lm) Φ = Φ (.inl none) (u, ml_h m lm) := wp_fin (v := none) xd236_25 (Or.inr rfl) rfl rfl
/- PickedFormsModel.bitsOfDouble -/
theorem xd237_0 : decode (mj_b 237) 0 = .ok (.ldc2_w 245, 3) := by decide +kernel
theorem xd237_3 : decode (mj_b 237) 3 = .ok (.lstore_n 2, 1) := by decide +kernel
theorem xd237_4 : decode (mj_b 237) 4 = .ok (.dload_n 0, 1) := by decide +kernel
theorem xd237_5 : decode (mj_b 237) 5 = .ok (.dstore 4, 2) := by decide +kernel
theorem xd237_7 : decode (mj_b 237) 7 = .ok (.dload 4, 2) := by decide +kernel
theorem xd237_9 : decode (mj_b 237) 9 = .ok (.dconst 1, 1) := by decide +kernel
theorem xd237_10 : decode (mj_b 237) 10 = .ok (.dcmp .g, 1) := by decide +kernel
theorem xd237_11 : decode (mj_b 237) 11 = .ok (.ifCond .ge 18, 3) := by decide +kernel
theorem xd237_14 : decode (mj_b 237) 14 = .ok (.dload 4, 2) := by decide +kernel
theorem xd237_16 : decode (mj_b 237) 16 = .ok (.ldc2_w 247, 3) := by decide +kernel
theorem xd237_19 : decode (mj_b 237) 19 = .ok (.dmul, 1) := by decide +kernel
theorem xd237_20 : decode (mj_b 237) 20 = .ok (.dstore 4, 2) := by decide +kernel
theorem xd237_22 : decode (mj_b 237) 22 = .ok (.lload_n 2, 1) := by decide +kernel
theorem xd237_23 : decode (mj_b 237) 23 = .ok (.lconst 1, 1) := by decide +kernel
theorem xd237_24 : decode (mj_b 237) 24 = .ok (.lsub, 1) := by decide +kernel
theorem xd237_25 : decode (mj_b 237) 25 = .ok (.lstore_n 2, 1) := by decide +kernel
theorem xd237_26 : decode (mj_b 237) 26 = .ok (.goto (-19), 3) := by decide +kernel
theorem xd237_29 : decode (mj_b 237) 29 = .ok (.dload 4, 2) := by decide +kernel
theorem xd237_31 : decode (mj_b 237) 31 = .ok (.ldc2_w 247, 3) := by decide +kernel
theorem xd237_34 : decode (mj_b 237) 34 = .ok (.dcmp .l, 1) := by decide +kernel
theorem xd237_35 : decode (mj_b 237) 35 = .ok (.ifCond .lt 18, 3) := by decide +kernel
theorem xd237_38 : decode (mj_b 237) 38 = .ok (.dload 4, 2) := by decide +kernel
theorem xd237_40 : decode (mj_b 237) 40 = .ok (.ldc2_w 247, 3) := by decide +kernel
theorem xd237_43 : decode (mj_b 237) 43 = .ok (.ddiv, 1) := by decide +kernel
theorem xd237_44 : decode (mj_b 237) 44 = .ok (.dstore 4, 2) := by decide +kernel
theorem xd237_46 : decode (mj_b 237) 46 = .ok (.lload_n 2, 1) := by decide +kernel
theorem xd237_47 : decode (mj_b 237) 47 = .ok (.lconst 1, 1) := by decide +kernel
theorem xd237_48 : decode (mj_b 237) 48 = .ok (.ladd, 1) := by decide +kernel
theorem xd237_49 : decode (mj_b 237) 49 = .ok (.lstore_n 2, 1) := by decide +kernel
theorem xd237_50 : decode (mj_b 237) 50 = .ok (.goto (-21), 3) := by decide +kernel
theorem xd237_53 : decode (mj_b 237) 53 = .ok (.lload_n 2, 1) := by decide +kernel
theorem xd237_54 : decode (mj_b 237) 54 = .ok (.ldc2_w 249, 3) := by decide +kernel
theorem xd237_57 : decode (mj_b 237) 57 = .ok (.lmul, 1) := by decide +kernel
theorem xd237_58 : decode (mj_b 237) 58 = .ok (.dload 4, 2) := by decide +kernel
theorem xd237_60 : decode (mj_b 237) 60 = .ok (.dconst 1, 1) := by decide +kernel
theorem xd237_61 : decode (mj_b 237) 61 = .ok (.dsub, 1) := by decide +kernel
theorem xd237_62 : decode (mj_b 237) 62 = .ok (.ldc2_w 251, 3) := by decide +kernel
theorem xd237_65 : decode (mj_b 237) 65 = .ok (.dmul, 1) := by decide +kernel
theorem xd237_66 : decode (mj_b 237) 66 = .ok (.d2l, 1) := by decide +kernel
theorem xd237_67 : decode (mj_b 237) 67 = .ok (.ladd, 1) := by decide +kernel
theorem xd237_68 : decode (mj_b 237) 68 = .ok (.lreturn, 1) := by decide +kernel
theorem x237_0 {z0 : UInt64} : wp Ln xs 237 0 [.double z0, mj_hole, mj_hole, mj_hole, mj_hole, mj_hole] [] (u, ml_h m lm) Φ = wp Ln xs 237 7 [.double z0, mj_hole, .long 1023, mj_hole, .double z0, mj_hole] [] (u, ml_h m lm) Φ := (wm_ldc2 (v := .long 1023) xd237_0 rfl rfl).trans ((wp_same (L' := [.double z0, mj_hole, .long 1023, mj_hole, mj_hole, mj_hole]) xd237_3 (Or.inr rfl) rfl).trans ((wp_same xd237_4 (Or.inr rfl) rfl).trans (wp_same (L' := [.double z0, mj_hole, .long 1023, mj_hole, .double z0, mj_hole]) xd237_5 (Or.inr rfl) rfl)))
theorem x237_7 {z0 : UInt64} {y2 : Int64} {z4 : UInt64} : wp Ln xs 237 7 [.double z0, mj_hole, .long y2, mj_hole, .double z4, mj_hole] [] (u, ml_h m lm) Φ = if (nI 0) ≤ (Op.cmpValue (FP.dcmp z4 FP.dconst1) .g) then wp Ln xs 237 29 [.double z0, mj_hole, .long y2, mj_hole, .double z4, mj_hole] [] (u, ml_h m lm) Φ else wp Ln xs 237 14 [.double z0, mj_hole, .long y2, mj_hole, .double z4, mj_hole] [] (u, ml_h m lm) Φ := (wp_same xd237_7 (Or.inr rfl) rfl).trans ((wp_same xd237_9 (Or.inr rfl) rfl).trans ((wp_same xd237_10 (Or.inr rfl) rfl).trans (wx_if xd237_11 rfl rfl ((nI 0) ≤ (Op.cmpValue (FP.dcmp z4 FP.dconst1) .g)) mb_ge)))
theorem x237_14 {z0 : UInt64} {y2 : Int64} {z4 : UInt64} (hn0 : FP.dmul z4 4611686018427387904 &&& 0x7fffffffffffffff ≤ 0x7ff0000000000000) : wp Ln xs 237 14 [.double z0, mj_hole, .long y2, mj_hole, .double z4, mj_hole] [] (u, ml_h m lm) Φ = wp Ln xs 237 7 [.double z0, mj_hole, .long (y2 - 1), mj_hole, .double (FP.dmul z4 4611686018427387904), mj_hole] [] (u, ml_h m lm) Φ := (wp_same xd237_14 (Or.inr rfl) rfl).trans ((wm_ldc2 (v := .double 4611686018427387904) xd237_16 rfl rfl).trans ((wx_dmul xd237_19 hn0).trans ((wp_same (L' := [.double z0, mj_hole, .long y2, mj_hole, .double (FP.dmul z4 4611686018427387904), mj_hole]) xd237_20 (Or.inr rfl) rfl).trans ((wp_same xd237_22 (Or.inr rfl) rfl).trans ((wp_same xd237_23 (Or.inr rfl) rfl).trans ((wp_same xd237_24 (Or.inr rfl) rfl).trans ((wp_same (L' := [.double z0, mj_hole, .long (y2 - 1), mj_hole, .double (FP.dmul z4 4611686018427387904), mj_hole]) xd237_25 (Or.inr rfl) rfl).trans (wx_goto xd237_26 rfl))))))))
theorem x237_29 {z0 : UInt64} {y2 : Int64} {z4 : UInt64} : wp Ln xs 237 29 [.double z0, mj_hole, .long y2, mj_hole, .double z4, mj_hole] [] (u, ml_h m lm) Φ = if (Op.cmpValue (FP.dcmp z4 4611686018427387904) .l) < (nI 0) then wp Ln xs 237 53 [.double z0, mj_hole, .long y2, mj_hole, .double z4, mj_hole] [] (u, ml_h m lm) Φ else wp Ln xs 237 38 [.double z0, mj_hole, .long y2, mj_hole, .double z4, mj_hole] [] (u, ml_h m lm) Φ := (wp_same xd237_29 (Or.inr rfl) rfl).trans ((wm_ldc2 (v := .double 4611686018427387904) xd237_31 rfl rfl).trans ((wp_same xd237_34 (Or.inr rfl) rfl).trans (wx_if xd237_35 rfl rfl ((Op.cmpValue (FP.dcmp z4 4611686018427387904) .l) < (nI 0)) mb_lt)))
theorem x237_38 {z0 : UInt64} {y2 : Int64} {z4 : UInt64} (hn0 : FP.ddiv z4 4611686018427387904 &&& 0x7fffffffffffffff ≤ 0x7ff0000000000000) : wp Ln xs 237 38 [.double z0, mj_hole, .long y2, mj_hole, .double z4, mj_hole] [] (u, ml_h m lm) Φ = wp Ln xs 237 29 [.double z0, mj_hole, .long (y2 + 1), mj_hole, .double (FP.ddiv z4 4611686018427387904), mj_hole] [] (u, ml_h m lm) Φ := (wp_same xd237_38 (Or.inr rfl) rfl).trans ((wm_ldc2 (v := .double 4611686018427387904) xd237_40 rfl rfl).trans ((wx_ddiv xd237_43 hn0).trans ((wp_same (L' := [.double z0, mj_hole, .long y2, mj_hole, .double (FP.ddiv z4 4611686018427387904), mj_hole]) xd237_44 (Or.inr rfl) rfl).trans ((wp_same xd237_46 (Or.inr rfl) rfl).trans ((wp_same xd237_47 (Or.inr rfl) rfl).trans ((wp_same xd237_48 (Or.inr rfl) rfl).trans ((wp_same (L' := [.double z0, mj_hole, .long (y2 + 1), mj_hole, .double (FP.ddiv z4 4611686018427387904), mj_hole]) xd237_49 (Or.inr rfl) rfl).trans (wx_goto xd237_50 rfl))))))))
theorem x237_53 {z0 : UInt64} {y2 : Int64} {z4 : UInt64} (hn0 : FP.dsub z4 FP.dconst1 &&& 0x7fffffffffffffff ≤ 0x7ff0000000000000) (hn1 : FP.dmul (FP.dsub z4 FP.dconst1) 4841369599423283200 &&& 0x7fffffffffffffff ≤ 0x7ff0000000000000) : wp Ln xs 237 53 [.double z0, mj_hole, .long y2, mj_hole, .double z4, mj_hole] [] (u, ml_h m lm) Φ = Φ (.inl (some (.long ((y2 * 4503599627370496) + (FP.d2l (FP.dmul (FP.dsub z4 FP.dconst1) 4841369599423283200)))))) (u, ml_h m lm) := (wp_same xd237_53 (Or.inr rfl) rfl).trans ((wm_ldc2 (v := .long 4503599627370496) xd237_54 rfl rfl).trans ((wp_same xd237_57 (Or.inr rfl) rfl).trans ((wp_same xd237_58 (Or.inr rfl) rfl).trans ((wp_same xd237_60 (Or.inr rfl) rfl).trans ((wx_dsub xd237_61 hn0).trans ((wm_ldc2 (v := .double 4841369599423283200) xd237_62 rfl rfl).trans ((wx_dmul xd237_65 hn1).trans ((wp_same xd237_66 (Or.inr rfl) rfl).trans ((wp_same xd237_67 (Or.inr rfl) rfl).trans (wp_fin (v := some (.long ((y2 * 4503599627370496) + (FP.d2l (FP.dmul (FP.dsub z4 FP.dconst1) 4841369599423283200))))) xd237_68 (Or.inr rfl) rfl rfl))))))))))
/- PickedFormsModel.bitsOfFloat -/
theorem xd238_0 : decode (mj_b 238) 0 = .ok (.fload_n 0, 1) := by decide +kernel
theorem xd238_1 : decode (mj_b 238) 1 = .ok (.fconst 0, 1) := by decide +kernel
theorem xd238_2 : decode (mj_b 238) 2 = .ok (.fcmp .l, 1) := by decide +kernel
theorem xd238_3 : decode (mj_b 238) 3 = .ok (.ifCond .ne 5, 3) := by decide +kernel
theorem xd238_6 : decode (mj_b 238) 6 = .ok (.iconst 0, 1) := by decide +kernel
theorem xd238_7 : decode (mj_b 238) 7 = .ok (.ireturn, 1) := by decide +kernel
theorem xd238_8 : decode (mj_b 238) 8 = .ok (.bipush 127, 2) := by decide +kernel
theorem xd238_10 : decode (mj_b 238) 10 = .ok (.istore_n 1, 1) := by decide +kernel
theorem xd238_11 : decode (mj_b 238) 11 = .ok (.fload_n 0, 1) := by decide +kernel
theorem xd238_12 : decode (mj_b 238) 12 = .ok (.fstore_n 2, 1) := by decide +kernel
theorem xd238_13 : decode (mj_b 238) 13 = .ok (.fload_n 2, 1) := by decide +kernel
theorem xd238_14 : decode (mj_b 238) 14 = .ok (.fconst 1, 1) := by decide +kernel
theorem xd238_15 : decode (mj_b 238) 15 = .ok (.fcmp .g, 1) := by decide +kernel
theorem xd238_16 : decode (mj_b 238) 16 = .ok (.ifCond .ge 13, 3) := by decide +kernel
theorem xd238_19 : decode (mj_b 238) 19 = .ok (.fload_n 2, 1) := by decide +kernel
theorem xd238_20 : decode (mj_b 238) 20 = .ok (.fconst 2, 1) := by decide +kernel
theorem xd238_21 : decode (mj_b 238) 21 = .ok (.fmul, 1) := by decide +kernel
theorem xd238_22 : decode (mj_b 238) 22 = .ok (.fstore_n 2, 1) := by decide +kernel
theorem xd238_23 : decode (mj_b 238) 23 = .ok (.iinc 1 (-1), 3) := by decide +kernel
theorem xd238_26 : decode (mj_b 238) 26 = .ok (.goto (-13), 3) := by decide +kernel
theorem xd238_29 : decode (mj_b 238) 29 = .ok (.fload_n 2, 1) := by decide +kernel
theorem xd238_30 : decode (mj_b 238) 30 = .ok (.fconst 2, 1) := by decide +kernel
theorem xd238_31 : decode (mj_b 238) 31 = .ok (.fcmp .l, 1) := by decide +kernel
theorem xd238_32 : decode (mj_b 238) 32 = .ok (.ifCond .lt 13, 3) := by decide +kernel
theorem xd238_35 : decode (mj_b 238) 35 = .ok (.fload_n 2, 1) := by decide +kernel
theorem xd238_36 : decode (mj_b 238) 36 = .ok (.fconst 2, 1) := by decide +kernel
theorem xd238_37 : decode (mj_b 238) 37 = .ok (.fdiv, 1) := by decide +kernel
theorem xd238_38 : decode (mj_b 238) 38 = .ok (.fstore_n 2, 1) := by decide +kernel
theorem xd238_39 : decode (mj_b 238) 39 = .ok (.iinc 1 1, 3) := by decide +kernel
theorem xd238_42 : decode (mj_b 238) 42 = .ok (.goto (-13), 3) := by decide +kernel
theorem xd238_45 : decode (mj_b 238) 45 = .ok (.iload_n 1, 1) := by decide +kernel
theorem xd238_46 : decode (mj_b 238) 46 = .ok (.ldc 253, 2) := by decide +kernel
theorem xd238_48 : decode (mj_b 238) 48 = .ok (.imul, 1) := by decide +kernel
theorem xd238_49 : decode (mj_b 238) 49 = .ok (.fload_n 2, 1) := by decide +kernel
theorem xd238_50 : decode (mj_b 238) 50 = .ok (.fconst 1, 1) := by decide +kernel
theorem xd238_51 : decode (mj_b 238) 51 = .ok (.fsub, 1) := by decide +kernel
theorem xd238_52 : decode (mj_b 238) 52 = .ok (.ldc 254, 2) := by decide +kernel
theorem xd238_54 : decode (mj_b 238) 54 = .ok (.fmul, 1) := by decide +kernel
theorem xd238_55 : decode (mj_b 238) 55 = .ok (.f2i, 1) := by decide +kernel
theorem xd238_56 : decode (mj_b 238) 56 = .ok (.iadd, 1) := by decide +kernel
theorem xd238_57 : decode (mj_b 238) 57 = .ok (.ireturn, 1) := by decide +kernel
theorem x238_0 {z0 : UInt32} : wp Ln xs 238 0 [.float z0, mj_hole, mj_hole] [] (u, ml_h m lm) Φ = if ¬ (Op.cmpValue (FP.fcmp z0 FP.fconst0) .l) = (nI 0) then wp Ln xs 238 8 [.float z0, mj_hole, mj_hole] [] (u, ml_h m lm) Φ else wp Ln xs 238 6 [.float z0, mj_hole, mj_hole] [] (u, ml_h m lm) Φ := (wp_same xd238_0 (Or.inr rfl) rfl).trans ((wp_same xd238_1 (Or.inr rfl) rfl).trans ((wp_same xd238_2 (Or.inr rfl) rfl).trans (wx_if xd238_3 rfl rfl (¬ (Op.cmpValue (FP.fcmp z0 FP.fconst0) .l) = (nI 0)) mb_ne)))
theorem x238_6 {z0 : UInt32} : wp Ln xs 238 6 [.float z0, mj_hole, mj_hole] [] (u, ml_h m lm) Φ = Φ (.inl (some (.int (nI 0)))) (u, ml_h m lm) := (wp_same (S' := [.int (nI 0)]) xd238_6 (Or.inr rfl) rfl).trans (wp_fin (v := some (.int (nI 0))) xd238_7 (Or.inr rfl) rfl (mj_fin_i rfl))
theorem x238_8 {z0 : UInt32} : wp Ln xs 238 8 [.float z0, mj_hole, mj_hole] [] (u, ml_h m lm) Φ = wp Ln xs 238 13 [.float z0, .int (nI 127), .float z0] [] (u, ml_h m lm) Φ := (wp_same (S' := [.int (nI 127)]) xd238_8 (Or.inr rfl) rfl).trans ((wp_same (L' := [.float z0, .int (nI 127), mj_hole]) xd238_10 (Or.inr rfl) rfl).trans ((wp_same xd238_11 (Or.inr rfl) rfl).trans (wp_same (L' := [.float z0, .int (nI 127), .float z0]) xd238_12 (Or.inr rfl) rfl)))
theorem x238_13 {z0 : UInt32} {x1 : Int32} {z2 : UInt32} : wp Ln xs 238 13 [.float z0, .int x1, .float z2] [] (u, ml_h m lm) Φ = if (nI 0) ≤ (Op.cmpValue (FP.fcmp z2 FP.fconst1) .g) then wp Ln xs 238 29 [.float z0, .int x1, .float z2] [] (u, ml_h m lm) Φ else wp Ln xs 238 19 [.float z0, .int x1, .float z2] [] (u, ml_h m lm) Φ := (wp_same xd238_13 (Or.inr rfl) rfl).trans ((wp_same xd238_14 (Or.inr rfl) rfl).trans ((wp_same xd238_15 (Or.inr rfl) rfl).trans (wx_if xd238_16 rfl rfl ((nI 0) ≤ (Op.cmpValue (FP.fcmp z2 FP.fconst1) .g)) mb_ge)))
theorem x238_19 {z0 : UInt32} {x1 : Int32} {z2 : UInt32} (hn0 : FP.fmul z2 FP.fconst2 &&& 0x7fffffff ≤ 0x7f800000) : wp Ln xs 238 19 [.float z0, .int x1, .float z2] [] (u, ml_h m lm) Φ = wp Ln xs 238 13 [.float z0, .int (x1 + (-1)), .float (FP.fmul z2 FP.fconst2)] [] (u, ml_h m lm) Φ := (wp_same xd238_19 (Or.inr rfl) rfl).trans ((wp_same xd238_20 (Or.inr rfl) rfl).trans ((wx_fmul xd238_21 hn0).trans ((wp_same (L' := [.float z0, .int x1, .float (FP.fmul z2 FP.fconst2)]) xd238_22 (Or.inr rfl) rfl).trans ((wp_same (L' := [.float z0, .int (x1 + (-1)), .float (FP.fmul z2 FP.fconst2)]) xd238_23 (Or.inr rfl) rfl).trans (wx_goto xd238_26 rfl)))))
theorem x238_29 {z0 : UInt32} {x1 : Int32} {z2 : UInt32} : wp Ln xs 238 29 [.float z0, .int x1, .float z2] [] (u, ml_h m lm) Φ = if (Op.cmpValue (FP.fcmp z2 FP.fconst2) .l) < (nI 0) then wp Ln xs 238 45 [.float z0, .int x1, .float z2] [] (u, ml_h m lm) Φ else wp Ln xs 238 35 [.float z0, .int x1, .float z2] [] (u, ml_h m lm) Φ := (wp_same xd238_29 (Or.inr rfl) rfl).trans ((wp_same xd238_30 (Or.inr rfl) rfl).trans ((wp_same xd238_31 (Or.inr rfl) rfl).trans (wx_if xd238_32 rfl rfl ((Op.cmpValue (FP.fcmp z2 FP.fconst2) .l) < (nI 0)) mb_lt)))
theorem x238_35 {z0 : UInt32} {x1 : Int32} {z2 : UInt32} (hn0 : FP.fdiv z2 FP.fconst2 &&& 0x7fffffff ≤ 0x7f800000) : wp Ln xs 238 35 [.float z0, .int x1, .float z2] [] (u, ml_h m lm) Φ = wp Ln xs 238 29 [.float z0, .int (x1 + nI 1), .float (FP.fdiv z2 FP.fconst2)] [] (u, ml_h m lm) Φ := (wp_same xd238_35 (Or.inr rfl) rfl).trans ((wp_same xd238_36 (Or.inr rfl) rfl).trans ((wx_fdiv xd238_37 hn0).trans ((wp_same (L' := [.float z0, .int x1, .float (FP.fdiv z2 FP.fconst2)]) xd238_38 (Or.inr rfl) rfl).trans ((wp_same (L' := [.float z0, .int (x1 + nI 1), .float (FP.fdiv z2 FP.fconst2)]) xd238_39 (Or.inr rfl) rfl).trans (wx_goto xd238_42 rfl)))))
theorem x238_45 {z0 : UInt32} {x1 : Int32} {z2 : UInt32} (hn0 : FP.fsub z2 FP.fconst1 &&& 0x7fffffff ≤ 0x7f800000) (hn1 : FP.fmul (FP.fsub z2 FP.fconst1) 1258291200 &&& 0x7fffffff ≤ 0x7f800000) : wp Ln xs 238 45 [.float z0, .int x1, .float z2] [] (u, ml_h m lm) Φ = Φ (.inl (some (.int ((x1 * (nI 8388608)) + (FP.f2i (FP.fmul (FP.fsub z2 FP.fconst1) 1258291200)))))) (u, ml_h m lm) := (wp_same xd238_45 (Or.inr rfl) rfl).trans ((wm_ldc (v := .int (nI 8388608)) xd238_46 rfl rfl ⟨rfl, rfl⟩).trans ((wp_same xd238_48 (Or.inr rfl) rfl).trans ((wp_same xd238_49 (Or.inr rfl) rfl).trans ((wp_same xd238_50 (Or.inr rfl) rfl).trans ((wx_fsub xd238_51 hn0).trans ((wm_ldc (v := .float 1258291200) xd238_52 rfl rfl ⟨rfl, rfl⟩).trans ((wx_fmul xd238_54 hn1).trans ((wp_same xd238_55 (Or.inr rfl) rfl).trans ((wp_same xd238_56 (Or.inr rfl) rfl).trans (wp_fin (v := some (.int ((x1 * (nI 8388608)) + (FP.f2i (FP.fmul (FP.fsub z2 FP.fconst1) 1258291200))))) xd238_57 (Or.inr rfl) rfl (mj_fin_i rfl)))))))))))
end MXm
