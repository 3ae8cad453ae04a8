/-! ===== an equation for each straight piece of a method ===== -/
section MXc
variable {Ln : Nat} {xs : Nat → Int32} {u : mj_U} {m : ml_M} {lm : ml_J} {Φ : mj_R → mj_W → Prop}
/- PickedForms$Column.formOf -/
theorem xd36_0 : decode (mj_b 36) 0 = .ok (.aload_n 0, 1) := by decide +kernel
theorem xd36_1 : decode (mj_b 36) 1 = .ok (.getfield 18, 3) := by decide +kernel
theorem xd36_4 : decode (mj_b 36) 4 = .ok (.iload_n 1, 1) := by decide +kernel
theorem xd36_5 : decode (mj_b 36) 5 = .ok (.invokestatic 46, 3) := by decide +kernel
theorem xd36_8 : decode (mj_b 36) 8 = .ok (.ireturn, 1) := by decide +kernel
theorem x36_0 {x1 : Int32} : wp Ln xs 36 0 [.ref 2, .int x1] [] (u, ml_h m lm) Φ = wp Ln xs 13 0 [.ref 5, .int x1] [] (u, ml_h m lm) (mk Ln xs 36 5 [.ref 2, .int x1] [] Φ) := (wp_same xd36_0 (Or.inr rfl) rfl).trans ((wm_getr xd36_1 rfl (show ml_L[2]? = _ from rfl) rfl (Nat.le_of_ble_eq_true rfl)).trans ((wp_same xd36_4 (Or.inr rfl) rfl).trans (wm_cs (As := [.ref 5, .int x1]) (rest := []) xd36_5 rfl rfl (Nat.le_of_ble_eq_true rfl) (Nat.le_of_ble_eq_true rfl) (Nat.le_of_ble_eq_true rfl) (Nat.le_of_ble_eq_true rfl))))
theorem x36_8 {x1 : Int32} {xs0 : Int32} : wp Ln xs 36 8 [.ref 2, .int x1] [.int xs0] (u, ml_h m lm) Φ = Φ (.inl (some (.int xs0))) (u, ml_h m lm) := wp_fin (v := some (.int xs0)) xd36_8 (Or.inr rfl) rfl (mj_fin_i rfl)
/- PickedForms$Shape.bitsIn -/
theorem xd37_0 : decode (mj_b 37) 0 = .ok (.iload_n 1, 1) := by decide +kernel
theorem xd37_1 : decode (mj_b 37) 1 = .ok (.tableswitch 103 1 4 #[31, 52, 60, 78], 31) := by decide +kernel
theorem xd37_32 : decode (mj_b 37) 32 = .ok (.bipush 14, 2) := by decide +kernel
theorem xd37_34 : decode (mj_b 37) 34 = .ok (.aload_n 0, 1) := by decide +kernel
theorem xd37_35 : decode (mj_b 37) 35 = .ok (.getfield 19, 3) := by decide +kernel
theorem xd37_38 : decode (mj_b 37) 38 = .ok (.aload_n 0, 1) := by decide +kernel
theorem xd37_39 : decode (mj_b 37) 39 = .ok (.getfield 25, 3) := by decide +kernel
theorem xd37_42 : decode (mj_b 37) 42 = .ok (.aload_n 0, 1) := by decide +kernel
theorem xd37_43 : decode (mj_b 37) 43 = .ok (.getfield 22, 3) := by decide +kernel
theorem xd37_46 : decode (mj_b 37) 46 = .ok (.isub, 1) := by decide +kernel
theorem xd37_47 : decode (mj_b 37) 47 = .ok (.invokestatic 62, 3) := by decide +kernel
theorem xd37_50 : decode (mj_b 37) 50 = .ok (.imul, 1) := by decide +kernel
theorem xd37_51 : decode (mj_b 37) 51 = .ok (.iadd, 1) := by decide +kernel
theorem xd37_52 : decode (mj_b 37) 52 = .ok (.ireturn, 1) := by decide +kernel
theorem xd37_53 : decode (mj_b 37) 53 = .ok (.aload_n 0, 1) := by decide +kernel
theorem xd37_54 : decode (mj_b 37) 54 = .ok (.getfield 28, 3) := by decide +kernel
theorem xd37_57 : decode (mj_b 37) 57 = .ok (.bipush 14, 2) := by decide +kernel
theorem xd37_59 : decode (mj_b 37) 59 = .ok (.imul, 1) := by decide +kernel
theorem xd37_60 : decode (mj_b 37) 60 = .ok (.ireturn, 1) := by decide +kernel
theorem xd37_61 : decode (mj_b 37) 61 = .ok (.bipush 14, 2) := by decide +kernel
theorem xd37_63 : decode (mj_b 37) 63 = .ok (.aload_n 0, 1) := by decide +kernel
theorem xd37_64 : decode (mj_b 37) 64 = .ok (.getfield 19, 3) := by decide +kernel
theorem xd37_67 : decode (mj_b 37) 67 = .ok (.iconst 1, 1) := by decide +kernel
theorem xd37_68 : decode (mj_b 37) 68 = .ok (.isub, 1) := by decide +kernel
theorem xd37_69 : decode (mj_b 37) 69 = .ok (.aload_n 0, 1) := by decide +kernel
theorem xd37_70 : decode (mj_b 37) 70 = .ok (.getfield 31, 3) := by decide +kernel
theorem xd37_73 : decode (mj_b 37) 73 = .ok (.invokestatic 62, 3) := by decide +kernel
theorem xd37_76 : decode (mj_b 37) 76 = .ok (.imul, 1) := by decide +kernel
theorem xd37_77 : decode (mj_b 37) 77 = .ok (.iadd, 1) := by decide +kernel
theorem xd37_78 : decode (mj_b 37) 78 = .ok (.ireturn, 1) := by decide +kernel
theorem xd37_79 : decode (mj_b 37) 79 = .ok (.iconst 4, 1) := by decide +kernel
theorem xd37_80 : decode (mj_b 37) 80 = .ok (.aload_n 0, 1) := by decide +kernel
theorem xd37_81 : decode (mj_b 37) 81 = .ok (.getfield 15, 3) := by decide +kernel
theorem xd37_84 : decode (mj_b 37) 84 = .ok (.bipush 10, 2) := by decide +kernel
theorem xd37_86 : decode (mj_b 37) 86 = .ok (.imul, 1) := by decide +kernel
theorem xd37_87 : decode (mj_b 37) 87 = .ok (.iadd, 1) := by decide +kernel
theorem xd37_88 : decode (mj_b 37) 88 = .ok (.aload_n 0, 1) := by decide +kernel
theorem xd37_89 : decode (mj_b 37) 89 = .ok (.getfield 19, 3) := by decide +kernel
theorem xd37_92 : decode (mj_b 37) 92 = .ok (.aload_n 0, 1) := by decide +kernel
theorem xd37_93 : decode (mj_b 37) 93 = .ok (.getfield 15, 3) := by decide +kernel
theorem xd37_96 : decode (mj_b 37) 96 = .ok (.iconst 1, 1) := by decide +kernel
theorem xd37_97 : decode (mj_b 37) 97 = .ok (.isub, 1) := by decide +kernel
theorem xd37_98 : decode (mj_b 37) 98 = .ok (.invokestatic 62, 3) := by decide +kernel
theorem xd37_101 : decode (mj_b 37) 101 = .ok (.imul, 1) := by decide +kernel
theorem xd37_102 : decode (mj_b 37) 102 = .ok (.iadd, 1) := by decide +kernel
theorem xd37_103 : decode (mj_b 37) 103 = .ok (.ireturn, 1) := by decide +kernel
theorem xd37_104 : decode (mj_b 37) 104 = .ok (.aload_n 0, 1) := by decide +kernel
theorem xd37_105 : decode (mj_b 37) 105 = .ok (.getfield 19, 3) := by decide +kernel
theorem xd37_108 : decode (mj_b 37) 108 = .ok (.bipush 10, 2) := by decide +kernel
theorem xd37_110 : decode (mj_b 37) 110 = .ok (.imul, 1) := by decide +kernel
theorem xd37_111 : decode (mj_b 37) 111 = .ok (.ireturn, 1) := by decide +kernel
theorem x37_0 {p : Nat} {x1 : Int32} : wp Ln xs 37 0 [.ref p, .int x1] [] (u, ml_h m lm) Φ = wp Ln xs 37 1 [.ref p, .int x1] [.int x1] (u, ml_h m lm) Φ := wp_same xd37_0 (Or.inr rfl) rfl
theorem x37_1_0 {p : Nat} {x1 : Int32} : wp Ln xs 37 1 [.ref p, .int x1] [.int (nI 0)] (u, ml_h m lm) Φ = wp Ln xs 37 104 [.ref p, .int x1] [] (u, ml_h m lm) Φ := wp_same xd37_1 (Or.inl rfl) rfl
theorem x37_1_1 {p : Nat} {x1 : Int32} : wp Ln xs 37 1 [.ref p, .int x1] [.int (nI 1)] (u, ml_h m lm) Φ = wp Ln xs 37 32 [.ref p, .int x1] [] (u, ml_h m lm) Φ := wp_same xd37_1 (Or.inl rfl) rfl
theorem x37_1_2 {p : Nat} {x1 : Int32} : wp Ln xs 37 1 [.ref p, .int x1] [.int (nI 2)] (u, ml_h m lm) Φ = wp Ln xs 37 53 [.ref p, .int x1] [] (u, ml_h m lm) Φ := wp_same xd37_1 (Or.inl rfl) rfl
theorem x37_1_3 {p : Nat} {x1 : Int32} : wp Ln xs 37 1 [.ref p, .int x1] [.int (nI 3)] (u, ml_h m lm) Φ = wp Ln xs 37 61 [.ref p, .int x1] [] (u, ml_h m lm) Φ := wp_same xd37_1 (Or.inl rfl) rfl
theorem x37_1_4 {p : Nat} {x1 : Int32} : wp Ln xs 37 1 [.ref p, .int x1] [.int (nI 4)] (u, ml_h m lm) Φ = wp Ln xs 37 79 [.ref p, .int x1] [] (u, ml_h m lm) Φ := wp_same xd37_1 (Or.inl rfl) rfl
theorem x37_1_5 {p : Nat} {x1 : Int32} : wp Ln xs 37 1 [.ref p, .int x1] [.int (nI 5)] (u, ml_h m lm) Φ = wp Ln xs 37 104 [.ref p, .int x1] [] (u, ml_h m lm) Φ := wp_same xd37_1 (Or.inl rfl) rfl
theorem x37_1_6 {p : Nat} {x1 : Int32} : wp Ln xs 37 1 [.ref p, .int x1] [.int (nI 6)] (u, ml_h m lm) Φ = wp Ln xs 37 104 [.ref p, .int x1] [] (u, ml_h m lm) Φ := wp_same xd37_1 (Or.inl rfl) rfl
theorem x37_1_7 {p : Nat} {x1 : Int32} : wp Ln xs 37 1 [.ref p, .int x1] [.int (nI 7)] (u, ml_h m lm) Φ = wp Ln xs 37 104 [.ref p, .int x1] [] (u, ml_h m lm) Φ := wp_same xd37_1 (Or.inl rfl) rfl
theorem x37_32 {p : Nat} {x1 : Int32} (hp : ml_sh p) : wp Ln xs 37 32 [.ref p, .int x1] [] (u, ml_h m lm) Φ = wp Ln xs 38 0 [.int ((m p 4) - (m p 3)), mj_hole, mj_hole] [] (u, ml_h m lm) (mk Ln xs 37 47 [.ref p, .int x1] [.int (m p 2), .int (nI 14)] Φ) := (wp_same (S' := [.int (nI 14)]) xd37_32 (Or.inr rfl) rfl).trans ((wp_same xd37_34 (Or.inr rfl) rfl).trans ((wm_geti xd37_35 rfl hp.1 rfl (Nat.le_of_ble_eq_true rfl)).trans ((wp_same xd37_38 (Or.inr rfl) rfl).trans ((wm_geti xd37_39 rfl hp.1 rfl (Nat.le_of_ble_eq_true rfl)).trans ((wp_same xd37_42 (Or.inr rfl) rfl).trans ((wm_geti xd37_43 rfl hp.1 rfl (Nat.le_of_ble_eq_true rfl)).trans ((wp_same xd37_46 (Or.inr rfl) rfl).trans (wm_cs (As := [.int ((m p 4) - (m p 3))]) (rest := [.int (m p 2), .int (nI 14)]) xd37_47 rfl rfl (Nat.le_of_ble_eq_true rfl) (Nat.le_of_ble_eq_true rfl) (Nat.le_of_ble_eq_true rfl) (Nat.le_of_ble_eq_true rfl)))))))))
theorem x37_50 {p : Nat} {x1 : Int32} {xs0 : Int32} {xs1 : Int32} {xs2 : Int32} : wp Ln xs 37 50 [.ref p, .int x1] [.int xs0, .int xs1, .int xs2] (u, ml_h m lm) Φ = Φ (.inl (some (.int (xs2 + (xs1 * xs0))))) (u, ml_h m lm) := (wp_same xd37_50 (Or.inr rfl) rfl).trans ((wp_same xd37_51 (Or.inr rfl) rfl).trans (wp_fin (v := some (.int (xs2 + (xs1 * xs0)))) xd37_52 (Or.inr rfl) rfl (mj_fin_i rfl)))
theorem x37_53 {p : Nat} {x1 : Int32} (hp : ml_sh p) : wp Ln xs 37 53 [.ref p, .int x1] [] (u, ml_h m lm) Φ = Φ (.inl (some (.int ((m p 5) * (nI 14))))) (u, ml_h m lm) := (wp_same xd37_53 (Or.inr rfl) rfl).trans ((wm_geti xd37_54 rfl hp.1 rfl (Nat.le_of_ble_eq_true rfl)).trans ((wp_same (S' := [.int (nI 14), .int (m p 5)]) xd37_57 (Or.inr rfl) rfl).trans ((wp_same xd37_59 (Or.inr rfl) rfl).trans (wp_fin (v := some (.int ((m p 5) * (nI 14)))) xd37_60 (Or.inr rfl) rfl (mj_fin_i rfl)))))
theorem x37_61 {p : Nat} {x1 : Int32} (hp : ml_sh p) : wp Ln xs 37 61 [.ref p, .int x1] [] (u, ml_h m lm) Φ = wp Ln xs 38 0 [.int (m p 6), mj_hole, mj_hole] [] (u, ml_h m lm) (mk Ln xs 37 73 [.ref p, .int x1] [.int ((m p 2) - (nI 1)), .int (nI 14)] Φ) := (wp_same (S' := [.int (nI 14)]) xd37_61 (Or.inr rfl) rfl).trans ((wp_same xd37_63 (Or.inr rfl) rfl).trans ((wm_geti xd37_64 rfl hp.1 rfl (Nat.le_of_ble_eq_true rfl)).trans ((wp_same (S' := [.int (nI 1), .int (m p 2), .int (nI 14)]) xd37_67 (Or.inr rfl) rfl).trans ((wp_same xd37_68 (Or.inr rfl) rfl).trans ((wp_same xd37_69 (Or.inr rfl) rfl).trans ((wm_geti xd37_70 rfl hp.1 rfl (Nat.le_of_ble_eq_true rfl)).trans (wm_cs (As := [.int (m p 6)]) (rest := [.int ((m p 2) - (nI 1)), .int (nI 14)]) xd37_73 rfl rfl (Nat.le_of_ble_eq_true rfl) (Nat.le_of_ble_eq_true rfl) (Nat.le_of_ble_eq_true rfl) (Nat.le_of_ble_eq_true rfl))))))))
theorem x37_76 {p : Nat} {x1 : Int32} {xs0 : Int32} {xs1 : Int32} {xs2 : Int32} : wp Ln xs 37 76 [.ref p, .int x1] [.int xs0, .int xs1, .int xs2] (u, ml_h m lm) Φ = Φ (.inl (some (.int (xs2 + (xs1 * xs0))))) (u, ml_h m lm) := (wp_same xd37_76 (Or.inr rfl) rfl).trans ((wp_same xd37_77 (Or.inr rfl) rfl).trans (wp_fin (v := some (.int (xs2 + (xs1 * xs0)))) xd37_78 (Or.inr rfl) rfl (mj_fin_i rfl)))
theorem x37_79 {p : Nat} {x1 : Int32} (hp : ml_sh p) : wp Ln xs 37 79 [.ref p, .int x1] [] (u, ml_h m lm) Φ = wp Ln xs 38 0 [.int ((m p 1) - (nI 1)), mj_hole, mj_hole] [] (u, ml_h m lm) (mk Ln xs 37 98 [.ref p, .int x1] [.int (m p 2), .int ((nI 4) + ((m p 1) * (nI 10)))] Φ) := (wp_same (S' := [.int (nI 4)]) xd37_79 (Or.inr rfl) rfl).trans ((wp_same xd37_80 (Or.inr rfl) rfl).trans ((wm_geti xd37_81 rfl hp.1 rfl (Nat.le_of_ble_eq_true rfl)).trans ((wp_same (S' := [.int (nI 10), .int (m p 1), .int (nI 4)]) xd37_84 (Or.inr rfl) rfl).trans ((wp_same xd37_86 (Or.inr rfl) rfl).trans ((wp_same xd37_87 (Or.inr rfl) rfl).trans ((wp_same xd37_88 (Or.inr rfl) rfl).trans ((wm_geti xd37_89 rfl hp.1 rfl (Nat.le_of_ble_eq_true rfl)).trans ((wp_same xd37_92 (Or.inr rfl) rfl).trans ((wm_geti xd37_93 rfl hp.1 rfl (Nat.le_of_ble_eq_true rfl)).trans ((wp_same (S' := [.int (nI 1), .int (m p 1), .int (m p 2), .int ((nI 4) + ((m p 1) * (nI 10)))]) xd37_96 (Or.inr rfl) rfl).trans ((wp_same xd37_97 (Or.inr rfl) rfl).trans (wm_cs (As := [.int ((m p 1) - (nI 1))]) (rest := [.int (m p 2), .int ((nI 4) + ((m p 1) * (nI 10)))]) xd37_98 rfl rfl (Nat.le_of_ble_eq_true rfl) (Nat.le_of_ble_eq_true rfl) (Nat.le_of_ble_eq_true rfl) (Nat.le_of_ble_eq_true rfl)))))))))))))
theorem x37_101 {p : Nat} {x1 : Int32} {xs0 : Int32} {xs1 : Int32} {xs2 : Int32} : wp Ln xs 37 101 [.ref p, .int x1] [.int xs0, .int xs1, .int xs2] (u, ml_h m lm) Φ = Φ (.inl (some (.int (xs2 + (xs1 * xs0))))) (u, ml_h m lm) := (wp_same xd37_101 (Or.inr rfl) rfl).trans ((wp_same xd37_102 (Or.inr rfl) rfl).trans (wp_fin (v := some (.int (xs2 + (xs1 * xs0)))) xd37_103 (Or.inr rfl) rfl (mj_fin_i rfl)))
theorem x37_104 {p : Nat} {x1 : Int32} (hp : ml_sh p) : wp Ln xs 37 104 [.ref p, .int x1] [] (u, ml_h m lm) Φ = Φ (.inl (some (.int ((m p 2) * (nI 10))))) (u, ml_h m lm) := (wp_same xd37_104 (Or.inr rfl) rfl).trans ((wm_geti xd37_105 rfl hp.1 rfl (Nat.le_of_ble_eq_true rfl)).trans ((wp_same (S' := [.int (nI 10), .int (m p 2)]) xd37_108 (Or.inr rfl) rfl).trans ((wp_same xd37_110 (Or.inr rfl) rfl).trans (wp_fin (v := some (.int ((m p 2) * (nI 10)))) xd37_111 (Or.inr rfl) rfl (mj_fin_i rfl)))))
/- PickedForms$Rows.width -/
theorem xd38_0 : decode (mj_b 38) 0 = .ok (.iconst 0, 1) := by decide +kernel
theorem xd38_1 : decode (mj_b 38) 1 = .ok (.istore_n 1, 1) := by decide +kernel
theorem xd38_2 : decode (mj_b 38) 2 = .ok (.iconst 0, 1) := by decide +kernel
theorem xd38_3 : decode (mj_b 38) 3 = .ok (.istore_n 2, 1) := by decide +kernel
theorem xd38_4 : decode (mj_b 38) 4 = .ok (.iload_n 2, 1) := by decide +kernel
theorem xd38_5 : decode (mj_b 38) 5 = .ok (.bipush 31, 2) := by decide +kernel
theorem xd38_7 : decode (mj_b 38) 7 = .ok (.if_icmp .ge 18, 3) := by decide +kernel
theorem xd38_10 : decode (mj_b 38) 10 = .ok (.iload_n 0, 1) := by decide +kernel
theorem xd38_11 : decode (mj_b 38) 11 = .ok (.iload_n 2, 1) := by decide +kernel
theorem xd38_12 : decode (mj_b 38) 12 = .ok (.ishr, 1) := by decide +kernel
theorem xd38_13 : decode (mj_b 38) 13 = .ok (.ifCond .le 12, 3) := by decide +kernel
theorem xd38_16 : decode (mj_b 38) 16 = .ok (.iinc 1 1, 3) := by decide +kernel
theorem xd38_19 : decode (mj_b 38) 19 = .ok (.iinc 2 1, 3) := by decide +kernel
theorem xd38_22 : decode (mj_b 38) 22 = .ok (.goto (-18), 3) := by decide +kernel
theorem xd38_25 : decode (mj_b 38) 25 = .ok (.iload_n 1, 1) := by decide +kernel
theorem xd38_26 : decode (mj_b 38) 26 = .ok (.ireturn, 1) := by decide +kernel
theorem x38_0 {x0 : Int32} : wp Ln xs 38 0 [.int x0, mj_hole, mj_hole] [] (u, ml_h m lm) Φ = wp Ln xs 38 4 [.int x0, .int (nI 0), .int (nI 0)] [] (u, ml_h m lm) Φ := (wp_same (S' := [.int (nI 0)]) xd38_0 (Or.inr rfl) rfl).trans ((wp_same (L' := [.int x0, .int (nI 0), mj_hole]) xd38_1 (Or.inr rfl) rfl).trans ((wp_same (S' := [.int (nI 0)]) xd38_2 (Or.inr rfl) rfl).trans (wp_same (L' := [.int x0, .int (nI 0), .int (nI 0)]) xd38_3 (Or.inr rfl) rfl)))
theorem x38_4 {x0 : Int32} {x1 : Int32} {x2 : Int32} : wp Ln xs 38 4 [.int x0, .int x1, .int x2] [] (u, ml_h m lm) Φ = if (nI 31) ≤ x2 then wp Ln xs 38 25 [.int x0, .int x1, .int x2] [] (u, ml_h m lm) Φ else wp Ln xs 38 10 [.int x0, .int x1, .int x2] [] (u, ml_h m lm) Φ := (wp_same xd38_4 (Or.inr rfl) rfl).trans ((wp_same (S' := [.int (nI 31), .int x2]) xd38_5 (Or.inr rfl) rfl).trans (wx_icmp xd38_7 rfl rfl ((nI 31) ≤ x2) mb_ge))
theorem x38_10 {x0 : Int32} {x1 : Int32} {x2 : Int32} : wp Ln xs 38 10 [.int x0, .int x1, .int x2] [] (u, ml_h m lm) Φ = if (x0 >>> (x2 &&& 31)) ≤ (nI 0) then wp Ln xs 38 25 [.int x0, .int x1, .int x2] [] (u, ml_h m lm) Φ else wp Ln xs 38 16 [.int x0, .int x1, .int x2] [] (u, ml_h m lm) Φ := (wp_same xd38_10 (Or.inr rfl) rfl).trans ((wp_same xd38_11 (Or.inr rfl) rfl).trans ((wp_same xd38_12 (Or.inr rfl) rfl).trans (wx_if xd38_13 rfl rfl ((x0 >>> (x2 &&& 31)) ≤ (nI 0)) mb_le)))
theorem x38_16 {x0 : Int32} {x1 : Int32} {x2 : Int32} : wp Ln xs 38 16 [.int x0, .int x1, .int x2] [] (u, ml_h m lm) Φ = wp Ln xs 38 4 [.int x0, .int (x1 + nI 1), .int (x2 + nI 1)] [] (u, ml_h m lm) Φ := (wp_same (L' := [.int x0, .int (x1 + nI 1), .int x2]) xd38_16 (Or.inr rfl) rfl).trans ((wp_same (L' := [.int x0, .int (x1 + nI 1), .int (x2 + nI 1)]) xd38_19 (Or.inr rfl) rfl).trans (wx_goto xd38_22 rfl))
theorem x38_25 {x0 : Int32} {x1 : Int32} {x2 : Int32} : wp Ln xs 38 25 [.int x0, .int x1, .int x2] [] (u, ml_h m lm) Φ = Φ (.inl (some (.int x1))) (u, ml_h m lm) := (wp_same xd38_25 (Or.inr rfl) rfl).trans (wp_fin (v := some (.int x1)) xd38_26 (Or.inr rfl) rfl (mj_fin_i rfl))
/- PickedForms$Column.sum -/
theorem xd39_0 : decode (mj_b 39) 0 = .ok (.iconst 0, 1) := by decide +kernel
theorem xd39_1 : decode (mj_b 39) 1 = .ok (.istore_n 1, 1) := by decide +kernel
theorem xd39_2 : decode (mj_b 39) 2 = .ok (.iconst 0, 1) := by decide +kernel
theorem xd39_3 : decode (mj_b 39) 3 = .ok (.istore_n 2, 1) := by decide +kernel
theorem xd39_4 : decode (mj_b 39) 4 = .ok (.iload_n 2, 1) := by decide +kernel
theorem xd39_5 : decode (mj_b 39) 5 = .ok (.aload_n 0, 1) := by decide +kernel
theorem xd39_6 : decode (mj_b 39) 6 = .ok (.getfield 27, 3) := by decide +kernel
theorem xd39_9 : decode (mj_b 39) 9 = .ok (.if_icmp .ge 20, 3) := by decide +kernel
theorem xd39_12 : decode (mj_b 39) 12 = .ok (.iload_n 1, 1) := by decide +kernel
theorem xd39_13 : decode (mj_b 39) 13 = .ok (.aload_n 0, 1) := by decide +kernel
theorem xd39_14 : decode (mj_b 39) 14 = .ok (.getfield 9, 3) := by decide +kernel
theorem xd39_17 : decode (mj_b 39) 17 = .ok (.iload_n 2, 1) := by decide +kernel
theorem xd39_18 : decode (mj_b 39) 18 = .ok (.invokestatic 46, 3) := by decide +kernel
theorem xd39_21 : decode (mj_b 39) 21 = .ok (.iadd, 1) := by decide +kernel
theorem xd39_22 : decode (mj_b 39) 22 = .ok (.istore_n 1, 1) := by decide +kernel
theorem xd39_23 : decode (mj_b 39) 23 = .ok (.iinc 2 1, 3) := by decide +kernel
theorem xd39_26 : decode (mj_b 39) 26 = .ok (.goto (-22), 3) := by decide +kernel
theorem xd39_29 : decode (mj_b 39) 29 = .ok (.iload_n 1, 1) := by decide +kernel
theorem xd39_30 : decode (mj_b 39) 30 = .ok (.ireturn, 1) := by decide +kernel
theorem x39_0 : wp Ln xs 39 0 [.ref 2, mj_hole, mj_hole] [] (u, ml_h m lm) Φ = wp Ln xs 39 4 [.ref 2, .int (nI 0), .int (nI 0)] [] (u, ml_h m lm) Φ := (wp_same (S' := [.int (nI 0)]) xd39_0 (Or.inr rfl) rfl).trans ((wp_same (L' := [.ref 2, .int (nI 0), mj_hole]) xd39_1 (Or.inr rfl) rfl).trans ((wp_same (S' := [.int (nI 0)]) xd39_2 (Or.inr rfl) rfl).trans (wp_same (L' := [.ref 2, .int (nI 0), .int (nI 0)]) xd39_3 (Or.inr rfl) rfl)))
theorem x39_4 {x1 : Int32} {x2 : Int32} : wp Ln xs 39 4 [.ref 2, .int x1, .int x2] [] (u, ml_h m lm) Φ = if (m 2 5) ≤ x2 then wp Ln xs 39 29 [.ref 2, .int x1, .int x2] [] (u, ml_h m lm) Φ else wp Ln xs 39 12 [.ref 2, .int x1, .int x2] [] (u, ml_h m lm) Φ := (wp_same xd39_4 (Or.inr rfl) rfl).trans ((wp_same xd39_5 (Or.inr rfl) rfl).trans ((wm_geti xd39_6 rfl (show ml_L[2]? = _ from rfl) rfl (Nat.le_of_ble_eq_true rfl)).trans (wx_icmp xd39_9 rfl rfl ((m 2 5) ≤ x2) mb_ge)))
theorem x39_12 {x1 : Int32} {x2 : Int32} : wp Ln xs 39 12 [.ref 2, .int x1, .int x2] [] (u, ml_h m lm) Φ = wp Ln xs 13 0 [.ref 3, .int x2] [] (u, ml_h m lm) (mk Ln xs 39 18 [.ref 2, .int x1, .int x2] [.int x1] Φ) := (wp_same xd39_12 (Or.inr rfl) rfl).trans ((wp_same xd39_13 (Or.inr rfl) rfl).trans ((wm_getr xd39_14 rfl (show ml_L[2]? = _ from rfl) rfl (Nat.le_of_ble_eq_true rfl)).trans ((wp_same xd39_17 (Or.inr rfl) rfl).trans (wm_cs (As := [.ref 3, .int x2]) (rest := [.int x1]) xd39_18 rfl rfl (Nat.le_of_ble_eq_true rfl) (Nat.le_of_ble_eq_true rfl) (Nat.le_of_ble_eq_true rfl) (Nat.le_of_ble_eq_true rfl)))))
theorem x39_21 {x1 : Int32} {x2 : Int32} {xs0 : Int32} {xs1 : Int32} : wp Ln xs 39 21 [.ref 2, .int x1, .int x2] [.int xs0, .int xs1] (u, ml_h m lm) Φ = wp Ln xs 39 4 [.ref 2, .int (xs1 + xs0), .int (x2 + nI 1)] [] (u, ml_h m lm) Φ := (wp_same xd39_21 (Or.inr rfl) rfl).trans ((wp_same (L' := [.ref 2, .int (xs1 + xs0), .int x2]) xd39_22 (Or.inr rfl) rfl).trans ((wp_same (L' := [.ref 2, .int (xs1 + xs0), .int (x2 + nI 1)]) xd39_23 (Or.inr rfl) rfl).trans (wx_goto xd39_26 rfl)))
theorem x39_29 {x1 : Int32} {x2 : Int32} : wp Ln xs 39 29 [.ref 2, .int x1, .int x2] [] (u, ml_h m lm) Φ = Φ (.inl (some (.int x1))) (u, ml_h m lm) := (wp_same xd39_29 (Or.inr rfl) rfl).trans (wp_fin (v := some (.int x1)) xd39_30 (Or.inr rfl) rfl (mj_fin_i rfl))
/- PickedForms.mixed -/
theorem xd40_0 : decode (mj_b 40) 0 = .ok (.ldc2_w 427, 3) := by decide +kernel
theorem xd40_3 : decode (mj_b 40) 3 = .ok (.lload_n 0, 1) := by decide +kernel
theorem xd40_4 : decode (mj_b 40) 4 = .ok (.lmul, 1) := by decide +kernel
theorem xd40_5 : decode (mj_b 40) 5 = .ok (.lload_n 2, 1) := by decide +kernel
theorem xd40_6 : decode (mj_b 40) 6 = .ok (.ladd, 1) := by decide +kernel
theorem xd40_7 : decode (mj_b 40) 7 = .ok (.lreturn, 1) := by decide +kernel
theorem x40_0 {y0 : Int64} {y2 : Int64} : wp Ln xs 40 0 [.long y0, mj_hole, .long y2, mj_hole] [] (u, ml_h m lm) Φ = Φ (.inl (some (.long ((31 * y0) + y2)))) (u, ml_h m lm) := (wm_ldc2 (v := .long 31) xd40_0 rfl rfl).trans ((wp_same xd40_3 (Or.inr rfl) rfl).trans ((wp_same xd40_4 (Or.inr rfl) rfl).trans ((wp_same xd40_5 (Or.inr rfl) rfl).trans ((wp_same xd40_6 (Or.inr rfl) rfl).trans (wp_fin (v := some (.long ((31 * y0) + y2))) xd40_7 (Or.inr rfl) rfl rfl)))))
/- PickedForms$Column.settingOf -/
theorem xd41_0 : decode (mj_b 41) 0 = .ok (.aload_n 0, 1) := by decide +kernel
theorem xd41_1 : decode (mj_b 41) 1 = .ok (.getfield 24, 3) := by decide +kernel
theorem xd41_4 : decode (mj_b 41) 4 = .ok (.iload_n 1, 1) := by decide +kernel
theorem xd41_5 : decode (mj_b 41) 5 = .ok (.invokestatic 46, 3) := by decide +kernel
theorem xd41_8 : decode (mj_b 41) 8 = .ok (.ireturn, 1) := by decide +kernel
theorem x41_0 {x1 : Int32} : wp Ln xs 41 0 [.ref 2, .int x1] [] (u, ml_h m lm) Φ = wp Ln xs 13 0 [.ref 7, .int x1] [] (u, ml_h m lm) (mk Ln xs 41 5 [.ref 2, .int x1] [] Φ) := (wp_same xd41_0 (Or.inr rfl) rfl).trans ((wm_getr xd41_1 rfl (show ml_L[2]? = _ from rfl) rfl (Nat.le_of_ble_eq_true rfl)).trans ((wp_same xd41_4 (Or.inr rfl) rfl).trans (wm_cs (As := [.ref 7, .int x1]) (rest := []) xd41_5 rfl rfl (Nat.le_of_ble_eq_true rfl) (Nat.le_of_ble_eq_true rfl) (Nat.le_of_ble_eq_true rfl) (Nat.le_of_ble_eq_true rfl))))
theorem x41_8 {x1 : Int32} {xs0 : Int32} : wp Ln xs 41 8 [.ref 2, .int x1] [.int xs0] (u, ml_h m lm) Φ = Φ (.inl (some (.int xs0))) (u, ml_h m lm) := wp_fin (v := some (.int xs0)) xd41_8 (Or.inr rfl) rfl (mj_fin_i rfl)
/- PickedForms.hashOfValues -/
theorem xd42_0 : decode (mj_b 42) 0 = .ok (.lload_n 1, 1) := by decide +kernel
theorem xd42_1 : decode (mj_b 42) 1 = .ok (.lstore_n 3, 1) := by decide +kernel
theorem xd42_2 : decode (mj_b 42) 2 = .ok (.iconst 0, 1) := by decide +kernel
theorem xd42_3 : decode (mj_b 42) 3 = .ok (.istore 5, 2) := by decide +kernel
theorem xd42_5 : decode (mj_b 42) 5 = .ok (.iload 5, 2) := by decide +kernel
theorem xd42_7 : decode (mj_b 42) 7 = .ok (.aload_n 0, 1) := by decide +kernel
theorem xd42_8 : decode (mj_b 42) 8 = .ok (.getfield 12, 3) := by decide +kernel
theorem xd42_11 : decode (mj_b 42) 11 = .ok (.getfield 104, 3) := by decide +kernel
theorem xd42_14 : decode (mj_b 42) 14 = .ok (.if_icmp .ge 38, 3) := by decide +kernel
theorem xd42_17 : decode (mj_b 42) 17 = .ok (.iconst 0, 1) := by decide +kernel
theorem xd42_18 : decode (mj_b 42) 18 = .ok (.istore 6, 2) := by decide +kernel
theorem xd42_20 : decode (mj_b 42) 20 = .ok (.iload 6, 2) := by decide +kernel
theorem xd42_22 : decode (mj_b 42) 22 = .ok (.iconst 3, 1) := by decide +kernel
theorem xd42_23 : decode (mj_b 42) 23 = .ok (.if_icmp .gt 23, 3) := by decide +kernel
theorem xd42_26 : decode (mj_b 42) 26 = .ok (.lload_n 3, 1) := by decide +kernel
theorem xd42_27 : decode (mj_b 42) 27 = .ok (.aload_n 0, 1) := by decide +kernel
theorem xd42_28 : decode (mj_b 42) 28 = .ok (.iload 5, 2) := by decide +kernel
theorem xd42_30 : decode (mj_b 42) 30 = .ok (.iload 6, 2) := by decide +kernel
theorem xd42_32 : decode (mj_b 42) 32 = .ok (.invokevirtual 255, 3) := by decide +kernel
theorem xd42_35 : decode (mj_b 42) 35 = .ok (.i2l, 1) := by decide +kernel
theorem xd42_36 : decode (mj_b 42) 36 = .ok (.invokestatic 321, 3) := by decide +kernel
theorem xd42_39 : decode (mj_b 42) 39 = .ok (.lstore_n 3, 1) := by decide +kernel
theorem xd42_40 : decode (mj_b 42) 40 = .ok (.iinc 6 1, 3) := by decide +kernel
theorem xd42_43 : decode (mj_b 42) 43 = .ok (.goto (-23), 3) := by decide +kernel
theorem xd42_46 : decode (mj_b 42) 46 = .ok (.iinc 5 1, 3) := by decide +kernel
theorem xd42_49 : decode (mj_b 42) 49 = .ok (.goto (-44), 3) := by decide +kernel
theorem xd42_52 : decode (mj_b 42) 52 = .ok (.lload_n 3, 1) := by decide +kernel
theorem xd42_53 : decode (mj_b 42) 53 = .ok (.lreturn, 1) := by decide +kernel
theorem x42_0 {y1 : Int64} : wp Ln xs 42 0 [.ref 1, .long y1, mj_hole, mj_hole, mj_hole, mj_hole, mj_hole] [] (u, ml_h m lm) Φ = wp Ln xs 42 5 [.ref 1, .long y1, mj_hole, .long y1, mj_hole, .int (nI 0), mj_hole] [] (u, ml_h m lm) Φ := (wp_same xd42_0 (Or.inr rfl) rfl).trans ((wp_same (L' := [.ref 1, .long y1, mj_hole, .long y1, mj_hole, mj_hole, mj_hole]) xd42_1 (Or.inr rfl) rfl).trans ((wp_same (S' := [.int (nI 0)]) xd42_2 (Or.inr rfl) rfl).trans (wp_same (L' := [.ref 1, .long y1, mj_hole, .long y1, mj_hole, .int (nI 0), mj_hole]) xd42_3 (Or.inr rfl) rfl)))
theorem x42_5 {y1 : Int64} {y3 : Int64} {x5 : Int32} {v6 : Value} : wp Ln xs 42 5 [.ref 1, .long y1, mj_hole, .long y3, mj_hole, .int x5, v6] [] (u, ml_h m lm) Φ = if (m 2 5) ≤ x5 then wp Ln xs 42 52 [.ref 1, .long y1, mj_hole, .long y3, mj_hole, .int x5, v6] [] (u, ml_h m lm) Φ else wp Ln xs 42 17 [.ref 1, .long y1, mj_hole, .long y3, mj_hole, .int x5, v6] [] (u, ml_h m lm) Φ := (wp_same xd42_5 (Or.inr rfl) rfl).trans ((wp_same xd42_7 (Or.inr rfl) rfl).trans ((wm_getr xd42_8 rfl (show ml_L[1]? = _ from rfl) rfl (Nat.le_of_ble_eq_true rfl)).trans ((wm_geti xd42_11 rfl (show ml_L[2]? = _ from rfl) rfl (Nat.le_of_ble_eq_true rfl)).trans (wx_icmp xd42_14 rfl rfl ((m 2 5) ≤ x5) mb_ge))))
theorem x42_17 {y1 : Int64} {y3 : Int64} {x5 : Int32} {v6 : Value} : wp Ln xs 42 17 [.ref 1, .long y1, mj_hole, .long y3, mj_hole, .int x5, v6] [] (u, ml_h m lm) Φ = wp Ln xs 42 20 [.ref 1, .long y1, mj_hole, .long y3, mj_hole, .int x5, .int (nI 0)] [] (u, ml_h m lm) Φ := (wp_same (S' := [.int (nI 0)]) xd42_17 (Or.inr rfl) rfl).trans (wp_same (L' := [.ref 1, .long y1, mj_hole, .long y3, mj_hole, .int x5, .int (nI 0)]) xd42_18 (Or.inr rfl) rfl)
theorem x42_20 {y1 : Int64} {y3 : Int64} {x5 : Int32} {x6 : Int32} : wp Ln xs 42 20 [.ref 1, .long y1, mj_hole, .long y3, mj_hole, .int x5, .int x6] [] (u, ml_h m lm) Φ = if (nI 3) < x6 then wp Ln xs 42 46 [.ref 1, .long y1, mj_hole, .long y3, mj_hole, .int x5, .int x6] [] (u, ml_h m lm) Φ else wp Ln xs 42 26 [.ref 1, .long y1, mj_hole, .long y3, mj_hole, .int x5, .int x6] [] (u, ml_h m lm) Φ := (wp_same xd42_20 (Or.inr rfl) rfl).trans ((wp_same (S' := [.int (nI 3), .int x6]) xd42_22 (Or.inr rfl) rfl).trans (wx_icmp xd42_23 rfl rfl ((nI 3) < x6) mb_gt))
theorem x42_26 {y1 : Int64} {y3 : Int64} {x5 : Int32} {x6 : Int32} : wp Ln xs 42 26 [.ref 1, .long y1, mj_hole, .long y3, mj_hole, .int x5, .int x6] [] (u, ml_h m lm) Φ = wp Ln xs 43 0 [.ref 1, .int x5, .int x6, mj_hole, mj_hole] [] (u, ml_h m lm) (mk Ln xs 42 32 [.ref 1, .long y1, mj_hole, .long y3, mj_hole, .int x5, .int x6] [.long y3] Φ) := (wp_same xd42_26 (Or.inr rfl) rfl).trans ((wp_same xd42_27 (Or.inr rfl) rfl).trans ((wp_same xd42_28 (Or.inr rfl) rfl).trans ((wp_same xd42_30 (Or.inr rfl) rfl).trans (wm_cv (As := [.int x5, .int x6]) (rest := [.long y3]) xd42_32 rfl rfl (show ml_L[1]? = _ from rfl) (Nat.le_of_ble_eq_true rfl) (Nat.le_of_ble_eq_true rfl) (Nat.le_of_ble_eq_true rfl) (Nat.le_of_ble_eq_true rfl)))))
theorem x42_35 {y1 : Int64} {y3 : Int64} {x5 : Int32} {x6 : Int32} {xs0 : Int32} {ys1 : Int64} : wp Ln xs 42 35 [.ref 1, .long y1, mj_hole, .long y3, mj_hole, .int x5, .int x6] [.int xs0, .long ys1] (u, ml_h m lm) Φ = wp Ln xs 40 0 [.long ys1, mj_hole, .long xs0.toInt64, mj_hole] [] (u, ml_h m lm) (mk Ln xs 42 36 [.ref 1, .long y1, mj_hole, .long y3, mj_hole, .int x5, .int x6] [] Φ) := (wp_same xd42_35 (Or.inr rfl) rfl).trans (wm_cs (As := [.long ys1, .long xs0.toInt64]) (rest := []) xd42_36 rfl rfl (Nat.le_of_ble_eq_true rfl) (Nat.le_of_ble_eq_true rfl) (Nat.le_of_ble_eq_true rfl) (Nat.le_of_ble_eq_true rfl))
theorem x42_39 {y1 : Int64} {y3 : Int64} {x5 : Int32} {x6 : Int32} {ys0 : Int64} : wp Ln xs 42 39 [.ref 1, .long y1, mj_hole, .long y3, mj_hole, .int x5, .int x6] [.long ys0] (u, ml_h m lm) Φ = wp Ln xs 42 20 [.ref 1, .long y1, mj_hole, .long ys0, mj_hole, .int x5, .int (x6 + nI 1)] [] (u, ml_h m lm) Φ := (wp_same (L' := [.ref 1, .long y1, mj_hole, .long ys0, mj_hole, .int x5, .int x6]) xd42_39 (Or.inr rfl) rfl).trans ((wp_same (L' := [.ref 1, .long y1, mj_hole, .long ys0, mj_hole, .int x5, .int (x6 + nI 1)]) xd42_40 (Or.inr rfl) rfl).trans (wx_goto xd42_43 rfl))
theorem x42_46 {y1 : Int64} {y3 : Int64} {x5 : Int32} {x6 : Int32} : wp Ln xs 42 46 [.ref 1, .long y1, mj_hole, .long y3, mj_hole, .int x5, .int x6] [] (u, ml_h m lm) Φ = wp Ln xs 42 5 [.ref 1, .long y1, mj_hole, .long y3, mj_hole, .int (x5 + nI 1), .int x6] [] (u, ml_h m lm) Φ := (wp_same (L' := [.ref 1, .long y1, mj_hole, .long y3, mj_hole, .int (x5 + nI 1), .int x6]) xd42_46 (Or.inr rfl) rfl).trans (wx_goto xd42_49 rfl)
theorem x42_52 {y1 : Int64} {y3 : Int64} {x5 : Int32} {v6 : Value} : wp Ln xs 42 52 [.ref 1, .long y1, mj_hole, .long y3, mj_hole, .int x5, v6] [] (u, ml_h m lm) Φ = Φ (.inl (some (.long y3))) (u, ml_h m lm) := (wp_same xd42_52 (Or.inr rfl) rfl).trans (wp_fin (v := some (.long y3)) xd42_53 (Or.inr rfl) rfl rfl)
/- PickedForms.valueNumber -/
theorem xd43_0 : decode (mj_b 43) 0 = .ok (.aload_n 0, 1) := by decide +kernel
theorem xd43_1 : decode (mj_b 43) 1 = .ok (.getfield 12, 3) := by decide +kernel
theorem xd43_4 : decode (mj_b 43) 4 = .ok (.iload_n 1, 1) := by decide +kernel
theorem xd43_5 : decode (mj_b 43) 5 = .ok (.invokevirtual 151, 3) := by decide +kernel
theorem xd43_8 : decode (mj_b 43) 8 = .ok (.istore_n 3, 1) := by decide +kernel
theorem xd43_9 : decode (mj_b 43) 9 = .ok (.aload_n 0, 1) := by decide +kernel
theorem xd43_10 : decode (mj_b 43) 10 = .ok (.getfield 12, 3) := by decide +kernel
theorem xd43_13 : decode (mj_b 43) 13 = .ok (.iload_n 3, 1) := by decide +kernel
theorem xd43_14 : decode (mj_b 43) 14 = .ok (.iconst (-1), 1) := by decide +kernel
theorem xd43_15 : decode (mj_b 43) 15 = .ok (.if_icmp .ne 13, 3) := by decide +kernel
theorem xd43_18 : decode (mj_b 43) 18 = .ok (.aload_n 0, 1) := by decide +kernel
theorem xd43_19 : decode (mj_b 43) 19 = .ok (.getfield 12, 3) := by decide +kernel
theorem xd43_22 : decode (mj_b 43) 22 = .ok (.getfield 112, 3) := by decide +kernel
theorem xd43_25 : decode (mj_b 43) 25 = .ok (.goto 4, 3) := by decide +kernel
theorem xd43_28 : decode (mj_b 43) 28 = .ok (.iload_n 3, 1) := by decide +kernel
theorem xd43_29 : decode (mj_b 43) 29 = .ok (.invokevirtual 182, 3) := by decide +kernel
theorem xd43_32 : decode (mj_b 43) 32 = .ok (.istore 4, 2) := by decide +kernel
theorem xd43_34 : decode (mj_b 43) 34 = .ok (.iload_n 2, 1) := by decide +kernel
theorem xd43_35 : decode (mj_b 43) 35 = .ok (.tableswitch 44 0 2 #[25, 37, 39], 25) := by decide +kernel
theorem xd43_60 : decode (mj_b 43) 60 = .ok (.aload_n 0, 1) := by decide +kernel
theorem xd43_61 : decode (mj_b 43) 61 = .ok (.getfield 12, 3) := by decide +kernel
theorem xd43_64 : decode (mj_b 43) 64 = .ok (.getfield 139, 3) := by decide +kernel
theorem xd43_67 : decode (mj_b 43) 67 = .ok (.iload_n 1, 1) := by decide +kernel
theorem xd43_68 : decode (mj_b 43) 68 = .ok (.invokestatic 233, 3) := by decide +kernel
theorem xd43_71 : decode (mj_b 43) 71 = .ok (.ireturn, 1) := by decide +kernel
theorem xd43_72 : decode (mj_b 43) 72 = .ok (.iload_n 3, 1) := by decide +kernel
theorem xd43_73 : decode (mj_b 43) 73 = .ok (.ireturn, 1) := by decide +kernel
theorem xd43_74 : decode (mj_b 43) 74 = .ok (.iload_n 1, 1) := by decide +kernel
theorem xd43_75 : decode (mj_b 43) 75 = .ok (.iload 4, 2) := by decide +kernel
theorem xd43_77 : decode (mj_b 43) 77 = .ok (.isub, 1) := by decide +kernel
theorem xd43_78 : decode (mj_b 43) 78 = .ok (.ireturn, 1) := by decide +kernel
theorem xd43_79 : decode (mj_b 43) 79 = .ok (.iload_n 3, 1) := by decide +kernel
theorem xd43_80 : decode (mj_b 43) 80 = .ok (.iconst (-1), 1) := by decide +kernel
theorem xd43_81 : decode (mj_b 43) 81 = .ok (.if_icmp .ne 7, 3) := by decide +kernel
theorem xd43_84 : decode (mj_b 43) 84 = .ok (.iconst 1, 1) := by decide +kernel
theorem xd43_85 : decode (mj_b 43) 85 = .ok (.goto 12, 3) := by decide +kernel
theorem xd43_88 : decode (mj_b 43) 88 = .ok (.aload_n 0, 1) := by decide +kernel
theorem xd43_89 : decode (mj_b 43) 89 = .ok (.iload_n 3, 1) := by decide +kernel
theorem xd43_90 : decode (mj_b 43) 90 = .ok (.iload_n 1, 1) := by decide +kernel
theorem xd43_91 : decode (mj_b 43) 91 = .ok (.iload 4, 2) := by decide +kernel
theorem xd43_93 : decode (mj_b 43) 93 = .ok (.isub, 1) := by decide +kernel
theorem xd43_94 : decode (mj_b 43) 94 = .ok (.invokevirtual 386, 3) := by decide +kernel
theorem xd43_97 : decode (mj_b 43) 97 = .ok (.ireturn, 1) := by decide +kernel
theorem x43_0 {x1 : Int32} {x2 : Int32} : wp Ln xs 43 0 [.ref 1, .int x1, .int x2, mj_hole, mj_hole] [] (u, ml_h m lm) Φ = wp Ln xs 44 0 [.ref 2, .int x1, mj_hole, mj_hole] [] (u, ml_h m lm) (mk Ln xs 43 5 [.ref 1, .int x1, .int x2, mj_hole, mj_hole] [] Φ) := (wp_same xd43_0 (Or.inr rfl) rfl).trans ((wm_getr xd43_1 rfl (show ml_L[1]? = _ from rfl) rfl (Nat.le_of_ble_eq_true rfl)).trans ((wp_same xd43_4 (Or.inr rfl) rfl).trans (wm_cv (As := [.int x1]) (rest := []) xd43_5 rfl rfl (show ml_L[2]? = _ from rfl) (Nat.le_of_ble_eq_true rfl) (Nat.le_of_ble_eq_true rfl) (Nat.le_of_ble_eq_true rfl) (Nat.le_of_ble_eq_true rfl))))
theorem x43_8 {x1 : Int32} {x2 : Int32} {xs0 : Int32} : wp Ln xs 43 8 [.ref 1, .int x1, .int x2, mj_hole, mj_hole] [.int xs0] (u, ml_h m lm) Φ = if ¬ xs0 = ((-1)) then wp Ln xs 43 28 [.ref 1, .int x1, .int x2, .int xs0, mj_hole] [.ref 2] (u, ml_h m lm) Φ else wp Ln xs 43 18 [.ref 1, .int x1, .int x2, .int xs0, mj_hole] [.ref 2] (u, ml_h m lm) Φ := (wp_same (L' := [.ref 1, .int x1, .int x2, .int xs0, mj_hole]) xd43_8 (Or.inr rfl) rfl).trans ((wp_same xd43_9 (Or.inr rfl) rfl).trans ((wm_getr xd43_10 rfl (show ml_L[1]? = _ from rfl) rfl (Nat.le_of_ble_eq_true rfl)).trans ((wp_same xd43_13 (Or.inr rfl) rfl).trans ((wp_same (S' := [.int ((-1)), .int xs0, .ref 2]) xd43_14 (Or.inr rfl) rfl).trans (wx_icmp xd43_15 rfl rfl (¬ xs0 = ((-1))) mb_ne)))))
theorem x43_18 {x1 : Int32} {x2 : Int32} {x3 : Int32} : wp Ln xs 43 18 [.ref 1, .int x1, .int x2, .int x3, mj_hole] [.ref 2] (u, ml_h m lm) Φ = wp Ln xs 43 29 [.ref 1, .int x1, .int x2, .int x3, mj_hole] [.int (m 2 6), .ref 2] (u, ml_h m lm) Φ := (wp_same xd43_18 (Or.inr rfl) rfl).trans ((wm_getr xd43_19 rfl (show ml_L[1]? = _ from rfl) rfl (Nat.le_of_ble_eq_true rfl)).trans ((wm_geti xd43_22 rfl (show ml_L[2]? = _ from rfl) rfl (Nat.le_of_ble_eq_true rfl)).trans (wx_goto xd43_25 rfl)))
theorem x43_28 {x1 : Int32} {x2 : Int32} {x3 : Int32} : wp Ln xs 43 28 [.ref 1, .int x1, .int x2, .int x3, mj_hole] [.ref 2] (u, ml_h m lm) Φ = wp Ln xs 43 29 [.ref 1, .int x1, .int x2, .int x3, mj_hole] [.int x3, .ref 2] (u, ml_h m lm) Φ := wp_same xd43_28 (Or.inr rfl) rfl
theorem x43_29 {x1 : Int32} {x2 : Int32} {x3 : Int32} {xs0 : Int32} : wp Ln xs 43 29 [.ref 1, .int x1, .int x2, .int x3, mj_hole] [.int xs0, .ref 2] (u, ml_h m lm) Φ = wp Ln xs 24 0 [.ref 2, .int xs0, mj_hole, mj_hole] [] (u, ml_h m lm) (mk Ln xs 43 29 [.ref 1, .int x1, .int x2, .int x3, mj_hole] [] Φ) := wm_cv (As := [.int xs0]) (rest := []) xd43_29 rfl rfl (show ml_L[2]? = _ from rfl) (Nat.le_of_ble_eq_true rfl) (Nat.le_of_ble_eq_true rfl) (Nat.le_of_ble_eq_true rfl) (Nat.le_of_ble_eq_true rfl)
theorem x43_32 {x1 : Int32} {x2 : Int32} {x3 : Int32} {xs0 : Int32} : wp Ln xs 43 32 [.ref 1, .int x1, .int x2, .int x3, mj_hole] [.int xs0] (u, ml_h m lm) Φ = wp Ln xs 43 35 [.ref 1, .int x1, .int x2, .int x3, .int xs0] [.int x2] (u, ml_h m lm) Φ := (wp_same (L' := [.ref 1, .int x1, .int x2, .int x3, .int xs0]) xd43_32 (Or.inr rfl) rfl).trans (wp_same xd43_34 (Or.inr rfl) rfl)
theorem x43_35_0 {x1 : Int32} {x2 : Int32} {x3 : Int32} {x4 : Int32} : wp Ln xs 43 35 [.ref 1, .int x1, .int x2, .int x3, .int x4] [.int (nI 0)] (u, ml_h m lm) Φ = wp Ln xs 43 60 [.ref 1, .int x1, .int x2, .int x3, .int x4] [] (u, ml_h m lm) Φ := wp_same xd43_35 (Or.inl rfl) rfl
theorem x43_35_1 {x1 : Int32} {x2 : Int32} {x3 : Int32} {x4 : Int32} : wp Ln xs 43 35 [.ref 1, .int x1, .int x2, .int x3, .int x4] [.int (nI 1)] (u, ml_h m lm) Φ = wp Ln xs 43 72 [.ref 1, .int x1, .int x2, .int x3, .int x4] [] (u, ml_h m lm) Φ := wp_same xd43_35 (Or.inl rfl) rfl
theorem x43_35_2 {x1 : Int32} {x2 : Int32} {x3 : Int32} {x4 : Int32} : wp Ln xs 43 35 [.ref 1, .int x1, .int x2, .int x3, .int x4] [.int (nI 2)] (u, ml_h m lm) Φ = wp Ln xs 43 74 [.ref 1, .int x1, .int x2, .int x3, .int x4] [] (u, ml_h m lm) Φ := wp_same xd43_35 (Or.inl rfl) rfl
theorem x43_35_3 {x1 : Int32} {x2 : Int32} {x3 : Int32} {x4 : Int32} : wp Ln xs 43 35 [.ref 1, .int x1, .int x2, .int x3, .int x4] [.int (nI 3)] (u, ml_h m lm) Φ = wp Ln xs 43 79 [.ref 1, .int x1, .int x2, .int x3, .int x4] [] (u, ml_h m lm) Φ := wp_same xd43_35 (Or.inl rfl) rfl
theorem x43_35_4 {x1 : Int32} {x2 : Int32} {x3 : Int32} {x4 : Int32} : wp Ln xs 43 35 [.ref 1, .int x1, .int x2, .int x3, .int x4] [.int (nI 4)] (u, ml_h m lm) Φ = wp Ln xs 43 79 [.ref 1, .int x1, .int x2, .int x3, .int x4] [] (u, ml_h m lm) Φ := wp_same xd43_35 (Or.inl rfl) rfl
theorem x43_35_5 {x1 : Int32} {x2 : Int32} {x3 : Int32} {x4 : Int32} : wp Ln xs 43 35 [.ref 1, .int x1, .int x2, .int x3, .int x4] [.int (nI 5)] (u, ml_h m lm) Φ = wp Ln xs 43 79 [.ref 1, .int x1, .int x2, .int x3, .int x4] [] (u, ml_h m lm) Φ := wp_same xd43_35 (Or.inl rfl) rfl
theorem x43_60 {x1 : Int32} {x2 : Int32} {x3 : Int32} {x4 : Int32} : wp Ln xs 43 60 [.ref 1, .int x1, .int x2, .int x3, .int x4] [] (u, ml_h m lm) Φ = wp Ln xs 13 0 [.ref 3, .int x1] [] (u, ml_h m lm) (mk Ln xs 43 68 [.ref 1, .int x1, .int x2, .int x3, .int x4] [] Φ) := (wp_same xd43_60 (Or.inr rfl) rfl).trans ((wm_getr xd43_61 rfl (show ml_L[1]? = _ from rfl) rfl (Nat.le_of_ble_eq_true rfl)).trans ((wm_getr xd43_64 rfl (show ml_L[2]? = _ from rfl) rfl (Nat.le_of_ble_eq_true rfl)).trans ((wp_same xd43_67 (Or.inr rfl) rfl).trans (wm_cs (As := [.ref 3, .int x1]) (rest := []) xd43_68 rfl rfl (Nat.le_of_ble_eq_true rfl) (Nat.le_of_ble_eq_true rfl) (Nat.le_of_ble_eq_true rfl) (Nat.le_of_ble_eq_true rfl)))))
theorem x43_71 {x1 : Int32} {x2 : Int32} {x3 : Int32} {x4 : Int32} {xs0 : Int32} : wp Ln xs 43 71 [.ref 1, .int x1, .int x2, .int x3, .int x4] [.int xs0] (u, ml_h m lm) Φ = Φ (.inl (some (.int xs0))) (u, ml_h m lm) := wp_fin (v := some (.int xs0)) xd43_71 (Or.inr rfl) rfl (mj_fin_i rfl)
theorem x43_72 {x1 : Int32} {x2 : Int32} {x3 : Int32} {x4 : Int32} : wp Ln xs 43 72 [.ref 1, .int x1, .int x2, .int x3, .int x4] [] (u, ml_h m lm) Φ = Φ (.inl (some (.int x3))) (u, ml_h m lm) := (wp_same xd43_72 (Or.inr rfl) rfl).trans (wp_fin (v := some (.int x3)) xd43_73 (Or.inr rfl) rfl (mj_fin_i rfl))
theorem x43_74 {x1 : Int32} {x2 : Int32} {x3 : Int32} {x4 : Int32} : wp Ln xs 43 74 [.ref 1, .int x1, .int x2, .int x3, .int x4] [] (u, ml_h m lm) Φ = Φ (.inl (some (.int (x1 - x4)))) (u, ml_h m lm) := (wp_same xd43_74 (Or.inr rfl) rfl).trans ((wp_same xd43_75 (Or.inr rfl) rfl).trans ((wp_same xd43_77 (Or.inr rfl) rfl).trans (wp_fin (v := some (.int (x1 - x4))) xd43_78 (Or.inr rfl) rfl (mj_fin_i rfl))))
theorem x43_79 {x1 : Int32} {x2 : Int32} {x3 : Int32} {x4 : Int32} : wp Ln xs 43 79 [.ref 1, .int x1, .int x2, .int x3, .int x4] [] (u, ml_h m lm) Φ = if ¬ x3 = ((-1)) then wp Ln xs 43 88 [.ref 1, .int x1, .int x2, .int x3, .int x4] [] (u, ml_h m lm) Φ else wp Ln xs 43 84 [.ref 1, .int x1, .int x2, .int x3, .int x4] [] (u, ml_h m lm) Φ := (wp_same xd43_79 (Or.inr rfl) rfl).trans ((wp_same (S' := [.int ((-1)), .int x3]) xd43_80 (Or.inr rfl) rfl).trans (wx_icmp xd43_81 rfl rfl (¬ x3 = ((-1))) mb_ne))
theorem x43_84 {x1 : Int32} {x2 : Int32} {x3 : Int32} {x4 : Int32} : wp Ln xs 43 84 [.ref 1, .int x1, .int x2, .int x3, .int x4] [] (u, ml_h m lm) Φ = Φ (.inl (some (.int (nI 1)))) (u, ml_h m lm) := (wp_same (S' := [.int (nI 1)]) xd43_84 (Or.inr rfl) rfl).trans ((wx_goto xd43_85 rfl).trans (wp_fin (v := some (.int (nI 1))) xd43_97 (Or.inr rfl) rfl (mj_fin_i rfl)))
theorem x43_88 {x1 : Int32} {x2 : Int32} {x3 : Int32} {x4 : Int32} : wp Ln xs 43 88 [.ref 1, .int x1, .int x2, .int x3, .int x4] [] (u, ml_h m lm) Φ = wp Ln xs 45 0 [.ref 1, .int x3, .int (x1 - x4)] [] (u, ml_h m lm) (mk Ln xs 43 94 [.ref 1, .int x1, .int x2, .int x3, .int x4] [] Φ) := (wp_same xd43_88 (Or.inr rfl) rfl).trans ((wp_same xd43_89 (Or.inr rfl) rfl).trans ((wp_same xd43_90 (Or.inr rfl) rfl).trans ((wp_same xd43_91 (Or.inr rfl) rfl).trans ((wp_same xd43_93 (Or.inr rfl) rfl).trans (wm_cv (As := [.int x3, .int (x1 - x4)]) (rest := []) xd43_94 rfl rfl (show ml_L[1]? = _ from rfl) (Nat.le_of_ble_eq_true rfl) (Nat.le_of_ble_eq_true rfl) (Nat.le_of_ble_eq_true rfl) (Nat.le_of_ble_eq_true rfl))))))
theorem x43_97 {x1 : Int32} {x2 : Int32} {x3 : Int32} {x4 : Int32} {xs0 : Int32} : wp Ln xs 43 97 [.ref 1, .int x1, .int x2, .int x3, .int x4] [.int xs0] (u, ml_h m lm) Φ = Φ (.inl (some (.int xs0))) (u, ml_h m lm) := wp_fin (v := some (.int xs0)) xd43_97 (Or.inr rfl) rfl (mj_fin_i rfl)
/- PickedForms$Column.blockOf -/
theorem xd44_0 : decode (mj_b 44) 0 = .ok (.iconst 0, 1) := by decide +kernel
theorem xd44_1 : decode (mj_b 44) 1 = .ok (.istore_n 2, 1) := by decide +kernel
theorem xd44_2 : decode (mj_b 44) 2 = .ok (.iconst 0, 1) := by decide +kernel
theorem xd44_3 : decode (mj_b 44) 3 = .ok (.istore_n 3, 1) := by decide +kernel
theorem xd44_4 : decode (mj_b 44) 4 = .ok (.iload_n 3, 1) := by decide +kernel
theorem xd44_5 : decode (mj_b 44) 5 = .ok (.aload_n 0, 1) := by decide +kernel
theorem xd44_6 : decode (mj_b 44) 6 = .ok (.getfield 31, 3) := by decide +kernel
theorem xd44_9 : decode (mj_b 44) 9 = .ok (.if_icmp .ge 27, 3) := by decide +kernel
theorem xd44_12 : decode (mj_b 44) 12 = .ok (.iload_n 2, 1) := by decide +kernel
theorem xd44_13 : decode (mj_b 44) 13 = .ok (.aload_n 0, 1) := by decide +kernel
theorem xd44_14 : decode (mj_b 44) 14 = .ok (.getfield 15, 3) := by decide +kernel
theorem xd44_17 : decode (mj_b 44) 17 = .ok (.iload_n 3, 1) := by decide +kernel
theorem xd44_18 : decode (mj_b 44) 18 = .ok (.invokestatic 46, 3) := by decide +kernel
theorem xd44_21 : decode (mj_b 44) 21 = .ok (.iadd, 1) := by decide +kernel
theorem xd44_22 : decode (mj_b 44) 22 = .ok (.istore_n 2, 1) := by decide +kernel
theorem xd44_23 : decode (mj_b 44) 23 = .ok (.iload_n 1, 1) := by decide +kernel
theorem xd44_24 : decode (mj_b 44) 24 = .ok (.iload_n 2, 1) := by decide +kernel
theorem xd44_25 : decode (mj_b 44) 25 = .ok (.if_icmp .ge 5, 3) := by decide +kernel
theorem xd44_28 : decode (mj_b 44) 28 = .ok (.iload_n 3, 1) := by decide +kernel
theorem xd44_29 : decode (mj_b 44) 29 = .ok (.ireturn, 1) := by decide +kernel
theorem xd44_30 : decode (mj_b 44) 30 = .ok (.iinc 3 1, 3) := by decide +kernel
theorem xd44_33 : decode (mj_b 44) 33 = .ok (.goto (-29), 3) := by decide +kernel
theorem xd44_36 : decode (mj_b 44) 36 = .ok (.iconst (-1), 1) := by decide +kernel
theorem xd44_37 : decode (mj_b 44) 37 = .ok (.ireturn, 1) := by decide +kernel
theorem x44_0 {x1 : Int32} : wp Ln xs 44 0 [.ref 2, .int x1, mj_hole, mj_hole] [] (u, ml_h m lm) Φ = wp Ln xs 44 4 [.ref 2, .int x1, .int (nI 0), .int (nI 0)] [] (u, ml_h m lm) Φ := (wp_same (S' := [.int (nI 0)]) xd44_0 (Or.inr rfl) rfl).trans ((wp_same (L' := [.ref 2, .int x1, .int (nI 0), mj_hole]) xd44_1 (Or.inr rfl) rfl).trans ((wp_same (S' := [.int (nI 0)]) xd44_2 (Or.inr rfl) rfl).trans (wp_same (L' := [.ref 2, .int x1, .int (nI 0), .int (nI 0)]) xd44_3 (Or.inr rfl) rfl)))
theorem x44_4 {x1 : Int32} {x2 : Int32} {x3 : Int32} : wp Ln xs 44 4 [.ref 2, .int x1, .int x2, .int x3] [] (u, ml_h m lm) Φ = if (m 2 6) ≤ x3 then wp Ln xs 44 36 [.ref 2, .int x1, .int x2, .int x3] [] (u, ml_h m lm) Φ else wp Ln xs 44 12 [.ref 2, .int x1, .int x2, .int x3] [] (u, ml_h m lm) Φ := (wp_same xd44_4 (Or.inr rfl) rfl).trans ((wp_same xd44_5 (Or.inr rfl) rfl).trans ((wm_geti xd44_6 rfl (show ml_L[2]? = _ from rfl) rfl (Nat.le_of_ble_eq_true rfl)).trans (wx_icmp xd44_9 rfl rfl ((m 2 6) ≤ x3) mb_ge)))
theorem x44_12 {x1 : Int32} {x2 : Int32} {x3 : Int32} : wp Ln xs 44 12 [.ref 2, .int x1, .int x2, .int x3] [] (u, ml_h m lm) Φ = wp Ln xs 13 0 [.ref 4, .int x3] [] (u, ml_h m lm) (mk Ln xs 44 18 [.ref 2, .int x1, .int x2, .int x3] [.int x2] Φ) := (wp_same xd44_12 (Or.inr rfl) rfl).trans ((wp_same xd44_13 (Or.inr rfl) rfl).trans ((wm_getr xd44_14 rfl (show ml_L[2]? = _ from rfl) rfl (Nat.le_of_ble_eq_true rfl)).trans ((wp_same xd44_17 (Or.inr rfl) rfl).trans (wm_cs (As := [.ref 4, .int x3]) (rest := [.int x2]) xd44_18 rfl rfl (Nat.le_of_ble_eq_true rfl) (Nat.le_of_ble_eq_true rfl) (Nat.le_of_ble_eq_true rfl) (Nat.le_of_ble_eq_true rfl)))))
theorem x44_21 {x1 : Int32} {x2 : Int32} {x3 : Int32} {xs0 : Int32} {xs1 : Int32} : wp Ln xs 44 21 [.ref 2, .int x1, .int x2, .int x3] [.int xs0, .int xs1] (u, ml_h m lm) Φ = if (xs1 + xs0) ≤ x1 then wp Ln xs 44 30 [.ref 2, .int x1, .int (xs1 + xs0), .int x3] [] (u, ml_h m lm) Φ else wp Ln xs 44 28 [.ref 2, .int x1, .int (xs1 + xs0), .int x3] [] (u, ml_h m lm) Φ := (wp_same xd44_21 (Or.inr rfl) rfl).trans ((wp_same (L' := [.ref 2, .int x1, .int (xs1 + xs0), .int x3]) xd44_22 (Or.inr rfl) rfl).trans ((wp_same xd44_23 (Or.inr rfl) rfl).trans ((wp_same xd44_24 (Or.inr rfl) rfl).trans (wx_icmp xd44_25 rfl rfl ((xs1 + xs0) ≤ x1) mb_ge))))
theorem x44_28 {x1 : Int32} {x2 : Int32} {x3 : Int32} : wp Ln xs 44 28 [.ref 2, .int x1, .int x2, .int x3] [] (u, ml_h m lm) Φ = Φ (.inl (some (.int x3))) (u, ml_h m lm) := (wp_same xd44_28 (Or.inr rfl) rfl).trans (wp_fin (v := some (.int x3)) xd44_29 (Or.inr rfl) rfl (mj_fin_i rfl))
theorem x44_30 {x1 : Int32} {x2 : Int32} {x3 : Int32} : wp Ln xs 44 30 [.ref 2, .int x1, .int x2, .int x3] [] (u, ml_h m lm) Φ = wp Ln xs 44 4 [.ref 2, .int x1, .int x2, .int (x3 + nI 1)] [] (u, ml_h m lm) Φ := (wp_same (L' := [.ref 2, .int x1, .int x2, .int (x3 + nI 1)]) xd44_30 (Or.inr rfl) rfl).trans (wx_goto xd44_33 rfl)
theorem x44_36 {x1 : Int32} {x2 : Int32} {x3 : Int32} : wp Ln xs 44 36 [.ref 2, .int x1, .int x2, .int x3] [] (u, ml_h m lm) Φ = Φ (.inl (some (.int ((-1))))) (u, ml_h m lm) := (wp_same (S' := [.int ((-1))]) xd44_36 (Or.inr rfl) rfl).trans (wp_fin (v := some (.int ((-1)))) xd44_37 (Or.inr rfl) rfl (mj_fin_i rfl))
/- PickedForms.looksInBlock -/
theorem xd45_0 : decode (mj_b 45) 0 = .ok (.aload_n 0, 1) := by decide +kernel
theorem xd45_1 : decode (mj_b 45) 1 = .ok (.getfield 12, 3) := by decide +kernel
theorem xd45_4 : decode (mj_b 45) 4 = .ok (.iload_n 1, 1) := by decide +kernel
theorem xd45_5 : decode (mj_b 45) 5 = .ok (.invokevirtual 123, 3) := by decide +kernel
theorem xd45_8 : decode (mj_b 45) 8 = .ok (.tableswitch 67 2 4 #[28, 61, 65], 28) := by decide +kernel
theorem xd45_36 : decode (mj_b 45) 36 = .ok (.aload_n 0, 1) := by decide +kernel
theorem xd45_37 : decode (mj_b 45) 37 = .ok (.getfield 40, 3) := by decide +kernel
theorem xd45_40 : decode (mj_b 45) 40 = .ok (.aload_n 0, 1) := by decide +kernel
theorem xd45_41 : decode (mj_b 45) 41 = .ok (.getfield 12, 3) := by decide +kernel
theorem xd45_44 : decode (mj_b 45) 44 = .ok (.getfield 139, 3) := by decide +kernel
theorem xd45_47 : decode (mj_b 45) 47 = .ok (.aload_n 0, 1) := by decide +kernel
theorem xd45_48 : decode (mj_b 45) 48 = .ok (.getfield 12, 3) := by decide +kernel
theorem xd45_51 : decode (mj_b 45) 51 = .ok (.iload_n 1, 1) := by decide +kernel
theorem xd45_52 : decode (mj_b 45) 52 = .ok (.invokevirtual 182, 3) := by decide +kernel
theorem xd45_55 : decode (mj_b 45) 55 = .ok (.iload_n 2, 1) := by decide +kernel
theorem xd45_56 : decode (mj_b 45) 56 = .ok (.iconst 1, 1) := by decide +kernel
theorem xd45_57 : decode (mj_b 45) 57 = .ok (.iadd, 1) := by decide +kernel
theorem xd45_58 : decode (mj_b 45) 58 = .ok (.invokevirtual 379, 3) := by decide +kernel
theorem xd45_61 : decode (mj_b 45) 61 = .ok (.aload_n 0, 1) := by decide +kernel
theorem xd45_62 : decode (mj_b 45) 62 = .ok (.getfield 40, 3) := by decide +kernel
theorem xd45_65 : decode (mj_b 45) 65 = .ok (.getfield 389, 3) := by decide +kernel
theorem xd45_68 : decode (mj_b 45) 68 = .ok (.ireturn, 1) := by decide +kernel
theorem xd45_69 : decode (mj_b 45) 69 = .ok (.iload_n 2, 1) := by decide +kernel
theorem xd45_70 : decode (mj_b 45) 70 = .ok (.iconst 1, 1) := by decide +kernel
theorem xd45_71 : decode (mj_b 45) 71 = .ok (.iadd, 1) := by decide +kernel
theorem xd45_72 : decode (mj_b 45) 72 = .ok (.ireturn, 1) := by decide +kernel
theorem xd45_73 : decode (mj_b 45) 73 = .ok (.iconst 2, 1) := by decide +kernel
theorem xd45_74 : decode (mj_b 45) 74 = .ok (.ireturn, 1) := by decide +kernel
theorem xd45_75 : decode (mj_b 45) 75 = .ok (.iconst 1, 1) := by decide +kernel
theorem xd45_76 : decode (mj_b 45) 76 = .ok (.ireturn, 1) := by decide +kernel
theorem x45_0 {x1 : Int32} {x2 : Int32} : wp Ln xs 45 0 [.ref 1, .int x1, .int x2] [] (u, ml_h m lm) Φ = wp Ln xs 36 0 [.ref 2, .int x1] [] (u, ml_h m lm) (mk Ln xs 45 5 [.ref 1, .int x1, .int x2] [] Φ) := (wp_same xd45_0 (Or.inr rfl) rfl).trans ((wm_getr xd45_1 rfl (show ml_L[1]? = _ from rfl) rfl (Nat.le_of_ble_eq_true rfl)).trans ((wp_same xd45_4 (Or.inr rfl) rfl).trans (wm_cv (As := [.int x1]) (rest := []) xd45_5 rfl rfl (show ml_L[2]? = _ from rfl) (Nat.le_of_ble_eq_true rfl) (Nat.le_of_ble_eq_true rfl) (Nat.le_of_ble_eq_true rfl) (Nat.le_of_ble_eq_true rfl))))
theorem x45_8_0 {x1 : Int32} {x2 : Int32} : wp Ln xs 45 8 [.ref 1, .int x1, .int x2] [.int (nI 0)] (u, ml_h m lm) Φ = wp Ln xs 45 75 [.ref 1, .int x1, .int x2] [] (u, ml_h m lm) Φ := wp_same xd45_8 (Or.inl rfl) rfl
theorem x45_8_1 {x1 : Int32} {x2 : Int32} : wp Ln xs 45 8 [.ref 1, .int x1, .int x2] [.int (nI 1)] (u, ml_h m lm) Φ = wp Ln xs 45 75 [.ref 1, .int x1, .int x2] [] (u, ml_h m lm) Φ := wp_same xd45_8 (Or.inl rfl) rfl
theorem x45_8_2 {x1 : Int32} {x2 : Int32} : wp Ln xs 45 8 [.ref 1, .int x1, .int x2] [.int (nI 2)] (u, ml_h m lm) Φ = wp Ln xs 45 36 [.ref 1, .int x1, .int x2] [] (u, ml_h m lm) Φ := wp_same xd45_8 (Or.inl rfl) rfl
theorem x45_8_3 {x1 : Int32} {x2 : Int32} : wp Ln xs 45 8 [.ref 1, .int x1, .int x2] [.int (nI 3)] (u, ml_h m lm) Φ = wp Ln xs 45 69 [.ref 1, .int x1, .int x2] [] (u, ml_h m lm) Φ := wp_same xd45_8 (Or.inl rfl) rfl
theorem x45_8_4 {x1 : Int32} {x2 : Int32} : wp Ln xs 45 8 [.ref 1, .int x1, .int x2] [.int (nI 4)] (u, ml_h m lm) Φ = wp Ln xs 45 73 [.ref 1, .int x1, .int x2] [] (u, ml_h m lm) Φ := wp_same xd45_8 (Or.inl rfl) rfl
theorem x45_8_5 {x1 : Int32} {x2 : Int32} : wp Ln xs 45 8 [.ref 1, .int x1, .int x2] [.int (nI 5)] (u, ml_h m lm) Φ = wp Ln xs 45 75 [.ref 1, .int x1, .int x2] [] (u, ml_h m lm) Φ := wp_same xd45_8 (Or.inl rfl) rfl
theorem x45_8_6 {x1 : Int32} {x2 : Int32} : wp Ln xs 45 8 [.ref 1, .int x1, .int x2] [.int (nI 6)] (u, ml_h m lm) Φ = wp Ln xs 45 75 [.ref 1, .int x1, .int x2] [] (u, ml_h m lm) Φ := wp_same xd45_8 (Or.inl rfl) rfl
theorem x45_8_7 {x1 : Int32} {x2 : Int32} : wp Ln xs 45 8 [.ref 1, .int x1, .int x2] [.int (nI 7)] (u, ml_h m lm) Φ = wp Ln xs 45 75 [.ref 1, .int x1, .int x2] [] (u, ml_h m lm) Φ := wp_same xd45_8 (Or.inl rfl) rfl
theorem x45_36 {x1 : Int32} {x2 : Int32} : wp Ln xs 45 36 [.ref 1, .int x1, .int x2] [] (u, ml_h m lm) Φ = wp Ln xs 24 0 [.ref 2, .int x1, mj_hole, mj_hole] [] (u, ml_h m lm) (mk Ln xs 45 52 [.ref 1, .int x1, .int x2] [.ref 3, .ref 56] Φ) := (wp_same xd45_36 (Or.inr rfl) rfl).trans ((wm_getr xd45_37 rfl (show ml_L[1]? = _ from rfl) rfl (Nat.le_of_ble_eq_true rfl)).trans ((wp_same xd45_40 (Or.inr rfl) rfl).trans ((wm_getr xd45_41 rfl (show ml_L[1]? = _ from rfl) rfl (Nat.le_of_ble_eq_true rfl)).trans ((wm_getr xd45_44 rfl (show ml_L[2]? = _ from rfl) rfl (Nat.le_of_ble_eq_true rfl)).trans ((wp_same xd45_47 (Or.inr rfl) rfl).trans ((wm_getr xd45_48 rfl (show ml_L[1]? = _ from rfl) rfl (Nat.le_of_ble_eq_true rfl)).trans ((wp_same xd45_51 (Or.inr rfl) rfl).trans (wm_cv (As := [.int x1]) (rest := [.ref 3, .ref 56]) xd45_52 rfl rfl (show ml_L[2]? = _ from rfl) (Nat.le_of_ble_eq_true rfl) (Nat.le_of_ble_eq_true rfl) (Nat.le_of_ble_eq_true rfl) (Nat.le_of_ble_eq_true rfl)))))))))
theorem x45_55 {x1 : Int32} {x2 : Int32} {xs0 : Int32} : wp Ln xs 45 55 [.ref 1, .int x1, .int x2] [.int xs0, .ref 3, .ref 56] (u, ml_h m lm) Φ = wp Ln xs 31 0 [.ref 56, .ref 3, .int xs0, .int (x2 + (nI 1)), mj_hole] [] (u, ml_h m lm) (mk Ln xs 45 58 [.ref 1, .int x1, .int x2] [] Φ) := (wp_same xd45_55 (Or.inr rfl) rfl).trans ((wp_same (S' := [.int (nI 1), .int x2, .int xs0, .ref 3, .ref 56]) xd45_56 (Or.inr rfl) rfl).trans ((wp_same xd45_57 (Or.inr rfl) rfl).trans (wm_cv (As := [.ref 3, .int xs0, .int (x2 + (nI 1))]) (rest := []) xd45_58 rfl rfl (show ml_L[56]? = _ from rfl) (Nat.le_of_ble_eq_true rfl) (Nat.le_of_ble_eq_true rfl) (Nat.le_of_ble_eq_true rfl) (Nat.le_of_ble_eq_true rfl))))
theorem x45_61 {x1 : Int32} {x2 : Int32} : wp Ln xs 45 61 [.ref 1, .int x1, .int x2] [] (u, ml_h m lm) Φ = Φ (.inl (some (.int (m 56 5)))) (u, ml_h m lm) := (wp_same xd45_61 (Or.inr rfl) rfl).trans ((wm_getr xd45_62 rfl (show ml_L[1]? = _ from rfl) rfl (Nat.le_of_ble_eq_true rfl)).trans ((wm_geti xd45_65 rfl (show ml_L[56]? = _ from rfl) rfl (Nat.le_of_ble_eq_true rfl)).trans (wp_fin (v := some (.int (m 56 5))) xd45_68 (Or.inr rfl) rfl (mj_fin_i rfl))))
theorem x45_69 {x1 : Int32} {x2 : Int32} : wp Ln xs 45 69 [.ref 1, .int x1, .int x2] [] (u, ml_h m lm) Φ = Φ (.inl (some (.int (x2 + (nI 1))))) (u, ml_h m lm) := (wp_same xd45_69 (Or.inr rfl) rfl).trans ((wp_same (S' := [.int (nI 1), .int x2]) xd45_70 (Or.inr rfl) rfl).trans ((wp_same xd45_71 (Or.inr rfl) rfl).trans (wp_fin (v := some (.int (x2 + (nI 1)))) xd45_72 (Or.inr rfl) rfl (mj_fin_i rfl))))
theorem x45_73 {x1 : Int32} {x2 : Int32} : wp Ln xs 45 73 [.ref 1, .int x1, .int x2] [] (u, ml_h m lm) Φ = Φ (.inl (some (.int (nI 2)))) (u, ml_h m lm) := (wp_same (S' := [.int (nI 2)]) xd45_73 (Or.inr rfl) rfl).trans (wp_fin (v := some (.int (nI 2))) xd45_74 (Or.inr rfl) rfl (mj_fin_i rfl))
theorem x45_75 {x1 : Int32} {x2 : Int32} : wp Ln xs 45 75 [.ref 1, .int x1, .int x2] [] (u, ml_h m lm) Φ = Φ (.inl (some (.int (nI 1)))) (u, ml_h m lm) := (wp_same (S' := [.int (nI 1)]) xd45_75 (Or.inr rfl) rfl).trans (wp_fin (v := some (.int (nI 1))) xd45_76 (Or.inr rfl) rfl (mj_fin_i rfl))
/- PickedForms.hashOfBlocks -/
theorem xd46_0 : decode (mj_b 46) 0 = .ok (.lload_n 1, 1) := by decide +kernel
theorem xd46_1 : decode (mj_b 46) 1 = .ok (.lstore_n 3, 1) := by decide +kernel
theorem xd46_2 : decode (mj_b 46) 2 = .ok (.iconst 0, 1) := by decide +kernel
theorem xd46_3 : decode (mj_b 46) 3 = .ok (.istore 5, 2) := by decide +kernel
theorem xd46_5 : decode (mj_b 46) 5 = .ok (.iload 5, 2) := by decide +kernel
theorem xd46_7 : decode (mj_b 46) 7 = .ok (.aload_n 0, 1) := by decide +kernel
theorem xd46_8 : decode (mj_b 46) 8 = .ok (.getfield 12, 3) := by decide +kernel
theorem xd46_11 : decode (mj_b 46) 11 = .ok (.getfield 112, 3) := by decide +kernel
theorem xd46_14 : decode (mj_b 46) 14 = .ok (.if_icmp .ge 126, 3) := by decide +kernel
theorem xd46_17 : decode (mj_b 46) 17 = .ok (.iconst 0, 1) := by decide +kernel
theorem xd46_18 : decode (mj_b 46) 18 = .ok (.istore 6, 2) := by decide +kernel
theorem xd46_20 : decode (mj_b 46) 20 = .ok (.iload 6, 2) := by decide +kernel
theorem xd46_22 : decode (mj_b 46) 22 = .ok (.bipush 9, 2) := by decide +kernel
theorem xd46_24 : decode (mj_b 46) 24 = .ok (.if_icmp .gt 23, 3) := by decide +kernel
theorem xd46_27 : decode (mj_b 46) 27 = .ok (.lload_n 3, 1) := by decide +kernel
theorem xd46_28 : decode (mj_b 46) 28 = .ok (.aload_n 0, 1) := by decide +kernel
theorem xd46_29 : decode (mj_b 46) 29 = .ok (.iload 5, 2) := by decide +kernel
theorem xd46_31 : decode (mj_b 46) 31 = .ok (.iload 6, 2) := by decide +kernel
theorem xd46_33 : decode (mj_b 46) 33 = .ok (.invokevirtual 260, 3) := by decide +kernel
theorem xd46_36 : decode (mj_b 46) 36 = .ok (.i2l, 1) := by decide +kernel
theorem xd46_37 : decode (mj_b 46) 37 = .ok (.invokestatic 321, 3) := by decide +kernel
theorem xd46_40 : decode (mj_b 46) 40 = .ok (.lstore_n 3, 1) := by decide +kernel
theorem xd46_41 : decode (mj_b 46) 41 = .ok (.iinc 6 1, 3) := by decide +kernel
theorem xd46_44 : decode (mj_b 46) 44 = .ok (.goto (-24), 3) := by decide +kernel
theorem xd46_47 : decode (mj_b 46) 47 = .ok (.aload_n 0, 1) := by decide +kernel
theorem xd46_48 : decode (mj_b 46) 48 = .ok (.iload 5, 2) := by decide +kernel
theorem xd46_50 : decode (mj_b 46) 50 = .ok (.invokevirtual 273, 3) := by decide +kernel
theorem xd46_53 : decode (mj_b 46) 53 = .ok (.iconst 0, 1) := by decide +kernel
theorem xd46_54 : decode (mj_b 46) 54 = .ok (.istore 6, 2) := by decide +kernel
theorem xd46_56 : decode (mj_b 46) 56 = .ok (.iload 6, 2) := by decide +kernel
theorem xd46_58 : decode (mj_b 46) 58 = .ok (.iconst 5, 1) := by decide +kernel
theorem xd46_59 : decode (mj_b 46) 59 = .ok (.if_icmp .ge 24, 3) := by decide +kernel
theorem xd46_62 : decode (mj_b 46) 62 = .ok (.lload_n 3, 1) := by decide +kernel
theorem xd46_63 : decode (mj_b 46) 63 = .ok (.aload_n 0, 1) := by decide +kernel
theorem xd46_64 : decode (mj_b 46) 64 = .ok (.getfield 40, 3) := by decide +kernel
theorem xd46_67 : decode (mj_b 46) 67 = .ok (.iload 6, 2) := by decide +kernel
theorem xd46_69 : decode (mj_b 46) 69 = .ok (.invokevirtual 268, 3) := by decide +kernel
theorem xd46_72 : decode (mj_b 46) 72 = .ok (.i2l, 1) := by decide +kernel
theorem xd46_73 : decode (mj_b 46) 73 = .ok (.invokestatic 321, 3) := by decide +kernel
theorem xd46_76 : decode (mj_b 46) 76 = .ok (.lstore_n 3, 1) := by decide +kernel
theorem xd46_77 : decode (mj_b 46) 77 = .ok (.iinc 6 1, 3) := by decide +kernel
theorem xd46_80 : decode (mj_b 46) 80 = .ok (.goto (-24), 3) := by decide +kernel
theorem xd46_83 : decode (mj_b 46) 83 = .ok (.iconst 0, 1) := by decide +kernel
theorem xd46_84 : decode (mj_b 46) 84 = .ok (.istore 6, 2) := by decide +kernel
theorem xd46_86 : decode (mj_b 46) 86 = .ok (.iload 6, 2) := by decide +kernel
theorem xd46_88 : decode (mj_b 46) 88 = .ok (.aload_n 0, 1) := by decide +kernel
theorem xd46_89 : decode (mj_b 46) 89 = .ok (.getfield 68, 3) := by decide +kernel
theorem xd46_92 : decode (mj_b 46) 92 = .ok (.getfield 276, 3) := by decide +kernel
theorem xd46_95 : decode (mj_b 46) 95 = .ok (.if_icmp .ge 27, 3) := by decide +kernel
theorem xd46_98 : decode (mj_b 46) 98 = .ok (.lload_n 3, 1) := by decide +kernel
theorem xd46_99 : decode (mj_b 46) 99 = .ok (.aload_n 0, 1) := by decide +kernel
theorem xd46_100 : decode (mj_b 46) 100 = .ok (.getfield 68, 3) := by decide +kernel
theorem xd46_103 : decode (mj_b 46) 103 = .ok (.getfield 277, 3) := by decide +kernel
theorem xd46_106 : decode (mj_b 46) 106 = .ok (.iload 6, 2) := by decide +kernel
theorem xd46_108 : decode (mj_b 46) 108 = .ok (.invokestatic 233, 3) := by decide +kernel
theorem xd46_111 : decode (mj_b 46) 111 = .ok (.i2l, 1) := by decide +kernel
theorem xd46_112 : decode (mj_b 46) 112 = .ok (.invokestatic 321, 3) := by decide +kernel
theorem xd46_115 : decode (mj_b 46) 115 = .ok (.lstore_n 3, 1) := by decide +kernel
theorem xd46_116 : decode (mj_b 46) 116 = .ok (.iinc 6 1, 3) := by decide +kernel
theorem xd46_119 : decode (mj_b 46) 119 = .ok (.goto (-33), 3) := by decide +kernel
theorem xd46_122 : decode (mj_b 46) 122 = .ok (.lload_n 3, 1) := by decide +kernel
theorem xd46_123 : decode (mj_b 46) 123 = .ok (.aload_n 0, 1) := by decide +kernel
theorem xd46_124 : decode (mj_b 46) 124 = .ok (.iload 5, 2) := by decide +kernel
theorem xd46_126 : decode (mj_b 46) 126 = .ok (.invokevirtual 296, 3) := by decide +kernel
theorem xd46_129 : decode (mj_b 46) 129 = .ok (.i2l, 1) := by decide +kernel
theorem xd46_130 : decode (mj_b 46) 130 = .ok (.invokestatic 321, 3) := by decide +kernel
theorem xd46_133 : decode (mj_b 46) 133 = .ok (.lstore_n 3, 1) := by decide +kernel
theorem xd46_134 : decode (mj_b 46) 134 = .ok (.iinc 5 1, 3) := by decide +kernel
theorem xd46_137 : decode (mj_b 46) 137 = .ok (.goto (-132), 3) := by decide +kernel
theorem xd46_140 : decode (mj_b 46) 140 = .ok (.lload_n 3, 1) := by decide +kernel
theorem xd46_141 : decode (mj_b 46) 141 = .ok (.lreturn, 1) := by decide +kernel
theorem x46_0 {y1 : Int64} : wp Ln xs 46 0 [.ref 1, .long y1, mj_hole, mj_hole, mj_hole, mj_hole, mj_hole] [] (u, ml_h m lm) Φ = wp Ln xs 46 5 [.ref 1, .long y1, mj_hole, .long y1, mj_hole, .int (nI 0), mj_hole] [] (u, ml_h m lm) Φ := (wp_same xd46_0 (Or.inr rfl) rfl).trans ((wp_same (L' := [.ref 1, .long y1, mj_hole, .long y1, mj_hole, mj_hole, mj_hole]) xd46_1 (Or.inr rfl) rfl).trans ((wp_same (S' := [.int (nI 0)]) xd46_2 (Or.inr rfl) rfl).trans (wp_same (L' := [.ref 1, .long y1, mj_hole, .long y1, mj_hole, .int (nI 0), mj_hole]) xd46_3 (Or.inr rfl) rfl)))
theorem x46_5 {y1 : Int64} {y3 : Int64} {x5 : Int32} {v6 : Value} : wp Ln xs 46 5 [.ref 1, .long y1, mj_hole, .long y3, mj_hole, .int x5, v6] [] (u, ml_h m lm) Φ = if (m 2 6) ≤ x5 then wp Ln xs 46 140 [.ref 1, .long y1, mj_hole, .long y3, mj_hole, .int x5, v6] [] (u, ml_h m lm) Φ else wp Ln xs 46 17 [.ref 1, .long y1, mj_hole, .long y3, mj_hole, .int x5, v6] [] (u, ml_h m lm) Φ := (wp_same xd46_5 (Or.inr rfl) rfl).trans ((wp_same xd46_7 (Or.inr rfl) rfl).trans ((wm_getr xd46_8 rfl (show ml_L[1]? = _ from rfl) rfl (Nat.le_of_ble_eq_true rfl)).trans ((wm_geti xd46_11 rfl (show ml_L[2]? = _ from rfl) rfl (Nat.le_of_ble_eq_true rfl)).trans (wx_icmp xd46_14 rfl rfl ((m 2 6) ≤ x5) mb_ge))))
theorem x46_17 {y1 : Int64} {y3 : Int64} {x5 : Int32} {v6 : Value} : wp Ln xs 46 17 [.ref 1, .long y1, mj_hole, .long y3, mj_hole, .int x5, v6] [] (u, ml_h m lm) Φ = wp Ln xs 46 20 [.ref 1, .long y1, mj_hole, .long y3, mj_hole, .int x5, .int (nI 0)] [] (u, ml_h m lm) Φ := (wp_same (S' := [.int (nI 0)]) xd46_17 (Or.inr rfl) rfl).trans (wp_same (L' := [.ref 1, .long y1, mj_hole, .long y3, mj_hole, .int x5, .int (nI 0)]) xd46_18 (Or.inr rfl) rfl)
theorem x46_20 {y1 : Int64} {y3 : Int64} {x5 : Int32} {x6 : Int32} : wp Ln xs 46 20 [.ref 1, .long y1, mj_hole, .long y3, mj_hole, .int x5, .int x6] [] (u, ml_h m lm) Φ = if (nI 9) < x6 then wp Ln xs 46 47 [.ref 1, .long y1, mj_hole, .long y3, mj_hole, .int x5, .int x6] [] (u, ml_h m lm) Φ else wp Ln xs 46 27 [.ref 1, .long y1, mj_hole, .long y3, mj_hole, .int x5, .int x6] [] (u, ml_h m lm) Φ := (wp_same xd46_20 (Or.inr rfl) rfl).trans ((wp_same (S' := [.int (nI 9), .int x6]) xd46_22 (Or.inr rfl) rfl).trans (wx_icmp xd46_24 rfl rfl ((nI 9) < x6) mb_gt))
theorem x46_27 {y1 : Int64} {y3 : Int64} {x5 : Int32} {x6 : Int32} : wp Ln xs 46 27 [.ref 1, .long y1, mj_hole, .long y3, mj_hole, .int x5, .int x6] [] (u, ml_h m lm) Φ = wp Ln xs 47 0 [.ref 1, .int x5, .int x6] [] (u, ml_h m lm) (mk Ln xs 46 33 [.ref 1, .long y1, mj_hole, .long y3, mj_hole, .int x5, .int x6] [.long y3] Φ) := (wp_same xd46_27 (Or.inr rfl) rfl).trans ((wp_same xd46_28 (Or.inr rfl) rfl).trans ((wp_same xd46_29 (Or.inr rfl) rfl).trans ((wp_same xd46_31 (Or.inr rfl) rfl).trans (wm_cv (As := [.int x5, .int x6]) (rest := [.long y3]) xd46_33 rfl rfl (show ml_L[1]? = _ from rfl) (Nat.le_of_ble_eq_true rfl) (Nat.le_of_ble_eq_true rfl) (Nat.le_of_ble_eq_true rfl) (Nat.le_of_ble_eq_true rfl)))))
theorem x46_36 {y1 : Int64} {y3 : Int64} {x5 : Int32} {x6 : Int32} {xs0 : Int32} {ys1 : Int64} : wp Ln xs 46 36 [.ref 1, .long y1, mj_hole, .long y3, mj_hole, .int x5, .int x6] [.int xs0, .long ys1] (u, ml_h m lm) Φ = wp Ln xs 40 0 [.long ys1, mj_hole, .long xs0.toInt64, mj_hole] [] (u, ml_h m lm) (mk Ln xs 46 37 [.ref 1, .long y1, mj_hole, .long y3, mj_hole, .int x5, .int x6] [] Φ) := (wp_same xd46_36 (Or.inr rfl) rfl).trans (wm_cs (As := [.long ys1, .long xs0.toInt64]) (rest := []) xd46_37 rfl rfl (Nat.le_of_ble_eq_true rfl) (Nat.le_of_ble_eq_true rfl) (Nat.le_of_ble_eq_true rfl) (Nat.le_of_ble_eq_true rfl))
theorem x46_40 {y1 : Int64} {y3 : Int64} {x5 : Int32} {x6 : Int32} {ys0 : Int64} : wp Ln xs 46 40 [.ref 1, .long y1, mj_hole, .long y3, mj_hole, .int x5, .int x6] [.long ys0] (u, ml_h m lm) Φ = wp Ln xs 46 20 [.ref 1, .long y1, mj_hole, .long ys0, mj_hole, .int x5, .int (x6 + nI 1)] [] (u, ml_h m lm) Φ := (wp_same (L' := [.ref 1, .long y1, mj_hole, .long ys0, mj_hole, .int x5, .int x6]) xd46_40 (Or.inr rfl) rfl).trans ((wp_same (L' := [.ref 1, .long y1, mj_hole, .long ys0, mj_hole, .int x5, .int (x6 + nI 1)]) xd46_41 (Or.inr rfl) rfl).trans (wx_goto xd46_44 rfl))
theorem x46_47 {y1 : Int64} {y3 : Int64} {x5 : Int32} {x6 : Int32} : wp Ln xs 46 47 [.ref 1, .long y1, mj_hole, .long y3, mj_hole, .int x5, .int x6] [] (u, ml_h m lm) Φ = wp Ln xs 51 0 [.ref 1, .int x5] [] (u, ml_h m lm) (mk Ln xs 46 50 [.ref 1, .long y1, mj_hole, .long y3, mj_hole, .int x5, .int x6] [] Φ) := (wp_same xd46_47 (Or.inr rfl) rfl).trans ((wp_same xd46_48 (Or.inr rfl) rfl).trans (wm_cv (As := [.int x5]) (rest := []) xd46_50 rfl rfl (show ml_L[1]? = _ from rfl) (Nat.le_of_ble_eq_true rfl) (Nat.le_of_ble_eq_true rfl) (Nat.le_of_ble_eq_true rfl) (Nat.le_of_ble_eq_true rfl)))
theorem x46_53 {y1 : Int64} {y3 : Int64} {x5 : Int32} {x6 : Int32} : wp Ln xs 46 53 [.ref 1, .long y1, mj_hole, .long y3, mj_hole, .int x5, .int x6] [] (u, ml_h m lm) Φ = wp Ln xs 46 56 [.ref 1, .long y1, mj_hole, .long y3, mj_hole, .int x5, .int (nI 0)] [] (u, ml_h m lm) Φ := (wp_same (S' := [.int (nI 0)]) xd46_53 (Or.inr rfl) rfl).trans (wp_same (L' := [.ref 1, .long y1, mj_hole, .long y3, mj_hole, .int x5, .int (nI 0)]) xd46_54 (Or.inr rfl) rfl)
theorem x46_56 {y1 : Int64} {y3 : Int64} {x5 : Int32} {x6 : Int32} : wp Ln xs 46 56 [.ref 1, .long y1, mj_hole, .long y3, mj_hole, .int x5, .int x6] [] (u, ml_h m lm) Φ = if (nI 5) ≤ x6 then wp Ln xs 46 83 [.ref 1, .long y1, mj_hole, .long y3, mj_hole, .int x5, .int x6] [] (u, ml_h m lm) Φ else wp Ln xs 46 62 [.ref 1, .long y1, mj_hole, .long y3, mj_hole, .int x5, .int x6] [] (u, ml_h m lm) Φ := (wp_same xd46_56 (Or.inr rfl) rfl).trans ((wp_same (S' := [.int (nI 5), .int x6]) xd46_58 (Or.inr rfl) rfl).trans (wx_icmp xd46_59 rfl rfl ((nI 5) ≤ x6) mb_ge))
theorem x46_62 {y1 : Int64} {y3 : Int64} {x5 : Int32} {x6 : Int32} : wp Ln xs 46 62 [.ref 1, .long y1, mj_hole, .long y3, mj_hole, .int x5, .int x6] [] (u, ml_h m lm) Φ = wp Ln xs 37 0 [.ref 56, .int x6] [] (u, ml_h m lm) (mk Ln xs 46 69 [.ref 1, .long y1, mj_hole, .long y3, mj_hole, .int x5, .int x6] [.long y3] Φ) := (wp_same xd46_62 (Or.inr rfl) rfl).trans ((wp_same xd46_63 (Or.inr rfl) rfl).trans ((wm_getr xd46_64 rfl (show ml_L[1]? = _ from rfl) rfl (Nat.le_of_ble_eq_true rfl)).trans ((wp_same xd46_67 (Or.inr rfl) rfl).trans (wm_cv (As := [.int x6]) (rest := [.long y3]) xd46_69 rfl rfl (show ml_L[56]? = _ from rfl) (Nat.le_of_ble_eq_true rfl) (Nat.le_of_ble_eq_true rfl) (Nat.le_of_ble_eq_true rfl) (Nat.le_of_ble_eq_true rfl)))))
theorem x46_72 {y1 : Int64} {y3 : Int64} {x5 : Int32} {x6 : Int32} {xs0 : Int32} {ys1 : Int64} : wp Ln xs 46 72 [.ref 1, .long y1, mj_hole, .long y3, mj_hole, .int x5, .int x6] [.int xs0, .long ys1] (u, ml_h m lm) Φ = wp Ln xs 40 0 [.long ys1, mj_hole, .long xs0.toInt64, mj_hole] [] (u, ml_h m lm) (mk Ln xs 46 73 [.ref 1, .long y1, mj_hole, .long y3, mj_hole, .int x5, .int x6] [] Φ) := (wp_same xd46_72 (Or.inr rfl) rfl).trans (wm_cs (As := [.long ys1, .long xs0.toInt64]) (rest := []) xd46_73 rfl rfl (Nat.le_of_ble_eq_true rfl) (Nat.le_of_ble_eq_true rfl) (Nat.le_of_ble_eq_true rfl) (Nat.le_of_ble_eq_true rfl))
theorem x46_76 {y1 : Int64} {y3 : Int64} {x5 : Int32} {x6 : Int32} {ys0 : Int64} : wp Ln xs 46 76 [.ref 1, .long y1, mj_hole, .long y3, mj_hole, .int x5, .int x6] [.long ys0] (u, ml_h m lm) Φ = wp Ln xs 46 56 [.ref 1, .long y1, mj_hole, .long ys0, mj_hole, .int x5, .int (x6 + nI 1)] [] (u, ml_h m lm) Φ := (wp_same (L' := [.ref 1, .long y1, mj_hole, .long ys0, mj_hole, .int x5, .int x6]) xd46_76 (Or.inr rfl) rfl).trans ((wp_same (L' := [.ref 1, .long y1, mj_hole, .long ys0, mj_hole, .int x5, .int (x6 + nI 1)]) xd46_77 (Or.inr rfl) rfl).trans (wx_goto xd46_80 rfl))
theorem x46_83 {y1 : Int64} {y3 : Int64} {x5 : Int32} {x6 : Int32} : wp Ln xs 46 83 [.ref 1, .long y1, mj_hole, .long y3, mj_hole, .int x5, .int x6] [] (u, ml_h m lm) Φ = wp Ln xs 46 86 [.ref 1, .long y1, mj_hole, .long y3, mj_hole, .int x5, .int (nI 0)] [] (u, ml_h m lm) Φ := (wp_same (S' := [.int (nI 0)]) xd46_83 (Or.inr rfl) rfl).trans (wp_same (L' := [.ref 1, .long y1, mj_hole, .long y3, mj_hole, .int x5, .int (nI 0)]) xd46_84 (Or.inr rfl) rfl)
theorem x46_86 {y1 : Int64} {y3 : Int64} {x5 : Int32} {x6 : Int32} : wp Ln xs 46 86 [.ref 1, .long y1, mj_hole, .long y3, mj_hole, .int x5, .int x6] [] (u, ml_h m lm) Φ = if (m 69 1) ≤ x6 then wp Ln xs 46 122 [.ref 1, .long y1, mj_hole, .long y3, mj_hole, .int x5, .int x6] [] (u, ml_h m lm) Φ else wp Ln xs 46 98 [.ref 1, .long y1, mj_hole, .long y3, mj_hole, .int x5, .int x6] [] (u, ml_h m lm) Φ := (wp_same xd46_86 (Or.inr rfl) rfl).trans ((wp_same xd46_88 (Or.inr rfl) rfl).trans ((wm_getr xd46_89 rfl (show ml_L[1]? = _ from rfl) rfl (Nat.le_of_ble_eq_true rfl)).trans ((wm_geti xd46_92 rfl (show ml_L[69]? = _ from rfl) rfl (Nat.le_of_ble_eq_true rfl)).trans (wx_icmp xd46_95 rfl rfl ((m 69 1) ≤ x6) mb_ge))))
theorem x46_98 {y1 : Int64} {y3 : Int64} {x5 : Int32} {x6 : Int32} : wp Ln xs 46 98 [.ref 1, .long y1, mj_hole, .long y3, mj_hole, .int x5, .int x6] [] (u, ml_h m lm) Φ = wp Ln xs 13 0 [.ref 70, .int x6] [] (u, ml_h m lm) (mk Ln xs 46 108 [.ref 1, .long y1, mj_hole, .long y3, mj_hole, .int x5, .int x6] [.long y3] Φ) := (wp_same xd46_98 (Or.inr rfl) rfl).trans ((wp_same xd46_99 (Or.inr rfl) rfl).trans ((wm_getr xd46_100 rfl (show ml_L[1]? = _ from rfl) rfl (Nat.le_of_ble_eq_true rfl)).trans ((wm_getr xd46_103 rfl (show ml_L[69]? = _ from rfl) rfl (Nat.le_of_ble_eq_true rfl)).trans ((wp_same xd46_106 (Or.inr rfl) rfl).trans (wm_cs (As := [.ref 70, .int x6]) (rest := [.long y3]) xd46_108 rfl rfl (Nat.le_of_ble_eq_true rfl) (Nat.le_of_ble_eq_true rfl) (Nat.le_of_ble_eq_true rfl) (Nat.le_of_ble_eq_true rfl))))))
theorem x46_111 {y1 : Int64} {y3 : Int64} {x5 : Int32} {x6 : Int32} {xs0 : Int32} {ys1 : Int64} : wp Ln xs 46 111 [.ref 1, .long y1, mj_hole, .long y3, mj_hole, .int x5, .int x6] [.int xs0, .long ys1] (u, ml_h m lm) Φ = wp Ln xs 40 0 [.long ys1, mj_hole, .long xs0.toInt64, mj_hole] [] (u, ml_h m lm) (mk Ln xs 46 112 [.ref 1, .long y1, mj_hole, .long y3, mj_hole, .int x5, .int x6] [] Φ) := (wp_same xd46_111 (Or.inr rfl) rfl).trans (wm_cs (As := [.long ys1, .long xs0.toInt64]) (rest := []) xd46_112 rfl rfl (Nat.le_of_ble_eq_true rfl) (Nat.le_of_ble_eq_true rfl) (Nat.le_of_ble_eq_true rfl) (Nat.le_of_ble_eq_true rfl))
theorem x46_115 {y1 : Int64} {y3 : Int64} {x5 : Int32} {x6 : Int32} {ys0 : Int64} : wp Ln xs 46 115 [.ref 1, .long y1, mj_hole, .long y3, mj_hole, .int x5, .int x6] [.long ys0] (u, ml_h m lm) Φ = wp Ln xs 46 86 [.ref 1, .long y1, mj_hole, .long ys0, mj_hole, .int x5, .int (x6 + nI 1)] [] (u, ml_h m lm) Φ := (wp_same (L' := [.ref 1, .long y1, mj_hole, .long ys0, mj_hole, .int x5, .int x6]) xd46_115 (Or.inr rfl) rfl).trans ((wp_same (L' := [.ref 1, .long y1, mj_hole, .long ys0, mj_hole, .int x5, .int (x6 + nI 1)]) xd46_116 (Or.inr rfl) rfl).trans (wx_goto xd46_119 rfl))
theorem x46_122 {y1 : Int64} {y3 : Int64} {x5 : Int32} {x6 : Int32} : wp Ln xs 46 122 [.ref 1, .long y1, mj_hole, .long y3, mj_hole, .int x5, .int x6] [] (u, ml_h m lm) Φ = wp Ln xs 61 0 [.ref 1, .int x5, mj_hole, mj_hole, mj_hole, mj_hole, mj_hole, mj_hole] [] (u, ml_h m lm) (mk Ln xs 46 126 [.ref 1, .long y1, mj_hole, .long y3, mj_hole, .int x5, .int x6] [.long y3] Φ) := (wp_same xd46_122 (Or.inr rfl) rfl).trans ((wp_same xd46_123 (Or.inr rfl) rfl).trans ((wp_same xd46_124 (Or.inr rfl) rfl).trans (wm_cv (As := [.int x5]) (rest := [.long y3]) xd46_126 rfl rfl (show ml_L[1]? = _ from rfl) (Nat.le_of_ble_eq_true rfl) (Nat.le_of_ble_eq_true rfl) (Nat.le_of_ble_eq_true rfl) (Nat.le_of_ble_eq_true rfl))))
theorem x46_129 {y1 : Int64} {y3 : Int64} {x5 : Int32} {x6 : Int32} {xs0 : Int32} {ys1 : Int64} : wp Ln xs 46 129 [.ref 1, .long y1, mj_hole, .long y3, mj_hole, .int x5, .int x6] [.int xs0, .long ys1] (u, ml_h m lm) Φ = wp Ln xs 40 0 [.long ys1, mj_hole, .long xs0.toInt64, mj_hole] [] (u, ml_h m lm) (mk Ln xs 46 130 [.ref 1, .long y1, mj_hole, .long y3, mj_hole, .int x5, .int x6] [] Φ) := (wp_same xd46_129 (Or.inr rfl) rfl).trans (wm_cs (As := [.long ys1, .long xs0.toInt64]) (rest := []) xd46_130 rfl rfl (Nat.le_of_ble_eq_true rfl) (Nat.le_of_ble_eq_true rfl) (Nat.le_of_ble_eq_true rfl) (Nat.le_of_ble_eq_true rfl))
theorem x46_133 {y1 : Int64} {y3 : Int64} {x5 : Int32} {x6 : Int32} {ys0 : Int64} : wp Ln xs 46 133 [.ref 1, .long y1, mj_hole, .long y3, mj_hole, .int x5, .int x6] [.long ys0] (u, ml_h m lm) Φ = wp Ln xs 46 5 [.ref 1, .long y1, mj_hole, .long ys0, mj_hole, .int (x5 + nI 1), .int x6] [] (u, ml_h m lm) Φ := (wp_same (L' := [.ref 1, .long y1, mj_hole, .long ys0, mj_hole, .int x5, .int x6]) xd46_133 (Or.inr rfl) rfl).trans ((wp_same (L' := [.ref 1, .long y1, mj_hole, .long ys0, mj_hole, .int (x5 + nI 1), .int x6]) xd46_134 (Or.inr rfl) rfl).trans (wx_goto xd46_137 rfl))
theorem x46_140 {y1 : Int64} {y3 : Int64} {x5 : Int32} {v6 : Value} : wp Ln xs 46 140 [.ref 1, .long y1, mj_hole, .long y3, mj_hole, .int x5, v6] [] (u, ml_h m lm) Φ = Φ (.inl (some (.long y3))) (u, ml_h m lm) := (wp_same xd46_140 (Or.inr rfl) rfl).trans (wp_fin (v := some (.long y3)) xd46_141 (Or.inr rfl) rfl rfl)
/- PickedForms.blockNumber -/
theorem xd47_0 : decode (mj_b 47) 0 = .ok (.aload_n 0, 1) := by decide +kernel
theorem xd47_1 : decode (mj_b 47) 1 = .ok (.iload_n 1, 1) := by decide +kernel
theorem xd47_2 : decode (mj_b 47) 2 = .ok (.invokevirtual 265, 3) := by decide +kernel
theorem xd47_5 : decode (mj_b 47) 5 = .ok (.iload_n 2, 1) := by decide +kernel
theorem xd47_6 : decode (mj_b 47) 6 = .ok (.tableswitch 170 0 8 #[50, 59, 68, 84, 93, 101, 109, 117, 125], 50) := by decide +kernel
theorem xd47_56 : decode (mj_b 47) 56 = .ok (.aload_n 0, 1) := by decide +kernel
theorem xd47_57 : decode (mj_b 47) 57 = .ok (.getfield 12, 3) := by decide +kernel
theorem xd47_60 : decode (mj_b 47) 60 = .ok (.iload_n 1, 1) := by decide +kernel
theorem xd47_61 : decode (mj_b 47) 61 = .ok (.invokevirtual 123, 3) := by decide +kernel
theorem xd47_64 : decode (mj_b 47) 64 = .ok (.ireturn, 1) := by decide +kernel
theorem xd47_65 : decode (mj_b 47) 65 = .ok (.aload_n 0, 1) := by decide +kernel
theorem xd47_66 : decode (mj_b 47) 66 = .ok (.getfield 12, 3) := by decide +kernel
theorem xd47_69 : decode (mj_b 47) 69 = .ok (.iload_n 1, 1) := by decide +kernel
theorem xd47_70 : decode (mj_b 47) 70 = .ok (.invokevirtual 164, 3) := by decide +kernel
theorem xd47_73 : decode (mj_b 47) 73 = .ok (.ireturn, 1) := by decide +kernel
theorem xd47_74 : decode (mj_b 47) 74 = .ok (.aload_n 0, 1) := by decide +kernel
theorem xd47_75 : decode (mj_b 47) 75 = .ok (.getfield 40, 3) := by decide +kernel
theorem xd47_78 : decode (mj_b 47) 78 = .ok (.aload_n 0, 1) := by decide +kernel
theorem xd47_79 : decode (mj_b 47) 79 = .ok (.getfield 12, 3) := by decide +kernel
theorem xd47_82 : decode (mj_b 47) 82 = .ok (.iload_n 1, 1) := by decide +kernel
theorem xd47_83 : decode (mj_b 47) 83 = .ok (.invokevirtual 123, 3) := by decide +kernel
theorem xd47_86 : decode (mj_b 47) 86 = .ok (.invokevirtual 268, 3) := by decide +kernel
theorem xd47_89 : decode (mj_b 47) 89 = .ok (.ireturn, 1) := by decide +kernel
theorem xd47_90 : decode (mj_b 47) 90 = .ok (.aload_n 0, 1) := by decide +kernel
theorem xd47_91 : decode (mj_b 47) 91 = .ok (.getfield 12, 3) := by decide +kernel
theorem xd47_94 : decode (mj_b 47) 94 = .ok (.iload_n 1, 1) := by decide +kernel
theorem xd47_95 : decode (mj_b 47) 95 = .ok (.invokevirtual 159, 3) := by decide +kernel
theorem xd47_98 : decode (mj_b 47) 98 = .ok (.ireturn, 1) := by decide +kernel
theorem xd47_99 : decode (mj_b 47) 99 = .ok (.aload_n 0, 1) := by decide +kernel
theorem xd47_100 : decode (mj_b 47) 100 = .ok (.getfield 40, 3) := by decide +kernel
theorem xd47_103 : decode (mj_b 47) 103 = .ok (.getfield 392, 3) := by decide +kernel
theorem xd47_106 : decode (mj_b 47) 106 = .ok (.ireturn, 1) := by decide +kernel
theorem xd47_107 : decode (mj_b 47) 107 = .ok (.aload_n 0, 1) := by decide +kernel
theorem xd47_108 : decode (mj_b 47) 108 = .ok (.getfield 40, 3) := by decide +kernel
theorem xd47_111 : decode (mj_b 47) 111 = .ok (.getfield 395, 3) := by decide +kernel
theorem xd47_114 : decode (mj_b 47) 114 = .ok (.ireturn, 1) := by decide +kernel
theorem xd47_115 : decode (mj_b 47) 115 = .ok (.aload_n 0, 1) := by decide +kernel
theorem xd47_116 : decode (mj_b 47) 116 = .ok (.getfield 40, 3) := by decide +kernel
theorem xd47_119 : decode (mj_b 47) 119 = .ok (.getfield 389, 3) := by decide +kernel
theorem xd47_122 : decode (mj_b 47) 122 = .ok (.ireturn, 1) := by decide +kernel
theorem xd47_123 : decode (mj_b 47) 123 = .ok (.aload_n 0, 1) := by decide +kernel
theorem xd47_124 : decode (mj_b 47) 124 = .ok (.getfield 40, 3) := by decide +kernel
theorem xd47_127 : decode (mj_b 47) 127 = .ok (.getfield 398, 3) := by decide +kernel
theorem xd47_130 : decode (mj_b 47) 130 = .ok (.ireturn, 1) := by decide +kernel
theorem xd47_131 : decode (mj_b 47) 131 = .ok (.aload_n 0, 1) := by decide +kernel
theorem xd47_132 : decode (mj_b 47) 132 = .ok (.getfield 47, 3) := by decide +kernel
theorem xd47_135 : decode (mj_b 47) 135 = .ok (.aload_n 0, 1) := by decide +kernel
theorem xd47_136 : decode (mj_b 47) 136 = .ok (.getfield 12, 3) := by decide +kernel
theorem xd47_139 : decode (mj_b 47) 139 = .ok (.getfield 139, 3) := by decide +kernel
theorem xd47_142 : decode (mj_b 47) 142 = .ok (.aload_n 0, 1) := by decide +kernel
theorem xd47_143 : decode (mj_b 47) 143 = .ok (.getfield 12, 3) := by decide +kernel
theorem xd47_146 : decode (mj_b 47) 146 = .ok (.iload_n 1, 1) := by decide +kernel
theorem xd47_147 : decode (mj_b 47) 147 = .ok (.invokevirtual 182, 3) := by decide +kernel
theorem xd47_150 : decode (mj_b 47) 150 = .ok (.aload_n 0, 1) := by decide +kernel
theorem xd47_151 : decode (mj_b 47) 151 = .ok (.getfield 12, 3) := by decide +kernel
theorem xd47_154 : decode (mj_b 47) 154 = .ok (.iload_n 1, 1) := by decide +kernel
theorem xd47_155 : decode (mj_b 47) 155 = .ok (.invokevirtual 164, 3) := by decide +kernel
theorem xd47_158 : decode (mj_b 47) 158 = .ok (.aload_n 0, 1) := by decide +kernel
theorem xd47_159 : decode (mj_b 47) 159 = .ok (.getfield 12, 3) := by decide +kernel
theorem xd47_162 : decode (mj_b 47) 162 = .ok (.getfield 203, 3) := by decide +kernel
theorem xd47_165 : decode (mj_b 47) 165 = .ok (.invokevirtual 360, 3) := by decide +kernel
theorem xd47_168 : decode (mj_b 47) 168 = .ok (.aload_n 0, 1) := by decide +kernel
theorem xd47_169 : decode (mj_b 47) 169 = .ok (.getfield 47, 3) := by decide +kernel
theorem xd47_172 : decode (mj_b 47) 172 = .ok (.getfield 367, 3) := by decide +kernel
theorem xd47_175 : decode (mj_b 47) 175 = .ok (.ireturn, 1) := by decide +kernel
theorem xd47_176 : decode (mj_b 47) 176 = .ok (.aload_n 0, 1) := by decide +kernel
theorem xd47_177 : decode (mj_b 47) 177 = .ok (.getfield 12, 3) := by decide +kernel
theorem xd47_180 : decode (mj_b 47) 180 = .ok (.iload_n 1, 1) := by decide +kernel
theorem xd47_181 : decode (mj_b 47) 181 = .ok (.invokevirtual 182, 3) := by decide +kernel
theorem xd47_184 : decode (mj_b 47) 184 = .ok (.ireturn, 1) := by decide +kernel
theorem x47_0 {x1 : Int32} {x2 : Int32} : wp Ln xs 47 0 [.ref 1, .int x1, .int x2] [] (u, ml_h m lm) Φ = wp Ln xs 29 0 [.ref 1, .int x1] [] (u, ml_h m lm) (mk Ln xs 47 2 [.ref 1, .int x1, .int x2] [] Φ) := (wp_same xd47_0 (Or.inr rfl) rfl).trans ((wp_same xd47_1 (Or.inr rfl) rfl).trans (wm_cv (As := [.int x1]) (rest := []) xd47_2 rfl rfl (show ml_L[1]? = _ from rfl) (Nat.le_of_ble_eq_true rfl) (Nat.le_of_ble_eq_true rfl) (Nat.le_of_ble_eq_true rfl) (Nat.le_of_ble_eq_true rfl)))
theorem x47_5 {x1 : Int32} {x2 : Int32} : wp Ln xs 47 5 [.ref 1, .int x1, .int x2] [] (u, ml_h m lm) Φ = wp Ln xs 47 6 [.ref 1, .int x1, .int x2] [.int x2] (u, ml_h m lm) Φ := wp_same xd47_5 (Or.inr rfl) rfl
theorem x47_6_0 {x1 : Int32} {x2 : Int32} : wp Ln xs 47 6 [.ref 1, .int x1, .int x2] [.int (nI 0)] (u, ml_h m lm) Φ = wp Ln xs 47 56 [.ref 1, .int x1, .int x2] [] (u, ml_h m lm) Φ := wp_same xd47_6 (Or.inl rfl) rfl
theorem x47_6_1 {x1 : Int32} {x2 : Int32} : wp Ln xs 47 6 [.ref 1, .int x1, .int x2] [.int (nI 1)] (u, ml_h m lm) Φ = wp Ln xs 47 65 [.ref 1, .int x1, .int x2] [] (u, ml_h m lm) Φ := wp_same xd47_6 (Or.inl rfl) rfl
theorem x47_6_2 {x1 : Int32} {x2 : Int32} : wp Ln xs 47 6 [.ref 1, .int x1, .int x2] [.int (nI 2)] (u, ml_h m lm) Φ = wp Ln xs 47 74 [.ref 1, .int x1, .int x2] [] (u, ml_h m lm) Φ := wp_same xd47_6 (Or.inl rfl) rfl
theorem x47_6_3 {x1 : Int32} {x2 : Int32} : wp Ln xs 47 6 [.ref 1, .int x1, .int x2] [.int (nI 3)] (u, ml_h m lm) Φ = wp Ln xs 47 90 [.ref 1, .int x1, .int x2] [] (u, ml_h m lm) Φ := wp_same xd47_6 (Or.inl rfl) rfl
theorem x47_6_4 {x1 : Int32} {x2 : Int32} : wp Ln xs 47 6 [.ref 1, .int x1, .int x2] [.int (nI 4)] (u, ml_h m lm) Φ = wp Ln xs 47 99 [.ref 1, .int x1, .int x2] [] (u, ml_h m lm) Φ := wp_same xd47_6 (Or.inl rfl) rfl
theorem x47_6_5 {x1 : Int32} {x2 : Int32} : wp Ln xs 47 6 [.ref 1, .int x1, .int x2] [.int (nI 5)] (u, ml_h m lm) Φ = wp Ln xs 47 107 [.ref 1, .int x1, .int x2] [] (u, ml_h m lm) Φ := wp_same xd47_6 (Or.inl rfl) rfl
theorem x47_6_6 {x1 : Int32} {x2 : Int32} : wp Ln xs 47 6 [.ref 1, .int x1, .int x2] [.int (nI 6)] (u, ml_h m lm) Φ = wp Ln xs 47 115 [.ref 1, .int x1, .int x2] [] (u, ml_h m lm) Φ := wp_same xd47_6 (Or.inl rfl) rfl
theorem x47_6_7 {x1 : Int32} {x2 : Int32} : wp Ln xs 47 6 [.ref 1, .int x1, .int x2] [.int (nI 7)] (u, ml_h m lm) Φ = wp Ln xs 47 123 [.ref 1, .int x1, .int x2] [] (u, ml_h m lm) Φ := wp_same xd47_6 (Or.inl rfl) rfl
theorem x47_6_8 {x1 : Int32} {x2 : Int32} : wp Ln xs 47 6 [.ref 1, .int x1, .int x2] [.int (nI 8)] (u, ml_h m lm) Φ = wp Ln xs 47 131 [.ref 1, .int x1, .int x2] [] (u, ml_h m lm) Φ := wp_same xd47_6 (Or.inl rfl) rfl
theorem x47_6_9 {x1 : Int32} {x2 : Int32} : wp Ln xs 47 6 [.ref 1, .int x1, .int x2] [.int (nI 9)] (u, ml_h m lm) Φ = wp Ln xs 47 176 [.ref 1, .int x1, .int x2] [] (u, ml_h m lm) Φ := wp_same xd47_6 (Or.inl rfl) rfl
theorem x47_6_10 {x1 : Int32} {x2 : Int32} : wp Ln xs 47 6 [.ref 1, .int x1, .int x2] [.int (nI 10)] (u, ml_h m lm) Φ = wp Ln xs 47 176 [.ref 1, .int x1, .int x2] [] (u, ml_h m lm) Φ := wp_same xd47_6 (Or.inl rfl) rfl
theorem x47_6_11 {x1 : Int32} {x2 : Int32} : wp Ln xs 47 6 [.ref 1, .int x1, .int x2] [.int (nI 11)] (u, ml_h m lm) Φ = wp Ln xs 47 176 [.ref 1, .int x1, .int x2] [] (u, ml_h m lm) Φ := wp_same xd47_6 (Or.inl rfl) rfl
theorem x47_56 {x1 : Int32} {x2 : Int32} : wp Ln xs 47 56 [.ref 1, .int x1, .int x2] [] (u, ml_h m lm) Φ = wp Ln xs 36 0 [.ref 2, .int x1] [] (u, ml_h m lm) (mk Ln xs 47 61 [.ref 1, .int x1, .int x2] [] Φ) := (wp_same xd47_56 (Or.inr rfl) rfl).trans ((wm_getr xd47_57 rfl (show ml_L[1]? = _ from rfl) rfl (Nat.le_of_ble_eq_true rfl)).trans ((wp_same xd47_60 (Or.inr rfl) rfl).trans (wm_cv (As := [.int x1]) (rest := []) xd47_61 rfl rfl (show ml_L[2]? = _ from rfl) (Nat.le_of_ble_eq_true rfl) (Nat.le_of_ble_eq_true rfl) (Nat.le_of_ble_eq_true rfl) (Nat.le_of_ble_eq_true rfl))))
theorem x47_64 {x1 : Int32} {x2 : Int32} {xs0 : Int32} : wp Ln xs 47 64 [.ref 1, .int x1, .int x2] [.int xs0] (u, ml_h m lm) Φ = Φ (.inl (some (.int xs0))) (u, ml_h m lm) := wp_fin (v := some (.int xs0)) xd47_64 (Or.inr rfl) rfl (mj_fin_i rfl)
theorem x47_65 {x1 : Int32} {x2 : Int32} : wp Ln xs 47 65 [.ref 1, .int x1, .int x2] [] (u, ml_h m lm) Φ = wp Ln xs 30 0 [.ref 2, .int x1] [] (u, ml_h m lm) (mk Ln xs 47 70 [.ref 1, .int x1, .int x2] [] Φ) := (wp_same xd47_65 (Or.inr rfl) rfl).trans ((wm_getr xd47_66 rfl (show ml_L[1]? = _ from rfl) rfl (Nat.le_of_ble_eq_true rfl)).trans ((wp_same xd47_69 (Or.inr rfl) rfl).trans (wm_cv (As := [.int x1]) (rest := []) xd47_70 rfl rfl (show ml_L[2]? = _ from rfl) (Nat.le_of_ble_eq_true rfl) (Nat.le_of_ble_eq_true rfl) (Nat.le_of_ble_eq_true rfl) (Nat.le_of_ble_eq_true rfl))))
theorem x47_73 {x1 : Int32} {x2 : Int32} {xs0 : Int32} : wp Ln xs 47 73 [.ref 1, .int x1, .int x2] [.int xs0] (u, ml_h m lm) Φ = Φ (.inl (some (.int xs0))) (u, ml_h m lm) := wp_fin (v := some (.int xs0)) xd47_73 (Or.inr rfl) rfl (mj_fin_i rfl)
theorem x47_74 {x1 : Int32} {x2 : Int32} : wp Ln xs 47 74 [.ref 1, .int x1, .int x2] [] (u, ml_h m lm) Φ = wp Ln xs 36 0 [.ref 2, .int x1] [] (u, ml_h m lm) (mk Ln xs 47 83 [.ref 1, .int x1, .int x2] [.ref 56] Φ) := (wp_same xd47_74 (Or.inr rfl) rfl).trans ((wm_getr xd47_75 rfl (show ml_L[1]? = _ from rfl) rfl (Nat.le_of_ble_eq_true rfl)).trans ((wp_same xd47_78 (Or.inr rfl) rfl).trans ((wm_getr xd47_79 rfl (show ml_L[1]? = _ from rfl) rfl (Nat.le_of_ble_eq_true rfl)).trans ((wp_same xd47_82 (Or.inr rfl) rfl).trans (wm_cv (As := [.int x1]) (rest := [.ref 56]) xd47_83 rfl rfl (show ml_L[2]? = _ from rfl) (Nat.le_of_ble_eq_true rfl) (Nat.le_of_ble_eq_true rfl) (Nat.le_of_ble_eq_true rfl) (Nat.le_of_ble_eq_true rfl))))))
theorem x47_86 {x1 : Int32} {x2 : Int32} {xs0 : Int32} : wp Ln xs 47 86 [.ref 1, .int x1, .int x2] [.int xs0, .ref 56] (u, ml_h m lm) Φ = wp Ln xs 37 0 [.ref 56, .int xs0] [] (u, ml_h m lm) (mk Ln xs 47 86 [.ref 1, .int x1, .int x2] [] Φ) := wm_cv (As := [.int xs0]) (rest := []) xd47_86 rfl rfl (show ml_L[56]? = _ from rfl) (Nat.le_of_ble_eq_true rfl) (Nat.le_of_ble_eq_true rfl) (Nat.le_of_ble_eq_true rfl) (Nat.le_of_ble_eq_true rfl)
theorem x47_89 {x1 : Int32} {x2 : Int32} {xs0 : Int32} : wp Ln xs 47 89 [.ref 1, .int x1, .int x2] [.int xs0] (u, ml_h m lm) Φ = Φ (.inl (some (.int xs0))) (u, ml_h m lm) := wp_fin (v := some (.int xs0)) xd47_89 (Or.inr rfl) rfl (mj_fin_i rfl)
theorem x47_90 {x1 : Int32} {x2 : Int32} : wp Ln xs 47 90 [.ref 1, .int x1, .int x2] [] (u, ml_h m lm) Φ = wp Ln xs 48 0 [.ref 2, .int x1] [] (u, ml_h m lm) (mk Ln xs 47 95 [.ref 1, .int x1, .int x2] [] Φ) := (wp_same xd47_90 (Or.inr rfl) rfl).trans ((wm_getr xd47_91 rfl (show ml_L[1]? = _ from rfl) rfl (Nat.le_of_ble_eq_true rfl)).trans ((wp_same xd47_94 (Or.inr rfl) rfl).trans (wm_cv (As := [.int x1]) (rest := []) xd47_95 rfl rfl (show ml_L[2]? = _ from rfl) (Nat.le_of_ble_eq_true rfl) (Nat.le_of_ble_eq_true rfl) (Nat.le_of_ble_eq_true rfl) (Nat.le_of_ble_eq_true rfl))))
theorem x47_98 {x1 : Int32} {x2 : Int32} {xs0 : Int32} : wp Ln xs 47 98 [.ref 1, .int x1, .int x2] [.int xs0] (u, ml_h m lm) Φ = Φ (.inl (some (.int xs0))) (u, ml_h m lm) := wp_fin (v := some (.int xs0)) xd47_98 (Or.inr rfl) rfl (mj_fin_i rfl)
theorem x47_99 {x1 : Int32} {x2 : Int32} : wp Ln xs 47 99 [.ref 1, .int x1, .int x2] [] (u, ml_h m lm) Φ = Φ (.inl (some (.int (m 56 3)))) (u, ml_h m lm) := (wp_same xd47_99 (Or.inr rfl) rfl).trans ((wm_getr xd47_100 rfl (show ml_L[1]? = _ from rfl) rfl (Nat.le_of_ble_eq_true rfl)).trans ((wm_geti xd47_103 rfl (show ml_L[56]? = _ from rfl) rfl (Nat.le_of_ble_eq_true rfl)).trans (wp_fin (v := some (.int (m 56 3))) xd47_106 (Or.inr rfl) rfl (mj_fin_i rfl))))
theorem x47_107 {x1 : Int32} {x2 : Int32} : wp Ln xs 47 107 [.ref 1, .int x1, .int x2] [] (u, ml_h m lm) Φ = Φ (.inl (some (.int (m 56 4)))) (u, ml_h m lm) := (wp_same xd47_107 (Or.inr rfl) rfl).trans ((wm_getr xd47_108 rfl (show ml_L[1]? = _ from rfl) rfl (Nat.le_of_ble_eq_true rfl)).trans ((wm_geti xd47_111 rfl (show ml_L[56]? = _ from rfl) rfl (Nat.le_of_ble_eq_true rfl)).trans (wp_fin (v := some (.int (m 56 4))) xd47_114 (Or.inr rfl) rfl (mj_fin_i rfl))))
theorem x47_115 {x1 : Int32} {x2 : Int32} : wp Ln xs 47 115 [.ref 1, .int x1, .int x2] [] (u, ml_h m lm) Φ = Φ (.inl (some (.int (m 56 5)))) (u, ml_h m lm) := (wp_same xd47_115 (Or.inr rfl) rfl).trans ((wm_getr xd47_116 rfl (show ml_L[1]? = _ from rfl) rfl (Nat.le_of_ble_eq_true rfl)).trans ((wm_geti xd47_119 rfl (show ml_L[56]? = _ from rfl) rfl (Nat.le_of_ble_eq_true rfl)).trans (wp_fin (v := some (.int (m 56 5))) xd47_122 (Or.inr rfl) rfl (mj_fin_i rfl))))
theorem x47_123 {x1 : Int32} {x2 : Int32} : wp Ln xs 47 123 [.ref 1, .int x1, .int x2] [] (u, ml_h m lm) Φ = Φ (.inl (some (.int (m 56 1)))) (u, ml_h m lm) := (wp_same xd47_123 (Or.inr rfl) rfl).trans ((wm_getr xd47_124 rfl (show ml_L[1]? = _ from rfl) rfl (Nat.le_of_ble_eq_true rfl)).trans ((wm_geti xd47_127 rfl (show ml_L[56]? = _ from rfl) rfl (Nat.le_of_ble_eq_true rfl)).trans (wp_fin (v := some (.int (m 56 1))) xd47_130 (Or.inr rfl) rfl (mj_fin_i rfl))))
theorem x47_131 {x1 : Int32} {x2 : Int32} : wp Ln xs 47 131 [.ref 1, .int x1, .int x2] [] (u, ml_h m lm) Φ = wp Ln xs 24 0 [.ref 2, .int x1, mj_hole, mj_hole] [] (u, ml_h m lm) (mk Ln xs 47 147 [.ref 1, .int x1, .int x2] [.ref 3, .ref 58] Φ) := (wp_same xd47_131 (Or.inr rfl) rfl).trans ((wm_getr xd47_132 rfl (show ml_L[1]? = _ from rfl) rfl (Nat.le_of_ble_eq_true rfl)).trans ((wp_same xd47_135 (Or.inr rfl) rfl).trans ((wm_getr xd47_136 rfl (show ml_L[1]? = _ from rfl) rfl (Nat.le_of_ble_eq_true rfl)).trans ((wm_getr xd47_139 rfl (show ml_L[2]? = _ from rfl) rfl (Nat.le_of_ble_eq_true rfl)).trans ((wp_same xd47_142 (Or.inr rfl) rfl).trans ((wm_getr xd47_143 rfl (show ml_L[1]? = _ from rfl) rfl (Nat.le_of_ble_eq_true rfl)).trans ((wp_same xd47_146 (Or.inr rfl) rfl).trans (wm_cv (As := [.int x1]) (rest := [.ref 3, .ref 58]) xd47_147 rfl rfl (show ml_L[2]? = _ from rfl) (Nat.le_of_ble_eq_true rfl) (Nat.le_of_ble_eq_true rfl) (Nat.le_of_ble_eq_true rfl) (Nat.le_of_ble_eq_true rfl)))))))))
theorem x47_150 {x1 : Int32} {x2 : Int32} {xs0 : Int32} : wp Ln xs 47 150 [.ref 1, .int x1, .int x2] [.int xs0, .ref 3, .ref 58] (u, ml_h m lm) Φ = wp Ln xs 30 0 [.ref 2, .int x1] [] (u, ml_h m lm) (mk Ln xs 47 155 [.ref 1, .int x1, .int x2] [.int xs0, .ref 3, .ref 58] Φ) := (wp_same xd47_150 (Or.inr rfl) rfl).trans ((wm_getr xd47_151 rfl (show ml_L[1]? = _ from rfl) rfl (Nat.le_of_ble_eq_true rfl)).trans ((wp_same xd47_154 (Or.inr rfl) rfl).trans (wm_cv (As := [.int x1]) (rest := [.int xs0, .ref 3, .ref 58]) xd47_155 rfl rfl (show ml_L[2]? = _ from rfl) (Nat.le_of_ble_eq_true rfl) (Nat.le_of_ble_eq_true rfl) (Nat.le_of_ble_eq_true rfl) (Nat.le_of_ble_eq_true rfl))))
theorem x47_158 {x1 : Int32} {x2 : Int32} {xs0 : Int32} {xs1 : Int32} : wp Ln xs 47 158 [.ref 1, .int x1, .int x2] [.int xs0, .int xs1, .ref 3, .ref 58] (u, ml_h m lm) Φ = wp Ln xs 49 0 [.ref 58, .ref 3, .int xs1, .int xs0, .ref 7, mj_hole, mj_hole] [] (u, ml_h m lm) (mk Ln xs 47 165 [.ref 1, .int x1, .int x2] [] Φ) := (wp_same xd47_158 (Or.inr rfl) rfl).trans ((wm_getr xd47_159 rfl (show ml_L[1]? = _ from rfl) rfl (Nat.le_of_ble_eq_true rfl)).trans ((wm_getr xd47_162 rfl (show ml_L[2]? = _ from rfl) rfl (Nat.le_of_ble_eq_true rfl)).trans (wm_cv (As := [.ref 3, .int xs1, .int xs0, .ref 7]) (rest := []) xd47_165 rfl rfl (show ml_L[58]? = _ from rfl) (Nat.le_of_ble_eq_true rfl) (Nat.le_of_ble_eq_true rfl) (Nat.le_of_ble_eq_true rfl) (Nat.le_of_ble_eq_true rfl))))
theorem x47_168 {x1 : Int32} {x2 : Int32} : wp Ln xs 47 168 [.ref 1, .int x1, .int x2] [] (u, ml_h m lm) Φ = Φ (.inl (some (.int (m 58 1)))) (u, ml_h m lm) := (wp_same xd47_168 (Or.inr rfl) rfl).trans ((wm_getr xd47_169 rfl (show ml_L[1]? = _ from rfl) rfl (Nat.le_of_ble_eq_true rfl)).trans ((wm_geti xd47_172 rfl (show ml_L[58]? = _ from rfl) rfl (Nat.le_of_ble_eq_true rfl)).trans (wp_fin (v := some (.int (m 58 1))) xd47_175 (Or.inr rfl) rfl (mj_fin_i rfl))))
theorem x47_176 {x1 : Int32} {x2 : Int32} : wp Ln xs 47 176 [.ref 1, .int x1, .int x2] [] (u, ml_h m lm) Φ = wp Ln xs 24 0 [.ref 2, .int x1, mj_hole, mj_hole] [] (u, ml_h m lm) (mk Ln xs 47 181 [.ref 1, .int x1, .int x2] [] Φ) := (wp_same xd47_176 (Or.inr rfl) rfl).trans ((wm_getr xd47_177 rfl (show ml_L[1]? = _ from rfl) rfl (Nat.le_of_ble_eq_true rfl)).trans ((wp_same xd47_180 (Or.inr rfl) rfl).trans (wm_cv (As := [.int x1]) (rest := []) xd47_181 rfl rfl (show ml_L[2]? = _ from rfl) (Nat.le_of_ble_eq_true rfl) (Nat.le_of_ble_eq_true rfl) (Nat.le_of_ble_eq_true rfl) (Nat.le_of_ble_eq_true rfl))))
theorem x47_184 {x1 : Int32} {x2 : Int32} {xs0 : Int32} : wp Ln xs 47 184 [.ref 1, .int x1, .int x2] [.int xs0] (u, ml_h m lm) Φ = Φ (.inl (some (.int xs0))) (u, ml_h m lm) := wp_fin (v := some (.int xs0)) xd47_184 (Or.inr rfl) rfl (mj_fin_i rfl)
/- PickedForms$Column.roomOf -/
theorem xd48_0 : decode (mj_b 48) 0 = .ok (.aload_n 0, 1) := by decide +kernel
theorem xd48_1 : decode (mj_b 48) 1 = .ok (.getfield 21, 3) := by decide +kernel
theorem xd48_4 : decode (mj_b 48) 4 = .ok (.iload_n 1, 1) := by decide +kernel
theorem xd48_5 : decode (mj_b 48) 5 = .ok (.invokestatic 46, 3) := by decide +kernel
theorem xd48_8 : decode (mj_b 48) 8 = .ok (.ireturn, 1) := by decide +kernel
theorem x48_0 {x1 : Int32} : wp Ln xs 48 0 [.ref 2, .int x1] [] (u, ml_h m lm) Φ = wp Ln xs 13 0 [.ref 6, .int x1] [] (u, ml_h m lm) (mk Ln xs 48 5 [.ref 2, .int x1] [] Φ) := (wp_same xd48_0 (Or.inr rfl) rfl).trans ((wm_getr xd48_1 rfl (show ml_L[2]? = _ from rfl) rfl (Nat.le_of_ble_eq_true rfl)).trans ((wp_same xd48_4 (Or.inr rfl) rfl).trans (wm_cs (As := [.ref 6, .int x1]) (rest := []) xd48_5 rfl rfl (Nat.le_of_ble_eq_true rfl) (Nat.le_of_ble_eq_true rfl) (Nat.le_of_ble_eq_true rfl) (Nat.le_of_ble_eq_true rfl))))
theorem x48_8 {x1 : Int32} {xs0 : Int32} : wp Ln xs 48 8 [.ref 2, .int x1] [.int xs0] (u, ml_h m lm) Φ = Φ (.inl (some (.int xs0))) (u, ml_h m lm) := wp_fin (v := some (.int xs0)) xd48_8 (Or.inr rfl) rfl (mj_fin_i rfl)
/- PickedForms$Pick.choose -/
theorem xd49_0 : decode (mj_b 49) 0 = .ok (.iload_n 3, 1) := by decide +kernel
theorem xd49_1 : decode (mj_b 49) 1 = .ok (.aload 4, 2) := by decide +kernel
theorem xd49_3 : decode (mj_b 49) 3 = .ok (.iconst 0, 1) := by decide +kernel
theorem xd49_4 : decode (mj_b 49) 4 = .ok (.invokestatic 25, 3) := by decide +kernel
theorem xd49_7 : decode (mj_b 49) 7 = .ok (.invokestatic 31, 3) := by decide +kernel
theorem xd49_10 : decode (mj_b 49) 10 = .ok (.istore 5, 2) := by decide +kernel
theorem xd49_12 : decode (mj_b 49) 12 = .ok (.aload_n 0, 1) := by decide +kernel
theorem xd49_13 : decode (mj_b 49) 13 = .ok (.iconst 0, 1) := by decide +kernel
theorem xd49_14 : decode (mj_b 49) 14 = .ok (.putfield 18, 3) := by decide +kernel
theorem xd49_17 : decode (mj_b 49) 17 = .ok (.aload_n 0, 1) := by decide +kernel
theorem xd49_18 : decode (mj_b 49) 18 = .ok (.getfield 12, 3) := by decide +kernel
theorem xd49_21 : decode (mj_b 49) 21 = .ok (.invokevirtual 37, 3) := by decide +kernel
theorem xd49_24 : decode (mj_b 49) 24 = .ok (.iconst 0, 1) := by decide +kernel
theorem xd49_25 : decode (mj_b 49) 25 = .ok (.istore 6, 2) := by decide +kernel
theorem xd49_27 : decode (mj_b 49) 27 = .ok (.iload 6, 2) := by decide +kernel
theorem xd49_29 : decode (mj_b 49) 29 = .ok (.iload_n 3, 1) := by decide +kernel
theorem xd49_30 : decode (mj_b 49) 30 = .ok (.if_icmp .ge 50, 3) := by decide +kernel
theorem xd49_33 : decode (mj_b 49) 33 = .ok (.aload_n 0, 1) := by decide +kernel
theorem xd49_34 : decode (mj_b 49) 34 = .ok (.getfield 12, 3) := by decide +kernel
theorem xd49_37 : decode (mj_b 49) 37 = .ok (.aload_n 1, 1) := by decide +kernel
theorem xd49_38 : decode (mj_b 49) 38 = .ok (.iload_n 2, 1) := by decide +kernel
theorem xd49_39 : decode (mj_b 49) 39 = .ok (.iload 6, 2) := by decide +kernel
theorem xd49_41 : decode (mj_b 49) 41 = .ok (.iadd, 1) := by decide +kernel
theorem xd49_42 : decode (mj_b 49) 42 = .ok (.invokestatic 25, 3) := by decide +kernel
theorem xd49_45 : decode (mj_b 49) 45 = .ok (.invokevirtual 40, 3) := by decide +kernel
theorem xd49_48 : decode (mj_b 49) 48 = .ok (.iload 6, 2) := by decide +kernel
theorem xd49_50 : decode (mj_b 49) 50 = .ok (.iconst 1, 1) := by decide +kernel
theorem xd49_51 : decode (mj_b 49) 51 = .ok (.iadd, 1) := by decide +kernel
theorem xd49_52 : decode (mj_b 49) 52 = .ok (.iload 5, 2) := by decide +kernel
theorem xd49_54 : decode (mj_b 49) 54 = .ok (.if_icmp .ne 20, 3) := by decide +kernel
theorem xd49_57 : decode (mj_b 49) 57 = .ok (.aload_n 0, 1) := by decide +kernel
theorem xd49_58 : decode (mj_b 49) 58 = .ok (.aload_n 0, 1) := by decide +kernel
theorem xd49_59 : decode (mj_b 49) 59 = .ok (.getfield 12, 3) := by decide +kernel
theorem xd49_62 : decode (mj_b 49) 62 = .ok (.aload 4, 2) := by decide +kernel
theorem xd49_64 : decode (mj_b 49) 64 = .ok (.iconst 2, 1) := by decide +kernel
theorem xd49_65 : decode (mj_b 49) 65 = .ok (.invokestatic 25, 3) := by decide +kernel
theorem xd49_68 : decode (mj_b 49) 68 = .ok (.invokevirtual 44, 3) := by decide +kernel
theorem xd49_71 : decode (mj_b 49) 71 = .ok (.putfield 18, 3) := by decide +kernel
theorem xd49_74 : decode (mj_b 49) 74 = .ok (.iinc 6 1, 3) := by decide +kernel
theorem xd49_77 : decode (mj_b 49) 77 = .ok (.goto (-50), 3) := by decide +kernel
theorem xd49_80 : decode (mj_b 49) 80 = .ok (.aload_n 0, 1) := by decide +kernel
theorem xd49_81 : decode (mj_b 49) 81 = .ok (.aload_n 0, 1) := by decide +kernel
theorem xd49_82 : decode (mj_b 49) 82 = .ok (.getfield 12, 3) := by decide +kernel
theorem xd49_85 : decode (mj_b 49) 85 = .ok (.aload_n 0, 1) := by decide +kernel
theorem xd49_86 : decode (mj_b 49) 86 = .ok (.getfield 18, 3) := by decide +kernel
theorem xd49_89 : decode (mj_b 49) 89 = .ok (.invokevirtual 48, 3) := by decide +kernel
theorem xd49_92 : decode (mj_b 49) 92 = .ok (.putfield 22, 3) := by decide +kernel
theorem xd49_95 : decode (mj_b 49) 95 = .ok (.return_, 1) := by decide +kernel
theorem x49_0 {r : Nat} {x2 : Int32} {x3 : Int32} : wp Ln xs 49 0 [.ref 58, .ref r, .int x2, .int x3, .ref 7, mj_hole, mj_hole] [] (u, ml_h m lm) Φ = wp Ln xs 13 0 [.ref 7, .int (nI 0)] [] (u, ml_h m lm) (mk Ln xs 49 4 [.ref 58, .ref r, .int x2, .int x3, .ref 7, mj_hole, mj_hole] [.int x3] Φ) := (wp_same xd49_0 (Or.inr rfl) rfl).trans ((wp_same xd49_1 (Or.inr rfl) rfl).trans ((wp_same (S' := [.int (nI 0), .ref 7, .int x3]) xd49_3 (Or.inr rfl) rfl).trans (wm_cs (As := [.ref 7, .int (nI 0)]) (rest := [.int x3]) xd49_4 rfl rfl (Nat.le_of_ble_eq_true rfl) (Nat.le_of_ble_eq_true rfl) (Nat.le_of_ble_eq_true rfl) (Nat.le_of_ble_eq_true rfl))))
theorem x49_7 {r : Nat} {x2 : Int32} {x3 : Int32} {xs0 : Int32} {xs1 : Int32} : wp Ln xs 49 7 [.ref 58, .ref r, .int x2, .int x3, .ref 7, mj_hole, mj_hole] [.int xs0, .int xs1] (u, ml_h m lm) Φ = wp Ln xs 32 0 [.ref 59] [] (u, ml_h (ml_s m 58 1 (nI 0)) lm) (mk Ln xs 49 21 [.ref 58, .ref r, .int x2, .int x3, .ref 7, .int (if xs0 < xs1 then xs0 else xs1), mj_hole] [] Φ) := (wm_min xd49_7 rfl (Nat.le_of_ble_eq_true rfl) (Nat.le_of_ble_eq_true rfl) (Nat.le_of_ble_eq_true rfl)).trans ((wp_same (L' := [.ref 58, .ref r, .int x2, .int x3, .ref 7, .int (if xs0 < xs1 then xs0 else xs1), mj_hole]) xd49_10 (Or.inr rfl) rfl).trans ((wp_same xd49_12 (Or.inr rfl) rfl).trans ((wp_same (S' := [.int (nI 0), .ref 58]) xd49_13 (Or.inr rfl) rfl).trans ((wm_puti xd49_14 rfl (show ml_L[58]? = _ from rfl) rfl (Nat.le_of_ble_eq_true rfl) rfl rfl rfl).trans ((wp_same xd49_17 (Or.inr rfl) rfl).trans ((wm_getr xd49_18 rfl (show ml_L[58]? = _ from rfl) rfl (Nat.le_of_ble_eq_true rfl)).trans (wm_cv (As := []) (rest := []) xd49_21 rfl rfl (show ml_L[59]? = _ from rfl) (Nat.le_of_ble_eq_true rfl) (Nat.le_of_ble_eq_true rfl) (Nat.le_of_ble_eq_true rfl) (Nat.le_of_ble_eq_true rfl))))))))
theorem x49_24 {r : Nat} {x2 : Int32} {x3 : Int32} {x5 : Int32} : wp Ln xs 49 24 [.ref 58, .ref r, .int x2, .int x3, .ref 7, .int x5, mj_hole] [] (u, ml_h m lm) Φ = wp Ln xs 49 27 [.ref 58, .ref r, .int x2, .int x3, .ref 7, .int x5, .int (nI 0)] [] (u, ml_h m lm) Φ := (wp_same (S' := [.int (nI 0)]) xd49_24 (Or.inr rfl) rfl).trans (wp_same (L' := [.ref 58, .ref r, .int x2, .int x3, .ref 7, .int x5, .int (nI 0)]) xd49_25 (Or.inr rfl) rfl)
theorem x49_27 {r : Nat} {x2 : Int32} {x3 : Int32} {x5 : Int32} {x6 : Int32} : wp Ln xs 49 27 [.ref 58, .ref r, .int x2, .int x3, .ref 7, .int x5, .int x6] [] (u, ml_h m lm) Φ = if x3 ≤ x6 then wp Ln xs 49 80 [.ref 58, .ref r, .int x2, .int x3, .ref 7, .int x5, .int x6] [] (u, ml_h m lm) Φ else wp Ln xs 49 33 [.ref 58, .ref r, .int x2, .int x3, .ref 7, .int x5, .int x6] [] (u, ml_h m lm) Φ := (wp_same xd49_27 (Or.inr rfl) rfl).trans ((wp_same xd49_29 (Or.inr rfl) rfl).trans (wx_icmp xd49_30 rfl rfl (x3 ≤ x6) mb_ge))
theorem x49_33 {r : Nat} {x2 : Int32} {x3 : Int32} {x5 : Int32} {x6 : Int32} : wp Ln xs 49 33 [.ref 58, .ref r, .int x2, .int x3, .ref 7, .int x5, .int x6] [] (u, ml_h m lm) Φ = wp Ln xs 13 0 [.ref r, .int (x2 + x6)] [] (u, ml_h m lm) (mk Ln xs 49 42 [.ref 58, .ref r, .int x2, .int x3, .ref 7, .int x5, .int x6] [.ref 59] Φ) := (wp_same xd49_33 (Or.inr rfl) rfl).trans ((wm_getr xd49_34 rfl (show ml_L[58]? = _ from rfl) rfl (Nat.le_of_ble_eq_true rfl)).trans ((wp_same xd49_37 (Or.inr rfl) rfl).trans ((wp_same xd49_38 (Or.inr rfl) rfl).trans ((wp_same xd49_39 (Or.inr rfl) rfl).trans ((wp_same xd49_41 (Or.inr rfl) rfl).trans (wm_cs (As := [.ref r, .int (x2 + x6)]) (rest := [.ref 59]) xd49_42 rfl rfl (Nat.le_of_ble_eq_true rfl) (Nat.le_of_ble_eq_true rfl) (Nat.le_of_ble_eq_true rfl) (Nat.le_of_ble_eq_true rfl)))))))
theorem x49_45 {r : Nat} {x2 : Int32} {x3 : Int32} {x5 : Int32} {x6 : Int32} {xs0 : Int32} : wp Ln xs 49 45 [.ref 58, .ref r, .int x2, .int x3, .ref 7, .int x5, .int x6] [.int xs0, .ref 59] (u, ml_h m lm) Φ = wp Ln xs 33 0 [.ref 59, .int xs0] [] (u, ml_h m lm) (mk Ln xs 49 45 [.ref 58, .ref r, .int x2, .int x3, .ref 7, .int x5, .int x6] [] Φ) := wm_cv (As := [.int xs0]) (rest := []) xd49_45 rfl rfl (show ml_L[59]? = _ from rfl) (Nat.le_of_ble_eq_true rfl) (Nat.le_of_ble_eq_true rfl) (Nat.le_of_ble_eq_true rfl) (Nat.le_of_ble_eq_true rfl)
theorem x49_48 {r : Nat} {x2 : Int32} {x3 : Int32} {x5 : Int32} {x6 : Int32} : wp Ln xs 49 48 [.ref 58, .ref r, .int x2, .int x3, .ref 7, .int x5, .int x6] [] (u, ml_h m lm) Φ = if ¬ (x6 + (nI 1)) = x5 then wp Ln xs 49 74 [.ref 58, .ref r, .int x2, .int x3, .ref 7, .int x5, .int x6] [] (u, ml_h m lm) Φ else wp Ln xs 49 57 [.ref 58, .ref r, .int x2, .int x3, .ref 7, .int x5, .int x6] [] (u, ml_h m lm) Φ := (wp_same xd49_48 (Or.inr rfl) rfl).trans ((wp_same (S' := [.int (nI 1), .int x6]) xd49_50 (Or.inr rfl) rfl).trans ((wp_same xd49_51 (Or.inr rfl) rfl).trans ((wp_same xd49_52 (Or.inr rfl) rfl).trans (wx_icmp xd49_54 rfl rfl (¬ (x6 + (nI 1)) = x5) mb_ne))))
theorem x49_57 {r : Nat} {x2 : Int32} {x3 : Int32} {x5 : Int32} {x6 : Int32} : wp Ln xs 49 57 [.ref 58, .ref r, .int x2, .int x3, .ref 7, .int x5, .int x6] [] (u, ml_h m lm) Φ = wp Ln xs 13 0 [.ref 7, .int (nI 2)] [] (u, ml_h m lm) (mk Ln xs 49 65 [.ref 58, .ref r, .int x2, .int x3, .ref 7, .int x5, .int x6] [.ref 59, .ref 58] Φ) := (wp_same xd49_57 (Or.inr rfl) rfl).trans ((wp_same xd49_58 (Or.inr rfl) rfl).trans ((wm_getr xd49_59 rfl (show ml_L[58]? = _ from rfl) rfl (Nat.le_of_ble_eq_true rfl)).trans ((wp_same xd49_62 (Or.inr rfl) rfl).trans ((wp_same (S' := [.int (nI 2), .ref 7, .ref 59, .ref 58]) xd49_64 (Or.inr rfl) rfl).trans (wm_cs (As := [.ref 7, .int (nI 2)]) (rest := [.ref 59, .ref 58]) xd49_65 rfl rfl (Nat.le_of_ble_eq_true rfl) (Nat.le_of_ble_eq_true rfl) (Nat.le_of_ble_eq_true rfl) (Nat.le_of_ble_eq_true rfl))))))
theorem x49_68 {r : Nat} {x2 : Int32} {x3 : Int32} {x5 : Int32} {x6 : Int32} {xs0 : Int32} : wp Ln xs 49 68 [.ref 58, .ref r, .int x2, .int x3, .ref 7, .int x5, .int x6] [.int xs0, .ref 59, .ref 58] (u, ml_h m lm) Φ = wp Ln xs 50 0 [.ref 59, .int xs0, mj_hole, mj_hole, mj_hole, mj_hole] [] (u, ml_h m lm) (mk Ln xs 49 68 [.ref 58, .ref r, .int x2, .int x3, .ref 7, .int x5, .int x6] [.ref 58] Φ) := wm_cv (As := [.int xs0]) (rest := [.ref 58]) xd49_68 rfl rfl (show ml_L[59]? = _ from rfl) (Nat.le_of_ble_eq_true rfl) (Nat.le_of_ble_eq_true rfl) (Nat.le_of_ble_eq_true rfl) (Nat.le_of_ble_eq_true rfl)
theorem x49_71 {r : Nat} {x2 : Int32} {x3 : Int32} {x5 : Int32} {x6 : Int32} {xs0 : Int32} : wp Ln xs 49 71 [.ref 58, .ref r, .int x2, .int x3, .ref 7, .int x5, .int x6] [.int xs0, .ref 58] (u, ml_h m lm) Φ = wp Ln xs 49 74 [.ref 58, .ref r, .int x2, .int x3, .ref 7, .int x5, .int x6] [] (u, ml_h (ml_s m 58 1 xs0) lm) Φ := wm_puti xd49_71 rfl (show ml_L[58]? = _ from rfl) rfl (Nat.le_of_ble_eq_true rfl) rfl rfl rfl
theorem x49_74 {r : Nat} {x2 : Int32} {x3 : Int32} {x5 : Int32} {x6 : Int32} : wp Ln xs 49 74 [.ref 58, .ref r, .int x2, .int x3, .ref 7, .int x5, .int x6] [] (u, ml_h m lm) Φ = wp Ln xs 49 27 [.ref 58, .ref r, .int x2, .int x3, .ref 7, .int x5, .int (x6 + nI 1)] [] (u, ml_h m lm) Φ := (wp_same (L' := [.ref 58, .ref r, .int x2, .int x3, .ref 7, .int x5, .int (x6 + nI 1)]) xd49_74 (Or.inr rfl) rfl).trans (wx_goto xd49_77 rfl)
theorem x49_80 {r : Nat} {x2 : Int32} {x3 : Int32} {x5 : Int32} {x6 : Int32} : wp Ln xs 49 80 [.ref 58, .ref r, .int x2, .int x3, .ref 7, .int x5, .int x6] [] (u, ml_h m lm) Φ = wp Ln xs 37 0 [.ref 59, .int (m 58 1)] [] (u, ml_h m lm) (mk Ln xs 49 89 [.ref 58, .ref r, .int x2, .int x3, .ref 7, .int x5, .int x6] [.ref 58] Φ) := (wp_same xd49_80 (Or.inr rfl) rfl).trans ((wp_same xd49_81 (Or.inr rfl) rfl).trans ((wm_getr xd49_82 rfl (show ml_L[58]? = _ from rfl) rfl (Nat.le_of_ble_eq_true rfl)).trans ((wp_same xd49_85 (Or.inr rfl) rfl).trans ((wm_geti xd49_86 rfl (show ml_L[58]? = _ from rfl) rfl (Nat.le_of_ble_eq_true rfl)).trans (wm_cv (As := [.int (m 58 1)]) (rest := [.ref 58]) xd49_89 rfl rfl (show ml_L[59]? = _ from rfl) (Nat.le_of_ble_eq_true rfl) (Nat.le_of_ble_eq_true rfl) (Nat.le_of_ble_eq_true rfl) (Nat.le_of_ble_eq_true rfl))))))
theorem x49_92 {r : Nat} {x2 : Int32} {x3 : Int32} {x5 : Int32} {x6 : Int32} {xs0 : Int32} : wp Ln xs 49 92 [.ref 58, .ref r, .int x2, .int x3, .ref 7, .int x5, .int x6] [.int xs0, .ref 58] (u, ml_h m lm) Φ = Φ (.inl none) (u, ml_h (ml_s m 58 2 xs0) lm) := (wm_puti xd49_92 rfl (show ml_L[58]? = _ from rfl) rfl (Nat.le_of_ble_eq_true rfl) rfl rfl rfl).trans (wp_fin (v := none) xd49_95 (Or.inr rfl) rfl rfl)
/- PickedForms$Shape.lightestForm -/
theorem xd50_0 : decode (mj_b 50) 0 = .ok (.iconst 0, 1) := by decide +kernel
theorem xd50_1 : decode (mj_b 50) 1 = .ok (.istore_n 2, 1) := by decide +kernel
theorem xd50_2 : decode (mj_b 50) 2 = .ok (.aload_n 0, 1) := by decide +kernel
theorem xd50_3 : decode (mj_b 50) 3 = .ok (.iconst 0, 1) := by decide +kernel
theorem xd50_4 : decode (mj_b 50) 4 = .ok (.invokevirtual 66, 3) := by decide +kernel
theorem xd50_7 : decode (mj_b 50) 7 = .ok (.istore_n 3, 1) := by decide +kernel
theorem xd50_8 : decode (mj_b 50) 8 = .ok (.iconst 1, 1) := by decide +kernel
theorem xd50_9 : decode (mj_b 50) 9 = .ok (.istore 4, 2) := by decide +kernel
theorem xd50_11 : decode (mj_b 50) 11 = .ok (.iload 4, 2) := by decide +kernel
theorem xd50_13 : decode (mj_b 50) 13 = .ok (.iconst 5, 1) := by decide +kernel
theorem xd50_14 : decode (mj_b 50) 14 = .ok (.if_icmp .ge 39, 3) := by decide +kernel
theorem xd50_17 : decode (mj_b 50) 17 = .ok (.iload_n 1, 1) := by decide +kernel
theorem xd50_18 : decode (mj_b 50) 18 = .ok (.iload 4, 2) := by decide +kernel
theorem xd50_20 : decode (mj_b 50) 20 = .ok (.ishr, 1) := by decide +kernel
theorem xd50_21 : decode (mj_b 50) 21 = .ok (.iconst 1, 1) := by decide +kernel
theorem xd50_22 : decode (mj_b 50) 22 = .ok (.iand, 1) := by decide +kernel
theorem xd50_23 : decode (mj_b 50) 23 = .ok (.iconst 1, 1) := by decide +kernel
theorem xd50_24 : decode (mj_b 50) 24 = .ok (.if_icmp .ne 23, 3) := by decide +kernel
theorem xd50_27 : decode (mj_b 50) 27 = .ok (.aload_n 0, 1) := by decide +kernel
theorem xd50_28 : decode (mj_b 50) 28 = .ok (.iload 4, 2) := by decide +kernel
theorem xd50_30 : decode (mj_b 50) 30 = .ok (.invokevirtual 66, 3) := by decide +kernel
theorem xd50_33 : decode (mj_b 50) 33 = .ok (.istore 5, 2) := by decide +kernel
theorem xd50_35 : decode (mj_b 50) 35 = .ok (.iload 5, 2) := by decide +kernel
theorem xd50_37 : decode (mj_b 50) 37 = .ok (.iload_n 3, 1) := by decide +kernel
theorem xd50_38 : decode (mj_b 50) 38 = .ok (.if_icmp .ge 9, 3) := by decide +kernel
theorem xd50_41 : decode (mj_b 50) 41 = .ok (.iload 4, 2) := by decide +kernel
theorem xd50_43 : decode (mj_b 50) 43 = .ok (.istore_n 2, 1) := by decide +kernel
theorem xd50_44 : decode (mj_b 50) 44 = .ok (.iload 5, 2) := by decide +kernel
theorem xd50_46 : decode (mj_b 50) 46 = .ok (.istore_n 3, 1) := by decide +kernel
theorem xd50_47 : decode (mj_b 50) 47 = .ok (.iinc 4 1, 3) := by decide +kernel
theorem xd50_50 : decode (mj_b 50) 50 = .ok (.goto (-39), 3) := by decide +kernel
theorem xd50_53 : decode (mj_b 50) 53 = .ok (.iload_n 2, 1) := by decide +kernel
theorem xd50_54 : decode (mj_b 50) 54 = .ok (.ireturn, 1) := by decide +kernel
theorem x50_0 {p : Nat} {x1 : Int32} (hp : ml_sh p) : wp Ln xs 50 0 [.ref p, .int x1, mj_hole, mj_hole, mj_hole, mj_hole] [] (u, ml_h m lm) Φ = wp Ln xs 37 0 [.ref p, .int (nI 0)] [] (u, ml_h m lm) (mk Ln xs 50 4 [.ref p, .int x1, .int (nI 0), mj_hole, mj_hole, mj_hole] [] Φ) := (wp_same (S' := [.int (nI 0)]) xd50_0 (Or.inr rfl) rfl).trans ((wp_same (L' := [.ref p, .int x1, .int (nI 0), mj_hole, mj_hole, mj_hole]) xd50_1 (Or.inr rfl) rfl).trans ((wp_same xd50_2 (Or.inr rfl) rfl).trans ((wp_same (S' := [.int (nI 0), .ref p]) xd50_3 (Or.inr rfl) rfl).trans (wm_cv (As := [.int (nI 0)]) (rest := []) xd50_4 rfl rfl hp.1 (Nat.le_of_ble_eq_true rfl) (Nat.le_of_ble_eq_true rfl) (Nat.le_of_ble_eq_true rfl) (Nat.le_of_ble_eq_true rfl)))))
theorem x50_7 {p : Nat} {x1 : Int32} {x2 : Int32} {xs0 : Int32} : wp Ln xs 50 7 [.ref p, .int x1, .int x2, mj_hole, mj_hole, mj_hole] [.int xs0] (u, ml_h m lm) Φ = wp Ln xs 50 11 [.ref p, .int x1, .int x2, .int xs0, .int (nI 1), mj_hole] [] (u, ml_h m lm) Φ := (wp_same (L' := [.ref p, .int x1, .int x2, .int xs0, mj_hole, mj_hole]) xd50_7 (Or.inr rfl) rfl).trans ((wp_same (S' := [.int (nI 1)]) xd50_8 (Or.inr rfl) rfl).trans (wp_same (L' := [.ref p, .int x1, .int x2, .int xs0, .int (nI 1), mj_hole]) xd50_9 (Or.inr rfl) rfl))
theorem x50_11 {p : Nat} {x1 : Int32} {x2 : Int32} {x3 : Int32} {x4 : Int32} {v5 : Value} : wp Ln xs 50 11 [.ref p, .int x1, .int x2, .int x3, .int x4, v5] [] (u, ml_h m lm) Φ = if (nI 5) ≤ x4 then wp Ln xs 50 53 [.ref p, .int x1, .int x2, .int x3, .int x4, v5] [] (u, ml_h m lm) Φ else wp Ln xs 50 17 [.ref p, .int x1, .int x2, .int x3, .int x4, v5] [] (u, ml_h m lm) Φ := (wp_same xd50_11 (Or.inr rfl) rfl).trans ((wp_same (S' := [.int (nI 5), .int x4]) xd50_13 (Or.inr rfl) rfl).trans (wx_icmp xd50_14 rfl rfl ((nI 5) ≤ x4) mb_ge))
theorem x50_17 {p : Nat} {x1 : Int32} {x2 : Int32} {x3 : Int32} {x4 : Int32} {v5 : Value} : wp Ln xs 50 17 [.ref p, .int x1, .int x2, .int x3, .int x4, v5] [] (u, ml_h m lm) Φ = if ¬ ((x1 >>> (x4 &&& 31)) &&& (nI 1)) = (nI 1) then wp Ln xs 50 47 [.ref p, .int x1, .int x2, .int x3, .int x4, v5] [] (u, ml_h m lm) Φ else wp Ln xs 50 27 [.ref p, .int x1, .int x2, .int x3, .int x4, v5] [] (u, ml_h m lm) Φ := (wp_same xd50_17 (Or.inr rfl) rfl).trans ((wp_same xd50_18 (Or.inr rfl) rfl).trans ((wp_same xd50_20 (Or.inr rfl) rfl).trans ((wp_same (S' := [.int (nI 1), .int (x1 >>> (x4 &&& 31))]) xd50_21 (Or.inr rfl) rfl).trans ((wp_same xd50_22 (Or.inr rfl) rfl).trans ((wp_same (S' := [.int (nI 1), .int ((x1 >>> (x4 &&& 31)) &&& (nI 1))]) xd50_23 (Or.inr rfl) rfl).trans (wx_icmp xd50_24 rfl rfl (¬ ((x1 >>> (x4 &&& 31)) &&& (nI 1)) = (nI 1)) mb_ne))))))
theorem x50_27 {p : Nat} {x1 : Int32} {x2 : Int32} {x3 : Int32} {x4 : Int32} {v5 : Value} (hp : ml_sh p) : wp Ln xs 50 27 [.ref p, .int x1, .int x2, .int x3, .int x4, v5] [] (u, ml_h m lm) Φ = wp Ln xs 37 0 [.ref p, .int x4] [] (u, ml_h m lm) (mk Ln xs 50 30 [.ref p, .int x1, .int x2, .int x3, .int x4, v5] [] Φ) := (wp_same xd50_27 (Or.inr rfl) rfl).trans ((wp_same xd50_28 (Or.inr rfl) rfl).trans (wm_cv (As := [.int x4]) (rest := []) xd50_30 rfl rfl hp.1 (Nat.le_of_ble_eq_true rfl) (Nat.le_of_ble_eq_true rfl) (Nat.le_of_ble_eq_true rfl) (Nat.le_of_ble_eq_true rfl)))
theorem x50_33 {p : Nat} {x1 : Int32} {x2 : Int32} {x3 : Int32} {x4 : Int32} {v5 : Value} {xs0 : Int32} : wp Ln xs 50 33 [.ref p, .int x1, .int x2, .int x3, .int x4, v5] [.int xs0] (u, ml_h m lm) Φ = if x3 ≤ xs0 then wp Ln xs 50 47 [.ref p, .int x1, .int x2, .int x3, .int x4, .int xs0] [] (u, ml_h m lm) Φ else wp Ln xs 50 41 [.ref p, .int x1, .int x2, .int x3, .int x4, .int xs0] [] (u, ml_h m lm) Φ := (wp_same (L' := [.ref p, .int x1, .int x2, .int x3, .int x4, .int xs0]) xd50_33 (Or.inr rfl) rfl).trans ((wp_same xd50_35 (Or.inr rfl) rfl).trans ((wp_same xd50_37 (Or.inr rfl) rfl).trans (wx_icmp xd50_38 rfl rfl (x3 ≤ xs0) mb_ge)))
theorem x50_41 {p : Nat} {x1 : Int32} {x2 : Int32} {x3 : Int32} {x4 : Int32} {x5 : Int32} : wp Ln xs 50 41 [.ref p, .int x1, .int x2, .int x3, .int x4, .int x5] [] (u, ml_h m lm) Φ = wp Ln xs 50 47 [.ref p, .int x1, .int x4, .int x5, .int x4, .int x5] [] (u, ml_h m lm) Φ := (wp_same xd50_41 (Or.inr rfl) rfl).trans ((wp_same (L' := [.ref p, .int x1, .int x4, .int x3, .int x4, .int x5]) xd50_43 (Or.inr rfl) rfl).trans ((wp_same xd50_44 (Or.inr rfl) rfl).trans (wp_same (L' := [.ref p, .int x1, .int x4, .int x5, .int x4, .int x5]) xd50_46 (Or.inr rfl) rfl)))
theorem x50_47 {p : Nat} {x1 : Int32} {x2 : Int32} {x3 : Int32} {x4 : Int32} {v5 : Value} : wp Ln xs 50 47 [.ref p, .int x1, .int x2, .int x3, .int x4, v5] [] (u, ml_h m lm) Φ = wp Ln xs 50 11 [.ref p, .int x1, .int x2, .int x3, .int (x4 + nI 1), v5] [] (u, ml_h m lm) Φ := (wp_same (L' := [.ref p, .int x1, .int x2, .int x3, .int (x4 + nI 1), v5]) xd50_47 (Or.inr rfl) rfl).trans (wx_goto xd50_50 rfl)
theorem x50_53 {p : Nat} {x1 : Int32} {x2 : Int32} {x3 : Int32} {x4 : Int32} {v5 : Value} : wp Ln xs 50 53 [.ref p, .int x1, .int x2, .int x3, .int x4, v5] [] (u, ml_h m lm) Φ = Φ (.inl (some (.int x2))) (u, ml_h m lm) := (wp_same xd50_53 (Or.inr rfl) rfl).trans (wp_fin (v := some (.int x2)) xd50_54 (Or.inr rfl) rfl (mj_fin_i rfl))
/- PickedForms.readBits -/
theorem xd51_0 : decode (mj_b 51) 0 = .ok (.aload_n 0, 1) := by decide +kernel
theorem xd51_1 : decode (mj_b 51) 1 = .ok (.iload_n 1, 1) := by decide +kernel
theorem xd51_2 : decode (mj_b 51) 2 = .ok (.invokevirtual 265, 3) := by decide +kernel
theorem xd51_5 : decode (mj_b 51) 5 = .ok (.aload_n 0, 1) := by decide +kernel
theorem xd51_6 : decode (mj_b 51) 6 = .ok (.getfield 68, 3) := by decide +kernel
theorem xd51_9 : decode (mj_b 51) 9 = .ok (.aload_n 0, 1) := by decide +kernel
theorem xd51_10 : decode (mj_b 51) 10 = .ok (.getfield 12, 3) := by decide +kernel
theorem xd51_13 : decode (mj_b 51) 13 = .ok (.iload_n 1, 1) := by decide +kernel
theorem xd51_14 : decode (mj_b 51) 14 = .ok (.aload_n 0, 1) := by decide +kernel
theorem xd51_15 : decode (mj_b 51) 15 = .ok (.getfield 40, 3) := by decide +kernel
theorem xd51_18 : decode (mj_b 51) 18 = .ok (.invokevirtual 382, 3) := by decide +kernel
theorem xd51_21 : decode (mj_b 51) 21 = .ok (.return_, 1) := by decide +kernel
theorem x51_0 {x1 : Int32} : wp Ln xs 51 0 [.ref 1, .int x1] [] (u, ml_h m lm) Φ = wp Ln xs 29 0 [.ref 1, .int x1] [] (u, ml_h m lm) (mk Ln xs 51 2 [.ref 1, .int x1] [] Φ) := (wp_same xd51_0 (Or.inr rfl) rfl).trans ((wp_same xd51_1 (Or.inr rfl) rfl).trans (wm_cv (As := [.int x1]) (rest := []) xd51_2 rfl rfl (show ml_L[1]? = _ from rfl) (Nat.le_of_ble_eq_true rfl) (Nat.le_of_ble_eq_true rfl) (Nat.le_of_ble_eq_true rfl) (Nat.le_of_ble_eq_true rfl)))
theorem x51_5 {x1 : Int32} : wp Ln xs 51 5 [.ref 1, .int x1] [] (u, ml_h m lm) Φ = wp Ln xs 52 0 [.ref 69, .ref 2, .int x1, .ref 56, mj_hole, mj_hole, mj_hole] [] (u, ml_h m lm) (mk Ln xs 51 18 [.ref 1, .int x1] [] Φ) := (wp_same xd51_5 (Or.inr rfl) rfl).trans ((wm_getr xd51_6 rfl (show ml_L[1]? = _ from rfl) rfl (Nat.le_of_ble_eq_true rfl)).trans ((wp_same xd51_9 (Or.inr rfl) rfl).trans ((wm_getr xd51_10 rfl (show ml_L[1]? = _ from rfl) rfl (Nat.le_of_ble_eq_true rfl)).trans ((wp_same xd51_13 (Or.inr rfl) rfl).trans ((wp_same xd51_14 (Or.inr rfl) rfl).trans ((wm_getr xd51_15 rfl (show ml_L[1]? = _ from rfl) rfl (Nat.le_of_ble_eq_true rfl)).trans (wm_cv (As := [.ref 2, .int x1, .ref 56]) (rest := []) xd51_18 rfl rfl (show ml_L[69]? = _ from rfl) (Nat.le_of_ble_eq_true rfl) (Nat.le_of_ble_eq_true rfl) (Nat.le_of_ble_eq_true rfl) (Nat.le_of_ble_eq_true rfl))))))))
theorem x51_21 {x1 : Int32} : wp Ln xs 51 21 [.ref 1, .int x1] [] (u, ml_h m lm) Φ = Φ (.inl none) (u, ml_h m lm) := wp_fin (v := none) xd51_21 (Or.inr rfl) rfl rfl
/- PickedForms$BitRow.encode -/
theorem xd52_0 : decode (mj_b 52) 0 = .ok (.aload_n 1, 1) := by decide +kernel
theorem xd52_1 : decode (mj_b 52) 1 = .ok (.getfield 19, 3) := by decide +kernel
theorem xd52_4 : decode (mj_b 52) 4 = .ok (.astore 4, 2) := by decide +kernel
theorem xd52_6 : decode (mj_b 52) 6 = .ok (.aload_n 1, 1) := by decide +kernel
theorem xd52_7 : decode (mj_b 52) 7 = .ok (.iload_n 2, 1) := by decide +kernel
theorem xd52_8 : decode (mj_b 52) 8 = .ok (.invokevirtual 24, 3) := by decide +kernel
theorem xd52_11 : decode (mj_b 52) 11 = .ok (.istore 5, 2) := by decide +kernel
theorem xd52_13 : decode (mj_b 52) 13 = .ok (.iload 5, 2) := by decide +kernel
theorem xd52_15 : decode (mj_b 52) 15 = .ok (.aload_n 1, 1) := by decide +kernel
theorem xd52_16 : decode (mj_b 52) 16 = .ok (.iload_n 2, 1) := by decide +kernel
theorem xd52_17 : decode (mj_b 52) 17 = .ok (.invokevirtual 28, 3) := by decide +kernel
theorem xd52_20 : decode (mj_b 52) 20 = .ok (.iadd, 1) := by decide +kernel
theorem xd52_21 : decode (mj_b 52) 21 = .ok (.istore 6, 2) := by decide +kernel
theorem xd52_23 : decode (mj_b 52) 23 = .ok (.aload_n 0, 1) := by decide +kernel
theorem xd52_24 : decode (mj_b 52) 24 = .ok (.iconst 0, 1) := by decide +kernel
theorem xd52_25 : decode (mj_b 52) 25 = .ok (.putfield 15, 3) := by decide +kernel
theorem xd52_28 : decode (mj_b 52) 28 = .ok (.aload_n 1, 1) := by decide +kernel
theorem xd52_29 : decode (mj_b 52) 29 = .ok (.iload_n 2, 1) := by decide +kernel
theorem xd52_30 : decode (mj_b 52) 30 = .ok (.invokevirtual 31, 3) := by decide +kernel
theorem xd52_33 : decode (mj_b 52) 33 = .ok (.tableswitch 86 1 4 #[31, 45, 58, 72], 31) := by decide +kernel
theorem xd52_64 : decode (mj_b 52) 64 = .ok (.aload_n 0, 1) := by decide +kernel
theorem xd52_65 : decode (mj_b 52) 65 = .ok (.aload 4, 2) := by decide +kernel
theorem xd52_67 : decode (mj_b 52) 67 = .ok (.iload 5, 2) := by decide +kernel
theorem xd52_69 : decode (mj_b 52) 69 = .ok (.iload 6, 2) := by decide +kernel
theorem xd52_71 : decode (mj_b 52) 71 = .ok (.aload_n 3, 1) := by decide +kernel
theorem xd52_72 : decode (mj_b 52) 72 = .ok (.invokevirtual 34, 3) := by decide +kernel
theorem xd52_75 : decode (mj_b 52) 75 = .ok (.goto 54, 3) := by decide +kernel
theorem xd52_78 : decode (mj_b 52) 78 = .ok (.aload_n 0, 1) := by decide +kernel
theorem xd52_79 : decode (mj_b 52) 79 = .ok (.aload 4, 2) := by decide +kernel
theorem xd52_81 : decode (mj_b 52) 81 = .ok (.iload 5, 2) := by decide +kernel
theorem xd52_83 : decode (mj_b 52) 83 = .ok (.iload 6, 2) := by decide +kernel
theorem xd52_85 : decode (mj_b 52) 85 = .ok (.invokevirtual 38, 3) := by decide +kernel
theorem xd52_88 : decode (mj_b 52) 88 = .ok (.goto 41, 3) := by decide +kernel
theorem xd52_91 : decode (mj_b 52) 91 = .ok (.aload_n 0, 1) := by decide +kernel
theorem xd52_92 : decode (mj_b 52) 92 = .ok (.aload 4, 2) := by decide +kernel
theorem xd52_94 : decode (mj_b 52) 94 = .ok (.iload 5, 2) := by decide +kernel
theorem xd52_96 : decode (mj_b 52) 96 = .ok (.iload 6, 2) := by decide +kernel
theorem xd52_98 : decode (mj_b 52) 98 = .ok (.aload_n 3, 1) := by decide +kernel
theorem xd52_99 : decode (mj_b 52) 99 = .ok (.invokevirtual 42, 3) := by decide +kernel
theorem xd52_102 : decode (mj_b 52) 102 = .ok (.goto 27, 3) := by decide +kernel
theorem xd52_105 : decode (mj_b 52) 105 = .ok (.aload_n 0, 1) := by decide +kernel
theorem xd52_106 : decode (mj_b 52) 106 = .ok (.aload 4, 2) := by decide +kernel
theorem xd52_108 : decode (mj_b 52) 108 = .ok (.iload 5, 2) := by decide +kernel
theorem xd52_110 : decode (mj_b 52) 110 = .ok (.iload 6, 2) := by decide +kernel
theorem xd52_112 : decode (mj_b 52) 112 = .ok (.aload_n 3, 1) := by decide +kernel
theorem xd52_113 : decode (mj_b 52) 113 = .ok (.invokevirtual 45, 3) := by decide +kernel
theorem xd52_116 : decode (mj_b 52) 116 = .ok (.goto 13, 3) := by decide +kernel
theorem xd52_119 : decode (mj_b 52) 119 = .ok (.aload_n 0, 1) := by decide +kernel
theorem xd52_120 : decode (mj_b 52) 120 = .ok (.aload 4, 2) := by decide +kernel
theorem xd52_122 : decode (mj_b 52) 122 = .ok (.iload 5, 2) := by decide +kernel
theorem xd52_124 : decode (mj_b 52) 124 = .ok (.iload 6, 2) := by decide +kernel
theorem xd52_126 : decode (mj_b 52) 126 = .ok (.invokevirtual 48, 3) := by decide +kernel
theorem xd52_129 : decode (mj_b 52) 129 = .ok (.return_, 1) := by decide +kernel
theorem x52_0 {x2 : Int32} : wp Ln xs 52 0 [.ref 69, .ref 2, .int x2, .ref 56, mj_hole, mj_hole, mj_hole] [] (u, ml_h m lm) Φ = wp Ln xs 24 0 [.ref 2, .int x2, mj_hole, mj_hole] [] (u, ml_h m lm) (mk Ln xs 52 8 [.ref 69, .ref 2, .int x2, .ref 56, .ref 3, mj_hole, mj_hole] [] Φ) := (wp_same xd52_0 (Or.inr rfl) rfl).trans ((wm_getr xd52_1 rfl (show ml_L[2]? = _ from rfl) rfl (Nat.le_of_ble_eq_true rfl)).trans ((wp_same (L' := [.ref 69, .ref 2, .int x2, .ref 56, .ref 3, mj_hole, mj_hole]) xd52_4 (Or.inr rfl) rfl).trans ((wp_same xd52_6 (Or.inr rfl) rfl).trans ((wp_same xd52_7 (Or.inr rfl) rfl).trans (wm_cv (As := [.int x2]) (rest := []) xd52_8 rfl rfl (show ml_L[2]? = _ from rfl) (Nat.le_of_ble_eq_true rfl) (Nat.le_of_ble_eq_true rfl) (Nat.le_of_ble_eq_true rfl) (Nat.le_of_ble_eq_true rfl))))))
theorem x52_11 {x2 : Int32} {xs0 : Int32} : wp Ln xs 52 11 [.ref 69, .ref 2, .int x2, .ref 56, .ref 3, mj_hole, mj_hole] [.int xs0] (u, ml_h m lm) Φ = wp Ln xs 30 0 [.ref 2, .int x2] [] (u, ml_h m lm) (mk Ln xs 52 17 [.ref 69, .ref 2, .int x2, .ref 56, .ref 3, .int xs0, mj_hole] [.int xs0] Φ) := (wp_same (L' := [.ref 69, .ref 2, .int x2, .ref 56, .ref 3, .int xs0, mj_hole]) xd52_11 (Or.inr rfl) rfl).trans ((wp_same xd52_13 (Or.inr rfl) rfl).trans ((wp_same xd52_15 (Or.inr rfl) rfl).trans ((wp_same xd52_16 (Or.inr rfl) rfl).trans (wm_cv (As := [.int x2]) (rest := [.int xs0]) xd52_17 rfl rfl (show ml_L[2]? = _ from rfl) (Nat.le_of_ble_eq_true rfl) (Nat.le_of_ble_eq_true rfl) (Nat.le_of_ble_eq_true rfl) (Nat.le_of_ble_eq_true rfl)))))
theorem x52_20 {x2 : Int32} {x5 : Int32} {xs0 : Int32} {xs1 : Int32} : wp Ln xs 52 20 [.ref 69, .ref 2, .int x2, .ref 56, .ref 3, .int x5, mj_hole] [.int xs0, .int xs1] (u, ml_h m lm) Φ = wp Ln xs 36 0 [.ref 2, .int x2] [] (u, ml_h (ml_s m 69 1 (nI 0)) lm) (mk Ln xs 52 30 [.ref 69, .ref 2, .int x2, .ref 56, .ref 3, .int x5, .int (xs1 + xs0)] [] Φ) := (wp_same xd52_20 (Or.inr rfl) rfl).trans ((wp_same (L' := [.ref 69, .ref 2, .int x2, .ref 56, .ref 3, .int x5, .int (xs1 + xs0)]) xd52_21 (Or.inr rfl) rfl).trans ((wp_same xd52_23 (Or.inr rfl) rfl).trans ((wp_same (S' := [.int (nI 0), .ref 69]) xd52_24 (Or.inr rfl) rfl).trans ((wm_puti xd52_25 rfl (show ml_L[69]? = _ from rfl) rfl (Nat.le_of_ble_eq_true rfl) rfl rfl rfl).trans ((wp_same xd52_28 (Or.inr rfl) rfl).trans ((wp_same xd52_29 (Or.inr rfl) rfl).trans (wm_cv (As := [.int x2]) (rest := []) xd52_30 rfl rfl (show ml_L[2]? = _ from rfl) (Nat.le_of_ble_eq_true rfl) (Nat.le_of_ble_eq_true rfl) (Nat.le_of_ble_eq_true rfl) (Nat.le_of_ble_eq_true rfl))))))))
theorem x52_33_0 {x2 : Int32} {x5 : Int32} {x6 : Int32} : wp Ln xs 52 33 [.ref 69, .ref 2, .int x2, .ref 56, .ref 3, .int x5, .int x6] [.int (nI 0)] (u, ml_h m lm) Φ = wp Ln xs 52 119 [.ref 69, .ref 2, .int x2, .ref 56, .ref 3, .int x5, .int x6] [] (u, ml_h m lm) Φ := wp_same xd52_33 (Or.inl rfl) rfl
theorem x52_33_1 {x2 : Int32} {x5 : Int32} {x6 : Int32} : wp Ln xs 52 33 [.ref 69, .ref 2, .int x2, .ref 56, .ref 3, .int x5, .int x6] [.int (nI 1)] (u, ml_h m lm) Φ = wp Ln xs 52 64 [.ref 69, .ref 2, .int x2, .ref 56, .ref 3, .int x5, .int x6] [] (u, ml_h m lm) Φ := wp_same xd52_33 (Or.inl rfl) rfl
theorem x52_33_2 {x2 : Int32} {x5 : Int32} {x6 : Int32} : wp Ln xs 52 33 [.ref 69, .ref 2, .int x2, .ref 56, .ref 3, .int x5, .int x6] [.int (nI 2)] (u, ml_h m lm) Φ = wp Ln xs 52 78 [.ref 69, .ref 2, .int x2, .ref 56, .ref 3, .int x5, .int x6] [] (u, ml_h m lm) Φ := wp_same xd52_33 (Or.inl rfl) rfl
theorem x52_33_3 {x2 : Int32} {x5 : Int32} {x6 : Int32} : wp Ln xs 52 33 [.ref 69, .ref 2, .int x2, .ref 56, .ref 3, .int x5, .int x6] [.int (nI 3)] (u, ml_h m lm) Φ = wp Ln xs 52 91 [.ref 69, .ref 2, .int x2, .ref 56, .ref 3, .int x5, .int x6] [] (u, ml_h m lm) Φ := wp_same xd52_33 (Or.inl rfl) rfl
theorem x52_33_4 {x2 : Int32} {x5 : Int32} {x6 : Int32} : wp Ln xs 52 33 [.ref 69, .ref 2, .int x2, .ref 56, .ref 3, .int x5, .int x6] [.int (nI 4)] (u, ml_h m lm) Φ = wp Ln xs 52 105 [.ref 69, .ref 2, .int x2, .ref 56, .ref 3, .int x5, .int x6] [] (u, ml_h m lm) Φ := wp_same xd52_33 (Or.inl rfl) rfl
theorem x52_33_5 {x2 : Int32} {x5 : Int32} {x6 : Int32} : wp Ln xs 52 33 [.ref 69, .ref 2, .int x2, .ref 56, .ref 3, .int x5, .int x6] [.int (nI 5)] (u, ml_h m lm) Φ = wp Ln xs 52 119 [.ref 69, .ref 2, .int x2, .ref 56, .ref 3, .int x5, .int x6] [] (u, ml_h m lm) Φ := wp_same xd52_33 (Or.inl rfl) rfl
theorem x52_33_6 {x2 : Int32} {x5 : Int32} {x6 : Int32} : wp Ln xs 52 33 [.ref 69, .ref 2, .int x2, .ref 56, .ref 3, .int x5, .int x6] [.int (nI 6)] (u, ml_h m lm) Φ = wp Ln xs 52 119 [.ref 69, .ref 2, .int x2, .ref 56, .ref 3, .int x5, .int x6] [] (u, ml_h m lm) Φ := wp_same xd52_33 (Or.inl rfl) rfl
theorem x52_33_7 {x2 : Int32} {x5 : Int32} {x6 : Int32} : wp Ln xs 52 33 [.ref 69, .ref 2, .int x2, .ref 56, .ref 3, .int x5, .int x6] [.int (nI 7)] (u, ml_h m lm) Φ = wp Ln xs 52 119 [.ref 69, .ref 2, .int x2, .ref 56, .ref 3, .int x5, .int x6] [] (u, ml_h m lm) Φ := wp_same xd52_33 (Or.inl rfl) rfl
theorem x52_64 {x2 : Int32} {x5 : Int32} {x6 : Int32} : wp Ln xs 52 64 [.ref 69, .ref 2, .int x2, .ref 56, .ref 3, .int x5, .int x6] [] (u, ml_h m lm) Φ = wp Ln xs 53 0 [.ref 69, .ref 3, .int x5, .int x6, .ref 56, mj_hole, mj_hole] [] (u, ml_h m lm) (mk Ln xs 52 72 [.ref 69, .ref 2, .int x2, .ref 56, .ref 3, .int x5, .int x6] [] Φ) := (wp_same xd52_64 (Or.inr rfl) rfl).trans ((wp_same xd52_65 (Or.inr rfl) rfl).trans ((wp_same xd52_67 (Or.inr rfl) rfl).trans ((wp_same xd52_69 (Or.inr rfl) rfl).trans ((wp_same xd52_71 (Or.inr rfl) rfl).trans (wm_cv (As := [.ref 3, .int x5, .int x6, .ref 56]) (rest := []) xd52_72 rfl rfl (show ml_L[69]? = _ from rfl) (Nat.le_of_ble_eq_true rfl) (Nat.le_of_ble_eq_true rfl) (Nat.le_of_ble_eq_true rfl) (Nat.le_of_ble_eq_true rfl))))))
theorem x52_75 {x2 : Int32} {x5 : Int32} {x6 : Int32} : wp Ln xs 52 75 [.ref 69, .ref 2, .int x2, .ref 56, .ref 3, .int x5, .int x6] [] (u, ml_h m lm) Φ = Φ (.inl none) (u, ml_h m lm) := (wx_goto xd52_75 rfl).trans (wp_fin (v := none) xd52_129 (Or.inr rfl) rfl rfl)
theorem x52_78 {x2 : Int32} {x5 : Int32} {x6 : Int32} : wp Ln xs 52 78 [.ref 69, .ref 2, .int x2, .ref 56, .ref 3, .int x5, .int x6] [] (u, ml_h m lm) Φ = wp Ln xs 56 0 [.ref 69, .ref 3, .int x5, .int x6, mj_hole, mj_hole, mj_hole] [] (u, ml_h m lm) (mk Ln xs 52 85 [.ref 69, .ref 2, .int x2, .ref 56, .ref 3, .int x5, .int x6] [] Φ) := (wp_same xd52_78 (Or.inr rfl) rfl).trans ((wp_same xd52_79 (Or.inr rfl) rfl).trans ((wp_same xd52_81 (Or.inr rfl) rfl).trans ((wp_same xd52_83 (Or.inr rfl) rfl).trans (wm_cv (As := [.ref 3, .int x5, .int x6]) (rest := []) xd52_85 rfl rfl (show ml_L[69]? = _ from rfl) (Nat.le_of_ble_eq_true rfl) (Nat.le_of_ble_eq_true rfl) (Nat.le_of_ble_eq_true rfl) (Nat.le_of_ble_eq_true rfl)))))
theorem x52_88 {x2 : Int32} {x5 : Int32} {x6 : Int32} : wp Ln xs 52 88 [.ref 69, .ref 2, .int x2, .ref 56, .ref 3, .int x5, .int x6] [] (u, ml_h m lm) Φ = Φ (.inl none) (u, ml_h m lm) := (wx_goto xd52_88 rfl).trans (wp_fin (v := none) xd52_129 (Or.inr rfl) rfl rfl)
theorem x52_91 {x2 : Int32} {x5 : Int32} {x6 : Int32} : wp Ln xs 52 91 [.ref 69, .ref 2, .int x2, .ref 56, .ref 3, .int x5, .int x6] [] (u, ml_h m lm) Φ = wp Ln xs 57 0 [.ref 69, .ref 3, .int x5, .int x6, .ref 56, mj_hole, mj_hole] [] (u, ml_h m lm) (mk Ln xs 52 99 [.ref 69, .ref 2, .int x2, .ref 56, .ref 3, .int x5, .int x6] [] Φ) := (wp_same xd52_91 (Or.inr rfl) rfl).trans ((wp_same xd52_92 (Or.inr rfl) rfl).trans ((wp_same xd52_94 (Or.inr rfl) rfl).trans ((wp_same xd52_96 (Or.inr rfl) rfl).trans ((wp_same xd52_98 (Or.inr rfl) rfl).trans (wm_cv (As := [.ref 3, .int x5, .int x6, .ref 56]) (rest := []) xd52_99 rfl rfl (show ml_L[69]? = _ from rfl) (Nat.le_of_ble_eq_true rfl) (Nat.le_of_ble_eq_true rfl) (Nat.le_of_ble_eq_true rfl) (Nat.le_of_ble_eq_true rfl))))))
theorem x52_102 {x2 : Int32} {x5 : Int32} {x6 : Int32} : wp Ln xs 52 102 [.ref 69, .ref 2, .int x2, .ref 56, .ref 3, .int x5, .int x6] [] (u, ml_h m lm) Φ = Φ (.inl none) (u, ml_h m lm) := (wx_goto xd52_102 rfl).trans (wp_fin (v := none) xd52_129 (Or.inr rfl) rfl rfl)
theorem x52_105 {x2 : Int32} {x5 : Int32} {x6 : Int32} : wp Ln xs 52 105 [.ref 69, .ref 2, .int x2, .ref 56, .ref 3, .int x5, .int x6] [] (u, ml_h m lm) Φ = wp Ln xs 58 0 [.ref 69, .ref 3, .int x5, .int x6, .ref 56, mj_hole, mj_hole] [] (u, ml_h m lm) (mk Ln xs 52 113 [.ref 69, .ref 2, .int x2, .ref 56, .ref 3, .int x5, .int x6] [] Φ) := (wp_same xd52_105 (Or.inr rfl) rfl).trans ((wp_same xd52_106 (Or.inr rfl) rfl).trans ((wp_same xd52_108 (Or.inr rfl) rfl).trans ((wp_same xd52_110 (Or.inr rfl) rfl).trans ((wp_same xd52_112 (Or.inr rfl) rfl).trans (wm_cv (As := [.ref 3, .int x5, .int x6, .ref 56]) (rest := []) xd52_113 rfl rfl (show ml_L[69]? = _ from rfl) (Nat.le_of_ble_eq_true rfl) (Nat.le_of_ble_eq_true rfl) (Nat.le_of_ble_eq_true rfl) (Nat.le_of_ble_eq_true rfl))))))
theorem x52_116 {x2 : Int32} {x5 : Int32} {x6 : Int32} : wp Ln xs 52 116 [.ref 69, .ref 2, .int x2, .ref 56, .ref 3, .int x5, .int x6] [] (u, ml_h m lm) Φ = Φ (.inl none) (u, ml_h m lm) := (wx_goto xd52_116 rfl).trans (wp_fin (v := none) xd52_129 (Or.inr rfl) rfl rfl)
theorem x52_119 {x2 : Int32} {x5 : Int32} {x6 : Int32} : wp Ln xs 52 119 [.ref 69, .ref 2, .int x2, .ref 56, .ref 3, .int x5, .int x6] [] (u, ml_h m lm) Φ = wp Ln xs 60 0 [.ref 69, .ref 3, .int x5, .int x6, mj_hole] [] (u, ml_h m lm) (mk Ln xs 52 126 [.ref 69, .ref 2, .int x2, .ref 56, .ref 3, .int x5, .int x6] [] Φ) := (wp_same xd52_119 (Or.inr rfl) rfl).trans ((wp_same xd52_120 (Or.inr rfl) rfl).trans ((wp_same xd52_122 (Or.inr rfl) rfl).trans ((wp_same xd52_124 (Or.inr rfl) rfl).trans (wm_cv (As := [.ref 3, .int x5, .int x6]) (rest := []) xd52_126 rfl rfl (show ml_L[69]? = _ from rfl) (Nat.le_of_ble_eq_true rfl) (Nat.le_of_ble_eq_true rfl) (Nat.le_of_ble_eq_true rfl) (Nat.le_of_ble_eq_true rfl)))))
theorem x52_129 {x2 : Int32} {x5 : Int32} {x6 : Int32} : wp Ln xs 52 129 [.ref 69, .ref 2, .int x2, .ref 56, .ref 3, .int x5, .int x6] [] (u, ml_h m lm) Φ = Φ (.inl none) (u, ml_h m lm) := wp_fin (v := none) xd52_129 (Or.inr rfl) rfl rfl
/- PickedForms$BitRow.encodePacked -/
theorem xd53_0 : decode (mj_b 53) 0 = .ok (.aload 4, 2) := by decide +kernel
theorem xd53_2 : decode (mj_b 53) 2 = .ok (.getfield 61, 3) := by decide +kernel
theorem xd53_5 : decode (mj_b 53) 5 = .ok (.aload 4, 2) := by decide +kernel
theorem xd53_7 : decode (mj_b 53) 7 = .ok (.getfield 66, 3) := by decide +kernel
theorem xd53_10 : decode (mj_b 53) 10 = .ok (.isub, 1) := by decide +kernel
theorem xd53_11 : decode (mj_b 53) 11 = .ok (.invokestatic 69, 3) := by decide +kernel
theorem xd53_14 : decode (mj_b 53) 14 = .ok (.istore 5, 2) := by decide +kernel
theorem xd53_16 : decode (mj_b 53) 16 = .ok (.aload_n 0, 1) := by decide +kernel
theorem xd53_17 : decode (mj_b 53) 17 = .ok (.aload 4, 2) := by decide +kernel
theorem xd53_19 : decode (mj_b 53) 19 = .ok (.getfield 66, 3) := by decide +kernel
theorem xd53_22 : decode (mj_b 53) 22 = .ok (.bipush 10, 2) := by decide +kernel
theorem xd53_24 : decode (mj_b 53) 24 = .ok (.invokevirtual 57, 3) := by decide +kernel
theorem xd53_27 : decode (mj_b 53) 27 = .ok (.aload_n 0, 1) := by decide +kernel
theorem xd53_28 : decode (mj_b 53) 28 = .ok (.iload 5, 2) := by decide +kernel
theorem xd53_30 : decode (mj_b 53) 30 = .ok (.iconst 4, 1) := by decide +kernel
theorem xd53_31 : decode (mj_b 53) 31 = .ok (.invokevirtual 57, 3) := by decide +kernel
theorem xd53_34 : decode (mj_b 53) 34 = .ok (.iload_n 2, 1) := by decide +kernel
theorem xd53_35 : decode (mj_b 53) 35 = .ok (.istore 6, 2) := by decide +kernel
theorem xd53_37 : decode (mj_b 53) 37 = .ok (.iload 6, 2) := by decide +kernel
theorem xd53_39 : decode (mj_b 53) 39 = .ok (.iload_n 3, 1) := by decide +kernel
theorem xd53_40 : decode (mj_b 53) 40 = .ok (.if_icmp .ge 27, 3) := by decide +kernel
theorem xd53_43 : decode (mj_b 53) 43 = .ok (.aload_n 0, 1) := by decide +kernel
theorem xd53_44 : decode (mj_b 53) 44 = .ok (.aload_n 1, 1) := by decide +kernel
theorem xd53_45 : decode (mj_b 53) 45 = .ok (.iload 6, 2) := by decide +kernel
theorem xd53_47 : decode (mj_b 53) 47 = .ok (.invokestatic 51, 3) := by decide +kernel
theorem xd53_50 : decode (mj_b 53) 50 = .ok (.aload 4, 2) := by decide +kernel
theorem xd53_52 : decode (mj_b 53) 52 = .ok (.getfield 66, 3) := by decide +kernel
theorem xd53_55 : decode (mj_b 53) 55 = .ok (.isub, 1) := by decide +kernel
theorem xd53_56 : decode (mj_b 53) 56 = .ok (.iload 5, 2) := by decide +kernel
theorem xd53_58 : decode (mj_b 53) 58 = .ok (.invokevirtual 57, 3) := by decide +kernel
theorem xd53_61 : decode (mj_b 53) 61 = .ok (.iinc 6 1, 3) := by decide +kernel
theorem xd53_64 : decode (mj_b 53) 64 = .ok (.goto (-27), 3) := by decide +kernel
theorem xd53_67 : decode (mj_b 53) 67 = .ok (.return_, 1) := by decide +kernel
theorem x53_0 {x2 : Int32} {x3 : Int32} : wp Ln xs 53 0 [.ref 69, .ref 3, .int x2, .int x3, .ref 56, mj_hole, mj_hole] [] (u, ml_h m lm) Φ = wp Ln xs 38 0 [.int ((m 56 4) - (m 56 3)), mj_hole, mj_hole] [] (u, ml_h m lm) (mk Ln xs 53 11 [.ref 69, .ref 3, .int x2, .int x3, .ref 56, mj_hole, mj_hole] [] Φ) := (wp_same xd53_0 (Or.inr rfl) rfl).trans ((wm_geti xd53_2 rfl (show ml_L[56]? = _ from rfl) rfl (Nat.le_of_ble_eq_true rfl)).trans ((wp_same xd53_5 (Or.inr rfl) rfl).trans ((wm_geti xd53_7 rfl (show ml_L[56]? = _ from rfl) rfl (Nat.le_of_ble_eq_true rfl)).trans ((wp_same xd53_10 (Or.inr rfl) rfl).trans (wm_cs (As := [.int ((m 56 4) - (m 56 3))]) (rest := []) xd53_11 rfl rfl (Nat.le_of_ble_eq_true rfl) (Nat.le_of_ble_eq_true rfl) (Nat.le_of_ble_eq_true rfl) (Nat.le_of_ble_eq_true rfl))))))
theorem x53_14 {x2 : Int32} {x3 : Int32} {xs0 : Int32} : wp Ln xs 53 14 [.ref 69, .ref 3, .int x2, .int x3, .ref 56, mj_hole, mj_hole] [.int xs0] (u, ml_h m lm) Φ = wp Ln xs 54 0 [.ref 69, .int (m 56 3), .int (nI 10), mj_hole] [] (u, ml_h m lm) (mk Ln xs 53 24 [.ref 69, .ref 3, .int x2, .int x3, .ref 56, .int xs0, mj_hole] [] Φ) := (wp_same (L' := [.ref 69, .ref 3, .int x2, .int x3, .ref 56, .int xs0, mj_hole]) xd53_14 (Or.inr rfl) rfl).trans ((wp_same xd53_16 (Or.inr rfl) rfl).trans ((wp_same xd53_17 (Or.inr rfl) rfl).trans ((wm_geti xd53_19 rfl (show ml_L[56]? = _ from rfl) rfl (Nat.le_of_ble_eq_true rfl)).trans ((wp_same (S' := [.int (nI 10), .int (m 56 3), .ref 69]) xd53_22 (Or.inr rfl) rfl).trans (wm_cv (As := [.int (m 56 3), .int (nI 10)]) (rest := []) xd53_24 rfl rfl (show ml_L[69]? = _ from rfl) (Nat.le_of_ble_eq_true rfl) (Nat.le_of_ble_eq_true rfl) (Nat.le_of_ble_eq_true rfl) (Nat.le_of_ble_eq_true rfl))))))
theorem x53_27 {x2 : Int32} {x3 : Int32} {x5 : Int32} : wp Ln xs 53 27 [.ref 69, .ref 3, .int x2, .int x3, .ref 56, .int x5, mj_hole] [] (u, ml_h m lm) Φ = wp Ln xs 54 0 [.ref 69, .int x5, .int (nI 4), mj_hole] [] (u, ml_h m lm) (mk Ln xs 53 31 [.ref 69, .ref 3, .int x2, .int x3, .ref 56, .int x5, mj_hole] [] Φ) := (wp_same xd53_27 (Or.inr rfl) rfl).trans ((wp_same xd53_28 (Or.inr rfl) rfl).trans ((wp_same (S' := [.int (nI 4), .int x5, .ref 69]) xd53_30 (Or.inr rfl) rfl).trans (wm_cv (As := [.int x5, .int (nI 4)]) (rest := []) xd53_31 rfl rfl (show ml_L[69]? = _ from rfl) (Nat.le_of_ble_eq_true rfl) (Nat.le_of_ble_eq_true rfl) (Nat.le_of_ble_eq_true rfl) (Nat.le_of_ble_eq_true rfl))))
theorem x53_34 {x2 : Int32} {x3 : Int32} {x5 : Int32} : wp Ln xs 53 34 [.ref 69, .ref 3, .int x2, .int x3, .ref 56, .int x5, mj_hole] [] (u, ml_h m lm) Φ = wp Ln xs 53 37 [.ref 69, .ref 3, .int x2, .int x3, .ref 56, .int x5, .int x2] [] (u, ml_h m lm) Φ := (wp_same xd53_34 (Or.inr rfl) rfl).trans (wp_same (L' := [.ref 69, .ref 3, .int x2, .int x3, .ref 56, .int x5, .int x2]) xd53_35 (Or.inr rfl) rfl)
theorem x53_37 {x2 : Int32} {x3 : Int32} {x5 : Int32} {x6 : Int32} : wp Ln xs 53 37 [.ref 69, .ref 3, .int x2, .int x3, .ref 56, .int x5, .int x6] [] (u, ml_h m lm) Φ = if x3 ≤ x6 then wp Ln xs 53 67 [.ref 69, .ref 3, .int x2, .int x3, .ref 56, .int x5, .int x6] [] (u, ml_h m lm) Φ else wp Ln xs 53 43 [.ref 69, .ref 3, .int x2, .int x3, .ref 56, .int x5, .int x6] [] (u, ml_h m lm) Φ := (wp_same xd53_37 (Or.inr rfl) rfl).trans ((wp_same xd53_39 (Or.inr rfl) rfl).trans (wx_icmp xd53_40 rfl rfl (x3 ≤ x6) mb_ge))
theorem x53_43 {x2 : Int32} {x3 : Int32} {x5 : Int32} {x6 : Int32} : wp Ln xs 53 43 [.ref 69, .ref 3, .int x2, .int x3, .ref 56, .int x5, .int x6] [] (u, ml_h m lm) Φ = wp Ln xs 13 0 [.ref 3, .int x6] [] (u, ml_h m lm) (mk Ln xs 53 47 [.ref 69, .ref 3, .int x2, .int x3, .ref 56, .int x5, .int x6] [.ref 69] Φ) := (wp_same xd53_43 (Or.inr rfl) rfl).trans ((wp_same xd53_44 (Or.inr rfl) rfl).trans ((wp_same xd53_45 (Or.inr rfl) rfl).trans (wm_cs (As := [.ref 3, .int x6]) (rest := [.ref 69]) xd53_47 rfl rfl (Nat.le_of_ble_eq_true rfl) (Nat.le_of_ble_eq_true rfl) (Nat.le_of_ble_eq_true rfl) (Nat.le_of_ble_eq_true rfl))))
theorem x53_50 {x2 : Int32} {x3 : Int32} {x5 : Int32} {x6 : Int32} {xs0 : Int32} : wp Ln xs 53 50 [.ref 69, .ref 3, .int x2, .int x3, .ref 56, .int x5, .int x6] [.int xs0, .ref 69] (u, ml_h m lm) Φ = wp Ln xs 54 0 [.ref 69, .int (xs0 - (m 56 3)), .int x5, mj_hole] [] (u, ml_h m lm) (mk Ln xs 53 58 [.ref 69, .ref 3, .int x2, .int x3, .ref 56, .int x5, .int x6] [] Φ) := (wp_same xd53_50 (Or.inr rfl) rfl).trans ((wm_geti xd53_52 rfl (show ml_L[56]? = _ from rfl) rfl (Nat.le_of_ble_eq_true rfl)).trans ((wp_same xd53_55 (Or.inr rfl) rfl).trans ((wp_same xd53_56 (Or.inr rfl) rfl).trans (wm_cv (As := [.int (xs0 - (m 56 3)), .int x5]) (rest := []) xd53_58 rfl rfl (show ml_L[69]? = _ from rfl) (Nat.le_of_ble_eq_true rfl) (Nat.le_of_ble_eq_true rfl) (Nat.le_of_ble_eq_true rfl) (Nat.le_of_ble_eq_true rfl)))))
theorem x53_61 {x2 : Int32} {x3 : Int32} {x5 : Int32} {x6 : Int32} : wp Ln xs 53 61 [.ref 69, .ref 3, .int x2, .int x3, .ref 56, .int x5, .int x6] [] (u, ml_h m lm) Φ = wp Ln xs 53 37 [.ref 69, .ref 3, .int x2, .int x3, .ref 56, .int x5, .int (x6 + nI 1)] [] (u, ml_h m lm) Φ := (wp_same (L' := [.ref 69, .ref 3, .int x2, .int x3, .ref 56, .int x5, .int (x6 + nI 1)]) xd53_61 (Or.inr rfl) rfl).trans (wx_goto xd53_64 rfl)
theorem x53_67 {x2 : Int32} {x3 : Int32} {x5 : Int32} {x6 : Int32} : wp Ln xs 53 67 [.ref 69, .ref 3, .int x2, .int x3, .ref 56, .int x5, .int x6] [] (u, ml_h m lm) Φ = Φ (.inl none) (u, ml_h m lm) := wp_fin (v := none) xd53_67 (Or.inr rfl) rfl rfl
/- PickedForms$BitRow.field -/
theorem xd54_0 : decode (mj_b 54) 0 = .ok (.iload_n 2, 1) := by decide +kernel
theorem xd54_1 : decode (mj_b 54) 1 = .ok (.iconst 1, 1) := by decide +kernel
theorem xd54_2 : decode (mj_b 54) 2 = .ok (.isub, 1) := by decide +kernel
theorem xd54_3 : decode (mj_b 54) 3 = .ok (.istore_n 3, 1) := by decide +kernel
theorem xd54_4 : decode (mj_b 54) 4 = .ok (.iload_n 3, 1) := by decide +kernel
theorem xd54_5 : decode (mj_b 54) 5 = .ok (.ifCond .lt 35, 3) := by decide +kernel
theorem xd54_8 : decode (mj_b 54) 8 = .ok (.aload_n 0, 1) := by decide +kernel
theorem xd54_9 : decode (mj_b 54) 9 = .ok (.getfield 9, 3) := by decide +kernel
theorem xd54_12 : decode (mj_b 54) 12 = .ok (.aload_n 0, 1) := by decide +kernel
theorem xd54_13 : decode (mj_b 54) 13 = .ok (.getfield 15, 3) := by decide +kernel
theorem xd54_16 : decode (mj_b 54) 16 = .ok (.iload_n 1, 1) := by decide +kernel
theorem xd54_17 : decode (mj_b 54) 17 = .ok (.iload_n 3, 1) := by decide +kernel
theorem xd54_18 : decode (mj_b 54) 18 = .ok (.ishr, 1) := by decide +kernel
theorem xd54_19 : decode (mj_b 54) 19 = .ok (.iconst 1, 1) := by decide +kernel
theorem xd54_20 : decode (mj_b 54) 20 = .ok (.iand, 1) := by decide +kernel
theorem xd54_21 : decode (mj_b 54) 21 = .ok (.invokestatic 88, 3) := by decide +kernel
theorem xd54_24 : decode (mj_b 54) 24 = .ok (.aload_n 0, 1) := by decide +kernel
theorem xd54_25 : decode (mj_b 54) 25 = .ok (.dup, 1) := by decide +kernel
theorem xd54_26 : decode (mj_b 54) 26 = .ok (.getfield 15, 3) := by decide +kernel
theorem xd54_29 : decode (mj_b 54) 29 = .ok (.iconst 1, 1) := by decide +kernel
theorem xd54_30 : decode (mj_b 54) 30 = .ok (.iadd, 1) := by decide +kernel
theorem xd54_31 : decode (mj_b 54) 31 = .ok (.putfield 15, 3) := by decide +kernel
theorem xd54_34 : decode (mj_b 54) 34 = .ok (.iinc 3 (-1), 3) := by decide +kernel
theorem xd54_37 : decode (mj_b 54) 37 = .ok (.goto (-33), 3) := by decide +kernel
theorem xd54_40 : decode (mj_b 54) 40 = .ok (.return_, 1) := by decide +kernel
theorem x54_0 {x1 : Int32} {x2 : Int32} : wp Ln xs 54 0 [.ref 69, .int x1, .int x2, mj_hole] [] (u, ml_h m lm) Φ = wp Ln xs 54 4 [.ref 69, .int x1, .int x2, .int (x2 - (nI 1))] [] (u, ml_h m lm) Φ := (wp_same xd54_0 (Or.inr rfl) rfl).trans ((wp_same (S' := [.int (nI 1), .int x2]) xd54_1 (Or.inr rfl) rfl).trans ((wp_same xd54_2 (Or.inr rfl) rfl).trans (wp_same (L' := [.ref 69, .int x1, .int x2, .int (x2 - (nI 1))]) xd54_3 (Or.inr rfl) rfl)))
theorem x54_4 {x1 : Int32} {x2 : Int32} {x3 : Int32} : wp Ln xs 54 4 [.ref 69, .int x1, .int x2, .int x3] [] (u, ml_h m lm) Φ = if x3 < (nI 0) then wp Ln xs 54 40 [.ref 69, .int x1, .int x2, .int x3] [] (u, ml_h m lm) Φ else wp Ln xs 54 8 [.ref 69, .int x1, .int x2, .int x3] [] (u, ml_h m lm) Φ := (wp_same xd54_4 (Or.inr rfl) rfl).trans (wx_if xd54_5 rfl rfl (x3 < (nI 0)) mb_lt)
theorem x54_8 {x1 : Int32} {x2 : Int32} {x3 : Int32} : wp Ln xs 54 8 [.ref 69, .int x1, .int x2, .int x3] [] (u, ml_h m lm) Φ = wp Ln xs 55 0 [.ref 70, .int (m 69 1), .int ((x1 >>> (x3 &&& 31)) &&& (nI 1))] [] (u, ml_h m lm) (mk Ln xs 54 21 [.ref 69, .int x1, .int x2, .int x3] [] Φ) := (wp_same xd54_8 (Or.inr rfl) rfl).trans ((wm_getr xd54_9 rfl (show ml_L[69]? = _ from rfl) rfl (Nat.le_of_ble_eq_true rfl)).trans ((wp_same xd54_12 (Or.inr rfl) rfl).trans ((wm_geti xd54_13 rfl (show ml_L[69]? = _ from rfl) rfl (Nat.le_of_ble_eq_true rfl)).trans ((wp_same xd54_16 (Or.inr rfl) rfl).trans ((wp_same xd54_17 (Or.inr rfl) rfl).trans ((wp_same xd54_18 (Or.inr rfl) rfl).trans ((wp_same (S' := [.int (nI 1), .int (x1 >>> (x3 &&& 31)), .int (m 69 1), .ref 70]) xd54_19 (Or.inr rfl) rfl).trans ((wp_same xd54_20 (Or.inr rfl) rfl).trans (wm_cs (As := [.ref 70, .int (m 69 1), .int ((x1 >>> (x3 &&& 31)) &&& (nI 1))]) (rest := []) xd54_21 rfl rfl (Nat.le_of_ble_eq_true rfl) (Nat.le_of_ble_eq_true rfl) (Nat.le_of_ble_eq_true rfl) (Nat.le_of_ble_eq_true rfl))))))))))
theorem x54_24 {x1 : Int32} {x2 : Int32} {x3 : Int32} : wp Ln xs 54 24 [.ref 69, .int x1, .int x2, .int x3] [] (u, ml_h m lm) Φ = wp Ln xs 54 4 [.ref 69, .int x1, .int x2, .int (x3 + (-1))] [] (u, ml_h (ml_s m 69 1 ((m 69 1) + (nI 1))) lm) Φ := (wp_same xd54_24 (Or.inr rfl) rfl).trans ((wp_same xd54_25 (Or.inr rfl) rfl).trans ((wm_geti xd54_26 rfl (show ml_L[69]? = _ from rfl) rfl (Nat.le_of_ble_eq_true rfl)).trans ((wp_same (S' := [.int (nI 1), .int (m 69 1), .ref 69]) xd54_29 (Or.inr rfl) rfl).trans ((wp_same xd54_30 (Or.inr rfl) rfl).trans ((wm_puti xd54_31 rfl (show ml_L[69]? = _ from rfl) rfl (Nat.le_of_ble_eq_true rfl) rfl rfl rfl).trans ((wp_same (L' := [.ref 69, .int x1, .int x2, .int (x3 + (-1))]) xd54_34 (Or.inr rfl) rfl).trans (wx_goto xd54_37 rfl)))))))
theorem x54_40 {x1 : Int32} {x2 : Int32} {x3 : Int32} : wp Ln xs 54 40 [.ref 69, .int x1, .int x2, .int x3] [] (u, ml_h m lm) Φ = Φ (.inl none) (u, ml_h m lm) := wp_fin (v := none) xd54_40 (Or.inr rfl) rfl rfl
end MXc
