/-! ===== an equation for each straight piece of a method ===== -/
section MXd
variable {Ln : Nat} {xs : Nat → Int32} {u : mj_U} {m : ml_M} {lm : ml_J} {Φ : mj_R → mj_W → Prop}
/- PickedForms$BitRow.encodeDeltas -/
theorem xd68_0 : decode (mj_b 68) 0 = .ok (.aload 4, 2) := by decide +kernel
theorem xd68_2 : decode (mj_b 68) 2 = .ok (.getfield 72, 3) := by decide +kernel
theorem xd68_5 : decode (mj_b 68) 5 = .ok (.invokestatic 69, 3) := by decide +kernel
theorem xd68_8 : decode (mj_b 68) 8 = .ok (.istore 5, 2) := by decide +kernel
theorem xd68_10 : decode (mj_b 68) 10 = .ok (.aload_n 0, 1) := by decide +kernel
theorem xd68_11 : decode (mj_b 68) 11 = .ok (.aload_n 1, 1) := by decide +kernel
theorem xd68_12 : decode (mj_b 68) 12 = .ok (.iload_n 2, 1) := by decide +kernel
theorem xd68_13 : decode (mj_b 68) 13 = .ok (.invokestatic 51, 3) := by decide +kernel
theorem xd68_16 : decode (mj_b 68) 16 = .ok (.bipush 10, 2) := by decide +kernel
theorem xd68_18 : decode (mj_b 68) 18 = .ok (.invokevirtual 57, 3) := by decide +kernel
theorem xd68_21 : decode (mj_b 68) 21 = .ok (.aload_n 0, 1) := by decide +kernel
theorem xd68_22 : decode (mj_b 68) 22 = .ok (.iload 5, 2) := by decide +kernel
theorem xd68_24 : decode (mj_b 68) 24 = .ok (.iconst 4, 1) := by decide +kernel
theorem xd68_25 : decode (mj_b 68) 25 = .ok (.invokevirtual 57, 3) := by decide +kernel
theorem xd68_28 : decode (mj_b 68) 28 = .ok (.iload_n 2, 1) := by decide +kernel
theorem xd68_29 : decode (mj_b 68) 29 = .ok (.iconst 1, 1) := by decide +kernel
theorem xd68_30 : decode (mj_b 68) 30 = .ok (.iadd, 1) := by decide +kernel
theorem xd68_31 : decode (mj_b 68) 31 = .ok (.istore 6, 2) := by decide +kernel
theorem xd68_33 : decode (mj_b 68) 33 = .ok (.iload 6, 2) := by decide +kernel
theorem xd68_35 : decode (mj_b 68) 35 = .ok (.iload_n 3, 1) := by decide +kernel
theorem xd68_36 : decode (mj_b 68) 36 = .ok (.if_icmp .ge 32, 3) := by decide +kernel
theorem xd68_39 : decode (mj_b 68) 39 = .ok (.aload_n 0, 1) := by decide +kernel
theorem xd68_40 : decode (mj_b 68) 40 = .ok (.aload_n 1, 1) := by decide +kernel
theorem xd68_41 : decode (mj_b 68) 41 = .ok (.iload 6, 2) := by decide +kernel
theorem xd68_43 : decode (mj_b 68) 43 = .ok (.iconst 1, 1) := by decide +kernel
theorem xd68_44 : decode (mj_b 68) 44 = .ok (.isub, 1) := by decide +kernel
theorem xd68_45 : decode (mj_b 68) 45 = .ok (.invokestatic 51, 3) := by decide +kernel
theorem xd68_48 : decode (mj_b 68) 48 = .ok (.aload_n 1, 1) := by decide +kernel
theorem xd68_49 : decode (mj_b 68) 49 = .ok (.iload 6, 2) := by decide +kernel
theorem xd68_51 : decode (mj_b 68) 51 = .ok (.invokestatic 51, 3) := by decide +kernel
theorem xd68_54 : decode (mj_b 68) 54 = .ok (.invokestatic 75, 3) := by decide +kernel
theorem xd68_57 : decode (mj_b 68) 57 = .ok (.iload 5, 2) := by decide +kernel
theorem xd68_59 : decode (mj_b 68) 59 = .ok (.invokevirtual 57, 3) := by decide +kernel
theorem xd68_62 : decode (mj_b 68) 62 = .ok (.iinc 6 1, 3) := by decide +kernel
theorem xd68_65 : decode (mj_b 68) 65 = .ok (.goto (-32), 3) := by decide +kernel
theorem xd68_68 : decode (mj_b 68) 68 = .ok (.return_, 1) := by decide +kernel
theorem x68_0 {x2 : Int32} {x3 : Int32} : wp Ln xs 68 0 [.ref 69, .ref 3, .int x2, .int x3, .ref 56, mj_hole, mj_hole] [] (u, ml_h m lm) Φ = wp Ln xs 28 0 [.int (m 56 6), mj_hole, mj_hole] [] (u, ml_h m lm) (mk Ln xs 68 5 [.ref 69, .ref 3, .int x2, .int x3, .ref 56, mj_hole, mj_hole] [] Φ) := (wp_same xd68_0 (Or.inr rfl) rfl).trans ((wm_geti xd68_2 rfl (show ml_L[56]? = _ from rfl) rfl (Nat.le_of_ble_eq_true rfl)).trans (wm_cs (As := [.int (m 56 6)]) (rest := []) xd68_5 rfl rfl (Nat.le_of_ble_eq_true rfl) (Nat.le_of_ble_eq_true rfl) (Nat.le_of_ble_eq_true rfl) (Nat.le_of_ble_eq_true rfl)))
theorem x68_8 {x2 : Int32} {x3 : Int32} {xs0 : Int32} : wp Ln xs 68 8 [.ref 69, .ref 3, .int x2, .int x3, .ref 56, mj_hole, mj_hole] [.int xs0] (u, ml_h m lm) Φ = wp Ln xs 17 0 [.ref 3, .int x2] [] (u, ml_h m lm) (mk Ln xs 68 13 [.ref 69, .ref 3, .int x2, .int x3, .ref 56, .int xs0, mj_hole] [.ref 69] Φ) := (wp_same (L' := [.ref 69, .ref 3, .int x2, .int x3, .ref 56, .int xs0, mj_hole]) xd68_8 (Or.inr rfl) rfl).trans ((wp_same xd68_10 (Or.inr rfl) rfl).trans ((wp_same xd68_11 (Or.inr rfl) rfl).trans ((wp_same xd68_12 (Or.inr rfl) rfl).trans (wm_cs (As := [.ref 3, .int x2]) (rest := [.ref 69]) xd68_13 rfl rfl (Nat.le_of_ble_eq_true rfl) (Nat.le_of_ble_eq_true rfl) (Nat.le_of_ble_eq_true rfl) (Nat.le_of_ble_eq_true rfl)))))
theorem x68_16 {x2 : Int32} {x3 : Int32} {x5 : Int32} {xs0 : Int32} : wp Ln xs 68 16 [.ref 69, .ref 3, .int x2, .int x3, .ref 56, .int x5, mj_hole] [.int xs0, .ref 69] (u, ml_h m lm) Φ = wp Ln xs 66 0 [.ref 69, .int xs0, .int (nI 10), mj_hole] [] (u, ml_h m lm) (mk Ln xs 68 18 [.ref 69, .ref 3, .int x2, .int x3, .ref 56, .int x5, mj_hole] [] Φ) := (wp_same (S' := [.int (nI 10), .int xs0, .ref 69]) xd68_16 (Or.inr rfl) rfl).trans (wm_cv (As := [.int xs0, .int (nI 10)]) (rest := []) xd68_18 rfl rfl (show ml_L[69]? = _ from rfl) (Nat.le_of_ble_eq_true rfl) (Nat.le_of_ble_eq_true rfl) (Nat.le_of_ble_eq_true rfl) (Nat.le_of_ble_eq_true rfl))
theorem x68_21 {x2 : Int32} {x3 : Int32} {x5 : Int32} : wp Ln xs 68 21 [.ref 69, .ref 3, .int x2, .int x3, .ref 56, .int x5, mj_hole] [] (u, ml_h m lm) Φ = wp Ln xs 66 0 [.ref 69, .int x5, .int (nI 4), mj_hole] [] (u, ml_h m lm) (mk Ln xs 68 25 [.ref 69, .ref 3, .int x2, .int x3, .ref 56, .int x5, mj_hole] [] Φ) := (wp_same xd68_21 (Or.inr rfl) rfl).trans ((wp_same xd68_22 (Or.inr rfl) rfl).trans ((wp_same (S' := [.int (nI 4), .int x5, .ref 69]) xd68_24 (Or.inr rfl) rfl).trans (wm_cv (As := [.int x5, .int (nI 4)]) (rest := []) xd68_25 rfl rfl (show ml_L[69]? = _ from rfl) (Nat.le_of_ble_eq_true rfl) (Nat.le_of_ble_eq_true rfl) (Nat.le_of_ble_eq_true rfl) (Nat.le_of_ble_eq_true rfl))))
theorem x68_28 {x2 : Int32} {x3 : Int32} {x5 : Int32} : wp Ln xs 68 28 [.ref 69, .ref 3, .int x2, .int x3, .ref 56, .int x5, mj_hole] [] (u, ml_h m lm) Φ = wp Ln xs 68 33 [.ref 69, .ref 3, .int x2, .int x3, .ref 56, .int x5, .int (x2 + (nI 1))] [] (u, ml_h m lm) Φ := (wp_same xd68_28 (Or.inr rfl) rfl).trans ((wp_same (S' := [.int (nI 1), .int x2]) xd68_29 (Or.inr rfl) rfl).trans ((wp_same xd68_30 (Or.inr rfl) rfl).trans (wp_same (L' := [.ref 69, .ref 3, .int x2, .int x3, .ref 56, .int x5, .int (x2 + (nI 1))]) xd68_31 (Or.inr rfl) rfl)))
theorem x68_33 {x2 : Int32} {x3 : Int32} {x5 : Int32} {x6 : Int32} : wp Ln xs 68 33 [.ref 69, .ref 3, .int x2, .int x3, .ref 56, .int x5, .int x6] [] (u, ml_h m lm) Φ = if x3 ≤ x6 then wp Ln xs 68 68 [.ref 69, .ref 3, .int x2, .int x3, .ref 56, .int x5, .int x6] [] (u, ml_h m lm) Φ else wp Ln xs 68 39 [.ref 69, .ref 3, .int x2, .int x3, .ref 56, .int x5, .int x6] [] (u, ml_h m lm) Φ := (wp_same xd68_33 (Or.inr rfl) rfl).trans ((wp_same xd68_35 (Or.inr rfl) rfl).trans (wx_icmp xd68_36 rfl rfl (x3 ≤ x6) mb_ge))
theorem x68_39 {x2 : Int32} {x3 : Int32} {x5 : Int32} {x6 : Int32} : wp Ln xs 68 39 [.ref 69, .ref 3, .int x2, .int x3, .ref 56, .int x5, .int x6] [] (u, ml_h m lm) Φ = wp Ln xs 17 0 [.ref 3, .int (x6 - (nI 1))] [] (u, ml_h m lm) (mk Ln xs 68 45 [.ref 69, .ref 3, .int x2, .int x3, .ref 56, .int x5, .int x6] [.ref 69] Φ) := (wp_same xd68_39 (Or.inr rfl) rfl).trans ((wp_same xd68_40 (Or.inr rfl) rfl).trans ((wp_same xd68_41 (Or.inr rfl) rfl).trans ((wp_same (S' := [.int (nI 1), .int x6, .ref 3, .ref 69]) xd68_43 (Or.inr rfl) rfl).trans ((wp_same xd68_44 (Or.inr rfl) rfl).trans (wm_cs (As := [.ref 3, .int (x6 - (nI 1))]) (rest := [.ref 69]) xd68_45 rfl rfl (Nat.le_of_ble_eq_true rfl) (Nat.le_of_ble_eq_true rfl) (Nat.le_of_ble_eq_true rfl) (Nat.le_of_ble_eq_true rfl))))))
theorem x68_48 {x2 : Int32} {x3 : Int32} {x5 : Int32} {x6 : Int32} {xs0 : Int32} : wp Ln xs 68 48 [.ref 69, .ref 3, .int x2, .int x3, .ref 56, .int x5, .int x6] [.int xs0, .ref 69] (u, ml_h m lm) Φ = wp Ln xs 17 0 [.ref 3, .int x6] [] (u, ml_h m lm) (mk Ln xs 68 51 [.ref 69, .ref 3, .int x2, .int x3, .ref 56, .int x5, .int x6] [.int xs0, .ref 69] Φ) := (wp_same xd68_48 (Or.inr rfl) rfl).trans ((wp_same xd68_49 (Or.inr rfl) rfl).trans (wm_cs (As := [.ref 3, .int x6]) (rest := [.int xs0, .ref 69]) xd68_51 rfl rfl (Nat.le_of_ble_eq_true rfl) (Nat.le_of_ble_eq_true rfl) (Nat.le_of_ble_eq_true rfl) (Nat.le_of_ble_eq_true rfl)))
theorem x68_54 {x2 : Int32} {x3 : Int32} {x5 : Int32} {x6 : Int32} {xs0 : Int32} {xs1 : Int32} : wp Ln xs 68 54 [.ref 69, .ref 3, .int x2, .int x3, .ref 56, .int x5, .int x6] [.int xs0, .int xs1, .ref 69] (u, ml_h m lm) Φ = wp Ln xs 24 0 [.int xs1, .int xs0, mj_hole] [] (u, ml_h m lm) (mk Ln xs 68 54 [.ref 69, .ref 3, .int x2, .int x3, .ref 56, .int x5, .int x6] [.ref 69] Φ) := wm_cs (As := [.int xs1, .int xs0]) (rest := [.ref 69]) xd68_54 rfl rfl (Nat.le_of_ble_eq_true rfl) (Nat.le_of_ble_eq_true rfl) (Nat.le_of_ble_eq_true rfl) (Nat.le_of_ble_eq_true rfl)
theorem x68_57 {x2 : Int32} {x3 : Int32} {x5 : Int32} {x6 : Int32} {xs0 : Int32} : wp Ln xs 68 57 [.ref 69, .ref 3, .int x2, .int x3, .ref 56, .int x5, .int x6] [.int xs0, .ref 69] (u, ml_h m lm) Φ = wp Ln xs 66 0 [.ref 69, .int xs0, .int x5, mj_hole] [] (u, ml_h m lm) (mk Ln xs 68 59 [.ref 69, .ref 3, .int x2, .int x3, .ref 56, .int x5, .int x6] [] Φ) := (wp_same xd68_57 (Or.inr rfl) rfl).trans (wm_cv (As := [.int xs0, .int x5]) (rest := []) xd68_59 rfl rfl (show ml_L[69]? = _ from rfl) (Nat.le_of_ble_eq_true rfl) (Nat.le_of_ble_eq_true rfl) (Nat.le_of_ble_eq_true rfl) (Nat.le_of_ble_eq_true rfl))
theorem x68_62 {x2 : Int32} {x3 : Int32} {x5 : Int32} {x6 : Int32} : wp Ln xs 68 62 [.ref 69, .ref 3, .int x2, .int x3, .ref 56, .int x5, .int x6] [] (u, ml_h m lm) Φ = wp Ln xs 68 33 [.ref 69, .ref 3, .int x2, .int x3, .ref 56, .int x5, .int (x6 + nI 1)] [] (u, ml_h m lm) Φ := (wp_same (L' := [.ref 69, .ref 3, .int x2, .int x3, .ref 56, .int x5, .int (x6 + nI 1)]) xd68_62 (Or.inr rfl) rfl).trans (wx_goto xd68_65 rfl)
theorem x68_68 {x2 : Int32} {x3 : Int32} {x5 : Int32} {x6 : Int32} : wp Ln xs 68 68 [.ref 69, .ref 3, .int x2, .int x3, .ref 56, .int x5, .int x6] [] (u, ml_h m lm) Φ = Φ (.inl none) (u, ml_h m lm) := wp_fin (v := none) xd68_68 (Or.inr rfl) rfl rfl
/- PickedForms$BitRow.encodeListed -/
theorem xd69_0 : decode (mj_b 69) 0 = .ok (.aload 4, 2) := by decide +kernel
theorem xd69_2 : decode (mj_b 69) 2 = .ok (.getfield 79, 3) := by decide +kernel
theorem xd69_5 : decode (mj_b 69) 5 = .ok (.iconst 1, 1) := by decide +kernel
theorem xd69_6 : decode (mj_b 69) 6 = .ok (.isub, 1) := by decide +kernel
theorem xd69_7 : decode (mj_b 69) 7 = .ok (.invokestatic 69, 3) := by decide +kernel
theorem xd69_10 : decode (mj_b 69) 10 = .ok (.istore 5, 2) := by decide +kernel
theorem xd69_12 : decode (mj_b 69) 12 = .ok (.aload_n 0, 1) := by decide +kernel
theorem xd69_13 : decode (mj_b 69) 13 = .ok (.aload 4, 2) := by decide +kernel
theorem xd69_15 : decode (mj_b 69) 15 = .ok (.getfield 79, 3) := by decide +kernel
theorem xd69_18 : decode (mj_b 69) 18 = .ok (.iconst 1, 1) := by decide +kernel
theorem xd69_19 : decode (mj_b 69) 19 = .ok (.isub, 1) := by decide +kernel
theorem xd69_20 : decode (mj_b 69) 20 = .ok (.iconst 4, 1) := by decide +kernel
theorem xd69_21 : decode (mj_b 69) 21 = .ok (.invokevirtual 57, 3) := by decide +kernel
theorem xd69_24 : decode (mj_b 69) 24 = .ok (.iconst 0, 1) := by decide +kernel
theorem xd69_25 : decode (mj_b 69) 25 = .ok (.istore 6, 2) := by decide +kernel
theorem xd69_27 : decode (mj_b 69) 27 = .ok (.iload 6, 2) := by decide +kernel
theorem xd69_29 : decode (mj_b 69) 29 = .ok (.aload 4, 2) := by decide +kernel
theorem xd69_31 : decode (mj_b 69) 31 = .ok (.getfield 79, 3) := by decide +kernel
theorem xd69_34 : decode (mj_b 69) 34 = .ok (.if_icmp .ge 25, 3) := by decide +kernel
theorem xd69_37 : decode (mj_b 69) 37 = .ok (.aload_n 0, 1) := by decide +kernel
theorem xd69_38 : decode (mj_b 69) 38 = .ok (.aload 4, 2) := by decide +kernel
theorem xd69_40 : decode (mj_b 69) 40 = .ok (.getfield 82, 3) := by decide +kernel
theorem xd69_43 : decode (mj_b 69) 43 = .ok (.iload 6, 2) := by decide +kernel
theorem xd69_45 : decode (mj_b 69) 45 = .ok (.invokestatic 51, 3) := by decide +kernel
theorem xd69_48 : decode (mj_b 69) 48 = .ok (.bipush 10, 2) := by decide +kernel
theorem xd69_50 : decode (mj_b 69) 50 = .ok (.invokevirtual 57, 3) := by decide +kernel
theorem xd69_53 : decode (mj_b 69) 53 = .ok (.iinc 6 1, 3) := by decide +kernel
theorem xd69_56 : decode (mj_b 69) 56 = .ok (.goto (-29), 3) := by decide +kernel
theorem xd69_59 : decode (mj_b 69) 59 = .ok (.iload_n 2, 1) := by decide +kernel
theorem xd69_60 : decode (mj_b 69) 60 = .ok (.istore 6, 2) := by decide +kernel
theorem xd69_62 : decode (mj_b 69) 62 = .ok (.iload 6, 2) := by decide +kernel
theorem xd69_64 : decode (mj_b 69) 64 = .ok (.iload_n 3, 1) := by decide +kernel
theorem xd69_65 : decode (mj_b 69) 65 = .ok (.if_icmp .ge 26, 3) := by decide +kernel
theorem xd69_68 : decode (mj_b 69) 68 = .ok (.aload_n 0, 1) := by decide +kernel
theorem xd69_69 : decode (mj_b 69) 69 = .ok (.aload 4, 2) := by decide +kernel
theorem xd69_71 : decode (mj_b 69) 71 = .ok (.aload_n 1, 1) := by decide +kernel
theorem xd69_72 : decode (mj_b 69) 72 = .ok (.iload 6, 2) := by decide +kernel
theorem xd69_74 : decode (mj_b 69) 74 = .ok (.invokestatic 51, 3) := by decide +kernel
theorem xd69_77 : decode (mj_b 69) 77 = .ok (.invokevirtual 85, 3) := by decide +kernel
theorem xd69_80 : decode (mj_b 69) 80 = .ok (.iload 5, 2) := by decide +kernel
theorem xd69_82 : decode (mj_b 69) 82 = .ok (.invokevirtual 57, 3) := by decide +kernel
theorem xd69_85 : decode (mj_b 69) 85 = .ok (.iinc 6 1, 3) := by decide +kernel
theorem xd69_88 : decode (mj_b 69) 88 = .ok (.goto (-26), 3) := by decide +kernel
theorem xd69_91 : decode (mj_b 69) 91 = .ok (.return_, 1) := by decide +kernel
theorem x69_0 {x2 : Int32} {x3 : Int32} : wp Ln xs 69 0 [.ref 69, .ref 3, .int x2, .int x3, .ref 56, mj_hole, mj_hole] [] (u, ml_h m lm) Φ = wp Ln xs 28 0 [.int ((m 56 1) - (nI 1)), mj_hole, mj_hole] [] (u, ml_h m lm) (mk Ln xs 69 7 [.ref 69, .ref 3, .int x2, .int x3, .ref 56, mj_hole, mj_hole] [] Φ) := (wp_same xd69_0 (Or.inr rfl) rfl).trans ((wm_geti xd69_2 rfl (show ml_L[56]? = _ from rfl) rfl (Nat.le_of_ble_eq_true rfl)).trans ((wp_same (S' := [.int (nI 1), .int (m 56 1)]) xd69_5 (Or.inr rfl) rfl).trans ((wp_same xd69_6 (Or.inr rfl) rfl).trans (wm_cs (As := [.int ((m 56 1) - (nI 1))]) (rest := []) xd69_7 rfl rfl (Nat.le_of_ble_eq_true rfl) (Nat.le_of_ble_eq_true rfl) (Nat.le_of_ble_eq_true rfl) (Nat.le_of_ble_eq_true rfl)))))
theorem x69_10 {x2 : Int32} {x3 : Int32} {xs0 : Int32} : wp Ln xs 69 10 [.ref 69, .ref 3, .int x2, .int x3, .ref 56, mj_hole, mj_hole] [.int xs0] (u, ml_h m lm) Φ = wp Ln xs 66 0 [.ref 69, .int ((m 56 1) - (nI 1)), .int (nI 4), mj_hole] [] (u, ml_h m lm) (mk Ln xs 69 21 [.ref 69, .ref 3, .int x2, .int x3, .ref 56, .int xs0, mj_hole] [] Φ) := (wp_same (L' := [.ref 69, .ref 3, .int x2, .int x3, .ref 56, .int xs0, mj_hole]) xd69_10 (Or.inr rfl) rfl).trans ((wp_same xd69_12 (Or.inr rfl) rfl).trans ((wp_same xd69_13 (Or.inr rfl) rfl).trans ((wm_geti xd69_15 rfl (show ml_L[56]? = _ from rfl) rfl (Nat.le_of_ble_eq_true rfl)).trans ((wp_same (S' := [.int (nI 1), .int (m 56 1), .ref 69]) xd69_18 (Or.inr rfl) rfl).trans ((wp_same xd69_19 (Or.inr rfl) rfl).trans ((wp_same (S' := [.int (nI 4), .int ((m 56 1) - (nI 1)), .ref 69]) xd69_20 (Or.inr rfl) rfl).trans (wm_cv (As := [.int ((m 56 1) - (nI 1)), .int (nI 4)]) (rest := []) xd69_21 rfl rfl (show ml_L[69]? = _ from rfl) (Nat.le_of_ble_eq_true rfl) (Nat.le_of_ble_eq_true rfl) (Nat.le_of_ble_eq_true rfl) (Nat.le_of_ble_eq_true rfl))))))))
theorem x69_24 {x2 : Int32} {x3 : Int32} {x5 : Int32} : wp Ln xs 69 24 [.ref 69, .ref 3, .int x2, .int x3, .ref 56, .int x5, mj_hole] [] (u, ml_h m lm) Φ = wp Ln xs 69 27 [.ref 69, .ref 3, .int x2, .int x3, .ref 56, .int x5, .int (nI 0)] [] (u, ml_h m lm) Φ := (wp_same (S' := [.int (nI 0)]) xd69_24 (Or.inr rfl) rfl).trans (wp_same (L' := [.ref 69, .ref 3, .int x2, .int x3, .ref 56, .int x5, .int (nI 0)]) xd69_25 (Or.inr rfl) rfl)
theorem x69_27 {x2 : Int32} {x3 : Int32} {x5 : Int32} {x6 : Int32} : wp Ln xs 69 27 [.ref 69, .ref 3, .int x2, .int x3, .ref 56, .int x5, .int x6] [] (u, ml_h m lm) Φ = if (m 56 1) ≤ x6 then wp Ln xs 69 59 [.ref 69, .ref 3, .int x2, .int x3, .ref 56, .int x5, .int x6] [] (u, ml_h m lm) Φ else wp Ln xs 69 37 [.ref 69, .ref 3, .int x2, .int x3, .ref 56, .int x5, .int x6] [] (u, ml_h m lm) Φ := (wp_same xd69_27 (Or.inr rfl) rfl).trans ((wp_same xd69_29 (Or.inr rfl) rfl).trans ((wm_geti xd69_31 rfl (show ml_L[56]? = _ from rfl) rfl (Nat.le_of_ble_eq_true rfl)).trans (wx_icmp xd69_34 rfl rfl ((m 56 1) ≤ x6) mb_ge)))
theorem x69_37 {x2 : Int32} {x3 : Int32} {x5 : Int32} {x6 : Int32} : wp Ln xs 69 37 [.ref 69, .ref 3, .int x2, .int x3, .ref 56, .int x5, .int x6] [] (u, ml_h m lm) Φ = wp Ln xs 17 0 [.ref 57, .int x6] [] (u, ml_h m lm) (mk Ln xs 69 45 [.ref 69, .ref 3, .int x2, .int x3, .ref 56, .int x5, .int x6] [.ref 69] Φ) := (wp_same xd69_37 (Or.inr rfl) rfl).trans ((wp_same xd69_38 (Or.inr rfl) rfl).trans ((wm_getr xd69_40 rfl (show ml_L[56]? = _ from rfl) rfl (Nat.le_of_ble_eq_true rfl)).trans ((wp_same xd69_43 (Or.inr rfl) rfl).trans (wm_cs (As := [.ref 57, .int x6]) (rest := [.ref 69]) xd69_45 rfl rfl (Nat.le_of_ble_eq_true rfl) (Nat.le_of_ble_eq_true rfl) (Nat.le_of_ble_eq_true rfl) (Nat.le_of_ble_eq_true rfl)))))
theorem x69_48 {x2 : Int32} {x3 : Int32} {x5 : Int32} {x6 : Int32} {xs0 : Int32} : wp Ln xs 69 48 [.ref 69, .ref 3, .int x2, .int x3, .ref 56, .int x5, .int x6] [.int xs0, .ref 69] (u, ml_h m lm) Φ = wp Ln xs 66 0 [.ref 69, .int xs0, .int (nI 10), mj_hole] [] (u, ml_h m lm) (mk Ln xs 69 50 [.ref 69, .ref 3, .int x2, .int x3, .ref 56, .int x5, .int x6] [] Φ) := (wp_same (S' := [.int (nI 10), .int xs0, .ref 69]) xd69_48 (Or.inr rfl) rfl).trans (wm_cv (As := [.int xs0, .int (nI 10)]) (rest := []) xd69_50 rfl rfl (show ml_L[69]? = _ from rfl) (Nat.le_of_ble_eq_true rfl) (Nat.le_of_ble_eq_true rfl) (Nat.le_of_ble_eq_true rfl) (Nat.le_of_ble_eq_true rfl))
theorem x69_53 {x2 : Int32} {x3 : Int32} {x5 : Int32} {x6 : Int32} : wp Ln xs 69 53 [.ref 69, .ref 3, .int x2, .int x3, .ref 56, .int x5, .int x6] [] (u, ml_h m lm) Φ = wp Ln xs 69 27 [.ref 69, .ref 3, .int x2, .int x3, .ref 56, .int x5, .int (x6 + nI 1)] [] (u, ml_h m lm) Φ := (wp_same (L' := [.ref 69, .ref 3, .int x2, .int x3, .ref 56, .int x5, .int (x6 + nI 1)]) xd69_53 (Or.inr rfl) rfl).trans (wx_goto xd69_56 rfl)
theorem x69_59 {x2 : Int32} {x3 : Int32} {x5 : Int32} {x6 : Int32} : wp Ln xs 69 59 [.ref 69, .ref 3, .int x2, .int x3, .ref 56, .int x5, .int x6] [] (u, ml_h m lm) Φ = wp Ln xs 69 62 [.ref 69, .ref 3, .int x2, .int x3, .ref 56, .int x5, .int x2] [] (u, ml_h m lm) Φ := (wp_same xd69_59 (Or.inr rfl) rfl).trans (wp_same (L' := [.ref 69, .ref 3, .int x2, .int x3, .ref 56, .int x5, .int x2]) xd69_60 (Or.inr rfl) rfl)
theorem x69_62 {x2 : Int32} {x3 : Int32} {x5 : Int32} {x6 : Int32} : wp Ln xs 69 62 [.ref 69, .ref 3, .int x2, .int x3, .ref 56, .int x5, .int x6] [] (u, ml_h m lm) Φ = if x3 ≤ x6 then wp Ln xs 69 91 [.ref 69, .ref 3, .int x2, .int x3, .ref 56, .int x5, .int x6] [] (u, ml_h m lm) Φ else wp Ln xs 69 68 [.ref 69, .ref 3, .int x2, .int x3, .ref 56, .int x5, .int x6] [] (u, ml_h m lm) Φ := (wp_same xd69_62 (Or.inr rfl) rfl).trans ((wp_same xd69_64 (Or.inr rfl) rfl).trans (wx_icmp xd69_65 rfl rfl (x3 ≤ x6) mb_ge))
theorem x69_68 {x2 : Int32} {x3 : Int32} {x5 : Int32} {x6 : Int32} : wp Ln xs 69 68 [.ref 69, .ref 3, .int x2, .int x3, .ref 56, .int x5, .int x6] [] (u, ml_h m lm) Φ = wp Ln xs 17 0 [.ref 3, .int x6] [] (u, ml_h m lm) (mk Ln xs 69 74 [.ref 69, .ref 3, .int x2, .int x3, .ref 56, .int x5, .int x6] [.ref 56, .ref 69] Φ) := (wp_same xd69_68 (Or.inr rfl) rfl).trans ((wp_same xd69_69 (Or.inr rfl) rfl).trans ((wp_same xd69_71 (Or.inr rfl) rfl).trans ((wp_same xd69_72 (Or.inr rfl) rfl).trans (wm_cs (As := [.ref 3, .int x6]) (rest := [.ref 56, .ref 69]) xd69_74 rfl rfl (Nat.le_of_ble_eq_true rfl) (Nat.le_of_ble_eq_true rfl) (Nat.le_of_ble_eq_true rfl) (Nat.le_of_ble_eq_true rfl)))))
theorem x69_77 {x2 : Int32} {x3 : Int32} {x5 : Int32} {x6 : Int32} {xs0 : Int32} : wp Ln xs 69 77 [.ref 69, .ref 3, .int x2, .int x3, .ref 56, .int x5, .int x6] [.int xs0, .ref 56, .ref 69] (u, ml_h m lm) Φ = wp Ln xs 70 0 [.ref 56, .int xs0, mj_hole, mj_hole] [] (u, ml_h m lm) (mk Ln xs 69 77 [.ref 69, .ref 3, .int x2, .int x3, .ref 56, .int x5, .int x6] [.ref 69] Φ) := wm_cv (As := [.int xs0]) (rest := [.ref 69]) xd69_77 rfl rfl (show ml_L[56]? = _ from rfl) (Nat.le_of_ble_eq_true rfl) (Nat.le_of_ble_eq_true rfl) (Nat.le_of_ble_eq_true rfl) (Nat.le_of_ble_eq_true rfl)
theorem x69_80 {x2 : Int32} {x3 : Int32} {x5 : Int32} {x6 : Int32} {xs0 : Int32} : wp Ln xs 69 80 [.ref 69, .ref 3, .int x2, .int x3, .ref 56, .int x5, .int x6] [.int xs0, .ref 69] (u, ml_h m lm) Φ = wp Ln xs 66 0 [.ref 69, .int xs0, .int x5, mj_hole] [] (u, ml_h m lm) (mk Ln xs 69 82 [.ref 69, .ref 3, .int x2, .int x3, .ref 56, .int x5, .int x6] [] Φ) := (wp_same xd69_80 (Or.inr rfl) rfl).trans (wm_cv (As := [.int xs0, .int x5]) (rest := []) xd69_82 rfl rfl (show ml_L[69]? = _ from rfl) (Nat.le_of_ble_eq_true rfl) (Nat.le_of_ble_eq_true rfl) (Nat.le_of_ble_eq_true rfl) (Nat.le_of_ble_eq_true rfl))
theorem x69_85 {x2 : Int32} {x3 : Int32} {x5 : Int32} {x6 : Int32} : wp Ln xs 69 85 [.ref 69, .ref 3, .int x2, .int x3, .ref 56, .int x5, .int x6] [] (u, ml_h m lm) Φ = wp Ln xs 69 62 [.ref 69, .ref 3, .int x2, .int x3, .ref 56, .int x5, .int (x6 + nI 1)] [] (u, ml_h m lm) Φ := (wp_same (L' := [.ref 69, .ref 3, .int x2, .int x3, .ref 56, .int x5, .int (x6 + nI 1)]) xd69_85 (Or.inr rfl) rfl).trans (wx_goto xd69_88 rfl)
theorem x69_91 {x2 : Int32} {x3 : Int32} {x5 : Int32} {x6 : Int32} : wp Ln xs 69 91 [.ref 69, .ref 3, .int x2, .int x3, .ref 56, .int x5, .int x6] [] (u, ml_h m lm) Φ = Φ (.inl none) (u, ml_h m lm) := wp_fin (v := none) xd69_91 (Or.inr rfl) rfl rfl
/- PickedForms$Shape.rankOf -/
theorem xd70_0 : decode (mj_b 70) 0 = .ok (.iconst 0, 1) := by decide +kernel
theorem xd70_1 : decode (mj_b 70) 1 = .ok (.istore_n 2, 1) := by decide +kernel
theorem xd70_2 : decode (mj_b 70) 2 = .ok (.iconst 0, 1) := by decide +kernel
theorem xd70_3 : decode (mj_b 70) 3 = .ok (.istore_n 3, 1) := by decide +kernel
theorem xd70_4 : decode (mj_b 70) 4 = .ok (.iload_n 3, 1) := by decide +kernel
theorem xd70_5 : decode (mj_b 70) 5 = .ok (.aload_n 0, 1) := by decide +kernel
theorem xd70_6 : decode (mj_b 70) 6 = .ok (.getfield 15, 3) := by decide +kernel
theorem xd70_9 : decode (mj_b 70) 9 = .ok (.if_icmp .ge 24, 3) := by decide +kernel
theorem xd70_12 : decode (mj_b 70) 12 = .ok (.aload_n 0, 1) := by decide +kernel
theorem xd70_13 : decode (mj_b 70) 13 = .ok (.getfield 9, 3) := by decide +kernel
theorem xd70_16 : decode (mj_b 70) 16 = .ok (.iload_n 3, 1) := by decide +kernel
theorem xd70_17 : decode (mj_b 70) 17 = .ok (.invokestatic 40, 3) := by decide +kernel
theorem xd70_20 : decode (mj_b 70) 20 = .ok (.iload_n 1, 1) := by decide +kernel
theorem xd70_21 : decode (mj_b 70) 21 = .ok (.if_icmp .ge 12, 3) := by decide +kernel
theorem xd70_24 : decode (mj_b 70) 24 = .ok (.iinc 2 1, 3) := by decide +kernel
theorem xd70_27 : decode (mj_b 70) 27 = .ok (.iinc 3 1, 3) := by decide +kernel
theorem xd70_30 : decode (mj_b 70) 30 = .ok (.goto (-26), 3) := by decide +kernel
theorem xd70_33 : decode (mj_b 70) 33 = .ok (.iload_n 2, 1) := by decide +kernel
theorem xd70_34 : decode (mj_b 70) 34 = .ok (.ireturn, 1) := by decide +kernel
theorem x70_0 {p : Nat} {x1 : Int32} : wp Ln xs 70 0 [.ref p, .int x1, mj_hole, mj_hole] [] (u, ml_h m lm) Φ = wp Ln xs 70 4 [.ref p, .int x1, .int (nI 0), .int (nI 0)] [] (u, ml_h m lm) Φ := (wp_same (S' := [.int (nI 0)]) xd70_0 (Or.inr rfl) rfl).trans ((wp_same (L' := [.ref p, .int x1, .int (nI 0), mj_hole]) xd70_1 (Or.inr rfl) rfl).trans ((wp_same (S' := [.int (nI 0)]) xd70_2 (Or.inr rfl) rfl).trans (wp_same (L' := [.ref p, .int x1, .int (nI 0), .int (nI 0)]) xd70_3 (Or.inr rfl) rfl)))
theorem x70_4 {p : Nat} {x1 : Int32} {x2 : Int32} {x3 : Int32} (hp : ml_sh p) : wp Ln xs 70 4 [.ref p, .int x1, .int x2, .int x3] [] (u, ml_h m lm) Φ = if (m p 1) ≤ x3 then wp Ln xs 70 33 [.ref p, .int x1, .int x2, .int x3] [] (u, ml_h m lm) Φ else wp Ln xs 70 12 [.ref p, .int x1, .int x2, .int x3] [] (u, ml_h m lm) Φ := (wp_same xd70_4 (Or.inr rfl) rfl).trans ((wp_same xd70_5 (Or.inr rfl) rfl).trans ((wm_geti xd70_6 rfl hp.1 rfl (Nat.le_of_ble_eq_true rfl)).trans (wx_icmp xd70_9 rfl rfl ((m p 1) ≤ x3) mb_ge)))
theorem x70_12 {p : Nat} {x1 : Int32} {x2 : Int32} {x3 : Int32} (hp : ml_sh p) : wp Ln xs 70 12 [.ref p, .int x1, .int x2, .int x3] [] (u, ml_h m lm) Φ = wp Ln xs 17 0 [.ref (p + 1), .int x3] [] (u, ml_h m lm) (mk Ln xs 70 17 [.ref p, .int x1, .int x2, .int x3] [] Φ) := (wp_same xd70_12 (Or.inr rfl) rfl).trans ((wm_getr xd70_13 rfl hp.1 rfl (Nat.le_of_ble_eq_true rfl)).trans ((wp_same xd70_16 (Or.inr rfl) rfl).trans (wm_cs (As := [.ref (p + 1), .int x3]) (rest := []) xd70_17 rfl rfl (Nat.le_of_ble_eq_true rfl) (Nat.le_of_ble_eq_true rfl) (Nat.le_of_ble_eq_true rfl) (Nat.le_of_ble_eq_true rfl))))
theorem x70_20 {p : Nat} {x1 : Int32} {x2 : Int32} {x3 : Int32} {xs0 : Int32} : wp Ln xs 70 20 [.ref p, .int x1, .int x2, .int x3] [.int xs0] (u, ml_h m lm) Φ = if x1 ≤ xs0 then wp Ln xs 70 33 [.ref p, .int x1, .int x2, .int x3] [] (u, ml_h m lm) Φ else wp Ln xs 70 24 [.ref p, .int x1, .int x2, .int x3] [] (u, ml_h m lm) Φ := (wp_same xd70_20 (Or.inr rfl) rfl).trans (wx_icmp xd70_21 rfl rfl (x1 ≤ xs0) mb_ge)
theorem x70_24 {p : Nat} {x1 : Int32} {x2 : Int32} {x3 : Int32} : wp Ln xs 70 24 [.ref p, .int x1, .int x2, .int x3] [] (u, ml_h m lm) Φ = wp Ln xs 70 4 [.ref p, .int x1, .int (x2 + nI 1), .int (x3 + nI 1)] [] (u, ml_h m lm) Φ := (wp_same (L' := [.ref p, .int x1, .int (x2 + nI 1), .int x3]) xd70_24 (Or.inr rfl) rfl).trans ((wp_same (L' := [.ref p, .int x1, .int (x2 + nI 1), .int (x3 + nI 1)]) xd70_27 (Or.inr rfl) rfl).trans (wx_goto xd70_30 rfl))
theorem x70_33 {p : Nat} {x1 : Int32} {x2 : Int32} {x3 : Int32} : wp Ln xs 70 33 [.ref p, .int x1, .int x2, .int x3] [] (u, ml_h m lm) Φ = Φ (.inl (some (.int x2))) (u, ml_h m lm) := (wp_same xd70_33 (Or.inr rfl) rfl).trans (wp_fin (v := some (.int x2)) xd70_34 (Or.inr rfl) rfl (mj_fin_i rfl))
/- PickedForms$BitRow.encodePlain -/
theorem xd71_0 : decode (mj_b 71) 0 = .ok (.iload_n 2, 1) := by decide +kernel
theorem xd71_1 : decode (mj_b 71) 1 = .ok (.istore 4, 2) := by decide +kernel
theorem xd71_3 : decode (mj_b 71) 3 = .ok (.iload 4, 2) := by decide +kernel
theorem xd71_5 : decode (mj_b 71) 5 = .ok (.iload_n 3, 1) := by decide +kernel
theorem xd71_6 : decode (mj_b 71) 6 = .ok (.if_icmp .ge 21, 3) := by decide +kernel
theorem xd71_9 : decode (mj_b 71) 9 = .ok (.aload_n 0, 1) := by decide +kernel
theorem xd71_10 : decode (mj_b 71) 10 = .ok (.aload_n 1, 1) := by decide +kernel
theorem xd71_11 : decode (mj_b 71) 11 = .ok (.iload 4, 2) := by decide +kernel
theorem xd71_13 : decode (mj_b 71) 13 = .ok (.invokestatic 51, 3) := by decide +kernel
theorem xd71_16 : decode (mj_b 71) 16 = .ok (.bipush 10, 2) := by decide +kernel
theorem xd71_18 : decode (mj_b 71) 18 = .ok (.invokevirtual 57, 3) := by decide +kernel
theorem xd71_21 : decode (mj_b 71) 21 = .ok (.iinc 4 1, 3) := by decide +kernel
theorem xd71_24 : decode (mj_b 71) 24 = .ok (.goto (-21), 3) := by decide +kernel
theorem xd71_27 : decode (mj_b 71) 27 = .ok (.return_, 1) := by decide +kernel
theorem x71_0 {x2 : Int32} {x3 : Int32} : wp Ln xs 71 0 [.ref 69, .ref 3, .int x2, .int x3, mj_hole] [] (u, ml_h m lm) Φ = wp Ln xs 71 3 [.ref 69, .ref 3, .int x2, .int x3, .int x2] [] (u, ml_h m lm) Φ := (wp_same xd71_0 (Or.inr rfl) rfl).trans (wp_same (L' := [.ref 69, .ref 3, .int x2, .int x3, .int x2]) xd71_1 (Or.inr rfl) rfl)
theorem x71_3 {x2 : Int32} {x3 : Int32} {x4 : Int32} : wp Ln xs 71 3 [.ref 69, .ref 3, .int x2, .int x3, .int x4] [] (u, ml_h m lm) Φ = if x3 ≤ x4 then wp Ln xs 71 27 [.ref 69, .ref 3, .int x2, .int x3, .int x4] [] (u, ml_h m lm) Φ else wp Ln xs 71 9 [.ref 69, .ref 3, .int x2, .int x3, .int x4] [] (u, ml_h m lm) Φ := (wp_same xd71_3 (Or.inr rfl) rfl).trans ((wp_same xd71_5 (Or.inr rfl) rfl).trans (wx_icmp xd71_6 rfl rfl (x3 ≤ x4) mb_ge))
theorem x71_9 {x2 : Int32} {x3 : Int32} {x4 : Int32} : wp Ln xs 71 9 [.ref 69, .ref 3, .int x2, .int x3, .int x4] [] (u, ml_h m lm) Φ = wp Ln xs 17 0 [.ref 3, .int x4] [] (u, ml_h m lm) (mk Ln xs 71 13 [.ref 69, .ref 3, .int x2, .int x3, .int x4] [.ref 69] Φ) := (wp_same xd71_9 (Or.inr rfl) rfl).trans ((wp_same xd71_10 (Or.inr rfl) rfl).trans ((wp_same xd71_11 (Or.inr rfl) rfl).trans (wm_cs (As := [.ref 3, .int x4]) (rest := [.ref 69]) xd71_13 rfl rfl (Nat.le_of_ble_eq_true rfl) (Nat.le_of_ble_eq_true rfl) (Nat.le_of_ble_eq_true rfl) (Nat.le_of_ble_eq_true rfl))))
theorem x71_16 {x2 : Int32} {x3 : Int32} {x4 : Int32} {xs0 : Int32} : wp Ln xs 71 16 [.ref 69, .ref 3, .int x2, .int x3, .int x4] [.int xs0, .ref 69] (u, ml_h m lm) Φ = wp Ln xs 66 0 [.ref 69, .int xs0, .int (nI 10), mj_hole] [] (u, ml_h m lm) (mk Ln xs 71 18 [.ref 69, .ref 3, .int x2, .int x3, .int x4] [] Φ) := (wp_same (S' := [.int (nI 10), .int xs0, .ref 69]) xd71_16 (Or.inr rfl) rfl).trans (wm_cv (As := [.int xs0, .int (nI 10)]) (rest := []) xd71_18 rfl rfl (show ml_L[69]? = _ from rfl) (Nat.le_of_ble_eq_true rfl) (Nat.le_of_ble_eq_true rfl) (Nat.le_of_ble_eq_true rfl) (Nat.le_of_ble_eq_true rfl))
theorem x71_21 {x2 : Int32} {x3 : Int32} {x4 : Int32} : wp Ln xs 71 21 [.ref 69, .ref 3, .int x2, .int x3, .int x4] [] (u, ml_h m lm) Φ = wp Ln xs 71 3 [.ref 69, .ref 3, .int x2, .int x3, .int (x4 + nI 1)] [] (u, ml_h m lm) Φ := (wp_same (L' := [.ref 69, .ref 3, .int x2, .int x3, .int (x4 + nI 1)]) xd71_21 (Or.inr rfl) rfl).trans (wx_goto xd71_24 rfl)
theorem x71_27 {x2 : Int32} {x3 : Int32} {x4 : Int32} : wp Ln xs 71 27 [.ref 69, .ref 3, .int x2, .int x3, .int x4] [] (u, ml_h m lm) Φ = Φ (.inl none) (u, ml_h m lm) := wp_fin (v := none) xd71_27 (Or.inr rfl) rfl rfl
/- PickedForms.value -/
theorem xd72_0 : decode (mj_b 72) 0 = .ok (.aload_n 0, 1) := by decide +kernel
theorem xd72_1 : decode (mj_b 72) 1 = .ok (.getfield 12, 3) := by decide +kernel
theorem xd72_4 : decode (mj_b 72) 4 = .ok (.iload_n 1, 1) := by decide +kernel
theorem xd72_5 : decode (mj_b 72) 5 = .ok (.invokevirtual 127, 3) := by decide +kernel
theorem xd72_8 : decode (mj_b 72) 8 = .ok (.ifCond .ne 13, 3) := by decide +kernel
theorem xd72_11 : decode (mj_b 72) 11 = .ok (.new 130, 3) := by decide +kernel
theorem xd72_21 : decode (mj_b 72) 21 = .ok (.iload_n 2, 1) := by decide +kernel
theorem xd72_22 : decode (mj_b 72) 22 = .ok (.ifCond .lt 8, 3) := by decide +kernel
theorem xd72_25 : decode (mj_b 72) 25 = .ok (.iload_n 2, 1) := by decide +kernel
theorem xd72_26 : decode (mj_b 72) 26 = .ok (.iconst 3, 1) := by decide +kernel
theorem xd72_27 : decode (mj_b 72) 27 = .ok (.if_icmp .le 13, 3) := by decide +kernel
theorem xd72_30 : decode (mj_b 72) 30 = .ok (.new 80, 3) := by decide +kernel
theorem xd72_40 : decode (mj_b 72) 40 = .ok (.aload_n 0, 1) := by decide +kernel
theorem xd72_41 : decode (mj_b 72) 41 = .ok (.iload_n 1, 1) := by decide +kernel
theorem xd72_42 : decode (mj_b 72) 42 = .ok (.iload_n 2, 1) := by decide +kernel
theorem xd72_43 : decode (mj_b 72) 43 = .ok (.invokevirtual 255, 3) := by decide +kernel
theorem xd72_46 : decode (mj_b 72) 46 = .ok (.ireturn, 1) := by decide +kernel
theorem x72_0 {x1 : Int32} {x2 : Int32} : wp Ln xs 72 0 [.ref 1, .int x1, .int x2] [] (u, ml_h m lm) Φ = wp Ln xs 73 0 [.ref 2, .int x1] [] (u, ml_h m lm) (mk Ln xs 72 5 [.ref 1, .int x1, .int x2] [] Φ) := (wp_same xd72_0 (Or.inr rfl) rfl).trans ((wm_getr xd72_1 rfl (show ml_L[1]? = _ from rfl) rfl (Nat.le_of_ble_eq_true rfl)).trans ((wp_same xd72_4 (Or.inr rfl) rfl).trans (wm_cv (As := [.int x1]) (rest := []) xd72_5 rfl rfl (show ml_L[2]? = _ from rfl) (Nat.le_of_ble_eq_true rfl) (Nat.le_of_ble_eq_true rfl) (Nat.le_of_ble_eq_true rfl) (Nat.le_of_ble_eq_true rfl))))
theorem x72_8 {x1 : Int32} {x2 : Int32} {xs0 : Int32} : wp Ln xs 72 8 [.ref 1, .int x1, .int x2] [.int xs0] (u, ml_h m lm) Φ = if ¬ xs0 = (nI 0) then wp Ln xs 72 21 [.ref 1, .int x1, .int x2] [] (u, ml_h m lm) Φ else wp Ln xs 72 11 [.ref 1, .int x1, .int x2] [] (u, ml_h m lm) Φ := wx_if xd72_8 rfl rfl (¬ xs0 = (nI 0)) mb_ne
theorem x72_11 {x1 : Int32} {x2 : Int32} : wp Ln xs 72 11 [.ref 1, .int x1, .int x2] [] (u, ml_h m lm) Φ = Φ (.inr 2) ((u.1, u.2.1 + 1, u.2.2 + 6), ml_h m lm) := wp_thr xd72_11 (Or.inr rfl) rfl rfl (E := 2) (by decide +kernel)
theorem x72_21 {x1 : Int32} {x2 : Int32} : wp Ln xs 72 21 [.ref 1, .int x1, .int x2] [] (u, ml_h m lm) Φ = if x2 < (nI 0) then wp Ln xs 72 30 [.ref 1, .int x1, .int x2] [] (u, ml_h m lm) Φ else wp Ln xs 72 25 [.ref 1, .int x1, .int x2] [] (u, ml_h m lm) Φ := (wp_same xd72_21 (Or.inr rfl) rfl).trans (wx_if xd72_22 rfl rfl (x2 < (nI 0)) mb_lt)
theorem x72_25 {x1 : Int32} {x2 : Int32} : wp Ln xs 72 25 [.ref 1, .int x1, .int x2] [] (u, ml_h m lm) Φ = if x2 ≤ (nI 3) then wp Ln xs 72 40 [.ref 1, .int x1, .int x2] [] (u, ml_h m lm) Φ else wp Ln xs 72 30 [.ref 1, .int x1, .int x2] [] (u, ml_h m lm) Φ := (wp_same xd72_25 (Or.inr rfl) rfl).trans ((wp_same (S' := [.int (nI 3), .int x2]) xd72_26 (Or.inr rfl) rfl).trans (wx_icmp xd72_27 rfl rfl (x2 ≤ (nI 3)) mb_le))
theorem x72_30 {x1 : Int32} {x2 : Int32} : wp Ln xs 72 30 [.ref 1, .int x1, .int x2] [] (u, ml_h m lm) Φ = Φ (.inr 0) ((u.1, u.2.1 + 1, u.2.2 + 6), ml_h m lm) := wp_thr xd72_30 (Or.inr rfl) rfl rfl (E := 0) (by decide +kernel)
theorem x72_40 {x1 : Int32} {x2 : Int32} : wp Ln xs 72 40 [.ref 1, .int x1, .int x2] [] (u, ml_h m lm) Φ = wp Ln xs 74 0 [.ref 1, .int x1, .int x2, mj_hole, mj_hole] [] (u, ml_h m lm) (mk Ln xs 72 43 [.ref 1, .int x1, .int x2] [] Φ) := (wp_same xd72_40 (Or.inr rfl) rfl).trans ((wp_same xd72_41 (Or.inr rfl) rfl).trans ((wp_same xd72_42 (Or.inr rfl) rfl).trans (wm_cv (As := [.int x1, .int x2]) (rest := []) xd72_43 rfl rfl (show ml_L[1]? = _ from rfl) (Nat.le_of_ble_eq_true rfl) (Nat.le_of_ble_eq_true rfl) (Nat.le_of_ble_eq_true rfl) (Nat.le_of_ble_eq_true rfl))))
theorem x72_46 {x1 : Int32} {x2 : Int32} {xs0 : Int32} : wp Ln xs 72 46 [.ref 1, .int x1, .int x2] [.int xs0] (u, ml_h m lm) Φ = Φ (.inl (some (.int xs0))) (u, ml_h m lm) := wp_fin (v := some (.int xs0)) xd72_46 (Or.inr rfl) rfl (mj_fin_i rfl)
/- PickedForms$Column.hasIndex -/
theorem xd73_0 : decode (mj_b 73) 0 = .ok (.iload_n 1, 1) := by decide +kernel
theorem xd73_1 : decode (mj_b 73) 1 = .ok (.ifCond .lt 15, 3) := by decide +kernel
theorem xd73_4 : decode (mj_b 73) 4 = .ok (.iload_n 1, 1) := by decide +kernel
theorem xd73_5 : decode (mj_b 73) 5 = .ok (.aload_n 0, 1) := by decide +kernel
theorem xd73_6 : decode (mj_b 73) 6 = .ok (.getfield 27, 3) := by decide +kernel
theorem xd73_9 : decode (mj_b 73) 9 = .ok (.if_icmp .ge 7, 3) := by decide +kernel
theorem xd73_12 : decode (mj_b 73) 12 = .ok (.iconst 1, 1) := by decide +kernel
theorem xd73_13 : decode (mj_b 73) 13 = .ok (.goto 4, 3) := by decide +kernel
theorem xd73_16 : decode (mj_b 73) 16 = .ok (.iconst 0, 1) := by decide +kernel
theorem xd73_17 : decode (mj_b 73) 17 = .ok (.ireturn, 1) := by decide +kernel
theorem x73_0 {x1 : Int32} : wp Ln xs 73 0 [.ref 2, .int x1] [] (u, ml_h m lm) Φ = if x1 < (nI 0) then wp Ln xs 73 16 [.ref 2, .int x1] [] (u, ml_h m lm) Φ else wp Ln xs 73 4 [.ref 2, .int x1] [] (u, ml_h m lm) Φ := (wp_same xd73_0 (Or.inr rfl) rfl).trans (wx_if xd73_1 rfl rfl (x1 < (nI 0)) mb_lt)
theorem x73_4 {x1 : Int32} : wp Ln xs 73 4 [.ref 2, .int x1] [] (u, ml_h m lm) Φ = if (m 2 5) ≤ x1 then wp Ln xs 73 16 [.ref 2, .int x1] [] (u, ml_h m lm) Φ else wp Ln xs 73 12 [.ref 2, .int x1] [] (u, ml_h m lm) Φ := (wp_same xd73_4 (Or.inr rfl) rfl).trans ((wp_same xd73_5 (Or.inr rfl) rfl).trans ((wm_geti xd73_6 rfl (show ml_L[2]? = _ from rfl) rfl (Nat.le_of_ble_eq_true rfl)).trans (wx_icmp xd73_9 rfl rfl ((m 2 5) ≤ x1) mb_ge)))
theorem x73_12 {x1 : Int32} : wp Ln xs 73 12 [.ref 2, .int x1] [] (u, ml_h m lm) Φ = Φ (.inl (some (.int (nI 1)))) (u, ml_h m lm) := (wp_same (S' := [.int (nI 1)]) xd73_12 (Or.inr rfl) rfl).trans ((wx_goto xd73_13 rfl).trans (wp_fin (v := some (.int (nI 1))) xd73_17 (Or.inr rfl) rfl rfl))
theorem x73_16 {x1 : Int32} : wp Ln xs 73 16 [.ref 2, .int x1] [] (u, ml_h m lm) Φ = Φ (.inl (some (.int (nI 0)))) (u, ml_h m lm) := (wp_same (S' := [.int (nI 0)]) xd73_16 (Or.inr rfl) rfl).trans (wp_fin (v := some (.int (nI 0))) xd73_17 (Or.inr rfl) rfl rfl)
/- PickedForms.valueNumber -/
theorem xd74_0 : decode (mj_b 74) 0 = .ok (.aload_n 0, 1) := by decide +kernel
theorem xd74_1 : decode (mj_b 74) 1 = .ok (.getfield 12, 3) := by decide +kernel
theorem xd74_4 : decode (mj_b 74) 4 = .ok (.iload_n 1, 1) := by decide +kernel
theorem xd74_5 : decode (mj_b 74) 5 = .ok (.invokevirtual 151, 3) := by decide +kernel
theorem xd74_8 : decode (mj_b 74) 8 = .ok (.istore_n 3, 1) := by decide +kernel
theorem xd74_9 : decode (mj_b 74) 9 = .ok (.aload_n 0, 1) := by decide +kernel
theorem xd74_10 : decode (mj_b 74) 10 = .ok (.getfield 12, 3) := by decide +kernel
theorem xd74_13 : decode (mj_b 74) 13 = .ok (.iload_n 3, 1) := by decide +kernel
theorem xd74_14 : decode (mj_b 74) 14 = .ok (.iconst (-1), 1) := by decide +kernel
theorem xd74_15 : decode (mj_b 74) 15 = .ok (.if_icmp .ne 13, 3) := by decide +kernel
theorem xd74_18 : decode (mj_b 74) 18 = .ok (.aload_n 0, 1) := by decide +kernel
theorem xd74_19 : decode (mj_b 74) 19 = .ok (.getfield 12, 3) := by decide +kernel
theorem xd74_22 : decode (mj_b 74) 22 = .ok (.getfield 112, 3) := by decide +kernel
theorem xd74_25 : decode (mj_b 74) 25 = .ok (.goto 4, 3) := by decide +kernel
theorem xd74_28 : decode (mj_b 74) 28 = .ok (.iload_n 3, 1) := by decide +kernel
theorem xd74_29 : decode (mj_b 74) 29 = .ok (.invokevirtual 182, 3) := by decide +kernel
theorem xd74_32 : decode (mj_b 74) 32 = .ok (.istore 4, 2) := by decide +kernel
theorem xd74_34 : decode (mj_b 74) 34 = .ok (.iload_n 2, 1) := by decide +kernel
theorem xd74_35 : decode (mj_b 74) 35 = .ok (.tableswitch 44 0 2 #[25, 37, 39], 25) := by decide +kernel
theorem xd74_60 : decode (mj_b 74) 60 = .ok (.aload_n 0, 1) := by decide +kernel
theorem xd74_61 : decode (mj_b 74) 61 = .ok (.getfield 12, 3) := by decide +kernel
theorem xd74_64 : decode (mj_b 74) 64 = .ok (.getfield 139, 3) := by decide +kernel
theorem xd74_67 : decode (mj_b 74) 67 = .ok (.iload_n 1, 1) := by decide +kernel
theorem xd74_68 : decode (mj_b 74) 68 = .ok (.invokestatic 233, 3) := by decide +kernel
theorem xd74_71 : decode (mj_b 74) 71 = .ok (.ireturn, 1) := by decide +kernel
theorem xd74_72 : decode (mj_b 74) 72 = .ok (.iload_n 3, 1) := by decide +kernel
theorem xd74_73 : decode (mj_b 74) 73 = .ok (.ireturn, 1) := by decide +kernel
theorem xd74_74 : decode (mj_b 74) 74 = .ok (.iload_n 1, 1) := by decide +kernel
theorem xd74_75 : decode (mj_b 74) 75 = .ok (.iload 4, 2) := by decide +kernel
theorem xd74_77 : decode (mj_b 74) 77 = .ok (.isub, 1) := by decide +kernel
theorem xd74_78 : decode (mj_b 74) 78 = .ok (.ireturn, 1) := by decide +kernel
theorem xd74_79 : decode (mj_b 74) 79 = .ok (.iload_n 3, 1) := by decide +kernel
theorem xd74_80 : decode (mj_b 74) 80 = .ok (.iconst (-1), 1) := by decide +kernel
theorem xd74_81 : decode (mj_b 74) 81 = .ok (.if_icmp .ne 7, 3) := by decide +kernel
theorem xd74_84 : decode (mj_b 74) 84 = .ok (.iconst 1, 1) := by decide +kernel
theorem xd74_85 : decode (mj_b 74) 85 = .ok (.goto 12, 3) := by decide +kernel
theorem xd74_88 : decode (mj_b 74) 88 = .ok (.aload_n 0, 1) := by decide +kernel
theorem xd74_89 : decode (mj_b 74) 89 = .ok (.iload_n 3, 1) := by decide +kernel
theorem xd74_90 : decode (mj_b 74) 90 = .ok (.iload_n 1, 1) := by decide +kernel
theorem xd74_91 : decode (mj_b 74) 91 = .ok (.iload 4, 2) := by decide +kernel
theorem xd74_93 : decode (mj_b 74) 93 = .ok (.isub, 1) := by decide +kernel
theorem xd74_94 : decode (mj_b 74) 94 = .ok (.invokevirtual 386, 3) := by decide +kernel
theorem xd74_97 : decode (mj_b 74) 97 = .ok (.ireturn, 1) := by decide +kernel
theorem x74_0 {x1 : Int32} {x2 : Int32} : wp Ln xs 74 0 [.ref 1, .int x1, .int x2, mj_hole, mj_hole] [] (u, ml_h m lm) Φ = wp Ln xs 75 0 [.ref 2, .int x1, mj_hole, mj_hole] [] (u, ml_h m lm) (mk Ln xs 74 5 [.ref 1, .int x1, .int x2, mj_hole, mj_hole] [] Φ) := (wp_same xd74_0 (Or.inr rfl) rfl).trans ((wm_getr xd74_1 rfl (show ml_L[1]? = _ from rfl) rfl (Nat.le_of_ble_eq_true rfl)).trans ((wp_same xd74_4 (Or.inr rfl) rfl).trans (wm_cv (As := [.int x1]) (rest := []) xd74_5 rfl rfl (show ml_L[2]? = _ from rfl) (Nat.le_of_ble_eq_true rfl) (Nat.le_of_ble_eq_true rfl) (Nat.le_of_ble_eq_true rfl) (Nat.le_of_ble_eq_true rfl))))
theorem x74_8 {x1 : Int32} {x2 : Int32} {xs0 : Int32} : wp Ln xs 74 8 [.ref 1, .int x1, .int x2, mj_hole, mj_hole] [.int xs0] (u, ml_h m lm) Φ = if ¬ xs0 = ((-1)) then wp Ln xs 74 28 [.ref 1, .int x1, .int x2, .int xs0, mj_hole] [.ref 2] (u, ml_h m lm) Φ else wp Ln xs 74 18 [.ref 1, .int x1, .int x2, .int xs0, mj_hole] [.ref 2] (u, ml_h m lm) Φ := (wp_same (L' := [.ref 1, .int x1, .int x2, .int xs0, mj_hole]) xd74_8 (Or.inr rfl) rfl).trans ((wp_same xd74_9 (Or.inr rfl) rfl).trans ((wm_getr xd74_10 rfl (show ml_L[1]? = _ from rfl) rfl (Nat.le_of_ble_eq_true rfl)).trans ((wp_same xd74_13 (Or.inr rfl) rfl).trans ((wp_same (S' := [.int ((-1)), .int xs0, .ref 2]) xd74_14 (Or.inr rfl) rfl).trans (wx_icmp xd74_15 rfl rfl (¬ xs0 = ((-1))) mb_ne)))))
theorem x74_18 {x1 : Int32} {x2 : Int32} {x3 : Int32} : wp Ln xs 74 18 [.ref 1, .int x1, .int x2, .int x3, mj_hole] [.ref 2] (u, ml_h m lm) Φ = wp Ln xs 74 29 [.ref 1, .int x1, .int x2, .int x3, mj_hole] [.int (m 2 6), .ref 2] (u, ml_h m lm) Φ := (wp_same xd74_18 (Or.inr rfl) rfl).trans ((wm_getr xd74_19 rfl (show ml_L[1]? = _ from rfl) rfl (Nat.le_of_ble_eq_true rfl)).trans ((wm_geti xd74_22 rfl (show ml_L[2]? = _ from rfl) rfl (Nat.le_of_ble_eq_true rfl)).trans (wx_goto xd74_25 rfl)))
theorem x74_28 {x1 : Int32} {x2 : Int32} {x3 : Int32} : wp Ln xs 74 28 [.ref 1, .int x1, .int x2, .int x3, mj_hole] [.ref 2] (u, ml_h m lm) Φ = wp Ln xs 74 29 [.ref 1, .int x1, .int x2, .int x3, mj_hole] [.int x3, .ref 2] (u, ml_h m lm) Φ := wp_same xd74_28 (Or.inr rfl) rfl
theorem x74_29 {x1 : Int32} {x2 : Int32} {x3 : Int32} {xs0 : Int32} : wp Ln xs 74 29 [.ref 1, .int x1, .int x2, .int x3, mj_hole] [.int xs0, .ref 2] (u, ml_h m lm) Φ = wp Ln xs 19 0 [.ref 2, .int xs0, mj_hole, mj_hole] [] (u, ml_h m lm) (mk Ln xs 74 29 [.ref 1, .int x1, .int x2, .int x3, mj_hole] [] Φ) := wm_cv (As := [.int xs0]) (rest := []) xd74_29 rfl rfl (show ml_L[2]? = _ from rfl) (Nat.le_of_ble_eq_true rfl) (Nat.le_of_ble_eq_true rfl) (Nat.le_of_ble_eq_true rfl) (Nat.le_of_ble_eq_true rfl)
theorem x74_32 {x1 : Int32} {x2 : Int32} {x3 : Int32} {xs0 : Int32} : wp Ln xs 74 32 [.ref 1, .int x1, .int x2, .int x3, mj_hole] [.int xs0] (u, ml_h m lm) Φ = wp Ln xs 74 35 [.ref 1, .int x1, .int x2, .int x3, .int xs0] [.int x2] (u, ml_h m lm) Φ := (wp_same (L' := [.ref 1, .int x1, .int x2, .int x3, .int xs0]) xd74_32 (Or.inr rfl) rfl).trans (wp_same xd74_34 (Or.inr rfl) rfl)
theorem x74_35_0 {x1 : Int32} {x2 : Int32} {x3 : Int32} {x4 : Int32} : wp Ln xs 74 35 [.ref 1, .int x1, .int x2, .int x3, .int x4] [.int (nI 0)] (u, ml_h m lm) Φ = wp Ln xs 74 60 [.ref 1, .int x1, .int x2, .int x3, .int x4] [] (u, ml_h m lm) Φ := wp_same xd74_35 (Or.inl rfl) rfl
theorem x74_35_1 {x1 : Int32} {x2 : Int32} {x3 : Int32} {x4 : Int32} : wp Ln xs 74 35 [.ref 1, .int x1, .int x2, .int x3, .int x4] [.int (nI 1)] (u, ml_h m lm) Φ = wp Ln xs 74 72 [.ref 1, .int x1, .int x2, .int x3, .int x4] [] (u, ml_h m lm) Φ := wp_same xd74_35 (Or.inl rfl) rfl
theorem x74_35_2 {x1 : Int32} {x2 : Int32} {x3 : Int32} {x4 : Int32} : wp Ln xs 74 35 [.ref 1, .int x1, .int x2, .int x3, .int x4] [.int (nI 2)] (u, ml_h m lm) Φ = wp Ln xs 74 74 [.ref 1, .int x1, .int x2, .int x3, .int x4] [] (u, ml_h m lm) Φ := wp_same xd74_35 (Or.inl rfl) rfl
theorem x74_35_3 {x1 : Int32} {x2 : Int32} {x3 : Int32} {x4 : Int32} : wp Ln xs 74 35 [.ref 1, .int x1, .int x2, .int x3, .int x4] [.int (nI 3)] (u, ml_h m lm) Φ = wp Ln xs 74 79 [.ref 1, .int x1, .int x2, .int x3, .int x4] [] (u, ml_h m lm) Φ := wp_same xd74_35 (Or.inl rfl) rfl
theorem x74_35_4 {x1 : Int32} {x2 : Int32} {x3 : Int32} {x4 : Int32} : wp Ln xs 74 35 [.ref 1, .int x1, .int x2, .int x3, .int x4] [.int (nI 4)] (u, ml_h m lm) Φ = wp Ln xs 74 79 [.ref 1, .int x1, .int x2, .int x3, .int x4] [] (u, ml_h m lm) Φ := wp_same xd74_35 (Or.inl rfl) rfl
theorem x74_35_5 {x1 : Int32} {x2 : Int32} {x3 : Int32} {x4 : Int32} : wp Ln xs 74 35 [.ref 1, .int x1, .int x2, .int x3, .int x4] [.int (nI 5)] (u, ml_h m lm) Φ = wp Ln xs 74 79 [.ref 1, .int x1, .int x2, .int x3, .int x4] [] (u, ml_h m lm) Φ := wp_same xd74_35 (Or.inl rfl) rfl
theorem x74_60 {x1 : Int32} {x2 : Int32} {x3 : Int32} {x4 : Int32} : wp Ln xs 74 60 [.ref 1, .int x1, .int x2, .int x3, .int x4] [] (u, ml_h m lm) Φ = wp Ln xs 17 0 [.ref 3, .int x1] [] (u, ml_h m lm) (mk Ln xs 74 68 [.ref 1, .int x1, .int x2, .int x3, .int x4] [] Φ) := (wp_same xd74_60 (Or.inr rfl) rfl).trans ((wm_getr xd74_61 rfl (show ml_L[1]? = _ from rfl) rfl (Nat.le_of_ble_eq_true rfl)).trans ((wm_getr xd74_64 rfl (show ml_L[2]? = _ from rfl) rfl (Nat.le_of_ble_eq_true rfl)).trans ((wp_same xd74_67 (Or.inr rfl) rfl).trans (wm_cs (As := [.ref 3, .int x1]) (rest := []) xd74_68 rfl rfl (Nat.le_of_ble_eq_true rfl) (Nat.le_of_ble_eq_true rfl) (Nat.le_of_ble_eq_true rfl) (Nat.le_of_ble_eq_true rfl)))))
theorem x74_71 {x1 : Int32} {x2 : Int32} {x3 : Int32} {x4 : Int32} {xs0 : Int32} : wp Ln xs 74 71 [.ref 1, .int x1, .int x2, .int x3, .int x4] [.int xs0] (u, ml_h m lm) Φ = Φ (.inl (some (.int xs0))) (u, ml_h m lm) := wp_fin (v := some (.int xs0)) xd74_71 (Or.inr rfl) rfl (mj_fin_i rfl)
theorem x74_72 {x1 : Int32} {x2 : Int32} {x3 : Int32} {x4 : Int32} : wp Ln xs 74 72 [.ref 1, .int x1, .int x2, .int x3, .int x4] [] (u, ml_h m lm) Φ = Φ (.inl (some (.int x3))) (u, ml_h m lm) := (wp_same xd74_72 (Or.inr rfl) rfl).trans (wp_fin (v := some (.int x3)) xd74_73 (Or.inr rfl) rfl (mj_fin_i rfl))
theorem x74_74 {x1 : Int32} {x2 : Int32} {x3 : Int32} {x4 : Int32} : wp Ln xs 74 74 [.ref 1, .int x1, .int x2, .int x3, .int x4] [] (u, ml_h m lm) Φ = Φ (.inl (some (.int (x1 - x4)))) (u, ml_h m lm) := (wp_same xd74_74 (Or.inr rfl) rfl).trans ((wp_same xd74_75 (Or.inr rfl) rfl).trans ((wp_same xd74_77 (Or.inr rfl) rfl).trans (wp_fin (v := some (.int (x1 - x4))) xd74_78 (Or.inr rfl) rfl (mj_fin_i rfl))))
theorem x74_79 {x1 : Int32} {x2 : Int32} {x3 : Int32} {x4 : Int32} : wp Ln xs 74 79 [.ref 1, .int x1, .int x2, .int x3, .int x4] [] (u, ml_h m lm) Φ = if ¬ x3 = ((-1)) then wp Ln xs 74 88 [.ref 1, .int x1, .int x2, .int x3, .int x4] [] (u, ml_h m lm) Φ else wp Ln xs 74 84 [.ref 1, .int x1, .int x2, .int x3, .int x4] [] (u, ml_h m lm) Φ := (wp_same xd74_79 (Or.inr rfl) rfl).trans ((wp_same (S' := [.int ((-1)), .int x3]) xd74_80 (Or.inr rfl) rfl).trans (wx_icmp xd74_81 rfl rfl (¬ x3 = ((-1))) mb_ne))
theorem x74_84 {x1 : Int32} {x2 : Int32} {x3 : Int32} {x4 : Int32} : wp Ln xs 74 84 [.ref 1, .int x1, .int x2, .int x3, .int x4] [] (u, ml_h m lm) Φ = Φ (.inl (some (.int (nI 1)))) (u, ml_h m lm) := (wp_same (S' := [.int (nI 1)]) xd74_84 (Or.inr rfl) rfl).trans ((wx_goto xd74_85 rfl).trans (wp_fin (v := some (.int (nI 1))) xd74_97 (Or.inr rfl) rfl (mj_fin_i rfl)))
theorem x74_88 {x1 : Int32} {x2 : Int32} {x3 : Int32} {x4 : Int32} : wp Ln xs 74 88 [.ref 1, .int x1, .int x2, .int x3, .int x4] [] (u, ml_h m lm) Φ = wp Ln xs 76 0 [.ref 1, .int x3, .int (x1 - x4)] [] (u, ml_h m lm) (mk Ln xs 74 94 [.ref 1, .int x1, .int x2, .int x3, .int x4] [] Φ) := (wp_same xd74_88 (Or.inr rfl) rfl).trans ((wp_same xd74_89 (Or.inr rfl) rfl).trans ((wp_same xd74_90 (Or.inr rfl) rfl).trans ((wp_same xd74_91 (Or.inr rfl) rfl).trans ((wp_same xd74_93 (Or.inr rfl) rfl).trans (wm_cv (As := [.int x3, .int (x1 - x4)]) (rest := []) xd74_94 rfl rfl (show ml_L[1]? = _ from rfl) (Nat.le_of_ble_eq_true rfl) (Nat.le_of_ble_eq_true rfl) (Nat.le_of_ble_eq_true rfl) (Nat.le_of_ble_eq_true rfl))))))
theorem x74_97 {x1 : Int32} {x2 : Int32} {x3 : Int32} {x4 : Int32} {xs0 : Int32} : wp Ln xs 74 97 [.ref 1, .int x1, .int x2, .int x3, .int x4] [.int xs0] (u, ml_h m lm) Φ = Φ (.inl (some (.int xs0))) (u, ml_h m lm) := wp_fin (v := some (.int xs0)) xd74_97 (Or.inr rfl) rfl (mj_fin_i rfl)
/- PickedForms$Column.blockOf -/
theorem xd75_0 : decode (mj_b 75) 0 = .ok (.iconst 0, 1) := by decide +kernel
theorem xd75_1 : decode (mj_b 75) 1 = .ok (.istore_n 2, 1) := by decide +kernel
theorem xd75_2 : decode (mj_b 75) 2 = .ok (.iconst 0, 1) := by decide +kernel
theorem xd75_3 : decode (mj_b 75) 3 = .ok (.istore_n 3, 1) := by decide +kernel
theorem xd75_4 : decode (mj_b 75) 4 = .ok (.iload_n 3, 1) := by decide +kernel
theorem xd75_5 : decode (mj_b 75) 5 = .ok (.aload_n 0, 1) := by decide +kernel
theorem xd75_6 : decode (mj_b 75) 6 = .ok (.getfield 31, 3) := by decide +kernel
theorem xd75_9 : decode (mj_b 75) 9 = .ok (.if_icmp .ge 27, 3) := by decide +kernel
theorem xd75_12 : decode (mj_b 75) 12 = .ok (.iload_n 2, 1) := by decide +kernel
theorem xd75_13 : decode (mj_b 75) 13 = .ok (.aload_n 0, 1) := by decide +kernel
theorem xd75_14 : decode (mj_b 75) 14 = .ok (.getfield 15, 3) := by decide +kernel
theorem xd75_17 : decode (mj_b 75) 17 = .ok (.iload_n 3, 1) := by decide +kernel
theorem xd75_18 : decode (mj_b 75) 18 = .ok (.invokestatic 46, 3) := by decide +kernel
theorem xd75_21 : decode (mj_b 75) 21 = .ok (.iadd, 1) := by decide +kernel
theorem xd75_22 : decode (mj_b 75) 22 = .ok (.istore_n 2, 1) := by decide +kernel
theorem xd75_23 : decode (mj_b 75) 23 = .ok (.iload_n 1, 1) := by decide +kernel
theorem xd75_24 : decode (mj_b 75) 24 = .ok (.iload_n 2, 1) := by decide +kernel
theorem xd75_25 : decode (mj_b 75) 25 = .ok (.if_icmp .ge 5, 3) := by decide +kernel
theorem xd75_28 : decode (mj_b 75) 28 = .ok (.iload_n 3, 1) := by decide +kernel
theorem xd75_29 : decode (mj_b 75) 29 = .ok (.ireturn, 1) := by decide +kernel
theorem xd75_30 : decode (mj_b 75) 30 = .ok (.iinc 3 1, 3) := by decide +kernel
theorem xd75_33 : decode (mj_b 75) 33 = .ok (.goto (-29), 3) := by decide +kernel
theorem xd75_36 : decode (mj_b 75) 36 = .ok (.iconst (-1), 1) := by decide +kernel
theorem xd75_37 : decode (mj_b 75) 37 = .ok (.ireturn, 1) := by decide +kernel
theorem x75_0 {x1 : Int32} : wp Ln xs 75 0 [.ref 2, .int x1, mj_hole, mj_hole] [] (u, ml_h m lm) Φ = wp Ln xs 75 4 [.ref 2, .int x1, .int (nI 0), .int (nI 0)] [] (u, ml_h m lm) Φ := (wp_same (S' := [.int (nI 0)]) xd75_0 (Or.inr rfl) rfl).trans ((wp_same (L' := [.ref 2, .int x1, .int (nI 0), mj_hole]) xd75_1 (Or.inr rfl) rfl).trans ((wp_same (S' := [.int (nI 0)]) xd75_2 (Or.inr rfl) rfl).trans (wp_same (L' := [.ref 2, .int x1, .int (nI 0), .int (nI 0)]) xd75_3 (Or.inr rfl) rfl)))
theorem x75_4 {x1 : Int32} {x2 : Int32} {x3 : Int32} : wp Ln xs 75 4 [.ref 2, .int x1, .int x2, .int x3] [] (u, ml_h m lm) Φ = if (m 2 6) ≤ x3 then wp Ln xs 75 36 [.ref 2, .int x1, .int x2, .int x3] [] (u, ml_h m lm) Φ else wp Ln xs 75 12 [.ref 2, .int x1, .int x2, .int x3] [] (u, ml_h m lm) Φ := (wp_same xd75_4 (Or.inr rfl) rfl).trans ((wp_same xd75_5 (Or.inr rfl) rfl).trans ((wm_geti xd75_6 rfl (show ml_L[2]? = _ from rfl) rfl (Nat.le_of_ble_eq_true rfl)).trans (wx_icmp xd75_9 rfl rfl ((m 2 6) ≤ x3) mb_ge)))
theorem x75_12 {x1 : Int32} {x2 : Int32} {x3 : Int32} : wp Ln xs 75 12 [.ref 2, .int x1, .int x2, .int x3] [] (u, ml_h m lm) Φ = wp Ln xs 17 0 [.ref 4, .int x3] [] (u, ml_h m lm) (mk Ln xs 75 18 [.ref 2, .int x1, .int x2, .int x3] [.int x2] Φ) := (wp_same xd75_12 (Or.inr rfl) rfl).trans ((wp_same xd75_13 (Or.inr rfl) rfl).trans ((wm_getr xd75_14 rfl (show ml_L[2]? = _ from rfl) rfl (Nat.le_of_ble_eq_true rfl)).trans ((wp_same xd75_17 (Or.inr rfl) rfl).trans (wm_cs (As := [.ref 4, .int x3]) (rest := [.int x2]) xd75_18 rfl rfl (Nat.le_of_ble_eq_true rfl) (Nat.le_of_ble_eq_true rfl) (Nat.le_of_ble_eq_true rfl) (Nat.le_of_ble_eq_true rfl)))))
theorem x75_21 {x1 : Int32} {x2 : Int32} {x3 : Int32} {xs0 : Int32} {xs1 : Int32} : wp Ln xs 75 21 [.ref 2, .int x1, .int x2, .int x3] [.int xs0, .int xs1] (u, ml_h m lm) Φ = if (xs1 + xs0) ≤ x1 then wp Ln xs 75 30 [.ref 2, .int x1, .int (xs1 + xs0), .int x3] [] (u, ml_h m lm) Φ else wp Ln xs 75 28 [.ref 2, .int x1, .int (xs1 + xs0), .int x3] [] (u, ml_h m lm) Φ := (wp_same xd75_21 (Or.inr rfl) rfl).trans ((wp_same (L' := [.ref 2, .int x1, .int (xs1 + xs0), .int x3]) xd75_22 (Or.inr rfl) rfl).trans ((wp_same xd75_23 (Or.inr rfl) rfl).trans ((wp_same xd75_24 (Or.inr rfl) rfl).trans (wx_icmp xd75_25 rfl rfl ((xs1 + xs0) ≤ x1) mb_ge))))
theorem x75_28 {x1 : Int32} {x2 : Int32} {x3 : Int32} : wp Ln xs 75 28 [.ref 2, .int x1, .int x2, .int x3] [] (u, ml_h m lm) Φ = Φ (.inl (some (.int x3))) (u, ml_h m lm) := (wp_same xd75_28 (Or.inr rfl) rfl).trans (wp_fin (v := some (.int x3)) xd75_29 (Or.inr rfl) rfl (mj_fin_i rfl))
theorem x75_30 {x1 : Int32} {x2 : Int32} {x3 : Int32} : wp Ln xs 75 30 [.ref 2, .int x1, .int x2, .int x3] [] (u, ml_h m lm) Φ = wp Ln xs 75 4 [.ref 2, .int x1, .int x2, .int (x3 + nI 1)] [] (u, ml_h m lm) Φ := (wp_same (L' := [.ref 2, .int x1, .int x2, .int (x3 + nI 1)]) xd75_30 (Or.inr rfl) rfl).trans (wx_goto xd75_33 rfl)
theorem x75_36 {x1 : Int32} {x2 : Int32} {x3 : Int32} : wp Ln xs 75 36 [.ref 2, .int x1, .int x2, .int x3] [] (u, ml_h m lm) Φ = Φ (.inl (some (.int ((-1))))) (u, ml_h m lm) := (wp_same (S' := [.int ((-1))]) xd75_36 (Or.inr rfl) rfl).trans (wp_fin (v := some (.int ((-1)))) xd75_37 (Or.inr rfl) rfl (mj_fin_i rfl))
/- PickedForms.looksInBlock -/
theorem xd76_0 : decode (mj_b 76) 0 = .ok (.aload_n 0, 1) := by decide +kernel
theorem xd76_1 : decode (mj_b 76) 1 = .ok (.getfield 12, 3) := by decide +kernel
theorem xd76_4 : decode (mj_b 76) 4 = .ok (.iload_n 1, 1) := by decide +kernel
theorem xd76_5 : decode (mj_b 76) 5 = .ok (.invokevirtual 123, 3) := by decide +kernel
theorem xd76_8 : decode (mj_b 76) 8 = .ok (.tableswitch 67 2 4 #[28, 61, 65], 28) := by decide +kernel
theorem xd76_36 : decode (mj_b 76) 36 = .ok (.aload_n 0, 1) := by decide +kernel
theorem xd76_37 : decode (mj_b 76) 37 = .ok (.getfield 40, 3) := by decide +kernel
theorem xd76_40 : decode (mj_b 76) 40 = .ok (.aload_n 0, 1) := by decide +kernel
theorem xd76_41 : decode (mj_b 76) 41 = .ok (.getfield 12, 3) := by decide +kernel
theorem xd76_44 : decode (mj_b 76) 44 = .ok (.getfield 139, 3) := by decide +kernel
theorem xd76_47 : decode (mj_b 76) 47 = .ok (.aload_n 0, 1) := by decide +kernel
theorem xd76_48 : decode (mj_b 76) 48 = .ok (.getfield 12, 3) := by decide +kernel
theorem xd76_51 : decode (mj_b 76) 51 = .ok (.iload_n 1, 1) := by decide +kernel
theorem xd76_52 : decode (mj_b 76) 52 = .ok (.invokevirtual 182, 3) := by decide +kernel
theorem xd76_55 : decode (mj_b 76) 55 = .ok (.iload_n 2, 1) := by decide +kernel
theorem xd76_56 : decode (mj_b 76) 56 = .ok (.iconst 1, 1) := by decide +kernel
theorem xd76_57 : decode (mj_b 76) 57 = .ok (.iadd, 1) := by decide +kernel
theorem xd76_58 : decode (mj_b 76) 58 = .ok (.invokevirtual 379, 3) := by decide +kernel
theorem xd76_61 : decode (mj_b 76) 61 = .ok (.aload_n 0, 1) := by decide +kernel
theorem xd76_62 : decode (mj_b 76) 62 = .ok (.getfield 40, 3) := by decide +kernel
theorem xd76_65 : decode (mj_b 76) 65 = .ok (.getfield 389, 3) := by decide +kernel
theorem xd76_68 : decode (mj_b 76) 68 = .ok (.ireturn, 1) := by decide +kernel
theorem xd76_69 : decode (mj_b 76) 69 = .ok (.iload_n 2, 1) := by decide +kernel
theorem xd76_70 : decode (mj_b 76) 70 = .ok (.iconst 1, 1) := by decide +kernel
theorem xd76_71 : decode (mj_b 76) 71 = .ok (.iadd, 1) := by decide +kernel
theorem xd76_72 : decode (mj_b 76) 72 = .ok (.ireturn, 1) := by decide +kernel
theorem xd76_73 : decode (mj_b 76) 73 = .ok (.iconst 2, 1) := by decide +kernel
theorem xd76_74 : decode (mj_b 76) 74 = .ok (.ireturn, 1) := by decide +kernel
theorem xd76_75 : decode (mj_b 76) 75 = .ok (.iconst 1, 1) := by decide +kernel
theorem xd76_76 : decode (mj_b 76) 76 = .ok (.ireturn, 1) := by decide +kernel
theorem x76_0 {x1 : Int32} {x2 : Int32} : wp Ln xs 76 0 [.ref 1, .int x1, .int x2] [] (u, ml_h m lm) Φ = wp Ln xs 42 0 [.ref 2, .int x1] [] (u, ml_h m lm) (mk Ln xs 76 5 [.ref 1, .int x1, .int x2] [] Φ) := (wp_same xd76_0 (Or.inr rfl) rfl).trans ((wm_getr xd76_1 rfl (show ml_L[1]? = _ from rfl) rfl (Nat.le_of_ble_eq_true rfl)).trans ((wp_same xd76_4 (Or.inr rfl) rfl).trans (wm_cv (As := [.int x1]) (rest := []) xd76_5 rfl rfl (show ml_L[2]? = _ from rfl) (Nat.le_of_ble_eq_true rfl) (Nat.le_of_ble_eq_true rfl) (Nat.le_of_ble_eq_true rfl) (Nat.le_of_ble_eq_true rfl))))
theorem x76_8_0 {x1 : Int32} {x2 : Int32} : wp Ln xs 76 8 [.ref 1, .int x1, .int x2] [.int (nI 0)] (u, ml_h m lm) Φ = wp Ln xs 76 75 [.ref 1, .int x1, .int x2] [] (u, ml_h m lm) Φ := wp_same xd76_8 (Or.inl rfl) rfl
theorem x76_8_1 {x1 : Int32} {x2 : Int32} : wp Ln xs 76 8 [.ref 1, .int x1, .int x2] [.int (nI 1)] (u, ml_h m lm) Φ = wp Ln xs 76 75 [.ref 1, .int x1, .int x2] [] (u, ml_h m lm) Φ := wp_same xd76_8 (Or.inl rfl) rfl
theorem x76_8_2 {x1 : Int32} {x2 : Int32} : wp Ln xs 76 8 [.ref 1, .int x1, .int x2] [.int (nI 2)] (u, ml_h m lm) Φ = wp Ln xs 76 36 [.ref 1, .int x1, .int x2] [] (u, ml_h m lm) Φ := wp_same xd76_8 (Or.inl rfl) rfl
theorem x76_8_3 {x1 : Int32} {x2 : Int32} : wp Ln xs 76 8 [.ref 1, .int x1, .int x2] [.int (nI 3)] (u, ml_h m lm) Φ = wp Ln xs 76 69 [.ref 1, .int x1, .int x2] [] (u, ml_h m lm) Φ := wp_same xd76_8 (Or.inl rfl) rfl
theorem x76_8_4 {x1 : Int32} {x2 : Int32} : wp Ln xs 76 8 [.ref 1, .int x1, .int x2] [.int (nI 4)] (u, ml_h m lm) Φ = wp Ln xs 76 73 [.ref 1, .int x1, .int x2] [] (u, ml_h m lm) Φ := wp_same xd76_8 (Or.inl rfl) rfl
theorem x76_8_5 {x1 : Int32} {x2 : Int32} : wp Ln xs 76 8 [.ref 1, .int x1, .int x2] [.int (nI 5)] (u, ml_h m lm) Φ = wp Ln xs 76 75 [.ref 1, .int x1, .int x2] [] (u, ml_h m lm) Φ := wp_same xd76_8 (Or.inl rfl) rfl
theorem x76_8_6 {x1 : Int32} {x2 : Int32} : wp Ln xs 76 8 [.ref 1, .int x1, .int x2] [.int (nI 6)] (u, ml_h m lm) Φ = wp Ln xs 76 75 [.ref 1, .int x1, .int x2] [] (u, ml_h m lm) Φ := wp_same xd76_8 (Or.inl rfl) rfl
theorem x76_8_7 {x1 : Int32} {x2 : Int32} : wp Ln xs 76 8 [.ref 1, .int x1, .int x2] [.int (nI 7)] (u, ml_h m lm) Φ = wp Ln xs 76 75 [.ref 1, .int x1, .int x2] [] (u, ml_h m lm) Φ := wp_same xd76_8 (Or.inl rfl) rfl
theorem x76_36 {x1 : Int32} {x2 : Int32} : wp Ln xs 76 36 [.ref 1, .int x1, .int x2] [] (u, ml_h m lm) Φ = wp Ln xs 19 0 [.ref 2, .int x1, mj_hole, mj_hole] [] (u, ml_h m lm) (mk Ln xs 76 52 [.ref 1, .int x1, .int x2] [.ref 3, .ref 56] Φ) := (wp_same xd76_36 (Or.inr rfl) rfl).trans ((wm_getr xd76_37 rfl (show ml_L[1]? = _ from rfl) rfl (Nat.le_of_ble_eq_true rfl)).trans ((wp_same xd76_40 (Or.inr rfl) rfl).trans ((wm_getr xd76_41 rfl (show ml_L[1]? = _ from rfl) rfl (Nat.le_of_ble_eq_true rfl)).trans ((wm_getr xd76_44 rfl (show ml_L[2]? = _ from rfl) rfl (Nat.le_of_ble_eq_true rfl)).trans ((wp_same xd76_47 (Or.inr rfl) rfl).trans ((wm_getr xd76_48 rfl (show ml_L[1]? = _ from rfl) rfl (Nat.le_of_ble_eq_true rfl)).trans ((wp_same xd76_51 (Or.inr rfl) rfl).trans (wm_cv (As := [.int x1]) (rest := [.ref 3, .ref 56]) xd76_52 rfl rfl (show ml_L[2]? = _ from rfl) (Nat.le_of_ble_eq_true rfl) (Nat.le_of_ble_eq_true rfl) (Nat.le_of_ble_eq_true rfl) (Nat.le_of_ble_eq_true rfl)))))))))
theorem x76_55 {x1 : Int32} {x2 : Int32} {xs0 : Int32} : wp Ln xs 76 55 [.ref 1, .int x1, .int x2] [.int xs0, .ref 3, .ref 56] (u, ml_h m lm) Φ = wp Ln xs 41 0 [.ref 56, .ref 3, .int xs0, .int (x2 + (nI 1)), mj_hole] [] (u, ml_h m lm) (mk Ln xs 76 58 [.ref 1, .int x1, .int x2] [] Φ) := (wp_same xd76_55 (Or.inr rfl) rfl).trans ((wp_same (S' := [.int (nI 1), .int x2, .int xs0, .ref 3, .ref 56]) xd76_56 (Or.inr rfl) rfl).trans ((wp_same xd76_57 (Or.inr rfl) rfl).trans (wm_cv (As := [.ref 3, .int xs0, .int (x2 + (nI 1))]) (rest := []) xd76_58 rfl rfl (show ml_L[56]? = _ from rfl) (Nat.le_of_ble_eq_true rfl) (Nat.le_of_ble_eq_true rfl) (Nat.le_of_ble_eq_true rfl) (Nat.le_of_ble_eq_true rfl))))
theorem x76_61 {x1 : Int32} {x2 : Int32} : wp Ln xs 76 61 [.ref 1, .int x1, .int x2] [] (u, ml_h m lm) Φ = Φ (.inl (some (.int (m 56 5)))) (u, ml_h m lm) := (wp_same xd76_61 (Or.inr rfl) rfl).trans ((wm_getr xd76_62 rfl (show ml_L[1]? = _ from rfl) rfl (Nat.le_of_ble_eq_true rfl)).trans ((wm_geti xd76_65 rfl (show ml_L[56]? = _ from rfl) rfl (Nat.le_of_ble_eq_true rfl)).trans (wp_fin (v := some (.int (m 56 5))) xd76_68 (Or.inr rfl) rfl (mj_fin_i rfl))))
theorem x76_69 {x1 : Int32} {x2 : Int32} : wp Ln xs 76 69 [.ref 1, .int x1, .int x2] [] (u, ml_h m lm) Φ = Φ (.inl (some (.int (x2 + (nI 1))))) (u, ml_h m lm) := (wp_same xd76_69 (Or.inr rfl) rfl).trans ((wp_same (S' := [.int (nI 1), .int x2]) xd76_70 (Or.inr rfl) rfl).trans ((wp_same xd76_71 (Or.inr rfl) rfl).trans (wp_fin (v := some (.int (x2 + (nI 1)))) xd76_72 (Or.inr rfl) rfl (mj_fin_i rfl))))
theorem x76_73 {x1 : Int32} {x2 : Int32} : wp Ln xs 76 73 [.ref 1, .int x1, .int x2] [] (u, ml_h m lm) Φ = Φ (.inl (some (.int (nI 2)))) (u, ml_h m lm) := (wp_same (S' := [.int (nI 2)]) xd76_73 (Or.inr rfl) rfl).trans (wp_fin (v := some (.int (nI 2))) xd76_74 (Or.inr rfl) rfl (mj_fin_i rfl))
theorem x76_75 {x1 : Int32} {x2 : Int32} : wp Ln xs 76 75 [.ref 1, .int x1, .int x2] [] (u, ml_h m lm) Φ = Φ (.inl (some (.int (nI 1)))) (u, ml_h m lm) := (wp_same (S' := [.int (nI 1)]) xd76_75 (Or.inr rfl) rfl).trans (wp_fin (v := some (.int (nI 1))) xd76_76 (Or.inr rfl) rfl (mj_fin_i rfl))
/- PickedForms.bestSplit -/
theorem xd77_0 : decode (mj_b 77) 0 = .ok (.aload_n 0, 1) := by decide +kernel
theorem xd77_1 : decode (mj_b 77) 1 = .ok (.getfield 12, 3) := by decide +kernel
theorem xd77_4 : decode (mj_b 77) 4 = .ok (.iload_n 1, 1) := by decide +kernel
theorem xd77_5 : decode (mj_b 77) 5 = .ok (.invokevirtual 154, 3) := by decide +kernel
theorem xd77_8 : decode (mj_b 77) 8 = .ok (.ifCond .ne 13, 3) := by decide +kernel
theorem xd77_11 : decode (mj_b 77) 11 = .ok (.new 130, 3) := by decide +kernel
theorem xd77_21 : decode (mj_b 77) 21 = .ok (.aload_n 0, 1) := by decide +kernel
theorem xd77_22 : decode (mj_b 77) 22 = .ok (.iload_n 1, 1) := by decide +kernel
theorem xd77_23 : decode (mj_b 77) 23 = .ok (.invokevirtual 296, 3) := by decide +kernel
theorem xd77_26 : decode (mj_b 77) 26 = .ok (.ireturn, 1) := by decide +kernel
theorem x77_0 {x1 : Int32} : wp Ln xs 77 0 [.ref 1, .int x1] [] (u, ml_h m lm) Φ = wp Ln xs 11 0 [.ref 2, .int x1] [] (u, ml_h m lm) (mk Ln xs 77 5 [.ref 1, .int x1] [] Φ) := (wp_same xd77_0 (Or.inr rfl) rfl).trans ((wm_getr xd77_1 rfl (show ml_L[1]? = _ from rfl) rfl (Nat.le_of_ble_eq_true rfl)).trans ((wp_same xd77_4 (Or.inr rfl) rfl).trans (wm_cv (As := [.int x1]) (rest := []) xd77_5 rfl rfl (show ml_L[2]? = _ from rfl) (Nat.le_of_ble_eq_true rfl) (Nat.le_of_ble_eq_true rfl) (Nat.le_of_ble_eq_true rfl) (Nat.le_of_ble_eq_true rfl))))
theorem x77_8 {x1 : Int32} {xs0 : Int32} : wp Ln xs 77 8 [.ref 1, .int x1] [.int xs0] (u, ml_h m lm) Φ = if ¬ xs0 = (nI 0) then wp Ln xs 77 21 [.ref 1, .int x1] [] (u, ml_h m lm) Φ else wp Ln xs 77 11 [.ref 1, .int x1] [] (u, ml_h m lm) Φ := wx_if xd77_8 rfl rfl (¬ xs0 = (nI 0)) mb_ne
theorem x77_11 {x1 : Int32} : wp Ln xs 77 11 [.ref 1, .int x1] [] (u, ml_h m lm) Φ = Φ (.inr 2) ((u.1, u.2.1 + 1, u.2.2 + 6), ml_h m lm) := wp_thr xd77_11 (Or.inr rfl) rfl rfl (E := 2) (by decide +kernel)
theorem x77_21 {x1 : Int32} : wp Ln xs 77 21 [.ref 1, .int x1] [] (u, ml_h m lm) Φ = wp Ln xs 78 0 [.ref 1, .int x1, mj_hole, mj_hole, mj_hole, mj_hole, mj_hole, mj_hole] [] (u, ml_h m lm) (mk Ln xs 77 23 [.ref 1, .int x1] [] Φ) := (wp_same xd77_21 (Or.inr rfl) rfl).trans ((wp_same xd77_22 (Or.inr rfl) rfl).trans (wm_cv (As := [.int x1]) (rest := []) xd77_23 rfl rfl (show ml_L[1]? = _ from rfl) (Nat.le_of_ble_eq_true rfl) (Nat.le_of_ble_eq_true rfl) (Nat.le_of_ble_eq_true rfl) (Nat.le_of_ble_eq_true rfl)))
theorem x77_26 {x1 : Int32} {xs0 : Int32} : wp Ln xs 77 26 [.ref 1, .int x1] [.int xs0] (u, ml_h m lm) Φ = Φ (.inl (some (.int xs0))) (u, ml_h m lm) := wp_fin (v := some (.int xs0)) xd77_26 (Or.inr rfl) rfl (mj_fin_i rfl)
/- PickedForms.splitPlace -/
theorem xd78_0 : decode (mj_b 78) 0 = .ok (.aload_n 0, 1) := by decide +kernel
theorem xd78_1 : decode (mj_b 78) 1 = .ok (.getfield 12, 3) := by decide +kernel
theorem xd78_4 : decode (mj_b 78) 4 = .ok (.iload_n 1, 1) := by decide +kernel
theorem xd78_5 : decode (mj_b 78) 5 = .ok (.invokevirtual 182, 3) := by decide +kernel
theorem xd78_8 : decode (mj_b 78) 8 = .ok (.istore_n 2, 1) := by decide +kernel
theorem xd78_9 : decode (mj_b 78) 9 = .ok (.aload_n 0, 1) := by decide +kernel
theorem xd78_10 : decode (mj_b 78) 10 = .ok (.getfield 12, 3) := by decide +kernel
theorem xd78_13 : decode (mj_b 78) 13 = .ok (.iload_n 1, 1) := by decide +kernel
theorem xd78_14 : decode (mj_b 78) 14 = .ok (.invokevirtual 164, 3) := by decide +kernel
theorem xd78_17 : decode (mj_b 78) 17 = .ok (.istore_n 3, 1) := by decide +kernel
theorem xd78_18 : decode (mj_b 78) 18 = .ok (.iconst (-1), 1) := by decide +kernel
theorem xd78_19 : decode (mj_b 78) 19 = .ok (.istore 4, 2) := by decide +kernel
theorem xd78_21 : decode (mj_b 78) 21 = .ok (.iconst 0, 1) := by decide +kernel
theorem xd78_22 : decode (mj_b 78) 22 = .ok (.istore 5, 2) := by decide +kernel
theorem xd78_24 : decode (mj_b 78) 24 = .ok (.iconst 1, 1) := by decide +kernel
theorem xd78_25 : decode (mj_b 78) 25 = .ok (.istore 6, 2) := by decide +kernel
theorem xd78_27 : decode (mj_b 78) 27 = .ok (.iload 6, 2) := by decide +kernel
theorem xd78_29 : decode (mj_b 78) 29 = .ok (.iload_n 3, 1) := by decide +kernel
theorem xd78_30 : decode (mj_b 78) 30 = .ok (.if_icmp .ge 104, 3) := by decide +kernel
theorem xd78_33 : decode (mj_b 78) 33 = .ok (.aload_n 0, 1) := by decide +kernel
theorem xd78_34 : decode (mj_b 78) 34 = .ok (.getfield 47, 3) := by decide +kernel
theorem xd78_37 : decode (mj_b 78) 37 = .ok (.aload_n 0, 1) := by decide +kernel
theorem xd78_38 : decode (mj_b 78) 38 = .ok (.getfield 12, 3) := by decide +kernel
theorem xd78_41 : decode (mj_b 78) 41 = .ok (.getfield 139, 3) := by decide +kernel
theorem xd78_44 : decode (mj_b 78) 44 = .ok (.iload_n 2, 1) := by decide +kernel
theorem xd78_45 : decode (mj_b 78) 45 = .ok (.iload 6, 2) := by decide +kernel
theorem xd78_47 : decode (mj_b 78) 47 = .ok (.aload_n 0, 1) := by decide +kernel
theorem xd78_48 : decode (mj_b 78) 48 = .ok (.getfield 12, 3) := by decide +kernel
theorem xd78_51 : decode (mj_b 78) 51 = .ok (.getfield 203, 3) := by decide +kernel
theorem xd78_54 : decode (mj_b 78) 54 = .ok (.invokevirtual 360, 3) := by decide +kernel
theorem xd78_57 : decode (mj_b 78) 57 = .ok (.aload_n 0, 1) := by decide +kernel
theorem xd78_58 : decode (mj_b 78) 58 = .ok (.getfield 47, 3) := by decide +kernel
theorem xd78_61 : decode (mj_b 78) 61 = .ok (.getfield 373, 3) := by decide +kernel
theorem xd78_64 : decode (mj_b 78) 64 = .ok (.istore 7, 2) := by decide +kernel
theorem xd78_66 : decode (mj_b 78) 66 = .ok (.aload_n 0, 1) := by decide +kernel
theorem xd78_67 : decode (mj_b 78) 67 = .ok (.getfield 47, 3) := by decide +kernel
theorem xd78_70 : decode (mj_b 78) 70 = .ok (.aload_n 0, 1) := by decide +kernel
theorem xd78_71 : decode (mj_b 78) 71 = .ok (.getfield 12, 3) := by decide +kernel
theorem xd78_74 : decode (mj_b 78) 74 = .ok (.getfield 139, 3) := by decide +kernel
theorem xd78_77 : decode (mj_b 78) 77 = .ok (.iload_n 2, 1) := by decide +kernel
theorem xd78_78 : decode (mj_b 78) 78 = .ok (.iload 6, 2) := by decide +kernel
theorem xd78_80 : decode (mj_b 78) 80 = .ok (.iadd, 1) := by decide +kernel
theorem xd78_81 : decode (mj_b 78) 81 = .ok (.iload_n 3, 1) := by decide +kernel
theorem xd78_82 : decode (mj_b 78) 82 = .ok (.iload 6, 2) := by decide +kernel
theorem xd78_84 : decode (mj_b 78) 84 = .ok (.isub, 1) := by decide +kernel
theorem xd78_85 : decode (mj_b 78) 85 = .ok (.aload_n 0, 1) := by decide +kernel
theorem xd78_86 : decode (mj_b 78) 86 = .ok (.getfield 12, 3) := by decide +kernel
theorem xd78_89 : decode (mj_b 78) 89 = .ok (.getfield 203, 3) := by decide +kernel
theorem xd78_92 : decode (mj_b 78) 92 = .ok (.invokevirtual 360, 3) := by decide +kernel
theorem xd78_95 : decode (mj_b 78) 95 = .ok (.iload 7, 2) := by decide +kernel
theorem xd78_97 : decode (mj_b 78) 97 = .ok (.aload_n 0, 1) := by decide +kernel
theorem xd78_98 : decode (mj_b 78) 98 = .ok (.getfield 47, 3) := by decide +kernel
theorem xd78_101 : decode (mj_b 78) 101 = .ok (.getfield 373, 3) := by decide +kernel
theorem xd78_104 : decode (mj_b 78) 104 = .ok (.iadd, 1) := by decide +kernel
theorem xd78_105 : decode (mj_b 78) 105 = .ok (.istore 7, 2) := by decide +kernel
theorem xd78_107 : decode (mj_b 78) 107 = .ok (.iload 4, 2) := by decide +kernel
theorem xd78_109 : decode (mj_b 78) 109 = .ok (.iconst (-1), 1) := by decide +kernel
theorem xd78_110 : decode (mj_b 78) 110 = .ok (.if_icmp .eq 10, 3) := by decide +kernel
theorem xd78_113 : decode (mj_b 78) 113 = .ok (.iload 7, 2) := by decide +kernel
theorem xd78_115 : decode (mj_b 78) 115 = .ok (.iload 5, 2) := by decide +kernel
theorem xd78_117 : decode (mj_b 78) 117 = .ok (.if_icmp .ge 11, 3) := by decide +kernel
theorem xd78_120 : decode (mj_b 78) 120 = .ok (.iload 6, 2) := by decide +kernel
theorem xd78_122 : decode (mj_b 78) 122 = .ok (.istore 4, 2) := by decide +kernel
theorem xd78_124 : decode (mj_b 78) 124 = .ok (.iload 7, 2) := by decide +kernel
theorem xd78_126 : decode (mj_b 78) 126 = .ok (.istore 5, 2) := by decide +kernel
theorem xd78_128 : decode (mj_b 78) 128 = .ok (.iinc 6 1, 3) := by decide +kernel
theorem xd78_131 : decode (mj_b 78) 131 = .ok (.goto (-104), 3) := by decide +kernel
theorem xd78_134 : decode (mj_b 78) 134 = .ok (.iload 4, 2) := by decide +kernel
theorem xd78_136 : decode (mj_b 78) 136 = .ok (.ireturn, 1) := by decide +kernel
theorem x78_0 {x1 : Int32} : wp Ln xs 78 0 [.ref 1, .int x1, mj_hole, mj_hole, mj_hole, mj_hole, mj_hole, mj_hole] [] (u, ml_h m lm) Φ = wp Ln xs 19 0 [.ref 2, .int x1, mj_hole, mj_hole] [] (u, ml_h m lm) (mk Ln xs 78 5 [.ref 1, .int x1, mj_hole, mj_hole, mj_hole, mj_hole, mj_hole, mj_hole] [] Φ) := (wp_same xd78_0 (Or.inr rfl) rfl).trans ((wm_getr xd78_1 rfl (show ml_L[1]? = _ from rfl) rfl (Nat.le_of_ble_eq_true rfl)).trans ((wp_same xd78_4 (Or.inr rfl) rfl).trans (wm_cv (As := [.int x1]) (rest := []) xd78_5 rfl rfl (show ml_L[2]? = _ from rfl) (Nat.le_of_ble_eq_true rfl) (Nat.le_of_ble_eq_true rfl) (Nat.le_of_ble_eq_true rfl) (Nat.le_of_ble_eq_true rfl))))
theorem x78_8 {x1 : Int32} {xs0 : Int32} : wp Ln xs 78 8 [.ref 1, .int x1, mj_hole, mj_hole, mj_hole, mj_hole, mj_hole, mj_hole] [.int xs0] (u, ml_h m lm) Φ = wp Ln xs 20 0 [.ref 2, .int x1] [] (u, ml_h m lm) (mk Ln xs 78 14 [.ref 1, .int x1, .int xs0, mj_hole, mj_hole, mj_hole, mj_hole, mj_hole] [] Φ) := (wp_same (L' := [.ref 1, .int x1, .int xs0, mj_hole, mj_hole, mj_hole, mj_hole, mj_hole]) xd78_8 (Or.inr rfl) rfl).trans ((wp_same xd78_9 (Or.inr rfl) rfl).trans ((wm_getr xd78_10 rfl (show ml_L[1]? = _ from rfl) rfl (Nat.le_of_ble_eq_true rfl)).trans ((wp_same xd78_13 (Or.inr rfl) rfl).trans (wm_cv (As := [.int x1]) (rest := []) xd78_14 rfl rfl (show ml_L[2]? = _ from rfl) (Nat.le_of_ble_eq_true rfl) (Nat.le_of_ble_eq_true rfl) (Nat.le_of_ble_eq_true rfl) (Nat.le_of_ble_eq_true rfl)))))
theorem x78_17 {x1 : Int32} {x2 : Int32} {xs0 : Int32} : wp Ln xs 78 17 [.ref 1, .int x1, .int x2, mj_hole, mj_hole, mj_hole, mj_hole, mj_hole] [.int xs0] (u, ml_h m lm) Φ = wp Ln xs 78 27 [.ref 1, .int x1, .int x2, .int xs0, .int ((-1)), .int (nI 0), .int (nI 1), mj_hole] [] (u, ml_h m lm) Φ := (wp_same (L' := [.ref 1, .int x1, .int x2, .int xs0, mj_hole, mj_hole, mj_hole, mj_hole]) xd78_17 (Or.inr rfl) rfl).trans ((wp_same (S' := [.int ((-1))]) xd78_18 (Or.inr rfl) rfl).trans ((wp_same (L' := [.ref 1, .int x1, .int x2, .int xs0, .int ((-1)), mj_hole, mj_hole, mj_hole]) xd78_19 (Or.inr rfl) rfl).trans ((wp_same (S' := [.int (nI 0)]) xd78_21 (Or.inr rfl) rfl).trans ((wp_same (L' := [.ref 1, .int x1, .int x2, .int xs0, .int ((-1)), .int (nI 0), mj_hole, mj_hole]) xd78_22 (Or.inr rfl) rfl).trans ((wp_same (S' := [.int (nI 1)]) xd78_24 (Or.inr rfl) rfl).trans (wp_same (L' := [.ref 1, .int x1, .int x2, .int xs0, .int ((-1)), .int (nI 0), .int (nI 1), mj_hole]) xd78_25 (Or.inr rfl) rfl))))))
theorem x78_27 {x1 : Int32} {x2 : Int32} {x3 : Int32} {x4 : Int32} {x5 : Int32} {x6 : Int32} {v7 : Value} : wp Ln xs 78 27 [.ref 1, .int x1, .int x2, .int x3, .int x4, .int x5, .int x6, v7] [] (u, ml_h m lm) Φ = if x3 ≤ x6 then wp Ln xs 78 134 [.ref 1, .int x1, .int x2, .int x3, .int x4, .int x5, .int x6, v7] [] (u, ml_h m lm) Φ else wp Ln xs 78 33 [.ref 1, .int x1, .int x2, .int x3, .int x4, .int x5, .int x6, v7] [] (u, ml_h m lm) Φ := (wp_same xd78_27 (Or.inr rfl) rfl).trans ((wp_same xd78_29 (Or.inr rfl) rfl).trans (wx_icmp xd78_30 rfl rfl (x3 ≤ x6) mb_ge))
theorem x78_33 {x1 : Int32} {x2 : Int32} {x3 : Int32} {x4 : Int32} {x5 : Int32} {x6 : Int32} {v7 : Value} : wp Ln xs 78 33 [.ref 1, .int x1, .int x2, .int x3, .int x4, .int x5, .int x6, v7] [] (u, ml_h m lm) Φ = wp Ln xs 21 0 [.ref 58, .ref 3, .int x2, .int x6, .ref 7, mj_hole, mj_hole] [] (u, ml_h m lm) (mk Ln xs 78 54 [.ref 1, .int x1, .int x2, .int x3, .int x4, .int x5, .int x6, v7] [] Φ) := (wp_same xd78_33 (Or.inr rfl) rfl).trans ((wm_getr xd78_34 rfl (show ml_L[1]? = _ from rfl) rfl (Nat.le_of_ble_eq_true rfl)).trans ((wp_same xd78_37 (Or.inr rfl) rfl).trans ((wm_getr xd78_38 rfl (show ml_L[1]? = _ from rfl) rfl (Nat.le_of_ble_eq_true rfl)).trans ((wm_getr xd78_41 rfl (show ml_L[2]? = _ from rfl) rfl (Nat.le_of_ble_eq_true rfl)).trans ((wp_same xd78_44 (Or.inr rfl) rfl).trans ((wp_same xd78_45 (Or.inr rfl) rfl).trans ((wp_same xd78_47 (Or.inr rfl) rfl).trans ((wm_getr xd78_48 rfl (show ml_L[1]? = _ from rfl) rfl (Nat.le_of_ble_eq_true rfl)).trans ((wm_getr xd78_51 rfl (show ml_L[2]? = _ from rfl) rfl (Nat.le_of_ble_eq_true rfl)).trans (wm_cv (As := [.ref 3, .int x2, .int x6, .ref 7]) (rest := []) xd78_54 rfl rfl (show ml_L[58]? = _ from rfl) (Nat.le_of_ble_eq_true rfl) (Nat.le_of_ble_eq_true rfl) (Nat.le_of_ble_eq_true rfl) (Nat.le_of_ble_eq_true rfl)))))))))))
theorem x78_57 {x1 : Int32} {x2 : Int32} {x3 : Int32} {x4 : Int32} {x5 : Int32} {x6 : Int32} {v7 : Value} : wp Ln xs 78 57 [.ref 1, .int x1, .int x2, .int x3, .int x4, .int x5, .int x6, v7] [] (u, ml_h m lm) Φ = wp Ln xs 21 0 [.ref 58, .ref 3, .int (x2 + x6), .int (x3 - x6), .ref 7, mj_hole, mj_hole] [] (u, ml_h m lm) (mk Ln xs 78 92 [.ref 1, .int x1, .int x2, .int x3, .int x4, .int x5, .int x6, .int (m 58 2)] [] Φ) := (wp_same xd78_57 (Or.inr rfl) rfl).trans ((wm_getr xd78_58 rfl (show ml_L[1]? = _ from rfl) rfl (Nat.le_of_ble_eq_true rfl)).trans ((wm_geti xd78_61 rfl (show ml_L[58]? = _ from rfl) rfl (Nat.le_of_ble_eq_true rfl)).trans ((wp_same (L' := [.ref 1, .int x1, .int x2, .int x3, .int x4, .int x5, .int x6, .int (m 58 2)]) xd78_64 (Or.inr rfl) rfl).trans ((wp_same xd78_66 (Or.inr rfl) rfl).trans ((wm_getr xd78_67 rfl (show ml_L[1]? = _ from rfl) rfl (Nat.le_of_ble_eq_true rfl)).trans ((wp_same xd78_70 (Or.inr rfl) rfl).trans ((wm_getr xd78_71 rfl (show ml_L[1]? = _ from rfl) rfl (Nat.le_of_ble_eq_true rfl)).trans ((wm_getr xd78_74 rfl (show ml_L[2]? = _ from rfl) rfl (Nat.le_of_ble_eq_true rfl)).trans ((wp_same xd78_77 (Or.inr rfl) rfl).trans ((wp_same xd78_78 (Or.inr rfl) rfl).trans ((wp_same xd78_80 (Or.inr rfl) rfl).trans ((wp_same xd78_81 (Or.inr rfl) rfl).trans ((wp_same xd78_82 (Or.inr rfl) rfl).trans ((wp_same xd78_84 (Or.inr rfl) rfl).trans ((wp_same xd78_85 (Or.inr rfl) rfl).trans ((wm_getr xd78_86 rfl (show ml_L[1]? = _ from rfl) rfl (Nat.le_of_ble_eq_true rfl)).trans ((wm_getr xd78_89 rfl (show ml_L[2]? = _ from rfl) rfl (Nat.le_of_ble_eq_true rfl)).trans (wm_cv (As := [.ref 3, .int (x2 + x6), .int (x3 - x6), .ref 7]) (rest := []) xd78_92 rfl rfl (show ml_L[58]? = _ from rfl) (Nat.le_of_ble_eq_true rfl) (Nat.le_of_ble_eq_true rfl) (Nat.le_of_ble_eq_true rfl) (Nat.le_of_ble_eq_true rfl)))))))))))))))))))
theorem x78_95 {x1 : Int32} {x2 : Int32} {x3 : Int32} {x4 : Int32} {x5 : Int32} {x6 : Int32} {x7 : Int32} : wp Ln xs 78 95 [.ref 1, .int x1, .int x2, .int x3, .int x4, .int x5, .int x6, .int x7] [] (u, ml_h m lm) Φ = if x4 = ((-1)) then wp Ln xs 78 120 [.ref 1, .int x1, .int x2, .int x3, .int x4, .int x5, .int x6, .int (x7 + (m 58 2))] [] (u, ml_h m lm) Φ else wp Ln xs 78 113 [.ref 1, .int x1, .int x2, .int x3, .int x4, .int x5, .int x6, .int (x7 + (m 58 2))] [] (u, ml_h m lm) Φ := (wp_same xd78_95 (Or.inr rfl) rfl).trans ((wp_same xd78_97 (Or.inr rfl) rfl).trans ((wm_getr xd78_98 rfl (show ml_L[1]? = _ from rfl) rfl (Nat.le_of_ble_eq_true rfl)).trans ((wm_geti xd78_101 rfl (show ml_L[58]? = _ from rfl) rfl (Nat.le_of_ble_eq_true rfl)).trans ((wp_same xd78_104 (Or.inr rfl) rfl).trans ((wp_same (L' := [.ref 1, .int x1, .int x2, .int x3, .int x4, .int x5, .int x6, .int (x7 + (m 58 2))]) xd78_105 (Or.inr rfl) rfl).trans ((wp_same xd78_107 (Or.inr rfl) rfl).trans ((wp_same (S' := [.int ((-1)), .int x4]) xd78_109 (Or.inr rfl) rfl).trans (wx_icmp xd78_110 rfl rfl (x4 = ((-1))) mb_eq))))))))
theorem x78_113 {x1 : Int32} {x2 : Int32} {x3 : Int32} {x4 : Int32} {x5 : Int32} {x6 : Int32} {x7 : Int32} : wp Ln xs 78 113 [.ref 1, .int x1, .int x2, .int x3, .int x4, .int x5, .int x6, .int x7] [] (u, ml_h m lm) Φ = if x5 ≤ x7 then wp Ln xs 78 128 [.ref 1, .int x1, .int x2, .int x3, .int x4, .int x5, .int x6, .int x7] [] (u, ml_h m lm) Φ else wp Ln xs 78 120 [.ref 1, .int x1, .int x2, .int x3, .int x4, .int x5, .int x6, .int x7] [] (u, ml_h m lm) Φ := (wp_same xd78_113 (Or.inr rfl) rfl).trans ((wp_same xd78_115 (Or.inr rfl) rfl).trans (wx_icmp xd78_117 rfl rfl (x5 ≤ x7) mb_ge))
theorem x78_120 {x1 : Int32} {x2 : Int32} {x3 : Int32} {x4 : Int32} {x5 : Int32} {x6 : Int32} {x7 : Int32} : wp Ln xs 78 120 [.ref 1, .int x1, .int x2, .int x3, .int x4, .int x5, .int x6, .int x7] [] (u, ml_h m lm) Φ = wp Ln xs 78 128 [.ref 1, .int x1, .int x2, .int x3, .int x6, .int x7, .int x6, .int x7] [] (u, ml_h m lm) Φ := (wp_same xd78_120 (Or.inr rfl) rfl).trans ((wp_same (L' := [.ref 1, .int x1, .int x2, .int x3, .int x6, .int x5, .int x6, .int x7]) xd78_122 (Or.inr rfl) rfl).trans ((wp_same xd78_124 (Or.inr rfl) rfl).trans (wp_same (L' := [.ref 1, .int x1, .int x2, .int x3, .int x6, .int x7, .int x6, .int x7]) xd78_126 (Or.inr rfl) rfl)))
theorem x78_128 {x1 : Int32} {x2 : Int32} {x3 : Int32} {x4 : Int32} {x5 : Int32} {x6 : Int32} {x7 : Int32} : wp Ln xs 78 128 [.ref 1, .int x1, .int x2, .int x3, .int x4, .int x5, .int x6, .int x7] [] (u, ml_h m lm) Φ = wp Ln xs 78 27 [.ref 1, .int x1, .int x2, .int x3, .int x4, .int x5, .int (x6 + nI 1), .int x7] [] (u, ml_h m lm) Φ := (wp_same (L' := [.ref 1, .int x1, .int x2, .int x3, .int x4, .int x5, .int (x6 + nI 1), .int x7]) xd78_128 (Or.inr rfl) rfl).trans (wx_goto xd78_131 rfl)
theorem x78_134 {x1 : Int32} {x2 : Int32} {x3 : Int32} {x4 : Int32} {x5 : Int32} {x6 : Int32} {v7 : Value} : wp Ln xs 78 134 [.ref 1, .int x1, .int x2, .int x3, .int x4, .int x5, .int x6, v7] [] (u, ml_h m lm) Φ = Φ (.inl (some (.int x4))) (u, ml_h m lm) := (wp_same xd78_134 (Or.inr rfl) rfl).trans (wp_fin (v := some (.int x4)) xd78_136 (Or.inr rfl) rfl (mj_fin_i rfl))
/- PickedFormsLaw.low -/
theorem xd79_0 : decode (mj_b 79) 0 = .ok (.iload_n 0, 1) := by decide +kernel
theorem xd79_1 : decode (mj_b 79) 1 = .ok (.ldc 9, 2) := by decide +kernel
theorem xd79_3 : decode (mj_b 79) 3 = .ok (.iand, 1) := by decide +kernel
theorem xd79_4 : decode (mj_b 79) 4 = .ok (.iload_n 1, 1) := by decide +kernel
theorem xd79_5 : decode (mj_b 79) 5 = .ok (.irem, 1) := by decide +kernel
theorem xd79_6 : decode (mj_b 79) 6 = .ok (.ireturn, 1) := by decide +kernel
theorem x79_0 {x0 : Int32} {x1 : Int32} (h0 : ¬ x1 = 0) : wp Ln xs 79 0 [.int x0, .int x1] [] (u, ml_h m lm) Φ = Φ (.inl (some (.int ((x0 &&& (nI 2147483647)) - (x0 &&& (nI 2147483647)) / x1 * x1)))) (u, ml_h m lm) := (wp_same xd79_0 (Or.inr rfl) rfl).trans ((wm_ldc (v := .int (nI 2147483647)) xd79_1 rfl rfl ⟨rfl, rfl⟩).trans ((wp_same xd79_3 (Or.inr rfl) rfl).trans ((wp_same xd79_4 (Or.inr rfl) rfl).trans ((wx_irem xd79_5 h0).trans (wp_fin (v := some (.int ((x0 &&& (nI 2147483647)) - (x0 &&& (nI 2147483647)) / x1 * x1))) xd79_6 (Or.inr rfl) rfl (mj_fin_i rfl))))))
/- PickedFormsLaw.isMatch -/
theorem xd80_0 : decode (mj_b 80) 0 = .ok (.iconst 0, 1) := by decide +kernel
theorem xd80_1 : decode (mj_b 80) 1 = .ok (.istore_n 3, 1) := by decide +kernel
theorem xd80_2 : decode (mj_b 80) 2 = .ok (.iconst (-1), 1) := by decide +kernel
theorem xd80_3 : decode (mj_b 80) 3 = .ok (.istore 4, 2) := by decide +kernel
theorem xd80_5 : decode (mj_b 80) 5 = .ok (.aload_n 0, 1) := by decide +kernel
theorem xd80_6 : decode (mj_b 80) 6 = .ok (.iconst 0, 1) := by decide +kernel
theorem xd80_7 : decode (mj_b 80) 7 = .ok (.invokevirtual 38, 3) := by decide +kernel
theorem xd80_10 : decode (mj_b 80) 10 = .ok (.iconst 1, 1) := by decide +kernel
theorem xd80_11 : decode (mj_b 80) 11 = .ok (.isub, 1) := by decide +kernel
theorem xd80_12 : decode (mj_b 80) 12 = .ok (.istore 5, 2) := by decide +kernel
theorem xd80_14 : decode (mj_b 80) 14 = .ok (.iload 5, 2) := by decide +kernel
theorem xd80_16 : decode (mj_b 80) 16 = .ok (.ifCond .lt 65, 3) := by decide +kernel
theorem xd80_19 : decode (mj_b 80) 19 = .ok (.aload_n 0, 1) := by decide +kernel
theorem xd80_20 : decode (mj_b 80) 20 = .ok (.iload 5, 2) := by decide +kernel
theorem xd80_22 : decode (mj_b 80) 22 = .ok (.iconst 0, 1) := by decide +kernel
theorem xd80_23 : decode (mj_b 80) 23 = .ok (.invokevirtual 32, 3) := by decide +kernel
theorem xd80_26 : decode (mj_b 80) 26 = .ok (.iload_n 1, 1) := by decide +kernel
theorem xd80_27 : decode (mj_b 80) 27 = .ok (.if_icmp .lt 18, 3) := by decide +kernel
theorem xd80_30 : decode (mj_b 80) 30 = .ok (.aload_n 0, 1) := by decide +kernel
theorem xd80_31 : decode (mj_b 80) 31 = .ok (.iload 5, 2) := by decide +kernel
theorem xd80_33 : decode (mj_b 80) 33 = .ok (.iconst 0, 1) := by decide +kernel
theorem xd80_34 : decode (mj_b 80) 34 = .ok (.invokevirtual 32, 3) := by decide +kernel
theorem xd80_37 : decode (mj_b 80) 37 = .ok (.iload_n 2, 1) := by decide +kernel
theorem xd80_38 : decode (mj_b 80) 38 = .ok (.if_icmp .gt 7, 3) := by decide +kernel
theorem xd80_41 : decode (mj_b 80) 41 = .ok (.iconst 1, 1) := by decide +kernel
theorem xd80_42 : decode (mj_b 80) 42 = .ok (.goto 4, 3) := by decide +kernel
theorem xd80_45 : decode (mj_b 80) 45 = .ok (.iconst 0, 1) := by decide +kernel
theorem xd80_46 : decode (mj_b 80) 46 = .ok (.istore 6, 2) := by decide +kernel
theorem xd80_48 : decode (mj_b 80) 48 = .ok (.iload_n 3, 1) := by decide +kernel
theorem xd80_49 : decode (mj_b 80) 49 = .ok (.iload 6, 2) := by decide +kernel
theorem xd80_51 : decode (mj_b 80) 51 = .ok (.ifCond .eq 7, 3) := by decide +kernel
theorem xd80_54 : decode (mj_b 80) 54 = .ok (.iconst 1, 1) := by decide +kernel
theorem xd80_55 : decode (mj_b 80) 55 = .ok (.goto 4, 3) := by decide +kernel
theorem xd80_58 : decode (mj_b 80) 58 = .ok (.iconst 0, 1) := by decide +kernel
theorem xd80_59 : decode (mj_b 80) 59 = .ok (.iadd, 1) := by decide +kernel
theorem xd80_60 : decode (mj_b 80) 60 = .ok (.istore_n 3, 1) := by decide +kernel
theorem xd80_61 : decode (mj_b 80) 61 = .ok (.iload 6, 2) := by decide +kernel
theorem xd80_63 : decode (mj_b 80) 63 = .ok (.ifCond .eq 8, 3) := by decide +kernel
theorem xd80_66 : decode (mj_b 80) 66 = .ok (.iload 5, 2) := by decide +kernel
theorem xd80_68 : decode (mj_b 80) 68 = .ok (.goto 5, 3) := by decide +kernel
theorem xd80_71 : decode (mj_b 80) 71 = .ok (.iload 4, 2) := by decide +kernel
theorem xd80_73 : decode (mj_b 80) 73 = .ok (.istore 4, 2) := by decide +kernel
theorem xd80_75 : decode (mj_b 80) 75 = .ok (.iinc 5 (-1), 3) := by decide +kernel
theorem xd80_78 : decode (mj_b 80) 78 = .ok (.goto (-64), 3) := by decide +kernel
theorem xd80_81 : decode (mj_b 80) 81 = .ok (.aload_n 0, 1) := by decide +kernel
theorem xd80_82 : decode (mj_b 80) 82 = .ok (.iload_n 1, 1) := by decide +kernel
theorem xd80_83 : decode (mj_b 80) 83 = .ok (.iload_n 2, 1) := by decide +kernel
theorem xd80_84 : decode (mj_b 80) 84 = .ok (.iconst 0, 1) := by decide +kernel
theorem xd80_85 : decode (mj_b 80) 85 = .ok (.invokevirtual 41, 3) := by decide +kernel
theorem xd80_88 : decode (mj_b 80) 88 = .ok (.iload_n 3, 1) := by decide +kernel
theorem xd80_89 : decode (mj_b 80) 89 = .ok (.if_icmp .ne 75, 3) := by decide +kernel
theorem xd80_92 : decode (mj_b 80) 92 = .ok (.aload_n 0, 1) := by decide +kernel
theorem xd80_93 : decode (mj_b 80) 93 = .ok (.iload_n 1, 1) := by decide +kernel
theorem xd80_94 : decode (mj_b 80) 94 = .ok (.iload_n 2, 1) := by decide +kernel
theorem xd80_95 : decode (mj_b 80) 95 = .ok (.iconst 1, 1) := by decide +kernel
theorem xd80_96 : decode (mj_b 80) 96 = .ok (.invokevirtual 41, 3) := by decide +kernel
theorem xd80_99 : decode (mj_b 80) 99 = .ok (.iload_n 3, 1) := by decide +kernel
theorem xd80_100 : decode (mj_b 80) 100 = .ok (.if_icmp .ne 64, 3) := by decide +kernel
theorem xd80_103 : decode (mj_b 80) 103 = .ok (.aload_n 0, 1) := by decide +kernel
theorem xd80_104 : decode (mj_b 80) 104 = .ok (.iload_n 1, 1) := by decide +kernel
theorem xd80_105 : decode (mj_b 80) 105 = .ok (.iload_n 2, 1) := by decide +kernel
theorem xd80_106 : decode (mj_b 80) 106 = .ok (.iconst 3, 1) := by decide +kernel
theorem xd80_107 : decode (mj_b 80) 107 = .ok (.invokevirtual 41, 3) := by decide +kernel
theorem xd80_110 : decode (mj_b 80) 110 = .ok (.iload 4, 2) := by decide +kernel
theorem xd80_112 : decode (mj_b 80) 112 = .ok (.if_icmp .ne 52, 3) := by decide +kernel
theorem xd80_115 : decode (mj_b 80) 115 = .ok (.aload_n 0, 1) := by decide +kernel
theorem xd80_116 : decode (mj_b 80) 116 = .ok (.iload_n 1, 1) := by decide +kernel
theorem xd80_117 : decode (mj_b 80) 117 = .ok (.iload_n 2, 1) := by decide +kernel
theorem xd80_118 : decode (mj_b 80) 118 = .ok (.iconst 2, 1) := by decide +kernel
theorem xd80_119 : decode (mj_b 80) 119 = .ok (.invokevirtual 41, 3) := by decide +kernel
theorem xd80_122 : decode (mj_b 80) 122 = .ok (.aload_n 0, 1) := by decide +kernel
theorem xd80_123 : decode (mj_b 80) 123 = .ok (.iconst 1, 1) := by decide +kernel
theorem xd80_124 : decode (mj_b 80) 124 = .ok (.invokevirtual 38, 3) := by decide +kernel
theorem xd80_127 : decode (mj_b 80) 127 = .ok (.aload_n 0, 1) := by decide +kernel
theorem xd80_128 : decode (mj_b 80) 128 = .ok (.iconst 2, 1) := by decide +kernel
theorem xd80_129 : decode (mj_b 80) 129 = .ok (.invokevirtual 38, 3) := by decide +kernel
theorem xd80_132 : decode (mj_b 80) 132 = .ok (.iadd, 1) := by decide +kernel
theorem xd80_133 : decode (mj_b 80) 133 = .ok (.if_icmp .lt 31, 3) := by decide +kernel
theorem xd80_136 : decode (mj_b 80) 136 = .ok (.aload_n 0, 1) := by decide +kernel
theorem xd80_137 : decode (mj_b 80) 137 = .ok (.iload_n 1, 1) := by decide +kernel
theorem xd80_138 : decode (mj_b 80) 138 = .ok (.iload_n 2, 1) := by decide +kernel
theorem xd80_139 : decode (mj_b 80) 139 = .ok (.iconst 2, 1) := by decide +kernel
theorem xd80_140 : decode (mj_b 80) 140 = .ok (.invokevirtual 41, 3) := by decide +kernel
theorem xd80_143 : decode (mj_b 80) 143 = .ok (.aload_n 0, 1) := by decide +kernel
theorem xd80_144 : decode (mj_b 80) 144 = .ok (.iconst 0, 1) := by decide +kernel
theorem xd80_145 : decode (mj_b 80) 145 = .ok (.invokevirtual 38, 3) := by decide +kernel
theorem xd80_148 : decode (mj_b 80) 148 = .ok (.bipush 17, 2) := by decide +kernel
theorem xd80_150 : decode (mj_b 80) 150 = .ok (.aload_n 0, 1) := by decide +kernel
theorem xd80_151 : decode (mj_b 80) 151 = .ok (.iconst 1, 1) := by decide +kernel
theorem xd80_152 : decode (mj_b 80) 152 = .ok (.invokevirtual 38, 3) := by decide +kernel
theorem xd80_155 : decode (mj_b 80) 155 = .ok (.imul, 1) := by decide +kernel
theorem xd80_156 : decode (mj_b 80) 156 = .ok (.iadd, 1) := by decide +kernel
theorem xd80_157 : decode (mj_b 80) 157 = .ok (.if_icmp .gt 7, 3) := by decide +kernel
theorem xd80_160 : decode (mj_b 80) 160 = .ok (.iconst 1, 1) := by decide +kernel
theorem xd80_161 : decode (mj_b 80) 161 = .ok (.goto 4, 3) := by decide +kernel
theorem xd80_164 : decode (mj_b 80) 164 = .ok (.iconst 0, 1) := by decide +kernel
theorem xd80_165 : decode (mj_b 80) 165 = .ok (.ireturn, 1) := by decide +kernel
theorem x80_0 {x1 : Int32} {x2 : Int32} : wp Ln xs 80 0 [.ref 1, .int x1, .int x2, mj_hole, mj_hole, mj_hole, mj_hole] [] (u, ml_h m lm) Φ = wp Ln xs 34 0 [.ref 1, .int (nI 0)] [] (u, ml_h m lm) (mk Ln xs 80 7 [.ref 1, .int x1, .int x2, .int (nI 0), .int ((-1)), mj_hole, mj_hole] [] Φ) := (wp_same (S' := [.int (nI 0)]) xd80_0 (Or.inr rfl) rfl).trans ((wp_same (L' := [.ref 1, .int x1, .int x2, .int (nI 0), mj_hole, mj_hole, mj_hole]) xd80_1 (Or.inr rfl) rfl).trans ((wp_same (S' := [.int ((-1))]) xd80_2 (Or.inr rfl) rfl).trans ((wp_same (L' := [.ref 1, .int x1, .int x2, .int (nI 0), .int ((-1)), mj_hole, mj_hole]) xd80_3 (Or.inr rfl) rfl).trans ((wp_same xd80_5 (Or.inr rfl) rfl).trans ((wp_same (S' := [.int (nI 0), .ref 1]) xd80_6 (Or.inr rfl) rfl).trans (wm_cv (As := [.int (nI 0)]) (rest := []) xd80_7 rfl rfl (show ml_L[1]? = _ from rfl) (Nat.le_of_ble_eq_true rfl) (Nat.le_of_ble_eq_true rfl) (Nat.le_of_ble_eq_true rfl) (Nat.le_of_ble_eq_true rfl)))))))
theorem x80_10 {x1 : Int32} {x2 : Int32} {x3 : Int32} {x4 : Int32} {xs0 : Int32} : wp Ln xs 80 10 [.ref 1, .int x1, .int x2, .int x3, .int x4, mj_hole, mj_hole] [.int xs0] (u, ml_h m lm) Φ = wp Ln xs 80 14 [.ref 1, .int x1, .int x2, .int x3, .int x4, .int (xs0 - (nI 1)), mj_hole] [] (u, ml_h m lm) Φ := (wp_same (S' := [.int (nI 1), .int xs0]) xd80_10 (Or.inr rfl) rfl).trans ((wp_same xd80_11 (Or.inr rfl) rfl).trans (wp_same (L' := [.ref 1, .int x1, .int x2, .int x3, .int x4, .int (xs0 - (nI 1)), mj_hole]) xd80_12 (Or.inr rfl) rfl))
theorem x80_14 {x1 : Int32} {x2 : Int32} {x3 : Int32} {x4 : Int32} {x5 : Int32} {v6 : Value} : wp Ln xs 80 14 [.ref 1, .int x1, .int x2, .int x3, .int x4, .int x5, v6] [] (u, ml_h m lm) Φ = if x5 < (nI 0) then wp Ln xs 80 81 [.ref 1, .int x1, .int x2, .int x3, .int x4, .int x5, v6] [] (u, ml_h m lm) Φ else wp Ln xs 80 19 [.ref 1, .int x1, .int x2, .int x3, .int x4, .int x5, v6] [] (u, ml_h m lm) Φ := (wp_same xd80_14 (Or.inr rfl) rfl).trans (wx_if xd80_16 rfl rfl (x5 < (nI 0)) mb_lt)
theorem x80_19 {x1 : Int32} {x2 : Int32} {x3 : Int32} {x4 : Int32} {x5 : Int32} {v6 : Value} : wp Ln xs 80 19 [.ref 1, .int x1, .int x2, .int x3, .int x4, .int x5, v6] [] (u, ml_h m lm) Φ = wp Ln xs 72 0 [.ref 1, .int x5, .int (nI 0)] [] (u, ml_h m lm) (mk Ln xs 80 23 [.ref 1, .int x1, .int x2, .int x3, .int x4, .int x5, v6] [] Φ) := (wp_same xd80_19 (Or.inr rfl) rfl).trans ((wp_same xd80_20 (Or.inr rfl) rfl).trans ((wp_same (S' := [.int (nI 0), .int x5, .ref 1]) xd80_22 (Or.inr rfl) rfl).trans (wm_cv (As := [.int x5, .int (nI 0)]) (rest := []) xd80_23 rfl rfl (show ml_L[1]? = _ from rfl) (Nat.le_of_ble_eq_true rfl) (Nat.le_of_ble_eq_true rfl) (Nat.le_of_ble_eq_true rfl) (Nat.le_of_ble_eq_true rfl))))
theorem x80_26 {x1 : Int32} {x2 : Int32} {x3 : Int32} {x4 : Int32} {x5 : Int32} {v6 : Value} {xs0 : Int32} : wp Ln xs 80 26 [.ref 1, .int x1, .int x2, .int x3, .int x4, .int x5, v6] [.int xs0] (u, ml_h m lm) Φ = if xs0 < x1 then wp Ln xs 80 45 [.ref 1, .int x1, .int x2, .int x3, .int x4, .int x5, v6] [] (u, ml_h m lm) Φ else wp Ln xs 80 30 [.ref 1, .int x1, .int x2, .int x3, .int x4, .int x5, v6] [] (u, ml_h m lm) Φ := (wp_same xd80_26 (Or.inr rfl) rfl).trans (wx_icmp xd80_27 rfl rfl (xs0 < x1) mb_lt)
theorem x80_30 {x1 : Int32} {x2 : Int32} {x3 : Int32} {x4 : Int32} {x5 : Int32} {v6 : Value} : wp Ln xs 80 30 [.ref 1, .int x1, .int x2, .int x3, .int x4, .int x5, v6] [] (u, ml_h m lm) Φ = wp Ln xs 72 0 [.ref 1, .int x5, .int (nI 0)] [] (u, ml_h m lm) (mk Ln xs 80 34 [.ref 1, .int x1, .int x2, .int x3, .int x4, .int x5, v6] [] Φ) := (wp_same xd80_30 (Or.inr rfl) rfl).trans ((wp_same xd80_31 (Or.inr rfl) rfl).trans ((wp_same (S' := [.int (nI 0), .int x5, .ref 1]) xd80_33 (Or.inr rfl) rfl).trans (wm_cv (As := [.int x5, .int (nI 0)]) (rest := []) xd80_34 rfl rfl (show ml_L[1]? = _ from rfl) (Nat.le_of_ble_eq_true rfl) (Nat.le_of_ble_eq_true rfl) (Nat.le_of_ble_eq_true rfl) (Nat.le_of_ble_eq_true rfl))))
theorem x80_37 {x1 : Int32} {x2 : Int32} {x3 : Int32} {x4 : Int32} {x5 : Int32} {v6 : Value} {xs0 : Int32} : wp Ln xs 80 37 [.ref 1, .int x1, .int x2, .int x3, .int x4, .int x5, v6] [.int xs0] (u, ml_h m lm) Φ = if x2 < xs0 then wp Ln xs 80 45 [.ref 1, .int x1, .int x2, .int x3, .int x4, .int x5, v6] [] (u, ml_h m lm) Φ else wp Ln xs 80 41 [.ref 1, .int x1, .int x2, .int x3, .int x4, .int x5, v6] [] (u, ml_h m lm) Φ := (wp_same xd80_37 (Or.inr rfl) rfl).trans (wx_icmp xd80_38 rfl rfl (x2 < xs0) mb_gt)
theorem x80_41 {x1 : Int32} {x2 : Int32} {x3 : Int32} {x4 : Int32} {x5 : Int32} {v6 : Value} : wp Ln xs 80 41 [.ref 1, .int x1, .int x2, .int x3, .int x4, .int x5, v6] [] (u, ml_h m lm) Φ = wp Ln xs 80 46 [.ref 1, .int x1, .int x2, .int x3, .int x4, .int x5, v6] [.int (nI 1)] (u, ml_h m lm) Φ := (wp_same (S' := [.int (nI 1)]) xd80_41 (Or.inr rfl) rfl).trans (wx_goto xd80_42 rfl)
theorem x80_45 {x1 : Int32} {x2 : Int32} {x3 : Int32} {x4 : Int32} {x5 : Int32} {v6 : Value} : wp Ln xs 80 45 [.ref 1, .int x1, .int x2, .int x3, .int x4, .int x5, v6] [] (u, ml_h m lm) Φ = wp Ln xs 80 46 [.ref 1, .int x1, .int x2, .int x3, .int x4, .int x5, v6] [.int (nI 0)] (u, ml_h m lm) Φ := wp_same (S' := [.int (nI 0)]) xd80_45 (Or.inr rfl) rfl
theorem x80_46 {x1 : Int32} {x2 : Int32} {x3 : Int32} {x4 : Int32} {x5 : Int32} {v6 : Value} {xs0 : Int32} : wp Ln xs 80 46 [.ref 1, .int x1, .int x2, .int x3, .int x4, .int x5, v6] [.int xs0] (u, ml_h m lm) Φ = if xs0 = (nI 0) then wp Ln xs 80 58 [.ref 1, .int x1, .int x2, .int x3, .int x4, .int x5, .int xs0] [.int x3] (u, ml_h m lm) Φ else wp Ln xs 80 54 [.ref 1, .int x1, .int x2, .int x3, .int x4, .int x5, .int xs0] [.int x3] (u, ml_h m lm) Φ := (wp_same (L' := [.ref 1, .int x1, .int x2, .int x3, .int x4, .int x5, .int xs0]) xd80_46 (Or.inr rfl) rfl).trans ((wp_same xd80_48 (Or.inr rfl) rfl).trans ((wp_same xd80_49 (Or.inr rfl) rfl).trans (wx_if xd80_51 rfl rfl (xs0 = (nI 0)) mb_eq)))
theorem x80_54 {x1 : Int32} {x2 : Int32} {x3 : Int32} {x4 : Int32} {x5 : Int32} {x6 : Int32} {xs0 : Int32} : wp Ln xs 80 54 [.ref 1, .int x1, .int x2, .int x3, .int x4, .int x5, .int x6] [.int xs0] (u, ml_h m lm) Φ = wp Ln xs 80 59 [.ref 1, .int x1, .int x2, .int x3, .int x4, .int x5, .int x6] [.int (nI 1), .int xs0] (u, ml_h m lm) Φ := (wp_same (S' := [.int (nI 1), .int xs0]) xd80_54 (Or.inr rfl) rfl).trans (wx_goto xd80_55 rfl)
theorem x80_58 {x1 : Int32} {x2 : Int32} {x3 : Int32} {x4 : Int32} {x5 : Int32} {x6 : Int32} {xs0 : Int32} : wp Ln xs 80 58 [.ref 1, .int x1, .int x2, .int x3, .int x4, .int x5, .int x6] [.int xs0] (u, ml_h m lm) Φ = wp Ln xs 80 59 [.ref 1, .int x1, .int x2, .int x3, .int x4, .int x5, .int x6] [.int (nI 0), .int xs0] (u, ml_h m lm) Φ := wp_same (S' := [.int (nI 0), .int xs0]) xd80_58 (Or.inr rfl) rfl
theorem x80_59 {x1 : Int32} {x2 : Int32} {x3 : Int32} {x4 : Int32} {x5 : Int32} {x6 : Int32} {xs0 : Int32} {xs1 : Int32} : wp Ln xs 80 59 [.ref 1, .int x1, .int x2, .int x3, .int x4, .int x5, .int x6] [.int xs0, .int xs1] (u, ml_h m lm) Φ = if x6 = (nI 0) then wp Ln xs 80 71 [.ref 1, .int x1, .int x2, .int (xs1 + xs0), .int x4, .int x5, .int x6] [] (u, ml_h m lm) Φ else wp Ln xs 80 66 [.ref 1, .int x1, .int x2, .int (xs1 + xs0), .int x4, .int x5, .int x6] [] (u, ml_h m lm) Φ := (wp_same xd80_59 (Or.inr rfl) rfl).trans ((wp_same (L' := [.ref 1, .int x1, .int x2, .int (xs1 + xs0), .int x4, .int x5, .int x6]) xd80_60 (Or.inr rfl) rfl).trans ((wp_same xd80_61 (Or.inr rfl) rfl).trans (wx_if xd80_63 rfl rfl (x6 = (nI 0)) mb_eq)))
theorem x80_66 {x1 : Int32} {x2 : Int32} {x3 : Int32} {x4 : Int32} {x5 : Int32} {x6 : Int32} : wp Ln xs 80 66 [.ref 1, .int x1, .int x2, .int x3, .int x4, .int x5, .int x6] [] (u, ml_h m lm) Φ = wp Ln xs 80 73 [.ref 1, .int x1, .int x2, .int x3, .int x4, .int x5, .int x6] [.int x5] (u, ml_h m lm) Φ := (wp_same xd80_66 (Or.inr rfl) rfl).trans (wx_goto xd80_68 rfl)
theorem x80_71 {x1 : Int32} {x2 : Int32} {x3 : Int32} {x4 : Int32} {x5 : Int32} {x6 : Int32} : wp Ln xs 80 71 [.ref 1, .int x1, .int x2, .int x3, .int x4, .int x5, .int x6] [] (u, ml_h m lm) Φ = wp Ln xs 80 73 [.ref 1, .int x1, .int x2, .int x3, .int x4, .int x5, .int x6] [.int x4] (u, ml_h m lm) Φ := wp_same xd80_71 (Or.inr rfl) rfl
theorem x80_73 {x1 : Int32} {x2 : Int32} {x3 : Int32} {x4 : Int32} {x5 : Int32} {x6 : Int32} {xs0 : Int32} : wp Ln xs 80 73 [.ref 1, .int x1, .int x2, .int x3, .int x4, .int x5, .int x6] [.int xs0] (u, ml_h m lm) Φ = wp Ln xs 80 14 [.ref 1, .int x1, .int x2, .int x3, .int xs0, .int (x5 + (-1)), .int x6] [] (u, ml_h m lm) Φ := (wp_same (L' := [.ref 1, .int x1, .int x2, .int x3, .int xs0, .int x5, .int x6]) xd80_73 (Or.inr rfl) rfl).trans ((wp_same (L' := [.ref 1, .int x1, .int x2, .int x3, .int xs0, .int (x5 + (-1)), .int x6]) xd80_75 (Or.inr rfl) rfl).trans (wx_goto xd80_78 rfl))
theorem x80_81 {x1 : Int32} {x2 : Int32} {x3 : Int32} {x4 : Int32} {x5 : Int32} {v6 : Value} : wp Ln xs 80 81 [.ref 1, .int x1, .int x2, .int x3, .int x4, .int x5, v6] [] (u, ml_h m lm) Φ = wp Ln xs 81 0 [.ref 1, .int x1, .int x2, .int (nI 0)] [] (u, ml_h m lm) (mk Ln xs 80 85 [.ref 1, .int x1, .int x2, .int x3, .int x4, .int x5, v6] [] Φ) := (wp_same xd80_81 (Or.inr rfl) rfl).trans ((wp_same xd80_82 (Or.inr rfl) rfl).trans ((wp_same xd80_83 (Or.inr rfl) rfl).trans ((wp_same (S' := [.int (nI 0), .int x2, .int x1, .ref 1]) xd80_84 (Or.inr rfl) rfl).trans (wm_cv (As := [.int x1, .int x2, .int (nI 0)]) (rest := []) xd80_85 rfl rfl (show ml_L[1]? = _ from rfl) (Nat.le_of_ble_eq_true rfl) (Nat.le_of_ble_eq_true rfl) (Nat.le_of_ble_eq_true rfl) (Nat.le_of_ble_eq_true rfl)))))
theorem x80_88 {x1 : Int32} {x2 : Int32} {x3 : Int32} {x4 : Int32} {x5 : Int32} {v6 : Value} {xs0 : Int32} : wp Ln xs 80 88 [.ref 1, .int x1, .int x2, .int x3, .int x4, .int x5, v6] [.int xs0] (u, ml_h m lm) Φ = if ¬ xs0 = x3 then wp Ln xs 80 164 [.ref 1, .int x1, .int x2, .int x3, .int x4, .int x5, v6] [] (u, ml_h m lm) Φ else wp Ln xs 80 92 [.ref 1, .int x1, .int x2, .int x3, .int x4, .int x5, v6] [] (u, ml_h m lm) Φ := (wp_same xd80_88 (Or.inr rfl) rfl).trans (wx_icmp xd80_89 rfl rfl (¬ xs0 = x3) mb_ne)
theorem x80_92 {x1 : Int32} {x2 : Int32} {x3 : Int32} {x4 : Int32} {x5 : Int32} {v6 : Value} : wp Ln xs 80 92 [.ref 1, .int x1, .int x2, .int x3, .int x4, .int x5, v6] [] (u, ml_h m lm) Φ = wp Ln xs 81 0 [.ref 1, .int x1, .int x2, .int (nI 1)] [] (u, ml_h m lm) (mk Ln xs 80 96 [.ref 1, .int x1, .int x2, .int x3, .int x4, .int x5, v6] [] Φ) := (wp_same xd80_92 (Or.inr rfl) rfl).trans ((wp_same xd80_93 (Or.inr rfl) rfl).trans ((wp_same xd80_94 (Or.inr rfl) rfl).trans ((wp_same (S' := [.int (nI 1), .int x2, .int x1, .ref 1]) xd80_95 (Or.inr rfl) rfl).trans (wm_cv (As := [.int x1, .int x2, .int (nI 1)]) (rest := []) xd80_96 rfl rfl (show ml_L[1]? = _ from rfl) (Nat.le_of_ble_eq_true rfl) (Nat.le_of_ble_eq_true rfl) (Nat.le_of_ble_eq_true rfl) (Nat.le_of_ble_eq_true rfl)))))
theorem x80_99 {x1 : Int32} {x2 : Int32} {x3 : Int32} {x4 : Int32} {x5 : Int32} {v6 : Value} {xs0 : Int32} : wp Ln xs 80 99 [.ref 1, .int x1, .int x2, .int x3, .int x4, .int x5, v6] [.int xs0] (u, ml_h m lm) Φ = if ¬ xs0 = x3 then wp Ln xs 80 164 [.ref 1, .int x1, .int x2, .int x3, .int x4, .int x5, v6] [] (u, ml_h m lm) Φ else wp Ln xs 80 103 [.ref 1, .int x1, .int x2, .int x3, .int x4, .int x5, v6] [] (u, ml_h m lm) Φ := (wp_same xd80_99 (Or.inr rfl) rfl).trans (wx_icmp xd80_100 rfl rfl (¬ xs0 = x3) mb_ne)
theorem x80_103 {x1 : Int32} {x2 : Int32} {x3 : Int32} {x4 : Int32} {x5 : Int32} {v6 : Value} : wp Ln xs 80 103 [.ref 1, .int x1, .int x2, .int x3, .int x4, .int x5, v6] [] (u, ml_h m lm) Φ = wp Ln xs 81 0 [.ref 1, .int x1, .int x2, .int (nI 3)] [] (u, ml_h m lm) (mk Ln xs 80 107 [.ref 1, .int x1, .int x2, .int x3, .int x4, .int x5, v6] [] Φ) := (wp_same xd80_103 (Or.inr rfl) rfl).trans ((wp_same xd80_104 (Or.inr rfl) rfl).trans ((wp_same xd80_105 (Or.inr rfl) rfl).trans ((wp_same (S' := [.int (nI 3), .int x2, .int x1, .ref 1]) xd80_106 (Or.inr rfl) rfl).trans (wm_cv (As := [.int x1, .int x2, .int (nI 3)]) (rest := []) xd80_107 rfl rfl (show ml_L[1]? = _ from rfl) (Nat.le_of_ble_eq_true rfl) (Nat.le_of_ble_eq_true rfl) (Nat.le_of_ble_eq_true rfl) (Nat.le_of_ble_eq_true rfl)))))
theorem x80_110 {x1 : Int32} {x2 : Int32} {x3 : Int32} {x4 : Int32} {x5 : Int32} {v6 : Value} {xs0 : Int32} : wp Ln xs 80 110 [.ref 1, .int x1, .int x2, .int x3, .int x4, .int x5, v6] [.int xs0] (u, ml_h m lm) Φ = if ¬ xs0 = x4 then wp Ln xs 80 164 [.ref 1, .int x1, .int x2, .int x3, .int x4, .int x5, v6] [] (u, ml_h m lm) Φ else wp Ln xs 80 115 [.ref 1, .int x1, .int x2, .int x3, .int x4, .int x5, v6] [] (u, ml_h m lm) Φ := (wp_same xd80_110 (Or.inr rfl) rfl).trans (wx_icmp xd80_112 rfl rfl (¬ xs0 = x4) mb_ne)
theorem x80_115 {x1 : Int32} {x2 : Int32} {x3 : Int32} {x4 : Int32} {x5 : Int32} {v6 : Value} : wp Ln xs 80 115 [.ref 1, .int x1, .int x2, .int x3, .int x4, .int x5, v6] [] (u, ml_h m lm) Φ = wp Ln xs 81 0 [.ref 1, .int x1, .int x2, .int (nI 2)] [] (u, ml_h m lm) (mk Ln xs 80 119 [.ref 1, .int x1, .int x2, .int x3, .int x4, .int x5, v6] [] Φ) := (wp_same xd80_115 (Or.inr rfl) rfl).trans ((wp_same xd80_116 (Or.inr rfl) rfl).trans ((wp_same xd80_117 (Or.inr rfl) rfl).trans ((wp_same (S' := [.int (nI 2), .int x2, .int x1, .ref 1]) xd80_118 (Or.inr rfl) rfl).trans (wm_cv (As := [.int x1, .int x2, .int (nI 2)]) (rest := []) xd80_119 rfl rfl (show ml_L[1]? = _ from rfl) (Nat.le_of_ble_eq_true rfl) (Nat.le_of_ble_eq_true rfl) (Nat.le_of_ble_eq_true rfl) (Nat.le_of_ble_eq_true rfl)))))
theorem x80_122 {x1 : Int32} {x2 : Int32} {x3 : Int32} {x4 : Int32} {x5 : Int32} {v6 : Value} {xs0 : Int32} : wp Ln xs 80 122 [.ref 1, .int x1, .int x2, .int x3, .int x4, .int x5, v6] [.int xs0] (u, ml_h m lm) Φ = wp Ln xs 34 0 [.ref 1, .int (nI 1)] [] (u, ml_h m lm) (mk Ln xs 80 124 [.ref 1, .int x1, .int x2, .int x3, .int x4, .int x5, v6] [.int xs0] Φ) := (wp_same xd80_122 (Or.inr rfl) rfl).trans ((wp_same (S' := [.int (nI 1), .ref 1, .int xs0]) xd80_123 (Or.inr rfl) rfl).trans (wm_cv (As := [.int (nI 1)]) (rest := [.int xs0]) xd80_124 rfl rfl (show ml_L[1]? = _ from rfl) (Nat.le_of_ble_eq_true rfl) (Nat.le_of_ble_eq_true rfl) (Nat.le_of_ble_eq_true rfl) (Nat.le_of_ble_eq_true rfl)))
theorem x80_127 {x1 : Int32} {x2 : Int32} {x3 : Int32} {x4 : Int32} {x5 : Int32} {v6 : Value} {xs0 : Int32} {xs1 : Int32} : wp Ln xs 80 127 [.ref 1, .int x1, .int x2, .int x3, .int x4, .int x5, v6] [.int xs0, .int xs1] (u, ml_h m lm) Φ = wp Ln xs 34 0 [.ref 1, .int (nI 2)] [] (u, ml_h m lm) (mk Ln xs 80 129 [.ref 1, .int x1, .int x2, .int x3, .int x4, .int x5, v6] [.int xs0, .int xs1] Φ) := (wp_same xd80_127 (Or.inr rfl) rfl).trans ((wp_same (S' := [.int (nI 2), .ref 1, .int xs0, .int xs1]) xd80_128 (Or.inr rfl) rfl).trans (wm_cv (As := [.int (nI 2)]) (rest := [.int xs0, .int xs1]) xd80_129 rfl rfl (show ml_L[1]? = _ from rfl) (Nat.le_of_ble_eq_true rfl) (Nat.le_of_ble_eq_true rfl) (Nat.le_of_ble_eq_true rfl) (Nat.le_of_ble_eq_true rfl)))
theorem x80_132 {x1 : Int32} {x2 : Int32} {x3 : Int32} {x4 : Int32} {x5 : Int32} {v6 : Value} {xs0 : Int32} {xs1 : Int32} {xs2 : Int32} : wp Ln xs 80 132 [.ref 1, .int x1, .int x2, .int x3, .int x4, .int x5, v6] [.int xs0, .int xs1, .int xs2] (u, ml_h m lm) Φ = if xs2 < (xs1 + xs0) then wp Ln xs 80 164 [.ref 1, .int x1, .int x2, .int x3, .int x4, .int x5, v6] [] (u, ml_h m lm) Φ else wp Ln xs 80 136 [.ref 1, .int x1, .int x2, .int x3, .int x4, .int x5, v6] [] (u, ml_h m lm) Φ := (wp_same xd80_132 (Or.inr rfl) rfl).trans (wx_icmp xd80_133 rfl rfl (xs2 < (xs1 + xs0)) mb_lt)
theorem x80_136 {x1 : Int32} {x2 : Int32} {x3 : Int32} {x4 : Int32} {x5 : Int32} {v6 : Value} : wp Ln xs 80 136 [.ref 1, .int x1, .int x2, .int x3, .int x4, .int x5, v6] [] (u, ml_h m lm) Φ = wp Ln xs 81 0 [.ref 1, .int x1, .int x2, .int (nI 2)] [] (u, ml_h m lm) (mk Ln xs 80 140 [.ref 1, .int x1, .int x2, .int x3, .int x4, .int x5, v6] [] Φ) := (wp_same xd80_136 (Or.inr rfl) rfl).trans ((wp_same xd80_137 (Or.inr rfl) rfl).trans ((wp_same xd80_138 (Or.inr rfl) rfl).trans ((wp_same (S' := [.int (nI 2), .int x2, .int x1, .ref 1]) xd80_139 (Or.inr rfl) rfl).trans (wm_cv (As := [.int x1, .int x2, .int (nI 2)]) (rest := []) xd80_140 rfl rfl (show ml_L[1]? = _ from rfl) (Nat.le_of_ble_eq_true rfl) (Nat.le_of_ble_eq_true rfl) (Nat.le_of_ble_eq_true rfl) (Nat.le_of_ble_eq_true rfl)))))
theorem x80_143 {x1 : Int32} {x2 : Int32} {x3 : Int32} {x4 : Int32} {x5 : Int32} {v6 : Value} {xs0 : Int32} : wp Ln xs 80 143 [.ref 1, .int x1, .int x2, .int x3, .int x4, .int x5, v6] [.int xs0] (u, ml_h m lm) Φ = wp Ln xs 34 0 [.ref 1, .int (nI 0)] [] (u, ml_h m lm) (mk Ln xs 80 145 [.ref 1, .int x1, .int x2, .int x3, .int x4, .int x5, v6] [.int xs0] Φ) := (wp_same xd80_143 (Or.inr rfl) rfl).trans ((wp_same (S' := [.int (nI 0), .ref 1, .int xs0]) xd80_144 (Or.inr rfl) rfl).trans (wm_cv (As := [.int (nI 0)]) (rest := [.int xs0]) xd80_145 rfl rfl (show ml_L[1]? = _ from rfl) (Nat.le_of_ble_eq_true rfl) (Nat.le_of_ble_eq_true rfl) (Nat.le_of_ble_eq_true rfl) (Nat.le_of_ble_eq_true rfl)))
theorem x80_148 {x1 : Int32} {x2 : Int32} {x3 : Int32} {x4 : Int32} {x5 : Int32} {v6 : Value} {xs0 : Int32} {xs1 : Int32} : wp Ln xs 80 148 [.ref 1, .int x1, .int x2, .int x3, .int x4, .int x5, v6] [.int xs0, .int xs1] (u, ml_h m lm) Φ = wp Ln xs 34 0 [.ref 1, .int (nI 1)] [] (u, ml_h m lm) (mk Ln xs 80 152 [.ref 1, .int x1, .int x2, .int x3, .int x4, .int x5, v6] [.int (nI 17), .int xs0, .int xs1] Φ) := (wp_same (S' := [.int (nI 17), .int xs0, .int xs1]) xd80_148 (Or.inr rfl) rfl).trans ((wp_same xd80_150 (Or.inr rfl) rfl).trans ((wp_same (S' := [.int (nI 1), .ref 1, .int (nI 17), .int xs0, .int xs1]) xd80_151 (Or.inr rfl) rfl).trans (wm_cv (As := [.int (nI 1)]) (rest := [.int (nI 17), .int xs0, .int xs1]) xd80_152 rfl rfl (show ml_L[1]? = _ from rfl) (Nat.le_of_ble_eq_true rfl) (Nat.le_of_ble_eq_true rfl) (Nat.le_of_ble_eq_true rfl) (Nat.le_of_ble_eq_true rfl))))
theorem x80_155 {x1 : Int32} {x2 : Int32} {x3 : Int32} {x4 : Int32} {x5 : Int32} {v6 : Value} {xs0 : Int32} {xs1 : Int32} {xs2 : Int32} {xs3 : Int32} : wp Ln xs 80 155 [.ref 1, .int x1, .int x2, .int x3, .int x4, .int x5, v6] [.int xs0, .int xs1, .int xs2, .int xs3] (u, ml_h m lm) Φ = if (xs2 + (xs1 * xs0)) < xs3 then wp Ln xs 80 164 [.ref 1, .int x1, .int x2, .int x3, .int x4, .int x5, v6] [] (u, ml_h m lm) Φ else wp Ln xs 80 160 [.ref 1, .int x1, .int x2, .int x3, .int x4, .int x5, v6] [] (u, ml_h m lm) Φ := (wp_same xd80_155 (Or.inr rfl) rfl).trans ((wp_same xd80_156 (Or.inr rfl) rfl).trans (wx_icmp xd80_157 rfl rfl ((xs2 + (xs1 * xs0)) < xs3) mb_gt))
theorem x80_160 {x1 : Int32} {x2 : Int32} {x3 : Int32} {x4 : Int32} {x5 : Int32} {v6 : Value} : wp Ln xs 80 160 [.ref 1, .int x1, .int x2, .int x3, .int x4, .int x5, v6] [] (u, ml_h m lm) Φ = Φ (.inl (some (.int (nI 1)))) (u, ml_h m lm) := (wp_same (S' := [.int (nI 1)]) xd80_160 (Or.inr rfl) rfl).trans ((wx_goto xd80_161 rfl).trans (wp_fin (v := some (.int (nI 1))) xd80_165 (Or.inr rfl) rfl rfl))
theorem x80_164 {x1 : Int32} {x2 : Int32} {x3 : Int32} {x4 : Int32} {x5 : Int32} {v6 : Value} : wp Ln xs 80 164 [.ref 1, .int x1, .int x2, .int x3, .int x4, .int x5, v6] [] (u, ml_h m lm) Φ = Φ (.inl (some (.int (nI 0)))) (u, ml_h m lm) := (wp_same (S' := [.int (nI 0)]) xd80_164 (Or.inr rfl) rfl).trans (wp_fin (v := some (.int (nI 0))) xd80_165 (Or.inr rfl) rfl rfl)
/- PickedForms.match -/
theorem xd81_0 : decode (mj_b 81) 0 = .ok (.iload_n 1, 1) := by decide +kernel
theorem xd81_1 : decode (mj_b 81) 1 = .ok (.invokestatic 76, 3) := by decide +kernel
theorem xd81_4 : decode (mj_b 81) 4 = .ok (.ifCond .eq 19, 3) := by decide +kernel
theorem xd81_7 : decode (mj_b 81) 7 = .ok (.iload_n 2, 1) := by decide +kernel
theorem xd81_8 : decode (mj_b 81) 8 = .ok (.invokestatic 76, 3) := by decide +kernel
theorem xd81_11 : decode (mj_b 81) 11 = .ok (.ifCond .eq 12, 3) := by decide +kernel
theorem xd81_14 : decode (mj_b 81) 14 = .ok (.iload_n 3, 1) := by decide +kernel
theorem xd81_15 : decode (mj_b 81) 15 = .ok (.ifCond .lt 8, 3) := by decide +kernel
theorem xd81_18 : decode (mj_b 81) 18 = .ok (.iload_n 3, 1) := by decide +kernel
theorem xd81_19 : decode (mj_b 81) 19 = .ok (.iconst 3, 1) := by decide +kernel
theorem xd81_20 : decode (mj_b 81) 20 = .ok (.if_icmp .le 14, 3) := by decide +kernel
theorem xd81_23 : decode (mj_b 81) 23 = .ok (.new 80, 3) := by decide +kernel
theorem xd81_34 : decode (mj_b 81) 34 = .ok (.aload_n 0, 1) := by decide +kernel
theorem xd81_35 : decode (mj_b 81) 35 = .ok (.iload_n 1, 1) := by decide +kernel
theorem xd81_36 : decode (mj_b 81) 36 = .ok (.iload_n 2, 1) := by decide +kernel
theorem xd81_37 : decode (mj_b 81) 37 = .ok (.iload_n 3, 1) := by decide +kernel
theorem xd81_38 : decode (mj_b 81) 38 = .ok (.invokevirtual 287, 3) := by decide +kernel
theorem xd81_41 : decode (mj_b 81) 41 = .ok (.ireturn, 1) := by decide +kernel
theorem x81_0 {x1 : Int32} {x2 : Int32} {x3 : Int32} : wp Ln xs 81 0 [.ref 1, .int x1, .int x2, .int x3] [] (u, ml_h m lm) Φ = wp Ln xs 82 0 [.int x1] [] (u, ml_h m lm) (mk Ln xs 81 1 [.ref 1, .int x1, .int x2, .int x3] [] Φ) := (wp_same xd81_0 (Or.inr rfl) rfl).trans (wm_cs (As := [.int x1]) (rest := []) xd81_1 rfl rfl (Nat.le_of_ble_eq_true rfl) (Nat.le_of_ble_eq_true rfl) (Nat.le_of_ble_eq_true rfl) (Nat.le_of_ble_eq_true rfl))
theorem x81_4 {x1 : Int32} {x2 : Int32} {x3 : Int32} {xs0 : Int32} : wp Ln xs 81 4 [.ref 1, .int x1, .int x2, .int x3] [.int xs0] (u, ml_h m lm) Φ = if xs0 = (nI 0) then wp Ln xs 81 23 [.ref 1, .int x1, .int x2, .int x3] [] (u, ml_h m lm) Φ else wp Ln xs 81 7 [.ref 1, .int x1, .int x2, .int x3] [] (u, ml_h m lm) Φ := wx_if xd81_4 rfl rfl (xs0 = (nI 0)) mb_eq
theorem x81_7 {x1 : Int32} {x2 : Int32} {x3 : Int32} : wp Ln xs 81 7 [.ref 1, .int x1, .int x2, .int x3] [] (u, ml_h m lm) Φ = wp Ln xs 82 0 [.int x2] [] (u, ml_h m lm) (mk Ln xs 81 8 [.ref 1, .int x1, .int x2, .int x3] [] Φ) := (wp_same xd81_7 (Or.inr rfl) rfl).trans (wm_cs (As := [.int x2]) (rest := []) xd81_8 rfl rfl (Nat.le_of_ble_eq_true rfl) (Nat.le_of_ble_eq_true rfl) (Nat.le_of_ble_eq_true rfl) (Nat.le_of_ble_eq_true rfl))
theorem x81_11 {x1 : Int32} {x2 : Int32} {x3 : Int32} {xs0 : Int32} : wp Ln xs 81 11 [.ref 1, .int x1, .int x2, .int x3] [.int xs0] (u, ml_h m lm) Φ = if xs0 = (nI 0) then wp Ln xs 81 23 [.ref 1, .int x1, .int x2, .int x3] [] (u, ml_h m lm) Φ else wp Ln xs 81 14 [.ref 1, .int x1, .int x2, .int x3] [] (u, ml_h m lm) Φ := wx_if xd81_11 rfl rfl (xs0 = (nI 0)) mb_eq
theorem x81_14 {x1 : Int32} {x2 : Int32} {x3 : Int32} : wp Ln xs 81 14 [.ref 1, .int x1, .int x2, .int x3] [] (u, ml_h m lm) Φ = if x3 < (nI 0) then wp Ln xs 81 23 [.ref 1, .int x1, .int x2, .int x3] [] (u, ml_h m lm) Φ else wp Ln xs 81 18 [.ref 1, .int x1, .int x2, .int x3] [] (u, ml_h m lm) Φ := (wp_same xd81_14 (Or.inr rfl) rfl).trans (wx_if xd81_15 rfl rfl (x3 < (nI 0)) mb_lt)
theorem x81_18 {x1 : Int32} {x2 : Int32} {x3 : Int32} : wp Ln xs 81 18 [.ref 1, .int x1, .int x2, .int x3] [] (u, ml_h m lm) Φ = if x3 ≤ (nI 3) then wp Ln xs 81 34 [.ref 1, .int x1, .int x2, .int x3] [] (u, ml_h m lm) Φ else wp Ln xs 81 23 [.ref 1, .int x1, .int x2, .int x3] [] (u, ml_h m lm) Φ := (wp_same xd81_18 (Or.inr rfl) rfl).trans ((wp_same (S' := [.int (nI 3), .int x3]) xd81_19 (Or.inr rfl) rfl).trans (wx_icmp xd81_20 rfl rfl (x3 ≤ (nI 3)) mb_le))
theorem x81_23 {x1 : Int32} {x2 : Int32} {x3 : Int32} : wp Ln xs 81 23 [.ref 1, .int x1, .int x2, .int x3] [] (u, ml_h m lm) Φ = Φ (.inr 0) ((u.1, u.2.1 + 1, u.2.2 + 6), ml_h m lm) := wp_thr xd81_23 (Or.inr rfl) rfl rfl (E := 0) (by decide +kernel)
theorem x81_34 {x1 : Int32} {x2 : Int32} {x3 : Int32} : wp Ln xs 81 34 [.ref 1, .int x1, .int x2, .int x3] [] (u, ml_h m lm) Φ = wp Ln xs 83 0 [.ref 1, .int x1, .int x2, .int x3] [] (u, ml_h m lm) (mk Ln xs 81 38 [.ref 1, .int x1, .int x2, .int x3] [] Φ) := (wp_same xd81_34 (Or.inr rfl) rfl).trans ((wp_same xd81_35 (Or.inr rfl) rfl).trans ((wp_same xd81_36 (Or.inr rfl) rfl).trans ((wp_same xd81_37 (Or.inr rfl) rfl).trans (wm_cv (As := [.int x1, .int x2, .int x3]) (rest := []) xd81_38 rfl rfl (show ml_L[1]? = _ from rfl) (Nat.le_of_ble_eq_true rfl) (Nat.le_of_ble_eq_true rfl) (Nat.le_of_ble_eq_true rfl) (Nat.le_of_ble_eq_true rfl)))))
theorem x81_41 {x1 : Int32} {x2 : Int32} {x3 : Int32} {xs0 : Int32} : wp Ln xs 81 41 [.ref 1, .int x1, .int x2, .int x3] [.int xs0] (u, ml_h m lm) Φ = Φ (.inl (some (.int xs0))) (u, ml_h m lm) := wp_fin (v := some (.int xs0)) xd81_41 (Or.inr rfl) rfl (mj_fin_i rfl)
/- PickedForms.isValue -/
theorem xd82_0 : decode (mj_b 82) 0 = .ok (.iload_n 0, 1) := by decide +kernel
theorem xd82_1 : decode (mj_b 82) 1 = .ok (.ifCond .lt 14, 3) := by decide +kernel
theorem xd82_4 : decode (mj_b 82) 4 = .ok (.iload_n 0, 1) := by decide +kernel
theorem xd82_5 : decode (mj_b 82) 5 = .ok (.sipush 999, 3) := by decide +kernel
theorem xd82_8 : decode (mj_b 82) 8 = .ok (.if_icmp .gt 7, 3) := by decide +kernel
theorem xd82_11 : decode (mj_b 82) 11 = .ok (.iconst 1, 1) := by decide +kernel
theorem xd82_12 : decode (mj_b 82) 12 = .ok (.goto 4, 3) := by decide +kernel
theorem xd82_15 : decode (mj_b 82) 15 = .ok (.iconst 0, 1) := by decide +kernel
theorem xd82_16 : decode (mj_b 82) 16 = .ok (.ireturn, 1) := by decide +kernel
theorem x82_0 {x0 : Int32} : wp Ln xs 82 0 [.int x0] [] (u, ml_h m lm) Φ = if x0 < (nI 0) then wp Ln xs 82 15 [.int x0] [] (u, ml_h m lm) Φ else wp Ln xs 82 4 [.int x0] [] (u, ml_h m lm) Φ := (wp_same xd82_0 (Or.inr rfl) rfl).trans (wx_if xd82_1 rfl rfl (x0 < (nI 0)) mb_lt)
theorem x82_4 {x0 : Int32} : wp Ln xs 82 4 [.int x0] [] (u, ml_h m lm) Φ = if (nI 999) < x0 then wp Ln xs 82 15 [.int x0] [] (u, ml_h m lm) Φ else wp Ln xs 82 11 [.int x0] [] (u, ml_h m lm) Φ := (wp_same xd82_4 (Or.inr rfl) rfl).trans ((wp_same (S' := [.int (nI 999), .int x0]) xd82_5 (Or.inr rfl) rfl).trans (wx_icmp xd82_8 rfl rfl ((nI 999) < x0) mb_gt))
theorem x82_11 {x0 : Int32} : wp Ln xs 82 11 [.int x0] [] (u, ml_h m lm) Φ = Φ (.inl (some (.int (nI 1)))) (u, ml_h m lm) := (wp_same (S' := [.int (nI 1)]) xd82_11 (Or.inr rfl) rfl).trans ((wx_goto xd82_12 rfl).trans (wp_fin (v := some (.int (nI 1))) xd82_16 (Or.inr rfl) rfl rfl))
theorem x82_15 {x0 : Int32} : wp Ln xs 82 15 [.int x0] [] (u, ml_h m lm) Φ = Φ (.inl (some (.int (nI 0)))) (u, ml_h m lm) := (wp_same (S' := [.int (nI 0)]) xd82_15 (Or.inr rfl) rfl).trans (wp_fin (v := some (.int (nI 0))) xd82_16 (Or.inr rfl) rfl rfl)
/- PickedForms.matchNumber -/
theorem xd83_0 : decode (mj_b 83) 0 = .ok (.iload_n 3, 1) := by decide +kernel
theorem xd83_1 : decode (mj_b 83) 1 = .ok (.tableswitch 83 0 2 #[27, 48, 62], 27) := by decide +kernel
theorem xd83_28 : decode (mj_b 83) 28 = .ok (.aload_n 0, 1) := by decide +kernel
theorem xd83_29 : decode (mj_b 83) 29 = .ok (.getfield 54, 3) := by decide +kernel
theorem xd83_32 : decode (mj_b 83) 32 = .ok (.aload_n 0, 1) := by decide +kernel
theorem xd83_33 : decode (mj_b 83) 33 = .ok (.getfield 12, 3) := by decide +kernel
theorem xd83_36 : decode (mj_b 83) 36 = .ok (.iload_n 1, 1) := by decide +kernel
theorem xd83_37 : decode (mj_b 83) 37 = .ok (.iload_n 2, 1) := by decide +kernel
theorem xd83_38 : decode (mj_b 83) 38 = .ok (.invokevirtual 410, 3) := by decide +kernel
theorem xd83_41 : decode (mj_b 83) 41 = .ok (.aload_n 0, 1) := by decide +kernel
theorem xd83_42 : decode (mj_b 83) 42 = .ok (.getfield 54, 3) := by decide +kernel
theorem xd83_45 : decode (mj_b 83) 45 = .ok (.getfield 414, 3) := by decide +kernel
theorem xd83_48 : decode (mj_b 83) 48 = .ok (.ireturn, 1) := by decide +kernel
theorem xd83_49 : decode (mj_b 83) 49 = .ok (.aload_n 0, 1) := by decide +kernel
theorem xd83_50 : decode (mj_b 83) 50 = .ok (.getfield 54, 3) := by decide +kernel
theorem xd83_53 : decode (mj_b 83) 53 = .ok (.aload_n 0, 1) := by decide +kernel
theorem xd83_54 : decode (mj_b 83) 54 = .ok (.getfield 12, 3) := by decide +kernel
theorem xd83_57 : decode (mj_b 83) 57 = .ok (.iload_n 1, 1) := by decide +kernel
theorem xd83_58 : decode (mj_b 83) 58 = .ok (.iload_n 2, 1) := by decide +kernel
theorem xd83_59 : decode (mj_b 83) 59 = .ok (.invokevirtual 417, 3) := by decide +kernel
theorem xd83_62 : decode (mj_b 83) 62 = .ok (.ireturn, 1) := by decide +kernel
theorem xd83_63 : decode (mj_b 83) 63 = .ok (.aload_n 0, 1) := by decide +kernel
theorem xd83_64 : decode (mj_b 83) 64 = .ok (.getfield 54, 3) := by decide +kernel
theorem xd83_67 : decode (mj_b 83) 67 = .ok (.aload_n 0, 1) := by decide +kernel
theorem xd83_68 : decode (mj_b 83) 68 = .ok (.getfield 12, 3) := by decide +kernel
theorem xd83_71 : decode (mj_b 83) 71 = .ok (.iload_n 1, 1) := by decide +kernel
theorem xd83_72 : decode (mj_b 83) 72 = .ok (.iload_n 2, 1) := by decide +kernel
theorem xd83_73 : decode (mj_b 83) 73 = .ok (.invokevirtual 410, 3) := by decide +kernel
theorem xd83_76 : decode (mj_b 83) 76 = .ok (.aload_n 0, 1) := by decide +kernel
theorem xd83_77 : decode (mj_b 83) 77 = .ok (.getfield 54, 3) := by decide +kernel
theorem xd83_80 : decode (mj_b 83) 80 = .ok (.getfield 421, 3) := by decide +kernel
theorem xd83_83 : decode (mj_b 83) 83 = .ok (.ireturn, 1) := by decide +kernel
theorem xd83_84 : decode (mj_b 83) 84 = .ok (.aload_n 0, 1) := by decide +kernel
theorem xd83_85 : decode (mj_b 83) 85 = .ok (.getfield 54, 3) := by decide +kernel
theorem xd83_88 : decode (mj_b 83) 88 = .ok (.aload_n 0, 1) := by decide +kernel
theorem xd83_89 : decode (mj_b 83) 89 = .ok (.getfield 12, 3) := by decide +kernel
theorem xd83_92 : decode (mj_b 83) 92 = .ok (.iload_n 1, 1) := by decide +kernel
theorem xd83_93 : decode (mj_b 83) 93 = .ok (.iload_n 2, 1) := by decide +kernel
theorem xd83_94 : decode (mj_b 83) 94 = .ok (.invokevirtual 424, 3) := by decide +kernel
theorem xd83_97 : decode (mj_b 83) 97 = .ok (.ireturn, 1) := by decide +kernel
theorem x83_0 {x1 : Int32} {x2 : Int32} {x3 : Int32} : wp Ln xs 83 0 [.ref 1, .int x1, .int x2, .int x3] [] (u, ml_h m lm) Φ = wp Ln xs 83 1 [.ref 1, .int x1, .int x2, .int x3] [.int x3] (u, ml_h m lm) Φ := wp_same xd83_0 (Or.inr rfl) rfl
theorem x83_1_0 {x1 : Int32} {x2 : Int32} {x3 : Int32} : wp Ln xs 83 1 [.ref 1, .int x1, .int x2, .int x3] [.int (nI 0)] (u, ml_h m lm) Φ = wp Ln xs 83 28 [.ref 1, .int x1, .int x2, .int x3] [] (u, ml_h m lm) Φ := wp_same xd83_1 (Or.inl rfl) rfl
theorem x83_1_1 {x1 : Int32} {x2 : Int32} {x3 : Int32} : wp Ln xs 83 1 [.ref 1, .int x1, .int x2, .int x3] [.int (nI 1)] (u, ml_h m lm) Φ = wp Ln xs 83 49 [.ref 1, .int x1, .int x2, .int x3] [] (u, ml_h m lm) Φ := wp_same xd83_1 (Or.inl rfl) rfl
theorem x83_1_2 {x1 : Int32} {x2 : Int32} {x3 : Int32} : wp Ln xs 83 1 [.ref 1, .int x1, .int x2, .int x3] [.int (nI 2)] (u, ml_h m lm) Φ = wp Ln xs 83 63 [.ref 1, .int x1, .int x2, .int x3] [] (u, ml_h m lm) Φ := wp_same xd83_1 (Or.inl rfl) rfl
theorem x83_1_3 {x1 : Int32} {x2 : Int32} {x3 : Int32} : wp Ln xs 83 1 [.ref 1, .int x1, .int x2, .int x3] [.int (nI 3)] (u, ml_h m lm) Φ = wp Ln xs 83 84 [.ref 1, .int x1, .int x2, .int x3] [] (u, ml_h m lm) Φ := wp_same xd83_1 (Or.inl rfl) rfl
theorem x83_1_4 {x1 : Int32} {x2 : Int32} {x3 : Int32} : wp Ln xs 83 1 [.ref 1, .int x1, .int x2, .int x3] [.int (nI 4)] (u, ml_h m lm) Φ = wp Ln xs 83 84 [.ref 1, .int x1, .int x2, .int x3] [] (u, ml_h m lm) Φ := wp_same xd83_1 (Or.inl rfl) rfl
theorem x83_1_5 {x1 : Int32} {x2 : Int32} {x3 : Int32} : wp Ln xs 83 1 [.ref 1, .int x1, .int x2, .int x3] [.int (nI 5)] (u, ml_h m lm) Φ = wp Ln xs 83 84 [.ref 1, .int x1, .int x2, .int x3] [] (u, ml_h m lm) Φ := wp_same xd83_1 (Or.inl rfl) rfl
theorem x83_28 {x1 : Int32} {x2 : Int32} {x3 : Int32} : wp Ln xs 83 28 [.ref 1, .int x1, .int x2, .int x3] [] (u, ml_h m lm) Φ = wp Ln xs 84 0 [.ref 61, .ref 2, .int x1, .int x2, mj_hole, mj_hole, mj_hole] [] (u, ml_h m lm) (mk Ln xs 83 38 [.ref 1, .int x1, .int x2, .int x3] [] Φ) := (wp_same xd83_28 (Or.inr rfl) rfl).trans ((wm_getr xd83_29 rfl (show ml_L[1]? = _ from rfl) rfl (Nat.le_of_ble_eq_true rfl)).trans ((wp_same xd83_32 (Or.inr rfl) rfl).trans ((wm_getr xd83_33 rfl (show ml_L[1]? = _ from rfl) rfl (Nat.le_of_ble_eq_true rfl)).trans ((wp_same xd83_36 (Or.inr rfl) rfl).trans ((wp_same xd83_37 (Or.inr rfl) rfl).trans (wm_cv (As := [.ref 2, .int x1, .int x2]) (rest := []) xd83_38 rfl rfl (show ml_L[61]? = _ from rfl) (Nat.le_of_ble_eq_true rfl) (Nat.le_of_ble_eq_true rfl) (Nat.le_of_ble_eq_true rfl) (Nat.le_of_ble_eq_true rfl)))))))
theorem x83_41 {x1 : Int32} {x2 : Int32} {x3 : Int32} : wp Ln xs 83 41 [.ref 1, .int x1, .int x2, .int x3] [] (u, ml_h m lm) Φ = Φ (.inl (some (.int (m 61 1)))) (u, ml_h m lm) := (wp_same xd83_41 (Or.inr rfl) rfl).trans ((wm_getr xd83_42 rfl (show ml_L[1]? = _ from rfl) rfl (Nat.le_of_ble_eq_true rfl)).trans ((wm_geti xd83_45 rfl (show ml_L[61]? = _ from rfl) rfl (Nat.le_of_ble_eq_true rfl)).trans (wp_fin (v := some (.int (m 61 1))) xd83_48 (Or.inr rfl) rfl (mj_fin_i rfl))))
theorem x83_49 {x1 : Int32} {x2 : Int32} {x3 : Int32} : wp Ln xs 83 49 [.ref 1, .int x1, .int x2, .int x3] [] (u, ml_h m lm) Φ = wp Ln xs 90 0 [.ref 61, .ref 2, .int x1, .int x2, mj_hole, mj_hole] [] (u, ml_h m lm) (mk Ln xs 83 59 [.ref 1, .int x1, .int x2, .int x3] [] Φ) := (wp_same xd83_49 (Or.inr rfl) rfl).trans ((wm_getr xd83_50 rfl (show ml_L[1]? = _ from rfl) rfl (Nat.le_of_ble_eq_true rfl)).trans ((wp_same xd83_53 (Or.inr rfl) rfl).trans ((wm_getr xd83_54 rfl (show ml_L[1]? = _ from rfl) rfl (Nat.le_of_ble_eq_true rfl)).trans ((wp_same xd83_57 (Or.inr rfl) rfl).trans ((wp_same xd83_58 (Or.inr rfl) rfl).trans (wm_cv (As := [.ref 2, .int x1, .int x2]) (rest := []) xd83_59 rfl rfl (show ml_L[61]? = _ from rfl) (Nat.le_of_ble_eq_true rfl) (Nat.le_of_ble_eq_true rfl) (Nat.le_of_ble_eq_true rfl) (Nat.le_of_ble_eq_true rfl)))))))
theorem x83_62 {x1 : Int32} {x2 : Int32} {x3 : Int32} {xs0 : Int32} : wp Ln xs 83 62 [.ref 1, .int x1, .int x2, .int x3] [.int xs0] (u, ml_h m lm) Φ = Φ (.inl (some (.int xs0))) (u, ml_h m lm) := wp_fin (v := some (.int xs0)) xd83_62 (Or.inr rfl) rfl (mj_fin_i rfl)
theorem x83_63 {x1 : Int32} {x2 : Int32} {x3 : Int32} : wp Ln xs 83 63 [.ref 1, .int x1, .int x2, .int x3] [] (u, ml_h m lm) Φ = wp Ln xs 84 0 [.ref 61, .ref 2, .int x1, .int x2, mj_hole, mj_hole, mj_hole] [] (u, ml_h m lm) (mk Ln xs 83 73 [.ref 1, .int x1, .int x2, .int x3] [] Φ) := (wp_same xd83_63 (Or.inr rfl) rfl).trans ((wm_getr xd83_64 rfl (show ml_L[1]? = _ from rfl) rfl (Nat.le_of_ble_eq_true rfl)).trans ((wp_same xd83_67 (Or.inr rfl) rfl).trans ((wm_getr xd83_68 rfl (show ml_L[1]? = _ from rfl) rfl (Nat.le_of_ble_eq_true rfl)).trans ((wp_same xd83_71 (Or.inr rfl) rfl).trans ((wp_same xd83_72 (Or.inr rfl) rfl).trans (wm_cv (As := [.ref 2, .int x1, .int x2]) (rest := []) xd83_73 rfl rfl (show ml_L[61]? = _ from rfl) (Nat.le_of_ble_eq_true rfl) (Nat.le_of_ble_eq_true rfl) (Nat.le_of_ble_eq_true rfl) (Nat.le_of_ble_eq_true rfl)))))))
theorem x83_76 {x1 : Int32} {x2 : Int32} {x3 : Int32} : wp Ln xs 83 76 [.ref 1, .int x1, .int x2, .int x3] [] (u, ml_h m lm) Φ = Φ (.inl (some (.int (m 61 2)))) (u, ml_h m lm) := (wp_same xd83_76 (Or.inr rfl) rfl).trans ((wm_getr xd83_77 rfl (show ml_L[1]? = _ from rfl) rfl (Nat.le_of_ble_eq_true rfl)).trans ((wm_geti xd83_80 rfl (show ml_L[61]? = _ from rfl) rfl (Nat.le_of_ble_eq_true rfl)).trans (wp_fin (v := some (.int (m 61 2))) xd83_83 (Or.inr rfl) rfl (mj_fin_i rfl))))
theorem x83_84 {x1 : Int32} {x2 : Int32} {x3 : Int32} : wp Ln xs 83 84 [.ref 1, .int x1, .int x2, .int x3] [] (u, ml_h m lm) Φ = wp Ln xs 91 0 [.ref 61, .ref 2, .int x1, .int x2, mj_hole] [] (u, ml_h m lm) (mk Ln xs 83 94 [.ref 1, .int x1, .int x2, .int x3] [] Φ) := (wp_same xd83_84 (Or.inr rfl) rfl).trans ((wm_getr xd83_85 rfl (show ml_L[1]? = _ from rfl) rfl (Nat.le_of_ble_eq_true rfl)).trans ((wp_same xd83_88 (Or.inr rfl) rfl).trans ((wm_getr xd83_89 rfl (show ml_L[1]? = _ from rfl) rfl (Nat.le_of_ble_eq_true rfl)).trans ((wp_same xd83_92 (Or.inr rfl) rfl).trans ((wp_same xd83_93 (Or.inr rfl) rfl).trans (wm_cv (As := [.ref 2, .int x1, .int x2]) (rest := []) xd83_94 rfl rfl (show ml_L[61]? = _ from rfl) (Nat.le_of_ble_eq_true rfl) (Nat.le_of_ble_eq_true rfl) (Nat.le_of_ble_eq_true rfl) (Nat.le_of_ble_eq_true rfl)))))))
theorem x83_97 {x1 : Int32} {x2 : Int32} {x3 : Int32} {xs0 : Int32} : wp Ln xs 83 97 [.ref 1, .int x1, .int x2, .int x3] [.int xs0] (u, ml_h m lm) Φ = Φ (.inl (some (.int xs0))) (u, ml_h m lm) := wp_fin (v := some (.int xs0)) xd83_97 (Or.inr rfl) rfl (mj_fin_i rfl)
/- PickedForms$Matching.onForms -/
theorem xd84_0 : decode (mj_b 84) 0 = .ok (.aload_n 0, 1) := by decide +kernel
theorem xd84_1 : decode (mj_b 84) 1 = .ok (.iconst 0, 1) := by decide +kernel
theorem xd84_2 : decode (mj_b 84) 2 = .ok (.putfield 18, 3) := by decide +kernel
theorem xd84_5 : decode (mj_b 84) 5 = .ok (.aload_n 0, 1) := by decide +kernel
theorem xd84_6 : decode (mj_b 84) 6 = .ok (.iconst 0, 1) := by decide +kernel
theorem xd84_7 : decode (mj_b 84) 7 = .ok (.putfield 22, 3) := by decide +kernel
theorem xd84_10 : decode (mj_b 84) 10 = .ok (.iconst 0, 1) := by decide +kernel
theorem xd84_11 : decode (mj_b 84) 11 = .ok (.istore 4, 2) := by decide +kernel
theorem xd84_13 : decode (mj_b 84) 13 = .ok (.iconst 0, 1) := by decide +kernel
theorem xd84_14 : decode (mj_b 84) 14 = .ok (.istore 5, 2) := by decide +kernel
theorem xd84_16 : decode (mj_b 84) 16 = .ok (.iload 5, 2) := by decide +kernel
theorem xd84_18 : decode (mj_b 84) 18 = .ok (.aload_n 1, 1) := by decide +kernel
theorem xd84_19 : decode (mj_b 84) 19 = .ok (.getfield 25, 3) := by decide +kernel
theorem xd84_22 : decode (mj_b 84) 22 = .ok (.if_icmp .ge 131, 3) := by decide +kernel
theorem xd84_25 : decode (mj_b 84) 25 = .ok (.iload 4, 2) := by decide +kernel
theorem xd84_27 : decode (mj_b 84) 27 = .ok (.aload_n 1, 1) := by decide +kernel
theorem xd84_28 : decode (mj_b 84) 28 = .ok (.iload 5, 2) := by decide +kernel
theorem xd84_30 : decode (mj_b 84) 30 = .ok (.invokevirtual 30, 3) := by decide +kernel
theorem xd84_33 : decode (mj_b 84) 33 = .ok (.iadd, 1) := by decide +kernel
theorem xd84_34 : decode (mj_b 84) 34 = .ok (.istore 6, 2) := by decide +kernel
theorem xd84_36 : decode (mj_b 84) 36 = .ok (.aload_n 0, 1) := by decide +kernel
theorem xd84_37 : decode (mj_b 84) 37 = .ok (.getfield 12, 3) := by decide +kernel
theorem xd84_40 : decode (mj_b 84) 40 = .ok (.aload_n 1, 1) := by decide +kernel
theorem xd84_41 : decode (mj_b 84) 41 = .ok (.getfield 34, 3) := by decide +kernel
theorem xd84_44 : decode (mj_b 84) 44 = .ok (.iload 4, 2) := by decide +kernel
theorem xd84_46 : decode (mj_b 84) 46 = .ok (.iload 6, 2) := by decide +kernel
theorem xd84_48 : decode (mj_b 84) 48 = .ok (.iload 4, 2) := by decide +kernel
theorem xd84_50 : decode (mj_b 84) 50 = .ok (.isub, 1) := by decide +kernel
theorem xd84_51 : decode (mj_b 84) 51 = .ok (.invokevirtual 38, 3) := by decide +kernel
theorem xd84_54 : decode (mj_b 84) 54 = .ok (.aload_n 0, 1) := by decide +kernel
theorem xd84_55 : decode (mj_b 84) 55 = .ok (.dup, 1) := by decide +kernel
theorem xd84_56 : decode (mj_b 84) 56 = .ok (.getfield 22, 3) := by decide +kernel
theorem xd84_59 : decode (mj_b 84) 59 = .ok (.iconst 1, 1) := by decide +kernel
theorem xd84_60 : decode (mj_b 84) 60 = .ok (.iadd, 1) := by decide +kernel
theorem xd84_61 : decode (mj_b 84) 61 = .ok (.putfield 22, 3) := by decide +kernel
theorem xd84_64 : decode (mj_b 84) 64 = .ok (.aload_n 0, 1) := by decide +kernel
theorem xd84_65 : decode (mj_b 84) 65 = .ok (.getfield 12, 3) := by decide +kernel
theorem xd84_68 : decode (mj_b 84) 68 = .ok (.getfield 42, 3) := by decide +kernel
theorem xd84_71 : decode (mj_b 84) 71 = .ok (.iload_n 2, 1) := by decide +kernel
theorem xd84_72 : decode (mj_b 84) 72 = .ok (.if_icmp .lt 33, 3) := by decide +kernel
theorem xd84_75 : decode (mj_b 84) 75 = .ok (.aload_n 0, 1) := by decide +kernel
theorem xd84_76 : decode (mj_b 84) 76 = .ok (.getfield 12, 3) := by decide +kernel
theorem xd84_79 : decode (mj_b 84) 79 = .ok (.getfield 45, 3) := by decide +kernel
theorem xd84_82 : decode (mj_b 84) 82 = .ok (.iload_n 3, 1) := by decide +kernel
theorem xd84_83 : decode (mj_b 84) 83 = .ok (.if_icmp .gt 22, 3) := by decide +kernel
theorem xd84_86 : decode (mj_b 84) 86 = .ok (.aload_n 0, 1) := by decide +kernel
theorem xd84_87 : decode (mj_b 84) 87 = .ok (.dup, 1) := by decide +kernel
theorem xd84_88 : decode (mj_b 84) 88 = .ok (.getfield 18, 3) := by decide +kernel
theorem xd84_91 : decode (mj_b 84) 91 = .ok (.aload_n 0, 1) := by decide +kernel
theorem xd84_92 : decode (mj_b 84) 92 = .ok (.getfield 12, 3) := by decide +kernel
theorem xd84_95 : decode (mj_b 84) 95 = .ok (.getfield 48, 3) := by decide +kernel
theorem xd84_98 : decode (mj_b 84) 98 = .ok (.iadd, 1) := by decide +kernel
theorem xd84_99 : decode (mj_b 84) 99 = .ok (.putfield 18, 3) := by decide +kernel
theorem xd84_102 : decode (mj_b 84) 102 = .ok (.goto 41, 3) := by decide +kernel
theorem xd84_105 : decode (mj_b 84) 105 = .ok (.iload_n 2, 1) := by decide +kernel
theorem xd84_106 : decode (mj_b 84) 106 = .ok (.iload_n 3, 1) := by decide +kernel
theorem xd84_107 : decode (mj_b 84) 107 = .ok (.if_icmp .gt 36, 3) := by decide +kernel
theorem xd84_110 : decode (mj_b 84) 110 = .ok (.aload_n 0, 1) := by decide +kernel
theorem xd84_111 : decode (mj_b 84) 111 = .ok (.getfield 12, 3) := by decide +kernel
theorem xd84_114 : decode (mj_b 84) 114 = .ok (.getfield 45, 3) := by decide +kernel
theorem xd84_117 : decode (mj_b 84) 117 = .ok (.iload_n 2, 1) := by decide +kernel
theorem xd84_118 : decode (mj_b 84) 118 = .ok (.if_icmp .lt 25, 3) := by decide +kernel
theorem xd84_121 : decode (mj_b 84) 121 = .ok (.aload_n 0, 1) := by decide +kernel
theorem xd84_122 : decode (mj_b 84) 122 = .ok (.getfield 12, 3) := by decide +kernel
theorem xd84_125 : decode (mj_b 84) 125 = .ok (.getfield 42, 3) := by decide +kernel
theorem xd84_128 : decode (mj_b 84) 128 = .ok (.iload_n 3, 1) := by decide +kernel
theorem xd84_129 : decode (mj_b 84) 129 = .ok (.if_icmp .gt 14, 3) := by decide +kernel
theorem xd84_132 : decode (mj_b 84) 132 = .ok (.aload_n 0, 1) := by decide +kernel
theorem xd84_133 : decode (mj_b 84) 133 = .ok (.aload_n 1, 1) := by decide +kernel
theorem xd84_134 : decode (mj_b 84) 134 = .ok (.iload 5, 2) := by decide +kernel
theorem xd84_136 : decode (mj_b 84) 136 = .ok (.iload 4, 2) := by decide +kernel
theorem xd84_138 : decode (mj_b 84) 138 = .ok (.iload_n 2, 1) := by decide +kernel
theorem xd84_139 : decode (mj_b 84) 139 = .ok (.iload_n 3, 1) := by decide +kernel
theorem xd84_140 : decode (mj_b 84) 140 = .ok (.invokevirtual 51, 3) := by decide +kernel
theorem xd84_143 : decode (mj_b 84) 143 = .ok (.iload 6, 2) := by decide +kernel
theorem xd84_145 : decode (mj_b 84) 145 = .ok (.istore 4, 2) := by decide +kernel
theorem xd84_147 : decode (mj_b 84) 147 = .ok (.iinc 5 1, 3) := by decide +kernel
theorem xd84_150 : decode (mj_b 84) 150 = .ok (.goto (-134), 3) := by decide +kernel
theorem xd84_153 : decode (mj_b 84) 153 = .ok (.aload_n 0, 1) := by decide +kernel
theorem xd84_154 : decode (mj_b 84) 154 = .ok (.aload_n 1, 1) := by decide +kernel
theorem xd84_155 : decode (mj_b 84) 155 = .ok (.getfield 34, 3) := by decide +kernel
theorem xd84_158 : decode (mj_b 84) 158 = .ok (.iload 4, 2) := by decide +kernel
theorem xd84_160 : decode (mj_b 84) 160 = .ok (.aload_n 1, 1) := by decide +kernel
theorem xd84_161 : decode (mj_b 84) 161 = .ok (.getfield 55, 3) := by decide +kernel
theorem xd84_164 : decode (mj_b 84) 164 = .ok (.iload_n 2, 1) := by decide +kernel
theorem xd84_165 : decode (mj_b 84) 165 = .ok (.iload_n 3, 1) := by decide +kernel
theorem xd84_166 : decode (mj_b 84) 166 = .ok (.invokevirtual 58, 3) := by decide +kernel
theorem xd84_169 : decode (mj_b 84) 169 = .ok (.return_, 1) := by decide +kernel
theorem x84_0 {x2 : Int32} {x3 : Int32} : wp Ln xs 84 0 [.ref 61, .ref 2, .int x2, .int x3, mj_hole, mj_hole, mj_hole] [] (u, ml_h m lm) Φ = wp Ln xs 84 16 [.ref 61, .ref 2, .int x2, .int x3, .int (nI 0), .int (nI 0), mj_hole] [] (u, ml_h (ml_s (ml_s m 61 1 (nI 0)) 61 2 (nI 0)) lm) Φ := (wp_same xd84_0 (Or.inr rfl) rfl).trans ((wp_same (S' := [.int (nI 0), .ref 61]) xd84_1 (Or.inr rfl) rfl).trans ((wm_puti xd84_2 rfl (show ml_L[61]? = _ from rfl) rfl (Nat.le_of_ble_eq_true rfl) rfl rfl rfl).trans ((wp_same xd84_5 (Or.inr rfl) rfl).trans ((wp_same (S' := [.int (nI 0), .ref 61]) xd84_6 (Or.inr rfl) rfl).trans ((wm_puti xd84_7 rfl (show ml_L[61]? = _ from rfl) rfl (Nat.le_of_ble_eq_true rfl) rfl rfl rfl).trans ((wp_same (S' := [.int (nI 0)]) xd84_10 (Or.inr rfl) rfl).trans ((wp_same (L' := [.ref 61, .ref 2, .int x2, .int x3, .int (nI 0), mj_hole, mj_hole]) xd84_11 (Or.inr rfl) rfl).trans ((wp_same (S' := [.int (nI 0)]) xd84_13 (Or.inr rfl) rfl).trans (wp_same (L' := [.ref 61, .ref 2, .int x2, .int x3, .int (nI 0), .int (nI 0), mj_hole]) xd84_14 (Or.inr rfl) rfl)))))))))
theorem x84_16 {x2 : Int32} {x3 : Int32} {x4 : Int32} {x5 : Int32} {v6 : Value} : wp Ln xs 84 16 [.ref 61, .ref 2, .int x2, .int x3, .int x4, .int x5, v6] [] (u, ml_h m lm) Φ = if (m 2 6) ≤ x5 then wp Ln xs 84 153 [.ref 61, .ref 2, .int x2, .int x3, .int x4, .int x5, v6] [] (u, ml_h m lm) Φ else wp Ln xs 84 25 [.ref 61, .ref 2, .int x2, .int x3, .int x4, .int x5, v6] [] (u, ml_h m lm) Φ := (wp_same xd84_16 (Or.inr rfl) rfl).trans ((wp_same xd84_18 (Or.inr rfl) rfl).trans ((wm_geti xd84_19 rfl (show ml_L[2]? = _ from rfl) rfl (Nat.le_of_ble_eq_true rfl)).trans (wx_icmp xd84_22 rfl rfl ((m 2 6) ≤ x5) mb_ge)))
theorem x84_25 {x2 : Int32} {x3 : Int32} {x4 : Int32} {x5 : Int32} {v6 : Value} : wp Ln xs 84 25 [.ref 61, .ref 2, .int x2, .int x3, .int x4, .int x5, v6] [] (u, ml_h m lm) Φ = wp Ln xs 20 0 [.ref 2, .int x5] [] (u, ml_h m lm) (mk Ln xs 84 30 [.ref 61, .ref 2, .int x2, .int x3, .int x4, .int x5, v6] [.int x4] Φ) := (wp_same xd84_25 (Or.inr rfl) rfl).trans ((wp_same xd84_27 (Or.inr rfl) rfl).trans ((wp_same xd84_28 (Or.inr rfl) rfl).trans (wm_cv (As := [.int x5]) (rest := [.int x4]) xd84_30 rfl rfl (show ml_L[2]? = _ from rfl) (Nat.le_of_ble_eq_true rfl) (Nat.le_of_ble_eq_true rfl) (Nat.le_of_ble_eq_true rfl) (Nat.le_of_ble_eq_true rfl))))
theorem x84_33 {x2 : Int32} {x3 : Int32} {x4 : Int32} {x5 : Int32} {v6 : Value} {xs0 : Int32} {xs1 : Int32} : wp Ln xs 84 33 [.ref 61, .ref 2, .int x2, .int x3, .int x4, .int x5, v6] [.int xs0, .int xs1] (u, ml_h m lm) Φ = wp Ln xs 41 0 [.ref 62, .ref 3, .int x4, .int ((xs1 + xs0) - x4), mj_hole] [] (u, ml_h m lm) (mk Ln xs 84 51 [.ref 61, .ref 2, .int x2, .int x3, .int x4, .int x5, .int (xs1 + xs0)] [] Φ) := (wp_same xd84_33 (Or.inr rfl) rfl).trans ((wp_same (L' := [.ref 61, .ref 2, .int x2, .int x3, .int x4, .int x5, .int (xs1 + xs0)]) xd84_34 (Or.inr rfl) rfl).trans ((wp_same xd84_36 (Or.inr rfl) rfl).trans ((wm_getr xd84_37 rfl (show ml_L[61]? = _ from rfl) rfl (Nat.le_of_ble_eq_true rfl)).trans ((wp_same xd84_40 (Or.inr rfl) rfl).trans ((wm_getr xd84_41 rfl (show ml_L[2]? = _ from rfl) rfl (Nat.le_of_ble_eq_true rfl)).trans ((wp_same xd84_44 (Or.inr rfl) rfl).trans ((wp_same xd84_46 (Or.inr rfl) rfl).trans ((wp_same xd84_48 (Or.inr rfl) rfl).trans ((wp_same xd84_50 (Or.inr rfl) rfl).trans (wm_cv (As := [.ref 3, .int x4, .int ((xs1 + xs0) - x4)]) (rest := []) xd84_51 rfl rfl (show ml_L[62]? = _ from rfl) (Nat.le_of_ble_eq_true rfl) (Nat.le_of_ble_eq_true rfl) (Nat.le_of_ble_eq_true rfl) (Nat.le_of_ble_eq_true rfl)))))))))))
theorem x84_54 {x2 : Int32} {x3 : Int32} {x4 : Int32} {x5 : Int32} {x6 : Int32} : wp Ln xs 84 54 [.ref 61, .ref 2, .int x2, .int x3, .int x4, .int x5, .int x6] [] (u, ml_h m lm) Φ = if ((ml_s m 61 2 ((m 61 2) + (nI 1))) 62 3) < x2 then wp Ln xs 84 105 [.ref 61, .ref 2, .int x2, .int x3, .int x4, .int x5, .int x6] [] (u, ml_h (ml_s m 61 2 ((m 61 2) + (nI 1))) lm) Φ else wp Ln xs 84 75 [.ref 61, .ref 2, .int x2, .int x3, .int x4, .int x5, .int x6] [] (u, ml_h (ml_s m 61 2 ((m 61 2) + (nI 1))) lm) Φ := (wp_same xd84_54 (Or.inr rfl) rfl).trans ((wp_same xd84_55 (Or.inr rfl) rfl).trans ((wm_geti xd84_56 rfl (show ml_L[61]? = _ from rfl) rfl (Nat.le_of_ble_eq_true rfl)).trans ((wp_same (S' := [.int (nI 1), .int (m 61 2), .ref 61]) xd84_59 (Or.inr rfl) rfl).trans ((wp_same xd84_60 (Or.inr rfl) rfl).trans ((wm_puti xd84_61 rfl (show ml_L[61]? = _ from rfl) rfl (Nat.le_of_ble_eq_true rfl) rfl rfl rfl).trans ((wp_same xd84_64 (Or.inr rfl) rfl).trans ((wm_getr xd84_65 rfl (show ml_L[61]? = _ from rfl) rfl (Nat.le_of_ble_eq_true rfl)).trans ((wm_geti xd84_68 rfl (show ml_L[62]? = _ from rfl) rfl (Nat.le_of_ble_eq_true rfl)).trans ((wp_same xd84_71 (Or.inr rfl) rfl).trans (wx_icmp xd84_72 rfl rfl (((ml_s m 61 2 ((m 61 2) + (nI 1))) 62 3) < x2) mb_lt))))))))))
theorem x84_75 {x2 : Int32} {x3 : Int32} {x4 : Int32} {x5 : Int32} {x6 : Int32} : wp Ln xs 84 75 [.ref 61, .ref 2, .int x2, .int x3, .int x4, .int x5, .int x6] [] (u, ml_h m lm) Φ = if x3 < (m 62 4) then wp Ln xs 84 105 [.ref 61, .ref 2, .int x2, .int x3, .int x4, .int x5, .int x6] [] (u, ml_h m lm) Φ else wp Ln xs 84 86 [.ref 61, .ref 2, .int x2, .int x3, .int x4, .int x5, .int x6] [] (u, ml_h m lm) Φ := (wp_same xd84_75 (Or.inr rfl) rfl).trans ((wm_getr xd84_76 rfl (show ml_L[61]? = _ from rfl) rfl (Nat.le_of_ble_eq_true rfl)).trans ((wm_geti xd84_79 rfl (show ml_L[62]? = _ from rfl) rfl (Nat.le_of_ble_eq_true rfl)).trans ((wp_same xd84_82 (Or.inr rfl) rfl).trans (wx_icmp xd84_83 rfl rfl (x3 < (m 62 4)) mb_gt))))
theorem x84_86 {x2 : Int32} {x3 : Int32} {x4 : Int32} {x5 : Int32} {x6 : Int32} : wp Ln xs 84 86 [.ref 61, .ref 2, .int x2, .int x3, .int x4, .int x5, .int x6] [] (u, ml_h m lm) Φ = wp Ln xs 84 143 [.ref 61, .ref 2, .int x2, .int x3, .int x4, .int x5, .int x6] [] (u, ml_h (ml_s m 61 1 ((m 61 1) + (m 62 2))) lm) Φ := (wp_same xd84_86 (Or.inr rfl) rfl).trans ((wp_same xd84_87 (Or.inr rfl) rfl).trans ((wm_geti xd84_88 rfl (show ml_L[61]? = _ from rfl) rfl (Nat.le_of_ble_eq_true rfl)).trans ((wp_same xd84_91 (Or.inr rfl) rfl).trans ((wm_getr xd84_92 rfl (show ml_L[61]? = _ from rfl) rfl (Nat.le_of_ble_eq_true rfl)).trans ((wm_geti xd84_95 rfl (show ml_L[62]? = _ from rfl) rfl (Nat.le_of_ble_eq_true rfl)).trans ((wp_same xd84_98 (Or.inr rfl) rfl).trans ((wm_puti xd84_99 rfl (show ml_L[61]? = _ from rfl) rfl (Nat.le_of_ble_eq_true rfl) rfl rfl rfl).trans (wx_goto xd84_102 rfl))))))))
theorem x84_105 {x2 : Int32} {x3 : Int32} {x4 : Int32} {x5 : Int32} {x6 : Int32} : wp Ln xs 84 105 [.ref 61, .ref 2, .int x2, .int x3, .int x4, .int x5, .int x6] [] (u, ml_h m lm) Φ = if x3 < x2 then wp Ln xs 84 143 [.ref 61, .ref 2, .int x2, .int x3, .int x4, .int x5, .int x6] [] (u, ml_h m lm) Φ else wp Ln xs 84 110 [.ref 61, .ref 2, .int x2, .int x3, .int x4, .int x5, .int x6] [] (u, ml_h m lm) Φ := (wp_same xd84_105 (Or.inr rfl) rfl).trans ((wp_same xd84_106 (Or.inr rfl) rfl).trans (wx_icmp xd84_107 rfl rfl (x3 < x2) mb_gt))
theorem x84_110 {x2 : Int32} {x3 : Int32} {x4 : Int32} {x5 : Int32} {x6 : Int32} : wp Ln xs 84 110 [.ref 61, .ref 2, .int x2, .int x3, .int x4, .int x5, .int x6] [] (u, ml_h m lm) Φ = if (m 62 4) < x2 then wp Ln xs 84 143 [.ref 61, .ref 2, .int x2, .int x3, .int x4, .int x5, .int x6] [] (u, ml_h m lm) Φ else wp Ln xs 84 121 [.ref 61, .ref 2, .int x2, .int x3, .int x4, .int x5, .int x6] [] (u, ml_h m lm) Φ := (wp_same xd84_110 (Or.inr rfl) rfl).trans ((wm_getr xd84_111 rfl (show ml_L[61]? = _ from rfl) rfl (Nat.le_of_ble_eq_true rfl)).trans ((wm_geti xd84_114 rfl (show ml_L[62]? = _ from rfl) rfl (Nat.le_of_ble_eq_true rfl)).trans ((wp_same xd84_117 (Or.inr rfl) rfl).trans (wx_icmp xd84_118 rfl rfl ((m 62 4) < x2) mb_lt))))
theorem x84_121 {x2 : Int32} {x3 : Int32} {x4 : Int32} {x5 : Int32} {x6 : Int32} : wp Ln xs 84 121 [.ref 61, .ref 2, .int x2, .int x3, .int x4, .int x5, .int x6] [] (u, ml_h m lm) Φ = if x3 < (m 62 3) then wp Ln xs 84 143 [.ref 61, .ref 2, .int x2, .int x3, .int x4, .int x5, .int x6] [] (u, ml_h m lm) Φ else wp Ln xs 84 132 [.ref 61, .ref 2, .int x2, .int x3, .int x4, .int x5, .int x6] [] (u, ml_h m lm) Φ := (wp_same xd84_121 (Or.inr rfl) rfl).trans ((wm_getr xd84_122 rfl (show ml_L[61]? = _ from rfl) rfl (Nat.le_of_ble_eq_true rfl)).trans ((wm_geti xd84_125 rfl (show ml_L[62]? = _ from rfl) rfl (Nat.le_of_ble_eq_true rfl)).trans ((wp_same xd84_128 (Or.inr rfl) rfl).trans (wx_icmp xd84_129 rfl rfl (x3 < (m 62 3)) mb_gt))))
theorem x84_132 {x2 : Int32} {x3 : Int32} {x4 : Int32} {x5 : Int32} {x6 : Int32} : wp Ln xs 84 132 [.ref 61, .ref 2, .int x2, .int x3, .int x4, .int x5, .int x6] [] (u, ml_h m lm) Φ = wp Ln xs 85 0 [.ref 61, .ref 2, .int x5, .int x4, .int x2, .int x3, mj_hole] [] (u, ml_h m lm) (mk Ln xs 84 140 [.ref 61, .ref 2, .int x2, .int x3, .int x4, .int x5, .int x6] [] Φ) := (wp_same xd84_132 (Or.inr rfl) rfl).trans ((wp_same xd84_133 (Or.inr rfl) rfl).trans ((wp_same xd84_134 (Or.inr rfl) rfl).trans ((wp_same xd84_136 (Or.inr rfl) rfl).trans ((wp_same xd84_138 (Or.inr rfl) rfl).trans ((wp_same xd84_139 (Or.inr rfl) rfl).trans (wm_cv (As := [.ref 2, .int x5, .int x4, .int x2, .int x3]) (rest := []) xd84_140 rfl rfl (show ml_L[61]? = _ from rfl) (Nat.le_of_ble_eq_true rfl) (Nat.le_of_ble_eq_true rfl) (Nat.le_of_ble_eq_true rfl) (Nat.le_of_ble_eq_true rfl)))))))
theorem x84_143 {x2 : Int32} {x3 : Int32} {x4 : Int32} {x5 : Int32} {x6 : Int32} : wp Ln xs 84 143 [.ref 61, .ref 2, .int x2, .int x3, .int x4, .int x5, .int x6] [] (u, ml_h m lm) Φ = wp Ln xs 84 16 [.ref 61, .ref 2, .int x2, .int x3, .int x6, .int (x5 + nI 1), .int x6] [] (u, ml_h m lm) Φ := (wp_same xd84_143 (Or.inr rfl) rfl).trans ((wp_same (L' := [.ref 61, .ref 2, .int x2, .int x3, .int x6, .int x5, .int x6]) xd84_145 (Or.inr rfl) rfl).trans ((wp_same (L' := [.ref 61, .ref 2, .int x2, .int x3, .int x6, .int (x5 + nI 1), .int x6]) xd84_147 (Or.inr rfl) rfl).trans (wx_goto xd84_150 rfl)))
theorem x84_153 {x2 : Int32} {x3 : Int32} {x4 : Int32} {x5 : Int32} {v6 : Value} : wp Ln xs 84 153 [.ref 61, .ref 2, .int x2, .int x3, .int x4, .int x5, v6] [] (u, ml_h m lm) Φ = wp Ln xs 89 0 [.ref 61, .ref 3, .int x4, .int (m 2 5), .int x2, .int x3, mj_hole] [] (u, ml_h m lm) (mk Ln xs 84 166 [.ref 61, .ref 2, .int x2, .int x3, .int x4, .int x5, v6] [] Φ) := (wp_same xd84_153 (Or.inr rfl) rfl).trans ((wp_same xd84_154 (Or.inr rfl) rfl).trans ((wm_getr xd84_155 rfl (show ml_L[2]? = _ from rfl) rfl (Nat.le_of_ble_eq_true rfl)).trans ((wp_same xd84_158 (Or.inr rfl) rfl).trans ((wp_same xd84_160 (Or.inr rfl) rfl).trans ((wm_geti xd84_161 rfl (show ml_L[2]? = _ from rfl) rfl (Nat.le_of_ble_eq_true rfl)).trans ((wp_same xd84_164 (Or.inr rfl) rfl).trans ((wp_same xd84_165 (Or.inr rfl) rfl).trans (wm_cv (As := [.ref 3, .int x4, .int (m 2 5), .int x2, .int x3]) (rest := []) xd84_166 rfl rfl (show ml_L[61]? = _ from rfl) (Nat.le_of_ble_eq_true rfl) (Nat.le_of_ble_eq_true rfl) (Nat.le_of_ble_eq_true rfl) (Nat.le_of_ble_eq_true rfl)))))))))
theorem x84_169 {x2 : Int32} {x3 : Int32} {x4 : Int32} {x5 : Int32} {v6 : Value} : wp Ln xs 84 169 [.ref 61, .ref 2, .int x2, .int x3, .int x4, .int x5, v6] [] (u, ml_h m lm) Φ = Φ (.inl none) (u, ml_h m lm) := wp_fin (v := none) xd84_169 (Or.inr rfl) rfl rfl
end MXd
