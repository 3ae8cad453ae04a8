/-! ===== an equation for each straight piece of a method ===== -/
section MXj
variable {Ln : Nat} {xs : Nat → Int32} {u : mj_U} {m : ml_M} {lm : ml_J} {Φ : mj_R → mj_W → Prop}
/- PickedFormsModel.append -/
theorem xd188_0 : decode (mj_b 188) 0 = .ok (.aload_n 0, 1) := by decide +kernel
theorem xd188_1 : decode (mj_b 188) 1 = .ok (.iload_n 1, 1) := by decide +kernel
theorem xd188_2 : decode (mj_b 188) 2 = .ok (.bipush 33, 2) := by decide +kernel
theorem xd188_4 : decode (mj_b 188) 4 = .ok (.bipush 126, 2) := by decide +kernel
theorem xd188_6 : decode (mj_b 188) 6 = .ok (.invokestatic 38, 3) := by decide +kernel
theorem xd188_9 : decode (mj_b 188) 9 = .ok (.ifCond .ne 7, 3) := by decide +kernel
theorem xd188_12 : decode (mj_b 188) 12 = .ok (.iconst 1, 1) := by decide +kernel
theorem xd188_13 : decode (mj_b 188) 13 = .ok (.goto 17, 3) := by decide +kernel
theorem xd188_16 : decode (mj_b 188) 16 = .ok (.aload_n 0, 1) := by decide +kernel
theorem xd188_17 : decode (mj_b 188) 17 = .ok (.getfield 141, 3) := by decide +kernel
theorem xd188_20 : decode (mj_b 188) 20 = .ok (.bipush 60, 2) := by decide +kernel
theorem xd188_22 : decode (mj_b 188) 22 = .ok (.if_icmp .ne 7, 3) := by decide +kernel
theorem xd188_25 : decode (mj_b 188) 25 = .ok (.iconst 2, 1) := by decide +kernel
theorem xd188_26 : decode (mj_b 188) 26 = .ok (.goto 4, 3) := by decide +kernel
theorem xd188_29 : decode (mj_b 188) 29 = .ok (.iconst 0, 1) := by decide +kernel
theorem xd188_30 : decode (mj_b 188) 30 = .ok (.invokevirtual 114, 3) := by decide +kernel
theorem xd188_33 : decode (mj_b 188) 33 = .ok (.ifCond .ne 5, 3) := by decide +kernel
theorem xd188_36 : decode (mj_b 188) 36 = .ok (.iconst 0, 1) := by decide +kernel
theorem xd188_37 : decode (mj_b 188) 37 = .ok (.ireturn, 1) := by decide +kernel
theorem xd188_38 : decode (mj_b 188) 38 = .ok (.aload_n 0, 1) := by decide +kernel
theorem xd188_39 : decode (mj_b 188) 39 = .ok (.getfield 22, 3) := by decide +kernel
theorem xd188_42 : decode (mj_b 188) 42 = .ok (.aload_n 0, 1) := by decide +kernel
theorem xd188_43 : decode (mj_b 188) 43 = .ok (.getfield 141, 3) := by decide +kernel
theorem xd188_46 : decode (mj_b 188) 46 = .ok (.iload_n 1, 1) := by decide +kernel
theorem xd188_47 : decode (mj_b 188) 47 = .ok (.iastore, 1) := by decide +kernel
theorem xd188_48 : decode (mj_b 188) 48 = .ok (.aload_n 0, 1) := by decide +kernel
theorem xd188_49 : decode (mj_b 188) 49 = .ok (.dup, 1) := by decide +kernel
theorem xd188_50 : decode (mj_b 188) 50 = .ok (.getfield 141, 3) := by decide +kernel
theorem xd188_53 : decode (mj_b 188) 53 = .ok (.iconst 1, 1) := by decide +kernel
theorem xd188_54 : decode (mj_b 188) 54 = .ok (.iadd, 1) := by decide +kernel
theorem xd188_55 : decode (mj_b 188) 55 = .ok (.putfield 141, 3) := by decide +kernel
theorem xd188_58 : decode (mj_b 188) 58 = .ok (.aload_n 0, 1) := by decide +kernel
theorem xd188_59 : decode (mj_b 188) 59 = .ok (.getfield 141, 3) := by decide +kernel
theorem xd188_62 : decode (mj_b 188) 62 = .ok (.ireturn, 1) := by decide +kernel
theorem x188_0 {x1 : Int32} : wp Ln xs 188 0 [.ref 72, .int x1] [] (u, ml_h m lm) Φ = wp Ln xs 152 0 [.int x1, .int (nI 33), .int (nI 126)] [] (u, ml_h m lm) (mk Ln xs 188 6 [.ref 72, .int x1] [.ref 72] Φ) := (wp_same xd188_0 (Or.inr rfl) rfl).trans ((wp_same xd188_1 (Or.inr rfl) rfl).trans ((wp_same (S' := [.int (nI 33), .int x1, .ref 72]) xd188_2 (Or.inr rfl) rfl).trans ((wp_same (S' := [.int (nI 126), .int (nI 33), .int x1, .ref 72]) xd188_4 (Or.inr rfl) rfl).trans (wm_cs (As := [.int x1, .int (nI 33), .int (nI 126)]) (rest := [.ref 72]) xd188_6 rfl rfl (Nat.le_of_ble_eq_true rfl) (Nat.le_of_ble_eq_true rfl) (Nat.le_of_ble_eq_true rfl) (Nat.le_of_ble_eq_true rfl)))))
theorem x188_9 {x1 : Int32} {xs0 : Int32} : wp Ln xs 188 9 [.ref 72, .int x1] [.int xs0, .ref 72] (u, ml_h m lm) Φ = if ¬ xs0 = (nI 0) then wp Ln xs 188 16 [.ref 72, .int x1] [.ref 72] (u, ml_h m lm) Φ else wp Ln xs 188 12 [.ref 72, .int x1] [.ref 72] (u, ml_h m lm) Φ := wx_if xd188_9 rfl rfl (¬ xs0 = (nI 0)) mb_ne
theorem x188_12 {x1 : Int32} : wp Ln xs 188 12 [.ref 72, .int x1] [.ref 72] (u, ml_h m lm) Φ = wp Ln xs 188 30 [.ref 72, .int x1] [.int (nI 1), .ref 72] (u, ml_h m lm) Φ := (wp_same (S' := [.int (nI 1), .ref 72]) xd188_12 (Or.inr rfl) rfl).trans (wx_goto xd188_13 rfl)
theorem x188_16 {x1 : Int32} : wp Ln xs 188 16 [.ref 72, .int x1] [.ref 72] (u, ml_h m lm) Φ = if ¬ (m 72 7) = (nI 60) then wp Ln xs 188 29 [.ref 72, .int x1] [.ref 72] (u, ml_h m lm) Φ else wp Ln xs 188 25 [.ref 72, .int x1] [.ref 72] (u, ml_h m lm) Φ := (wp_same xd188_16 (Or.inr rfl) rfl).trans ((wm_geti xd188_17 rfl (show ml_L[72]? = _ from rfl) rfl (Nat.le_of_ble_eq_true rfl)).trans ((wp_same (S' := [.int (nI 60), .int (m 72 7), .ref 72]) xd188_20 (Or.inr rfl) rfl).trans (wx_icmp xd188_22 rfl rfl (¬ (m 72 7) = (nI 60)) mb_ne)))
theorem x188_25 {x1 : Int32} : wp Ln xs 188 25 [.ref 72, .int x1] [.ref 72] (u, ml_h m lm) Φ = wp Ln xs 188 30 [.ref 72, .int x1] [.int (nI 2), .ref 72] (u, ml_h m lm) Φ := (wp_same (S' := [.int (nI 2), .ref 72]) xd188_25 (Or.inr rfl) rfl).trans (wx_goto xd188_26 rfl)
theorem x188_29 {x1 : Int32} : wp Ln xs 188 29 [.ref 72, .int x1] [.ref 72] (u, ml_h m lm) Φ = wp Ln xs 188 30 [.ref 72, .int x1] [.int (nI 0), .ref 72] (u, ml_h m lm) Φ := wp_same (S' := [.int (nI 0), .ref 72]) xd188_29 (Or.inr rfl) rfl
theorem x188_30 {x1 : Int32} {xs0 : Int32} : wp Ln xs 188 30 [.ref 72, .int x1] [.int xs0, .ref 72] (u, ml_h m lm) Φ = wp Ln xs 154 0 [.ref 72, .int xs0] [] (u, ml_h m lm) (mk Ln xs 188 30 [.ref 72, .int x1] [] Φ) := wm_cv (As := [.int xs0]) (rest := []) xd188_30 rfl rfl (show ml_L[72]? = _ from rfl) (Nat.le_of_ble_eq_true rfl) (Nat.le_of_ble_eq_true rfl) (Nat.le_of_ble_eq_true rfl) (Nat.le_of_ble_eq_true rfl)
theorem x188_33 {x1 : Int32} {xs0 : Int32} : wp Ln xs 188 33 [.ref 72, .int x1] [.int xs0] (u, ml_h m lm) Φ = if ¬ xs0 = (nI 0) then wp Ln xs 188 38 [.ref 72, .int x1] [] (u, ml_h m lm) Φ else wp Ln xs 188 36 [.ref 72, .int x1] [] (u, ml_h m lm) Φ := wx_if xd188_33 rfl rfl (¬ xs0 = (nI 0)) mb_ne
theorem x188_36 {x1 : Int32} : wp Ln xs 188 36 [.ref 72, .int x1] [] (u, ml_h m lm) Φ = Φ (.inl (some (.int (nI 0)))) (u, ml_h m lm) := (wp_same (S' := [.int (nI 0)]) xd188_36 (Or.inr rfl) rfl).trans (wp_fin (v := some (.int (nI 0))) xd188_37 (Or.inr rfl) rfl (mj_fin_i rfl))
theorem x188_38 {x1 : Int32} : wp Ln xs 188 38 [.ref 72, .int x1] [] (u, ml_h m lm) Φ = wp Ln xs 188 47 [.ref 72, .int x1] [.int x1, .int (m 72 7), .ref 77] (u, ml_h m lm) Φ := (wp_same xd188_38 (Or.inr rfl) rfl).trans ((wm_getr xd188_39 rfl (show ml_L[72]? = _ from rfl) rfl (Nat.le_of_ble_eq_true rfl)).trans ((wp_same xd188_42 (Or.inr rfl) rfl).trans ((wm_geti xd188_43 rfl (show ml_L[72]? = _ from rfl) rfl (Nat.le_of_ble_eq_true rfl)).trans (wp_same xd188_46 (Or.inr rfl) rfl))))
theorem x188_47 {x1 : Int32} {xs0 : Int32} {k : Nat} (hk : k < 60) : wp Ln xs 188 47 [.ref 72, .int x1] [.int xs0, .int (nI k), .ref 77] (u, ml_h m lm) Φ = Φ (.inl (some (.int ((ml_s (ml_s m 77 k xs0) 72 7 (((ml_s m 77 k xs0) 72 7) + (nI 1))) 72 7)))) (u, ml_h (ml_s (ml_s m 77 k xs0) 72 7 (((ml_s m 77 k xs0) 72 7) + (nI 1))) lm) := (wm_iast (k := k) xd188_47 ml_ia_77 hk).trans ((wp_same xd188_48 (Or.inr rfl) rfl).trans ((wp_same xd188_49 (Or.inr rfl) rfl).trans ((wm_geti xd188_50 rfl (show ml_L[72]? = _ from rfl) rfl (Nat.le_of_ble_eq_true rfl)).trans ((wp_same (S' := [.int (nI 1), .int ((ml_s m 77 k xs0) 72 7), .ref 72]) xd188_53 (Or.inr rfl) rfl).trans ((wp_same xd188_54 (Or.inr rfl) rfl).trans ((wm_puti xd188_55 rfl (show ml_L[72]? = _ from rfl) rfl (Nat.le_of_ble_eq_true rfl) rfl rfl rfl).trans ((wp_same xd188_58 (Or.inr rfl) rfl).trans ((wm_geti xd188_59 rfl (show ml_L[72]? = _ from rfl) rfl (Nat.le_of_ble_eq_true rfl)).trans (wp_fin (v := some (.int ((ml_s (ml_s m 77 k xs0) 72 7 (((ml_s m 77 k xs0) 72 7) + (nI 1))) 72 7))) xd188_62 (Or.inr rfl) rfl (mj_fin_i rfl))))))))))
/- PickedFormsModel.clearBuffer -/
theorem xd189_0 : decode (mj_b 189) 0 = .ok (.aload_n 0, 1) := by decide +kernel
theorem xd189_1 : decode (mj_b 189) 1 = .ok (.iconst 0, 1) := by decide +kernel
theorem xd189_2 : decode (mj_b 189) 2 = .ok (.putfield 34, 3) := by decide +kernel
theorem xd189_5 : decode (mj_b 189) 5 = .ok (.aload_n 0, 1) := by decide +kernel
theorem xd189_6 : decode (mj_b 189) 6 = .ok (.getfield 141, 3) := by decide +kernel
theorem xd189_9 : decode (mj_b 189) 9 = .ok (.istore_n 1, 1) := by decide +kernel
theorem xd189_10 : decode (mj_b 189) 10 = .ok (.aload_n 0, 1) := by decide +kernel
theorem xd189_11 : decode (mj_b 189) 11 = .ok (.iconst 0, 1) := by decide +kernel
theorem xd189_12 : decode (mj_b 189) 12 = .ok (.putfield 141, 3) := by decide +kernel
theorem xd189_15 : decode (mj_b 189) 15 = .ok (.iload_n 1, 1) := by decide +kernel
theorem xd189_16 : decode (mj_b 189) 16 = .ok (.ireturn, 1) := by decide +kernel
theorem x189_0 : wp Ln xs 189 0 [.ref 72, mj_hole] [] (u, ml_h m lm) Φ = Φ (.inl (some (.int ((ml_s m 72 8 (nI 0)) 72 7)))) (u, ml_h (ml_s (ml_s m 72 8 (nI 0)) 72 7 (nI 0)) lm) := (wp_same xd189_0 (Or.inr rfl) rfl).trans ((wp_same (S' := [.int (nI 0), .ref 72]) xd189_1 (Or.inr rfl) rfl).trans ((wm_puti xd189_2 rfl (show ml_L[72]? = _ from rfl) rfl (Nat.le_of_ble_eq_true rfl) rfl rfl rfl).trans ((wp_same xd189_5 (Or.inr rfl) rfl).trans ((wm_geti xd189_6 rfl (show ml_L[72]? = _ from rfl) rfl (Nat.le_of_ble_eq_true rfl)).trans ((wp_same (L' := [.ref 72, .int ((ml_s m 72 8 (nI 0)) 72 7)]) xd189_9 (Or.inr rfl) rfl).trans ((wp_same xd189_10 (Or.inr rfl) rfl).trans ((wp_same (S' := [.int (nI 0), .ref 72]) xd189_11 (Or.inr rfl) rfl).trans ((wm_puti xd189_12 rfl (show ml_L[72]? = _ from rfl) rfl (Nat.le_of_ble_eq_true rfl) rfl rfl rfl).trans ((wp_same xd189_15 (Or.inr rfl) rfl).trans (wp_fin (v := some (.int ((ml_s m 72 8 (nI 0)) 72 7))) xd189_16 (Or.inr rfl) rfl (mj_fin_i rfl)))))))))))
/- PickedFormsModel.firstError -/
theorem xd190_0 : decode (mj_b 190) 0 = .ok (.aload_n 0, 1) := by decide +kernel
theorem xd190_1 : decode (mj_b 190) 1 = .ok (.iconst 0, 1) := by decide +kernel
theorem xd190_2 : decode (mj_b 190) 2 = .ok (.putfield 34, 3) := by decide +kernel
theorem xd190_5 : decode (mj_b 190) 5 = .ok (.aload_n 0, 1) := by decide +kernel
theorem xd190_6 : decode (mj_b 190) 6 = .ok (.iconst 0, 1) := by decide +kernel
theorem xd190_7 : decode (mj_b 190) 7 = .ok (.invokevirtual 174, 3) := by decide +kernel
theorem xd190_10 : decode (mj_b 190) 10 = .ok (.ifCond .eq 10, 3) := by decide +kernel
theorem xd190_13 : decode (mj_b 190) 13 = .ok (.aload_n 0, 1) := by decide +kernel
theorem xd190_14 : decode (mj_b 190) 14 = .ok (.getfield 141, 3) := by decide +kernel
theorem xd190_17 : decode (mj_b 190) 17 = .ok (.goto 7, 3) := by decide +kernel
theorem xd190_20 : decode (mj_b 190) 20 = .ok (.aload_n 0, 1) := by decide +kernel
theorem xd190_21 : decode (mj_b 190) 21 = .ok (.getfield 144, 3) := by decide +kernel
theorem xd190_24 : decode (mj_b 190) 24 = .ok (.ireturn, 1) := by decide +kernel
theorem x190_0 : wp Ln xs 190 0 [.ref 72] [] (u, ml_h m lm) Φ = wp Ln xs 191 0 [.ref 72, .int (nI 0), mj_hole] [] (u, ml_h (ml_s m 72 8 (nI 0)) lm) (mk Ln xs 190 7 [.ref 72] [] Φ) := (wp_same xd190_0 (Or.inr rfl) rfl).trans ((wp_same (S' := [.int (nI 0), .ref 72]) xd190_1 (Or.inr rfl) rfl).trans ((wm_puti xd190_2 rfl (show ml_L[72]? = _ from rfl) rfl (Nat.le_of_ble_eq_true rfl) rfl rfl rfl).trans ((wp_same xd190_5 (Or.inr rfl) rfl).trans ((wp_same (S' := [.int (nI 0), .ref 72]) xd190_6 (Or.inr rfl) rfl).trans (wm_cv (As := [.int (nI 0)]) (rest := []) xd190_7 rfl rfl (show ml_L[72]? = _ from rfl) (Nat.le_of_ble_eq_true rfl) (Nat.le_of_ble_eq_true rfl) (Nat.le_of_ble_eq_true rfl) (Nat.le_of_ble_eq_true rfl))))))
theorem x190_10 {xs0 : Int32} : wp Ln xs 190 10 [.ref 72] [.int xs0] (u, ml_h m lm) Φ = if xs0 = (nI 0) then wp Ln xs 190 20 [.ref 72] [] (u, ml_h m lm) Φ else wp Ln xs 190 13 [.ref 72] [] (u, ml_h m lm) Φ := wx_if xd190_10 rfl rfl (xs0 = (nI 0)) mb_eq
theorem x190_13 : wp Ln xs 190 13 [.ref 72] [] (u, ml_h m lm) Φ = Φ (.inl (some (.int (m 72 7)))) (u, ml_h m lm) := (wp_same xd190_13 (Or.inr rfl) rfl).trans ((wm_geti xd190_14 rfl (show ml_L[72]? = _ from rfl) rfl (Nat.le_of_ble_eq_true rfl)).trans ((wx_goto xd190_17 rfl).trans (wp_fin (v := some (.int (m 72 7))) xd190_24 (Or.inr rfl) rfl (mj_fin_i rfl))))
theorem x190_20 : wp Ln xs 190 20 [.ref 72] [] (u, ml_h m lm) Φ = Φ (.inl (some (.int (m 72 9)))) (u, ml_h m lm) := (wp_same xd190_20 (Or.inr rfl) rfl).trans ((wm_geti xd190_21 rfl (show ml_L[72]? = _ from rfl) rfl (Nat.le_of_ble_eq_true rfl)).trans (wp_fin (v := some (.int (m 72 9))) xd190_24 (Or.inr rfl) rfl (mj_fin_i rfl)))
/- PickedFormsModel.readText -/
theorem xd191_0 : decode (mj_b 191) 0 = .ok (.aload_n 0, 1) := by decide +kernel
theorem xd191_1 : decode (mj_b 191) 1 = .ok (.iconst 0, 1) := by decide +kernel
theorem xd191_2 : decode (mj_b 191) 2 = .ok (.putfield 144, 3) := by decide +kernel
theorem xd191_5 : decode (mj_b 191) 5 = .ok (.aload_n 0, 1) := by decide +kernel
theorem xd191_6 : decode (mj_b 191) 6 = .ok (.iconst 0, 1) := by decide +kernel
theorem xd191_7 : decode (mj_b 191) 7 = .ok (.putfield 165, 3) := by decide +kernel
theorem xd191_10 : decode (mj_b 191) 10 = .ok (.aload_n 0, 1) := by decide +kernel
theorem xd191_11 : decode (mj_b 191) 11 = .ok (.invokevirtual 168, 3) := by decide +kernel
theorem xd191_14 : decode (mj_b 191) 14 = .ok (.istore_n 2, 1) := by decide +kernel
theorem xd191_15 : decode (mj_b 191) 15 = .ok (.iload_n 2, 1) := by decide +kernel
theorem xd191_16 : decode (mj_b 191) 16 = .ok (.ifCond .eq 54, 3) := by decide +kernel
theorem xd191_19 : decode (mj_b 191) 19 = .ok (.iload_n 1, 1) := by decide +kernel
theorem xd191_20 : decode (mj_b 191) 20 = .ok (.ifCond .eq 12, 3) := by decide +kernel
theorem xd191_23 : decode (mj_b 191) 23 = .ok (.aload_n 0, 1) := by decide +kernel
theorem xd191_24 : decode (mj_b 191) 24 = .ok (.invokevirtual 171, 3) := by decide +kernel
theorem xd191_27 : decode (mj_b 191) 27 = .ok (.ifCond .ne 5, 3) := by decide +kernel
theorem xd191_30 : decode (mj_b 191) 30 = .ok (.iconst 1, 1) := by decide +kernel
theorem xd191_31 : decode (mj_b 191) 31 = .ok (.ireturn, 1) := by decide +kernel
theorem xd191_32 : decode (mj_b 191) 32 = .ok (.aload_n 0, 1) := by decide +kernel
theorem xd191_33 : decode (mj_b 191) 33 = .ok (.getfield 144, 3) := by decide +kernel
theorem xd191_36 : decode (mj_b 191) 36 = .ok (.aload_n 0, 1) := by decide +kernel
theorem xd191_37 : decode (mj_b 191) 37 = .ok (.getfield 141, 3) := by decide +kernel
theorem xd191_40 : decode (mj_b 191) 40 = .ok (.if_icmp .ne 5, 3) := by decide +kernel
theorem xd191_43 : decode (mj_b 191) 43 = .ok (.iconst 1, 1) := by decide +kernel
theorem xd191_44 : decode (mj_b 191) 44 = .ok (.ireturn, 1) := by decide +kernel
theorem xd191_45 : decode (mj_b 191) 45 = .ok (.aload_n 0, 1) := by decide +kernel
theorem xd191_46 : decode (mj_b 191) 46 = .ok (.bipush 44, 2) := by decide +kernel
theorem xd191_48 : decode (mj_b 191) 48 = .ok (.invokevirtual 159, 3) := by decide +kernel
theorem xd191_51 : decode (mj_b 191) 51 = .ok (.ifCond .eq 14, 3) := by decide +kernel
theorem xd191_54 : decode (mj_b 191) 54 = .ok (.aload_n 0, 1) := by decide +kernel
theorem xd191_55 : decode (mj_b 191) 55 = .ok (.invokevirtual 168, 3) := by decide +kernel
theorem xd191_58 : decode (mj_b 191) 58 = .ok (.ifCond .eq 7, 3) := by decide +kernel
theorem xd191_61 : decode (mj_b 191) 61 = .ok (.iconst 1, 1) := by decide +kernel
theorem xd191_62 : decode (mj_b 191) 62 = .ok (.goto 4, 3) := by decide +kernel
theorem xd191_65 : decode (mj_b 191) 65 = .ok (.iconst 0, 1) := by decide +kernel
theorem xd191_66 : decode (mj_b 191) 66 = .ok (.istore_n 2, 1) := by decide +kernel
theorem xd191_67 : decode (mj_b 191) 67 = .ok (.goto (-52), 3) := by decide +kernel
theorem xd191_70 : decode (mj_b 191) 70 = .ok (.iconst 0, 1) := by decide +kernel
theorem xd191_71 : decode (mj_b 191) 71 = .ok (.ireturn, 1) := by decide +kernel
theorem x191_0 {x1 : Int32} : wp Ln xs 191 0 [.ref 72, .int x1, mj_hole] [] (u, ml_h m lm) Φ = wp Ln xs 192 0 [.ref 72] [] (u, ml_h (ml_s (ml_s m 72 9 (nI 0)) 72 12 (nI 0)) lm) (mk Ln xs 191 11 [.ref 72, .int x1, mj_hole] [] Φ) := (wp_same xd191_0 (Or.inr rfl) rfl).trans ((wp_same (S' := [.int (nI 0), .ref 72]) xd191_1 (Or.inr rfl) rfl).trans ((wm_puti xd191_2 rfl (show ml_L[72]? = _ from rfl) rfl (Nat.le_of_ble_eq_true rfl) rfl rfl rfl).trans ((wp_same xd191_5 (Or.inr rfl) rfl).trans ((wp_same (S' := [.int (nI 0), .ref 72]) xd191_6 (Or.inr rfl) rfl).trans ((wm_puti xd191_7 rfl (show ml_L[72]? = _ from rfl) rfl (Nat.le_of_ble_eq_true rfl) rfl rfl rfl).trans ((wp_same xd191_10 (Or.inr rfl) rfl).trans (wm_cv (As := []) (rest := []) xd191_11 rfl rfl (show ml_L[72]? = _ from rfl) (Nat.le_of_ble_eq_true rfl) (Nat.le_of_ble_eq_true rfl) (Nat.le_of_ble_eq_true rfl) (Nat.le_of_ble_eq_true rfl))))))))
theorem x191_14 {x1 : Int32} {xs0 : Int32} : wp Ln xs 191 14 [.ref 72, .int x1, mj_hole] [.int xs0] (u, ml_h m lm) Φ = wp Ln xs 191 15 [.ref 72, .int x1, .int xs0] [] (u, ml_h m lm) Φ := wp_same (L' := [.ref 72, .int x1, .int xs0]) xd191_14 (Or.inr rfl) rfl
theorem x191_15 {x1 : Int32} {x2 : Int32} : wp Ln xs 191 15 [.ref 72, .int x1, .int x2] [] (u, ml_h m lm) Φ = if x2 = (nI 0) then wp Ln xs 191 70 [.ref 72, .int x1, .int x2] [] (u, ml_h m lm) Φ else wp Ln xs 191 19 [.ref 72, .int x1, .int x2] [] (u, ml_h m lm) Φ := (wp_same xd191_15 (Or.inr rfl) rfl).trans (wx_if xd191_16 rfl rfl (x2 = (nI 0)) mb_eq)
theorem x191_19 {x1 : Int32} {x2 : Int32} : wp Ln xs 191 19 [.ref 72, .int x1, .int x2] [] (u, ml_h m lm) Φ = if x1 = (nI 0) then wp Ln xs 191 32 [.ref 72, .int x1, .int x2] [] (u, ml_h m lm) Φ else wp Ln xs 191 23 [.ref 72, .int x1, .int x2] [] (u, ml_h m lm) Φ := (wp_same xd191_19 (Or.inr rfl) rfl).trans (wx_if xd191_20 rfl rfl (x1 = (nI 0)) mb_eq)
theorem x191_23 {x1 : Int32} {x2 : Int32} : wp Ln xs 191 23 [.ref 72, .int x1, .int x2] [] (u, ml_h m lm) Φ = wp Ln xs 197 0 [.ref 72, mj_hole] [] (u, ml_h m lm) (mk Ln xs 191 24 [.ref 72, .int x1, .int x2] [] Φ) := (wp_same xd191_23 (Or.inr rfl) rfl).trans (wm_cv (As := []) (rest := []) xd191_24 rfl rfl (show ml_L[72]? = _ from rfl) (Nat.le_of_ble_eq_true rfl) (Nat.le_of_ble_eq_true rfl) (Nat.le_of_ble_eq_true rfl) (Nat.le_of_ble_eq_true rfl))
theorem x191_27 {x1 : Int32} {x2 : Int32} {xs0 : Int32} : wp Ln xs 191 27 [.ref 72, .int x1, .int x2] [.int xs0] (u, ml_h m lm) Φ = if ¬ xs0 = (nI 0) then wp Ln xs 191 32 [.ref 72, .int x1, .int x2] [] (u, ml_h m lm) Φ else wp Ln xs 191 30 [.ref 72, .int x1, .int x2] [] (u, ml_h m lm) Φ := wx_if xd191_27 rfl rfl (¬ xs0 = (nI 0)) mb_ne
theorem x191_30 {x1 : Int32} {x2 : Int32} : wp Ln xs 191 30 [.ref 72, .int x1, .int x2] [] (u, ml_h m lm) Φ = Φ (.inl (some (.int (nI 1)))) (u, ml_h m lm) := (wp_same (S' := [.int (nI 1)]) xd191_30 (Or.inr rfl) rfl).trans (wp_fin (v := some (.int (nI 1))) xd191_31 (Or.inr rfl) rfl rfl)
theorem x191_32 {x1 : Int32} {x2 : Int32} : wp Ln xs 191 32 [.ref 72, .int x1, .int x2] [] (u, ml_h m lm) Φ = if ¬ (m 72 9) = (m 72 7) then wp Ln xs 191 45 [.ref 72, .int x1, .int x2] [] (u, ml_h m lm) Φ else wp Ln xs 191 43 [.ref 72, .int x1, .int x2] [] (u, ml_h m lm) Φ := (wp_same xd191_32 (Or.inr rfl) rfl).trans ((wm_geti xd191_33 rfl (show ml_L[72]? = _ from rfl) rfl (Nat.le_of_ble_eq_true rfl)).trans ((wp_same xd191_36 (Or.inr rfl) rfl).trans ((wm_geti xd191_37 rfl (show ml_L[72]? = _ from rfl) rfl (Nat.le_of_ble_eq_true rfl)).trans (wx_icmp xd191_40 rfl rfl (¬ (m 72 9) = (m 72 7)) mb_ne))))
theorem x191_43 {x1 : Int32} {x2 : Int32} : wp Ln xs 191 43 [.ref 72, .int x1, .int x2] [] (u, ml_h m lm) Φ = Φ (.inl (some (.int (nI 1)))) (u, ml_h m lm) := (wp_same (S' := [.int (nI 1)]) xd191_43 (Or.inr rfl) rfl).trans (wp_fin (v := some (.int (nI 1))) xd191_44 (Or.inr rfl) rfl rfl)
theorem x191_45 {x1 : Int32} {x2 : Int32} : wp Ln xs 191 45 [.ref 72, .int x1, .int x2] [] (u, ml_h m lm) Φ = wp Ln xs 195 0 [.ref 72, .int (nI 44), mj_hole] [] (u, ml_h m lm) (mk Ln xs 191 48 [.ref 72, .int x1, .int x2] [] Φ) := (wp_same xd191_45 (Or.inr rfl) rfl).trans ((wp_same (S' := [.int (nI 44), .ref 72]) xd191_46 (Or.inr rfl) rfl).trans (wm_cv (As := [.int (nI 44)]) (rest := []) xd191_48 rfl rfl (show ml_L[72]? = _ from rfl) (Nat.le_of_ble_eq_true rfl) (Nat.le_of_ble_eq_true rfl) (Nat.le_of_ble_eq_true rfl) (Nat.le_of_ble_eq_true rfl)))
theorem x191_51 {x1 : Int32} {x2 : Int32} {xs0 : Int32} : wp Ln xs 191 51 [.ref 72, .int x1, .int x2] [.int xs0] (u, ml_h m lm) Φ = if xs0 = (nI 0) then wp Ln xs 191 65 [.ref 72, .int x1, .int x2] [] (u, ml_h m lm) Φ else wp Ln xs 191 54 [.ref 72, .int x1, .int x2] [] (u, ml_h m lm) Φ := wx_if xd191_51 rfl rfl (xs0 = (nI 0)) mb_eq
theorem x191_54 {x1 : Int32} {x2 : Int32} : wp Ln xs 191 54 [.ref 72, .int x1, .int x2] [] (u, ml_h m lm) Φ = wp Ln xs 192 0 [.ref 72] [] (u, ml_h m lm) (mk Ln xs 191 55 [.ref 72, .int x1, .int x2] [] Φ) := (wp_same xd191_54 (Or.inr rfl) rfl).trans (wm_cv (As := []) (rest := []) xd191_55 rfl rfl (show ml_L[72]? = _ from rfl) (Nat.le_of_ble_eq_true rfl) (Nat.le_of_ble_eq_true rfl) (Nat.le_of_ble_eq_true rfl) (Nat.le_of_ble_eq_true rfl))
theorem x191_58 {x1 : Int32} {x2 : Int32} {xs0 : Int32} : wp Ln xs 191 58 [.ref 72, .int x1, .int x2] [.int xs0] (u, ml_h m lm) Φ = if xs0 = (nI 0) then wp Ln xs 191 65 [.ref 72, .int x1, .int x2] [] (u, ml_h m lm) Φ else wp Ln xs 191 61 [.ref 72, .int x1, .int x2] [] (u, ml_h m lm) Φ := wx_if xd191_58 rfl rfl (xs0 = (nI 0)) mb_eq
theorem x191_61 {x1 : Int32} {x2 : Int32} : wp Ln xs 191 61 [.ref 72, .int x1, .int x2] [] (u, ml_h m lm) Φ = wp Ln xs 191 66 [.ref 72, .int x1, .int x2] [.int (nI 1)] (u, ml_h m lm) Φ := (wp_same (S' := [.int (nI 1)]) xd191_61 (Or.inr rfl) rfl).trans (wx_goto xd191_62 rfl)
theorem x191_65 {x1 : Int32} {x2 : Int32} : wp Ln xs 191 65 [.ref 72, .int x1, .int x2] [] (u, ml_h m lm) Φ = wp Ln xs 191 66 [.ref 72, .int x1, .int x2] [.int (nI 0)] (u, ml_h m lm) Φ := wp_same (S' := [.int (nI 0)]) xd191_65 (Or.inr rfl) rfl
theorem x191_66 {x1 : Int32} {x2 : Int32} {xs0 : Int32} : wp Ln xs 191 66 [.ref 72, .int x1, .int x2] [.int xs0] (u, ml_h m lm) Φ = wp Ln xs 191 15 [.ref 72, .int x1, .int xs0] [] (u, ml_h m lm) Φ := (wp_same (L' := [.ref 72, .int x1, .int xs0]) xd191_66 (Or.inr rfl) rfl).trans (wx_goto xd191_67 rfl)
theorem x191_70 {x1 : Int32} {x2 : Int32} : wp Ln xs 191 70 [.ref 72, .int x1, .int x2] [] (u, ml_h m lm) Φ = Φ (.inl (some (.int (nI 0)))) (u, ml_h m lm) := (wp_same (S' := [.int (nI 0)]) xd191_70 (Or.inr rfl) rfl).trans (wp_fin (v := some (.int (nI 0))) xd191_71 (Or.inr rfl) rfl rfl)
/- PickedFormsModel.readPart -/
theorem xd192_0 : decode (mj_b 192) 0 = .ok (.aload_n 0, 1) := by decide +kernel
theorem xd192_1 : decode (mj_b 192) 1 = .ok (.iconst 1, 1) := by decide +kernel
theorem xd192_2 : decode (mj_b 192) 2 = .ok (.putfield 153, 3) := by decide +kernel
theorem xd192_5 : decode (mj_b 192) 5 = .ok (.aload_n 0, 1) := by decide +kernel
theorem xd192_6 : decode (mj_b 192) 6 = .ok (.invokevirtual 156, 3) := by decide +kernel
theorem xd192_9 : decode (mj_b 192) 9 = .ok (.ifCond .eq 23, 3) := by decide +kernel
theorem xd192_12 : decode (mj_b 192) 12 = .ok (.aload_n 0, 1) := by decide +kernel
theorem xd192_13 : decode (mj_b 192) 13 = .ok (.bipush 42, 2) := by decide +kernel
theorem xd192_15 : decode (mj_b 192) 15 = .ok (.invokevirtual 159, 3) := by decide +kernel
theorem xd192_18 : decode (mj_b 192) 18 = .ok (.ifCond .eq 10, 3) := by decide +kernel
theorem xd192_21 : decode (mj_b 192) 21 = .ok (.aload_n 0, 1) := by decide +kernel
theorem xd192_22 : decode (mj_b 192) 22 = .ok (.invokevirtual 162, 3) := by decide +kernel
theorem xd192_25 : decode (mj_b 192) 25 = .ok (.ifCond .eq 7, 3) := by decide +kernel
theorem xd192_28 : decode (mj_b 192) 28 = .ok (.iconst 1, 1) := by decide +kernel
theorem xd192_29 : decode (mj_b 192) 29 = .ok (.goto 4, 3) := by decide +kernel
theorem xd192_32 : decode (mj_b 192) 32 = .ok (.iconst 0, 1) := by decide +kernel
theorem xd192_33 : decode (mj_b 192) 33 = .ok (.ireturn, 1) := by decide +kernel
theorem x192_0 : wp Ln xs 192 0 [.ref 72] [] (u, ml_h m lm) Φ = wp Ln xs 193 0 [.ref 72] [] (u, ml_h (ml_s m 72 11 (nI 1)) lm) (mk Ln xs 192 6 [.ref 72] [] Φ) := (wp_same xd192_0 (Or.inr rfl) rfl).trans ((wp_same (S' := [.int (nI 1), .ref 72]) xd192_1 (Or.inr rfl) rfl).trans ((wm_puti xd192_2 rfl (show ml_L[72]? = _ from rfl) rfl (Nat.le_of_ble_eq_true rfl) rfl rfl rfl).trans ((wp_same xd192_5 (Or.inr rfl) rfl).trans (wm_cv (As := []) (rest := []) xd192_6 rfl rfl (show ml_L[72]? = _ from rfl) (Nat.le_of_ble_eq_true rfl) (Nat.le_of_ble_eq_true rfl) (Nat.le_of_ble_eq_true rfl) (Nat.le_of_ble_eq_true rfl)))))
theorem x192_9 {xs0 : Int32} : wp Ln xs 192 9 [.ref 72] [.int xs0] (u, ml_h m lm) Φ = if xs0 = (nI 0) then wp Ln xs 192 32 [.ref 72] [] (u, ml_h m lm) Φ else wp Ln xs 192 12 [.ref 72] [] (u, ml_h m lm) Φ := wx_if xd192_9 rfl rfl (xs0 = (nI 0)) mb_eq
theorem x192_12 : wp Ln xs 192 12 [.ref 72] [] (u, ml_h m lm) Φ = wp Ln xs 195 0 [.ref 72, .int (nI 42), mj_hole] [] (u, ml_h m lm) (mk Ln xs 192 15 [.ref 72] [] Φ) := (wp_same xd192_12 (Or.inr rfl) rfl).trans ((wp_same (S' := [.int (nI 42), .ref 72]) xd192_13 (Or.inr rfl) rfl).trans (wm_cv (As := [.int (nI 42)]) (rest := []) xd192_15 rfl rfl (show ml_L[72]? = _ from rfl) (Nat.le_of_ble_eq_true rfl) (Nat.le_of_ble_eq_true rfl) (Nat.le_of_ble_eq_true rfl) (Nat.le_of_ble_eq_true rfl)))
theorem x192_18 {xs0 : Int32} : wp Ln xs 192 18 [.ref 72] [.int xs0] (u, ml_h m lm) Φ = if xs0 = (nI 0) then wp Ln xs 192 28 [.ref 72] [] (u, ml_h m lm) Φ else wp Ln xs 192 21 [.ref 72] [] (u, ml_h m lm) Φ := wx_if xd192_18 rfl rfl (xs0 = (nI 0)) mb_eq
theorem x192_21 : wp Ln xs 192 21 [.ref 72] [] (u, ml_h m lm) Φ = wp Ln xs 196 0 [.ref 72] [] (u, ml_h m lm) (mk Ln xs 192 22 [.ref 72] [] Φ) := (wp_same xd192_21 (Or.inr rfl) rfl).trans (wm_cv (As := []) (rest := []) xd192_22 rfl rfl (show ml_L[72]? = _ from rfl) (Nat.le_of_ble_eq_true rfl) (Nat.le_of_ble_eq_true rfl) (Nat.le_of_ble_eq_true rfl) (Nat.le_of_ble_eq_true rfl))
theorem x192_25 {xs0 : Int32} : wp Ln xs 192 25 [.ref 72] [.int xs0] (u, ml_h m lm) Φ = if xs0 = (nI 0) then wp Ln xs 192 32 [.ref 72] [] (u, ml_h m lm) Φ else wp Ln xs 192 28 [.ref 72] [] (u, ml_h m lm) Φ := wx_if xd192_25 rfl rfl (xs0 = (nI 0)) mb_eq
theorem x192_28 : wp Ln xs 192 28 [.ref 72] [] (u, ml_h m lm) Φ = Φ (.inl (some (.int (nI 1)))) (u, ml_h m lm) := (wp_same (S' := [.int (nI 1)]) xd192_28 (Or.inr rfl) rfl).trans ((wx_goto xd192_29 rfl).trans (wp_fin (v := some (.int (nI 1))) xd192_33 (Or.inr rfl) rfl rfl))
theorem x192_32 : wp Ln xs 192 32 [.ref 72] [] (u, ml_h m lm) Φ = Φ (.inl (some (.int (nI 0)))) (u, ml_h m lm) := (wp_same (S' := [.int (nI 0)]) xd192_32 (Or.inr rfl) rfl).trans (wp_fin (v := some (.int (nI 0))) xd192_33 (Or.inr rfl) rfl rfl)
/- PickedFormsModel.readValue -/
theorem xd193_0 : decode (mj_b 193) 0 = .ok (.aload_n 0, 1) := by decide +kernel
theorem xd193_1 : decode (mj_b 193) 1 = .ok (.bipush 48, 2) := by decide +kernel
theorem xd193_3 : decode (mj_b 193) 3 = .ok (.bipush 57, 2) := by decide +kernel
theorem xd193_5 : decode (mj_b 193) 5 = .ok (.invokevirtual 147, 3) := by decide +kernel
theorem xd193_8 : decode (mj_b 193) 8 = .ok (.ifCond .ne 5, 3) := by decide +kernel
theorem xd193_11 : decode (mj_b 193) 11 = .ok (.iconst 0, 1) := by decide +kernel
theorem xd193_12 : decode (mj_b 193) 12 = .ok (.ireturn, 1) := by decide +kernel
theorem xd193_13 : decode (mj_b 193) 13 = .ok (.aload_n 0, 1) := by decide +kernel
theorem xd193_14 : decode (mj_b 193) 14 = .ok (.aload_n 0, 1) := by decide +kernel
theorem xd193_15 : decode (mj_b 193) 15 = .ok (.getfield 22, 3) := by decide +kernel
theorem xd193_18 : decode (mj_b 193) 18 = .ok (.aload_n 0, 1) := by decide +kernel
theorem xd193_19 : decode (mj_b 193) 19 = .ok (.getfield 144, 3) := by decide +kernel
theorem xd193_22 : decode (mj_b 193) 22 = .ok (.iaload, 1) := by decide +kernel
theorem xd193_23 : decode (mj_b 193) 23 = .ok (.bipush 48, 2) := by decide +kernel
theorem xd193_25 : decode (mj_b 193) 25 = .ok (.isub, 1) := by decide +kernel
theorem xd193_26 : decode (mj_b 193) 26 = .ok (.putfield 150, 3) := by decide +kernel
theorem xd193_29 : decode (mj_b 193) 29 = .ok (.aload_n 0, 1) := by decide +kernel
theorem xd193_30 : decode (mj_b 193) 30 = .ok (.dup, 1) := by decide +kernel
theorem xd193_31 : decode (mj_b 193) 31 = .ok (.getfield 144, 3) := by decide +kernel
theorem xd193_34 : decode (mj_b 193) 34 = .ok (.iconst 1, 1) := by decide +kernel
theorem xd193_35 : decode (mj_b 193) 35 = .ok (.iadd, 1) := by decide +kernel
theorem xd193_36 : decode (mj_b 193) 36 = .ok (.putfield 144, 3) := by decide +kernel
theorem xd193_39 : decode (mj_b 193) 39 = .ok (.aload_n 0, 1) := by decide +kernel
theorem xd193_40 : decode (mj_b 193) 40 = .ok (.getfield 150, 3) := by decide +kernel
theorem xd193_43 : decode (mj_b 193) 43 = .ok (.ifCond .le 77, 3) := by decide +kernel
theorem xd193_46 : decode (mj_b 193) 46 = .ok (.aload_n 0, 1) := by decide +kernel
theorem xd193_47 : decode (mj_b 193) 47 = .ok (.bipush 48, 2) := by decide +kernel
theorem xd193_49 : decode (mj_b 193) 49 = .ok (.bipush 57, 2) := by decide +kernel
theorem xd193_51 : decode (mj_b 193) 51 = .ok (.invokevirtual 147, 3) := by decide +kernel
theorem xd193_54 : decode (mj_b 193) 54 = .ok (.ifCond .eq 66, 3) := by decide +kernel
theorem xd193_57 : decode (mj_b 193) 57 = .ok (.bipush 10, 2) := by decide +kernel
theorem xd193_59 : decode (mj_b 193) 59 = .ok (.aload_n 0, 1) := by decide +kernel
theorem xd193_60 : decode (mj_b 193) 60 = .ok (.getfield 150, 3) := by decide +kernel
theorem xd193_63 : decode (mj_b 193) 63 = .ok (.imul, 1) := by decide +kernel
theorem xd193_64 : decode (mj_b 193) 64 = .ok (.aload_n 0, 1) := by decide +kernel
theorem xd193_65 : decode (mj_b 193) 65 = .ok (.getfield 22, 3) := by decide +kernel
theorem xd193_68 : decode (mj_b 193) 68 = .ok (.aload_n 0, 1) := by decide +kernel
theorem xd193_69 : decode (mj_b 193) 69 = .ok (.getfield 144, 3) := by decide +kernel
theorem xd193_72 : decode (mj_b 193) 72 = .ok (.iaload, 1) := by decide +kernel
theorem xd193_73 : decode (mj_b 193) 73 = .ok (.iadd, 1) := by decide +kernel
theorem xd193_74 : decode (mj_b 193) 74 = .ok (.bipush 48, 2) := by decide +kernel
theorem xd193_76 : decode (mj_b 193) 76 = .ok (.isub, 1) := by decide +kernel
theorem xd193_77 : decode (mj_b 193) 77 = .ok (.sipush 999, 3) := by decide +kernel
theorem xd193_80 : decode (mj_b 193) 80 = .ok (.if_icmp .gt 40, 3) := by decide +kernel
theorem xd193_83 : decode (mj_b 193) 83 = .ok (.aload_n 0, 1) := by decide +kernel
theorem xd193_84 : decode (mj_b 193) 84 = .ok (.bipush 10, 2) := by decide +kernel
theorem xd193_86 : decode (mj_b 193) 86 = .ok (.aload_n 0, 1) := by decide +kernel
theorem xd193_87 : decode (mj_b 193) 87 = .ok (.getfield 150, 3) := by decide +kernel
theorem xd193_90 : decode (mj_b 193) 90 = .ok (.imul, 1) := by decide +kernel
theorem xd193_91 : decode (mj_b 193) 91 = .ok (.aload_n 0, 1) := by decide +kernel
theorem xd193_92 : decode (mj_b 193) 92 = .ok (.getfield 22, 3) := by decide +kernel
theorem xd193_95 : decode (mj_b 193) 95 = .ok (.aload_n 0, 1) := by decide +kernel
theorem xd193_96 : decode (mj_b 193) 96 = .ok (.getfield 144, 3) := by decide +kernel
theorem xd193_99 : decode (mj_b 193) 99 = .ok (.iaload, 1) := by decide +kernel
theorem xd193_100 : decode (mj_b 193) 100 = .ok (.iadd, 1) := by decide +kernel
theorem xd193_101 : decode (mj_b 193) 101 = .ok (.bipush 48, 2) := by decide +kernel
theorem xd193_103 : decode (mj_b 193) 103 = .ok (.isub, 1) := by decide +kernel
theorem xd193_104 : decode (mj_b 193) 104 = .ok (.putfield 150, 3) := by decide +kernel
theorem xd193_107 : decode (mj_b 193) 107 = .ok (.aload_n 0, 1) := by decide +kernel
theorem xd193_108 : decode (mj_b 193) 108 = .ok (.dup, 1) := by decide +kernel
theorem xd193_109 : decode (mj_b 193) 109 = .ok (.getfield 144, 3) := by decide +kernel
theorem xd193_112 : decode (mj_b 193) 112 = .ok (.iconst 1, 1) := by decide +kernel
theorem xd193_113 : decode (mj_b 193) 113 = .ok (.iadd, 1) := by decide +kernel
theorem xd193_114 : decode (mj_b 193) 114 = .ok (.putfield 144, 3) := by decide +kernel
theorem xd193_117 : decode (mj_b 193) 117 = .ok (.goto (-78), 3) := by decide +kernel
theorem xd193_120 : decode (mj_b 193) 120 = .ok (.iconst 1, 1) := by decide +kernel
theorem xd193_121 : decode (mj_b 193) 121 = .ok (.ireturn, 1) := by decide +kernel
theorem x193_0 : wp Ln xs 193 0 [.ref 72] [] (u, ml_h m lm) Φ = wp Ln xs 194 0 [.ref 72, .int (nI 48), .int (nI 57)] [] (u, ml_h m lm) (mk Ln xs 193 5 [.ref 72] [] Φ) := (wp_same xd193_0 (Or.inr rfl) rfl).trans ((wp_same (S' := [.int (nI 48), .ref 72]) xd193_1 (Or.inr rfl) rfl).trans ((wp_same (S' := [.int (nI 57), .int (nI 48), .ref 72]) xd193_3 (Or.inr rfl) rfl).trans (wm_cv (As := [.int (nI 48), .int (nI 57)]) (rest := []) xd193_5 rfl rfl (show ml_L[72]? = _ from rfl) (Nat.le_of_ble_eq_true rfl) (Nat.le_of_ble_eq_true rfl) (Nat.le_of_ble_eq_true rfl) (Nat.le_of_ble_eq_true rfl))))
theorem x193_8 {xs0 : Int32} : wp Ln xs 193 8 [.ref 72] [.int xs0] (u, ml_h m lm) Φ = if ¬ xs0 = (nI 0) then wp Ln xs 193 13 [.ref 72] [] (u, ml_h m lm) Φ else wp Ln xs 193 11 [.ref 72] [] (u, ml_h m lm) Φ := wx_if xd193_8 rfl rfl (¬ xs0 = (nI 0)) mb_ne
theorem x193_11 : wp Ln xs 193 11 [.ref 72] [] (u, ml_h m lm) Φ = Φ (.inl (some (.int (nI 0)))) (u, ml_h m lm) := (wp_same (S' := [.int (nI 0)]) xd193_11 (Or.inr rfl) rfl).trans (wp_fin (v := some (.int (nI 0))) xd193_12 (Or.inr rfl) rfl rfl)
theorem x193_13 : wp Ln xs 193 13 [.ref 72] [] (u, ml_h m lm) Φ = wp Ln xs 193 22 [.ref 72] [.int (m 72 9), .ref 77, .ref 72] (u, ml_h m lm) Φ := (wp_same xd193_13 (Or.inr rfl) rfl).trans ((wp_same xd193_14 (Or.inr rfl) rfl).trans ((wm_getr xd193_15 rfl (show ml_L[72]? = _ from rfl) rfl (Nat.le_of_ble_eq_true rfl)).trans ((wp_same xd193_18 (Or.inr rfl) rfl).trans (wm_geti xd193_19 rfl (show ml_L[72]? = _ from rfl) rfl (Nat.le_of_ble_eq_true rfl)))))
theorem x193_22 {k : Nat} (hk : k < 60) : wp Ln xs 193 22 [.ref 72] [.int (nI k), .ref 77, .ref 72] (u, ml_h m lm) Φ = wp Ln xs 193 39 [.ref 72] [] (u, ml_h (ml_s (ml_s m 72 10 ((m 77 k) - (nI 48))) 72 9 (((ml_s m 72 10 ((m 77 k) - (nI 48))) 72 9) + (nI 1))) lm) Φ := (wm_iald (k := k) xd193_22 ml_ia_77 (by decide) hk).trans ((wp_same (S' := [.int (nI 48), .int (m 77 k), .ref 72]) xd193_23 (Or.inr rfl) rfl).trans ((wp_same xd193_25 (Or.inr rfl) rfl).trans ((wm_puti xd193_26 rfl (show ml_L[72]? = _ from rfl) rfl (Nat.le_of_ble_eq_true rfl) rfl rfl rfl).trans ((wp_same xd193_29 (Or.inr rfl) rfl).trans ((wp_same xd193_30 (Or.inr rfl) rfl).trans ((wm_geti xd193_31 rfl (show ml_L[72]? = _ from rfl) rfl (Nat.le_of_ble_eq_true rfl)).trans ((wp_same (S' := [.int (nI 1), .int ((ml_s m 72 10 ((m 77 k) - (nI 48))) 72 9), .ref 72]) xd193_34 (Or.inr rfl) rfl).trans ((wp_same xd193_35 (Or.inr rfl) rfl).trans (wm_puti xd193_36 rfl (show ml_L[72]? = _ from rfl) rfl (Nat.le_of_ble_eq_true rfl) rfl rfl rfl)))))))))
theorem x193_39 : wp Ln xs 193 39 [.ref 72] [] (u, ml_h m lm) Φ = if (m 72 10) ≤ (nI 0) then wp Ln xs 193 120 [.ref 72] [] (u, ml_h m lm) Φ else wp Ln xs 193 46 [.ref 72] [] (u, ml_h m lm) Φ := (wp_same xd193_39 (Or.inr rfl) rfl).trans ((wm_geti xd193_40 rfl (show ml_L[72]? = _ from rfl) rfl (Nat.le_of_ble_eq_true rfl)).trans (wx_if xd193_43 rfl rfl ((m 72 10) ≤ (nI 0)) mb_le))
theorem x193_46 : wp Ln xs 193 46 [.ref 72] [] (u, ml_h m lm) Φ = wp Ln xs 194 0 [.ref 72, .int (nI 48), .int (nI 57)] [] (u, ml_h m lm) (mk Ln xs 193 51 [.ref 72] [] Φ) := (wp_same xd193_46 (Or.inr rfl) rfl).trans ((wp_same (S' := [.int (nI 48), .ref 72]) xd193_47 (Or.inr rfl) rfl).trans ((wp_same (S' := [.int (nI 57), .int (nI 48), .ref 72]) xd193_49 (Or.inr rfl) rfl).trans (wm_cv (As := [.int (nI 48), .int (nI 57)]) (rest := []) xd193_51 rfl rfl (show ml_L[72]? = _ from rfl) (Nat.le_of_ble_eq_true rfl) (Nat.le_of_ble_eq_true rfl) (Nat.le_of_ble_eq_true rfl) (Nat.le_of_ble_eq_true rfl))))
theorem x193_54 {xs0 : Int32} : wp Ln xs 193 54 [.ref 72] [.int xs0] (u, ml_h m lm) Φ = if xs0 = (nI 0) then wp Ln xs 193 120 [.ref 72] [] (u, ml_h m lm) Φ else wp Ln xs 193 57 [.ref 72] [] (u, ml_h m lm) Φ := wx_if xd193_54 rfl rfl (xs0 = (nI 0)) mb_eq
theorem x193_57 : wp Ln xs 193 57 [.ref 72] [] (u, ml_h m lm) Φ = wp Ln xs 193 72 [.ref 72] [.int (m 72 9), .ref 77, .int ((nI 10) * (m 72 10))] (u, ml_h m lm) Φ := (wp_same (S' := [.int (nI 10)]) xd193_57 (Or.inr rfl) rfl).trans ((wp_same xd193_59 (Or.inr rfl) rfl).trans ((wm_geti xd193_60 rfl (show ml_L[72]? = _ from rfl) rfl (Nat.le_of_ble_eq_true rfl)).trans ((wp_same xd193_63 (Or.inr rfl) rfl).trans ((wp_same xd193_64 (Or.inr rfl) rfl).trans ((wm_getr xd193_65 rfl (show ml_L[72]? = _ from rfl) rfl (Nat.le_of_ble_eq_true rfl)).trans ((wp_same xd193_68 (Or.inr rfl) rfl).trans (wm_geti xd193_69 rfl (show ml_L[72]? = _ from rfl) rfl (Nat.le_of_ble_eq_true rfl))))))))
theorem x193_72 {k : Nat} {xs2 : Int32} (hk : k < 60) : wp Ln xs 193 72 [.ref 72] [.int (nI k), .ref 77, .int xs2] (u, ml_h m lm) Φ = if (nI 999) < ((xs2 + (m 77 k)) - (nI 48)) then wp Ln xs 193 120 [.ref 72] [] (u, ml_h m lm) Φ else wp Ln xs 193 83 [.ref 72] [] (u, ml_h m lm) Φ := (wm_iald (k := k) xd193_72 ml_ia_77 (by decide) hk).trans ((wp_same xd193_73 (Or.inr rfl) rfl).trans ((wp_same (S' := [.int (nI 48), .int (xs2 + (m 77 k))]) xd193_74 (Or.inr rfl) rfl).trans ((wp_same xd193_76 (Or.inr rfl) rfl).trans ((wp_same (S' := [.int (nI 999), .int ((xs2 + (m 77 k)) - (nI 48))]) xd193_77 (Or.inr rfl) rfl).trans (wx_icmp xd193_80 rfl rfl ((nI 999) < ((xs2 + (m 77 k)) - (nI 48))) mb_gt)))))
theorem x193_83 : wp Ln xs 193 83 [.ref 72] [] (u, ml_h m lm) Φ = wp Ln xs 193 99 [.ref 72] [.int (m 72 9), .ref 77, .int ((nI 10) * (m 72 10)), .ref 72] (u, ml_h m lm) Φ := (wp_same xd193_83 (Or.inr rfl) rfl).trans ((wp_same (S' := [.int (nI 10), .ref 72]) xd193_84 (Or.inr rfl) rfl).trans ((wp_same xd193_86 (Or.inr rfl) rfl).trans ((wm_geti xd193_87 rfl (show ml_L[72]? = _ from rfl) rfl (Nat.le_of_ble_eq_true rfl)).trans ((wp_same xd193_90 (Or.inr rfl) rfl).trans ((wp_same xd193_91 (Or.inr rfl) rfl).trans ((wm_getr xd193_92 rfl (show ml_L[72]? = _ from rfl) rfl (Nat.le_of_ble_eq_true rfl)).trans ((wp_same xd193_95 (Or.inr rfl) rfl).trans (wm_geti xd193_96 rfl (show ml_L[72]? = _ from rfl) rfl (Nat.le_of_ble_eq_true rfl)))))))))
theorem x193_99 {k : Nat} {xs2 : Int32} (hk : k < 60) : wp Ln xs 193 99 [.ref 72] [.int (nI k), .ref 77, .int xs2, .ref 72] (u, ml_h m lm) Φ = wp Ln xs 193 39 [.ref 72] [] (u, ml_h (ml_s (ml_s m 72 10 ((xs2 + (m 77 k)) - (nI 48))) 72 9 (((ml_s m 72 10 ((xs2 + (m 77 k)) - (nI 48))) 72 9) + (nI 1))) lm) Φ := (wm_iald (k := k) xd193_99 ml_ia_77 (by decide) hk).trans ((wp_same xd193_100 (Or.inr rfl) rfl).trans ((wp_same (S' := [.int (nI 48), .int (xs2 + (m 77 k)), .ref 72]) xd193_101 (Or.inr rfl) rfl).trans ((wp_same xd193_103 (Or.inr rfl) rfl).trans ((wm_puti xd193_104 rfl (show ml_L[72]? = _ from rfl) rfl (Nat.le_of_ble_eq_true rfl) rfl rfl rfl).trans ((wp_same xd193_107 (Or.inr rfl) rfl).trans ((wp_same xd193_108 (Or.inr rfl) rfl).trans ((wm_geti xd193_109 rfl (show ml_L[72]? = _ from rfl) rfl (Nat.le_of_ble_eq_true rfl)).trans ((wp_same (S' := [.int (nI 1), .int ((ml_s m 72 10 ((xs2 + (m 77 k)) - (nI 48))) 72 9), .ref 72]) xd193_112 (Or.inr rfl) rfl).trans ((wp_same xd193_113 (Or.inr rfl) rfl).trans ((wm_puti xd193_114 rfl (show ml_L[72]? = _ from rfl) rfl (Nat.le_of_ble_eq_true rfl) rfl rfl rfl).trans (wx_goto xd193_117 rfl)))))))))))
theorem x193_120 : wp Ln xs 193 120 [.ref 72] [] (u, ml_h m lm) Φ = Φ (.inl (some (.int (nI 1)))) (u, ml_h m lm) := (wp_same (S' := [.int (nI 1)]) xd193_120 (Or.inr rfl) rfl).trans (wp_fin (v := some (.int (nI 1))) xd193_121 (Or.inr rfl) rfl rfl)
/- PickedFormsModel.isNext -/
theorem xd194_0 : decode (mj_b 194) 0 = .ok (.aload_n 0, 1) := by decide +kernel
theorem xd194_1 : decode (mj_b 194) 1 = .ok (.getfield 144, 3) := by decide +kernel
theorem xd194_4 : decode (mj_b 194) 4 = .ok (.aload_n 0, 1) := by decide +kernel
theorem xd194_5 : decode (mj_b 194) 5 = .ok (.getfield 141, 3) := by decide +kernel
theorem xd194_8 : decode (mj_b 194) 8 = .ok (.if_icmp .ge 24, 3) := by decide +kernel
theorem xd194_11 : decode (mj_b 194) 11 = .ok (.aload_n 0, 1) := by decide +kernel
theorem xd194_12 : decode (mj_b 194) 12 = .ok (.getfield 22, 3) := by decide +kernel
theorem xd194_15 : decode (mj_b 194) 15 = .ok (.aload_n 0, 1) := by decide +kernel
theorem xd194_16 : decode (mj_b 194) 16 = .ok (.getfield 144, 3) := by decide +kernel
theorem xd194_19 : decode (mj_b 194) 19 = .ok (.iaload, 1) := by decide +kernel
theorem xd194_20 : decode (mj_b 194) 20 = .ok (.iload_n 1, 1) := by decide +kernel
theorem xd194_21 : decode (mj_b 194) 21 = .ok (.iload_n 2, 1) := by decide +kernel
theorem xd194_22 : decode (mj_b 194) 22 = .ok (.invokestatic 38, 3) := by decide +kernel
theorem xd194_25 : decode (mj_b 194) 25 = .ok (.ifCond .eq 7, 3) := by decide +kernel
theorem xd194_28 : decode (mj_b 194) 28 = .ok (.iconst 1, 1) := by decide +kernel
theorem xd194_29 : decode (mj_b 194) 29 = .ok (.goto 4, 3) := by decide +kernel
theorem xd194_32 : decode (mj_b 194) 32 = .ok (.iconst 0, 1) := by decide +kernel
theorem xd194_33 : decode (mj_b 194) 33 = .ok (.ireturn, 1) := by decide +kernel
theorem x194_0 {x1 : Int32} {x2 : Int32} : wp Ln xs 194 0 [.ref 72, .int x1, .int x2] [] (u, ml_h m lm) Φ = if (m 72 7) ≤ (m 72 9) then wp Ln xs 194 32 [.ref 72, .int x1, .int x2] [] (u, ml_h m lm) Φ else wp Ln xs 194 11 [.ref 72, .int x1, .int x2] [] (u, ml_h m lm) Φ := (wp_same xd194_0 (Or.inr rfl) rfl).trans ((wm_geti xd194_1 rfl (show ml_L[72]? = _ from rfl) rfl (Nat.le_of_ble_eq_true rfl)).trans ((wp_same xd194_4 (Or.inr rfl) rfl).trans ((wm_geti xd194_5 rfl (show ml_L[72]? = _ from rfl) rfl (Nat.le_of_ble_eq_true rfl)).trans (wx_icmp xd194_8 rfl rfl ((m 72 7) ≤ (m 72 9)) mb_ge))))
theorem x194_11 {x1 : Int32} {x2 : Int32} : wp Ln xs 194 11 [.ref 72, .int x1, .int x2] [] (u, ml_h m lm) Φ = wp Ln xs 194 19 [.ref 72, .int x1, .int x2] [.int (m 72 9), .ref 77] (u, ml_h m lm) Φ := (wp_same xd194_11 (Or.inr rfl) rfl).trans ((wm_getr xd194_12 rfl (show ml_L[72]? = _ from rfl) rfl (Nat.le_of_ble_eq_true rfl)).trans ((wp_same xd194_15 (Or.inr rfl) rfl).trans (wm_geti xd194_16 rfl (show ml_L[72]? = _ from rfl) rfl (Nat.le_of_ble_eq_true rfl))))
theorem x194_19 {x1 : Int32} {x2 : Int32} {k : Nat} (hk : k < 60) : wp Ln xs 194 19 [.ref 72, .int x1, .int x2] [.int (nI k), .ref 77] (u, ml_h m lm) Φ = wp Ln xs 152 0 [.int (m 77 k), .int x1, .int x2] [] (u, ml_h m lm) (mk Ln xs 194 22 [.ref 72, .int x1, .int x2] [] Φ) := (wm_iald (k := k) xd194_19 ml_ia_77 (by decide) hk).trans ((wp_same xd194_20 (Or.inr rfl) rfl).trans ((wp_same xd194_21 (Or.inr rfl) rfl).trans (wm_cs (As := [.int (m 77 k), .int x1, .int x2]) (rest := []) xd194_22 rfl rfl (Nat.le_of_ble_eq_true rfl) (Nat.le_of_ble_eq_true rfl) (Nat.le_of_ble_eq_true rfl) (Nat.le_of_ble_eq_true rfl))))
theorem x194_25 {x1 : Int32} {x2 : Int32} {xs0 : Int32} : wp Ln xs 194 25 [.ref 72, .int x1, .int x2] [.int xs0] (u, ml_h m lm) Φ = if xs0 = (nI 0) then wp Ln xs 194 32 [.ref 72, .int x1, .int x2] [] (u, ml_h m lm) Φ else wp Ln xs 194 28 [.ref 72, .int x1, .int x2] [] (u, ml_h m lm) Φ := wx_if xd194_25 rfl rfl (xs0 = (nI 0)) mb_eq
theorem x194_28 {x1 : Int32} {x2 : Int32} : wp Ln xs 194 28 [.ref 72, .int x1, .int x2] [] (u, ml_h m lm) Φ = Φ (.inl (some (.int (nI 1)))) (u, ml_h m lm) := (wp_same (S' := [.int (nI 1)]) xd194_28 (Or.inr rfl) rfl).trans ((wx_goto xd194_29 rfl).trans (wp_fin (v := some (.int (nI 1))) xd194_33 (Or.inr rfl) rfl rfl))
theorem x194_32 {x1 : Int32} {x2 : Int32} : wp Ln xs 194 32 [.ref 72, .int x1, .int x2] [] (u, ml_h m lm) Φ = Φ (.inl (some (.int (nI 0)))) (u, ml_h m lm) := (wp_same (S' := [.int (nI 0)]) xd194_32 (Or.inr rfl) rfl).trans (wp_fin (v := some (.int (nI 0))) xd194_33 (Or.inr rfl) rfl rfl)
/- PickedFormsModel.takes -/
theorem xd195_0 : decode (mj_b 195) 0 = .ok (.aload_n 0, 1) := by decide +kernel
theorem xd195_1 : decode (mj_b 195) 1 = .ok (.iload_n 1, 1) := by decide +kernel
theorem xd195_2 : decode (mj_b 195) 2 = .ok (.iload_n 1, 1) := by decide +kernel
theorem xd195_3 : decode (mj_b 195) 3 = .ok (.invokevirtual 147, 3) := by decide +kernel
theorem xd195_6 : decode (mj_b 195) 6 = .ok (.istore_n 2, 1) := by decide +kernel
theorem xd195_7 : decode (mj_b 195) 7 = .ok (.aload_n 0, 1) := by decide +kernel
theorem xd195_8 : decode (mj_b 195) 8 = .ok (.dup, 1) := by decide +kernel
theorem xd195_9 : decode (mj_b 195) 9 = .ok (.getfield 144, 3) := by decide +kernel
theorem xd195_12 : decode (mj_b 195) 12 = .ok (.iload_n 2, 1) := by decide +kernel
theorem xd195_13 : decode (mj_b 195) 13 = .ok (.ifCond .eq 7, 3) := by decide +kernel
theorem xd195_16 : decode (mj_b 195) 16 = .ok (.iconst 1, 1) := by decide +kernel
theorem xd195_17 : decode (mj_b 195) 17 = .ok (.goto 4, 3) := by decide +kernel
theorem xd195_20 : decode (mj_b 195) 20 = .ok (.iconst 0, 1) := by decide +kernel
theorem xd195_21 : decode (mj_b 195) 21 = .ok (.iadd, 1) := by decide +kernel
theorem xd195_22 : decode (mj_b 195) 22 = .ok (.putfield 144, 3) := by decide +kernel
theorem xd195_25 : decode (mj_b 195) 25 = .ok (.iload_n 2, 1) := by decide +kernel
theorem xd195_26 : decode (mj_b 195) 26 = .ok (.ireturn, 1) := by decide +kernel
theorem x195_0 {x1 : Int32} : wp Ln xs 195 0 [.ref 72, .int x1, mj_hole] [] (u, ml_h m lm) Φ = wp Ln xs 194 0 [.ref 72, .int x1, .int x1] [] (u, ml_h m lm) (mk Ln xs 195 3 [.ref 72, .int x1, mj_hole] [] Φ) := (wp_same xd195_0 (Or.inr rfl) rfl).trans ((wp_same xd195_1 (Or.inr rfl) rfl).trans ((wp_same xd195_2 (Or.inr rfl) rfl).trans (wm_cv (As := [.int x1, .int x1]) (rest := []) xd195_3 rfl rfl (show ml_L[72]? = _ from rfl) (Nat.le_of_ble_eq_true rfl) (Nat.le_of_ble_eq_true rfl) (Nat.le_of_ble_eq_true rfl) (Nat.le_of_ble_eq_true rfl))))
theorem x195_6 {x1 : Int32} {xs0 : Int32} : wp Ln xs 195 6 [.ref 72, .int x1, mj_hole] [.int xs0] (u, ml_h m lm) Φ = if xs0 = (nI 0) then wp Ln xs 195 20 [.ref 72, .int x1, .int xs0] [.int (m 72 9), .ref 72] (u, ml_h m lm) Φ else wp Ln xs 195 16 [.ref 72, .int x1, .int xs0] [.int (m 72 9), .ref 72] (u, ml_h m lm) Φ := (wp_same (L' := [.ref 72, .int x1, .int xs0]) xd195_6 (Or.inr rfl) rfl).trans ((wp_same xd195_7 (Or.inr rfl) rfl).trans ((wp_same xd195_8 (Or.inr rfl) rfl).trans ((wm_geti xd195_9 rfl (show ml_L[72]? = _ from rfl) rfl (Nat.le_of_ble_eq_true rfl)).trans ((wp_same xd195_12 (Or.inr rfl) rfl).trans (wx_if xd195_13 rfl rfl (xs0 = (nI 0)) mb_eq)))))
theorem x195_16 {x1 : Int32} {x2 : Int32} {xs0 : Int32} : wp Ln xs 195 16 [.ref 72, .int x1, .int x2] [.int xs0, .ref 72] (u, ml_h m lm) Φ = wp Ln xs 195 21 [.ref 72, .int x1, .int x2] [.int (nI 1), .int xs0, .ref 72] (u, ml_h m lm) Φ := (wp_same (S' := [.int (nI 1), .int xs0, .ref 72]) xd195_16 (Or.inr rfl) rfl).trans (wx_goto xd195_17 rfl)
theorem x195_20 {x1 : Int32} {x2 : Int32} {xs0 : Int32} : wp Ln xs 195 20 [.ref 72, .int x1, .int x2] [.int xs0, .ref 72] (u, ml_h m lm) Φ = wp Ln xs 195 21 [.ref 72, .int x1, .int x2] [.int (nI 0), .int xs0, .ref 72] (u, ml_h m lm) Φ := wp_same (S' := [.int (nI 0), .int xs0, .ref 72]) xd195_20 (Or.inr rfl) rfl
theorem x195_21 {x1 : Int32} {x2 : Int32} {xs0 : Int32} {xs1 : Int32} (hz : mj_fin 195 [.int x2] .ireturn = some (some (.int x2))) : wp Ln xs 195 21 [.ref 72, .int x1, .int x2] [.int xs0, .int xs1, .ref 72] (u, ml_h m lm) Φ = Φ (.inl (some (.int x2))) (u, ml_h (ml_s m 72 9 (xs1 + xs0)) lm) := (wp_same xd195_21 (Or.inr rfl) rfl).trans ((wm_puti xd195_22 rfl (show ml_L[72]? = _ from rfl) rfl (Nat.le_of_ble_eq_true rfl) rfl rfl rfl).trans ((wp_same xd195_25 (Or.inr rfl) rfl).trans (wp_fin xd195_26 (Or.inr rfl) rfl hz)))
/- PickedFormsModel.readTimes -/
theorem xd196_0 : decode (mj_b 196) 0 = .ok (.aload_n 0, 1) := by decide +kernel
theorem xd196_1 : decode (mj_b 196) 1 = .ok (.bipush 49, 2) := by decide +kernel
theorem xd196_3 : decode (mj_b 196) 3 = .ok (.bipush 57, 2) := by decide +kernel
theorem xd196_5 : decode (mj_b 196) 5 = .ok (.invokevirtual 147, 3) := by decide +kernel
theorem xd196_8 : decode (mj_b 196) 8 = .ok (.ifCond .ne 5, 3) := by decide +kernel
theorem xd196_11 : decode (mj_b 196) 11 = .ok (.iconst 0, 1) := by decide +kernel
theorem xd196_12 : decode (mj_b 196) 12 = .ok (.ireturn, 1) := by decide +kernel
theorem xd196_13 : decode (mj_b 196) 13 = .ok (.aload_n 0, 1) := by decide +kernel
theorem xd196_14 : decode (mj_b 196) 14 = .ok (.aload_n 0, 1) := by decide +kernel
theorem xd196_15 : decode (mj_b 196) 15 = .ok (.getfield 22, 3) := by decide +kernel
theorem xd196_18 : decode (mj_b 196) 18 = .ok (.aload_n 0, 1) := by decide +kernel
theorem xd196_19 : decode (mj_b 196) 19 = .ok (.getfield 144, 3) := by decide +kernel
theorem xd196_22 : decode (mj_b 196) 22 = .ok (.iaload, 1) := by decide +kernel
theorem xd196_23 : decode (mj_b 196) 23 = .ok (.bipush 48, 2) := by decide +kernel
theorem xd196_25 : decode (mj_b 196) 25 = .ok (.isub, 1) := by decide +kernel
theorem xd196_26 : decode (mj_b 196) 26 = .ok (.putfield 153, 3) := by decide +kernel
theorem xd196_29 : decode (mj_b 196) 29 = .ok (.aload_n 0, 1) := by decide +kernel
theorem xd196_30 : decode (mj_b 196) 30 = .ok (.dup, 1) := by decide +kernel
theorem xd196_31 : decode (mj_b 196) 31 = .ok (.getfield 144, 3) := by decide +kernel
theorem xd196_34 : decode (mj_b 196) 34 = .ok (.iconst 1, 1) := by decide +kernel
theorem xd196_35 : decode (mj_b 196) 35 = .ok (.iadd, 1) := by decide +kernel
theorem xd196_36 : decode (mj_b 196) 36 = .ok (.putfield 144, 3) := by decide +kernel
theorem xd196_39 : decode (mj_b 196) 39 = .ok (.aload_n 0, 1) := by decide +kernel
theorem xd196_40 : decode (mj_b 196) 40 = .ok (.getfield 153, 3) := by decide +kernel
theorem xd196_43 : decode (mj_b 196) 43 = .ok (.iconst 1, 1) := by decide +kernel
theorem xd196_44 : decode (mj_b 196) 44 = .ok (.if_icmp .le 5, 3) := by decide +kernel
theorem xd196_47 : decode (mj_b 196) 47 = .ok (.iconst 1, 1) := by decide +kernel
theorem xd196_48 : decode (mj_b 196) 48 = .ok (.ireturn, 1) := by decide +kernel
theorem xd196_49 : decode (mj_b 196) 49 = .ok (.aload_n 0, 1) := by decide +kernel
theorem xd196_50 : decode (mj_b 196) 50 = .ok (.bipush 48, 2) := by decide +kernel
theorem xd196_52 : decode (mj_b 196) 52 = .ok (.bipush 54, 2) := by decide +kernel
theorem xd196_54 : decode (mj_b 196) 54 = .ok (.invokevirtual 147, 3) := by decide +kernel
theorem xd196_57 : decode (mj_b 196) 57 = .ok (.ifCond .ne 5, 3) := by decide +kernel
theorem xd196_60 : decode (mj_b 196) 60 = .ok (.iconst 0, 1) := by decide +kernel
theorem xd196_61 : decode (mj_b 196) 61 = .ok (.ireturn, 1) := by decide +kernel
theorem xd196_62 : decode (mj_b 196) 62 = .ok (.aload_n 0, 1) := by decide +kernel
theorem xd196_63 : decode (mj_b 196) 63 = .ok (.bipush 10, 2) := by decide +kernel
theorem xd196_65 : decode (mj_b 196) 65 = .ok (.aload_n 0, 1) := by decide +kernel
theorem xd196_66 : decode (mj_b 196) 66 = .ok (.getfield 22, 3) := by decide +kernel
theorem xd196_69 : decode (mj_b 196) 69 = .ok (.aload_n 0, 1) := by decide +kernel
theorem xd196_70 : decode (mj_b 196) 70 = .ok (.getfield 144, 3) := by decide +kernel
theorem xd196_73 : decode (mj_b 196) 73 = .ok (.iaload, 1) := by decide +kernel
theorem xd196_74 : decode (mj_b 196) 74 = .ok (.iadd, 1) := by decide +kernel
theorem xd196_75 : decode (mj_b 196) 75 = .ok (.bipush 48, 2) := by decide +kernel
theorem xd196_77 : decode (mj_b 196) 77 = .ok (.isub, 1) := by decide +kernel
theorem xd196_78 : decode (mj_b 196) 78 = .ok (.putfield 153, 3) := by decide +kernel
theorem xd196_81 : decode (mj_b 196) 81 = .ok (.aload_n 0, 1) := by decide +kernel
theorem xd196_82 : decode (mj_b 196) 82 = .ok (.dup, 1) := by decide +kernel
theorem xd196_83 : decode (mj_b 196) 83 = .ok (.getfield 144, 3) := by decide +kernel
theorem xd196_86 : decode (mj_b 196) 86 = .ok (.iconst 1, 1) := by decide +kernel
theorem xd196_87 : decode (mj_b 196) 87 = .ok (.iadd, 1) := by decide +kernel
theorem xd196_88 : decode (mj_b 196) 88 = .ok (.putfield 144, 3) := by decide +kernel
theorem xd196_91 : decode (mj_b 196) 91 = .ok (.iconst 1, 1) := by decide +kernel
theorem xd196_92 : decode (mj_b 196) 92 = .ok (.ireturn, 1) := by decide +kernel
theorem x196_0 : wp Ln xs 196 0 [.ref 72] [] (u, ml_h m lm) Φ = wp Ln xs 194 0 [.ref 72, .int (nI 49), .int (nI 57)] [] (u, ml_h m lm) (mk Ln xs 196 5 [.ref 72] [] Φ) := (wp_same xd196_0 (Or.inr rfl) rfl).trans ((wp_same (S' := [.int (nI 49), .ref 72]) xd196_1 (Or.inr rfl) rfl).trans ((wp_same (S' := [.int (nI 57), .int (nI 49), .ref 72]) xd196_3 (Or.inr rfl) rfl).trans (wm_cv (As := [.int (nI 49), .int (nI 57)]) (rest := []) xd196_5 rfl rfl (show ml_L[72]? = _ from rfl) (Nat.le_of_ble_eq_true rfl) (Nat.le_of_ble_eq_true rfl) (Nat.le_of_ble_eq_true rfl) (Nat.le_of_ble_eq_true rfl))))
theorem x196_8 {xs0 : Int32} : wp Ln xs 196 8 [.ref 72] [.int xs0] (u, ml_h m lm) Φ = if ¬ xs0 = (nI 0) then wp Ln xs 196 13 [.ref 72] [] (u, ml_h m lm) Φ else wp Ln xs 196 11 [.ref 72] [] (u, ml_h m lm) Φ := wx_if xd196_8 rfl rfl (¬ xs0 = (nI 0)) mb_ne
theorem x196_11 : wp Ln xs 196 11 [.ref 72] [] (u, ml_h m lm) Φ = Φ (.inl (some (.int (nI 0)))) (u, ml_h m lm) := (wp_same (S' := [.int (nI 0)]) xd196_11 (Or.inr rfl) rfl).trans (wp_fin (v := some (.int (nI 0))) xd196_12 (Or.inr rfl) rfl rfl)
theorem x196_13 : wp Ln xs 196 13 [.ref 72] [] (u, ml_h m lm) Φ = wp Ln xs 196 22 [.ref 72] [.int (m 72 9), .ref 77, .ref 72] (u, ml_h m lm) Φ := (wp_same xd196_13 (Or.inr rfl) rfl).trans ((wp_same xd196_14 (Or.inr rfl) rfl).trans ((wm_getr xd196_15 rfl (show ml_L[72]? = _ from rfl) rfl (Nat.le_of_ble_eq_true rfl)).trans ((wp_same xd196_18 (Or.inr rfl) rfl).trans (wm_geti xd196_19 rfl (show ml_L[72]? = _ from rfl) rfl (Nat.le_of_ble_eq_true rfl)))))
theorem x196_22 {k : Nat} (hk : k < 60) : wp Ln xs 196 22 [.ref 72] [.int (nI k), .ref 77, .ref 72] (u, ml_h m lm) Φ = if ((ml_s (ml_s m 72 11 ((m 77 k) - (nI 48))) 72 9 (((ml_s m 72 11 ((m 77 k) - (nI 48))) 72 9) + (nI 1))) 72 11) ≤ (nI 1) then wp Ln xs 196 49 [.ref 72] [] (u, ml_h (ml_s (ml_s m 72 11 ((m 77 k) - (nI 48))) 72 9 (((ml_s m 72 11 ((m 77 k) - (nI 48))) 72 9) + (nI 1))) lm) Φ else wp Ln xs 196 47 [.ref 72] [] (u, ml_h (ml_s (ml_s m 72 11 ((m 77 k) - (nI 48))) 72 9 (((ml_s m 72 11 ((m 77 k) - (nI 48))) 72 9) + (nI 1))) lm) Φ := (wm_iald (k := k) xd196_22 ml_ia_77 (by decide) hk).trans ((wp_same (S' := [.int (nI 48), .int (m 77 k), .ref 72]) xd196_23 (Or.inr rfl) rfl).trans ((wp_same xd196_25 (Or.inr rfl) rfl).trans ((wm_puti xd196_26 rfl (show ml_L[72]? = _ from rfl) rfl (Nat.le_of_ble_eq_true rfl) rfl rfl rfl).trans ((wp_same xd196_29 (Or.inr rfl) rfl).trans ((wp_same xd196_30 (Or.inr rfl) rfl).trans ((wm_geti xd196_31 rfl (show ml_L[72]? = _ from rfl) rfl (Nat.le_of_ble_eq_true rfl)).trans ((wp_same (S' := [.int (nI 1), .int ((ml_s m 72 11 ((m 77 k) - (nI 48))) 72 9), .ref 72]) xd196_34 (Or.inr rfl) rfl).trans ((wp_same xd196_35 (Or.inr rfl) rfl).trans ((wm_puti xd196_36 rfl (show ml_L[72]? = _ from rfl) rfl (Nat.le_of_ble_eq_true rfl) rfl rfl rfl).trans ((wp_same xd196_39 (Or.inr rfl) rfl).trans ((wm_geti xd196_40 rfl (show ml_L[72]? = _ from rfl) rfl (Nat.le_of_ble_eq_true rfl)).trans ((wp_same (S' := [.int (nI 1), .int ((ml_s (ml_s m 72 11 ((m 77 k) - (nI 48))) 72 9 (((ml_s m 72 11 ((m 77 k) - (nI 48))) 72 9) + (nI 1))) 72 11)]) xd196_43 (Or.inr rfl) rfl).trans (wx_icmp xd196_44 rfl rfl (((ml_s (ml_s m 72 11 ((m 77 k) - (nI 48))) 72 9 (((ml_s m 72 11 ((m 77 k) - (nI 48))) 72 9) + (nI 1))) 72 11) ≤ (nI 1)) mb_le)))))))))))))
theorem x196_47 : wp Ln xs 196 47 [.ref 72] [] (u, ml_h m lm) Φ = Φ (.inl (some (.int (nI 1)))) (u, ml_h m lm) := (wp_same (S' := [.int (nI 1)]) xd196_47 (Or.inr rfl) rfl).trans (wp_fin (v := some (.int (nI 1))) xd196_48 (Or.inr rfl) rfl rfl)
theorem x196_49 : wp Ln xs 196 49 [.ref 72] [] (u, ml_h m lm) Φ = wp Ln xs 194 0 [.ref 72, .int (nI 48), .int (nI 54)] [] (u, ml_h m lm) (mk Ln xs 196 54 [.ref 72] [] Φ) := (wp_same xd196_49 (Or.inr rfl) rfl).trans ((wp_same (S' := [.int (nI 48), .ref 72]) xd196_50 (Or.inr rfl) rfl).trans ((wp_same (S' := [.int (nI 54), .int (nI 48), .ref 72]) xd196_52 (Or.inr rfl) rfl).trans (wm_cv (As := [.int (nI 48), .int (nI 54)]) (rest := []) xd196_54 rfl rfl (show ml_L[72]? = _ from rfl) (Nat.le_of_ble_eq_true rfl) (Nat.le_of_ble_eq_true rfl) (Nat.le_of_ble_eq_true rfl) (Nat.le_of_ble_eq_true rfl))))
theorem x196_57 {xs0 : Int32} : wp Ln xs 196 57 [.ref 72] [.int xs0] (u, ml_h m lm) Φ = if ¬ xs0 = (nI 0) then wp Ln xs 196 62 [.ref 72] [] (u, ml_h m lm) Φ else wp Ln xs 196 60 [.ref 72] [] (u, ml_h m lm) Φ := wx_if xd196_57 rfl rfl (¬ xs0 = (nI 0)) mb_ne
theorem x196_60 : wp Ln xs 196 60 [.ref 72] [] (u, ml_h m lm) Φ = Φ (.inl (some (.int (nI 0)))) (u, ml_h m lm) := (wp_same (S' := [.int (nI 0)]) xd196_60 (Or.inr rfl) rfl).trans (wp_fin (v := some (.int (nI 0))) xd196_61 (Or.inr rfl) rfl rfl)
theorem x196_62 : wp Ln xs 196 62 [.ref 72] [] (u, ml_h m lm) Φ = wp Ln xs 196 73 [.ref 72] [.int (m 72 9), .ref 77, .int (nI 10), .ref 72] (u, ml_h m lm) Φ := (wp_same xd196_62 (Or.inr rfl) rfl).trans ((wp_same (S' := [.int (nI 10), .ref 72]) xd196_63 (Or.inr rfl) rfl).trans ((wp_same xd196_65 (Or.inr rfl) rfl).trans ((wm_getr xd196_66 rfl (show ml_L[72]? = _ from rfl) rfl (Nat.le_of_ble_eq_true rfl)).trans ((wp_same xd196_69 (Or.inr rfl) rfl).trans (wm_geti xd196_70 rfl (show ml_L[72]? = _ from rfl) rfl (Nat.le_of_ble_eq_true rfl))))))
theorem x196_73 {k : Nat} {xs2 : Int32} (hk : k < 60) : wp Ln xs 196 73 [.ref 72] [.int (nI k), .ref 77, .int xs2, .ref 72] (u, ml_h m lm) Φ = Φ (.inl (some (.int (nI 1)))) (u, ml_h (ml_s (ml_s m 72 11 ((xs2 + (m 77 k)) - (nI 48))) 72 9 (((ml_s m 72 11 ((xs2 + (m 77 k)) - (nI 48))) 72 9) + (nI 1))) lm) := (wm_iald (k := k) xd196_73 ml_ia_77 (by decide) hk).trans ((wp_same xd196_74 (Or.inr rfl) rfl).trans ((wp_same (S' := [.int (nI 48), .int (xs2 + (m 77 k)), .ref 72]) xd196_75 (Or.inr rfl) rfl).trans ((wp_same xd196_77 (Or.inr rfl) rfl).trans ((wm_puti xd196_78 rfl (show ml_L[72]? = _ from rfl) rfl (Nat.le_of_ble_eq_true rfl) rfl rfl rfl).trans ((wp_same xd196_81 (Or.inr rfl) rfl).trans ((wp_same xd196_82 (Or.inr rfl) rfl).trans ((wm_geti xd196_83 rfl (show ml_L[72]? = _ from rfl) rfl (Nat.le_of_ble_eq_true rfl)).trans ((wp_same (S' := [.int (nI 1), .int ((ml_s m 72 11 ((xs2 + (m 77 k)) - (nI 48))) 72 9), .ref 72]) xd196_86 (Or.inr rfl) rfl).trans ((wp_same xd196_87 (Or.inr rfl) rfl).trans ((wm_puti xd196_88 rfl (show ml_L[72]? = _ from rfl) rfl (Nat.le_of_ble_eq_true rfl) rfl rfl rfl).trans ((wp_same (S' := [.int (nI 1)]) xd196_91 (Or.inr rfl) rfl).trans (wp_fin (v := some (.int (nI 1))) xd196_92 (Or.inr rfl) rfl rfl))))))))))))
/- PickedFormsModel.putAll -/
theorem xd197_0 : decode (mj_b 197) 0 = .ok (.iconst 0, 1) := by decide +kernel
theorem xd197_1 : decode (mj_b 197) 1 = .ok (.istore_n 1, 1) := by decide +kernel
theorem xd197_2 : decode (mj_b 197) 2 = .ok (.iload_n 1, 1) := by decide +kernel
theorem xd197_3 : decode (mj_b 197) 3 = .ok (.aload_n 0, 1) := by decide +kernel
theorem xd197_4 : decode (mj_b 197) 4 = .ok (.getfield 153, 3) := by decide +kernel
theorem xd197_7 : decode (mj_b 197) 7 = .ok (.if_icmp .ge 36, 3) := by decide +kernel
theorem xd197_10 : decode (mj_b 197) 10 = .ok (.aload_n 0, 1) := by decide +kernel
theorem xd197_11 : decode (mj_b 197) 11 = .ok (.invokevirtual 110, 3) := by decide +kernel
theorem xd197_14 : decode (mj_b 197) 14 = .ok (.ifCond .ne 5, 3) := by decide +kernel
theorem xd197_17 : decode (mj_b 197) 17 = .ok (.iconst 0, 1) := by decide +kernel
theorem xd197_18 : decode (mj_b 197) 18 = .ok (.ireturn, 1) := by decide +kernel
theorem xd197_19 : decode (mj_b 197) 19 = .ok (.aload_n 0, 1) := by decide +kernel
theorem xd197_20 : decode (mj_b 197) 20 = .ok (.aload_n 0, 1) := by decide +kernel
theorem xd197_21 : decode (mj_b 197) 21 = .ok (.getfield 150, 3) := by decide +kernel
theorem xd197_24 : decode (mj_b 197) 24 = .ok (.invokevirtual 120, 3) := by decide +kernel
theorem xd197_27 : decode (mj_b 197) 27 = .ok (.aload_n 0, 1) := by decide +kernel
theorem xd197_28 : decode (mj_b 197) 28 = .ok (.dup, 1) := by decide +kernel
theorem xd197_29 : decode (mj_b 197) 29 = .ok (.getfield 165, 3) := by decide +kernel
theorem xd197_32 : decode (mj_b 197) 32 = .ok (.iconst 1, 1) := by decide +kernel
theorem xd197_33 : decode (mj_b 197) 33 = .ok (.iadd, 1) := by decide +kernel
theorem xd197_34 : decode (mj_b 197) 34 = .ok (.putfield 165, 3) := by decide +kernel
theorem xd197_37 : decode (mj_b 197) 37 = .ok (.iinc 1 1, 3) := by decide +kernel
theorem xd197_40 : decode (mj_b 197) 40 = .ok (.goto (-38), 3) := by decide +kernel
theorem xd197_43 : decode (mj_b 197) 43 = .ok (.iconst 1, 1) := by decide +kernel
theorem xd197_44 : decode (mj_b 197) 44 = .ok (.ireturn, 1) := by decide +kernel
theorem x197_0 : wp Ln xs 197 0 [.ref 72, mj_hole] [] (u, ml_h m lm) Φ = wp Ln xs 197 2 [.ref 72, .int (nI 0)] [] (u, ml_h m lm) Φ := (wp_same (S' := [.int (nI 0)]) xd197_0 (Or.inr rfl) rfl).trans (wp_same (L' := [.ref 72, .int (nI 0)]) xd197_1 (Or.inr rfl) rfl)
theorem x197_2 {x1 : Int32} : wp Ln xs 197 2 [.ref 72, .int x1] [] (u, ml_h m lm) Φ = if (m 72 11) ≤ x1 then wp Ln xs 197 43 [.ref 72, .int x1] [] (u, ml_h m lm) Φ else wp Ln xs 197 10 [.ref 72, .int x1] [] (u, ml_h m lm) Φ := (wp_same xd197_2 (Or.inr rfl) rfl).trans ((wp_same xd197_3 (Or.inr rfl) rfl).trans ((wm_geti xd197_4 rfl (show ml_L[72]? = _ from rfl) rfl (Nat.le_of_ble_eq_true rfl)).trans (wx_icmp xd197_7 rfl rfl ((m 72 11) ≤ x1) mb_ge)))
theorem x197_10 {x1 : Int32} : wp Ln xs 197 10 [.ref 72, .int x1] [] (u, ml_h m lm) Φ = wp Ln xs 153 0 [.ref 72] [] (u, ml_h m lm) (mk Ln xs 197 11 [.ref 72, .int x1] [] Φ) := (wp_same xd197_10 (Or.inr rfl) rfl).trans (wm_cv (As := []) (rest := []) xd197_11 rfl rfl (show ml_L[72]? = _ from rfl) (Nat.le_of_ble_eq_true rfl) (Nat.le_of_ble_eq_true rfl) (Nat.le_of_ble_eq_true rfl) (Nat.le_of_ble_eq_true rfl))
theorem x197_14 {x1 : Int32} {xs0 : Int32} : wp Ln xs 197 14 [.ref 72, .int x1] [.int xs0] (u, ml_h m lm) Φ = if ¬ xs0 = (nI 0) then wp Ln xs 197 19 [.ref 72, .int x1] [] (u, ml_h m lm) Φ else wp Ln xs 197 17 [.ref 72, .int x1] [] (u, ml_h m lm) Φ := wx_if xd197_14 rfl rfl (¬ xs0 = (nI 0)) mb_ne
theorem x197_17 {x1 : Int32} : wp Ln xs 197 17 [.ref 72, .int x1] [] (u, ml_h m lm) Φ = Φ (.inl (some (.int (nI 0)))) (u, ml_h m lm) := (wp_same (S' := [.int (nI 0)]) xd197_17 (Or.inr rfl) rfl).trans (wp_fin (v := some (.int (nI 0))) xd197_18 (Or.inr rfl) rfl rfl)
theorem x197_19 {x1 : Int32} : wp Ln xs 197 19 [.ref 72, .int x1] [] (u, ml_h m lm) Φ = wp Ln xs 157 0 [.ref 72, .int (m 72 10)] [] (u, ml_h m lm) (mk Ln xs 197 24 [.ref 72, .int x1] [] Φ) := (wp_same xd197_19 (Or.inr rfl) rfl).trans ((wp_same xd197_20 (Or.inr rfl) rfl).trans ((wm_geti xd197_21 rfl (show ml_L[72]? = _ from rfl) rfl (Nat.le_of_ble_eq_true rfl)).trans (wm_cv (As := [.int (m 72 10)]) (rest := []) xd197_24 rfl rfl (show ml_L[72]? = _ from rfl) (Nat.le_of_ble_eq_true rfl) (Nat.le_of_ble_eq_true rfl) (Nat.le_of_ble_eq_true rfl) (Nat.le_of_ble_eq_true rfl))))
theorem x197_27 {x1 : Int32} : wp Ln xs 197 27 [.ref 72, .int x1] [] (u, ml_h m lm) Φ = wp Ln xs 197 2 [.ref 72, .int (x1 + nI 1)] [] (u, ml_h (ml_s m 72 12 ((m 72 12) + (nI 1))) lm) Φ := (wp_same xd197_27 (Or.inr rfl) rfl).trans ((wp_same xd197_28 (Or.inr rfl) rfl).trans ((wm_geti xd197_29 rfl (show ml_L[72]? = _ from rfl) rfl (Nat.le_of_ble_eq_true rfl)).trans ((wp_same (S' := [.int (nI 1), .int (m 72 12), .ref 72]) xd197_32 (Or.inr rfl) rfl).trans ((wp_same xd197_33 (Or.inr rfl) rfl).trans ((wm_puti xd197_34 rfl (show ml_L[72]? = _ from rfl) rfl (Nat.le_of_ble_eq_true rfl) rfl rfl rfl).trans ((wp_same (L' := [.ref 72, .int (x1 + nI 1)]) xd197_37 (Or.inr rfl) rfl).trans (wx_goto xd197_40 rfl)))))))
theorem x197_43 {x1 : Int32} : wp Ln xs 197 43 [.ref 72, .int x1] [] (u, ml_h m lm) Φ = Φ (.inl (some (.int (nI 1)))) (u, ml_h m lm) := (wp_same (S' := [.int (nI 1)]) xd197_43 (Or.inr rfl) rfl).trans (wp_fin (v := some (.int (nI 1))) xd197_44 (Or.inr rfl) rfl rfl)
/- PickedFormsModel.load -/
theorem xd198_0 : decode (mj_b 198) 0 = .ok (.aload_n 0, 1) := by decide +kernel
theorem xd198_1 : decode (mj_b 198) 1 = .ok (.aload_n 0, 1) := by decide +kernel
theorem xd198_2 : decode (mj_b 198) 2 = .ok (.iconst 0, 1) := by decide +kernel
theorem xd198_3 : decode (mj_b 198) 3 = .ok (.invokevirtual 174, 3) := by decide +kernel
theorem xd198_6 : decode (mj_b 198) 6 = .ok (.ifCond .eq 7, 3) := by decide +kernel
theorem xd198_9 : decode (mj_b 198) 9 = .ok (.iconst 0, 1) := by decide +kernel
theorem xd198_10 : decode (mj_b 198) 10 = .ok (.goto 4, 3) := by decide +kernel
theorem xd198_13 : decode (mj_b 198) 13 = .ok (.iconst 1, 1) := by decide +kernel
theorem xd198_14 : decode (mj_b 198) 14 = .ok (.invokevirtual 114, 3) := by decide +kernel
theorem xd198_17 : decode (mj_b 198) 17 = .ok (.ifCond .ne 5, 3) := by decide +kernel
theorem xd198_20 : decode (mj_b 198) 20 = .ok (.iconst 0, 1) := by decide +kernel
theorem xd198_21 : decode (mj_b 198) 21 = .ok (.ireturn, 1) := by decide +kernel
theorem xd198_22 : decode (mj_b 198) 22 = .ok (.aload_n 0, 1) := by decide +kernel
theorem xd198_23 : decode (mj_b 198) 23 = .ok (.invokevirtual 117, 3) := by decide +kernel
theorem xd198_26 : decode (mj_b 198) 26 = .ok (.aload_n 0, 1) := by decide +kernel
theorem xd198_27 : decode (mj_b 198) 27 = .ok (.iconst 1, 1) := by decide +kernel
theorem xd198_28 : decode (mj_b 198) 28 = .ok (.invokevirtual 174, 3) := by decide +kernel
theorem xd198_31 : decode (mj_b 198) 31 = .ok (.istore_n 1, 1) := by decide +kernel
theorem xd198_32 : decode (mj_b 198) 32 = .ok (.aload_n 0, 1) := by decide +kernel
theorem xd198_33 : decode (mj_b 198) 33 = .ok (.iconst 0, 1) := by decide +kernel
theorem xd198_34 : decode (mj_b 198) 34 = .ok (.putfield 141, 3) := by decide +kernel
theorem xd198_37 : decode (mj_b 198) 37 = .ok (.iload_n 1, 1) := by decide +kernel
theorem xd198_38 : decode (mj_b 198) 38 = .ok (.ifCond .eq 10, 3) := by decide +kernel
theorem xd198_41 : decode (mj_b 198) 41 = .ok (.aload_n 0, 1) := by decide +kernel
theorem xd198_42 : decode (mj_b 198) 42 = .ok (.getfield 165, 3) := by decide +kernel
theorem xd198_45 : decode (mj_b 198) 45 = .ok (.goto 4, 3) := by decide +kernel
theorem xd198_48 : decode (mj_b 198) 48 = .ok (.iconst 0, 1) := by decide +kernel
theorem xd198_49 : decode (mj_b 198) 49 = .ok (.ireturn, 1) := by decide +kernel
theorem x198_0 : wp Ln xs 198 0 [.ref 72, mj_hole] [] (u, ml_h m lm) Φ = wp Ln xs 191 0 [.ref 72, .int (nI 0), mj_hole] [] (u, ml_h m lm) (mk Ln xs 198 3 [.ref 72, mj_hole] [.ref 72] Φ) := (wp_same xd198_0 (Or.inr rfl) rfl).trans ((wp_same xd198_1 (Or.inr rfl) rfl).trans ((wp_same (S' := [.int (nI 0), .ref 72, .ref 72]) xd198_2 (Or.inr rfl) rfl).trans (wm_cv (As := [.int (nI 0)]) (rest := [.ref 72]) xd198_3 rfl rfl (show ml_L[72]? = _ from rfl) (Nat.le_of_ble_eq_true rfl) (Nat.le_of_ble_eq_true rfl) (Nat.le_of_ble_eq_true rfl) (Nat.le_of_ble_eq_true rfl))))
theorem x198_6 {xs0 : Int32} : wp Ln xs 198 6 [.ref 72, mj_hole] [.int xs0, .ref 72] (u, ml_h m lm) Φ = if xs0 = (nI 0) then wp Ln xs 198 13 [.ref 72, mj_hole] [.ref 72] (u, ml_h m lm) Φ else wp Ln xs 198 9 [.ref 72, mj_hole] [.ref 72] (u, ml_h m lm) Φ := wx_if xd198_6 rfl rfl (xs0 = (nI 0)) mb_eq
theorem x198_9 : wp Ln xs 198 9 [.ref 72, mj_hole] [.ref 72] (u, ml_h m lm) Φ = wp Ln xs 198 14 [.ref 72, mj_hole] [.int (nI 0), .ref 72] (u, ml_h m lm) Φ := (wp_same (S' := [.int (nI 0), .ref 72]) xd198_9 (Or.inr rfl) rfl).trans (wx_goto xd198_10 rfl)
theorem x198_13 : wp Ln xs 198 13 [.ref 72, mj_hole] [.ref 72] (u, ml_h m lm) Φ = wp Ln xs 198 14 [.ref 72, mj_hole] [.int (nI 1), .ref 72] (u, ml_h m lm) Φ := wp_same (S' := [.int (nI 1), .ref 72]) xd198_13 (Or.inr rfl) rfl
theorem x198_14 {xs0 : Int32} : wp Ln xs 198 14 [.ref 72, mj_hole] [.int xs0, .ref 72] (u, ml_h m lm) Φ = wp Ln xs 154 0 [.ref 72, .int xs0] [] (u, ml_h m lm) (mk Ln xs 198 14 [.ref 72, mj_hole] [] Φ) := wm_cv (As := [.int xs0]) (rest := []) xd198_14 rfl rfl (show ml_L[72]? = _ from rfl) (Nat.le_of_ble_eq_true rfl) (Nat.le_of_ble_eq_true rfl) (Nat.le_of_ble_eq_true rfl) (Nat.le_of_ble_eq_true rfl)
theorem x198_17 {xs0 : Int32} : wp Ln xs 198 17 [.ref 72, mj_hole] [.int xs0] (u, ml_h m lm) Φ = if ¬ xs0 = (nI 0) then wp Ln xs 198 22 [.ref 72, mj_hole] [] (u, ml_h m lm) Φ else wp Ln xs 198 20 [.ref 72, mj_hole] [] (u, ml_h m lm) Φ := wx_if xd198_17 rfl rfl (¬ xs0 = (nI 0)) mb_ne
theorem x198_20 : wp Ln xs 198 20 [.ref 72, mj_hole] [] (u, ml_h m lm) Φ = Φ (.inl (some (.int (nI 0)))) (u, ml_h m lm) := (wp_same (S' := [.int (nI 0)]) xd198_20 (Or.inr rfl) rfl).trans (wp_fin (v := some (.int (nI 0))) xd198_21 (Or.inr rfl) rfl (mj_fin_i rfl))
theorem x198_22 : wp Ln xs 198 22 [.ref 72, mj_hole] [] (u, ml_h m lm) Φ = wp Ln xs 155 0 [.ref 72, mj_hole] [] (u, ml_h m lm) (mk Ln xs 198 23 [.ref 72, mj_hole] [] Φ) := (wp_same xd198_22 (Or.inr rfl) rfl).trans (wm_cv (As := []) (rest := []) xd198_23 rfl rfl (show ml_L[72]? = _ from rfl) (Nat.le_of_ble_eq_true rfl) (Nat.le_of_ble_eq_true rfl) (Nat.le_of_ble_eq_true rfl) (Nat.le_of_ble_eq_true rfl))
theorem x198_26 : wp Ln xs 198 26 [.ref 72, mj_hole] [] (u, ml_h m lm) Φ = wp Ln xs 191 0 [.ref 72, .int (nI 1), mj_hole] [] (u, ml_h m lm) (mk Ln xs 198 28 [.ref 72, mj_hole] [] Φ) := (wp_same xd198_26 (Or.inr rfl) rfl).trans ((wp_same (S' := [.int (nI 1), .ref 72]) xd198_27 (Or.inr rfl) rfl).trans (wm_cv (As := [.int (nI 1)]) (rest := []) xd198_28 rfl rfl (show ml_L[72]? = _ from rfl) (Nat.le_of_ble_eq_true rfl) (Nat.le_of_ble_eq_true rfl) (Nat.le_of_ble_eq_true rfl) (Nat.le_of_ble_eq_true rfl)))
theorem x198_31 {xs0 : Int32} : wp Ln xs 198 31 [.ref 72, mj_hole] [.int xs0] (u, ml_h m lm) Φ = if xs0 = (nI 0) then wp Ln xs 198 48 [.ref 72, .int xs0] [] (u, ml_h (ml_s m 72 7 (nI 0)) lm) Φ else wp Ln xs 198 41 [.ref 72, .int xs0] [] (u, ml_h (ml_s m 72 7 (nI 0)) lm) Φ := (wp_same (L' := [.ref 72, .int xs0]) xd198_31 (Or.inr rfl) rfl).trans ((wp_same xd198_32 (Or.inr rfl) rfl).trans ((wp_same (S' := [.int (nI 0), .ref 72]) xd198_33 (Or.inr rfl) rfl).trans ((wm_puti xd198_34 rfl (show ml_L[72]? = _ from rfl) rfl (Nat.le_of_ble_eq_true rfl) rfl rfl rfl).trans ((wp_same xd198_37 (Or.inr rfl) rfl).trans (wx_if xd198_38 rfl rfl (xs0 = (nI 0)) mb_eq)))))
theorem x198_41 {x1 : Int32} : wp Ln xs 198 41 [.ref 72, .int x1] [] (u, ml_h m lm) Φ = Φ (.inl (some (.int (m 72 12)))) (u, ml_h m lm) := (wp_same xd198_41 (Or.inr rfl) rfl).trans ((wm_geti xd198_42 rfl (show ml_L[72]? = _ from rfl) rfl (Nat.le_of_ble_eq_true rfl)).trans ((wx_goto xd198_45 rfl).trans (wp_fin (v := some (.int (m 72 12))) xd198_49 (Or.inr rfl) rfl (mj_fin_i rfl))))
theorem x198_48 {x1 : Int32} : wp Ln xs 198 48 [.ref 72, .int x1] [] (u, ml_h m lm) Φ = Φ (.inl (some (.int (nI 0)))) (u, ml_h m lm) := (wp_same (S' := [.int (nI 0)]) xd198_48 (Or.inr rfl) rfl).trans (wp_fin (v := some (.int (nI 0))) xd198_49 (Or.inr rfl) rfl (mj_fin_i rfl))
/- PickedFormsModel.keep -/
theorem xd199_0 : decode (mj_b 199) 0 = .ok (.aload_n 0, 1) := by decide +kernel
theorem xd199_1 : decode (mj_b 199) 1 = .ok (.iconst 0, 1) := by decide +kernel
theorem xd199_2 : decode (mj_b 199) 2 = .ok (.putfield 34, 3) := by decide +kernel
theorem xd199_5 : decode (mj_b 199) 5 = .ok (.aload_n 0, 1) := by decide +kernel
theorem xd199_6 : decode (mj_b 199) 6 = .ok (.getfield 7, 3) := by decide +kernel
theorem xd199_9 : decode (mj_b 199) 9 = .ok (.iconst 0, 1) := by decide +kernel
theorem xd199_10 : decode (mj_b 199) 10 = .ok (.aload_n 0, 1) := by decide +kernel
theorem xd199_11 : decode (mj_b 199) 11 = .ok (.getfield 16, 3) := by decide +kernel
theorem xd199_14 : decode (mj_b 199) 14 = .ok (.iconst 0, 1) := by decide +kernel
theorem xd199_15 : decode (mj_b 199) 15 = .ok (.invokestatic 45, 3) := by decide +kernel
theorem xd199_18 : decode (mj_b 199) 18 = .ok (.aload_n 0, 1) := by decide +kernel
theorem xd199_19 : decode (mj_b 199) 19 = .ok (.iconst 1, 1) := by decide +kernel
theorem xd199_20 : decode (mj_b 199) 20 = .ok (.putfield 178, 3) := by decide +kernel
theorem xd199_23 : decode (mj_b 199) 23 = .ok (.aload_n 0, 1) := by decide +kernel
theorem xd199_24 : decode (mj_b 199) 24 = .ok (.invokevirtual 96, 3) := by decide +kernel
theorem xd199_27 : decode (mj_b 199) 27 = .ok (.ireturn, 1) := by decide +kernel
theorem x199_0 : wp Ln xs 199 0 [.ref 72] [] (u, ml_h m lm) Φ = wp Ln xs 156 0 [.ref 73, .int (nI 0), .ref 75, .int (nI 0), mj_hole] [] (u, ml_h (ml_s m 72 8 (nI 0)) lm) (mk Ln xs 199 15 [.ref 72] [] Φ) := (wp_same xd199_0 (Or.inr rfl) rfl).trans ((wp_same (S' := [.int (nI 0), .ref 72]) xd199_1 (Or.inr rfl) rfl).trans ((wm_puti xd199_2 rfl (show ml_L[72]? = _ from rfl) rfl (Nat.le_of_ble_eq_true rfl) rfl rfl rfl).trans ((wp_same xd199_5 (Or.inr rfl) rfl).trans ((wm_getr xd199_6 rfl (show ml_L[72]? = _ from rfl) rfl (Nat.le_of_ble_eq_true rfl)).trans ((wp_same (S' := [.int (nI 0), .ref 73]) xd199_9 (Or.inr rfl) rfl).trans ((wp_same xd199_10 (Or.inr rfl) rfl).trans ((wm_getr xd199_11 rfl (show ml_L[72]? = _ from rfl) rfl (Nat.le_of_ble_eq_true rfl)).trans ((wp_same (S' := [.int (nI 0), .ref 75, .int (nI 0), .ref 73]) xd199_14 (Or.inr rfl) rfl).trans (wm_cs (As := [.ref 73, .int (nI 0), .ref 75, .int (nI 0)]) (rest := []) xd199_15 rfl rfl (Nat.le_of_ble_eq_true rfl) (Nat.le_of_ble_eq_true rfl) (Nat.le_of_ble_eq_true rfl) (Nat.le_of_ble_eq_true rfl))))))))))
theorem x199_18 : wp Ln xs 199 18 [.ref 72] [] (u, ml_h m lm) Φ = wp Ln xs 158 0 [.ref 72] [] (u, ml_h (ml_s m 72 4 (nI 1)) lm) (mk Ln xs 199 24 [.ref 72] [] Φ) := (wp_same xd199_18 (Or.inr rfl) rfl).trans ((wp_same (S' := [.int (nI 1), .ref 72]) xd199_19 (Or.inr rfl) rfl).trans ((wm_puti xd199_20 rfl (show ml_L[72]? = _ from rfl) rfl (Nat.le_of_ble_eq_true rfl) rfl rfl rfl).trans ((wp_same xd199_23 (Or.inr rfl) rfl).trans (wm_cv (As := []) (rest := []) xd199_24 rfl rfl (show ml_L[72]? = _ from rfl) (Nat.le_of_ble_eq_true rfl) (Nat.le_of_ble_eq_true rfl) (Nat.le_of_ble_eq_true rfl) (Nat.le_of_ble_eq_true rfl)))))
theorem x199_27 {xs0 : Int32} : wp Ln xs 199 27 [.ref 72] [.int xs0] (u, ml_h m lm) Φ = Φ (.inl (some (.int xs0))) (u, ml_h m lm) := wp_fin (v := some (.int xs0)) xd199_27 (Or.inr rfl) rfl (mj_fin_i rfl)
/- PickedFormsModel.goBack -/
theorem xd200_0 : decode (mj_b 200) 0 = .ok (.aload_n 0, 1) := by decide +kernel
theorem xd200_1 : decode (mj_b 200) 1 = .ok (.aload_n 0, 1) := by decide +kernel
theorem xd200_2 : decode (mj_b 200) 2 = .ok (.getfield 178, 3) := by decide +kernel
theorem xd200_5 : decode (mj_b 200) 5 = .ok (.ifCond .eq 7, 3) := by decide +kernel
theorem xd200_8 : decode (mj_b 200) 8 = .ok (.iconst 0, 1) := by decide +kernel
theorem xd200_9 : decode (mj_b 200) 9 = .ok (.goto 4, 3) := by decide +kernel
theorem xd200_12 : decode (mj_b 200) 12 = .ok (.iconst 1, 1) := by decide +kernel
theorem xd200_13 : decode (mj_b 200) 13 = .ok (.invokevirtual 114, 3) := by decide +kernel
theorem xd200_16 : decode (mj_b 200) 16 = .ok (.ifCond .ne 5, 3) := by decide +kernel
theorem xd200_19 : decode (mj_b 200) 19 = .ok (.iconst 0, 1) := by decide +kernel
theorem xd200_20 : decode (mj_b 200) 20 = .ok (.ireturn, 1) := by decide +kernel
theorem xd200_21 : decode (mj_b 200) 21 = .ok (.aload_n 0, 1) := by decide +kernel
theorem xd200_22 : decode (mj_b 200) 22 = .ok (.invokevirtual 117, 3) := by decide +kernel
theorem xd200_25 : decode (mj_b 200) 25 = .ok (.aload_n 0, 1) := by decide +kernel
theorem xd200_26 : decode (mj_b 200) 26 = .ok (.getfield 16, 3) := by decide +kernel
theorem xd200_29 : decode (mj_b 200) 29 = .ok (.iconst 0, 1) := by decide +kernel
theorem xd200_30 : decode (mj_b 200) 30 = .ok (.aload_n 0, 1) := by decide +kernel
theorem xd200_31 : decode (mj_b 200) 31 = .ok (.getfield 7, 3) := by decide +kernel
theorem xd200_34 : decode (mj_b 200) 34 = .ok (.iconst 0, 1) := by decide +kernel
theorem xd200_35 : decode (mj_b 200) 35 = .ok (.invokestatic 45, 3) := by decide +kernel
theorem xd200_38 : decode (mj_b 200) 38 = .ok (.aload_n 0, 1) := by decide +kernel
theorem xd200_39 : decode (mj_b 200) 39 = .ok (.invokevirtual 96, 3) := by decide +kernel
theorem xd200_42 : decode (mj_b 200) 42 = .ok (.ireturn, 1) := by decide +kernel
theorem x200_0 : wp Ln xs 200 0 [.ref 72] [] (u, ml_h m lm) Φ = if (m 72 4) = (nI 0) then wp Ln xs 200 12 [.ref 72] [.ref 72] (u, ml_h m lm) Φ else wp Ln xs 200 8 [.ref 72] [.ref 72] (u, ml_h m lm) Φ := (wp_same xd200_0 (Or.inr rfl) rfl).trans ((wp_same xd200_1 (Or.inr rfl) rfl).trans ((wm_geti xd200_2 rfl (show ml_L[72]? = _ from rfl) rfl (Nat.le_of_ble_eq_true rfl)).trans (wx_if xd200_5 rfl rfl ((m 72 4) = (nI 0)) mb_eq)))
theorem x200_8 : wp Ln xs 200 8 [.ref 72] [.ref 72] (u, ml_h m lm) Φ = wp Ln xs 200 13 [.ref 72] [.int (nI 0), .ref 72] (u, ml_h m lm) Φ := (wp_same (S' := [.int (nI 0), .ref 72]) xd200_8 (Or.inr rfl) rfl).trans (wx_goto xd200_9 rfl)
theorem x200_12 : wp Ln xs 200 12 [.ref 72] [.ref 72] (u, ml_h m lm) Φ = wp Ln xs 200 13 [.ref 72] [.int (nI 1), .ref 72] (u, ml_h m lm) Φ := wp_same (S' := [.int (nI 1), .ref 72]) xd200_12 (Or.inr rfl) rfl
theorem x200_13 {xs0 : Int32} : wp Ln xs 200 13 [.ref 72] [.int xs0, .ref 72] (u, ml_h m lm) Φ = wp Ln xs 154 0 [.ref 72, .int xs0] [] (u, ml_h m lm) (mk Ln xs 200 13 [.ref 72] [] Φ) := wm_cv (As := [.int xs0]) (rest := []) xd200_13 rfl rfl (show ml_L[72]? = _ from rfl) (Nat.le_of_ble_eq_true rfl) (Nat.le_of_ble_eq_true rfl) (Nat.le_of_ble_eq_true rfl) (Nat.le_of_ble_eq_true rfl)
theorem x200_16 {xs0 : Int32} : wp Ln xs 200 16 [.ref 72] [.int xs0] (u, ml_h m lm) Φ = if ¬ xs0 = (nI 0) then wp Ln xs 200 21 [.ref 72] [] (u, ml_h m lm) Φ else wp Ln xs 200 19 [.ref 72] [] (u, ml_h m lm) Φ := wx_if xd200_16 rfl rfl (¬ xs0 = (nI 0)) mb_ne
theorem x200_19 : wp Ln xs 200 19 [.ref 72] [] (u, ml_h m lm) Φ = Φ (.inl (some (.int (nI 0)))) (u, ml_h m lm) := (wp_same (S' := [.int (nI 0)]) xd200_19 (Or.inr rfl) rfl).trans (wp_fin (v := some (.int (nI 0))) xd200_20 (Or.inr rfl) rfl (mj_fin_i rfl))
theorem x200_21 : wp Ln xs 200 21 [.ref 72] [] (u, ml_h m lm) Φ = wp Ln xs 155 0 [.ref 72, mj_hole] [] (u, ml_h m lm) (mk Ln xs 200 22 [.ref 72] [] Φ) := (wp_same xd200_21 (Or.inr rfl) rfl).trans (wm_cv (As := []) (rest := []) xd200_22 rfl rfl (show ml_L[72]? = _ from rfl) (Nat.le_of_ble_eq_true rfl) (Nat.le_of_ble_eq_true rfl) (Nat.le_of_ble_eq_true rfl) (Nat.le_of_ble_eq_true rfl))
theorem x200_25 : wp Ln xs 200 25 [.ref 72] [] (u, ml_h m lm) Φ = wp Ln xs 156 0 [.ref 75, .int (nI 0), .ref 73, .int (nI 0), mj_hole] [] (u, ml_h m lm) (mk Ln xs 200 35 [.ref 72] [] Φ) := (wp_same xd200_25 (Or.inr rfl) rfl).trans ((wm_getr xd200_26 rfl (show ml_L[72]? = _ from rfl) rfl (Nat.le_of_ble_eq_true rfl)).trans ((wp_same (S' := [.int (nI 0), .ref 75]) xd200_29 (Or.inr rfl) rfl).trans ((wp_same xd200_30 (Or.inr rfl) rfl).trans ((wm_getr xd200_31 rfl (show ml_L[72]? = _ from rfl) rfl (Nat.le_of_ble_eq_true rfl)).trans ((wp_same (S' := [.int (nI 0), .ref 73, .int (nI 0), .ref 75]) xd200_34 (Or.inr rfl) rfl).trans (wm_cs (As := [.ref 75, .int (nI 0), .ref 73, .int (nI 0)]) (rest := []) xd200_35 rfl rfl (Nat.le_of_ble_eq_true rfl) (Nat.le_of_ble_eq_true rfl) (Nat.le_of_ble_eq_true rfl) (Nat.le_of_ble_eq_true rfl)))))))
theorem x200_38 : wp Ln xs 200 38 [.ref 72] [] (u, ml_h m lm) Φ = wp Ln xs 158 0 [.ref 72] [] (u, ml_h m lm) (mk Ln xs 200 39 [.ref 72] [] Φ) := (wp_same xd200_38 (Or.inr rfl) rfl).trans (wm_cv (As := []) (rest := []) xd200_39 rfl rfl (show ml_L[72]? = _ from rfl) (Nat.le_of_ble_eq_true rfl) (Nat.le_of_ble_eq_true rfl) (Nat.le_of_ble_eq_true rfl) (Nat.le_of_ble_eq_true rfl))
theorem x200_42 {xs0 : Int32} : wp Ln xs 200 42 [.ref 72] [.int xs0] (u, ml_h m lm) Φ = Φ (.inl (some (.int xs0))) (u, ml_h m lm) := wp_fin (v := some (.int xs0)) xd200_42 (Or.inr rfl) rfl (mj_fin_i rfl)
/- PickedFormsModel.undo -/
theorem xd201_0 : decode (mj_b 201) 0 = .ok (.aload_n 0, 1) := by decide +kernel
theorem xd201_1 : decode (mj_b 201) 1 = .ok (.aload_n 0, 1) := by decide +kernel
theorem xd201_2 : decode (mj_b 201) 2 = .ok (.getfield 42, 3) := by decide +kernel
theorem xd201_5 : decode (mj_b 201) 5 = .ok (.ifCond .le 7, 3) := by decide +kernel
theorem xd201_8 : decode (mj_b 201) 8 = .ok (.iconst 0, 1) := by decide +kernel
theorem xd201_9 : decode (mj_b 201) 9 = .ok (.goto 4, 3) := by decide +kernel
theorem xd201_12 : decode (mj_b 201) 12 = .ok (.iconst 1, 1) := by decide +kernel
theorem xd201_13 : decode (mj_b 201) 13 = .ok (.invokevirtual 114, 3) := by decide +kernel
theorem xd201_16 : decode (mj_b 201) 16 = .ok (.ifCond .ne 5, 3) := by decide +kernel
theorem xd201_19 : decode (mj_b 201) 19 = .ok (.iconst 0, 1) := by decide +kernel
theorem xd201_20 : decode (mj_b 201) 20 = .ok (.ireturn, 1) := by decide +kernel
theorem xd201_21 : decode (mj_b 201) 21 = .ok (.aload_n 0, 1) := by decide +kernel
theorem xd201_22 : decode (mj_b 201) 22 = .ok (.dup, 1) := by decide +kernel
theorem xd201_23 : decode (mj_b 201) 23 = .ok (.getfield 42, 3) := by decide +kernel
theorem xd201_26 : decode (mj_b 201) 26 = .ok (.iconst 1, 1) := by decide +kernel
theorem xd201_27 : decode (mj_b 201) 27 = .ok (.isub, 1) := by decide +kernel
theorem xd201_28 : decode (mj_b 201) 28 = .ok (.putfield 42, 3) := by decide +kernel
theorem xd201_31 : decode (mj_b 201) 31 = .ok (.aload_n 0, 1) := by decide +kernel
theorem xd201_32 : decode (mj_b 201) 32 = .ok (.getfield 13, 3) := by decide +kernel
theorem xd201_35 : decode (mj_b 201) 35 = .ok (.sipush 251, 3) := by decide +kernel
theorem xd201_38 : decode (mj_b 201) 38 = .ok (.aload_n 0, 1) := by decide +kernel
theorem xd201_39 : decode (mj_b 201) 39 = .ok (.getfield 42, 3) := by decide +kernel
theorem xd201_42 : decode (mj_b 201) 42 = .ok (.imul, 1) := by decide +kernel
theorem xd201_43 : decode (mj_b 201) 43 = .ok (.aload_n 0, 1) := by decide +kernel
theorem xd201_44 : decode (mj_b 201) 44 = .ok (.getfield 7, 3) := by decide +kernel
theorem xd201_47 : decode (mj_b 201) 47 = .ok (.iconst 0, 1) := by decide +kernel
theorem xd201_48 : decode (mj_b 201) 48 = .ok (.invokestatic 45, 3) := by decide +kernel
theorem xd201_51 : decode (mj_b 201) 51 = .ok (.aload_n 0, 1) := by decide +kernel
theorem xd201_52 : decode (mj_b 201) 52 = .ok (.getfield 42, 3) := by decide +kernel
theorem xd201_55 : decode (mj_b 201) 55 = .ok (.ireturn, 1) := by decide +kernel
theorem x201_0 : wp Ln xs 201 0 [.ref 72] [] (u, ml_h m lm) Φ = if (m 72 2) ≤ (nI 0) then wp Ln xs 201 12 [.ref 72] [.ref 72] (u, ml_h m lm) Φ else wp Ln xs 201 8 [.ref 72] [.ref 72] (u, ml_h m lm) Φ := (wp_same xd201_0 (Or.inr rfl) rfl).trans ((wp_same xd201_1 (Or.inr rfl) rfl).trans ((wm_geti xd201_2 rfl (show ml_L[72]? = _ from rfl) rfl (Nat.le_of_ble_eq_true rfl)).trans (wx_if xd201_5 rfl rfl ((m 72 2) ≤ (nI 0)) mb_le)))
theorem x201_8 : wp Ln xs 201 8 [.ref 72] [.ref 72] (u, ml_h m lm) Φ = wp Ln xs 201 13 [.ref 72] [.int (nI 0), .ref 72] (u, ml_h m lm) Φ := (wp_same (S' := [.int (nI 0), .ref 72]) xd201_8 (Or.inr rfl) rfl).trans (wx_goto xd201_9 rfl)
theorem x201_12 : wp Ln xs 201 12 [.ref 72] [.ref 72] (u, ml_h m lm) Φ = wp Ln xs 201 13 [.ref 72] [.int (nI 1), .ref 72] (u, ml_h m lm) Φ := wp_same (S' := [.int (nI 1), .ref 72]) xd201_12 (Or.inr rfl) rfl
theorem x201_13 {xs0 : Int32} : wp Ln xs 201 13 [.ref 72] [.int xs0, .ref 72] (u, ml_h m lm) Φ = wp Ln xs 154 0 [.ref 72, .int xs0] [] (u, ml_h m lm) (mk Ln xs 201 13 [.ref 72] [] Φ) := wm_cv (As := [.int xs0]) (rest := []) xd201_13 rfl rfl (show ml_L[72]? = _ from rfl) (Nat.le_of_ble_eq_true rfl) (Nat.le_of_ble_eq_true rfl) (Nat.le_of_ble_eq_true rfl) (Nat.le_of_ble_eq_true rfl)
theorem x201_16 {xs0 : Int32} : wp Ln xs 201 16 [.ref 72] [.int xs0] (u, ml_h m lm) Φ = if ¬ xs0 = (nI 0) then wp Ln xs 201 21 [.ref 72] [] (u, ml_h m lm) Φ else wp Ln xs 201 19 [.ref 72] [] (u, ml_h m lm) Φ := wx_if xd201_16 rfl rfl (¬ xs0 = (nI 0)) mb_ne
theorem x201_19 : wp Ln xs 201 19 [.ref 72] [] (u, ml_h m lm) Φ = Φ (.inl (some (.int (nI 0)))) (u, ml_h m lm) := (wp_same (S' := [.int (nI 0)]) xd201_19 (Or.inr rfl) rfl).trans (wp_fin (v := some (.int (nI 0))) xd201_20 (Or.inr rfl) rfl (mj_fin_i rfl))
theorem x201_21 : wp Ln xs 201 21 [.ref 72] [] (u, ml_h m lm) Φ = wp Ln xs 156 0 [.ref 74, .int ((nI 251) * ((ml_s m 72 2 ((m 72 2) - (nI 1))) 72 2)), .ref 73, .int (nI 0), mj_hole] [] (u, ml_h (ml_s m 72 2 ((m 72 2) - (nI 1))) lm) (mk Ln xs 201 48 [.ref 72] [] Φ) := (wp_same xd201_21 (Or.inr rfl) rfl).trans ((wp_same xd201_22 (Or.inr rfl) rfl).trans ((wm_geti xd201_23 rfl (show ml_L[72]? = _ from rfl) rfl (Nat.le_of_ble_eq_true rfl)).trans ((wp_same (S' := [.int (nI 1), .int (m 72 2), .ref 72]) xd201_26 (Or.inr rfl) rfl).trans ((wp_same xd201_27 (Or.inr rfl) rfl).trans ((wm_puti xd201_28 rfl (show ml_L[72]? = _ from rfl) rfl (Nat.le_of_ble_eq_true rfl) rfl rfl rfl).trans ((wp_same xd201_31 (Or.inr rfl) rfl).trans ((wm_getr xd201_32 rfl (show ml_L[72]? = _ from rfl) rfl (Nat.le_of_ble_eq_true rfl)).trans ((wp_same (S' := [.int (nI 251), .ref 74]) xd201_35 (Or.inr rfl) rfl).trans ((wp_same xd201_38 (Or.inr rfl) rfl).trans ((wm_geti xd201_39 rfl (show ml_L[72]? = _ from rfl) rfl (Nat.le_of_ble_eq_true rfl)).trans ((wp_same xd201_42 (Or.inr rfl) rfl).trans ((wp_same xd201_43 (Or.inr rfl) rfl).trans ((wm_getr xd201_44 rfl (show ml_L[72]? = _ from rfl) rfl (Nat.le_of_ble_eq_true rfl)).trans ((wp_same (S' := [.int (nI 0), .ref 73, .int ((nI 251) * ((ml_s m 72 2 ((m 72 2) - (nI 1))) 72 2)), .ref 74]) xd201_47 (Or.inr rfl) rfl).trans (wm_cs (As := [.ref 74, .int ((nI 251) * ((ml_s m 72 2 ((m 72 2) - (nI 1))) 72 2)), .ref 73, .int (nI 0)]) (rest := []) xd201_48 rfl rfl (Nat.le_of_ble_eq_true rfl) (Nat.le_of_ble_eq_true rfl) (Nat.le_of_ble_eq_true rfl) (Nat.le_of_ble_eq_true rfl))))))))))))))))
theorem x201_51 : wp Ln xs 201 51 [.ref 72] [] (u, ml_h m lm) Φ = Φ (.inl (some (.int (m 72 2)))) (u, ml_h m lm) := (wp_same xd201_51 (Or.inr rfl) rfl).trans ((wm_geti xd201_52 rfl (show ml_L[72]? = _ from rfl) rfl (Nat.le_of_ble_eq_true rfl)).trans (wp_fin (v := some (.int (m 72 2))) xd201_55 (Or.inr rfl) rfl (mj_fin_i rfl)))
/- PickedFormsModel.value -/
theorem xd202_0 : decode (mj_b 202) 0 = .ok (.aload_n 0, 1) := by decide +kernel
theorem xd202_1 : decode (mj_b 202) 1 = .ok (.iload_n 1, 1) := by decide +kernel
theorem xd202_2 : decode (mj_b 202) 2 = .ok (.iconst 0, 1) := by decide +kernel
theorem xd202_3 : decode (mj_b 202) 3 = .ok (.aload_n 0, 1) := by decide +kernel
theorem xd202_4 : decode (mj_b 202) 4 = .ok (.invokevirtual 96, 3) := by decide +kernel
theorem xd202_7 : decode (mj_b 202) 7 = .ok (.iconst 1, 1) := by decide +kernel
theorem xd202_8 : decode (mj_b 202) 8 = .ok (.isub, 1) := by decide +kernel
theorem xd202_9 : decode (mj_b 202) 9 = .ok (.invokestatic 38, 3) := by decide +kernel
theorem xd202_12 : decode (mj_b 202) 12 = .ok (.ifCond .ne 7, 3) := by decide +kernel
theorem xd202_15 : decode (mj_b 202) 15 = .ok (.iconst 1, 1) := by decide +kernel
theorem xd202_16 : decode (mj_b 202) 16 = .ok (.goto 17, 3) := by decide +kernel
theorem xd202_19 : decode (mj_b 202) 19 = .ok (.iload_n 2, 1) := by decide +kernel
theorem xd202_20 : decode (mj_b 202) 20 = .ok (.iconst 0, 1) := by decide +kernel
theorem xd202_21 : decode (mj_b 202) 21 = .ok (.iconst 3, 1) := by decide +kernel
theorem xd202_22 : decode (mj_b 202) 22 = .ok (.invokestatic 38, 3) := by decide +kernel
theorem xd202_25 : decode (mj_b 202) 25 = .ok (.ifCond .ne 7, 3) := by decide +kernel
theorem xd202_28 : decode (mj_b 202) 28 = .ok (.iconst 2, 1) := by decide +kernel
theorem xd202_29 : decode (mj_b 202) 29 = .ok (.goto 4, 3) := by decide +kernel
theorem xd202_32 : decode (mj_b 202) 32 = .ok (.iconst 0, 1) := by decide +kernel
theorem xd202_33 : decode (mj_b 202) 33 = .ok (.invokevirtual 114, 3) := by decide +kernel
theorem xd202_36 : decode (mj_b 202) 36 = .ok (.ifCond .eq 12, 3) := by decide +kernel
theorem xd202_39 : decode (mj_b 202) 39 = .ok (.aload_n 0, 1) := by decide +kernel
theorem xd202_40 : decode (mj_b 202) 40 = .ok (.iload_n 1, 1) := by decide +kernel
theorem xd202_41 : decode (mj_b 202) 41 = .ok (.iload_n 2, 1) := by decide +kernel
theorem xd202_42 : decode (mj_b 202) 42 = .ok (.invokevirtual 185, 3) := by decide +kernel
theorem xd202_45 : decode (mj_b 202) 45 = .ok (.goto 4, 3) := by decide +kernel
theorem xd202_48 : decode (mj_b 202) 48 = .ok (.iconst 0, 1) := by decide +kernel
theorem xd202_49 : decode (mj_b 202) 49 = .ok (.ireturn, 1) := by decide +kernel
theorem x202_0 {x1 : Int32} {x2 : Int32} : wp Ln xs 202 0 [.ref 72, .int x1, .int x2] [] (u, ml_h m lm) Φ = wp Ln xs 158 0 [.ref 72] [] (u, ml_h m lm) (mk Ln xs 202 4 [.ref 72, .int x1, .int x2] [.int (nI 0), .int x1, .ref 72] Φ) := (wp_same xd202_0 (Or.inr rfl) rfl).trans ((wp_same xd202_1 (Or.inr rfl) rfl).trans ((wp_same (S' := [.int (nI 0), .int x1, .ref 72]) xd202_2 (Or.inr rfl) rfl).trans ((wp_same xd202_3 (Or.inr rfl) rfl).trans (wm_cv (As := []) (rest := [.int (nI 0), .int x1, .ref 72]) xd202_4 rfl rfl (show ml_L[72]? = _ from rfl) (Nat.le_of_ble_eq_true rfl) (Nat.le_of_ble_eq_true rfl) (Nat.le_of_ble_eq_true rfl) (Nat.le_of_ble_eq_true rfl)))))
theorem x202_7 {x1 : Int32} {x2 : Int32} {xs0 : Int32} {xs1 : Int32} {xs2 : Int32} : wp Ln xs 202 7 [.ref 72, .int x1, .int x2] [.int xs0, .int xs1, .int xs2, .ref 72] (u, ml_h m lm) Φ = wp Ln xs 152 0 [.int xs2, .int xs1, .int (xs0 - (nI 1))] [] (u, ml_h m lm) (mk Ln xs 202 9 [.ref 72, .int x1, .int x2] [.ref 72] Φ) := (wp_same (S' := [.int (nI 1), .int xs0, .int xs1, .int xs2, .ref 72]) xd202_7 (Or.inr rfl) rfl).trans ((wp_same xd202_8 (Or.inr rfl) rfl).trans (wm_cs (As := [.int xs2, .int xs1, .int (xs0 - (nI 1))]) (rest := [.ref 72]) xd202_9 rfl rfl (Nat.le_of_ble_eq_true rfl) (Nat.le_of_ble_eq_true rfl) (Nat.le_of_ble_eq_true rfl) (Nat.le_of_ble_eq_true rfl)))
theorem x202_12 {x1 : Int32} {x2 : Int32} {xs0 : Int32} : wp Ln xs 202 12 [.ref 72, .int x1, .int x2] [.int xs0, .ref 72] (u, ml_h m lm) Φ = if ¬ xs0 = (nI 0) then wp Ln xs 202 19 [.ref 72, .int x1, .int x2] [.ref 72] (u, ml_h m lm) Φ else wp Ln xs 202 15 [.ref 72, .int x1, .int x2] [.ref 72] (u, ml_h m lm) Φ := wx_if xd202_12 rfl rfl (¬ xs0 = (nI 0)) mb_ne
theorem x202_15 {x1 : Int32} {x2 : Int32} : wp Ln xs 202 15 [.ref 72, .int x1, .int x2] [.ref 72] (u, ml_h m lm) Φ = wp Ln xs 202 33 [.ref 72, .int x1, .int x2] [.int (nI 1), .ref 72] (u, ml_h m lm) Φ := (wp_same (S' := [.int (nI 1), .ref 72]) xd202_15 (Or.inr rfl) rfl).trans (wx_goto xd202_16 rfl)
theorem x202_19 {x1 : Int32} {x2 : Int32} : wp Ln xs 202 19 [.ref 72, .int x1, .int x2] [.ref 72] (u, ml_h m lm) Φ = wp Ln xs 152 0 [.int x2, .int (nI 0), .int (nI 3)] [] (u, ml_h m lm) (mk Ln xs 202 22 [.ref 72, .int x1, .int x2] [.ref 72] Φ) := (wp_same xd202_19 (Or.inr rfl) rfl).trans ((wp_same (S' := [.int (nI 0), .int x2, .ref 72]) xd202_20 (Or.inr rfl) rfl).trans ((wp_same (S' := [.int (nI 3), .int (nI 0), .int x2, .ref 72]) xd202_21 (Or.inr rfl) rfl).trans (wm_cs (As := [.int x2, .int (nI 0), .int (nI 3)]) (rest := [.ref 72]) xd202_22 rfl rfl (Nat.le_of_ble_eq_true rfl) (Nat.le_of_ble_eq_true rfl) (Nat.le_of_ble_eq_true rfl) (Nat.le_of_ble_eq_true rfl))))
theorem x202_25 {x1 : Int32} {x2 : Int32} {xs0 : Int32} : wp Ln xs 202 25 [.ref 72, .int x1, .int x2] [.int xs0, .ref 72] (u, ml_h m lm) Φ = if ¬ xs0 = (nI 0) then wp Ln xs 202 32 [.ref 72, .int x1, .int x2] [.ref 72] (u, ml_h m lm) Φ else wp Ln xs 202 28 [.ref 72, .int x1, .int x2] [.ref 72] (u, ml_h m lm) Φ := wx_if xd202_25 rfl rfl (¬ xs0 = (nI 0)) mb_ne
theorem x202_28 {x1 : Int32} {x2 : Int32} : wp Ln xs 202 28 [.ref 72, .int x1, .int x2] [.ref 72] (u, ml_h m lm) Φ = wp Ln xs 202 33 [.ref 72, .int x1, .int x2] [.int (nI 2), .ref 72] (u, ml_h m lm) Φ := (wp_same (S' := [.int (nI 2), .ref 72]) xd202_28 (Or.inr rfl) rfl).trans (wx_goto xd202_29 rfl)
theorem x202_32 {x1 : Int32} {x2 : Int32} : wp Ln xs 202 32 [.ref 72, .int x1, .int x2] [.ref 72] (u, ml_h m lm) Φ = wp Ln xs 202 33 [.ref 72, .int x1, .int x2] [.int (nI 0), .ref 72] (u, ml_h m lm) Φ := wp_same (S' := [.int (nI 0), .ref 72]) xd202_32 (Or.inr rfl) rfl
theorem x202_33 {x1 : Int32} {x2 : Int32} {xs0 : Int32} : wp Ln xs 202 33 [.ref 72, .int x1, .int x2] [.int xs0, .ref 72] (u, ml_h m lm) Φ = wp Ln xs 154 0 [.ref 72, .int xs0] [] (u, ml_h m lm) (mk Ln xs 202 33 [.ref 72, .int x1, .int x2] [] Φ) := wm_cv (As := [.int xs0]) (rest := []) xd202_33 rfl rfl (show ml_L[72]? = _ from rfl) (Nat.le_of_ble_eq_true rfl) (Nat.le_of_ble_eq_true rfl) (Nat.le_of_ble_eq_true rfl) (Nat.le_of_ble_eq_true rfl)
theorem x202_36 {x1 : Int32} {x2 : Int32} {xs0 : Int32} : wp Ln xs 202 36 [.ref 72, .int x1, .int x2] [.int xs0] (u, ml_h m lm) Φ = if xs0 = (nI 0) then wp Ln xs 202 48 [.ref 72, .int x1, .int x2] [] (u, ml_h m lm) Φ else wp Ln xs 202 39 [.ref 72, .int x1, .int x2] [] (u, ml_h m lm) Φ := wx_if xd202_36 rfl rfl (xs0 = (nI 0)) mb_eq
theorem x202_39 {x1 : Int32} {x2 : Int32} : wp Ln xs 202 39 [.ref 72, .int x1, .int x2] [] (u, ml_h m lm) Φ = wp Ln xs 203 0 [.ref 72, .int x1, .int x2, mj_hole] [] (u, ml_h m lm) (mk Ln xs 202 42 [.ref 72, .int x1, .int x2] [] Φ) := (wp_same xd202_39 (Or.inr rfl) rfl).trans ((wp_same xd202_40 (Or.inr rfl) rfl).trans ((wp_same xd202_41 (Or.inr rfl) rfl).trans (wm_cv (As := [.int x1, .int x2]) (rest := []) xd202_42 rfl rfl (show ml_L[72]? = _ from rfl) (Nat.le_of_ble_eq_true rfl) (Nat.le_of_ble_eq_true rfl) (Nat.le_of_ble_eq_true rfl) (Nat.le_of_ble_eq_true rfl))))
theorem x202_45 {x1 : Int32} {x2 : Int32} {xs0 : Int32} : wp Ln xs 202 45 [.ref 72, .int x1, .int x2] [.int xs0] (u, ml_h m lm) Φ = Φ (.inl (some (.int xs0))) (u, ml_h m lm) := (wx_goto xd202_45 rfl).trans (wp_fin (v := some (.int xs0)) xd202_49 (Or.inr rfl) rfl (mj_fin_i rfl))
theorem x202_48 {x1 : Int32} {x2 : Int32} : wp Ln xs 202 48 [.ref 72, .int x1, .int x2] [] (u, ml_h m lm) Φ = Φ (.inl (some (.int (nI 0)))) (u, ml_h m lm) := (wp_same (S' := [.int (nI 0)]) xd202_48 (Or.inr rfl) rfl).trans (wp_fin (v := some (.int (nI 0))) xd202_49 (Or.inr rfl) rfl (mj_fin_i rfl))
/- PickedFormsModel.valueTold -/
theorem xd203_0 : decode (mj_b 203) 0 = .ok (.aload_n 0, 1) := by decide +kernel
theorem xd203_1 : decode (mj_b 203) 1 = .ok (.iload_n 1, 1) := by decide +kernel
theorem xd203_2 : decode (mj_b 203) 2 = .ok (.invokevirtual 103, 3) := by decide +kernel
theorem xd203_5 : decode (mj_b 203) 5 = .ok (.istore_n 3, 1) := by decide +kernel
theorem xd203_6 : decode (mj_b 203) 6 = .ok (.iload_n 2, 1) := by decide +kernel
theorem xd203_7 : decode (mj_b 203) 7 = .ok (.tableswitch 59 0 2 #[25, 35, 51], 25) := by decide +kernel
theorem xd203_32 : decode (mj_b 203) 32 = .ok (.aload_n 0, 1) := by decide +kernel
theorem xd203_33 : decode (mj_b 203) 33 = .ok (.getfield 7, 3) := by decide +kernel
theorem xd203_36 : decode (mj_b 203) 36 = .ok (.bipush 43, 2) := by decide +kernel
theorem xd203_38 : decode (mj_b 203) 38 = .ok (.iload_n 1, 1) := by decide +kernel
theorem xd203_39 : decode (mj_b 203) 39 = .ok (.iadd, 1) := by decide +kernel
theorem xd203_40 : decode (mj_b 203) 40 = .ok (.iaload, 1) := by decide +kernel
theorem xd203_41 : decode (mj_b 203) 41 = .ok (.ireturn, 1) := by decide +kernel
theorem xd203_42 : decode (mj_b 203) 42 = .ok (.iload_n 3, 1) := by decide +kernel
theorem xd203_43 : decode (mj_b 203) 43 = .ok (.aload_n 0, 1) := by decide +kernel
theorem xd203_44 : decode (mj_b 203) 44 = .ok (.getfield 7, 3) := by decide +kernel
theorem xd203_47 : decode (mj_b 203) 47 = .ok (.iconst 0, 1) := by decide +kernel
theorem xd203_48 : decode (mj_b 203) 48 = .ok (.iaload, 1) := by decide +kernel
theorem xd203_49 : decode (mj_b 203) 49 = .ok (.if_icmp .ne 7, 3) := by decide +kernel
theorem xd203_52 : decode (mj_b 203) 52 = .ok (.iconst (-1), 1) := by decide +kernel
theorem xd203_53 : decode (mj_b 203) 53 = .ok (.goto 4, 3) := by decide +kernel
theorem xd203_56 : decode (mj_b 203) 56 = .ok (.iload_n 3, 1) := by decide +kernel
theorem xd203_57 : decode (mj_b 203) 57 = .ok (.ireturn, 1) := by decide +kernel
theorem xd203_58 : decode (mj_b 203) 58 = .ok (.iload_n 1, 1) := by decide +kernel
theorem xd203_59 : decode (mj_b 203) 59 = .ok (.aload_n 0, 1) := by decide +kernel
theorem xd203_60 : decode (mj_b 203) 60 = .ok (.iload_n 3, 1) := by decide +kernel
theorem xd203_61 : decode (mj_b 203) 61 = .ok (.invokevirtual 49, 3) := by decide +kernel
theorem xd203_64 : decode (mj_b 203) 64 = .ok (.isub, 1) := by decide +kernel
theorem xd203_65 : decode (mj_b 203) 65 = .ok (.ireturn, 1) := by decide +kernel
theorem xd203_66 : decode (mj_b 203) 66 = .ok (.aload_n 0, 1) := by decide +kernel
theorem xd203_67 : decode (mj_b 203) 67 = .ok (.iload_n 1, 1) := by decide +kernel
theorem xd203_68 : decode (mj_b 203) 68 = .ok (.invokevirtual 182, 3) := by decide +kernel
theorem xd203_71 : decode (mj_b 203) 71 = .ok (.ireturn, 1) := by decide +kernel
theorem x203_0 {x1 : Int32} {x2 : Int32} : wp Ln xs 203 0 [.ref 72, .int x1, .int x2, mj_hole] [] (u, ml_h m lm) Φ = wp Ln xs 177 0 [.ref 72, .int x1, mj_hole] [] (u, ml_h m lm) (mk Ln xs 203 2 [.ref 72, .int x1, .int x2, mj_hole] [] Φ) := (wp_same xd203_0 (Or.inr rfl) rfl).trans ((wp_same xd203_1 (Or.inr rfl) rfl).trans (wm_cv (As := [.int x1]) (rest := []) xd203_2 rfl rfl (show ml_L[72]? = _ from rfl) (Nat.le_of_ble_eq_true rfl) (Nat.le_of_ble_eq_true rfl) (Nat.le_of_ble_eq_true rfl) (Nat.le_of_ble_eq_true rfl)))
theorem x203_5 {x1 : Int32} {x2 : Int32} {xs0 : Int32} : wp Ln xs 203 5 [.ref 72, .int x1, .int x2, mj_hole] [.int xs0] (u, ml_h m lm) Φ = wp Ln xs 203 7 [.ref 72, .int x1, .int x2, .int xs0] [.int x2] (u, ml_h m lm) Φ := (wp_same (L' := [.ref 72, .int x1, .int x2, .int xs0]) xd203_5 (Or.inr rfl) rfl).trans (wp_same xd203_6 (Or.inr rfl) rfl)
theorem x203_7_0 {x1 : Int32} {x2 : Int32} {x3 : Int32} : wp Ln xs 203 7 [.ref 72, .int x1, .int x2, .int x3] [.int (nI 0)] (u, ml_h m lm) Φ = wp Ln xs 203 32 [.ref 72, .int x1, .int x2, .int x3] [] (u, ml_h m lm) Φ := wp_same xd203_7 (Or.inl rfl) rfl
theorem x203_7_1 {x1 : Int32} {x2 : Int32} {x3 : Int32} : wp Ln xs 203 7 [.ref 72, .int x1, .int x2, .int x3] [.int (nI 1)] (u, ml_h m lm) Φ = wp Ln xs 203 42 [.ref 72, .int x1, .int x2, .int x3] [] (u, ml_h m lm) Φ := wp_same xd203_7 (Or.inl rfl) rfl
theorem x203_7_2 {x1 : Int32} {x2 : Int32} {x3 : Int32} : wp Ln xs 203 7 [.ref 72, .int x1, .int x2, .int x3] [.int (nI 2)] (u, ml_h m lm) Φ = wp Ln xs 203 58 [.ref 72, .int x1, .int x2, .int x3] [] (u, ml_h m lm) Φ := wp_same xd203_7 (Or.inl rfl) rfl
theorem x203_7_3 {x1 : Int32} {x2 : Int32} {x3 : Int32} : wp Ln xs 203 7 [.ref 72, .int x1, .int x2, .int x3] [.int (nI 3)] (u, ml_h m lm) Φ = wp Ln xs 203 66 [.ref 72, .int x1, .int x2, .int x3] [] (u, ml_h m lm) Φ := wp_same xd203_7 (Or.inl rfl) rfl
theorem x203_7_4 {x1 : Int32} {x2 : Int32} {x3 : Int32} : wp Ln xs 203 7 [.ref 72, .int x1, .int x2, .int x3] [.int (nI 4)] (u, ml_h m lm) Φ = wp Ln xs 203 66 [.ref 72, .int x1, .int x2, .int x3] [] (u, ml_h m lm) Φ := wp_same xd203_7 (Or.inl rfl) rfl
theorem x203_7_5 {x1 : Int32} {x2 : Int32} {x3 : Int32} : wp Ln xs 203 7 [.ref 72, .int x1, .int x2, .int x3] [.int (nI 5)] (u, ml_h m lm) Φ = wp Ln xs 203 66 [.ref 72, .int x1, .int x2, .int x3] [] (u, ml_h m lm) Φ := wp_same xd203_7 (Or.inl rfl) rfl
theorem x203_32 {x1 : Int32} {x2 : Int32} {x3 : Int32} : wp Ln xs 203 32 [.ref 72, .int x1, .int x2, .int x3] [] (u, ml_h m lm) Φ = wp Ln xs 203 40 [.ref 72, .int x1, .int x2, .int x3] [.int ((nI 43) + x1), .ref 73] (u, ml_h m lm) Φ := (wp_same xd203_32 (Or.inr rfl) rfl).trans ((wm_getr xd203_33 rfl (show ml_L[72]? = _ from rfl) rfl (Nat.le_of_ble_eq_true rfl)).trans ((wp_same (S' := [.int (nI 43), .ref 73]) xd203_36 (Or.inr rfl) rfl).trans ((wp_same xd203_38 (Or.inr rfl) rfl).trans (wp_same xd203_39 (Or.inr rfl) rfl))))
theorem x203_40 {x1 : Int32} {x2 : Int32} {x3 : Int32} {k : Nat} (hk : k < 251) : wp Ln xs 203 40 [.ref 72, .int x1, .int x2, .int x3] [.int (nI k), .ref 73] (u, ml_h m lm) Φ = Φ (.inl (some (.int (m 73 k)))) (u, ml_h m lm) := (wm_iald (k := k) xd203_40 ml_ia_73 (by decide) hk).trans (wp_fin (v := some (.int (m 73 k))) xd203_41 (Or.inr rfl) rfl (mj_fin_i rfl))
theorem x203_42 {x1 : Int32} {x2 : Int32} {x3 : Int32} : wp Ln xs 203 42 [.ref 72, .int x1, .int x2, .int x3] [] (u, ml_h m lm) Φ = if ¬ x3 = (m 73 0) then wp Ln xs 203 56 [.ref 72, .int x1, .int x2, .int x3] [] (u, ml_h m lm) Φ else wp Ln xs 203 52 [.ref 72, .int x1, .int x2, .int x3] [] (u, ml_h m lm) Φ := (wp_same xd203_42 (Or.inr rfl) rfl).trans ((wp_same xd203_43 (Or.inr rfl) rfl).trans ((wm_getr xd203_44 rfl (show ml_L[72]? = _ from rfl) rfl (Nat.le_of_ble_eq_true rfl)).trans ((wp_same (S' := [.int (nI 0), .ref 73, .int x3]) xd203_47 (Or.inr rfl) rfl).trans ((wm_iald (k := 0) xd203_48 ml_ia_73 (by decide) (Nat.le_of_ble_eq_true rfl)).trans (wx_icmp xd203_49 rfl rfl (¬ x3 = (m 73 0)) mb_ne)))))
theorem x203_52 {x1 : Int32} {x2 : Int32} {x3 : Int32} : wp Ln xs 203 52 [.ref 72, .int x1, .int x2, .int x3] [] (u, ml_h m lm) Φ = Φ (.inl (some (.int ((-1))))) (u, ml_h m lm) := (wp_same (S' := [.int ((-1))]) xd203_52 (Or.inr rfl) rfl).trans ((wx_goto xd203_53 rfl).trans (wp_fin (v := some (.int ((-1)))) xd203_57 (Or.inr rfl) rfl (mj_fin_i rfl)))
theorem x203_56 {x1 : Int32} {x2 : Int32} {x3 : Int32} : wp Ln xs 203 56 [.ref 72, .int x1, .int x2, .int x3] [] (u, ml_h m lm) Φ = Φ (.inl (some (.int x3))) (u, ml_h m lm) := (wp_same xd203_56 (Or.inr rfl) rfl).trans (wp_fin (v := some (.int x3)) xd203_57 (Or.inr rfl) rfl (mj_fin_i rfl))
theorem x203_58 {x1 : Int32} {x2 : Int32} {x3 : Int32} : wp Ln xs 203 58 [.ref 72, .int x1, .int x2, .int x3] [] (u, ml_h m lm) Φ = wp Ln xs 159 0 [.ref 72, .int x3, mj_hole, mj_hole] [] (u, ml_h m lm) (mk Ln xs 203 61 [.ref 72, .int x1, .int x2, .int x3] [.int x1] Φ) := (wp_same xd203_58 (Or.inr rfl) rfl).trans ((wp_same xd203_59 (Or.inr rfl) rfl).trans ((wp_same xd203_60 (Or.inr rfl) rfl).trans (wm_cv (As := [.int x3]) (rest := [.int x1]) xd203_61 rfl rfl (show ml_L[72]? = _ from rfl) (Nat.le_of_ble_eq_true rfl) (Nat.le_of_ble_eq_true rfl) (Nat.le_of_ble_eq_true rfl) (Nat.le_of_ble_eq_true rfl))))
theorem x203_64 {x1 : Int32} {x2 : Int32} {x3 : Int32} {xs0 : Int32} {xs1 : Int32} : wp Ln xs 203 64 [.ref 72, .int x1, .int x2, .int x3] [.int xs0, .int xs1] (u, ml_h m lm) Φ = Φ (.inl (some (.int (xs1 - xs0)))) (u, ml_h m lm) := (wp_same xd203_64 (Or.inr rfl) rfl).trans (wp_fin (v := some (.int (xs1 - xs0))) xd203_65 (Or.inr rfl) rfl (mj_fin_i rfl))
theorem x203_66 {x1 : Int32} {x2 : Int32} {x3 : Int32} : wp Ln xs 203 66 [.ref 72, .int x1, .int x2, .int x3] [] (u, ml_h m lm) Φ = wp Ln xs 204 0 [.ref 72, .int x1, mj_hole, mj_hole, mj_hole] [] (u, ml_h m lm) (mk Ln xs 203 68 [.ref 72, .int x1, .int x2, .int x3] [] Φ) := (wp_same xd203_66 (Or.inr rfl) rfl).trans ((wp_same xd203_67 (Or.inr rfl) rfl).trans (wm_cv (As := [.int x1]) (rest := []) xd203_68 rfl rfl (show ml_L[72]? = _ from rfl) (Nat.le_of_ble_eq_true rfl) (Nat.le_of_ble_eq_true rfl) (Nat.le_of_ble_eq_true rfl) (Nat.le_of_ble_eq_true rfl)))
theorem x203_71 {x1 : Int32} {x2 : Int32} {x3 : Int32} {xs0 : Int32} : wp Ln xs 203 71 [.ref 72, .int x1, .int x2, .int x3] [.int xs0] (u, ml_h m lm) Φ = Φ (.inl (some (.int xs0))) (u, ml_h m lm) := wp_fin (v := some (.int xs0)) xd203_71 (Or.inr rfl) rfl (mj_fin_i rfl)
/- PickedFormsModel.looksFor -/
theorem xd204_0 : decode (mj_b 204) 0 = .ok (.aload_n 0, 1) := by decide +kernel
theorem xd204_1 : decode (mj_b 204) 1 = .ok (.iload_n 1, 1) := by decide +kernel
theorem xd204_2 : decode (mj_b 204) 2 = .ok (.invokevirtual 103, 3) := by decide +kernel
theorem xd204_5 : decode (mj_b 204) 5 = .ok (.istore_n 2, 1) := by decide +kernel
theorem xd204_6 : decode (mj_b 204) 6 = .ok (.aload_n 0, 1) := by decide +kernel
theorem xd204_7 : decode (mj_b 204) 7 = .ok (.iload_n 2, 1) := by decide +kernel
theorem xd204_8 : decode (mj_b 204) 8 = .ok (.invokevirtual 49, 3) := by decide +kernel
theorem xd204_11 : decode (mj_b 204) 11 = .ok (.istore_n 3, 1) := by decide +kernel
theorem xd204_12 : decode (mj_b 204) 12 = .ok (.iload_n 2, 1) := by decide +kernel
theorem xd204_13 : decode (mj_b 204) 13 = .ok (.aload_n 0, 1) := by decide +kernel
theorem xd204_14 : decode (mj_b 204) 14 = .ok (.getfield 7, 3) := by decide +kernel
theorem xd204_17 : decode (mj_b 204) 17 = .ok (.iconst 0, 1) := by decide +kernel
theorem xd204_18 : decode (mj_b 204) 18 = .ok (.iaload, 1) := by decide +kernel
theorem xd204_19 : decode (mj_b 204) 19 = .ok (.if_icmp .ne 7, 3) := by decide +kernel
theorem xd204_22 : decode (mj_b 204) 22 = .ok (.iconst 0, 1) := by decide +kernel
theorem xd204_23 : decode (mj_b 204) 23 = .ok (.goto 12, 3) := by decide +kernel
theorem xd204_26 : decode (mj_b 204) 26 = .ok (.aload_n 0, 1) := by decide +kernel
theorem xd204_27 : decode (mj_b 204) 27 = .ok (.getfield 7, 3) := by decide +kernel
theorem xd204_30 : decode (mj_b 204) 30 = .ok (.bipush 19, 2) := by decide +kernel
theorem xd204_32 : decode (mj_b 204) 32 = .ok (.iload_n 2, 1) := by decide +kernel
theorem xd204_33 : decode (mj_b 204) 33 = .ok (.iadd, 1) := by decide +kernel
theorem xd204_34 : decode (mj_b 204) 34 = .ok (.iaload, 1) := by decide +kernel
theorem xd204_35 : decode (mj_b 204) 35 = .ok (.istore 4, 2) := by decide +kernel
theorem xd204_37 : decode (mj_b 204) 37 = .ok (.iload 4, 2) := by decide +kernel
theorem xd204_39 : decode (mj_b 204) 39 = .ok (.iconst 2, 1) := by decide +kernel
theorem xd204_40 : decode (mj_b 204) 40 = .ok (.if_icmp .ne 16, 3) := by decide +kernel
theorem xd204_43 : decode (mj_b 204) 43 = .ok (.aload_n 0, 1) := by decide +kernel
theorem xd204_44 : decode (mj_b 204) 44 = .ok (.iload_n 3, 1) := by decide +kernel
theorem xd204_45 : decode (mj_b 204) 45 = .ok (.iload_n 1, 1) := by decide +kernel
theorem xd204_46 : decode (mj_b 204) 46 = .ok (.iload_n 3, 1) := by decide +kernel
theorem xd204_47 : decode (mj_b 204) 47 = .ok (.isub, 1) := by decide +kernel
theorem xd204_48 : decode (mj_b 204) 48 = .ok (.iconst 1, 1) := by decide +kernel
theorem xd204_49 : decode (mj_b 204) 49 = .ok (.iadd, 1) := by decide +kernel
theorem xd204_50 : decode (mj_b 204) 50 = .ok (.invokevirtual 70, 3) := by decide +kernel
theorem xd204_53 : decode (mj_b 204) 53 = .ok (.goto 28, 3) := by decide +kernel
theorem xd204_56 : decode (mj_b 204) 56 = .ok (.iload 4, 2) := by decide +kernel
theorem xd204_58 : decode (mj_b 204) 58 = .ok (.iconst 3, 1) := by decide +kernel
theorem xd204_59 : decode (mj_b 204) 59 = .ok (.if_icmp .ne 11, 3) := by decide +kernel
theorem xd204_62 : decode (mj_b 204) 62 = .ok (.iload_n 1, 1) := by decide +kernel
theorem xd204_63 : decode (mj_b 204) 63 = .ok (.iload_n 3, 1) := by decide +kernel
theorem xd204_64 : decode (mj_b 204) 64 = .ok (.isub, 1) := by decide +kernel
theorem xd204_65 : decode (mj_b 204) 65 = .ok (.iconst 1, 1) := by decide +kernel
theorem xd204_66 : decode (mj_b 204) 66 = .ok (.iadd, 1) := by decide +kernel
theorem xd204_67 : decode (mj_b 204) 67 = .ok (.goto 14, 3) := by decide +kernel
theorem xd204_70 : decode (mj_b 204) 70 = .ok (.iload 4, 2) := by decide +kernel
theorem xd204_72 : decode (mj_b 204) 72 = .ok (.iconst 4, 1) := by decide +kernel
theorem xd204_73 : decode (mj_b 204) 73 = .ok (.if_icmp .ne 7, 3) := by decide +kernel
theorem xd204_76 : decode (mj_b 204) 76 = .ok (.iconst 2, 1) := by decide +kernel
theorem xd204_77 : decode (mj_b 204) 77 = .ok (.goto 4, 3) := by decide +kernel
theorem xd204_80 : decode (mj_b 204) 80 = .ok (.iconst 1, 1) := by decide +kernel
theorem xd204_81 : decode (mj_b 204) 81 = .ok (.ireturn, 1) := by decide +kernel
theorem x204_0 {x1 : Int32} : wp Ln xs 204 0 [.ref 72, .int x1, mj_hole, mj_hole, mj_hole] [] (u, ml_h m lm) Φ = wp Ln xs 177 0 [.ref 72, .int x1, mj_hole] [] (u, ml_h m lm) (mk Ln xs 204 2 [.ref 72, .int x1, mj_hole, mj_hole, mj_hole] [] Φ) := (wp_same xd204_0 (Or.inr rfl) rfl).trans ((wp_same xd204_1 (Or.inr rfl) rfl).trans (wm_cv (As := [.int x1]) (rest := []) xd204_2 rfl rfl (show ml_L[72]? = _ from rfl) (Nat.le_of_ble_eq_true rfl) (Nat.le_of_ble_eq_true rfl) (Nat.le_of_ble_eq_true rfl) (Nat.le_of_ble_eq_true rfl)))
theorem x204_5 {x1 : Int32} {xs0 : Int32} : wp Ln xs 204 5 [.ref 72, .int x1, mj_hole, mj_hole, mj_hole] [.int xs0] (u, ml_h m lm) Φ = wp Ln xs 159 0 [.ref 72, .int xs0, mj_hole, mj_hole] [] (u, ml_h m lm) (mk Ln xs 204 8 [.ref 72, .int x1, .int xs0, mj_hole, mj_hole] [] Φ) := (wp_same (L' := [.ref 72, .int x1, .int xs0, mj_hole, mj_hole]) xd204_5 (Or.inr rfl) rfl).trans ((wp_same xd204_6 (Or.inr rfl) rfl).trans ((wp_same xd204_7 (Or.inr rfl) rfl).trans (wm_cv (As := [.int xs0]) (rest := []) xd204_8 rfl rfl (show ml_L[72]? = _ from rfl) (Nat.le_of_ble_eq_true rfl) (Nat.le_of_ble_eq_true rfl) (Nat.le_of_ble_eq_true rfl) (Nat.le_of_ble_eq_true rfl))))
theorem x204_11 {x1 : Int32} {x2 : Int32} {xs0 : Int32} : wp Ln xs 204 11 [.ref 72, .int x1, .int x2, mj_hole, mj_hole] [.int xs0] (u, ml_h m lm) Φ = if ¬ x2 = (m 73 0) then wp Ln xs 204 26 [.ref 72, .int x1, .int x2, .int xs0, mj_hole] [] (u, ml_h m lm) Φ else wp Ln xs 204 22 [.ref 72, .int x1, .int x2, .int xs0, mj_hole] [] (u, ml_h m lm) Φ := (wp_same (L' := [.ref 72, .int x1, .int x2, .int xs0, mj_hole]) xd204_11 (Or.inr rfl) rfl).trans ((wp_same xd204_12 (Or.inr rfl) rfl).trans ((wp_same xd204_13 (Or.inr rfl) rfl).trans ((wm_getr xd204_14 rfl (show ml_L[72]? = _ from rfl) rfl (Nat.le_of_ble_eq_true rfl)).trans ((wp_same (S' := [.int (nI 0), .ref 73, .int x2]) xd204_17 (Or.inr rfl) rfl).trans ((wm_iald (k := 0) xd204_18 ml_ia_73 (by decide) (Nat.le_of_ble_eq_true rfl)).trans (wx_icmp xd204_19 rfl rfl (¬ x2 = (m 73 0)) mb_ne))))))
theorem x204_22 {x1 : Int32} {x2 : Int32} {x3 : Int32} : wp Ln xs 204 22 [.ref 72, .int x1, .int x2, .int x3, mj_hole] [] (u, ml_h m lm) Φ = wp Ln xs 204 35 [.ref 72, .int x1, .int x2, .int x3, mj_hole] [.int (nI 0)] (u, ml_h m lm) Φ := (wp_same (S' := [.int (nI 0)]) xd204_22 (Or.inr rfl) rfl).trans (wx_goto xd204_23 rfl)
theorem x204_26 {x1 : Int32} {x2 : Int32} {x3 : Int32} : wp Ln xs 204 26 [.ref 72, .int x1, .int x2, .int x3, mj_hole] [] (u, ml_h m lm) Φ = wp Ln xs 204 34 [.ref 72, .int x1, .int x2, .int x3, mj_hole] [.int ((nI 19) + x2), .ref 73] (u, ml_h m lm) Φ := (wp_same xd204_26 (Or.inr rfl) rfl).trans ((wm_getr xd204_27 rfl (show ml_L[72]? = _ from rfl) rfl (Nat.le_of_ble_eq_true rfl)).trans ((wp_same (S' := [.int (nI 19), .ref 73]) xd204_30 (Or.inr rfl) rfl).trans ((wp_same xd204_32 (Or.inr rfl) rfl).trans (wp_same xd204_33 (Or.inr rfl) rfl))))
theorem x204_34 {x1 : Int32} {x2 : Int32} {x3 : Int32} {k : Nat} (hk : k < 251) : wp Ln xs 204 34 [.ref 72, .int x1, .int x2, .int x3, mj_hole] [.int (nI k), .ref 73] (u, ml_h m lm) Φ = wp Ln xs 204 35 [.ref 72, .int x1, .int x2, .int x3, mj_hole] [.int (m 73 k)] (u, ml_h m lm) Φ := wm_iald (k := k) xd204_34 ml_ia_73 (by decide) hk
theorem x204_35 {x1 : Int32} {x2 : Int32} {x3 : Int32} {xs0 : Int32} : wp Ln xs 204 35 [.ref 72, .int x1, .int x2, .int x3, mj_hole] [.int xs0] (u, ml_h m lm) Φ = if ¬ xs0 = (nI 2) then wp Ln xs 204 56 [.ref 72, .int x1, .int x2, .int x3, .int xs0] [] (u, ml_h m lm) Φ else wp Ln xs 204 43 [.ref 72, .int x1, .int x2, .int x3, .int xs0] [] (u, ml_h m lm) Φ := (wp_same (L' := [.ref 72, .int x1, .int x2, .int x3, .int xs0]) xd204_35 (Or.inr rfl) rfl).trans ((wp_same xd204_37 (Or.inr rfl) rfl).trans ((wp_same (S' := [.int (nI 2), .int xs0]) xd204_39 (Or.inr rfl) rfl).trans (wx_icmp xd204_40 rfl rfl (¬ xs0 = (nI 2)) mb_ne)))
theorem x204_43 {x1 : Int32} {x2 : Int32} {x3 : Int32} {x4 : Int32} : wp Ln xs 204 43 [.ref 72, .int x1, .int x2, .int x3, .int x4] [] (u, ml_h m lm) Φ = wp Ln xs 168 0 [.ref 72, .int x3, .int ((x1 - x3) + (nI 1)), mj_hole, mj_hole] [] (u, ml_h m lm) (mk Ln xs 204 50 [.ref 72, .int x1, .int x2, .int x3, .int x4] [] Φ) := (wp_same xd204_43 (Or.inr rfl) rfl).trans ((wp_same xd204_44 (Or.inr rfl) rfl).trans ((wp_same xd204_45 (Or.inr rfl) rfl).trans ((wp_same xd204_46 (Or.inr rfl) rfl).trans ((wp_same xd204_47 (Or.inr rfl) rfl).trans ((wp_same (S' := [.int (nI 1), .int (x1 - x3), .int x3, .ref 72]) xd204_48 (Or.inr rfl) rfl).trans ((wp_same xd204_49 (Or.inr rfl) rfl).trans (wm_cv (As := [.int x3, .int ((x1 - x3) + (nI 1))]) (rest := []) xd204_50 rfl rfl (show ml_L[72]? = _ from rfl) (Nat.le_of_ble_eq_true rfl) (Nat.le_of_ble_eq_true rfl) (Nat.le_of_ble_eq_true rfl) (Nat.le_of_ble_eq_true rfl))))))))
theorem x204_53 {x1 : Int32} {x2 : Int32} {x3 : Int32} {x4 : Int32} {xs0 : Int32} : wp Ln xs 204 53 [.ref 72, .int x1, .int x2, .int x3, .int x4] [.int xs0] (u, ml_h m lm) Φ = Φ (.inl (some (.int xs0))) (u, ml_h m lm) := (wx_goto xd204_53 rfl).trans (wp_fin (v := some (.int xs0)) xd204_81 (Or.inr rfl) rfl (mj_fin_i rfl))
theorem x204_56 {x1 : Int32} {x2 : Int32} {x3 : Int32} {x4 : Int32} : wp Ln xs 204 56 [.ref 72, .int x1, .int x2, .int x3, .int x4] [] (u, ml_h m lm) Φ = if ¬ x4 = (nI 3) then wp Ln xs 204 70 [.ref 72, .int x1, .int x2, .int x3, .int x4] [] (u, ml_h m lm) Φ else wp Ln xs 204 62 [.ref 72, .int x1, .int x2, .int x3, .int x4] [] (u, ml_h m lm) Φ := (wp_same xd204_56 (Or.inr rfl) rfl).trans ((wp_same (S' := [.int (nI 3), .int x4]) xd204_58 (Or.inr rfl) rfl).trans (wx_icmp xd204_59 rfl rfl (¬ x4 = (nI 3)) mb_ne))
theorem x204_62 {x1 : Int32} {x2 : Int32} {x3 : Int32} {x4 : Int32} : wp Ln xs 204 62 [.ref 72, .int x1, .int x2, .int x3, .int x4] [] (u, ml_h m lm) Φ = Φ (.inl (some (.int ((x1 - x3) + (nI 1))))) (u, ml_h m lm) := (wp_same xd204_62 (Or.inr rfl) rfl).trans ((wp_same xd204_63 (Or.inr rfl) rfl).trans ((wp_same xd204_64 (Or.inr rfl) rfl).trans ((wp_same (S' := [.int (nI 1), .int (x1 - x3)]) xd204_65 (Or.inr rfl) rfl).trans ((wp_same xd204_66 (Or.inr rfl) rfl).trans ((wx_goto xd204_67 rfl).trans (wp_fin (v := some (.int ((x1 - x3) + (nI 1)))) xd204_81 (Or.inr rfl) rfl (mj_fin_i rfl)))))))
theorem x204_70 {x1 : Int32} {x2 : Int32} {x3 : Int32} {x4 : Int32} : wp Ln xs 204 70 [.ref 72, .int x1, .int x2, .int x3, .int x4] [] (u, ml_h m lm) Φ = if ¬ x4 = (nI 4) then wp Ln xs 204 80 [.ref 72, .int x1, .int x2, .int x3, .int x4] [] (u, ml_h m lm) Φ else wp Ln xs 204 76 [.ref 72, .int x1, .int x2, .int x3, .int x4] [] (u, ml_h m lm) Φ := (wp_same xd204_70 (Or.inr rfl) rfl).trans ((wp_same (S' := [.int (nI 4), .int x4]) xd204_72 (Or.inr rfl) rfl).trans (wx_icmp xd204_73 rfl rfl (¬ x4 = (nI 4)) mb_ne))
theorem x204_76 {x1 : Int32} {x2 : Int32} {x3 : Int32} {x4 : Int32} : wp Ln xs 204 76 [.ref 72, .int x1, .int x2, .int x3, .int x4] [] (u, ml_h m lm) Φ = Φ (.inl (some (.int (nI 2)))) (u, ml_h m lm) := (wp_same (S' := [.int (nI 2)]) xd204_76 (Or.inr rfl) rfl).trans ((wx_goto xd204_77 rfl).trans (wp_fin (v := some (.int (nI 2))) xd204_81 (Or.inr rfl) rfl (mj_fin_i rfl)))
theorem x204_80 {x1 : Int32} {x2 : Int32} {x3 : Int32} {x4 : Int32} : wp Ln xs 204 80 [.ref 72, .int x1, .int x2, .int x3, .int x4] [] (u, ml_h m lm) Φ = Φ (.inl (some (.int (nI 1)))) (u, ml_h m lm) := (wp_same (S' := [.int (nI 1)]) xd204_80 (Or.inr rfl) rfl).trans (wp_fin (v := some (.int (nI 1))) xd204_81 (Or.inr rfl) rfl (mj_fin_i rfl))
/- PickedFormsModel.block -/
theorem xd205_0 : decode (mj_b 205) 0 = .ok (.aload_n 0, 1) := by decide +kernel
theorem xd205_1 : decode (mj_b 205) 1 = .ok (.aload_n 0, 1) := by decide +kernel
theorem xd205_2 : decode (mj_b 205) 2 = .ok (.iload_n 1, 1) := by decide +kernel
theorem xd205_3 : decode (mj_b 205) 3 = .ok (.invokevirtual 126, 3) := by decide +kernel
theorem xd205_6 : decode (mj_b 205) 6 = .ok (.ifCond .ne 7, 3) := by decide +kernel
theorem xd205_9 : decode (mj_b 205) 9 = .ok (.iconst 1, 1) := by decide +kernel
theorem xd205_10 : decode (mj_b 205) 10 = .ok (.goto 18, 3) := by decide +kernel
theorem xd205_13 : decode (mj_b 205) 13 = .ok (.iload_n 2, 1) := by decide +kernel
theorem xd205_14 : decode (mj_b 205) 14 = .ok (.iconst 0, 1) := by decide +kernel
theorem xd205_15 : decode (mj_b 205) 15 = .ok (.bipush 9, 2) := by decide +kernel
theorem xd205_17 : decode (mj_b 205) 17 = .ok (.invokestatic 38, 3) := by decide +kernel
theorem xd205_20 : decode (mj_b 205) 20 = .ok (.ifCond .ne 7, 3) := by decide +kernel
theorem xd205_23 : decode (mj_b 205) 23 = .ok (.iconst 2, 1) := by decide +kernel
theorem xd205_24 : decode (mj_b 205) 24 = .ok (.goto 4, 3) := by decide +kernel
theorem xd205_27 : decode (mj_b 205) 27 = .ok (.iconst 0, 1) := by decide +kernel
theorem xd205_28 : decode (mj_b 205) 28 = .ok (.invokevirtual 114, 3) := by decide +kernel
theorem xd205_31 : decode (mj_b 205) 31 = .ok (.ifCond .eq 12, 3) := by decide +kernel
theorem xd205_34 : decode (mj_b 205) 34 = .ok (.aload_n 0, 1) := by decide +kernel
theorem xd205_35 : decode (mj_b 205) 35 = .ok (.iload_n 1, 1) := by decide +kernel
theorem xd205_36 : decode (mj_b 205) 36 = .ok (.iload_n 2, 1) := by decide +kernel
theorem xd205_37 : decode (mj_b 205) 37 = .ok (.invokevirtual 188, 3) := by decide +kernel
theorem xd205_40 : decode (mj_b 205) 40 = .ok (.goto 4, 3) := by decide +kernel
theorem xd205_43 : decode (mj_b 205) 43 = .ok (.iconst 0, 1) := by decide +kernel
theorem xd205_44 : decode (mj_b 205) 44 = .ok (.ireturn, 1) := by decide +kernel
theorem x205_0 {x1 : Int32} {x2 : Int32} : wp Ln xs 205 0 [.ref 72, .int x1, .int x2] [] (u, ml_h m lm) Φ = wp Ln xs 179 0 [.ref 72, .int x1] [] (u, ml_h m lm) (mk Ln xs 205 3 [.ref 72, .int x1, .int x2] [.ref 72] Φ) := (wp_same xd205_0 (Or.inr rfl) rfl).trans ((wp_same xd205_1 (Or.inr rfl) rfl).trans ((wp_same xd205_2 (Or.inr rfl) rfl).trans (wm_cv (As := [.int x1]) (rest := [.ref 72]) xd205_3 rfl rfl (show ml_L[72]? = _ from rfl) (Nat.le_of_ble_eq_true rfl) (Nat.le_of_ble_eq_true rfl) (Nat.le_of_ble_eq_true rfl) (Nat.le_of_ble_eq_true rfl))))
theorem x205_6 {x1 : Int32} {x2 : Int32} {xs0 : Int32} : wp Ln xs 205 6 [.ref 72, .int x1, .int x2] [.int xs0, .ref 72] (u, ml_h m lm) Φ = if ¬ xs0 = (nI 0) then wp Ln xs 205 13 [.ref 72, .int x1, .int x2] [.ref 72] (u, ml_h m lm) Φ else wp Ln xs 205 9 [.ref 72, .int x1, .int x2] [.ref 72] (u, ml_h m lm) Φ := wx_if xd205_6 rfl rfl (¬ xs0 = (nI 0)) mb_ne
theorem x205_9 {x1 : Int32} {x2 : Int32} : wp Ln xs 205 9 [.ref 72, .int x1, .int x2] [.ref 72] (u, ml_h m lm) Φ = wp Ln xs 205 28 [.ref 72, .int x1, .int x2] [.int (nI 1), .ref 72] (u, ml_h m lm) Φ := (wp_same (S' := [.int (nI 1), .ref 72]) xd205_9 (Or.inr rfl) rfl).trans (wx_goto xd205_10 rfl)
theorem x205_13 {x1 : Int32} {x2 : Int32} : wp Ln xs 205 13 [.ref 72, .int x1, .int x2] [.ref 72] (u, ml_h m lm) Φ = wp Ln xs 152 0 [.int x2, .int (nI 0), .int (nI 9)] [] (u, ml_h m lm) (mk Ln xs 205 17 [.ref 72, .int x1, .int x2] [.ref 72] Φ) := (wp_same xd205_13 (Or.inr rfl) rfl).trans ((wp_same (S' := [.int (nI 0), .int x2, .ref 72]) xd205_14 (Or.inr rfl) rfl).trans ((wp_same (S' := [.int (nI 9), .int (nI 0), .int x2, .ref 72]) xd205_15 (Or.inr rfl) rfl).trans (wm_cs (As := [.int x2, .int (nI 0), .int (nI 9)]) (rest := [.ref 72]) xd205_17 rfl rfl (Nat.le_of_ble_eq_true rfl) (Nat.le_of_ble_eq_true rfl) (Nat.le_of_ble_eq_true rfl) (Nat.le_of_ble_eq_true rfl))))
theorem x205_20 {x1 : Int32} {x2 : Int32} {xs0 : Int32} : wp Ln xs 205 20 [.ref 72, .int x1, .int x2] [.int xs0, .ref 72] (u, ml_h m lm) Φ = if ¬ xs0 = (nI 0) then wp Ln xs 205 27 [.ref 72, .int x1, .int x2] [.ref 72] (u, ml_h m lm) Φ else wp Ln xs 205 23 [.ref 72, .int x1, .int x2] [.ref 72] (u, ml_h m lm) Φ := wx_if xd205_20 rfl rfl (¬ xs0 = (nI 0)) mb_ne
theorem x205_23 {x1 : Int32} {x2 : Int32} : wp Ln xs 205 23 [.ref 72, .int x1, .int x2] [.ref 72] (u, ml_h m lm) Φ = wp Ln xs 205 28 [.ref 72, .int x1, .int x2] [.int (nI 2), .ref 72] (u, ml_h m lm) Φ := (wp_same (S' := [.int (nI 2), .ref 72]) xd205_23 (Or.inr rfl) rfl).trans (wx_goto xd205_24 rfl)
theorem x205_27 {x1 : Int32} {x2 : Int32} : wp Ln xs 205 27 [.ref 72, .int x1, .int x2] [.ref 72] (u, ml_h m lm) Φ = wp Ln xs 205 28 [.ref 72, .int x1, .int x2] [.int (nI 0), .ref 72] (u, ml_h m lm) Φ := wp_same (S' := [.int (nI 0), .ref 72]) xd205_27 (Or.inr rfl) rfl
theorem x205_28 {x1 : Int32} {x2 : Int32} {xs0 : Int32} : wp Ln xs 205 28 [.ref 72, .int x1, .int x2] [.int xs0, .ref 72] (u, ml_h m lm) Φ = wp Ln xs 154 0 [.ref 72, .int xs0] [] (u, ml_h m lm) (mk Ln xs 205 28 [.ref 72, .int x1, .int x2] [] Φ) := wm_cv (As := [.int xs0]) (rest := []) xd205_28 rfl rfl (show ml_L[72]? = _ from rfl) (Nat.le_of_ble_eq_true rfl) (Nat.le_of_ble_eq_true rfl) (Nat.le_of_ble_eq_true rfl) (Nat.le_of_ble_eq_true rfl)
theorem x205_31 {x1 : Int32} {x2 : Int32} {xs0 : Int32} : wp Ln xs 205 31 [.ref 72, .int x1, .int x2] [.int xs0] (u, ml_h m lm) Φ = if xs0 = (nI 0) then wp Ln xs 205 43 [.ref 72, .int x1, .int x2] [] (u, ml_h m lm) Φ else wp Ln xs 205 34 [.ref 72, .int x1, .int x2] [] (u, ml_h m lm) Φ := wx_if xd205_31 rfl rfl (xs0 = (nI 0)) mb_eq
theorem x205_34 {x1 : Int32} {x2 : Int32} : wp Ln xs 205 34 [.ref 72, .int x1, .int x2] [] (u, ml_h m lm) Φ = wp Ln xs 206 0 [.ref 72, .int x1, .int x2, mj_hole, mj_hole] [] (u, ml_h m lm) (mk Ln xs 205 37 [.ref 72, .int x1, .int x2] [] Φ) := (wp_same xd205_34 (Or.inr rfl) rfl).trans ((wp_same xd205_35 (Or.inr rfl) rfl).trans ((wp_same xd205_36 (Or.inr rfl) rfl).trans (wm_cv (As := [.int x1, .int x2]) (rest := []) xd205_37 rfl rfl (show ml_L[72]? = _ from rfl) (Nat.le_of_ble_eq_true rfl) (Nat.le_of_ble_eq_true rfl) (Nat.le_of_ble_eq_true rfl) (Nat.le_of_ble_eq_true rfl))))
theorem x205_40 {x1 : Int32} {x2 : Int32} {xs0 : Int32} : wp Ln xs 205 40 [.ref 72, .int x1, .int x2] [.int xs0] (u, ml_h m lm) Φ = Φ (.inl (some (.int xs0))) (u, ml_h m lm) := (wx_goto xd205_40 rfl).trans (wp_fin (v := some (.int xs0)) xd205_44 (Or.inr rfl) rfl (mj_fin_i rfl))
theorem x205_43 {x1 : Int32} {x2 : Int32} : wp Ln xs 205 43 [.ref 72, .int x1, .int x2] [] (u, ml_h m lm) Φ = Φ (.inl (some (.int (nI 0)))) (u, ml_h m lm) := (wp_same (S' := [.int (nI 0)]) xd205_43 (Or.inr rfl) rfl).trans (wp_fin (v := some (.int (nI 0))) xd205_44 (Or.inr rfl) rfl (mj_fin_i rfl))
/- PickedFormsModel.blockTold -/
theorem xd206_0 : decode (mj_b 206) 0 = .ok (.aload_n 0, 1) := by decide +kernel
theorem xd206_1 : decode (mj_b 206) 1 = .ok (.iload_n 1, 1) := by decide +kernel
theorem xd206_2 : decode (mj_b 206) 2 = .ok (.invokevirtual 49, 3) := by decide +kernel
theorem xd206_5 : decode (mj_b 206) 5 = .ok (.istore_n 3, 1) := by decide +kernel
theorem xd206_6 : decode (mj_b 206) 6 = .ok (.aload_n 0, 1) := by decide +kernel
theorem xd206_7 : decode (mj_b 206) 7 = .ok (.getfield 7, 3) := by decide +kernel
theorem xd206_10 : decode (mj_b 206) 10 = .ok (.bipush 7, 2) := by decide +kernel
theorem xd206_12 : decode (mj_b 206) 12 = .ok (.iload_n 1, 1) := by decide +kernel
theorem xd206_13 : decode (mj_b 206) 13 = .ok (.iadd, 1) := by decide +kernel
theorem xd206_14 : decode (mj_b 206) 14 = .ok (.iaload, 1) := by decide +kernel
theorem xd206_15 : decode (mj_b 206) 15 = .ok (.istore 4, 2) := by decide +kernel
theorem xd206_17 : decode (mj_b 206) 17 = .ok (.iload_n 2, 1) := by decide +kernel
theorem xd206_18 : decode (mj_b 206) 18 = .ok (.tableswitch 119 0 8 #[50, 60, 63, 69, 79, 87, 95, 103, 111], 50) := by decide +kernel
theorem xd206_68 : decode (mj_b 206) 68 = .ok (.aload_n 0, 1) := by decide +kernel
theorem xd206_69 : decode (mj_b 206) 69 = .ok (.getfield 7, 3) := by decide +kernel
theorem xd206_72 : decode (mj_b 206) 72 = .ok (.bipush 19, 2) := by decide +kernel
theorem xd206_74 : decode (mj_b 206) 74 = .ok (.iload_n 1, 1) := by decide +kernel
theorem xd206_75 : decode (mj_b 206) 75 = .ok (.iadd, 1) := by decide +kernel
theorem xd206_76 : decode (mj_b 206) 76 = .ok (.iaload, 1) := by decide +kernel
theorem xd206_77 : decode (mj_b 206) 77 = .ok (.ireturn, 1) := by decide +kernel
theorem xd206_78 : decode (mj_b 206) 78 = .ok (.iload 4, 2) := by decide +kernel
theorem xd206_80 : decode (mj_b 206) 80 = .ok (.ireturn, 1) := by decide +kernel
theorem xd206_81 : decode (mj_b 206) 81 = .ok (.aload_n 0, 1) := by decide +kernel
theorem xd206_82 : decode (mj_b 206) 82 = .ok (.iload_n 1, 1) := by decide +kernel
theorem xd206_83 : decode (mj_b 206) 83 = .ok (.invokevirtual 89, 3) := by decide +kernel
theorem xd206_86 : decode (mj_b 206) 86 = .ok (.ireturn, 1) := by decide +kernel
theorem xd206_87 : decode (mj_b 206) 87 = .ok (.aload_n 0, 1) := by decide +kernel
theorem xd206_88 : decode (mj_b 206) 88 = .ok (.getfield 7, 3) := by decide +kernel
theorem xd206_91 : decode (mj_b 206) 91 = .ok (.bipush 31, 2) := by decide +kernel
theorem xd206_93 : decode (mj_b 206) 93 = .ok (.iload_n 1, 1) := by decide +kernel
theorem xd206_94 : decode (mj_b 206) 94 = .ok (.iadd, 1) := by decide +kernel
theorem xd206_95 : decode (mj_b 206) 95 = .ok (.iaload, 1) := by decide +kernel
theorem xd206_96 : decode (mj_b 206) 96 = .ok (.ireturn, 1) := by decide +kernel
theorem xd206_97 : decode (mj_b 206) 97 = .ok (.aload_n 0, 1) := by decide +kernel
theorem xd206_98 : decode (mj_b 206) 98 = .ok (.iload_n 3, 1) := by decide +kernel
theorem xd206_99 : decode (mj_b 206) 99 = .ok (.iload 4, 2) := by decide +kernel
theorem xd206_101 : decode (mj_b 206) 101 = .ok (.invokevirtual 64, 3) := by decide +kernel
theorem xd206_104 : decode (mj_b 206) 104 = .ok (.ireturn, 1) := by decide +kernel
theorem xd206_105 : decode (mj_b 206) 105 = .ok (.aload_n 0, 1) := by decide +kernel
theorem xd206_106 : decode (mj_b 206) 106 = .ok (.iload_n 3, 1) := by decide +kernel
theorem xd206_107 : decode (mj_b 206) 107 = .ok (.iload 4, 2) := by decide +kernel
theorem xd206_109 : decode (mj_b 206) 109 = .ok (.invokevirtual 60, 3) := by decide +kernel
theorem xd206_112 : decode (mj_b 206) 112 = .ok (.ireturn, 1) := by decide +kernel
theorem xd206_113 : decode (mj_b 206) 113 = .ok (.aload_n 0, 1) := by decide +kernel
theorem xd206_114 : decode (mj_b 206) 114 = .ok (.iload_n 3, 1) := by decide +kernel
theorem xd206_115 : decode (mj_b 206) 115 = .ok (.iload 4, 2) := by decide +kernel
theorem xd206_117 : decode (mj_b 206) 117 = .ok (.invokevirtual 70, 3) := by decide +kernel
theorem xd206_120 : decode (mj_b 206) 120 = .ok (.ireturn, 1) := by decide +kernel
theorem xd206_121 : decode (mj_b 206) 121 = .ok (.aload_n 0, 1) := by decide +kernel
theorem xd206_122 : decode (mj_b 206) 122 = .ok (.iload_n 3, 1) := by decide +kernel
theorem xd206_123 : decode (mj_b 206) 123 = .ok (.iload 4, 2) := by decide +kernel
theorem xd206_125 : decode (mj_b 206) 125 = .ok (.invokevirtual 76, 3) := by decide +kernel
theorem xd206_128 : decode (mj_b 206) 128 = .ok (.ireturn, 1) := by decide +kernel
theorem xd206_129 : decode (mj_b 206) 129 = .ok (.aload_n 0, 1) := by decide +kernel
theorem xd206_130 : decode (mj_b 206) 130 = .ok (.iload_n 3, 1) := by decide +kernel
theorem xd206_131 : decode (mj_b 206) 131 = .ok (.iload 4, 2) := by decide +kernel
theorem xd206_133 : decode (mj_b 206) 133 = .ok (.invokevirtual 86, 3) := by decide +kernel
theorem xd206_136 : decode (mj_b 206) 136 = .ok (.ireturn, 1) := by decide +kernel
theorem xd206_137 : decode (mj_b 206) 137 = .ok (.iload_n 3, 1) := by decide +kernel
theorem xd206_138 : decode (mj_b 206) 138 = .ok (.ireturn, 1) := by decide +kernel
theorem x206_0 {x1 : Int32} {x2 : Int32} : wp Ln xs 206 0 [.ref 72, .int x1, .int x2, mj_hole, mj_hole] [] (u, ml_h m lm) Φ = wp Ln xs 159 0 [.ref 72, .int x1, mj_hole, mj_hole] [] (u, ml_h m lm) (mk Ln xs 206 2 [.ref 72, .int x1, .int x2, mj_hole, mj_hole] [] Φ) := (wp_same xd206_0 (Or.inr rfl) rfl).trans ((wp_same xd206_1 (Or.inr rfl) rfl).trans (wm_cv (As := [.int x1]) (rest := []) xd206_2 rfl rfl (show ml_L[72]? = _ from rfl) (Nat.le_of_ble_eq_true rfl) (Nat.le_of_ble_eq_true rfl) (Nat.le_of_ble_eq_true rfl) (Nat.le_of_ble_eq_true rfl)))
theorem x206_5 {x1 : Int32} {x2 : Int32} {xs0 : Int32} : wp Ln xs 206 5 [.ref 72, .int x1, .int x2, mj_hole, mj_hole] [.int xs0] (u, ml_h m lm) Φ = wp Ln xs 206 14 [.ref 72, .int x1, .int x2, .int xs0, mj_hole] [.int ((nI 7) + x1), .ref 73] (u, ml_h m lm) Φ := (wp_same (L' := [.ref 72, .int x1, .int x2, .int xs0, mj_hole]) xd206_5 (Or.inr rfl) rfl).trans ((wp_same xd206_6 (Or.inr rfl) rfl).trans ((wm_getr xd206_7 rfl (show ml_L[72]? = _ from rfl) rfl (Nat.le_of_ble_eq_true rfl)).trans ((wp_same (S' := [.int (nI 7), .ref 73]) xd206_10 (Or.inr rfl) rfl).trans ((wp_same xd206_12 (Or.inr rfl) rfl).trans (wp_same xd206_13 (Or.inr rfl) rfl)))))
theorem x206_14 {x1 : Int32} {x2 : Int32} {x3 : Int32} {k : Nat} (hk : k < 251) : wp Ln xs 206 14 [.ref 72, .int x1, .int x2, .int x3, mj_hole] [.int (nI k), .ref 73] (u, ml_h m lm) Φ = wp Ln xs 206 18 [.ref 72, .int x1, .int x2, .int x3, .int (m 73 k)] [.int x2] (u, ml_h m lm) Φ := (wm_iald (k := k) xd206_14 ml_ia_73 (by decide) hk).trans ((wp_same (L' := [.ref 72, .int x1, .int x2, .int x3, .int (m 73 k)]) xd206_15 (Or.inr rfl) rfl).trans (wp_same xd206_17 (Or.inr rfl) rfl))
theorem x206_18_0 {x1 : Int32} {x2 : Int32} {x3 : Int32} {x4 : Int32} : wp Ln xs 206 18 [.ref 72, .int x1, .int x2, .int x3, .int x4] [.int (nI 0)] (u, ml_h m lm) Φ = wp Ln xs 206 68 [.ref 72, .int x1, .int x2, .int x3, .int x4] [] (u, ml_h m lm) Φ := wp_same xd206_18 (Or.inl rfl) rfl
theorem x206_18_1 {x1 : Int32} {x2 : Int32} {x3 : Int32} {x4 : Int32} : wp Ln xs 206 18 [.ref 72, .int x1, .int x2, .int x3, .int x4] [.int (nI 1)] (u, ml_h m lm) Φ = wp Ln xs 206 78 [.ref 72, .int x1, .int x2, .int x3, .int x4] [] (u, ml_h m lm) Φ := wp_same xd206_18 (Or.inl rfl) rfl
theorem x206_18_2 {x1 : Int32} {x2 : Int32} {x3 : Int32} {x4 : Int32} : wp Ln xs 206 18 [.ref 72, .int x1, .int x2, .int x3, .int x4] [.int (nI 2)] (u, ml_h m lm) Φ = wp Ln xs 206 81 [.ref 72, .int x1, .int x2, .int x3, .int x4] [] (u, ml_h m lm) Φ := wp_same xd206_18 (Or.inl rfl) rfl
theorem x206_18_3 {x1 : Int32} {x2 : Int32} {x3 : Int32} {x4 : Int32} : wp Ln xs 206 18 [.ref 72, .int x1, .int x2, .int x3, .int x4] [.int (nI 3)] (u, ml_h m lm) Φ = wp Ln xs 206 87 [.ref 72, .int x1, .int x2, .int x3, .int x4] [] (u, ml_h m lm) Φ := wp_same xd206_18 (Or.inl rfl) rfl
theorem x206_18_4 {x1 : Int32} {x2 : Int32} {x3 : Int32} {x4 : Int32} : wp Ln xs 206 18 [.ref 72, .int x1, .int x2, .int x3, .int x4] [.int (nI 4)] (u, ml_h m lm) Φ = wp Ln xs 206 97 [.ref 72, .int x1, .int x2, .int x3, .int x4] [] (u, ml_h m lm) Φ := wp_same xd206_18 (Or.inl rfl) rfl
theorem x206_18_5 {x1 : Int32} {x2 : Int32} {x3 : Int32} {x4 : Int32} : wp Ln xs 206 18 [.ref 72, .int x1, .int x2, .int x3, .int x4] [.int (nI 5)] (u, ml_h m lm) Φ = wp Ln xs 206 105 [.ref 72, .int x1, .int x2, .int x3, .int x4] [] (u, ml_h m lm) Φ := wp_same xd206_18 (Or.inl rfl) rfl
theorem x206_18_6 {x1 : Int32} {x2 : Int32} {x3 : Int32} {x4 : Int32} : wp Ln xs 206 18 [.ref 72, .int x1, .int x2, .int x3, .int x4] [.int (nI 6)] (u, ml_h m lm) Φ = wp Ln xs 206 113 [.ref 72, .int x1, .int x2, .int x3, .int x4] [] (u, ml_h m lm) Φ := wp_same xd206_18 (Or.inl rfl) rfl
theorem x206_18_7 {x1 : Int32} {x2 : Int32} {x3 : Int32} {x4 : Int32} : wp Ln xs 206 18 [.ref 72, .int x1, .int x2, .int x3, .int x4] [.int (nI 7)] (u, ml_h m lm) Φ = wp Ln xs 206 121 [.ref 72, .int x1, .int x2, .int x3, .int x4] [] (u, ml_h m lm) Φ := wp_same xd206_18 (Or.inl rfl) rfl
theorem x206_18_8 {x1 : Int32} {x2 : Int32} {x3 : Int32} {x4 : Int32} : wp Ln xs 206 18 [.ref 72, .int x1, .int x2, .int x3, .int x4] [.int (nI 8)] (u, ml_h m lm) Φ = wp Ln xs 206 129 [.ref 72, .int x1, .int x2, .int x3, .int x4] [] (u, ml_h m lm) Φ := wp_same xd206_18 (Or.inl rfl) rfl
theorem x206_18_9 {x1 : Int32} {x2 : Int32} {x3 : Int32} {x4 : Int32} : wp Ln xs 206 18 [.ref 72, .int x1, .int x2, .int x3, .int x4] [.int (nI 9)] (u, ml_h m lm) Φ = wp Ln xs 206 137 [.ref 72, .int x1, .int x2, .int x3, .int x4] [] (u, ml_h m lm) Φ := wp_same xd206_18 (Or.inl rfl) rfl
theorem x206_18_10 {x1 : Int32} {x2 : Int32} {x3 : Int32} {x4 : Int32} : wp Ln xs 206 18 [.ref 72, .int x1, .int x2, .int x3, .int x4] [.int (nI 10)] (u, ml_h m lm) Φ = wp Ln xs 206 137 [.ref 72, .int x1, .int x2, .int x3, .int x4] [] (u, ml_h m lm) Φ := wp_same xd206_18 (Or.inl rfl) rfl
theorem x206_18_11 {x1 : Int32} {x2 : Int32} {x3 : Int32} {x4 : Int32} : wp Ln xs 206 18 [.ref 72, .int x1, .int x2, .int x3, .int x4] [.int (nI 11)] (u, ml_h m lm) Φ = wp Ln xs 206 137 [.ref 72, .int x1, .int x2, .int x3, .int x4] [] (u, ml_h m lm) Φ := wp_same xd206_18 (Or.inl rfl) rfl
theorem x206_68 {x1 : Int32} {x2 : Int32} {x3 : Int32} {x4 : Int32} : wp Ln xs 206 68 [.ref 72, .int x1, .int x2, .int x3, .int x4] [] (u, ml_h m lm) Φ = wp Ln xs 206 76 [.ref 72, .int x1, .int x2, .int x3, .int x4] [.int ((nI 19) + x1), .ref 73] (u, ml_h m lm) Φ := (wp_same xd206_68 (Or.inr rfl) rfl).trans ((wm_getr xd206_69 rfl (show ml_L[72]? = _ from rfl) rfl (Nat.le_of_ble_eq_true rfl)).trans ((wp_same (S' := [.int (nI 19), .ref 73]) xd206_72 (Or.inr rfl) rfl).trans ((wp_same xd206_74 (Or.inr rfl) rfl).trans (wp_same xd206_75 (Or.inr rfl) rfl))))
theorem x206_76 {x1 : Int32} {x2 : Int32} {x3 : Int32} {x4 : Int32} {k : Nat} (hk : k < 251) : wp Ln xs 206 76 [.ref 72, .int x1, .int x2, .int x3, .int x4] [.int (nI k), .ref 73] (u, ml_h m lm) Φ = Φ (.inl (some (.int (m 73 k)))) (u, ml_h m lm) := (wm_iald (k := k) xd206_76 ml_ia_73 (by decide) hk).trans (wp_fin (v := some (.int (m 73 k))) xd206_77 (Or.inr rfl) rfl (mj_fin_i rfl))
theorem x206_78 {x1 : Int32} {x2 : Int32} {x3 : Int32} {x4 : Int32} : wp Ln xs 206 78 [.ref 72, .int x1, .int x2, .int x3, .int x4] [] (u, ml_h m lm) Φ = Φ (.inl (some (.int x4))) (u, ml_h m lm) := (wp_same xd206_78 (Or.inr rfl) rfl).trans (wp_fin (v := some (.int x4)) xd206_80 (Or.inr rfl) rfl (mj_fin_i rfl))
theorem x206_81 {x1 : Int32} {x2 : Int32} {x3 : Int32} {x4 : Int32} : wp Ln xs 206 81 [.ref 72, .int x1, .int x2, .int x3, .int x4] [] (u, ml_h m lm) Φ = wp Ln xs 173 0 [.ref 72, .int x1] [] (u, ml_h m lm) (mk Ln xs 206 83 [.ref 72, .int x1, .int x2, .int x3, .int x4] [] Φ) := (wp_same xd206_81 (Or.inr rfl) rfl).trans ((wp_same xd206_82 (Or.inr rfl) rfl).trans (wm_cv (As := [.int x1]) (rest := []) xd206_83 rfl rfl (show ml_L[72]? = _ from rfl) (Nat.le_of_ble_eq_true rfl) (Nat.le_of_ble_eq_true rfl) (Nat.le_of_ble_eq_true rfl) (Nat.le_of_ble_eq_true rfl)))
theorem x206_86 {x1 : Int32} {x2 : Int32} {x3 : Int32} {x4 : Int32} {xs0 : Int32} : wp Ln xs 206 86 [.ref 72, .int x1, .int x2, .int x3, .int x4] [.int xs0] (u, ml_h m lm) Φ = Φ (.inl (some (.int xs0))) (u, ml_h m lm) := wp_fin (v := some (.int xs0)) xd206_86 (Or.inr rfl) rfl (mj_fin_i rfl)
theorem x206_87 {x1 : Int32} {x2 : Int32} {x3 : Int32} {x4 : Int32} : wp Ln xs 206 87 [.ref 72, .int x1, .int x2, .int x3, .int x4] [] (u, ml_h m lm) Φ = wp Ln xs 206 95 [.ref 72, .int x1, .int x2, .int x3, .int x4] [.int ((nI 31) + x1), .ref 73] (u, ml_h m lm) Φ := (wp_same xd206_87 (Or.inr rfl) rfl).trans ((wm_getr xd206_88 rfl (show ml_L[72]? = _ from rfl) rfl (Nat.le_of_ble_eq_true rfl)).trans ((wp_same (S' := [.int (nI 31), .ref 73]) xd206_91 (Or.inr rfl) rfl).trans ((wp_same xd206_93 (Or.inr rfl) rfl).trans (wp_same xd206_94 (Or.inr rfl) rfl))))
theorem x206_95 {x1 : Int32} {x2 : Int32} {x3 : Int32} {x4 : Int32} {k : Nat} (hk : k < 251) : wp Ln xs 206 95 [.ref 72, .int x1, .int x2, .int x3, .int x4] [.int (nI k), .ref 73] (u, ml_h m lm) Φ = Φ (.inl (some (.int (m 73 k)))) (u, ml_h m lm) := (wm_iald (k := k) xd206_95 ml_ia_73 (by decide) hk).trans (wp_fin (v := some (.int (m 73 k))) xd206_96 (Or.inr rfl) rfl (mj_fin_i rfl))
theorem x206_97 {x1 : Int32} {x2 : Int32} {x3 : Int32} {x4 : Int32} : wp Ln xs 206 97 [.ref 72, .int x1, .int x2, .int x3, .int x4] [] (u, ml_h m lm) Φ = wp Ln xs 166 0 [.ref 72, .int x3, .int x4, mj_hole, mj_hole] [] (u, ml_h m lm) (mk Ln xs 206 101 [.ref 72, .int x1, .int x2, .int x3, .int x4] [] Φ) := (wp_same xd206_97 (Or.inr rfl) rfl).trans ((wp_same xd206_98 (Or.inr rfl) rfl).trans ((wp_same xd206_99 (Or.inr rfl) rfl).trans (wm_cv (As := [.int x3, .int x4]) (rest := []) xd206_101 rfl rfl (show ml_L[72]? = _ from rfl) (Nat.le_of_ble_eq_true rfl) (Nat.le_of_ble_eq_true rfl) (Nat.le_of_ble_eq_true rfl) (Nat.le_of_ble_eq_true rfl))))
theorem x206_104 {x1 : Int32} {x2 : Int32} {x3 : Int32} {x4 : Int32} {xs0 : Int32} : wp Ln xs 206 104 [.ref 72, .int x1, .int x2, .int x3, .int x4] [.int xs0] (u, ml_h m lm) Φ = Φ (.inl (some (.int xs0))) (u, ml_h m lm) := wp_fin (v := some (.int xs0)) xd206_104 (Or.inr rfl) rfl (mj_fin_i rfl)
theorem x206_105 {x1 : Int32} {x2 : Int32} {x3 : Int32} {x4 : Int32} : wp Ln xs 206 105 [.ref 72, .int x1, .int x2, .int x3, .int x4] [] (u, ml_h m lm) Φ = wp Ln xs 165 0 [.ref 72, .int x3, .int x4, mj_hole, mj_hole] [] (u, ml_h m lm) (mk Ln xs 206 109 [.ref 72, .int x1, .int x2, .int x3, .int x4] [] Φ) := (wp_same xd206_105 (Or.inr rfl) rfl).trans ((wp_same xd206_106 (Or.inr rfl) rfl).trans ((wp_same xd206_107 (Or.inr rfl) rfl).trans (wm_cv (As := [.int x3, .int x4]) (rest := []) xd206_109 rfl rfl (show ml_L[72]? = _ from rfl) (Nat.le_of_ble_eq_true rfl) (Nat.le_of_ble_eq_true rfl) (Nat.le_of_ble_eq_true rfl) (Nat.le_of_ble_eq_true rfl))))
theorem x206_112 {x1 : Int32} {x2 : Int32} {x3 : Int32} {x4 : Int32} {xs0 : Int32} : wp Ln xs 206 112 [.ref 72, .int x1, .int x2, .int x3, .int x4] [.int xs0] (u, ml_h m lm) Φ = Φ (.inl (some (.int xs0))) (u, ml_h m lm) := wp_fin (v := some (.int xs0)) xd206_112 (Or.inr rfl) rfl (mj_fin_i rfl)
theorem x206_113 {x1 : Int32} {x2 : Int32} {x3 : Int32} {x4 : Int32} : wp Ln xs 206 113 [.ref 72, .int x1, .int x2, .int x3, .int x4] [] (u, ml_h m lm) Φ = wp Ln xs 168 0 [.ref 72, .int x3, .int x4, mj_hole, mj_hole] [] (u, ml_h m lm) (mk Ln xs 206 117 [.ref 72, .int x1, .int x2, .int x3, .int x4] [] Φ) := (wp_same xd206_113 (Or.inr rfl) rfl).trans ((wp_same xd206_114 (Or.inr rfl) rfl).trans ((wp_same xd206_115 (Or.inr rfl) rfl).trans (wm_cv (As := [.int x3, .int x4]) (rest := []) xd206_117 rfl rfl (show ml_L[72]? = _ from rfl) (Nat.le_of_ble_eq_true rfl) (Nat.le_of_ble_eq_true rfl) (Nat.le_of_ble_eq_true rfl) (Nat.le_of_ble_eq_true rfl))))
theorem x206_120 {x1 : Int32} {x2 : Int32} {x3 : Int32} {x4 : Int32} {xs0 : Int32} : wp Ln xs 206 120 [.ref 72, .int x1, .int x2, .int x3, .int x4] [.int xs0] (u, ml_h m lm) Φ = Φ (.inl (some (.int xs0))) (u, ml_h m lm) := wp_fin (v := some (.int xs0)) xd206_120 (Or.inr rfl) rfl (mj_fin_i rfl)
theorem x206_121 {x1 : Int32} {x2 : Int32} {x3 : Int32} {x4 : Int32} : wp Ln xs 206 121 [.ref 72, .int x1, .int x2, .int x3, .int x4] [] (u, ml_h m lm) Φ = wp Ln xs 171 0 [.ref 72, .int x3, .int x4, mj_hole, mj_hole] [] (u, ml_h m lm) (mk Ln xs 206 125 [.ref 72, .int x1, .int x2, .int x3, .int x4] [] Φ) := (wp_same xd206_121 (Or.inr rfl) rfl).trans ((wp_same xd206_122 (Or.inr rfl) rfl).trans ((wp_same xd206_123 (Or.inr rfl) rfl).trans (wm_cv (As := [.int x3, .int x4]) (rest := []) xd206_125 rfl rfl (show ml_L[72]? = _ from rfl) (Nat.le_of_ble_eq_true rfl) (Nat.le_of_ble_eq_true rfl) (Nat.le_of_ble_eq_true rfl) (Nat.le_of_ble_eq_true rfl))))
theorem x206_128 {x1 : Int32} {x2 : Int32} {x3 : Int32} {x4 : Int32} {xs0 : Int32} : wp Ln xs 206 128 [.ref 72, .int x1, .int x2, .int x3, .int x4] [.int xs0] (u, ml_h m lm) Φ = Φ (.inl (some (.int xs0))) (u, ml_h m lm) := wp_fin (v := some (.int xs0)) xd206_128 (Or.inr rfl) rfl (mj_fin_i rfl)
theorem x206_129 {x1 : Int32} {x2 : Int32} {x3 : Int32} {x4 : Int32} : wp Ln xs 206 129 [.ref 72, .int x1, .int x2, .int x3, .int x4] [] (u, ml_h m lm) Φ = wp Ln xs 162 0 [.ref 72, .int x3, .int x4] [] (u, ml_h m lm) (mk Ln xs 206 133 [.ref 72, .int x1, .int x2, .int x3, .int x4] [] Φ) := (wp_same xd206_129 (Or.inr rfl) rfl).trans ((wp_same xd206_130 (Or.inr rfl) rfl).trans ((wp_same xd206_131 (Or.inr rfl) rfl).trans (wm_cv (As := [.int x3, .int x4]) (rest := []) xd206_133 rfl rfl (show ml_L[72]? = _ from rfl) (Nat.le_of_ble_eq_true rfl) (Nat.le_of_ble_eq_true rfl) (Nat.le_of_ble_eq_true rfl) (Nat.le_of_ble_eq_true rfl))))
theorem x206_136 {x1 : Int32} {x2 : Int32} {x3 : Int32} {x4 : Int32} {xs0 : Int32} : wp Ln xs 206 136 [.ref 72, .int x1, .int x2, .int x3, .int x4] [.int xs0] (u, ml_h m lm) Φ = Φ (.inl (some (.int xs0))) (u, ml_h m lm) := wp_fin (v := some (.int xs0)) xd206_136 (Or.inr rfl) rfl (mj_fin_i rfl)
theorem x206_137 {x1 : Int32} {x2 : Int32} {x3 : Int32} {x4 : Int32} : wp Ln xs 206 137 [.ref 72, .int x1, .int x2, .int x3, .int x4] [] (u, ml_h m lm) Φ = Φ (.inl (some (.int x3))) (u, ml_h m lm) := (wp_same xd206_137 (Or.inr rfl) rfl).trans (wp_fin (v := some (.int x3)) xd206_138 (Or.inr rfl) rfl (mj_fin_i rfl))
/- PickedFormsModel.size -/
theorem xd207_0 : decode (mj_b 207) 0 = .ok (.aload_n 0, 1) := by decide +kernel
theorem xd207_1 : decode (mj_b 207) 1 = .ok (.aload_n 0, 1) := by decide +kernel
theorem xd207_2 : decode (mj_b 207) 2 = .ok (.iload_n 1, 1) := by decide +kernel
theorem xd207_3 : decode (mj_b 207) 3 = .ok (.invokevirtual 126, 3) := by decide +kernel
theorem xd207_6 : decode (mj_b 207) 6 = .ok (.ifCond .ne 7, 3) := by decide +kernel
theorem xd207_9 : decode (mj_b 207) 9 = .ok (.iconst 1, 1) := by decide +kernel
theorem xd207_10 : decode (mj_b 207) 10 = .ok (.goto 17, 3) := by decide +kernel
theorem xd207_13 : decode (mj_b 207) 13 = .ok (.iload_n 2, 1) := by decide +kernel
theorem xd207_14 : decode (mj_b 207) 14 = .ok (.iconst 0, 1) := by decide +kernel
theorem xd207_15 : decode (mj_b 207) 15 = .ok (.iconst 4, 1) := by decide +kernel
theorem xd207_16 : decode (mj_b 207) 16 = .ok (.invokestatic 38, 3) := by decide +kernel
theorem xd207_19 : decode (mj_b 207) 19 = .ok (.ifCond .ne 7, 3) := by decide +kernel
theorem xd207_22 : decode (mj_b 207) 22 = .ok (.iconst 2, 1) := by decide +kernel
theorem xd207_23 : decode (mj_b 207) 23 = .ok (.goto 4, 3) := by decide +kernel
theorem xd207_26 : decode (mj_b 207) 26 = .ok (.iconst 0, 1) := by decide +kernel
theorem xd207_27 : decode (mj_b 207) 27 = .ok (.invokevirtual 114, 3) := by decide +kernel
theorem xd207_30 : decode (mj_b 207) 30 = .ok (.ifCond .eq 25, 3) := by decide +kernel
theorem xd207_33 : decode (mj_b 207) 33 = .ok (.aload_n 0, 1) := by decide +kernel
theorem xd207_34 : decode (mj_b 207) 34 = .ok (.iload_n 2, 1) := by decide +kernel
theorem xd207_35 : decode (mj_b 207) 35 = .ok (.aload_n 0, 1) := by decide +kernel
theorem xd207_36 : decode (mj_b 207) 36 = .ok (.iload_n 1, 1) := by decide +kernel
theorem xd207_37 : decode (mj_b 207) 37 = .ok (.invokevirtual 49, 3) := by decide +kernel
theorem xd207_40 : decode (mj_b 207) 40 = .ok (.aload_n 0, 1) := by decide +kernel
theorem xd207_41 : decode (mj_b 207) 41 = .ok (.getfield 7, 3) := by decide +kernel
theorem xd207_44 : decode (mj_b 207) 44 = .ok (.bipush 7, 2) := by decide +kernel
theorem xd207_46 : decode (mj_b 207) 46 = .ok (.iload_n 1, 1) := by decide +kernel
theorem xd207_47 : decode (mj_b 207) 47 = .ok (.iadd, 1) := by decide +kernel
theorem xd207_48 : decode (mj_b 207) 48 = .ok (.iaload, 1) := by decide +kernel
theorem xd207_49 : decode (mj_b 207) 49 = .ok (.invokevirtual 79, 3) := by decide +kernel
theorem xd207_52 : decode (mj_b 207) 52 = .ok (.goto 4, 3) := by decide +kernel
theorem xd207_55 : decode (mj_b 207) 55 = .ok (.iconst 0, 1) := by decide +kernel
theorem xd207_56 : decode (mj_b 207) 56 = .ok (.ireturn, 1) := by decide +kernel
theorem x207_0 {x1 : Int32} {x2 : Int32} : wp Ln xs 207 0 [.ref 72, .int x1, .int x2] [] (u, ml_h m lm) Φ = wp Ln xs 179 0 [.ref 72, .int x1] [] (u, ml_h m lm) (mk Ln xs 207 3 [.ref 72, .int x1, .int x2] [.ref 72] Φ) := (wp_same xd207_0 (Or.inr rfl) rfl).trans ((wp_same xd207_1 (Or.inr rfl) rfl).trans ((wp_same xd207_2 (Or.inr rfl) rfl).trans (wm_cv (As := [.int x1]) (rest := [.ref 72]) xd207_3 rfl rfl (show ml_L[72]? = _ from rfl) (Nat.le_of_ble_eq_true rfl) (Nat.le_of_ble_eq_true rfl) (Nat.le_of_ble_eq_true rfl) (Nat.le_of_ble_eq_true rfl))))
theorem x207_6 {x1 : Int32} {x2 : Int32} {xs0 : Int32} : wp Ln xs 207 6 [.ref 72, .int x1, .int x2] [.int xs0, .ref 72] (u, ml_h m lm) Φ = if ¬ xs0 = (nI 0) then wp Ln xs 207 13 [.ref 72, .int x1, .int x2] [.ref 72] (u, ml_h m lm) Φ else wp Ln xs 207 9 [.ref 72, .int x1, .int x2] [.ref 72] (u, ml_h m lm) Φ := wx_if xd207_6 rfl rfl (¬ xs0 = (nI 0)) mb_ne
theorem x207_9 {x1 : Int32} {x2 : Int32} : wp Ln xs 207 9 [.ref 72, .int x1, .int x2] [.ref 72] (u, ml_h m lm) Φ = wp Ln xs 207 27 [.ref 72, .int x1, .int x2] [.int (nI 1), .ref 72] (u, ml_h m lm) Φ := (wp_same (S' := [.int (nI 1), .ref 72]) xd207_9 (Or.inr rfl) rfl).trans (wx_goto xd207_10 rfl)
theorem x207_13 {x1 : Int32} {x2 : Int32} : wp Ln xs 207 13 [.ref 72, .int x1, .int x2] [.ref 72] (u, ml_h m lm) Φ = wp Ln xs 152 0 [.int x2, .int (nI 0), .int (nI 4)] [] (u, ml_h m lm) (mk Ln xs 207 16 [.ref 72, .int x1, .int x2] [.ref 72] Φ) := (wp_same xd207_13 (Or.inr rfl) rfl).trans ((wp_same (S' := [.int (nI 0), .int x2, .ref 72]) xd207_14 (Or.inr rfl) rfl).trans ((wp_same (S' := [.int (nI 4), .int (nI 0), .int x2, .ref 72]) xd207_15 (Or.inr rfl) rfl).trans (wm_cs (As := [.int x2, .int (nI 0), .int (nI 4)]) (rest := [.ref 72]) xd207_16 rfl rfl (Nat.le_of_ble_eq_true rfl) (Nat.le_of_ble_eq_true rfl) (Nat.le_of_ble_eq_true rfl) (Nat.le_of_ble_eq_true rfl))))
theorem x207_19 {x1 : Int32} {x2 : Int32} {xs0 : Int32} : wp Ln xs 207 19 [.ref 72, .int x1, .int x2] [.int xs0, .ref 72] (u, ml_h m lm) Φ = if ¬ xs0 = (nI 0) then wp Ln xs 207 26 [.ref 72, .int x1, .int x2] [.ref 72] (u, ml_h m lm) Φ else wp Ln xs 207 22 [.ref 72, .int x1, .int x2] [.ref 72] (u, ml_h m lm) Φ := wx_if xd207_19 rfl rfl (¬ xs0 = (nI 0)) mb_ne
theorem x207_22 {x1 : Int32} {x2 : Int32} : wp Ln xs 207 22 [.ref 72, .int x1, .int x2] [.ref 72] (u, ml_h m lm) Φ = wp Ln xs 207 27 [.ref 72, .int x1, .int x2] [.int (nI 2), .ref 72] (u, ml_h m lm) Φ := (wp_same (S' := [.int (nI 2), .ref 72]) xd207_22 (Or.inr rfl) rfl).trans (wx_goto xd207_23 rfl)
theorem x207_26 {x1 : Int32} {x2 : Int32} : wp Ln xs 207 26 [.ref 72, .int x1, .int x2] [.ref 72] (u, ml_h m lm) Φ = wp Ln xs 207 27 [.ref 72, .int x1, .int x2] [.int (nI 0), .ref 72] (u, ml_h m lm) Φ := wp_same (S' := [.int (nI 0), .ref 72]) xd207_26 (Or.inr rfl) rfl
theorem x207_27 {x1 : Int32} {x2 : Int32} {xs0 : Int32} : wp Ln xs 207 27 [.ref 72, .int x1, .int x2] [.int xs0, .ref 72] (u, ml_h m lm) Φ = wp Ln xs 154 0 [.ref 72, .int xs0] [] (u, ml_h m lm) (mk Ln xs 207 27 [.ref 72, .int x1, .int x2] [] Φ) := wm_cv (As := [.int xs0]) (rest := []) xd207_27 rfl rfl (show ml_L[72]? = _ from rfl) (Nat.le_of_ble_eq_true rfl) (Nat.le_of_ble_eq_true rfl) (Nat.le_of_ble_eq_true rfl) (Nat.le_of_ble_eq_true rfl)
theorem x207_30 {x1 : Int32} {x2 : Int32} {xs0 : Int32} : wp Ln xs 207 30 [.ref 72, .int x1, .int x2] [.int xs0] (u, ml_h m lm) Φ = if xs0 = (nI 0) then wp Ln xs 207 55 [.ref 72, .int x1, .int x2] [] (u, ml_h m lm) Φ else wp Ln xs 207 33 [.ref 72, .int x1, .int x2] [] (u, ml_h m lm) Φ := wx_if xd207_30 rfl rfl (xs0 = (nI 0)) mb_eq
theorem x207_33 {x1 : Int32} {x2 : Int32} : wp Ln xs 207 33 [.ref 72, .int x1, .int x2] [] (u, ml_h m lm) Φ = wp Ln xs 159 0 [.ref 72, .int x1, mj_hole, mj_hole] [] (u, ml_h m lm) (mk Ln xs 207 37 [.ref 72, .int x1, .int x2] [.int x2, .ref 72] Φ) := (wp_same xd207_33 (Or.inr rfl) rfl).trans ((wp_same xd207_34 (Or.inr rfl) rfl).trans ((wp_same xd207_35 (Or.inr rfl) rfl).trans ((wp_same xd207_36 (Or.inr rfl) rfl).trans (wm_cv (As := [.int x1]) (rest := [.int x2, .ref 72]) xd207_37 rfl rfl (show ml_L[72]? = _ from rfl) (Nat.le_of_ble_eq_true rfl) (Nat.le_of_ble_eq_true rfl) (Nat.le_of_ble_eq_true rfl) (Nat.le_of_ble_eq_true rfl)))))
theorem x207_40 {x1 : Int32} {x2 : Int32} {xs0 : Int32} {xs1 : Int32} : wp Ln xs 207 40 [.ref 72, .int x1, .int x2] [.int xs0, .int xs1, .ref 72] (u, ml_h m lm) Φ = wp Ln xs 207 48 [.ref 72, .int x1, .int x2] [.int ((nI 7) + x1), .ref 73, .int xs0, .int xs1, .ref 72] (u, ml_h m lm) Φ := (wp_same xd207_40 (Or.inr rfl) rfl).trans ((wm_getr xd207_41 rfl (show ml_L[72]? = _ from rfl) rfl (Nat.le_of_ble_eq_true rfl)).trans ((wp_same (S' := [.int (nI 7), .ref 73, .int xs0, .int xs1, .ref 72]) xd207_44 (Or.inr rfl) rfl).trans ((wp_same xd207_46 (Or.inr rfl) rfl).trans (wp_same xd207_47 (Or.inr rfl) rfl))))
theorem x207_48 {x1 : Int32} {x2 : Int32} {k : Nat} {xs2 : Int32} {xs3 : Int32} (hk : k < 251) : wp Ln xs 207 48 [.ref 72, .int x1, .int x2] [.int (nI k), .ref 73, .int xs2, .int xs3, .ref 72] (u, ml_h m lm) Φ = wp Ln xs 164 0 [.ref 72, .int xs3, .int xs2, .int (m 73 k)] [] (u, ml_h m lm) (mk Ln xs 207 49 [.ref 72, .int x1, .int x2] [] Φ) := (wm_iald (k := k) xd207_48 ml_ia_73 (by decide) hk).trans (wm_cv (As := [.int xs3, .int xs2, .int (m 73 k)]) (rest := []) xd207_49 rfl rfl (show ml_L[72]? = _ from rfl) (Nat.le_of_ble_eq_true rfl) (Nat.le_of_ble_eq_true rfl) (Nat.le_of_ble_eq_true rfl) (Nat.le_of_ble_eq_true rfl))
theorem x207_52 {x1 : Int32} {x2 : Int32} {xs0 : Int32} : wp Ln xs 207 52 [.ref 72, .int x1, .int x2] [.int xs0] (u, ml_h m lm) Φ = Φ (.inl (some (.int xs0))) (u, ml_h m lm) := (wx_goto xd207_52 rfl).trans (wp_fin (v := some (.int xs0)) xd207_56 (Or.inr rfl) rfl (mj_fin_i rfl))
theorem x207_55 {x1 : Int32} {x2 : Int32} : wp Ln xs 207 55 [.ref 72, .int x1, .int x2] [] (u, ml_h m lm) Φ = Φ (.inl (some (.int (nI 0)))) (u, ml_h m lm) := (wp_same (S' := [.int (nI 0)]) xd207_55 (Or.inr rfl) rfl).trans (wp_fin (v := some (.int (nI 0))) xd207_56 (Or.inr rfl) rfl (mj_fin_i rfl))
end MXj
