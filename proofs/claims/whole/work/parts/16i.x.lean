/-! ===== an equation for each straight piece of a method ===== -/
section MXi
variable {Ln : Nat} {xs : Nat → Int32} {u : mj_U} {m : ml_M} {lm : ml_J} {Φ : mj_R → mj_W → Prop}
/- PickedFormsModel.unlikeOf -/
theorem xd171_0 : decode (mj_b 171) 0 = .ok (.iconst 0, 1) := by decide +kernel
theorem xd171_1 : decode (mj_b 171) 1 = .ok (.istore_n 3, 1) := by decide +kernel
theorem xd171_2 : decode (mj_b 171) 2 = .ok (.iload_n 1, 1) := by decide +kernel
theorem xd171_3 : decode (mj_b 171) 3 = .ok (.istore 4, 2) := by decide +kernel
theorem xd171_5 : decode (mj_b 171) 5 = .ok (.iload 4, 2) := by decide +kernel
theorem xd171_7 : decode (mj_b 171) 7 = .ok (.iload_n 1, 1) := by decide +kernel
theorem xd171_8 : decode (mj_b 171) 8 = .ok (.iload_n 2, 1) := by decide +kernel
theorem xd171_9 : decode (mj_b 171) 9 = .ok (.iadd, 1) := by decide +kernel
theorem xd171_10 : decode (mj_b 171) 10 = .ok (.if_icmp .ge 27, 3) := by decide +kernel
theorem xd171_13 : decode (mj_b 171) 13 = .ok (.iload_n 3, 1) := by decide +kernel
theorem xd171_14 : decode (mj_b 171) 14 = .ok (.aload_n 0, 1) := by decide +kernel
theorem xd171_15 : decode (mj_b 171) 15 = .ok (.iload_n 1, 1) := by decide +kernel
theorem xd171_16 : decode (mj_b 171) 16 = .ok (.iload 4, 2) := by decide +kernel
theorem xd171_18 : decode (mj_b 171) 18 = .ok (.invokevirtual 53, 3) := by decide +kernel
theorem xd171_21 : decode (mj_b 171) 21 = .ok (.ifCond .eq 7, 3) := by decide +kernel
theorem xd171_24 : decode (mj_b 171) 24 = .ok (.iconst 1, 1) := by decide +kernel
theorem xd171_25 : decode (mj_b 171) 25 = .ok (.goto 4, 3) := by decide +kernel
theorem xd171_28 : decode (mj_b 171) 28 = .ok (.iconst 0, 1) := by decide +kernel
theorem xd171_29 : decode (mj_b 171) 29 = .ok (.iadd, 1) := by decide +kernel
theorem xd171_30 : decode (mj_b 171) 30 = .ok (.istore_n 3, 1) := by decide +kernel
theorem xd171_31 : decode (mj_b 171) 31 = .ok (.iinc 4 1, 3) := by decide +kernel
theorem xd171_34 : decode (mj_b 171) 34 = .ok (.goto (-29), 3) := by decide +kernel
theorem xd171_37 : decode (mj_b 171) 37 = .ok (.iload_n 3, 1) := by decide +kernel
theorem xd171_38 : decode (mj_b 171) 38 = .ok (.ireturn, 1) := by decide +kernel
theorem x171_0 {x1 : Int32} {x2 : Int32} : wp Ln xs 171 0 [.ref 72, .int x1, .int x2, mj_hole, mj_hole] [] (u, ml_h m lm) Φ = wp Ln xs 171 5 [.ref 72, .int x1, .int x2, .int (nI 0), .int x1] [] (u, ml_h m lm) Φ := (wp_same (S' := [.int (nI 0)]) xd171_0 (Or.inr rfl) rfl).trans ((wp_same (L' := [.ref 72, .int x1, .int x2, .int (nI 0), mj_hole]) xd171_1 (Or.inr rfl) rfl).trans ((wp_same xd171_2 (Or.inr rfl) rfl).trans (wp_same (L' := [.ref 72, .int x1, .int x2, .int (nI 0), .int x1]) xd171_3 (Or.inr rfl) rfl)))
theorem x171_5 {x1 : Int32} {x2 : Int32} {x3 : Int32} {x4 : Int32} : wp Ln xs 171 5 [.ref 72, .int x1, .int x2, .int x3, .int x4] [] (u, ml_h m lm) Φ = if (x1 + x2) ≤ x4 then wp Ln xs 171 37 [.ref 72, .int x1, .int x2, .int x3, .int x4] [] (u, ml_h m lm) Φ else wp Ln xs 171 13 [.ref 72, .int x1, .int x2, .int x3, .int x4] [] (u, ml_h m lm) Φ := (wp_same xd171_5 (Or.inr rfl) rfl).trans ((wp_same xd171_7 (Or.inr rfl) rfl).trans ((wp_same xd171_8 (Or.inr rfl) rfl).trans ((wp_same xd171_9 (Or.inr rfl) rfl).trans (wx_icmp xd171_10 rfl rfl ((x1 + x2) ≤ x4) mb_ge))))
theorem x171_13 {x1 : Int32} {x2 : Int32} {x3 : Int32} {x4 : Int32} : wp Ln xs 171 13 [.ref 72, .int x1, .int x2, .int x3, .int x4] [] (u, ml_h m lm) Φ = wp Ln xs 172 0 [.ref 72, .int x1, .int x4, mj_hole, mj_hole] [] (u, ml_h m lm) (mk Ln xs 171 18 [.ref 72, .int x1, .int x2, .int x3, .int x4] [.int x3] Φ) := (wp_same xd171_13 (Or.inr rfl) rfl).trans ((wp_same xd171_14 (Or.inr rfl) rfl).trans ((wp_same xd171_15 (Or.inr rfl) rfl).trans ((wp_same xd171_16 (Or.inr rfl) rfl).trans (wm_cv (As := [.int x1, .int x4]) (rest := [.int x3]) xd171_18 rfl rfl (show ml_L[72]? = _ from rfl) (Nat.le_of_ble_eq_true rfl) (Nat.le_of_ble_eq_true rfl) (Nat.le_of_ble_eq_true rfl) (Nat.le_of_ble_eq_true rfl)))))
theorem x171_21 {x1 : Int32} {x2 : Int32} {x3 : Int32} {x4 : Int32} {xs0 : Int32} {xs1 : Int32} : wp Ln xs 171 21 [.ref 72, .int x1, .int x2, .int x3, .int x4] [.int xs0, .int xs1] (u, ml_h m lm) Φ = if xs0 = (nI 0) then wp Ln xs 171 28 [.ref 72, .int x1, .int x2, .int x3, .int x4] [.int xs1] (u, ml_h m lm) Φ else wp Ln xs 171 24 [.ref 72, .int x1, .int x2, .int x3, .int x4] [.int xs1] (u, ml_h m lm) Φ := wx_if xd171_21 rfl rfl (xs0 = (nI 0)) mb_eq
theorem x171_24 {x1 : Int32} {x2 : Int32} {x3 : Int32} {x4 : Int32} {xs0 : Int32} : wp Ln xs 171 24 [.ref 72, .int x1, .int x2, .int x3, .int x4] [.int xs0] (u, ml_h m lm) Φ = wp Ln xs 171 29 [.ref 72, .int x1, .int x2, .int x3, .int x4] [.int (nI 1), .int xs0] (u, ml_h m lm) Φ := (wp_same (S' := [.int (nI 1), .int xs0]) xd171_24 (Or.inr rfl) rfl).trans (wx_goto xd171_25 rfl)
theorem x171_28 {x1 : Int32} {x2 : Int32} {x3 : Int32} {x4 : Int32} {xs0 : Int32} : wp Ln xs 171 28 [.ref 72, .int x1, .int x2, .int x3, .int x4] [.int xs0] (u, ml_h m lm) Φ = wp Ln xs 171 29 [.ref 72, .int x1, .int x2, .int x3, .int x4] [.int (nI 0), .int xs0] (u, ml_h m lm) Φ := wp_same (S' := [.int (nI 0), .int xs0]) xd171_28 (Or.inr rfl) rfl
theorem x171_29 {x1 : Int32} {x2 : Int32} {x3 : Int32} {x4 : Int32} {xs0 : Int32} {xs1 : Int32} : wp Ln xs 171 29 [.ref 72, .int x1, .int x2, .int x3, .int x4] [.int xs0, .int xs1] (u, ml_h m lm) Φ = wp Ln xs 171 5 [.ref 72, .int x1, .int x2, .int (xs1 + xs0), .int (x4 + nI 1)] [] (u, ml_h m lm) Φ := (wp_same xd171_29 (Or.inr rfl) rfl).trans ((wp_same (L' := [.ref 72, .int x1, .int x2, .int (xs1 + xs0), .int x4]) xd171_30 (Or.inr rfl) rfl).trans ((wp_same (L' := [.ref 72, .int x1, .int x2, .int (xs1 + xs0), .int (x4 + nI 1)]) xd171_31 (Or.inr rfl) rfl).trans (wx_goto xd171_34 rfl)))
theorem x171_37 {x1 : Int32} {x2 : Int32} {x3 : Int32} {x4 : Int32} : wp Ln xs 171 37 [.ref 72, .int x1, .int x2, .int x3, .int x4] [] (u, ml_h m lm) Φ = Φ (.inl (some (.int x3))) (u, ml_h m lm) := (wp_same xd171_37 (Or.inr rfl) rfl).trans (wp_fin (v := some (.int x3)) xd171_38 (Or.inr rfl) rfl (mj_fin_i rfl))
/- PickedFormsModel.isFirst -/
theorem xd172_0 : decode (mj_b 172) 0 = .ok (.iconst 1, 1) := by decide +kernel
theorem xd172_1 : decode (mj_b 172) 1 = .ok (.istore_n 3, 1) := by decide +kernel
theorem xd172_2 : decode (mj_b 172) 2 = .ok (.iload_n 1, 1) := by decide +kernel
theorem xd172_3 : decode (mj_b 172) 3 = .ok (.istore 4, 2) := by decide +kernel
theorem xd172_5 : decode (mj_b 172) 5 = .ok (.iload 4, 2) := by decide +kernel
theorem xd172_7 : decode (mj_b 172) 7 = .ok (.iload_n 2, 1) := by decide +kernel
theorem xd172_8 : decode (mj_b 172) 8 = .ok (.if_icmp .ge 41, 3) := by decide +kernel
theorem xd172_11 : decode (mj_b 172) 11 = .ok (.iload_n 3, 1) := by decide +kernel
theorem xd172_12 : decode (mj_b 172) 12 = .ok (.ifCond .eq 29, 3) := by decide +kernel
theorem xd172_15 : decode (mj_b 172) 15 = .ok (.aload_n 0, 1) := by decide +kernel
theorem xd172_16 : decode (mj_b 172) 16 = .ok (.getfield 7, 3) := by decide +kernel
theorem xd172_19 : decode (mj_b 172) 19 = .ok (.bipush 43, 2) := by decide +kernel
theorem xd172_21 : decode (mj_b 172) 21 = .ok (.iload 4, 2) := by decide +kernel
theorem xd172_23 : decode (mj_b 172) 23 = .ok (.iadd, 1) := by decide +kernel
theorem xd172_24 : decode (mj_b 172) 24 = .ok (.iaload, 1) := by decide +kernel
theorem xd172_25 : decode (mj_b 172) 25 = .ok (.aload_n 0, 1) := by decide +kernel
theorem xd172_26 : decode (mj_b 172) 26 = .ok (.getfield 7, 3) := by decide +kernel
theorem xd172_29 : decode (mj_b 172) 29 = .ok (.bipush 43, 2) := by decide +kernel
theorem xd172_31 : decode (mj_b 172) 31 = .ok (.iload_n 2, 1) := by decide +kernel
theorem xd172_32 : decode (mj_b 172) 32 = .ok (.iadd, 1) := by decide +kernel
theorem xd172_33 : decode (mj_b 172) 33 = .ok (.iaload, 1) := by decide +kernel
theorem xd172_34 : decode (mj_b 172) 34 = .ok (.if_icmp .eq 7, 3) := by decide +kernel
theorem xd172_37 : decode (mj_b 172) 37 = .ok (.iconst 1, 1) := by decide +kernel
theorem xd172_38 : decode (mj_b 172) 38 = .ok (.goto 4, 3) := by decide +kernel
theorem xd172_41 : decode (mj_b 172) 41 = .ok (.iconst 0, 1) := by decide +kernel
theorem xd172_42 : decode (mj_b 172) 42 = .ok (.istore_n 3, 1) := by decide +kernel
theorem xd172_43 : decode (mj_b 172) 43 = .ok (.iinc 4 1, 3) := by decide +kernel
theorem xd172_46 : decode (mj_b 172) 46 = .ok (.goto (-41), 3) := by decide +kernel
theorem xd172_49 : decode (mj_b 172) 49 = .ok (.iload_n 3, 1) := by decide +kernel
theorem xd172_50 : decode (mj_b 172) 50 = .ok (.ireturn, 1) := by decide +kernel
theorem x172_0 {x1 : Int32} {x2 : Int32} : wp Ln xs 172 0 [.ref 72, .int x1, .int x2, mj_hole, mj_hole] [] (u, ml_h m lm) Φ = wp Ln xs 172 5 [.ref 72, .int x1, .int x2, .int (nI 1), .int x1] [] (u, ml_h m lm) Φ := (wp_same (S' := [.int (nI 1)]) xd172_0 (Or.inr rfl) rfl).trans ((wp_same (L' := [.ref 72, .int x1, .int x2, .int (nI 1), mj_hole]) xd172_1 (Or.inr rfl) rfl).trans ((wp_same xd172_2 (Or.inr rfl) rfl).trans (wp_same (L' := [.ref 72, .int x1, .int x2, .int (nI 1), .int x1]) xd172_3 (Or.inr rfl) rfl)))
theorem x172_5 {x1 : Int32} {x2 : Int32} {x3 : Int32} {x4 : Int32} : wp Ln xs 172 5 [.ref 72, .int x1, .int x2, .int x3, .int x4] [] (u, ml_h m lm) Φ = if x2 ≤ x4 then wp Ln xs 172 49 [.ref 72, .int x1, .int x2, .int x3, .int x4] [] (u, ml_h m lm) Φ else wp Ln xs 172 11 [.ref 72, .int x1, .int x2, .int x3, .int x4] [] (u, ml_h m lm) Φ := (wp_same xd172_5 (Or.inr rfl) rfl).trans ((wp_same xd172_7 (Or.inr rfl) rfl).trans (wx_icmp xd172_8 rfl rfl (x2 ≤ x4) mb_ge))
theorem x172_11 {x1 : Int32} {x2 : Int32} {x3 : Int32} {x4 : Int32} : wp Ln xs 172 11 [.ref 72, .int x1, .int x2, .int x3, .int x4] [] (u, ml_h m lm) Φ = if x3 = (nI 0) then wp Ln xs 172 41 [.ref 72, .int x1, .int x2, .int x3, .int x4] [] (u, ml_h m lm) Φ else wp Ln xs 172 15 [.ref 72, .int x1, .int x2, .int x3, .int x4] [] (u, ml_h m lm) Φ := (wp_same xd172_11 (Or.inr rfl) rfl).trans (wx_if xd172_12 rfl rfl (x3 = (nI 0)) mb_eq)
theorem x172_15 {x1 : Int32} {x2 : Int32} {x3 : Int32} {x4 : Int32} : wp Ln xs 172 15 [.ref 72, .int x1, .int x2, .int x3, .int x4] [] (u, ml_h m lm) Φ = wp Ln xs 172 24 [.ref 72, .int x1, .int x2, .int x3, .int x4] [.int ((nI 43) + x4), .ref 73] (u, ml_h m lm) Φ := (wp_same xd172_15 (Or.inr rfl) rfl).trans ((wm_getr xd172_16 rfl (show ml_L[72]? = _ from rfl) rfl (Nat.le_of_ble_eq_true rfl)).trans ((wp_same (S' := [.int (nI 43), .ref 73]) xd172_19 (Or.inr rfl) rfl).trans ((wp_same xd172_21 (Or.inr rfl) rfl).trans (wp_same xd172_23 (Or.inr rfl) rfl))))
theorem x172_24 {x1 : Int32} {x2 : Int32} {x3 : Int32} {x4 : Int32} {k : Nat} (hk : k < 251) : wp Ln xs 172 24 [.ref 72, .int x1, .int x2, .int x3, .int x4] [.int (nI k), .ref 73] (u, ml_h m lm) Φ = wp Ln xs 172 33 [.ref 72, .int x1, .int x2, .int x3, .int x4] [.int ((nI 43) + x2), .ref 73, .int (m 73 k)] (u, ml_h m lm) Φ := (wm_iald (k := k) xd172_24 ml_ia_73 (by decide) hk).trans ((wp_same xd172_25 (Or.inr rfl) rfl).trans ((wm_getr xd172_26 rfl (show ml_L[72]? = _ from rfl) rfl (Nat.le_of_ble_eq_true rfl)).trans ((wp_same (S' := [.int (nI 43), .ref 73, .int (m 73 k)]) xd172_29 (Or.inr rfl) rfl).trans ((wp_same xd172_31 (Or.inr rfl) rfl).trans (wp_same xd172_32 (Or.inr rfl) rfl)))))
theorem x172_33 {x1 : Int32} {x2 : Int32} {x3 : Int32} {x4 : Int32} {k : Nat} {xs2 : Int32} (hk : k < 251) : wp Ln xs 172 33 [.ref 72, .int x1, .int x2, .int x3, .int x4] [.int (nI k), .ref 73, .int xs2] (u, ml_h m lm) Φ = if xs2 = (m 73 k) then wp Ln xs 172 41 [.ref 72, .int x1, .int x2, .int x3, .int x4] [] (u, ml_h m lm) Φ else wp Ln xs 172 37 [.ref 72, .int x1, .int x2, .int x3, .int x4] [] (u, ml_h m lm) Φ := (wm_iald (k := k) xd172_33 ml_ia_73 (by decide) hk).trans (wx_icmp xd172_34 rfl rfl (xs2 = (m 73 k)) mb_eq)
theorem x172_37 {x1 : Int32} {x2 : Int32} {x3 : Int32} {x4 : Int32} : wp Ln xs 172 37 [.ref 72, .int x1, .int x2, .int x3, .int x4] [] (u, ml_h m lm) Φ = wp Ln xs 172 42 [.ref 72, .int x1, .int x2, .int x3, .int x4] [.int (nI 1)] (u, ml_h m lm) Φ := (wp_same (S' := [.int (nI 1)]) xd172_37 (Or.inr rfl) rfl).trans (wx_goto xd172_38 rfl)
theorem x172_41 {x1 : Int32} {x2 : Int32} {x3 : Int32} {x4 : Int32} : wp Ln xs 172 41 [.ref 72, .int x1, .int x2, .int x3, .int x4] [] (u, ml_h m lm) Φ = wp Ln xs 172 42 [.ref 72, .int x1, .int x2, .int x3, .int x4] [.int (nI 0)] (u, ml_h m lm) Φ := wp_same (S' := [.int (nI 0)]) xd172_41 (Or.inr rfl) rfl
theorem x172_42 {x1 : Int32} {x2 : Int32} {x3 : Int32} {x4 : Int32} {xs0 : Int32} : wp Ln xs 172 42 [.ref 72, .int x1, .int x2, .int x3, .int x4] [.int xs0] (u, ml_h m lm) Φ = wp Ln xs 172 5 [.ref 72, .int x1, .int x2, .int xs0, .int (x4 + nI 1)] [] (u, ml_h m lm) Φ := (wp_same (L' := [.ref 72, .int x1, .int x2, .int xs0, .int x4]) xd172_42 (Or.inr rfl) rfl).trans ((wp_same (L' := [.ref 72, .int x1, .int x2, .int xs0, .int (x4 + nI 1)]) xd172_43 (Or.inr rfl) rfl).trans (wx_goto xd172_46 rfl))
theorem x172_49 {x1 : Int32} {x2 : Int32} {x3 : Int32} {x4 : Int32} (hz : mj_fin 172 [.int x3] .ireturn = some (some (.int x3))) : wp Ln xs 172 49 [.ref 72, .int x1, .int x2, .int x3, .int x4] [] (u, ml_h m lm) Φ = Φ (.inl (some (.int x3))) (u, ml_h m lm) := (wp_same xd172_49 (Or.inr rfl) rfl).trans (wp_fin xd172_50 (Or.inr rfl) rfl hz)
/- PickedFormsModel.bitsOf -/
theorem xd173_0 : decode (mj_b 173) 0 = .ok (.aload_n 0, 1) := by decide +kernel
theorem xd173_1 : decode (mj_b 173) 1 = .ok (.aload_n 0, 1) := by decide +kernel
theorem xd173_2 : decode (mj_b 173) 2 = .ok (.getfield 7, 3) := by decide +kernel
theorem xd173_5 : decode (mj_b 173) 5 = .ok (.bipush 19, 2) := by decide +kernel
theorem xd173_7 : decode (mj_b 173) 7 = .ok (.iload_n 1, 1) := by decide +kernel
theorem xd173_8 : decode (mj_b 173) 8 = .ok (.iadd, 1) := by decide +kernel
theorem xd173_9 : decode (mj_b 173) 9 = .ok (.iaload, 1) := by decide +kernel
theorem xd173_10 : decode (mj_b 173) 10 = .ok (.aload_n 0, 1) := by decide +kernel
theorem xd173_11 : decode (mj_b 173) 11 = .ok (.iload_n 1, 1) := by decide +kernel
theorem xd173_12 : decode (mj_b 173) 12 = .ok (.invokevirtual 49, 3) := by decide +kernel
theorem xd173_15 : decode (mj_b 173) 15 = .ok (.aload_n 0, 1) := by decide +kernel
theorem xd173_16 : decode (mj_b 173) 16 = .ok (.getfield 7, 3) := by decide +kernel
theorem xd173_19 : decode (mj_b 173) 19 = .ok (.bipush 7, 2) := by decide +kernel
theorem xd173_21 : decode (mj_b 173) 21 = .ok (.iload_n 1, 1) := by decide +kernel
theorem xd173_22 : decode (mj_b 173) 22 = .ok (.iadd, 1) := by decide +kernel
theorem xd173_23 : decode (mj_b 173) 23 = .ok (.iaload, 1) := by decide +kernel
theorem xd173_24 : decode (mj_b 173) 24 = .ok (.invokevirtual 79, 3) := by decide +kernel
theorem xd173_27 : decode (mj_b 173) 27 = .ok (.ireturn, 1) := by decide +kernel
theorem x173_0 {x1 : Int32} : wp Ln xs 173 0 [.ref 72, .int x1] [] (u, ml_h m lm) Φ = wp Ln xs 173 9 [.ref 72, .int x1] [.int ((nI 19) + x1), .ref 73, .ref 72] (u, ml_h m lm) Φ := (wp_same xd173_0 (Or.inr rfl) rfl).trans ((wp_same xd173_1 (Or.inr rfl) rfl).trans ((wm_getr xd173_2 rfl (show ml_L[72]? = _ from rfl) rfl (Nat.le_of_ble_eq_true rfl)).trans ((wp_same (S' := [.int (nI 19), .ref 73, .ref 72]) xd173_5 (Or.inr rfl) rfl).trans ((wp_same xd173_7 (Or.inr rfl) rfl).trans (wp_same xd173_8 (Or.inr rfl) rfl)))))
theorem x173_9 {x1 : Int32} {k : Nat} (hk : k < 251) : wp Ln xs 173 9 [.ref 72, .int x1] [.int (nI k), .ref 73, .ref 72] (u, ml_h m lm) Φ = wp Ln xs 159 0 [.ref 72, .int x1, mj_hole, mj_hole] [] (u, ml_h m lm) (mk Ln xs 173 12 [.ref 72, .int x1] [.int (m 73 k), .ref 72] Φ) := (wm_iald (k := k) xd173_9 ml_ia_73 (by decide) hk).trans ((wp_same xd173_10 (Or.inr rfl) rfl).trans ((wp_same xd173_11 (Or.inr rfl) rfl).trans (wm_cv (As := [.int x1]) (rest := [.int (m 73 k), .ref 72]) xd173_12 rfl rfl (show ml_L[72]? = _ from rfl) (Nat.le_of_ble_eq_true rfl) (Nat.le_of_ble_eq_true rfl) (Nat.le_of_ble_eq_true rfl) (Nat.le_of_ble_eq_true rfl))))
theorem x173_15 {x1 : Int32} {xs0 : Int32} {xs1 : Int32} : wp Ln xs 173 15 [.ref 72, .int x1] [.int xs0, .int xs1, .ref 72] (u, ml_h m lm) Φ = wp Ln xs 173 23 [.ref 72, .int x1] [.int ((nI 7) + x1), .ref 73, .int xs0, .int xs1, .ref 72] (u, ml_h m lm) Φ := (wp_same xd173_15 (Or.inr rfl) rfl).trans ((wm_getr xd173_16 rfl (show ml_L[72]? = _ from rfl) rfl (Nat.le_of_ble_eq_true rfl)).trans ((wp_same (S' := [.int (nI 7), .ref 73, .int xs0, .int xs1, .ref 72]) xd173_19 (Or.inr rfl) rfl).trans ((wp_same xd173_21 (Or.inr rfl) rfl).trans (wp_same xd173_22 (Or.inr rfl) rfl))))
theorem x173_23 {x1 : Int32} {k : Nat} {xs2 : Int32} {xs3 : Int32} (hk : k < 251) : wp Ln xs 173 23 [.ref 72, .int x1] [.int (nI k), .ref 73, .int xs2, .int xs3, .ref 72] (u, ml_h m lm) Φ = wp Ln xs 164 0 [.ref 72, .int xs3, .int xs2, .int (m 73 k)] [] (u, ml_h m lm) (mk Ln xs 173 24 [.ref 72, .int x1] [] Φ) := (wm_iald (k := k) xd173_23 ml_ia_73 (by decide) hk).trans (wm_cv (As := [.int xs3, .int xs2, .int (m 73 k)]) (rest := []) xd173_24 rfl rfl (show ml_L[72]? = _ from rfl) (Nat.le_of_ble_eq_true rfl) (Nat.le_of_ble_eq_true rfl) (Nat.le_of_ble_eq_true rfl) (Nat.le_of_ble_eq_true rfl))
theorem x173_27 {x1 : Int32} {xs0 : Int32} : wp Ln xs 173 27 [.ref 72, .int x1] [.int xs0] (u, ml_h m lm) Φ = Φ (.inl (some (.int xs0))) (u, ml_h m lm) := wp_fin (v := some (.int xs0)) xd173_27 (Or.inr rfl) rfl (mj_fin_i rfl)
/- PickedFormsModel.close -/
theorem xd174_0 : decode (mj_b 174) 0 = .ok (.aload_n 0, 1) := by decide +kernel
theorem xd174_1 : decode (mj_b 174) 1 = .ok (.aload_n 0, 1) := by decide +kernel
theorem xd174_2 : decode (mj_b 174) 2 = .ok (.getfield 7, 3) := by decide +kernel
theorem xd174_5 : decode (mj_b 174) 5 = .ok (.iconst 1, 1) := by decide +kernel
theorem xd174_6 : decode (mj_b 174) 6 = .ok (.iaload, 1) := by decide +kernel
theorem xd174_7 : decode (mj_b 174) 7 = .ok (.ifCond .eq 14, 3) := by decide +kernel
theorem xd174_10 : decode (mj_b 174) 10 = .ok (.aload_n 0, 1) := by decide +kernel
theorem xd174_11 : decode (mj_b 174) 11 = .ok (.getfield 7, 3) := by decide +kernel
theorem xd174_14 : decode (mj_b 174) 14 = .ok (.iconst 0, 1) := by decide +kernel
theorem xd174_15 : decode (mj_b 174) 15 = .ok (.iaload, 1) := by decide +kernel
theorem xd174_16 : decode (mj_b 174) 16 = .ok (.bipush 12, 2) := by decide +kernel
theorem xd174_18 : decode (mj_b 174) 18 = .ok (.if_icmp .ne 7, 3) := by decide +kernel
theorem xd174_21 : decode (mj_b 174) 21 = .ok (.iconst 1, 1) := by decide +kernel
theorem xd174_22 : decode (mj_b 174) 22 = .ok (.goto 4, 3) := by decide +kernel
theorem xd174_25 : decode (mj_b 174) 25 = .ok (.iconst 0, 1) := by decide +kernel
theorem xd174_26 : decode (mj_b 174) 26 = .ok (.invokevirtual 114, 3) := by decide +kernel
theorem xd174_29 : decode (mj_b 174) 29 = .ok (.ifCond .ne 5, 3) := by decide +kernel
theorem xd174_32 : decode (mj_b 174) 32 = .ok (.iconst 0, 1) := by decide +kernel
theorem xd174_33 : decode (mj_b 174) 33 = .ok (.ireturn, 1) := by decide +kernel
theorem xd174_34 : decode (mj_b 174) 34 = .ok (.aload_n 0, 1) := by decide +kernel
theorem xd174_35 : decode (mj_b 174) 35 = .ok (.invokevirtual 117, 3) := by decide +kernel
theorem xd174_38 : decode (mj_b 174) 38 = .ok (.aload_n 0, 1) := by decide +kernel
theorem xd174_39 : decode (mj_b 174) 39 = .ok (.invokevirtual 100, 3) := by decide +kernel
theorem xd174_42 : decode (mj_b 174) 42 = .ok (.aload_n 0, 1) := by decide +kernel
theorem xd174_43 : decode (mj_b 174) 43 = .ok (.getfield 7, 3) := by decide +kernel
theorem xd174_46 : decode (mj_b 174) 46 = .ok (.bipush 19, 2) := by decide +kernel
theorem xd174_48 : decode (mj_b 174) 48 = .ok (.aload_n 0, 1) := by decide +kernel
theorem xd174_49 : decode (mj_b 174) 49 = .ok (.getfield 7, 3) := by decide +kernel
theorem xd174_52 : decode (mj_b 174) 52 = .ok (.iconst 0, 1) := by decide +kernel
theorem xd174_53 : decode (mj_b 174) 53 = .ok (.iaload, 1) := by decide +kernel
theorem xd174_54 : decode (mj_b 174) 54 = .ok (.iadd, 1) := by decide +kernel
theorem xd174_55 : decode (mj_b 174) 55 = .ok (.iconst 1, 1) := by decide +kernel
theorem xd174_56 : decode (mj_b 174) 56 = .ok (.isub, 1) := by decide +kernel
theorem xd174_57 : decode (mj_b 174) 57 = .ok (.iaload, 1) := by decide +kernel
theorem xd174_58 : decode (mj_b 174) 58 = .ok (.ireturn, 1) := by decide +kernel
theorem x174_0 : wp Ln xs 174 0 [.ref 72] [] (u, ml_h m lm) Φ = if (m 73 1) = (nI 0) then wp Ln xs 174 21 [.ref 72] [.ref 72] (u, ml_h m lm) Φ else wp Ln xs 174 10 [.ref 72] [.ref 72] (u, ml_h m lm) Φ := (wp_same xd174_0 (Or.inr rfl) rfl).trans ((wp_same xd174_1 (Or.inr rfl) rfl).trans ((wm_getr xd174_2 rfl (show ml_L[72]? = _ from rfl) rfl (Nat.le_of_ble_eq_true rfl)).trans ((wp_same (S' := [.int (nI 1), .ref 73, .ref 72]) xd174_5 (Or.inr rfl) rfl).trans ((wm_iald (k := 1) xd174_6 ml_ia_73 (by decide) (Nat.le_of_ble_eq_true rfl)).trans (wx_if xd174_7 rfl rfl ((m 73 1) = (nI 0)) mb_eq)))))
theorem x174_10 : wp Ln xs 174 10 [.ref 72] [.ref 72] (u, ml_h m lm) Φ = if ¬ (m 73 0) = (nI 12) then wp Ln xs 174 25 [.ref 72] [.ref 72] (u, ml_h m lm) Φ else wp Ln xs 174 21 [.ref 72] [.ref 72] (u, ml_h m lm) Φ := (wp_same xd174_10 (Or.inr rfl) rfl).trans ((wm_getr xd174_11 rfl (show ml_L[72]? = _ from rfl) rfl (Nat.le_of_ble_eq_true rfl)).trans ((wp_same (S' := [.int (nI 0), .ref 73, .ref 72]) xd174_14 (Or.inr rfl) rfl).trans ((wm_iald (k := 0) xd174_15 ml_ia_73 (by decide) (Nat.le_of_ble_eq_true rfl)).trans ((wp_same (S' := [.int (nI 12), .int (m 73 0), .ref 72]) xd174_16 (Or.inr rfl) rfl).trans (wx_icmp xd174_18 rfl rfl (¬ (m 73 0) = (nI 12)) mb_ne)))))
theorem x174_21 : wp Ln xs 174 21 [.ref 72] [.ref 72] (u, ml_h m lm) Φ = wp Ln xs 174 26 [.ref 72] [.int (nI 1), .ref 72] (u, ml_h m lm) Φ := (wp_same (S' := [.int (nI 1), .ref 72]) xd174_21 (Or.inr rfl) rfl).trans (wx_goto xd174_22 rfl)
theorem x174_25 : wp Ln xs 174 25 [.ref 72] [.ref 72] (u, ml_h m lm) Φ = wp Ln xs 174 26 [.ref 72] [.int (nI 0), .ref 72] (u, ml_h m lm) Φ := wp_same (S' := [.int (nI 0), .ref 72]) xd174_25 (Or.inr rfl) rfl
theorem x174_26 {xs0 : Int32} : wp Ln xs 174 26 [.ref 72] [.int xs0, .ref 72] (u, ml_h m lm) Φ = wp Ln xs 154 0 [.ref 72, .int xs0] [] (u, ml_h m lm) (mk Ln xs 174 26 [.ref 72] [] Φ) := wm_cv (As := [.int xs0]) (rest := []) xd174_26 rfl rfl (show ml_L[72]? = _ from rfl) (Nat.le_of_ble_eq_true rfl) (Nat.le_of_ble_eq_true rfl) (Nat.le_of_ble_eq_true rfl) (Nat.le_of_ble_eq_true rfl)
theorem x174_29 {xs0 : Int32} : wp Ln xs 174 29 [.ref 72] [.int xs0] (u, ml_h m lm) Φ = if ¬ xs0 = (nI 0) then wp Ln xs 174 34 [.ref 72] [] (u, ml_h m lm) Φ else wp Ln xs 174 32 [.ref 72] [] (u, ml_h m lm) Φ := wx_if xd174_29 rfl rfl (¬ xs0 = (nI 0)) mb_ne
theorem x174_32 : wp Ln xs 174 32 [.ref 72] [] (u, ml_h m lm) Φ = Φ (.inl (some (.int (nI 0)))) (u, ml_h m lm) := (wp_same (S' := [.int (nI 0)]) xd174_32 (Or.inr rfl) rfl).trans (wp_fin (v := some (.int (nI 0))) xd174_33 (Or.inr rfl) rfl (mj_fin_i rfl))
theorem x174_34 : wp Ln xs 174 34 [.ref 72] [] (u, ml_h m lm) Φ = wp Ln xs 155 0 [.ref 72, mj_hole] [] (u, ml_h m lm) (mk Ln xs 174 35 [.ref 72] [] Φ) := (wp_same xd174_34 (Or.inr rfl) rfl).trans (wm_cv (As := []) (rest := []) xd174_35 rfl rfl (show ml_L[72]? = _ from rfl) (Nat.le_of_ble_eq_true rfl) (Nat.le_of_ble_eq_true rfl) (Nat.le_of_ble_eq_true rfl) (Nat.le_of_ble_eq_true rfl))
theorem x174_38 : wp Ln xs 174 38 [.ref 72] [] (u, ml_h m lm) Φ = wp Ln xs 160 0 [.ref 72] [] (u, ml_h m lm) (mk Ln xs 174 39 [.ref 72] [] Φ) := (wp_same xd174_38 (Or.inr rfl) rfl).trans (wm_cv (As := []) (rest := []) xd174_39 rfl rfl (show ml_L[72]? = _ from rfl) (Nat.le_of_ble_eq_true rfl) (Nat.le_of_ble_eq_true rfl) (Nat.le_of_ble_eq_true rfl) (Nat.le_of_ble_eq_true rfl))
theorem x174_42 : wp Ln xs 174 42 [.ref 72] [] (u, ml_h m lm) Φ = wp Ln xs 174 57 [.ref 72] [.int (((nI 19) + (m 73 0)) - (nI 1)), .ref 73] (u, ml_h m lm) Φ := (wp_same xd174_42 (Or.inr rfl) rfl).trans ((wm_getr xd174_43 rfl (show ml_L[72]? = _ from rfl) rfl (Nat.le_of_ble_eq_true rfl)).trans ((wp_same (S' := [.int (nI 19), .ref 73]) xd174_46 (Or.inr rfl) rfl).trans ((wp_same xd174_48 (Or.inr rfl) rfl).trans ((wm_getr xd174_49 rfl (show ml_L[72]? = _ from rfl) rfl (Nat.le_of_ble_eq_true rfl)).trans ((wp_same (S' := [.int (nI 0), .ref 73, .int (nI 19), .ref 73]) xd174_52 (Or.inr rfl) rfl).trans ((wm_iald (k := 0) xd174_53 ml_ia_73 (by decide) (Nat.le_of_ble_eq_true rfl)).trans ((wp_same xd174_54 (Or.inr rfl) rfl).trans ((wp_same (S' := [.int (nI 1), .int ((nI 19) + (m 73 0)), .ref 73]) xd174_55 (Or.inr rfl) rfl).trans (wp_same xd174_56 (Or.inr rfl) rfl)))))))))
theorem x174_57 {k : Nat} (hk : k < 251) : wp Ln xs 174 57 [.ref 72] [.int (nI k), .ref 73] (u, ml_h m lm) Φ = Φ (.inl (some (.int (m 73 k)))) (u, ml_h m lm) := (wm_iald (k := k) xd174_57 ml_ia_73 (by decide) hk).trans (wp_fin (v := some (.int (m 73 k))) xd174_58 (Or.inr rfl) rfl (mj_fin_i rfl))
/- PickedFormsModel.change -/
theorem xd175_0 : decode (mj_b 175) 0 = .ok (.aload_n 0, 1) := by decide +kernel
theorem xd175_1 : decode (mj_b 175) 1 = .ok (.iload_n 1, 1) := by decide +kernel
theorem xd175_2 : decode (mj_b 175) 2 = .ok (.iconst 0, 1) := by decide +kernel
theorem xd175_3 : decode (mj_b 175) 3 = .ok (.aload_n 0, 1) := by decide +kernel
theorem xd175_4 : decode (mj_b 175) 4 = .ok (.invokevirtual 96, 3) := by decide +kernel
theorem xd175_7 : decode (mj_b 175) 7 = .ok (.iconst 1, 1) := by decide +kernel
theorem xd175_8 : decode (mj_b 175) 8 = .ok (.isub, 1) := by decide +kernel
theorem xd175_9 : decode (mj_b 175) 9 = .ok (.invokestatic 38, 3) := by decide +kernel
theorem xd175_12 : decode (mj_b 175) 12 = .ok (.ifCond .ne 7, 3) := by decide +kernel
theorem xd175_15 : decode (mj_b 175) 15 = .ok (.iconst 1, 1) := by decide +kernel
theorem xd175_16 : decode (mj_b 175) 16 = .ok (.goto 15, 3) := by decide +kernel
theorem xd175_19 : decode (mj_b 175) 19 = .ok (.iload_n 2, 1) := by decide +kernel
theorem xd175_20 : decode (mj_b 175) 20 = .ok (.invokestatic 106, 3) := by decide +kernel
theorem xd175_23 : decode (mj_b 175) 23 = .ok (.ifCond .ne 7, 3) := by decide +kernel
theorem xd175_26 : decode (mj_b 175) 26 = .ok (.iconst 2, 1) := by decide +kernel
theorem xd175_27 : decode (mj_b 175) 27 = .ok (.goto 4, 3) := by decide +kernel
theorem xd175_30 : decode (mj_b 175) 30 = .ok (.iconst 0, 1) := by decide +kernel
theorem xd175_31 : decode (mj_b 175) 31 = .ok (.invokevirtual 114, 3) := by decide +kernel
theorem xd175_34 : decode (mj_b 175) 34 = .ok (.ifCond .ne 5, 3) := by decide +kernel
theorem xd175_37 : decode (mj_b 175) 37 = .ok (.iconst 0, 1) := by decide +kernel
theorem xd175_38 : decode (mj_b 175) 38 = .ok (.ireturn, 1) := by decide +kernel
theorem xd175_39 : decode (mj_b 175) 39 = .ok (.aload_n 0, 1) := by decide +kernel
theorem xd175_40 : decode (mj_b 175) 40 = .ok (.invokevirtual 117, 3) := by decide +kernel
theorem xd175_43 : decode (mj_b 175) 43 = .ok (.aload_n 0, 1) := by decide +kernel
theorem xd175_44 : decode (mj_b 175) 44 = .ok (.iload_n 1, 1) := by decide +kernel
theorem xd175_45 : decode (mj_b 175) 45 = .ok (.iload_n 2, 1) := by decide +kernel
theorem xd175_46 : decode (mj_b 175) 46 = .ok (.invokevirtual 123, 3) := by decide +kernel
theorem xd175_49 : decode (mj_b 175) 49 = .ok (.ireturn, 1) := by decide +kernel
theorem x175_0 {x1 : Int32} {x2 : Int32} : wp Ln xs 175 0 [.ref 72, .int x1, .int x2] [] (u, ml_h m lm) Φ = wp Ln xs 158 0 [.ref 72] [] (u, ml_h m lm) (mk Ln xs 175 4 [.ref 72, .int x1, .int x2] [.int (nI 0), .int x1, .ref 72] Φ) := (wp_same xd175_0 (Or.inr rfl) rfl).trans ((wp_same xd175_1 (Or.inr rfl) rfl).trans ((wp_same (S' := [.int (nI 0), .int x1, .ref 72]) xd175_2 (Or.inr rfl) rfl).trans ((wp_same xd175_3 (Or.inr rfl) rfl).trans (wm_cv (As := []) (rest := [.int (nI 0), .int x1, .ref 72]) xd175_4 rfl rfl (show ml_L[72]? = _ from rfl) (Nat.le_of_ble_eq_true rfl) (Nat.le_of_ble_eq_true rfl) (Nat.le_of_ble_eq_true rfl) (Nat.le_of_ble_eq_true rfl)))))
theorem x175_7 {x1 : Int32} {x2 : Int32} {xs0 : Int32} {xs1 : Int32} {xs2 : Int32} : wp Ln xs 175 7 [.ref 72, .int x1, .int x2] [.int xs0, .int xs1, .int xs2, .ref 72] (u, ml_h m lm) Φ = wp Ln xs 152 0 [.int xs2, .int xs1, .int (xs0 - (nI 1))] [] (u, ml_h m lm) (mk Ln xs 175 9 [.ref 72, .int x1, .int x2] [.ref 72] Φ) := (wp_same (S' := [.int (nI 1), .int xs0, .int xs1, .int xs2, .ref 72]) xd175_7 (Or.inr rfl) rfl).trans ((wp_same xd175_8 (Or.inr rfl) rfl).trans (wm_cs (As := [.int xs2, .int xs1, .int (xs0 - (nI 1))]) (rest := [.ref 72]) xd175_9 rfl rfl (Nat.le_of_ble_eq_true rfl) (Nat.le_of_ble_eq_true rfl) (Nat.le_of_ble_eq_true rfl) (Nat.le_of_ble_eq_true rfl)))
theorem x175_12 {x1 : Int32} {x2 : Int32} {xs0 : Int32} : wp Ln xs 175 12 [.ref 72, .int x1, .int x2] [.int xs0, .ref 72] (u, ml_h m lm) Φ = if ¬ xs0 = (nI 0) then wp Ln xs 175 19 [.ref 72, .int x1, .int x2] [.ref 72] (u, ml_h m lm) Φ else wp Ln xs 175 15 [.ref 72, .int x1, .int x2] [.ref 72] (u, ml_h m lm) Φ := wx_if xd175_12 rfl rfl (¬ xs0 = (nI 0)) mb_ne
theorem x175_15 {x1 : Int32} {x2 : Int32} : wp Ln xs 175 15 [.ref 72, .int x1, .int x2] [.ref 72] (u, ml_h m lm) Φ = wp Ln xs 175 31 [.ref 72, .int x1, .int x2] [.int (nI 1), .ref 72] (u, ml_h m lm) Φ := (wp_same (S' := [.int (nI 1), .ref 72]) xd175_15 (Or.inr rfl) rfl).trans (wx_goto xd175_16 rfl)
theorem x175_19 {x1 : Int32} {x2 : Int32} : wp Ln xs 175 19 [.ref 72, .int x1, .int x2] [.ref 72] (u, ml_h m lm) Φ = wp Ln xs 151 0 [.int x2] [] (u, ml_h m lm) (mk Ln xs 175 20 [.ref 72, .int x1, .int x2] [.ref 72] Φ) := (wp_same xd175_19 (Or.inr rfl) rfl).trans (wm_cs (As := [.int x2]) (rest := [.ref 72]) xd175_20 rfl rfl (Nat.le_of_ble_eq_true rfl) (Nat.le_of_ble_eq_true rfl) (Nat.le_of_ble_eq_true rfl) (Nat.le_of_ble_eq_true rfl))
theorem x175_23 {x1 : Int32} {x2 : Int32} {xs0 : Int32} : wp Ln xs 175 23 [.ref 72, .int x1, .int x2] [.int xs0, .ref 72] (u, ml_h m lm) Φ = if ¬ xs0 = (nI 0) then wp Ln xs 175 30 [.ref 72, .int x1, .int x2] [.ref 72] (u, ml_h m lm) Φ else wp Ln xs 175 26 [.ref 72, .int x1, .int x2] [.ref 72] (u, ml_h m lm) Φ := wx_if xd175_23 rfl rfl (¬ xs0 = (nI 0)) mb_ne
theorem x175_26 {x1 : Int32} {x2 : Int32} : wp Ln xs 175 26 [.ref 72, .int x1, .int x2] [.ref 72] (u, ml_h m lm) Φ = wp Ln xs 175 31 [.ref 72, .int x1, .int x2] [.int (nI 2), .ref 72] (u, ml_h m lm) Φ := (wp_same (S' := [.int (nI 2), .ref 72]) xd175_26 (Or.inr rfl) rfl).trans (wx_goto xd175_27 rfl)
theorem x175_30 {x1 : Int32} {x2 : Int32} : wp Ln xs 175 30 [.ref 72, .int x1, .int x2] [.ref 72] (u, ml_h m lm) Φ = wp Ln xs 175 31 [.ref 72, .int x1, .int x2] [.int (nI 0), .ref 72] (u, ml_h m lm) Φ := wp_same (S' := [.int (nI 0), .ref 72]) xd175_30 (Or.inr rfl) rfl
theorem x175_31 {x1 : Int32} {x2 : Int32} {xs0 : Int32} : wp Ln xs 175 31 [.ref 72, .int x1, .int x2] [.int xs0, .ref 72] (u, ml_h m lm) Φ = wp Ln xs 154 0 [.ref 72, .int xs0] [] (u, ml_h m lm) (mk Ln xs 175 31 [.ref 72, .int x1, .int x2] [] Φ) := wm_cv (As := [.int xs0]) (rest := []) xd175_31 rfl rfl (show ml_L[72]? = _ from rfl) (Nat.le_of_ble_eq_true rfl) (Nat.le_of_ble_eq_true rfl) (Nat.le_of_ble_eq_true rfl) (Nat.le_of_ble_eq_true rfl)
theorem x175_34 {x1 : Int32} {x2 : Int32} {xs0 : Int32} : wp Ln xs 175 34 [.ref 72, .int x1, .int x2] [.int xs0] (u, ml_h m lm) Φ = if ¬ xs0 = (nI 0) then wp Ln xs 175 39 [.ref 72, .int x1, .int x2] [] (u, ml_h m lm) Φ else wp Ln xs 175 37 [.ref 72, .int x1, .int x2] [] (u, ml_h m lm) Φ := wx_if xd175_34 rfl rfl (¬ xs0 = (nI 0)) mb_ne
theorem x175_37 {x1 : Int32} {x2 : Int32} : wp Ln xs 175 37 [.ref 72, .int x1, .int x2] [] (u, ml_h m lm) Φ = Φ (.inl (some (.int (nI 0)))) (u, ml_h m lm) := (wp_same (S' := [.int (nI 0)]) xd175_37 (Or.inr rfl) rfl).trans (wp_fin (v := some (.int (nI 0))) xd175_38 (Or.inr rfl) rfl (mj_fin_i rfl))
theorem x175_39 {x1 : Int32} {x2 : Int32} : wp Ln xs 175 39 [.ref 72, .int x1, .int x2] [] (u, ml_h m lm) Φ = wp Ln xs 155 0 [.ref 72, mj_hole] [] (u, ml_h m lm) (mk Ln xs 175 40 [.ref 72, .int x1, .int x2] [] Φ) := (wp_same xd175_39 (Or.inr rfl) rfl).trans (wm_cv (As := []) (rest := []) xd175_40 rfl rfl (show ml_L[72]? = _ from rfl) (Nat.le_of_ble_eq_true rfl) (Nat.le_of_ble_eq_true rfl) (Nat.le_of_ble_eq_true rfl) (Nat.le_of_ble_eq_true rfl))
theorem x175_43 {x1 : Int32} {x2 : Int32} : wp Ln xs 175 43 [.ref 72, .int x1, .int x2] [] (u, ml_h m lm) Φ = wp Ln xs 176 0 [.ref 72, .int x1, .int x2, mj_hole] [] (u, ml_h m lm) (mk Ln xs 175 46 [.ref 72, .int x1, .int x2] [] Φ) := (wp_same xd175_43 (Or.inr rfl) rfl).trans ((wp_same xd175_44 (Or.inr rfl) rfl).trans ((wp_same xd175_45 (Or.inr rfl) rfl).trans (wm_cv (As := [.int x1, .int x2]) (rest := []) xd175_46 rfl rfl (show ml_L[72]? = _ from rfl) (Nat.le_of_ble_eq_true rfl) (Nat.le_of_ble_eq_true rfl) (Nat.le_of_ble_eq_true rfl) (Nat.le_of_ble_eq_true rfl))))
theorem x175_49 {x1 : Int32} {x2 : Int32} {xs0 : Int32} : wp Ln xs 175 49 [.ref 72, .int x1, .int x2] [.int xs0] (u, ml_h m lm) Φ = Φ (.inl (some (.int xs0))) (u, ml_h m lm) := wp_fin (v := some (.int xs0)) xd175_49 (Or.inr rfl) rfl (mj_fin_i rfl)
/- PickedFormsModel.replace -/
theorem xd176_0 : decode (mj_b 176) 0 = .ok (.aload_n 0, 1) := by decide +kernel
theorem xd176_1 : decode (mj_b 176) 1 = .ok (.iload_n 1, 1) := by decide +kernel
theorem xd176_2 : decode (mj_b 176) 2 = .ok (.invokevirtual 103, 3) := by decide +kernel
theorem xd176_5 : decode (mj_b 176) 5 = .ok (.istore_n 3, 1) := by decide +kernel
theorem xd176_6 : decode (mj_b 176) 6 = .ok (.aload_n 0, 1) := by decide +kernel
theorem xd176_7 : decode (mj_b 176) 7 = .ok (.getfield 7, 3) := by decide +kernel
theorem xd176_10 : decode (mj_b 176) 10 = .ok (.bipush 43, 2) := by decide +kernel
theorem xd176_12 : decode (mj_b 176) 12 = .ok (.iload_n 1, 1) := by decide +kernel
theorem xd176_13 : decode (mj_b 176) 13 = .ok (.iadd, 1) := by decide +kernel
theorem xd176_14 : decode (mj_b 176) 14 = .ok (.iload_n 2, 1) := by decide +kernel
theorem xd176_15 : decode (mj_b 176) 15 = .ok (.iastore, 1) := by decide +kernel
theorem xd176_16 : decode (mj_b 176) 16 = .ok (.iload_n 3, 1) := by decide +kernel
theorem xd176_17 : decode (mj_b 176) 17 = .ok (.aload_n 0, 1) := by decide +kernel
theorem xd176_18 : decode (mj_b 176) 18 = .ok (.getfield 7, 3) := by decide +kernel
theorem xd176_21 : decode (mj_b 176) 21 = .ok (.iconst 0, 1) := by decide +kernel
theorem xd176_22 : decode (mj_b 176) 22 = .ok (.iaload, 1) := by decide +kernel
theorem xd176_23 : decode (mj_b 176) 23 = .ok (.if_icmp .ne 5, 3) := by decide +kernel
theorem xd176_26 : decode (mj_b 176) 26 = .ok (.iconst 0, 1) := by decide +kernel
theorem xd176_27 : decode (mj_b 176) 27 = .ok (.ireturn, 1) := by decide +kernel
theorem xd176_28 : decode (mj_b 176) 28 = .ok (.aload_n 0, 1) := by decide +kernel
theorem xd176_29 : decode (mj_b 176) 29 = .ok (.iload_n 3, 1) := by decide +kernel
theorem xd176_30 : decode (mj_b 176) 30 = .ok (.invokevirtual 89, 3) := by decide +kernel
theorem xd176_33 : decode (mj_b 176) 33 = .ok (.aload_n 0, 1) := by decide +kernel
theorem xd176_34 : decode (mj_b 176) 34 = .ok (.getfield 7, 3) := by decide +kernel
theorem xd176_37 : decode (mj_b 176) 37 = .ok (.bipush 31, 2) := by decide +kernel
theorem xd176_39 : decode (mj_b 176) 39 = .ok (.iload_n 3, 1) := by decide +kernel
theorem xd176_40 : decode (mj_b 176) 40 = .ok (.iadd, 1) := by decide +kernel
theorem xd176_41 : decode (mj_b 176) 41 = .ok (.iaload, 1) := by decide +kernel
theorem xd176_42 : decode (mj_b 176) 42 = .ok (.if_icmp .gt 15, 3) := by decide +kernel
theorem xd176_45 : decode (mj_b 176) 45 = .ok (.aload_n 0, 1) := by decide +kernel
theorem xd176_46 : decode (mj_b 176) 46 = .ok (.getfield 7, 3) := by decide +kernel
theorem xd176_49 : decode (mj_b 176) 49 = .ok (.iconst 5, 1) := by decide +kernel
theorem xd176_50 : decode (mj_b 176) 50 = .ok (.dup2, 1) := by decide +kernel
theorem xd176_51 : decode (mj_b 176) 51 = .ok (.iaload, 1) := by decide +kernel
theorem xd176_52 : decode (mj_b 176) 52 = .ok (.iconst 1, 1) := by decide +kernel
theorem xd176_53 : decode (mj_b 176) 53 = .ok (.iadd, 1) := by decide +kernel
theorem xd176_54 : decode (mj_b 176) 54 = .ok (.iastore, 1) := by decide +kernel
theorem xd176_55 : decode (mj_b 176) 55 = .ok (.iconst 1, 1) := by decide +kernel
theorem xd176_56 : decode (mj_b 176) 56 = .ok (.ireturn, 1) := by decide +kernel
theorem xd176_57 : decode (mj_b 176) 57 = .ok (.aload_n 0, 1) := by decide +kernel
theorem xd176_58 : decode (mj_b 176) 58 = .ok (.iload_n 3, 1) := by decide +kernel
theorem xd176_59 : decode (mj_b 176) 59 = .ok (.invokevirtual 92, 3) := by decide +kernel
theorem xd176_62 : decode (mj_b 176) 62 = .ok (.iconst 2, 1) := by decide +kernel
theorem xd176_63 : decode (mj_b 176) 63 = .ok (.ireturn, 1) := by decide +kernel
theorem x176_0 {x1 : Int32} {x2 : Int32} : wp Ln xs 176 0 [.ref 72, .int x1, .int x2, mj_hole] [] (u, ml_h m lm) Φ = wp Ln xs 177 0 [.ref 72, .int x1, mj_hole] [] (u, ml_h m lm) (mk Ln xs 176 2 [.ref 72, .int x1, .int x2, mj_hole] [] Φ) := (wp_same xd176_0 (Or.inr rfl) rfl).trans ((wp_same xd176_1 (Or.inr rfl) rfl).trans (wm_cv (As := [.int x1]) (rest := []) xd176_2 rfl rfl (show ml_L[72]? = _ from rfl) (Nat.le_of_ble_eq_true rfl) (Nat.le_of_ble_eq_true rfl) (Nat.le_of_ble_eq_true rfl) (Nat.le_of_ble_eq_true rfl)))
theorem x176_5 {x1 : Int32} {x2 : Int32} {xs0 : Int32} : wp Ln xs 176 5 [.ref 72, .int x1, .int x2, mj_hole] [.int xs0] (u, ml_h m lm) Φ = wp Ln xs 176 15 [.ref 72, .int x1, .int x2, .int xs0] [.int x2, .int ((nI 43) + x1), .ref 73] (u, ml_h m lm) Φ := (wp_same (L' := [.ref 72, .int x1, .int x2, .int xs0]) xd176_5 (Or.inr rfl) rfl).trans ((wp_same xd176_6 (Or.inr rfl) rfl).trans ((wm_getr xd176_7 rfl (show ml_L[72]? = _ from rfl) rfl (Nat.le_of_ble_eq_true rfl)).trans ((wp_same (S' := [.int (nI 43), .ref 73]) xd176_10 (Or.inr rfl) rfl).trans ((wp_same xd176_12 (Or.inr rfl) rfl).trans ((wp_same xd176_13 (Or.inr rfl) rfl).trans (wp_same xd176_14 (Or.inr rfl) rfl))))))
theorem x176_15 {x1 : Int32} {x2 : Int32} {x3 : Int32} {xs0 : Int32} {k : Nat} (hk : k < 251) : wp Ln xs 176 15 [.ref 72, .int x1, .int x2, .int x3] [.int xs0, .int (nI k), .ref 73] (u, ml_h m lm) Φ = if ¬ x3 = ((ml_s m 73 k xs0) 73 0) then wp Ln xs 176 28 [.ref 72, .int x1, .int x2, .int x3] [] (u, ml_h (ml_s m 73 k xs0) lm) Φ else wp Ln xs 176 26 [.ref 72, .int x1, .int x2, .int x3] [] (u, ml_h (ml_s m 73 k xs0) lm) Φ := (wm_iast (k := k) xd176_15 ml_ia_73 hk).trans ((wp_same xd176_16 (Or.inr rfl) rfl).trans ((wp_same xd176_17 (Or.inr rfl) rfl).trans ((wm_getr xd176_18 rfl (show ml_L[72]? = _ from rfl) rfl (Nat.le_of_ble_eq_true rfl)).trans ((wp_same (S' := [.int (nI 0), .ref 73, .int x3]) xd176_21 (Or.inr rfl) rfl).trans ((wm_iald (k := 0) xd176_22 ml_ia_73 (by decide) (Nat.le_of_ble_eq_true rfl)).trans (wx_icmp xd176_23 rfl rfl (¬ x3 = ((ml_s m 73 k xs0) 73 0)) mb_ne))))))
theorem x176_26 {x1 : Int32} {x2 : Int32} {x3 : Int32} : wp Ln xs 176 26 [.ref 72, .int x1, .int x2, .int x3] [] (u, ml_h m lm) Φ = Φ (.inl (some (.int (nI 0)))) (u, ml_h m lm) := (wp_same (S' := [.int (nI 0)]) xd176_26 (Or.inr rfl) rfl).trans (wp_fin (v := some (.int (nI 0))) xd176_27 (Or.inr rfl) rfl (mj_fin_i rfl))
theorem x176_28 {x1 : Int32} {x2 : Int32} {x3 : Int32} : wp Ln xs 176 28 [.ref 72, .int x1, .int x2, .int x3] [] (u, ml_h m lm) Φ = wp Ln xs 173 0 [.ref 72, .int x3] [] (u, ml_h m lm) (mk Ln xs 176 30 [.ref 72, .int x1, .int x2, .int x3] [] Φ) := (wp_same xd176_28 (Or.inr rfl) rfl).trans ((wp_same xd176_29 (Or.inr rfl) rfl).trans (wm_cv (As := [.int x3]) (rest := []) xd176_30 rfl rfl (show ml_L[72]? = _ from rfl) (Nat.le_of_ble_eq_true rfl) (Nat.le_of_ble_eq_true rfl) (Nat.le_of_ble_eq_true rfl) (Nat.le_of_ble_eq_true rfl)))
theorem x176_33 {x1 : Int32} {x2 : Int32} {x3 : Int32} {xs0 : Int32} : wp Ln xs 176 33 [.ref 72, .int x1, .int x2, .int x3] [.int xs0] (u, ml_h m lm) Φ = wp Ln xs 176 41 [.ref 72, .int x1, .int x2, .int x3] [.int ((nI 31) + x3), .ref 73, .int xs0] (u, ml_h m lm) Φ := (wp_same xd176_33 (Or.inr rfl) rfl).trans ((wm_getr xd176_34 rfl (show ml_L[72]? = _ from rfl) rfl (Nat.le_of_ble_eq_true rfl)).trans ((wp_same (S' := [.int (nI 31), .ref 73, .int xs0]) xd176_37 (Or.inr rfl) rfl).trans ((wp_same xd176_39 (Or.inr rfl) rfl).trans (wp_same xd176_40 (Or.inr rfl) rfl))))
theorem x176_41 {x1 : Int32} {x2 : Int32} {x3 : Int32} {k : Nat} {xs2 : Int32} (hk : k < 251) : wp Ln xs 176 41 [.ref 72, .int x1, .int x2, .int x3] [.int (nI k), .ref 73, .int xs2] (u, ml_h m lm) Φ = if (m 73 k) < xs2 then wp Ln xs 176 57 [.ref 72, .int x1, .int x2, .int x3] [] (u, ml_h m lm) Φ else wp Ln xs 176 45 [.ref 72, .int x1, .int x2, .int x3] [] (u, ml_h m lm) Φ := (wm_iald (k := k) xd176_41 ml_ia_73 (by decide) hk).trans (wx_icmp xd176_42 rfl rfl ((m 73 k) < xs2) mb_gt)
theorem x176_45 {x1 : Int32} {x2 : Int32} {x3 : Int32} : wp Ln xs 176 45 [.ref 72, .int x1, .int x2, .int x3] [] (u, ml_h m lm) Φ = Φ (.inl (some (.int (nI 1)))) (u, ml_h (ml_s m 73 5 ((m 73 5) + (nI 1))) lm) := (wp_same xd176_45 (Or.inr rfl) rfl).trans ((wm_getr xd176_46 rfl (show ml_L[72]? = _ from rfl) rfl (Nat.le_of_ble_eq_true rfl)).trans ((wp_same (S' := [.int (nI 5), .ref 73]) xd176_49 (Or.inr rfl) rfl).trans ((wp_same xd176_50 (Or.inr rfl) rfl).trans ((wm_iald (k := 5) xd176_51 ml_ia_73 (by decide) (Nat.le_of_ble_eq_true rfl)).trans ((wp_same (S' := [.int (nI 1), .int (m 73 5), .int (nI 5), .ref 73]) xd176_52 (Or.inr rfl) rfl).trans ((wp_same xd176_53 (Or.inr rfl) rfl).trans ((wm_iast (k := 5) xd176_54 ml_ia_73 (Nat.le_of_ble_eq_true rfl)).trans ((wp_same (S' := [.int (nI 1)]) xd176_55 (Or.inr rfl) rfl).trans (wp_fin (v := some (.int (nI 1))) xd176_56 (Or.inr rfl) rfl (mj_fin_i rfl))))))))))
theorem x176_57 {x1 : Int32} {x2 : Int32} {x3 : Int32} : wp Ln xs 176 57 [.ref 72, .int x1, .int x2, .int x3] [] (u, ml_h m lm) Φ = wp Ln xs 161 0 [.ref 72, .int x3] [] (u, ml_h m lm) (mk Ln xs 176 59 [.ref 72, .int x1, .int x2, .int x3] [] Φ) := (wp_same xd176_57 (Or.inr rfl) rfl).trans ((wp_same xd176_58 (Or.inr rfl) rfl).trans (wm_cv (As := [.int x3]) (rest := []) xd176_59 rfl rfl (show ml_L[72]? = _ from rfl) (Nat.le_of_ble_eq_true rfl) (Nat.le_of_ble_eq_true rfl) (Nat.le_of_ble_eq_true rfl) (Nat.le_of_ble_eq_true rfl)))
theorem x176_62 {x1 : Int32} {x2 : Int32} {x3 : Int32} : wp Ln xs 176 62 [.ref 72, .int x1, .int x2, .int x3] [] (u, ml_h m lm) Φ = Φ (.inl (some (.int (nI 2)))) (u, ml_h m lm) := (wp_same (S' := [.int (nI 2)]) xd176_62 (Or.inr rfl) rfl).trans (wp_fin (v := some (.int (nI 2))) xd176_63 (Or.inr rfl) rfl (mj_fin_i rfl))
/- PickedFormsModel.blockOf -/
theorem xd177_0 : decode (mj_b 177) 0 = .ok (.iconst 0, 1) := by decide +kernel
theorem xd177_1 : decode (mj_b 177) 1 = .ok (.istore_n 2, 1) := by decide +kernel
theorem xd177_2 : decode (mj_b 177) 2 = .ok (.iload_n 2, 1) := by decide +kernel
theorem xd177_3 : decode (mj_b 177) 3 = .ok (.aload_n 0, 1) := by decide +kernel
theorem xd177_4 : decode (mj_b 177) 4 = .ok (.getfield 7, 3) := by decide +kernel
theorem xd177_7 : decode (mj_b 177) 7 = .ok (.iconst 0, 1) := by decide +kernel
theorem xd177_8 : decode (mj_b 177) 8 = .ok (.iaload, 1) := by decide +kernel
theorem xd177_9 : decode (mj_b 177) 9 = .ok (.if_icmp .ge 20, 3) := by decide +kernel
theorem xd177_12 : decode (mj_b 177) 12 = .ok (.aload_n 0, 1) := by decide +kernel
theorem xd177_13 : decode (mj_b 177) 13 = .ok (.iload_n 2, 1) := by decide +kernel
theorem xd177_14 : decode (mj_b 177) 14 = .ok (.iconst 1, 1) := by decide +kernel
theorem xd177_15 : decode (mj_b 177) 15 = .ok (.iadd, 1) := by decide +kernel
theorem xd177_16 : decode (mj_b 177) 16 = .ok (.invokevirtual 49, 3) := by decide +kernel
theorem xd177_19 : decode (mj_b 177) 19 = .ok (.iload_n 1, 1) := by decide +kernel
theorem xd177_20 : decode (mj_b 177) 20 = .ok (.if_icmp .gt 9, 3) := by decide +kernel
theorem xd177_23 : decode (mj_b 177) 23 = .ok (.iinc 2 1, 3) := by decide +kernel
theorem xd177_26 : decode (mj_b 177) 26 = .ok (.goto (-24), 3) := by decide +kernel
theorem xd177_29 : decode (mj_b 177) 29 = .ok (.iload_n 2, 1) := by decide +kernel
theorem xd177_30 : decode (mj_b 177) 30 = .ok (.ireturn, 1) := by decide +kernel
theorem x177_0 {x1 : Int32} : wp Ln xs 177 0 [.ref 72, .int x1, mj_hole] [] (u, ml_h m lm) Φ = wp Ln xs 177 2 [.ref 72, .int x1, .int (nI 0)] [] (u, ml_h m lm) Φ := (wp_same (S' := [.int (nI 0)]) xd177_0 (Or.inr rfl) rfl).trans (wp_same (L' := [.ref 72, .int x1, .int (nI 0)]) xd177_1 (Or.inr rfl) rfl)
theorem x177_2 {x1 : Int32} {x2 : Int32} : wp Ln xs 177 2 [.ref 72, .int x1, .int x2] [] (u, ml_h m lm) Φ = if (m 73 0) ≤ x2 then wp Ln xs 177 29 [.ref 72, .int x1, .int x2] [] (u, ml_h m lm) Φ else wp Ln xs 177 12 [.ref 72, .int x1, .int x2] [] (u, ml_h m lm) Φ := (wp_same xd177_2 (Or.inr rfl) rfl).trans ((wp_same xd177_3 (Or.inr rfl) rfl).trans ((wm_getr xd177_4 rfl (show ml_L[72]? = _ from rfl) rfl (Nat.le_of_ble_eq_true rfl)).trans ((wp_same (S' := [.int (nI 0), .ref 73, .int x2]) xd177_7 (Or.inr rfl) rfl).trans ((wm_iald (k := 0) xd177_8 ml_ia_73 (by decide) (Nat.le_of_ble_eq_true rfl)).trans (wx_icmp xd177_9 rfl rfl ((m 73 0) ≤ x2) mb_ge)))))
theorem x177_12 {x1 : Int32} {x2 : Int32} : wp Ln xs 177 12 [.ref 72, .int x1, .int x2] [] (u, ml_h m lm) Φ = wp Ln xs 159 0 [.ref 72, .int (x2 + (nI 1)), mj_hole, mj_hole] [] (u, ml_h m lm) (mk Ln xs 177 16 [.ref 72, .int x1, .int x2] [] Φ) := (wp_same xd177_12 (Or.inr rfl) rfl).trans ((wp_same xd177_13 (Or.inr rfl) rfl).trans ((wp_same (S' := [.int (nI 1), .int x2, .ref 72]) xd177_14 (Or.inr rfl) rfl).trans ((wp_same xd177_15 (Or.inr rfl) rfl).trans (wm_cv (As := [.int (x2 + (nI 1))]) (rest := []) xd177_16 rfl rfl (show ml_L[72]? = _ from rfl) (Nat.le_of_ble_eq_true rfl) (Nat.le_of_ble_eq_true rfl) (Nat.le_of_ble_eq_true rfl) (Nat.le_of_ble_eq_true rfl)))))
theorem x177_19 {x1 : Int32} {x2 : Int32} {xs0 : Int32} : wp Ln xs 177 19 [.ref 72, .int x1, .int x2] [.int xs0] (u, ml_h m lm) Φ = if x1 < xs0 then wp Ln xs 177 29 [.ref 72, .int x1, .int x2] [] (u, ml_h m lm) Φ else wp Ln xs 177 23 [.ref 72, .int x1, .int x2] [] (u, ml_h m lm) Φ := (wp_same xd177_19 (Or.inr rfl) rfl).trans (wx_icmp xd177_20 rfl rfl (x1 < xs0) mb_gt)
theorem x177_23 {x1 : Int32} {x2 : Int32} : wp Ln xs 177 23 [.ref 72, .int x1, .int x2] [] (u, ml_h m lm) Φ = wp Ln xs 177 2 [.ref 72, .int x1, .int (x2 + nI 1)] [] (u, ml_h m lm) Φ := (wp_same (L' := [.ref 72, .int x1, .int (x2 + nI 1)]) xd177_23 (Or.inr rfl) rfl).trans (wx_goto xd177_26 rfl)
theorem x177_29 {x1 : Int32} {x2 : Int32} : wp Ln xs 177 29 [.ref 72, .int x1, .int x2] [] (u, ml_h m lm) Φ = Φ (.inl (some (.int x2))) (u, ml_h m lm) := (wp_same xd177_29 (Or.inr rfl) rfl).trans (wp_fin (v := some (.int x2)) xd177_30 (Or.inr rfl) rfl (mj_fin_i rfl))
/- PickedFormsModel.anew -/
theorem xd178_0 : decode (mj_b 178) 0 = .ok (.aload_n 0, 1) := by decide +kernel
theorem xd178_1 : decode (mj_b 178) 1 = .ok (.aload_n 0, 1) := by decide +kernel
theorem xd178_2 : decode (mj_b 178) 2 = .ok (.iload_n 1, 1) := by decide +kernel
theorem xd178_3 : decode (mj_b 178) 3 = .ok (.invokevirtual 126, 3) := by decide +kernel
theorem xd178_6 : decode (mj_b 178) 6 = .ok (.ifCond .eq 7, 3) := by decide +kernel
theorem xd178_9 : decode (mj_b 178) 9 = .ok (.iconst 0, 1) := by decide +kernel
theorem xd178_10 : decode (mj_b 178) 10 = .ok (.goto 4, 3) := by decide +kernel
theorem xd178_13 : decode (mj_b 178) 13 = .ok (.iconst 1, 1) := by decide +kernel
theorem xd178_14 : decode (mj_b 178) 14 = .ok (.invokevirtual 114, 3) := by decide +kernel
theorem xd178_17 : decode (mj_b 178) 17 = .ok (.ifCond .ne 5, 3) := by decide +kernel
theorem xd178_20 : decode (mj_b 178) 20 = .ok (.iconst 0, 1) := by decide +kernel
theorem xd178_21 : decode (mj_b 178) 21 = .ok (.ireturn, 1) := by decide +kernel
theorem xd178_22 : decode (mj_b 178) 22 = .ok (.aload_n 0, 1) := by decide +kernel
theorem xd178_23 : decode (mj_b 178) 23 = .ok (.invokevirtual 117, 3) := by decide +kernel
theorem xd178_26 : decode (mj_b 178) 26 = .ok (.aload_n 0, 1) := by decide +kernel
theorem xd178_27 : decode (mj_b 178) 27 = .ok (.getfield 7, 3) := by decide +kernel
theorem xd178_30 : decode (mj_b 178) 30 = .ok (.bipush 31, 2) := by decide +kernel
theorem xd178_32 : decode (mj_b 178) 32 = .ok (.iload_n 1, 1) := by decide +kernel
theorem xd178_33 : decode (mj_b 178) 33 = .ok (.iadd, 1) := by decide +kernel
theorem xd178_34 : decode (mj_b 178) 34 = .ok (.iaload, 1) := by decide +kernel
theorem xd178_35 : decode (mj_b 178) 35 = .ok (.istore_n 2, 1) := by decide +kernel
theorem xd178_36 : decode (mj_b 178) 36 = .ok (.aload_n 0, 1) := by decide +kernel
theorem xd178_37 : decode (mj_b 178) 37 = .ok (.iload_n 1, 1) := by decide +kernel
theorem xd178_38 : decode (mj_b 178) 38 = .ok (.invokevirtual 92, 3) := by decide +kernel
theorem xd178_41 : decode (mj_b 178) 41 = .ok (.iload_n 2, 1) := by decide +kernel
theorem xd178_42 : decode (mj_b 178) 42 = .ok (.aload_n 0, 1) := by decide +kernel
theorem xd178_43 : decode (mj_b 178) 43 = .ok (.getfield 7, 3) := by decide +kernel
theorem xd178_46 : decode (mj_b 178) 46 = .ok (.bipush 31, 2) := by decide +kernel
theorem xd178_48 : decode (mj_b 178) 48 = .ok (.iload_n 1, 1) := by decide +kernel
theorem xd178_49 : decode (mj_b 178) 49 = .ok (.iadd, 1) := by decide +kernel
theorem xd178_50 : decode (mj_b 178) 50 = .ok (.iaload, 1) := by decide +kernel
theorem xd178_51 : decode (mj_b 178) 51 = .ok (.isub, 1) := by decide +kernel
theorem xd178_52 : decode (mj_b 178) 52 = .ok (.ireturn, 1) := by decide +kernel
theorem x178_0 {x1 : Int32} : wp Ln xs 178 0 [.ref 72, .int x1, mj_hole] [] (u, ml_h m lm) Φ = wp Ln xs 179 0 [.ref 72, .int x1] [] (u, ml_h m lm) (mk Ln xs 178 3 [.ref 72, .int x1, mj_hole] [.ref 72] Φ) := (wp_same xd178_0 (Or.inr rfl) rfl).trans ((wp_same xd178_1 (Or.inr rfl) rfl).trans ((wp_same xd178_2 (Or.inr rfl) rfl).trans (wm_cv (As := [.int x1]) (rest := [.ref 72]) xd178_3 rfl rfl (show ml_L[72]? = _ from rfl) (Nat.le_of_ble_eq_true rfl) (Nat.le_of_ble_eq_true rfl) (Nat.le_of_ble_eq_true rfl) (Nat.le_of_ble_eq_true rfl))))
theorem x178_6 {x1 : Int32} {xs0 : Int32} : wp Ln xs 178 6 [.ref 72, .int x1, mj_hole] [.int xs0, .ref 72] (u, ml_h m lm) Φ = if xs0 = (nI 0) then wp Ln xs 178 13 [.ref 72, .int x1, mj_hole] [.ref 72] (u, ml_h m lm) Φ else wp Ln xs 178 9 [.ref 72, .int x1, mj_hole] [.ref 72] (u, ml_h m lm) Φ := wx_if xd178_6 rfl rfl (xs0 = (nI 0)) mb_eq
theorem x178_9 {x1 : Int32} : wp Ln xs 178 9 [.ref 72, .int x1, mj_hole] [.ref 72] (u, ml_h m lm) Φ = wp Ln xs 178 14 [.ref 72, .int x1, mj_hole] [.int (nI 0), .ref 72] (u, ml_h m lm) Φ := (wp_same (S' := [.int (nI 0), .ref 72]) xd178_9 (Or.inr rfl) rfl).trans (wx_goto xd178_10 rfl)
theorem x178_13 {x1 : Int32} : wp Ln xs 178 13 [.ref 72, .int x1, mj_hole] [.ref 72] (u, ml_h m lm) Φ = wp Ln xs 178 14 [.ref 72, .int x1, mj_hole] [.int (nI 1), .ref 72] (u, ml_h m lm) Φ := wp_same (S' := [.int (nI 1), .ref 72]) xd178_13 (Or.inr rfl) rfl
theorem x178_14 {x1 : Int32} {xs0 : Int32} : wp Ln xs 178 14 [.ref 72, .int x1, mj_hole] [.int xs0, .ref 72] (u, ml_h m lm) Φ = wp Ln xs 154 0 [.ref 72, .int xs0] [] (u, ml_h m lm) (mk Ln xs 178 14 [.ref 72, .int x1, mj_hole] [] Φ) := wm_cv (As := [.int xs0]) (rest := []) xd178_14 rfl rfl (show ml_L[72]? = _ from rfl) (Nat.le_of_ble_eq_true rfl) (Nat.le_of_ble_eq_true rfl) (Nat.le_of_ble_eq_true rfl) (Nat.le_of_ble_eq_true rfl)
theorem x178_17 {x1 : Int32} {xs0 : Int32} : wp Ln xs 178 17 [.ref 72, .int x1, mj_hole] [.int xs0] (u, ml_h m lm) Φ = if ¬ xs0 = (nI 0) then wp Ln xs 178 22 [.ref 72, .int x1, mj_hole] [] (u, ml_h m lm) Φ else wp Ln xs 178 20 [.ref 72, .int x1, mj_hole] [] (u, ml_h m lm) Φ := wx_if xd178_17 rfl rfl (¬ xs0 = (nI 0)) mb_ne
theorem x178_20 {x1 : Int32} : wp Ln xs 178 20 [.ref 72, .int x1, mj_hole] [] (u, ml_h m lm) Φ = Φ (.inl (some (.int (nI 0)))) (u, ml_h m lm) := (wp_same (S' := [.int (nI 0)]) xd178_20 (Or.inr rfl) rfl).trans (wp_fin (v := some (.int (nI 0))) xd178_21 (Or.inr rfl) rfl (mj_fin_i rfl))
theorem x178_22 {x1 : Int32} : wp Ln xs 178 22 [.ref 72, .int x1, mj_hole] [] (u, ml_h m lm) Φ = wp Ln xs 155 0 [.ref 72, mj_hole] [] (u, ml_h m lm) (mk Ln xs 178 23 [.ref 72, .int x1, mj_hole] [] Φ) := (wp_same xd178_22 (Or.inr rfl) rfl).trans (wm_cv (As := []) (rest := []) xd178_23 rfl rfl (show ml_L[72]? = _ from rfl) (Nat.le_of_ble_eq_true rfl) (Nat.le_of_ble_eq_true rfl) (Nat.le_of_ble_eq_true rfl) (Nat.le_of_ble_eq_true rfl))
theorem x178_26 {x1 : Int32} : wp Ln xs 178 26 [.ref 72, .int x1, mj_hole] [] (u, ml_h m lm) Φ = wp Ln xs 178 34 [.ref 72, .int x1, mj_hole] [.int ((nI 31) + x1), .ref 73] (u, ml_h m lm) Φ := (wp_same xd178_26 (Or.inr rfl) rfl).trans ((wm_getr xd178_27 rfl (show ml_L[72]? = _ from rfl) rfl (Nat.le_of_ble_eq_true rfl)).trans ((wp_same (S' := [.int (nI 31), .ref 73]) xd178_30 (Or.inr rfl) rfl).trans ((wp_same xd178_32 (Or.inr rfl) rfl).trans (wp_same xd178_33 (Or.inr rfl) rfl))))
theorem x178_34 {x1 : Int32} {k : Nat} (hk : k < 251) : wp Ln xs 178 34 [.ref 72, .int x1, mj_hole] [.int (nI k), .ref 73] (u, ml_h m lm) Φ = wp Ln xs 161 0 [.ref 72, .int x1] [] (u, ml_h m lm) (mk Ln xs 178 38 [.ref 72, .int x1, .int (m 73 k)] [] Φ) := (wm_iald (k := k) xd178_34 ml_ia_73 (by decide) hk).trans ((wp_same (L' := [.ref 72, .int x1, .int (m 73 k)]) xd178_35 (Or.inr rfl) rfl).trans ((wp_same xd178_36 (Or.inr rfl) rfl).trans ((wp_same xd178_37 (Or.inr rfl) rfl).trans (wm_cv (As := [.int x1]) (rest := []) xd178_38 rfl rfl (show ml_L[72]? = _ from rfl) (Nat.le_of_ble_eq_true rfl) (Nat.le_of_ble_eq_true rfl) (Nat.le_of_ble_eq_true rfl) (Nat.le_of_ble_eq_true rfl)))))
theorem x178_41 {x1 : Int32} {x2 : Int32} : wp Ln xs 178 41 [.ref 72, .int x1, .int x2] [] (u, ml_h m lm) Φ = wp Ln xs 178 50 [.ref 72, .int x1, .int x2] [.int ((nI 31) + x1), .ref 73, .int x2] (u, ml_h m lm) Φ := (wp_same xd178_41 (Or.inr rfl) rfl).trans ((wp_same xd178_42 (Or.inr rfl) rfl).trans ((wm_getr xd178_43 rfl (show ml_L[72]? = _ from rfl) rfl (Nat.le_of_ble_eq_true rfl)).trans ((wp_same (S' := [.int (nI 31), .ref 73, .int x2]) xd178_46 (Or.inr rfl) rfl).trans ((wp_same xd178_48 (Or.inr rfl) rfl).trans (wp_same xd178_49 (Or.inr rfl) rfl)))))
theorem x178_50 {x1 : Int32} {x2 : Int32} {k : Nat} {xs2 : Int32} (hk : k < 251) : wp Ln xs 178 50 [.ref 72, .int x1, .int x2] [.int (nI k), .ref 73, .int xs2] (u, ml_h m lm) Φ = Φ (.inl (some (.int (xs2 - (m 73 k))))) (u, ml_h m lm) := (wm_iald (k := k) xd178_50 ml_ia_73 (by decide) hk).trans ((wp_same xd178_51 (Or.inr rfl) rfl).trans (wp_fin (v := some (.int (xs2 - (m 73 k)))) xd178_52 (Or.inr rfl) rfl (mj_fin_i rfl)))
/- PickedFormsModel.isBlock -/
theorem xd179_0 : decode (mj_b 179) 0 = .ok (.iload_n 1, 1) := by decide +kernel
theorem xd179_1 : decode (mj_b 179) 1 = .ok (.iconst 0, 1) := by decide +kernel
theorem xd179_2 : decode (mj_b 179) 2 = .ok (.aload_n 0, 1) := by decide +kernel
theorem xd179_3 : decode (mj_b 179) 3 = .ok (.getfield 7, 3) := by decide +kernel
theorem xd179_6 : decode (mj_b 179) 6 = .ok (.iconst 0, 1) := by decide +kernel
theorem xd179_7 : decode (mj_b 179) 7 = .ok (.iaload, 1) := by decide +kernel
theorem xd179_8 : decode (mj_b 179) 8 = .ok (.iconst 1, 1) := by decide +kernel
theorem xd179_9 : decode (mj_b 179) 9 = .ok (.isub, 1) := by decide +kernel
theorem xd179_10 : decode (mj_b 179) 10 = .ok (.invokestatic 38, 3) := by decide +kernel
theorem xd179_13 : decode (mj_b 179) 13 = .ok (.ireturn, 1) := by decide +kernel
theorem x179_0 {x1 : Int32} : wp Ln xs 179 0 [.ref 72, .int x1] [] (u, ml_h m lm) Φ = wp Ln xs 152 0 [.int x1, .int (nI 0), .int ((m 73 0) - (nI 1))] [] (u, ml_h m lm) (mk Ln xs 179 10 [.ref 72, .int x1] [] Φ) := (wp_same xd179_0 (Or.inr rfl) rfl).trans ((wp_same (S' := [.int (nI 0), .int x1]) xd179_1 (Or.inr rfl) rfl).trans ((wp_same xd179_2 (Or.inr rfl) rfl).trans ((wm_getr xd179_3 rfl (show ml_L[72]? = _ from rfl) rfl (Nat.le_of_ble_eq_true rfl)).trans ((wp_same (S' := [.int (nI 0), .ref 73, .int (nI 0), .int x1]) xd179_6 (Or.inr rfl) rfl).trans ((wm_iald (k := 0) xd179_7 ml_ia_73 (by decide) (Nat.le_of_ble_eq_true rfl)).trans ((wp_same (S' := [.int (nI 1), .int (m 73 0), .int (nI 0), .int x1]) xd179_8 (Or.inr rfl) rfl).trans ((wp_same xd179_9 (Or.inr rfl) rfl).trans (wm_cs (As := [.int x1, .int (nI 0), .int ((m 73 0) - (nI 1))]) (rest := []) xd179_10 rfl rfl (Nat.le_of_ble_eq_true rfl) (Nat.le_of_ble_eq_true rfl) (Nat.le_of_ble_eq_true rfl) (Nat.le_of_ble_eq_true rfl)))))))))
theorem x179_13 {x1 : Int32} {xs0 : Int32} (hz : mj_fin 179 [.int xs0] .ireturn = some (some (.int xs0))) : wp Ln xs 179 13 [.ref 72, .int x1] [.int xs0] (u, ml_h m lm) Φ = Φ (.inl (some (.int xs0))) (u, ml_h m lm) := wp_fin xd179_13 (Or.inr rfl) rfl hz
/- PickedFormsModel.join -/
theorem xd180_0 : decode (mj_b 180) 0 = .ok (.iload_n 1, 1) := by decide +kernel
theorem xd180_1 : decode (mj_b 180) 1 = .ok (.iconst 0, 1) := by decide +kernel
theorem xd180_2 : decode (mj_b 180) 2 = .ok (.aload_n 0, 1) := by decide +kernel
theorem xd180_3 : decode (mj_b 180) 3 = .ok (.getfield 7, 3) := by decide +kernel
theorem xd180_6 : decode (mj_b 180) 6 = .ok (.iconst 0, 1) := by decide +kernel
theorem xd180_7 : decode (mj_b 180) 7 = .ok (.iaload, 1) := by decide +kernel
theorem xd180_8 : decode (mj_b 180) 8 = .ok (.iconst 2, 1) := by decide +kernel
theorem xd180_9 : decode (mj_b 180) 9 = .ok (.isub, 1) := by decide +kernel
theorem xd180_10 : decode (mj_b 180) 10 = .ok (.invokestatic 38, 3) := by decide +kernel
theorem xd180_13 : decode (mj_b 180) 13 = .ok (.istore_n 2, 1) := by decide +kernel
theorem xd180_14 : decode (mj_b 180) 14 = .ok (.aload_n 0, 1) := by decide +kernel
theorem xd180_15 : decode (mj_b 180) 15 = .ok (.iload_n 2, 1) := by decide +kernel
theorem xd180_16 : decode (mj_b 180) 16 = .ok (.ifCond .ne 7, 3) := by decide +kernel
theorem xd180_19 : decode (mj_b 180) 19 = .ok (.iconst 1, 1) := by decide +kernel
theorem xd180_20 : decode (mj_b 180) 20 = .ok (.goto 34, 3) := by decide +kernel
theorem xd180_23 : decode (mj_b 180) 23 = .ok (.aload_n 0, 1) := by decide +kernel
theorem xd180_24 : decode (mj_b 180) 24 = .ok (.getfield 7, 3) := by decide +kernel
theorem xd180_27 : decode (mj_b 180) 27 = .ok (.bipush 7, 2) := by decide +kernel
theorem xd180_29 : decode (mj_b 180) 29 = .ok (.iload_n 1, 1) := by decide +kernel
theorem xd180_30 : decode (mj_b 180) 30 = .ok (.iadd, 1) := by decide +kernel
theorem xd180_31 : decode (mj_b 180) 31 = .ok (.iaload, 1) := by decide +kernel
theorem xd180_32 : decode (mj_b 180) 32 = .ok (.aload_n 0, 1) := by decide +kernel
theorem xd180_33 : decode (mj_b 180) 33 = .ok (.getfield 7, 3) := by decide +kernel
theorem xd180_36 : decode (mj_b 180) 36 = .ok (.bipush 7, 2) := by decide +kernel
theorem xd180_38 : decode (mj_b 180) 38 = .ok (.iload_n 1, 1) := by decide +kernel
theorem xd180_39 : decode (mj_b 180) 39 = .ok (.iadd, 1) := by decide +kernel
theorem xd180_40 : decode (mj_b 180) 40 = .ok (.iconst 1, 1) := by decide +kernel
theorem xd180_41 : decode (mj_b 180) 41 = .ok (.iadd, 1) := by decide +kernel
theorem xd180_42 : decode (mj_b 180) 42 = .ok (.iaload, 1) := by decide +kernel
theorem xd180_43 : decode (mj_b 180) 43 = .ok (.iadd, 1) := by decide +kernel
theorem xd180_44 : decode (mj_b 180) 44 = .ok (.bipush 16, 2) := by decide +kernel
theorem xd180_46 : decode (mj_b 180) 46 = .ok (.if_icmp .le 7, 3) := by decide +kernel
theorem xd180_49 : decode (mj_b 180) 49 = .ok (.iconst 2, 1) := by decide +kernel
theorem xd180_50 : decode (mj_b 180) 50 = .ok (.goto 4, 3) := by decide +kernel
theorem xd180_53 : decode (mj_b 180) 53 = .ok (.iconst 0, 1) := by decide +kernel
theorem xd180_54 : decode (mj_b 180) 54 = .ok (.invokevirtual 114, 3) := by decide +kernel
theorem xd180_57 : decode (mj_b 180) 57 = .ok (.ifCond .ne 5, 3) := by decide +kernel
theorem xd180_60 : decode (mj_b 180) 60 = .ok (.iconst 0, 1) := by decide +kernel
theorem xd180_61 : decode (mj_b 180) 61 = .ok (.ireturn, 1) := by decide +kernel
theorem xd180_62 : decode (mj_b 180) 62 = .ok (.aload_n 0, 1) := by decide +kernel
theorem xd180_63 : decode (mj_b 180) 63 = .ok (.invokevirtual 117, 3) := by decide +kernel
theorem xd180_66 : decode (mj_b 180) 66 = .ok (.aload_n 0, 1) := by decide +kernel
theorem xd180_67 : decode (mj_b 180) 67 = .ok (.getfield 7, 3) := by decide +kernel
theorem xd180_70 : decode (mj_b 180) 70 = .ok (.bipush 7, 2) := by decide +kernel
theorem xd180_72 : decode (mj_b 180) 72 = .ok (.iload_n 1, 1) := by decide +kernel
theorem xd180_73 : decode (mj_b 180) 73 = .ok (.iadd, 1) := by decide +kernel
theorem xd180_74 : decode (mj_b 180) 74 = .ok (.iconst 1, 1) := by decide +kernel
theorem xd180_75 : decode (mj_b 180) 75 = .ok (.iadd, 1) := by decide +kernel
theorem xd180_76 : decode (mj_b 180) 76 = .ok (.dup2, 1) := by decide +kernel
theorem xd180_77 : decode (mj_b 180) 77 = .ok (.iaload, 1) := by decide +kernel
theorem xd180_78 : decode (mj_b 180) 78 = .ok (.aload_n 0, 1) := by decide +kernel
theorem xd180_79 : decode (mj_b 180) 79 = .ok (.getfield 7, 3) := by decide +kernel
theorem xd180_82 : decode (mj_b 180) 82 = .ok (.bipush 7, 2) := by decide +kernel
theorem xd180_84 : decode (mj_b 180) 84 = .ok (.iload_n 1, 1) := by decide +kernel
theorem xd180_85 : decode (mj_b 180) 85 = .ok (.iadd, 1) := by decide +kernel
theorem xd180_86 : decode (mj_b 180) 86 = .ok (.iaload, 1) := by decide +kernel
theorem xd180_87 : decode (mj_b 180) 87 = .ok (.iadd, 1) := by decide +kernel
theorem xd180_88 : decode (mj_b 180) 88 = .ok (.iastore, 1) := by decide +kernel
theorem xd180_89 : decode (mj_b 180) 89 = .ok (.aload_n 0, 1) := by decide +kernel
theorem xd180_90 : decode (mj_b 180) 90 = .ok (.iload_n 1, 1) := by decide +kernel
theorem xd180_91 : decode (mj_b 180) 91 = .ok (.invokevirtual 129, 3) := by decide +kernel
theorem xd180_94 : decode (mj_b 180) 94 = .ok (.aload_n 0, 1) := by decide +kernel
theorem xd180_95 : decode (mj_b 180) 95 = .ok (.iload_n 1, 1) := by decide +kernel
theorem xd180_96 : decode (mj_b 180) 96 = .ok (.invokevirtual 92, 3) := by decide +kernel
theorem xd180_99 : decode (mj_b 180) 99 = .ok (.aload_n 0, 1) := by decide +kernel
theorem xd180_100 : decode (mj_b 180) 100 = .ok (.getfield 7, 3) := by decide +kernel
theorem xd180_103 : decode (mj_b 180) 103 = .ok (.bipush 19, 2) := by decide +kernel
theorem xd180_105 : decode (mj_b 180) 105 = .ok (.iload_n 1, 1) := by decide +kernel
theorem xd180_106 : decode (mj_b 180) 106 = .ok (.iadd, 1) := by decide +kernel
theorem xd180_107 : decode (mj_b 180) 107 = .ok (.iaload, 1) := by decide +kernel
theorem xd180_108 : decode (mj_b 180) 108 = .ok (.ireturn, 1) := by decide +kernel
theorem x180_0 {x1 : Int32} : wp Ln xs 180 0 [.ref 72, .int x1, mj_hole] [] (u, ml_h m lm) Φ = wp Ln xs 152 0 [.int x1, .int (nI 0), .int ((m 73 0) - (nI 2))] [] (u, ml_h m lm) (mk Ln xs 180 10 [.ref 72, .int x1, mj_hole] [] Φ) := (wp_same xd180_0 (Or.inr rfl) rfl).trans ((wp_same (S' := [.int (nI 0), .int x1]) xd180_1 (Or.inr rfl) rfl).trans ((wp_same xd180_2 (Or.inr rfl) rfl).trans ((wm_getr xd180_3 rfl (show ml_L[72]? = _ from rfl) rfl (Nat.le_of_ble_eq_true rfl)).trans ((wp_same (S' := [.int (nI 0), .ref 73, .int (nI 0), .int x1]) xd180_6 (Or.inr rfl) rfl).trans ((wm_iald (k := 0) xd180_7 ml_ia_73 (by decide) (Nat.le_of_ble_eq_true rfl)).trans ((wp_same (S' := [.int (nI 2), .int (m 73 0), .int (nI 0), .int x1]) xd180_8 (Or.inr rfl) rfl).trans ((wp_same xd180_9 (Or.inr rfl) rfl).trans (wm_cs (As := [.int x1, .int (nI 0), .int ((m 73 0) - (nI 2))]) (rest := []) xd180_10 rfl rfl (Nat.le_of_ble_eq_true rfl) (Nat.le_of_ble_eq_true rfl) (Nat.le_of_ble_eq_true rfl) (Nat.le_of_ble_eq_true rfl)))))))))
theorem x180_13 {x1 : Int32} {xs0 : Int32} : wp Ln xs 180 13 [.ref 72, .int x1, mj_hole] [.int xs0] (u, ml_h m lm) Φ = if ¬ xs0 = (nI 0) then wp Ln xs 180 23 [.ref 72, .int x1, .int xs0] [.ref 72] (u, ml_h m lm) Φ else wp Ln xs 180 19 [.ref 72, .int x1, .int xs0] [.ref 72] (u, ml_h m lm) Φ := (wp_same (L' := [.ref 72, .int x1, .int xs0]) xd180_13 (Or.inr rfl) rfl).trans ((wp_same xd180_14 (Or.inr rfl) rfl).trans ((wp_same xd180_15 (Or.inr rfl) rfl).trans (wx_if xd180_16 rfl rfl (¬ xs0 = (nI 0)) mb_ne)))
theorem x180_19 {x1 : Int32} {x2 : Int32} : wp Ln xs 180 19 [.ref 72, .int x1, .int x2] [.ref 72] (u, ml_h m lm) Φ = wp Ln xs 180 54 [.ref 72, .int x1, .int x2] [.int (nI 1), .ref 72] (u, ml_h m lm) Φ := (wp_same (S' := [.int (nI 1), .ref 72]) xd180_19 (Or.inr rfl) rfl).trans (wx_goto xd180_20 rfl)
theorem x180_23 {x1 : Int32} {x2 : Int32} : wp Ln xs 180 23 [.ref 72, .int x1, .int x2] [.ref 72] (u, ml_h m lm) Φ = wp Ln xs 180 31 [.ref 72, .int x1, .int x2] [.int ((nI 7) + x1), .ref 73, .ref 72] (u, ml_h m lm) Φ := (wp_same xd180_23 (Or.inr rfl) rfl).trans ((wm_getr xd180_24 rfl (show ml_L[72]? = _ from rfl) rfl (Nat.le_of_ble_eq_true rfl)).trans ((wp_same (S' := [.int (nI 7), .ref 73, .ref 72]) xd180_27 (Or.inr rfl) rfl).trans ((wp_same xd180_29 (Or.inr rfl) rfl).trans (wp_same xd180_30 (Or.inr rfl) rfl))))
theorem x180_31 {x1 : Int32} {x2 : Int32} {k : Nat} (hk : k < 251) : wp Ln xs 180 31 [.ref 72, .int x1, .int x2] [.int (nI k), .ref 73, .ref 72] (u, ml_h m lm) Φ = wp Ln xs 180 42 [.ref 72, .int x1, .int x2] [.int (((nI 7) + x1) + (nI 1)), .ref 73, .int (m 73 k), .ref 72] (u, ml_h m lm) Φ := (wm_iald (k := k) xd180_31 ml_ia_73 (by decide) hk).trans ((wp_same xd180_32 (Or.inr rfl) rfl).trans ((wm_getr xd180_33 rfl (show ml_L[72]? = _ from rfl) rfl (Nat.le_of_ble_eq_true rfl)).trans ((wp_same (S' := [.int (nI 7), .ref 73, .int (m 73 k), .ref 72]) xd180_36 (Or.inr rfl) rfl).trans ((wp_same xd180_38 (Or.inr rfl) rfl).trans ((wp_same xd180_39 (Or.inr rfl) rfl).trans ((wp_same (S' := [.int (nI 1), .int ((nI 7) + x1), .ref 73, .int (m 73 k), .ref 72]) xd180_40 (Or.inr rfl) rfl).trans (wp_same xd180_41 (Or.inr rfl) rfl)))))))
theorem x180_42 {x1 : Int32} {x2 : Int32} {k : Nat} {xs2 : Int32} (hk : k < 251) : wp Ln xs 180 42 [.ref 72, .int x1, .int x2] [.int (nI k), .ref 73, .int xs2, .ref 72] (u, ml_h m lm) Φ = if (xs2 + (m 73 k)) ≤ (nI 16) then wp Ln xs 180 53 [.ref 72, .int x1, .int x2] [.ref 72] (u, ml_h m lm) Φ else wp Ln xs 180 49 [.ref 72, .int x1, .int x2] [.ref 72] (u, ml_h m lm) Φ := (wm_iald (k := k) xd180_42 ml_ia_73 (by decide) hk).trans ((wp_same xd180_43 (Or.inr rfl) rfl).trans ((wp_same (S' := [.int (nI 16), .int (xs2 + (m 73 k)), .ref 72]) xd180_44 (Or.inr rfl) rfl).trans (wx_icmp xd180_46 rfl rfl ((xs2 + (m 73 k)) ≤ (nI 16)) mb_le)))
theorem x180_49 {x1 : Int32} {x2 : Int32} : wp Ln xs 180 49 [.ref 72, .int x1, .int x2] [.ref 72] (u, ml_h m lm) Φ = wp Ln xs 180 54 [.ref 72, .int x1, .int x2] [.int (nI 2), .ref 72] (u, ml_h m lm) Φ := (wp_same (S' := [.int (nI 2), .ref 72]) xd180_49 (Or.inr rfl) rfl).trans (wx_goto xd180_50 rfl)
theorem x180_53 {x1 : Int32} {x2 : Int32} : wp Ln xs 180 53 [.ref 72, .int x1, .int x2] [.ref 72] (u, ml_h m lm) Φ = wp Ln xs 180 54 [.ref 72, .int x1, .int x2] [.int (nI 0), .ref 72] (u, ml_h m lm) Φ := wp_same (S' := [.int (nI 0), .ref 72]) xd180_53 (Or.inr rfl) rfl
theorem x180_54 {x1 : Int32} {x2 : Int32} {xs0 : Int32} : wp Ln xs 180 54 [.ref 72, .int x1, .int x2] [.int xs0, .ref 72] (u, ml_h m lm) Φ = wp Ln xs 154 0 [.ref 72, .int xs0] [] (u, ml_h m lm) (mk Ln xs 180 54 [.ref 72, .int x1, .int x2] [] Φ) := wm_cv (As := [.int xs0]) (rest := []) xd180_54 rfl rfl (show ml_L[72]? = _ from rfl) (Nat.le_of_ble_eq_true rfl) (Nat.le_of_ble_eq_true rfl) (Nat.le_of_ble_eq_true rfl) (Nat.le_of_ble_eq_true rfl)
theorem x180_57 {x1 : Int32} {x2 : Int32} {xs0 : Int32} : wp Ln xs 180 57 [.ref 72, .int x1, .int x2] [.int xs0] (u, ml_h m lm) Φ = if ¬ xs0 = (nI 0) then wp Ln xs 180 62 [.ref 72, .int x1, .int x2] [] (u, ml_h m lm) Φ else wp Ln xs 180 60 [.ref 72, .int x1, .int x2] [] (u, ml_h m lm) Φ := wx_if xd180_57 rfl rfl (¬ xs0 = (nI 0)) mb_ne
theorem x180_60 {x1 : Int32} {x2 : Int32} : wp Ln xs 180 60 [.ref 72, .int x1, .int x2] [] (u, ml_h m lm) Φ = Φ (.inl (some (.int (nI 0)))) (u, ml_h m lm) := (wp_same (S' := [.int (nI 0)]) xd180_60 (Or.inr rfl) rfl).trans (wp_fin (v := some (.int (nI 0))) xd180_61 (Or.inr rfl) rfl (mj_fin_i rfl))
theorem x180_62 {x1 : Int32} {x2 : Int32} : wp Ln xs 180 62 [.ref 72, .int x1, .int x2] [] (u, ml_h m lm) Φ = wp Ln xs 155 0 [.ref 72, mj_hole] [] (u, ml_h m lm) (mk Ln xs 180 63 [.ref 72, .int x1, .int x2] [] Φ) := (wp_same xd180_62 (Or.inr rfl) rfl).trans (wm_cv (As := []) (rest := []) xd180_63 rfl rfl (show ml_L[72]? = _ from rfl) (Nat.le_of_ble_eq_true rfl) (Nat.le_of_ble_eq_true rfl) (Nat.le_of_ble_eq_true rfl) (Nat.le_of_ble_eq_true rfl))
theorem x180_66 {x1 : Int32} {x2 : Int32} : wp Ln xs 180 66 [.ref 72, .int x1, .int x2] [] (u, ml_h m lm) Φ = wp Ln xs 180 77 [.ref 72, .int x1, .int x2] [.int (((nI 7) + x1) + (nI 1)), .ref 73, .int (((nI 7) + x1) + (nI 1)), .ref 73] (u, ml_h m lm) Φ := (wp_same xd180_66 (Or.inr rfl) rfl).trans ((wm_getr xd180_67 rfl (show ml_L[72]? = _ from rfl) rfl (Nat.le_of_ble_eq_true rfl)).trans ((wp_same (S' := [.int (nI 7), .ref 73]) xd180_70 (Or.inr rfl) rfl).trans ((wp_same xd180_72 (Or.inr rfl) rfl).trans ((wp_same xd180_73 (Or.inr rfl) rfl).trans ((wp_same (S' := [.int (nI 1), .int ((nI 7) + x1), .ref 73]) xd180_74 (Or.inr rfl) rfl).trans ((wp_same xd180_75 (Or.inr rfl) rfl).trans (wp_same xd180_76 (Or.inr rfl) rfl)))))))
theorem x180_77 {x1 : Int32} {x2 : Int32} {k : Nat} {xs2 : Int32} (hk : k < 251) : wp Ln xs 180 77 [.ref 72, .int x1, .int x2] [.int (nI k), .ref 73, .int xs2, .ref 73] (u, ml_h m lm) Φ = wp Ln xs 180 86 [.ref 72, .int x1, .int x2] [.int ((nI 7) + x1), .ref 73, .int (m 73 k), .int xs2, .ref 73] (u, ml_h m lm) Φ := (wm_iald (k := k) xd180_77 ml_ia_73 (by decide) hk).trans ((wp_same xd180_78 (Or.inr rfl) rfl).trans ((wm_getr xd180_79 rfl (show ml_L[72]? = _ from rfl) rfl (Nat.le_of_ble_eq_true rfl)).trans ((wp_same (S' := [.int (nI 7), .ref 73, .int (m 73 k), .int xs2, .ref 73]) xd180_82 (Or.inr rfl) rfl).trans ((wp_same xd180_84 (Or.inr rfl) rfl).trans (wp_same xd180_85 (Or.inr rfl) rfl)))))
theorem x180_86 {x1 : Int32} {x2 : Int32} {k : Nat} {xs2 : Int32} {xs3 : Int32} (hk : k < 251) : wp Ln xs 180 86 [.ref 72, .int x1, .int x2] [.int (nI k), .ref 73, .int xs2, .int xs3, .ref 73] (u, ml_h m lm) Φ = wp Ln xs 180 88 [.ref 72, .int x1, .int x2] [.int (xs2 + (m 73 k)), .int xs3, .ref 73] (u, ml_h m lm) Φ := (wm_iald (k := k) xd180_86 ml_ia_73 (by decide) hk).trans (wp_same xd180_87 (Or.inr rfl) rfl)
theorem x180_88 {x1 : Int32} {x2 : Int32} {xs0 : Int32} {k : Nat} (hk : k < 251) : wp Ln xs 180 88 [.ref 72, .int x1, .int x2] [.int xs0, .int (nI k), .ref 73] (u, ml_h m lm) Φ = wp Ln xs 181 0 [.ref 72, .int x1, mj_hole] [] (u, ml_h (ml_s m 73 k xs0) lm) (mk Ln xs 180 91 [.ref 72, .int x1, .int x2] [] Φ) := (wm_iast (k := k) xd180_88 ml_ia_73 hk).trans ((wp_same xd180_89 (Or.inr rfl) rfl).trans ((wp_same xd180_90 (Or.inr rfl) rfl).trans (wm_cv (As := [.int x1]) (rest := []) xd180_91 rfl rfl (show ml_L[72]? = _ from rfl) (Nat.le_of_ble_eq_true rfl) (Nat.le_of_ble_eq_true rfl) (Nat.le_of_ble_eq_true rfl) (Nat.le_of_ble_eq_true rfl))))
theorem x180_94 {x1 : Int32} {x2 : Int32} : wp Ln xs 180 94 [.ref 72, .int x1, .int x2] [] (u, ml_h m lm) Φ = wp Ln xs 161 0 [.ref 72, .int x1] [] (u, ml_h m lm) (mk Ln xs 180 96 [.ref 72, .int x1, .int x2] [] Φ) := (wp_same xd180_94 (Or.inr rfl) rfl).trans ((wp_same xd180_95 (Or.inr rfl) rfl).trans (wm_cv (As := [.int x1]) (rest := []) xd180_96 rfl rfl (show ml_L[72]? = _ from rfl) (Nat.le_of_ble_eq_true rfl) (Nat.le_of_ble_eq_true rfl) (Nat.le_of_ble_eq_true rfl) (Nat.le_of_ble_eq_true rfl)))
theorem x180_99 {x1 : Int32} {x2 : Int32} : wp Ln xs 180 99 [.ref 72, .int x1, .int x2] [] (u, ml_h m lm) Φ = wp Ln xs 180 107 [.ref 72, .int x1, .int x2] [.int ((nI 19) + x1), .ref 73] (u, ml_h m lm) Φ := (wp_same xd180_99 (Or.inr rfl) rfl).trans ((wm_getr xd180_100 rfl (show ml_L[72]? = _ from rfl) rfl (Nat.le_of_ble_eq_true rfl)).trans ((wp_same (S' := [.int (nI 19), .ref 73]) xd180_103 (Or.inr rfl) rfl).trans ((wp_same xd180_105 (Or.inr rfl) rfl).trans (wp_same xd180_106 (Or.inr rfl) rfl))))
theorem x180_107 {x1 : Int32} {x2 : Int32} {k : Nat} (hk : k < 251) : wp Ln xs 180 107 [.ref 72, .int x1, .int x2] [.int (nI k), .ref 73] (u, ml_h m lm) Φ = Φ (.inl (some (.int (m 73 k)))) (u, ml_h m lm) := (wm_iald (k := k) xd180_107 ml_ia_73 (by decide) hk).trans (wp_fin (v := some (.int (m 73 k))) xd180_108 (Or.inr rfl) rfl (mj_fin_i rfl))
/- PickedFormsModel.takeOut -/
theorem xd181_0 : decode (mj_b 181) 0 = .ok (.aload_n 0, 1) := by decide +kernel
theorem xd181_1 : decode (mj_b 181) 1 = .ok (.getfield 7, 3) := by decide +kernel
theorem xd181_4 : decode (mj_b 181) 4 = .ok (.iconst 0, 1) := by decide +kernel
theorem xd181_5 : decode (mj_b 181) 5 = .ok (.dup2, 1) := by decide +kernel
theorem xd181_6 : decode (mj_b 181) 6 = .ok (.iaload, 1) := by decide +kernel
theorem xd181_7 : decode (mj_b 181) 7 = .ok (.iconst 1, 1) := by decide +kernel
theorem xd181_8 : decode (mj_b 181) 8 = .ok (.isub, 1) := by decide +kernel
theorem xd181_9 : decode (mj_b 181) 9 = .ok (.iastore, 1) := by decide +kernel
theorem xd181_10 : decode (mj_b 181) 10 = .ok (.iload_n 1, 1) := by decide +kernel
theorem xd181_11 : decode (mj_b 181) 11 = .ok (.istore_n 2, 1) := by decide +kernel
theorem xd181_12 : decode (mj_b 181) 12 = .ok (.iload_n 2, 1) := by decide +kernel
theorem xd181_13 : decode (mj_b 181) 13 = .ok (.aload_n 0, 1) := by decide +kernel
theorem xd181_14 : decode (mj_b 181) 14 = .ok (.getfield 7, 3) := by decide +kernel
theorem xd181_17 : decode (mj_b 181) 17 = .ok (.iconst 0, 1) := by decide +kernel
theorem xd181_18 : decode (mj_b 181) 18 = .ok (.iaload, 1) := by decide +kernel
theorem xd181_19 : decode (mj_b 181) 19 = .ok (.if_icmp .ge 69, 3) := by decide +kernel
theorem xd181_22 : decode (mj_b 181) 22 = .ok (.aload_n 0, 1) := by decide +kernel
theorem xd181_23 : decode (mj_b 181) 23 = .ok (.getfield 7, 3) := by decide +kernel
theorem xd181_26 : decode (mj_b 181) 26 = .ok (.bipush 7, 2) := by decide +kernel
theorem xd181_28 : decode (mj_b 181) 28 = .ok (.iload_n 2, 1) := by decide +kernel
theorem xd181_29 : decode (mj_b 181) 29 = .ok (.iadd, 1) := by decide +kernel
theorem xd181_30 : decode (mj_b 181) 30 = .ok (.aload_n 0, 1) := by decide +kernel
theorem xd181_31 : decode (mj_b 181) 31 = .ok (.getfield 7, 3) := by decide +kernel
theorem xd181_34 : decode (mj_b 181) 34 = .ok (.bipush 7, 2) := by decide +kernel
theorem xd181_36 : decode (mj_b 181) 36 = .ok (.iload_n 2, 1) := by decide +kernel
theorem xd181_37 : decode (mj_b 181) 37 = .ok (.iadd, 1) := by decide +kernel
theorem xd181_38 : decode (mj_b 181) 38 = .ok (.iconst 1, 1) := by decide +kernel
theorem xd181_39 : decode (mj_b 181) 39 = .ok (.iadd, 1) := by decide +kernel
theorem xd181_40 : decode (mj_b 181) 40 = .ok (.iaload, 1) := by decide +kernel
theorem xd181_41 : decode (mj_b 181) 41 = .ok (.iastore, 1) := by decide +kernel
theorem xd181_42 : decode (mj_b 181) 42 = .ok (.aload_n 0, 1) := by decide +kernel
theorem xd181_43 : decode (mj_b 181) 43 = .ok (.getfield 7, 3) := by decide +kernel
theorem xd181_46 : decode (mj_b 181) 46 = .ok (.bipush 19, 2) := by decide +kernel
theorem xd181_48 : decode (mj_b 181) 48 = .ok (.iload_n 2, 1) := by decide +kernel
theorem xd181_49 : decode (mj_b 181) 49 = .ok (.iadd, 1) := by decide +kernel
theorem xd181_50 : decode (mj_b 181) 50 = .ok (.aload_n 0, 1) := by decide +kernel
theorem xd181_51 : decode (mj_b 181) 51 = .ok (.getfield 7, 3) := by decide +kernel
theorem xd181_54 : decode (mj_b 181) 54 = .ok (.bipush 19, 2) := by decide +kernel
theorem xd181_56 : decode (mj_b 181) 56 = .ok (.iload_n 2, 1) := by decide +kernel
theorem xd181_57 : decode (mj_b 181) 57 = .ok (.iadd, 1) := by decide +kernel
theorem xd181_58 : decode (mj_b 181) 58 = .ok (.iconst 1, 1) := by decide +kernel
theorem xd181_59 : decode (mj_b 181) 59 = .ok (.iadd, 1) := by decide +kernel
theorem xd181_60 : decode (mj_b 181) 60 = .ok (.iaload, 1) := by decide +kernel
theorem xd181_61 : decode (mj_b 181) 61 = .ok (.iastore, 1) := by decide +kernel
theorem xd181_62 : decode (mj_b 181) 62 = .ok (.aload_n 0, 1) := by decide +kernel
theorem xd181_63 : decode (mj_b 181) 63 = .ok (.getfield 7, 3) := by decide +kernel
theorem xd181_66 : decode (mj_b 181) 66 = .ok (.bipush 31, 2) := by decide +kernel
theorem xd181_68 : decode (mj_b 181) 68 = .ok (.iload_n 2, 1) := by decide +kernel
theorem xd181_69 : decode (mj_b 181) 69 = .ok (.iadd, 1) := by decide +kernel
theorem xd181_70 : decode (mj_b 181) 70 = .ok (.aload_n 0, 1) := by decide +kernel
theorem xd181_71 : decode (mj_b 181) 71 = .ok (.getfield 7, 3) := by decide +kernel
theorem xd181_74 : decode (mj_b 181) 74 = .ok (.bipush 31, 2) := by decide +kernel
theorem xd181_76 : decode (mj_b 181) 76 = .ok (.iload_n 2, 1) := by decide +kernel
theorem xd181_77 : decode (mj_b 181) 77 = .ok (.iadd, 1) := by decide +kernel
theorem xd181_78 : decode (mj_b 181) 78 = .ok (.iconst 1, 1) := by decide +kernel
theorem xd181_79 : decode (mj_b 181) 79 = .ok (.iadd, 1) := by decide +kernel
theorem xd181_80 : decode (mj_b 181) 80 = .ok (.iaload, 1) := by decide +kernel
theorem xd181_81 : decode (mj_b 181) 81 = .ok (.iastore, 1) := by decide +kernel
theorem xd181_82 : decode (mj_b 181) 82 = .ok (.iinc 2 1, 3) := by decide +kernel
theorem xd181_85 : decode (mj_b 181) 85 = .ok (.goto (-73), 3) := by decide +kernel
theorem xd181_88 : decode (mj_b 181) 88 = .ok (.return_, 1) := by decide +kernel
theorem x181_0 {x1 : Int32} : wp Ln xs 181 0 [.ref 72, .int x1, mj_hole] [] (u, ml_h m lm) Φ = wp Ln xs 181 12 [.ref 72, .int x1, .int x1] [] (u, ml_h (ml_s m 73 0 ((m 73 0) - (nI 1))) lm) Φ := (wp_same xd181_0 (Or.inr rfl) rfl).trans ((wm_getr xd181_1 rfl (show ml_L[72]? = _ from rfl) rfl (Nat.le_of_ble_eq_true rfl)).trans ((wp_same (S' := [.int (nI 0), .ref 73]) xd181_4 (Or.inr rfl) rfl).trans ((wp_same xd181_5 (Or.inr rfl) rfl).trans ((wm_iald (k := 0) xd181_6 ml_ia_73 (by decide) (Nat.le_of_ble_eq_true rfl)).trans ((wp_same (S' := [.int (nI 1), .int (m 73 0), .int (nI 0), .ref 73]) xd181_7 (Or.inr rfl) rfl).trans ((wp_same xd181_8 (Or.inr rfl) rfl).trans ((wm_iast (k := 0) xd181_9 ml_ia_73 (Nat.le_of_ble_eq_true rfl)).trans ((wp_same xd181_10 (Or.inr rfl) rfl).trans (wp_same (L' := [.ref 72, .int x1, .int x1]) xd181_11 (Or.inr rfl) rfl)))))))))
theorem x181_12 {x1 : Int32} {x2 : Int32} : wp Ln xs 181 12 [.ref 72, .int x1, .int x2] [] (u, ml_h m lm) Φ = if (m 73 0) ≤ x2 then wp Ln xs 181 88 [.ref 72, .int x1, .int x2] [] (u, ml_h m lm) Φ else wp Ln xs 181 22 [.ref 72, .int x1, .int x2] [] (u, ml_h m lm) Φ := (wp_same xd181_12 (Or.inr rfl) rfl).trans ((wp_same xd181_13 (Or.inr rfl) rfl).trans ((wm_getr xd181_14 rfl (show ml_L[72]? = _ from rfl) rfl (Nat.le_of_ble_eq_true rfl)).trans ((wp_same (S' := [.int (nI 0), .ref 73, .int x2]) xd181_17 (Or.inr rfl) rfl).trans ((wm_iald (k := 0) xd181_18 ml_ia_73 (by decide) (Nat.le_of_ble_eq_true rfl)).trans (wx_icmp xd181_19 rfl rfl ((m 73 0) ≤ x2) mb_ge)))))
theorem x181_22 {x1 : Int32} {x2 : Int32} : wp Ln xs 181 22 [.ref 72, .int x1, .int x2] [] (u, ml_h m lm) Φ = wp Ln xs 181 40 [.ref 72, .int x1, .int x2] [.int (((nI 7) + x2) + (nI 1)), .ref 73, .int ((nI 7) + x2), .ref 73] (u, ml_h m lm) Φ := (wp_same xd181_22 (Or.inr rfl) rfl).trans ((wm_getr xd181_23 rfl (show ml_L[72]? = _ from rfl) rfl (Nat.le_of_ble_eq_true rfl)).trans ((wp_same (S' := [.int (nI 7), .ref 73]) xd181_26 (Or.inr rfl) rfl).trans ((wp_same xd181_28 (Or.inr rfl) rfl).trans ((wp_same xd181_29 (Or.inr rfl) rfl).trans ((wp_same xd181_30 (Or.inr rfl) rfl).trans ((wm_getr xd181_31 rfl (show ml_L[72]? = _ from rfl) rfl (Nat.le_of_ble_eq_true rfl)).trans ((wp_same (S' := [.int (nI 7), .ref 73, .int ((nI 7) + x2), .ref 73]) xd181_34 (Or.inr rfl) rfl).trans ((wp_same xd181_36 (Or.inr rfl) rfl).trans ((wp_same xd181_37 (Or.inr rfl) rfl).trans ((wp_same (S' := [.int (nI 1), .int ((nI 7) + x2), .ref 73, .int ((nI 7) + x2), .ref 73]) xd181_38 (Or.inr rfl) rfl).trans (wp_same xd181_39 (Or.inr rfl) rfl)))))))))))
theorem x181_40 {x1 : Int32} {x2 : Int32} {k : Nat} {xs2 : Int32} (hk : k < 251) : wp Ln xs 181 40 [.ref 72, .int x1, .int x2] [.int (nI k), .ref 73, .int xs2, .ref 73] (u, ml_h m lm) Φ = wp Ln xs 181 41 [.ref 72, .int x1, .int x2] [.int (m 73 k), .int xs2, .ref 73] (u, ml_h m lm) Φ := wm_iald (k := k) xd181_40 ml_ia_73 (by decide) hk
theorem x181_41 {x1 : Int32} {x2 : Int32} {xs0 : Int32} {k : Nat} (hk : k < 251) : wp Ln xs 181 41 [.ref 72, .int x1, .int x2] [.int xs0, .int (nI k), .ref 73] (u, ml_h m lm) Φ = wp Ln xs 181 60 [.ref 72, .int x1, .int x2] [.int (((nI 19) + x2) + (nI 1)), .ref 73, .int ((nI 19) + x2), .ref 73] (u, ml_h (ml_s m 73 k xs0) lm) Φ := (wm_iast (k := k) xd181_41 ml_ia_73 hk).trans ((wp_same xd181_42 (Or.inr rfl) rfl).trans ((wm_getr xd181_43 rfl (show ml_L[72]? = _ from rfl) rfl (Nat.le_of_ble_eq_true rfl)).trans ((wp_same (S' := [.int (nI 19), .ref 73]) xd181_46 (Or.inr rfl) rfl).trans ((wp_same xd181_48 (Or.inr rfl) rfl).trans ((wp_same xd181_49 (Or.inr rfl) rfl).trans ((wp_same xd181_50 (Or.inr rfl) rfl).trans ((wm_getr xd181_51 rfl (show ml_L[72]? = _ from rfl) rfl (Nat.le_of_ble_eq_true rfl)).trans ((wp_same (S' := [.int (nI 19), .ref 73, .int ((nI 19) + x2), .ref 73]) xd181_54 (Or.inr rfl) rfl).trans ((wp_same xd181_56 (Or.inr rfl) rfl).trans ((wp_same xd181_57 (Or.inr rfl) rfl).trans ((wp_same (S' := [.int (nI 1), .int ((nI 19) + x2), .ref 73, .int ((nI 19) + x2), .ref 73]) xd181_58 (Or.inr rfl) rfl).trans (wp_same xd181_59 (Or.inr rfl) rfl))))))))))))
theorem x181_60 {x1 : Int32} {x2 : Int32} {k : Nat} {xs2 : Int32} (hk : k < 251) : wp Ln xs 181 60 [.ref 72, .int x1, .int x2] [.int (nI k), .ref 73, .int xs2, .ref 73] (u, ml_h m lm) Φ = wp Ln xs 181 61 [.ref 72, .int x1, .int x2] [.int (m 73 k), .int xs2, .ref 73] (u, ml_h m lm) Φ := wm_iald (k := k) xd181_60 ml_ia_73 (by decide) hk
theorem x181_61 {x1 : Int32} {x2 : Int32} {xs0 : Int32} {k : Nat} (hk : k < 251) : wp Ln xs 181 61 [.ref 72, .int x1, .int x2] [.int xs0, .int (nI k), .ref 73] (u, ml_h m lm) Φ = wp Ln xs 181 80 [.ref 72, .int x1, .int x2] [.int (((nI 31) + x2) + (nI 1)), .ref 73, .int ((nI 31) + x2), .ref 73] (u, ml_h (ml_s m 73 k xs0) lm) Φ := (wm_iast (k := k) xd181_61 ml_ia_73 hk).trans ((wp_same xd181_62 (Or.inr rfl) rfl).trans ((wm_getr xd181_63 rfl (show ml_L[72]? = _ from rfl) rfl (Nat.le_of_ble_eq_true rfl)).trans ((wp_same (S' := [.int (nI 31), .ref 73]) xd181_66 (Or.inr rfl) rfl).trans ((wp_same xd181_68 (Or.inr rfl) rfl).trans ((wp_same xd181_69 (Or.inr rfl) rfl).trans ((wp_same xd181_70 (Or.inr rfl) rfl).trans ((wm_getr xd181_71 rfl (show ml_L[72]? = _ from rfl) rfl (Nat.le_of_ble_eq_true rfl)).trans ((wp_same (S' := [.int (nI 31), .ref 73, .int ((nI 31) + x2), .ref 73]) xd181_74 (Or.inr rfl) rfl).trans ((wp_same xd181_76 (Or.inr rfl) rfl).trans ((wp_same xd181_77 (Or.inr rfl) rfl).trans ((wp_same (S' := [.int (nI 1), .int ((nI 31) + x2), .ref 73, .int ((nI 31) + x2), .ref 73]) xd181_78 (Or.inr rfl) rfl).trans (wp_same xd181_79 (Or.inr rfl) rfl))))))))))))
theorem x181_80 {x1 : Int32} {x2 : Int32} {k : Nat} {xs2 : Int32} (hk : k < 251) : wp Ln xs 181 80 [.ref 72, .int x1, .int x2] [.int (nI k), .ref 73, .int xs2, .ref 73] (u, ml_h m lm) Φ = wp Ln xs 181 81 [.ref 72, .int x1, .int x2] [.int (m 73 k), .int xs2, .ref 73] (u, ml_h m lm) Φ := wm_iald (k := k) xd181_80 ml_ia_73 (by decide) hk
theorem x181_81 {x1 : Int32} {x2 : Int32} {xs0 : Int32} {k : Nat} (hk : k < 251) : wp Ln xs 181 81 [.ref 72, .int x1, .int x2] [.int xs0, .int (nI k), .ref 73] (u, ml_h m lm) Φ = wp Ln xs 181 12 [.ref 72, .int x1, .int (x2 + nI 1)] [] (u, ml_h (ml_s m 73 k xs0) lm) Φ := (wm_iast (k := k) xd181_81 ml_ia_73 hk).trans ((wp_same (L' := [.ref 72, .int x1, .int (x2 + nI 1)]) xd181_82 (Or.inr rfl) rfl).trans (wx_goto xd181_85 rfl))
theorem x181_88 {x1 : Int32} {x2 : Int32} : wp Ln xs 181 88 [.ref 72, .int x1, .int x2] [] (u, ml_h m lm) Φ = Φ (.inl none) (u, ml_h m lm) := wp_fin (v := none) xd181_88 (Or.inr rfl) rfl rfl
/- PickedFormsModel.split -/
theorem xd182_0 : decode (mj_b 182) 0 = .ok (.aload_n 0, 1) := by decide +kernel
theorem xd182_1 : decode (mj_b 182) 1 = .ok (.iload_n 1, 1) := by decide +kernel
theorem xd182_2 : decode (mj_b 182) 2 = .ok (.invokevirtual 126, 3) := by decide +kernel
theorem xd182_5 : decode (mj_b 182) 5 = .ok (.ifCond .eq 26, 3) := by decide +kernel
theorem xd182_8 : decode (mj_b 182) 8 = .ok (.iload_n 2, 1) := by decide +kernel
theorem xd182_9 : decode (mj_b 182) 9 = .ok (.iconst 1, 1) := by decide +kernel
theorem xd182_10 : decode (mj_b 182) 10 = .ok (.aload_n 0, 1) := by decide +kernel
theorem xd182_11 : decode (mj_b 182) 11 = .ok (.getfield 7, 3) := by decide +kernel
theorem xd182_14 : decode (mj_b 182) 14 = .ok (.bipush 7, 2) := by decide +kernel
theorem xd182_16 : decode (mj_b 182) 16 = .ok (.iload_n 1, 1) := by decide +kernel
theorem xd182_17 : decode (mj_b 182) 17 = .ok (.iadd, 1) := by decide +kernel
theorem xd182_18 : decode (mj_b 182) 18 = .ok (.iaload, 1) := by decide +kernel
theorem xd182_19 : decode (mj_b 182) 19 = .ok (.iconst 1, 1) := by decide +kernel
theorem xd182_20 : decode (mj_b 182) 20 = .ok (.isub, 1) := by decide +kernel
theorem xd182_21 : decode (mj_b 182) 21 = .ok (.invokestatic 38, 3) := by decide +kernel
theorem xd182_24 : decode (mj_b 182) 24 = .ok (.ifCond .eq 7, 3) := by decide +kernel
theorem xd182_27 : decode (mj_b 182) 27 = .ok (.iconst 1, 1) := by decide +kernel
theorem xd182_28 : decode (mj_b 182) 28 = .ok (.goto 4, 3) := by decide +kernel
theorem xd182_31 : decode (mj_b 182) 31 = .ok (.iconst 0, 1) := by decide +kernel
theorem xd182_32 : decode (mj_b 182) 32 = .ok (.istore_n 3, 1) := by decide +kernel
theorem xd182_33 : decode (mj_b 182) 33 = .ok (.aload_n 0, 1) := by decide +kernel
theorem xd182_34 : decode (mj_b 182) 34 = .ok (.iload_n 3, 1) := by decide +kernel
theorem xd182_35 : decode (mj_b 182) 35 = .ok (.ifCond .ne 7, 3) := by decide +kernel
theorem xd182_38 : decode (mj_b 182) 38 = .ok (.iconst 1, 1) := by decide +kernel
theorem xd182_39 : decode (mj_b 182) 39 = .ok (.goto 19, 3) := by decide +kernel
theorem xd182_42 : decode (mj_b 182) 42 = .ok (.aload_n 0, 1) := by decide +kernel
theorem xd182_43 : decode (mj_b 182) 43 = .ok (.getfield 7, 3) := by decide +kernel
theorem xd182_46 : decode (mj_b 182) 46 = .ok (.iconst 0, 1) := by decide +kernel
theorem xd182_47 : decode (mj_b 182) 47 = .ok (.iaload, 1) := by decide +kernel
theorem xd182_48 : decode (mj_b 182) 48 = .ok (.bipush 12, 2) := by decide +kernel
theorem xd182_50 : decode (mj_b 182) 50 = .ok (.if_icmp .ne 7, 3) := by decide +kernel
theorem xd182_53 : decode (mj_b 182) 53 = .ok (.iconst 2, 1) := by decide +kernel
theorem xd182_54 : decode (mj_b 182) 54 = .ok (.goto 4, 3) := by decide +kernel
theorem xd182_57 : decode (mj_b 182) 57 = .ok (.iconst 0, 1) := by decide +kernel
theorem xd182_58 : decode (mj_b 182) 58 = .ok (.invokevirtual 114, 3) := by decide +kernel
theorem xd182_61 : decode (mj_b 182) 61 = .ok (.ifCond .ne 5, 3) := by decide +kernel
theorem xd182_64 : decode (mj_b 182) 64 = .ok (.iconst 0, 1) := by decide +kernel
theorem xd182_65 : decode (mj_b 182) 65 = .ok (.ireturn, 1) := by decide +kernel
theorem xd182_66 : decode (mj_b 182) 66 = .ok (.aload_n 0, 1) := by decide +kernel
theorem xd182_67 : decode (mj_b 182) 67 = .ok (.invokevirtual 117, 3) := by decide +kernel
theorem xd182_70 : decode (mj_b 182) 70 = .ok (.aload_n 0, 1) := by decide +kernel
theorem xd182_71 : decode (mj_b 182) 71 = .ok (.iload_n 1, 1) := by decide +kernel
theorem xd182_72 : decode (mj_b 182) 72 = .ok (.iload_n 2, 1) := by decide +kernel
theorem xd182_73 : decode (mj_b 182) 73 = .ok (.invokevirtual 135, 3) := by decide +kernel
theorem xd182_76 : decode (mj_b 182) 76 = .ok (.istore 4, 2) := by decide +kernel
theorem xd182_78 : decode (mj_b 182) 78 = .ok (.aload_n 0, 1) := by decide +kernel
theorem xd182_79 : decode (mj_b 182) 79 = .ok (.iload_n 1, 1) := by decide +kernel
theorem xd182_80 : decode (mj_b 182) 80 = .ok (.invokevirtual 138, 3) := by decide +kernel
theorem xd182_83 : decode (mj_b 182) 83 = .ok (.aload_n 0, 1) := by decide +kernel
theorem xd182_84 : decode (mj_b 182) 84 = .ok (.getfield 7, 3) := by decide +kernel
theorem xd182_87 : decode (mj_b 182) 87 = .ok (.bipush 7, 2) := by decide +kernel
theorem xd182_89 : decode (mj_b 182) 89 = .ok (.iload_n 1, 1) := by decide +kernel
theorem xd182_90 : decode (mj_b 182) 90 = .ok (.iadd, 1) := by decide +kernel
theorem xd182_91 : decode (mj_b 182) 91 = .ok (.iload_n 2, 1) := by decide +kernel
theorem xd182_92 : decode (mj_b 182) 92 = .ok (.iastore, 1) := by decide +kernel
theorem xd182_93 : decode (mj_b 182) 93 = .ok (.aload_n 0, 1) := by decide +kernel
theorem xd182_94 : decode (mj_b 182) 94 = .ok (.getfield 7, 3) := by decide +kernel
theorem xd182_97 : decode (mj_b 182) 97 = .ok (.bipush 7, 2) := by decide +kernel
theorem xd182_99 : decode (mj_b 182) 99 = .ok (.iload_n 1, 1) := by decide +kernel
theorem xd182_100 : decode (mj_b 182) 100 = .ok (.iadd, 1) := by decide +kernel
theorem xd182_101 : decode (mj_b 182) 101 = .ok (.iconst 1, 1) := by decide +kernel
theorem xd182_102 : decode (mj_b 182) 102 = .ok (.iadd, 1) := by decide +kernel
theorem xd182_103 : decode (mj_b 182) 103 = .ok (.dup2, 1) := by decide +kernel
theorem xd182_104 : decode (mj_b 182) 104 = .ok (.iaload, 1) := by decide +kernel
theorem xd182_105 : decode (mj_b 182) 105 = .ok (.iload_n 2, 1) := by decide +kernel
theorem xd182_106 : decode (mj_b 182) 106 = .ok (.isub, 1) := by decide +kernel
theorem xd182_107 : decode (mj_b 182) 107 = .ok (.iastore, 1) := by decide +kernel
theorem xd182_108 : decode (mj_b 182) 108 = .ok (.aload_n 0, 1) := by decide +kernel
theorem xd182_109 : decode (mj_b 182) 109 = .ok (.iload_n 1, 1) := by decide +kernel
theorem xd182_110 : decode (mj_b 182) 110 = .ok (.invokevirtual 92, 3) := by decide +kernel
theorem xd182_113 : decode (mj_b 182) 113 = .ok (.aload_n 0, 1) := by decide +kernel
theorem xd182_114 : decode (mj_b 182) 114 = .ok (.iload_n 1, 1) := by decide +kernel
theorem xd182_115 : decode (mj_b 182) 115 = .ok (.iconst 1, 1) := by decide +kernel
theorem xd182_116 : decode (mj_b 182) 116 = .ok (.iadd, 1) := by decide +kernel
theorem xd182_117 : decode (mj_b 182) 117 = .ok (.invokevirtual 92, 3) := by decide +kernel
theorem xd182_120 : decode (mj_b 182) 120 = .ok (.iload 4, 2) := by decide +kernel
theorem xd182_122 : decode (mj_b 182) 122 = .ok (.ireturn, 1) := by decide +kernel
theorem x182_0 {x1 : Int32} {x2 : Int32} : wp Ln xs 182 0 [.ref 72, .int x1, .int x2, mj_hole, mj_hole] [] (u, ml_h m lm) Φ = wp Ln xs 179 0 [.ref 72, .int x1] [] (u, ml_h m lm) (mk Ln xs 182 2 [.ref 72, .int x1, .int x2, mj_hole, mj_hole] [] Φ) := (wp_same xd182_0 (Or.inr rfl) rfl).trans ((wp_same xd182_1 (Or.inr rfl) rfl).trans (wm_cv (As := [.int x1]) (rest := []) xd182_2 rfl rfl (show ml_L[72]? = _ from rfl) (Nat.le_of_ble_eq_true rfl) (Nat.le_of_ble_eq_true rfl) (Nat.le_of_ble_eq_true rfl) (Nat.le_of_ble_eq_true rfl)))
theorem x182_5 {x1 : Int32} {x2 : Int32} {xs0 : Int32} : wp Ln xs 182 5 [.ref 72, .int x1, .int x2, mj_hole, mj_hole] [.int xs0] (u, ml_h m lm) Φ = if xs0 = (nI 0) then wp Ln xs 182 31 [.ref 72, .int x1, .int x2, mj_hole, mj_hole] [] (u, ml_h m lm) Φ else wp Ln xs 182 8 [.ref 72, .int x1, .int x2, mj_hole, mj_hole] [] (u, ml_h m lm) Φ := wx_if xd182_5 rfl rfl (xs0 = (nI 0)) mb_eq
theorem x182_8 {x1 : Int32} {x2 : Int32} : wp Ln xs 182 8 [.ref 72, .int x1, .int x2, mj_hole, mj_hole] [] (u, ml_h m lm) Φ = wp Ln xs 182 18 [.ref 72, .int x1, .int x2, mj_hole, mj_hole] [.int ((nI 7) + x1), .ref 73, .int (nI 1), .int x2] (u, ml_h m lm) Φ := (wp_same xd182_8 (Or.inr rfl) rfl).trans ((wp_same (S' := [.int (nI 1), .int x2]) xd182_9 (Or.inr rfl) rfl).trans ((wp_same xd182_10 (Or.inr rfl) rfl).trans ((wm_getr xd182_11 rfl (show ml_L[72]? = _ from rfl) rfl (Nat.le_of_ble_eq_true rfl)).trans ((wp_same (S' := [.int (nI 7), .ref 73, .int (nI 1), .int x2]) xd182_14 (Or.inr rfl) rfl).trans ((wp_same xd182_16 (Or.inr rfl) rfl).trans (wp_same xd182_17 (Or.inr rfl) rfl))))))
theorem x182_18 {x1 : Int32} {x2 : Int32} {k : Nat} {xs2 : Int32} {xs3 : Int32} (hk : k < 251) : wp Ln xs 182 18 [.ref 72, .int x1, .int x2, mj_hole, mj_hole] [.int (nI k), .ref 73, .int xs2, .int xs3] (u, ml_h m lm) Φ = wp Ln xs 152 0 [.int xs3, .int xs2, .int ((m 73 k) - (nI 1))] [] (u, ml_h m lm) (mk Ln xs 182 21 [.ref 72, .int x1, .int x2, mj_hole, mj_hole] [] Φ) := (wm_iald (k := k) xd182_18 ml_ia_73 (by decide) hk).trans ((wp_same (S' := [.int (nI 1), .int (m 73 k), .int xs2, .int xs3]) xd182_19 (Or.inr rfl) rfl).trans ((wp_same xd182_20 (Or.inr rfl) rfl).trans (wm_cs (As := [.int xs3, .int xs2, .int ((m 73 k) - (nI 1))]) (rest := []) xd182_21 rfl rfl (Nat.le_of_ble_eq_true rfl) (Nat.le_of_ble_eq_true rfl) (Nat.le_of_ble_eq_true rfl) (Nat.le_of_ble_eq_true rfl))))
theorem x182_24 {x1 : Int32} {x2 : Int32} {xs0 : Int32} : wp Ln xs 182 24 [.ref 72, .int x1, .int x2, mj_hole, mj_hole] [.int xs0] (u, ml_h m lm) Φ = if xs0 = (nI 0) then wp Ln xs 182 31 [.ref 72, .int x1, .int x2, mj_hole, mj_hole] [] (u, ml_h m lm) Φ else wp Ln xs 182 27 [.ref 72, .int x1, .int x2, mj_hole, mj_hole] [] (u, ml_h m lm) Φ := wx_if xd182_24 rfl rfl (xs0 = (nI 0)) mb_eq
theorem x182_27 {x1 : Int32} {x2 : Int32} : wp Ln xs 182 27 [.ref 72, .int x1, .int x2, mj_hole, mj_hole] [] (u, ml_h m lm) Φ = wp Ln xs 182 32 [.ref 72, .int x1, .int x2, mj_hole, mj_hole] [.int (nI 1)] (u, ml_h m lm) Φ := (wp_same (S' := [.int (nI 1)]) xd182_27 (Or.inr rfl) rfl).trans (wx_goto xd182_28 rfl)
theorem x182_31 {x1 : Int32} {x2 : Int32} : wp Ln xs 182 31 [.ref 72, .int x1, .int x2, mj_hole, mj_hole] [] (u, ml_h m lm) Φ = wp Ln xs 182 32 [.ref 72, .int x1, .int x2, mj_hole, mj_hole] [.int (nI 0)] (u, ml_h m lm) Φ := wp_same (S' := [.int (nI 0)]) xd182_31 (Or.inr rfl) rfl
theorem x182_32 {x1 : Int32} {x2 : Int32} {xs0 : Int32} : wp Ln xs 182 32 [.ref 72, .int x1, .int x2, mj_hole, mj_hole] [.int xs0] (u, ml_h m lm) Φ = if ¬ xs0 = (nI 0) then wp Ln xs 182 42 [.ref 72, .int x1, .int x2, .int xs0, mj_hole] [.ref 72] (u, ml_h m lm) Φ else wp Ln xs 182 38 [.ref 72, .int x1, .int x2, .int xs0, mj_hole] [.ref 72] (u, ml_h m lm) Φ := (wp_same (L' := [.ref 72, .int x1, .int x2, .int xs0, mj_hole]) xd182_32 (Or.inr rfl) rfl).trans ((wp_same xd182_33 (Or.inr rfl) rfl).trans ((wp_same xd182_34 (Or.inr rfl) rfl).trans (wx_if xd182_35 rfl rfl (¬ xs0 = (nI 0)) mb_ne)))
theorem x182_38 {x1 : Int32} {x2 : Int32} {x3 : Int32} : wp Ln xs 182 38 [.ref 72, .int x1, .int x2, .int x3, mj_hole] [.ref 72] (u, ml_h m lm) Φ = wp Ln xs 182 58 [.ref 72, .int x1, .int x2, .int x3, mj_hole] [.int (nI 1), .ref 72] (u, ml_h m lm) Φ := (wp_same (S' := [.int (nI 1), .ref 72]) xd182_38 (Or.inr rfl) rfl).trans (wx_goto xd182_39 rfl)
theorem x182_42 {x1 : Int32} {x2 : Int32} {x3 : Int32} : wp Ln xs 182 42 [.ref 72, .int x1, .int x2, .int x3, mj_hole] [.ref 72] (u, ml_h m lm) Φ = if ¬ (m 73 0) = (nI 12) then wp Ln xs 182 57 [.ref 72, .int x1, .int x2, .int x3, mj_hole] [.ref 72] (u, ml_h m lm) Φ else wp Ln xs 182 53 [.ref 72, .int x1, .int x2, .int x3, mj_hole] [.ref 72] (u, ml_h m lm) Φ := (wp_same xd182_42 (Or.inr rfl) rfl).trans ((wm_getr xd182_43 rfl (show ml_L[72]? = _ from rfl) rfl (Nat.le_of_ble_eq_true rfl)).trans ((wp_same (S' := [.int (nI 0), .ref 73, .ref 72]) xd182_46 (Or.inr rfl) rfl).trans ((wm_iald (k := 0) xd182_47 ml_ia_73 (by decide) (Nat.le_of_ble_eq_true rfl)).trans ((wp_same (S' := [.int (nI 12), .int (m 73 0), .ref 72]) xd182_48 (Or.inr rfl) rfl).trans (wx_icmp xd182_50 rfl rfl (¬ (m 73 0) = (nI 12)) mb_ne)))))
theorem x182_53 {x1 : Int32} {x2 : Int32} {x3 : Int32} : wp Ln xs 182 53 [.ref 72, .int x1, .int x2, .int x3, mj_hole] [.ref 72] (u, ml_h m lm) Φ = wp Ln xs 182 58 [.ref 72, .int x1, .int x2, .int x3, mj_hole] [.int (nI 2), .ref 72] (u, ml_h m lm) Φ := (wp_same (S' := [.int (nI 2), .ref 72]) xd182_53 (Or.inr rfl) rfl).trans (wx_goto xd182_54 rfl)
theorem x182_57 {x1 : Int32} {x2 : Int32} {x3 : Int32} : wp Ln xs 182 57 [.ref 72, .int x1, .int x2, .int x3, mj_hole] [.ref 72] (u, ml_h m lm) Φ = wp Ln xs 182 58 [.ref 72, .int x1, .int x2, .int x3, mj_hole] [.int (nI 0), .ref 72] (u, ml_h m lm) Φ := wp_same (S' := [.int (nI 0), .ref 72]) xd182_57 (Or.inr rfl) rfl
theorem x182_58 {x1 : Int32} {x2 : Int32} {x3 : Int32} {xs0 : Int32} : wp Ln xs 182 58 [.ref 72, .int x1, .int x2, .int x3, mj_hole] [.int xs0, .ref 72] (u, ml_h m lm) Φ = wp Ln xs 154 0 [.ref 72, .int xs0] [] (u, ml_h m lm) (mk Ln xs 182 58 [.ref 72, .int x1, .int x2, .int x3, mj_hole] [] Φ) := wm_cv (As := [.int xs0]) (rest := []) xd182_58 rfl rfl (show ml_L[72]? = _ from rfl) (Nat.le_of_ble_eq_true rfl) (Nat.le_of_ble_eq_true rfl) (Nat.le_of_ble_eq_true rfl) (Nat.le_of_ble_eq_true rfl)
theorem x182_61 {x1 : Int32} {x2 : Int32} {x3 : Int32} {xs0 : Int32} : wp Ln xs 182 61 [.ref 72, .int x1, .int x2, .int x3, mj_hole] [.int xs0] (u, ml_h m lm) Φ = if ¬ xs0 = (nI 0) then wp Ln xs 182 66 [.ref 72, .int x1, .int x2, .int x3, mj_hole] [] (u, ml_h m lm) Φ else wp Ln xs 182 64 [.ref 72, .int x1, .int x2, .int x3, mj_hole] [] (u, ml_h m lm) Φ := wx_if xd182_61 rfl rfl (¬ xs0 = (nI 0)) mb_ne
theorem x182_64 {x1 : Int32} {x2 : Int32} {x3 : Int32} : wp Ln xs 182 64 [.ref 72, .int x1, .int x2, .int x3, mj_hole] [] (u, ml_h m lm) Φ = Φ (.inl (some (.int (nI 0)))) (u, ml_h m lm) := (wp_same (S' := [.int (nI 0)]) xd182_64 (Or.inr rfl) rfl).trans (wp_fin (v := some (.int (nI 0))) xd182_65 (Or.inr rfl) rfl (mj_fin_i rfl))
theorem x182_66 {x1 : Int32} {x2 : Int32} {x3 : Int32} : wp Ln xs 182 66 [.ref 72, .int x1, .int x2, .int x3, mj_hole] [] (u, ml_h m lm) Φ = wp Ln xs 155 0 [.ref 72, mj_hole] [] (u, ml_h m lm) (mk Ln xs 182 67 [.ref 72, .int x1, .int x2, .int x3, mj_hole] [] Φ) := (wp_same xd182_66 (Or.inr rfl) rfl).trans (wm_cv (As := []) (rest := []) xd182_67 rfl rfl (show ml_L[72]? = _ from rfl) (Nat.le_of_ble_eq_true rfl) (Nat.le_of_ble_eq_true rfl) (Nat.le_of_ble_eq_true rfl) (Nat.le_of_ble_eq_true rfl))
theorem x182_70 {x1 : Int32} {x2 : Int32} {x3 : Int32} : wp Ln xs 182 70 [.ref 72, .int x1, .int x2, .int x3, mj_hole] [] (u, ml_h m lm) Φ = wp Ln xs 183 0 [.ref 72, .int x1, .int x2, mj_hole] [] (u, ml_h m lm) (mk Ln xs 182 73 [.ref 72, .int x1, .int x2, .int x3, mj_hole] [] Φ) := (wp_same xd182_70 (Or.inr rfl) rfl).trans ((wp_same xd182_71 (Or.inr rfl) rfl).trans ((wp_same xd182_72 (Or.inr rfl) rfl).trans (wm_cv (As := [.int x1, .int x2]) (rest := []) xd182_73 rfl rfl (show ml_L[72]? = _ from rfl) (Nat.le_of_ble_eq_true rfl) (Nat.le_of_ble_eq_true rfl) (Nat.le_of_ble_eq_true rfl) (Nat.le_of_ble_eq_true rfl))))
theorem x182_76 {x1 : Int32} {x2 : Int32} {x3 : Int32} {xs0 : Int32} : wp Ln xs 182 76 [.ref 72, .int x1, .int x2, .int x3, mj_hole] [.int xs0] (u, ml_h m lm) Φ = wp Ln xs 185 0 [.ref 72, .int x1, mj_hole] [] (u, ml_h m lm) (mk Ln xs 182 80 [.ref 72, .int x1, .int x2, .int x3, .int xs0] [] Φ) := (wp_same (L' := [.ref 72, .int x1, .int x2, .int x3, .int xs0]) xd182_76 (Or.inr rfl) rfl).trans ((wp_same xd182_78 (Or.inr rfl) rfl).trans ((wp_same xd182_79 (Or.inr rfl) rfl).trans (wm_cv (As := [.int x1]) (rest := []) xd182_80 rfl rfl (show ml_L[72]? = _ from rfl) (Nat.le_of_ble_eq_true rfl) (Nat.le_of_ble_eq_true rfl) (Nat.le_of_ble_eq_true rfl) (Nat.le_of_ble_eq_true rfl))))
theorem x182_83 {x1 : Int32} {x2 : Int32} {x3 : Int32} {x4 : Int32} : wp Ln xs 182 83 [.ref 72, .int x1, .int x2, .int x3, .int x4] [] (u, ml_h m lm) Φ = wp Ln xs 182 92 [.ref 72, .int x1, .int x2, .int x3, .int x4] [.int x2, .int ((nI 7) + x1), .ref 73] (u, ml_h m lm) Φ := (wp_same xd182_83 (Or.inr rfl) rfl).trans ((wm_getr xd182_84 rfl (show ml_L[72]? = _ from rfl) rfl (Nat.le_of_ble_eq_true rfl)).trans ((wp_same (S' := [.int (nI 7), .ref 73]) xd182_87 (Or.inr rfl) rfl).trans ((wp_same xd182_89 (Or.inr rfl) rfl).trans ((wp_same xd182_90 (Or.inr rfl) rfl).trans (wp_same xd182_91 (Or.inr rfl) rfl)))))
theorem x182_92 {x1 : Int32} {x2 : Int32} {x3 : Int32} {x4 : Int32} {xs0 : Int32} {k : Nat} (hk : k < 251) : wp Ln xs 182 92 [.ref 72, .int x1, .int x2, .int x3, .int x4] [.int xs0, .int (nI k), .ref 73] (u, ml_h m lm) Φ = wp Ln xs 182 104 [.ref 72, .int x1, .int x2, .int x3, .int x4] [.int (((nI 7) + x1) + (nI 1)), .ref 73, .int (((nI 7) + x1) + (nI 1)), .ref 73] (u, ml_h (ml_s m 73 k xs0) lm) Φ := (wm_iast (k := k) xd182_92 ml_ia_73 hk).trans ((wp_same xd182_93 (Or.inr rfl) rfl).trans ((wm_getr xd182_94 rfl (show ml_L[72]? = _ from rfl) rfl (Nat.le_of_ble_eq_true rfl)).trans ((wp_same (S' := [.int (nI 7), .ref 73]) xd182_97 (Or.inr rfl) rfl).trans ((wp_same xd182_99 (Or.inr rfl) rfl).trans ((wp_same xd182_100 (Or.inr rfl) rfl).trans ((wp_same (S' := [.int (nI 1), .int ((nI 7) + x1), .ref 73]) xd182_101 (Or.inr rfl) rfl).trans ((wp_same xd182_102 (Or.inr rfl) rfl).trans (wp_same xd182_103 (Or.inr rfl) rfl))))))))
theorem x182_104 {x1 : Int32} {x2 : Int32} {x3 : Int32} {x4 : Int32} {k : Nat} {xs2 : Int32} (hk : k < 251) : wp Ln xs 182 104 [.ref 72, .int x1, .int x2, .int x3, .int x4] [.int (nI k), .ref 73, .int xs2, .ref 73] (u, ml_h m lm) Φ = wp Ln xs 182 107 [.ref 72, .int x1, .int x2, .int x3, .int x4] [.int ((m 73 k) - x2), .int xs2, .ref 73] (u, ml_h m lm) Φ := (wm_iald (k := k) xd182_104 ml_ia_73 (by decide) hk).trans ((wp_same xd182_105 (Or.inr rfl) rfl).trans (wp_same xd182_106 (Or.inr rfl) rfl))
theorem x182_107 {x1 : Int32} {x2 : Int32} {x3 : Int32} {x4 : Int32} {xs0 : Int32} {k : Nat} (hk : k < 251) : wp Ln xs 182 107 [.ref 72, .int x1, .int x2, .int x3, .int x4] [.int xs0, .int (nI k), .ref 73] (u, ml_h m lm) Φ = wp Ln xs 161 0 [.ref 72, .int x1] [] (u, ml_h (ml_s m 73 k xs0) lm) (mk Ln xs 182 110 [.ref 72, .int x1, .int x2, .int x3, .int x4] [] Φ) := (wm_iast (k := k) xd182_107 ml_ia_73 hk).trans ((wp_same xd182_108 (Or.inr rfl) rfl).trans ((wp_same xd182_109 (Or.inr rfl) rfl).trans (wm_cv (As := [.int x1]) (rest := []) xd182_110 rfl rfl (show ml_L[72]? = _ from rfl) (Nat.le_of_ble_eq_true rfl) (Nat.le_of_ble_eq_true rfl) (Nat.le_of_ble_eq_true rfl) (Nat.le_of_ble_eq_true rfl))))
theorem x182_113 {x1 : Int32} {x2 : Int32} {x3 : Int32} {x4 : Int32} : wp Ln xs 182 113 [.ref 72, .int x1, .int x2, .int x3, .int x4] [] (u, ml_h m lm) Φ = wp Ln xs 161 0 [.ref 72, .int (x1 + (nI 1))] [] (u, ml_h m lm) (mk Ln xs 182 117 [.ref 72, .int x1, .int x2, .int x3, .int x4] [] Φ) := (wp_same xd182_113 (Or.inr rfl) rfl).trans ((wp_same xd182_114 (Or.inr rfl) rfl).trans ((wp_same (S' := [.int (nI 1), .int x1, .ref 72]) xd182_115 (Or.inr rfl) rfl).trans ((wp_same xd182_116 (Or.inr rfl) rfl).trans (wm_cv (As := [.int (x1 + (nI 1))]) (rest := []) xd182_117 rfl rfl (show ml_L[72]? = _ from rfl) (Nat.le_of_ble_eq_true rfl) (Nat.le_of_ble_eq_true rfl) (Nat.le_of_ble_eq_true rfl) (Nat.le_of_ble_eq_true rfl)))))
theorem x182_120 {x1 : Int32} {x2 : Int32} {x3 : Int32} {x4 : Int32} : wp Ln xs 182 120 [.ref 72, .int x1, .int x2, .int x3, .int x4] [] (u, ml_h m lm) Φ = Φ (.inl (some (.int x4))) (u, ml_h m lm) := (wp_same xd182_120 (Or.inr rfl) rfl).trans (wp_fin (v := some (.int x4)) xd182_122 (Or.inr rfl) rfl (mj_fin_i rfl))
/- PickedFormsModel.gain -/
theorem xd183_0 : decode (mj_b 183) 0 = .ok (.aload_n 0, 1) := by decide +kernel
theorem xd183_1 : decode (mj_b 183) 1 = .ok (.iload_n 1, 1) := by decide +kernel
theorem xd183_2 : decode (mj_b 183) 2 = .ok (.invokevirtual 49, 3) := by decide +kernel
theorem xd183_5 : decode (mj_b 183) 5 = .ok (.istore_n 3, 1) := by decide +kernel
theorem xd183_6 : decode (mj_b 183) 6 = .ok (.aload_n 0, 1) := by decide +kernel
theorem xd183_7 : decode (mj_b 183) 7 = .ok (.getfield 7, 3) := by decide +kernel
theorem xd183_10 : decode (mj_b 183) 10 = .ok (.bipush 31, 2) := by decide +kernel
theorem xd183_12 : decode (mj_b 183) 12 = .ok (.iload_n 1, 1) := by decide +kernel
theorem xd183_13 : decode (mj_b 183) 13 = .ok (.iadd, 1) := by decide +kernel
theorem xd183_14 : decode (mj_b 183) 14 = .ok (.iaload, 1) := by decide +kernel
theorem xd183_15 : decode (mj_b 183) 15 = .ok (.aload_n 0, 1) := by decide +kernel
theorem xd183_16 : decode (mj_b 183) 16 = .ok (.iload_n 3, 1) := by decide +kernel
theorem xd183_17 : decode (mj_b 183) 17 = .ok (.iload_n 2, 1) := by decide +kernel
theorem xd183_18 : decode (mj_b 183) 18 = .ok (.invokevirtual 132, 3) := by decide +kernel
theorem xd183_21 : decode (mj_b 183) 21 = .ok (.isub, 1) := by decide +kernel
theorem xd183_22 : decode (mj_b 183) 22 = .ok (.aload_n 0, 1) := by decide +kernel
theorem xd183_23 : decode (mj_b 183) 23 = .ok (.iload_n 3, 1) := by decide +kernel
theorem xd183_24 : decode (mj_b 183) 24 = .ok (.iload_n 2, 1) := by decide +kernel
theorem xd183_25 : decode (mj_b 183) 25 = .ok (.iadd, 1) := by decide +kernel
theorem xd183_26 : decode (mj_b 183) 26 = .ok (.aload_n 0, 1) := by decide +kernel
theorem xd183_27 : decode (mj_b 183) 27 = .ok (.getfield 7, 3) := by decide +kernel
theorem xd183_30 : decode (mj_b 183) 30 = .ok (.bipush 7, 2) := by decide +kernel
theorem xd183_32 : decode (mj_b 183) 32 = .ok (.iload_n 1, 1) := by decide +kernel
theorem xd183_33 : decode (mj_b 183) 33 = .ok (.iadd, 1) := by decide +kernel
theorem xd183_34 : decode (mj_b 183) 34 = .ok (.iaload, 1) := by decide +kernel
theorem xd183_35 : decode (mj_b 183) 35 = .ok (.iload_n 2, 1) := by decide +kernel
theorem xd183_36 : decode (mj_b 183) 36 = .ok (.isub, 1) := by decide +kernel
theorem xd183_37 : decode (mj_b 183) 37 = .ok (.invokevirtual 132, 3) := by decide +kernel
theorem xd183_40 : decode (mj_b 183) 40 = .ok (.isub, 1) := by decide +kernel
theorem xd183_41 : decode (mj_b 183) 41 = .ok (.bipush 7, 2) := by decide +kernel
theorem xd183_43 : decode (mj_b 183) 43 = .ok (.isub, 1) := by decide +kernel
theorem xd183_44 : decode (mj_b 183) 44 = .ok (.ireturn, 1) := by decide +kernel
theorem x183_0 {x1 : Int32} {x2 : Int32} : wp Ln xs 183 0 [.ref 72, .int x1, .int x2, mj_hole] [] (u, ml_h m lm) Φ = wp Ln xs 159 0 [.ref 72, .int x1, mj_hole, mj_hole] [] (u, ml_h m lm) (mk Ln xs 183 2 [.ref 72, .int x1, .int x2, mj_hole] [] Φ) := (wp_same xd183_0 (Or.inr rfl) rfl).trans ((wp_same xd183_1 (Or.inr rfl) rfl).trans (wm_cv (As := [.int x1]) (rest := []) xd183_2 rfl rfl (show ml_L[72]? = _ from rfl) (Nat.le_of_ble_eq_true rfl) (Nat.le_of_ble_eq_true rfl) (Nat.le_of_ble_eq_true rfl) (Nat.le_of_ble_eq_true rfl)))
theorem x183_5 {x1 : Int32} {x2 : Int32} {xs0 : Int32} : wp Ln xs 183 5 [.ref 72, .int x1, .int x2, mj_hole] [.int xs0] (u, ml_h m lm) Φ = wp Ln xs 183 14 [.ref 72, .int x1, .int x2, .int xs0] [.int ((nI 31) + x1), .ref 73] (u, ml_h m lm) Φ := (wp_same (L' := [.ref 72, .int x1, .int x2, .int xs0]) xd183_5 (Or.inr rfl) rfl).trans ((wp_same xd183_6 (Or.inr rfl) rfl).trans ((wm_getr xd183_7 rfl (show ml_L[72]? = _ from rfl) rfl (Nat.le_of_ble_eq_true rfl)).trans ((wp_same (S' := [.int (nI 31), .ref 73]) xd183_10 (Or.inr rfl) rfl).trans ((wp_same xd183_12 (Or.inr rfl) rfl).trans (wp_same xd183_13 (Or.inr rfl) rfl)))))
theorem x183_14 {x1 : Int32} {x2 : Int32} {x3 : Int32} {k : Nat} (hk : k < 251) : wp Ln xs 183 14 [.ref 72, .int x1, .int x2, .int x3] [.int (nI k), .ref 73] (u, ml_h m lm) Φ = wp Ln xs 184 0 [.ref 72, .int x3, .int x2] [] (u, ml_h m lm) (mk Ln xs 183 18 [.ref 72, .int x1, .int x2, .int x3] [.int (m 73 k)] Φ) := (wm_iald (k := k) xd183_14 ml_ia_73 (by decide) hk).trans ((wp_same xd183_15 (Or.inr rfl) rfl).trans ((wp_same xd183_16 (Or.inr rfl) rfl).trans ((wp_same xd183_17 (Or.inr rfl) rfl).trans (wm_cv (As := [.int x3, .int x2]) (rest := [.int (m 73 k)]) xd183_18 rfl rfl (show ml_L[72]? = _ from rfl) (Nat.le_of_ble_eq_true rfl) (Nat.le_of_ble_eq_true rfl) (Nat.le_of_ble_eq_true rfl) (Nat.le_of_ble_eq_true rfl)))))
theorem x183_21 {x1 : Int32} {x2 : Int32} {x3 : Int32} {xs0 : Int32} {xs1 : Int32} : wp Ln xs 183 21 [.ref 72, .int x1, .int x2, .int x3] [.int xs0, .int xs1] (u, ml_h m lm) Φ = wp Ln xs 183 34 [.ref 72, .int x1, .int x2, .int x3] [.int ((nI 7) + x1), .ref 73, .int (x3 + x2), .ref 72, .int (xs1 - xs0)] (u, ml_h m lm) Φ := (wp_same xd183_21 (Or.inr rfl) rfl).trans ((wp_same xd183_22 (Or.inr rfl) rfl).trans ((wp_same xd183_23 (Or.inr rfl) rfl).trans ((wp_same xd183_24 (Or.inr rfl) rfl).trans ((wp_same xd183_25 (Or.inr rfl) rfl).trans ((wp_same xd183_26 (Or.inr rfl) rfl).trans ((wm_getr xd183_27 rfl (show ml_L[72]? = _ from rfl) rfl (Nat.le_of_ble_eq_true rfl)).trans ((wp_same (S' := [.int (nI 7), .ref 73, .int (x3 + x2), .ref 72, .int (xs1 - xs0)]) xd183_30 (Or.inr rfl) rfl).trans ((wp_same xd183_32 (Or.inr rfl) rfl).trans (wp_same xd183_33 (Or.inr rfl) rfl)))))))))
theorem x183_34 {x1 : Int32} {x2 : Int32} {x3 : Int32} {k : Nat} {xs2 : Int32} {xs4 : Int32} (hk : k < 251) : wp Ln xs 183 34 [.ref 72, .int x1, .int x2, .int x3] [.int (nI k), .ref 73, .int xs2, .ref 72, .int xs4] (u, ml_h m lm) Φ = wp Ln xs 184 0 [.ref 72, .int xs2, .int ((m 73 k) - x2)] [] (u, ml_h m lm) (mk Ln xs 183 37 [.ref 72, .int x1, .int x2, .int x3] [.int xs4] Φ) := (wm_iald (k := k) xd183_34 ml_ia_73 (by decide) hk).trans ((wp_same xd183_35 (Or.inr rfl) rfl).trans ((wp_same xd183_36 (Or.inr rfl) rfl).trans (wm_cv (As := [.int xs2, .int ((m 73 k) - x2)]) (rest := [.int xs4]) xd183_37 rfl rfl (show ml_L[72]? = _ from rfl) (Nat.le_of_ble_eq_true rfl) (Nat.le_of_ble_eq_true rfl) (Nat.le_of_ble_eq_true rfl) (Nat.le_of_ble_eq_true rfl))))
theorem x183_40 {x1 : Int32} {x2 : Int32} {x3 : Int32} {xs0 : Int32} {xs1 : Int32} : wp Ln xs 183 40 [.ref 72, .int x1, .int x2, .int x3] [.int xs0, .int xs1] (u, ml_h m lm) Φ = Φ (.inl (some (.int ((xs1 - xs0) - (nI 7))))) (u, ml_h m lm) := (wp_same xd183_40 (Or.inr rfl) rfl).trans ((wp_same (S' := [.int (nI 7), .int (xs1 - xs0)]) xd183_41 (Or.inr rfl) rfl).trans ((wp_same xd183_43 (Or.inr rfl) rfl).trans (wp_fin (v := some (.int ((xs1 - xs0) - (nI 7)))) xd183_44 (Or.inr rfl) rfl (mj_fin_i rfl))))
/- PickedFormsModel.roomFor -/
theorem xd184_0 : decode (mj_b 184) 0 = .ok (.aload_n 0, 1) := by decide +kernel
theorem xd184_1 : decode (mj_b 184) 1 = .ok (.aload_n 0, 1) := by decide +kernel
theorem xd184_2 : decode (mj_b 184) 2 = .ok (.iload_n 1, 1) := by decide +kernel
theorem xd184_3 : decode (mj_b 184) 3 = .ok (.iload_n 2, 1) := by decide +kernel
theorem xd184_4 : decode (mj_b 184) 4 = .ok (.invokevirtual 86, 3) := by decide +kernel
theorem xd184_7 : decode (mj_b 184) 7 = .ok (.iload_n 1, 1) := by decide +kernel
theorem xd184_8 : decode (mj_b 184) 8 = .ok (.iload_n 2, 1) := by decide +kernel
theorem xd184_9 : decode (mj_b 184) 9 = .ok (.invokevirtual 79, 3) := by decide +kernel
theorem xd184_12 : decode (mj_b 184) 12 = .ok (.ireturn, 1) := by decide +kernel
theorem x184_0 {x1 : Int32} {x2 : Int32} : wp Ln xs 184 0 [.ref 72, .int x1, .int x2] [] (u, ml_h m lm) Φ = wp Ln xs 162 0 [.ref 72, .int x1, .int x2] [] (u, ml_h m lm) (mk Ln xs 184 4 [.ref 72, .int x1, .int x2] [.ref 72] Φ) := (wp_same xd184_0 (Or.inr rfl) rfl).trans ((wp_same xd184_1 (Or.inr rfl) rfl).trans ((wp_same xd184_2 (Or.inr rfl) rfl).trans ((wp_same xd184_3 (Or.inr rfl) rfl).trans (wm_cv (As := [.int x1, .int x2]) (rest := [.ref 72]) xd184_4 rfl rfl (show ml_L[72]? = _ from rfl) (Nat.le_of_ble_eq_true rfl) (Nat.le_of_ble_eq_true rfl) (Nat.le_of_ble_eq_true rfl) (Nat.le_of_ble_eq_true rfl)))))
theorem x184_7 {x1 : Int32} {x2 : Int32} {xs0 : Int32} : wp Ln xs 184 7 [.ref 72, .int x1, .int x2] [.int xs0, .ref 72] (u, ml_h m lm) Φ = wp Ln xs 164 0 [.ref 72, .int xs0, .int x1, .int x2] [] (u, ml_h m lm) (mk Ln xs 184 9 [.ref 72, .int x1, .int x2] [] Φ) := (wp_same xd184_7 (Or.inr rfl) rfl).trans ((wp_same xd184_8 (Or.inr rfl) rfl).trans (wm_cv (As := [.int xs0, .int x1, .int x2]) (rest := []) xd184_9 rfl rfl (show ml_L[72]? = _ from rfl) (Nat.le_of_ble_eq_true rfl) (Nat.le_of_ble_eq_true rfl) (Nat.le_of_ble_eq_true rfl) (Nat.le_of_ble_eq_true rfl)))
theorem x184_12 {x1 : Int32} {x2 : Int32} {xs0 : Int32} : wp Ln xs 184 12 [.ref 72, .int x1, .int x2] [.int xs0] (u, ml_h m lm) Φ = Φ (.inl (some (.int xs0))) (u, ml_h m lm) := wp_fin (v := some (.int xs0)) xd184_12 (Or.inr rfl) rfl (mj_fin_i rfl)
/- PickedFormsModel.makePlace -/
theorem xd185_0 : decode (mj_b 185) 0 = .ok (.aload_n 0, 1) := by decide +kernel
theorem xd185_1 : decode (mj_b 185) 1 = .ok (.getfield 7, 3) := by decide +kernel
theorem xd185_4 : decode (mj_b 185) 4 = .ok (.iconst 0, 1) := by decide +kernel
theorem xd185_5 : decode (mj_b 185) 5 = .ok (.iaload, 1) := by decide +kernel
theorem xd185_6 : decode (mj_b 185) 6 = .ok (.istore_n 2, 1) := by decide +kernel
theorem xd185_7 : decode (mj_b 185) 7 = .ok (.iload_n 2, 1) := by decide +kernel
theorem xd185_8 : decode (mj_b 185) 8 = .ok (.iload_n 1, 1) := by decide +kernel
theorem xd185_9 : decode (mj_b 185) 9 = .ok (.if_icmp .le 69, 3) := by decide +kernel
theorem xd185_12 : decode (mj_b 185) 12 = .ok (.aload_n 0, 1) := by decide +kernel
theorem xd185_13 : decode (mj_b 185) 13 = .ok (.getfield 7, 3) := by decide +kernel
theorem xd185_16 : decode (mj_b 185) 16 = .ok (.bipush 7, 2) := by decide +kernel
theorem xd185_18 : decode (mj_b 185) 18 = .ok (.iload_n 2, 1) := by decide +kernel
theorem xd185_19 : decode (mj_b 185) 19 = .ok (.iadd, 1) := by decide +kernel
theorem xd185_20 : decode (mj_b 185) 20 = .ok (.aload_n 0, 1) := by decide +kernel
theorem xd185_21 : decode (mj_b 185) 21 = .ok (.getfield 7, 3) := by decide +kernel
theorem xd185_24 : decode (mj_b 185) 24 = .ok (.bipush 7, 2) := by decide +kernel
theorem xd185_26 : decode (mj_b 185) 26 = .ok (.iload_n 2, 1) := by decide +kernel
theorem xd185_27 : decode (mj_b 185) 27 = .ok (.iadd, 1) := by decide +kernel
theorem xd185_28 : decode (mj_b 185) 28 = .ok (.iconst 1, 1) := by decide +kernel
theorem xd185_29 : decode (mj_b 185) 29 = .ok (.isub, 1) := by decide +kernel
theorem xd185_30 : decode (mj_b 185) 30 = .ok (.iaload, 1) := by decide +kernel
theorem xd185_31 : decode (mj_b 185) 31 = .ok (.iastore, 1) := by decide +kernel
theorem xd185_32 : decode (mj_b 185) 32 = .ok (.aload_n 0, 1) := by decide +kernel
theorem xd185_33 : decode (mj_b 185) 33 = .ok (.getfield 7, 3) := by decide +kernel
theorem xd185_36 : decode (mj_b 185) 36 = .ok (.bipush 19, 2) := by decide +kernel
theorem xd185_38 : decode (mj_b 185) 38 = .ok (.iload_n 2, 1) := by decide +kernel
theorem xd185_39 : decode (mj_b 185) 39 = .ok (.iadd, 1) := by decide +kernel
theorem xd185_40 : decode (mj_b 185) 40 = .ok (.aload_n 0, 1) := by decide +kernel
theorem xd185_41 : decode (mj_b 185) 41 = .ok (.getfield 7, 3) := by decide +kernel
theorem xd185_44 : decode (mj_b 185) 44 = .ok (.bipush 19, 2) := by decide +kernel
theorem xd185_46 : decode (mj_b 185) 46 = .ok (.iload_n 2, 1) := by decide +kernel
theorem xd185_47 : decode (mj_b 185) 47 = .ok (.iadd, 1) := by decide +kernel
theorem xd185_48 : decode (mj_b 185) 48 = .ok (.iconst 1, 1) := by decide +kernel
theorem xd185_49 : decode (mj_b 185) 49 = .ok (.isub, 1) := by decide +kernel
theorem xd185_50 : decode (mj_b 185) 50 = .ok (.iaload, 1) := by decide +kernel
theorem xd185_51 : decode (mj_b 185) 51 = .ok (.iastore, 1) := by decide +kernel
theorem xd185_52 : decode (mj_b 185) 52 = .ok (.aload_n 0, 1) := by decide +kernel
theorem xd185_53 : decode (mj_b 185) 53 = .ok (.getfield 7, 3) := by decide +kernel
theorem xd185_56 : decode (mj_b 185) 56 = .ok (.bipush 31, 2) := by decide +kernel
theorem xd185_58 : decode (mj_b 185) 58 = .ok (.iload_n 2, 1) := by decide +kernel
theorem xd185_59 : decode (mj_b 185) 59 = .ok (.iadd, 1) := by decide +kernel
theorem xd185_60 : decode (mj_b 185) 60 = .ok (.aload_n 0, 1) := by decide +kernel
theorem xd185_61 : decode (mj_b 185) 61 = .ok (.getfield 7, 3) := by decide +kernel
theorem xd185_64 : decode (mj_b 185) 64 = .ok (.bipush 31, 2) := by decide +kernel
theorem xd185_66 : decode (mj_b 185) 66 = .ok (.iload_n 2, 1) := by decide +kernel
theorem xd185_67 : decode (mj_b 185) 67 = .ok (.iadd, 1) := by decide +kernel
theorem xd185_68 : decode (mj_b 185) 68 = .ok (.iconst 1, 1) := by decide +kernel
theorem xd185_69 : decode (mj_b 185) 69 = .ok (.isub, 1) := by decide +kernel
theorem xd185_70 : decode (mj_b 185) 70 = .ok (.iaload, 1) := by decide +kernel
theorem xd185_71 : decode (mj_b 185) 71 = .ok (.iastore, 1) := by decide +kernel
theorem xd185_72 : decode (mj_b 185) 72 = .ok (.iinc 2 (-1), 3) := by decide +kernel
theorem xd185_75 : decode (mj_b 185) 75 = .ok (.goto (-68), 3) := by decide +kernel
theorem xd185_78 : decode (mj_b 185) 78 = .ok (.aload_n 0, 1) := by decide +kernel
theorem xd185_79 : decode (mj_b 185) 79 = .ok (.getfield 7, 3) := by decide +kernel
theorem xd185_82 : decode (mj_b 185) 82 = .ok (.iconst 0, 1) := by decide +kernel
theorem xd185_83 : decode (mj_b 185) 83 = .ok (.dup2, 1) := by decide +kernel
theorem xd185_84 : decode (mj_b 185) 84 = .ok (.iaload, 1) := by decide +kernel
theorem xd185_85 : decode (mj_b 185) 85 = .ok (.iconst 1, 1) := by decide +kernel
theorem xd185_86 : decode (mj_b 185) 86 = .ok (.iadd, 1) := by decide +kernel
theorem xd185_87 : decode (mj_b 185) 87 = .ok (.iastore, 1) := by decide +kernel
theorem xd185_88 : decode (mj_b 185) 88 = .ok (.return_, 1) := by decide +kernel
theorem x185_0 {x1 : Int32} : wp Ln xs 185 0 [.ref 72, .int x1, mj_hole] [] (u, ml_h m lm) Φ = wp Ln xs 185 7 [.ref 72, .int x1, .int (m 73 0)] [] (u, ml_h m lm) Φ := (wp_same xd185_0 (Or.inr rfl) rfl).trans ((wm_getr xd185_1 rfl (show ml_L[72]? = _ from rfl) rfl (Nat.le_of_ble_eq_true rfl)).trans ((wp_same (S' := [.int (nI 0), .ref 73]) xd185_4 (Or.inr rfl) rfl).trans ((wm_iald (k := 0) xd185_5 ml_ia_73 (by decide) (Nat.le_of_ble_eq_true rfl)).trans (wp_same (L' := [.ref 72, .int x1, .int (m 73 0)]) xd185_6 (Or.inr rfl) rfl))))
theorem x185_7 {x1 : Int32} {x2 : Int32} : wp Ln xs 185 7 [.ref 72, .int x1, .int x2] [] (u, ml_h m lm) Φ = if x2 ≤ x1 then wp Ln xs 185 78 [.ref 72, .int x1, .int x2] [] (u, ml_h m lm) Φ else wp Ln xs 185 12 [.ref 72, .int x1, .int x2] [] (u, ml_h m lm) Φ := (wp_same xd185_7 (Or.inr rfl) rfl).trans ((wp_same xd185_8 (Or.inr rfl) rfl).trans (wx_icmp xd185_9 rfl rfl (x2 ≤ x1) mb_le))
theorem x185_12 {x1 : Int32} {x2 : Int32} : wp Ln xs 185 12 [.ref 72, .int x1, .int x2] [] (u, ml_h m lm) Φ = wp Ln xs 185 30 [.ref 72, .int x1, .int x2] [.int (((nI 7) + x2) - (nI 1)), .ref 73, .int ((nI 7) + x2), .ref 73] (u, ml_h m lm) Φ := (wp_same xd185_12 (Or.inr rfl) rfl).trans ((wm_getr xd185_13 rfl (show ml_L[72]? = _ from rfl) rfl (Nat.le_of_ble_eq_true rfl)).trans ((wp_same (S' := [.int (nI 7), .ref 73]) xd185_16 (Or.inr rfl) rfl).trans ((wp_same xd185_18 (Or.inr rfl) rfl).trans ((wp_same xd185_19 (Or.inr rfl) rfl).trans ((wp_same xd185_20 (Or.inr rfl) rfl).trans ((wm_getr xd185_21 rfl (show ml_L[72]? = _ from rfl) rfl (Nat.le_of_ble_eq_true rfl)).trans ((wp_same (S' := [.int (nI 7), .ref 73, .int ((nI 7) + x2), .ref 73]) xd185_24 (Or.inr rfl) rfl).trans ((wp_same xd185_26 (Or.inr rfl) rfl).trans ((wp_same xd185_27 (Or.inr rfl) rfl).trans ((wp_same (S' := [.int (nI 1), .int ((nI 7) + x2), .ref 73, .int ((nI 7) + x2), .ref 73]) xd185_28 (Or.inr rfl) rfl).trans (wp_same xd185_29 (Or.inr rfl) rfl)))))))))))
theorem x185_30 {x1 : Int32} {x2 : Int32} {k : Nat} {xs2 : Int32} (hk : k < 251) : wp Ln xs 185 30 [.ref 72, .int x1, .int x2] [.int (nI k), .ref 73, .int xs2, .ref 73] (u, ml_h m lm) Φ = wp Ln xs 185 31 [.ref 72, .int x1, .int x2] [.int (m 73 k), .int xs2, .ref 73] (u, ml_h m lm) Φ := wm_iald (k := k) xd185_30 ml_ia_73 (by decide) hk
theorem x185_31 {x1 : Int32} {x2 : Int32} {xs0 : Int32} {k : Nat} (hk : k < 251) : wp Ln xs 185 31 [.ref 72, .int x1, .int x2] [.int xs0, .int (nI k), .ref 73] (u, ml_h m lm) Φ = wp Ln xs 185 50 [.ref 72, .int x1, .int x2] [.int (((nI 19) + x2) - (nI 1)), .ref 73, .int ((nI 19) + x2), .ref 73] (u, ml_h (ml_s m 73 k xs0) lm) Φ := (wm_iast (k := k) xd185_31 ml_ia_73 hk).trans ((wp_same xd185_32 (Or.inr rfl) rfl).trans ((wm_getr xd185_33 rfl (show ml_L[72]? = _ from rfl) rfl (Nat.le_of_ble_eq_true rfl)).trans ((wp_same (S' := [.int (nI 19), .ref 73]) xd185_36 (Or.inr rfl) rfl).trans ((wp_same xd185_38 (Or.inr rfl) rfl).trans ((wp_same xd185_39 (Or.inr rfl) rfl).trans ((wp_same xd185_40 (Or.inr rfl) rfl).trans ((wm_getr xd185_41 rfl (show ml_L[72]? = _ from rfl) rfl (Nat.le_of_ble_eq_true rfl)).trans ((wp_same (S' := [.int (nI 19), .ref 73, .int ((nI 19) + x2), .ref 73]) xd185_44 (Or.inr rfl) rfl).trans ((wp_same xd185_46 (Or.inr rfl) rfl).trans ((wp_same xd185_47 (Or.inr rfl) rfl).trans ((wp_same (S' := [.int (nI 1), .int ((nI 19) + x2), .ref 73, .int ((nI 19) + x2), .ref 73]) xd185_48 (Or.inr rfl) rfl).trans (wp_same xd185_49 (Or.inr rfl) rfl))))))))))))
theorem x185_50 {x1 : Int32} {x2 : Int32} {k : Nat} {xs2 : Int32} (hk : k < 251) : wp Ln xs 185 50 [.ref 72, .int x1, .int x2] [.int (nI k), .ref 73, .int xs2, .ref 73] (u, ml_h m lm) Φ = wp Ln xs 185 51 [.ref 72, .int x1, .int x2] [.int (m 73 k), .int xs2, .ref 73] (u, ml_h m lm) Φ := wm_iald (k := k) xd185_50 ml_ia_73 (by decide) hk
theorem x185_51 {x1 : Int32} {x2 : Int32} {xs0 : Int32} {k : Nat} (hk : k < 251) : wp Ln xs 185 51 [.ref 72, .int x1, .int x2] [.int xs0, .int (nI k), .ref 73] (u, ml_h m lm) Φ = wp Ln xs 185 70 [.ref 72, .int x1, .int x2] [.int (((nI 31) + x2) - (nI 1)), .ref 73, .int ((nI 31) + x2), .ref 73] (u, ml_h (ml_s m 73 k xs0) lm) Φ := (wm_iast (k := k) xd185_51 ml_ia_73 hk).trans ((wp_same xd185_52 (Or.inr rfl) rfl).trans ((wm_getr xd185_53 rfl (show ml_L[72]? = _ from rfl) rfl (Nat.le_of_ble_eq_true rfl)).trans ((wp_same (S' := [.int (nI 31), .ref 73]) xd185_56 (Or.inr rfl) rfl).trans ((wp_same xd185_58 (Or.inr rfl) rfl).trans ((wp_same xd185_59 (Or.inr rfl) rfl).trans ((wp_same xd185_60 (Or.inr rfl) rfl).trans ((wm_getr xd185_61 rfl (show ml_L[72]? = _ from rfl) rfl (Nat.le_of_ble_eq_true rfl)).trans ((wp_same (S' := [.int (nI 31), .ref 73, .int ((nI 31) + x2), .ref 73]) xd185_64 (Or.inr rfl) rfl).trans ((wp_same xd185_66 (Or.inr rfl) rfl).trans ((wp_same xd185_67 (Or.inr rfl) rfl).trans ((wp_same (S' := [.int (nI 1), .int ((nI 31) + x2), .ref 73, .int ((nI 31) + x2), .ref 73]) xd185_68 (Or.inr rfl) rfl).trans (wp_same xd185_69 (Or.inr rfl) rfl))))))))))))
theorem x185_70 {x1 : Int32} {x2 : Int32} {k : Nat} {xs2 : Int32} (hk : k < 251) : wp Ln xs 185 70 [.ref 72, .int x1, .int x2] [.int (nI k), .ref 73, .int xs2, .ref 73] (u, ml_h m lm) Φ = wp Ln xs 185 71 [.ref 72, .int x1, .int x2] [.int (m 73 k), .int xs2, .ref 73] (u, ml_h m lm) Φ := wm_iald (k := k) xd185_70 ml_ia_73 (by decide) hk
theorem x185_71 {x1 : Int32} {x2 : Int32} {xs0 : Int32} {k : Nat} (hk : k < 251) : wp Ln xs 185 71 [.ref 72, .int x1, .int x2] [.int xs0, .int (nI k), .ref 73] (u, ml_h m lm) Φ = wp Ln xs 185 7 [.ref 72, .int x1, .int (x2 + (-1))] [] (u, ml_h (ml_s m 73 k xs0) lm) Φ := (wm_iast (k := k) xd185_71 ml_ia_73 hk).trans ((wp_same (L' := [.ref 72, .int x1, .int (x2 + (-1))]) xd185_72 (Or.inr rfl) rfl).trans (wx_goto xd185_75 rfl))
theorem x185_78 {x1 : Int32} {x2 : Int32} : wp Ln xs 185 78 [.ref 72, .int x1, .int x2] [] (u, ml_h m lm) Φ = Φ (.inl none) (u, ml_h (ml_s m 73 0 ((m 73 0) + (nI 1))) lm) := (wp_same xd185_78 (Or.inr rfl) rfl).trans ((wm_getr xd185_79 rfl (show ml_L[72]? = _ from rfl) rfl (Nat.le_of_ble_eq_true rfl)).trans ((wp_same (S' := [.int (nI 0), .ref 73]) xd185_82 (Or.inr rfl) rfl).trans ((wp_same xd185_83 (Or.inr rfl) rfl).trans ((wm_iald (k := 0) xd185_84 ml_ia_73 (by decide) (Nat.le_of_ble_eq_true rfl)).trans ((wp_same (S' := [.int (nI 1), .int (m 73 0), .int (nI 0), .ref 73]) xd185_85 (Or.inr rfl) rfl).trans ((wp_same xd185_86 (Or.inr rfl) rfl).trans ((wm_iast (k := 0) xd185_87 ml_ia_73 (Nat.le_of_ble_eq_true rfl)).trans (wp_fin (v := none) xd185_88 (Or.inr rfl) rfl rfl))))))))
/- PickedFormsModel.drop -/
theorem xd186_0 : decode (mj_b 186) 0 = .ok (.aload_n 0, 1) := by decide +kernel
theorem xd186_1 : decode (mj_b 186) 1 = .ok (.aload_n 0, 1) := by decide +kernel
theorem xd186_2 : decode (mj_b 186) 2 = .ok (.iload_n 1, 1) := by decide +kernel
theorem xd186_3 : decode (mj_b 186) 3 = .ok (.invokevirtual 126, 3) := by decide +kernel
theorem xd186_6 : decode (mj_b 186) 6 = .ok (.ifCond .eq 7, 3) := by decide +kernel
theorem xd186_9 : decode (mj_b 186) 9 = .ok (.iconst 0, 1) := by decide +kernel
theorem xd186_10 : decode (mj_b 186) 10 = .ok (.goto 4, 3) := by decide +kernel
theorem xd186_13 : decode (mj_b 186) 13 = .ok (.iconst 1, 1) := by decide +kernel
theorem xd186_14 : decode (mj_b 186) 14 = .ok (.invokevirtual 114, 3) := by decide +kernel
theorem xd186_17 : decode (mj_b 186) 17 = .ok (.ifCond .ne 5, 3) := by decide +kernel
theorem xd186_20 : decode (mj_b 186) 20 = .ok (.iconst 0, 1) := by decide +kernel
theorem xd186_21 : decode (mj_b 186) 21 = .ok (.ireturn, 1) := by decide +kernel
theorem xd186_22 : decode (mj_b 186) 22 = .ok (.aload_n 0, 1) := by decide +kernel
theorem xd186_23 : decode (mj_b 186) 23 = .ok (.invokevirtual 117, 3) := by decide +kernel
theorem xd186_26 : decode (mj_b 186) 26 = .ok (.bipush 43, 2) := by decide +kernel
theorem xd186_28 : decode (mj_b 186) 28 = .ok (.aload_n 0, 1) := by decide +kernel
theorem xd186_29 : decode (mj_b 186) 29 = .ok (.iload_n 1, 1) := by decide +kernel
theorem xd186_30 : decode (mj_b 186) 30 = .ok (.invokevirtual 49, 3) := by decide +kernel
theorem xd186_33 : decode (mj_b 186) 33 = .ok (.iadd, 1) := by decide +kernel
theorem xd186_34 : decode (mj_b 186) 34 = .ok (.istore_n 2, 1) := by decide +kernel
theorem xd186_35 : decode (mj_b 186) 35 = .ok (.aload_n 0, 1) := by decide +kernel
theorem xd186_36 : decode (mj_b 186) 36 = .ok (.getfield 7, 3) := by decide +kernel
theorem xd186_39 : decode (mj_b 186) 39 = .ok (.bipush 7, 2) := by decide +kernel
theorem xd186_41 : decode (mj_b 186) 41 = .ok (.iload_n 1, 1) := by decide +kernel
theorem xd186_42 : decode (mj_b 186) 42 = .ok (.iadd, 1) := by decide +kernel
theorem xd186_43 : decode (mj_b 186) 43 = .ok (.iaload, 1) := by decide +kernel
theorem xd186_44 : decode (mj_b 186) 44 = .ok (.istore_n 3, 1) := by decide +kernel
theorem xd186_45 : decode (mj_b 186) 45 = .ok (.bipush 43, 2) := by decide +kernel
theorem xd186_47 : decode (mj_b 186) 47 = .ok (.aload_n 0, 1) := by decide +kernel
theorem xd186_48 : decode (mj_b 186) 48 = .ok (.invokevirtual 96, 3) := by decide +kernel
theorem xd186_51 : decode (mj_b 186) 51 = .ok (.iadd, 1) := by decide +kernel
theorem xd186_52 : decode (mj_b 186) 52 = .ok (.iload_n 3, 1) := by decide +kernel
theorem xd186_53 : decode (mj_b 186) 53 = .ok (.isub, 1) := by decide +kernel
theorem xd186_54 : decode (mj_b 186) 54 = .ok (.istore 4, 2) := by decide +kernel
theorem xd186_56 : decode (mj_b 186) 56 = .ok (.iload_n 2, 1) := by decide +kernel
theorem xd186_57 : decode (mj_b 186) 57 = .ok (.istore 5, 2) := by decide +kernel
theorem xd186_59 : decode (mj_b 186) 59 = .ok (.iload 5, 2) := by decide +kernel
theorem xd186_61 : decode (mj_b 186) 61 = .ok (.iload 4, 2) := by decide +kernel
theorem xd186_63 : decode (mj_b 186) 63 = .ok (.if_icmp .ge 25, 3) := by decide +kernel
theorem xd186_66 : decode (mj_b 186) 66 = .ok (.aload_n 0, 1) := by decide +kernel
theorem xd186_67 : decode (mj_b 186) 67 = .ok (.getfield 7, 3) := by decide +kernel
theorem xd186_70 : decode (mj_b 186) 70 = .ok (.iload 5, 2) := by decide +kernel
theorem xd186_72 : decode (mj_b 186) 72 = .ok (.aload_n 0, 1) := by decide +kernel
theorem xd186_73 : decode (mj_b 186) 73 = .ok (.getfield 7, 3) := by decide +kernel
theorem xd186_76 : decode (mj_b 186) 76 = .ok (.iload 5, 2) := by decide +kernel
theorem xd186_78 : decode (mj_b 186) 78 = .ok (.iload_n 3, 1) := by decide +kernel
theorem xd186_79 : decode (mj_b 186) 79 = .ok (.iadd, 1) := by decide +kernel
theorem xd186_80 : decode (mj_b 186) 80 = .ok (.iaload, 1) := by decide +kernel
theorem xd186_81 : decode (mj_b 186) 81 = .ok (.iastore, 1) := by decide +kernel
theorem xd186_82 : decode (mj_b 186) 82 = .ok (.iinc 5 1, 3) := by decide +kernel
theorem xd186_85 : decode (mj_b 186) 85 = .ok (.goto (-26), 3) := by decide +kernel
theorem xd186_88 : decode (mj_b 186) 88 = .ok (.aload_n 0, 1) := by decide +kernel
theorem xd186_89 : decode (mj_b 186) 89 = .ok (.iload_n 1, 1) := by decide +kernel
theorem xd186_90 : decode (mj_b 186) 90 = .ok (.invokevirtual 129, 3) := by decide +kernel
theorem xd186_93 : decode (mj_b 186) 93 = .ok (.iload_n 3, 1) := by decide +kernel
theorem xd186_94 : decode (mj_b 186) 94 = .ok (.ireturn, 1) := by decide +kernel
theorem x186_0 {x1 : Int32} : wp Ln xs 186 0 [.ref 72, .int x1, mj_hole, mj_hole, mj_hole, mj_hole] [] (u, ml_h m lm) Φ = wp Ln xs 179 0 [.ref 72, .int x1] [] (u, ml_h m lm) (mk Ln xs 186 3 [.ref 72, .int x1, mj_hole, mj_hole, mj_hole, mj_hole] [.ref 72] Φ) := (wp_same xd186_0 (Or.inr rfl) rfl).trans ((wp_same xd186_1 (Or.inr rfl) rfl).trans ((wp_same xd186_2 (Or.inr rfl) rfl).trans (wm_cv (As := [.int x1]) (rest := [.ref 72]) xd186_3 rfl rfl (show ml_L[72]? = _ from rfl) (Nat.le_of_ble_eq_true rfl) (Nat.le_of_ble_eq_true rfl) (Nat.le_of_ble_eq_true rfl) (Nat.le_of_ble_eq_true rfl))))
theorem x186_6 {x1 : Int32} {xs0 : Int32} : wp Ln xs 186 6 [.ref 72, .int x1, mj_hole, mj_hole, mj_hole, mj_hole] [.int xs0, .ref 72] (u, ml_h m lm) Φ = if xs0 = (nI 0) then wp Ln xs 186 13 [.ref 72, .int x1, mj_hole, mj_hole, mj_hole, mj_hole] [.ref 72] (u, ml_h m lm) Φ else wp Ln xs 186 9 [.ref 72, .int x1, mj_hole, mj_hole, mj_hole, mj_hole] [.ref 72] (u, ml_h m lm) Φ := wx_if xd186_6 rfl rfl (xs0 = (nI 0)) mb_eq
theorem x186_9 {x1 : Int32} : wp Ln xs 186 9 [.ref 72, .int x1, mj_hole, mj_hole, mj_hole, mj_hole] [.ref 72] (u, ml_h m lm) Φ = wp Ln xs 186 14 [.ref 72, .int x1, mj_hole, mj_hole, mj_hole, mj_hole] [.int (nI 0), .ref 72] (u, ml_h m lm) Φ := (wp_same (S' := [.int (nI 0), .ref 72]) xd186_9 (Or.inr rfl) rfl).trans (wx_goto xd186_10 rfl)
theorem x186_13 {x1 : Int32} : wp Ln xs 186 13 [.ref 72, .int x1, mj_hole, mj_hole, mj_hole, mj_hole] [.ref 72] (u, ml_h m lm) Φ = wp Ln xs 186 14 [.ref 72, .int x1, mj_hole, mj_hole, mj_hole, mj_hole] [.int (nI 1), .ref 72] (u, ml_h m lm) Φ := wp_same (S' := [.int (nI 1), .ref 72]) xd186_13 (Or.inr rfl) rfl
theorem x186_14 {x1 : Int32} {xs0 : Int32} : wp Ln xs 186 14 [.ref 72, .int x1, mj_hole, mj_hole, mj_hole, mj_hole] [.int xs0, .ref 72] (u, ml_h m lm) Φ = wp Ln xs 154 0 [.ref 72, .int xs0] [] (u, ml_h m lm) (mk Ln xs 186 14 [.ref 72, .int x1, mj_hole, mj_hole, mj_hole, mj_hole] [] Φ) := wm_cv (As := [.int xs0]) (rest := []) xd186_14 rfl rfl (show ml_L[72]? = _ from rfl) (Nat.le_of_ble_eq_true rfl) (Nat.le_of_ble_eq_true rfl) (Nat.le_of_ble_eq_true rfl) (Nat.le_of_ble_eq_true rfl)
theorem x186_17 {x1 : Int32} {xs0 : Int32} : wp Ln xs 186 17 [.ref 72, .int x1, mj_hole, mj_hole, mj_hole, mj_hole] [.int xs0] (u, ml_h m lm) Φ = if ¬ xs0 = (nI 0) then wp Ln xs 186 22 [.ref 72, .int x1, mj_hole, mj_hole, mj_hole, mj_hole] [] (u, ml_h m lm) Φ else wp Ln xs 186 20 [.ref 72, .int x1, mj_hole, mj_hole, mj_hole, mj_hole] [] (u, ml_h m lm) Φ := wx_if xd186_17 rfl rfl (¬ xs0 = (nI 0)) mb_ne
theorem x186_20 {x1 : Int32} : wp Ln xs 186 20 [.ref 72, .int x1, mj_hole, mj_hole, mj_hole, mj_hole] [] (u, ml_h m lm) Φ = Φ (.inl (some (.int (nI 0)))) (u, ml_h m lm) := (wp_same (S' := [.int (nI 0)]) xd186_20 (Or.inr rfl) rfl).trans (wp_fin (v := some (.int (nI 0))) xd186_21 (Or.inr rfl) rfl (mj_fin_i rfl))
theorem x186_22 {x1 : Int32} : wp Ln xs 186 22 [.ref 72, .int x1, mj_hole, mj_hole, mj_hole, mj_hole] [] (u, ml_h m lm) Φ = wp Ln xs 155 0 [.ref 72, mj_hole] [] (u, ml_h m lm) (mk Ln xs 186 23 [.ref 72, .int x1, mj_hole, mj_hole, mj_hole, mj_hole] [] Φ) := (wp_same xd186_22 (Or.inr rfl) rfl).trans (wm_cv (As := []) (rest := []) xd186_23 rfl rfl (show ml_L[72]? = _ from rfl) (Nat.le_of_ble_eq_true rfl) (Nat.le_of_ble_eq_true rfl) (Nat.le_of_ble_eq_true rfl) (Nat.le_of_ble_eq_true rfl))
theorem x186_26 {x1 : Int32} : wp Ln xs 186 26 [.ref 72, .int x1, mj_hole, mj_hole, mj_hole, mj_hole] [] (u, ml_h m lm) Φ = wp Ln xs 159 0 [.ref 72, .int x1, mj_hole, mj_hole] [] (u, ml_h m lm) (mk Ln xs 186 30 [.ref 72, .int x1, mj_hole, mj_hole, mj_hole, mj_hole] [.int (nI 43)] Φ) := (wp_same (S' := [.int (nI 43)]) xd186_26 (Or.inr rfl) rfl).trans ((wp_same xd186_28 (Or.inr rfl) rfl).trans ((wp_same xd186_29 (Or.inr rfl) rfl).trans (wm_cv (As := [.int x1]) (rest := [.int (nI 43)]) xd186_30 rfl rfl (show ml_L[72]? = _ from rfl) (Nat.le_of_ble_eq_true rfl) (Nat.le_of_ble_eq_true rfl) (Nat.le_of_ble_eq_true rfl) (Nat.le_of_ble_eq_true rfl))))
theorem x186_33 {x1 : Int32} {xs0 : Int32} {xs1 : Int32} : wp Ln xs 186 33 [.ref 72, .int x1, mj_hole, mj_hole, mj_hole, mj_hole] [.int xs0, .int xs1] (u, ml_h m lm) Φ = wp Ln xs 186 43 [.ref 72, .int x1, .int (xs1 + xs0), mj_hole, mj_hole, mj_hole] [.int ((nI 7) + x1), .ref 73] (u, ml_h m lm) Φ := (wp_same xd186_33 (Or.inr rfl) rfl).trans ((wp_same (L' := [.ref 72, .int x1, .int (xs1 + xs0), mj_hole, mj_hole, mj_hole]) xd186_34 (Or.inr rfl) rfl).trans ((wp_same xd186_35 (Or.inr rfl) rfl).trans ((wm_getr xd186_36 rfl (show ml_L[72]? = _ from rfl) rfl (Nat.le_of_ble_eq_true rfl)).trans ((wp_same (S' := [.int (nI 7), .ref 73]) xd186_39 (Or.inr rfl) rfl).trans ((wp_same xd186_41 (Or.inr rfl) rfl).trans (wp_same xd186_42 (Or.inr rfl) rfl))))))
theorem x186_43 {x1 : Int32} {x2 : Int32} {k : Nat} (hk : k < 251) : wp Ln xs 186 43 [.ref 72, .int x1, .int x2, mj_hole, mj_hole, mj_hole] [.int (nI k), .ref 73] (u, ml_h m lm) Φ = wp Ln xs 158 0 [.ref 72] [] (u, ml_h m lm) (mk Ln xs 186 48 [.ref 72, .int x1, .int x2, .int (m 73 k), mj_hole, mj_hole] [.int (nI 43)] Φ) := (wm_iald (k := k) xd186_43 ml_ia_73 (by decide) hk).trans ((wp_same (L' := [.ref 72, .int x1, .int x2, .int (m 73 k), mj_hole, mj_hole]) xd186_44 (Or.inr rfl) rfl).trans ((wp_same (S' := [.int (nI 43)]) xd186_45 (Or.inr rfl) rfl).trans ((wp_same xd186_47 (Or.inr rfl) rfl).trans (wm_cv (As := []) (rest := [.int (nI 43)]) xd186_48 rfl rfl (show ml_L[72]? = _ from rfl) (Nat.le_of_ble_eq_true rfl) (Nat.le_of_ble_eq_true rfl) (Nat.le_of_ble_eq_true rfl) (Nat.le_of_ble_eq_true rfl)))))
theorem x186_51 {x1 : Int32} {x2 : Int32} {x3 : Int32} {xs0 : Int32} {xs1 : Int32} : wp Ln xs 186 51 [.ref 72, .int x1, .int x2, .int x3, mj_hole, mj_hole] [.int xs0, .int xs1] (u, ml_h m lm) Φ = wp Ln xs 186 59 [.ref 72, .int x1, .int x2, .int x3, .int ((xs1 + xs0) - x3), .int x2] [] (u, ml_h m lm) Φ := (wp_same xd186_51 (Or.inr rfl) rfl).trans ((wp_same xd186_52 (Or.inr rfl) rfl).trans ((wp_same xd186_53 (Or.inr rfl) rfl).trans ((wp_same (L' := [.ref 72, .int x1, .int x2, .int x3, .int ((xs1 + xs0) - x3), mj_hole]) xd186_54 (Or.inr rfl) rfl).trans ((wp_same xd186_56 (Or.inr rfl) rfl).trans (wp_same (L' := [.ref 72, .int x1, .int x2, .int x3, .int ((xs1 + xs0) - x3), .int x2]) xd186_57 (Or.inr rfl) rfl)))))
theorem x186_59 {x1 : Int32} {x2 : Int32} {x3 : Int32} {x4 : Int32} {x5 : Int32} : wp Ln xs 186 59 [.ref 72, .int x1, .int x2, .int x3, .int x4, .int x5] [] (u, ml_h m lm) Φ = if x4 ≤ x5 then wp Ln xs 186 88 [.ref 72, .int x1, .int x2, .int x3, .int x4, .int x5] [] (u, ml_h m lm) Φ else wp Ln xs 186 66 [.ref 72, .int x1, .int x2, .int x3, .int x4, .int x5] [] (u, ml_h m lm) Φ := (wp_same xd186_59 (Or.inr rfl) rfl).trans ((wp_same xd186_61 (Or.inr rfl) rfl).trans (wx_icmp xd186_63 rfl rfl (x4 ≤ x5) mb_ge))
theorem x186_66 {x1 : Int32} {x2 : Int32} {x3 : Int32} {x4 : Int32} {x5 : Int32} : wp Ln xs 186 66 [.ref 72, .int x1, .int x2, .int x3, .int x4, .int x5] [] (u, ml_h m lm) Φ = wp Ln xs 186 80 [.ref 72, .int x1, .int x2, .int x3, .int x4, .int x5] [.int (x5 + x3), .ref 73, .int x5, .ref 73] (u, ml_h m lm) Φ := (wp_same xd186_66 (Or.inr rfl) rfl).trans ((wm_getr xd186_67 rfl (show ml_L[72]? = _ from rfl) rfl (Nat.le_of_ble_eq_true rfl)).trans ((wp_same xd186_70 (Or.inr rfl) rfl).trans ((wp_same xd186_72 (Or.inr rfl) rfl).trans ((wm_getr xd186_73 rfl (show ml_L[72]? = _ from rfl) rfl (Nat.le_of_ble_eq_true rfl)).trans ((wp_same xd186_76 (Or.inr rfl) rfl).trans ((wp_same xd186_78 (Or.inr rfl) rfl).trans (wp_same xd186_79 (Or.inr rfl) rfl)))))))
theorem x186_80 {x1 : Int32} {x2 : Int32} {x3 : Int32} {x4 : Int32} {x5 : Int32} {k : Nat} {xs2 : Int32} (hk : k < 251) : wp Ln xs 186 80 [.ref 72, .int x1, .int x2, .int x3, .int x4, .int x5] [.int (nI k), .ref 73, .int xs2, .ref 73] (u, ml_h m lm) Φ = wp Ln xs 186 81 [.ref 72, .int x1, .int x2, .int x3, .int x4, .int x5] [.int (m 73 k), .int xs2, .ref 73] (u, ml_h m lm) Φ := wm_iald (k := k) xd186_80 ml_ia_73 (by decide) hk
theorem x186_81 {x1 : Int32} {x2 : Int32} {x3 : Int32} {x4 : Int32} {x5 : Int32} {xs0 : Int32} {k : Nat} (hk : k < 251) : wp Ln xs 186 81 [.ref 72, .int x1, .int x2, .int x3, .int x4, .int x5] [.int xs0, .int (nI k), .ref 73] (u, ml_h m lm) Φ = wp Ln xs 186 59 [.ref 72, .int x1, .int x2, .int x3, .int x4, .int (x5 + nI 1)] [] (u, ml_h (ml_s m 73 k xs0) lm) Φ := (wm_iast (k := k) xd186_81 ml_ia_73 hk).trans ((wp_same (L' := [.ref 72, .int x1, .int x2, .int x3, .int x4, .int (x5 + nI 1)]) xd186_82 (Or.inr rfl) rfl).trans (wx_goto xd186_85 rfl))
theorem x186_88 {x1 : Int32} {x2 : Int32} {x3 : Int32} {x4 : Int32} {x5 : Int32} : wp Ln xs 186 88 [.ref 72, .int x1, .int x2, .int x3, .int x4, .int x5] [] (u, ml_h m lm) Φ = wp Ln xs 181 0 [.ref 72, .int x1, mj_hole] [] (u, ml_h m lm) (mk Ln xs 186 90 [.ref 72, .int x1, .int x2, .int x3, .int x4, .int x5] [] Φ) := (wp_same xd186_88 (Or.inr rfl) rfl).trans ((wp_same xd186_89 (Or.inr rfl) rfl).trans (wm_cv (As := [.int x1]) (rest := []) xd186_90 rfl rfl (show ml_L[72]? = _ from rfl) (Nat.le_of_ble_eq_true rfl) (Nat.le_of_ble_eq_true rfl) (Nat.le_of_ble_eq_true rfl) (Nat.le_of_ble_eq_true rfl)))
theorem x186_93 {x1 : Int32} {x2 : Int32} {x3 : Int32} {x4 : Int32} {x5 : Int32} : wp Ln xs 186 93 [.ref 72, .int x1, .int x2, .int x3, .int x4, .int x5] [] (u, ml_h m lm) Φ = Φ (.inl (some (.int x3))) (u, ml_h m lm) := (wp_same xd186_93 (Or.inr rfl) rfl).trans (wp_fin (v := some (.int x3)) xd186_94 (Or.inr rfl) rfl (mj_fin_i rfl))
/- PickedFormsModel.set -/
theorem xd187_0 : decode (mj_b 187) 0 = .ok (.iload_n 1, 1) := by decide +kernel
theorem xd187_1 : decode (mj_b 187) 1 = .ok (.ifCond .ne 13, 3) := by decide +kernel
theorem xd187_4 : decode (mj_b 187) 4 = .ok (.iload_n 2, 1) := by decide +kernel
theorem xd187_5 : decode (mj_b 187) 5 = .ok (.iconst 1, 1) := by decide +kernel
theorem xd187_6 : decode (mj_b 187) 6 = .ok (.bipush 16, 2) := by decide +kernel
theorem xd187_8 : decode (mj_b 187) 8 = .ok (.invokestatic 38, 3) := by decide +kernel
theorem xd187_11 : decode (mj_b 187) 11 = .ok (.goto 40, 3) := by decide +kernel
theorem xd187_14 : decode (mj_b 187) 14 = .ok (.iload_n 1, 1) := by decide +kernel
theorem xd187_15 : decode (mj_b 187) 15 = .ok (.iconst 1, 1) := by decide +kernel
theorem xd187_16 : decode (mj_b 187) 16 = .ok (.if_icmp .ne 13, 3) := by decide +kernel
theorem xd187_19 : decode (mj_b 187) 19 = .ok (.iload_n 2, 1) := by decide +kernel
theorem xd187_20 : decode (mj_b 187) 20 = .ok (.iconst 2, 1) := by decide +kernel
theorem xd187_21 : decode (mj_b 187) 21 = .ok (.bipush 16, 2) := by decide +kernel
theorem xd187_23 : decode (mj_b 187) 23 = .ok (.invokestatic 38, 3) := by decide +kernel
theorem xd187_26 : decode (mj_b 187) 26 = .ok (.goto 25, 3) := by decide +kernel
theorem xd187_29 : decode (mj_b 187) 29 = .ok (.iload_n 2, 1) := by decide +kernel
theorem xd187_30 : decode (mj_b 187) 30 = .ok (.iconst 1, 1) := by decide +kernel
theorem xd187_31 : decode (mj_b 187) 31 = .ok (.bipush 31, 2) := by decide +kernel
theorem xd187_33 : decode (mj_b 187) 33 = .ok (.invokestatic 38, 3) := by decide +kernel
theorem xd187_36 : decode (mj_b 187) 36 = .ok (.ifCond .eq 14, 3) := by decide +kernel
theorem xd187_39 : decode (mj_b 187) 39 = .ok (.iload_n 2, 1) := by decide +kernel
theorem xd187_40 : decode (mj_b 187) 40 = .ok (.iconst 1, 1) := by decide +kernel
theorem xd187_41 : decode (mj_b 187) 41 = .ok (.iand, 1) := by decide +kernel
theorem xd187_42 : decode (mj_b 187) 42 = .ok (.iconst 1, 1) := by decide +kernel
theorem xd187_43 : decode (mj_b 187) 43 = .ok (.if_icmp .ne 7, 3) := by decide +kernel
theorem xd187_46 : decode (mj_b 187) 46 = .ok (.iconst 1, 1) := by decide +kernel
theorem xd187_47 : decode (mj_b 187) 47 = .ok (.goto 4, 3) := by decide +kernel
theorem xd187_50 : decode (mj_b 187) 50 = .ok (.iconst 0, 1) := by decide +kernel
theorem xd187_51 : decode (mj_b 187) 51 = .ok (.istore_n 3, 1) := by decide +kernel
theorem xd187_52 : decode (mj_b 187) 52 = .ok (.aload_n 0, 1) := by decide +kernel
theorem xd187_53 : decode (mj_b 187) 53 = .ok (.iload_n 1, 1) := by decide +kernel
theorem xd187_54 : decode (mj_b 187) 54 = .ok (.iconst 0, 1) := by decide +kernel
theorem xd187_55 : decode (mj_b 187) 55 = .ok (.iconst 2, 1) := by decide +kernel
theorem xd187_56 : decode (mj_b 187) 56 = .ok (.invokestatic 38, 3) := by decide +kernel
theorem xd187_59 : decode (mj_b 187) 59 = .ok (.ifCond .ne 7, 3) := by decide +kernel
theorem xd187_62 : decode (mj_b 187) 62 = .ok (.iconst 1, 1) := by decide +kernel
theorem xd187_63 : decode (mj_b 187) 63 = .ok (.goto 12, 3) := by decide +kernel
theorem xd187_66 : decode (mj_b 187) 66 = .ok (.iload_n 3, 1) := by decide +kernel
theorem xd187_67 : decode (mj_b 187) 67 = .ok (.ifCond .ne 7, 3) := by decide +kernel
theorem xd187_70 : decode (mj_b 187) 70 = .ok (.iconst 2, 1) := by decide +kernel
theorem xd187_71 : decode (mj_b 187) 71 = .ok (.goto 4, 3) := by decide +kernel
theorem xd187_74 : decode (mj_b 187) 74 = .ok (.iconst 0, 1) := by decide +kernel
theorem xd187_75 : decode (mj_b 187) 75 = .ok (.invokevirtual 114, 3) := by decide +kernel
theorem xd187_78 : decode (mj_b 187) 78 = .ok (.ifCond .ne 5, 3) := by decide +kernel
theorem xd187_81 : decode (mj_b 187) 81 = .ok (.iconst 0, 1) := by decide +kernel
theorem xd187_82 : decode (mj_b 187) 82 = .ok (.ireturn, 1) := by decide +kernel
theorem xd187_83 : decode (mj_b 187) 83 = .ok (.aload_n 0, 1) := by decide +kernel
theorem xd187_84 : decode (mj_b 187) 84 = .ok (.invokevirtual 117, 3) := by decide +kernel
theorem xd187_87 : decode (mj_b 187) 87 = .ok (.aload_n 0, 1) := by decide +kernel
theorem xd187_88 : decode (mj_b 187) 88 = .ok (.getfield 7, 3) := by decide +kernel
theorem xd187_91 : decode (mj_b 187) 91 = .ok (.iconst 2, 1) := by decide +kernel
theorem xd187_92 : decode (mj_b 187) 92 = .ok (.iload_n 1, 1) := by decide +kernel
theorem xd187_93 : decode (mj_b 187) 93 = .ok (.iadd, 1) := by decide +kernel
theorem xd187_94 : decode (mj_b 187) 94 = .ok (.iaload, 1) := by decide +kernel
theorem xd187_95 : decode (mj_b 187) 95 = .ok (.istore 4, 2) := by decide +kernel
theorem xd187_97 : decode (mj_b 187) 97 = .ok (.aload_n 0, 1) := by decide +kernel
theorem xd187_98 : decode (mj_b 187) 98 = .ok (.getfield 7, 3) := by decide +kernel
theorem xd187_101 : decode (mj_b 187) 101 = .ok (.iconst 2, 1) := by decide +kernel
theorem xd187_102 : decode (mj_b 187) 102 = .ok (.iload_n 1, 1) := by decide +kernel
theorem xd187_103 : decode (mj_b 187) 103 = .ok (.iadd, 1) := by decide +kernel
theorem xd187_104 : decode (mj_b 187) 104 = .ok (.iload_n 2, 1) := by decide +kernel
theorem xd187_105 : decode (mj_b 187) 105 = .ok (.iastore, 1) := by decide +kernel
theorem xd187_106 : decode (mj_b 187) 106 = .ok (.iload 4, 2) := by decide +kernel
theorem xd187_108 : decode (mj_b 187) 108 = .ok (.ireturn, 1) := by decide +kernel
theorem x187_0 {x1 : Int32} {x2 : Int32} : wp Ln xs 187 0 [.ref 72, .int x1, .int x2, mj_hole, mj_hole] [] (u, ml_h m lm) Φ = if ¬ x1 = (nI 0) then wp Ln xs 187 14 [.ref 72, .int x1, .int x2, mj_hole, mj_hole] [] (u, ml_h m lm) Φ else wp Ln xs 187 4 [.ref 72, .int x1, .int x2, mj_hole, mj_hole] [] (u, ml_h m lm) Φ := (wp_same xd187_0 (Or.inr rfl) rfl).trans (wx_if xd187_1 rfl rfl (¬ x1 = (nI 0)) mb_ne)
theorem x187_4 {x1 : Int32} {x2 : Int32} : wp Ln xs 187 4 [.ref 72, .int x1, .int x2, mj_hole, mj_hole] [] (u, ml_h m lm) Φ = wp Ln xs 152 0 [.int x2, .int (nI 1), .int (nI 16)] [] (u, ml_h m lm) (mk Ln xs 187 8 [.ref 72, .int x1, .int x2, mj_hole, mj_hole] [] Φ) := (wp_same xd187_4 (Or.inr rfl) rfl).trans ((wp_same (S' := [.int (nI 1), .int x2]) xd187_5 (Or.inr rfl) rfl).trans ((wp_same (S' := [.int (nI 16), .int (nI 1), .int x2]) xd187_6 (Or.inr rfl) rfl).trans (wm_cs (As := [.int x2, .int (nI 1), .int (nI 16)]) (rest := []) xd187_8 rfl rfl (Nat.le_of_ble_eq_true rfl) (Nat.le_of_ble_eq_true rfl) (Nat.le_of_ble_eq_true rfl) (Nat.le_of_ble_eq_true rfl))))
theorem x187_11 {x1 : Int32} {x2 : Int32} {xs0 : Int32} : wp Ln xs 187 11 [.ref 72, .int x1, .int x2, mj_hole, mj_hole] [.int xs0] (u, ml_h m lm) Φ = wp Ln xs 187 51 [.ref 72, .int x1, .int x2, mj_hole, mj_hole] [.int xs0] (u, ml_h m lm) Φ := wx_goto xd187_11 rfl
theorem x187_14 {x1 : Int32} {x2 : Int32} : wp Ln xs 187 14 [.ref 72, .int x1, .int x2, mj_hole, mj_hole] [] (u, ml_h m lm) Φ = if ¬ x1 = (nI 1) then wp Ln xs 187 29 [.ref 72, .int x1, .int x2, mj_hole, mj_hole] [] (u, ml_h m lm) Φ else wp Ln xs 187 19 [.ref 72, .int x1, .int x2, mj_hole, mj_hole] [] (u, ml_h m lm) Φ := (wp_same xd187_14 (Or.inr rfl) rfl).trans ((wp_same (S' := [.int (nI 1), .int x1]) xd187_15 (Or.inr rfl) rfl).trans (wx_icmp xd187_16 rfl rfl (¬ x1 = (nI 1)) mb_ne))
theorem x187_19 {x1 : Int32} {x2 : Int32} : wp Ln xs 187 19 [.ref 72, .int x1, .int x2, mj_hole, mj_hole] [] (u, ml_h m lm) Φ = wp Ln xs 152 0 [.int x2, .int (nI 2), .int (nI 16)] [] (u, ml_h m lm) (mk Ln xs 187 23 [.ref 72, .int x1, .int x2, mj_hole, mj_hole] [] Φ) := (wp_same xd187_19 (Or.inr rfl) rfl).trans ((wp_same (S' := [.int (nI 2), .int x2]) xd187_20 (Or.inr rfl) rfl).trans ((wp_same (S' := [.int (nI 16), .int (nI 2), .int x2]) xd187_21 (Or.inr rfl) rfl).trans (wm_cs (As := [.int x2, .int (nI 2), .int (nI 16)]) (rest := []) xd187_23 rfl rfl (Nat.le_of_ble_eq_true rfl) (Nat.le_of_ble_eq_true rfl) (Nat.le_of_ble_eq_true rfl) (Nat.le_of_ble_eq_true rfl))))
theorem x187_26 {x1 : Int32} {x2 : Int32} {xs0 : Int32} : wp Ln xs 187 26 [.ref 72, .int x1, .int x2, mj_hole, mj_hole] [.int xs0] (u, ml_h m lm) Φ = wp Ln xs 187 51 [.ref 72, .int x1, .int x2, mj_hole, mj_hole] [.int xs0] (u, ml_h m lm) Φ := wx_goto xd187_26 rfl
theorem x187_29 {x1 : Int32} {x2 : Int32} : wp Ln xs 187 29 [.ref 72, .int x1, .int x2, mj_hole, mj_hole] [] (u, ml_h m lm) Φ = wp Ln xs 152 0 [.int x2, .int (nI 1), .int (nI 31)] [] (u, ml_h m lm) (mk Ln xs 187 33 [.ref 72, .int x1, .int x2, mj_hole, mj_hole] [] Φ) := (wp_same xd187_29 (Or.inr rfl) rfl).trans ((wp_same (S' := [.int (nI 1), .int x2]) xd187_30 (Or.inr rfl) rfl).trans ((wp_same (S' := [.int (nI 31), .int (nI 1), .int x2]) xd187_31 (Or.inr rfl) rfl).trans (wm_cs (As := [.int x2, .int (nI 1), .int (nI 31)]) (rest := []) xd187_33 rfl rfl (Nat.le_of_ble_eq_true rfl) (Nat.le_of_ble_eq_true rfl) (Nat.le_of_ble_eq_true rfl) (Nat.le_of_ble_eq_true rfl))))
theorem x187_36 {x1 : Int32} {x2 : Int32} {xs0 : Int32} : wp Ln xs 187 36 [.ref 72, .int x1, .int x2, mj_hole, mj_hole] [.int xs0] (u, ml_h m lm) Φ = if xs0 = (nI 0) then wp Ln xs 187 50 [.ref 72, .int x1, .int x2, mj_hole, mj_hole] [] (u, ml_h m lm) Φ else wp Ln xs 187 39 [.ref 72, .int x1, .int x2, mj_hole, mj_hole] [] (u, ml_h m lm) Φ := wx_if xd187_36 rfl rfl (xs0 = (nI 0)) mb_eq
theorem x187_39 {x1 : Int32} {x2 : Int32} : wp Ln xs 187 39 [.ref 72, .int x1, .int x2, mj_hole, mj_hole] [] (u, ml_h m lm) Φ = if ¬ (x2 &&& (nI 1)) = (nI 1) then wp Ln xs 187 50 [.ref 72, .int x1, .int x2, mj_hole, mj_hole] [] (u, ml_h m lm) Φ else wp Ln xs 187 46 [.ref 72, .int x1, .int x2, mj_hole, mj_hole] [] (u, ml_h m lm) Φ := (wp_same xd187_39 (Or.inr rfl) rfl).trans ((wp_same (S' := [.int (nI 1), .int x2]) xd187_40 (Or.inr rfl) rfl).trans ((wp_same xd187_41 (Or.inr rfl) rfl).trans ((wp_same (S' := [.int (nI 1), .int (x2 &&& (nI 1))]) xd187_42 (Or.inr rfl) rfl).trans (wx_icmp xd187_43 rfl rfl (¬ (x2 &&& (nI 1)) = (nI 1)) mb_ne))))
theorem x187_46 {x1 : Int32} {x2 : Int32} : wp Ln xs 187 46 [.ref 72, .int x1, .int x2, mj_hole, mj_hole] [] (u, ml_h m lm) Φ = wp Ln xs 187 51 [.ref 72, .int x1, .int x2, mj_hole, mj_hole] [.int (nI 1)] (u, ml_h m lm) Φ := (wp_same (S' := [.int (nI 1)]) xd187_46 (Or.inr rfl) rfl).trans (wx_goto xd187_47 rfl)
theorem x187_50 {x1 : Int32} {x2 : Int32} : wp Ln xs 187 50 [.ref 72, .int x1, .int x2, mj_hole, mj_hole] [] (u, ml_h m lm) Φ = wp Ln xs 187 51 [.ref 72, .int x1, .int x2, mj_hole, mj_hole] [.int (nI 0)] (u, ml_h m lm) Φ := wp_same (S' := [.int (nI 0)]) xd187_50 (Or.inr rfl) rfl
theorem x187_51 {x1 : Int32} {x2 : Int32} {xs0 : Int32} : wp Ln xs 187 51 [.ref 72, .int x1, .int x2, mj_hole, mj_hole] [.int xs0] (u, ml_h m lm) Φ = wp Ln xs 152 0 [.int x1, .int (nI 0), .int (nI 2)] [] (u, ml_h m lm) (mk Ln xs 187 56 [.ref 72, .int x1, .int x2, .int xs0, mj_hole] [.ref 72] Φ) := (wp_same (L' := [.ref 72, .int x1, .int x2, .int xs0, mj_hole]) xd187_51 (Or.inr rfl) rfl).trans ((wp_same xd187_52 (Or.inr rfl) rfl).trans ((wp_same xd187_53 (Or.inr rfl) rfl).trans ((wp_same (S' := [.int (nI 0), .int x1, .ref 72]) xd187_54 (Or.inr rfl) rfl).trans ((wp_same (S' := [.int (nI 2), .int (nI 0), .int x1, .ref 72]) xd187_55 (Or.inr rfl) rfl).trans (wm_cs (As := [.int x1, .int (nI 0), .int (nI 2)]) (rest := [.ref 72]) xd187_56 rfl rfl (Nat.le_of_ble_eq_true rfl) (Nat.le_of_ble_eq_true rfl) (Nat.le_of_ble_eq_true rfl) (Nat.le_of_ble_eq_true rfl))))))
theorem x187_59 {x1 : Int32} {x2 : Int32} {x3 : Int32} {xs0 : Int32} : wp Ln xs 187 59 [.ref 72, .int x1, .int x2, .int x3, mj_hole] [.int xs0, .ref 72] (u, ml_h m lm) Φ = if ¬ xs0 = (nI 0) then wp Ln xs 187 66 [.ref 72, .int x1, .int x2, .int x3, mj_hole] [.ref 72] (u, ml_h m lm) Φ else wp Ln xs 187 62 [.ref 72, .int x1, .int x2, .int x3, mj_hole] [.ref 72] (u, ml_h m lm) Φ := wx_if xd187_59 rfl rfl (¬ xs0 = (nI 0)) mb_ne
theorem x187_62 {x1 : Int32} {x2 : Int32} {x3 : Int32} : wp Ln xs 187 62 [.ref 72, .int x1, .int x2, .int x3, mj_hole] [.ref 72] (u, ml_h m lm) Φ = wp Ln xs 187 75 [.ref 72, .int x1, .int x2, .int x3, mj_hole] [.int (nI 1), .ref 72] (u, ml_h m lm) Φ := (wp_same (S' := [.int (nI 1), .ref 72]) xd187_62 (Or.inr rfl) rfl).trans (wx_goto xd187_63 rfl)
theorem x187_66 {x1 : Int32} {x2 : Int32} {x3 : Int32} : wp Ln xs 187 66 [.ref 72, .int x1, .int x2, .int x3, mj_hole] [.ref 72] (u, ml_h m lm) Φ = if ¬ x3 = (nI 0) then wp Ln xs 187 74 [.ref 72, .int x1, .int x2, .int x3, mj_hole] [.ref 72] (u, ml_h m lm) Φ else wp Ln xs 187 70 [.ref 72, .int x1, .int x2, .int x3, mj_hole] [.ref 72] (u, ml_h m lm) Φ := (wp_same xd187_66 (Or.inr rfl) rfl).trans (wx_if xd187_67 rfl rfl (¬ x3 = (nI 0)) mb_ne)
theorem x187_70 {x1 : Int32} {x2 : Int32} {x3 : Int32} : wp Ln xs 187 70 [.ref 72, .int x1, .int x2, .int x3, mj_hole] [.ref 72] (u, ml_h m lm) Φ = wp Ln xs 187 75 [.ref 72, .int x1, .int x2, .int x3, mj_hole] [.int (nI 2), .ref 72] (u, ml_h m lm) Φ := (wp_same (S' := [.int (nI 2), .ref 72]) xd187_70 (Or.inr rfl) rfl).trans (wx_goto xd187_71 rfl)
theorem x187_74 {x1 : Int32} {x2 : Int32} {x3 : Int32} : wp Ln xs 187 74 [.ref 72, .int x1, .int x2, .int x3, mj_hole] [.ref 72] (u, ml_h m lm) Φ = wp Ln xs 187 75 [.ref 72, .int x1, .int x2, .int x3, mj_hole] [.int (nI 0), .ref 72] (u, ml_h m lm) Φ := wp_same (S' := [.int (nI 0), .ref 72]) xd187_74 (Or.inr rfl) rfl
theorem x187_75 {x1 : Int32} {x2 : Int32} {x3 : Int32} {xs0 : Int32} : wp Ln xs 187 75 [.ref 72, .int x1, .int x2, .int x3, mj_hole] [.int xs0, .ref 72] (u, ml_h m lm) Φ = wp Ln xs 154 0 [.ref 72, .int xs0] [] (u, ml_h m lm) (mk Ln xs 187 75 [.ref 72, .int x1, .int x2, .int x3, mj_hole] [] Φ) := wm_cv (As := [.int xs0]) (rest := []) xd187_75 rfl rfl (show ml_L[72]? = _ from rfl) (Nat.le_of_ble_eq_true rfl) (Nat.le_of_ble_eq_true rfl) (Nat.le_of_ble_eq_true rfl) (Nat.le_of_ble_eq_true rfl)
theorem x187_78 {x1 : Int32} {x2 : Int32} {x3 : Int32} {xs0 : Int32} : wp Ln xs 187 78 [.ref 72, .int x1, .int x2, .int x3, mj_hole] [.int xs0] (u, ml_h m lm) Φ = if ¬ xs0 = (nI 0) then wp Ln xs 187 83 [.ref 72, .int x1, .int x2, .int x3, mj_hole] [] (u, ml_h m lm) Φ else wp Ln xs 187 81 [.ref 72, .int x1, .int x2, .int x3, mj_hole] [] (u, ml_h m lm) Φ := wx_if xd187_78 rfl rfl (¬ xs0 = (nI 0)) mb_ne
theorem x187_81 {x1 : Int32} {x2 : Int32} {x3 : Int32} : wp Ln xs 187 81 [.ref 72, .int x1, .int x2, .int x3, mj_hole] [] (u, ml_h m lm) Φ = Φ (.inl (some (.int (nI 0)))) (u, ml_h m lm) := (wp_same (S' := [.int (nI 0)]) xd187_81 (Or.inr rfl) rfl).trans (wp_fin (v := some (.int (nI 0))) xd187_82 (Or.inr rfl) rfl (mj_fin_i rfl))
theorem x187_83 {x1 : Int32} {x2 : Int32} {x3 : Int32} : wp Ln xs 187 83 [.ref 72, .int x1, .int x2, .int x3, mj_hole] [] (u, ml_h m lm) Φ = wp Ln xs 155 0 [.ref 72, mj_hole] [] (u, ml_h m lm) (mk Ln xs 187 84 [.ref 72, .int x1, .int x2, .int x3, mj_hole] [] Φ) := (wp_same xd187_83 (Or.inr rfl) rfl).trans (wm_cv (As := []) (rest := []) xd187_84 rfl rfl (show ml_L[72]? = _ from rfl) (Nat.le_of_ble_eq_true rfl) (Nat.le_of_ble_eq_true rfl) (Nat.le_of_ble_eq_true rfl) (Nat.le_of_ble_eq_true rfl))
theorem x187_87 {x1 : Int32} {x2 : Int32} {x3 : Int32} : wp Ln xs 187 87 [.ref 72, .int x1, .int x2, .int x3, mj_hole] [] (u, ml_h m lm) Φ = wp Ln xs 187 94 [.ref 72, .int x1, .int x2, .int x3, mj_hole] [.int ((nI 2) + x1), .ref 73] (u, ml_h m lm) Φ := (wp_same xd187_87 (Or.inr rfl) rfl).trans ((wm_getr xd187_88 rfl (show ml_L[72]? = _ from rfl) rfl (Nat.le_of_ble_eq_true rfl)).trans ((wp_same (S' := [.int (nI 2), .ref 73]) xd187_91 (Or.inr rfl) rfl).trans ((wp_same xd187_92 (Or.inr rfl) rfl).trans (wp_same xd187_93 (Or.inr rfl) rfl))))
theorem x187_94 {x1 : Int32} {x2 : Int32} {x3 : Int32} {k : Nat} (hk : k < 251) : wp Ln xs 187 94 [.ref 72, .int x1, .int x2, .int x3, mj_hole] [.int (nI k), .ref 73] (u, ml_h m lm) Φ = wp Ln xs 187 105 [.ref 72, .int x1, .int x2, .int x3, .int (m 73 k)] [.int x2, .int ((nI 2) + x1), .ref 73] (u, ml_h m lm) Φ := (wm_iald (k := k) xd187_94 ml_ia_73 (by decide) hk).trans ((wp_same (L' := [.ref 72, .int x1, .int x2, .int x3, .int (m 73 k)]) xd187_95 (Or.inr rfl) rfl).trans ((wp_same xd187_97 (Or.inr rfl) rfl).trans ((wm_getr xd187_98 rfl (show ml_L[72]? = _ from rfl) rfl (Nat.le_of_ble_eq_true rfl)).trans ((wp_same (S' := [.int (nI 2), .ref 73]) xd187_101 (Or.inr rfl) rfl).trans ((wp_same xd187_102 (Or.inr rfl) rfl).trans ((wp_same xd187_103 (Or.inr rfl) rfl).trans (wp_same xd187_104 (Or.inr rfl) rfl)))))))
theorem x187_105 {x1 : Int32} {x2 : Int32} {x3 : Int32} {x4 : Int32} {xs0 : Int32} {k : Nat} (hk : k < 251) : wp Ln xs 187 105 [.ref 72, .int x1, .int x2, .int x3, .int x4] [.int xs0, .int (nI k), .ref 73] (u, ml_h m lm) Φ = Φ (.inl (some (.int x4))) (u, ml_h (ml_s m 73 k xs0) lm) := (wm_iast (k := k) xd187_105 ml_ia_73 hk).trans ((wp_same xd187_106 (Or.inr rfl) rfl).trans (wp_fin (v := some (.int x4)) xd187_108 (Or.inr rfl) rfl (mj_fin_i rfl)))
end MXi
