/-! ===== the wrappers of the law ===== -/
section WRAP
variable {Ln : Nat} {xs : Nat → Int32} {u u1 : mj_U} {m m1 : ml_M} {lm : ml_J}
theorem wk81 {x1 : Int32} {v : Int32} (h : ∀ Φ : mj_R → mj_W → Prop, wp Ln xs 82 0 [.ref 1, .int x1] [] (u, ml_h m lm) Φ = Φ (.inl (some (.int v))) (u1, ml_h m1 lm)) : ∀ Φ : mj_R → mj_W → Prop, wp Ln xs 81 0 [.ref 1, .int x1, .ref 81, mj_hole] [] (u, ml_h m lm) Φ = Φ (.inl (some (.int (nI 0)))) (u1, ml_h m1 (ml_sj lm 81 0 v.toInt64)) := fun Φ => by rw [x81_0, h, mk_v, x81_7, x81_8 (by decide), x81_18]
theorem we81_0 {x1 : Int32} (h : ∀ Φ : mj_R → mj_W → Prop, wp Ln xs 82 0 [.ref 1, .int x1] [] (u, ml_h m lm) Φ = Φ (.inr 0) (u1, ml_h m1 lm)) : ∀ Φ : mj_R → mj_W → Prop, wp Ln xs 81 0 [.ref 1, .int x1, .ref 81, mj_hole] [] (u, ml_h m lm) Φ = Φ (.inl (some (.int (nI 1)))) (u1, ml_h m1 lm) := fun Φ => by
  rw [x81_0, h]
  exact Eq.trans (b := wp Ln xs 81 13 [.ref 1, .int x1, .ref 81, mj_hole] [] (u1, ml_h m1 lm) Φ) rfl x81_13
theorem we81_1 {x1 : Int32} (h : ∀ Φ : mj_R → mj_W → Prop, wp Ln xs 82 0 [.ref 1, .int x1] [] (u, ml_h m lm) Φ = Φ (.inr 1) (u1, ml_h m1 lm)) : ∀ Φ : mj_R → mj_W → Prop, wp Ln xs 81 0 [.ref 1, .int x1, .ref 81, mj_hole] [] (u, ml_h m lm) Φ = Φ (.inl (some (.int (nI 2)))) (u1, ml_h m1 lm) := fun Φ => by
  rw [x81_0, h]
  exact Eq.trans (b := wp Ln xs 81 16 [.ref 1, .int x1, .ref 81, mj_hole] [] (u1, ml_h m1 lm) Φ) rfl x81_16
theorem wk90  {v : Int32} (h : ∀ Φ : mj_R → mj_W → Prop, wp Ln xs 91 0 [.ref 1] [] (u, ml_h m lm) Φ = Φ (.inl (some (.int v))) (u1, ml_h m1 lm)) : ∀ Φ : mj_R → mj_W → Prop, wp Ln xs 90 0 [.ref 1, .ref 81, mj_hole] [] (u, ml_h m lm) Φ = Φ (.inl (some (.int (nI 0)))) (u1, ml_h m1 (ml_sj lm 81 0 v.toInt64)) := fun Φ => by rw [x90_0, h, mk_v, x90_6, x90_7 (by decide), x90_14]
theorem we90_1  (h : ∀ Φ : mj_R → mj_W → Prop, wp Ln xs 91 0 [.ref 1] [] (u, ml_h m lm) Φ = Φ (.inr 1) (u1, ml_h m1 lm)) : ∀ Φ : mj_R → mj_W → Prop, wp Ln xs 90 0 [.ref 1, .ref 81, mj_hole] [] (u, ml_h m lm) Φ = Φ (.inl (some (.int (nI 1)))) (u1, ml_h m1 lm) := fun Φ => by
  rw [x90_0, h]
  exact Eq.trans (b := wp Ln xs 90 12 [.ref 1, .ref 81, mj_hole] [] (u1, ml_h m1 lm) Φ) rfl x90_12
theorem wk92 {x1 : Int32} {x2 : Int32} {v : Int32} (h : ∀ Φ : mj_R → mj_W → Prop, wp Ln xs 93 0 [.ref 1, .int x1, .int x2, mj_hole] [] (u, ml_h m lm) Φ = Φ (.inl (some (.int v))) (u1, ml_h m1 lm)) : ∀ Φ : mj_R → mj_W → Prop, wp Ln xs 92 0 [.ref 1, .int x1, .int x2, .ref 81, mj_hole] [] (u, ml_h m lm) Φ = Φ (.inl (some (.int (nI 0)))) (u1, ml_h m1 (ml_sj lm 81 0 v.toInt64)) := fun Φ => by rw [x92_0, h, mk_v, x92_8, x92_9 (by decide), x92_21]
theorem we92_2 {x1 : Int32} {x2 : Int32} (h : ∀ Φ : mj_R → mj_W → Prop, wp Ln xs 93 0 [.ref 1, .int x1, .int x2, mj_hole] [] (u, ml_h m lm) Φ = Φ (.inr 2) (u1, ml_h m1 lm)) : ∀ Φ : mj_R → mj_W → Prop, wp Ln xs 92 0 [.ref 1, .int x1, .int x2, .ref 81, mj_hole] [] (u, ml_h m lm) Φ = Φ (.inl (some (.int (nI 1)))) (u1, ml_h m1 lm) := fun Φ => by
  rw [x92_0, h]
  exact Eq.trans (b := wp Ln xs 92 15 [.ref 1, .int x1, .int x2, .ref 81, mj_hole] [] (u1, ml_h m1 lm) Φ) rfl x92_15
theorem we92_0 {x1 : Int32} {x2 : Int32} (h : ∀ Φ : mj_R → mj_W → Prop, wp Ln xs 93 0 [.ref 1, .int x1, .int x2, mj_hole] [] (u, ml_h m lm) Φ = Φ (.inr 0) (u1, ml_h m1 lm)) : ∀ Φ : mj_R → mj_W → Prop, wp Ln xs 92 0 [.ref 1, .int x1, .int x2, .ref 81, mj_hole] [] (u, ml_h m lm) Φ = Φ (.inl (some (.int (nI 2)))) (u1, ml_h m1 lm) := fun Φ => by
  rw [x92_0, h]
  exact Eq.trans (b := wp Ln xs 92 19 [.ref 1, .int x1, .int x2, .ref 81, mj_hole] [] (u1, ml_h m1 lm) Φ) rfl x92_19
theorem wk96 {x1 : Int32} {v : Int32} (h : ∀ Φ : mj_R → mj_W → Prop, wp Ln xs 97 0 [.ref 1, .int x1, mj_hole] [] (u, ml_h m lm) Φ = Φ (.inl (some (.int v))) (u1, ml_h m1 lm)) : ∀ Φ : mj_R → mj_W → Prop, wp Ln xs 96 0 [.ref 1, .int x1, .ref 81, mj_hole] [] (u, ml_h m lm) Φ = Φ (.inl (some (.int (nI 0)))) (u1, ml_h m1 (ml_sj lm 81 0 v.toInt64)) := fun Φ => by rw [x96_0, h, mk_v, x96_7, x96_8 (by decide), x96_15]
theorem we96_2 {x1 : Int32} (h : ∀ Φ : mj_R → mj_W → Prop, wp Ln xs 97 0 [.ref 1, .int x1, mj_hole] [] (u, ml_h m lm) Φ = Φ (.inr 2) (u1, ml_h m1 lm)) : ∀ Φ : mj_R → mj_W → Prop, wp Ln xs 96 0 [.ref 1, .int x1, .ref 81, mj_hole] [] (u, ml_h m lm) Φ = Φ (.inl (some (.int (nI 1)))) (u1, ml_h m1 lm) := fun Φ => by
  rw [x96_0, h]
  exact Eq.trans (b := wp Ln xs 96 13 [.ref 1, .int x1, .ref 81, mj_hole] [] (u1, ml_h m1 lm) Φ) rfl x96_13
theorem wk99 {x1 : Int32} {v : Int32} (h : ∀ Φ : mj_R → mj_W → Prop, wp Ln xs 100 0 [.ref 1, .int x1, mj_hole] [] (u, ml_h m lm) Φ = Φ (.inl (some (.int v))) (u1, ml_h m1 lm)) : ∀ Φ : mj_R → mj_W → Prop, wp Ln xs 99 0 [.ref 1, .int x1, .ref 81, mj_hole] [] (u, ml_h m lm) Φ = Φ (.inl (some (.int (nI 0)))) (u1, ml_h m1 (ml_sj lm 81 0 v.toInt64)) := fun Φ => by rw [x99_0, h, mk_v, x99_7, x99_8 (by decide), x99_18]
theorem we99_2 {x1 : Int32} (h : ∀ Φ : mj_R → mj_W → Prop, wp Ln xs 100 0 [.ref 1, .int x1, mj_hole] [] (u, ml_h m lm) Φ = Φ (.inr 2) (u1, ml_h m1 lm)) : ∀ Φ : mj_R → mj_W → Prop, wp Ln xs 99 0 [.ref 1, .int x1, .ref 81, mj_hole] [] (u, ml_h m lm) Φ = Φ (.inl (some (.int (nI 1)))) (u1, ml_h m1 lm) := fun Φ => by
  rw [x99_0, h]
  exact Eq.trans (b := wp Ln xs 99 13 [.ref 1, .int x1, .ref 81, mj_hole] [] (u1, ml_h m1 lm) Φ) rfl x99_13
theorem we99_1 {x1 : Int32} (h : ∀ Φ : mj_R → mj_W → Prop, wp Ln xs 100 0 [.ref 1, .int x1, mj_hole] [] (u, ml_h m lm) Φ = Φ (.inr 1) (u1, ml_h m1 lm)) : ∀ Φ : mj_R → mj_W → Prop, wp Ln xs 99 0 [.ref 1, .int x1, .ref 81, mj_hole] [] (u, ml_h m lm) Φ = Φ (.inl (some (.int (nI 2)))) (u1, ml_h m1 lm) := fun Φ => by
  rw [x99_0, h]
  exact Eq.trans (b := wp Ln xs 99 16 [.ref 1, .int x1, .ref 81, mj_hole] [] (u1, ml_h m1 lm) Φ) rfl x99_16
theorem wk103 {x1 : Int32} {x2 : Int32} {v : Int32} (h : ∀ Φ : mj_R → mj_W → Prop, wp Ln xs 104 0 [.ref 1, .int x1, .int x2, mj_hole, mj_hole] [] (u, ml_h m lm) Φ = Φ (.inl (some (.int v))) (u1, ml_h m1 lm)) : ∀ Φ : mj_R → mj_W → Prop, wp Ln xs 103 0 [.ref 1, .int x1, .int x2, .ref 81, mj_hole] [] (u, ml_h m lm) Φ = Φ (.inl (some (.int (nI 0)))) (u1, ml_h m1 (ml_sj lm 81 0 v.toInt64)) := fun Φ => by rw [x103_0, h, mk_v, x103_8, x103_9 (by decide), x103_21]
theorem we103_2 {x1 : Int32} {x2 : Int32} (h : ∀ Φ : mj_R → mj_W → Prop, wp Ln xs 104 0 [.ref 1, .int x1, .int x2, mj_hole, mj_hole] [] (u, ml_h m lm) Φ = Φ (.inr 2) (u1, ml_h m1 lm)) : ∀ Φ : mj_R → mj_W → Prop, wp Ln xs 103 0 [.ref 1, .int x1, .int x2, .ref 81, mj_hole] [] (u, ml_h m lm) Φ = Φ (.inl (some (.int (nI 1)))) (u1, ml_h m1 lm) := fun Φ => by
  rw [x103_0, h]
  exact Eq.trans (b := wp Ln xs 103 15 [.ref 1, .int x1, .int x2, .ref 81, mj_hole] [] (u1, ml_h m1 lm) Φ) rfl x103_15
theorem we103_1 {x1 : Int32} {x2 : Int32} (h : ∀ Φ : mj_R → mj_W → Prop, wp Ln xs 104 0 [.ref 1, .int x1, .int x2, mj_hole, mj_hole] [] (u, ml_h m lm) Φ = Φ (.inr 1) (u1, ml_h m1 lm)) : ∀ Φ : mj_R → mj_W → Prop, wp Ln xs 103 0 [.ref 1, .int x1, .int x2, .ref 81, mj_hole] [] (u, ml_h m lm) Φ = Φ (.inl (some (.int (nI 2)))) (u1, ml_h m1 lm) := fun Φ => by
  rw [x103_0, h]
  exact Eq.trans (b := wp Ln xs 103 19 [.ref 1, .int x1, .int x2, .ref 81, mj_hole] [] (u1, ml_h m1 lm) Φ) rfl x103_19
theorem wk106 {x1 : Int32} {v : Int32} (h : ∀ Φ : mj_R → mj_W → Prop, wp Ln xs 107 0 [.ref 1, .int x1, mj_hole] [] (u, ml_h m lm) Φ = Φ (.inl (some (.int v))) (u1, ml_h m1 lm)) : ∀ Φ : mj_R → mj_W → Prop, wp Ln xs 106 0 [.ref 1, .int x1, .ref 81, mj_hole] [] (u, ml_h m lm) Φ = Φ (.inl (some (.int (nI 0)))) (u1, ml_h m1 (ml_sj lm 81 0 v.toInt64)) := fun Φ => by rw [x106_0, h, mk_v, x106_7, x106_8 (by decide), x106_15]
theorem we106_2 {x1 : Int32} (h : ∀ Φ : mj_R → mj_W → Prop, wp Ln xs 107 0 [.ref 1, .int x1, mj_hole] [] (u, ml_h m lm) Φ = Φ (.inr 2) (u1, ml_h m1 lm)) : ∀ Φ : mj_R → mj_W → Prop, wp Ln xs 106 0 [.ref 1, .int x1, .ref 81, mj_hole] [] (u, ml_h m lm) Φ = Φ (.inl (some (.int (nI 1)))) (u1, ml_h m1 lm) := fun Φ => by
  rw [x106_0, h]
  exact Eq.trans (b := wp Ln xs 106 13 [.ref 1, .int x1, .ref 81, mj_hole] [] (u1, ml_h m1 lm) Φ) rfl x106_13
theorem wk109 {x1 : Int32} {x2 : Int32} {v : Int32} (h : ∀ Φ : mj_R → mj_W → Prop, wp Ln xs 110 0 [.ref 1, .int x1, .int x2, mj_hole] [] (u, ml_h m lm) Φ = Φ (.inl (some (.int v))) (u1, ml_h m1 lm)) : ∀ Φ : mj_R → mj_W → Prop, wp Ln xs 109 0 [.ref 1, .int x1, .int x2, .ref 81, mj_hole] [] (u, ml_h m lm) Φ = Φ (.inl (some (.int (nI 0)))) (u1, ml_h m1 (ml_sj lm 81 0 v.toInt64)) := fun Φ => by rw [x109_0, h, mk_v, x109_8, x109_9 (by decide), x109_21]
theorem we109_2 {x1 : Int32} {x2 : Int32} (h : ∀ Φ : mj_R → mj_W → Prop, wp Ln xs 110 0 [.ref 1, .int x1, .int x2, mj_hole] [] (u, ml_h m lm) Φ = Φ (.inr 2) (u1, ml_h m1 lm)) : ∀ Φ : mj_R → mj_W → Prop, wp Ln xs 109 0 [.ref 1, .int x1, .int x2, .ref 81, mj_hole] [] (u, ml_h m lm) Φ = Φ (.inl (some (.int (nI 1)))) (u1, ml_h m1 lm) := fun Φ => by
  rw [x109_0, h]
  exact Eq.trans (b := wp Ln xs 109 15 [.ref 1, .int x1, .int x2, .ref 81, mj_hole] [] (u1, ml_h m1 lm) Φ) rfl x109_15
theorem we109_0 {x1 : Int32} {x2 : Int32} (h : ∀ Φ : mj_R → mj_W → Prop, wp Ln xs 110 0 [.ref 1, .int x1, .int x2, mj_hole] [] (u, ml_h m lm) Φ = Φ (.inr 0) (u1, ml_h m1 lm)) : ∀ Φ : mj_R → mj_W → Prop, wp Ln xs 109 0 [.ref 1, .int x1, .int x2, .ref 81, mj_hole] [] (u, ml_h m lm) Φ = Φ (.inl (some (.int (nI 2)))) (u1, ml_h m1 lm) := fun Φ => by
  rw [x109_0, h]
  exact Eq.trans (b := wp Ln xs 109 19 [.ref 1, .int x1, .int x2, .ref 81, mj_hole] [] (u1, ml_h m1 lm) Φ) rfl x109_19
theorem wk113 {x1 : Int32} {v : Int32} (h : ∀ Φ : mj_R → mj_W → Prop, wp Ln xs 114 0 [.ref 1, .int x1] [] (u, ml_h m lm) Φ = Φ (.inl (some (.int v))) (u1, ml_h m1 lm)) : ∀ Φ : mj_R → mj_W → Prop, wp Ln xs 113 0 [.ref 1, .int x1, .ref 81, mj_hole] [] (u, ml_h m lm) Φ = Φ (.inl (some (.int (nI 0)))) (u1, ml_h m1 (ml_sj lm 81 0 v.toInt64)) := fun Φ => by rw [x113_0, h, mk_v, x113_7, x113_8 (by decide), x113_18]
theorem we113_0 {x1 : Int32} (h : ∀ Φ : mj_R → mj_W → Prop, wp Ln xs 114 0 [.ref 1, .int x1] [] (u, ml_h m lm) Φ = Φ (.inr 0) (u1, ml_h m1 lm)) : ∀ Φ : mj_R → mj_W → Prop, wp Ln xs 113 0 [.ref 1, .int x1, .ref 81, mj_hole] [] (u, ml_h m lm) Φ = Φ (.inl (some (.int (nI 1)))) (u1, ml_h m1 lm) := fun Φ => by
  rw [x113_0, h]
  exact Eq.trans (b := wp Ln xs 113 13 [.ref 1, .int x1, .ref 81, mj_hole] [] (u1, ml_h m1 lm) Φ) rfl x113_13
theorem we113_1 {x1 : Int32} (h : ∀ Φ : mj_R → mj_W → Prop, wp Ln xs 114 0 [.ref 1, .int x1] [] (u, ml_h m lm) Φ = Φ (.inr 1) (u1, ml_h m1 lm)) : ∀ Φ : mj_R → mj_W → Prop, wp Ln xs 113 0 [.ref 1, .int x1, .ref 81, mj_hole] [] (u, ml_h m lm) Φ = Φ (.inl (some (.int (nI 2)))) (u1, ml_h m1 lm) := fun Φ => by
  rw [x113_0, h]
  exact Eq.trans (b := wp Ln xs 113 16 [.ref 1, .int x1, .ref 81, mj_hole] [] (u1, ml_h m1 lm) Φ) rfl x113_16
theorem wk116  {v : Int32} (h : ∀ Φ : mj_R → mj_W → Prop, wp Ln xs 117 0 [.ref 1, mj_hole, mj_hole, mj_hole, mj_hole, mj_hole] [] (u, ml_h m lm) Φ = Φ (.inl (some (.int v))) (u1, ml_h m1 lm)) : ∀ Φ : mj_R → mj_W → Prop, wp Ln xs 116 0 [.ref 1, .ref 81, mj_hole] [] (u, ml_h m lm) Φ = Φ (.inl (some (.int (nI 0)))) (u1, ml_h m1 (ml_sj lm 81 0 v.toInt64)) := fun Φ => by rw [x116_0, h, mk_v, x116_6, x116_7 (by decide), x116_14]
theorem we116_0  (h : ∀ Φ : mj_R → mj_W → Prop, wp Ln xs 117 0 [.ref 1, mj_hole, mj_hole, mj_hole, mj_hole, mj_hole] [] (u, ml_h m lm) Φ = Φ (.inr 0) (u1, ml_h m1 lm)) : ∀ Φ : mj_R → mj_W → Prop, wp Ln xs 116 0 [.ref 1, .ref 81, mj_hole] [] (u, ml_h m lm) Φ = Φ (.inl (some (.int (nI 1)))) (u1, ml_h m1 lm) := fun Φ => by
  rw [x116_0, h]
  exact Eq.trans (b := wp Ln xs 116 12 [.ref 1, .ref 81, mj_hole] [] (u1, ml_h m1 lm) Φ) rfl x116_12
theorem wk121  {v : Int32} (h : ∀ Φ : mj_R → mj_W → Prop, wp Ln xs 122 0 [.ref 1] [] (u, ml_h m lm) Φ = Φ (.inl (some (.int v))) (u1, ml_h m1 lm)) : ∀ Φ : mj_R → mj_W → Prop, wp Ln xs 121 0 [.ref 1, .ref 81, mj_hole] [] (u, ml_h m lm) Φ = Φ (.inl (some (.int (nI 0)))) (u1, ml_h m1 (ml_sj lm 81 0 v.toInt64)) := fun Φ => by rw [x121_0, h, mk_v, x121_6, x121_7 (by decide), x121_14]
theorem we121_1  (h : ∀ Φ : mj_R → mj_W → Prop, wp Ln xs 122 0 [.ref 1] [] (u, ml_h m lm) Φ = Φ (.inr 1) (u1, ml_h m1 lm)) : ∀ Φ : mj_R → mj_W → Prop, wp Ln xs 121 0 [.ref 1, .ref 81, mj_hole] [] (u, ml_h m lm) Φ = Φ (.inl (some (.int (nI 1)))) (u1, ml_h m1 lm) := fun Φ => by
  rw [x121_0, h]
  exact Eq.trans (b := wp Ln xs 121 12 [.ref 1, .ref 81, mj_hole] [] (u1, ml_h m1 lm) Φ) rfl x121_12
theorem wk123  {v : Int32} (h : ∀ Φ : mj_R → mj_W → Prop, wp Ln xs 124 0 [.ref 1] [] (u, ml_h m lm) Φ = Φ (.inl (some (.int v))) (u1, ml_h m1 lm)) : ∀ Φ : mj_R → mj_W → Prop, wp Ln xs 123 0 [.ref 1, .ref 81, mj_hole] [] (u, ml_h m lm) Φ = Φ (.inl (some (.int (nI 0)))) (u1, ml_h m1 (ml_sj lm 81 0 v.toInt64)) := fun Φ => by rw [x123_0, h, mk_v, x123_6, x123_7 (by decide), x123_14]
theorem we123_1  (h : ∀ Φ : mj_R → mj_W → Prop, wp Ln xs 124 0 [.ref 1] [] (u, ml_h m lm) Φ = Φ (.inr 1) (u1, ml_h m1 lm)) : ∀ Φ : mj_R → mj_W → Prop, wp Ln xs 123 0 [.ref 1, .ref 81, mj_hole] [] (u, ml_h m lm) Φ = Φ (.inl (some (.int (nI 1)))) (u1, ml_h m1 lm) := fun Φ => by
  rw [x123_0, h]
  exact Eq.trans (b := wp Ln xs 123 12 [.ref 1, .ref 81, mj_hole] [] (u1, ml_h m1 lm) Φ) rfl x123_12
theorem wk126 {x1 : Int32} {x2 : Int32} {v : Int32} (h : ∀ Φ : mj_R → mj_W → Prop, wp Ln xs 127 0 [.ref 1, .int x1, .int x2] [] (u, ml_h m lm) Φ = Φ (.inl (some (.int v))) (u1, ml_h m1 lm)) : ∀ Φ : mj_R → mj_W → Prop, wp Ln xs 126 0 [.ref 1, .int x1, .int x2, .ref 81, mj_hole] [] (u, ml_h m lm) Φ = Φ (.inl (some (.int (nI 0)))) (u1, ml_h m1 (ml_sj lm 81 0 v.toInt64)) := fun Φ => by rw [x126_0, h, mk_v, x126_8, x126_9 (by decide), x126_21]
theorem we126_2 {x1 : Int32} {x2 : Int32} (h : ∀ Φ : mj_R → mj_W → Prop, wp Ln xs 127 0 [.ref 1, .int x1, .int x2] [] (u, ml_h m lm) Φ = Φ (.inr 2) (u1, ml_h m1 lm)) : ∀ Φ : mj_R → mj_W → Prop, wp Ln xs 126 0 [.ref 1, .int x1, .int x2, .ref 81, mj_hole] [] (u, ml_h m lm) Φ = Φ (.inl (some (.int (nI 1)))) (u1, ml_h m1 lm) := fun Φ => by
  rw [x126_0, h]
  exact Eq.trans (b := wp Ln xs 126 15 [.ref 1, .int x1, .int x2, .ref 81, mj_hole] [] (u1, ml_h m1 lm) Φ) rfl x126_15
theorem we126_0 {x1 : Int32} {x2 : Int32} (h : ∀ Φ : mj_R → mj_W → Prop, wp Ln xs 127 0 [.ref 1, .int x1, .int x2] [] (u, ml_h m lm) Φ = Φ (.inr 0) (u1, ml_h m1 lm)) : ∀ Φ : mj_R → mj_W → Prop, wp Ln xs 126 0 [.ref 1, .int x1, .int x2, .ref 81, mj_hole] [] (u, ml_h m lm) Φ = Φ (.inl (some (.int (nI 2)))) (u1, ml_h m1 lm) := fun Φ => by
  rw [x126_0, h]
  exact Eq.trans (b := wp Ln xs 126 19 [.ref 1, .int x1, .int x2, .ref 81, mj_hole] [] (u1, ml_h m1 lm) Φ) rfl x126_19
theorem wk128 {x1 : Int32} {x2 : Int32} {v : Int32} (h : ∀ Φ : mj_R → mj_W → Prop, wp Ln xs 129 0 [.ref 1, .int x1, .int x2] [] (u, ml_h m lm) Φ = Φ (.inl (some (.int v))) (u1, ml_h m1 lm)) : ∀ Φ : mj_R → mj_W → Prop, wp Ln xs 128 0 [.ref 1, .int x1, .int x2, .ref 81, mj_hole] [] (u, ml_h m lm) Φ = Φ (.inl (some (.int (nI 0)))) (u1, ml_h m1 (ml_sj lm 81 0 v.toInt64)) := fun Φ => by rw [x128_0, h, mk_v, x128_8, x128_9 (by decide), x128_21]
theorem we128_2 {x1 : Int32} {x2 : Int32} (h : ∀ Φ : mj_R → mj_W → Prop, wp Ln xs 129 0 [.ref 1, .int x1, .int x2] [] (u, ml_h m lm) Φ = Φ (.inr 2) (u1, ml_h m1 lm)) : ∀ Φ : mj_R → mj_W → Prop, wp Ln xs 128 0 [.ref 1, .int x1, .int x2, .ref 81, mj_hole] [] (u, ml_h m lm) Φ = Φ (.inl (some (.int (nI 1)))) (u1, ml_h m1 lm) := fun Φ => by
  rw [x128_0, h]
  exact Eq.trans (b := wp Ln xs 128 15 [.ref 1, .int x1, .int x2, .ref 81, mj_hole] [] (u1, ml_h m1 lm) Φ) rfl x128_15
theorem we128_0 {x1 : Int32} {x2 : Int32} (h : ∀ Φ : mj_R → mj_W → Prop, wp Ln xs 129 0 [.ref 1, .int x1, .int x2] [] (u, ml_h m lm) Φ = Φ (.inr 0) (u1, ml_h m1 lm)) : ∀ Φ : mj_R → mj_W → Prop, wp Ln xs 128 0 [.ref 1, .int x1, .int x2, .ref 81, mj_hole] [] (u, ml_h m lm) Φ = Φ (.inl (some (.int (nI 2)))) (u1, ml_h m1 lm) := fun Φ => by
  rw [x128_0, h]
  exact Eq.trans (b := wp Ln xs 128 19 [.ref 1, .int x1, .int x2, .ref 81, mj_hole] [] (u1, ml_h m1 lm) Φ) rfl x128_19
theorem wk130 {x1 : Int32} {x2 : Int32} {v : Int32} (h : ∀ Φ : mj_R → mj_W → Prop, wp Ln xs 131 0 [.ref 1, .int x1, .int x2] [] (u, ml_h m lm) Φ = Φ (.inl (some (.int v))) (u1, ml_h m1 lm)) : ∀ Φ : mj_R → mj_W → Prop, wp Ln xs 130 0 [.ref 1, .int x1, .int x2, .ref 81, mj_hole] [] (u, ml_h m lm) Φ = Φ (.inl (some (.int (nI 0)))) (u1, ml_h m1 (ml_sj lm 81 0 v.toInt64)) := fun Φ => by rw [x130_0, h, mk_v, x130_8, x130_9 (by decide), x130_21]
theorem we130_2 {x1 : Int32} {x2 : Int32} (h : ∀ Φ : mj_R → mj_W → Prop, wp Ln xs 131 0 [.ref 1, .int x1, .int x2] [] (u, ml_h m lm) Φ = Φ (.inr 2) (u1, ml_h m1 lm)) : ∀ Φ : mj_R → mj_W → Prop, wp Ln xs 130 0 [.ref 1, .int x1, .int x2, .ref 81, mj_hole] [] (u, ml_h m lm) Φ = Φ (.inl (some (.int (nI 1)))) (u1, ml_h m1 lm) := fun Φ => by
  rw [x130_0, h]
  exact Eq.trans (b := wp Ln xs 130 15 [.ref 1, .int x1, .int x2, .ref 81, mj_hole] [] (u1, ml_h m1 lm) Φ) rfl x130_15
theorem we130_0 {x1 : Int32} {x2 : Int32} (h : ∀ Φ : mj_R → mj_W → Prop, wp Ln xs 131 0 [.ref 1, .int x1, .int x2] [] (u, ml_h m lm) Φ = Φ (.inr 0) (u1, ml_h m1 lm)) : ∀ Φ : mj_R → mj_W → Prop, wp Ln xs 130 0 [.ref 1, .int x1, .int x2, .ref 81, mj_hole] [] (u, ml_h m lm) Φ = Φ (.inl (some (.int (nI 2)))) (u1, ml_h m1 lm) := fun Φ => by
  rw [x130_0, h]
  exact Eq.trans (b := wp Ln xs 130 19 [.ref 1, .int x1, .int x2, .ref 81, mj_hole] [] (u1, ml_h m1 lm) Φ) rfl x130_19
theorem wk132 {x1 : Int32} {x2 : Int32} {v : Int32} (h : ∀ Φ : mj_R → mj_W → Prop, wp Ln xs 133 0 [.ref 1, .int x1, .int x2] [] (u, ml_h m lm) Φ = Φ (.inl (some (.int v))) (u1, ml_h m1 lm)) : ∀ Φ : mj_R → mj_W → Prop, wp Ln xs 132 0 [.ref 1, .int x1, .int x2, .ref 81, mj_hole] [] (u, ml_h m lm) Φ = Φ (.inl (some (.int (nI 0)))) (u1, ml_h m1 (ml_sj lm 81 0 v.toInt64)) := fun Φ => by rw [x132_0, h, mk_v, x132_8, x132_9 (by decide), x132_21]
theorem we132_2 {x1 : Int32} {x2 : Int32} (h : ∀ Φ : mj_R → mj_W → Prop, wp Ln xs 133 0 [.ref 1, .int x1, .int x2] [] (u, ml_h m lm) Φ = Φ (.inr 2) (u1, ml_h m1 lm)) : ∀ Φ : mj_R → mj_W → Prop, wp Ln xs 132 0 [.ref 1, .int x1, .int x2, .ref 81, mj_hole] [] (u, ml_h m lm) Φ = Φ (.inl (some (.int (nI 1)))) (u1, ml_h m1 lm) := fun Φ => by
  rw [x132_0, h]
  exact Eq.trans (b := wp Ln xs 132 15 [.ref 1, .int x1, .int x2, .ref 81, mj_hole] [] (u1, ml_h m1 lm) Φ) rfl x132_15
theorem we132_0 {x1 : Int32} {x2 : Int32} (h : ∀ Φ : mj_R → mj_W → Prop, wp Ln xs 133 0 [.ref 1, .int x1, .int x2] [] (u, ml_h m lm) Φ = Φ (.inr 0) (u1, ml_h m1 lm)) : ∀ Φ : mj_R → mj_W → Prop, wp Ln xs 132 0 [.ref 1, .int x1, .int x2, .ref 81, mj_hole] [] (u, ml_h m lm) Φ = Φ (.inl (some (.int (nI 2)))) (u1, ml_h m1 lm) := fun Φ => by
  rw [x132_0, h]
  exact Eq.trans (b := wp Ln xs 132 19 [.ref 1, .int x1, .int x2, .ref 81, mj_hole] [] (u1, ml_h m1 lm) Φ) rfl x132_19
theorem wk134 {x1 : Int32} {v : Int32} (h : ∀ Φ : mj_R → mj_W → Prop, wp Ln xs 135 0 [.ref 1, .int x1] [] (u, ml_h m lm) Φ = Φ (.inl (some (.int v))) (u1, ml_h m1 lm)) : ∀ Φ : mj_R → mj_W → Prop, wp Ln xs 134 0 [.ref 1, .int x1, .ref 81, mj_hole] [] (u, ml_h m lm) Φ = Φ (.inl (some (.int (nI 0)))) (u1, ml_h m1 (ml_sj lm 81 0 v.toInt64)) := fun Φ => by rw [x134_0, h, mk_v, x134_7, x134_8 (by decide), x134_15]
theorem we134_0 {x1 : Int32} (h : ∀ Φ : mj_R → mj_W → Prop, wp Ln xs 135 0 [.ref 1, .int x1] [] (u, ml_h m lm) Φ = Φ (.inr 0) (u1, ml_h m1 lm)) : ∀ Φ : mj_R → mj_W → Prop, wp Ln xs 134 0 [.ref 1, .int x1, .ref 81, mj_hole] [] (u, ml_h m lm) Φ = Φ (.inl (some (.int (nI 1)))) (u1, ml_h m1 lm) := fun Φ => by
  rw [x134_0, h]
  exact Eq.trans (b := wp Ln xs 134 13 [.ref 1, .int x1, .ref 81, mj_hole] [] (u1, ml_h m1 lm) Φ) rfl x134_13
theorem wk136 {x1 : Int32} {v : Int32} (h : ∀ Φ : mj_R → mj_W → Prop, wp Ln xs 137 0 [.ref 1, .int x1] [] (u, ml_h m lm) Φ = Φ (.inl (some (.int v))) (u1, ml_h m1 lm)) : ∀ Φ : mj_R → mj_W → Prop, wp Ln xs 136 0 [.ref 1, .int x1, .ref 81, mj_hole] [] (u, ml_h m lm) Φ = Φ (.inl (some (.int (nI 0)))) (u1, ml_h m1 (ml_sj lm 81 0 v.toInt64)) := fun Φ => by rw [x136_0, h, mk_v, x136_7, x136_8 (by decide), x136_15]
theorem we136_2 {x1 : Int32} (h : ∀ Φ : mj_R → mj_W → Prop, wp Ln xs 137 0 [.ref 1, .int x1] [] (u, ml_h m lm) Φ = Φ (.inr 2) (u1, ml_h m1 lm)) : ∀ Φ : mj_R → mj_W → Prop, wp Ln xs 136 0 [.ref 1, .int x1, .ref 81, mj_hole] [] (u, ml_h m lm) Φ = Φ (.inl (some (.int (nI 1)))) (u1, ml_h m1 lm) := fun Φ => by
  rw [x136_0, h]
  exact Eq.trans (b := wp Ln xs 136 13 [.ref 1, .int x1, .ref 81, mj_hole] [] (u1, ml_h m1 lm) Φ) rfl x136_13
theorem wk138 {x1 : Int32} {x2 : Int32} {x3 : Int32} {v : Int32} (h : ∀ Φ : mj_R → mj_W → Prop, wp Ln xs 139 0 [.ref 1, .int x1, .int x2, .int x3] [] (u, ml_h m lm) Φ = Φ (.inl (some (.int v))) (u1, ml_h m1 lm)) : ∀ Φ : mj_R → mj_W → Prop, wp Ln xs 138 0 [.ref 1, .int x1, .int x2, .int x3, .ref 81, mj_hole] [] (u, ml_h m lm) Φ = Φ (.inl (some (.int (nI 0)))) (u1, ml_h m1 (ml_sj lm 81 0 v.toInt64)) := fun Φ => by rw [x138_0, h, mk_v, x138_10, x138_11 (by decide), x138_19]
theorem we138_0 {x1 : Int32} {x2 : Int32} {x3 : Int32} (h : ∀ Φ : mj_R → mj_W → Prop, wp Ln xs 139 0 [.ref 1, .int x1, .int x2, .int x3] [] (u, ml_h m lm) Φ = Φ (.inr 0) (u1, ml_h m1 lm)) : ∀ Φ : mj_R → mj_W → Prop, wp Ln xs 138 0 [.ref 1, .int x1, .int x2, .int x3, .ref 81, mj_hole] [] (u, ml_h m lm) Φ = Φ (.inl (some (.int (nI 1)))) (u1, ml_h m1 lm) := fun Φ => by
  rw [x138_0, h]
  exact Eq.trans (b := wp Ln xs 138 17 [.ref 1, .int x1, .int x2, .int x3, .ref 81, mj_hole] [] (u1, ml_h m1 lm) Φ) rfl x138_17
theorem wk141 {x1 : Int32} {x2 : Int32} {x3 : Int32} {v : Int32} (h : ∀ Φ : mj_R → mj_W → Prop, wp Ln xs 142 0 [.ref 1, .int x1, .int x2, .int x3, mj_hole] [] (u, ml_h m lm) Φ = Φ (.inl (some (.int v))) (u1, ml_h m1 lm)) : ∀ Φ : mj_R → mj_W → Prop, wp Ln xs 141 0 [.ref 1, .int x1, .int x2, .int x3, .ref 81, mj_hole] [] (u, ml_h m lm) Φ = Φ (.inl (some (.int (nI 0)))) (u1, ml_h m1 (ml_sj lm 81 0 v.toInt64)) := fun Φ => by rw [x141_0, h, mk_v, x141_10, x141_11 (by decide), x141_23]
theorem we141_2 {x1 : Int32} {x2 : Int32} {x3 : Int32} (h : ∀ Φ : mj_R → mj_W → Prop, wp Ln xs 142 0 [.ref 1, .int x1, .int x2, .int x3, mj_hole] [] (u, ml_h m lm) Φ = Φ (.inr 2) (u1, ml_h m1 lm)) : ∀ Φ : mj_R → mj_W → Prop, wp Ln xs 141 0 [.ref 1, .int x1, .int x2, .int x3, .ref 81, mj_hole] [] (u, ml_h m lm) Φ = Φ (.inl (some (.int (nI 1)))) (u1, ml_h m1 lm) := fun Φ => by
  rw [x141_0, h]
  exact Eq.trans (b := wp Ln xs 141 17 [.ref 1, .int x1, .int x2, .int x3, .ref 81, mj_hole] [] (u1, ml_h m1 lm) Φ) rfl x141_17
theorem we141_0 {x1 : Int32} {x2 : Int32} {x3 : Int32} (h : ∀ Φ : mj_R → mj_W → Prop, wp Ln xs 142 0 [.ref 1, .int x1, .int x2, .int x3, mj_hole] [] (u, ml_h m lm) Φ = Φ (.inr 0) (u1, ml_h m1 lm)) : ∀ Φ : mj_R → mj_W → Prop, wp Ln xs 141 0 [.ref 1, .int x1, .int x2, .int x3, .ref 81, mj_hole] [] (u, ml_h m lm) Φ = Φ (.inl (some (.int (nI 2)))) (u1, ml_h m1 lm) := fun Φ => by
  rw [x141_0, h]
  exact Eq.trans (b := wp Ln xs 141 21 [.ref 1, .int x1, .int x2, .int x3, .ref 81, mj_hole] [] (u1, ml_h m1 lm) Φ) rfl x141_21
theorem wk144 {x1 : Int32} {v : Int32} (h : ∀ Φ : mj_R → mj_W → Prop, wp Ln xs 145 0 [.ref 1, .int x1] [] (u, ml_h m lm) Φ = Φ (.inl (some (.int v))) (u1, ml_h m1 lm)) : ∀ Φ : mj_R → mj_W → Prop, wp Ln xs 144 0 [.ref 1, .int x1, .ref 81, mj_hole] [] (u, ml_h m lm) Φ = Φ (.inl (some (.int (nI 0)))) (u1, ml_h m1 (ml_sj lm 81 0 v.toInt64)) := fun Φ => by rw [x144_0, h, mk_v, x144_7, x144_8 (by decide), x144_15]
theorem we144_2 {x1 : Int32} (h : ∀ Φ : mj_R → mj_W → Prop, wp Ln xs 145 0 [.ref 1, .int x1] [] (u, ml_h m lm) Φ = Φ (.inr 2) (u1, ml_h m1 lm)) : ∀ Φ : mj_R → mj_W → Prop, wp Ln xs 144 0 [.ref 1, .int x1, .ref 81, mj_hole] [] (u, ml_h m lm) Φ = Φ (.inl (some (.int (nI 1)))) (u1, ml_h m1 lm) := fun Φ => by
  rw [x144_0, h]
  exact Eq.trans (b := wp Ln xs 144 13 [.ref 1, .int x1, .ref 81, mj_hole] [] (u1, ml_h m1 lm) Φ) rfl x144_13
theorem wk146 {x1 : Int32} {v : Int32} (h : ∀ Φ : mj_R → mj_W → Prop, wp Ln xs 147 0 [.ref 1, .int x1] [] (u, ml_h m lm) Φ = Φ (.inl (some (.int v))) (u1, ml_h m1 lm)) : ∀ Φ : mj_R → mj_W → Prop, wp Ln xs 146 0 [.ref 1, .int x1, .ref 81, mj_hole] [] (u, ml_h m lm) Φ = Φ (.inl (some (.int (nI 0)))) (u1, ml_h m1 (ml_sj lm 81 0 v.toInt64)) := fun Φ => by rw [x146_0, h, mk_v, x146_7, x146_8 (by decide), x146_15]
theorem we146_0 {x1 : Int32} (h : ∀ Φ : mj_R → mj_W → Prop, wp Ln xs 147 0 [.ref 1, .int x1] [] (u, ml_h m lm) Φ = Φ (.inr 0) (u1, ml_h m1 lm)) : ∀ Φ : mj_R → mj_W → Prop, wp Ln xs 146 0 [.ref 1, .int x1, .ref 81, mj_hole] [] (u, ml_h m lm) Φ = Φ (.inl (some (.int (nI 1)))) (u1, ml_h m1 lm) := fun Φ => by
  rw [x146_0, h]
  exact Eq.trans (b := wp Ln xs 146 13 [.ref 1, .int x1, .ref 81, mj_hole] [] (u1, ml_h m1 lm) Φ) rfl x146_13
end WRAP
