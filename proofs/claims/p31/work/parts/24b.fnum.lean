/-! ===== floating numbers: what is wanted ===== -/
abbrev fl_D (z : UInt64) (c : Nat) (q : Int) : Prop := fl_N 52 2048 (-1074) z.toNat c q
theorem fd_of {n c q} (h : fl_N 52 2048 (-1074) n c q) : (UInt64.ofNat n).toNat = n := UInt64.toNat_ofNat_of_lt' (Nat.lt_of_lt_of_le (fl_lt (by decide) h) (by decide))
abbrev fl_F (z : UInt32) (c : Nat) (q : Int) : Prop := fl_N 23 256 (-149) z.toNat c q
theorem ff_of {n c q} (h : fl_N 23 256 (-149) n c q) : (UInt32.ofNat n).toNat = n := UInt32.toNat_ofNat_of_lt' (Nat.lt_of_lt_of_le (fl_lt (by decide) h) (by decide))
theorem fd_nan0 {x : UInt64} (h : x.toNat ≤ 2047 * 2 ^ 52) : x &&& 0x7fffffffffffffff ≤ 0x7ff0000000000000 := by
  rw [UInt64.le_iff_toNat_le, UInt64.toNat_and]
  exact Nat.le_trans Nat.and_le_left h
theorem fd_nan {x c q} (h : fl_D x c q) : x &&& 0x7fffffffffffffff ≤ 0x7ff0000000000000 := fd_nan0 (Nat.le_of_lt (fl_lt (by decide) h))
theorem ff_nan0 {x : UInt32} (h : x.toNat ≤ 255 * 2 ^ 23) : x &&& 0x7fffffff ≤ 0x7f800000 := by
  rw [UInt32.le_iff_toNat_le, UInt32.toNat_and]
  exact Nat.le_trans Nat.and_le_left h
theorem ff_nan {x c q} (h : fl_F x c q) : x &&& 0x7fffffff ≤ 0x7f800000 := ff_nan0 (Nat.le_of_lt (fl_lt (by decide) h))
theorem fl_cmp0 {f P X m} (g : fl_G f P X m) {n c q z r} (h : fl_N P X m n c q) (hz : FP.Core.decode f z = .fin false 0 r) : FP.Core.cmp f n z = some .gt := by
  unfold FP.Core.cmp
  rw [fl_dec g h, hz]
  obtain ⟨h1, h2, -⟩ := h
  unfold FP.Core.order FP.Core.inUnits FP.Core.signed
  simp only [Bool.false_eq_true, if_false]
  have hp := fl_pos P
  have : 0 < c * 2 ^ (q - min q r).toNat := Nat.mul_pos (by omega) (fl_pos _)
  rw [Nat.zero_mul, Int.compare_eq_gt.2 (by omega)]
theorem fd_0 : FP.Core.decode FP.Core.b64 FP.dconst0.toNat = .fin false 0 (-1074) := by decide +kernel
theorem fd_gt0 {z c q} (h : fl_D z c q) : FP.dcmp z FP.dconst0 = some .gt := fl_cmp0 fl_64 h fd_0
theorem ff_0 : FP.Core.decode FP.Core.b32 FP.fconst0.toNat = .fin false 0 (-149) := by decide +kernel
theorem ff_gt0 {z c q} (h : fl_F z c q) : FP.fcmp z FP.fconst0 = some .gt := fl_cmp0 fl_32 h ff_0
theorem fd_1 : FP.Core.decode FP.Core.b64 FP.dconst1.toNat = .fin false (2 ^ 52) (-52) := by decide +kernel
theorem fd_lt1 {z c q} (h : fl_D z c q) (hq : q < -52) : FP.dcmp z FP.dconst1 = some .lt := (fl_cmp fl_64 h fd_1).1 hq
theorem fd_ge1 {z c q} (h : fl_D z c q) (hq : -52 ≤ q) : FP.dcmp z FP.dconst1 = some .eq ∨ FP.dcmp z FP.dconst1 = some .gt := (fl_cmp fl_64 h fd_1).2 hq
