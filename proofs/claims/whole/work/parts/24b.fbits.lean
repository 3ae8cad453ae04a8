/-! ===== the bits of a double and of a float ===== -/
abbrev fl_D (z : UInt64) (c : Nat) (q : Int) : Prop := fl_N 52 2048 (-1074) z.toNat c q
abbrev fl_F (z : UInt32) (c : Nat) (q : Int) : Prop := fl_N 23 256 (-149) z.toNat c q
theorem fd_of {n c q} (h : fl_N 52 2048 (-1074) n c q) : (UInt64.ofNat n).toNat = n := UInt64.toNat_ofNat_of_lt' (Nat.lt_of_lt_of_le (fl_lt (by decide) h) (by decide))
theorem ff_of {n c q} (h : fl_N 23 256 (-149) n c q) : (UInt32.ofNat n).toNat = n := UInt32.toNat_ofNat_of_lt' (Nat.lt_of_lt_of_le (fl_lt (by decide) h) (by decide))
theorem fd_nan0 {x : UInt64} (h : x.toNat ≤ 2047 * 2 ^ 52) : x &&& 0x7fffffffffffffff ≤ 0x7ff0000000000000 := by
  rw [UInt64.le_iff_toNat_le, UInt64.toNat_and]
  exact Nat.le_trans Nat.and_le_left h
theorem ff_nan0 {x : UInt32} (h : x.toNat ≤ 255 * 2 ^ 23) : x &&& 0x7fffffff ≤ 0x7f800000 := by
  rw [UInt32.le_iff_toNat_le, UInt32.toNat_and]
  exact Nat.le_trans Nat.and_le_left h
theorem fd_nan {x c q} (h : fl_D x c q) : x &&& 0x7fffffffffffffff ≤ 0x7ff0000000000000 := fd_nan0 (Nat.le_of_lt (fl_lt (by decide) h))
theorem ff_nan {x c q} (h : fl_F x c q) : x &&& 0x7fffffff ≤ 0x7f800000 := ff_nan0 (Nat.le_of_lt (fl_lt (by decide) h))
theorem fd_mul {z c q} {w : UInt64} {r : Int} (h : fl_D z c q) (hw : FP.Core.decode FP.Core.b64 w.toNat = .fin false (2 ^ 52) r) (lo : -1074 ≤ q + r + 52) (hi : q + r + 52 ≤ 971) : fl_D (FP.dmul z w) c (q + r + 52) := by
  have e := fl_mul fl_64 h hw lo (by omega)
  show fl_N _ _ _ (UInt64.ofNat (FP.Core.mul FP.Core.b64 z.toNat w.toNat)).toNat _ _
  rw [fd_of e]
  exact e
theorem ff_mul {z c q} {w : UInt32} {r : Int} (h : fl_F z c q) (hw : FP.Core.decode FP.Core.b32 w.toNat = .fin false (2 ^ 23) r) (lo : -149 ≤ q + r + 23) (hi : q + r + 23 ≤ 104) : fl_F (FP.fmul z w) c (q + r + 23) := by
  have e := fl_mul fl_32 h hw lo (by omega)
  show fl_N _ _ _ (UInt32.ofNat (FP.Core.mul FP.Core.b32 z.toNat w.toNat)).toNat _ _
  rw [ff_of e]
  exact e
theorem fd_div {z c q} {w : UInt64} {r : Int} (h : fl_D z c q) (hw : FP.Core.decode FP.Core.b64 w.toNat = .fin false (2 ^ 52) r) (lo : -1074 ≤ q - r - 52) (hi : q - r - 52 ≤ 971) : fl_D (FP.ddiv z w) c (q - r - 52) := by
  have e := fl_div fl_64 h hw lo (by omega)
  show fl_N _ _ _ (UInt64.ofNat (FP.Core.div FP.Core.b64 z.toNat w.toNat)).toNat _ _
  rw [fd_of e]
  exact e
theorem ff_div {z c q} {w : UInt32} {r : Int} (h : fl_F z c q) (hw : FP.Core.decode FP.Core.b32 w.toNat = .fin false (2 ^ 23) r) (lo : -149 ≤ q - r - 23) (hi : q - r - 23 ≤ 104) : fl_F (FP.fdiv z w) c (q - r - 23) := by
  have e := fl_div fl_32 h hw lo (by omega)
  show fl_N _ _ _ (UInt32.ofNat (FP.Core.div FP.Core.b32 z.toNat w.toNat)).toNat _ _
  rw [ff_of e]
  exact e
theorem fd_1 : FP.Core.decode FP.Core.b64 FP.dconst1.toNat = .fin false (2 ^ 52) (-52) := by decide +kernel
theorem fd_2 : FP.Core.decode FP.Core.b64 (4611686018427387904 : UInt64).toNat = .fin false (2 ^ 52) (-51) := by decide +kernel
theorem fd_52 : FP.Core.decode FP.Core.b64 (4841369599423283200 : UInt64).toNat = .fin false (2 ^ 52) 0 := by decide +kernel
theorem ff_1 : FP.Core.decode FP.Core.b32 FP.fconst1.toNat = .fin false (2 ^ 23) (-23) := by decide +kernel
theorem ff_2 : FP.Core.decode FP.Core.b32 FP.fconst2.toNat = .fin false (2 ^ 23) (-22) := by decide +kernel
theorem ff_23 : FP.Core.decode FP.Core.b32 (1258291200 : UInt32).toNat = .fin false (2 ^ 23) 0 := by decide +kernel
/-- above zero -/
theorem fl_cmp0 {f P X m} (g : fl_G f P X m) {n c q z r} (h : fl_N P X m n c q) (hz : FP.Core.decode f z = .fin false 0 r) : FP.Core.cmp f n z = some .gt := by
  unfold FP.Core.cmp
  rw [fl_dec g h, hz]
  obtain ⟨h1, h2, -⟩ := h
  unfold FP.Core.order FP.Core.inUnits FP.Core.signed
  simp only [Bool.false_eq_true, if_false]
  have hp := fl_pos P
  have : 0 < c * 2 ^ (q - min q r).toNat := Nat.mul_pos (by omega) (fl_pos _)
  rw [Nat.zero_mul, Int.compare_eq_gt.2 (by omega)]
theorem fd_0 : FP.Core.decode FP.Core.b64 FP.dconst0.toNat = .fin false 0 (-1074) := by decide +kernel
theorem ff_0 : FP.Core.decode FP.Core.b32 FP.fconst0.toNat = .fin false 0 (-149) := by decide +kernel
theorem fd_gt0 {z c q} (h : fl_D z c q) : FP.dcmp z FP.dconst0 = some .gt := fl_cmp0 fl_64 h fd_0
theorem ff_gt0 {z c q} (h : fl_F z c q) : FP.fcmp z FP.fconst0 = some .gt := fl_cmp0 fl_32 h ff_0
theorem fd_lt2 {z c q} (h : fl_D z c q) (hq : q < -51) : FP.dcmp z 4611686018427387904 = some .lt := (fl_cmp fl_64 h fd_2).1 hq
theorem fd_ge2 {z c q} (h : fl_D z c q) (hq : -51 ≤ q) : FP.dcmp z 4611686018427387904 = some .eq ∨ FP.dcmp z 4611686018427387904 = some .gt := (fl_cmp fl_64 h fd_2).2 hq
theorem fd_lt1 {z c q} (h : fl_D z c q) (hq : q < -52) : FP.dcmp z FP.dconst1 = some .lt := (fl_cmp fl_64 h fd_1).1 hq
theorem fd_ge1 {z c q} (h : fl_D z c q) (hq : -52 ≤ q) : FP.dcmp z FP.dconst1 = some .eq ∨ FP.dcmp z FP.dconst1 = some .gt := (fl_cmp fl_64 h fd_1).2 hq
theorem ff_lt2 {z c q} (h : fl_F z c q) (hq : q < -22) : FP.fcmp z FP.fconst2 = some .lt := (fl_cmp fl_32 h ff_2).1 hq
theorem ff_ge2 {z c q} (h : fl_F z c q) (hq : -22 ≤ q) : FP.fcmp z FP.fconst2 = some .eq ∨ FP.fcmp z FP.fconst2 = some .gt := (fl_cmp fl_32 h ff_2).2 hq
theorem ff_lt1 {z c q} (h : fl_F z c q) (hq : q < -23) : FP.fcmp z FP.fconst1 = some .lt := (fl_cmp fl_32 h ff_1).1 hq
theorem ff_ge1 {z c q} (h : fl_F z c q) (hq : -23 ≤ q) : FP.fcmp z FP.fconst1 = some .eq ∨ FP.fcmp z FP.fconst1 = some .gt := (fl_cmp fl_32 h ff_1).2 hq
def fl_zd (c : Nat) : UInt64 := UInt64.ofNat (1023 * 2 ^ 52 + (c - 2 ^ 52))
def fl_zf (c : Nat) : UInt32 := UInt32.ofNat (127 * 2 ^ 23 + (c - 2 ^ 23))
theorem fl_zd_eq {z c} (h : fl_D z c (-52)) : z = fl_zd c := by
  have e : z.toNat = 1023 * 2 ^ 52 + (c - 2 ^ 52) := h.2.2.2.2
  unfold fl_zd
  rw [← e, UInt64.ofNat_toNat]
theorem fl_zf_eq {z c} (h : fl_F z c (-23)) : z = fl_zf c := by
  have e : z.toNat = 127 * 2 ^ 23 + (c - 2 ^ 23) := h.2.2.2.2
  unfold fl_zf
  rw [← e, UInt32.ofNat_toNat]
/-- the last step is no NaN -/
theorem fd_end {z c} (h : fl_D z c (-52)) : FP.dsub z FP.dconst1 &&& 0x7fffffffffffffff ≤ 0x7ff0000000000000 ∧ FP.dmul (FP.dsub z FP.dconst1) 4841369599423283200 &&& 0x7fffffffffffffff ≤ 0x7ff0000000000000 := by
  have e := fl_sub fl_64 h fd_1 (by decide) (by decide)
  have w : FP.dsub z FP.dconst1 = UInt64.ofNat (FP.Core.sub FP.Core.b64 z.toNat FP.dconst1.toNat) := rfl
  rw [w]
  rcases e with e | ⟨c', q', e, e1, e2⟩
  · rw [e]
    have e3 : FP.dmul (UInt64.ofNat 0) 4841369599423283200 = UInt64.ofNat 0 := congrArg UInt64.ofNat (fl_zero fl_64 fd_52)
    rw [e3]
    exact ⟨fd_nan0 (by decide), fd_nan0 (by decide)⟩
  · have e3 : fl_D (UInt64.ofNat (FP.Core.sub FP.Core.b64 z.toNat FP.dconst1.toNat)) c' q' := by
      show fl_N _ _ _ (UInt64.ofNat _).toNat _ _
      rw [fd_of e]
      exact e
    exact ⟨fd_nan e3, fd_nan (fd_mul e3 fd_52 (by omega) (by omega))⟩
theorem ff_end {z c} (h : fl_F z c (-23)) : FP.fsub z FP.fconst1 &&& 0x7fffffff ≤ 0x7f800000 ∧ FP.fmul (FP.fsub z FP.fconst1) 1258291200 &&& 0x7fffffff ≤ 0x7f800000 := by
  have e := fl_sub fl_32 h ff_1 (by decide) (by decide)
  have w : FP.fsub z FP.fconst1 = UInt32.ofNat (FP.Core.sub FP.Core.b32 z.toNat FP.fconst1.toNat) := rfl
  rw [w]
  rcases e with e | ⟨c', q', e, e1, e2⟩
  · rw [e]
    have e3 : FP.fmul (UInt32.ofNat 0) 1258291200 = UInt32.ofNat 0 := congrArg UInt32.ofNat (fl_zero fl_32 ff_23)
    rw [e3]
    exact ⟨ff_nan0 (by decide), ff_nan0 (by decide)⟩
  · have e3 : fl_F (UInt32.ofNat (FP.Core.sub FP.Core.b32 z.toNat FP.fconst1.toNat)) c' q' := by
      show fl_N _ _ _ (UInt32.ofNat _).toNat _ _
      rw [ff_of e]
      exact e
    exact ⟨ff_nan e3, ff_nan (ff_mul e3 ff_23 (by omega) (by omega))⟩
def fl_bd (c : Nat) (q : Int) : Int64 := Int64.ofInt (1075 + q) * 4503599627370496 + FP.d2l (FP.dmul (FP.dsub (fl_zd c) FP.dconst1) 4841369599423283200)
def fl_bf (c : Nat) (q : Int) : Int32 := Int32.ofInt (150 + q) * nI 8388608 + FP.f2i (FP.fmul (FP.fsub (fl_zf c) FP.fconst1) 1258291200)
theorem fl_sh64 {k : Int} (h1 : 0 ≤ k) (h2 : k < 2048) : Int64.ofInt k <<< ((nI 52).toInt64 &&& 63) = Int64.ofInt k * 4503599627370496 := by
  obtain ⟨n, rfl⟩ : ∃ n : Nat, k = n := ⟨k.toNat, by omega⟩
  exact (by decide +kernel : ∀ n : Nat, n < 2048 → Int64.ofInt n <<< ((nI 52).toInt64 &&& 63) = Int64.ofInt n * 4503599627370496) n (by omega)
theorem fl_sh32 {k : Int} (h1 : 0 ≤ k) (h2 : k < 256) : Int32.ofInt k <<< (nI 23 &&& 31) = Int32.ofInt k * nI 8388608 := by
  obtain ⟨n, rfl⟩ : ∃ n : Nat, k = n := ⟨k.toNat, by omega⟩
  exact (by decide +kernel : ∀ n : Nat, n < 256 → Int32.ofInt n <<< (nI 23 &&& 31) = Int32.ofInt n * nI 8388608) n (by omega)
theorem fl_m1 {y : Int} : Int32.ofInt y + (-1) = Int32.ofInt (y - 1) := by
  have e : (-1 : Int32) = Int32.ofInt (-1) := by decide
  rw [e, ← Int32.ofInt_add, Int.sub_eq_add_neg]
section FBITS
variable {Ln : Nat} {xs : Nat → Int32} {u : mj_U} {m : ml_M} {lm : ml_J} {Φ : mj_R → mj_W → Prop}
theorem sp79_h {z0 : UInt64} {c : Nat} : ∀ (d i : Nat) (z : UInt64) (q y : Int), fl_D z c q → q = -52 + d → i + d < 100 → ∃ i', wp Ln xs 79 18 [.double z0, mj_hole, .double z, mj_hole, .long (Int64.ofInt y), mj_hole, .int (nI i)] [] (u, ml_h m lm) Φ = wp Ln xs 79 51 [.double z0, mj_hole, .double (fl_zd c), mj_hole, .long (Int64.ofInt (y + d)), mj_hole, .int i'] [] (u, ml_h m lm) Φ
  | 0, i, z, q, y, h, hq, hi => by
    obtain rfl : q = -52 := by omega
    rw [x79_18, if_neg (nI_ge (by omega) (by omega)), x79_25, fd_lt2 h (by decide), if_pos (by decide), fl_zd_eq h, show y + (0 : Nat) = y by omega]
    exact ⟨_, rfl⟩
  | d + 1, i, z, q, y, h, hq, hi => by
    have h2 := fd_div h fd_2 (by omega) (by omega)
    have h3 : ¬ Op.cmpValue (FP.dcmp z 4611686018427387904) .l < nI 0 := by
      rcases fd_ge2 h (by omega) with e | e
      · rw [e]; decide
      · rw [e]; decide
    rw [x79_18, if_neg (nI_ge (by omega) (by omega)), x79_25, if_neg h3, x79_33 (fd_nan h2), nI_add, show Int64.ofInt y + 1 = Int64.ofInt (y + 1) from (Int64.ofInt_add y 1).symm, show y + ((d + 1 : Nat) : Int) = y + 1 + d by omega]
    exact sp79_h d (i + 1) _ _ (y + 1) h2 (by omega) (by omega)
theorem sp79_d {z0 : UInt64} {c : Nat} : ∀ (d i : Nat) (z : UInt64) (q y : Int), fl_D z c q → q = -52 - d → i + d < 100 → ∃ i', wp Ln xs 79 54 [.double z0, mj_hole, .double z, mj_hole, .long (Int64.ofInt y), mj_hole, .int (nI i)] [] (u, ml_h m lm) Φ = wp Ln xs 79 85 [.double z0, mj_hole, .double (fl_zd c), mj_hole, .long (Int64.ofInt (y - d)), mj_hole, .int i'] [] (u, ml_h m lm) Φ
  | 0, i, z, q, y, h, hq, hi => by
    obtain rfl : q = -52 := by omega
    have h3 : nI 0 ≤ Op.cmpValue (FP.dcmp z FP.dconst1) .g := by
      rcases fd_ge1 h (by omega) with e | e
      · rw [e]; decide
      · rw [e]; decide
    rw [x79_54, if_neg (nI_ge (by omega) (by omega)), x79_61, if_pos h3, fl_zd_eq h, show y - (0 : Nat) = y by omega]
    exact ⟨_, rfl⟩
  | d + 1, i, z, q, y, h, hq, hi => by
    have h2 := fd_mul h fd_2 (by omega) (by omega)
    rw [x79_54, if_neg (nI_ge (by omega) (by omega)), x79_61, fd_lt1 h (by omega), if_neg (by decide), x79_67 (fd_nan h2), nI_add, show Int64.ofInt y - 1 = Int64.ofInt (y - 1) from (Int64.ofInt_sub y 1).symm, show y - ((d + 1 : Nat) : Int) = y - 1 - d by omega]
    exact sp79_d d (i + 1) _ _ (y - 1) h2 (by omega) (by omega)
theorem fl_zd_D {z c q} (h : fl_D z c q) : fl_D (fl_zd c) c (-52) := by
  have e : fl_N 52 2048 (-1074) (1023 * 2 ^ 52 + (c - 2 ^ 52)) c (-52) := ⟨h.1, h.2.1, by decide, by decide, rfl⟩
  unfold fl_zd
  show fl_N _ _ _ (UInt64.ofNat _).toNat _ _
  rw [fd_of e]
  exact e
theorem fl_zf_F {z c q} (h : fl_F z c q) : fl_F (fl_zf c) c (-23) := by
  have e : fl_N 23 256 (-149) (127 * 2 ^ 23 + (c - 2 ^ 23)) c (-23) := ⟨h.1, h.2.1, by decide, by decide, rfl⟩
  unfold fl_zf
  show fl_N _ _ _ (UInt32.ofNat _).toNat _ _
  rw [ff_of e]
  exact e
theorem sp79 {z c q} (h : fl_D z c q) (h1 : -132 ≤ q) (h2 : q ≤ 28) : wp Ln xs 79 0 [.double z, mj_hole, mj_hole, mj_hole, mj_hole, mj_hole, mj_hole] [] (u, ml_h m lm) Φ = Φ (.inl (some (.long (fl_bd c q)))) (u, ml_h m lm) := by
  have hz := fl_zd_D h
  obtain ⟨e1, e2⟩ := fd_end hz
  have last : ∀ x6, wp Ln xs 79 85 [.double z, mj_hole, .double (fl_zd c), mj_hole, .long (Int64.ofInt (1075 + q)), mj_hole, .int x6] [] (u, ml_h m lm) Φ = Φ (.inl (some (.long (fl_bd c q)))) (u, ml_h m lm) := fun x6 => by
    rw [x79_85 e1 e2, fl_sh64 (by omega) (by omega)]
    rfl
  rw [x79_0, fd_gt0 h, if_pos (by decide), x79_8, show (1023 : Int64) = Int64.ofInt 1023 from rfl]
  rcases Int.lt_or_le q (-52) with k | k
  · obtain ⟨d, hd⟩ : ∃ d : Nat, q = -52 - d := ⟨(-52 - q).toNat, by omega⟩
    obtain ⟨i', e⟩ := sp79_d (Ln := Ln) (xs := xs) (u := u) (m := m) (lm := lm) (Φ := Φ) (z0 := z) d 0 z q 1023 h hd (by omega)
    rw [x79_18, if_neg (nI_ge (by omega) (by omega)), x79_25, fd_lt2 h (by omega), if_pos (by decide), x79_51, e, show (1023 : Int) - d = 1075 + q by omega, last]
  · obtain ⟨d, hd⟩ : ∃ d : Nat, q = -52 + d := ⟨(q + 52).toNat, by omega⟩
    obtain ⟨i', e⟩ := sp79_h (Ln := Ln) (xs := xs) (u := u) (m := m) (lm := lm) (Φ := Φ) (z0 := z) d 0 z q 1023 h hd (by omega)
    obtain ⟨i2, e3⟩ := sp79_d (Ln := Ln) (xs := xs) (u := u) (m := m) (lm := lm) (Φ := Φ) (z0 := z) 0 0 (fl_zd c) (-52) (1023 + d) hz (by omega) (by omega)
    rw [e, x79_51, e3, show (1023 : Int) + d - (0 : Nat) = 1075 + q by omega, last]
theorem sp237_d {z0 : UInt64} {c : Nat} : ∀ (d : Nat) (z : UInt64) (q y : Int), fl_D z c q → q = -52 - d → d < 1000 → wp Ln xs 237 7 [.double z0, mj_hole, .long (Int64.ofInt y), mj_hole, .double z, mj_hole] [] (u, ml_h m lm) Φ = wp Ln xs 237 29 [.double z0, mj_hole, .long (Int64.ofInt (y - d)), mj_hole, .double (fl_zd c), mj_hole] [] (u, ml_h m lm) Φ
  | 0, z, q, y, h, hq, hi => by
    obtain rfl : q = -52 := by omega
    have h3 : nI 0 ≤ Op.cmpValue (FP.dcmp z FP.dconst1) .g := by
      rcases fd_ge1 h (by omega) with e | e
      · rw [e]; decide
      · rw [e]; decide
    rw [x237_7, if_pos h3, fl_zd_eq h, show y - (0 : Nat) = y by omega]
  | d + 1, z, q, y, h, hq, hi => by
    have h2 := fd_mul h fd_2 (by omega) (by omega)
    rw [x237_7, fd_lt1 h (by omega), if_neg (by decide), x237_14 (fd_nan h2), show Int64.ofInt y - 1 = Int64.ofInt (y - 1) from (Int64.ofInt_sub y 1).symm, show y - ((d + 1 : Nat) : Int) = y - 1 - d by omega]
    exact sp237_d d _ _ (y - 1) h2 (by omega) (by omega)
theorem sp237_h {z0 : UInt64} {c : Nat} : ∀ (d : Nat) (z : UInt64) (q y : Int), fl_D z c q → q = -52 + d → d < 1000 → wp Ln xs 237 29 [.double z0, mj_hole, .long (Int64.ofInt y), mj_hole, .double z, mj_hole] [] (u, ml_h m lm) Φ = wp Ln xs 237 53 [.double z0, mj_hole, .long (Int64.ofInt (y + d)), mj_hole, .double (fl_zd c), mj_hole] [] (u, ml_h m lm) Φ
  | 0, z, q, y, h, hq, hi => by
    obtain rfl : q = -52 := by omega
    rw [x237_29, fd_lt2 h (by decide), if_pos (by decide), fl_zd_eq h, show y + (0 : Nat) = y by omega]
  | d + 1, z, q, y, h, hq, hi => by
    have h2 := fd_div h fd_2 (by omega) (by omega)
    have h3 : ¬ Op.cmpValue (FP.dcmp z 4611686018427387904) .l < nI 0 := by
      rcases fd_ge2 h (by omega) with e | e
      · rw [e]; decide
      · rw [e]; decide
    rw [x237_29, if_neg h3, x237_38 (fd_nan h2), show Int64.ofInt y + 1 = Int64.ofInt (y + 1) from (Int64.ofInt_add y 1).symm, show y + ((d + 1 : Nat) : Int) = y + 1 + d by omega]
    exact sp237_h d _ _ (y + 1) h2 (by omega) (by omega)
theorem sp237 {z c q} (h : fl_D z c q) (h1 : -132 ≤ q) (h2 : q ≤ 28) : wp Ln xs 237 0 [.double z, mj_hole, mj_hole, mj_hole, mj_hole, mj_hole] [] (u, ml_h m lm) Φ = Φ (.inl (some (.long (fl_bd c q)))) (u, ml_h m lm) := by
  have hz := fl_zd_D h
  obtain ⟨e1, e2⟩ := fd_end hz
  have last : wp Ln xs 237 53 [.double z, mj_hole, .long (Int64.ofInt (1075 + q)), mj_hole, .double (fl_zd c), mj_hole] [] (u, ml_h m lm) Φ = Φ (.inl (some (.long (fl_bd c q)))) (u, ml_h m lm) := by
    rw [x237_53 e1 e2]
    rfl
  rw [x237_0, show (1023 : Int64) = Int64.ofInt 1023 from rfl]
  rcases Int.lt_or_le q (-52) with k | k
  · obtain ⟨d, hd⟩ : ∃ d : Nat, q = -52 - d := ⟨(-52 - q).toNat, by omega⟩
    rw [sp237_d d z q 1023 h hd (by omega), sp237_h 0 (fl_zd c) (-52) (1023 - d) hz (by omega) (by omega), show (1023 : Int) - d + (0 : Nat) = 1075 + q by omega, last]
  · obtain ⟨d, hd⟩ : ∃ d : Nat, q = -52 + d := ⟨(q + 52).toNat, by omega⟩
    have h3 : nI 0 ≤ Op.cmpValue (FP.dcmp z FP.dconst1) .g := by
      rcases fd_ge1 h (by omega) with e | e
      · rw [e]; decide
      · rw [e]; decide
    rw [x237_7, if_pos h3, sp237_h d z q 1023 h hd (by omega), show (1023 : Int) + d = 1075 + q by omega, last]
theorem sp80_h {z0 : UInt32} {c : Nat} : ∀ (d i : Nat) (z : UInt32) (q y : Int), fl_F z c q → q = -23 + d → i + d < 100 → ∃ i', wp Ln xs 80 15 [.float z0, .float z, .int (Int32.ofInt y), .int (nI i)] [] (u, ml_h m lm) Φ = wp Ln xs 80 40 [.float z0, .float (fl_zf c), .int (Int32.ofInt (y + d)), .int i'] [] (u, ml_h m lm) Φ
  | 0, i, z, q, y, h, hq, hi => by
    obtain rfl : q = -23 := by omega
    rw [x80_15, if_neg (nI_ge (by omega) (by omega)), x80_21, ff_lt2 h (by decide), if_pos (by decide), fl_zf_eq h, show y + (0 : Nat) = y by omega]
    exact ⟨_, rfl⟩
  | d + 1, i, z, q, y, h, hq, hi => by
    have h2 := ff_div h ff_2 (by omega) (by omega)
    have h3 : ¬ Op.cmpValue (FP.fcmp z FP.fconst2) .l < nI 0 := by
      rcases ff_ge2 h (by omega) with e | e
      · rw [e]; decide
      · rw [e]; decide
    rw [x80_15, if_neg (nI_ge (by omega) (by omega)), x80_21, if_neg h3, x80_27 (ff_nan h2), nI_add, show Int32.ofInt y + nI 1 = Int32.ofInt (y + 1) from (Int32.ofInt_add y 1).symm, show y + ((d + 1 : Nat) : Int) = y + 1 + d by omega]
    exact sp80_h d (i + 1) _ _ (y + 1) h2 (by omega) (by omega)
theorem sp80_d {z0 : UInt32} {c : Nat} : ∀ (d i : Nat) (z : UInt32) (q y : Int), fl_F z c q → q = -23 - d → i + d < 100 → ∃ i', wp Ln xs 80 42 [.float z0, .float z, .int (Int32.ofInt y), .int (nI i)] [] (u, ml_h m lm) Φ = wp Ln xs 80 67 [.float z0, .float (fl_zf c), .int (Int32.ofInt (y - d)), .int i'] [] (u, ml_h m lm) Φ
  | 0, i, z, q, y, h, hq, hi => by
    obtain rfl : q = -23 := by omega
    have h3 : nI 0 ≤ Op.cmpValue (FP.fcmp z FP.fconst1) .g := by
      rcases ff_ge1 h (by omega) with e | e
      · rw [e]; decide
      · rw [e]; decide
    rw [x80_42, if_neg (nI_ge (by omega) (by omega)), x80_48, if_pos h3, fl_zf_eq h, show y - (0 : Nat) = y by omega]
    exact ⟨_, rfl⟩
  | d + 1, i, z, q, y, h, hq, hi => by
    have h2 := ff_mul h ff_2 (by omega) (by omega)
    rw [x80_42, if_neg (nI_ge (by omega) (by omega)), x80_48, ff_lt1 h (by omega), if_neg (by decide), x80_54 (ff_nan h2), nI_add, fl_m1, show y - ((d + 1 : Nat) : Int) = y - 1 - d by omega]
    exact sp80_d d (i + 1) _ _ (y - 1) h2 (by omega) (by omega)
theorem sp80 {z c q} (h : fl_F z c q) (h1 : -83 ≤ q) (h2 : q ≤ 37) : wp Ln xs 80 0 [.float z, mj_hole, mj_hole, mj_hole] [] (u, ml_h m lm) Φ = Φ (.inl (some (.int (fl_bf c q)))) (u, ml_h m lm) := by
  have hz := fl_zf_F h
  obtain ⟨e1, e2⟩ := ff_end hz
  have last : ∀ x6, wp Ln xs 80 67 [.float z, .float (fl_zf c), .int (Int32.ofInt (150 + q)), .int x6] [] (u, ml_h m lm) Φ = Φ (.inl (some (.int (fl_bf c q)))) (u, ml_h m lm) := fun x6 => by
    rw [x80_67 e1 e2, fl_sh32 (by omega) (by omega)]
    rfl
  rw [x80_0, ff_gt0 h, if_pos (by decide), x80_8, show nI 127 = Int32.ofInt 127 from rfl]
  rcases Int.lt_or_le q (-23) with k | k
  · obtain ⟨d, hd⟩ : ∃ d : Nat, q = -23 - d := ⟨(-23 - q).toNat, by omega⟩
    obtain ⟨i', e⟩ := sp80_d (Ln := Ln) (xs := xs) (u := u) (m := m) (lm := lm) (Φ := Φ) (z0 := z) d 0 z q 127 h hd (by omega)
    rw [x80_15, if_neg (nI_ge (by omega) (by omega)), x80_21, ff_lt2 h (by omega), if_pos (by decide), x80_40, e, show (127 : Int) - d = 150 + q by omega, last]
  · obtain ⟨d, hd⟩ : ∃ d : Nat, q = -23 + d := ⟨(q + 23).toNat, by omega⟩
    obtain ⟨i', e⟩ := sp80_h (Ln := Ln) (xs := xs) (u := u) (m := m) (lm := lm) (Φ := Φ) (z0 := z) d 0 z q 127 h hd (by omega)
    obtain ⟨i2, e3⟩ := sp80_d (Ln := Ln) (xs := xs) (u := u) (m := m) (lm := lm) (Φ := Φ) (z0 := z) 0 0 (fl_zf c) (-23) (127 + d) hz (by omega) (by omega)
    rw [e, x80_40, e3, show (127 : Int) + d - (0 : Nat) = 150 + q by omega, last]
theorem sp238_d {z0 : UInt32} {c : Nat} : ∀ (d : Nat) (z : UInt32) (q y : Int), fl_F z c q → q = -23 - d → d < 120 → wp Ln xs 238 13 [.float z0, .int (Int32.ofInt y), .float z] [] (u, ml_h m lm) Φ = wp Ln xs 238 29 [.float z0, .int (Int32.ofInt (y - d)), .float (fl_zf c)] [] (u, ml_h m lm) Φ
  | 0, z, q, y, h, hq, hi => by
    obtain rfl : q = -23 := by omega
    have h3 : nI 0 ≤ Op.cmpValue (FP.fcmp z FP.fconst1) .g := by
      rcases ff_ge1 h (by omega) with e | e
      · rw [e]; decide
      · rw [e]; decide
    rw [x238_13, if_pos h3, fl_zf_eq h, show y - (0 : Nat) = y by omega]
  | d + 1, z, q, y, h, hq, hi => by
    have h2 := ff_mul h ff_2 (by omega) (by omega)
    rw [x238_13, ff_lt1 h (by omega), if_neg (by decide), x238_19 (ff_nan h2), fl_m1, show y - ((d + 1 : Nat) : Int) = y - 1 - d by omega]
    exact sp238_d d _ _ (y - 1) h2 (by omega) (by omega)
theorem sp238_h {z0 : UInt32} {c : Nat} : ∀ (d : Nat) (z : UInt32) (q y : Int), fl_F z c q → q = -23 + d → d < 120 → wp Ln xs 238 29 [.float z0, .int (Int32.ofInt y), .float z] [] (u, ml_h m lm) Φ = wp Ln xs 238 45 [.float z0, .int (Int32.ofInt (y + d)), .float (fl_zf c)] [] (u, ml_h m lm) Φ
  | 0, z, q, y, h, hq, hi => by
    obtain rfl : q = -23 := by omega
    rw [x238_29, ff_lt2 h (by decide), if_pos (by decide), fl_zf_eq h, show y + (0 : Nat) = y by omega]
  | d + 1, z, q, y, h, hq, hi => by
    have h2 := ff_div h ff_2 (by omega) (by omega)
    have h3 : ¬ Op.cmpValue (FP.fcmp z FP.fconst2) .l < nI 0 := by
      rcases ff_ge2 h (by omega) with e | e
      · rw [e]; decide
      · rw [e]; decide
    rw [x238_29, if_neg h3, x238_35 (ff_nan h2), show Int32.ofInt y + nI 1 = Int32.ofInt (y + 1) from (Int32.ofInt_add y 1).symm, show y + ((d + 1 : Nat) : Int) = y + 1 + d by omega]
    exact sp238_h d _ _ (y + 1) h2 (by omega) (by omega)
theorem sp238 {z c q} (h : fl_F z c q) (h1 : -83 ≤ q) (h2 : q ≤ 37) : wp Ln xs 238 0 [.float z, mj_hole, mj_hole] [] (u, ml_h m lm) Φ = Φ (.inl (some (.int (fl_bf c q)))) (u, ml_h m lm) := by
  have hz := fl_zf_F h
  obtain ⟨e1, e2⟩ := ff_end hz
  have last : wp Ln xs 238 45 [.float z, .int (Int32.ofInt (150 + q)), .float (fl_zf c)] [] (u, ml_h m lm) Φ = Φ (.inl (some (.int (fl_bf c q)))) (u, ml_h m lm) := by
    rw [x238_45 e1 e2]
    rfl
  rw [x238_0, ff_gt0 h, if_pos (by decide), x238_8, show nI 127 = Int32.ofInt 127 from rfl]
  rcases Int.lt_or_le q (-23) with k | k
  · obtain ⟨d, hd⟩ : ∃ d : Nat, q = -23 - d := ⟨(-23 - q).toNat, by omega⟩
    rw [sp238_d d z q 127 h hd (by omega), sp238_h 0 (fl_zf c) (-23) (127 - d) hz (by omega) (by omega), show (127 : Int) - d + (0 : Nat) = 150 + q by omega, last]
  · obtain ⟨d, hd⟩ : ∃ d : Nat, q = -23 + d := ⟨(q + 23).toNat, by omega⟩
    have h3 : nI 0 ≤ Op.cmpValue (FP.fcmp z FP.fconst1) .g := by
      rcases ff_ge1 h (by omega) with e | e
      · rw [e]; decide
      · rw [e]; decide
    rw [x238_13, if_pos h3, sp238_h d z q 127 h hd (by omega), show (127 : Int) + d = 150 + q by omega, last]
theorem sp80_0 : wp Ln xs 80 0 [.float FP.fconst0, mj_hole, mj_hole, mj_hole] [] (u, ml_h m lm) Φ = Φ (.inl (some (.int (nI 0)))) (u, ml_h m lm) := by
  rw [x80_0, if_neg (by decide +kernel), x80_6]
theorem sp238_0 : wp Ln xs 238 0 [.float FP.fconst0, mj_hole, mj_hole] [] (u, ml_h m lm) Φ = Φ (.inl (some (.int (nI 0)))) (u, ml_h m lm) := by
  rw [x238_0, if_neg (by decide +kernel), x238_6]
end FBITS
