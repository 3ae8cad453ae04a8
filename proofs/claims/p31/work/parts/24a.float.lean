/-! ===== floating numbers: what the two programs need of them ===== -/
theorem fl_log {n : Nat} (h : 0 < n) : 2 ^ n.log2 ≤ n ∧ n < 2 * 2 ^ n.log2 := by
  have h1 := Nat.log2_self_le (by omega : n ≠ 0)
  have h2 := @Nat.lt_log2_self n
  rw [Nat.pow_succ] at h2
  omega
theorem fl_p2 (a b : Nat) : 2 ^ (a + b) = 2 ^ a * 2 ^ b := Nat.pow_add 2 a b
theorem fl_pos (a : Nat) : 0 < 2 ^ a := Nat.two_pow_pos a
/-- the leading digit -/
theorem fl_lead {A B : Nat} (hA : 0 < A) (hB : 0 < B) : ∃ x y : Nat, FP.Core.leading A B = (x : Int) - y ∧ (x = 0 ∨ y = 0) ∧ B * 2 ^ x ≤ A * 2 ^ y ∧ A * 2 ^ y < 2 * (B * 2 ^ x) := by
  obtain ⟨a1, a2⟩ := fl_log hA
  obtain ⟨b1, b2⟩ := fl_log hB
  unfold FP.Core.leading
  generalize A.log2 = la at *
  generalize B.log2 = lb at *
  simp only []
  rcases Nat.lt_or_ge la lb with h | h
  · obtain ⟨d, rfl⟩ : ∃ d, lb = la + d := ⟨lb - la, by omega⟩
    rw [show ((la : Int) - (la + d : Nat)).toNat = 0 by omega, show (-((la : Int) - (la + d : Nat))).toNat = d by omega]
    rw [fl_p2] at b1 b2
    have c1 : 2 ^ la * 2 ^ d ≤ A * 2 ^ d := Nat.mul_le_mul_right _ a1
    have c2 : A * 2 ^ d < 2 * 2 ^ la * 2 ^ d := Nat.mul_lt_mul_of_pos_right a2 (fl_pos d)
    rw [Nat.mul_assoc] at c2
    split
    · next g =>
      refine ⟨0, d, by omega, Or.inl rfl, g, ?_⟩
      rw [Nat.pow_zero, Nat.mul_one]
      omega
    · next g =>
      refine ⟨0, d + 1, by omega, Or.inl rfl, ?_, ?_⟩
      · rw [Nat.pow_succ, ← Nat.mul_assoc, Nat.pow_zero, Nat.mul_one]
        omega
      · rw [Nat.pow_succ, ← Nat.mul_assoc, Nat.pow_zero, Nat.mul_one]
        rw [Nat.pow_zero, Nat.mul_one] at g
        omega
  · obtain ⟨d, rfl⟩ : ∃ d, la = lb + d := ⟨la - lb, by omega⟩
    rw [show (((lb + d : Nat) : Int) - lb).toNat = d by omega, show (-(((lb + d : Nat) : Int) - lb)).toNat = 0 by omega]
    rw [fl_p2] at a1 a2
    have c1 : 2 ^ lb * 2 ^ d ≤ B * 2 ^ d := Nat.mul_le_mul_right _ b1
    have c2 : B * 2 ^ d < 2 * 2 ^ lb * 2 ^ d := Nat.mul_lt_mul_of_pos_right b2 (fl_pos d)
    rw [Nat.mul_assoc] at c2
    split
    · next g =>
      refine ⟨d, 0, by omega, Or.inr rfl, g, ?_⟩
      rw [Nat.pow_zero, Nat.mul_one]
      omega
    · next g =>
      rw [Nat.pow_zero, Nat.mul_one] at g
      cases d with
      | zero =>
        refine ⟨0, 1, by omega, Or.inl rfl, ?_, ?_⟩
        · rw [Nat.pow_zero, Nat.mul_one]
          rw [Nat.pow_zero] at c1 c2 a1 a2
          omega
        · rw [Nat.pow_zero, Nat.mul_one] at *
          omega
      | succ d =>
        have w : ∀ z : Nat, z * 2 ^ (d + 1) = 2 * (z * 2 ^ d) := fun z => by rw [Nat.pow_succ]; ac_rfl
        rw [w] at g a1 a2
        rw [w, w] at c1 c2
        refine ⟨d, 0, by omega, Or.inr rfl, ?_, ?_⟩
        · rw [Nat.pow_zero, Nat.mul_one]
          omega
        · rw [Nat.pow_zero, Nat.mul_one]
          omega
/-- a format, in numbers -/
def fl_G (f : FP.Core.Fmt) (P X : Nat) (m : Int) : Prop := f.p = P + 1 ∧ f.tails = 2 ^ P ∧ f.exps = X ∧ f.qmin = m ∧ f.qmax = m + X - 3 ∧ 4 ≤ X
theorem fl_64 : fl_G FP.Core.b64 52 2048 (-1074) := by unfold fl_G; decide
theorem fl_32 : fl_G FP.Core.b32 23 256 (-149) := by unfold fl_G; decide
/-- rounding what is not too small and not too great -/
theorem fl_round {f P X m} (g : fl_G f P X m) (s : Bool) {A B : Nat} {e : Int} (hA : 0 < A) (hB : 0 < B) (lo : m ≤ FP.Core.leading A B + e - P) (hi : FP.Core.leading A B + e - P + 1 ≤ m + X - 3) : ∃ c q, FP.Core.roundRatio f s A B e = .fin s c q ∧ 2 ^ P ≤ c ∧ c < 2 ^ (P + 1) ∧ FP.Core.leading A B + e - P ≤ q ∧ q ≤ FP.Core.leading A B + e - P + 1 := by
  obtain ⟨g1, g2, g3, g4, g5, g6⟩ := g
  obtain ⟨x, y, e1, e2, e3, e4⟩ := fl_lead hA hB
  unfold FP.Core.roundRatio FP.Core.roundAt FP.Core.quantum
  rw [if_neg (by omega), g1, g4]
  generalize FP.Core.leading A B = k at *
  rw [show max m (k + e - (((P + 1 : Nat) : Int) - 1)) = k + e - P by omega]
  have hn : 2 ^ P * FP.Core.unitsDen B e (k + e - P) ≤ FP.Core.unitsNum A e (k + e - P) ∧ FP.Core.unitsNum A e (k + e - P) < 2 ^ (P + 1) * FP.Core.unitsDen B e (k + e - P) := by
    unfold FP.Core.unitsNum FP.Core.unitsDen
    obtain ⟨a, b, ha, hb, hab⟩ : ∃ a b : Nat, (e - (k + e - P)).toNat = a ∧ (k + e - P - e).toNat = b ∧ a + x = P + b + y := ⟨_, _, rfl, rfl, by omega⟩
    rw [ha, hb]
    have c1 : B * 2 ^ x * 2 ^ a ≤ A * 2 ^ y * 2 ^ a := Nat.mul_le_mul_right _ e3
    have c2 : A * 2 ^ y * 2 ^ a < 2 * (B * 2 ^ x) * 2 ^ a := Nat.mul_lt_mul_of_pos_right e4 (fl_pos a)
    rw [Nat.mul_assoc, ← fl_p2, Nat.add_comm x, hab, fl_p2, fl_p2] at c1
    rw [Nat.mul_assoc 2, Nat.mul_assoc B, ← fl_p2, Nat.add_comm x, hab, fl_p2, fl_p2] at c2
    have hy := fl_pos y
    constructor
    · refine Nat.le_of_mul_le_mul_right (c := 2 ^ y) ?_ hy
      calc 2 ^ P * (B * 2 ^ b) * 2 ^ y = B * (2 ^ P * 2 ^ b * 2 ^ y) := by ac_rfl
        _ ≤ A * 2 ^ y * 2 ^ a := c1
        _ = A * 2 ^ a * 2 ^ y := by ac_rfl
    · refine Nat.lt_of_mul_lt_mul_right (a := 2 ^ y) ?_
      calc A * 2 ^ a * 2 ^ y = A * 2 ^ y * 2 ^ a := by ac_rfl
        _ < 2 * (B * (2 ^ P * 2 ^ b * 2 ^ y)) := c2
        _ = 2 ^ (P + 1) * (B * 2 ^ b) * 2 ^ y := by rw [Nat.pow_succ]; ac_rfl
  have hd : 0 < FP.Core.unitsDen B e (k + e - P) := Nat.mul_pos hB (fl_pos _)
  generalize FP.Core.unitsDen B e (k + e - P) = D at *
  generalize FP.Core.unitsNum A e (k + e - P) = N at *
  have n1 : 2 ^ P ≤ N / D := (Nat.le_div_iff_mul_le hd).2 hn.1
  have n2 : N / D < 2 ^ (P + 1) := (Nat.div_lt_iff_lt_mul hd).2 hn.2
  have n3 : N / D ≤ FP.Core.nearest N D ∧ FP.Core.nearest N D ≤ N / D + 1 := by
    unfold FP.Core.nearest
    split
    · omega
    · split <;> omega
  generalize FP.Core.nearest N D = c at *
  unfold FP.Core.settle FP.Core.bound
  rw [g1, g2, g5]
  split
  · rw [if_pos (by omega)]
    exact ⟨_, _, rfl, by omega, by omega, by omega, by omega⟩
  · refine ⟨_, _, rfl, by omega, ?_, by omega, by omega⟩
    rw [Nat.pow_succ]
    have := fl_pos P
    omega
/-- rounding what is a number of the format already -/
theorem fl_exact {f P X m} (g : fl_G f P X m) (s : Bool) {c a b : Nat} {e : Int} (h1 : 2 ^ P ≤ c) (h2 : c < 2 ^ (P + 1)) (lo : m ≤ e + a - b) (hi : e + a - b ≤ m + X - 3) : FP.Core.roundRatio f s (c * 2 ^ a) (2 ^ b) e = .fin s c (e + a - b) := by
  obtain ⟨g1, g2, g3, g4, g5, g6⟩ := g
  have hp := fl_pos P
  have hA : 0 < c * 2 ^ a := Nat.mul_pos (by omega) (fl_pos a)
  obtain ⟨x, y, e1, e2, e3, e4⟩ := fl_lead hA (fl_pos b)
  have hk : FP.Core.leading (c * 2 ^ a) (2 ^ b) = (P : Int) + a - b := by
    rw [e1]
    have c1 : 2 ^ (b + x) < 2 ^ (P + 1 + a + y) := by
      rw [fl_p2, fl_p2 (P + 1 + a), fl_p2 (P + 1)]
      exact Nat.lt_of_le_of_lt e3 (Nat.mul_lt_mul_of_pos_right (Nat.mul_lt_mul_of_pos_right h2 (fl_pos a)) (fl_pos y))
    have c2 : 2 ^ (P + a + y) < 2 ^ (1 + (b + x)) := by
      rw [fl_p2 1, fl_p2 b, fl_p2 (P + a), fl_p2 P]
      exact Nat.lt_of_le_of_lt (Nat.mul_le_mul_right _ (Nat.mul_le_mul_right _ h1)) e4
    have d1 := (Nat.pow_lt_pow_iff_right (by decide : 1 < 2)).1 c1
    have d2 := (Nat.pow_lt_pow_iff_right (by decide : 1 < 2)).1 c2
    omega
  unfold FP.Core.roundRatio FP.Core.roundAt FP.Core.quantum
  rw [if_neg (by omega), g1, g4, hk, show max m ((P : Int) + a - b + e - (((P + 1 : Nat) : Int) - 1)) = e + a - b by omega]
  have hn : FP.Core.nearest (FP.Core.unitsNum (c * 2 ^ a) e (e + a - b)) (FP.Core.unitsDen (2 ^ b) e (e + a - b)) = c := by
    unfold FP.Core.unitsNum FP.Core.unitsDen
    rw [Nat.mul_assoc, ← fl_p2, ← fl_p2, show a + (e - (e + a - b)).toNat = b + (e + a - b - e).toNat by omega]
    have hd := fl_pos (b + (e + a - b - e).toNat)
    unfold FP.Core.nearest
    rw [Nat.mul_mod_left, if_pos (by omega), Nat.mul_div_cancel _ hd]
  rw [hn]
  unfold FP.Core.settle FP.Core.bound
  rw [g1, g5, if_pos h2, if_pos hi]
/-- bits n stand for c * 2 ^ q, with a full significand -/
def fl_N (P X : Nat) (m : Int) (n c : Nat) (q : Int) : Prop := 2 ^ P ≤ c ∧ c < 2 ^ (P + 1) ∧ m ≤ q ∧ q ≤ m + X - 3 ∧ n = ((q - m).toNat + 1) * 2 ^ P + (c - 2 ^ P)
theorem fl_dec {f P X m} (g : fl_G f P X m) {n c q} (h : fl_N P X m n c q) : FP.Core.decode f n = .fin false c q := by
  obtain ⟨g1, g2, g3, g4, g5, g6⟩ := g
  obtain ⟨h1, h2, h3, h4, h5⟩ := h
  rw [Nat.pow_succ] at h2
  unfold FP.Core.decode FP.Core.fieldE FP.Core.fieldT FP.Core.fieldS
  rw [g2, g3, g4]
  have hp := fl_pos P
  have d1 : n / 2 ^ P = (q - m).toNat + 1 := by
    rw [h5, Nat.mul_comm, Nat.mul_add_div hp, Nat.div_eq_of_lt (by omega), Nat.add_zero]
  have d2 : n % 2 ^ P = c - 2 ^ P := by
    rw [h5, Nat.mul_comm, Nat.mul_add_mod, Nat.mod_eq_of_lt (by omega)]
  rw [d1, d2, Nat.mod_eq_of_lt (show (q - m).toNat + 1 < X by omega), Nat.div_eq_of_lt (show (q - m).toNat + 1 < X by omega), if_neg (by omega), if_neg (by omega)]
  rw [show 2 ^ P + (c - 2 ^ P) = c by omega, show m + (((q - m).toNat + 1 : Nat) - 1 : Int) = q by omega]
  rfl
theorem fl_enc {f P X m} (g : fl_G f P X m) {c q} (h1 : 2 ^ P ≤ c) (h2 : c < 2 ^ (P + 1)) (h3 : m ≤ q) (h4 : q ≤ m + X - 3) : fl_N P X m (FP.Core.encode f (.fin false c q)) c q := by
  obtain ⟨g1, g2, g3, g4, g5, g6⟩ := g
  refine ⟨h1, h2, h3, h4, ?_⟩
  unfold FP.Core.encode FP.Core.assemble
  simp only []
  rw [g2, g3, g4, if_neg (by omega)]
  simp
theorem fl_lt {P X m n c q} (g6 : 4 ≤ X) (h : fl_N P X m n c q) : n < (X - 1) * 2 ^ P := by
  obtain ⟨h1, h2, h3, h4, h5⟩ := h
  rw [Nat.pow_succ] at h2
  have : ((q - m).toNat + 1 + 1) * 2 ^ P ≤ (X - 1) * 2 ^ P := Nat.mul_le_mul_right _ (by omega)
  rw [Nat.add_mul, Nat.one_mul] at this
  omega
/-- twice, and the half -/
theorem fl_mul {f P X m} (g : fl_G f P X m) {n c q z r} (h : fl_N P X m n c q) (hz : FP.Core.decode f z = .fin false (2 ^ P) r) (lo : m ≤ q + r + P) (hi : q + r + P ≤ m + X - 3) : fl_N P X m (FP.Core.mul f n z) c (q + r + P) := by
  unfold FP.Core.mul
  rw [fl_dec g h, hz]
  unfold FP.Core.exactProduct FP.Core.round
  simp only []
  have e := fl_exact g (false != false) (b := 0) (e := q + r) h.1 h.2.1 (show m ≤ q + r + P - (0 : Nat) by omega) (show q + r + P - (0 : Nat) ≤ m + X - 3 by omega)
  rw [Nat.pow_zero] at e
  rw [e]
  simp only [Int.ofNat_zero, Int.sub_zero]
  exact fl_enc g h.1 h.2.1 lo hi
theorem fl_div {f P X m} (g : fl_G f P X m) {n c q z r} (h : fl_N P X m n c q) (hz : FP.Core.decode f z = .fin false (2 ^ P) r) (lo : m ≤ q - r - P) (hi : q - r - P ≤ m + X - 3) : fl_N P X m (FP.Core.div f n z) c (q - r - P) := by
  unfold FP.Core.div
  rw [fl_dec g h, hz]
  unfold FP.Core.quotient
  simp only []
  have hp := fl_pos P
  rw [if_neg (by omega)]
  have e := fl_exact g (false != false) (a := 0) (b := P) (e := q - r) h.1 h.2.1 (show m ≤ q - r + (0 : Nat) - P by omega) (show q - r + (0 : Nat) - P ≤ m + X - 3 by omega)
  rw [Nat.pow_zero, Nat.mul_one] at e
  rw [e]
  simp only [Int.ofNat_zero, Int.add_zero]
  exact fl_enc g h.1 h.2.1 lo hi
/-- against a power of two -/
theorem fl_cmp {f P X m} (g : fl_G f P X m) {n c q z r} (h : fl_N P X m n c q) (hz : FP.Core.decode f z = .fin false (2 ^ P) r) : (q < r → FP.Core.cmp f n z = some .lt) ∧ (r ≤ q → FP.Core.cmp f n z = some .eq ∨ FP.Core.cmp f n z = some .gt) := by
  unfold FP.Core.cmp
  rw [fl_dec g h, hz]
  obtain ⟨h1, h2, -⟩ := h
  unfold FP.Core.order FP.Core.inUnits FP.Core.signed
  simp only [Bool.false_eq_true, if_false]
  constructor
  · intro hr
    rw [show (q - min q r).toNat = 0 by omega]
    obtain ⟨d, hd⟩ : ∃ d, (r - min q r).toNat = d + 1 := ⟨(r - min q r).toNat - 1, by omega⟩
    rw [hd, Nat.pow_zero, Nat.mul_one]
    have : 2 ^ (P + 1) ≤ 2 ^ P * 2 ^ (d + 1) := by
      rw [← fl_p2]
      exact Nat.pow_le_pow_right (by decide) (by omega)
    generalize 2 ^ P * 2 ^ (d + 1) = z at *
    rw [Int.compare_eq_lt.2 (by omega)]
  · intro hr
    rw [show (r - min q r).toNat = 0 by omega, Nat.pow_zero, Nat.mul_one]
    have : c * 1 ≤ c * 2 ^ (q - min q r).toNat := Nat.mul_le_mul_left _ (fl_pos _)
    generalize c * 2 ^ (q - min q r).toNat = z at *
    rcases Nat.lt_or_ge (2 ^ P) z with k | k
    · right
      rw [Int.compare_eq_gt.2 (by omega)]
    · left
      rw [show z = 2 ^ P by omega, Int.compare_eq_eq.2 rfl]
/-- a small whole number -/
theorem fl_int {f P X m} (g : fl_G f P X m) {i : Int} {K : Nat} (h1 : 0 < i) (h2 : i < 2 ^ (K + 1)) (lo : m ≤ -(P : Int)) (hi : (K : Int) - P + 1 ≤ m + X - 3) : ∃ c q, fl_N P X m (FP.Core.fromInt f i) c q ∧ -(P : Int) ≤ q ∧ q ≤ K - P + 1 := by
  unfold FP.Core.fromInt FP.Core.ofInt FP.Core.round
  simp only []
  obtain ⟨x, y, e1, e2, e3, e4⟩ := fl_lead (A := i.natAbs) (B := 1) (by omega) (by decide)
  have hx := fl_pos x
  have k1 : y = 0 := by
    rcases e2 with e2 | e2
    · subst e2
      cases y with
      | zero => rfl
      | succ y =>
        rw [Nat.pow_zero, Nat.pow_succ] at e4
        have : 1 * 2 ≤ i.natAbs * (2 ^ y * 2) := Nat.mul_le_mul (by omega) (by have := fl_pos y; omega)
        omega
    · exact e2
  subst k1
  have k2 : x < K + 1 := by
    refine (Nat.pow_lt_pow_iff_right (by decide : 1 < 2)).1 ?_
    rw [Nat.pow_zero, Nat.mul_one, Nat.one_mul] at e3
    have e5 : ((2 ^ (K + 1) : Nat) : Int) = 2 ^ (K + 1) := by simp
    rw [← e5] at h2
    omega
  obtain ⟨c, q, d1, d2, d3, d4, d5⟩ := fl_round g (decide (i < 0)) (A := i.natAbs) (B := 1) (e := 0) (by omega) (by decide) (by omega) (by omega)
  rw [d1, show decide (i < 0) = false from decide_eq_false (by omega)]
  exact ⟨c, q, fl_enc g d2 d3 (by omega) (by omega), by omega, by omega⟩
/-- a quotient -/
theorem fl_quo {f P X m} (g : fl_G f P X m) {n c q z d r} (h : fl_N P X m n c q) (hz : fl_N P X m z d r) (lo : m ≤ q - r - P - 1) (hi : q - r - P + 1 ≤ m + X - 3) : ∃ c' q', fl_N P X m (FP.Core.div f n z) c' q' ∧ q - r - P - 1 ≤ q' ∧ q' ≤ q - r - P + 1 := by
  unfold FP.Core.div
  rw [fl_dec g h, fl_dec g hz]
  obtain ⟨h1, h2, -⟩ := h
  obtain ⟨z1, z2, -⟩ := hz
  unfold FP.Core.quotient
  simp only []
  have hp := fl_pos P
  rw [if_neg (by omega)]
  obtain ⟨x, y, e1, e2, e3, e4⟩ := fl_lead (A := c) (B := d) (by omega) (by omega)
  rw [Nat.pow_succ] at h2 z2
  have k1 : x = 0 := by
    rcases e2 with e2 | e2
    · exact e2
    · subst e2
      cases x with
      | zero => rfl
      | succ x =>
        rw [Nat.pow_succ, Nat.pow_zero, Nat.mul_one] at e3
        have : d * 2 ≤ d * (2 ^ x * 2) := Nat.mul_le_mul_left _ (by have := fl_pos x; omega)
        omega
  subst k1
  have k2 : y ≤ 1 := by
    rcases y with _ | _ | y
    · omega
    · omega
    · rw [Nat.pow_succ, Nat.pow_succ, Nat.pow_zero, Nat.mul_one] at e4
      have : c * (1 * 2 * 2) ≤ c * (2 ^ y * 2 * 2) := Nat.mul_le_mul_left _ (by have := fl_pos y; omega)
      omega
  obtain ⟨c', q', d1, d2, d3, d4, d5⟩ := fl_round g (false != false) (A := c) (B := d) (e := q - r) (by omega) (by omega) (by omega) (by omega)
  rw [d1]
  exact ⟨c', q', fl_enc g d2 d3 (by omega) (by omega), by omega, by omega⟩
/-- less one, times a power of two -/
theorem fl_sub {f P X m} (g : fl_G f P X m) {n c z} (h : fl_N P X m n c (-P)) (hz : FP.Core.decode f z = .fin false (2 ^ P) (-P)) (lo : m ≤ -(P : Int) - P) (hi : 2 ≤ m + X - 3) : FP.Core.sub f n z = 0 ∨ ∃ c' q', fl_N P X m (FP.Core.sub f n z) c' q' ∧ -(P : Int) - P ≤ q' ∧ q' ≤ 2 := by
  unfold FP.Core.sub
  rw [fl_dec g h, hz]
  obtain ⟨h1, h2, -⟩ := h
  rw [Nat.pow_succ] at h2
  unfold FP.Core.negate FP.Core.exactSum FP.Core.round
  simp only [Bool.not_false]
  have hv : FP.Core.sumUnits false c (-(P : Int)) true (2 ^ P) (-P) (min (-(P : Int)) (-P)) = ((c - 2 ^ P : Nat) : Int) := by
    unfold FP.Core.sumUnits FP.Core.signed FP.Core.inUnits
    rw [show (-(P : Int) - min (-(P : Int)) (-P)).toNat = 0 by omega, Nat.pow_zero, Nat.mul_one, Nat.mul_one]
    simp only [Bool.false_eq_true, if_false, if_true]
    omega
  have hs : FP.Core.sumSign false true ((c - 2 ^ P : Nat) : Int) = false := by
    unfold FP.Core.sumSign
    split
    · rfl
    · exact decide_eq_false (by omega)
  rw [hv, hs, show min (-(P : Int)) (-P) = -P by omega, Int.natAbs_natCast]
  rcases Nat.eq_zero_or_pos (c - 2 ^ P) with k | k
  · left
    rw [k]
    unfold FP.Core.roundRatio FP.Core.encode FP.Core.assemble
    rw [if_pos rfl]
    simp only []
    rw [g.2.1, if_pos (fl_pos P)]
    simp
  · right
    obtain ⟨x, y, e1, e2, e3, e4⟩ := fl_lead (A := c - 2 ^ P) (B := 1) k (by decide)
    have hx := fl_pos x
    have k1 : y = 0 := by
      rcases e2 with e2 | e2
      · subst e2
        cases y with
        | zero => rfl
        | succ y =>
          rw [Nat.pow_zero, Nat.pow_succ] at e4
          have : 1 * 2 ≤ (c - 2 ^ P) * (2 ^ y * 2) := Nat.mul_le_mul (by omega) (by have := fl_pos y; omega)
          omega
      · exact e2
    subst k1
    have k2 : x < P + 1 := by
      refine (Nat.pow_lt_pow_iff_right (by decide : 1 < 2)).1 ?_
      rw [Nat.pow_zero, Nat.mul_one, Nat.one_mul] at e3
      rw [Nat.pow_succ]
      omega
    obtain ⟨c', q', d1, d2, d3, d4, d5⟩ := fl_round g false (A := c - 2 ^ P) (B := 1) (e := -P) k (by decide) (by omega) (by omega)
    rw [d1]
    exact ⟨c', q', fl_enc g d2 d3 (by omega) (by omega), by omega, by omega⟩
theorem fl_zero {f P X m} (g : fl_G f P X m) {z r} (hz : FP.Core.decode f z = .fin false (2 ^ P) r) : FP.Core.mul f 0 z = 0 := by
  unfold FP.Core.mul
  have h0 : FP.Core.decode f 0 = .fin false 0 m := by
    obtain ⟨g1, g2, g3, g4, g5, g6⟩ := g
    unfold FP.Core.decode FP.Core.fieldE FP.Core.fieldT FP.Core.fieldS
    rw [g2, g3, g4]
    simp only [Nat.zero_div, Nat.zero_mod]
    rw [if_neg (by omega), if_pos trivial]
    rfl
  rw [h0, hz]
  unfold FP.Core.exactProduct FP.Core.round FP.Core.roundRatio
  simp only []
  rw [Nat.zero_mul, if_pos rfl]
  unfold FP.Core.encode FP.Core.assemble
  simp only []
  rw [g.2.1, if_pos (fl_pos P)]
  simp
