/-! ===== sums of floating numbers that are numbers ===== -/
section MLF
variable {Ln : Nat} {xs : Nat → Int32} {i pc : Nat} {L S : List Value} {u : mj_U} {h : mj_H} {Φ : mj_R → mj_W → Prop}
theorem wx_fsub {x y : UInt32} (hd : decode (mj_b i) pc = .ok (.fsub, 1)) (hn : FP.fsub x y &&& 0x7fffffff ≤ 0x7f800000) : wp Ln xs i pc L (.float y :: .float x :: S) (u, h) Φ = wp Ln xs i (pc + 1) L (.float (FP.fsub x y) :: S) (u, h) Φ := by
  refine wp_same hd (Or.inr rfl) ?_
  simp only [mj_stp, mj_f2, mj_if, if_pos hn]
  rfl
theorem wx_fmul {x y : UInt32} (hd : decode (mj_b i) pc = .ok (.fmul, 1)) (hn : FP.fmul x y &&& 0x7fffffff ≤ 0x7f800000) : wp Ln xs i pc L (.float y :: .float x :: S) (u, h) Φ = wp Ln xs i (pc + 1) L (.float (FP.fmul x y) :: S) (u, h) Φ := by
  refine wp_same hd (Or.inr rfl) ?_
  simp only [mj_stp, mj_f2, mj_if, if_pos hn]
  rfl
theorem wx_fdiv {x y : UInt32} (hd : decode (mj_b i) pc = .ok (.fdiv, 1)) (hn : FP.fdiv x y &&& 0x7fffffff ≤ 0x7f800000) : wp Ln xs i pc L (.float y :: .float x :: S) (u, h) Φ = wp Ln xs i (pc + 1) L (.float (FP.fdiv x y) :: S) (u, h) Φ := by
  refine wp_same hd (Or.inr rfl) ?_
  simp only [mj_stp, mj_f2, mj_if, if_pos hn]
  rfl
theorem wx_dsub {x y : UInt64} (hd : decode (mj_b i) pc = .ok (.dsub, 1)) (hn : FP.dsub x y &&& 0x7fffffffffffffff ≤ 0x7ff0000000000000) : wp Ln xs i pc L (.double y :: .double x :: S) (u, h) Φ = wp Ln xs i (pc + 1) L (.double (FP.dsub x y) :: S) (u, h) Φ := by
  refine wp_same hd (Or.inr rfl) ?_
  simp only [mj_stp, mj_d2, mj_if, if_pos hn]
  rfl
theorem wx_dmul {x y : UInt64} (hd : decode (mj_b i) pc = .ok (.dmul, 1)) (hn : FP.dmul x y &&& 0x7fffffffffffffff ≤ 0x7ff0000000000000) : wp Ln xs i pc L (.double y :: .double x :: S) (u, h) Φ = wp Ln xs i (pc + 1) L (.double (FP.dmul x y) :: S) (u, h) Φ := by
  refine wp_same hd (Or.inr rfl) ?_
  simp only [mj_stp, mj_d2, mj_if, if_pos hn]
  rfl
theorem wx_ddiv {x y : UInt64} (hd : decode (mj_b i) pc = .ok (.ddiv, 1)) (hn : FP.ddiv x y &&& 0x7fffffffffffffff ≤ 0x7ff0000000000000) : wp Ln xs i pc L (.double y :: .double x :: S) (u, h) Φ = wp Ln xs i (pc + 1) L (.double (FP.ddiv x y) :: S) (u, h) Φ := by
  refine wp_same hd (Or.inr rfl) ?_
  simp only [mj_stp, mj_d2, mj_if, if_pos hn]
  rfl
theorem wx_f2d {x : UInt32} (hd : decode (mj_b i) pc = .ok (.f2d, 1)) (hn : FP.f2d x &&& 0x7fffffffffffffff ≤ 0x7ff0000000000000) : wp Ln xs i pc L (.float x :: S) (u, h) Φ = wp Ln xs i (pc + 1) L (.double (FP.f2d x) :: S) (u, h) Φ := by
  refine wp_same hd (Or.inr rfl) ?_
  simp only [mj_stp, mj_f1, mj_if, if_pos hn]
  rfl
end MLF
