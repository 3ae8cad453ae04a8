/-! ===== a remainder by a number that is not 0 ===== -/
section MLR
variable {Ln : Nat} {xs : Nat → Int32} {i pc : Nat} {L S : List Value} {u : mj_U} {h : mj_H} {Φ : mj_R → mj_W → Prop}
theorem wx_irem {x y : Int32} (hd : decode (mj_b i) pc = .ok (.irem, 1)) (h0 : ¬ y = 0) : wp Ln xs i pc L (.int y :: .int x :: S) (u, h) Φ = wp Ln xs i (pc + 1) L (.int (x - x / y * y) :: S) (u, h) Φ := by
  refine wp_same hd (Or.inr rfl) ?_
  simp only [mj_stp, mj_p2, mj_if, if_pos h0]
  rfl
end MLR
