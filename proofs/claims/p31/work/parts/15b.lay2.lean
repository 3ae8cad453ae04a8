/-! ===== what the segments' equations want of the layout ===== -/
theorem ml_ia_of {a n : Nat} (h : ml_L[a]? = some (.inl (0, n))) : ml_ia a ∧ ml_n a = n := by
  have e : ml_n a = n := by
    unfold ml_n
    simp only [h]
  exact ⟨by unfold ml_ia; rw [e]; exact h, e⟩
theorem ml_sh_ia {p : Nat} (h : ml_sh p) : ml_ia (p + 1) := (ml_ia_of h.2).1
theorem ml_sh_n {p : Nat} (h : ml_sh p) : ml_n (p + 1) = 16 := (ml_ia_of h.2).2
theorem ml_co_ia1 {p : Nat} (h : ml_co p) : ml_ia (p + 1) := (ml_ia_of h.2.1).1
theorem ml_co_n1 {p : Nat} (h : ml_co p) : ml_n (p + 1) = 207 := (ml_ia_of h.2.1).2
theorem ml_co_ia2 {p : Nat} (h : ml_co p) : ml_ia (p + 2) := (ml_ia_of h.2.2.1).1
theorem ml_co_n2 {p : Nat} (h : ml_co p) : ml_n (p + 2) = 12 := (ml_ia_of h.2.2.1).2
theorem ml_co_ia3 {p : Nat} (h : ml_co p) : ml_ia (p + 3) := (ml_ia_of h.2.2.2.1).1
theorem ml_co_n3 {p : Nat} (h : ml_co p) : ml_n (p + 3) = 12 := (ml_ia_of h.2.2.2.1).2
theorem ml_co_ia4 {p : Nat} (h : ml_co p) : ml_ia (p + 4) := (ml_ia_of h.2.2.2.2.1).1
theorem ml_co_n4 {p : Nat} (h : ml_co p) : ml_n (p + 4) = 12 := (ml_ia_of h.2.2.2.2.1).2
theorem ml_co_ia5 {p : Nat} (h : ml_co p) : ml_ia (p + 5) := (ml_ia_of h.2.2.2.2.2).1
theorem ml_co_n5 {p : Nat} (h : ml_co p) : ml_n (p + 5) = 3 := (ml_ia_of h.2.2.2.2.2).2
section MLV
variable {Ln : Nat} {xs : Nat → Int32} {i pc : Nat} {L S : List Value} {u : mj_U} {m : ml_M} {lm : ml_J} {w : mj_W} {Φ : mj_R → mj_W → Prop} {a k n : Nat}
theorem wm_alenk (hd : decode (mj_b i) pc = .ok (.arraylength, 1)) (hl : ml_ia a) (h0 : a ≠ 0) (hn : ml_n a = n) : wp Ln xs i pc L (.ref a :: S) (u, ml_h m lm) Φ = wp Ln xs i (pc + 1) L (.int (nI n) :: S) (u, ml_h m lm) Φ := by
  subst hn
  exact wm_alen hd hl h0
/-- a number of the script -/
theorem wx_ald0 (hd : decode (mj_b i) pc = .ok (.iaload, 1)) (hk : k < Ln) (hL : Ln < 2 ^ 31) : wp Ln xs i pc L (.int (nI k) :: .ref 0 :: S) (u, ml_h m lm) Φ = wp Ln xs i (pc + 1) L (.int (xs k) :: S) (u, ml_h m lm) Φ := by
  refine wp_same hd (Or.inr rfl) ?_
  simp only [mj_stp, mj_p1, mj_r1, if_true, mj_in_k hk hL, nI_clamp (Nat.lt_trans hk hL)]
  rfl
end MLV
theorem mj_fin_i {i : Nat} {v : Int32} (h : mj_r i = some .int) : mj_fin i [.int v] .ireturn = some (some (.int v)) := by
  simp only [mj_fin, h, mj_if]
  exact if_pos rfl
