/-! ===== sums of states: helpers ===== -/
section HLP
variable {σ : s_S} {b p k c : Nat}
def s_ap (f : Nat → Nat) (n x : Nat) : Nat → Nat := fun j => if j = n then x else f j
def s_fv (σ : s_S) (a : Nat) : Nat → Nat := fun i => s_val σ (a + i)
def s_toi (σ : s_S) (b i : Nat) : s_S := fun k => if k = 0 then σ 0 - 1 else if (7 + b ≤ k ∧ k < 7 + i) ∨ (19 + b ≤ k ∧ k < 19 + i) ∨ (31 + b ≤ k ∧ k < 31 + i) then σ (k + 1) else σ k
def s_to (σ : s_S) (b : Nat) : s_S := s_toi σ b (σ 0 - 1)
theorem s_toi_o {σ : s_S} {b i k : Nat} (h0 : k ≠ 0) (h : ¬ ((7 + b ≤ k ∧ k < 7 + i) ∨ (19 + b ≤ k ∧ k < 19 + i) ∨ (31 + b ≤ k ∧ k < 31 + i))) : s_toi σ b i k = σ k := by
  unfold s_toi
  rw [if_neg h0, if_neg h]
def s_mpi (σ : s_S) (i : Nat) : s_S := fun k => if (7 + i < k ∧ k ≤ 7 + σ 0) ∨ (19 + i < k ∧ k ≤ 19 + σ 0) ∨ (31 + i < k ∧ k ≤ 31 + σ 0) then σ (k - 1) else σ k
def s_mp (σ : s_S) (b : Nat) : s_S := s_upd (s_mpi σ b) 0 (σ 0 + 1)
theorem s_mpi_o {σ : s_S} {i k : Nat} (h : ¬ ((7 + i < k ∧ k ≤ 7 + σ 0) ∨ (19 + i < k ∧ k ≤ 19 + σ 0) ∨ (31 + i < k ∧ k ≤ 31 + σ 0))) : s_mpi σ i k = σ k := by
  unfold s_mpi
  rw [if_neg h]
def s_gn (σ : s_S) (b p : Nat) : Int32 := nI (s_rom σ b) - nI (s_rr (σ 2) (σ 4) (s_blf σ b) (s_len σ b) p) - nI 7
end HLP
