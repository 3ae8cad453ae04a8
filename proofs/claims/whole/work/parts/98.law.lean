theorem mj_law {L : Nat} (hL : L ≤ 2048) (xs : Nat → Int32) : ∃ (f : Nat) (w' : mj_W), mj_run L xs f 0 0 (mj_ent 0 [.ref 0]) [] ((0, 0, 0), fun _ => none) = some (.inl (some (.int 1)), w') ∧ w'.1.1 + w'.1.2.1 ≤ 601024 ∧ w'.1.2.2 ≤ 7293034 := by
  sorry
