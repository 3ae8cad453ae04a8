/-! ===== the class's calls, for walks: the state stands, what is told comes onto the stack ===== -/
/-- the class's object holds state σ, saved states, snapshot; an empty text -/
def HD (m : ml_M) (σ : s_S) (n : Nat) (ss : Nat → s_S) (t : Nat) (τ : s_S) : Prop := RepC m 2 σ ∧ RepX m n ss t τ 0 (fun _ => 0)
theorem HD_of {m m' : ml_M} {σ : s_S} {n : Nat} {ss : Nat → s_S} {t : Nat} {τ : s_S} (h : HD m σ n ss t τ) (e : ∀ a, a < 56 ∨ 71 < a → m' a = m a) : HD m' σ n ss t τ := ⟨RepC_of h.1 (fun a _ _ => e a (by omega)), RepX_of h.2 (fun a ha => e a (by omega))⟩
section KL
variable {Ln : Nat} {xs : Nat → Int32} {u : mj_U} {m : ml_M} {lm : ml_J} {Ψ : mj_R → mj_W → Prop} {σ τ : s_S} {n t k b w p q v : Nat} {ss : Nat → s_S}
theorem k56_0 (h0 : s_ok σ) (hm : HD m σ n ss t τ) (hb : b < σ 0) (g : ∀ m', HD m' σ n ss t τ → Ψ (.inl (some (.int (nI (s_frm σ b))))) (u, ml_h m' lm)) : wp Ln xs 56 0 [.ref 1, .int (nI b), .int (nI 0)] [] (u, ml_h m lm) Ψ := by
  obtain ⟨m', f, e⟩ := sp56_k (Ln := Ln) (xs := xs) (u := u) (lm := lm) (w := 0) h0 hm.1 hb (by decide)
  rw [e]
  exact g m' (HD_of hm f)
theorem k56_1 (h0 : s_ok σ) (hm : HD m σ n ss t τ) (hb : b < σ 0) (g : ∀ m', HD m' σ n ss t τ → Ψ (.inl (some (.int (nI (s_len σ b))))) (u, ml_h m' lm)) : wp Ln xs 56 0 [.ref 1, .int (nI b), .int (nI 1)] [] (u, ml_h m lm) Ψ := by
  obtain ⟨m', f, e⟩ := sp56_k (Ln := Ln) (xs := xs) (u := u) (lm := lm) (w := 1) h0 hm.1 hb (by decide)
  rw [e]
  exact g m' (HD_of hm f)
theorem k56_2 (h0 : s_ok σ) (hm : HD m σ n ss t τ) (hb : b < σ 0) (g : ∀ m', HD m' σ n ss t τ → Ψ (.inl (some (.int (nI (s_ub σ b))))) (u, ml_h m' lm)) : wp Ln xs 56 0 [.ref 1, .int (nI b), .int (nI 2)] [] (u, ml_h m lm) Ψ := by
  obtain ⟨m', f, e⟩ := sp56_k (Ln := Ln) (xs := xs) (u := u) (lm := lm) (w := 2) h0 hm.1 hb (by decide)
  rw [e]
  exact g m' (HD_of hm f)
theorem k56_3 (h0 : s_ok σ) (hm : HD m σ n ss t τ) (hb : b < σ 0) (g : ∀ m', HD m' σ n ss t τ → Ψ (.inl (some (.int (nI (s_rom σ b))))) (u, ml_h m' lm)) : wp Ln xs 56 0 [.ref 1, .int (nI b), .int (nI 3)] [] (u, ml_h m lm) Ψ := by
  obtain ⟨m', f, e⟩ := sp56_k (Ln := Ln) (xs := xs) (u := u) (lm := lm) (w := 3) h0 hm.1 hb (by decide)
  rw [e]
  exact g m' (HD_of hm f)
theorem k56_4 (h0 : s_ok σ) (hm : HD m σ n ss t τ) (hb : b < σ 0) (g : ∀ m', HD m' σ n ss t τ → Ψ (.inl (some (.int (nI (s_lo (s_blf σ b) (s_len σ b)))))) (u, ml_h m' lm)) : wp Ln xs 56 0 [.ref 1, .int (nI b), .int (nI 4)] [] (u, ml_h m lm) Ψ := by
  obtain ⟨m', f, e⟩ := sp56_k (Ln := Ln) (xs := xs) (u := u) (lm := lm) (w := 4) h0 hm.1 hb (by decide)
  rw [e]
  exact g m' (HD_of hm f)
theorem k56_5 (h0 : s_ok σ) (hm : HD m σ n ss t τ) (hb : b < σ 0) (g : ∀ m', HD m' σ n ss t τ → Ψ (.inl (some (.int (nI (s_hi (s_blf σ b) (s_len σ b)))))) (u, ml_h m' lm)) : wp Ln xs 56 0 [.ref 1, .int (nI b), .int (nI 5)] [] (u, ml_h m lm) Ψ := by
  obtain ⟨m', f, e⟩ := sp56_k (Ln := Ln) (xs := xs) (u := u) (lm := lm) (w := 5) h0 hm.1 hb (by decide)
  rw [e]
  exact g m' (HD_of hm f)
theorem k56_6 (h0 : s_ok σ) (hm : HD m σ n ss t τ) (hb : b < σ 0) (g : ∀ m', HD m' σ n ss t τ → Ψ (.inl (some (.int (nI (s_rn (s_blf σ b) (s_len σ b)))))) (u, ml_h m' lm)) : wp Ln xs 56 0 [.ref 1, .int (nI b), .int (nI 6)] [] (u, ml_h m lm) Ψ := by
  obtain ⟨m', f, e⟩ := sp56_k (Ln := Ln) (xs := xs) (u := u) (lm := lm) (w := 6) h0 hm.1 hb (by decide)
  rw [e]
  exact g m' (HD_of hm f)
theorem k56_7 (h0 : s_ok σ) (hm : HD m σ n ss t τ) (hb : b < σ 0) (g : ∀ m', HD m' σ n ss t τ → Ψ (.inl (some (.int (nI (s_un (s_blf σ b) (s_len σ b)))))) (u, ml_h m' lm)) : wp Ln xs 56 0 [.ref 1, .int (nI b), .int (nI 7)] [] (u, ml_h m lm) Ψ := by
  obtain ⟨m', f, e⟩ := sp56_k (Ln := Ln) (xs := xs) (u := u) (lm := lm) (w := 7) h0 hm.1 hb (by decide)
  rw [e]
  exact g m' (HD_of hm f)
theorem k56_8 (h0 : s_ok σ) (hm : HD m σ n ss t τ) (hb : b < σ 0) (g : ∀ m', HD m' σ n ss t τ → Ψ (.inl (some (.int (nI (s_pkb σ b))))) (u, ml_h m' lm)) : wp Ln xs 56 0 [.ref 1, .int (nI b), .int (nI 8)] [] (u, ml_h m lm) Ψ := by
  obtain ⟨m', f, e⟩ := sp56_k (Ln := Ln) (xs := xs) (u := u) (lm := lm) (w := 8) h0 hm.1 hb (by decide)
  rw [e]
  exact g m' (HD_of hm f)
theorem k56_9 (h0 : s_ok σ) (hm : HD m σ n ss t τ) (hb : b < σ 0) (g : ∀ m', HD m' σ n ss t τ → Ψ (.inl (some (.int (nI (s_sum (s_len σ) b))))) (u, ml_h m' lm)) : wp Ln xs 56 0 [.ref 1, .int (nI b), .int (nI 9)] [] (u, ml_h m lm) Ψ := by
  obtain ⟨m', f, e⟩ := sp56_k (Ln := Ln) (xs := xs) (u := u) (lm := lm) (w := 9) h0 hm.1 hb (by decide)
  rw [e]
  exact g m' (HD_of hm f)
theorem k72_0 (h0 : s_ok σ) (hm : HD m σ n ss t τ) (hk : k < s_tot σ) (g : ∀ m', HD m' σ n ss t τ → Ψ (.inl (some (.int (nI (s_val σ k))))) (u, ml_h m' lm)) : wp Ln xs 72 0 [.ref 1, .int (nI k), .int (nI 0)] [] (u, ml_h m lm) Ψ := by
  obtain ⟨m', f, e⟩ := sp72_k (Ln := Ln) (xs := xs) (u := u) (lm := lm) (w := 0) h0 hm.1 hk (by decide)
  rw [e]
  exact g m' (HD_of hm f)
theorem k72_1 (h0 : s_ok σ) (hm : HD m σ n ss t τ) (hk : k < s_tot σ) (g : ∀ m', HD m' σ n ss t τ → Ψ (.inl (some (.int (if s_bk σ k = σ 0 then -1 else nI (s_bk σ k))))) (u, ml_h m' lm)) : wp Ln xs 72 0 [.ref 1, .int (nI k), .int (nI 1)] [] (u, ml_h m lm) Ψ := by
  obtain ⟨m', f, e⟩ := sp72_k (Ln := Ln) (xs := xs) (u := u) (lm := lm) (w := 1) h0 hm.1 hk (by decide)
  rw [e]
  exact g m' (HD_of hm f)
theorem k72_2 (h0 : s_ok σ) (hm : HD m σ n ss t τ) (hk : k < s_tot σ) (g : ∀ m', HD m' σ n ss t τ → Ψ (.inl (some (.int (nI (k - s_sum (s_len σ) (s_bk σ k)))))) (u, ml_h m' lm)) : wp Ln xs 72 0 [.ref 1, .int (nI k), .int (nI 2)] [] (u, ml_h m lm) Ψ := by
  obtain ⟨m', f, e⟩ := sp72_k (Ln := Ln) (xs := xs) (u := u) (lm := lm) (w := 2) h0 hm.1 hk (by decide)
  rw [e]
  exact g m' (HD_of hm f)
theorem k72_3 (h0 : s_ok σ) (hm : HD m σ n ss t τ) (hk : k < s_tot σ) (g : ∀ m', HD m' σ n ss t τ → Ψ (.inl (some (.int (nI (s_lk σ k))))) (u, ml_h m' lm)) : wp Ln xs 72 0 [.ref 1, .int (nI k), .int (nI 3)] [] (u, ml_h m lm) Ψ := by
  obtain ⟨m', f, e⟩ := sp72_k (Ln := Ln) (xs := xs) (u := u) (lm := lm) (w := 3) h0 hm.1 hk (by decide)
  rw [e]
  exact g m' (HD_of hm f)
theorem k34_0 (h0 : s_ok σ) (hm : HD m σ n ss t τ) (g : ∀ m', HD m' σ n ss t τ → Ψ (.inl (some (.int (nI (s_tot σ))))) (u, ml_h m' lm)) : wp Ln xs 34 0 [.ref 1, .int (nI 0)] [] (u, ml_h m lm) Ψ := by
  obtain ⟨m', f, e⟩ := sp34_k (Ln := Ln) (xs := xs) (u := u) (lm := lm) (w := 0) h0 hm.1 hm.2.1.2.1 (by decide)
  rw [e]
  exact g m' (HD_of hm f)
theorem k34_1 (h0 : s_ok σ) (hm : HD m σ n ss t τ) (g : ∀ m', HD m' σ n ss t τ → Ψ (.inl (some (.int (nI (σ 0))))) (u, ml_h m' lm)) : wp Ln xs 34 0 [.ref 1, .int (nI 1)] [] (u, ml_h m lm) Ψ := by
  obtain ⟨m', f, e⟩ := sp34_k (Ln := Ln) (xs := xs) (u := u) (lm := lm) (w := 1) h0 hm.1 hm.2.1.2.1 (by decide)
  rw [e]
  exact g m' (HD_of hm f)
theorem k34_2 (h0 : s_ok σ) (hm : HD m σ n ss t τ) (g : ∀ m', HD m' σ n ss t τ → Ψ (.inl (some (.int (nI (σ 1))))) (u, ml_h m' lm)) : wp Ln xs 34 0 [.ref 1, .int (nI 2)] [] (u, ml_h m lm) Ψ := by
  obtain ⟨m', f, e⟩ := sp34_k (Ln := Ln) (xs := xs) (u := u) (lm := lm) (w := 2) h0 hm.1 hm.2.1.2.1 (by decide)
  rw [e]
  exact g m' (HD_of hm f)
theorem k34_3 (h0 : s_ok σ) (hm : HD m σ n ss t τ) (g : ∀ m', HD m' σ n ss t τ → Ψ (.inl (some (.int (nI (s_wg σ))))) (u, ml_h m' lm)) : wp Ln xs 34 0 [.ref 1, .int (nI 3)] [] (u, ml_h m lm) Ψ := by
  obtain ⟨m', f, e⟩ := sp34_k (Ln := Ln) (xs := xs) (u := u) (lm := lm) (w := 3) h0 hm.1 hm.2.1.2.1 (by decide)
  rw [e]
  exact g m' (HD_of hm f)
theorem k34_4 (h0 : s_ok σ) (hm : HD m σ n ss t τ) (g : ∀ m', HD m' σ n ss t τ → Ψ (.inl (some (.int (nI (σ 5))))) (u, ml_h m' lm)) : wp Ln xs 34 0 [.ref 1, .int (nI 4)] [] (u, ml_h m lm) Ψ := by
  obtain ⟨m', f, e⟩ := sp34_k (Ln := Ln) (xs := xs) (u := u) (lm := lm) (w := 4) h0 hm.1 hm.2.1.2.1 (by decide)
  rw [e]
  exact g m' (HD_of hm f)
theorem k34_5 (h0 : s_ok σ) (hm : HD m σ n ss t τ) (g : ∀ m', HD m' σ n ss t τ → Ψ (.inl (some (.int (nI (σ 6))))) (u, ml_h m' lm)) : wp Ln xs 34 0 [.ref 1, .int (nI 5)] [] (u, ml_h m lm) Ψ := by
  obtain ⟨m', f, e⟩ := sp34_k (Ln := Ln) (xs := xs) (u := u) (lm := lm) (w := 5) h0 hm.1 hm.2.1.2.1 (by decide)
  rw [e]
  exact g m' (HD_of hm f)
theorem k34_6 (h0 : s_ok σ) (hm : HD m σ n ss t τ) (g : ∀ m', HD m' σ n ss t τ → Ψ (.inl (some (.int (nI (s_sum (s_rom σ) (σ 0)) - nI (s_sum (s_ub σ) (σ 0)))))) (u, ml_h m' lm)) : wp Ln xs 34 0 [.ref 1, .int (nI 6)] [] (u, ml_h m lm) Ψ := by
  obtain ⟨m', f, e⟩ := sp34_k (Ln := Ln) (xs := xs) (u := u) (lm := lm) (w := 6) h0 hm.1 hm.2.1.2.1 (by decide)
  rw [e]
  exact g m' (HD_of hm f)
theorem k34_7 (h0 : s_ok σ) (hm : HD m σ n ss t τ) (g : ∀ m', HD m' σ n ss t τ → Ψ (.inl (some (.int (nI (s_sum (s_val σ) (s_tot σ)))))) (u, ml_h m' lm)) : wp Ln xs 34 0 [.ref 1, .int (nI 7)] [] (u, ml_h m lm) Ψ := by
  obtain ⟨m', f, e⟩ := sp34_k (Ln := Ln) (xs := xs) (u := u) (lm := lm) (w := 7) h0 hm.1 hm.2.1.2.1 (by decide)
  rw [e]
  exact g m' (HD_of hm f)
theorem k34_8 (h0 : s_ok σ) (hm : HD m σ n ss t τ) (g : ∀ m', HD m' σ n ss t τ → Ψ (.inl (some (.int (nI n)))) (u, ml_h m' lm)) : wp Ln xs 34 0 [.ref 1, .int (nI 8)] [] (u, ml_h m lm) Ψ := by
  obtain ⟨m', f, e⟩ := sp34_k (Ln := Ln) (xs := xs) (u := u) (lm := lm) (w := 8) h0 hm.1 hm.2.1.2.1 (by decide)
  rw [e]
  exact g m' (HD_of hm f)
theorem k81_0 (h0 : s_ok σ) (hm : HD m σ n ss t τ) (hp : p ≤ 999) (hq : q ≤ 999) (g : ∀ m', HD m' σ n ss t τ → Ψ (.inl (some (.int (nI (s_sum (s_mc p q (s_val σ)) (s_tot σ)))))) (u, ml_h m' lm)) : wp Ln xs 81 0 [.ref 1, .int (nI p), .int (nI q), .int (nI 0)] [] (u, ml_h m lm) Ψ := by
  obtain ⟨m', f, e⟩ := sp81_k (Ln := Ln) (xs := xs) (u := u) (lm := lm) (w := 0) h0 hm.1 hp hq (by decide)
  rw [e]
  exact g m' (HD_of hm f)
theorem k81_1 (h0 : s_ok σ) (hm : HD m σ n ss t τ) (hp : p ≤ 999) (hq : q ≤ 999) (g : ∀ m', HD m' σ n ss t τ → Ψ (.inl (some (.int (nI (s_sum (s_mc p q (s_val σ)) (s_tot σ)))))) (u, ml_h m' lm)) : wp Ln xs 81 0 [.ref 1, .int (nI p), .int (nI q), .int (nI 1)] [] (u, ml_h m lm) Ψ := by
  obtain ⟨m', f, e⟩ := sp81_k (Ln := Ln) (xs := xs) (u := u) (lm := lm) (w := 1) h0 hm.1 hp hq (by decide)
  rw [e]
  exact g m' (HD_of hm f)
theorem k81_2 (h0 : s_ok σ) (hm : HD m σ n ss t τ) (hp : p ≤ 999) (hq : q ≤ 999) (g : ∀ m', HD m' σ n ss t τ → Ψ (.inl (some (.int (nI (s_sum (s_ls σ p q) (σ 0) + σ 1))))) (u, ml_h m' lm)) : wp Ln xs 81 0 [.ref 1, .int (nI p), .int (nI q), .int (nI 2)] [] (u, ml_h m lm) Ψ := by
  obtain ⟨m', f, e⟩ := sp81_k (Ln := Ln) (xs := xs) (u := u) (lm := lm) (w := 2) h0 hm.1 hp hq (by decide)
  rw [e]
  exact g m' (HD_of hm f)
theorem k81_3 (h0 : s_ok σ) (hm : HD m σ n ss t τ) (hp : p ≤ 999) (hq : q ≤ 999) (g : ∀ m', HD m' σ n ss t τ → Ψ (.inl (some (.int (s_n1 (s_tot σ) (s_mf p q (s_val σ) (s_tot σ) 0))))) (u, ml_h m' lm)) : wp Ln xs 81 0 [.ref 1, .int (nI p), .int (nI q), .int (nI 3)] [] (u, ml_h m lm) Ψ := by
  obtain ⟨m', f, e⟩ := sp81_k (Ln := Ln) (xs := xs) (u := u) (lm := lm) (w := 3) h0 hm.1 hp hq (by decide)
  rw [e]
  exact g m' (HD_of hm f)
theorem k44_0 (h0 : s_ok σ) (hm : HD m σ n ss t τ) (g : ∀ m', HD m' σ n ss t τ → Ψ (.inl (some (.int (nI (s_K σ / 1000))))) (u, ml_h m' lm)) : wp Ln xs 44 0 [.ref 1, .int (nI 0)] [] (u, ml_h m lm) Ψ := by
  obtain ⟨m', f, e⟩ := sp44_k (Ln := Ln) (xs := xs) (u := u) (lm := lm) (w := 0) h0 hm.1 (by decide)
  rw [e]
  exact g m' (HD_of hm f)
theorem k44_1 (h0 : s_ok σ) (hm : HD m σ n ss t τ) (g : ∀ m', HD m' σ n ss t τ → Ψ (.inl (some (.int (nI (s_K σ / 1000))))) (u, ml_h m' lm)) : wp Ln xs 44 0 [.ref 1, .int (nI 1)] [] (u, ml_h m lm) Ψ := by
  obtain ⟨m', f, e⟩ := sp44_k (Ln := Ln) (xs := xs) (u := u) (lm := lm) (w := 1) h0 hm.1 (by decide)
  rw [e]
  exact g m' (HD_of hm f)
theorem k44_2 (h0 : s_ok σ) (hm : HD m σ n ss t τ) (g : ∀ m', HD m' σ n ss t τ → Ψ (.inl (some (.int (nI (s_K σ % 1000))))) (u, ml_h m' lm)) : wp Ln xs 44 0 [.ref 1, .int (nI 2)] [] (u, ml_h m lm) Ψ := by
  obtain ⟨m', f, e⟩ := sp44_k (Ln := Ln) (xs := xs) (u := u) (lm := lm) (w := 2) h0 hm.1 (by decide)
  rw [e]
  exact g m' (HD_of hm f)
theorem k100_0 (h0 : s_ok σ) (hm : HD m σ n ss t τ) (hk : k < s_tot σ) (hv : v ≤ 999) (g : ∀ m', HD m' σ n ss t τ → Ψ (.inl (some (.int (nI (s_oc σ k v))))) (u, ml_h m' lm)) : wp Ln xs 100 0 [.ref 1, .int (nI k), .int (nI v), .int (nI 0), mj_hole] [] (u, ml_h m lm) Ψ := by
  obtain ⟨m', f, e⟩ := sp100_k (Ln := Ln) (xs := xs) (u := u) (lm := lm) (w := 0) h0 hm.1 hk hv (by decide)
  rw [e]
  exact g m' (HD_of hm f)
theorem k100_1 (h0 : s_ok σ) (hm : HD m σ n ss t τ) (hk : k < s_tot σ) (hv : v ≤ 999) (g : ∀ m', HD m' σ n ss t τ → Ψ (.inl (some (.int (s_mr σ k v)))) (u, ml_h m' lm)) : wp Ln xs 100 0 [.ref 1, .int (nI k), .int (nI v), .int (nI 1), mj_hole] [] (u, ml_h m lm) Ψ := by
  obtain ⟨m', f, e⟩ := sp100_k (Ln := Ln) (xs := xs) (u := u) (lm := lm) (w := 1) h0 hm.1 hk hv (by decide)
  rw [e]
  exact g m' (HD_of hm f)
theorem k61 (hm : HD m σ n ss t τ) (hw : w < 3) (g : ∀ m', HD m' σ n ss t τ → Ψ (.inl (some (.int (nI (σ (2 + w)))))) (u, ml_h m' lm)) : wp Ln xs 61 0 [.ref 1, .int (nI w)] [] (u, ml_h m lm) Ψ := by
  rw [sp61_k hm.1 hw]
  exact g m hm
theorem k61_0 (hm : HD m σ n ss t τ) (g : ∀ m', HD m' σ n ss t τ → Ψ (.inl (some (.int (nI (σ 2))))) (u, ml_h m' lm)) : wp Ln xs 61 0 [.ref 1, .int (nI 0)] [] (u, ml_h m lm) Ψ := by
  exact k61 hm (by decide) g
theorem k61_1 (hm : HD m σ n ss t τ) (g : ∀ m', HD m' σ n ss t τ → Ψ (.inl (some (.int (nI (σ 3))))) (u, ml_h m' lm)) : wp Ln xs 61 0 [.ref 1, .int (nI 1)] [] (u, ml_h m lm) Ψ := by
  exact k61 hm (by decide) g
theorem k61_2 (hm : HD m σ n ss t τ) (g : ∀ m', HD m' σ n ss t τ → Ψ (.inl (some (.int (nI (σ 4))))) (u, ml_h m' lm)) : wp Ln xs 61 0 [.ref 1, .int (nI 2)] [] (u, ml_h m lm) Ψ := by
  exact k61 hm (by decide) g
theorem k59 (h0 : s_ok σ) (hm : HD m σ n ss t τ) (hb : b < σ 0) (hw : w ≤ 4) (g : ∀ m', HD m' σ n ss t τ → Ψ (.inl (some (.int (nI (s_sz (s_blf σ b) (s_len σ b) w))))) (u, ml_h m' lm)) : wp Ln xs 59 0 [.ref 1, .int (nI b), .int (nI w)] [] (u, ml_h m lm) Ψ := by
  obtain ⟨m', f, e⟩ := sp59_k (Ln := Ln) (xs := xs) (u := u) (lm := lm) h0 hm.1 hb hw
  rw [e]
  exact g m' (HD_of hm f)
theorem k59_0 (h0 : s_ok σ) (hm : HD m σ n ss t τ) (hb : b < σ 0) (g : ∀ m', HD m' σ n ss t τ → Ψ (.inl (some (.int (nI (s_len σ b * 10))))) (u, ml_h m' lm)) : wp Ln xs 59 0 [.ref 1, .int (nI b), .int (nI 0)] [] (u, ml_h m lm) Ψ := by
  exact k59 h0 hm hb (by decide) g
theorem k59_2 (h0 : s_ok σ) (hm : HD m σ n ss t τ) (hb : b < σ 0) (g : ∀ m', HD m' σ n ss t τ → Ψ (.inl (some (.int (nI (s_rn (s_blf σ b) (s_len σ b) * 14))))) (u, ml_h m' lm)) : wp Ln xs 59 0 [.ref 1, .int (nI b), .int (nI 2)] [] (u, ml_h m lm) Ψ := by
  exact k59 h0 hm hb (by decide) g
theorem k59_4 (h0 : s_ok σ) (hm : HD m σ n ss t τ) (hb : b < σ 0) (g : ∀ m', HD m' σ n ss t τ → Ψ (.inl (some (.int (nI (4 + s_un (s_blf σ b) (s_len σ b) * 10 + s_len σ b * s_wd (s_un (s_blf σ b) (s_len σ b) - 1)))))) (u, ml_h m' lm)) : wp Ln xs 59 0 [.ref 1, .int (nI b), .int (nI 4)] [] (u, ml_h m lm) Ψ := by
  exact k59 h0 hm hb (by decide) g
theorem k62 (h0 : s_ok σ) (hm : HD m σ n ss t τ) (hb : b < σ 0) (hk : k < 2 ^ 31) (g : ∀ m', HD m' σ n ss t τ → Ψ (.inl (some (.int (if k < (s_bits σ b).1 then nI ((s_bits σ b).2 k) else -1)))) (u, ml_h m' lm)) : wp Ln xs 62 0 [.ref 1, .int (nI b), .int (nI k)] [] (u, ml_h m lm) Ψ := by
  obtain ⟨m', f, e⟩ := sp62_k (Ln := Ln) (xs := xs) (u := u) (lm := lm) h0 hm.1 hb hk
  rw [e]
  exact g m' (HD_of hm f)
theorem k77 (h0 : s_ok σ) (hm : HD m σ n ss t τ) (hb : b < σ 0) (g : ∀ m', HD m' σ n ss t τ → Ψ (.inl (some (.int (s_m1 (s_bs σ b))))) (u, ml_h m' lm)) : wp Ln xs 77 0 [.ref 1, .int (nI b)] [] (u, ml_h m lm) Ψ := by
  obtain ⟨m', f, e⟩ := sp77_k (Ln := Ln) (xs := xs) (u := u) (lm := lm) h0 hm.1 hb
  rw [e]
  exact g m' (HD_of hm f)
theorem k52 (h0 : s_ok σ) (hm : HD m σ n ss t τ) (g : ∀ m', HD m' σ n ss t τ → Ψ (.inl (some (.double (s_shv σ)))) (u, ml_h m' lm)) : wp Ln xs 52 0 [.ref 1] [] (u, ml_h m lm) Ψ := by
  rw [sp52 h0 hm.1]
  exact g m hm
theorem k53 (h0 : s_ok σ) (hm : HD m σ n ss t τ) (g : ∀ m', HD m' σ n ss t τ → Ψ (.inl (some (.float (s_mnv σ)))) (u, ml_h m' lm)) : wp Ln xs 53 0 [.ref 1] [] (u, ml_h m lm) Ψ := by
  rw [sp53 h0 hm.1]
  exact g m hm
/-! the calls that change -/
theorem k95 (h0 : s_ok σ) (hm : HD m σ n ss t τ) (hv : v ≤ 999) (hc : s_can σ) (g : ∀ m', HD m' (s_put σ v) (s_nx n) (s_push n ss σ) t τ → Ψ (.inl (some (.int (nI (s_tot σ + 1))))) (u, ml_h m' lm)) : wp Ln xs 95 0 [.ref 1, .int (nI v)] [] (u, ml_h m lm) Ψ := by
  obtain ⟨m', r, x, f, e⟩ := sp95_k (Ln := Ln) (xs := xs) (u := u) (lm := lm) h0 hm.1 hm.2 hv hc
  rw [e]
  exact g m' ⟨r, x⟩
theorem k104 (h0 : s_ok σ) (hm : HD m σ n ss t τ) (h1 : 1 ≤ σ 1) (hc : σ 0 < 12) (g : ∀ m', HD m' (s_ct σ) (s_nx n) (s_push n ss σ) t τ → Ψ (.inl (some (.int (nI (s_frm (s_ct σ) (σ 0)))))) (u, ml_h m' lm)) : wp Ln xs 104 0 [.ref 1] [] (u, ml_h m lm) Ψ := by
  obtain ⟨m', r, x, f, e⟩ := sp104_k (Ln := Ln) (xs := xs) (u := u) (lm := lm) h0 hm.1 hm.2 h1 hc
  rw [e]
  exact g m' ⟨r, x⟩
theorem k103 (h0 : s_ok σ) (hm : HD m σ n ss t τ) (hk : k < s_tot σ) (hv : v ≤ 999) (g : ∀ m', HD m' (s_rp σ k v) (s_nx n) (s_push n ss σ) t τ → Ψ (.inl (some (.int (nI (s_oc σ k v))))) (u, ml_h m' lm)) : wp Ln xs 103 0 [.ref 1, .int (nI k), .int (nI v), mj_hole] [] (u, ml_h m lm) Ψ := by
  obtain ⟨m', r, x, f, e⟩ := sp103_k (Ln := Ln) (xs := xs) (u := u) (lm := lm) h0 hm.1 hm.2 hk hv
  rw [e]
  exact g m' ⟨r, x⟩
theorem k10 (h0 : s_ok σ) (hm : HD m σ n ss t τ) (hb : b < σ 0) (g : ∀ m', HD m' (s_wa σ b) (s_nx n) (s_push n ss σ) t τ → Ψ (.inl (some (.int (nI (s_rom σ b) - nI (s_rom (s_wa σ b) b))))) (u, ml_h m' lm)) : wp Ln xs 10 0 [.ref 1, .int (nI b), mj_hole] [] (u, ml_h m lm) Ψ := by
  obtain ⟨m', r, x, f, e⟩ := sp10_k (Ln := Ln) (xs := xs) (u := u) (lm := lm) h0 hm.1 hm.2 hb
  rw [e]
  exact g m' ⟨r, x⟩
theorem k110 (h0 : s_ok σ) (hm : HD m σ n ss t τ) (hb : b + 1 < σ 0) (hl : s_len σ b + s_len σ (b + 1) ≤ 16) (g : ∀ m', HD m' (s_jn σ b) (s_nx n) (s_push n ss σ) t τ → Ψ (.inl (some (.int (nI (s_frm (s_jn σ b) b))))) (u, ml_h m' lm)) : wp Ln xs 110 0 [.ref 1, .int (nI b), mj_hole] [] (u, ml_h m lm) Ψ := by
  obtain ⟨m', r, x, f, e⟩ := sp110_k (Ln := Ln) (xs := xs) (u := u) (lm := lm) h0 hm.1 hm.2 hb hl
  rw [e]
  exact g m' ⟨r, x⟩
theorem k114 (h0 : s_ok σ) (hm : HD m σ n ss t τ) (hb : b < σ 0) (h1 : 1 ≤ p) (h2 : p < s_len σ b) (h12 : σ 0 < 12) (g : ∀ m', HD m' (s_spl σ b p) (s_nx n) (s_push n ss σ) t τ → Ψ (.inl (some (.int (s_gn σ b p)))) (u, ml_h m' lm)) : wp Ln xs 114 0 [.ref 1, .int (nI b), .int (nI p), mj_hole, mj_hole] [] (u, ml_h m lm) Ψ := by
  obtain ⟨m', r, x, f, e⟩ := sp114_k (Ln := Ln) (xs := xs) (u := u) (lm := lm) h0 hm.1 hm.2 hb h1 h2 h12
  rw [e]
  exact g m' ⟨r, x⟩
theorem k118 (h0 : s_ok σ) (hm : HD m σ n ss t τ) (hb : b < σ 0) (g : ∀ m', HD m' (s_dp σ b) (s_nx n) (s_push n ss σ) t τ → Ψ (.inl (some (.int (nI (s_len σ b))))) (u, ml_h m' lm)) : wp Ln xs 118 0 [.ref 1, .int (nI b), mj_hole] [] (u, ml_h m lm) Ψ := by
  obtain ⟨m', r, x, f, e⟩ := sp118_k (Ln := Ln) (xs := xs) (u := u) (lm := lm) h0 hm.1 hm.2 hb
  rw [e]
  exact g m' ⟨r, x⟩
theorem k30 (h0 : s_ok σ) (hm : HD m σ n ss t τ) (hw : w < 3) (hv : s_isv w v) (g : ∀ m', HD m' (s_upd σ (2 + w) v) (s_nx n) (s_push n ss σ) t τ → Ψ (.inl (some (.int (nI (σ (2 + w)))))) (u, ml_h m' lm)) : wp Ln xs 30 0 [.ref 1, .int (nI w), .int (nI v), mj_hole] [] (u, ml_h m lm) Ψ := by
  obtain ⟨m', r, x, f, e⟩ := sp30_k (Ln := Ln) (xs := xs) (u := u) (lm := lm) h0 hm.1 hm.2 hw hv
  rw [e]
  exact g m' ⟨r, x⟩
theorem k106 (h0 : s_ok σ) (hm : HD m σ n ss t τ) (g : ∀ m', HD m' σ n ss 1 σ → Ψ (.inl (some (.int (nI (s_tot σ))))) (u, ml_h m' lm)) : wp Ln xs 106 0 [.ref 1] [] (u, ml_h m lm) Ψ := by
  obtain ⟨m', r, x, f, e⟩ := sp106_k (Ln := Ln) (xs := xs) (u := u) (lm := lm) h0 hm.1 hm.2
  rw [e]
  exact g m' ⟨r, x⟩
theorem k108 (h0 : s_ok σ) (h1 : s_ok τ) (hm : HD m σ n ss 1 τ) (g : ∀ m', HD m' τ (s_nx n) (s_push n ss σ) 1 τ → Ψ (.inl (some (.int (nI (s_tot τ))))) (u, ml_h m' lm)) : wp Ln xs 108 0 [.ref 1] [] (u, ml_h m lm) Ψ := by
  obtain ⟨m', r, x, f, e⟩ := sp108_k (Ln := Ln) (xs := xs) (u := u) (lm := lm) h0 h1 hm.1 hm.2
  rw [e]
  exact g m' ⟨r, x⟩
/-- undone what was done last: the state from before it is back -/
theorem k116 {σ' : s_S} (h0 : s_ok σ) (hn : n ≤ 6) (hm : HD m σ' (s_nx n) (s_push n ss σ) t τ) (g : ∀ m' n' ss', n' ≤ 6 → HD m' σ n' ss' t τ → Ψ (.inl (some (.int (nI n')))) (u, ml_h m' lm)) : wp Ln xs 116 0 [.ref 1] [] (u, ml_h m lm) Ψ := by
  have key : ∃ z, s_nx n = z + 1 ∧ s_push n ss σ z = σ ∧ z ≤ 6 := by
    unfold s_nx s_push
    by_cases c : n = 6
    · exact ⟨5, by rw [if_pos c], by rw [if_pos c, if_pos rfl], by decide⟩
    · exact ⟨n, by rw [if_neg c], by rw [if_neg c, if_pos rfl], hn⟩
  obtain ⟨z, e1, e2, e3⟩ := key
  have hx := hm.2
  rw [e1] at hx
  obtain ⟨m', r, x, f, e⟩ := sp116_k (Ln := Ln) (xs := xs) (u := u) (lm := lm) (by rw [e2]; exact h0) hx
  rw [e2] at r
  rw [e]
  exact g m' z _ e3 ⟨r, x⟩
end KL
