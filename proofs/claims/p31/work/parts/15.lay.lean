/-! ===== the heap behind the constructors: its layout stands; what changes are numbers ===== -/
abbrev ml_M : Type := Nat → Nat → Int32
abbrev ml_J : Type := Nat → Nat → Int64
abbrev ml_Z : Type := (Nat × Nat) ⊕ (Nat × List Value)
def ml_L : List ml_Z := [
  .inl (9, 0),
  .inr (8, [.ref 2, .ref 8, .int 0, .ref 14, .ref 52, .ref 56, .ref 58, .ref 61, .ref 64, .ref 69, .ref 71]),
  .inr (1, [.ref 3, .ref 4, .ref 5, .ref 6, .ref 7, .int 0, .int 0, .int 0, .int 0]),
  .inl (0, 207),
  .inl (0, 12),
  .inl (0, 12),
  .inl (0, 12),
  .inl (0, 3),
  .inr (1, [.ref 9, .ref 10, .ref 11, .ref 12, .ref 13, .int 0, .int 0, .int 0, .int 0]),
  .inl (0, 207),
  .inl (0, 12),
  .inl (0, 12),
  .inl (0, 12),
  .inl (0, 3),
  .inr (2, [.ref 15, .int 0, .int 0]),
  .inl (2, 6),
  .inr (1, [.ref 17, .ref 18, .ref 19, .ref 20, .ref 21, .int 0, .int 0, .int 0, .int 0]),
  .inl (0, 207),
  .inl (0, 12),
  .inl (0, 12),
  .inl (0, 12),
  .inl (0, 3),
  .inr (1, [.ref 23, .ref 24, .ref 25, .ref 26, .ref 27, .int 0, .int 0, .int 0, .int 0]),
  .inl (0, 207),
  .inl (0, 12),
  .inl (0, 12),
  .inl (0, 12),
  .inl (0, 3),
  .inr (1, [.ref 29, .ref 30, .ref 31, .ref 32, .ref 33, .int 0, .int 0, .int 0, .int 0]),
  .inl (0, 207),
  .inl (0, 12),
  .inl (0, 12),
  .inl (0, 12),
  .inl (0, 3),
  .inr (1, [.ref 35, .ref 36, .ref 37, .ref 38, .ref 39, .int 0, .int 0, .int 0, .int 0]),
  .inl (0, 207),
  .inl (0, 12),
  .inl (0, 12),
  .inl (0, 12),
  .inl (0, 3),
  .inr (1, [.ref 41, .ref 42, .ref 43, .ref 44, .ref 45, .int 0, .int 0, .int 0, .int 0]),
  .inl (0, 207),
  .inl (0, 12),
  .inl (0, 12),
  .inl (0, 12),
  .inl (0, 3),
  .inr (1, [.ref 47, .ref 48, .ref 49, .ref 50, .ref 51, .int 0, .int 0, .int 0, .int 0]),
  .inl (0, 207),
  .inl (0, 12),
  .inl (0, 12),
  .inl (0, 12),
  .inl (0, 3),
  .inr (7, [.ref 53, .int 0, .ref 54, .ref 55, .int 0]),
  .inl (0, 60),
  .inl (0, 30),
  .inl (0, 30),
  .inr (6, [.ref 57, .int 0, .int 0, .int 0, .int 0, .int 0, .int 0, .int 0]),
  .inl (0, 16),
  .inr (5, [.ref 59, .int 0, .int 0]),
  .inr (6, [.ref 60, .int 0, .int 0, .int 0, .int 0, .int 0, .int 0, .int 0]),
  .inl (0, 16),
  .inr (3, [.ref 62, .int 0, .int 0]),
  .inr (6, [.ref 63, .int 0, .int 0, .int 0, .int 0, .int 0, .int 0, .int 0]),
  .inl (0, 16),
  .inr (4, [.ref 65, .ref 67, .ref 68]),
  .inr (6, [.ref 66, .int 0, .int 0, .int 0, .int 0, .int 0, .int 0, .int 0]),
  .inl (0, 16),
  .inl (0, 208),
  .inl (0, 208),
  .inr (0, [.ref 70, .int 0]),
  .inl (0, 228),
  .inl (0, 16)]
def ml_ring (j : Nat) : Option Nat := if j < 6 then some (16 + 6 * j) else none
def ml_f (m : ml_M) (lm : ml_J) (a : Nat) : Nat → List Value → List Value
  | _, [] => []
  | k, .int _ :: t => .int (m a k) :: ml_f m lm a (k + 1) t
  | k, .long _ :: t => .long (lm a k) :: ml_f m lm a (k + 1) t
  | k, v :: t => v :: ml_f m lm a (k + 1) t
def ml_e (m : ml_M) (lm : ml_J) (a : Nat) (z : ml_Z) : Option va_E := match z with
  | .inl (0, n) => some (.inl (0, n, .inl (m a)))
  | .inl (1, n) => some (.inl (1, n, .inr (.inl (lm a))))
  | .inl (2, n) => some (.inl (2, n, .inr (.inr (.inr (.inr ml_ring)))))
  | .inl _ => none
  | .inr (c, fs) => some (.inr (c, ml_f m lm a 0 fs))
/-- the heap with these numbers -/
def ml_h (m : ml_M) (lm : ml_J) : mj_H := fun a => match ml_L[a]? with
  | some z => ml_e m lm a z
  | none => none
def ml_s (m : ml_M) (a k : Nat) (v : Int32) : ml_M := fun a' k' => if a' = a ∧ k' = k then v else m a' k'
def ml_sj (m : ml_J) (a k : Nat) (v : Int64) : ml_J := fun a' k' => if a' = a ∧ k' = k then v else m a' k'
/-- the first n numbers of row r in row a -/
def ml_cp (m : ml_M) (r a sp dp n : Nat) : ml_M := fun a' k' => if a' = a ∧ dp ≤ k' ∧ k' < dp + n then m r (sp + (k' - dp)) else m a' k'
def ml_n (r : Nat) : Nat := match ml_L[r]? with
  | some (.inl (0, n)) => n
  | _ => 0
/-- r is a row of ints -/
def ml_ia (r : Nat) : Prop := ml_L[r]? = some (.inl (0, ml_n r))
/-- p is a Shape, its row of unlike values behind it -/
def ml_sh (p : Nat) : Prop := ml_L[p]? = some (.inr (6, [.ref (p + 1), .int 0, .int 0, .int 0, .int 0, .int 0, .int 0, .int 0])) ∧ ml_L[p + 1]? = some (.inl (0, 16))
/-- p is a Column, its five rows behind it -/
def ml_co (p : Nat) : Prop := ml_L[p]? = some (.inr (1, [.ref (p + 1), .ref (p + 2), .ref (p + 3), .ref (p + 4), .ref (p + 5), .int 0, .int 0, .int 0, .int 0])) ∧ ml_L[p + 1]? = some (.inl (0, 207)) ∧ ml_L[p + 2]? = some (.inl (0, 12)) ∧ ml_L[p + 3]? = some (.inl (0, 12)) ∧ ml_L[p + 4]? = some (.inl (0, 12)) ∧ ml_L[p + 5]? = some (.inl (0, 3))
theorem ml_co_2 : ml_co 2 := ⟨rfl, rfl, rfl, rfl, rfl, rfl⟩
theorem ml_ia_3 : ml_ia 3 := rfl
theorem ml_n_3 : ml_n 3 = 207 := rfl
theorem ml_ia_4 : ml_ia 4 := rfl
theorem ml_n_4 : ml_n 4 = 12 := rfl
theorem ml_ia_5 : ml_ia 5 := rfl
theorem ml_n_5 : ml_n 5 = 12 := rfl
theorem ml_ia_6 : ml_ia 6 := rfl
theorem ml_n_6 : ml_n 6 = 12 := rfl
theorem ml_ia_7 : ml_ia 7 := rfl
theorem ml_n_7 : ml_n 7 = 3 := rfl
theorem ml_co_8 : ml_co 8 := ⟨rfl, rfl, rfl, rfl, rfl, rfl⟩
theorem ml_ia_9 : ml_ia 9 := rfl
theorem ml_n_9 : ml_n 9 = 207 := rfl
theorem ml_ia_10 : ml_ia 10 := rfl
theorem ml_n_10 : ml_n 10 = 12 := rfl
theorem ml_ia_11 : ml_ia 11 := rfl
theorem ml_n_11 : ml_n 11 = 12 := rfl
theorem ml_ia_12 : ml_ia 12 := rfl
theorem ml_n_12 : ml_n 12 = 12 := rfl
theorem ml_ia_13 : ml_ia 13 := rfl
theorem ml_n_13 : ml_n 13 = 3 := rfl
theorem ml_co_16 : ml_co 16 := ⟨rfl, rfl, rfl, rfl, rfl, rfl⟩
theorem ml_ia_17 : ml_ia 17 := rfl
theorem ml_n_17 : ml_n 17 = 207 := rfl
theorem ml_ia_18 : ml_ia 18 := rfl
theorem ml_n_18 : ml_n 18 = 12 := rfl
theorem ml_ia_19 : ml_ia 19 := rfl
theorem ml_n_19 : ml_n 19 = 12 := rfl
theorem ml_ia_20 : ml_ia 20 := rfl
theorem ml_n_20 : ml_n 20 = 12 := rfl
theorem ml_ia_21 : ml_ia 21 := rfl
theorem ml_n_21 : ml_n 21 = 3 := rfl
theorem ml_co_22 : ml_co 22 := ⟨rfl, rfl, rfl, rfl, rfl, rfl⟩
theorem ml_ia_23 : ml_ia 23 := rfl
theorem ml_n_23 : ml_n 23 = 207 := rfl
theorem ml_ia_24 : ml_ia 24 := rfl
theorem ml_n_24 : ml_n 24 = 12 := rfl
theorem ml_ia_25 : ml_ia 25 := rfl
theorem ml_n_25 : ml_n 25 = 12 := rfl
theorem ml_ia_26 : ml_ia 26 := rfl
theorem ml_n_26 : ml_n 26 = 12 := rfl
theorem ml_ia_27 : ml_ia 27 := rfl
theorem ml_n_27 : ml_n 27 = 3 := rfl
theorem ml_co_28 : ml_co 28 := ⟨rfl, rfl, rfl, rfl, rfl, rfl⟩
theorem ml_ia_29 : ml_ia 29 := rfl
theorem ml_n_29 : ml_n 29 = 207 := rfl
theorem ml_ia_30 : ml_ia 30 := rfl
theorem ml_n_30 : ml_n 30 = 12 := rfl
theorem ml_ia_31 : ml_ia 31 := rfl
theorem ml_n_31 : ml_n 31 = 12 := rfl
theorem ml_ia_32 : ml_ia 32 := rfl
theorem ml_n_32 : ml_n 32 = 12 := rfl
theorem ml_ia_33 : ml_ia 33 := rfl
theorem ml_n_33 : ml_n 33 = 3 := rfl
theorem ml_co_34 : ml_co 34 := ⟨rfl, rfl, rfl, rfl, rfl, rfl⟩
theorem ml_ia_35 : ml_ia 35 := rfl
theorem ml_n_35 : ml_n 35 = 207 := rfl
theorem ml_ia_36 : ml_ia 36 := rfl
theorem ml_n_36 : ml_n 36 = 12 := rfl
theorem ml_ia_37 : ml_ia 37 := rfl
theorem ml_n_37 : ml_n 37 = 12 := rfl
theorem ml_ia_38 : ml_ia 38 := rfl
theorem ml_n_38 : ml_n 38 = 12 := rfl
theorem ml_ia_39 : ml_ia 39 := rfl
theorem ml_n_39 : ml_n 39 = 3 := rfl
theorem ml_co_40 : ml_co 40 := ⟨rfl, rfl, rfl, rfl, rfl, rfl⟩
theorem ml_ia_41 : ml_ia 41 := rfl
theorem ml_n_41 : ml_n 41 = 207 := rfl
theorem ml_ia_42 : ml_ia 42 := rfl
theorem ml_n_42 : ml_n 42 = 12 := rfl
theorem ml_ia_43 : ml_ia 43 := rfl
theorem ml_n_43 : ml_n 43 = 12 := rfl
theorem ml_ia_44 : ml_ia 44 := rfl
theorem ml_n_44 : ml_n 44 = 12 := rfl
theorem ml_ia_45 : ml_ia 45 := rfl
theorem ml_n_45 : ml_n 45 = 3 := rfl
theorem ml_co_46 : ml_co 46 := ⟨rfl, rfl, rfl, rfl, rfl, rfl⟩
theorem ml_ia_47 : ml_ia 47 := rfl
theorem ml_n_47 : ml_n 47 = 207 := rfl
theorem ml_ia_48 : ml_ia 48 := rfl
theorem ml_n_48 : ml_n 48 = 12 := rfl
theorem ml_ia_49 : ml_ia 49 := rfl
theorem ml_n_49 : ml_n 49 = 12 := rfl
theorem ml_ia_50 : ml_ia 50 := rfl
theorem ml_n_50 : ml_n 50 = 12 := rfl
theorem ml_ia_51 : ml_ia 51 := rfl
theorem ml_n_51 : ml_n 51 = 3 := rfl
theorem ml_ia_53 : ml_ia 53 := rfl
theorem ml_n_53 : ml_n 53 = 60 := rfl
theorem ml_ia_54 : ml_ia 54 := rfl
theorem ml_n_54 : ml_n 54 = 30 := rfl
theorem ml_ia_55 : ml_ia 55 := rfl
theorem ml_n_55 : ml_n 55 = 30 := rfl
theorem ml_sh_56 : ml_sh 56 := ⟨rfl, rfl⟩
theorem ml_ia_57 : ml_ia 57 := rfl
theorem ml_n_57 : ml_n 57 = 16 := rfl
theorem ml_sh_59 : ml_sh 59 := ⟨rfl, rfl⟩
theorem ml_ia_60 : ml_ia 60 := rfl
theorem ml_n_60 : ml_n 60 = 16 := rfl
theorem ml_sh_62 : ml_sh 62 := ⟨rfl, rfl⟩
theorem ml_ia_63 : ml_ia 63 := rfl
theorem ml_n_63 : ml_n 63 = 16 := rfl
theorem ml_sh_65 : ml_sh 65 := ⟨rfl, rfl⟩
theorem ml_ia_66 : ml_ia 66 := rfl
theorem ml_n_66 : ml_n 66 = 16 := rfl
theorem ml_ia_67 : ml_ia 67 := rfl
theorem ml_n_67 : ml_n 67 = 208 := rfl
theorem ml_ia_68 : ml_ia 68 := rfl
theorem ml_n_68 : ml_n 68 = 208 := rfl
theorem ml_ia_70 : ml_ia 70 := rfl
theorem ml_n_70 : ml_n 70 = 228 := rfl
theorem ml_ia_71 : ml_ia 71 := rfl
theorem ml_n_71 : ml_n 71 = 16 := rfl
theorem ml_n_lt (r : Nat) : ml_n r < 2 ^ 31 := by
  by_cases hr : r < ml_L.length
  · have h : ∀ r, r < ml_L.length → ml_n r < 2 ^ 31 := by decide +kernel
    exact h r hr
  · unfold ml_n
    rw [List.getElem?_eq_none (Nat.not_lt.mp hr)]
    exact Nat.two_pow_pos 31
theorem ml_s_eq (m : ml_M) (a k : Nat) (v : Int32) (a' k' : Nat) : ml_s m a k v a' k' = if a' = a ∧ k' = k then v else m a' k' := rfl
theorem ml_f_congr {m m' : ml_M} {lm lm' : ml_J} {a : Nat} (h : m a = m' a) (hj : lm a = lm' a) : ∀ (k : Nat) (fs : List Value), ml_f m lm a k fs = ml_f m' lm' a k fs
  | _, [] => rfl
  | k, v :: t => by cases v <;> simp only [ml_f, h, hj, ml_f_congr h hj (k + 1) t]
theorem ml_e_congr {m m' : ml_M} {lm lm' : ml_J} {a : Nat} (h : m a = m' a) (hj : lm a = lm' a) (z : ml_Z) : ml_e m lm a z = ml_e m' lm' a z := by
  unfold ml_e
  split <;> first | rfl | (rw [h]) | (rw [hj]) | (rw [ml_f_congr h hj])
theorem ml_f_get {m : ml_M} {lm : ml_J} {a : Nat} : ∀ (fs : List Value) (o k : Nat), (∀ z, fs[k]? = some (.int z) → (ml_f m lm a o fs)[k]? = some (.int (m a (o + k)))) ∧ (∀ z, fs[k]? = some (.long z) → (ml_f m lm a o fs)[k]? = some (.long (lm a (o + k)))) ∧ (∀ r, fs[k]? = some (.ref r) → (ml_f m lm a o fs)[k]? = some (.ref r))
  | [], o, k => ⟨fun _ h => by simp at h, fun _ h => by simp at h, fun _ h => by simp at h⟩
  | v :: t, o, 0 => ⟨fun z h => by simp at h; subst h; simp [ml_f], fun z h => by simp at h; subst h; simp [ml_f], fun z h => by simp at h; subst h; simp [ml_f]⟩
  | v :: t, o, k + 1 => by
    have ih := ml_f_get (m := m) (lm := lm) (a := a) t (o + 1) k
    rw [show o + 1 + k = o + (k + 1) by omega] at ih
    cases v <;> exact ih
theorem ml_f_len {m : ml_M} {lm : ml_J} {a : Nat} : ∀ (fs : List Value) (o : Nat), (ml_f m lm a o fs).length = fs.length
  | [], _ => rfl
  | v :: t, o => by cases v <;> simp only [ml_f, List.length_cons, ml_f_len t]
theorem ml_f_set {m : ml_M} {lm : ml_J} {a : Nat} {v : Int32} : ∀ (fs : List Value) (o k : Nat) (z : Int32), fs[k]? = some (.int z) → (ml_f m lm a o fs).set k (.int v) = ml_f (ml_s m a (o + k) v) lm a o fs
  | [], _, _, _, h => by simp at h
  | w :: t, o, 0, z, h => by
    simp at h
    subst h
    have e : ∀ (o' : Nat) (fs : List Value), o < o' → ml_f (ml_s m a (o + 0) v) lm a o' fs = ml_f m lm a o' fs := by
      intro o' fs
      induction fs generalizing o' with
      | nil => intro _; rfl
      | cons x xs ih =>
        intro ho
        have := ih (o' + 1) (by omega)
        cases x <;> simp only [ml_f, this, ml_s_eq] <;> first | rfl | (rw [if_neg (by omega)])
    simp only [ml_f, List.set_cons_zero, e (o + 1) t (by omega), ml_s_eq]
    simp
  | w :: t, o, k + 1, z, h => by
    have ih := ml_f_set (m := m) (lm := lm) (a := a) (v := v) t (o + 1) k z (by simpa using h)
    rw [show o + 1 + k = o + (k + 1) by omega] at ih
    cases w <;> simp only [ml_f, List.set_cons_succ, ih, ml_s_eq] <;> first | rfl | (rw [if_neg (by omega)])
theorem ml_f_setj {m : ml_M} {lm : ml_J} {a : Nat} {v : Int64} : ∀ (fs : List Value) (o k : Nat) (z : Int64), fs[k]? = some (.long z) → (ml_f m lm a o fs).set k (.long v) = ml_f m (ml_sj lm a (o + k) v) a o fs
  | [], _, _, _, h => by simp at h
  | w :: t, o, 0, z, h => by
    simp at h
    subst h
    have e : ∀ (o' : Nat) (fs : List Value), o < o' → ml_f m (ml_sj lm a (o + 0) v) a o' fs = ml_f m lm a o' fs := by
      intro o' fs
      induction fs generalizing o' with
      | nil => intro _; rfl
      | cons x xs ih =>
        intro ho
        have := ih (o' + 1) (by omega)
        cases x <;> simp only [ml_f, this, ml_sj] <;> first | rfl | (rw [if_neg (by omega)])
    simp only [ml_f, List.set_cons_zero, e (o + 1) t (by omega), ml_sj]
    simp
  | w :: t, o, k + 1, z, h => by
    have ih := ml_f_setj (m := m) (lm := lm) (a := a) (v := v) t (o + 1) k z (by simpa using h)
    rw [show o + 1 + k = o + (k + 1) by omega] at ih
    cases w <;> simp only [ml_f, List.set_cons_succ, ih, ml_sj] <;> first | rfl | (rw [if_neg (by omega)])
theorem ml_h_o {m : ml_M} {lm : ml_J} {a c : Nat} {fs : List Value} (h : ml_L[a]? = some (.inr (c, fs))) : ml_h m lm a = some (.inr (c, ml_f m lm a 0 fs)) := by
  unfold ml_h
  rw [h]
  rfl
theorem ml_h_i {m : ml_M} {lm : ml_J} {a n : Nat} (h : ml_L[a]? = some (.inl (0, n))) : ml_h m lm a = some (.inl (0, n, .inl (m a))) := by
  unfold ml_h
  rw [h]
  rfl
theorem ml_h_j {m : ml_M} {lm : ml_J} {a n : Nat} (h : ml_L[a]? = some (.inl (1, n))) : ml_h m lm a = some (.inl (1, n, .inr (.inl (lm a)))) := by
  unfold ml_h
  rw [h]
  rfl
theorem ml_up {m m' : ml_M} {lm lm' : ml_J} {a : Nat} {e : va_E} (h : ml_h m' lm' a = some e) (hm : ∀ j, j ≠ a → m j = m' j) (hj : ∀ j, j ≠ a → lm j = lm' j) : mj_up (ml_h m lm) a e = ml_h m' lm' := by
  funext j
  unfold mj_up
  by_cases hja : j = a
  · rw [if_pos hja, hja, h]
  · rw [if_neg hja]
    unfold ml_h
    cases ml_L[j]? with
    | none => rfl
    | some z => exact ml_e_congr (hm j hja) (hj j hja) z
theorem ml_s_ne {m : ml_M} {a k : Nat} {v : Int32} {j : Nat} (h : j ≠ a) : m j = ml_s m a k v j := by
  funext q
  rw [ml_s_eq, if_neg (fun z => h z.1)]
theorem ml_sj_ne {m : ml_J} {a k : Nat} {v : Int64} {j : Nat} (h : j ≠ a) : m j = ml_sj m a k v j := by
  funext q
  unfold ml_sj
  rw [if_neg (fun z => h z.1)]
theorem mj_in_k {α : Type} {k n : Nat} {z : Option α} (hk : k < n) (hn : n < 2 ^ 31) : mj_in (nI k) n z = z := if_neg (nI_in hk hn)
section MLW
variable {Ln : Nat} {xs : Nat → Int32} {i pc : Nat} {L S : List Value} {u : mj_U} {m : ml_M} {lm : ml_J} {Φ : mj_R → mj_W → Prop} {a c k x n : Nat} {fs : List Value}
theorem wm_geti {z : Int32} (hd : decode (mj_b i) pc = .ok (.getfield x, 3)) (hr : mj_rf (mj_o i) x = some (c, k)) (hl : ml_L[a]? = some (.inr (c, fs))) (hk : fs[k]? = some (.int z)) (hN : k < (mj_cl c).2.2) : wp Ln xs i pc L (.ref a :: S) (u, ml_h m lm) Φ = wp Ln xs i (pc + 3) L (.int (m a k) :: S) (u, ml_h m lm) Φ := by
  refine wp_same hd (Or.inr rfl) ?_
  have h := ((ml_f_get (m := m) (lm := lm) (a := a) fs 0 k).1 z hk)
  rw [Nat.zero_add] at h
  simp only [mj_stp, hr, mj_r1, ml_h_o hl, mj_eo, mj_if, if_true, h, if_pos hN]
  rfl
theorem wm_getr {r : Nat} (hd : decode (mj_b i) pc = .ok (.getfield x, 3)) (hr : mj_rf (mj_o i) x = some (c, k)) (hl : ml_L[a]? = some (.inr (c, fs))) (hk : fs[k]? = some (.ref r)) (hN : k < (mj_cl c).2.2) : wp Ln xs i pc L (.ref a :: S) (u, ml_h m lm) Φ = wp Ln xs i (pc + 3) L (.ref r :: S) (u, ml_h m lm) Φ := by
  refine wp_same hd (Or.inr rfl) ?_
  have h := ((ml_f_get (m := m) (lm := lm) (a := a) fs 0 k).2.2 r hk)
  simp only [mj_stp, hr, mj_r1, ml_h_o hl, mj_eo, mj_if, if_true, h, if_pos hN]
  rfl
theorem wm_getj {z : Int64} (hd : decode (mj_b i) pc = .ok (.getfield x, 3)) (hr : mj_rf (mj_o i) x = some (c, k)) (hl : ml_L[a]? = some (.inr (c, fs))) (hk : fs[k]? = some (.long z)) (hN : k < (mj_cl c).2.2) : wp Ln xs i pc L (.ref a :: S) (u, ml_h m lm) Φ = wp Ln xs i (pc + 3) L (.long (lm a k) :: S) (u, ml_h m lm) Φ := by
  refine wp_same hd (Or.inr rfl) ?_
  have h := ((ml_f_get (m := m) (lm := lm) (a := a) fs 0 k).2.1 z hk)
  rw [Nat.zero_add] at h
  simp only [mj_stp, hr, mj_r1, ml_h_o hl, mj_eo, mj_if, if_true, h, if_pos hN]
  rfl
theorem wm_puti {z v : Int32} (hd : decode (mj_b i) pc = .ok (.putfield x, 3)) (hr : mj_rf (mj_o i) x = some (c, k)) (hl : ml_L[a]? = some (.inr (c, fs))) (hk : fs[k]? = some (.int z)) (hN : k < (mj_cl c).2.2) (hfin : ((mj_cl c).2.1 k).2.2.2 = false) (hn : narrow (mj_ty c k) (.int v) = .int v) (hf : fits (mj_ty c k) (.int v) = true) :
    wp Ln xs i pc L (.int v :: .ref a :: S) (u, ml_h m lm) Φ = wp Ln xs i (pc + 3) L S (u, ml_h (ml_s m a k v) lm) Φ := by
  refine wp_same hd (Or.inr rfl) ?_
  have hlen : k < (ml_f m lm a 0 fs).length := by rw [ml_f_len]; exact (List.getElem?_eq_some_iff.mp hk).1
  have hset := ml_f_set (m := m) (lm := lm) (a := a) (v := v) fs 0 k z hk
  rw [Nat.zero_add] at hset
  have e : mj_up (ml_h m lm) a (.inr (c, (ml_f m lm a 0 fs).set k (.int v))) = ml_h (ml_s m a k v) lm := ml_up (by rw [ml_h_o hl, hset]) (fun j hj => ml_s_ne hj) (fun _ _ => rfl)
  simp only [mj_stp, hr, ml_h_o hl, mj_eo, mj_if, e]
  rw [if_pos ⟨trivial, hlen, hN, hn, hf, Or.inl hfin⟩]
  rfl
theorem wm_putj {z v : Int64} (hd : decode (mj_b i) pc = .ok (.putfield x, 3)) (hr : mj_rf (mj_o i) x = some (c, k)) (hl : ml_L[a]? = some (.inr (c, fs))) (hk : fs[k]? = some (.long z)) (hN : k < (mj_cl c).2.2) (hfin : ((mj_cl c).2.1 k).2.2.2 = false) (hn : narrow (mj_ty c k) (.long v) = .long v) (hf : fits (mj_ty c k) (.long v) = true) :
    wp Ln xs i pc L (.long v :: .ref a :: S) (u, ml_h m lm) Φ = wp Ln xs i (pc + 3) L S (u, ml_h m (ml_sj lm a k v)) Φ := by
  refine wp_same hd (Or.inr rfl) ?_
  have hlen : k < (ml_f m lm a 0 fs).length := by rw [ml_f_len]; exact (List.getElem?_eq_some_iff.mp hk).1
  have hset := ml_f_setj (m := m) (lm := lm) (a := a) (v := v) fs 0 k z hk
  rw [Nat.zero_add] at hset
  have e : mj_up (ml_h m lm) a (.inr (c, (ml_f m lm a 0 fs).set k (.long v))) = ml_h m (ml_sj lm a k v) := ml_up (by rw [ml_h_o hl, hset]) (fun _ _ => rfl) (fun j hj => ml_sj_ne hj)
  simp only [mj_stp, hr, ml_h_o hl, mj_eo, mj_if, e]
  rw [if_pos ⟨trivial, hlen, hN, hn, hf, Or.inl hfin⟩]
  rfl
theorem wm_iald (hd : decode (mj_b i) pc = .ok (.iaload, 1)) (hl : ml_ia a) (h0 : a ≠ 0) (hk : k < ml_n a) : wp Ln xs i pc L (.int (nI k) :: .ref a :: S) (u, ml_h m lm) Φ = wp Ln xs i (pc + 1) L (.int (m a k) :: S) (u, ml_h m lm) Φ := by
  refine wp_same hd (Or.inr rfl) ?_
  have hn := ml_n_lt a
  simp only [mj_stp, mj_p1, mj_r1, if_neg h0, ml_h_i hl, mj_ei, if_true, mj_in_k hk hn, nI_clamp (Nat.lt_trans hk hn)]
  rfl
theorem wm_iast {v : Int32} (hd : decode (mj_b i) pc = .ok (.iastore, 1)) (hl : ml_ia a) (hk : k < ml_n a) : wp Ln xs i pc L (.int v :: .int (nI k) :: .ref a :: S) (u, ml_h m lm) Φ = wp Ln xs i (pc + 1) L S (u, ml_h (ml_s m a k v) lm) Φ := by
  refine wp_same hd (Or.inr rfl) ?_
  have hn := ml_n_lt a
  have e : mj_up (ml_h m lm) a (.inl (0, ml_n a, .inl (upd (m a) k v))) = ml_h (ml_s m a k v) lm := by
    refine ml_up ?_ (fun j hj => ml_s_ne hj) (fun _ _ => rfl)
    rw [ml_h_i hl]
    congr 5
    funext q
    unfold upd ml_s
    by_cases hq : q = k
    · rw [if_pos hq, if_pos ⟨rfl, hq⟩]
    · rw [if_neg hq, if_neg (fun z => hq z.2)]
  simp only [mj_stp, mj_p2, mj_r1, ml_h_i hl, mj_ei, if_true, mj_in_k hk hn, nI_clamp (Nat.lt_trans hk hn), e]
  rfl
theorem wm_alen (hd : decode (mj_b i) pc = .ok (.arraylength, 1)) (hl : ml_ia a) (h0 : a ≠ 0) : wp Ln xs i pc L (.ref a :: S) (u, ml_h m lm) Φ = wp Ln xs i (pc + 1) L (.int (nI (ml_n a)) :: S) (u, ml_h m lm) Φ := by
  refine wp_same hd (Or.inr rfl) ?_
  simp only [mj_stp, mj_r1, if_neg h0, ml_h_i hl, mj_en, if_true]
  rfl
theorem wm_aald (hd : decode (mj_b i) pc = .ok (.aaload, 1)) (hl : ml_L[a]? = some (.inl (2, 6))) (hk : k < 6) : wp Ln xs i pc L (.int (nI k) :: .ref a :: S) (u, ml_h m lm) Φ = wp Ln xs i (pc + 1) L (.ref (16 + 6 * k) :: S) (u, ml_h m lm) Φ := by
  refine wp_same hd (Or.inr rfl) ?_
  have e : ml_h m lm a = some (.inl (2, 6, .inr (.inr (.inr (.inr ml_ring))))) := by
    unfold ml_h
    rw [hl]
    rfl
  have hn : (6 : Nat) < 2 ^ 31 := by decide
  simp only [mj_stp, mj_p1, mj_r1, e, mj_eq, if_true, mj_in_k hk hn, nI_clamp (Nat.lt_trans hk hn), ml_ring, if_pos hk]
  rfl
theorem wm_alenq (hd : decode (mj_b i) pc = .ok (.arraylength, 1)) (hl : ml_L[a]? = some (.inl (2, n))) (h0 : a ≠ 0) : wp Ln xs i pc L (.ref a :: S) (u, ml_h m lm) Φ = wp Ln xs i (pc + 1) L (.int (nI n) :: S) (u, ml_h m lm) Φ := by
  refine wp_same hd (Or.inr rfl) ?_
  have e : ml_h m lm a = some (.inl (2, n, .inr (.inr (.inr (.inr ml_ring))))) := by
    unfold ml_h
    rw [hl]
    rfl
  simp only [mj_stp, mj_r1, if_neg h0, e, mj_en, if_true]
  rfl
/-- a virtual call -/
theorem wm_cv {j : Nat} {As rest : List Value} (hd : decode (mj_b i) pc = .ok (.invokevirtual x, 3)) (hr : mj_rc (mj_o i) x = some (0, j)) (hn : mj_n j = As.length + 1) (hl : ml_L[a]? = some (.inr (mj_c j, fs))) (h1 : mj_cat rest ≤ 8) (h2 : mj_F j + 1 ≤ mj_F i) (h3 : 8 + (mj_l j + 11) + mj_D j ≤ mj_D i) (h4 : mj_cat (As.reverse ++ [.ref a]) ≤ mj_l j) :
    wp Ln xs i pc L (As.reverse ++ .ref a :: rest) (u, ml_h m lm) Φ = wp Ln xs j 0 (mj_ent j (.ref a :: As)) [] (u, ml_h m lm) (mk Ln xs i pc L rest Φ) := by
  have hlen : (As.reverse ++ [Value.ref a]).length = mj_n j := by rw [List.length_append, List.length_reverse, hn]; rfl
  have e1 : As.reverse ++ .ref a :: rest = (As.reverse ++ [Value.ref a]) ++ rest := by simp
  have ht : (As.reverse ++ .ref a :: rest).take (mj_n j) = As.reverse ++ [Value.ref a] := by rw [e1, ← hlen, List.take_left]
  have hdr : (As.reverse ++ .ref a :: rest).drop (mj_n j) = rest := by rw [e1, ← hlen, List.drop_left]
  have hrev : (As.reverse ++ [Value.ref a]).reverse = .ref a :: As := by simp
  refine wp_cal hd (Or.inr rfl) rfl rfl rfl ?_
  simp only [mj_cal, hr, ht, hrev, ml_h_o hl, mj_eo, mj_if, if_true, hdr]
  rw [if_pos ⟨by rw [e1, List.length_append, hlen]; omega, h1, h2, h3, h4⟩]
/-- a static call -/
theorem wm_cs {j : Nat} {As rest : List Value} {w : mj_W} (hd : decode (mj_b i) pc = .ok (.invokestatic x, 3)) (hr : mj_rc (mj_o i) x = some (1, j)) (hn : mj_n j = As.length) (h1 : mj_cat rest ≤ 8) (h2 : mj_F j + 1 ≤ mj_F i) (h3 : 8 + (mj_l j + 11) + mj_D j ≤ mj_D i) (h4 : mj_cat As.reverse ≤ mj_l j) :
    wp Ln xs i pc L (As.reverse ++ rest) w Φ = wp Ln xs j 0 (mj_ent j As) [] w (mk Ln xs i pc L rest Φ) := by
  have hlen : As.reverse.length = mj_n j := by rw [List.length_reverse, hn]
  have ht : (As.reverse ++ rest).take (mj_n j) = As.reverse := by rw [← hlen, List.take_left]
  have hdr : (As.reverse ++ rest).drop (mj_n j) = rest := by rw [← hlen, List.drop_left]
  refine wp_cal hd (Or.inr rfl) ?_ rfl rfl ?_
  · simp only [mj_stp, hr]
  · simp only [mj_cal, hr, ht, List.reverse_reverse, mj_if, hdr]
    rw [if_pos ⟨by rw [List.length_append, hlen]; omega, h1, h2, h3, h4⟩]
/-- System.arraycopy from the first on -/
theorem wm_copy {r q : Nat} {rest : List Value} (hd : decode (mj_b i) pc = .ok (.invokestatic x, 3)) (hr : mj_rc (mj_o i) x = some (5, 0)) (hl : ml_ia r) (hq : ml_ia q) (h1 : k ≤ ml_n r) (h2 : k ≤ ml_n q) (h3 : mj_cat rest ≤ 8) (h4 : 1 ≤ mj_F i) (h5 : 26 ≤ mj_D i) :
    wp Ln xs i pc L (.int (nI k) :: .int 0 :: .ref q :: .int 0 :: .ref r :: rest) (u, ml_h m lm) Φ = wp Ln xs i (pc + 3) L rest (u, ml_h (ml_cp m r q 0 0 k) lm) Φ := by
  refine wp_same hd (Or.inr rfl) ?_
  have hn := ml_n_lt r
  have e : mj_up (ml_h m lm) q (.inl (0, ml_n q, .inl (va_cpy (m r) (m q) 0 0 k))) = ml_h (ml_cp m r q 0 0 k) lm := by
    refine ml_up ?_ (fun j hj => ?_) (fun _ _ => rfl)
    · rw [ml_h_i hq]
      congr 5
      funext z
      unfold va_cpy ml_cp
      by_cases hz : 0 ≤ z ∧ z < 0 + k
      · rw [if_pos hz, if_pos ⟨rfl, hz⟩]
      · rw [if_neg hz, if_neg (fun y => hz y.2)]
    · funext z
      unfold ml_cp
      rw [if_neg (fun y => hj y.1)]
  have c0 : (0 : Int32).toNatClampNeg = 0 := rfl
  have ck : (nI k).toNatClampNeg = k := nI_clamp (by omega)
  simp only [mj_stp, hr, ml_h_i hl, ml_h_i hq, mj_ei, if_true, mj_if, c0, ck, Nat.zero_add, e]
  rw [if_pos ⟨by decide, by decide, nI_pos (by omega), h1, h2, h3, h4, h5⟩]
  rfl
theorem wm_max {z y : Int32} {rest : List Value} {w : mj_W} (hd : decode (mj_b i) pc = .ok (.invokestatic x, 3)) (hr : mj_rc (mj_o i) x = some (6, 0)) (h3 : mj_cat rest ≤ 8) (h4 : 1 ≤ mj_F i) (h5 : 26 ≤ mj_D i) : wp Ln xs i pc L (.int y :: .int z :: rest) w Φ = wp Ln xs i (pc + 3) L (.int (if z < y then y else z) :: rest) w Φ := by
  obtain ⟨u, h⟩ := w
  refine wp_same hd (Or.inr rfl) ?_
  simp only [mj_stp, hr, mj_p2, mj_if]
  rw [if_pos ⟨h3, h4, h5⟩]
  rfl
theorem wm_min {z y : Int32} {rest : List Value} {w : mj_W} (hd : decode (mj_b i) pc = .ok (.invokestatic x, 3)) (hr : mj_rc (mj_o i) x = some (7, 0)) (h3 : mj_cat rest ≤ 8) (h4 : 1 ≤ mj_F i) (h5 : 26 ≤ mj_D i) : wp Ln xs i pc L (.int y :: .int z :: rest) w Φ = wp Ln xs i (pc + 3) L (.int (if y < z then y else z) :: rest) w Φ := by
  obtain ⟨u, h⟩ := w
  refine wp_same hd (Or.inr rfl) ?_
  simp only [mj_stp, hr, mj_p2, mj_if]
  rw [if_pos ⟨h3, h4, h5⟩]
  rfl
theorem wm_ldc {v : Value} {w : mj_W} (hd : decode (mj_b i) pc = .ok (.ldc x, 2)) (hr : mj_rk (mj_o i) x = some v) (hv : mj_ish v = false) (h2 : v.category = 1 ∧ v.isRef = false) : wp Ln xs i pc L S w Φ = wp Ln xs i (pc + 2) L (v :: S) w Φ := by
  obtain ⟨u, h⟩ := w
  refine wp_same hd (Or.inr rfl) ?_
  simp only [mj_stp, hr]
  cases v <;> first | rfl | (simp [Value.category, Value.isRef, mj_ish] at h2 hv)
theorem wm_ldc2 {v : Value} {w : mj_W} (hd : decode (mj_b i) pc = .ok (.ldc2_w x, 3)) (hr : mj_rk (mj_o i) x = some v) (h2 : v.category = 2) : wp Ln xs i pc L S w Φ = wp Ln xs i (pc + 3) L (v :: S) w Φ := by
  obtain ⟨u, h⟩ := w
  refine wp_same hd (Or.inr rfl) ?_
  simp only [mj_stp, hr]
  cases v <;> first | rfl | (simp [Value.category] at h2)
end MLW
