/-! ===== what a run comes to, as a predicate: wp i pc L S w Φ; an equation an instruction ===== -/
section MWP
variable {Ln : Nat} {xs : Nat → Int32}
theorem mj_fuel1 : ∀ (f i pc : Nat) (L S : List Value) (w : mj_W) (x : mj_R × mj_W), mj_run Ln xs f i pc L S w = some x → mj_run Ln xs (f + 1) i pc L S w = some x
  | 0, _, _, _, _, _, _, h => by cases h
  | f + 1, i, pc, L, S, w, x, h => by
    rw [mj_run] at h ⊢
    cases hd : decode (mj_b i) pc with
    | error e => rw [hd] at h; cases h
    | ok q =>
      obtain ⟨g, len⟩ := q
      rw [hd] at h
      dsimp only at h ⊢
      by_cases hln : mj_sw g = true ∨ len = mj_ln g
      · rw [if_pos hln] at h ⊢
        cases hst : mj_stp Ln xs i pc L S w g with
        | some q1 =>
          obtain ⟨⟨pc', L', S'⟩, w'⟩ := q1
          rw [hst] at h
          dsimp only at h ⊢
          by_cases h0 : w.1.1 + w.1.2.1 ≤ w'.1.1 + w'.1.2.1 ∧ w.1.2.2 ≤ w'.1.2.2
          · rw [if_pos h0] at h ⊢
            exact mj_fuel1 f _ _ _ _ _ _ h
          · rw [if_neg h0] at h
            cases h
        | none =>
          rw [hst] at h
          dsimp only at h ⊢
          cases hf : mj_fin i S g with
          | some v => rw [hf] at h; exact h
          | none =>
            rw [hf] at h
            dsimp only at h ⊢
            cases ht : mj_thr i pc S g with
            | some E => rw [ht] at h; exact h
            | none =>
              rw [ht] at h
              dsimp only at h ⊢
              cases hc : mj_cal i S w g with
              | none => rw [hc] at h; cases h
              | some q2 =>
                obtain ⟨j, vs, S'⟩ := q2
                rw [hc] at h
                dsimp only at h ⊢
                cases h2 : mj_run Ln xs f j 0 (mj_ent j vs) [] w with
                | none => rw [h2] at h; cases h
                | some q3 =>
                  obtain ⟨r1, w1⟩ := q3
                  rw [h2] at h
                  rw [mj_fuel1 f _ _ _ _ _ _ h2]
                  cases r1 with
                  | inl v => exact mj_fuel1 f _ _ _ _ _ _ h
                  | inr E =>
                    dsimp only at h ⊢
                    cases hk : mj_cat2 i pc E with
                    | none => rw [hk] at h; cases h
                    | some q4 =>
                      obtain ⟨h9, k9⟩ := q4
                      rw [hk] at h
                      exact mj_fuel1 f _ _ _ _ _ _ h
      · rw [if_neg hln] at h
        cases h
theorem mj_fuel {f g i pc : Nat} {L S : List Value} {w : mj_W} {x : mj_R × mj_W} (h : mj_run Ln xs f i pc L S w = some x) (hg : f ≤ g) : mj_run Ln xs g i pc L S w = some x := by
  induction hg with
  | refl => exact h
  | step _ ih => exact mj_fuel1 _ _ _ _ _ _ _ ih
def wp (Ln : Nat) (xs : Nat → Int32) (i pc : Nat) (L S : List Value) (w : mj_W) (Φ : mj_R → mj_W → Prop) : Prop := ∃ (f : Nat) (r : mj_R) (w' : mj_W), mj_run Ln xs f i pc L S w = some (r, w') ∧ Φ r w'
/-- what goes on behind a call -/
def mk (Ln : Nat) (xs : Nat → Int32) (i pc : Nat) (L S : List Value) (Φ : mj_R → mj_W → Prop) : mj_R → mj_W → Prop := fun r w => match r with
  | .inl v => wp Ln xs i (pc + 3) L (v.toList ++ S) w Φ
  | .inr E => match mj_cat2 i pc E with
    | some (h, k) => wp Ln xs i h (mj_st1 L k mj_hole) [] w Φ
    | none => False
variable {i pc pc' : Nat} {L L' S S' : List Value} {w w' : mj_W} {Φ : mj_R → mj_W → Prop} {g : Instr} {len : Nat}
theorem wp_stp (hd : decode (mj_b i) pc = .ok (g, len)) (hl : mj_sw g = true ∨ len = mj_ln g) (hst : mj_stp Ln xs i pc L S w g = some ((pc', L', S'), w')) (hm : w.1.1 + w.1.2.1 ≤ w'.1.1 + w'.1.2.1 ∧ w.1.2.2 ≤ w'.1.2.2) :
    wp Ln xs i pc L S w Φ = wp Ln xs i pc' L' S' w' Φ := by
  have e : ∀ f, mj_run Ln xs (f + 1) i pc L S w = mj_run Ln xs f i pc' L' S' w' := by
    intro f
    conv => lhs; unfold mj_run
    rw [hd]
    dsimp only
    rw [if_pos hl, hst]
    dsimp only
    rw [if_pos hm]
  refine propext ⟨?_, ?_⟩
  · rintro ⟨f, r, w9, h, hΦ⟩
    cases f with
    | zero => cases h
    | succ f => exact ⟨f, r, w9, by rw [← e]; exact h, hΦ⟩
  · rintro ⟨f, r, w9, h, hΦ⟩
    exact ⟨f + 1, r, w9, by rw [e]; exact h, hΦ⟩
theorem wp_same (hd : decode (mj_b i) pc = .ok (g, len)) (hl : mj_sw g = true ∨ len = mj_ln g) {u : mj_U} {h h' : mj_H} (hst : mj_stp Ln xs i pc L S (u, h) g = some ((pc', L', S'), (u, h'))) :
    wp Ln xs i pc L S (u, h) Φ = wp Ln xs i pc' L' S' (u, h') Φ := wp_stp hd hl hst ⟨Nat.le_refl _, Nat.le_refl _⟩
theorem wp_fin {v : Option Value} (hd : decode (mj_b i) pc = .ok (g, len)) (hl : mj_sw g = true ∨ len = mj_ln g) (hst : mj_stp Ln xs i pc L S w g = none) (hf : mj_fin i S g = some v) : wp Ln xs i pc L S w Φ = Φ (.inl v) w := by
  have e : ∀ f, mj_run Ln xs (f + 1) i pc L S w = some (.inl v, w) := by
    intro f
    unfold mj_run
    rw [hd]
    dsimp only
    rw [if_pos hl, hst]
    dsimp only
    rw [hf]
  refine propext ⟨?_, fun h => ⟨1, _, _, e 0, h⟩⟩
  rintro ⟨f, r, w9, h, hΦ⟩
  cases f with
  | zero => cases h
  | succ f =>
    rw [e] at h
    cases h
    exact hΦ
theorem wp_thr {E : Nat} (hd : decode (mj_b i) pc = .ok (g, len)) (hl : mj_sw g = true ∨ len = mj_ln g) (hst : mj_stp Ln xs i pc L S w g = none) (hf : mj_fin i S g = none) (ht : mj_thr i pc S g = some E) : wp Ln xs i pc L S w Φ = Φ (.inr E) ((w.1.1, w.1.2.1 + 1, w.1.2.2 + 6), w.2) := by
  have e : ∀ f, mj_run Ln xs (f + 1) i pc L S w = some (.inr E, ((w.1.1, w.1.2.1 + 1, w.1.2.2 + 6), w.2)) := by
    intro f
    unfold mj_run
    rw [hd]
    dsimp only
    rw [if_pos hl, hst]
    dsimp only
    rw [hf]
    dsimp only
    rw [ht]
  refine propext ⟨?_, fun h => ⟨1, _, _, e 0, h⟩⟩
  rintro ⟨f, r, w9, h, hΦ⟩
  cases f with
  | zero => cases h
  | succ f =>
    rw [e] at h
    cases h
    exact hΦ
theorem wp_cal {j : Nat} {vs : List Value} (hd : decode (mj_b i) pc = .ok (g, len)) (hl : mj_sw g = true ∨ len = mj_ln g) (hst : mj_stp Ln xs i pc L S w g = none) (hf : mj_fin i S g = none) (ht : mj_thr i pc S g = none) (hc : mj_cal i S w g = some (j, vs, S')) :
    wp Ln xs i pc L S w Φ = wp Ln xs j 0 (mj_ent j vs) [] w (mk Ln xs i pc L S' Φ) := by
  have e : ∀ f, mj_run Ln xs (f + 1) i pc L S w = match mj_run Ln xs f j 0 (mj_ent j vs) [] w with
                | none => none
                | some (.inl v, w') => mj_run Ln xs f i (pc + 3) L (v.toList ++ S') w'
                | some (.inr E, w') => match mj_cat2 i pc E with
                  | some (h, k) => mj_run Ln xs f i h (mj_st1 L k mj_hole) [] w'
                  | none => none := by
    intro f
    conv => lhs; unfold mj_run
    rw [hd]
    dsimp only
    rw [if_pos hl, hst]
    dsimp only
    rw [hf]
    dsimp only
    rw [ht]
    dsimp only
    rw [hc]
    rfl
  refine propext ⟨?_, ?_⟩
  · rintro ⟨f, r, w9, h, hΦ⟩
    cases f with
    | zero => cases h
    | succ f =>
      rw [e] at h
      split at h
      · cases h
      · rename_i v w1 h1
        exact ⟨f, _, _, h1, f, r, w9, h, hΦ⟩
      · rename_i E w1 h1
        refine ⟨f, _, _, h1, ?_⟩
        show (match mj_cat2 i pc E with
          | some (h, k) => wp Ln xs i h (mj_st1 L k mj_hole) [] w1 Φ
          | none => False)
        split at h
        · exact ⟨f, r, w9, h, hΦ⟩
        · cases h
  · rintro ⟨f1, r1, w1, h1, hk⟩
    cases r1 with
    | inl v =>
      obtain ⟨f2, r, w9, h2, hΦ⟩ := hk
      refine ⟨max f1 f2 + 1, r, w9, ?_, hΦ⟩
      rw [e, mj_fuel h1 (Nat.le_max_left f1 f2)]
      exact mj_fuel h2 (Nat.le_max_right f1 f2)
    | inr E =>
      have hk9 : (match mj_cat2 i pc E with
        | some (h, k) => wp Ln xs i h (mj_st1 L k mj_hole) [] w1 Φ
        | none => False) := hk
      split at hk9
      · rename_i h9 k9 hc9
        obtain ⟨f2, r, w9, h2, hΦ⟩ := hk9
        refine ⟨max f1 f2 + 1, r, w9, ?_, hΦ⟩
        rw [e, mj_fuel h1 (Nat.le_max_left f1 f2)]
        dsimp only
        rw [hc9]
        exact mj_fuel h2 (Nat.le_max_right f1 f2)
      · exact hk9.elim
/-! an equation an instruction -/
variable {u : mj_U} {h : mj_H}
theorem mk_v {v : Value} : mk Ln xs i pc L S Φ (.inl (some v)) w = wp Ln xs i (pc + 3) L (v :: S) w Φ := rfl
theorem mk_n : mk Ln xs i pc L S Φ (.inl none) w = wp Ln xs i (pc + 3) L S w Φ := rfl
theorem wx_if {c : ClassFile.Cond} {off : Int} {x : Int32} {p1 p2 : Nat} (hd : decode (mj_b i) pc = .ok (.ifCond c off, 3)) (h1 : (pc : Int) + off = (p1 : Int)) (h2 : pc + 3 = p2) (q : Prop) [Decidable q] (hq : ∀ (a b : Option mj_C), mj_br c x 0 a b = if q then a else b) :
    wp Ln xs i pc L (.int x :: S) w Φ = if q then wp Ln xs i p1 L S w Φ else wp Ln xs i p2 L S w Φ := by
  subst h2
  have e0 : mj_stp Ln xs i pc L (.int x :: S) w (.ifCond c off) = if q then some ((p1, L, S), w) else some ((pc + 3, L, S), w) := by
    rw [← hq]
    simp only [mj_stp, mj_p1, mj_p2, mj_tg, h1, Int.natCast_nonneg, if_true, Int.toNat_natCast]
    rfl
  by_cases hc : q
  · rw [if_pos hc] at e0 ⊢
    exact wp_stp hd (Or.inr rfl) e0 ⟨Nat.le_refl _, Nat.le_refl _⟩
  · rw [if_neg hc] at e0 ⊢
    exact wp_stp hd (Or.inr rfl) e0 ⟨Nat.le_refl _, Nat.le_refl _⟩
theorem wx_icmp {c : ClassFile.Cond} {off : Int} {x y : Int32} {p1 p2 : Nat} (hd : decode (mj_b i) pc = .ok (.if_icmp c off, 3)) (h1 : (pc : Int) + off = (p1 : Int)) (h2 : pc + 3 = p2) (q : Prop) [Decidable q] (hq : ∀ (a b : Option mj_C), mj_br c x y a b = if q then a else b) :
    wp Ln xs i pc L (.int y :: .int x :: S) w Φ = if q then wp Ln xs i p1 L S w Φ else wp Ln xs i p2 L S w Φ := by
  subst h2
  have e0 : mj_stp Ln xs i pc L (.int y :: .int x :: S) w (.if_icmp c off) = if q then some ((p1, L, S), w) else some ((pc + 3, L, S), w) := by
    rw [← hq]
    simp only [mj_stp, mj_p1, mj_p2, mj_tg, h1, Int.natCast_nonneg, if_true, Int.toNat_natCast]
    rfl
  by_cases hc : q
  · rw [if_pos hc] at e0 ⊢
    exact wp_stp hd (Or.inr rfl) e0 ⟨Nat.le_refl _, Nat.le_refl _⟩
  · rw [if_neg hc] at e0 ⊢
    exact wp_stp hd (Or.inr rfl) e0 ⟨Nat.le_refl _, Nat.le_refl _⟩
theorem wx_goto {off : Int} {p1 : Nat} (hd : decode (mj_b i) pc = .ok (.goto off, 3)) (h1 : (pc : Int) + off = (p1 : Int)) : wp Ln xs i pc L S w Φ = wp Ln xs i p1 L S w Φ := by
  refine wp_stp hd (Or.inr rfl) ?_ ⟨Nat.le_refl _, Nat.le_refl _⟩
  simp only [mj_stp, mj_tg, h1, Int.natCast_nonneg, if_true, Int.toNat_natCast]
end MWP
theorem mb_eq {x y : Int32} (a b : Option mj_C) : mj_br .eq x y a b = if x = y then a else b := rfl
theorem mb_ne {x y : Int32} (a b : Option mj_C) : mj_br .ne x y a b = if ¬ x = y then a else b := by
  show (if x = y then b else a) = _
  by_cases h : x = y
  · rw [if_pos h, if_neg (fun q => q h)]
  · rw [if_neg h, if_pos h]
theorem mb_lt {x y : Int32} (a b : Option mj_C) : mj_br .lt x y a b = if x < y then a else b := rfl
theorem mb_ge {x y : Int32} (a b : Option mj_C) : mj_br .ge x y a b = if y ≤ x then a else b := rfl
theorem mb_gt {x y : Int32} (a b : Option mj_C) : mj_br .gt x y a b = if y < x then a else b := rfl
theorem mb_le {x y : Int32} (a b : Option mj_C) : mj_br .le x y a b = if x ≤ y then a else b := rfl
