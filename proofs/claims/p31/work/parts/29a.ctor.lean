/-! ===== the constructors: run once, over the empty heap ===== -/
/-- the instructions of the constructors; none of them looks at the script -/
def ct_in (g : Instr) (S : List Value) : Bool := match g with
  | .aload_n _ | .putfield _ | .iconst _ | .invokespecial _ | .dup | .bipush _ | .new _ | .sipush _ | .return_ | .iastore | .getfield _ | .iload_n _ | .anewarray _ | .istore_n _ | .aastore | .if_icmp _ _ | .iinc _ _ | .goto _ | .istore _ | .astore_n _ => true
  | .newarray t => match t with
    | .int => true
    | _ => false
  | .arraylength => match S with
    | .ref 0 :: _ => false
    | _ => true
  | _ => false
def ct_z : Nat → Int32 := fun _ => 0
theorem ct_ind {Ln : Nat} {xs : Nat → Int32} {i pc : Nat} {L S : List Value} {w : mj_W} {g : Instr} (h : ct_in g S = true) : mj_stp Ln xs i pc L S w g = mj_stp 0 ct_z i pc L S w g := by
  unfold ct_in at h
  split at h
  all_goals first | rfl | cases h | skip
  · split at h
    · rfl
    · cases h
  · split at h
    · cases h
    · next hS =>
      unfold mj_stp
      simp only []
      unfold mj_r1
      split
      · next a S' =>
        have ha : ¬ a = 0 := fun z => hS S' (by rw [z])
        simp only []
        rw [if_neg ha, if_neg ha]
      · rfl
def ct_ret (j : Nat) : Nat := match j with
  | 1 => 116
  | 2 => 79
  | 3 => 53
  | 4 => 38
  | 5 => 47
  | 6 => 25
  | 7 => 25
  | 8 => 33
  | 9 => 18
  | _ => 0
/-- a row of references is empty behind its length -/
def ct_be (e : va_E) : Prop := match e with
  | .inl (_, n, .inr (.inr (.inr (.inr f)))) => ∀ j, n ≤ j → f j = none
  | _ => True
/-- the cells behind the last one are none -/
def ct_dm (w : mj_W) : Prop := (∀ a, w.1.1 < a → w.2 a = none) ∧ ∀ a e, w.2 a = some e → ct_be e
theorem ct_upb {h : mj_H} {a : Nat} {e : va_E} (hb : ∀ a e, h a = some e → ct_be e) (he : ct_be e) : ∀ b x, mj_up h a e b = some x → ct_be x := fun b x hx => by
  unfold mj_up at hx
  split at hx
  · cases hx
    exact he
  · exact hb b x hx
theorem ct_up {w : mj_W} {a : Nat} {e x : va_E} (h : ct_dm w) (hx : w.2 a = some x) (he : ct_be e) {u : mj_U} (hu : w.1.1 ≤ u.1) : ct_dm (u, mj_up w.2 a e) := ⟨fun b hb => by
  show mj_up w.2 a e b = none
  unfold mj_up
  have hb2 : w.1.1 < b := Nat.lt_of_le_of_lt hu hb
  have hne : ¬ b = a := fun z => by
    rw [z] at hb2
    rw [h.1 a hb2] at hx
    cases hx
  rw [if_neg hne]
  exact h.1 b hb2, ct_upb h.2 he⟩
theorem ct_nw {w : mj_W} {e : va_E} (h : ct_dm w) (he : ct_be e) {y z : Nat} : ct_dm ((w.1.1 + 1, y, z), mj_up w.2 (w.1.1 + 1) e) := ⟨fun b hb => by
  show mj_up w.2 (w.1.1 + 1) e b = none
  have hb1 : w.1.1 + 1 < b := hb
  unfold mj_up
  rw [if_neg (by omega)]
  exact h.1 b (by omega), ct_upb h.2 he⟩
theorem ct_eo {e : Option va_E} {α : Type} {k : Nat → List Value → Option α} {x : α} (h : mj_eo e k = some x) : ∃ c fs, e = some (.inr (c, fs)) ∧ k c fs = some x := by
  unfold mj_eo at h
  split at h
  · exact ⟨_, _, rfl, h⟩
  · cases h
theorem ct_ei {e : Option va_E} {α : Type} {k : Nat → (Nat → Int32) → Option α} {x : α} (h : mj_ei e k = some x) : ∃ y n f, e = some y ∧ k n f = some x := by
  unfold mj_ei at h
  split at h
  · split at h
    · exact ⟨_, _, _, rfl, h⟩
    · cases h
  · cases h
theorem ct_eq {e : Option va_E} {α : Type} {k : Nat → (Nat → Option Nat) → Option α} {x : α} (h : mj_eq e k = some x) : ∃ t n f, e = some (.inl (t, n, .inr (.inr (.inr (.inr f))))) ∧ k n f = some x := by
  unfold mj_eq at h
  split at h
  · split at h
    · exact ⟨_, _, _, rfl, h⟩
    · cases h
  · cases h
theorem ct_iff {c : Prop} [Decidable c] {α : Type} {k : Option α} {x : α} (h : mj_if c k = some x) : k = some x := by
  unfold mj_if at h
  split at h
  · exact h
  · cases h
theorem ct_inn {i : Int32} {n : Nat} {α : Type} {k : Option α} {x : α} (h : mj_in i n k = some x) : k = some x ∧ i.toNatClampNeg < n := by
  unfold mj_in at h
  split at h
  · cases h
  · next c => exact ⟨h, Nat.lt_of_not_le fun z => c (Or.inr z)⟩
theorem ct_p1 {S : List Value} {α : Type} {k : Int32 → List Value → Option α} {x : α} (h : mj_p1 S k = some x) : ∃ y S', k y S' = some x := by
  unfold mj_p1 at h
  split at h
  · exact ⟨_, _, h⟩
  · cases h
theorem ct_p2 {S : List Value} {α : Type} {k : Int32 → Int32 → List Value → Option α} {x : α} (h : mj_p2 S k = some x) : ∃ y z S', k y z S' = some x := by
  unfold mj_p2 at h
  split at h
  · exact ⟨_, _, _, h⟩
  · cases h
theorem ct_r1 {S : List Value} {α : Type} {k : Nat → List Value → Option α} {x : α} (h : mj_r1 S k = some x) : ∃ y S', k y S' = some x := by
  unfold mj_r1 at h
  split at h
  · exact ⟨_, _, h⟩
  · cases h
theorem ct_li {v : Option Value} {α : Type} {k : Int32 → Option α} {x : α} (h : mj_li v k = some x) : ∃ y, k y = some x := by
  unfold mj_li at h
  split at h
  · exact ⟨_, h⟩
  · cases h
theorem ct_lr {v : Option Value} {α : Type} {k : Nat → Option α} {x : α} (h : mj_lr' v k = some x) : ∃ y, k y = some x := by
  unfold mj_lr' at h
  split at h
  · exact ⟨_, h⟩
  · cases h
theorem ct_tg {pc : Nat} {off : Int} {α : Type} {k : Nat → Option α} {x : α} (h : mj_tg pc off k = some x) : ∃ y, k y = some x := by
  unfold mj_tg at h
  split at h
  · exact ⟨_, h⟩
  · cases h
theorem ct_br {c : ClassFile.Cond} {a b : Int32} {α : Type} {t f : Option α} {x : α} (h : mj_br c a b t f = some x) : t = some x ∨ f = some x := by
  unfold mj_br at h
  split at h <;> split at h <;> first | exact Or.inl h | exact Or.inr h
theorem ct_dom {i pc : Nat} {L S : List Value} {w w' : mj_W} {g : Instr} {c : Nat × List Value × List Value} (hi : ct_in g S = true) (h : mj_stp 0 ct_z i pc L S w g = some (c, w')) (hd : ct_dm w) : ct_dm w' := by
  unfold ct_in at hi
  split at hi
  all_goals first | (cases hi; done) | skip
  all_goals unfold mj_stp at h
  all_goals simp only [] at h
  · obtain ⟨y, h⟩ := ct_lr h
    cases h; exact hd
  · split at h
    · split at h
      · obtain ⟨c', fs, h1, h⟩ := ct_eo h
        have h := ct_iff h
        cases h
        refine ct_up hd h1 ?_ (Nat.le_refl _)
        exact trivial
      · cases h
    · cases h
  · cases h; exact hd
  · split at h
    · obtain ⟨y, S', h⟩ := ct_r1 h
      have h := ct_iff h
      cases h; exact hd
    · cases h
  · split at h
    · have h := ct_iff h
      cases h; exact hd
    · cases h
  · cases h; exact hd
  · split at h
    · have h := ct_iff h
      cases h
      refine ct_nw hd ?_
      exact trivial
    · cases h
  · cases h; exact hd
  · cases h
  · obtain ⟨y, z, S', h⟩ := ct_p2 h
    obtain ⟨a, S2, h⟩ := ct_r1 h
    obtain ⟨e, n, f, h1, h⟩ := ct_ei h
    obtain ⟨h, -⟩ := ct_inn h
    cases h
    refine ct_up hd h1 ?_ (Nat.le_refl _)
    exact trivial
  · split at h
    · obtain ⟨a, S2, h⟩ := ct_r1 h
      obtain ⟨c', fs, h1, h⟩ := ct_eo h
      have h := ct_iff h
      split at h
      · have h := ct_iff h
        cases h; exact hd
      · cases h
    · cases h
  · obtain ⟨y, h⟩ := ct_li h
    cases h; exact hd
  · obtain ⟨y, S', h⟩ := ct_p1 h
    have h := ct_iff h
    cases h
    refine ct_nw hd ?_
    exact fun _ _ => rfl
  · obtain ⟨y, S', h⟩ := ct_p1 h
    have h := ct_iff h
    cases h; exact hd
  · obtain ⟨v, S', h⟩ := ct_r1 h
    obtain ⟨j, S2, h⟩ := ct_p1 h
    obtain ⟨a, S3, h⟩ := ct_r1 h
    obtain ⟨c', fs, h1, h⟩ := ct_eo h
    have h := ct_iff h
    obtain ⟨t, n, f, h1, h⟩ := ct_eq h
    obtain ⟨h, hj⟩ := ct_inn h
    have hb : ∀ j, n ≤ j → f j = none := hd.2 _ _ h1
    cases h
    refine ct_up hd h1 ?_ (Nat.le_refl _)
    intro i hi
    unfold va_up
    rw [if_neg (by omega)]
    exact hb i hi
  · obtain ⟨y, z, S', h⟩ := ct_p2 h
    obtain ⟨t, h⟩ := ct_tg h
    rcases ct_br h with h | h
    · cases h; exact hd
    · cases h; exact hd
  · obtain ⟨y, h⟩ := ct_li h
    have h := ct_iff h
    cases h; exact hd
  · obtain ⟨t, h⟩ := ct_tg h
    cases h; exact hd
  · obtain ⟨y, S', h⟩ := ct_p1 h
    have h := ct_iff h
    cases h; exact hd
  · obtain ⟨y, S', h⟩ := ct_r1 h
    have h := ct_iff h
    cases h; exact hd
  · split at hi
    · simp only [] at h
      obtain ⟨y, S', h⟩ := ct_p1 h
      have h := ct_iff h
      cases h
      refine ct_nw hd ?_
      exact trivial
    · cases hi
  · obtain ⟨a, S', h⟩ := ct_r1 h
    split at h
    · cases h; exact hd
    · split at h
      · cases h; exact hd
      · cases h
