/-! ===== the constructors: the run ===== -/
def ct_go : Nat → Nat → Nat → Nat → List Value → List Value → mj_W → Option ((List Value × List Value) × mj_W)
  | 0, _, _, _, _, _, _ => none
  | f + 1, sp, i, pc, L, S, w => if pc = sp then some ((L, S), w) else match decode (mj_b i) pc with
    | .error _ => none
    | .ok (g, len) => if (mj_sw g = true ∨ len = mj_ln g) ∧ ct_in g S = true then
        match mj_stp 0 ct_z i pc L S w g with
        | some ((pc', L', S'), w') => if w.1.1 + w.1.2.1 ≤ w'.1.1 + w'.1.2.1 ∧ w.1.2.2 ≤ w'.1.2.2 then ct_go f sp i pc' L' S' w' else none
        | none => match mj_fin i S g with
          | some _ => none
          | none => match mj_thr i pc S g with
            | some _ => none
            | none => match mj_cal i S w g with
              | none => none
              | some (j, vs, S') => match ct_go f (ct_ret j) j 0 (mj_ent j vs) [] w with
                | none => none
                | some ((_, S1), w1) => if decode (mj_b j) (ct_ret j) = .ok (.return_, 1) then match mj_fin j S1 .return_ with
                  | some none => ct_go f sp i (pc + 3) L S' w1
                  | _ => none
                  else none
      else none
theorem ct_ok : ∀ (f sp i pc : Nat) (L S : List Value) (w : mj_W) (L' S' : List Value) (w' : mj_W), ct_go f sp i pc L S w = some ((L', S'), w') → ct_dm w → ct_dm w' ∧ ∀ (Ln : Nat) (xs : Nat → Int32) (Φ : mj_R → mj_W → Prop), wp Ln xs i pc L S w Φ = wp Ln xs i sp L' S' w' Φ
  | 0, sp, i, pc, L, S, w, L', S', w', h, hd => by
    unfold ct_go at h
    cases h
  | f + 1, sp, i, pc, L, S, w, L', S', w', h, hd => by
    unfold ct_go at h
    split at h
    · next e =>
      cases h
      exact ⟨hd, fun Ln xs Φ => by rw [e]⟩
    · split at h
      · cases h
      · next g len hdec =>
        split at h
        · next hg =>
          split at h
          · next pc2 L2 S2 w2 hst =>
            split at h
            · next hm =>
              obtain ⟨d, k⟩ := ct_ok f sp i pc2 L2 S2 w2 L' S' w' h (ct_dom hg.2 hst hd)
              refine ⟨d, fun Ln xs Φ => ?_⟩
              rw [wp_stp hdec hg.1 ((ct_ind hg.2).trans hst) hm]
              exact k Ln xs Φ
            · cases h
          · next hst =>
            split at h
            · cases h
            · next hfin =>
              split at h
              · cases h
              · next hthr =>
                split at h
                · cases h
                · next j vs S2 hcal =>
                  split at h
                  · cases h
                  · next L1 S1 w1 hrun =>
                    split at h
                    · next hret =>
                      split at h
                      · next hf2 =>
                        obtain ⟨d1, k1⟩ := ct_ok f (ct_ret j) j 0 (mj_ent j vs) [] w L1 S1 w1 hrun hd
                        obtain ⟨d, k⟩ := ct_ok f sp i (pc + 3) L S2 w1 L' S' w' h d1
                        refine ⟨d, fun Ln xs Φ => ?_⟩
                        rw [wp_cal hdec hg.1 ((ct_ind hg.2).trans hst) hfin hthr hcal, k1, wp_fin hret (Or.inr rfl) rfl hf2]
                        exact k Ln xs Φ
                      · cases h
                    · cases h
        · cases h
def ct_out : Option ((List Value × List Value) × mj_W) := ct_go 300 23 0 0 (mj_ent 0 [.ref 0]) [] ((0, 0, 0), fun _ => none)
def ct_H : mj_H := match ct_out with
  | some r => r.2.2
  | none => fun _ => none
theorem ct_some : ct_out.isSome = true := by decide +kernel
