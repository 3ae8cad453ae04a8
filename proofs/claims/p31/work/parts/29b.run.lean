/-! ===== the constructors: the run ===== -/
def ct_go : Nat → Nat → Nat → Nat → List Value → List Value → mj_W → Option ((List Value × List Value) × mj_W)
  | 0, _, _, _, _, _, _ => none
  | f + 1, sp, i, pc, L, S, w => if pc = sp then some ((L, S), w) else match decode (mj_b i) pc with
    | .error _ => none
    | .ok (g, len) => if (mj_sw g = true ∨ len = mj_ln g) ∧ ct_in g S = true then
        match mj_stp 0 ct_z i pc L S w g with
        | some ((pc', L', S'), w') => if w.1.1 + w.1.2.1 ≤ w'.1.1 + w'.1.2.1 ∧ w.1.2.2 ≤ w'.1.2.2 then ct_go f sp i pc' L' S' w' else none
        | none => match mj_fin i S g with
          | some _ => none
          | none => match mj_thr i pc S g with
            | some _ => none
            | none => match mj_cal i S w g with
              | none => none
              | some (j, vs, S') => match ct_go f (ct_ret j) j 0 (mj_ent j vs) [] w with
                | none => none
                | some ((_, S1), w1) => if decode (mj_b j) (ct_ret j) = .ok (.return_, 1) then match mj_fin j S1 .return_ with
                  | some none => ct_go f sp i (pc + 3) L S' w1
                  | _ => none
                  else none
      else none
theorem ct_ok : ∀ (f sp i pc : Nat) (L S : List Value) (w : mj_W) (L' S' : List Value) (w' : mj_W), ct_go f sp i pc L S w = some ((L', S'), w') → ct_dm w → ct_dm w' ∧ ∀ (Ln : Nat) (xs : Nat → Int32) (Φ : mj_R → mj_W → Prop), wp Ln xs i pc L S w Φ = wp Ln xs i sp L' S' w' Φ
  | 0, sp, i, pc, L, S, w, L', S', w', h, hd => by
    unfold ct_go at h
    cases h
  | f + 1, sp, i, pc, L, S, w, L', S', w', h, hd => by
    unfold ct_go at h
    split at h
    · next e =>
      cases h
      exact ⟨hd, fun Ln xs Φ => by rw [e]⟩
    · split at h
      · cases h
      · next g len hdec =>
        split at h
        · next hg =>
          split at h
          · next pc2 L2 S2 w2 hst =>
            split at h
            · next hm =>
              obtain ⟨d, k⟩ := ct_ok f sp i pc2 L2 S2 w2 L' S' w' h (ct_dom hg.2 hst hd)
              refine ⟨d, fun Ln xs Φ => ?_⟩
              rw [wp_stp hdec hg.1 ((ct_ind hg.2).trans hst) hm]
              exact k Ln xs Φ
            · cases h
          · next hst =>
            split at h
            · cases h
            · next hfin =>
              split at h
              · cases h
              · next hthr =>
                split at h
                · cases h
                · next j vs S2 hcal =>
                  split at h
                  · cases h
                  · next L1 S1 w1 hrun =>
                    split at h
                    · next hret =>
                      split at h
                      · next hf2 =>
                        obtain ⟨d1, k1⟩ := ct_ok f (ct_ret j) j 0 (mj_ent j vs) [] w L1 S1 w1 hrun hd
                        obtain ⟨d, k⟩ := ct_ok f sp i (pc + 3) L S2 w1 L' S' w' h d1
                        refine ⟨d, fun Ln xs Φ => ?_⟩
                        rw [wp_cal hdec hg.1 ((ct_ind hg.2).trans hst) hfin hthr hcal, k1, wp_fin hret (Or.inr rfl) rfl hf2]
                        exact k Ln xs Φ
                      · cases h
                    · cases h
        · cases h
def ct_out : Option ((List Value × List Value) × mj_W) := ct_go 300 8 0 0 (mj_ent 0 [.ref 0]) [] ((0, 0, 0), fun _ => none)
def ct_mo (H : mj_H) : ml_M := fun a k => match H a with
  | some (.inl (_, _, .inl f)) => f k
  | some (.inr (_, fs)) => match fs[k]? with
    | some (.int x) => x
    | _ => 0
  | _ => 0
def ct_lo (H : mj_H) : ml_J := fun a k => match H a with
  | some (.inl (_, _, .inr (.inl f))) => f k
  | some (.inr (_, fs)) => match fs[k]? with
    | some (.long x) => x
    | _ => 0
  | _ => 0
def ct_fs : List Value → List Value → Bool
  | [], [] => true
  | .int _ :: a, .int _ :: b => ct_fs a b
  | .long _ :: a, .long _ :: b => ct_fs a b
  | .ref x :: a, .ref y :: b => x == y && ct_fs a b
  | _, _ => false
def ct_ring (f : Nat → Option Nat) : Bool := (List.range 6).all fun j => f j == some (16 + 6 * j)
def ct_cell (e : Option va_E) (z : Option ml_Z) : Bool := match e, z with
  | none, none => true
  | none, some (.inl (9, _)) => true
  | some (.inl (0, n, .inl _)), some (.inl (0, n')) => n == n'
  | some (.inl (1, n, .inr (.inl _))), some (.inl (1, n')) => n == n'
  | some (.inl (2, n, .inr (.inr (.inr (.inr f))))), some (.inl (2, n')) => n == 6 && n' == 6 && ct_ring f
  | some (.inr (c, fs)), some (.inr (c', fs')) => c == c' && ct_fs fs fs'
  | _, _ => false
theorem ct_fs_ok {m : ml_M} {lm : ml_J} {a : Nat} : ∀ (fs fs' : List Value) (k : Nat), ct_fs fs fs' = true → (∀ j x, fs[j]? = some (.int x) → m a (k + j) = x) → (∀ j x, fs[j]? = some (.long x) → lm a (k + j) = x) → ml_f m lm a k fs' = fs
  | [], [], k, h, h1, h2 => by simp only [ml_f]
  | .int x :: s, .int y :: t, k, h, h1, h2 => by
    simp only [ct_fs] at h
    have e := ct_fs_ok s t (k + 1) h (fun j z hz => by rw [Nat.add_assoc, Nat.add_comm 1]; exact h1 (j + 1) z hz) (fun j z hz => by rw [Nat.add_assoc, Nat.add_comm 1]; exact h2 (j + 1) z hz)
    simp only [ml_f]
    have e0 : m a k = x := h1 0 x rfl
    rw [e, e0]
  | .long x :: s, .long y :: t, k, h, h1, h2 => by
    simp only [ct_fs] at h
    have e := ct_fs_ok s t (k + 1) h (fun j z hz => by rw [Nat.add_assoc, Nat.add_comm 1]; exact h1 (j + 1) z hz) (fun j z hz => by rw [Nat.add_assoc, Nat.add_comm 1]; exact h2 (j + 1) z hz)
    simp only [ml_f]
    have e0 : lm a k = x := h2 0 x rfl
    rw [e, e0]
  | .ref x :: s, .ref y :: t, k, h, h1, h2 => by
    simp only [ct_fs, Bool.and_eq_true, beq_iff_eq] at h
    have e := ct_fs_ok s t (k + 1) h.2 (fun j z hz => by rw [Nat.add_assoc, Nat.add_comm 1]; exact h1 (j + 1) z hz) (fun j z hz => by rw [Nat.add_assoc, Nat.add_comm 1]; exact h2 (j + 1) z hz)
    simp only [ml_f]
    rw [e, h.1]
theorem ct_cell_ok {H : mj_H} {a : Nat} (hb : ∀ a e, H a = some e → ct_be e) (h : ct_cell (H a) (ml_L[a]?) = true) : H a = ml_h (ct_mo H) (ct_lo H) a := by
  have hm : ∀ k, ct_mo H a k = match H a with
    | some (.inl (_, _, .inl f)) => f k
    | some (.inr (_, fs)) => (match fs[k]? with
      | some (.int x) => x
      | _ => 0)
    | _ => 0 := fun k => rfl
  have hl : ∀ k, ct_lo H a k = match H a with
    | some (.inl (_, _, .inr (.inl f))) => f k
    | some (.inr (_, fs)) => (match fs[k]? with
      | some (.long x) => x
      | _ => 0)
    | _ => 0 := fun k => rfl
  have hb := hb a
  unfold ml_h
  generalize H a = e at *
  generalize ml_L[a]? = z at *
  unfold ct_cell at h
  split at h
  · rfl
  · rfl
  · have e1 := eq_of_beq h
    subst e1
    have e2 : ct_mo H a = _ := funext hm
    simp only [ml_e, e2]
  · have e1 := eq_of_beq h
    subst e1
    have e2 : ct_lo H a = _ := funext hl
    simp only [ml_e, e2]
  · next n f n' =>
    simp only [Bool.and_eq_true, beq_iff_eq] at h
    obtain ⟨⟨rfl, rfl⟩, h3⟩ := h
    have hf : f = ml_ring := by
      funext j
      unfold ml_ring
      by_cases c : j < 6
      · rw [if_pos c]
        unfold ct_ring at h3
        rw [List.all_eq_true] at h3
        exact eq_of_beq (h3 j (List.mem_range.2 c))
      · rw [if_neg c]
        exact hb _ rfl j (by omega)
    simp only [ml_e, hf]
  · next c fs c' fs' =>
    simp only [Bool.and_eq_true, beq_iff_eq] at h
    obtain ⟨rfl, h2⟩ := h
    have e := ct_fs_ok (m := ct_mo H) (lm := ct_lo H) (a := a) fs fs' 0 h2 (fun j x hx => by rw [hm, Nat.zero_add]; simp only [hx]) (fun j x hx => by rw [hl, Nat.zero_add]; simp only [hx])
    simp only [ml_e, e]
  · cases h
def ct_ve : List Value → List Value → Bool
  | [], [] => true
  | .int x :: a, .int y :: b => x == y && ct_ve a b
  | .retAddr x :: a, .retAddr y :: b => x == y && ct_ve a b
  | .ref x :: a, .ref y :: b => x == y && ct_ve a b
  | _, _ => false
theorem ct_ve_ok : ∀ (s t : List Value), ct_ve s t = true → s = t
  | [], [], _ => rfl
  | .int x :: a, .int y :: b, h => by
    simp only [ct_ve, Bool.and_eq_true, beq_iff_eq] at h
    rw [h.1, ct_ve_ok a b h.2]
  | .retAddr x :: a, .retAddr y :: b, h => by
    simp only [ct_ve, Bool.and_eq_true, beq_iff_eq] at h
    rw [h.1, ct_ve_ok a b h.2]
  | .ref x :: a, .ref y :: b, h => by
    simp only [ct_ve, Bool.and_eq_true, beq_iff_eq] at h
    rw [h.1, ct_ve_ok a b h.2]
def ct_L1 : List Value := [.ref 0, .ref 1, mj_hole, mj_hole, mj_hole]
def ct_head (o : Option ((List Value × List Value) × mj_W)) : Bool := match o with
  | some ((L, S), w) => ct_ve L ct_L1 && ct_ve S [] && w.1.1 == 71 && w.1.2.1 == 0 && w.1.2.2 == 2952
  | none => false
def ct_Ho (o : Option ((List Value × List Value) × mj_W)) : mj_H := match o with
  | some r => r.2.2
  | none => fun _ => none
theorem ct_head_of {o : Option ((List Value × List Value) × mj_W)} (h : ct_head o = true) : o = some ((ct_L1, []), ((71, 0, 2952), ct_Ho o)) := by
  unfold ct_head at h
  split at h
  · next L S w =>
    simp only [Bool.and_eq_true, beq_iff_eq] at h
    obtain ⟨⟨⟨⟨h1, h2⟩, h3⟩, h4⟩, h5⟩ := h
    obtain ⟨⟨x, y, z⟩, H⟩ := w
    simp only [] at h3 h4 h5
    rw [ct_ve_ok _ _ h1, ct_ve_ok _ _ h2, h3, h4, h5]
    rfl
  · cases h
theorem ct_head_ok : ct_head ct_out = true := by decide +kernel
theorem ct_cells : ∀ a, a < 72 → ct_cell (ct_Ho ct_out a) (ml_L[a]?) = true := by decide +kernel
def ct_s0 : s_S := fun k => if k = 2 ∨ k = 3 then 16 else if k = 4 then 31 else 0
theorem ct_nums : ct_mo (ct_Ho ct_out) 2 5 = nI 0 ∧ ct_mo (ct_Ho ct_out) 2 6 = nI 0 ∧ ct_mo (ct_Ho ct_out) 2 7 = nI 0 ∧ ct_mo (ct_Ho ct_out) 2 8 = nI 0 ∧ (∀ k, k < 3 → ct_mo (ct_Ho ct_out) 7 k = nI (ct_s0 (2 + k))) ∧ ct_mo (ct_Ho ct_out) 14 2 = nI 0 ∧ ct_mo (ct_Ho ct_out) 14 1 = nI 0 ∧ ct_mo (ct_Ho ct_out) 1 2 = nI 0 ∧ ct_mo (ct_Ho ct_out) 52 1 = nI 0 := by decide +kernel
theorem ct_St : q_St ct_s0 ∧ s_tot ct_s0 = 0 := by
  have z : ∀ k, ¬ k < 0 := fun k => Nat.not_lt_zero k
  have e0 : ct_s0 0 = 0 := rfl
  have eT : s_tot ct_s0 = 0 := rfl
  exact ⟨⟨⟨by decide, by decide, fun b hb => absurd hb (by rw [e0]; exact z b), fun k hk => absurd hk (by rw [eT]; exact z k), by decide, by decide, by decide, by decide, by decide, by decide⟩, fun c hc _ => absurd hc (by rw [e0]; exact z c)⟩, eT⟩
theorem ct_HD {M : ml_M} (h : M 2 5 = nI 0 ∧ M 2 6 = nI 0 ∧ M 2 7 = nI 0 ∧ M 2 8 = nI 0 ∧ (∀ k, k < 3 → M 7 k = nI (ct_s0 (2 + k))) ∧ M 14 2 = nI 0 ∧ M 14 1 = nI 0 ∧ M 1 2 = nI 0 ∧ M 52 1 = nI 0) : HD M ct_s0 0 (fun _ => ct_s0) 0 ct_s0 := by
  obtain ⟨a1, a2, a3, a4, a5, a6, a7, a8, a9⟩ := h
  have z : ∀ k, ¬ k < 0 := fun k => Nat.not_lt_zero k
  have e0 : ct_s0 0 = 0 := rfl
  have eT : s_tot ct_s0 = 0 := rfl
  refine ⟨⟨a1, a2, a3, a4, fun k hk => absurd hk (by rw [eT]; exact z k), fun b hb => absurd hb (by rw [e0]; exact z b), fun b hb => absurd hb (by rw [e0]; exact z b), fun b hb => absurd hb (by rw [e0]; exact z b), a5⟩, ⟨⟨by decide, a6, 0, by decide, a7, fun j hj => absurd hj (z j)⟩, a8, fun e => absurd e (by decide), a9, fun k hk => absurd hk (z k)⟩⟩
theorem ml_L_len : ml_L.length = 72 := rfl
theorem mj_law_of {H : mj_H} (hr : ct_out = some ((ct_L1, []), ((71, 0, 2952), H))) (hc : ∀ a, a < 72 → ct_cell (H a) (ml_L[a]?) = true) (hI : HD (ct_mo H) ct_s0 0 (fun _ => ct_s0) 0 ct_s0) {L : Nat} (hL : L ≤ 260) (xs : Nat → Int32) : ∃ (f : Nat) (w' : mj_W), mj_run L xs f 0 0 (mj_ent 0 [.ref 0]) [] ((0, 0, 0), fun _ => none) = some (.inl (some (.int 1)), w') ∧ w'.1.1 + w'.1.2.1 ≤ 600130 ∧ w'.1.2.2 ≤ 7301080 := by
  unfold ct_out at hr
  obtain ⟨hd, e⟩ := ct_ok 300 8 0 0 _ _ _ _ _ _ hr ⟨fun _ _ => rfl, fun a e h => by cases h⟩
  have hH : H = ml_h (ct_mo H) (ct_lo H) := by
    funext a
    by_cases c : a < 72
    · exact ct_cell_ok hd.2 (hc a c)
    · have e1 : H a = none := hd.1 a (by show 71 < a; omega)
      rw [e1]
      unfold ml_h
      rw [List.getElem?_eq_none (by rw [ml_L_len]; omega)]
  have h : wp L xs 0 8 [.ref 0, .ref 1, mj_hole, mj_hole, mj_hole] [] ((71, 0, 2952), ml_h (ct_mo H) (ct_lo H)) (fun r w => r = .inl (some (.int 1)) ∧ w.1.1 + w.1.2.1 ≤ 71 ∧ w.1.2.2 ≤ 2952) := k0 (by omega) ct_St.1 ct_St.2 (by decide) hI (fun m => ⟨rfl, Nat.le_refl _, Nat.le_refl _⟩)
  rw [← hH] at h
  have h2 := (e L xs (fun r w => r = .inl (some (.int 1)) ∧ w.1.1 + w.1.2.1 ≤ 71 ∧ w.1.2.2 ≤ 2952)).mpr h
  obtain ⟨f, r, w', h3, h4, h5, h6⟩ := h2
  subst h4
  exact ⟨f, w', h3, Nat.le_trans h5 (by decide), Nat.le_trans h6 (by decide)⟩
theorem mj_law {L : Nat} (hL : L ≤ 260) (xs : Nat → Int32) : ∃ (f : Nat) (w' : mj_W), mj_run L xs f 0 0 (mj_ent 0 [.ref 0]) [] ((0, 0, 0), fun _ => none) = some (.inl (some (.int 1)), w') ∧ w'.1.1 + w'.1.2.1 ≤ 600130 ∧ w'.1.2.2 ≤ 7301080 := mj_law_of (ct_head_of ct_head_ok) ct_cells (ct_HD ct_nums) hL xs
