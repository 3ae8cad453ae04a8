/-! ===== the small world in the machine's heap: cell k + 1 lies at B + k, the script at b ===== -/
def mj_ish : Value → Bool
  | .retAddr _ => true
  | _ => false
section MSI
variable (B b : Nat)
def mj_ad : Nat → Nat
  | 0 => b
  | k + 1 => B + k
def mj_tv : Value → Value
  | .ref k => .ref (mj_ad B b k)
  | v => v
theorem mj_tv_cat (v : Value) : (mj_tv B b v).category = v.category := by cases v <;> rfl
theorem mj_tv_sum (S : List Value) : ((S.map (mj_tv B b)).map fun v => v.category).sum = mj_cat S := by
  unfold mj_cat
  rw [List.map_map]
  congr 1
  exact List.map_congr_left fun v _ => mj_tv_cat B b v
def mj_te (tys : List (ClassId × FieldType)) (x : va_E) : va_E := match x with
  | .inl (t, n, .inr (.inr (.inr (.inr f)))) => .inl ((tys.getD t (0, .int)).1, n, .inr (.inr (.inr (.inr (fun j => (f j).map (mj_ad B b))))))
  | .inl (t, a) => .inl ((tys.getD t (0, .int)).1, a)
  | .inr (c, fs) => .inr (c, fs.map (mj_tv B b))
def mj_Old (OH : Nat → Option Cell) (H : Heap) : Prop := ∀ q : Nat, q < B → H[q]? = OH q
def mj_Sim (tys : List (ClassId × FieldType)) (D : va_G) (OH : Nat → Option Cell) (w : mj_W) (H : Heap) : Prop :=
  (w.1.2.1 = 0 → H.size = B + w.1.1) ∧ B ≤ H.size ∧ mj_Old B OH H ∧ ∀ (k : Nat) (e : va_E), w.2 k = some e → ∃ j : Nat, k = j + 1 ∧ va_at D vwCl (B + j, mj_te B b tys e) H
variable {B b} {tys : List (ClassId × FieldType)} {D : va_G} {OH : Nat → Option Cell}
theorem mj_Sim.up {w : mj_W} {H H1 : Heap} {j : Nat} {e : va_E} (h : mj_Sim B b tys D OH w H) (h1 : va_at D vwCl (B + j, mj_te B b tys e) H1) (hz : H1.size = H.size) (ho : ∀ q : Nat, q ≠ B + j → H1[q]? = H[q]?) : mj_Sim B b tys D OH (w.1, mj_up w.2 (j + 1) e) H1 := by
  obtain ⟨a1, a2, a3, a4⟩ := h
  refine ⟨fun q => by rw [hz]; exact a1 q, by rw [hz]; exact a2, fun q hq => by rw [ho q (by omega)]; exact a3 q hq, fun k e' hk => ?_⟩
  have hk' : (if k = j + 1 then some e else w.2 k) = some e' := hk
  by_cases hj : k = j + 1
  · rw [if_pos hj] at hk'
    cases hk'
    exact ⟨j, hj, h1⟩
  · rw [if_neg hj] at hk'
    obtain ⟨i, hi, h2⟩ := a4 k e' hk'
    exact ⟨i, hi, h2.kept (ho _ (by show B + i ≠ B + j; omega))⟩
theorem mj_Sim.new {w : mj_W} {H H1 : Heap} {e : va_E} {sl : Nat} (h : mj_Sim B b tys D OH w H) (hx : w.1.2.1 = 0) (h1 : va_at D vwCl (H.size, mj_te B b tys e) H1) (hz : H1.size = H.size + 1) (ho : ∀ q : Nat, q < H.size → H1[q]? = H[q]?) : mj_Sim B b tys D OH ((w.1.1 + 1, w.1.2.1, w.1.2.2 + sl), mj_up w.2 (w.1.1 + 1) e) H1 := by
  obtain ⟨a1, a2, a3, a4⟩ := h
  have hs := a1 hx
  refine ⟨fun q => by show H1.size = B + (w.1.1 + 1); omega, by omega, fun q hq => by rw [ho q (by omega)]; exact a3 q hq, fun k e' hk => ?_⟩
  have hk' : (if k = w.1.1 + 1 then some e else w.2 k) = some e' := hk
  by_cases hj : k = w.1.1 + 1
  · rw [if_pos hj] at hk'
    cases hk'
    exact ⟨w.1.1, hj, by rw [← hs]; exact h1⟩
  · rw [if_neg hj] at hk'
    obtain ⟨i, hi, h2⟩ := a4 k e' hk'
    exact ⟨i, hi, h2.kept (ho _ h2.lt)⟩
/-- the locals: what is no hole is held -/
def mj_lr (B b : Nat) (ls : Array Slot) (nL : Nat) (L : List Value) : Prop := ls.size = nL ∧ lv_wf ls ∧ ∀ (k : Nat) (v : Value), L[k]? = some v → mj_ish v = false → ls[k]? = some (.val (mj_tv B b v))
def mj_lv (B b : Nat) (L : List Value) : List (Nat × Value) := (List.range L.length).filterMap (fun k => match L[k]? with
  | some v => if mj_ish v = true then none else some (k, mj_tv B b v)
  | none => none)
theorem mj_lv_mem {L : List Value} {q : Nat × Value} : q ∈ mj_lv B b L ↔ ∃ v, L[q.1]? = some v ∧ mj_ish v = false ∧ q.2 = mj_tv B b v := by
  unfold mj_lv
  rw [List.mem_filterMap]
  constructor
  · rintro ⟨k, -, h⟩
    cases hk : L[k]? with
    | none => rw [hk] at h; cases h
    | some v =>
      rw [hk] at h
      dsimp only at h
      by_cases hv : mj_ish v = true
      · rw [if_pos hv] at h; cases h
      · rw [if_neg hv] at h
        cases h
        exact ⟨v, hk, by simpa using hv, rfl⟩
  · rintro ⟨v, h1, h2, h3⟩
    refine ⟨q.1, List.mem_range.mpr (List.getElem?_eq_some_iff.mp h1).1, ?_⟩
    rw [h1]
    dsimp only
    rw [if_neg (by rw [h2]; decide), ← h3]
theorem mj_lr.has {ls : Array Slot} {nL : Nat} {L : List Value} (h : mj_lr B b ls nL L) : lv_has ls nL (mj_lv B b L) := by
  refine ⟨h.1, h.2.1, fun q hq => ?_⟩
  obtain ⟨v, h1, h2, h3⟩ := mj_lv_mem.mp hq
  rw [h3]
  exact h.2.2 q.1 v h1 h2
theorem mj_lr.of {ls : Array Slot} {nL : Nat} {L : List Value} {l : List (Nat × Value)} (h : lv_has ls nL l) (hm : ∀ q ∈ mj_lv B b L, q ∈ l) : mj_lr B b ls nL L :=
  ⟨h.1, h.2.1, fun k v h1 h2 => h.2.2 (k, mj_tv B b v) (hm _ (mj_lv_mem.mpr ⟨v, h1, h2, rfl⟩))⟩
theorem mj_hol_ish {v : Value} (h : mj_ish (mj_hol v) = false) : v.category ≠ 2 ∧ mj_hol v = v := by
  unfold mj_hol at h ⊢
  by_cases hc : v.category = 2
  · rw [if_pos hc] at h; cases h
  · rw [if_neg hc] at h ⊢; exact ⟨hc, rfl⟩
theorem mj_st1_get : ∀ (L : List Value) (i k : Nat) (v u : Value), (mj_st1 L i v)[k]? = some u → (k = i ∧ u = v) ∨ (k ≠ i ∧ ∃ u0, L[k]? = some u0 ∧ ((k + 1 = i ∧ u = mj_hol u0) ∨ (k + 1 ≠ i ∧ u = u0)))
  | [], i, k, v, u, h => by simp [mj_st1] at h
  | a :: L, 0, 0, v, u, h => by simp [mj_st1] at h; exact Or.inl ⟨rfl, h.symm⟩
  | a :: L, 0, k + 1, v, u, h => by
    simp only [mj_st1, List.getElem?_cons_succ] at h
    exact Or.inr ⟨by omega, u, by simpa using h, Or.inr ⟨by omega, rfl⟩⟩
  | a :: L, i + 1, 0, v, u, h => by
    simp only [mj_st1, List.getElem?_cons_zero, Option.some.injEq] at h
    refine Or.inr ⟨by omega, a, rfl, ?_⟩
    by_cases hi : i = 0
    · rw [if_pos hi] at h
      exact Or.inl ⟨by omega, h.symm⟩
    · rw [if_neg hi] at h
      exact Or.inr ⟨by omega, h.symm⟩
  | a :: L, i + 1, k + 1, v, u, h => by
    simp only [mj_st1, List.getElem?_cons_succ] at h
    rcases mj_st1_get L i k v u h with ⟨h1, h2⟩ | ⟨h1, u0, h2, h3⟩
    · exact Or.inl ⟨by omega, h2⟩
    · refine Or.inr ⟨by omega, u0, by simpa using h2, ?_⟩
      rcases h3 with ⟨h4, h5⟩ | ⟨h4, h5⟩
      · exact Or.inl ⟨by omega, h5⟩
      · exact Or.inr ⟨by omega, h5⟩
theorem mj_st2_get : ∀ (L : List Value) (i k : Nat) (v u : Value), (mj_st2 L i v)[k]? = some u → (k = i ∧ u = v) ∨ (k = i + 1 ∧ u = mj_hole) ∨ (k ≠ i ∧ k ≠ i + 1 ∧ ∃ u0, L[k]? = some u0 ∧ ((k + 1 = i ∧ u = mj_hol u0) ∨ (k + 1 ≠ i ∧ u = u0)))
  | [], i, k, v, u, h => by simp [mj_st2] at h
  | a :: L, 0, 0, v, u, h => by simp [mj_st2] at h; exact Or.inl ⟨rfl, h.symm⟩
  | a :: L, 0, k + 1, v, u, h => by
    simp only [mj_st2, List.getElem?_cons_succ] at h
    match L, k, h with
    | [], _, h => simp [mj_hd] at h
    | x :: L, 0, h => simp [mj_hd] at h; exact Or.inr (Or.inl ⟨rfl, h.symm⟩)
    | x :: L, k + 1, h =>
      simp only [mj_hd, List.getElem?_cons_succ] at h
      exact Or.inr (Or.inr ⟨by omega, by omega, u, by simpa using h, Or.inr ⟨by omega, rfl⟩⟩)
  | a :: L, i + 1, 0, v, u, h => by
    simp only [mj_st2, List.getElem?_cons_zero, Option.some.injEq] at h
    refine Or.inr (Or.inr ⟨by omega, by omega, a, rfl, ?_⟩)
    by_cases hi : i = 0
    · rw [if_pos hi] at h
      exact Or.inl ⟨by omega, h.symm⟩
    · rw [if_neg hi] at h
      exact Or.inr ⟨by omega, h.symm⟩
  | a :: L, i + 1, k + 1, v, u, h => by
    simp only [mj_st2, List.getElem?_cons_succ] at h
    rcases mj_st2_get L i k v u h with ⟨h1, h2⟩ | ⟨h1, h2⟩ | ⟨h1, h1', u0, h2, h3⟩
    · exact Or.inl ⟨by omega, h2⟩
    · exact Or.inr (Or.inl ⟨by omega, h2⟩)
    · refine Or.inr (Or.inr ⟨by omega, by omega, u0, by simpa using h2, ?_⟩)
      rcases h3 with ⟨h4, h5⟩ | ⟨h4, h5⟩
      · exact Or.inl ⟨by omega, h5⟩
      · exact Or.inr ⟨by omega, h5⟩
theorem mj_lr.st1 {ls : Array Slot} {nL i : Nat} {L : List Value} {v v' : Value} (hv : v' = mj_tv B b v) (h : lv_has ls nL ((i, v') :: (mj_lv B b L).filter (fun q => !(q.1 == i) && !(q.1 + 1 == i && q.2.category == 2)))) : mj_lr B b ls nL (mj_st1 L i v) := by
  subst hv
  refine mj_lr.of h fun q hq => ?_
  obtain ⟨u, h1, h2, h3⟩ := mj_lv_mem.mp hq
  rcases mj_st1_get L i q.1 v u h1 with ⟨e1, e2⟩ | ⟨e1, u0, e2, e3⟩
  · rw [e2] at h3
    rw [show q = (i, mj_tv B b v) from Prod.ext e1 h3]
    exact List.mem_cons_self
  · refine List.mem_cons_of_mem _ (List.mem_filter.mpr ?_)
    have hu : u = u0 ∧ ¬ (q.1 + 1 = i ∧ u.category = 2) := by
      rcases e3 with ⟨e4, e5⟩ | ⟨e4, e5⟩
      · rw [e5] at h2
        obtain ⟨g1, g2⟩ := mj_hol_ish h2
        rw [e5, g2]
        exact ⟨rfl, fun z => g1 z.2⟩
      · exact ⟨e5, fun z => e4 z.1⟩
    refine ⟨mj_lv_mem.mpr ⟨u0, e2, hu.1 ▸ h2, hu.1 ▸ h3⟩, ?_⟩
    rw [h3, mj_tv_cat]
    have hn := hu.2
    simp only [Bool.and_eq_true, Bool.not_eq_true', beq_eq_false_iff_ne, Bool.and_eq_false_iff, ne_eq]
    refine ⟨e1, ?_⟩
    by_cases z : q.1 + 1 = i
    · exact Or.inr (fun y => hn ⟨z, y⟩)
    · exact Or.inl z
theorem mj_lr.st2 {ls : Array Slot} {nL i : Nat} {L : List Value} {v v' : Value} (hv : v' = mj_tv B b v) (h : lv_has ls nL ((i, v') :: (mj_lv B b L).filter (fun q => !(q.1 == i) && (!(q.1 == i + 1) && !(q.1 + 1 == i && q.2.category == 2))))) : mj_lr B b ls nL (mj_st2 L i v) := by
  subst hv
  refine mj_lr.of h fun q hq => ?_
  obtain ⟨u, h1, h2, h3⟩ := mj_lv_mem.mp hq
  rcases mj_st2_get L i q.1 v u h1 with ⟨e1, e2⟩ | ⟨e1, e2⟩ | ⟨e1, e1', u0, e2, e3⟩
  · rw [e2] at h3
    rw [show q = (i, mj_tv B b v) from Prod.ext e1 h3]
    exact List.mem_cons_self
  · rw [e2] at h2
    cases h2
  · refine List.mem_cons_of_mem _ (List.mem_filter.mpr ?_)
    have hu : u = u0 ∧ ¬ (q.1 + 1 = i ∧ u.category = 2) := by
      rcases e3 with ⟨e4, e5⟩ | ⟨e4, e5⟩
      · rw [e5] at h2
        obtain ⟨g1, g2⟩ := mj_hol_ish h2
        rw [e5, g2]
        exact ⟨rfl, fun z => g1 z.2⟩
      · exact ⟨e5, fun z => e4 z.1⟩
    refine ⟨mj_lv_mem.mpr ⟨u0, e2, hu.1 ▸ h2, hu.1 ▸ h3⟩, ?_⟩
    rw [h3, mj_tv_cat]
    have hn := hu.2
    simp only [Bool.and_eq_true, Bool.not_eq_true', beq_eq_false_iff_ne, Bool.and_eq_false_iff, ne_eq]
    refine ⟨e1, e1', ?_⟩
    by_cases z : q.1 + 1 = i
    · exact Or.inr (fun y => hn ⟨z, y⟩)
    · exact Or.inl z
theorem mj_args_len (vs : List Value) : (mj_args vs).length = mj_cat vs := by
  induction vs with
  | nil => rfl
  | cons v vs ih =>
    unfold mj_args mj_cat at *
    rw [List.flatMap_cons, List.length_append, ih, List.map_cons, List.sum_cons]
    rcases lv_cat v with h | h
    · rw [h, if_neg (by decide)]; rfl
    · rw [h, if_pos rfl]; rfl
theorem mj_args_get : ∀ (vs : List Value) (o k : Nat) (v : Value), (mj_args vs)[k]? = some v → mj_ish v = false → (o + k, mj_tv B b v) ∈ lv_args o (vs.map (mj_tv B b))
  | [], o, k, v, h, _ => by simp [mj_args] at h
  | u :: vs, o, k, v, h, hv => by
    have e : mj_args (u :: vs) = (if u.category = 2 then [u, mj_hole] else [u]) ++ mj_args vs := by simp [mj_args]
    rw [e] at h
    simp only [List.map_cons, lv_args, mj_tv_cat]
    by_cases hc : u.category = 2
    · rw [if_pos hc] at h ⊢
      match k, h with
      | 0, h => simp at h; subst h; exact List.mem_cons_self
      | 1, h => simp at h; subst h; cases hv
      | k + 2, h =>
        simp at h
        have := mj_args_get vs (o + 2) k v h hv
        rw [show o + (k + 2) = o + 2 + k by omega]
        exact List.mem_cons_of_mem _ this
    · rw [if_neg hc] at h ⊢
      match k, h with
      | 0, h => simp at h; subst h; exact List.mem_cons_self
      | k + 1, h =>
        simp at h
        have := mj_args_get vs (o + 1) k v h hv
        rw [show o + (k + 1) = o + 1 + k by omega]
        exact List.mem_cons_of_mem _ this
theorem mj_lg_len (vs : List Value) : (lg_sl (vs.map (mj_tv B b))).length = mj_cat vs := by
  induction vs with
  | nil => rfl
  | cons v vs ih =>
    unfold lg_sl mj_cat at *
    rw [List.map_cons, List.flatMap_cons, List.length_append, ih, List.map_cons, List.sum_cons, mj_tv_cat]
    rcases lv_cat v with h | h
    · rw [h, if_neg (by decide)]; rfl
    · rw [h, if_pos rfl]; rfl
theorem mj_lr.entry {j : Nat} {vs : List Value} (h : mj_cat vs ≤ mj_l j) : mj_lr B b ((lg_sl (vs.map (mj_tv B b)) ++ List.replicate (mj_l j - (lg_sl (vs.map (mj_tv B b))).length) Slot.unset).toArray) (mj_l j) (mj_ent j vs) := by
  have h1 := lv_entry (vs.map (mj_tv B b)) (n := mj_l j) (by rw [mj_lg_len]; exact h)
  refine mj_lr.of h1 fun q hq => ?_
  obtain ⟨v, g1, g2, g3⟩ := mj_lv_mem.mp hq
  unfold mj_ent at g1
  by_cases hk : q.1 < (mj_args vs).length
  · rw [List.getElem?_append_left hk] at g1
    have := mj_args_get (B := B) (b := b) vs 0 q.1 v g1 g2
    rw [Nat.zero_add, ← g3] at this
    exact this
  · rw [List.getElem?_append_right (by omega)] at g1
    have := List.mem_of_getElem? g1
    rw [List.mem_replicate] at this
    rw [this.2] at g2
    cases g2
end MSI
/-- what lasts through a run: the classes, the script, Throwable's two statics, the texts, the exceptions apart -/
def mj_G (Ln : Nat) (xs : Nat → Int32) (B b : Nat) (tys : List (ClassId × FieldType)) (D : va_G) (OH : Nat → Option Cell) (s : State) : Prop :=
  va_K D vwCl tys s ∧ (∃ cI cL cQ : ClassId, tys = [(cI, .int), (cI, .int), (cQ, .object (mj_cl mj_qc).1)]) ∧ b < B ∧
  (∀ H : Heap, mj_Old B OH H → B ≤ H.size → va_X b Ln xs s H) ∧
  (∀ H : Heap, mj_Old B OH H → B ≤ H.size → vx_Zq Bundle.tN "UNASSIGNED_STACK" Bundle.steD (fun q => B ≤ q) s H) ∧
  (∀ H : Heap, mj_Old B OH H → B ≤ H.size → vx_Zq Bundle.tN "SUPPRESSED_SENTINEL" Bundle.listD (fun q => B ≤ q) s H) ∧
  (∀ q ∈ mj_str, ∃ sa : Nat, vk_R (mj_own q.1) q.2.1 q.2.2 sa s) ∧
  (∀ x y : Nat, x < mj_E.length → y < mj_E.length → x ≠ y → mj_hdl ≠ [] → va_Nc (mj_E.getD x "") (mj_E.getD y "") s)
theorem mj_G.warm {Ln : Nat} {xs : Nat → Int32} {B b : Nat} {tys : List (ClassId × FieldType)} {D : va_G} {OH : Nat → Option Cell} {s U : State} (hW : s.WarmedH U.vm) (h : mj_G Ln xs B b tys D OH s) : mj_G Ln xs B b tys D OH U := by
  obtain ⟨h1, h2, h3, h4, h5, h6, h7, h8⟩ := h
  exact ⟨h1.moved hW.alike, h2, h3, fun H a c => (h4 H a c).moved hW.alike, fun H a c => (h5 H a c).moved hW.alike, fun H a c => (h6 H a c).moved hW.alike,
    fun q hq => by obtain ⟨sa, hs⟩ := h7 q hq; exact ⟨sa, hs.warm hW⟩, fun x y hx hy hn hz => (h8 x y hx hy hn hz).moved hW.alike⟩
