/-! ===== a run of the mini machine is a run of the machine ===== -/
section MJG
variable {Ln : Nat} {xs : Nat → Int32} {B b : Nat} {tys : List (ClassId × FieldType)} {D : va_G} {OH : Nat → Option Cell}
theorem mj_mono : ∀ (f i pc : Nat) (L S : List Value) (w w' : mj_W) (r : mj_R), mj_run Ln xs f i pc L S w = some (r, w') → w.1.1 + w.1.2.1 ≤ w'.1.1 + w'.1.2.1 ∧ w.1.2.2 ≤ w'.1.2.2
  | 0, _, _, _, _, _, _, _, h => by cases h
  | f + 1, i, pc, L, S, w, w', r, h => by
    unfold mj_run at h
    split at h
    · cases h
    · split at h
      · split at h
        · split at h
          · rename_i h0
            have h1 := mj_mono f _ _ _ _ _ _ _ h
            exact ⟨Nat.le_trans h0.1 h1.1, Nat.le_trans h0.2 h1.2⟩
          · cases h
        · split at h
          · cases h; exact ⟨Nat.le_refl _, Nat.le_refl _⟩
          · split at h
            · cases h; exact ⟨by dsimp only; omega, by dsimp only; omega⟩
            · split at h
              · split at h
                · cases h
                · rename_i v w1 h2
                  have h1 := mj_mono f _ _ _ _ _ _ _ h2
                  have h3 := mj_mono f _ _ _ _ _ _ _ h
                  exact ⟨Nat.le_trans h1.1 h3.1, Nat.le_trans h1.2 h3.2⟩
                · rename_i E w1 h2
                  split at h
                  · have h1 := mj_mono f _ _ _ _ _ _ _ h2
                    have h3 := mj_mono f _ _ _ _ _ _ _ h
                    exact ⟨Nat.le_trans h1.1 h3.1, Nat.le_trans h1.2 h3.2⟩
                  · cases h
              · cases h
      · cases h
theorem mj_G.same {s U : State} (hv : U.vm = s.vm) (h : mj_G Ln xs B b tys D OH s) : mj_G Ln xs B b tys D OH U := by
  have ha : s.vm.Alike U.vm := by rw [hv]; exact Vm.Alike.refl _
  obtain ⟨h1, h2, h3, h4, h5, h6, h7, h8⟩ := h
  exact ⟨h1.moved ha, h2, h3, fun H a c => (h4 H a c).moved ha, fun H a c => (h5 H a c).moved ha, fun H a c => (h6 H a c).moved ha,
    fun q hq => by obtain ⟨sa, hs⟩ := h7 q hq; exact ⟨sa, hs.same hv⟩, fun x y hx hy hn hz => (h8 x y hx hy hn hz).moved ha⟩
theorem mj_Sim.grow {w : mj_W} {H H1 : Heap} (h : mj_Sim B b tys D OH w H) (hz : H.size ≤ H1.size) (ho : ∀ q : Nat, q < H.size → H1[q]? = H[q]?) : mj_Sim B b tys D OH ((w.1.1, w.1.2.1 + 1, w.1.2.2 + 6), w.2) H1 := by
  obtain ⟨a1, a2, a3, a4⟩ := h
  refine ⟨fun q => absurd q (Nat.succ_ne_zero _), Nat.le_trans a2 hz, fun q hq => by rw [ho q (by omega)]; exact a3 q hq, fun k e hk => ?_⟩
  obtain ⟨j, hj, h2⟩ := a4 k e hk
  exact ⟨j, hj, h2.kept (ho _ h2.lt)⟩
def mj_Post (B b : Nat) (tys : List (ClassId × FieldType)) (D : va_G) (OH : Nat → Option Cell) (w' : mj_W) (st t : State) : Prop := mj_Sim B b tys D OH w' t.heap ∧ st.heap.size ≤ t.heap.size
def mj_Qc (B b : Nat) (tys : List (ClassId × FieldType)) (D : va_G) (OH : Nat → Option Cell) (r : mj_R) (w' : mj_W) : Array Value → State → Outcome → State → Prop := fun _ st o t => (∃ v, r = .inl v ∧ o = .returned (v.map (mj_tv B b))) ∧ mj_Post B b tys D OH w' st t
def mj_XC (B b : Nat) (tys : List (ClassId × FieldType)) (D : va_G) (OH : Nat → Option Cell) (r : mj_R) (w' : mj_W) : String → State → State → Prop := fun E st t => (∃ k, r = .inr k ∧ E = mj_E.getD k "") ∧ mj_Post B b tys D OH w' st t
def mj_Pc (Ln : Nat) (xs : Nat → Int32) (B b : Nat) (tys : List (ClassId × FieldType)) (D : va_G) (OH : Nat → Option Cell) (vs : List Value) (w : mj_W) : Array Value → State → Prop := fun a U => a = (vs.map (mj_tv B b)).toArray ∧ mj_Sim B b tys D OH w U.heap ∧ mj_G Ln xs B b tys D OH U
def mj_rm (j dc dz : Nat) : Room := { frames := mj_F j, cells := dc, slots := dz, locals := mj_D j }
def mj_ws (j : Nat) : List Cond := mj_cw j :: mj_GT
def mj_free (B : Nat) : Addr → Prop := fun q => B ≤ q
def mj_GoAt (l : Launch) (Ln : Nat) (xs : Nat → Int32) (B b : Nat) (tys : List (ClassId × FieldType)) (D : va_G) (OH : Nat → Option Cell) (f : Nat) : Prop :=
  ∀ (i pc : Nat) (L S : List Value) (w w' : mj_W) (r : mj_R), mj_run Ln xs f i pc L S w = some (r, w') →
  ∀ (p : Program) (e : Env) (R : Room) (s : State) (m : MethodId) (args : Array Value) (below : List Frame) (meth : Method) (c : Code) (H : Heap) (locs : List Loc) (cells slots : Nat) (Q : State → Prop) (ls : Array Slot),
  mj_X Ln xs B b tys D OH i p l s m args meth c → mj_F i ≤ R.frames → mj_D i ≤ R.locals → mj_Sim B b tys D OH w H → mj_lr B b ls (mj_l i) L → s.heap.size ≤ H.size → (∀ q ∈ locs, B ≤ q.base) → cells + (w'.1.1 + w'.1.2.1) ≤ R.cells + (w.1.1 + w.1.2.1) → slots + w'.1.2.2 ≤ R.slots + w.1.2.2 →
  (∀ (H1 : Heap) (ls1 : Array Slot) (locs1 : List Loc) (c1 z1 pc1 : Nat) (S1 : List Value) (g1 : Instr) (v : Option Value), r = .inl v → mj_Sim B b tys D OH w' H1 → s.heap.size ≤ H1.size → (∀ q ∈ locs1, B ≤ q.base) → c1 + (w.1.1 + w.1.2.1) = cells + (w'.1.1 + w'.1.2.1) → z1 + w.1.2.2 = slots + w'.1.2.2 → decode (mj_b i) pc1 = .ok (g1, 1) → mj_fin i S1 g1 = some v → W p l e R s m args below meth c H1 locs1 c1 z1 Q (F0 m pc1 ls1 (S1.map (mj_tv B b)))) →
  (∀ (H1 : Heap) (ls1 : Array Slot) (locs1 : List Loc) (c1 z1 pc1 : Nat) (S1 : List Value) (g1 : Instr) (E : Nat) (w1 : mj_W), r = .inr E → w' = ((w1.1.1, w1.1.2.1 + 1, w1.1.2.2 + 6), w1.2) → mj_Sim B b tys D OH w1 H1 → s.heap.size ≤ H1.size → (∀ q ∈ locs1, B ≤ q.base) → c1 + (w.1.1 + w.1.2.1) = cells + (w1.1.1 + w1.1.2.1) → z1 + w.1.2.2 = slots + w1.1.2.2 → ls1.size = mj_l i → decode (mj_b i) pc1 = .ok (g1, 3) → mj_thr i pc1 S1 g1 = some E → W p l e R s m args below meth c H1 locs1 c1 z1 Q (F0 m pc1 ls1 (S1.map (mj_tv B b)))) →
  W p l e R s m args below meth c H locs cells slots Q (F0 m pc ls (S.map (mj_tv B b)))
theorem mj_fin_ln {i : Nat} {S : List Value} {g : Instr} {v : Option Value} (h : mj_fin i S g = some v) : mj_sw g = false ∧ mj_ln g = 1 := by
  cases g <;> first | exact ⟨rfl, rfl⟩ | simp [mj_fin] at h
theorem mj_thr_ln {i pc : Nat} {S : List Value} {g : Instr} {E : Nat} (h : mj_thr i pc S g = some E) : mj_sw g = false ∧ mj_ln g = 3 := by
  cases g <;> first | exact ⟨rfl, rfl⟩ | simp [mj_thr] at h
theorem mj_exc_own : ∀ q ∈ mj_exc, q.1 ≠ 0 := by decide +kernel
section BODY
variable {p : Program} {l : Launch} {e : Env} {R : Room} {s : State} {m : MethodId} {args : Array Value} {below : List Frame} {meth : Method} {c : Code} {H : Heap} {locs : List Loc} {cells slots : Nat} {ls : Array Slot}
/-- a method's own end -/
theorem mj_ends {i pc : Nat} {S : List Value} {g : Instr} {v : Option Value} {r : mj_R} {w' : mj_W} (X : mj_X Ln xs B b tys D OH i p l s m args meth c) (hr0 : r = .inl v) (hS : mj_Sim B b tys D OH w' H) (hz : s.heap.size ≤ H.size) (hlo : ∀ q ∈ locs, B ≤ q.base) (hd : decode (mj_b i) pc = .ok (g, 1)) (hf : mj_fin i S g = some v) :
    W p l e R s m args below meth c H locs cells slots (vx_MQ below (mj_Qc B b tys D OH r w') (mj_XC B b tys D OH r w') args s cells slots (mj_free B)) (F0 m pc ls (S.map (mj_tv B b))) := by
  obtain ⟨hx, hb, hr, hml, hown, hts, hG, hlk, htab, hnm, hnt, hBs, hOs⟩ := X
  have hpost : ∀ t : State, t.heap = H → mj_Post B b tys D OH w' s t := fun t ht => ⟨by rw [ht]; exact hS, by rw [ht]; exact hz⟩
  refine vx_ret ?_
  cases g with
  | ireturn =>
    simp only [mj_fin] at hf
    split at hf
    · rename_i v0 ty hty
      obtain ⟨hn, hf⟩ := mj_if_s hf
      cases hf
      exact W.zret hx hb (hr.trans hty) hn (fun t ht _ => ⟨⟨_, hr0, rfl⟩, hpost t ht⟩) hlo hd hlk
    · cases hf
  | lreturn =>
    simp only [mj_fin] at hf
    split at hf
    · rename_i v0 hty
      cases hf
      exact W.lret hx hb (hr.trans hty) (fun t ht _ => ⟨⟨_, hr0, rfl⟩, hpost t ht⟩) hlo hd hlk
    · cases hf
  | freturn =>
    simp only [mj_fin] at hf
    split at hf
    · rename_i v0 hty
      cases hf
      exact W.fret hx hb (hr.trans hty) (fun t ht _ => ⟨⟨_, hr0, rfl⟩, hpost t ht⟩) hlo hd hlk
    · cases hf
  | dreturn =>
    simp only [mj_fin] at hf
    split at hf
    · rename_i v0 hty
      cases hf
      exact W.dret hx hb (hr.trans hty) (fun t ht _ => ⟨⟨_, hr0, rfl⟩, hpost t ht⟩) hlo hd hlk
    · cases hf
  | areturn =>
    simp only [mj_fin] at hf
    split at hf
    · rename_i v0 C hty
      cases hf
      exact W.aret hx hb (hr.trans hty) (Or.inl ⟨_, rfl⟩) (Or.inr ⟨_, rfl⟩) (fun t ht _ => ⟨⟨_, hr0, rfl⟩, hpost t ht⟩) hlo hd hlk
    · cases hf
  | return_ =>
    simp only [mj_fin] at hf
    split at hf
    · rename_i hty
      cases hf
      exact W.vret hx hb (hr.trans hty) (fun t ht _ => ⟨⟨_, hr0, rfl⟩, hpost t ht⟩) hlo hd hlk
    · cases hf
  | _ => simp [mj_fin] at hf
/-- a throw that leaves the method -/
theorem mj_throws {i pc : Nat} {S : List Value} {g : Instr} {E mc ms : Nat} {r : mj_R} {w w' : mj_W} (X : mj_X Ln xs B b tys D OH i p l s m args meth c) (hF : mj_F i ≤ R.frames) (hDl : mj_D i ≤ R.locals) (hr0 : r = .inr E) (hw : w' = ((w.1.1, w.1.2.1 + 1, w.1.2.2 + 6), w.2)) (hS : mj_Sim B b tys D OH w H) (hz : s.heap.size ≤ H.size) (hlo : ∀ q ∈ locs, B ≤ q.base) (hsz : ls.size = mj_l i) (hd : decode (mj_b i) pc = .ok (g, 3)) (hf : mj_thr i pc S g = some E)
    (hc1 : cells + 1 ≤ R.cells) (hs1 : slots + 6 ≤ R.slots) (hc : cells + 1 ≤ mc) (hs : slots + 6 ≤ ms) :
    W p l e R s m args below meth c H locs cells slots (vx_MQ below (mj_Qc B b tys D OH r w') (mj_XC B b tys D OH r w') args s mc ms (mj_free B)) (F0 m pc ls (S.map (mj_tv B b))) := by
  obtain ⟨hx, hb, hr, hml, hown, hts, hG, hlk, htab, hnm, hnt, hBs, hOs⟩ := X
  have hXC : ∀ (cls : String), cls = mj_E.getD E "" → ∀ t : State, s.vm.Alike t.vm → H.size ≤ t.heap.size → (∀ q : Nat, q < H.size → t.heap[q]? = H[q]?) → mj_XC B b tys D OH r w' cls s t := by
    intro cls hcls t _ h1 h2
    refine ⟨⟨E, hr0, hcls⟩, ?_, Nat.le_trans hz h1⟩
    rw [hw]
    exact hS.grow h1 h2
  have hSS : va_S (fun q => B ≤ q) s.heap H locs := ⟨hz, fun q hq hn => by rw [hS.2.2.1 q (Nat.not_le.mp hn), hOs q (Nat.not_le.mp hn)], hlo⟩
  cases g with
  | new x =>
    simp only [mj_thr] at hf
    split at hf
    · rename_i E0 ic hk
      have hi0 : i ≠ 0 := by
        rintro rfl
        have := mj_exc_own _ (mj_find2 hk)
        exact this (show mj_o 0 = 0 by decide +kernel)
      obtain ⟨⟨d3, hh, hcat, hF6, hD9⟩, hf⟩ := mj_if_s hf
      have hq := mj_find2 hk
      obtain ⟨e1, e2, e3, e4⟩ := mj_exc_ok _ hq
      have hat : ∀ w ∈ mj_xw (mj_o i, x, E0, ic), w.before args s = true := fun w hw => hts w (e1 w hw)
      have hout : ∀ (pc9 : Nat), ∀ x ∈ c.exceptionTable.toList, covers x pc9 = false := by
        intro pc9 x hx9
        rw [htab hi0, hh] at hx9
        cases hx9
      have hst : ∀ z, (mj_rs (mj_o i) z).isSome = true → ∃ tx sa, vk_R (mj_own (mj_o i)) z tx sa s := by
        intro z hz9
        obtain ⟨tx, htx⟩ := Option.isSome_iff_exists.mp hz9
        obtain ⟨sa, hsa⟩ := hG.2.2.2.2.2.2.1 _ (mj_find2 htx)
        exact ⟨tx, sa, hsa⟩
      have hU := hG.2.2.2.2.1 s.heap hOs hBs
      have hN := hG.2.2.2.2.2.1 s.heap hOs hBs
      have hloc : ((S.map (mj_tv B b)).map fun v => v.category).sum + (13 * (mj_rt.length + 1) + 43) ≤ R.locals := by
        rw [mj_tv_sum]
        show _ + (13 * (2 + 1) + 43) ≤ _
        omega
      have hfr : mj_rt.length + 3 < R.frames := by
        show 2 + 3 < _
        omega
      split at hf
      · rename_i z hz4
        obtain ⟨⟨hz9, d6, d9⟩, hf⟩ := mj_if_s hf
        cases hf
        obtain ⟨tx, sa, hsa⟩ := hst z hz9
        exact vx_throwS hx hb hnt hown e3 mj_rt_ok (hat _ List.mem_cons_self) (hat _ (List.mem_cons_of_mem _ List.mem_cons_self)) hsa (fun w hw => hat w (List.mem_cons_of_mem _ (List.mem_cons_of_mem _ hw))) e2 hU hN hSS (hsz.trans hml.symm) hd d3 hz4 d6 d9 (hout _) hfr hloc hc1 hs1 hlk (hXC _ rfl) hlo hc hs
      · rename_i z hz4
        obtain ⟨⟨hz9, d7, d10⟩, hf⟩ := mj_if_s hf
        cases hf
        obtain ⟨tx, sa, hsa⟩ := hst z hz9
        exact vx_throwSW hx hb hnt hown e3 mj_rt_ok (hat _ List.mem_cons_self) (hat _ (List.mem_cons_of_mem _ List.mem_cons_self)) hsa (fun w hw => hat w (List.mem_cons_of_mem _ (List.mem_cons_of_mem _ hw))) e2 hU hN hSS (hsz.trans hml.symm) hd d3 hz4 d7 d10 (hout _) hfr hloc hc1 hs1 hlk (hXC _ rfl) hlo hc hs
      · cases hf
    · cases hf
  | _ => simp [mj_thr] at hf
end BODY
set_option maxHeartbeats 1000000 in
/-- a method's contract, out of a run of the mini machine -/
theorem mj_met {l : Launch} {f : Nat} (hf : mj_GoAt l Ln xs B b tys D OH f) (hnt : l.stackTraces = false) {j : Nat} (hj : plainName (mj_y j).cls = true) (hcls : (mj_y j).cls = mj_own (mj_o j)) {vs : List Value} {w w' : mj_W} {r : mj_R} (h : mj_run Ln xs f j 0 (mj_ent j vs) [] w = some (r, w')) (hcat : mj_cat vs ≤ mj_l j) :
    vx_Met l (mj_y j) (mj_ws j) (mj_rm j (w'.1.1 + w'.1.2.1 - (w.1.1 + w.1.2.1)) (w'.1.2.2 - w.1.2.2)) (mj_Pc Ln xs B b tys D OH vs w) (mj_Qc B b tys D OH r w') (mj_XC B b tys D OH r w') (w'.1.1 + w'.1.2.1 - (w.1.1 + w.1.2.1)) (w'.1.2.2 - w.1.2.2) (mj_free B) := by
  have hm := mj_mono _ _ _ _ _ _ _ _ h
  have key : ∀ (p : Program) (e : Env) (s : State) (m : MethodId) (args : Array Value) (below : List Frame) (meth : Method) (c : Code) (s₁ : State), BodyLoose p l (mj_y j) (headSpec (mj_ws j) (mj_rm j (w'.1.1 + w'.1.2.1 - (w.1.1 + w.1.2.1)) (w'.1.2.2 - w.1.2.2))) (mj_b j) (mj_l j) (mj_r j) e s m args below meth c s₁ → c.maxLocals = mj_l j → c.exceptionTable.toList = tableOf (mj_h j) → mj_Pc Ln xs B b tys D OH vs w args s →
      W p l e (mj_rm j (w'.1.1 + w'.1.2.1 - (w.1.1 + w.1.2.1)) (w'.1.2.2 - w.1.2.2)) s m args below meth c s.heap [] 0 0 (vx_MQ below (mj_Qc B b tys D OH r w') (mj_XC B b tys D OH r w') args s (w'.1.1 + w'.1.2.1 - (w.1.1 + w.1.2.1)) (w'.1.2.2 - w.1.2.2) (mj_free B)) (entryFrame m args (mj_l j)) := by
    intro p e s m args below meth c s₁ Bd hml htab hP
    obtain ⟨rfl, hS, hG⟩ := hP
    have hts0 := atoms_spec (ws := mj_ws j) Bd.pre
    have hown : s.vm.findClass (mj_own (mj_o j)) = some m.cls := by rw [← hcls]; exact findClass_of_methodNamed Bd.named
    have X : mj_X Ln xs B b tys D OH j p l s m (vs.map (mj_tv B b)).toArray meth c := ⟨Bd.exec, Bd.bytes, Bd.returns, hml, hown, fun w hw => hts0 w (List.mem_cons_of_mem _ hw), hG, Bd.notSynchronized, fun _ => htab, fun _ => (name_of_methodNamed Bd.named Bd.method).1, hnt, hS.2.1, hS.2.2.1⟩
    rw [lg_entry_eq]
    refine hf j 0 (mj_ent j vs) [] w w' r h p e _ s m _ below meth c s.heap [] 0 0 _ _ X (Nat.le_refl _) (Nat.le_refl _) hS (mj_lr.entry hcat) (Nat.le_refl _) (fun q hq => by cases hq) (by show 0 + _ ≤ (_ - _) + _; omega) (by show 0 + _ ≤ (_ - _) + _; omega) ?_ ?_
    · intro H1 ls1 locs1 c1 z1 pc1 S1 g1 v hr0 hS1 hz1 hlo1 hc1 hz1' hd1 hf1
      have ec : w'.1.1 + w'.1.2.1 - (w.1.1 + w.1.2.1) = c1 := by omega
      have ez : w'.1.2.2 - w.1.2.2 = z1 := by omega
      rw [ec, ez]
      exact mj_ends X hr0 hS1 hz1 hlo1 hd1 hf1
    · intro H1 ls1 locs1 c1 z1 pc1 S1 g1 E w1 hr0 hw1 hS1 hz1 hlo1 hc1 hz1' hsz1 hd1 hf1
      have hm1 : w'.1.1 + w'.1.2.1 = w1.1.1 + (w1.1.2.1 + 1) := by rw [hw1]
      have hm2 : w'.1.2.2 = w1.1.2.2 + 6 := by rw [hw1]
      exact mj_throws X (Nat.le_refl _) (Nat.le_refl _) hr0 hw1 hS1 hz1 hlo1 hsz1 hd1 hf1 (by show c1 + 1 ≤ _ - _; omega) (by show z1 + 6 ≤ _ - _; omega) (by omega) (by omega)
  by_cases hh : mj_h j = []
  · refine vx_ofW (cc := mj_b j) (maxL := mj_l j) (ret := mj_r j) (ws' := mj_GT) hj (by unfold mj_ws mj_cw; rw [if_pos hh]) ?_
    intro p e s m args below meth c s₁ Bd hml ht hP
    refine key p e s m args below meth c s₁ Bd hml ?_ hP
    rw [hh]
    exact List.eq_nil_iff_forall_not_mem.mpr fun x hx => ht x hx
  · refine vx_ofWH (cc := mj_b j) (maxL := mj_l j) (ret := mj_r j) (hh := mj_h j) (ws' := mj_GT) hj (by unfold mj_ws mj_cw; rw [if_neg hh]) ?_
    intro p e s m args below meth c s₁ Bd hml hP
    refine key p e s m args below meth c s₁ Bd hml ?_ hP
    refine vx_table (x := mj_y j) Bd (bytes := mj_b j) (maxL' := mj_l j) (ret' := mj_r j) ?_
    have := atoms_spec (ws := mj_ws j) Bd.pre (mj_cw j) List.mem_cons_self
    unfold mj_cw at this
    rw [if_neg hh] at this
    exact this
end MJG
