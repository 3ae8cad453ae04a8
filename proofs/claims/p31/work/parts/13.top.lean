/-! THE CLAIM OUT OF ONE WALK OF THE LAW'S BODY. Your part is whole_start (and what it stands on); all else here is the same for every law, but numbers. -/
def R_law : String := "PickedFormsLaw"
def lw_P (b : Addr) (xs : List Int32) (args : Array Value) (s : State) : Prop := args = #[.ref b] ∧ s.IntsAt b xs ∧ xs.length ≤ 260 ∧ (Jvm.Cond.and given_1 narrow_1).before args s = true
/-- what a walk over the start with the record d0 says of its end, said of the start itself -/
theorem lw_closed {s t : State} {o : Outcome} {d0 : Drawn} {L : List Loc} {k n : Nat} (hd0 : s.drawn.sameBut d0 lw_cs) (hv : ∃ v, o = .returned v) (hW : (s.setDrawn d0).WarmedH t.vm) (hs : (s.setDrawn d0).sameButNew ({ t with vm := s.vm } : State) L k n) : State.butDraws s t lw_cs (fun t1 => Framed s o t1 L k n) := by
  have h2 : t.drawn = d0 := congrArg State.drawn hs.1
  refine ⟨⟨hv, hW, State.sameButNew.setDrawn hs s.drawn⟩, ?_, by decide⟩
  rw [h2]
  exact hd0
def lw_Q (_ : Array Value) (s : State) (o : Outcome) (t : State) : Prop := o = .returned (some (.int 1)) ∧ State.butDraws s t lw_cs (fun t1 => Framed s o t1 [] 600130 7301080)
def lw_Z (below : List Frame) (a : Array Value) (s : State) : State → Prop := fun t => ∃ o, t.status = .running ∧ Ended t below o ∧ lw_Q a s o t
/-- the law's own end, with 1 on the stack, nothing written that was there before, its room as the claim has it; d0: the record of draws at this point (at the entry s.drawn: begin with 'refine W.base ?_' and 'have hd0 := Drawn.sameBut.refl s.drawn lw_cs') -/
theorem lw_ret {p : Program} {l : Launch} {e : Env} {s : State} {m : MethodId} {below : List Frame} {meth : Method} {c : Code} {b : Nat} {d0 : Drawn} (hd0 : s.drawn.sameBut d0 lw_cs) (hx : p.tables.exec = Jvm.exec) (hb : c.code = code) (hr : meth.sig.returnType = ret) (hlocks : meth.locks = false) {pc : Nat} {H : Heap} {ls : Array Slot} (hdg : decode code pc = .ok (.ireturn, 1)) : W p l e room_1 (s.setDrawn d0) m #[Value.ref b] below meth c H [] 600130 7301080 (lw_Z below #[Value.ref b] s) (F0 m pc ls [.int 1]) := by
  intro T hT X
  obtain ⟨fs, hret, hrun, hended, hW, hframe⟩ := X.leave (v := some (.int 1)) (hlocks := hlocks) (fun h => by rw [hr] at h; cases h)
  have hmeth' : T.vm.method? m = some meth := X.method'
  refine ⟨T.setFrames fs, ?_, .returned (some (.int 1)), hrun, hended, rfl, lw_closed hd0 ⟨_, rfl⟩ hW hframe⟩
  jvm_step X.here [X.here.top, hx, hb, hdg, hmeth', hr, ret, narrow_b1]
  (try refine ⟨rfl, ?_⟩); (try refine ⟨rfl, ?_⟩)
  first | (intro acts; rw [hret _ acts rfl rfl rfl]) | rw [hret _ _ rfl rfl rfl]
  exact Steps.refl _
/-- what holds at the law's entry: the machine, the code, the tables' words (any of lw_tbl by 'hts w (by decide +kernel)'), the script of L ints xs at the cell b, what the Statement gives of the start (any of its parts by flat_of_before) -/
def lw_At (p : Program) (s : State) (m : MethodId) (meth : Method) (c : Code) (b L : Nat) (xs : Nat → Int32) : Prop :=
  p.tables.exec = Jvm.exec ∧ c.code = code ∧ meth.sig.returnType = ret ∧ c.maxLocals = 5 ∧ s.vm.findClass R_law = some m.cls ∧ (∀ w ∈ lw_tbl, w.before #[Value.ref b] s = true) ∧ va_X b L xs s s.heap ∧ b < s.heap.size ∧ meth.locks = false ∧ (Jvm.Cond.and given_1 narrow_1).before #[Value.ref b] s = true
def mj_strp : List Nat := [351, 464, 477, 492, 538, 597, 609, 621, 674, 675, 710, 764, 780, 803, 820, 837, 845, 846, 862, 863, 872]
theorem mj_str_ok : ∀ q ∈ mj_str, Cond.stringRef (mj_own q.1) q.2.1 q.2.2 ∈ lw_tbl := by
  have h : (mj_str.zip mj_strp).all (fun z => decide (lw_tbl[z.2]? = some (Cond.stringRef (mj_own z.1.1) z.1.2.1 z.1.2.2))) = true := by decide +kernel
  intro q hq
  obtain ⟨p, hp⟩ := mj_zip h (by decide +kernel) hq
  exact List.mem_of_getElem? (of_decide_eq_true hp)
theorem mj_str_ex : ∀ q ∈ mj_str, Cond.exactly (.string (mj_own q.1) q.2.1) "java/lang/String" ∈ flatC (Jvm.Cond.and given_1 narrow_1) := by decide +kernel
theorem mj_inst : ∀ c, c < vwCl.length → Cond.instantiable (mj_cl c).1 (mj_cl c).2.2 ∈ lw_tbl := by decide +kernel
theorem mj_inl : ∀ c, c < vwCl.length → ∀ w ∈ u_ws (mj_cl c).1 (mj_cl c).2.1 (mj_cl c).2.2, w ∈ lw_tbl := fun c hc w hw => (List.mem_filter.mp ((mj_cl_ok c hc).2.2.2 w hw)).1
set_option maxRecDepth 100000 in
set_option maxHeartbeats 4000000 in
/-- from the law's entry, out of the mini machine's run of the law -/
theorem mj_start {p : Program} {e : Env} {s : State} {m : MethodId} {below : List Frame} {meth : Method} {c : Code} (l : Launch) (hflags : l.flags = flags0) {b L : Nat} {xs : Nat → Int32} (C0 : lw_At p s m meth c b L xs)
    (hlaw : ∃ (f : Nat) (w' : mj_W), mj_run L xs f 0 0 (mj_ent 0 [.ref 0]) [] ((0, 0, 0), fun _ => none) = some (.inl (some (.int 1)), w') ∧ w'.1.1 + w'.1.2.1 ≤ 600130 ∧ w'.1.2.2 ≤ 7301080) :
    W p l e room_1 s m #[Value.ref b] below meth c s.heap [] 0 0 (lw_Z below #[Value.ref b] s) (entryFrame m ([Value.ref b] : List Value).toArray 5) := by
  obtain ⟨hx, hb, hr, hml, hown, hts, hX, hbl, hlocks, hgv⟩ := C0
  obtain ⟨f, w', hrun, hwc, hwz⟩ := hlaw
  have hnt : l.stackTraces = false := by unfold Launch.stackTraces; rw [hflags]; decide +kernel
  have hfl := flat_of_before _ hgv
  have hnar : ∀ w ∈ flatC (Jvm.Cond.and given_1 narrow_1), w.before #[Value.ref b] s = true := hfl
  have hKn : ∀ k : Nat, ∃ x : ClassId × (Nat → Nat), k < vwCl.length → u_Kn s (mj_cl k).1 (mj_cl k).2.1 (mj_cl k).2.2 x.1 x.2 := by
    intro k
    by_cases hk : k < vwCl.length
    · obtain ⟨cC, iS, h⟩ := u_known hts (mj_inl k hk) (hts _ (mj_inst k hk))
      exact ⟨(cC, iS), fun _ => h⟩
    · exact ⟨(0, fun _ => 0), fun h => absurd h hk⟩
  obtain ⟨ad, had⟩ := Classical.axiomOfChoice hKn
  obtain ⟨cI, kI, pI, i1, i2, i3⟩ := Cond.arrayClass_spec (args := #[Value.ref b]) (first := s) (o := none) (s := s) (idx := []) (hts _ (List.mem_filter.mp mj_arr_ok.1).1)
  obtain ⟨pQ, cQ, kQ, q1, q2, q3, q4, q5⟩ := Cond.arrayOver_spec (args := #[Value.ref b]) (first := s) (o := none) (s := s) (idx := []) (hts _ (List.mem_filter.mp mj_arr_ok.2.2).1)
  have hK : va_K (fun k => (ad k).1, fun k => (ad k).2) vwCl [(cI, .int), (cI, .int), (cQ, .object (mj_cl mj_qc).1)] s := by
    refine ⟨fun k q hq => ?_, fun k q hq => ?_⟩
    · have hk : k < vwCl.length := (List.getElem?_eq_some_iff.mp hq).1
      have := Option.some.inj (hq.symm.trans (mj_cl_ok k hk).1)
      subst this
      exact had k hk
    · match k, hq with
      | 0, hq => cases hq; exact ⟨fun n z => ⟨(fun k h => by cases h), kI, i2, pI, i3⟩, i1⟩
      | 1, hq => cases hq; exact ⟨fun n z => ⟨(fun k h => by cases h), kI, i2, pI, i3⟩, i1⟩
      | 2, hq => cases hq; exact ⟨fun n z => ⟨(fun k h => by cases h), kQ, q3, pQ, q4⟩, kQ, pQ, q3, q4, q1, q5⟩
      | k + 3, hq => simp at hq
  have hA : ∀ a : Nat, a < s.heap.size → ¬ s.heap.size ≤ a := fun a h => Nat.not_le.mpr h
  have hU0 : vx_Zq Bundle.tN "UNASSIGNED_STACK" Bundle.steD (fun q => s.heap.size ≤ q) s s.heap := vx_Zqof (hts _ (by decide +kernel)) (hts _ (by decide +kernel)) (hnar _ (by decide +kernel)) hA
  have hN0 : vx_Zq Bundle.tN "SUPPRESSED_SENTINEL" Bundle.listD (fun q => s.heap.size ≤ q) s s.heap := vx_Zqof (hts _ (by decide +kernel)) (hts _ (by decide +kernel)) (hnar _ (by decide +kernel)) hA
  have hG : mj_G L xs s.heap.size b [(cI, .int), (cI, .int), (cQ, .object (mj_cl mj_qc).1)] (fun k => (ad k).1, fun k => (ad k).2) (fun q => s.heap[q]?) s := by
    refine ⟨hK, ⟨cI, cI, cQ, rfl⟩, hbl, fun H ho hz => hX.kept (ho b hbl), fun H ho hz => hU0.kept (fun a h1 _ => ho a h1), fun H ho hz => hN0.kept (fun a h1 _ => ho a h1), fun q hq => ?_, fun x y hx hy hn hz => absurd (show mj_hdl = [] from rfl) hz⟩
    obtain ⟨a, c9, cA, kA, g1, -⟩ := Cond.exactly_spec (args := #[Value.ref b]) (first := s) (o := none) (s := s) (idx := []) (hnar _ (mj_str_ex q hq))
    exact ⟨a, vk_R.of (A := #[Value.ref b]) (hts _ (mj_str_ok q hq)) (by first | exact g1 | simpa [Term.eval] using g1)⟩
  have X : mj_X L xs s.heap.size b [(cI, .int), (cI, .int), (cQ, .object (mj_cl mj_qc).1)] (fun k => (ad k).1, fun k => (ad k).2) (fun q => s.heap[q]?) 0 p l s m #[Value.ref b] meth c :=
    ⟨hx, hb, hr, hml, hown, fun w hw => hts w (List.mem_filter.mp hw).1, hG, hlocks, fun h => absurd rfl h, fun h => absurd rfl h, hnt, Nat.le_refl _, fun q _ => rfl⟩
  have hS : mj_Sim s.heap.size b [(cI, .int), (cI, .int), (cQ, .object (mj_cl mj_qc).1)] (fun k => (ad k).1, fun k => (ad k).2) (fun q => s.heap[q]?) ((0, 0, 0), fun _ => none) s.heap :=
    ⟨fun _ => rfl, Nat.le_refl _, fun q _ => rfl, fun k e9 h => by cases h⟩
  have hd0 := Drawn.sameBut.refl s.drawn lw_cs
  refine W.base ?_
  rw [lg_entry_eq]
  refine mj_go hnt f 0 0 (mj_ent 0 [.ref 0]) [] ((0, 0, 0), fun _ => none) w' _ hrun p e room_1 s m #[Value.ref b] below meth c s.heap [] 0 0 _ _ X (by decide +kernel) (by decide +kernel) hS (mj_lr.entry (j := 0) (vs := [.ref 0]) (by decide +kernel)) (Nat.le_refl _) (fun q hq => by cases hq) (by show 0 + _ ≤ 600130 + _; omega) (by show 0 + _ ≤ 7301080 + _; omega) ?_ ?_
  · intro H1 ls1 locs1 c1 z1 pc1 S1 g1 v hr0 hS1 hz1 hlo1 hc1 hz1' hd1 hf1
    cases hr0
    have hc9 : c1 ≤ 600130 := by have : c1 + (0 + 0) = 0 + (w'.1.1 + w'.1.2.1) := hc1; omega
    have hz9 : z1 ≤ 7301080 := by have : z1 + 0 = 0 + w'.1.2.2 := hz1'; omega
    refine va_forget hlo1 (W.widen hc9 hz9 ?_)
    cases g1 with
    | ireturn =>
      simp only [mj_fin] at hf1
      split at hf1
      · obtain ⟨-, hf1⟩ := mj_if_s hf1
        cases hf1
        exact lw_ret hd0 hx hb hr hlocks hd1
      · cases hf1
    | lreturn => simp only [mj_fin] at hf1; split at hf1 <;> cases hf1
    | freturn => simp only [mj_fin] at hf1; split at hf1 <;> cases hf1
    | dreturn => simp only [mj_fin] at hf1; split at hf1 <;> cases hf1
    | areturn => simp only [mj_fin] at hf1; split at hf1 <;> cases hf1
    | return_ => simp only [mj_fin] at hf1; split at hf1 <;> cases hf1
    | _ => simp [mj_fin] at hf1
  · intro H1 ls1 locs1 c1 z1 pc1 S1 g1 E w1 hr0
    cases hr0
