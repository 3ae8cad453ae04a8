section
/-! ===== BEGIN words of one list among another's, by their places ===== -/
theorem goodIn_r {big : List Cond} (ws : List Cond) (ps : List Nat) (hp : ws = ps.filterMap (fun i => big[i]?)) (h : ws.all goodWord = true) : GoodIn big ws := by
  intro w hw
  have h1 := List.all_eq_true.mp h w hw
  rw [hp] at hw
  obtain ⟨i, -, hi⟩ := List.mem_filterMap.mp hw
  have hm : w ∈ big := by first | exact List.mem_of_getElem? hi | exact List.getElem?_mem hi
  exact ⟨hm, good_of_word h1⟩
theorem goodIn_app {big a b : List Cond} (ha : GoodIn big a) (hb : GoodIn big b) : GoodIn big (a ++ b) := fun w h => (List.mem_append.mp h).elim (ha w) (hb w)
theorem goodIn_ca {big a b : List Cond} {c : Cond} (ha : GoodIn big (c :: a)) (hb : GoodIn big b) : GoodIn big (c :: (a ++ b)) := fun w h => (List.mem_cons.mp h).elim (fun e => ha w (List.mem_cons.mpr (Or.inl e))) (fun h => (List.mem_append.mp h).elim (fun h => ha w (List.mem_cons.mpr (Or.inr h))) (hb w))
theorem goodIn_sub {big ws : List Cond} (hm : ∀ w ∈ ws, w ∈ big) (h : ws.all goodWord = true) : GoodIn big ws := fun w hw => ⟨hm w hw, good_of_word (List.all_eq_true.mp h w hw)⟩
/-! ===== END ===== -/

/-! ===== BEGIN exceptions that leave a method, and their catching by the caller (launches without stack traces) ===== -/
section VXA
/-! The laws vx_back, vx_callV, vx_callS, vx_callSW, vx_throw0, vx_throwS follow proofs of the library, with one case more: JvmDerived/Free/Laws.lean (Back.of_free), Shelf42/LK1.lean (callV, callS), Shelf/KitTraced.lean (throwNew0V, throwNewS). -/
/-- where a method has thrown q: the class by its name, the cell, what was written, the world -/
def vx_T (XC : String → State → State → Prop) (st : State) (q : Addr) (t : State) (mc ms : Nat) (free : Addr → Prop) : Prop :=
  ∃ (E : String) (ce : Cell) (L : List Loc), XC E st t ∧ t.heap[q]? = some ce ∧ ce.vm = .none ∧ st.vm.findClass E = some ce.cls ∧ st.WarmedH t.vm ∧ st.sameButNew ({ t with vm := st.vm } : State) L mc ms ∧ ∀ z ∈ L, free z.base
def vx_Q (Qc : Array Value → State → Outcome → State → Prop) (XC : String → State → State → Prop) (mc ms : Nat) (free : Addr → Prop) : Array Value → State → Outcome → State → Prop := fun a st o t =>
  (Qc a st o t ∧ ∃ L, FrameEnd st o t L mc ms ∧ ∀ q ∈ L, free q.base) ∨ ∃ q, o = .threw q ∧ vx_T XC st q t mc ms free
/-- a callee that returns or throws -/
def vx_Met (l : Launch) (y : MethodName) (ws : List Cond) (rm : Room) (Pc : Array Value → State → Prop) (Qc : Array Value → State → Outcome → State → Prop) (XC : String → State → State → Prop) (mc ms : Nat) (free : Addr → Prop) : Prop :=
  MetFree l y (headSpec ws rm) Pc (fun _ _ _ _ _ => True) (vx_Q Qc XC mc ms free)
def vx_Post (XC : String → State → State → Prop) (mc ms : Nat) (free : Addr → Prop) : Pt → Array Value → Addr → Pt → Prop := fun A a q B =>
  ∃ (g : JFrame) (mk : MethodId) (t : State) (L : List Loc) (E : String) (ce : Cell), B.U.heap = t.heap ∧ B.U.vm = t.vm ∧ XC E (A.U.calling g mk a) t ∧ t.heap[q]? = some ce ∧ ce.vm = .none ∧ A.U.vm.findClass E = some ce.cls ∧ B.locs = A.locs ++ L ∧ (∀ z ∈ L, free z.base) ∧ B.cells = A.cells + mc ∧ B.slots = A.slots + ms
def vx_Back (l : Launch) (R : Room) (p : Program) (e : Env) (below : List Frame) (s : State) (sargs : Array Value) (y : MethodName) (len W9 : Nat)
    (Pre : Pt → Array Value → Prop) (Post : Pt → Array Value → Option Value → Pt → Prop) (PostX : Pt → Array Value → Addr → Pt → Prop) : Prop :=
  ∀ (m : MethodId) (meth : Method) (c : Code) (A : Pt) (g : JFrame) (ig : Instr) (mk : MethodId) (a : Array Value),
    Stand p l e R s m sargs below meth c A.U A.locs A.cells A.slots → g.method = m → g.locals.size = c.maxLocals → decode c.code g.pc = .ok (ig, len) →
    2 * g.monitorRoom + (g.stack.map fun v => v.category).sum ≤ W9 → A.U.methodNamed? y = some mk → Pre A a →
    (∃ (v : Option Value) (B : Pt), Stand p l e R s m sargs below meth c B.U B.locs B.cells B.slots ∧ Post A a v B ∧
      Steps p.tables e below (doInvoke e (A.U.setTop g) [] mk a).1 (B.U.setTop { g with pc := g.pc + len, stack := v.toList ++ g.stack })) ∨
    (∃ (q : Addr) (B : Pt), Stand p l e R s m sargs below meth c B.U B.locs B.cells B.slots ∧ PostX A a q B ∧
      Steps p.tables e below (doInvoke e (A.U.setTop g) [] mk a).1 ((B.U.setTop g).pushFrame (.throwing q)))
section Payer
variable {l : Launch} {R : Room} {p : Program} {e : Env} {below : List Frame} {s : State} {sargs : Array Value} {y : MethodName} {len W9 : Nat}
theorem vx_back {ws : List Cond} {rm : Room} {Pc : Array Value → State → Prop} {Qc : Array Value → State → Outcome → State → Prop} {XC : String → State → State → Prop} {mc ms : Nat} {free : Addr → Prop} {bytes : ByteArray} {maxL : Nat} {ret : Option FieldType}
    (hM : vx_Met l y ws rm Pc Qc XC mc ms free) (hblind : FrameBlind Pc) (hrc : rm.cells = mc) (hrs : rm.slots = ms)
    (hframes : rm.frames + 1 ≤ R.frames) (hlocals : W9 + (maxL + 11) + rm.locals ≤ R.locals)
    (hws : ∀ w ∈ ws, ∀ a' U, s.WarmedH U.vm → w.before a' U = true) (hcode : Cond.code y bytes maxL ret ∈ ws) (hinit : ∀ a' U, s.WarmedH U.vm → (Cond.initialized y.cls).before a' U = true) :
    vx_Back l R p e below s sargs y len W9 (PreOf R mc ms Pc) (PostOf Qc mc ms free) (vx_Post XC mc ms free) := by
  intro m meth c A g ig mk a X hg hsize hdg hW hn hp
  have h1 : (headSpec ws rm).pre.before a A.U = true := atoms_intro fun w hw => hws w hw _ _ X.warmed
  have h2 : (Cond.code y bytes maxL ret).before a A.U = true := hws _ hcode _ _ X.warmed
  have h3 : (Cond.initialized y.cls).before a A.U = true := hinit _ _ X.warmed
  have h4 : A.cells + (headSpec ws rm).room.cells ≤ R.cells := by rw [show (headSpec ws rm).room.cells = mc from hrc]; exact hp.1
  have h5 : A.slots + (headSpec ws rm).room.slots ≤ R.slots := by rw [show (headSpec ws rm).room.slots = ms from hrs]; exact hp.2.1
  have hPc : Pc a (A.U.calling g mk a) := hblind _ _ _ _ hp.2.2
  obtain ⟨U, Ls, c0, s0⟩ := A
  dsimp only [Pt.U, Pt.locs, Pt.cells, Pt.slots] at h1 h2 h3 h4 h5 X hn hPc ⊢
  obtain ⟨methY, cY, hmY, hcY, -, hlY, -, -, -, -⟩ := Cond.code_spec hn h2
  obtain ⟨kY, hkY, -⟩ := className_of_methodNamed hn
  have hinitY : kY.init = .initialized := Cond.initialized_spec (findClass_of_methodNamed hn) hkY h3
  have h : At U g.method c below := by rw [hg]; exact X.here
  have hlocals9 : W9 + (maxL + 11) + (headSpec ws rm).room.locals ≤ R.locals := hlocals
  have happ : (headSpec ws rm).appliesLoose y e.platform (U.calling g mk a) = true :=
    Spec.appliesLoose_calling (g := g) h hdg hn hkY hinitY
      (X.room_calling (g := g) (R' := (headSpec ws rm).room) hsize hmY hcY hframes (by rw [hlY]; omega) h4 h5) h1
  obtain ⟨mid, hmid⟩ := h.above
  have hfr : (U.setTop g).frames = (.java g :: mid) ++ below := by rw [State.frames_setTop' g h.top, hmid]; rfl
  obtain ⟨o, s₂, hsteps, -, hend, hq⟩ := Steps.callFree hM p X.admits X.cas X.clock (acts := []) hfr happ hPc trivial
  have hq' : vx_Q Qc XC mc ms free a (U.calling g mk a) o s₂ := hq
  rw [State.frames_setTop' g h.top] at hend
  obtain ⟨g₀, hg0⟩ := Option.isSome_iff_exists.mp h.top
  obtain ⟨r, hr⟩ := State.topJava?_eq_some.mp hg0
  have hr' : (({ U with heap := s₂.heap, slotsUsed := s₂.slotsUsed } : State).setVm s₂.vm).frames = .java g₀ :: r := hr
  rcases hq' with ⟨hqc, L, hfe, hL⟩ | ⟨q, rfl, E, ce, L, hx, hce, hcv, hcl, hW₂, hsm, hL⟩
  · obtain ⟨⟨v, rfl⟩, hW₂, e2, q2, q3, q4, q5, q6⟩ := id hfe
    have e3 : s₂ = ({ (U.calling g mk a).setFrames s₂.frames with heap := s₂.heap, slotsUsed := s₂.slotsUsed } : State).setVm s₂.vm := by
      have : s₂ = ({ s₂ with vm := (U.calling g mk a).vm } : State).setVm s₂.vm := rfl
      rw [e2] at this
      exact this
    obtain ⟨c₂, i₂, len₂, hc₂, hd₂, hf₂⟩ := hend
    have hW' : U.WarmedH s₂.vm := hW₂
    have hcc : c₂ = c := by
      have h1 : s₂.code? g.method = U.code? g.method := by
        rw [State.code?_eq, State.code?_eq, hW'.alike.method?]
      exact Option.some.inj (hc₂.symm.trans (h1.trans h.code))
    subst hcc
    have hlen : len₂ = len := by rw [hdg] at hd₂; cases hd₂; rfl
    subst hlen
    have hs₂ : s₂ = (({ U with heap := s₂.heap, slotsUsed := s₂.slotsUsed } : State).setVm s₂.vm).setTop { g with pc := g.pc + len₂, stack := v.toList ++ g.stack } := by
      refine e3.trans ?_
      rw [hf₂, State.calling_eq h.top, State.setFrames_setFrames, State.setTop_of_frames _ hr', hr]
      rfl
    have hsame : U.sameButNew ({ U with heap := s₂.heap, slotsUsed := s₂.slotsUsed } : State) L mc ms := by
      refine ⟨?_, q2, q3, q4, q5, q6⟩
      obtain ⟨t, ht, -⟩ := State.frames_cons hr
      show ({ U with heap := s₂.heap, slotsUsed := s₂.slotsUsed } : State) = { U.setFrames U.frames with heap := s₂.heap, slotsUsed := s₂.slotsUsed }
      rw [State.setFrames_self ht]
    subst hg
    refine Or.inl ⟨v, ⟨(({ U with heap := s₂.heap, slotsUsed := s₂.slotsUsed } : State).setVm s₂.vm), Ls ++ L, c0 + mc, s0 + ms⟩,
      ⟨X.admits, X.cas, X.clock, X.frames, X.room, X.hears, X.method, X.code, (X.here.setHeapUsed s₂.heap s₂.slotsUsed).setVm hW'.alike, X.tail, State.WarmedH.trans X.warmed hW', X.limits, X.bytes, X.same.trans (hsame.setVm s.vm)⟩,
      ⟨g, mk, s₂, L, rfl, rfl, hqc, rfl, hL, rfl, rfl⟩, ?_⟩
    show Steps p.tables e below _ ((({ U with heap := s₂.heap, slotsUsed := s₂.slotsUsed } : State).setVm s₂.vm).setTop { g with pc := g.pc + len₂, stack := v.toList ++ g.stack })
    rw [← hs₂]
    exact hsteps
  · obtain ⟨e2, q2, q3, q4, q5, q6⟩ := id hsm
    have e3 : s₂ = ({ (U.calling g mk a).setFrames s₂.frames with heap := s₂.heap, slotsUsed := s₂.slotsUsed } : State).setVm s₂.vm := by
      have : s₂ = ({ s₂ with vm := (U.calling g mk a).vm } : State).setVm s₂.vm := rfl
      rw [e2] at this
      exact this
    have hf₂ : s₂.frames = .throwing q :: .java g :: U.frames.tail := hend
    have hW' : U.WarmedH s₂.vm := hW₂
    have hs₂ : s₂ = ((({ U with heap := s₂.heap, slotsUsed := s₂.slotsUsed } : State).setVm s₂.vm).setTop g).pushFrame (.throwing q) := by
      refine e3.trans ?_
      rw [hf₂, State.calling_eq h.top, State.setFrames_setFrames, State.pushFrame, State.frames_setTop _ hr', State.setTop_of_frames _ hr', State.setFrames_setFrames, hr]
      rfl
    have hsame : U.sameButNew ({ U with heap := s₂.heap, slotsUsed := s₂.slotsUsed } : State) L mc ms := by
      refine ⟨?_, q2, q3, q4, q5, q6⟩
      obtain ⟨t, ht, -⟩ := State.frames_cons hr
      show ({ U with heap := s₂.heap, slotsUsed := s₂.slotsUsed } : State) = { U.setFrames U.frames with heap := s₂.heap, slotsUsed := s₂.slotsUsed }
      rw [State.setFrames_self ht]
    subst hg
    refine Or.inr ⟨q, ⟨(({ U with heap := s₂.heap, slotsUsed := s₂.slotsUsed } : State).setVm s₂.vm), Ls ++ L, c0 + mc, s0 + ms⟩,
      ⟨X.admits, X.cas, X.clock, X.frames, X.room, X.hears, X.method, X.code, (X.here.setHeapUsed s₂.heap s₂.slotsUsed).setVm hW'.alike, X.tail, State.WarmedH.trans X.warmed hW', X.limits, X.bytes, X.same.trans (hsame.setVm s.vm)⟩,
      ⟨g, mk, s₂, L, E, ce, rfl, rfl, hx, hce, hcv, hcl, rfl, hL, rfl, rfl⟩, ?_⟩
    show Steps p.tables e below _ (((({ U with heap := s₂.heap, slotsUsed := s₂.slotsUsed } : State).setVm s₂.vm).setTop g).pushFrame (.throwing q))
    rw [← hs₂]
    exact hsteps
end Payer
section Calls
variable {p : Program} {l : Launch} {e : Env} {R : Room} {s : State} {m : MethodId} {args : Array Value} {below : List Frame} {meth : Method} {c : Code} {T : State} {locs : List Loc} {cells slots : Nat}
theorem vx_callV (X : Stand p l e R s m args below meth c T locs cells slots) (hexec : p.tables.exec = Jvm.exec) {own C : String} {index : Nat} {y : MethodName} {bytes : ByteArray} {maxL : Nat} {ret : Option FieldType}
    (hown : s.vm.findClass own = some m.cls) (hlink : (Cond.methodLink own index y).before args s = true) (hinst : (Cond.instanceMethod y).before args s = true) (hsel : (Cond.selects C y y).before args s = true)
    (hcode : (Cond.code y bytes maxL ret).before args s = true) (hy : y.cls ≠ "java/lang/invoke/MethodHandle" ∧ y.cls ≠ "java/lang/invoke/VarHandle")
    {W9 : Nat} {Pre : Pt → Array Value → Prop} {Post : Pt → Array Value → Option Value → Pt → Prop} {PostX : Pt → Array Value → Addr → Pt → Prop} (hK : vx_Back l R p e below s args y 3 W9 Pre Post PostX)
    {b : Addr} {cellB : Cell} (hcell : T.heap[b]? = some cellB) (hobj : cellB.vm.isStatics = false) (hcls : s.vm.findClass C = some cellB.cls)
    {g : JFrame} (hg : g.method = m) (hsize : g.locals.size = c.maxLocals) {argsL rest : List Value} (hlen : ∀ sig, parseMethodDescriptor y.desc = some sig → argsL.length = sig.parameters.length)
    (hstack : g.stack = argsL.reverse ++ .ref b :: rest) (hW : 2 * g.monitorRoom + (rest.map fun v => v.category).sum ≤ W9) (hdg : decode c.code g.pc = .ok (.invokevirtual index, 3))
    (hpre : ∀ vm₁, s.WarmedH vm₁ → Pre ⟨T.setVm vm₁, locs, cells, slots⟩ (Value.ref b :: argsL).toArray) :
    (∃ (v : Option Value) (vm₁ : Vm) (B : Pt), s.WarmedH vm₁ ∧ Stand p l e R s m args below meth c B.U B.locs B.cells B.slots ∧ Post ⟨T.setVm vm₁, locs, cells, slots⟩ (Value.ref b :: argsL).toArray v B ∧
      ∀ target, Steps p.tables e below (B.U.setTop { g with pc := g.pc + 3, stack := v.toList ++ rest }) target → Steps p.tables e below (T.setTop g) target) ∨
    (∃ (q : Addr) (vm₁ : Vm) (B : Pt), s.WarmedH vm₁ ∧ Stand p l e R s m args below meth c B.U B.locs B.cells B.slots ∧ PostX ⟨T.setVm vm₁, locs, cells, slots⟩ (Value.ref b :: argsL).toArray q B ∧
      Steps p.tables e below (T.setTop g) ((B.U.setTop { g with stack := rest }).pushFrame (.throwing q))) := by
  obtain ⟨mk, methM, hnamed, hmethM, hstM, habM⟩ := Cond.instanceMethod_spec hinst
  obtain ⟨methM', cM, hmethM', -, -, -, -, -, -, hsigM⟩ := Cond.code_spec hnamed hcode
  cases hmethM.symm.trans hmethM'
  obtain ⟨c2, r2, m2, q1, q2, q3, q4, kP, hkP, hkPi⟩ := Cond.selects_spec hsel
  cases hcls.symm.trans q1
  cases (State.methodFound?_of_named hnamed hy).symm.trans q2
  cases hnamed.symm.trans q3
  have hselP : selectMethod e.platform s.vm cellB.cls mk = .method mk := by rw [Launch.admits_selectMethod X.admits]; exact q4
  obtain ⟨vm₁, X₁, hstep₁⟩ := X.invokevirtual hexec hown hlink hnamed hmethM hstM hkP hkPi hy (a := b) (cell := cellB) hcell
    (fun z h => by rw [h] at hobj; cases hobj) hselP hmethM habM hkP hkPi (g := g) hg (argsL := argsL) (rest := rest) (hlen _ hsigM) hstack hdg
  rcases hK m meth c ⟨T.setVm vm₁, locs, cells, slots⟩ { g with stack := rest } (.invokevirtual index) mk (Value.ref b :: argsL).toArray X₁ hg hsize hdg hW (X₁.named hnamed) (hpre vm₁ X₁.warmed) with ⟨v, B, X', hpost, hsteps⟩ | ⟨q, B, X', hpost, hsteps⟩
  · exact Or.inl ⟨v, vm₁, B, X₁.warmed, X', hpost, fun target h => hstep₁ _ fun acts => by rw [doInvoke_state]; exact hsteps.trans h⟩
  · exact Or.inr ⟨q, vm₁, B, X₁.warmed, X', hpost, hstep₁ _ fun acts => by rw [doInvoke_state]; exact hsteps⟩
theorem vx_callS (X : Stand p l e R s m args below meth c T locs cells slots) (hexec : p.tables.exec = Jvm.exec) {own : String} {index : Nat} {y : MethodName} {bytes : ByteArray} {maxL : Nat} {ret : Option FieldType}
    (hown : s.vm.findClass own = some m.cls) (hlink : (Cond.methodLink own index y).before args s = true) (hstat : (Cond.static y).before args s = true) (hinit : (Cond.initialized y.cls).before args s = true)
    (hcode : (Cond.code y bytes maxL ret).before args s = true) (hy : y.cls ≠ "java/lang/invoke/MethodHandle" ∧ y.cls ≠ "java/lang/invoke/VarHandle")
    {W9 : Nat} {Pre : Pt → Array Value → Prop} {Post : Pt → Array Value → Option Value → Pt → Prop} {PostX : Pt → Array Value → Addr → Pt → Prop} (hK : vx_Back l R p e below s args y 3 W9 Pre Post PostX)
    {g : JFrame} (hg : g.method = m) (hsize : g.locals.size = c.maxLocals) {argsL rest : List Value} (hlen : ∀ sig, parseMethodDescriptor y.desc = some sig → argsL.length = sig.parameters.length)
    (hstack : g.stack = argsL.reverse ++ rest) (hW : 2 * g.monitorRoom + (rest.map fun v => v.category).sum ≤ W9) (hdg : decode c.code g.pc = .ok (.invokestatic index, 3))
    (hpre : ∀ vm₁, s.WarmedH vm₁ → Pre ⟨T.setVm vm₁, locs, cells, slots⟩ argsL.toArray) :
    (∃ (v : Option Value) (vm₁ : Vm) (B : Pt), s.WarmedH vm₁ ∧ Stand p l e R s m args below meth c B.U B.locs B.cells B.slots ∧ Post ⟨T.setVm vm₁, locs, cells, slots⟩ argsL.toArray v B ∧
      ∀ target, Steps p.tables e below (B.U.setTop { g with pc := g.pc + 3, stack := v.toList ++ rest }) target → Steps p.tables e below (T.setTop g) target) ∨
    (∃ (q : Addr) (vm₁ : Vm) (B : Pt), s.WarmedH vm₁ ∧ Stand p l e R s m args below meth c B.U B.locs B.cells B.slots ∧ PostX ⟨T.setVm vm₁, locs, cells, slots⟩ argsL.toArray q B ∧
      Steps p.tables e below (T.setTop g) ((B.U.setTop { g with stack := rest }).pushFrame (.throwing q))) := by
  obtain ⟨mk, hnamed⟩ := Cond.code_named hcode
  obtain ⟨methM, cM, hmethM, -, -, -, -, -, -, hsigM⟩ := Cond.code_spec hnamed hcode
  have hstatic : methM.isStatic = true := Cond.static_spec hnamed hmethM hstat
  obtain ⟨kP, hkP, -⟩ := className_of_methodNamed hnamed
  have hinitP : kP.init = .initialized := Cond.initialized_spec (findClass_of_methodNamed hnamed) hkP hinit
  obtain ⟨vm₁, X₁, hstep₁⟩ := X.invokestatic hexec hown hlink hnamed hmethM hstatic hkP hinitP hy (g := g) hg (argsL := argsL) (rest := rest) (hlen _ hsigM) hstack hdg
  rcases hK m meth c ⟨T.setVm vm₁, locs, cells, slots⟩ { g with stack := rest } (.invokestatic index) mk argsL.toArray X₁ hg hsize hdg hW (X₁.named hnamed) (hpre vm₁ X₁.warmed) with ⟨v, B, X', hpost, hsteps⟩ | ⟨q, B, X', hpost, hsteps⟩
  · exact Or.inl ⟨v, vm₁, B, X₁.warmed, X', hpost, fun target h => hstep₁ _ fun acts => by rw [doInvoke_state]; exact hsteps.trans h⟩
  · exact Or.inr ⟨q, vm₁, B, X₁.warmed, X', hpost, hstep₁ _ fun acts => by rw [doInvoke_state]; exact hsteps⟩
end Calls
theorem vx_cls {s : State} {T : State} {vm₁ : Vm} {E : String} {k : ClassId} (hW : s.WarmedH vm₁) (h : (T.setVm vm₁).vm.findClass E = some k) : s.vm.findClass E = some k := by
  have h1 : vm₁.findClass E = some k := h
  rw [hW.alike.findClass] at h1
  exact h1
/-- the method's frame g, with q thrown over it -/
def vx_W (p : Program) (l : Launch) (e : Env) (R : Room) (s : State) (m : MethodId) (args : Array Value) (below : List Frame) (meth : Method) (c : Code) (H : Heap) (locs : List Loc) (cells slots : Nat) (Q : State → Prop) (g : JFrame) (q : Addr) : Prop :=
  ∀ T : State, T.heap = H → Stand p l e R s m args below meth c T locs cells slots → ∃ t, Steps p.tables e below ((T.setTop g).pushFrame (.throwing q)) t ∧ Q t
def vx_Run (p : Program) (l : Launch) (e : Env) (R : Room) (s : State) (m : MethodId) (args : Array Value) (below : List Frame) (meth : Method) (c : Code) (H : Heap) (locs : List Loc) (cells slots mc ms : Nat) (g : JFrame) (rest : List Value) (Qa : State → Outcome → State → Prop) (XC : String → State → State → Prop) (free : Addr → Prop) : Prop :=
  ∀ T : State, T.heap = H → Stand p l e R s m args below meth c T locs cells slots →
    (∃ (v : Option Value) (st₀ t T' : State) (L : List Loc), st₀.heap = H ∧ Stand p l e R s m args below meth c T' (locs ++ L) (cells + mc) (slots + ms) ∧ (∀ q ∈ L, free q.base) ∧ T'.heap = t.heap ∧ T'.vm = t.vm ∧ Qa st₀ (.returned v) t ∧
      Goes p e below T g T' { g with pc := g.pc + 3, stack := v.toList ++ rest }) ∨
    (∃ (q : Addr) (st₀ t T' : State) (L : List Loc) (E : String) (ce : Cell), st₀.heap = H ∧ Stand p l e R s m args below meth c T' (locs ++ L) (cells + mc) (slots + ms) ∧ (∀ z ∈ L, free z.base) ∧ T'.heap = t.heap ∧ T'.vm = t.vm ∧ XC E st₀ t ∧ t.heap[q]? = some ce ∧ ce.vm = .none ∧ s.vm.findClass E = some ce.cls ∧
      Steps p.tables e below (T.setTop g) ((T'.setTop { g with stack := rest }).pushFrame (.throwing q)))
def vx_X {S : Type} (px : S → Prop) (B : String → S → State → Prop) (A : Nat → Prop) : String → State → State → Prop := fun E st t => ∃ u : S, px u ∧ B E u t ∧ va_F A st t
section Runs
variable {p : Program} {l : Launch} {e : Env} {R : Room} {s : State} {m : MethodId} {args : Array Value} {below : List Frame} {meth : Method} {c : Code} {H : Heap} {locs : List Loc} {cells slots : Nat}
variable {y : MethodName} {bytes cc : ByteArray} {maxL nL mc ms n index : Nat} {ret : Option FieldType} {ws : List Cond} {rm : Room} {Pc : Array Value → State → Prop} {Qc : Array Value → State → Outcome → State → Prop} {XC : String → State → State → Prop} {free : Addr → Prop} {Ts : List Cond} {own C : String} {b : Addr} {As rest : List Value} {g : JFrame}
theorem vx_callBack (cb : CallB R s args own index y bytes maxL ret ws rm mc ms n) (hM : vx_Met l y ws rm Pc Qc XC mc ms free) (hbl : FrameBlind Pc) : vx_Back l R p e below s args y 3 8 (PreOf R mc ms Pc) (PostOf Qc mc ms free) (vx_Post XC mc ms free) := by
  obtain ⟨hrc, hrs, hfr, hlo, hws, hcw, -, hini, -⟩ := cb
  exact vx_back (bytes := bytes) (maxL := maxL) (ret := ret) hM hbl hrc hrs hfr hlo hws hcw (fun a' U hW => word_at hW (Or.inl (by first | rfl | simp [Cond.onTables, Cond.keeps, Cond.steady])) hini)
theorem vx_runV (S : CallFix p m c cc nL s args Ts own) (hM : vx_Met l y ws rm Pc Qc XC mc ms free) (cw : CallW R s args own C index y bytes maxL ret ws rm mc ms n) (hp : PreV s H C b Pc As)
    (hg : g.method = m) (hn : As.length = n) (hsize : g.locals.size = nL) (hstack : g.stack = As.reverse ++ .ref b :: rest) (hW : 2 * g.monitorRoom + (rest.map fun v => v.category).sum ≤ 8) (hdg : decode cc g.pc = .ok (.invokevirtual index, 3)) (hf : cells + mc ≤ R.cells ∧ slots + ms ≤ R.slots) :
    vx_Run p l e R s m args below meth c H locs cells slots mc ms g rest (Qc (Value.ref b :: As).toArray) XC free := by
  have hK : vx_Back l R p e below s args y 3 8 (PreOf R mc ms Pc) (PostOf Qc mc ms free) (vx_Post XC mc ms free) := vx_callBack cw.1 hM hp.1
  obtain ⟨⟨-, -, -, -, -, -, hcode, -, hy, hlen, hl⟩, hin, hse⟩ := cw
  obtain ⟨hx, hb, hml, ho, -⟩ := S
  obtain ⟨-, ⟨cellB, hcB, hoB, hclB⟩, hPc⟩ := hp
  intro T hT X
  rcases vx_callV X hx (C := C) (bytes := bytes) (maxL := maxL) (ret := ret) ho hl hin hse hcode hy hK (by rw [hT]; exact hcB) hoB hclB hg (hsize.trans hml.symm) (argsL := As) (rest := rest) (fun sig h => hn.trans (hlen sig h)) hstack hW (by rw [hb]; exact hdg)
    (fun vm₁ hW₁ => ⟨hf.1, hf.2, hPc (T.setVm vm₁) hT hW₁⟩) with ⟨v, vm₁, ⟨U', l2, c2, s2⟩, hW₁, X', ⟨g', mk, t, L, e1, e2, hq, h1, hL, h2, h3⟩, st⟩ | ⟨q, vm₁, ⟨U', l2, c2, s2⟩, hW₁, X', ⟨g', mk, t, L, E, ce, e1, e2, hq, hce, hcv, hcl, h1, hL, h2, h3⟩, st⟩
  · dsimp only [Pt.U, Pt.locs, Pt.cells, Pt.slots] at X' e1 e2 h1 h2 h3 st
    subst h1; subst h2; subst h3
    exact Or.inl ⟨v, (T.setVm vm₁).calling g' mk (Value.ref b :: As).toArray, t, U', L, hT, X', hL, e1, e2, hq, st⟩
  · dsimp only [Pt.U, Pt.locs, Pt.cells, Pt.slots] at X' e1 e2 h1 h2 h3 st hcl
    subst h1; subst h2; subst h3
    exact Or.inr ⟨q, (T.setVm vm₁).calling g' mk (Value.ref b :: As).toArray, t, U', L, E, ce, hT, X', hL, e1, e2, hq, hce, hcv, vx_cls hW₁ hcl, st⟩
theorem vx_runS (S : CallFix p m c cc nL s args Ts own) (hM : vx_Met l y ws rm Pc Qc XC mc ms free) (cw : CallB R s args own index y bytes maxL ret ws rm mc ms n ∧ (Cond.static y).before args s = true) (hp : PreS s H Pc As)
    (hg : g.method = m) (hn : As.length = n) (hsize : g.locals.size = nL) (hstack : g.stack = As.reverse ++ rest) (hW : 2 * g.monitorRoom + (rest.map fun v => v.category).sum ≤ 8) (hdg : decode cc g.pc = .ok (.invokestatic index, 3)) (hf : cells + mc ≤ R.cells ∧ slots + ms ≤ R.slots) :
    vx_Run p l e R s m args below meth c H locs cells slots mc ms g rest (Qc As.toArray) XC free := by
  have hK : vx_Back l R p e below s args y 3 8 (PreOf R mc ms Pc) (PostOf Qc mc ms free) (vx_Post XC mc ms free) := vx_callBack cw.1 hM hp.1
  obtain ⟨⟨-, -, -, -, -, -, hcode, hini, hy, hlen, hl⟩, hstt⟩ := cw
  obtain ⟨hx, hb, hml, ho, -⟩ := S
  intro T hT X
  rcases vx_callS X hx (bytes := bytes) (maxL := maxL) (ret := ret) ho hl hstt hini hcode hy hK hg (hsize.trans hml.symm) (argsL := As) (rest := rest) (fun sig h => hn.trans (hlen sig h)) hstack hW (by rw [hb]; exact hdg)
    (fun vm₁ hW₁ => ⟨hf.1, hf.2, hp.2 (T.setVm vm₁) hT hW₁⟩) with ⟨v, vm₁, ⟨U', l2, c2, s2⟩, hW₁, X', ⟨g', mk, t, L, e1, e2, hq, h1, hL, h2, h3⟩, st⟩ | ⟨q, vm₁, ⟨U', l2, c2, s2⟩, hW₁, X', ⟨g', mk, t, L, E, ce, e1, e2, hq, hce, hcv, hcl, h1, hL, h2, h3⟩, st⟩
  · dsimp only [Pt.U, Pt.locs, Pt.cells, Pt.slots] at X' e1 e2 h1 h2 h3 st
    subst h1; subst h2; subst h3
    exact Or.inl ⟨v, (T.setVm vm₁).calling g' mk As.toArray, t, U', L, hT, X', hL, e1, e2, hq, st⟩
  · dsimp only [Pt.U, Pt.locs, Pt.cells, Pt.slots] at X' e1 e2 h1 h2 h3 st hcl
    subst h1; subst h2; subst h3
    exact Or.inr ⟨q, (T.setVm vm₁).calling g' mk As.toArray, t, U', L, E, ce, hT, X', hL, e1, e2, hq, hce, hcv, vx_cls hW₁ hcl, st⟩
end Runs
section Rows
variable {p : Program} {l : Launch} {e : Env} {R : Room} {s : State} {m : MethodId} {args : Array Value} {below : List Frame} {meth : Method} {c : Code} {H : Heap} {locs : List Loc} {cells slots : Nat} {Q : State → Prop}
variable {mc ms : Nat} {free : Addr → Prop} {A0 A1 : Nat → Prop} {H0 : Heap} {a : Array Value} {pc : Nat} {ls : Array Slot} {st0 rest : List Value}
theorem vx_keep {st₀ t T' : State} {L : List Loc} (h0 : st₀.heap = H) (e1 : T'.heap = t.heap) (hS : va_S A0 H0 H locs) (hA : ∀ q, q < H.size → A1 q → A0 q) (hf : ∀ q, free q → A0 q) (hL : ∀ q ∈ L, free q.base) (hF : va_F A1 st₀ t) :
    H.size ≤ T'.heap.size ∧ (∀ q : Nat, q < H.size → ¬ A1 q → T'.heap[q]? = H[q]?) ∧ va_S A0 H0 T'.heap (locs ++ L) := by
  obtain ⟨hz, hk⟩ := hF
  rw [h0] at hz hk
  exact ⟨by rw [e1]; exact hz, fun q h1 h2 => by rw [e1]; exact hk q h1 h2,
    ⟨Nat.le_trans hS.1 (by rw [e1]; exact hz), fun q h1 h2 => by rw [e1, hk q (Nat.lt_of_lt_of_le h1 hS.1) (fun z => h2 (hA q (Nat.lt_of_lt_of_le h1 hS.1) z))]; exact hS.2.1 q h1 h2, fun q hq => by
      rcases List.mem_append.mp hq with h | h
      · exact hS.2.2 q h
      · exact hf _ (hL q h)⟩⟩
theorem vx_calli {S SX : Type} {post : Int32 → S → Prop} {px : SX → Prop} {B : S → State → Prop} {BX : String → SX → State → Prop} {AX : Nat → Prop} (hr : vx_Run p l e R s m args below meth c H locs cells slots mc ms (F0 m pc ls st0) rest (va_Qi post B A1 a) (vx_X px BX AX) free) (hS : va_S A0 H0 H locs) (hA : ∀ q, q < H.size → A1 q → A0 q) (hf : ∀ q, free q → A0 q) (hAX : ∀ q, q < H.size → AX q → A0 q)
    (kx : ∀ (E : String) (ce : Cell) (q9 : Addr) (u : SX) (t : State) (H1 : Heap) (locs1 : List Loc), t.heap = H1 → s.vm.Alike t.vm → px u → BX E u t → H.size ≤ H1.size → (∀ q : Nat, q < H.size → ¬ AX q → H1[q]? = H[q]?) → va_S A0 H0 H1 locs1 → H1[q9]? = some ce → ce.vm = .none → s.vm.findClass E = some ce.cls → vx_W p l e R s m args below meth c H1 locs1 (cells + mc) (slots + ms) Q (F0 m pc ls rest) q9)
    (kk : ∀ (r : Int32) (u : S) (t : State) (H1 : Heap) (locs1 : List Loc), t.heap = H1 → s.vm.Alike t.vm → post r u → B u t → H.size ≤ H1.size → (∀ q : Nat, q < H.size → ¬ A1 q → H1[q]? = H[q]?) → va_S A0 H0 H1 locs1 → W p l e R s m args below meth c H1 locs1 (cells + mc) (slots + ms) Q (F0 m (pc + 3) ls (.int r :: rest))) : W p l e R s m args below meth c H locs cells slots Q (F0 m pc ls st0) := by
  intro T hT X
  rcases hr T hT X with ⟨v, st₀, t, T', L, h0, X', hL, e1, e2, ⟨⟨r, u, hv, hp, hb⟩, hF⟩, st⟩ | ⟨q, st₀, t, T', L, E, ce, h0, X', hL, e1, e2, ⟨u, hp, hb, hF⟩, hce, hcv, hcl, st⟩
  · cases hv
    obtain ⟨k1, k2, k3⟩ := vx_keep h0 e1 hS hA hf hL hF
    obtain ⟨t2, a1, b1⟩ := kk r u t T'.heap (locs ++ L) e1.symm (by rw [← e2]; exact X'.warmed.alike) hp hb k1 k2 k3 T' rfl X'
    exact ⟨t2, st t2 a1, b1⟩
  · obtain ⟨k1, k2, k3⟩ := vx_keep h0 e1 hS hAX hf hL hF
    obtain ⟨t2, a1, b1⟩ := kx E ce q u t T'.heap (locs ++ L) e1.symm (by rw [← e2]; exact X'.warmed.alike) hp hb k1 k2 k3 (by rw [e1]; exact hce) hcv hcl T' rfl X'
    exact ⟨t2, st.trans a1, b1⟩
theorem vx_calll {S SX : Type} {post : Int64 → S → Prop} {px : SX → Prop} {B : S → State → Prop} {BX : String → SX → State → Prop} {AX : Nat → Prop} (hr : vx_Run p l e R s m args below meth c H locs cells slots mc ms (F0 m pc ls st0) rest (va_Ql post B A1 a) (vx_X px BX AX) free) (hS : va_S A0 H0 H locs) (hA : ∀ q, q < H.size → A1 q → A0 q) (hf : ∀ q, free q → A0 q) (hAX : ∀ q, q < H.size → AX q → A0 q)
    (kx : ∀ (E : String) (ce : Cell) (q9 : Addr) (u : SX) (t : State) (H1 : Heap) (locs1 : List Loc), t.heap = H1 → s.vm.Alike t.vm → px u → BX E u t → H.size ≤ H1.size → (∀ q : Nat, q < H.size → ¬ AX q → H1[q]? = H[q]?) → va_S A0 H0 H1 locs1 → H1[q9]? = some ce → ce.vm = .none → s.vm.findClass E = some ce.cls → vx_W p l e R s m args below meth c H1 locs1 (cells + mc) (slots + ms) Q (F0 m pc ls rest) q9)
    (kk : ∀ (r : Int64) (u : S) (t : State) (H1 : Heap) (locs1 : List Loc), t.heap = H1 → s.vm.Alike t.vm → post r u → B u t → H.size ≤ H1.size → (∀ q : Nat, q < H.size → ¬ A1 q → H1[q]? = H[q]?) → va_S A0 H0 H1 locs1 → W p l e R s m args below meth c H1 locs1 (cells + mc) (slots + ms) Q (F0 m (pc + 3) ls (.long r :: rest))) : W p l e R s m args below meth c H locs cells slots Q (F0 m pc ls st0) := by
  intro T hT X
  rcases hr T hT X with ⟨v, st₀, t, T', L, h0, X', hL, e1, e2, ⟨⟨r, u, hv, hp, hb⟩, hF⟩, st⟩ | ⟨q, st₀, t, T', L, E, ce, h0, X', hL, e1, e2, ⟨u, hp, hb, hF⟩, hce, hcv, hcl, st⟩
  · cases hv
    obtain ⟨k1, k2, k3⟩ := vx_keep h0 e1 hS hA hf hL hF
    obtain ⟨t2, a1, b1⟩ := kk r u t T'.heap (locs ++ L) e1.symm (by rw [← e2]; exact X'.warmed.alike) hp hb k1 k2 k3 T' rfl X'
    exact ⟨t2, st t2 a1, b1⟩
  · obtain ⟨k1, k2, k3⟩ := vx_keep h0 e1 hS hAX hf hL hF
    obtain ⟨t2, a1, b1⟩ := kx E ce q u t T'.heap (locs ++ L) e1.symm (by rw [← e2]; exact X'.warmed.alike) hp hb k1 k2 k3 (by rw [e1]; exact hce) hcv hcl T' rfl X'
    exact ⟨t2, st.trans a1, b1⟩
theorem vx_callf {S SX : Type} {post : UInt32 → S → Prop} {px : SX → Prop} {B : S → State → Prop} {BX : String → SX → State → Prop} {AX : Nat → Prop} (hr : vx_Run p l e R s m args below meth c H locs cells slots mc ms (F0 m pc ls st0) rest (va_Qf post B A1 a) (vx_X px BX AX) free) (hS : va_S A0 H0 H locs) (hA : ∀ q, q < H.size → A1 q → A0 q) (hf : ∀ q, free q → A0 q) (hAX : ∀ q, q < H.size → AX q → A0 q)
    (kx : ∀ (E : String) (ce : Cell) (q9 : Addr) (u : SX) (t : State) (H1 : Heap) (locs1 : List Loc), t.heap = H1 → s.vm.Alike t.vm → px u → BX E u t → H.size ≤ H1.size → (∀ q : Nat, q < H.size → ¬ AX q → H1[q]? = H[q]?) → va_S A0 H0 H1 locs1 → H1[q9]? = some ce → ce.vm = .none → s.vm.findClass E = some ce.cls → vx_W p l e R s m args below meth c H1 locs1 (cells + mc) (slots + ms) Q (F0 m pc ls rest) q9)
    (kk : ∀ (r : UInt32) (u : S) (t : State) (H1 : Heap) (locs1 : List Loc), t.heap = H1 → s.vm.Alike t.vm → post r u → B u t → H.size ≤ H1.size → (∀ q : Nat, q < H.size → ¬ A1 q → H1[q]? = H[q]?) → va_S A0 H0 H1 locs1 → W p l e R s m args below meth c H1 locs1 (cells + mc) (slots + ms) Q (F0 m (pc + 3) ls (.float r :: rest))) : W p l e R s m args below meth c H locs cells slots Q (F0 m pc ls st0) := by
  intro T hT X
  rcases hr T hT X with ⟨v, st₀, t, T', L, h0, X', hL, e1, e2, ⟨⟨r, u, hv, hp, hb⟩, hF⟩, st⟩ | ⟨q, st₀, t, T', L, E, ce, h0, X', hL, e1, e2, ⟨u, hp, hb, hF⟩, hce, hcv, hcl, st⟩
  · cases hv
    obtain ⟨k1, k2, k3⟩ := vx_keep h0 e1 hS hA hf hL hF
    obtain ⟨t2, a1, b1⟩ := kk r u t T'.heap (locs ++ L) e1.symm (by rw [← e2]; exact X'.warmed.alike) hp hb k1 k2 k3 T' rfl X'
    exact ⟨t2, st t2 a1, b1⟩
  · obtain ⟨k1, k2, k3⟩ := vx_keep h0 e1 hS hAX hf hL hF
    obtain ⟨t2, a1, b1⟩ := kx E ce q u t T'.heap (locs ++ L) e1.symm (by rw [← e2]; exact X'.warmed.alike) hp hb k1 k2 k3 (by rw [e1]; exact hce) hcv hcl T' rfl X'
    exact ⟨t2, st.trans a1, b1⟩
theorem vx_calld {S SX : Type} {post : UInt64 → S → Prop} {px : SX → Prop} {B : S → State → Prop} {BX : String → SX → State → Prop} {AX : Nat → Prop} (hr : vx_Run p l e R s m args below meth c H locs cells slots mc ms (F0 m pc ls st0) rest (va_Qd post B A1 a) (vx_X px BX AX) free) (hS : va_S A0 H0 H locs) (hA : ∀ q, q < H.size → A1 q → A0 q) (hf : ∀ q, free q → A0 q) (hAX : ∀ q, q < H.size → AX q → A0 q)
    (kx : ∀ (E : String) (ce : Cell) (q9 : Addr) (u : SX) (t : State) (H1 : Heap) (locs1 : List Loc), t.heap = H1 → s.vm.Alike t.vm → px u → BX E u t → H.size ≤ H1.size → (∀ q : Nat, q < H.size → ¬ AX q → H1[q]? = H[q]?) → va_S A0 H0 H1 locs1 → H1[q9]? = some ce → ce.vm = .none → s.vm.findClass E = some ce.cls → vx_W p l e R s m args below meth c H1 locs1 (cells + mc) (slots + ms) Q (F0 m pc ls rest) q9)
    (kk : ∀ (r : UInt64) (u : S) (t : State) (H1 : Heap) (locs1 : List Loc), t.heap = H1 → s.vm.Alike t.vm → post r u → B u t → H.size ≤ H1.size → (∀ q : Nat, q < H.size → ¬ A1 q → H1[q]? = H[q]?) → va_S A0 H0 H1 locs1 → W p l e R s m args below meth c H1 locs1 (cells + mc) (slots + ms) Q (F0 m (pc + 3) ls (.double r :: rest))) : W p l e R s m args below meth c H locs cells slots Q (F0 m pc ls st0) := by
  intro T hT X
  rcases hr T hT X with ⟨v, st₀, t, T', L, h0, X', hL, e1, e2, ⟨⟨r, u, hv, hp, hb⟩, hF⟩, st⟩ | ⟨q, st₀, t, T', L, E, ce, h0, X', hL, e1, e2, ⟨u, hp, hb, hF⟩, hce, hcv, hcl, st⟩
  · cases hv
    obtain ⟨k1, k2, k3⟩ := vx_keep h0 e1 hS hA hf hL hF
    obtain ⟨t2, a1, b1⟩ := kk r u t T'.heap (locs ++ L) e1.symm (by rw [← e2]; exact X'.warmed.alike) hp hb k1 k2 k3 T' rfl X'
    exact ⟨t2, st t2 a1, b1⟩
  · obtain ⟨k1, k2, k3⟩ := vx_keep h0 e1 hS hAX hf hL hF
    obtain ⟨t2, a1, b1⟩ := kx E ce q u t T'.heap (locs ++ L) e1.symm (by rw [← e2]; exact X'.warmed.alike) hp hb k1 k2 k3 (by rw [e1]; exact hce) hcv hcl T' rfl X'
    exact ⟨t2, st.trans a1, b1⟩
theorem vx_callv {S SX : Type} {post : S → Prop} {px : SX → Prop} {B : S → State → Prop} {BX : String → SX → State → Prop} {AX : Nat → Prop} (hr : vx_Run p l e R s m args below meth c H locs cells slots mc ms (F0 m pc ls st0) rest (va_Qv post B A1 a) (vx_X px BX AX) free) (hS : va_S A0 H0 H locs) (hA : ∀ q, q < H.size → A1 q → A0 q) (hf : ∀ q, free q → A0 q) (hAX : ∀ q, q < H.size → AX q → A0 q)
    (kx : ∀ (E : String) (ce : Cell) (q9 : Addr) (u : SX) (t : State) (H1 : Heap) (locs1 : List Loc), t.heap = H1 → s.vm.Alike t.vm → px u → BX E u t → H.size ≤ H1.size → (∀ q : Nat, q < H.size → ¬ AX q → H1[q]? = H[q]?) → va_S A0 H0 H1 locs1 → H1[q9]? = some ce → ce.vm = .none → s.vm.findClass E = some ce.cls → vx_W p l e R s m args below meth c H1 locs1 (cells + mc) (slots + ms) Q (F0 m pc ls rest) q9)
    (kk : ∀ (u : S) (t : State) (H1 : Heap) (locs1 : List Loc), t.heap = H1 → s.vm.Alike t.vm → post u → B u t → H.size ≤ H1.size → (∀ q : Nat, q < H.size → ¬ A1 q → H1[q]? = H[q]?) → va_S A0 H0 H1 locs1 → W p l e R s m args below meth c H1 locs1 (cells + mc) (slots + ms) Q (F0 m (pc + 3) ls (rest))) : W p l e R s m args below meth c H locs cells slots Q (F0 m pc ls st0) := by
  intro T hT X
  rcases hr T hT X with ⟨v, st₀, t, T', L, h0, X', hL, e1, e2, ⟨⟨u, hv, hp, hb⟩, hF⟩, st⟩ | ⟨q, st₀, t, T', L, E, ce, h0, X', hL, e1, e2, ⟨u, hp, hb, hF⟩, hce, hcv, hcl, st⟩
  · cases hv
    obtain ⟨k1, k2, k3⟩ := vx_keep h0 e1 hS hA hf hL hF
    obtain ⟨t2, a1, b1⟩ := kk u t T'.heap (locs ++ L) e1.symm (by rw [← e2]; exact X'.warmed.alike) hp hb k1 k2 k3 T' rfl X'
    exact ⟨t2, st t2 a1, b1⟩
  · obtain ⟨k1, k2, k3⟩ := vx_keep h0 e1 hS hAX hf hL hF
    obtain ⟨t2, a1, b1⟩ := kx E ce q u t T'.heap (locs ++ L) e1.symm (by rw [← e2]; exact X'.warmed.alike) hp hb k1 k2 k3 (by rw [e1]; exact hce) hcv hcl T' rfl X'
    exact ⟨t2, st.trans a1, b1⟩
/-- caught by the row x of this method's table; the rows ahead don't take it -/
theorem vx_catch {own name : String} {E : String} {ce : Cell} {q : Addr} (hown : s.vm.findClass own = some m.cls) (pre : List ExceptionTableEntry) (x : ExceptionTableEntry) (suf : List ExceptionTableEntry) (hsplit : c.exceptionTable.toList = pre ++ x :: suf)
    (hpass : ∀ z ∈ pre, covers z pc = false ∨ (z.catchType ≠ 0 ∧ ∃ nm : String, (Cond.classLink own z.catchType nm).before args s = true ∧ va_Nc E nm s)) (hx : covers x pc = true) (h0 : x.catchType ≠ 0)
    (hlink : (Cond.classLink own x.catchType name).before args s = true) (hcast : (Cond.castable E name).before args s = true) (hcell : H[q]? = some ce) (hv : ce.vm = .none) (hcl : s.vm.findClass E = some ce.cls)
    (kk : W p l e R s m args below meth c H locs cells slots Q (F0 m x.handlerPc ls [.ref q])) : vx_W p l e R s m args below meth c H locs cells slots Q (F0 m pc ls rest) q := by
  intro T hT X
  have hpl : e.platform.magicAccessors = ({} : Platform).magicAccessors := by rw [X.admits.platform]
  obtain ⟨c3, c4, hc3, hc4, hasg⟩ := Cond.castable_spec hcast
  cases Option.some.inj (hc3.symm.trans hcl)
  obtain ⟨c5, hc5, hcl5⟩ := Cond.classLink_spec hown hlink e.platform hpl
  cases Option.some.inj (hc4.symm.trans hc5)
  obtain ⟨vm', X', st⟩ := X.thenCaughtThrough q (g := F0 m pc ls rest) rfl (Steps.refl _) (by rw [hT]; exact hcell) (by rw [hv]; rfl) (by obtain ⟨k9, h9, -⟩ := Vm.findClass_spec hcl; exact ⟨k9, h9⟩) pre x suf hsplit
    (fun z hz => by
      rcases hpass z hz with h | ⟨hz0, nm, hl1, hn1⟩
      · exact Or.inl h
      · obtain ⟨c6, hc6, hcl6⟩ := Cond.classLink_spec hown hl1 e.platform hpl
        obtain ⟨a8, b8, h1, h2, h3⟩ := hn1
        cases Option.some.inj (h1.symm.trans hcl)
        cases Option.some.inj (h2.symm.trans hc6)
        exact Or.inr ⟨hz0, _, hcl6, h3⟩) hx (Or.inr ⟨h0, c4, hcl5, hasg⟩)
  obtain ⟨t, a1, b1⟩ := kk (T.setVm vm') hT X'
  exact ⟨t, st.trans a1, b1⟩
end Rows
section Ends
variable {p : Program} {l : Launch} {e : Env} {R : Room} {s : State} {m : MethodId} {args : Array Value} {below : List Frame} {meth : Method} {c : Code} {H : Heap} {locs : List Loc} {cells slots : Nat} {Q : State → Prop}
variable {mc ms : Nat} {free : Addr → Prop} {A0 A1 : Nat → Prop} {H0 : Heap} {a : Array Value} {ls : Array Slot} {st0 rest : List Value}
variable {Qc : Array Value → State → Outcome → State → Prop} {XC : String → State → State → Prop}
/-- what a body that may throw owes at its end -/
def vx_MQ (below : List Frame) (Qc : Array Value → State → Outcome → State → Prop) (XC : String → State → State → Prop) (a : Array Value) (s : State) (mc ms : Nat) (free : Addr → Prop) : State → Prop := fun t =>
  ∃ o, t.status = .running ∧ Ended t below o ∧ vx_Q Qc XC mc ms free a s o t
theorem vx_ret {g : JFrame} {mc ms : Nat} (k : W p l e R s m args below meth c H locs cells slots (MQ below Qc args s mc ms free) g) : W p l e R s m args below meth c H locs cells slots (vx_MQ below Qc XC args s mc ms free) g := by
  intro T hT X
  obtain ⟨t, a1, o, b1, b2, b3, b4⟩ := k T hT X
  exact ⟨t, a1, o, b1, b2, Or.inl ⟨b3, b4⟩⟩
/-- not caught here: it goes on to the caller -/
theorem vx_widen {g : JFrame} {q : Addr} {k n : Nat} (h1 : cells ≤ k) (h2 : slots ≤ n) (kk : vx_W p l e R s m args below meth c H locs k n Q g q) : vx_W p l e R s m args below meth c H locs cells slots Q g q := fun T hT X => kk T hT (stand_widen X h1 h2)
theorem vx_out {pc : Nat} {E : String} {ce : Cell} {q : Addr} {mc ms : Nat} (hout : ∀ x ∈ c.exceptionTable.toList, covers x pc = false) (hlocks : meth.locks = false) (hcell : H[q]? = some ce) (hv : ce.vm = .none) (hcl : s.vm.findClass E = some ce.cls)
    (hx : ∀ t : State, t.heap = H → s.vm.Alike t.vm → XC E s t) (hf : ∀ z ∈ locs, free z.base) (hc : cells ≤ mc) (hs : slots ≤ ms) :
    vx_W p l e R s m args below meth c H locs cells slots (vx_MQ below Qc XC args s mc ms free) (F0 m pc ls rest) q := by
  intro T hT X
  obtain ⟨st1, hrun, hend, hW, hsm⟩ := X.leaveThrown q (g := F0 m pc ls rest) rfl rfl rfl hout hlocks
  have hcell9 : (T.setFrames (.throwing q :: below)).heap[q]? = some ce := by
    show T.heap[q]? = some ce
    rw [hT]; exact hcell
  exact ⟨_, st1, .threw q, hrun, hend, Or.inr ⟨q, rfl, E, ce, locs, hx _ hT hW.alike, hcell9, hv, hcl, hW, hsm.mono hc hs, hf⟩⟩
theorem vx_frame {U : State} {k n : Nat} (h : s.sameButNew ({ U with vm := s.vm } : State) locs k n) : s.heap.size ≤ U.heap.size ∧ ∀ q : Nat, q < s.heap.size → (∀ z ∈ locs, z.base ≠ q) → U.heap[q]? = s.heap[q]? := by
  obtain ⟨-, h2, -, -, -, h6⟩ := h
  refine ⟨h2, fun q hq hz => ?_⟩
  obtain ⟨c9, e1, e2, e3, e4⟩ := h6 q _ (Array.getElem?_eq_getElem hq)
  have hs : c9.slots = (s.heap[q]).slots := Array.ext_getElem? fun i => e4 i fun hm => hz _ hm rfl
  have h9 : c9 = s.heap[q] := by
    rw [hs] at e2
    exact e2
  have e5 : U.heap[q]? = some c9 := e1
  rw [e5, h9, Array.getElem?_eq_getElem hq]
/-- the words of a throw but the four that speak of the heap -/
def vx_no (w : Cond) : Bool := decide (w ≠ .isRef (.static Bundle.tN "UNASSIGNED_STACK" Bundle.steD)) && decide (w ≠ .isRef (.static Bundle.tN "SUPPRESSED_SENTINEL" Bundle.listD)) && decide (w ≠ .laysStatic Bundle.tN "UNASSIGNED_STACK" Bundle.steD) && decide (w ≠ .laysStatic Bundle.tN "SUPPRESSED_SENTINEL" Bundle.listD)
def vx_at0 (own : String) (ic : Nat) (X : String) (names : List String) : List Cond := (Bundle.ownAtoms0 own ic X names).filter vx_no
def vx_atS (own : String) (ic : Nat) (X : String) (names : List String) : List Cond := (Bundle.ownAtoms own ic X names).filter vx_no
/-- a word that the tables alone decide, or a good one -/
def vx_ot (w : Cond) : Bool := w.onTables || goodWord w
theorem vx_ot_at {args a' : Array Value} {s U : State} {w : Cond} (hW : s.WarmedH U.vm) (hvm : s.vm = U.vm) (hg : vx_ot w = true) (h : w.before args s = true) : w.before a' U = true := by
  simp only [vx_ot, Bool.or_eq_true] at hg
  rcases hg with hg | hg
  · exact va_tabs hg hvm h
  · exact word_at hW (good_of_word hg) h
/-- a list's words: the good ones out of the method's own list, the others by premises of their own -/
theorem vx_hat {args : Array Value} {s : State} {L B : List Cond} (h1 : ∀ w ∈ L.filter goodWord, w.before args s = true) (h2 : ∀ w ∈ L.filter (fun w => !goodWord w), w ∈ B) (h3 : ∀ w ∈ B, w.before args s = true) : ∀ w ∈ L, w.before args s = true := by
  intro w hw
  by_cases g : goodWord w = true
  · exact h1 w (List.mem_filter.mpr ⟨hw, g⟩)
  · refine h3 w (h2 w (List.mem_filter.mpr ⟨hw, ?_⟩))
    show (!goodWord w) = true
    cases hgw : goodWord w
    · rfl
    · exact absurd hgw g
theorem vx_c {args : Array Value} {s : State} {w : Cond} {B : List Cond} (h : w.before args s = true) (t : ∀ w ∈ B, w.before args s = true) : ∀ w' ∈ w :: B, w'.before args s = true := fun w' h' => (List.mem_cons.mp h').elim (fun e => by rw [e]; exact h) (t w')
theorem vx_n {args : Array Value} {s : State} : ∀ w ∈ ([] : List Cond), w.before args s = true := fun _ h => nomatch h
theorem vx_own {args : Array Value} {s : State} {L : List Cond} (h1 : ∀ w ∈ L.filter vx_no, w.before args s = true)
    (hU : (Cond.isRef (.static Bundle.tN "UNASSIGNED_STACK" Bundle.steD)).before args s = true) (hN : (Cond.isRef (.static Bundle.tN "SUPPRESSED_SENTINEL" Bundle.listD)).before args s = true)
    (lU : (Cond.laysStatic Bundle.tN "UNASSIGNED_STACK" Bundle.steD).before args s = true) (lN : (Cond.laysStatic Bundle.tN "SUPPRESSED_SENTINEL" Bundle.listD).before args s = true) : ∀ w ∈ L, w.before args s = true := by
  intro w hw
  by_cases e1 : w = .isRef (.static Bundle.tN "UNASSIGNED_STACK" Bundle.steD)
  · rw [e1]; exact hU
  · by_cases e2 : w = .isRef (.static Bundle.tN "SUPPRESSED_SENTINEL" Bundle.listD)
    · rw [e2]; exact hN
    · by_cases e3 : w = .laysStatic Bundle.tN "UNASSIGNED_STACK" Bundle.steD
      · rw [e3]; exact lU
      · by_cases e4 : w = .laysStatic Bundle.tN "SUPPRESSED_SENTINEL" Bundle.listD
        · rw [e4]; exact lN
        · exact h1 w (List.mem_filter.mpr ⟨hw, by unfold vx_no; rw [decide_eq_true e1, decide_eq_true e2, decide_eq_true e3, decide_eq_true e4]; rfl⟩)
/-- where a static field lies, its class's statics cell in H -/
def vx_L (C n d : String) (A : Nat → Prop) (U : State) (H : Heap) : Prop := ∃ (c : ClassId) (k : Class) (i : Nat) (f : Field) (a : Nat) (cell : Cell), U.vm.findClass C = some c ∧ U.fieldFound? C n d = some (c, k, i, f) ∧ f.isStatic = true ∧ k.statics = some a ∧ H[a]? = some cell ∧ cell.vm.isStatics = true ∧ cell.cls = c ∧ f.slot < cell.slots.size ∧ k.staticTypes[f.slot]? = some f.type ∧ ¬ A a
theorem vx_L.moved {C n d : String} {A : Nat → Prop} {u U : State} {H : Heap} (hvm : u.vm.Alike U.vm) (h : vx_L C n d A u H) : vx_L C n d A U H := by
  obtain ⟨c, k, i, f, a, cell, h1, h2, h3, h4, h5, h6, h7, h8, h9, h10⟩ := h
  obtain ⟨k', hi', he⟩ := State.fieldFound?_setVm hvm h2
  exact ⟨c, k', i, f, a, cell, by rw [hvm.findClass]; exact h1, hi', h3, by rw [he]; exact h4, h5, h6, h7, h8, by rw [he]; exact h9, h10⟩
theorem vx_L.kept {C n d : String} {A : Nat → Prop} {U : State} {H H1 : Heap} (h : vx_L C n d A U H) (hq : ∀ a : Nat, a < H.size → ¬ A a → H1[a]? = H[a]?) : vx_L C n d A U H1 := by
  obtain ⟨c, k, i, f, a, cell, h1, h2, h3, h4, h5, h6, h7, h8, h9, h10⟩ := h
  exact ⟨c, k, i, f, a, cell, h1, h2, h3, h4, by rw [hq a (Array.getElem?_eq_some_iff.mp h5).1 h10]; exact h5, h6, h7, h8, h9, h10⟩
theorem vx_L.narrow {C n d : String} {A B : Nat → Prop} {U : State} {H : Heap} (h : vx_L C n d A U H) (hAB : ∀ q, B q → A q) : vx_L C n d B U H := by
  obtain ⟨c, k, i, f, a, cell, h1, h2, h3, h4, h5, h6, h7, h8, h9, h10⟩ := h
  exact ⟨c, k, i, f, a, cell, h1, h2, h3, h4, h5, h6, h7, h8, h9, fun z => h10 (hAB _ z)⟩
theorem vx_L.word {C n d : String} {A : Nat → Prop} {s : State} {args : Array Value} (h : vx_L C n d A s s.heap) : (Cond.laysStatic C n d).before args s = true := by
  obtain ⟨c, k, i, f, a, cell, h1, h2, h3, h4, h5, h6, h7, h8, h9, -⟩ := h
  show (Cond.laysStatic C n d).holds args s none s [] = true
  exact Cond.laysStatic_of h1 h2 h3 h4 h5 h6 h7 h8 h9
/-- .. and what it holds: null or some reference -/
def vx_Zq (C n d : String) (A : Nat → Prop) (U : State) (H : Heap) : Prop := va_Zq C n d A U H ∧ vx_L C n d A U H
theorem vx_Zq.moved {C n d : String} {A : Nat → Prop} {u U : State} {H : Heap} (hvm : u.vm.Alike U.vm) (h : vx_Zq C n d A u H) : vx_Zq C n d A U H := ⟨va_Zq.moved hvm h.1, vx_L.moved hvm h.2⟩
theorem vx_Zq.kept {C n d : String} {A : Nat → Prop} {U : State} {H H1 : Heap} (h : vx_Zq C n d A U H) (hq : ∀ a : Nat, a < H.size → ¬ A a → H1[a]? = H[a]?) : vx_Zq C n d A U H1 := ⟨va_Zq.kept h.1 hq, vx_L.kept h.2 hq⟩
theorem vx_Zq.narrow {C n d : String} {A B : Nat → Prop} {U : State} {H : Heap} (h : vx_Zq C n d A U H) (hAB : ∀ q, B q → A q) : vx_Zq C n d B U H := ⟨va_Zq.narrow h.1 hAB, vx_L.narrow h.2 hAB⟩
theorem vx_Zqof {args : Array Value} {s : State} {C n d : String} {A : Nat → Prop} (hl : (Cond.laysStatic C n d).before args s = true) (hini : (Cond.initialized C).before args s = true) (h : (Cond.isRef (.static C n d)).before args s = true) (hA : ∀ a : Nat, a < s.heap.size → ¬ A a) : vx_Zq C n d A s s.heap := by
  refine ⟨va_Zqof hl hini h hA, ?_⟩
  obtain ⟨c, k, i, f, a, cell, h1, h2, h3, h4, h5, h6, h7, h8, h9⟩ := Cond.laysStatic_spec hl
  exact ⟨c, k, i, f, a, cell, h1, h2, h3, h4, h5, h6, h7, h8, h9, hA a (Array.getElem?_eq_some_iff.mp h5).1⟩
theorem vx_isRef {C n d : String} {v : Value} {A : Nat → Prop} {s : State} {args : Array Value} (h : va_Z C n d v A s s.heap) (hv : v.isRef = true) : (Cond.isRef (.static C n d)).before args s = true := by
  obtain ⟨cf, kf, fi, f, a, cell, h1, h2, h3, h4, h5, h6, h7, -⟩ := h
  have he : (Term.static C n d).eval args s none [] s = some v := by
    simp [Term.eval, State.fieldNamed?, h1, h2, h4, h5, h6, h7]
  simp only [Cond.before, Cond.holds, Cond.value, he]
  cases v <;> simp_all [Value.isRef]
theorem vx_isRefq {C n d : String} {A : Nat → Prop} {s : State} {args : Array Value} (h : va_Zq C n d A s s.heap) : (Cond.isRef (.static C n d)).before args s = true := by
  rcases h with h | ⟨t, h⟩
  · exact vx_isRef h rfl
  · exact vx_isRef h rfl
/-- the same frame, seen from here: as if the method were called anew in this heap -/
theorem vx_rebase {T : State} (X : Stand p l e R s m args below meth c T locs cells slots) {R' : Room} (hf : R'.frames ≤ R.frames) (hl : R'.locals ≤ R.locals) (hc : cells + R'.cells ≤ R.cells) (hs : slots + R'.slots ≤ R.slots) :
    Stand p l e R' ((T.setVm s.vm).setFrames (.invoking m args :: below)) m args below meth c T [] 0 0 := by
  have htop : (T.setVm s.vm).topJava?.isSome := X.here.top
  have hF : ((T.setVm s.vm).setFrames (.invoking m args :: below)).frames = .invoking m args :: below := State.frames_setFrames _ (State.cur_lt_of_top htop)
  obtain ⟨g₀, hg0⟩ := Option.isSome_iff_exists.mp htop
  obtain ⟨r, hr⟩ := State.topJava?_eq_some.mp hg0
  have hl9 : e.platform.stackLimits (T.setVm s.vm).me = e.platform.stackLimits s.me := X.limits
  have hb9 : (T.setVm s.vm).me.stackBytes = s.me.stackBytes := X.bytes
  refine ⟨X.admits, X.cas, X.clock, hF, ?_, X.hears, X.method, X.code, X.here, X.tail, X.warmed, ?_, ?_, ?_⟩
  · have h := X.room
    have hU : ((T.setVm s.vm).setFrames (.invoking m args :: below)).localsInUse = s.localsInUse := by
      rw [State.localsInUse_invoking hF (meth := meth) (c := c) X.method X.code, State.localsInUse_invoking X.frames X.method X.code]
    simp only [State.hasRoom, Bool.and_eq_true, decide_eq_true_eq] at h ⊢
    obtain ⟨⟨⟨⟨h1, h2, h3, h4, h5, h6⟩, h7⟩, h8⟩, h9⟩ := h
    rw [X.frames, List.length_cons] at h2 h3
    have q1 := X.heapSize
    have q2 := X.used
    simp only [hF, hU, List.length_cons, State.stackLimits_setFrames, State.stackBytes_setFrames, hl9, hb9]
    refine ⟨⟨⟨⟨by omega, by omega, by omega, by omega, by omega, h6⟩, ?_⟩, ?_⟩, X.book⟩
    · show T.heap.size + R'.cells ≤ e.platform.maxCells
      omega
    · show T.slotsUsed + R'.slots ≤ e.platform.maxSlots
      omega
  · rw [State.stackLimits_setFrames]; rfl
  · rw [State.stackBytes_setFrames]; rfl
  · refine ⟨?_, Nat.le_refl _, Nat.le_refl _, ?_, ?_, fun a c9 h9 => ⟨c9, h9, rfl, rfl, fun _ _ => rfl⟩⟩
    · obtain ⟨t, ht, -⟩ := State.frames_cons hr
      show T.setVm s.vm = { ((T.setVm s.vm).setFrames (.invoking m args :: below)).setFrames (T.setVm s.vm).frames with heap := T.heap, slotsUsed := T.slotsUsed }
      rw [State.setFrames_setFrames, State.setFrames_self ht]
      rfl
    · show T.slotsUsed = T.slotsUsed + ((T.heap.toList.drop T.heap.size).map (·.slots.size)).sum
      rw [List.drop_eq_nil_of_le (Nat.le_of_eq Array.length_toList)]
      rfl
    · show ((T.heap.toList.drop T.heap.size).map (·.slots.size)).sum ≤ 0
      rw [List.drop_eq_nil_of_le (Nat.le_of_eq Array.length_toList)]
      exact Nat.le_refl _
/-- 'throw new E()': new; dup; invokespecial; athrow -/
theorem vx_throw0 {cc : ByteArray} {pc : Nat} (hexec : p.tables.exec = Jvm.exec) (hb : c.code = cc) (hl : l.stackTraces = false) {own cls : String} {names : List String} {ik ic mc ms : Nat} {A : Nat → Prop}
    (hown : s.vm.findClass own = some m.cls) (hcls : Bundle.fit cls = true) (hnames : ∀ n ∈ names, Bundle.fit n = true)
    (hk : (Cond.classLink own ik cls).before args s = true) (hini : (Cond.initialized cls).before args s = true) (hat : ∀ w ∈ vx_at0 own ic cls names, w.before args s = true)
    (hgood : ∀ w ∈ Cond.classLink own ik cls :: Cond.initialized cls :: vx_at0 own ic cls names, vx_ot w = true)
    (hU : vx_Zq Bundle.tN "UNASSIGNED_STACK" Bundle.steD A s s.heap) (hN : vx_Zq Bundle.tN "SUPPRESSED_SENTINEL" Bundle.listD A s s.heap) (hS : va_S A s.heap H locs) (hsize : ls.size = c.maxLocals)
    (d0 : decode cc pc = .ok (.new ik, 3)) (d3 : decode cc (pc + 3) = .ok (.dup, 1)) (d4 : decode cc (pc + 4) = .ok (.invokespecial ic, 3)) (d7 : decode cc (pc + 7) = .ok (.athrow, 1))
    (hout : ∀ x ∈ c.exceptionTable.toList, covers x (pc + 7) = false)
    (hRframes : names.length + 3 < R.frames) (hRlocals : (rest.map fun v => v.category).sum + (13 * (names.length + 1) + 42) ≤ R.locals) (hRcells : cells + 1 ≤ R.cells) (hRslots : slots + 6 ≤ R.slots) (hlocks : meth.locks = false)
    (hx : ∀ t : State, s.vm.Alike t.vm → H.size ≤ t.heap.size → (∀ q : Nat, q < H.size → t.heap[q]? = H[q]?) → XC cls s t)
    (hf : ∀ z ∈ locs, free z.base) (hc : cells + 1 ≤ mc) (hs : slots + 6 ≤ ms) :
    W p l e R s m args below meth c H locs cells slots (vx_MQ below Qc XC args s mc ms free) (F0 m pc ls rest) := by
  intro T hT X
  have htr : e.platform.stackTraces = false := (show e.platform.stackTraces = l.stackTraces by rw [X.admits.platform]).trans hl
  have Y := vx_rebase X (R' := { frames := R.frames, locals := R.locals, cells := 1, slots := 6 }) (Nat.le_refl _) (Nat.le_refl _) hRcells hRslots
  obtain ⟨s', hA⟩ : ∃ z, z = (T.setVm s.vm).setFrames (.invoking m args :: below) := ⟨_, rfl⟩
  rw [← hA] at Y
  have hvm : s'.vm = s.vm := by rw [hA]; rfl
  have hhp : s'.heap = H := by rw [hA]; exact hT
  have hW0 : s.WarmedH s'.vm := by rw [hvm]; exact State.WarmedH.refl s
  have hat' : ∀ w ∈ vx_at0 own ic cls names, w.before args s' = true := fun w hw => vx_ot_at hW0 hvm.symm (hgood w (List.mem_cons_of_mem _ (List.mem_cons_of_mem _ hw))) (hat w hw)
  have hk' : (Cond.classLink own ik cls).before args s' = true := vx_ot_at hW0 hvm.symm (hgood _ List.mem_cons_self) hk
  have hini' : (Cond.initialized cls).before args s' = true := vx_ot_at hW0 hvm.symm (hgood _ (List.mem_cons_of_mem _ List.mem_cons_self)) hini
  have hU' : vx_Zq Bundle.tN "UNASSIGNED_STACK" Bundle.steD A s' s'.heap := by rw [hhp]; exact vx_Zq.moved hW0.alike (hU.kept hS.2.1)
  have hN' : vx_Zq Bundle.tN "SUPPRESSED_SENTINEL" Bundle.listD A s' s'.heap := by rw [hhp]; exact vx_Zq.moved hW0.alike (hN.kept hS.2.1)
  have h : ∀ w ∈ Bundle.ownAtoms0 own ic cls names, w.before args s' = true := vx_own hat' (vx_isRefq hU'.1) (vx_isRefq hN'.1) hU'.2.word hN'.2.word
  have hown' : s'.vm.findClass own = some m.cls := by rw [hvm]; exact hown
  have hins : (Cond.instantiable cls 6).before args s' = true := h _ (by simp [Bundle.ownAtoms0])
  obtain ⟨vm₁, cX, kX, hfX, hkX, -, -, X₁, st1⟩ := Y.newCold hexec (own := own) (C := cls) (index := ik) (n := 6) hown' hk' hins hini'
    (g := F0 m pc ls rest) rfl (by rw [hb]; exact d0) (Nat.le_refl _) (Nat.le_refl _)
  generalize hT1 : (T.setVm vm₁).pushCell { cls := cX, slots := kX.instanceTypes.map defaultValue, vm := .none } = T1 at X₁ st1
  have hcat : (Value.ref T.heap.size).category = 1 := rfl
  have hcellA : T1.heap[T.heap.size]? = some (freshCell cX kX) := by rw [← hT1]; exact State.heap_pushCell_size _ _
  have d3' : decode c.code (pc + 3) = .ok (.dup, 1) := by rw [hb]; exact d3
  obtain ⟨U, hsteps, hrun, hend, hW, hsame, ce, hce, hO⟩ := X₁.ctorThrow0 hexec htr (own := own) (cls := cls) (names := names) (ic := ic) hown' hcls hnames h (fun x hx => nomatch hx) hfX hkX hcellA (by rw [hhp, hT]; exact Nat.le_refl _)
    (g := { method := m, pc := pc + 4, locals := ls, stack := .ref T.heap.size :: .ref T.heap.size :: rest, locked := none }) rfl hsize rfl rfl (rest := rest) rfl
    (by rw [hb]; exact d4) (by rw [hb]; exact d7) hout hRframes (by simp only [List.map_cons, List.sum_cons, hcat]; omega) hlocks
  obtain ⟨f1, f2⟩ := vx_frame hsame
  rw [hhp] at f1 f2
  have hWs : s.WarmedH U.vm := State.WarmedH.trans hW0 hW
  have hcl : s.vm.findClass cls = some ce.cls := by
    have h9 := hO.cls
    rw [hvm] at h9
    exact h9
  have hall : s.sameButNew ({ U with vm := s.vm } : State) locs mc ms := by
    subst hA
    obtain ⟨e1, e2⟩ := hsame
    rw [State.setFrames_setFrames] at e1
    have h2 : (T.setVm s.vm).sameButNew ({ U with vm := s.vm } : State) [] (0 + 1) (0 + 6) := ⟨e1, e2⟩
    have h3 := X.same.trans h2
    rw [List.append_nil] at h3
    exact h3.mono hc hs
  refine ⟨U, ?_, .threw T.heap.size, hrun, hend, Or.inr ⟨T.heap.size, rfl, cls, ce, locs, hx U hWs.alike f1 (fun q hq => f2 q hq (fun z hz => nomatch hz)), hce, hO.vm, hcl, hWs, hall, hf⟩⟩
  refine st1 _ ?_
  show Steps p.tables e below (T1.setTop { method := m, pc := pc + 3, locals := ls, stack := .ref T.heap.size :: rest, locked := none }) _
  jvm_step X₁.here [X₁.here.top, hexec, d3', Value.category]
  exact hsteps
/-- 'throw new E("text")': new; dup; ldc; invokespecial; athrow -/
theorem vx_throwS {cc : ByteArray} {pc : Nat} (hexec : p.tables.exec = Jvm.exec) (hb : c.code = cc) (hl : l.stackTraces = false) {own cls text : String} {names : List String} {ik is ic mc ms sa : Nat} {A : Nat → Prop}
    (hown : s.vm.findClass own = some m.cls) (hcls : Bundle.fit cls = true) (hnames : ∀ n ∈ names, Bundle.fit n = true)
    (hk : (Cond.classLink own ik cls).before args s = true) (hini : (Cond.initialized cls).before args s = true) (hstr : vk_R own is text sa s) (hat : ∀ w ∈ vx_atS own ic cls names, w.before args s = true)
    (hgood : ∀ w ∈ Cond.classLink own ik cls :: Cond.initialized cls :: vx_atS own ic cls names, vx_ot w = true)
    (hU : vx_Zq Bundle.tN "UNASSIGNED_STACK" Bundle.steD A s s.heap) (hN : vx_Zq Bundle.tN "SUPPRESSED_SENTINEL" Bundle.listD A s s.heap) (hS : va_S A s.heap H locs) (hsize : ls.size = c.maxLocals)
    (d0 : decode cc pc = .ok (.new ik, 3)) (d3 : decode cc (pc + 3) = .ok (.dup, 1)) (d4 : decode cc (pc + 4) = .ok (.ldc is, 2)) (d6 : decode cc (pc + 6) = .ok (.invokespecial ic, 3)) (d9 : decode cc (pc + 9) = .ok (.athrow, 1))
    (hout : ∀ x ∈ c.exceptionTable.toList, covers x (pc + 9) = false)
    (hRframes : names.length + 3 < R.frames) (hRlocals : (rest.map fun v => v.category).sum + (13 * (names.length + 1) + 43) ≤ R.locals) (hRcells : cells + 1 ≤ R.cells) (hRslots : slots + 6 ≤ R.slots) (hlocks : meth.locks = false)
    (hx : ∀ t : State, s.vm.Alike t.vm → H.size ≤ t.heap.size → (∀ q : Nat, q < H.size → t.heap[q]? = H[q]?) → XC cls s t)
    (hf : ∀ z ∈ locs, free z.base) (hc : cells + 1 ≤ mc) (hs : slots + 6 ≤ ms) :
    W p l e R s m args below meth c H locs cells slots (vx_MQ below Qc XC args s mc ms free) (F0 m pc ls rest) := by
  intro T hT X
  have htr : e.platform.stackTraces = false := (show e.platform.stackTraces = l.stackTraces by rw [X.admits.platform]).trans hl
  have Y := vx_rebase X (R' := { frames := R.frames, locals := R.locals, cells := 1, slots := 6 }) (Nat.le_refl _) (Nat.le_refl _) hRcells hRslots
  obtain ⟨s', hA⟩ : ∃ z, z = (T.setVm s.vm).setFrames (.invoking m args :: below) := ⟨_, rfl⟩
  rw [← hA] at Y
  have hvm : s'.vm = s.vm := by rw [hA]; rfl
  have hhp : s'.heap = H := by rw [hA]; exact hT
  have hW0 : s.WarmedH s'.vm := by rw [hvm]; exact State.WarmedH.refl s
  have hat' : ∀ w ∈ vx_atS own ic cls names, w.before args s' = true := fun w hw => vx_ot_at hW0 hvm.symm (hgood w (List.mem_cons_of_mem _ (List.mem_cons_of_mem _ hw))) (hat w hw)
  have hk' : (Cond.classLink own ik cls).before args s' = true := vx_ot_at hW0 hvm.symm (hgood _ List.mem_cons_self) hk
  have hini' : (Cond.initialized cls).before args s' = true := vx_ot_at hW0 hvm.symm (hgood _ (List.mem_cons_of_mem _ List.mem_cons_self)) hini
  have hU' : vx_Zq Bundle.tN "UNASSIGNED_STACK" Bundle.steD A s' s'.heap := by rw [hhp]; exact vx_Zq.moved hW0.alike (hU.kept hS.2.1)
  have hN' : vx_Zq Bundle.tN "SUPPRESSED_SENTINEL" Bundle.listD A s' s'.heap := by rw [hhp]; exact vx_Zq.moved hW0.alike (hN.kept hS.2.1)
  have h : ∀ w ∈ Bundle.ownAtoms own ic cls names, w.before args s' = true := vx_own hat' (vx_isRefq hU'.1) (vx_isRefq hN'.1) hU'.2.word hN'.2.word
  have hown' : s'.vm.findClass own = some m.cls := by rw [hvm]; exact hown
  have hins : (Cond.instantiable cls 6).before args s' = true := h _ (by simp [Bundle.ownAtoms])
  obtain ⟨vm₁, cX, kX, hfX, hkX, -, -, X₁, st1⟩ := Y.newCold hexec (own := own) (C := cls) (index := ik) (n := 6) hown' hk' hins hini'
    (g := F0 m pc ls rest) rfl (by rw [hb]; exact d0) (Nat.le_refl _) (Nat.le_refl _)
  generalize hT1 : (T.setVm vm₁).pushCell { cls := cX, slots := kX.instanceTypes.map defaultValue, vm := .none } = T1 at X₁ st1
  have hcat : (Value.ref T.heap.size).category = 1 := rfl
  have hcellA : T1.heap[T.heap.size]? = some (freshCell cX kX) := by rw [← hT1]; exact State.heap_pushCell_size _ _
  have d3' : decode c.code (pc + 3) = .ok (.dup, 1) := by rw [hb]; exact d3
  have d4' : decode c.code (pc + 4) = .ok (.ldc is, 2) := by rw [hb]; exact d4
  have hstr' : vk_R own is text sa s' := vk_R.warm hW0 hstr
  obtain ⟨U, hsteps, hrun, hend, hW, hsame, ce, hce, hO⟩ := X₁.ctorThrowS hexec htr (own := own) (cls := cls) (names := names) (ic := ic) hown' hcls hnames h (fun x hx => nomatch hx) hfX hkX hcellA (by rw [hhp, hT]; exact Nat.le_refl _) (msg := .ref sa) rfl
    (g := { method := m, pc := pc + 6, locals := ls, stack := .ref sa :: .ref T.heap.size :: .ref T.heap.size :: rest, locked := none }) rfl hsize rfl rfl (rest := rest) rfl
    (by rw [hb]; exact d6) (by rw [hb]; exact d9) hout hRframes (by simp only [List.map_cons, List.sum_cons, hcat]; omega) hlocks
  obtain ⟨f1, f2⟩ := vx_frame hsame
  rw [hhp] at f1 f2
  have hWs : s.WarmedH U.vm := State.WarmedH.trans hW0 hW
  have hcl : s.vm.findClass cls = some ce.cls := by
    have h9 := hO.cls
    rw [hvm] at h9
    exact h9
  have hall : s.sameButNew ({ U with vm := s.vm } : State) locs mc ms := by
    subst hA
    obtain ⟨e1, e2⟩ := hsame
    rw [State.setFrames_setFrames] at e1
    have h2 : (T.setVm s.vm).sameButNew ({ U with vm := s.vm } : State) [] (0 + 1) (0 + 6) := ⟨e1, e2⟩
    have h3 := X.same.trans h2
    rw [List.append_nil] at h3
    exact h3.mono hc hs
  refine ⟨U, ?_, .threw T.heap.size, hrun, hend, Or.inr ⟨T.heap.size, rfl, cls, ce, locs, hx U hWs.alike f1 (fun q hq => f2 q hq (fun z hz => nomatch hz)), hce, hO.vm, hcl, hWs, hall, hf⟩⟩
  refine st1 _ ?_
  show Steps p.tables e below (T1.setTop { method := m, pc := pc + 3, locals := ls, stack := .ref T.heap.size :: rest, locked := none }) _
  jvm_step X₁.here [X₁.here.top, hexec, d3', Value.category]
  exact X₁.ldcString hexec (own := own) (text := text) (index := is) (a := sa) hown' hstr'.1 hstr'.2
    (g := { method := m, pc := pc + 4, locals := ls, stack := .ref T.heap.size :: .ref T.heap.size :: rest, locked := none }) rfl d4' _ hsteps
/-- 'throw new E("text")', the text by a wide index -/
theorem vx_throwSW {cc : ByteArray} {pc : Nat} (hexec : p.tables.exec = Jvm.exec) (hb : c.code = cc) (hl : l.stackTraces = false) {own cls text : String} {names : List String} {ik is ic mc ms sa : Nat} {A : Nat → Prop}
    (hown : s.vm.findClass own = some m.cls) (hcls : Bundle.fit cls = true) (hnames : ∀ n ∈ names, Bundle.fit n = true)
    (hk : (Cond.classLink own ik cls).before args s = true) (hini : (Cond.initialized cls).before args s = true) (hstr : vk_R own is text sa s) (hat : ∀ w ∈ vx_atS own ic cls names, w.before args s = true)
    (hgood : ∀ w ∈ Cond.classLink own ik cls :: Cond.initialized cls :: vx_atS own ic cls names, vx_ot w = true)
    (hU : vx_Zq Bundle.tN "UNASSIGNED_STACK" Bundle.steD A s s.heap) (hN : vx_Zq Bundle.tN "SUPPRESSED_SENTINEL" Bundle.listD A s s.heap) (hS : va_S A s.heap H locs) (hsize : ls.size = c.maxLocals)
    (d0 : decode cc pc = .ok (.new ik, 3)) (d3 : decode cc (pc + 3) = .ok (.dup, 1)) (d4 : decode cc (pc + 4) = .ok (.ldc_w is, 3)) (d7 : decode cc (pc + 7) = .ok (.invokespecial ic, 3)) (d10 : decode cc (pc + 10) = .ok (.athrow, 1))
    (hout : ∀ x ∈ c.exceptionTable.toList, covers x (pc + 10) = false)
    (hRframes : names.length + 3 < R.frames) (hRlocals : (rest.map fun v => v.category).sum + (13 * (names.length + 1) + 43) ≤ R.locals) (hRcells : cells + 1 ≤ R.cells) (hRslots : slots + 6 ≤ R.slots) (hlocks : meth.locks = false)
    (hx : ∀ t : State, s.vm.Alike t.vm → H.size ≤ t.heap.size → (∀ q : Nat, q < H.size → t.heap[q]? = H[q]?) → XC cls s t)
    (hf : ∀ z ∈ locs, free z.base) (hc : cells + 1 ≤ mc) (hs : slots + 6 ≤ ms) :
    W p l e R s m args below meth c H locs cells slots (vx_MQ below Qc XC args s mc ms free) (F0 m pc ls rest) := by
  intro T hT X
  have htr : e.platform.stackTraces = false := (show e.platform.stackTraces = l.stackTraces by rw [X.admits.platform]).trans hl
  have Y := vx_rebase X (R' := { frames := R.frames, locals := R.locals, cells := 1, slots := 6 }) (Nat.le_refl _) (Nat.le_refl _) hRcells hRslots
  obtain ⟨s', hA⟩ : ∃ z, z = (T.setVm s.vm).setFrames (.invoking m args :: below) := ⟨_, rfl⟩
  rw [← hA] at Y
  have hvm : s'.vm = s.vm := by rw [hA]; rfl
  have hhp : s'.heap = H := by rw [hA]; exact hT
  have hW0 : s.WarmedH s'.vm := by rw [hvm]; exact State.WarmedH.refl s
  have hat' : ∀ w ∈ vx_atS own ic cls names, w.before args s' = true := fun w hw => vx_ot_at hW0 hvm.symm (hgood w (List.mem_cons_of_mem _ (List.mem_cons_of_mem _ hw))) (hat w hw)
  have hk' : (Cond.classLink own ik cls).before args s' = true := vx_ot_at hW0 hvm.symm (hgood _ List.mem_cons_self) hk
  have hini' : (Cond.initialized cls).before args s' = true := vx_ot_at hW0 hvm.symm (hgood _ (List.mem_cons_of_mem _ List.mem_cons_self)) hini
  have hU' : vx_Zq Bundle.tN "UNASSIGNED_STACK" Bundle.steD A s' s'.heap := by rw [hhp]; exact vx_Zq.moved hW0.alike (hU.kept hS.2.1)
  have hN' : vx_Zq Bundle.tN "SUPPRESSED_SENTINEL" Bundle.listD A s' s'.heap := by rw [hhp]; exact vx_Zq.moved hW0.alike (hN.kept hS.2.1)
  have h : ∀ w ∈ Bundle.ownAtoms own ic cls names, w.before args s' = true := vx_own hat' (vx_isRefq hU'.1) (vx_isRefq hN'.1) hU'.2.word hN'.2.word
  have hown' : s'.vm.findClass own = some m.cls := by rw [hvm]; exact hown
  have hins : (Cond.instantiable cls 6).before args s' = true := h _ (by simp [Bundle.ownAtoms])
  obtain ⟨vm₁, cX, kX, hfX, hkX, -, -, X₁, st1⟩ := Y.newCold hexec (own := own) (C := cls) (index := ik) (n := 6) hown' hk' hins hini'
    (g := F0 m pc ls rest) rfl (by rw [hb]; exact d0) (Nat.le_refl _) (Nat.le_refl _)
  generalize hT1 : (T.setVm vm₁).pushCell { cls := cX, slots := kX.instanceTypes.map defaultValue, vm := .none } = T1 at X₁ st1
  have hcat : (Value.ref T.heap.size).category = 1 := rfl
  have hcellA : T1.heap[T.heap.size]? = some (freshCell cX kX) := by rw [← hT1]; exact State.heap_pushCell_size _ _
  have d3' : decode c.code (pc + 3) = .ok (.dup, 1) := by rw [hb]; exact d3
  have d4' : decode c.code (pc + 4) = .ok (.ldc_w is, 3) := by rw [hb]; exact d4
  have hstr' : vk_R own is text sa s' := vk_R.warm hW0 hstr
  obtain ⟨U, hsteps, hrun, hend, hW, hsame, ce, hce, hO⟩ := X₁.ctorThrowS hexec htr (own := own) (cls := cls) (names := names) (ic := ic) hown' hcls hnames h (fun x hx => nomatch hx) hfX hkX hcellA (by rw [hhp, hT]; exact Nat.le_refl _) (msg := .ref sa) rfl
    (g := { method := m, pc := pc + 7, locals := ls, stack := .ref sa :: .ref T.heap.size :: .ref T.heap.size :: rest, locked := none }) rfl hsize rfl rfl (rest := rest) rfl
    (by rw [hb]; exact d7) (by rw [hb]; exact d10) hout hRframes (by simp only [List.map_cons, List.sum_cons, hcat]; omega) hlocks
  obtain ⟨f1, f2⟩ := vx_frame hsame
  rw [hhp] at f1 f2
  have hWs : s.WarmedH U.vm := State.WarmedH.trans hW0 hW
  have hcl : s.vm.findClass cls = some ce.cls := by
    have h9 := hO.cls
    rw [hvm] at h9
    exact h9
  have hall : s.sameButNew ({ U with vm := s.vm } : State) locs mc ms := by
    subst hA
    obtain ⟨e1, e2⟩ := hsame
    rw [State.setFrames_setFrames] at e1
    have h2 : (T.setVm s.vm).sameButNew ({ U with vm := s.vm } : State) [] (0 + 1) (0 + 6) := ⟨e1, e2⟩
    have h3 := X.same.trans h2
    rw [List.append_nil] at h3
    exact h3.mono hc hs
  refine ⟨U, ?_, .threw T.heap.size, hrun, hend, Or.inr ⟨T.heap.size, rfl, cls, ce, locs, hx U hWs.alike f1 (fun q hq => f2 q hq (fun z hz => nomatch hz)), hce, hO.vm, hcl, hWs, hall, hf⟩⟩
  refine st1 _ ?_
  show Steps p.tables e below (T1.setTop { method := m, pc := pc + 3, locals := ls, stack := .ref T.heap.size :: rest, locked := none }) _
  jvm_step X₁.here [X₁.here.top, hexec, d3', Value.category]
  exact X₁.ldcStringW hexec (own := own) (text := text) (index := is) (a := sa) hown' hstr'.1 hstr'.2
    (g := { method := m, pc := pc + 4, locals := ls, stack := .ref T.heap.size :: .ref T.heap.size :: rest, locked := none }) rfl d4' _ hsteps
end Ends
section Bodies
variable {l : Launch}
theorem vx_ofW {y : MethodName} {ws ws' : List Cond} {rm : Room} {Pc : Array Value → State → Prop} {Qc : Array Value → State → Outcome → State → Prop} {XC : String → State → State → Prop} {mc ms : Nat} {free : Addr → Prop} {cc : ByteArray} {maxL : Nat} {ret : Option FieldType}
    (hy : plainName y.cls = true) (hw : ws = Cond.code y cc maxL ret :: ws')
    (body : ∀ p e s m args below meth c s₁, BodyLoose p l y (headSpec ws rm) cc maxL ret e s m args below meth c s₁ → c.maxLocals = maxL → (∀ x ∈ c.exceptionTable.toList, False) → Pc args s →
      W p l e (headSpec ws rm).room s m args below meth c s.heap [] 0 0 (vx_MQ below Qc XC args s mc ms free) (entryFrame m args maxL)) : vx_Met l y ws rm Pc Qc XC mc ms free := by
  refine MetFree.of_bodyS (code := cc) (maxLocals := maxL) (ret := ret) hy ?_ ?_
  · intro args s m h hn
    obtain ⟨meth, c, h1, h2, h3, h4, h5, h6, -, -⟩ := Cond.code_spec hn (atoms_spec (ws := ws) h _ (by rw [hw]; exact List.mem_cons_self))
    exact ⟨meth, c, h1, h2, h3, h4, h5, h6⟩
  · intro p e s m args below meth c s₁ B hml hP _
    have hh0 : s₁.heap = s.heap := by rw [B.state]; rfl
    have ht : ∀ x ∈ c.exceptionTable.toList, False := by
      obtain ⟨meth9, c9, h1, h2, -, -, -, -, h7, -⟩ := Cond.code_spec B.named (atoms_spec (ws := ws) B.pre _ (by rw [hw]; exact List.mem_cons_self))
      cases Option.some.inj (h1.symm.trans B.method)
      cases Option.some.inj (h2.symm.trans (Stand.of_body B).code)
      intro x hx
      rw [Array.isEmpty_iff.mp h7] at hx
      cases hx
    obtain ⟨t, a1, o, b1, b2, b3⟩ := body p e s m args below meth c s₁ B hml ht hP s₁ hh0 (Stand.of_body B)
    exact ⟨t, o, a1, b1, b2, b3⟩
/-- the table of a body with handlers -/
theorem vx_table {p : Program} {x y : MethodName} {S : Spec} {cc bytes : ByteArray} {maxL maxL' : Nat} {ret ret' : Option FieldType} {e : Env} {s s₁ : State} {m : MethodId} {args : Array Value} {below : List Frame} {meth : Method} {c : Code} {hh : List (Nat × Nat × Nat × Nat)}
    (B : BodyLoose p l y S cc maxL ret e s m args below meth c s₁) (h : (Cond.codeWith y bytes maxL' ret' hh).before args s = true) : c.exceptionTable.toList = tableOf hh := by
  obtain ⟨m9, meth9, c9, hn9, h1, h2, -, -, h6, -⟩ := Cond.codeWith_spec h
  cases Option.some.inj (hn9.symm.trans B.named)
  cases Option.some.inj (h1.symm.trans B.method)
  cases Option.some.inj (h2.symm.trans (Stand.of_body B).code)
  rw [← h6, table_eq]
end Bodies
end VXA
/-! ===== END ===== -/
/-! ===== BEGIN a static call of a method with an exception table ===== -/
section VXS
variable {p : Program} {l : Launch} {e : Env} {R : Room} {s : State} {m : MethodId} {args : Array Value} {below : List Frame} {meth : Method} {c : Code} {T : State} {H : Heap} {locs : List Loc} {cells slots : Nat}
abbrev vx_CSW (R : Room) (s : State) (args : Array Value) (own : String) (index : Nat) (y : MethodName) (bytes : ByteArray) (maxL : Nat) (ret : Option FieldType) (hh : List (Nat × Nat × Nat × Nat)) (ws : List Cond) (rm : Room) (mc ms n : Nat) : Prop :=
  (rm.cells = mc ∧ rm.slots = ms ∧ rm.frames + 1 ≤ R.frames ∧ 8 + (maxL + 11) + rm.locals ≤ R.locals ∧ (∀ w ∈ ws, ∀ (a' : Array Value) (U : State), s.WarmedH U.vm → w.before a' U = true) ∧ Cond.codeWith y bytes maxL ret hh ∈ ws) ∧
  (Cond.codeWith y bytes maxL ret hh).before args s = true ∧ (Cond.initialized y.cls).before args s = true ∧ (y.cls ≠ "java/lang/invoke/MethodHandle" ∧ y.cls ≠ "java/lang/invoke/VarHandle") ∧
  (∀ sig, parseMethodDescriptor y.desc = some sig → n = sig.parameters.length) ∧ (Cond.methodLink own index y).before args s = true ∧ (Cond.static y).before args s = true
theorem vx_cwSW {own : String} {index maxL mc ms : Nat} {y : MethodName} {bytes : ByteArray} {ret : Option FieldType} {hh : List (Nat × Nat × Nat × Nat)} {Ts ws ws' : List Cond} {rm : Room} (n : Nat) (ht : ∀ w ∈ Ts, w.before args s = true) (hT : GoodIn Ts (va_wsS own index y ws)) (hw : ws = Cond.codeWith y bytes maxL ret hh :: ws') (hrc : rm.cells = mc) (hrs : rm.slots = ms)
    (hd : y.cls ≠ "java/lang/invoke/MethodHandle" ∧ y.cls ≠ "java/lang/invoke/VarHandle" ∧ (parseMethodDescriptor y.desc).map (fun d => d.parameters.length) = some n) (hR : rm.frames + 1 ≤ R.frames ∧ 8 + (maxL + 11) + rm.locals ≤ R.locals) :
    vx_CSW R s args own index y bytes maxL ret hh ws rm mc ms n := by
  have ok : ∀ w ∈ va_wsS own index y ws, w.before args s = true := fun w h => ht w (hT w h).1
  have hG : GoodIn Ts ws := fun w h => hT w (by unfold va_wsS; exact List.mem_append_right _ h)
  have hc : Cond.codeWith y bytes maxL ret hh ∈ ws := by rw [hw]; exact List.mem_cons_self
  refine ⟨⟨hrc, hrs, hR.1, hR.2, pay_in ht hG, hc⟩, ht _ (hG _ hc).1, ok _ (by simp [va_wsS]), ⟨hd.1, hd.2.1⟩, fun sig h => ?_, ok _ (by simp [va_wsS]), ok _ (by simp [va_wsS])⟩
  have h2 := hd.2.2
  rw [h] at h2
  exact (Option.some.inj h2).symm
theorem vx_callSW (X : Stand p l e R s m args below meth c T locs cells slots) (hexec : p.tables.exec = Jvm.exec) {own : String} {index : Nat} {y : MethodName} {bytes : ByteArray} {maxL : Nat} {ret : Option FieldType} {hh : List (Nat × Nat × Nat × Nat)}
    (hown : s.vm.findClass own = some m.cls) (hlink : (Cond.methodLink own index y).before args s = true) (hstat : (Cond.static y).before args s = true) (hinit : (Cond.initialized y.cls).before args s = true)
    (hcode : (Cond.codeWith y bytes maxL ret hh).before args s = true) (hy : y.cls ≠ "java/lang/invoke/MethodHandle" ∧ y.cls ≠ "java/lang/invoke/VarHandle")
    {W9 : Nat} {Pre : Pt → Array Value → Prop} {Post : Pt → Array Value → Option Value → Pt → Prop} (hK : Back l R p e below s args y 3 W9 Pre Post)
    {g : JFrame} (hg : g.method = m) (hsize : g.locals.size = c.maxLocals) {argsL rest : List Value} (hlen : ∀ sig, parseMethodDescriptor y.desc = some sig → argsL.length = sig.parameters.length)
    (hstack : g.stack = argsL.reverse ++ rest) (hW : 2 * g.monitorRoom + (rest.map fun v => v.category).sum ≤ W9) (hdg : decode c.code g.pc = .ok (.invokestatic index, 3))
    (hpre : ∀ vm₁, s.WarmedH vm₁ → Pre ⟨T.setVm vm₁, locs, cells, slots⟩ argsL.toArray) :
    ∃ (v : Option Value) (vm₁ : Vm) (B : Pt), s.WarmedH vm₁ ∧ Stand p l e R s m args below meth c B.U B.locs B.cells B.slots ∧ Post ⟨T.setVm vm₁, locs, cells, slots⟩ argsL.toArray v B ∧
      ∀ target, Steps p.tables e below (B.U.setTop { g with pc := g.pc + 3, stack := v.toList ++ rest }) target → Steps p.tables e below (T.setTop g) target := by
  obtain ⟨mk, methM, cM, hnamed, hmethM, -, -, -, -, -, -, hsigM⟩ := Cond.codeWith_spec hcode
  have hstatic : methM.isStatic = true := Cond.static_spec hnamed hmethM hstat
  obtain ⟨kP, hkP, -⟩ := className_of_methodNamed hnamed
  have hinitP : kP.init = .initialized := Cond.initialized_spec (findClass_of_methodNamed hnamed) hkP hinit
  obtain ⟨vm₁, X₁, hstep₁⟩ := X.invokestatic hexec hown hlink hnamed hmethM hstatic hkP hinitP hy (g := g) hg (argsL := argsL) (rest := rest) (hlen _ hsigM) hstack hdg
  obtain ⟨v, B, X', hpost, hsteps⟩ := hK m meth c ⟨T.setVm vm₁, locs, cells, slots⟩ { g with stack := rest } (.invokestatic index) mk argsL.toArray X₁ hg hsize hdg hW (X₁.named hnamed) (hpre vm₁ X₁.warmed)
  exact ⟨v, vm₁, B, X₁.warmed, X', hpost, fun target h => hstep₁ _ fun acts => by rw [doInvoke_state]; exact hsteps.trans h⟩
theorem vx_runSW {y : MethodName} {bytes cc : ByteArray} {maxL nL mc ms n index : Nat} {ret : Option FieldType} {hh : List (Nat × Nat × Nat × Nat)} {ws : List Cond} {rm : Room} {Pc : Array Value → State → Prop} {Qc : Array Value → State → Outcome → State → Prop} {free : Addr → Prop} {Ts : List Cond} {own : String} {As rest : List Value} {g : JFrame}
    (S : CallFix p m c cc nL s args Ts own) (hM : Met l y ws rm Pc Qc mc ms free) (cw : vx_CSW R s args own index y bytes maxL ret hh ws rm mc ms n) (hp : PreS s H Pc As)
    (hg : g.method = m) (hn : As.length = n) (hsize : g.locals.size = nL) (hstack : g.stack = As.reverse ++ rest) (hW : 2 * g.monitorRoom + (rest.map fun v => v.category).sum ≤ 8) (hdg : decode cc g.pc = .ok (.invokestatic index, 3)) (hf : cells + mc ≤ R.cells ∧ slots + ms ≤ R.slots) :
    va_Run p l e R s m args below meth c H locs cells slots mc ms g rest (Qc As.toArray) (free) := by
  obtain ⟨⟨hrc, hrs, hfr, hlo, hws, hcw⟩, hcode, hini, hy, hlen, hl, hstt⟩ := cw
  have hK : Back l R p e below s args y 3 8 (PreOf R mc ms Pc) (PostOf Qc mc ms free) := va_backW (hh := hh) (bytes := bytes) (maxL := maxL) (ret := ret) hM hp.1 hrc hrs hfr hlo hws hcw (fun a' U hW => word_at hW (Or.inl (by first | rfl | simp [Cond.onTables, Cond.keeps, Cond.steady])) hini)
  obtain ⟨hx, hb, hml, ho, -⟩ := S
  intro T hT X
  obtain ⟨v, vm₁, ⟨U', l2, c2, s2⟩, hW₁, X', ⟨g', mk, t, L, e1, e2, hq, h1, hL, h2, h3⟩, st⟩ := vx_callSW X hx (hh := hh) (bytes := bytes) (maxL := maxL) (ret := ret) ho hl hstt hini hcode hy hK hg (hsize.trans hml.symm) (argsL := As) (rest := rest) (fun sig h => hn.trans (hlen sig h)) hstack hW (by rw [hb]; exact hdg)
    (fun vm₁ hW₁ => ⟨hf.1, hf.2, hp.2 (T.setVm vm₁) hT hW₁⟩)
  dsimp only [Pt.U, Pt.locs, Pt.cells, Pt.slots] at X' e1 e2 h1 h2 h3 st
  subst h1; subst h2; subst h3
  exact ⟨v, (T.setVm vm₁).calling g' mk As.toArray, t, U', L, hT, X', hL, e1, e2, hq, st⟩
/-- not caught here, past rows that name other classes: it goes on to the caller -/
theorem vx_outP {p : Program} {l : Launch} {e : Env} {R : Room} {s : State} {m : MethodId} {args : Array Value} {below : List Frame} {meth : Method} {c : Code} {H : Heap} {locs : List Loc} {cells slots : Nat} {free : Addr → Prop} {ls : Array Slot} {rest : List Value} {Qc : Array Value → State → Outcome → State → Prop} {XC : String → State → State → Prop}
    {pc : Nat} {own E : String} {ce : Cell} {q : Addr} {mc ms : Nat} (hown : s.vm.findClass own = some m.cls) (hlocks : meth.locks = false)
    (hpass : ∀ z ∈ c.exceptionTable.toList, covers z pc = false ∨ (z.catchType ≠ 0 ∧ ∃ nm : String, (Cond.classLink own z.catchType nm).before args s = true ∧ va_Nc E nm s)) (hcell : H[q]? = some ce) (hv : ce.vm = .none) (hcl : s.vm.findClass E = some ce.cls)
    (hx : ∀ t : State, t.heap = H → s.vm.Alike t.vm → XC E s t) (hf : ∀ z ∈ locs, free z.base) (hc : cells ≤ mc) (hs : slots ≤ ms) :
    vx_W p l e R s m args below meth c H locs cells slots (vx_MQ below Qc XC args s mc ms free) (F0 m pc ls rest) q := by
  intro T hT X
  have hpl : e.platform.magicAccessors = ({} : Platform).magicAccessors := by rw [X.admits.platform]
  obtain ⟨vm', hW', X', st⟩ := X.outThrough hlocks q (g := F0 m pc ls rest) rfl rfl rfl (cell := ce) (by rw [hT]; exact hcell) (by rw [hv]; rfl)
    (by obtain ⟨k9, h9, -⟩ := Vm.findClass_spec hcl; exact ⟨k9, h9⟩) (fun z hz => by
      rcases hpass z hz with h | ⟨hz0, nm, hl1, hn1⟩
      · exact Or.inl h
      · obtain ⟨c6, hc6, hcl6⟩ := Cond.classLink_spec hown hl1 e.platform hpl
        obtain ⟨a8, b8, h1, h2, h3⟩ := hn1
        cases Option.some.inj (h1.symm.trans hcl)
        cases Option.some.inj (h2.symm.trans hc6)
        exact Or.inr ⟨hz0, _, hcl6, h3⟩)
  obtain ⟨g₀, hfr⟩ := X'.frames_eq
  have hcell9 : ((T.setVm vm').setFrames (.throwing q :: below)).heap[q]? = some ce := by
    show T.heap[q]? = some ce
    rw [hT]; exact hcell
  have hend : Ended ((T.setVm vm').setFrames (.throwing q :: below)) below (.threw q) := State.frames_setFrames _ (State.cur_lt_of_frames hfr)
  refine ⟨(T.setVm vm').setFrames (.throwing q :: below), ?_, .threw q, X'.here.running, hend, Or.inr ⟨q, rfl, E, ce, locs, hx _ hT (X'.ends _).1.alike, hcell9, hv, hcl, (X'.ends _).1, (X'.ends _).2.mono hc hs, hf⟩⟩
  rw [X.pushThrowing_eq]
  exact st
/-- a thing of a world lies in the heap -/
theorem vx_lt {D : va_G} {cl : List vw_C} {ws : va_W} {H1 : Heap} (h : va_P D cl ws H1) {k : Nat} {q : Nat × va_E} (hk : ws[k]? = some q) : q.1 < H1.size := (h k q hk).lt
end VXS
/-! ===== END ===== -/
/-! ===== BEGIN methods with a table of their own: called by a name, returning or throwing ===== -/
section VXH
/-! vx_backW, vx_callVX, vx_callSX, vx_callVW, vx_runVW, vx_runVX, vx_runSX, vx_ofWH follow the same proofs as their sisters above (Free/Laws.lean, Shelf42/LK1.lean); vx_outP calls Shelf42/NT130.lean (outThrough). -/
section
variable {l : Launch} {R : Room} {p : Program} {e : Env} {below : List Frame} {s : State} {sargs : Array Value} {y : MethodName} {len W9 : Nat}
theorem vx_backW {ws : List Cond} {rm : Room} {Pc : Array Value → State → Prop} {Qc : Array Value → State → Outcome → State → Prop} {XC : String → State → State → Prop} {mc ms : Nat} {free : Addr → Prop} {bytes : ByteArray} {maxL : Nat} {ret : Option FieldType} {hh : List (Nat × Nat × Nat × Nat)}
    (hM : vx_Met l y ws rm Pc Qc XC mc ms free) (hblind : FrameBlind Pc) (hrc : rm.cells = mc) (hrs : rm.slots = ms)
    (hframes : rm.frames + 1 ≤ R.frames) (hlocals : W9 + (maxL + 11) + rm.locals ≤ R.locals)
    (hws : ∀ w ∈ ws, ∀ a' U, s.WarmedH U.vm → w.before a' U = true) (hcode : Cond.codeWith y bytes maxL ret hh ∈ ws) (hinit : ∀ a' U, s.WarmedH U.vm → (Cond.initialized y.cls).before a' U = true) :
    vx_Back l R p e below s sargs y len W9 (PreOf R mc ms Pc) (PostOf Qc mc ms free) (vx_Post XC mc ms free) := by
  intro m meth c A g ig mk a X hg hsize hdg hW hn hp
  have h1 : (headSpec ws rm).pre.before a A.U = true := atoms_intro fun w hw => hws w hw _ _ X.warmed
  have h2 : (Cond.codeWith y bytes maxL ret hh).before a A.U = true := hws _ hcode _ _ X.warmed
  have h3 : (Cond.initialized y.cls).before a A.U = true := hinit _ _ X.warmed
  have h4 : A.cells + (headSpec ws rm).room.cells ≤ R.cells := by rw [show (headSpec ws rm).room.cells = mc from hrc]; exact hp.1
  have h5 : A.slots + (headSpec ws rm).room.slots ≤ R.slots := by rw [show (headSpec ws rm).room.slots = ms from hrs]; exact hp.2.1
  have hPc : Pc a (A.U.calling g mk a) := hblind _ _ _ _ hp.2.2
  obtain ⟨U, Ls, c0, s0⟩ := A
  dsimp only [Pt.U, Pt.locs, Pt.cells, Pt.slots] at h1 h2 h3 h4 h5 X hn hPc ⊢
  obtain ⟨m9, methY, cY, hn9, hmY, hcY, -, hlY, -⟩ := Cond.codeWith_spec h2
  cases Option.some.inj (hn9.symm.trans hn)
  obtain ⟨kY, hkY, -⟩ := className_of_methodNamed hn
  have hinitY : kY.init = .initialized := Cond.initialized_spec (findClass_of_methodNamed hn) hkY h3
  have h : At U g.method c below := by rw [hg]; exact X.here
  have hlocals9 : W9 + (maxL + 11) + (headSpec ws rm).room.locals ≤ R.locals := hlocals
  have happ : (headSpec ws rm).appliesLoose y e.platform (U.calling g mk a) = true :=
    Spec.appliesLoose_calling (g := g) h hdg hn hkY hinitY
      (X.room_calling (g := g) (R' := (headSpec ws rm).room) hsize hmY hcY hframes (by rw [hlY]; omega) h4 h5) h1
  obtain ⟨mid, hmid⟩ := h.above
  have hfr : (U.setTop g).frames = (.java g :: mid) ++ below := by rw [State.frames_setTop' g h.top, hmid]; rfl
  obtain ⟨o, s₂, hsteps, -, hend, hq⟩ := Steps.callFree hM p X.admits X.cas X.clock (acts := []) hfr happ hPc trivial
  have hq' : vx_Q Qc XC mc ms free a (U.calling g mk a) o s₂ := hq
  rw [State.frames_setTop' g h.top] at hend
  obtain ⟨g₀, hg0⟩ := Option.isSome_iff_exists.mp h.top
  obtain ⟨r, hr⟩ := State.topJava?_eq_some.mp hg0
  have hr' : (({ U with heap := s₂.heap, slotsUsed := s₂.slotsUsed } : State).setVm s₂.vm).frames = .java g₀ :: r := hr
  rcases hq' with ⟨hqc, L, hfe, hL⟩ | ⟨q, rfl, E, ce, L, hx, hce, hcv, hcl, hW₂, hsm, hL⟩
  · obtain ⟨⟨v, rfl⟩, hW₂, e2, q2, q3, q4, q5, q6⟩ := id hfe
    have e3 : s₂ = ({ (U.calling g mk a).setFrames s₂.frames with heap := s₂.heap, slotsUsed := s₂.slotsUsed } : State).setVm s₂.vm := by
      have : s₂ = ({ s₂ with vm := (U.calling g mk a).vm } : State).setVm s₂.vm := rfl
      rw [e2] at this
      exact this
    obtain ⟨c₂, i₂, len₂, hc₂, hd₂, hf₂⟩ := hend
    have hW' : U.WarmedH s₂.vm := hW₂
    have hcc : c₂ = c := by
      have h1 : s₂.code? g.method = U.code? g.method := by
        rw [State.code?_eq, State.code?_eq, hW'.alike.method?]
      exact Option.some.inj (hc₂.symm.trans (h1.trans h.code))
    subst hcc
    have hlen : len₂ = len := by rw [hdg] at hd₂; cases hd₂; rfl
    subst hlen
    have hs₂ : s₂ = (({ U with heap := s₂.heap, slotsUsed := s₂.slotsUsed } : State).setVm s₂.vm).setTop { g with pc := g.pc + len₂, stack := v.toList ++ g.stack } := by
      refine e3.trans ?_
      rw [hf₂, State.calling_eq h.top, State.setFrames_setFrames, State.setTop_of_frames _ hr', hr]
      rfl
    have hsame : U.sameButNew ({ U with heap := s₂.heap, slotsUsed := s₂.slotsUsed } : State) L mc ms := by
      refine ⟨?_, q2, q3, q4, q5, q6⟩
      obtain ⟨t, ht, -⟩ := State.frames_cons hr
      show ({ U with heap := s₂.heap, slotsUsed := s₂.slotsUsed } : State) = { U.setFrames U.frames with heap := s₂.heap, slotsUsed := s₂.slotsUsed }
      rw [State.setFrames_self ht]
    subst hg
    refine Or.inl ⟨v, ⟨(({ U with heap := s₂.heap, slotsUsed := s₂.slotsUsed } : State).setVm s₂.vm), Ls ++ L, c0 + mc, s0 + ms⟩,
      ⟨X.admits, X.cas, X.clock, X.frames, X.room, X.hears, X.method, X.code, (X.here.setHeapUsed s₂.heap s₂.slotsUsed).setVm hW'.alike, X.tail, State.WarmedH.trans X.warmed hW', X.limits, X.bytes, X.same.trans (hsame.setVm s.vm)⟩,
      ⟨g, mk, s₂, L, rfl, rfl, hqc, rfl, hL, rfl, rfl⟩, ?_⟩
    show Steps p.tables e below _ ((({ U with heap := s₂.heap, slotsUsed := s₂.slotsUsed } : State).setVm s₂.vm).setTop { g with pc := g.pc + len₂, stack := v.toList ++ g.stack })
    rw [← hs₂]
    exact hsteps
  · obtain ⟨e2, q2, q3, q4, q5, q6⟩ := id hsm
    have e3 : s₂ = ({ (U.calling g mk a).setFrames s₂.frames with heap := s₂.heap, slotsUsed := s₂.slotsUsed } : State).setVm s₂.vm := by
      have : s₂ = ({ s₂ with vm := (U.calling g mk a).vm } : State).setVm s₂.vm := rfl
      rw [e2] at this
      exact this
    have hf₂ : s₂.frames = .throwing q :: .java g :: U.frames.tail := hend
    have hW' : U.WarmedH s₂.vm := hW₂
    have hs₂ : s₂ = ((({ U with heap := s₂.heap, slotsUsed := s₂.slotsUsed } : State).setVm s₂.vm).setTop g).pushFrame (.throwing q) := by
      refine e3.trans ?_
      rw [hf₂, State.calling_eq h.top, State.setFrames_setFrames, State.pushFrame, State.frames_setTop _ hr', State.setTop_of_frames _ hr', State.setFrames_setFrames, hr]
      rfl
    have hsame : U.sameButNew ({ U with heap := s₂.heap, slotsUsed := s₂.slotsUsed } : State) L mc ms := by
      refine ⟨?_, q2, q3, q4, q5, q6⟩
      obtain ⟨t, ht, -⟩ := State.frames_cons hr
      show ({ U with heap := s₂.heap, slotsUsed := s₂.slotsUsed } : State) = { U.setFrames U.frames with heap := s₂.heap, slotsUsed := s₂.slotsUsed }
      rw [State.setFrames_self ht]
    subst hg
    refine Or.inr ⟨q, ⟨(({ U with heap := s₂.heap, slotsUsed := s₂.slotsUsed } : State).setVm s₂.vm), Ls ++ L, c0 + mc, s0 + ms⟩,
      ⟨X.admits, X.cas, X.clock, X.frames, X.room, X.hears, X.method, X.code, (X.here.setHeapUsed s₂.heap s₂.slotsUsed).setVm hW'.alike, X.tail, State.WarmedH.trans X.warmed hW', X.limits, X.bytes, X.same.trans (hsame.setVm s.vm)⟩,
      ⟨g, mk, s₂, L, E, ce, rfl, rfl, hx, hce, hcv, hcl, rfl, hL, rfl, rfl⟩, ?_⟩
    show Steps p.tables e below _ (((({ U with heap := s₂.heap, slotsUsed := s₂.slotsUsed } : State).setVm s₂.vm).setTop g).pushFrame (.throwing q))
    rw [← hs₂]
    exact hsteps
end
variable {p : Program} {l : Launch} {e : Env} {R : Room} {s : State} {m : MethodId} {args : Array Value} {below : List Frame} {meth : Method} {c : Code} {T : State} {H : Heap} {locs : List Loc} {cells slots : Nat}
theorem vx_callVX (X : Stand p l e R s m args below meth c T locs cells slots) (hexec : p.tables.exec = Jvm.exec) {own C : String} {index : Nat} {y : MethodName} {bytes : ByteArray} {maxL : Nat} {ret : Option FieldType} {hh : List (Nat × Nat × Nat × Nat)}
    (hown : s.vm.findClass own = some m.cls) (hlink : (Cond.methodLink own index y).before args s = true) (hinst : (Cond.instanceMethod y).before args s = true) (hsel : (Cond.selects C y y).before args s = true)
    (hcode : (Cond.codeWith y bytes maxL ret hh).before args s = true) (hy : y.cls ≠ "java/lang/invoke/MethodHandle" ∧ y.cls ≠ "java/lang/invoke/VarHandle")
    {W9 : Nat} {Pre : Pt → Array Value → Prop} {Post : Pt → Array Value → Option Value → Pt → Prop} {PostX : Pt → Array Value → Addr → Pt → Prop} (hK : vx_Back l R p e below s args y 3 W9 Pre Post PostX)
    {b : Addr} {cellB : Cell} (hcell : T.heap[b]? = some cellB) (hobj : cellB.vm.isStatics = false) (hcls : s.vm.findClass C = some cellB.cls)
    {g : JFrame} (hg : g.method = m) (hsize : g.locals.size = c.maxLocals) {argsL rest : List Value} (hlen : ∀ sig, parseMethodDescriptor y.desc = some sig → argsL.length = sig.parameters.length)
    (hstack : g.stack = argsL.reverse ++ .ref b :: rest) (hW : 2 * g.monitorRoom + (rest.map fun v => v.category).sum ≤ W9) (hdg : decode c.code g.pc = .ok (.invokevirtual index, 3))
    (hpre : ∀ vm₁, s.WarmedH vm₁ → Pre ⟨T.setVm vm₁, locs, cells, slots⟩ (Value.ref b :: argsL).toArray) :
    (∃ (v : Option Value) (vm₁ : Vm) (B : Pt), s.WarmedH vm₁ ∧ Stand p l e R s m args below meth c B.U B.locs B.cells B.slots ∧ Post ⟨T.setVm vm₁, locs, cells, slots⟩ (Value.ref b :: argsL).toArray v B ∧
      ∀ target, Steps p.tables e below (B.U.setTop { g with pc := g.pc + 3, stack := v.toList ++ rest }) target → Steps p.tables e below (T.setTop g) target) ∨
    (∃ (q : Addr) (vm₁ : Vm) (B : Pt), s.WarmedH vm₁ ∧ Stand p l e R s m args below meth c B.U B.locs B.cells B.slots ∧ PostX ⟨T.setVm vm₁, locs, cells, slots⟩ (Value.ref b :: argsL).toArray q B ∧
      Steps p.tables e below (T.setTop g) ((B.U.setTop { g with stack := rest }).pushFrame (.throwing q))) := by
  obtain ⟨mk, methM, hnamed, hmethM, hstM, habM⟩ := Cond.instanceMethod_spec hinst
  obtain ⟨m8, methM', cM, hn8, hmethM', -, -, -, -, -, -, hsigM⟩ := Cond.codeWith_spec hcode
  cases Option.some.inj (hn8.symm.trans hnamed)
  cases hmethM.symm.trans hmethM'
  obtain ⟨c2, r2, m2, q1, q2, q3, q4, kP, hkP, hkPi⟩ := Cond.selects_spec hsel
  cases hcls.symm.trans q1
  cases (State.methodFound?_of_named hnamed hy).symm.trans q2
  cases hnamed.symm.trans q3
  have hselP : selectMethod e.platform s.vm cellB.cls mk = .method mk := by rw [Launch.admits_selectMethod X.admits]; exact q4
  obtain ⟨vm₁, X₁, hstep₁⟩ := X.invokevirtual hexec hown hlink hnamed hmethM hstM hkP hkPi hy (a := b) (cell := cellB) hcell
    (fun z h => by rw [h] at hobj; cases hobj) hselP hmethM habM hkP hkPi (g := g) hg (argsL := argsL) (rest := rest) (hlen _ hsigM) hstack hdg
  rcases hK m meth c ⟨T.setVm vm₁, locs, cells, slots⟩ { g with stack := rest } (.invokevirtual index) mk (Value.ref b :: argsL).toArray X₁ hg hsize hdg hW (X₁.named hnamed) (hpre vm₁ X₁.warmed) with ⟨v, B, X', hpost, hsteps⟩ | ⟨q, B, X', hpost, hsteps⟩
  · exact Or.inl ⟨v, vm₁, B, X₁.warmed, X', hpost, fun target h => hstep₁ _ fun acts => by rw [doInvoke_state]; exact hsteps.trans h⟩
  · exact Or.inr ⟨q, vm₁, B, X₁.warmed, X', hpost, hstep₁ _ fun acts => by rw [doInvoke_state]; exact hsteps⟩
theorem vx_callSX (X : Stand p l e R s m args below meth c T locs cells slots) (hexec : p.tables.exec = Jvm.exec) {own : String} {index : Nat} {y : MethodName} {bytes : ByteArray} {maxL : Nat} {ret : Option FieldType} {hh : List (Nat × Nat × Nat × Nat)}
    (hown : s.vm.findClass own = some m.cls) (hlink : (Cond.methodLink own index y).before args s = true) (hstat : (Cond.static y).before args s = true) (hinit : (Cond.initialized y.cls).before args s = true)
    (hcode : (Cond.codeWith y bytes maxL ret hh).before args s = true) (hy : y.cls ≠ "java/lang/invoke/MethodHandle" ∧ y.cls ≠ "java/lang/invoke/VarHandle")
    {W9 : Nat} {Pre : Pt → Array Value → Prop} {Post : Pt → Array Value → Option Value → Pt → Prop} {PostX : Pt → Array Value → Addr → Pt → Prop} (hK : vx_Back l R p e below s args y 3 W9 Pre Post PostX)
    {g : JFrame} (hg : g.method = m) (hsize : g.locals.size = c.maxLocals) {argsL rest : List Value} (hlen : ∀ sig, parseMethodDescriptor y.desc = some sig → argsL.length = sig.parameters.length)
    (hstack : g.stack = argsL.reverse ++ rest) (hW : 2 * g.monitorRoom + (rest.map fun v => v.category).sum ≤ W9) (hdg : decode c.code g.pc = .ok (.invokestatic index, 3))
    (hpre : ∀ vm₁, s.WarmedH vm₁ → Pre ⟨T.setVm vm₁, locs, cells, slots⟩ argsL.toArray) :
    (∃ (v : Option Value) (vm₁ : Vm) (B : Pt), s.WarmedH vm₁ ∧ Stand p l e R s m args below meth c B.U B.locs B.cells B.slots ∧ Post ⟨T.setVm vm₁, locs, cells, slots⟩ argsL.toArray v B ∧
      ∀ target, Steps p.tables e below (B.U.setTop { g with pc := g.pc + 3, stack := v.toList ++ rest }) target → Steps p.tables e below (T.setTop g) target) ∨
    (∃ (q : Addr) (vm₁ : Vm) (B : Pt), s.WarmedH vm₁ ∧ Stand p l e R s m args below meth c B.U B.locs B.cells B.slots ∧ PostX ⟨T.setVm vm₁, locs, cells, slots⟩ argsL.toArray q B ∧
      Steps p.tables e below (T.setTop g) ((B.U.setTop { g with stack := rest }).pushFrame (.throwing q))) := by
  obtain ⟨mk, methM, cM, hnamed, hmethM, -, -, -, -, -, -, hsigM⟩ := Cond.codeWith_spec hcode
  have hstatic : methM.isStatic = true := Cond.static_spec hnamed hmethM hstat
  obtain ⟨kP, hkP, -⟩ := className_of_methodNamed hnamed
  have hinitP : kP.init = .initialized := Cond.initialized_spec (findClass_of_methodNamed hnamed) hkP hinit
  obtain ⟨vm₁, X₁, hstep₁⟩ := X.invokestatic hexec hown hlink hnamed hmethM hstatic hkP hinitP hy (g := g) hg (argsL := argsL) (rest := rest) (hlen _ hsigM) hstack hdg
  rcases hK m meth c ⟨T.setVm vm₁, locs, cells, slots⟩ { g with stack := rest } (.invokestatic index) mk argsL.toArray X₁ hg hsize hdg hW (X₁.named hnamed) (hpre vm₁ X₁.warmed) with ⟨v, B, X', hpost, hsteps⟩ | ⟨q, B, X', hpost, hsteps⟩
  · exact Or.inl ⟨v, vm₁, B, X₁.warmed, X', hpost, fun target h => hstep₁ _ fun acts => by rw [doInvoke_state]; exact hsteps.trans h⟩
  · exact Or.inr ⟨q, vm₁, B, X₁.warmed, X', hpost, hstep₁ _ fun acts => by rw [doInvoke_state]; exact hsteps⟩
theorem vx_callVW (X : Stand p l e R s m args below meth c T locs cells slots) (hexec : p.tables.exec = Jvm.exec) {own C : String} {index : Nat} {y : MethodName} {bytes : ByteArray} {maxL : Nat} {ret : Option FieldType} {hh : List (Nat × Nat × Nat × Nat)}
    (hown : s.vm.findClass own = some m.cls) (hlink : (Cond.methodLink own index y).before args s = true) (hinst : (Cond.instanceMethod y).before args s = true) (hsel : (Cond.selects C y y).before args s = true)
    (hcode : (Cond.codeWith y bytes maxL ret hh).before args s = true) (hy : y.cls ≠ "java/lang/invoke/MethodHandle" ∧ y.cls ≠ "java/lang/invoke/VarHandle")
    {W9 : Nat} {Pre : Pt → Array Value → Prop} {Post : Pt → Array Value → Option Value → Pt → Prop} (hK : Back l R p e below s args y 3 W9 Pre Post)
    {b : Addr} {cellB : Cell} (hcell : T.heap[b]? = some cellB) (hobj : cellB.vm.isStatics = false) (hcls : s.vm.findClass C = some cellB.cls)
    {g : JFrame} (hg : g.method = m) (hsize : g.locals.size = c.maxLocals) {argsL rest : List Value} (hlen : ∀ sig, parseMethodDescriptor y.desc = some sig → argsL.length = sig.parameters.length)
    (hstack : g.stack = argsL.reverse ++ .ref b :: rest) (hW : 2 * g.monitorRoom + (rest.map fun v => v.category).sum ≤ W9) (hdg : decode c.code g.pc = .ok (.invokevirtual index, 3))
    (hpre : ∀ vm₁, s.WarmedH vm₁ → Pre ⟨T.setVm vm₁, locs, cells, slots⟩ (Value.ref b :: argsL).toArray) :
    ∃ (v : Option Value) (vm₁ : Vm) (B : Pt), s.WarmedH vm₁ ∧ Stand p l e R s m args below meth c B.U B.locs B.cells B.slots ∧ Post ⟨T.setVm vm₁, locs, cells, slots⟩ (Value.ref b :: argsL).toArray v B ∧
      ∀ target, Steps p.tables e below (B.U.setTop { g with pc := g.pc + 3, stack := v.toList ++ rest }) target → Steps p.tables e below (T.setTop g) target := by
  obtain ⟨mk, methM, hnamed, hmethM, hstM, habM⟩ := Cond.instanceMethod_spec hinst
  obtain ⟨m8, methM', cM, hn8, hmethM', -, -, -, -, -, -, hsigM⟩ := Cond.codeWith_spec hcode
  cases Option.some.inj (hn8.symm.trans hnamed)
  cases hmethM.symm.trans hmethM'
  obtain ⟨c2, r2, m2, q1, q2, q3, q4, kP, hkP, hkPi⟩ := Cond.selects_spec hsel
  cases hcls.symm.trans q1
  cases (State.methodFound?_of_named hnamed hy).symm.trans q2
  cases hnamed.symm.trans q3
  have hselP : selectMethod e.platform s.vm cellB.cls mk = .method mk := by rw [Launch.admits_selectMethod X.admits]; exact q4
  obtain ⟨vm₁, X₁, hstep₁⟩ := X.invokevirtual hexec hown hlink hnamed hmethM hstM hkP hkPi hy (a := b) (cell := cellB) hcell
    (fun z h => by rw [h] at hobj; cases hobj) hselP hmethM habM hkP hkPi (g := g) hg (argsL := argsL) (rest := rest) (hlen _ hsigM) hstack hdg
  obtain ⟨v, B, X', hpost, hsteps⟩ := hK m meth c ⟨T.setVm vm₁, locs, cells, slots⟩ { g with stack := rest } (.invokevirtual index) mk (Value.ref b :: argsL).toArray X₁ hg hsize hdg hW (X₁.named hnamed) (hpre vm₁ X₁.warmed)
  exact ⟨v, vm₁, B, X₁.warmed, X', hpost, fun target h => hstep₁ _ fun acts => by rw [doInvoke_state]; exact hsteps.trans h⟩
abbrev vx_CVW (R : Room) (s : State) (args : Array Value) (own C : String) (index : Nat) (y : MethodName) (bytes : ByteArray) (maxL : Nat) (ret : Option FieldType) (hh : List (Nat × Nat × Nat × Nat)) (ws : List Cond) (rm : Room) (mc ms n : Nat) : Prop :=
  (rm.cells = mc ∧ rm.slots = ms ∧ rm.frames + 1 ≤ R.frames ∧ 8 + (maxL + 11) + rm.locals ≤ R.locals ∧ (∀ w ∈ ws, ∀ (a' : Array Value) (U : State), s.WarmedH U.vm → w.before a' U = true) ∧ Cond.codeWith y bytes maxL ret hh ∈ ws) ∧
  (Cond.codeWith y bytes maxL ret hh).before args s = true ∧ (Cond.initialized y.cls).before args s = true ∧ (y.cls ≠ "java/lang/invoke/MethodHandle" ∧ y.cls ≠ "java/lang/invoke/VarHandle") ∧
  (∀ sig, parseMethodDescriptor y.desc = some sig → n = sig.parameters.length) ∧ (Cond.methodLink own index y).before args s = true ∧ (Cond.instanceMethod y).before args s = true ∧ (Cond.selects C y y).before args s = true
theorem vx_cwVW {own C : String} {index maxL mc ms : Nat} {y : MethodName} {bytes : ByteArray} {ret : Option FieldType} {hh : List (Nat × Nat × Nat × Nat)} {Ts ws ws' : List Cond} {rm : Room} (n : Nat) (ht : ∀ w ∈ Ts, w.before args s = true) (hT : GoodIn Ts (wsV own index C y ws)) (hw : ws = Cond.codeWith y bytes maxL ret hh :: ws') (hrc : rm.cells = mc) (hrs : rm.slots = ms)
    (hd : y.cls = C ∧ y.cls ≠ "java/lang/invoke/MethodHandle" ∧ y.cls ≠ "java/lang/invoke/VarHandle" ∧ (parseMethodDescriptor y.desc).map (fun d => d.parameters.length) = some n) (hR : rm.frames + 1 ≤ R.frames ∧ 8 + (maxL + 11) + rm.locals ≤ R.locals) :
    vx_CVW R s args own C index y bytes maxL ret hh ws rm mc ms n := by
  obtain ⟨hC, hd⟩ := hd
  subst hC
  have ok : ∀ w ∈ wsV own index y.cls y ws, w.before args s = true := fun w h => ht w (hT w h).1
  have hG : GoodIn Ts ws := fun w h => hT w (by unfold wsV; exact List.mem_append_right _ h)
  have hc : Cond.codeWith y bytes maxL ret hh ∈ ws := by rw [hw]; exact List.mem_cons_self
  refine ⟨⟨hrc, hrs, hR.1, hR.2, pay_in ht hG, hc⟩, ht _ (hG _ hc).1, ok _ (by simp [wsV]), ⟨hd.1, hd.2.1⟩, fun sig h => ?_, ok _ (by simp [wsV]), ok _ (by simp [wsV]), ok _ (by simp [wsV])⟩
  have h2 := hd.2.2
  rw [h] at h2
  exact (Option.some.inj h2).symm
theorem vx_runVW {y : MethodName} {bytes cc : ByteArray} {maxL nL mc ms n index : Nat} {ret : Option FieldType} {hh : List (Nat × Nat × Nat × Nat)} {ws : List Cond} {rm : Room} {Pc : Array Value → State → Prop} {Qc : Array Value → State → Outcome → State → Prop} {free : Addr → Prop} {Ts : List Cond} {own C : String} {b : Addr} {As rest : List Value} {g : JFrame}
    (S : CallFix p m c cc nL s args Ts own) (hM : Met l y ws rm Pc Qc mc ms free) (cw : vx_CVW R s args own C index y bytes maxL ret hh ws rm mc ms n) (hp : PreV s H C b Pc As)
    (hg : g.method = m) (hn : As.length = n) (hsize : g.locals.size = nL) (hstack : g.stack = As.reverse ++ .ref b :: rest) (hW : 2 * g.monitorRoom + (rest.map fun v => v.category).sum ≤ 8) (hdg : decode cc g.pc = .ok (.invokevirtual index, 3)) (hf : cells + mc ≤ R.cells ∧ slots + ms ≤ R.slots) :
    va_Run p l e R s m args below meth c H locs cells slots mc ms g rest (Qc (Value.ref b :: As).toArray) free := by
  obtain ⟨⟨hrc, hrs, hfr, hlo, hws, hcw⟩, hcode, hini, hy, hlen, hl, hin, hse⟩ := cw
  have hK : Back l R p e below s args y 3 8 (PreOf R mc ms Pc) (PostOf Qc mc ms free) := va_backW (hh := hh) (bytes := bytes) (maxL := maxL) (ret := ret) hM hp.1 hrc hrs hfr hlo hws hcw (fun a' U hW => word_at hW (Or.inl (by first | rfl | simp [Cond.onTables, Cond.keeps, Cond.steady])) hini)
  obtain ⟨hx, hb, hml, ho, -⟩ := S
  obtain ⟨-, ⟨cellB, hcB, hoB, hclB⟩, hPc⟩ := hp
  intro T hT X
  obtain ⟨v, vm₁, ⟨U', l2, c2, s2⟩, hW₁, X', ⟨g', mk, t, L, e1, e2, hq, h1, hL, h2, h3⟩, st⟩ := vx_callVW X hx (C := C) (hh := hh) (bytes := bytes) (maxL := maxL) (ret := ret) ho hl hin hse hcode hy hK (by rw [hT]; exact hcB) hoB hclB hg (hsize.trans hml.symm) (argsL := As) (rest := rest) (fun sig h => hn.trans (hlen sig h)) hstack hW (by rw [hb]; exact hdg)
    (fun vm₁ hW₁ => ⟨hf.1, hf.2, hPc (T.setVm vm₁) hT hW₁⟩)
  dsimp only [Pt.U, Pt.locs, Pt.cells, Pt.slots] at X' e1 e2 h1 h2 h3 st
  subst h1; subst h2; subst h3
  exact ⟨v, (T.setVm vm₁).calling g' mk (Value.ref b :: As).toArray, t, U', L, hT, X', hL, e1, e2, hq, st⟩
section
variable {y : MethodName} {bytes cc : ByteArray} {maxL nL mc ms n index : Nat} {ret : Option FieldType} {ws : List Cond} {rm : Room} {Pc : Array Value → State → Prop} {Qc : Array Value → State → Outcome → State → Prop} {XC : String → State → State → Prop} {free : Addr → Prop} {Ts : List Cond} {own C : String} {b : Addr} {As rest : List Value} {g : JFrame}
theorem vx_runVX {hh : List (Nat × Nat × Nat × Nat)} (S : CallFix p m c cc nL s args Ts own) (hM : vx_Met l y ws rm Pc Qc XC mc ms free) (cw : vx_CVW R s args own C index y bytes maxL ret hh ws rm mc ms n) (hp : PreV s H C b Pc As)
    (hg : g.method = m) (hn : As.length = n) (hsize : g.locals.size = nL) (hstack : g.stack = As.reverse ++ .ref b :: rest) (hW : 2 * g.monitorRoom + (rest.map fun v => v.category).sum ≤ 8) (hdg : decode cc g.pc = .ok (.invokevirtual index, 3)) (hf : cells + mc ≤ R.cells ∧ slots + ms ≤ R.slots) :
    vx_Run p l e R s m args below meth c H locs cells slots mc ms g rest (Qc (Value.ref b :: As).toArray) XC free := by
  obtain ⟨⟨hrc, hrs, hfr, hlo, hws, hcw⟩, hcode, hini, hy, hlen, hl, hin, hse⟩ := cw
  have hK : vx_Back l R p e below s args y 3 8 (PreOf R mc ms Pc) (PostOf Qc mc ms free) (vx_Post XC mc ms free) := vx_backW (hh := hh) (bytes := bytes) (maxL := maxL) (ret := ret) hM hp.1 hrc hrs hfr hlo hws hcw (fun a' U hW => word_at hW (Or.inl (by first | rfl | simp [Cond.onTables, Cond.keeps, Cond.steady])) hini)
  obtain ⟨hx, hb, hml, ho, -⟩ := S
  obtain ⟨-, ⟨cellB, hcB, hoB, hclB⟩, hPc⟩ := hp
  intro T hT X
  rcases vx_callVX X hx (C := C) (hh := hh) (bytes := bytes) (maxL := maxL) (ret := ret) ho hl hin hse hcode hy hK (by rw [hT]; exact hcB) hoB hclB hg (hsize.trans hml.symm) (argsL := As) (rest := rest) (fun sig h => hn.trans (hlen sig h)) hstack hW (by rw [hb]; exact hdg)
    (fun vm₁ hW₁ => ⟨hf.1, hf.2, hPc (T.setVm vm₁) hT hW₁⟩) with ⟨v, vm₁, ⟨U', l2, c2, s2⟩, hW₁, X', ⟨g', mk, t, L, e1, e2, hq, h1, hL, h2, h3⟩, st⟩ | ⟨q, vm₁, ⟨U', l2, c2, s2⟩, hW₁, X', ⟨g', mk, t, L, E, ce, e1, e2, hq, hce, hcv, hcl, h1, hL, h2, h3⟩, st⟩
  · dsimp only [Pt.U, Pt.locs, Pt.cells, Pt.slots] at X' e1 e2 h1 h2 h3 st
    subst h1; subst h2; subst h3
    exact Or.inl ⟨v, (T.setVm vm₁).calling g' mk (Value.ref b :: As).toArray, t, U', L, hT, X', hL, e1, e2, hq, st⟩
  · dsimp only [Pt.U, Pt.locs, Pt.cells, Pt.slots] at X' e1 e2 h1 h2 h3 st hcl
    subst h1; subst h2; subst h3
    exact Or.inr ⟨q, (T.setVm vm₁).calling g' mk (Value.ref b :: As).toArray, t, U', L, E, ce, hT, X', hL, e1, e2, hq, hce, hcv, vx_cls hW₁ hcl, st⟩
theorem vx_runSX {hh : List (Nat × Nat × Nat × Nat)} (S : CallFix p m c cc nL s args Ts own) (hM : vx_Met l y ws rm Pc Qc XC mc ms free) (cw : vx_CSW R s args own index y bytes maxL ret hh ws rm mc ms n) (hp : PreS s H Pc As)
    (hg : g.method = m) (hn : As.length = n) (hsize : g.locals.size = nL) (hstack : g.stack = As.reverse ++ rest) (hW : 2 * g.monitorRoom + (rest.map fun v => v.category).sum ≤ 8) (hdg : decode cc g.pc = .ok (.invokestatic index, 3)) (hf : cells + mc ≤ R.cells ∧ slots + ms ≤ R.slots) :
    vx_Run p l e R s m args below meth c H locs cells slots mc ms g rest (Qc As.toArray) XC free := by
  obtain ⟨⟨hrc, hrs, hfr, hlo, hws, hcw⟩, hcode, hini, hy, hlen, hl, hstt⟩ := cw
  have hK : vx_Back l R p e below s args y 3 8 (PreOf R mc ms Pc) (PostOf Qc mc ms free) (vx_Post XC mc ms free) := vx_backW (hh := hh) (bytes := bytes) (maxL := maxL) (ret := ret) hM hp.1 hrc hrs hfr hlo hws hcw (fun a' U hW => word_at hW (Or.inl (by first | rfl | simp [Cond.onTables, Cond.keeps, Cond.steady])) hini)
  obtain ⟨hx, hb, hml, ho, -⟩ := S
  intro T hT X
  rcases vx_callSX X hx (hh := hh) (bytes := bytes) (maxL := maxL) (ret := ret) ho hl hstt hini hcode hy hK hg (hsize.trans hml.symm) (argsL := As) (rest := rest) (fun sig h => hn.trans (hlen sig h)) hstack hW (by rw [hb]; exact hdg)
    (fun vm₁ hW₁ => ⟨hf.1, hf.2, hp.2 (T.setVm vm₁) hT hW₁⟩) with ⟨v, vm₁, ⟨U', l2, c2, s2⟩, hW₁, X', ⟨g', mk, t, L, e1, e2, hq, h1, hL, h2, h3⟩, st⟩ | ⟨q, vm₁, ⟨U', l2, c2, s2⟩, hW₁, X', ⟨g', mk, t, L, E, ce, e1, e2, hq, hce, hcv, hcl, h1, hL, h2, h3⟩, st⟩
  · dsimp only [Pt.U, Pt.locs, Pt.cells, Pt.slots] at X' e1 e2 h1 h2 h3 st
    subst h1; subst h2; subst h3
    exact Or.inl ⟨v, (T.setVm vm₁).calling g' mk As.toArray, t, U', L, hT, X', hL, e1, e2, hq, st⟩
  · dsimp only [Pt.U, Pt.locs, Pt.cells, Pt.slots] at X' e1 e2 h1 h2 h3 st hcl
    subst h1; subst h2; subst h3
    exact Or.inr ⟨q, (T.setVm vm₁).calling g' mk As.toArray, t, U', L, E, ce, hT, X', hL, e1, e2, hq, hce, hcv, vx_cls hW₁ hcl, st⟩
end
end VXH
theorem vx_ofWH {l : Launch} {y : MethodName} {ws ws' : List Cond} {rm : Room} {Pc : Array Value → State → Prop} {Qc : Array Value → State → Outcome → State → Prop} {XC : String → State → State → Prop} {mc ms : Nat} {free : Addr → Prop} {cc : ByteArray} {maxL : Nat} {ret : Option FieldType} {hh : List (Nat × Nat × Nat × Nat)}
    (hy : plainName y.cls = true) (hw : ws = Cond.codeWith y cc maxL ret hh :: ws')
    (body : ∀ p e s m args below meth c s₁, BodyLoose p l y (headSpec ws rm) cc maxL ret e s m args below meth c s₁ → c.maxLocals = maxL → Pc args s →
      W p l e (headSpec ws rm).room s m args below meth c s.heap [] 0 0 (vx_MQ below Qc XC args s mc ms free) (entryFrame m args maxL)) : vx_Met l y ws rm Pc Qc XC mc ms free := by
  refine MetFree.of_bodyS (code := cc) (maxLocals := maxL) (ret := ret) hy ?_ ?_
  · intro args s m h hn
    obtain ⟨m9, meth, c, hn9, h1, h2, h3, h4, -, h5, h6, -⟩ := Cond.codeWith_spec (atoms_spec (ws := ws) h _ (by rw [hw]; exact List.mem_cons_self))
    cases hn.symm.trans hn9
    exact ⟨meth, c, h1, h2, h3, h4, h5, h6⟩
  · intro p e s m args below meth c s₁ B hml hP _
    have hh0 : s₁.heap = s.heap := by rw [B.state]; rfl
    obtain ⟨t, a1, o, b1, b2, b3⟩ := body p e s m args below meth c s₁ B hml hP s₁ hh0 (Stand.of_body B)
    exact ⟨t, o, a1, b1, b2, b3⟩
/-! ===== END ===== -/
end
section
-- ===== PART A: goes FIRST, ahead of the names: the tables' words, and 'selects' of the private methods out of them =====
/-- a private method of a class that the tables say can be made, by its rows of tables_1 -/
def lw_okq (q : MethodName × Nat) : Prop := (q.1.cls ≠ "java/lang/invoke/MethodHandle" ∧ q.1.cls ≠ "java/lang/invoke/VarHandle") ∧ Cond.instantiable q.1.cls q.2 ∈ tables_1 ∧ Cond.privateMethod q.1 ∈ tables_1 ∧ Cond.instanceMethod q.1 ∈ tables_1
theorem lw_p0 : lw_okq (⟨"PickedForms", "weight", "()I"⟩, 11) := ⟨⟨by decide +kernel, by decide +kernel⟩, List.mem_of_getElem? (i := 22) (by decide +kernel), List.mem_of_getElem? (i := 324) (by decide +kernel), List.mem_of_getElem? (i := 325) (by decide +kernel)⟩
theorem lw_p1 : lw_okq (⟨"PickedForms", "countNumber", "(I)I"⟩, 11) := ⟨⟨by decide +kernel, by decide +kernel⟩, List.mem_of_getElem? (i := 22) (by decide +kernel), List.mem_of_getElem? (i := 351) (by decide +kernel), List.mem_of_getElem? (i := 352) (by decide +kernel)⟩
theorem lw_p2 : lw_okq (⟨"PickedForms", "usedBits", "()I"⟩, 11) := ⟨⟨by decide +kernel, by decide +kernel⟩, List.mem_of_getElem? (i := 22) (by decide +kernel), List.mem_of_getElem? (i := 355) (by decide +kernel), List.mem_of_getElem? (i := 356) (by decide +kernel)⟩
theorem lw_p3 : lw_okq (⟨"PickedForms", "readShape", "(I)V"⟩, 11) := ⟨⟨by decide +kernel, by decide +kernel⟩, List.mem_of_getElem? (i := 22) (by decide +kernel), List.mem_of_getElem? (i := 359) (by decide +kernel), List.mem_of_getElem? (i := 360) (by decide +kernel)⟩
theorem lw_p4 : lw_okq (⟨"PickedForms$Shape", "addUnlike", "(I)V"⟩, 8) := ⟨⟨by decide +kernel, by decide +kernel⟩, List.mem_of_getElem? (i := 127) (by decide +kernel), List.mem_of_getElem? (i := 387) (by decide +kernel), List.mem_of_getElem? (i := 388) (by decide +kernel)⟩
theorem lw_p5 : lw_okq (⟨"PickedForms", "hashOfValues", "(J)J"⟩, 11) := ⟨⟨by decide +kernel, by decide +kernel⟩, List.mem_of_getElem? (i := 22) (by decide +kernel), List.mem_of_getElem? (i := 414) (by decide +kernel), List.mem_of_getElem? (i := 415) (by decide +kernel)⟩
theorem lw_p6 : lw_okq (⟨"PickedForms", "valueNumber", "(II)I"⟩, 11) := ⟨⟨by decide +kernel, by decide +kernel⟩, List.mem_of_getElem? (i := 22) (by decide +kernel), List.mem_of_getElem? (i := 418) (by decide +kernel), List.mem_of_getElem? (i := 419) (by decide +kernel)⟩
theorem lw_p7 : lw_okq (⟨"PickedForms", "looksInBlock", "(II)I"⟩, 11) := ⟨⟨by decide +kernel, by decide +kernel⟩, List.mem_of_getElem? (i := 22) (by decide +kernel), List.mem_of_getElem? (i := 427) (by decide +kernel), List.mem_of_getElem? (i := 428) (by decide +kernel)⟩
theorem lw_p8 : lw_okq (⟨"PickedForms", "hashOfBlocks", "(J)J"⟩, 11) := ⟨⟨by decide +kernel, by decide +kernel⟩, List.mem_of_getElem? (i := 22) (by decide +kernel), List.mem_of_getElem? (i := 431) (by decide +kernel), List.mem_of_getElem? (i := 432) (by decide +kernel)⟩
theorem lw_p9 : lw_okq (⟨"PickedForms", "blockNumber", "(II)I"⟩, 11) := ⟨⟨by decide +kernel, by decide +kernel⟩, List.mem_of_getElem? (i := 22) (by decide +kernel), List.mem_of_getElem? (i := 435) (by decide +kernel), List.mem_of_getElem? (i := 436) (by decide +kernel)⟩
theorem lw_p10 : lw_okq (⟨"PickedForms", "readBits", "(I)V"⟩, 11) := ⟨⟨by decide +kernel, by decide +kernel⟩, List.mem_of_getElem? (i := 22) (by decide +kernel), List.mem_of_getElem? (i := 457) (by decide +kernel), List.mem_of_getElem? (i := 458) (by decide +kernel)⟩
theorem lw_p11 : lw_okq (⟨"PickedForms$BitRow", "encodePacked", "([IIILPickedForms$Shape;)V"⟩, 2) := ⟨⟨by decide +kernel, by decide +kernel⟩, List.mem_of_getElem? (i := 230) (by decide +kernel), List.mem_of_getElem? (i := 468) (by decide +kernel), List.mem_of_getElem? (i := 469) (by decide +kernel)⟩
theorem lw_p12 : lw_okq (⟨"PickedForms$BitRow", "field", "(II)V"⟩, 2) := ⟨⟨by decide +kernel, by decide +kernel⟩, List.mem_of_getElem? (i := 230) (by decide +kernel), List.mem_of_getElem? (i := 473) (by decide +kernel), List.mem_of_getElem? (i := 474) (by decide +kernel)⟩
theorem lw_p13 : lw_okq (⟨"PickedForms$BitRow", "encodeRuns", "([III)V"⟩, 2) := ⟨⟨by decide +kernel, by decide +kernel⟩, List.mem_of_getElem? (i := 230) (by decide +kernel), List.mem_of_getElem? (i := 481) (by decide +kernel), List.mem_of_getElem? (i := 482) (by decide +kernel)⟩
theorem lw_p14 : lw_okq (⟨"PickedForms$BitRow", "encodeDeltas", "([IIILPickedForms$Shape;)V"⟩, 2) := ⟨⟨by decide +kernel, by decide +kernel⟩, List.mem_of_getElem? (i := 230) (by decide +kernel), List.mem_of_getElem? (i := 485) (by decide +kernel), List.mem_of_getElem? (i := 486) (by decide +kernel)⟩
theorem lw_p15 : lw_okq (⟨"PickedForms$BitRow", "encodeListed", "([IIILPickedForms$Shape;)V"⟩, 2) := ⟨⟨by decide +kernel, by decide +kernel⟩, List.mem_of_getElem? (i := 230) (by decide +kernel), List.mem_of_getElem? (i := 490) (by decide +kernel), List.mem_of_getElem? (i := 491) (by decide +kernel)⟩
def lw_privs_1 : List (MethodName × Nat) := [(⟨"PickedForms", "weight", "()I"⟩, 11), (⟨"PickedForms", "countNumber", "(I)I"⟩, 11), (⟨"PickedForms", "usedBits", "()I"⟩, 11), (⟨"PickedForms", "readShape", "(I)V"⟩, 11), (⟨"PickedForms$Shape", "addUnlike", "(I)V"⟩, 8), (⟨"PickedForms", "hashOfValues", "(J)J"⟩, 11), (⟨"PickedForms", "valueNumber", "(II)I"⟩, 11), (⟨"PickedForms", "looksInBlock", "(II)I"⟩, 11), (⟨"PickedForms", "hashOfBlocks", "(J)J"⟩, 11), (⟨"PickedForms", "blockNumber", "(II)I"⟩, 11), (⟨"PickedForms", "readBits", "(I)V"⟩, 11), (⟨"PickedForms$BitRow", "encodePacked", "([IIILPickedForms$Shape;)V"⟩, 2), (⟨"PickedForms$BitRow", "field", "(II)V"⟩, 2), (⟨"PickedForms$BitRow", "encodeRuns", "([III)V"⟩, 2), (⟨"PickedForms$BitRow", "encodeDeltas", "([IIILPickedForms$Shape;)V"⟩, 2), (⟨"PickedForms$BitRow", "encodeListed", "([IIILPickedForms$Shape;)V"⟩, 2)]
theorem lw_r1 : ∀ q ∈ lw_privs_1, lw_okq q := List.forall_mem_cons.mpr ⟨lw_p0, List.forall_mem_cons.mpr ⟨lw_p1, List.forall_mem_cons.mpr ⟨lw_p2, List.forall_mem_cons.mpr ⟨lw_p3, List.forall_mem_cons.mpr ⟨lw_p4, List.forall_mem_cons.mpr ⟨lw_p5, List.forall_mem_cons.mpr ⟨lw_p6, List.forall_mem_cons.mpr ⟨lw_p7, List.forall_mem_cons.mpr ⟨lw_p8, List.forall_mem_cons.mpr ⟨lw_p9, List.forall_mem_cons.mpr ⟨lw_p10, List.forall_mem_cons.mpr ⟨lw_p11, List.forall_mem_cons.mpr ⟨lw_p12, List.forall_mem_cons.mpr ⟨lw_p13, List.forall_mem_cons.mpr ⟨lw_p14, List.forall_mem_cons.mpr ⟨lw_p15, fun _ h => absurd h List.not_mem_nil⟩⟩⟩⟩⟩⟩⟩⟩⟩⟩⟩⟩⟩⟩⟩⟩
theorem lw_p16 : lw_okq (⟨"PickedForms$BitRow", "encodePlain", "([III)V"⟩, 2) := ⟨⟨by decide +kernel, by decide +kernel⟩, List.mem_of_getElem? (i := 230) (by decide +kernel), List.mem_of_getElem? (i := 498) (by decide +kernel), List.mem_of_getElem? (i := 499) (by decide +kernel)⟩
theorem lw_p17 : lw_okq (⟨"PickedForms", "splitPlace", "(I)I"⟩, 11) := ⟨⟨by decide +kernel, by decide +kernel⟩, List.mem_of_getElem? (i := 22) (by decide +kernel), List.mem_of_getElem? (i := 502) (by decide +kernel), List.mem_of_getElem? (i := 503) (by decide +kernel)⟩
theorem lw_p18 : lw_okq (⟨"PickedForms", "hashOfMatches", "(JII)J"⟩, 11) := ⟨⟨by decide +kernel, by decide +kernel⟩, List.mem_of_getElem? (i := 22) (by decide +kernel), List.mem_of_getElem? (i := 506) (by decide +kernel), List.mem_of_getElem? (i := 507) (by decide +kernel)⟩
theorem lw_p19 : lw_okq (⟨"PickedForms$Matching", "inForm", "(LPickedForms$Column;IIII)V"⟩, 3) := ⟨⟨by decide +kernel, by decide +kernel⟩, List.mem_of_getElem? (i := 192) (by decide +kernel), List.mem_of_getElem? (i := 516) (by decide +kernel), List.mem_of_getElem? (i := 517) (by decide +kernel)⟩
theorem lw_p20 : lw_okq (⟨"PickedForms$Matching", "byRuns", "([IIIII)V"⟩, 3) := ⟨⟨by decide +kernel, by decide +kernel⟩, List.mem_of_getElem? (i := 192) (by decide +kernel), List.mem_of_getElem? (i := 521) (by decide +kernel), List.mem_of_getElem? (i := 522) (by decide +kernel)⟩
theorem lw_p21 : lw_okq (⟨"PickedForms$Matching", "byRanks", "([IIIII)V"⟩, 3) := ⟨⟨by decide +kernel, by decide +kernel⟩, List.mem_of_getElem? (i := 192) (by decide +kernel), List.mem_of_getElem? (i := 529) (by decide +kernel), List.mem_of_getElem? (i := 530) (by decide +kernel)⟩
theorem lw_p22 : lw_okq (⟨"PickedForms$Matching", "byValues", "([IIIII)V"⟩, 3) := ⟨⟨by decide +kernel, by decide +kernel⟩, List.mem_of_getElem? (i := 192) (by decide +kernel), List.mem_of_getElem? (i := 534) (by decide +kernel), List.mem_of_getElem? (i := 535) (by decide +kernel)⟩
theorem lw_p23 : lw_okq (⟨"PickedForms", "hashOfParting", "(J)J"⟩, 11) := ⟨⟨by decide +kernel, by decide +kernel⟩, List.mem_of_getElem? (i := 22) (by decide +kernel), List.mem_of_getElem? (i := 546) (by decide +kernel), List.mem_of_getElem? (i := 547) (by decide +kernel)⟩
theorem lw_p24 : lw_okq (⟨"PickedForms$Parting", "forget", "(II)V"⟩, 3) := ⟨⟨by decide +kernel, by decide +kernel⟩, List.mem_of_getElem? (i := 212) (by decide +kernel), List.mem_of_getElem? (i := 555) (by decide +kernel), List.mem_of_getElem? (i := 556) (by decide +kernel)⟩
theorem lw_p25 : lw_okq (⟨"PickedForms$Parting", "blockBits", "(I)I"⟩, 3) := ⟨⟨by decide +kernel, by decide +kernel⟩, List.mem_of_getElem? (i := 212) (by decide +kernel), List.mem_of_getElem? (i := 565) (by decide +kernel), List.mem_of_getElem? (i := 566) (by decide +kernel)⟩
theorem lw_p26 : lw_okq (⟨"PickedForms$Parting", "offer", "(III)V"⟩, 3) := ⟨⟨by decide +kernel, by decide +kernel⟩, List.mem_of_getElem? (i := 212) (by decide +kernel), List.mem_of_getElem? (i := 571) (by decide +kernel), List.mem_of_getElem? (i := 572) (by decide +kernel)⟩
theorem lw_p27 : lw_okq (⟨"java/lang/Throwable", "fillInStackTrace", "(I)Ljava/lang/Throwable;"⟩, 6) := ⟨⟨by decide +kernel, by decide +kernel⟩, List.mem_of_getElem? (i := 649) (by decide +kernel), List.mem_of_getElem? (i := 647) (by decide +kernel), List.mem_of_getElem? (i := 648) (by decide +kernel)⟩
theorem lw_p28 : lw_okq (⟨"PickedForms$History", "slotAt", "(I)LPickedForms$Column;"⟩, 3) := ⟨⟨by decide +kernel, by decide +kernel⟩, List.mem_of_getElem? (i := 80) (by decide +kernel), List.mem_of_getElem? (i := 705) (by decide +kernel), List.mem_of_getElem? (i := 706) (by decide +kernel)⟩
theorem lw_p29 : lw_okq (⟨"PickedForms", "takeValue", "(I)V"⟩, 11) := ⟨⟨by decide +kernel, by decide +kernel⟩, List.mem_of_getElem? (i := 22) (by decide +kernel), List.mem_of_getElem? (i := 710) (by decide +kernel), List.mem_of_getElem? (i := 711) (by decide +kernel)⟩
theorem lw_p30 : lw_okq (⟨"PickedForms", "writeAnew", "(I)V"⟩, 11) := ⟨⟨by decide +kernel, by decide +kernel⟩, List.mem_of_getElem? (i := 22) (by decide +kernel), List.mem_of_getElem? (i := 720) (by decide +kernel), List.mem_of_getElem? (i := 721) (by decide +kernel)⟩
theorem lw_p31 : lw_okq (⟨"PickedForms", "outcomeOf", "(II)I"⟩, 11) := ⟨⟨by decide +kernel, by decide +kernel⟩, List.mem_of_getElem? (i := 22) (by decide +kernel), List.mem_of_getElem? (i := 760) (by decide +kernel), List.mem_of_getElem? (i := 761) (by decide +kernel)⟩
def lw_privs_2 : List (MethodName × Nat) := [(⟨"PickedForms$BitRow", "encodePlain", "([III)V"⟩, 2), (⟨"PickedForms", "splitPlace", "(I)I"⟩, 11), (⟨"PickedForms", "hashOfMatches", "(JII)J"⟩, 11), (⟨"PickedForms$Matching", "inForm", "(LPickedForms$Column;IIII)V"⟩, 3), (⟨"PickedForms$Matching", "byRuns", "([IIIII)V"⟩, 3), (⟨"PickedForms$Matching", "byRanks", "([IIIII)V"⟩, 3), (⟨"PickedForms$Matching", "byValues", "([IIIII)V"⟩, 3), (⟨"PickedForms", "hashOfParting", "(J)J"⟩, 11), (⟨"PickedForms$Parting", "forget", "(II)V"⟩, 3), (⟨"PickedForms$Parting", "blockBits", "(I)I"⟩, 3), (⟨"PickedForms$Parting", "offer", "(III)V"⟩, 3), (⟨"java/lang/Throwable", "fillInStackTrace", "(I)Ljava/lang/Throwable;"⟩, 6), (⟨"PickedForms$History", "slotAt", "(I)LPickedForms$Column;"⟩, 3), (⟨"PickedForms", "takeValue", "(I)V"⟩, 11), (⟨"PickedForms", "writeAnew", "(I)V"⟩, 11), (⟨"PickedForms", "outcomeOf", "(II)I"⟩, 11)]
theorem lw_r2 : ∀ q ∈ lw_privs_2, lw_okq q := List.forall_mem_cons.mpr ⟨lw_p16, List.forall_mem_cons.mpr ⟨lw_p17, List.forall_mem_cons.mpr ⟨lw_p18, List.forall_mem_cons.mpr ⟨lw_p19, List.forall_mem_cons.mpr ⟨lw_p20, List.forall_mem_cons.mpr ⟨lw_p21, List.forall_mem_cons.mpr ⟨lw_p22, List.forall_mem_cons.mpr ⟨lw_p23, List.forall_mem_cons.mpr ⟨lw_p24, List.forall_mem_cons.mpr ⟨lw_p25, List.forall_mem_cons.mpr ⟨lw_p26, List.forall_mem_cons.mpr ⟨lw_p27, List.forall_mem_cons.mpr ⟨lw_p28, List.forall_mem_cons.mpr ⟨lw_p29, List.forall_mem_cons.mpr ⟨lw_p30, List.forall_mem_cons.mpr ⟨lw_p31, fun _ h => absurd h List.not_mem_nil⟩⟩⟩⟩⟩⟩⟩⟩⟩⟩⟩⟩⟩⟩⟩⟩
theorem lw_p32 : lw_okq (⟨"PickedForms$Column", "moveSlot", "(II)V"⟩, 9) := ⟨⟨by decide +kernel, by decide +kernel⟩, List.mem_of_getElem? (i := 30) (by decide +kernel), List.mem_of_getElem? (i := 789) (by decide +kernel), List.mem_of_getElem? (i := 790) (by decide +kernel)⟩
theorem lw_p33 : lw_okq (⟨"PickedForms$Text", "addPart", "(II)V"⟩, 5) := ⟨⟨by decide +kernel, by decide +kernel⟩, List.mem_of_getElem? (i := 100) (by decide +kernel), List.mem_of_getElem? (i := 862) (by decide +kernel), List.mem_of_getElem? (i := 863) (by decide +kernel)⟩
theorem lw_p34 : lw_okq (⟨"PickedForms", "matchNumber", "(III)I"⟩, 11) := ⟨⟨by decide +kernel, by decide +kernel⟩, List.mem_of_getElem? (i := 22) (by decide +kernel), List.mem_of_getElem? (i := 941) (by decide +kernel), List.mem_of_getElem? (i := 942) (by decide +kernel)⟩
theorem lw_p35 : lw_okq (⟨"PickedForms", "trialGrowth", "(I)I"⟩, 11) := ⟨⟨by decide +kernel, by decide +kernel⟩, List.mem_of_getElem? (i := 22) (by decide +kernel), List.mem_of_getElem? (i := 953) (by decide +kernel), List.mem_of_getElem? (i := 954) (by decide +kernel)⟩
theorem lw_p36 : lw_okq (⟨"PickedFormsModel", "canWrite", "()Z"⟩, 18) := ⟨⟨by decide +kernel, by decide +kernel⟩, List.mem_of_getElem? (i := 972) (by decide +kernel), List.mem_of_getElem? (i := 1047) (by decide +kernel), List.mem_of_getElem? (i := 1048) (by decide +kernel)⟩
theorem lw_p37 : lw_okq (⟨"PickedFormsModel", "holds", "(I)Z"⟩, 18) := ⟨⟨by decide +kernel, by decide +kernel⟩, List.mem_of_getElem? (i := 972) (by decide +kernel), List.mem_of_getElem? (i := 1051) (by decide +kernel), List.mem_of_getElem? (i := 1052) (by decide +kernel)⟩
theorem lw_p38 : lw_okq (⟨"PickedFormsModel", "save", "()V"⟩, 18) := ⟨⟨by decide +kernel, by decide +kernel⟩, List.mem_of_getElem? (i := 972) (by decide +kernel), List.mem_of_getElem? (i := 1055) (by decide +kernel), List.mem_of_getElem? (i := 1056) (by decide +kernel)⟩
theorem lw_p39 : lw_okq (⟨"PickedFormsModel", "put", "(I)V"⟩, 18) := ⟨⟨by decide +kernel, by decide +kernel⟩, List.mem_of_getElem? (i := 972) (by decide +kernel), List.mem_of_getElem? (i := 1062) (by decide +kernel), List.mem_of_getElem? (i := 1063) (by decide +kernel)⟩
theorem lw_p40 : lw_okq (⟨"PickedFormsModel", "values", "()I"⟩, 18) := ⟨⟨by decide +kernel, by decide +kernel⟩, List.mem_of_getElem? (i := 972) (by decide +kernel), List.mem_of_getElem? (i := 1066) (by decide +kernel), List.mem_of_getElem? (i := 1067) (by decide +kernel)⟩
theorem lw_p41 : lw_okq (⟨"PickedFormsModel", "start", "(I)I"⟩, 18) := ⟨⟨by decide +kernel, by decide +kernel⟩, List.mem_of_getElem? (i := 972) (by decide +kernel), List.mem_of_getElem? (i := 1070) (by decide +kernel), List.mem_of_getElem? (i := 1071) (by decide +kernel)⟩
theorem lw_p42 : lw_okq (⟨"PickedFormsModel", "closeTail", "()V"⟩, 18) := ⟨⟨by decide +kernel, by decide +kernel⟩, List.mem_of_getElem? (i := 972) (by decide +kernel), List.mem_of_getElem? (i := 1074) (by decide +kernel), List.mem_of_getElem? (i := 1075) (by decide +kernel)⟩
theorem lw_p43 : lw_okq (⟨"PickedFormsModel", "writeAnew", "(I)V"⟩, 18) := ⟨⟨by decide +kernel, by decide +kernel⟩, List.mem_of_getElem? (i := 972) (by decide +kernel), List.mem_of_getElem? (i := 1078) (by decide +kernel), List.mem_of_getElem? (i := 1079) (by decide +kernel)⟩
theorem lw_p44 : lw_okq (⟨"PickedFormsModel", "picked", "(II)I"⟩, 18) := ⟨⟨by decide +kernel, by decide +kernel⟩, List.mem_of_getElem? (i := 972) (by decide +kernel), List.mem_of_getElem? (i := 1082) (by decide +kernel), List.mem_of_getElem? (i := 1083) (by decide +kernel)⟩
theorem lw_p45 : lw_okq (⟨"PickedFormsModel", "lightest", "(II)I"⟩, 18) := ⟨⟨by decide +kernel, by decide +kernel⟩, List.mem_of_getElem? (i := 972) (by decide +kernel), List.mem_of_getElem? (i := 1086) (by decide +kernel), List.mem_of_getElem? (i := 1087) (by decide +kernel)⟩
theorem lw_p46 : lw_okq (⟨"PickedFormsModel", "sizeOf", "(III)I"⟩, 18) := ⟨⟨by decide +kernel, by decide +kernel⟩, List.mem_of_getElem? (i := 972) (by decide +kernel), List.mem_of_getElem? (i := 1090) (by decide +kernel), List.mem_of_getElem? (i := 1091) (by decide +kernel)⟩
theorem lw_p47 : lw_okq (⟨"PickedFormsModel", "greatestOf", "(II)I"⟩, 18) := ⟨⟨by decide +kernel, by decide +kernel⟩, List.mem_of_getElem? (i := 972) (by decide +kernel), List.mem_of_getElem? (i := 1094) (by decide +kernel), List.mem_of_getElem? (i := 1095) (by decide +kernel)⟩
def lw_privs_3 : List (MethodName × Nat) := [(⟨"PickedForms$Column", "moveSlot", "(II)V"⟩, 9), (⟨"PickedForms$Text", "addPart", "(II)V"⟩, 5), (⟨"PickedForms", "matchNumber", "(III)I"⟩, 11), (⟨"PickedForms", "trialGrowth", "(I)I"⟩, 11), (⟨"PickedFormsModel", "canWrite", "()Z"⟩, 18), (⟨"PickedFormsModel", "holds", "(I)Z"⟩, 18), (⟨"PickedFormsModel", "save", "()V"⟩, 18), (⟨"PickedFormsModel", "put", "(I)V"⟩, 18), (⟨"PickedFormsModel", "values", "()I"⟩, 18), (⟨"PickedFormsModel", "start", "(I)I"⟩, 18), (⟨"PickedFormsModel", "closeTail", "()V"⟩, 18), (⟨"PickedFormsModel", "writeAnew", "(I)V"⟩, 18), (⟨"PickedFormsModel", "picked", "(II)I"⟩, 18), (⟨"PickedFormsModel", "lightest", "(II)I"⟩, 18), (⟨"PickedFormsModel", "sizeOf", "(III)I"⟩, 18), (⟨"PickedFormsModel", "greatestOf", "(II)I"⟩, 18)]
theorem lw_r3 : ∀ q ∈ lw_privs_3, lw_okq q := List.forall_mem_cons.mpr ⟨lw_p32, List.forall_mem_cons.mpr ⟨lw_p33, List.forall_mem_cons.mpr ⟨lw_p34, List.forall_mem_cons.mpr ⟨lw_p35, List.forall_mem_cons.mpr ⟨lw_p36, List.forall_mem_cons.mpr ⟨lw_p37, List.forall_mem_cons.mpr ⟨lw_p38, List.forall_mem_cons.mpr ⟨lw_p39, List.forall_mem_cons.mpr ⟨lw_p40, List.forall_mem_cons.mpr ⟨lw_p41, List.forall_mem_cons.mpr ⟨lw_p42, List.forall_mem_cons.mpr ⟨lw_p43, List.forall_mem_cons.mpr ⟨lw_p44, List.forall_mem_cons.mpr ⟨lw_p45, List.forall_mem_cons.mpr ⟨lw_p46, List.forall_mem_cons.mpr ⟨lw_p47, fun _ h => absurd h List.not_mem_nil⟩⟩⟩⟩⟩⟩⟩⟩⟩⟩⟩⟩⟩⟩⟩⟩
theorem lw_p48 : lw_okq (⟨"PickedFormsModel", "leastOf", "(II)I"⟩, 18) := ⟨⟨by decide +kernel, by decide +kernel⟩, List.mem_of_getElem? (i := 972) (by decide +kernel), List.mem_of_getElem? (i := 1098) (by decide +kernel), List.mem_of_getElem? (i := 1099) (by decide +kernel)⟩
theorem lw_p49 : lw_okq (⟨"PickedFormsModel", "runsOf", "(II)I"⟩, 18) := ⟨⟨by decide +kernel, by decide +kernel⟩, List.mem_of_getElem? (i := 972) (by decide +kernel), List.mem_of_getElem? (i := 1105) (by decide +kernel), List.mem_of_getElem? (i := 1106) (by decide +kernel)⟩
theorem lw_p50 : lw_okq (⟨"PickedFormsModel", "greatestStep", "(II)I"⟩, 18) := ⟨⟨by decide +kernel, by decide +kernel⟩, List.mem_of_getElem? (i := 972) (by decide +kernel), List.mem_of_getElem? (i := 1109) (by decide +kernel), List.mem_of_getElem? (i := 1110) (by decide +kernel)⟩
theorem lw_p51 : lw_okq (⟨"PickedFormsModel", "step", "(I)I"⟩, 18) := ⟨⟨by decide +kernel, by decide +kernel⟩, List.mem_of_getElem? (i := 972) (by decide +kernel), List.mem_of_getElem? (i := 1113) (by decide +kernel), List.mem_of_getElem? (i := 1114) (by decide +kernel)⟩
theorem lw_p52 : lw_okq (⟨"PickedFormsModel", "unlikeOf", "(II)I"⟩, 18) := ⟨⟨by decide +kernel, by decide +kernel⟩, List.mem_of_getElem? (i := 972) (by decide +kernel), List.mem_of_getElem? (i := 1117) (by decide +kernel), List.mem_of_getElem? (i := 1118) (by decide +kernel)⟩
theorem lw_p53 : lw_okq (⟨"PickedFormsModel", "isFirst", "(II)Z"⟩, 18) := ⟨⟨by decide +kernel, by decide +kernel⟩, List.mem_of_getElem? (i := 972) (by decide +kernel), List.mem_of_getElem? (i := 1121) (by decide +kernel), List.mem_of_getElem? (i := 1122) (by decide +kernel)⟩
theorem lw_p54 : lw_okq (⟨"PickedFormsModel", "bitsOf", "(I)I"⟩, 18) := ⟨⟨by decide +kernel, by decide +kernel⟩, List.mem_of_getElem? (i := 972) (by decide +kernel), List.mem_of_getElem? (i := 1125) (by decide +kernel), List.mem_of_getElem? (i := 1126) (by decide +kernel)⟩
theorem lw_p55 : lw_okq (⟨"PickedFormsModel", "replace", "(II)I"⟩, 18) := ⟨⟨by decide +kernel, by decide +kernel⟩, List.mem_of_getElem? (i := 972) (by decide +kernel), List.mem_of_getElem? (i := 1137) (by decide +kernel), List.mem_of_getElem? (i := 1138) (by decide +kernel)⟩
theorem lw_p56 : lw_okq (⟨"PickedFormsModel", "blockOf", "(I)I"⟩, 18) := ⟨⟨by decide +kernel, by decide +kernel⟩, List.mem_of_getElem? (i := 972) (by decide +kernel), List.mem_of_getElem? (i := 1141) (by decide +kernel), List.mem_of_getElem? (i := 1142) (by decide +kernel)⟩
theorem lw_p57 : lw_okq (⟨"PickedFormsModel", "isBlock", "(I)Z"⟩, 18) := ⟨⟨by decide +kernel, by decide +kernel⟩, List.mem_of_getElem? (i := 972) (by decide +kernel), List.mem_of_getElem? (i := 1149) (by decide +kernel), List.mem_of_getElem? (i := 1150) (by decide +kernel)⟩
theorem lw_p58 : lw_okq (⟨"PickedFormsModel", "takeOut", "(I)V"⟩, 18) := ⟨⟨by decide +kernel, by decide +kernel⟩, List.mem_of_getElem? (i := 972) (by decide +kernel), List.mem_of_getElem? (i := 1157) (by decide +kernel), List.mem_of_getElem? (i := 1158) (by decide +kernel)⟩
theorem lw_p59 : lw_okq (⟨"PickedFormsModel", "gain", "(II)I"⟩, 18) := ⟨⟨by decide +kernel, by decide +kernel⟩, List.mem_of_getElem? (i := 972) (by decide +kernel), List.mem_of_getElem? (i := 1165) (by decide +kernel), List.mem_of_getElem? (i := 1166) (by decide +kernel)⟩
theorem lw_p60 : lw_okq (⟨"PickedFormsModel", "roomFor", "(II)I"⟩, 18) := ⟨⟨by decide +kernel, by decide +kernel⟩, List.mem_of_getElem? (i := 972) (by decide +kernel), List.mem_of_getElem? (i := 1169) (by decide +kernel), List.mem_of_getElem? (i := 1170) (by decide +kernel)⟩
theorem lw_p61 : lw_okq (⟨"PickedFormsModel", "makePlace", "(I)V"⟩, 18) := ⟨⟨by decide +kernel, by decide +kernel⟩, List.mem_of_getElem? (i := 972) (by decide +kernel), List.mem_of_getElem? (i := 1173) (by decide +kernel), List.mem_of_getElem? (i := 1174) (by decide +kernel)⟩
theorem lw_p62 : lw_okq (⟨"PickedFormsModel", "readText", "(Z)Z"⟩, 18) := ⟨⟨by decide +kernel, by decide +kernel⟩, List.mem_of_getElem? (i := 972) (by decide +kernel), List.mem_of_getElem? (i := 1197) (by decide +kernel), List.mem_of_getElem? (i := 1198) (by decide +kernel)⟩
theorem lw_p63 : lw_okq (⟨"PickedFormsModel", "readPart", "()Z"⟩, 18) := ⟨⟨by decide +kernel, by decide +kernel⟩, List.mem_of_getElem? (i := 972) (by decide +kernel), List.mem_of_getElem? (i := 1201) (by decide +kernel), List.mem_of_getElem? (i := 1202) (by decide +kernel)⟩
def lw_privs_4 : List (MethodName × Nat) := [(⟨"PickedFormsModel", "leastOf", "(II)I"⟩, 18), (⟨"PickedFormsModel", "runsOf", "(II)I"⟩, 18), (⟨"PickedFormsModel", "greatestStep", "(II)I"⟩, 18), (⟨"PickedFormsModel", "step", "(I)I"⟩, 18), (⟨"PickedFormsModel", "unlikeOf", "(II)I"⟩, 18), (⟨"PickedFormsModel", "isFirst", "(II)Z"⟩, 18), (⟨"PickedFormsModel", "bitsOf", "(I)I"⟩, 18), (⟨"PickedFormsModel", "replace", "(II)I"⟩, 18), (⟨"PickedFormsModel", "blockOf", "(I)I"⟩, 18), (⟨"PickedFormsModel", "isBlock", "(I)Z"⟩, 18), (⟨"PickedFormsModel", "takeOut", "(I)V"⟩, 18), (⟨"PickedFormsModel", "gain", "(II)I"⟩, 18), (⟨"PickedFormsModel", "roomFor", "(II)I"⟩, 18), (⟨"PickedFormsModel", "makePlace", "(I)V"⟩, 18), (⟨"PickedFormsModel", "readText", "(Z)Z"⟩, 18), (⟨"PickedFormsModel", "readPart", "()Z"⟩, 18)]
theorem lw_r4 : ∀ q ∈ lw_privs_4, lw_okq q := List.forall_mem_cons.mpr ⟨lw_p48, List.forall_mem_cons.mpr ⟨lw_p49, List.forall_mem_cons.mpr ⟨lw_p50, List.forall_mem_cons.mpr ⟨lw_p51, List.forall_mem_cons.mpr ⟨lw_p52, List.forall_mem_cons.mpr ⟨lw_p53, List.forall_mem_cons.mpr ⟨lw_p54, List.forall_mem_cons.mpr ⟨lw_p55, List.forall_mem_cons.mpr ⟨lw_p56, List.forall_mem_cons.mpr ⟨lw_p57, List.forall_mem_cons.mpr ⟨lw_p58, List.forall_mem_cons.mpr ⟨lw_p59, List.forall_mem_cons.mpr ⟨lw_p60, List.forall_mem_cons.mpr ⟨lw_p61, List.forall_mem_cons.mpr ⟨lw_p62, List.forall_mem_cons.mpr ⟨lw_p63, fun _ h => absurd h List.not_mem_nil⟩⟩⟩⟩⟩⟩⟩⟩⟩⟩⟩⟩⟩⟩⟩⟩
theorem lw_p64 : lw_okq (⟨"PickedFormsModel", "readValue", "()Z"⟩, 18) := ⟨⟨by decide +kernel, by decide +kernel⟩, List.mem_of_getElem? (i := 972) (by decide +kernel), List.mem_of_getElem? (i := 1205) (by decide +kernel), List.mem_of_getElem? (i := 1206) (by decide +kernel)⟩
theorem lw_p65 : lw_okq (⟨"PickedFormsModel", "isNext", "(II)Z"⟩, 18) := ⟨⟨by decide +kernel, by decide +kernel⟩, List.mem_of_getElem? (i := 972) (by decide +kernel), List.mem_of_getElem? (i := 1209) (by decide +kernel), List.mem_of_getElem? (i := 1210) (by decide +kernel)⟩
theorem lw_p66 : lw_okq (⟨"PickedFormsModel", "takes", "(I)Z"⟩, 18) := ⟨⟨by decide +kernel, by decide +kernel⟩, List.mem_of_getElem? (i := 972) (by decide +kernel), List.mem_of_getElem? (i := 1213) (by decide +kernel), List.mem_of_getElem? (i := 1214) (by decide +kernel)⟩
theorem lw_p67 : lw_okq (⟨"PickedFormsModel", "readTimes", "()Z"⟩, 18) := ⟨⟨by decide +kernel, by decide +kernel⟩, List.mem_of_getElem? (i := 972) (by decide +kernel), List.mem_of_getElem? (i := 1217) (by decide +kernel), List.mem_of_getElem? (i := 1218) (by decide +kernel)⟩
theorem lw_p68 : lw_okq (⟨"PickedFormsModel", "putAll", "()Z"⟩, 18) := ⟨⟨by decide +kernel, by decide +kernel⟩, List.mem_of_getElem? (i := 972) (by decide +kernel), List.mem_of_getElem? (i := 1221) (by decide +kernel), List.mem_of_getElem? (i := 1222) (by decide +kernel)⟩
theorem lw_p69 : lw_okq (⟨"PickedFormsModel", "valueTold", "(II)I"⟩, 18) := ⟨⟨by decide +kernel, by decide +kernel⟩, List.mem_of_getElem? (i := 972) (by decide +kernel), List.mem_of_getElem? (i := 1245) (by decide +kernel), List.mem_of_getElem? (i := 1246) (by decide +kernel)⟩
theorem lw_p70 : lw_okq (⟨"PickedFormsModel", "looksFor", "(I)I"⟩, 18) := ⟨⟨by decide +kernel, by decide +kernel⟩, List.mem_of_getElem? (i := 972) (by decide +kernel), List.mem_of_getElem? (i := 1249) (by decide +kernel), List.mem_of_getElem? (i := 1250) (by decide +kernel)⟩
theorem lw_p71 : lw_okq (⟨"PickedFormsModel", "blockTold", "(II)I"⟩, 18) := ⟨⟨by decide +kernel, by decide +kernel⟩, List.mem_of_getElem? (i := 972) (by decide +kernel), List.mem_of_getElem? (i := 1257) (by decide +kernel), List.mem_of_getElem? (i := 1258) (by decide +kernel)⟩
theorem lw_p72 : lw_okq (⟨"PickedFormsModel", "layBlock", "(I)V"⟩, 18) := ⟨⟨by decide +kernel, by decide +kernel⟩, List.mem_of_getElem? (i := 972) (by decide +kernel), List.mem_of_getElem? (i := 1269) (by decide +kernel), List.mem_of_getElem? (i := 1270) (by decide +kernel)⟩
theorem lw_p73 : lw_okq (⟨"PickedFormsModel", "layRuns", "(II)V"⟩, 18) := ⟨⟨by decide +kernel, by decide +kernel⟩, List.mem_of_getElem? (i := 972) (by decide +kernel), List.mem_of_getElem? (i := 1273) (by decide +kernel), List.mem_of_getElem? (i := 1274) (by decide +kernel)⟩
theorem lw_p74 : lw_okq (⟨"PickedFormsModel", "lay", "(II)V"⟩, 18) := ⟨⟨by decide +kernel, by decide +kernel⟩, List.mem_of_getElem? (i := 972) (by decide +kernel), List.mem_of_getElem? (i := 1277) (by decide +kernel), List.mem_of_getElem? (i := 1278) (by decide +kernel)⟩
theorem lw_p75 : lw_okq (⟨"PickedFormsModel", "layList", "(II)V"⟩, 18) := ⟨⟨by decide +kernel, by decide +kernel⟩, List.mem_of_getElem? (i := 972) (by decide +kernel), List.mem_of_getElem? (i := 1281) (by decide +kernel), List.mem_of_getElem? (i := 1282) (by decide +kernel)⟩
theorem lw_p76 : lw_okq (⟨"PickedFormsModel", "rankOf", "(III)I"⟩, 18) := ⟨⟨by decide +kernel, by decide +kernel⟩, List.mem_of_getElem? (i := 972) (by decide +kernel), List.mem_of_getElem? (i := 1285) (by decide +kernel), List.mem_of_getElem? (i := 1286) (by decide +kernel)⟩
theorem lw_p77 : lw_okq (⟨"PickedFormsModel", "countTold", "(I)I"⟩, 18) := ⟨⟨by decide +kernel, by decide +kernel⟩, List.mem_of_getElem? (i := 972) (by decide +kernel), List.mem_of_getElem? (i := 1293) (by decide +kernel), List.mem_of_getElem? (i := 1294) (by decide +kernel)⟩
theorem lw_p78 : lw_okq (⟨"PickedFormsModel", "allBits", "()I"⟩, 18) := ⟨⟨by decide +kernel, by decide +kernel⟩, List.mem_of_getElem? (i := 972) (by decide +kernel), List.mem_of_getElem? (i := 1297) (by decide +kernel), List.mem_of_getElem? (i := 1298) (by decide +kernel)⟩
theorem lw_p79 : lw_okq (⟨"PickedFormsModel", "unused", "()I"⟩, 18) := ⟨⟨by decide +kernel, by decide +kernel⟩, List.mem_of_getElem? (i := 972) (by decide +kernel), List.mem_of_getElem? (i := 1301) (by decide +kernel), List.mem_of_getElem? (i := 1302) (by decide +kernel)⟩
def lw_privs_5 : List (MethodName × Nat) := [(⟨"PickedFormsModel", "readValue", "()Z"⟩, 18), (⟨"PickedFormsModel", "isNext", "(II)Z"⟩, 18), (⟨"PickedFormsModel", "takes", "(I)Z"⟩, 18), (⟨"PickedFormsModel", "readTimes", "()Z"⟩, 18), (⟨"PickedFormsModel", "putAll", "()Z"⟩, 18), (⟨"PickedFormsModel", "valueTold", "(II)I"⟩, 18), (⟨"PickedFormsModel", "looksFor", "(I)I"⟩, 18), (⟨"PickedFormsModel", "blockTold", "(II)I"⟩, 18), (⟨"PickedFormsModel", "layBlock", "(I)V"⟩, 18), (⟨"PickedFormsModel", "layRuns", "(II)V"⟩, 18), (⟨"PickedFormsModel", "lay", "(II)V"⟩, 18), (⟨"PickedFormsModel", "layList", "(II)V"⟩, 18), (⟨"PickedFormsModel", "rankOf", "(III)I"⟩, 18), (⟨"PickedFormsModel", "countTold", "(I)I"⟩, 18), (⟨"PickedFormsModel", "allBits", "()I"⟩, 18), (⟨"PickedFormsModel", "unused", "()I"⟩, 18)]
theorem lw_r5 : ∀ q ∈ lw_privs_5, lw_okq q := List.forall_mem_cons.mpr ⟨lw_p64, List.forall_mem_cons.mpr ⟨lw_p65, List.forall_mem_cons.mpr ⟨lw_p66, List.forall_mem_cons.mpr ⟨lw_p67, List.forall_mem_cons.mpr ⟨lw_p68, List.forall_mem_cons.mpr ⟨lw_p69, List.forall_mem_cons.mpr ⟨lw_p70, List.forall_mem_cons.mpr ⟨lw_p71, List.forall_mem_cons.mpr ⟨lw_p72, List.forall_mem_cons.mpr ⟨lw_p73, List.forall_mem_cons.mpr ⟨lw_p74, List.forall_mem_cons.mpr ⟨lw_p75, List.forall_mem_cons.mpr ⟨lw_p76, List.forall_mem_cons.mpr ⟨lw_p77, List.forall_mem_cons.mpr ⟨lw_p78, List.forall_mem_cons.mpr ⟨lw_p79, fun _ h => absurd h List.not_mem_nil⟩⟩⟩⟩⟩⟩⟩⟩⟩⟩⟩⟩⟩⟩⟩⟩
theorem lw_p80 : lw_okq (⟨"PickedFormsModel", "sum", "()I"⟩, 18) := ⟨⟨by decide +kernel, by decide +kernel⟩, List.mem_of_getElem? (i := 972) (by decide +kernel), List.mem_of_getElem? (i := 1305) (by decide +kernel), List.mem_of_getElem? (i := 1306) (by decide +kernel)⟩
theorem lw_p81 : lw_okq (⟨"PickedFormsModel", "matchTold", "(III)I"⟩, 18) := ⟨⟨by decide +kernel, by decide +kernel⟩, List.mem_of_getElem? (i := 972) (by decide +kernel), List.mem_of_getElem? (i := 1317) (by decide +kernel), List.mem_of_getElem? (i := 1318) (by decide +kernel)⟩
theorem lw_p82 : lw_okq (⟨"PickedFormsModel", "looksIn", "(III)I"⟩, 18) := ⟨⟨by decide +kernel, by decide +kernel⟩, List.mem_of_getElem? (i := 972) (by decide +kernel), List.mem_of_getElem? (i := 1321) (by decide +kernel), List.mem_of_getElem? (i := 1322) (by decide +kernel)⟩
theorem lw_p83 : lw_okq (⟨"PickedFormsModel", "bestPlace", "(I)I"⟩, 18) := ⟨⟨by decide +kernel, by decide +kernel⟩, List.mem_of_getElem? (i := 972) (by decide +kernel), List.mem_of_getElem? (i := 1333) (by decide +kernel), List.mem_of_getElem? (i := 1334) (by decide +kernel)⟩
theorem lw_p84 : lw_okq (⟨"PickedFormsModel", "leastTold", "(I)I"⟩, 18) := ⟨⟨by decide +kernel, by decide +kernel⟩, List.mem_of_getElem? (i := 972) (by decide +kernel), List.mem_of_getElem? (i := 1341) (by decide +kernel), List.mem_of_getElem? (i := 1342) (by decide +kernel)⟩
theorem lw_p85 : lw_okq (⟨"PickedFormsModel", "partAll", "()V"⟩, 18) := ⟨⟨by decide +kernel, by decide +kernel⟩, List.mem_of_getElem? (i := 972) (by decide +kernel), List.mem_of_getElem? (i := 1345) (by decide +kernel), List.mem_of_getElem? (i := 1346) (by decide +kernel)⟩
theorem lw_p86 : lw_okq (⟨"PickedFormsModel", "shareTold", "()D"⟩, 18) := ⟨⟨by decide +kernel, by decide +kernel⟩, List.mem_of_getElem? (i := 972) (by decide +kernel), List.mem_of_getElem? (i := 1353) (by decide +kernel), List.mem_of_getElem? (i := 1354) (by decide +kernel)⟩
theorem lw_p87 : lw_okq (⟨"PickedFormsModel", "meanTold", "()F"⟩, 18) := ⟨⟨by decide +kernel, by decide +kernel⟩, List.mem_of_getElem? (i := 972) (by decide +kernel), List.mem_of_getElem? (i := 1361) (by decide +kernel), List.mem_of_getElem? (i := 1362) (by decide +kernel)⟩
theorem lw_p88 : lw_okq (⟨"PickedFormsModel", "mix", "(J)V"⟩, 18) := ⟨⟨by decide +kernel, by decide +kernel⟩, List.mem_of_getElem? (i := 972) (by decide +kernel), List.mem_of_getElem? (i := 1370) (by decide +kernel), List.mem_of_getElem? (i := 1371) (by decide +kernel)⟩
theorem lw_p89 : lw_okq (⟨"PickedFormsModel", "mixBlock", "(I)V"⟩, 18) := ⟨⟨by decide +kernel, by decide +kernel⟩, List.mem_of_getElem? (i := 972) (by decide +kernel), List.mem_of_getElem? (i := 1375) (by decide +kernel), List.mem_of_getElem? (i := 1376) (by decide +kernel)⟩
theorem lw_p90 : lw_okq (⟨"PickedFormsModel", "mixMatch", "(II)V"⟩, 18) := ⟨⟨by decide +kernel, by decide +kernel⟩, List.mem_of_getElem? (i := 972) (by decide +kernel), List.mem_of_getElem? (i := 1379) (by decide +kernel), List.mem_of_getElem? (i := 1380) (by decide +kernel)⟩
def lw_privs_6 : List (MethodName × Nat) := [(⟨"PickedFormsModel", "sum", "()I"⟩, 18), (⟨"PickedFormsModel", "matchTold", "(III)I"⟩, 18), (⟨"PickedFormsModel", "looksIn", "(III)I"⟩, 18), (⟨"PickedFormsModel", "bestPlace", "(I)I"⟩, 18), (⟨"PickedFormsModel", "leastTold", "(I)I"⟩, 18), (⟨"PickedFormsModel", "partAll", "()V"⟩, 18), (⟨"PickedFormsModel", "shareTold", "()D"⟩, 18), (⟨"PickedFormsModel", "meanTold", "()F"⟩, 18), (⟨"PickedFormsModel", "mix", "(J)V"⟩, 18), (⟨"PickedFormsModel", "mixBlock", "(I)V"⟩, 18), (⟨"PickedFormsModel", "mixMatch", "(II)V"⟩, 18)]
theorem lw_r6 : ∀ q ∈ lw_privs_6, lw_okq q := List.forall_mem_cons.mpr ⟨lw_p80, List.forall_mem_cons.mpr ⟨lw_p81, List.forall_mem_cons.mpr ⟨lw_p82, List.forall_mem_cons.mpr ⟨lw_p83, List.forall_mem_cons.mpr ⟨lw_p84, List.forall_mem_cons.mpr ⟨lw_p85, List.forall_mem_cons.mpr ⟨lw_p86, List.forall_mem_cons.mpr ⟨lw_p87, List.forall_mem_cons.mpr ⟨lw_p88, List.forall_mem_cons.mpr ⟨lw_p89, List.forall_mem_cons.mpr ⟨lw_p90, fun _ h => absurd h List.not_mem_nil⟩⟩⟩⟩⟩⟩⟩⟩⟩⟩⟩
def lw_privs : List (MethodName × Nat) := lw_privs_1 ++ (lw_privs_2 ++ (lw_privs_3 ++ (lw_privs_4 ++ (lw_privs_5 ++ (lw_privs_6)))))
def lw_tbl : List Cond := k2_sels lw_privs ++ tables_1
theorem lw_privs_ok : ∀ q ∈ lw_privs, lw_okq q := by
  show ∀ q ∈ lw_privs_1 ++ (lw_privs_2 ++ (lw_privs_3 ++ (lw_privs_4 ++ (lw_privs_5 ++ (lw_privs_6))))), lw_okq q
  exact List.forall_mem_append.mpr ⟨lw_r1, List.forall_mem_append.mpr ⟨lw_r2, List.forall_mem_append.mpr ⟨lw_r3, List.forall_mem_append.mpr ⟨lw_r4, List.forall_mem_append.mpr ⟨lw_r5, lw_r6⟩⟩⟩⟩⟩
/-- the streams that the claim lets the run draw from -/
abbrev lw_cs : List Choice := [Jvm.Choice.named "NaN.bits"]
theorem lw_bits : nanBits ∈ lw_cs := by first | decide | exact List.mem_cons_self | simp [lw_cs, nanBits]
-- ===== end of PART A; then your names; then what follows =====
def RX0 : String := "PickedForms$BitRow"
def TX0 : u_T := fun k => match k with
  | 0 => ("PickedForms$BitRow", "bits", "[I", true)
  | _ => ("PickedForms$BitRow", "length", "I", false)
def tyX0 : Nat → FieldType := fun k => match k with
  | 0 => .array .int
  | _ => .int
abbrev wsX00 : List Cond := u_ws RX0 TX0 2
theorem nmX0 : ∀ a, a < 2 → ∀ b, b < 2 → a ≠ b → (TX0 a).2.1 ≠ (TX0 b).2.1 := by decide +kernel
theorem tyX0_ok : ∀ k, k < 2 → parseFieldDescriptor (TX0 k).2.2.1 = some (tyX0 k) := by decide +kernel
def RX1 : String := "PickedForms$Column"
def TX1 : u_T := fun k => match k with
  | 0 => ("PickedForms$Column", "values", "[I", true)
  | 1 => ("PickedForms$Column", "lengths", "[I", true)
  | 2 => ("PickedForms$Column", "forms", "[I", true)
  | 3 => ("PickedForms$Column", "rooms", "[I", true)
  | 4 => ("PickedForms$Column", "settings", "[I", true)
  | 5 => ("PickedForms$Column", "total", "I", false)
  | 6 => ("PickedForms$Column", "blocks", "I", false)
  | 7 => ("PickedForms$Column", "changedInPlace", "I", false)
  | _ => ("PickedForms$Column", "writtenAnew", "I", false)
def tyX1 : Nat → FieldType := fun k => match k with
  | 0 => .array .int
  | 1 => .array .int
  | 2 => .array .int
  | 3 => .array .int
  | 4 => .array .int
  | 5 => .int
  | 6 => .int
  | 7 => .int
  | _ => .int
abbrev wsX10 : List Cond := u_ws RX1 TX1 9
theorem nmX1 : ∀ a, a < 9 → ∀ b, b < 9 → a ≠ b → (TX1 a).2.1 ≠ (TX1 b).2.1 := by decide +kernel
theorem tyX1_ok : ∀ k, k < 9 → parseFieldDescriptor (TX1 k).2.2.1 = some (tyX1 k) := by decide +kernel
def RX2 : String := "PickedForms$Floats"
def TX2 : u_T := fun k => match k with
  | _ => ("", "", "", false)
def tyX2 : Nat → FieldType := fun k => match k with
  | _ => .int
abbrev wsX20 : List Cond := u_ws RX2 TX2 0
theorem nmX2 : ∀ a, a < 0 → ∀ b, b < 0 → a ≠ b → (TX2 a).2.1 ≠ (TX2 b).2.1 := by decide +kernel
theorem tyX2_ok : ∀ k, k < 0 → parseFieldDescriptor (TX2 k).2.2.1 = some (tyX2 k) := by decide +kernel
def RX3 : String := "PickedForms$History"
def TX3 : u_T := fun k => match k with
  | 0 => ("PickedForms$History", "ring", "[LPickedForms$Column;", true)
  | 1 => ("PickedForms$History", "oldest", "I", false)
  | _ => ("PickedForms$History", "held", "I", false)
def tyX3 : Nat → FieldType := fun k => match k with
  | 0 => .array (.object "PickedForms$Column")
  | 1 => .int
  | _ => .int
abbrev wsX30 : List Cond := u_ws RX3 TX3 3
theorem nmX3 : ∀ a, a < 3 → ∀ b, b < 3 → a ≠ b → (TX3 a).2.1 ≠ (TX3 b).2.1 := by decide +kernel
theorem tyX3_ok : ∀ k, k < 3 → parseFieldDescriptor (TX3 k).2.2.1 = some (tyX3 k) := by decide +kernel
def RX4 : String := "PickedForms$Matching"
def TX4 : u_T := fun k => match k with
  | 0 => ("PickedForms$Matching", "shape", "LPickedForms$Shape;", true)
  | 1 => ("PickedForms$Matching", "hits", "I", false)
  | _ => ("PickedForms$Matching", "looks", "I", false)
def tyX4 : Nat → FieldType := fun k => match k with
  | 0 => .object "PickedForms$Shape"
  | 1 => .int
  | _ => .int
abbrev wsX40 : List Cond := u_ws RX4 TX4 3
theorem nmX4 : ∀ a, a < 3 → ∀ b, b < 3 → a ≠ b → (TX4 a).2.1 ≠ (TX4 b).2.1 := by decide +kernel
theorem tyX4_ok : ∀ k, k < 3 → parseFieldDescriptor (TX4 k).2.2.1 = some (tyX4 k) := by decide +kernel
def RX5 : String := "PickedForms$Parting"
def TX5 : u_T := fun k => match k with
  | 0 => ("PickedForms$Parting", "shape", "LPickedForms$Shape;", true)
  | 1 => ("PickedForms$Parting", "bits", "[I", true)
  | _ => ("PickedForms$Parting", "blocks", "[I", true)
def tyX5 : Nat → FieldType := fun k => match k with
  | 0 => .object "PickedForms$Shape"
  | 1 => .array .int
  | _ => .array .int
abbrev wsX50 : List Cond := u_ws RX5 TX5 3
theorem nmX5 : ∀ a, a < 3 → ∀ b, b < 3 → a ≠ b → (TX5 a).2.1 ≠ (TX5 b).2.1 := by decide +kernel
theorem tyX5_ok : ∀ k, k < 3 → parseFieldDescriptor (TX5 k).2.2.1 = some (tyX5 k) := by decide +kernel
def RX6 : String := "PickedForms$Pick"
def TX6 : u_T := fun k => match k with
  | 0 => ("PickedForms$Pick", "shape", "LPickedForms$Shape;", true)
  | 1 => ("PickedForms$Pick", "form", "I", false)
  | _ => ("PickedForms$Pick", "room", "I", false)
def tyX6 : Nat → FieldType := fun k => match k with
  | 0 => .object "PickedForms$Shape"
  | 1 => .int
  | _ => .int
abbrev wsX60 : List Cond := u_ws RX6 TX6 3
theorem nmX6 : ∀ a, a < 3 → ∀ b, b < 3 → a ≠ b → (TX6 a).2.1 ≠ (TX6 b).2.1 := by decide +kernel
theorem tyX6_ok : ∀ k, k < 3 → parseFieldDescriptor (TX6 k).2.2.1 = some (tyX6 k) := by decide +kernel
def RX7 : String := "PickedForms$Rows"
def TX7 : u_T := fun k => match k with
  | _ => ("", "", "", false)
def tyX7 : Nat → FieldType := fun k => match k with
  | _ => .int
abbrev wsX70 : List Cond := u_ws RX7 TX7 0
theorem nmX7 : ∀ a, a < 0 → ∀ b, b < 0 → a ≠ b → (TX7 a).2.1 ≠ (TX7 b).2.1 := by decide +kernel
theorem tyX7_ok : ∀ k, k < 0 → parseFieldDescriptor (TX7 k).2.2.1 = some (tyX7 k) := by decide +kernel
def RX8 : String := "PickedForms$Shape"
def TX8 : u_T := fun k => match k with
  | 0 => ("PickedForms$Shape", "unlike", "[I", true)
  | 1 => ("PickedForms$Shape", "unlikes", "I", false)
  | 2 => ("PickedForms$Shape", "count", "I", false)
  | 3 => ("PickedForms$Shape", "least", "I", false)
  | 4 => ("PickedForms$Shape", "greatest", "I", false)
  | 5 => ("PickedForms$Shape", "runs", "I", false)
  | 6 => ("PickedForms$Shape", "topStep", "I", false)
  | _ => ("PickedForms$Shape", "last", "I", false)
def tyX8 : Nat → FieldType := fun k => match k with
  | 0 => .array .int
  | 1 => .int
  | 2 => .int
  | 3 => .int
  | 4 => .int
  | 5 => .int
  | 6 => .int
  | _ => .int
abbrev wsX80 : List Cond := u_ws RX8 TX8 8
theorem nmX8 : ∀ a, a < 8 → ∀ b, b < 8 → a ≠ b → (TX8 a).2.1 ≠ (TX8 b).2.1 := by decide +kernel
theorem tyX8_ok : ∀ k, k < 8 → parseFieldDescriptor (TX8 k).2.2.1 = some (tyX8 k) := by decide +kernel
def RX9 : String := "PickedForms$Text"
def TX9 : u_T := fun k => match k with
  | 0 => ("PickedForms$Text", "codes", "[I", true)
  | 1 => ("PickedForms$Text", "length", "I", false)
  | 2 => ("PickedForms$Text", "partValues", "[I", true)
  | 3 => ("PickedForms$Text", "partTimes", "[I", true)
  | _ => ("PickedForms$Text", "parts", "I", false)
def tyX9 : Nat → FieldType := fun k => match k with
  | 0 => .array .int
  | 1 => .int
  | 2 => .array .int
  | 3 => .array .int
  | _ => .int
abbrev wsX90 : List Cond := u_ws RX9 TX9 5
theorem nmX9 : ∀ a, a < 5 → ∀ b, b < 5 → a ≠ b → (TX9 a).2.1 ≠ (TX9 b).2.1 := by decide +kernel
theorem tyX9_ok : ∀ k, k < 5 → parseFieldDescriptor (TX9 k).2.2.1 = some (tyX9 k) := by decide +kernel
def RX10 : String := "PickedForms"
def TX10 : u_T := fun k => match k with
  | 0 => ("PickedForms", "column", "LPickedForms$Column;", true)
  | 1 => ("PickedForms", "snapshot", "LPickedForms$Column;", true)
  | 2 => ("PickedForms", "hasSnapshot", "Z", false)
  | 3 => ("PickedForms", "history", "LPickedForms$History;", true)
  | 4 => ("PickedForms", "text", "LPickedForms$Text;", true)
  | 5 => ("PickedForms", "shape", "LPickedForms$Shape;", true)
  | 6 => ("PickedForms", "pick", "LPickedForms$Pick;", true)
  | 7 => ("PickedForms", "matching", "LPickedForms$Matching;", true)
  | 8 => ("PickedForms", "parting", "LPickedForms$Parting;", true)
  | 9 => ("PickedForms", "bitRow", "LPickedForms$BitRow;", true)
  | _ => ("PickedForms", "trial", "[I", true)
def tyX10 : Nat → FieldType := fun k => match k with
  | 0 => .object "PickedForms$Column"
  | 1 => .object "PickedForms$Column"
  | 2 => .boolean
  | 3 => .object "PickedForms$History"
  | 4 => .object "PickedForms$Text"
  | 5 => .object "PickedForms$Shape"
  | 6 => .object "PickedForms$Pick"
  | 7 => .object "PickedForms$Matching"
  | 8 => .object "PickedForms$Parting"
  | 9 => .object "PickedForms$BitRow"
  | _ => .array .int
abbrev wsX100 : List Cond := u_ws RX10 TX10 11
theorem nmX10 : ∀ a, a < 11 → ∀ b, b < 11 → a ≠ b → (TX10 a).2.1 ≠ (TX10 b).2.1 := by decide +kernel
theorem tyX10_ok : ∀ k, k < 11 → parseFieldDescriptor (TX10 k).2.2.1 = some (tyX10 k) := by decide +kernel
def RX11 : String := "PickedFormsModel"
def TX11 : u_T := fun k => match k with
  | 0 => ("PickedFormsModel", "s", "[I", true)
  | 1 => ("PickedFormsModel", "saved", "[I", true)
  | 2 => ("PickedFormsModel", "savedMany", "I", false)
  | 3 => ("PickedFormsModel", "snapshot", "[I", true)
  | 4 => ("PickedFormsModel", "isTaken", "Z", false)
  | 5 => ("PickedFormsModel", "before", "[I", true)
  | 6 => ("PickedFormsModel", "text", "[I", true)
  | 7 => ("PickedFormsModel", "length", "I", false)
  | 8 => ("PickedFormsModel", "thrown", "I", false)
  | 9 => ("PickedFormsModel", "place", "I", false)
  | 10 => ("PickedFormsModel", "one", "I", false)
  | 11 => ("PickedFormsModel", "times", "I", false)
  | 12 => ("PickedFormsModel", "written", "I", false)
  | 13 => ("PickedFormsModel", "field", "[I", true)
  | 14 => ("PickedFormsModel", "bits", "I", false)
  | 15 => ("PickedFormsModel", "fewest", "[I", true)
  | 16 => ("PickedFormsModel", "parts", "[I", true)
  | _ => ("PickedFormsModel", "hash", "J", false)
def tyX11 : Nat → FieldType := fun k => match k with
  | 0 => .array .int
  | 1 => .array .int
  | 2 => .int
  | 3 => .array .int
  | 4 => .boolean
  | 5 => .array .int
  | 6 => .array .int
  | 7 => .int
  | 8 => .int
  | 9 => .int
  | 10 => .int
  | 11 => .int
  | 12 => .int
  | 13 => .array .int
  | 14 => .int
  | 15 => .array .int
  | 16 => .array .int
  | _ => .long
abbrev wsX110 : List Cond := u_ws RX11 TX11 18
theorem nmX11 : ∀ a, a < 18 → ∀ b, b < 18 → a ≠ b → (TX11 a).2.1 ≠ (TX11 b).2.1 := by decide +kernel
theorem tyX11_ok : ∀ k, k < 18 → parseFieldDescriptor (TX11 k).2.2.1 = some (tyX11 k) := by decide +kernel
abbrev vwCl : List vw_C := [(RX0, TX0, 2), (RX1, TX1, 9), (RX3, TX3, 3), (RX4, TX4, 3), (RX5, TX5, 3), (RX6, TX6, 3), (RX8, TX8, 8), (RX9, TX9, 5), (RX10, TX10, 11), (RX11, TX11, 18)]
theorem mj_in0 : ∀ w ∈ u_ws RX0 TX0 2, w ∈ lw_tbl := by decide +kernel
theorem mj_in1 : ∀ w ∈ u_ws RX1 TX1 9, w ∈ lw_tbl := by decide +kernel
theorem mj_in2 : ∀ w ∈ u_ws RX3 TX3 3, w ∈ lw_tbl := by decide +kernel
theorem mj_in3 : ∀ w ∈ u_ws RX4 TX4 3, w ∈ lw_tbl := by decide +kernel
theorem mj_in4 : ∀ w ∈ u_ws RX5 TX5 3, w ∈ lw_tbl := by decide +kernel
theorem mj_in5 : ∀ w ∈ u_ws RX6 TX6 3, w ∈ lw_tbl := by decide +kernel
theorem mj_in6 : ∀ w ∈ u_ws RX8 TX8 8, w ∈ lw_tbl := by decide +kernel
theorem mj_in7 : ∀ w ∈ u_ws RX9 TX9 5, w ∈ lw_tbl := by decide +kernel
theorem mj_in8 : ∀ w ∈ u_ws RX10 TX10 11, w ∈ lw_tbl := by decide +kernel
theorem mj_in9 : ∀ w ∈ u_ws RX11 TX11 18, w ∈ lw_tbl := by decide +kernel
/-! the mini machine's tables, by program out of tables_1 and the decode rows: owners, methods, call sites, fields, classes made, constants, exceptions, handlers, texts -/
def mj_ON : List String := ["PickedFormsLaw", "PickedForms", "PickedForms$BitRow", "PickedForms$Column", "PickedForms$Floats", "PickedForms$History", "PickedForms$Matching", "PickedForms$Parting", "PickedForms$Pick", "PickedForms$Rows", "PickedForms$Shape", "PickedForms$Text",
  "PickedFormsModel"]
def mj_E : List String := ["java/lang/IllegalArgumentException", "java/lang/IllegalStateException", "java/lang/IndexOutOfBoundsException"]
def mj_mO : List Nat := [0, 1, 3, 5, 11, 10, 8, 6, 7, 2, 1, 1, 11, 9, 11, 11, 11, 1, 3, 9, 1, 1, 3, 3, 3, 1, 1, 1, 1, 1, 3, 10, 10, 10, 9, 10, 3, 10, 9, 3,
  1, 3, 1, 1, 3, 1, 1, 1, 3, 8, 10, 1, 2, 2, 2, 9, 2, 2, 2, 10, 2, 1, 1, 6, 6, 6, 6, 6, 6, 6, 6, 1, 7, 7, 7, 7, 7, 7, 7, 4,
  4, 0, 1, 1, 3, 5, 5, 1, 3, 1, 0, 1, 0, 1, 3, 1, 0, 1, 3, 0, 1, 3, 3, 0, 1, 3, 0, 1, 3, 0, 1, 1, 1, 0, 1, 11, 0, 1, 11, 11,
  11, 0, 1, 0, 1, 5, 0, 1, 0, 1, 0, 1, 0, 1, 0, 1, 0, 1, 0, 1, 1, 0, 1, 1, 0, 1, 0, 1, 12, 12, 12, 12, 12, 12, 12, 12, 12, 12, 12, 12,
  12, 12, 12, 12, 12, 12, 12, 12, 12, 12, 12, 12, 12, 12, 12, 12, 12, 12, 12, 12, 12, 12, 12, 12, 12, 12, 12, 12, 12, 12, 12, 12, 12, 12, 12, 12, 12, 12, 12, 12,
  12, 12, 12, 12, 12, 12, 12, 12, 12, 12, 12, 12, 12, 12, 12, 12, 12, 12, 12, 12, 12, 12, 12, 12, 12, 12, 12, 12, 12, 12, 12, 12, 12, 12, 12, 12, 12, 12, 12]
def mj_mY : List MethodName := [⟨"PickedFormsLaw", "law", "([I)Z"⟩, ⟨"PickedForms", "<init>", "()V"⟩, ⟨"PickedForms$Column", "<init>", "()V"⟩,
  ⟨"PickedForms$History", "<init>", "()V"⟩, ⟨"PickedForms$Text", "<init>", "()V"⟩, ⟨"PickedForms$Shape", "<init>", "()V"⟩,
  ⟨"PickedForms$Pick", "<init>", "()V"⟩, ⟨"PickedForms$Matching", "<init>", "()V"⟩, ⟨"PickedForms$Parting", "<init>", "()V"⟩,
  ⟨"PickedForms$BitRow", "<init>", "()V"⟩, ⟨"PickedForms", "clearBuffer", "()I"⟩, ⟨"PickedForms", "firstError", "()I"⟩,
  ⟨"PickedForms$Text", "wrongAt", "()I"⟩, ⟨"PickedForms$Rows", "at", "([II)I"⟩, ⟨"PickedForms$Text", "behind", "(II)I"⟩,
  ⟨"PickedForms$Text", "isDigit", "(I)Z"⟩, ⟨"PickedForms$Text", "behindValue", "(I)I"⟩, ⟨"PickedForms", "keep", "()I"⟩,
  ⟨"PickedForms$Column", "copyFrom", "(LPickedForms$Column;)V"⟩, ⟨"PickedForms$Rows", "copy", "([I[I)V"⟩, ⟨"PickedForms", "sizeShare", "()D"⟩,
  ⟨"PickedForms", "weight", "()I"⟩, ⟨"PickedForms$Column", "roomSum", "()I"⟩, ⟨"PickedForms$Column", "tailLength", "()I"⟩,
  ⟨"PickedForms$Column", "startOf", "(I)I"⟩, ⟨"PickedForms", "meanBits", "()F"⟩, ⟨"PickedForms", "digest", "()J"⟩,
  ⟨"PickedForms", "countNumber", "(I)I"⟩, ⟨"PickedForms", "usedBits", "()I"⟩, ⟨"PickedForms", "readShape", "(I)V"⟩,
  ⟨"PickedForms$Column", "lengthOf", "(I)I"⟩, ⟨"PickedForms$Shape", "read", "([III)V"⟩, ⟨"PickedForms$Shape", "clear", "()V"⟩,
  ⟨"PickedForms$Shape", "add", "(I)V"⟩, ⟨"PickedForms$Rows", "step", "(II)I"⟩, ⟨"PickedForms$Shape", "addUnlike", "(I)V"⟩,
  ⟨"PickedForms$Column", "formOf", "(I)I"⟩, ⟨"PickedForms$Shape", "bitsIn", "(I)I"⟩, ⟨"PickedForms$Rows", "width", "(I)I"⟩,
  ⟨"PickedForms$Column", "sum", "()I"⟩, ⟨"PickedForms", "mixed", "(JJ)J"⟩, ⟨"PickedForms$Column", "settingOf", "(I)I"⟩,
  ⟨"PickedForms", "hashOfValues", "(J)J"⟩, ⟨"PickedForms", "valueNumber", "(II)I"⟩, ⟨"PickedForms$Column", "blockOf", "(I)I"⟩,
  ⟨"PickedForms", "looksInBlock", "(II)I"⟩, ⟨"PickedForms", "hashOfBlocks", "(J)J"⟩, ⟨"PickedForms", "blockNumber", "(II)I"⟩,
  ⟨"PickedForms$Column", "roomOf", "(I)I"⟩, ⟨"PickedForms$Pick", "choose", "([III[I)V"⟩, ⟨"PickedForms$Shape", "lightestForm", "(I)I"⟩,
  ⟨"PickedForms", "readBits", "(I)V"⟩, ⟨"PickedForms$BitRow", "encode", "(LPickedForms$Column;ILPickedForms$Shape;)V"⟩, ⟨"PickedForms$BitRow", "encodePacked", "([IIILPickedForms$Shape;)V"⟩,
  ⟨"PickedForms$BitRow", "field", "(II)V"⟩, ⟨"PickedForms$Rows", "put", "([III)V"⟩, ⟨"PickedForms$BitRow", "encodeRuns", "([III)V"⟩,
  ⟨"PickedForms$BitRow", "encodeDeltas", "([IIILPickedForms$Shape;)V"⟩, ⟨"PickedForms$BitRow", "encodeListed", "([IIILPickedForms$Shape;)V"⟩, ⟨"PickedForms$Shape", "rankOf", "(I)I"⟩,
  ⟨"PickedForms$BitRow", "encodePlain", "([III)V"⟩, ⟨"PickedForms", "splitPlace", "(I)I"⟩, ⟨"PickedForms", "hashOfMatches", "(JII)J"⟩,
  ⟨"PickedForms$Matching", "onForms", "(LPickedForms$Column;II)V"⟩, ⟨"PickedForms$Matching", "inForm", "(LPickedForms$Column;IIII)V"⟩, ⟨"PickedForms$Matching", "byRuns", "([IIIII)V"⟩,
  ⟨"PickedForms$Matching", "isWithin", "(III)Z"⟩, ⟨"PickedForms$Matching", "byRanks", "([IIIII)V"⟩, ⟨"PickedForms$Matching", "byValues", "([IIIII)V"⟩,
  ⟨"PickedForms$Matching", "hitsByReading", "(LPickedForms$Column;II)I"⟩, ⟨"PickedForms$Matching", "firstHit", "(LPickedForms$Column;II)I"⟩, ⟨"PickedForms", "hashOfParting", "(J)J"⟩,
  ⟨"PickedForms$Parting", "readFromFirst", "(LPickedForms$Column;)V"⟩, ⟨"PickedForms$Parting", "forget", "(II)V"⟩, ⟨"PickedForms$Parting", "blockBits", "(I)I"⟩,
  ⟨"PickedForms$Parting", "offer", "(III)V"⟩, ⟨"PickedForms$Parting", "bitsFromFirst", "(LPickedForms$Column;)I"⟩, ⟨"PickedForms$Parting", "blocksFromFirst", "(LPickedForms$Column;)I"⟩,
  ⟨"PickedForms$Parting", "bitsFromLast", "(LPickedForms$Column;)I"⟩, ⟨"PickedForms$Floats", "bitsOfDouble", "(D)J"⟩, ⟨"PickedForms$Floats", "bitsOfFloat", "(F)I"⟩,
  ⟨"PickedFormsLaw", "write", "(LPickedForms;I[J)I"⟩, ⟨"PickedForms", "write", "(I)I"⟩, ⟨"PickedForms", "isValue", "(I)Z"⟩,
  ⟨"PickedForms$Column", "canTake", "()Z"⟩, ⟨"PickedForms$History", "push", "(LPickedForms$Column;)V"⟩, ⟨"PickedForms$History", "slotAt", "(I)LPickedForms$Column;"⟩,
  ⟨"PickedForms", "takeValue", "(I)V"⟩, ⟨"PickedForms$Column", "makeTailBlock", "()V"⟩, ⟨"PickedForms", "writeAnew", "(I)V"⟩,
  ⟨"PickedFormsLaw", "close", "(LPickedForms;[J)I"⟩, ⟨"PickedForms", "close", "()I"⟩, ⟨"PickedFormsLaw", "change", "(LPickedForms;II[J)I"⟩,
  ⟨"PickedForms", "change", "(II)I"⟩, ⟨"PickedForms$Column", "hasIndex", "(I)Z"⟩, ⟨"PickedForms", "outcomeOf", "(II)I"⟩,
  ⟨"PickedFormsLaw", "anew", "(LPickedForms;I[J)I"⟩, ⟨"PickedForms", "anew", "(I)I"⟩, ⟨"PickedForms$Column", "hasBlock", "(I)Z"⟩,
  ⟨"PickedFormsLaw", "join", "(LPickedForms;I[J)I"⟩, ⟨"PickedForms", "join", "(I)I"⟩, ⟨"PickedForms$Column", "closeSlot", "(I)V"⟩,
  ⟨"PickedForms$Column", "moveSlot", "(II)V"⟩, ⟨"PickedFormsLaw", "split", "(LPickedForms;II[J)I"⟩, ⟨"PickedForms", "split", "(II)I"⟩,
  ⟨"PickedForms$Column", "openSlot", "(I)V"⟩, ⟨"PickedFormsLaw", "drop", "(LPickedForms;I[J)I"⟩, ⟨"PickedForms", "drop", "(I)I"⟩,
  ⟨"PickedForms$Column", "removeValues", "(II)V"⟩, ⟨"PickedFormsLaw", "set", "(LPickedForms;II[J)I"⟩, ⟨"PickedForms", "set", "(II)I"⟩,
  ⟨"PickedForms", "isSetting", "(I)Z"⟩, ⟨"PickedForms", "isSettingValue", "(II)Z"⟩, ⟨"PickedFormsLaw", "append", "(LPickedForms;I[J)I"⟩,
  ⟨"PickedForms", "append", "(I)I"⟩, ⟨"PickedForms$Text", "take", "(I)V"⟩, ⟨"PickedFormsLaw", "load", "(LPickedForms;[J)I"⟩,
  ⟨"PickedForms", "load", "()I"⟩, ⟨"PickedForms$Text", "isWhole", "()Z"⟩, ⟨"PickedForms$Text", "readParts", "()V"⟩,
  ⟨"PickedForms$Text", "addPart", "(II)V"⟩, ⟨"PickedFormsLaw", "goBack", "(LPickedForms;[J)I"⟩, ⟨"PickedForms", "goBack", "()I"⟩,
  ⟨"PickedFormsLaw", "undo", "(LPickedForms;[J)I"⟩, ⟨"PickedForms", "undo", "()I"⟩, ⟨"PickedForms$History", "popInto", "(LPickedForms$Column;)V"⟩,
  ⟨"PickedFormsLaw", "value", "(LPickedForms;II[J)I"⟩, ⟨"PickedForms", "value", "(II)I"⟩, ⟨"PickedFormsLaw", "block", "(LPickedForms;II[J)I"⟩,
  ⟨"PickedForms", "block", "(II)I"⟩, ⟨"PickedFormsLaw", "size", "(LPickedForms;II[J)I"⟩, ⟨"PickedForms", "size", "(II)I"⟩,
  ⟨"PickedFormsLaw", "bit", "(LPickedForms;II[J)I"⟩, ⟨"PickedForms", "bit", "(II)I"⟩, ⟨"PickedFormsLaw", "count", "(LPickedForms;I[J)I"⟩,
  ⟨"PickedForms", "count", "(I)I"⟩, ⟨"PickedFormsLaw", "setting", "(LPickedForms;I[J)I"⟩, ⟨"PickedForms", "setting", "(I)I"⟩,
  ⟨"PickedFormsLaw", "match", "(LPickedForms;III[J)I"⟩, ⟨"PickedForms", "match", "(III)I"⟩, ⟨"PickedForms", "matchNumber", "(III)I"⟩,
  ⟨"PickedFormsLaw", "ifChanged", "(LPickedForms;III[J)I"⟩, ⟨"PickedForms", "ifChanged", "(III)I"⟩, ⟨"PickedForms", "trialGrowth", "(I)I"⟩,
  ⟨"PickedFormsLaw", "bestSplit", "(LPickedForms;I[J)I"⟩, ⟨"PickedForms", "bestSplit", "(I)I"⟩, ⟨"PickedFormsLaw", "least", "(LPickedForms;I[J)I"⟩,
  ⟨"PickedForms", "least", "(I)I"⟩, ⟨"PickedFormsModel", "<init>", "()V"⟩, ⟨"PickedFormsModel", "thrown", "()I"⟩,
  ⟨"PickedFormsModel", "write", "(I)I"⟩, ⟨"PickedFormsModel", "isValue", "(I)Z"⟩, ⟨"PickedFormsModel", "in", "(III)Z"⟩,
  ⟨"PickedFormsModel", "canWrite", "()Z"⟩, ⟨"PickedFormsModel", "holds", "(I)Z"⟩, ⟨"PickedFormsModel", "save", "()V"⟩,
  ⟨"PickedFormsModel", "copy", "([II[II)V"⟩, ⟨"PickedFormsModel", "put", "(I)V"⟩, ⟨"PickedFormsModel", "values", "()I"⟩,
  ⟨"PickedFormsModel", "start", "(I)I"⟩, ⟨"PickedFormsModel", "closeTail", "()V"⟩, ⟨"PickedFormsModel", "writeAnew", "(I)V"⟩,
  ⟨"PickedFormsModel", "picked", "(II)I"⟩, ⟨"PickedFormsModel", "lightest", "(II)I"⟩, ⟨"PickedFormsModel", "sizeOf", "(III)I"⟩,
  ⟨"PickedFormsModel", "greatestOf", "(II)I"⟩, ⟨"PickedFormsModel", "leastOf", "(II)I"⟩, ⟨"PickedFormsModel", "wide", "(I)I"⟩,
  ⟨"PickedFormsModel", "runsOf", "(II)I"⟩, ⟨"PickedFormsModel", "greatestStep", "(II)I"⟩, ⟨"PickedFormsModel", "step", "(I)I"⟩,
  ⟨"PickedFormsModel", "unlikeOf", "(II)I"⟩, ⟨"PickedFormsModel", "isFirst", "(II)Z"⟩, ⟨"PickedFormsModel", "bitsOf", "(I)I"⟩,
  ⟨"PickedFormsModel", "close", "()I"⟩, ⟨"PickedFormsModel", "change", "(II)I"⟩, ⟨"PickedFormsModel", "replace", "(II)I"⟩,
  ⟨"PickedFormsModel", "blockOf", "(I)I"⟩, ⟨"PickedFormsModel", "anew", "(I)I"⟩, ⟨"PickedFormsModel", "isBlock", "(I)Z"⟩,
  ⟨"PickedFormsModel", "join", "(I)I"⟩, ⟨"PickedFormsModel", "takeOut", "(I)V"⟩, ⟨"PickedFormsModel", "split", "(II)I"⟩,
  ⟨"PickedFormsModel", "gain", "(II)I"⟩, ⟨"PickedFormsModel", "roomFor", "(II)I"⟩, ⟨"PickedFormsModel", "makePlace", "(I)V"⟩,
  ⟨"PickedFormsModel", "drop", "(I)I"⟩, ⟨"PickedFormsModel", "set", "(II)I"⟩, ⟨"PickedFormsModel", "append", "(I)I"⟩,
  ⟨"PickedFormsModel", "clearBuffer", "()I"⟩, ⟨"PickedFormsModel", "firstError", "()I"⟩, ⟨"PickedFormsModel", "readText", "(Z)Z"⟩,
  ⟨"PickedFormsModel", "readPart", "()Z"⟩, ⟨"PickedFormsModel", "readValue", "()Z"⟩, ⟨"PickedFormsModel", "isNext", "(II)Z"⟩,
  ⟨"PickedFormsModel", "takes", "(I)Z"⟩, ⟨"PickedFormsModel", "readTimes", "()Z"⟩, ⟨"PickedFormsModel", "putAll", "()Z"⟩,
  ⟨"PickedFormsModel", "load", "()I"⟩, ⟨"PickedFormsModel", "keep", "()I"⟩, ⟨"PickedFormsModel", "goBack", "()I"⟩,
  ⟨"PickedFormsModel", "undo", "()I"⟩, ⟨"PickedFormsModel", "value", "(II)I"⟩, ⟨"PickedFormsModel", "valueTold", "(II)I"⟩,
  ⟨"PickedFormsModel", "looksFor", "(I)I"⟩, ⟨"PickedFormsModel", "block", "(II)I"⟩, ⟨"PickedFormsModel", "blockTold", "(II)I"⟩,
  ⟨"PickedFormsModel", "size", "(II)I"⟩, ⟨"PickedFormsModel", "bit", "(II)I"⟩, ⟨"PickedFormsModel", "layBlock", "(I)V"⟩,
  ⟨"PickedFormsModel", "layRuns", "(II)V"⟩, ⟨"PickedFormsModel", "lay", "(II)V"⟩, ⟨"PickedFormsModel", "layList", "(II)V"⟩,
  ⟨"PickedFormsModel", "rankOf", "(III)I"⟩, ⟨"PickedFormsModel", "count", "(I)I"⟩, ⟨"PickedFormsModel", "countTold", "(I)I"⟩,
  ⟨"PickedFormsModel", "allBits", "()I"⟩, ⟨"PickedFormsModel", "unused", "()I"⟩, ⟨"PickedFormsModel", "sum", "()I"⟩,
  ⟨"PickedFormsModel", "setting", "(I)I"⟩, ⟨"PickedFormsModel", "match", "(III)I"⟩, ⟨"PickedFormsModel", "matchTold", "(III)I"⟩,
  ⟨"PickedFormsModel", "looksIn", "(III)I"⟩, ⟨"PickedFormsModel", "ifChanged", "(III)I"⟩, ⟨"PickedFormsModel", "bestSplit", "(I)I"⟩,
  ⟨"PickedFormsModel", "bestPlace", "(I)I"⟩, ⟨"PickedFormsModel", "least", "(I)I"⟩, ⟨"PickedFormsModel", "leastTold", "(I)I"⟩,
  ⟨"PickedFormsModel", "partAll", "()V"⟩, ⟨"PickedFormsModel", "sizeShare", "()D"⟩, ⟨"PickedFormsModel", "shareTold", "()D"⟩,
  ⟨"PickedFormsModel", "meanBits", "()F"⟩, ⟨"PickedFormsModel", "meanTold", "()F"⟩, ⟨"PickedFormsModel", "digest", "()J"⟩,
  ⟨"PickedFormsModel", "mix", "(J)V"⟩, ⟨"PickedFormsModel", "mixBlock", "(I)V"⟩, ⟨"PickedFormsModel", "mixMatch", "(II)V"⟩,
  ⟨"PickedFormsModel", "bitsOfDouble", "(D)J"⟩, ⟨"PickedFormsModel", "bitsOfFloat", "(F)I"⟩]
def mj_mB : List ByteArray := [code, prog_1_method_1_code, prog_3_method_1_code, prog_5_method_1_code, prog_11_method_1_code, prog_10_method_1_code,
  prog_8_method_1_code, prog_6_method_1_code, prog_7_method_1_code, prog_2_method_1_code, prog_1_method_11_code, prog_1_method_12_code,
  prog_11_method_3_code, prog_9_method_2_code, prog_11_method_7_code, prog_11_method_9_code, prog_11_method_8_code, prog_1_method_14_code,
  prog_3_method_2_code, prog_9_method_4_code, prog_1_method_27_code, prog_1_method_44_code, prog_3_method_13_code, prog_3_method_11_code,
  prog_3_method_9_code, prog_1_method_28_code, prog_1_method_29_code, prog_1_method_43_code, prog_1_method_45_code, prog_1_method_38_code,
  prog_3_method_5_code, prog_10_method_3_code, prog_10_method_2_code, prog_10_method_4_code, prog_9_method_6_code, prog_10_method_5_code,
  prog_3_method_6_code, prog_10_method_7_code, prog_9_method_5_code, prog_3_method_14_code, prog_1_method_47_code, prog_3_method_8_code,
  prog_1_method_48_code, prog_1_method_40_code, prog_3_method_10_code, prog_1_method_41_code, prog_1_method_49_code, prog_1_method_42_code,
  prog_3_method_7_code, prog_8_method_2_code, prog_10_method_8_code, prog_1_method_39_code, prog_2_method_2_code, prog_2_method_4_code,
  prog_2_method_8_code, prog_9_method_3_code, prog_2_method_5_code, prog_2_method_6_code, prog_2_method_7_code, prog_10_method_6_code,
  prog_2_method_3_code, prog_1_method_37_code, prog_1_method_50_code, prog_6_method_2_code, prog_6_method_3_code, prog_6_method_5_code,
  prog_6_method_9_code, prog_6_method_6_code, prog_6_method_4_code, prog_6_method_7_code, prog_6_method_8_code, prog_1_method_51_code,
  prog_7_method_2_code, prog_7_method_6_code, prog_7_method_7_code, prog_7_method_8_code, prog_7_method_3_code, prog_7_method_4_code,
  prog_7_method_5_code, prog_4_method_2_code, prog_4_method_3_code, method_3_code, prog_1_method_2_code, prog_1_method_30_code,
  prog_3_method_12_code, prog_5_method_2_code, prog_5_method_4_code, prog_1_method_33_code, prog_3_method_16_code, prog_1_method_34_code,
  method_4_code, prog_1_method_3_code, method_5_code, prog_1_method_4_code, prog_3_method_3_code, prog_1_method_35_code,
  method_6_code, prog_1_method_5_code, prog_3_method_4_code, method_7_code, prog_1_method_6_code, prog_3_method_18_code,
  prog_3_method_19_code, method_8_code, prog_1_method_7_code, prog_3_method_17_code, method_9_code, prog_1_method_8_code,
  prog_3_method_15_code, method_10_code, prog_1_method_9_code, prog_1_method_31_code, prog_1_method_32_code, method_11_code,
  prog_1_method_10_code, prog_11_method_2_code, method_12_code, prog_1_method_13_code, prog_11_method_4_code, prog_11_method_5_code,
  prog_11_method_6_code, method_13_code, prog_1_method_15_code, method_14_code, prog_1_method_16_code, prog_5_method_3_code,
  method_15_code, prog_1_method_17_code, method_16_code, prog_1_method_18_code, method_17_code, prog_1_method_19_code,
  method_18_code, prog_1_method_20_code, method_19_code, prog_1_method_21_code, method_20_code, prog_1_method_22_code,
  method_21_code, prog_1_method_23_code, prog_1_method_46_code, method_22_code, prog_1_method_24_code, prog_1_method_36_code,
  method_23_code, prog_1_method_25_code, method_24_code, prog_1_method_26_code, prog_13_method_1_code, prog_13_method_2_code,
  prog_13_method_32_code, prog_13_method_5_code, prog_13_method_4_code, prog_13_method_27_code, prog_13_method_3_code, prog_13_method_8_code,
  prog_13_method_7_code, prog_13_method_28_code, prog_13_method_10_code, prog_13_method_9_code, prog_13_method_26_code, prog_13_method_25_code,
  prog_13_method_22_code, prog_13_method_21_code, prog_13_method_20_code, prog_13_method_14_code, prog_13_method_13_code, prog_13_method_12_code,
  prog_13_method_15_code, prog_13_method_19_code, prog_13_method_18_code, prog_13_method_17_code, prog_13_method_16_code, prog_13_method_24_code,
  prog_13_method_33_code, prog_13_method_34_code, prog_13_method_29_code, prog_13_method_11_code, prog_13_method_35_code, prog_13_method_6_code,
  prog_13_method_36_code, prog_13_method_30_code, prog_13_method_38_code, prog_13_method_37_code, prog_13_method_23_code, prog_13_method_31_code,
  prog_13_method_39_code, prog_13_method_40_code, prog_13_method_41_code, prog_13_method_42_code, prog_13_method_50_code, prog_13_method_49_code,
  prog_13_method_47_code, prog_13_method_45_code, prog_13_method_43_code, prog_13_method_44_code, prog_13_method_46_code, prog_13_method_48_code,
  prog_13_method_51_code, prog_13_method_52_code, prog_13_method_53_code, prog_13_method_54_code, prog_13_method_57_code, prog_13_method_56_code,
  prog_13_method_55_code, prog_13_method_59_code, prog_13_method_58_code, prog_13_method_60_code, prog_13_method_66_code, prog_13_method_65_code,
  prog_13_method_63_code, prog_13_method_61_code, prog_13_method_64_code, prog_13_method_62_code, prog_13_method_71_code, prog_13_method_70_code,
  prog_13_method_67_code, prog_13_method_68_code, prog_13_method_69_code, prog_13_method_72_code, prog_13_method_75_code, prog_13_method_74_code,
  prog_13_method_73_code, prog_13_method_76_code, prog_13_method_78_code, prog_13_method_77_code, prog_13_method_81_code, prog_13_method_80_code,
  prog_13_method_79_code, prog_13_method_83_code, prog_13_method_82_code, prog_13_method_85_code, prog_13_method_84_code, prog_13_method_91_code,
  prog_13_method_88_code, prog_13_method_89_code, prog_13_method_90_code, prog_13_method_86_code, prog_13_method_87_code]
def mj_mL : List Nat := [9, 1, 1, 2, 1, 1, 1, 1, 1, 1, 2, 1, 3, 2, 2, 1, 1, 1, 2, 2, 1, 1, 3, 1, 4, 1, 4, 2, 3, 2, 2, 5, 1, 2, 3, 4, 2, 2, 3, 3,
  4, 2, 7, 5, 4, 3, 7, 3, 2, 7, 6, 2, 7, 7, 4, 3, 7, 7, 7, 4, 5, 8, 7, 7, 7, 8, 3, 10, 7, 6, 5, 7, 6, 4, 2, 5, 2, 2, 6, 7,
  4, 4, 2, 1, 1, 3, 3, 2, 2, 2, 3, 1, 5, 4, 2, 7, 4, 3, 2, 4, 3, 3, 3, 5, 5, 3, 4, 3, 4, 5, 4, 1, 2, 4, 2, 2, 3, 6, 3, 5,
  3, 3, 1, 3, 1, 3, 5, 3, 5, 3, 5, 3, 5, 3, 4, 2, 4, 2, 6, 4, 4, 6, 5, 2, 4, 2, 4, 2, 1, 1, 2, 1, 3, 1, 2, 2, 5, 2, 1, 4,
  1, 2, 3, 6, 4, 5, 5, 3, 5, 5, 3, 5, 5, 2, 1, 3, 4, 3, 3, 2, 3, 3, 5, 4, 3, 3, 6, 5, 2, 2, 1, 3, 1, 1, 3, 3, 1, 2, 2, 1,
  1, 1, 3, 4, 5, 3, 5, 3, 3, 8, 5, 4, 6, 6, 2, 2, 3, 3, 3, 2, 4, 9, 9, 7, 2, 4, 2, 2, 8, 1, 1, 1, 1, 2, 3, 3, 4, 6, 3]
def mj_mR : List (Option FieldType) := [(some .boolean), none, none, none, none, none, none, none, none, none, (some .int), (some .int),
  (some .int), (some .int), (some .int), (some .boolean), (some .int), (some .int), none, none, (some .double), (some .int), (some .int), (some .int),
  (some .int), (some .float), (some .long), (some .int), (some .int), none, (some .int), none, none, none, (some .int), none,
  (some .int), (some .int), (some .int), (some .int), (some .long), (some .int), (some .long), (some .int), (some .int), (some .int), (some .long), (some .int),
  (some .int), none, (some .int), none, none, none, none, none, none, none, none, (some .int),
  none, (some .int), (some .long), none, none, none, (some .boolean), none, none, (some .int), (some .int), (some .long),
  none, none, (some .int), none, (some .int), (some .int), (some .int), (some .long), (some .int), (some .int), (some .int), (some .boolean),
  (some .boolean), none, (some (.object "PickedForms$Column")), none, none, none, (some .int), (some .int), (some .int), (some .int), (some .boolean), (some .int),
  (some .int), (some .int), (some .boolean), (some .int), (some .int), none, none, (some .int), (some .int), none, (some .int), (some .int),
  none, (some .int), (some .int), (some .boolean), (some .boolean), (some .int), (some .int), none, (some .int), (some .int), (some .boolean), none,
  none, (some .int), (some .int), (some .int), (some .int), none, (some .int), (some .int), (some .int), (some .int), (some .int), (some .int),
  (some .int), (some .int), (some .int), (some .int), (some .int), (some .int), (some .int), (some .int), (some .int), (some .int), (some .int), (some .int),
  (some .int), (some .int), (some .int), (some .int), none, (some .int), (some .int), (some .boolean), (some .boolean), (some .boolean), (some .boolean), none,
  none, none, (some .int), (some .int), none, none, (some .int), (some .int), (some .int), (some .int), (some .int), (some .int),
  (some .int), (some .int), (some .int), (some .int), (some .boolean), (some .int), (some .int), (some .int), (some .int), (some .int), (some .int), (some .boolean),
  (some .int), none, (some .int), (some .int), (some .int), none, (some .int), (some .int), (some .int), (some .int), (some .int), (some .boolean),
  (some .boolean), (some .boolean), (some .boolean), (some .boolean), (some .boolean), (some .boolean), (some .int), (some .int), (some .int), (some .int), (some .int), (some .int),
  (some .int), (some .int), (some .int), (some .int), (some .int), none, none, none, none, (some .int), (some .int), (some .int),
  (some .int), (some .int), (some .int), (some .int), (some .int), (some .int), (some .int), (some .int), (some .int), (some .int), (some .int), (some .int),
  none, (some .double), (some .double), (some .float), (some .float), (some .long), none, none, none, (some .long), (some .int)]
def mj_mH : List (List (Nat × Nat × Nat × Nat)) := [[], [], [], [], [], [], [], [], [], [], [], [],
  [], [], [], [], [], [], [], [], [], [], [], [],
  [], [], [], [], [], [], [], [], [], [], [], [],
  [], [], [], [], [], [], [], [], [], [], [], [],
  [], [], [], [], [], [], [], [], [], [], [], [],
  [], [], [], [], [], [], [], [], [], [], [], [],
  [], [], [], [], [], [], [], [], [], [(0, 9, 12, 13), (0, 9, 15, 15)], [], [],
  [], [], [], [], [], [], [(0, 8, 11, 15)], [], [(0, 10, 13, 25), (0, 10, 17, 13)], [], [], [],
  [(0, 9, 12, 25)], [], [], [(0, 9, 12, 25), (0, 9, 15, 15)], [], [], [], [(0, 10, 13, 25), (0, 10, 17, 15)], [], [], [(0, 9, 12, 25)], [],
  [], [(0, 10, 13, 25), (0, 10, 17, 13)], [], [], [], [(0, 9, 12, 13), (0, 9, 15, 15)], [], [], [(0, 8, 11, 13)], [], [], [],
  [], [(0, 8, 11, 15)], [], [(0, 8, 11, 15)], [], [], [(0, 10, 13, 25), (0, 10, 17, 13)], [], [(0, 10, 13, 25), (0, 10, 17, 13)], [], [(0, 10, 13, 25), (0, 10, 17, 13)], [],
  [(0, 10, 13, 25), (0, 10, 17, 13)], [], [(0, 9, 12, 13)], [], [(0, 9, 12, 25)], [], [(0, 12, 15, 13)], [], [], [(0, 12, 15, 25), (0, 12, 19, 13)], [], [],
  [(0, 9, 12, 25)], [], [(0, 9, 12, 13)], [], [], [], [], [], [], [], [], [],
  [], [], [], [], [], [], [], [], [], [], [], [],
  [], [], [], [], [], [], [], [], [], [], [], [],
  [], [], [], [], [], [], [], [], [], [], [], [],
  [], [], [], [], [], [], [], [], [], [], [], [],
  [], [], [], [], [], [], [], [], [], [], [], [],
  [], [], [], [], [], [], [], [], [], [], [], [],
  [], [], [], [], [], [], [], [], [], [], []]
def mj_mN : List Nat := [1, 1, 1, 1, 1, 1, 1, 1, 1, 1, 1, 1, 1, 2, 2, 1, 1, 1, 2, 2, 1, 1, 1, 1, 2, 1, 1, 2, 1, 2, 2, 4, 1, 2, 2, 2, 2, 2, 1, 1,
  2, 2, 2, 3, 2, 3, 2, 3, 2, 5, 2, 2, 4, 5, 3, 3, 4, 5, 5, 2, 4, 2, 4, 4, 6, 6, 3, 6, 6, 4, 4, 2, 2, 3, 2, 4, 2, 2, 2, 1,
  1, 3, 2, 1, 1, 2, 2, 2, 1, 2, 2, 1, 4, 3, 2, 3, 3, 2, 2, 3, 2, 2, 3, 4, 3, 2, 3, 2, 3, 4, 3, 1, 2, 3, 2, 2, 2, 1, 1, 1,
  3, 2, 1, 2, 1, 2, 4, 3, 4, 3, 4, 3, 4, 3, 3, 2, 3, 2, 5, 4, 4, 5, 4, 2, 3, 2, 3, 2, 1, 1, 2, 1, 3, 1, 2, 1, 4, 2, 1, 2,
  1, 2, 3, 3, 4, 3, 3, 1, 3, 3, 2, 3, 3, 2, 1, 3, 3, 2, 2, 2, 2, 2, 3, 3, 3, 2, 2, 3, 2, 1, 1, 2, 1, 1, 3, 2, 1, 1, 1, 1,
  1, 1, 3, 3, 2, 3, 3, 3, 3, 2, 3, 3, 3, 4, 2, 2, 1, 1, 1, 2, 4, 4, 4, 4, 2, 2, 2, 2, 1, 1, 1, 1, 1, 1, 2, 2, 3, 1, 1]
def mj_mC : List Nat := [99, 8, 1, 2, 7, 6, 5, 3, 4, 0, 8, 8, 7, 99, 7, 7, 7, 8, 1, 99, 8, 8, 1, 1, 1, 8, 8, 8, 8, 8, 1, 6, 6, 6, 99, 6, 1, 6, 99, 1,
  8, 1, 8, 8, 1, 8, 8, 8, 1, 5, 6, 8, 0, 0, 0, 99, 0, 0, 0, 6, 0, 8, 8, 3, 3, 3, 3, 3, 3, 3, 3, 8, 4, 4, 4, 4, 4, 4, 4, 99,
  99, 99, 8, 8, 1, 2, 2, 8, 1, 8, 99, 8, 99, 8, 1, 8, 99, 8, 1, 99, 8, 1, 1, 99, 8, 1, 99, 8, 1, 99, 8, 8, 8, 99, 8, 7, 99, 8, 7, 7,
  7, 99, 8, 99, 8, 2, 99, 8, 99, 8, 99, 8, 99, 8, 99, 8, 99, 8, 99, 8, 8, 99, 8, 8, 99, 8, 99, 8, 9, 9, 9, 9, 9, 9, 9, 9, 9, 9, 9, 9,
  9, 9, 9, 9, 9, 9, 9, 9, 9, 9, 9, 9, 9, 9, 9, 9, 9, 9, 9, 9, 9, 9, 9, 9, 9, 9, 9, 9, 9, 9, 9, 9, 9, 9, 9, 9, 9, 9, 9, 9,
  9, 9, 9, 9, 9, 9, 9, 9, 9, 9, 9, 9, 9, 9, 9, 9, 9, 9, 9, 9, 9, 9, 9, 9, 9, 9, 9, 9, 9, 9, 9, 9, 9, 9, 9, 9, 9, 9, 9]
def mj_mF : List Nat := [13, 3, 1, 2, 1, 1, 2, 2, 2, 1, 0, 3, 2, 0, 1, 0, 0, 3, 2, 1, 4, 3, 1, 2, 1, 4, 6, 5, 4, 3, 1, 2, 0, 1, 0, 0, 1, 1, 0, 1,
  0, 1, 5, 4, 1, 3, 5, 4, 1, 3, 2, 4, 3, 2, 1, 0, 2, 2, 2, 1, 2, 4, 5, 4, 3, 1, 0, 2, 1, 1, 1, 5, 4, 1, 3, 1, 1, 1, 4, 0,
  0, 7, 6, 0, 3, 3, 0, 5, 3, 4, 7, 6, 7, 6, 0, 3, 7, 6, 0, 7, 6, 2, 1, 7, 6, 2, 7, 6, 1, 7, 6, 0, 0, 7, 6, 1, 7, 6, 2, 2,
  1, 7, 6, 7, 6, 3, 7, 6, 7, 6, 7, 6, 7, 6, 7, 6, 7, 6, 7, 6, 5, 7, 6, 4, 7, 6, 7, 6, 1, 0, 8, 1, 0, 0, 0, 1, 0, 7, 1, 0,
  6, 5, 4, 3, 2, 0, 0, 0, 0, 1, 0, 1, 0, 3, 7, 7, 6, 1, 6, 1, 6, 0, 7, 6, 5, 0, 2, 2, 1, 0, 10, 9, 3, 2, 1, 2, 2, 8, 10, 2,
  2, 1, 4, 3, 2, 6, 5, 3, 4, 3, 1, 0, 2, 1, 6, 5, 0, 4, 2, 1, 4, 3, 2, 7, 8, 7, 6, 5, 4, 3, 2, 3, 2, 9, 0, 8, 4, 0, 0]
def mj_mW : List Nat := [488, 61, 20, 40, 20, 20, 40, 40, 40, 20, 0, 63, 41, 0, 20, 0, 0, 68, 47, 26, 84, 64, 21, 44, 21, 84, 151, 114, 92, 71, 21, 47, 0, 26, 0, 0, 21, 22, 0, 21,
  0, 21, 117, 93, 21, 71, 121, 94, 21, 68, 43, 97, 71, 45, 22, 0, 45, 45, 45, 21, 45, 94, 125, 99, 73, 22, 0, 44, 22, 22, 22, 114, 89, 22, 68, 22, 21, 21, 89, 0,
  0, 157, 136, 0, 64, 68, 0, 115, 64, 94, 135, 115, 138, 115, 0, 71, 137, 115, 0, 137, 115, 44, 22, 139, 115, 44, 122, 100, 22, 123, 100, 0, 0, 121, 100, 22, 161, 136, 41, 44,
  22, 120, 100, 120, 100, 68, 139, 117, 138, 116, 122, 100, 140, 118, 156, 135, 121, 100, 171, 148, 125, 139, 115, 94, 142, 121, 135, 114, 20, 0, 180, 22, 0, 0, 0, 24, 0, 159, 23, 0,
  139, 118, 96, 71, 48, 0, 0, 0, 0, 22, 0, 24, 0, 71, 159, 162, 139, 23, 139, 22, 139, 0, 163, 140, 118, 0, 45, 45, 22, 0, 223, 201, 66, 44, 22, 44, 44, 180, 223, 43,
  45, 24, 92, 69, 45, 142, 118, 71, 101, 74, 23, 0, 49, 24, 135, 114, 0, 92, 43, 22, 104, 76, 48, 162, 186, 163, 144, 123, 96, 63, 43, 63, 43, 208, 0, 186, 104, 0, 0]
/-- owner, entry, kind (0 virtual, 1 static, 2 <init>, 3 <init> of a nest mate, 4 Object.<init>, 5 arraycopy, 6 Math.max, 7 Math.min), method -/
def mj_call : List (Nat × Nat × Nat × Nat) := [(0, 85, 2, 1), (0, 88, 2, 148), (0, 89, 1, 81), (0, 94, 0, 150), (0, 95, 0, 149), (0, 98, 1, 90), (0, 101, 0, 174), (0, 102, 1, 92), (0, 105, 0, 175), (0, 106, 1, 96), (0, 108, 0, 178), (0, 109, 1, 99),
  (0, 111, 0, 180), (0, 112, 1, 103), (0, 114, 0, 182), (0, 115, 1, 106), (0, 117, 0, 186), (0, 118, 1, 109), (0, 120, 0, 187), (0, 121, 1, 113), (0, 123, 0, 188), (0, 124, 0, 10), (0, 127, 0, 189), (0, 128, 0, 11),
  (0, 131, 0, 190), (0, 132, 1, 116), (0, 134, 0, 198), (0, 135, 0, 17), (0, 138, 0, 199), (0, 139, 1, 121), (0, 141, 0, 200), (0, 142, 1, 123), (0, 144, 0, 201), (0, 145, 1, 126), (0, 147, 0, 202), (0, 148, 1, 128),
  (0, 150, 0, 205), (0, 151, 1, 130), (0, 153, 0, 207), (0, 154, 1, 132), (0, 156, 0, 208), (0, 157, 1, 134), (0, 159, 0, 214), (0, 160, 1, 136), (0, 162, 0, 219), (0, 163, 1, 138), (0, 166, 0, 220), (0, 167, 1, 141),
  (0, 169, 0, 223), (0, 170, 1, 144), (0, 172, 0, 224), (0, 173, 1, 146), (0, 175, 0, 226), (0, 176, 0, 20), (0, 180, 0, 229), (0, 181, 0, 25), (0, 185, 0, 231), (0, 186, 0, 26), (0, 190, 0, 233), (1, 3, 4, 0),
  (1, 11, 3, 2), (1, 25, 2, 3), (1, 32, 3, 4), (1, 39, 3, 5), (1, 46, 3, 6), (1, 53, 3, 7), (1, 60, 3, 8), (1, 67, 3, 9), (3, 3, 4, 0), (5, 3, 4, 0), (5, 24, 3, 2), (11, 3, 4, 0),
  (10, 3, 4, 0), (8, 3, 4, 0), (8, 11, 3, 5), (6, 3, 4, 0), (6, 11, 3, 5), (7, 3, 4, 0), (7, 11, 3, 5), (2, 3, 4, 0), (1, 216, 0, 12), (11, 34, 1, 13), (11, 38, 1, 14), (11, 42, 1, 15),
  (11, 50, 1, 16), (1, 240, 0, 18), (3, 40, 1, 19), (9, 7, 7, 0), (9, 13, 5, 0), (1, 314, 0, 21), (1, 401, 0, 22), (1, 108, 0, 23), (3, 46, 1, 13), (3, 50, 0, 24), (1, 282, 0, 27), (1, 321, 1, 40),
  (1, 200, 0, 41), (1, 325, 0, 42), (1, 329, 0, 46), (1, 332, 0, 62), (1, 336, 0, 71), (1, 339, 0, 20), (1, 343, 1, 79), (1, 349, 0, 25), (1, 353, 1, 80), (1, 233, 1, 13), (1, 404, 0, 28), (1, 407, 0, 39),
  (1, 265, 0, 29), (1, 123, 0, 36), (1, 268, 0, 37), (1, 182, 0, 24), (1, 164, 0, 30), (1, 379, 0, 31), (10, 37, 0, 32), (10, 40, 1, 13), (10, 46, 0, 33), (10, 50, 1, 34), (10, 54, 6, 0), (10, 59, 0, 35),
  (10, 62, 1, 38), (1, 255, 0, 43), (1, 151, 0, 44), (1, 386, 0, 45), (1, 260, 0, 47), (1, 273, 0, 51), (1, 296, 0, 61), (1, 159, 0, 48), (1, 360, 0, 49), (8, 25, 1, 13), (8, 31, 7, 0), (8, 37, 0, 32),
  (8, 40, 0, 33), (8, 44, 0, 50), (8, 48, 0, 37), (10, 66, 0, 37), (1, 382, 0, 52), (2, 24, 0, 24), (2, 28, 0, 30), (2, 31, 0, 36), (2, 34, 0, 53), (2, 38, 0, 56), (2, 42, 0, 57), (2, 45, 0, 58),
  (2, 48, 0, 60), (2, 69, 1, 38), (2, 57, 0, 54), (2, 51, 1, 13), (2, 88, 1, 55), (2, 75, 1, 34), (2, 85, 0, 59), (1, 410, 0, 63), (1, 417, 0, 69), (1, 424, 0, 70), (6, 30, 0, 30), (6, 38, 0, 31),
  (6, 51, 0, 64), (6, 58, 0, 68), (6, 62, 0, 36), (6, 65, 0, 65), (6, 68, 0, 67), (6, 71, 1, 13), (6, 77, 1, 66), (6, 87, 0, 59), (1, 305, 0, 72), (1, 308, 0, 76), (1, 311, 0, 77), (1, 301, 0, 78),
  (7, 25, 0, 41), (7, 35, 0, 73), (7, 39, 7, 0), (7, 45, 0, 32), (7, 51, 1, 13), (7, 57, 0, 33), (7, 61, 0, 74), (7, 64, 0, 75), (7, 69, 1, 55), (7, 73, 0, 50), (7, 76, 0, 37), (0, 7, 0, 82),
  (1, 76, 1, 83), (1, 87, 0, 84), (1, 96, 0, 85), (1, 100, 0, 87), (3, 54, 0, 23), (3, 58, 0, 41), (5, 25, 0, 86), (5, 29, 0, 18), (1, 142, 1, 55), (1, 117, 0, 88), (1, 120, 0, 89), (3, 61, 1, 55),
  (0, 17, 0, 91), (0, 21, 0, 93), (1, 127, 0, 94), (1, 135, 0, 95), (0, 27, 0, 97), (1, 154, 0, 98), (0, 30, 0, 100), (1, 169, 0, 101), (3, 65, 0, 102), (0, 33, 0, 104), (1, 179, 0, 105), (0, 36, 0, 107),
  (1, 185, 0, 108), (0, 39, 0, 110), (1, 189, 1, 111), (1, 194, 1, 112), (0, 42, 0, 114), (1, 213, 0, 115), (11, 28, 1, 55), (0, 45, 0, 117), (1, 219, 0, 118), (1, 224, 0, 119), (11, 46, 0, 120), (0, 48, 0, 122),
  (0, 51, 0, 124), (1, 250, 0, 125), (0, 54, 0, 127), (0, 57, 0, 129), (0, 60, 0, 131), (0, 63, 0, 133), (0, 66, 0, 135), (0, 69, 0, 137), (0, 72, 0, 139), (1, 287, 0, 140), (0, 76, 0, 142), (1, 293, 0, 143),
  (0, 79, 0, 145), (0, 82, 0, 147), (12, 1, 4, 0), (12, 106, 1, 151), (12, 110, 0, 153), (12, 114, 0, 154), (12, 117, 0, 155), (12, 120, 0, 157), (12, 96, 0, 158), (12, 38, 1, 152), (12, 45, 1, 156), (12, 100, 0, 160),
  (12, 49, 0, 159), (12, 92, 0, 161), (12, 86, 0, 162), (12, 89, 0, 173), (12, 83, 0, 163), (12, 79, 0, 164), (12, 60, 0, 165), (12, 64, 0, 166), (12, 67, 1, 167), (12, 70, 0, 168), (12, 73, 0, 169), (12, 76, 0, 171),
  (12, 57, 0, 170), (12, 53, 0, 172), (12, 123, 0, 176), (12, 103, 0, 177), (12, 126, 0, 179), (12, 129, 0, 181), (12, 135, 0, 183), (12, 138, 0, 185), (12, 132, 0, 184), (12, 174, 0, 191), (12, 168, 0, 192), (12, 171, 0, 197),
  (12, 159, 0, 195), (12, 156, 0, 193), (12, 162, 0, 196), (12, 147, 0, 194), (12, 185, 0, 203), (12, 182, 0, 204), (12, 188, 0, 206), (12, 207, 0, 209), (12, 201, 0, 210), (12, 204, 0, 212), (12, 194, 0, 211), (12, 198, 0, 213),
  (12, 219, 0, 215), (12, 210, 0, 216), (12, 213, 0, 217), (12, 216, 0, 218), (12, 225, 0, 221), (12, 222, 0, 222), (12, 228, 0, 225), (12, 234, 0, 227), (12, 231, 0, 228), (12, 237, 0, 230), (12, 241, 0, 232), (12, 261, 0, 234),
  (12, 267, 0, 235), (12, 270, 0, 236), (12, 273, 1, 237), (12, 277, 1, 238)]
/-- owner, entry, class, field -/
def mj_fld : List (Nat × Nat × Nat × Nat) := [(3, 9, 1, 0), (2, 19, 1, 0), (6, 34, 1, 0), (7, 48, 1, 0), (1, 139, 1, 0), (3, 15, 1, 1), (1, 172, 1, 1), (3, 18, 1, 2), (1, 364, 1, 2), (3, 21, 1, 3), (1, 370, 1, 3), (3, 24, 1, 4),
  (1, 203, 1, 4), (3, 27, 1, 5), (7, 31, 1, 5), (1, 104, 1, 5), (6, 55, 1, 5), (3, 31, 1, 6), (6, 25, 1, 6), (1, 112, 1, 6), (3, 34, 1, 7), (1, 148, 1, 7), (3, 37, 1, 8), (1, 376, 1, 8),
  (5, 11, 2, 0), (5, 17, 2, 1), (5, 21, 2, 2), (1, 245, 2, 2), (11, 9, 7, 0), (1, 357, 7, 0), (11, 15, 7, 1), (1, 208, 7, 1), (11, 19, 7, 2), (1, 230, 7, 2), (11, 22, 7, 3), (1, 237, 7, 3),
  (11, 25, 7, 4), (1, 227, 7, 4), (10, 9, 6, 0), (6, 84, 6, 0), (2, 82, 6, 0), (10, 15, 6, 1), (6, 81, 6, 1), (2, 79, 6, 1), (1, 398, 6, 1), (10, 19, 6, 2), (6, 48, 6, 2), (10, 22, 6, 3),
  (6, 42, 6, 3), (2, 66, 6, 3), (1, 392, 6, 3), (10, 25, 6, 4), (6, 45, 6, 4), (2, 61, 6, 4), (1, 395, 6, 4), (10, 28, 6, 5), (1, 389, 6, 5), (10, 31, 6, 6), (2, 72, 6, 6), (10, 34, 6, 7),
  (8, 12, 5, 0), (8, 18, 5, 1), (1, 367, 5, 1), (8, 22, 5, 2), (1, 373, 5, 2), (6, 12, 3, 0), (6, 18, 3, 1), (1, 414, 3, 1), (6, 22, 3, 2), (1, 421, 3, 2), (7, 12, 4, 0), (7, 18, 4, 1),
  (7, 22, 4, 2), (2, 9, 0, 0), (1, 277, 0, 0), (2, 15, 0, 1), (1, 276, 0, 1), (1, 12, 8, 0), (1, 16, 8, 1), (1, 19, 8, 2), (1, 26, 8, 3), (1, 33, 8, 4), (1, 40, 8, 5), (1, 47, 8, 6),
  (1, 54, 8, 7), (1, 61, 8, 8), (1, 68, 8, 9), (1, 72, 8, 10), (12, 7, 9, 0), (12, 13, 9, 1), (12, 42, 9, 2), (12, 16, 9, 3), (12, 178, 9, 4), (12, 19, 9, 5), (12, 22, 9, 6), (12, 141, 9, 7),
  (12, 34, 9, 8), (12, 144, 9, 9), (12, 150, 9, 10), (12, 153, 9, 11), (12, 165, 9, 12), (12, 25, 9, 13), (12, 191, 9, 14), (12, 28, 9, 15), (12, 31, 9, 16), (12, 257, 9, 17)]
/-- owner, entry, class -/
def mj_cls : List (Nat × Nat × Nat) := [(0, 8, 8), (1, 9, 1), (1, 23, 2), (5, 9, 1), (1, 30, 7), (1, 37, 6), (1, 44, 5), (8, 9, 6), (1, 51, 3), (6, 9, 6), (1, 58, 4), (7, 9, 6),
  (1, 65, 0), (0, 86, 9)]
/-- owner, entry, constant -/
def mj_kst : List (Nat × Nat × Value) := [(1, 317, .double 4621819117588971520), (1, 319, .long 3631), (1, 427, .long 31), (7, 68, .int 1000000), (4, 7, .long 1023), (4, 11, .double 4611686018427387904), (4, 13, .double 4841369599423283200), (4, 15, .float 1258291200), (12, 265, .long 3631), (12, 255, .long 31), (12, 245, .long 1023), (12, 247, .double 4611686018427387904),
  (12, 249, .long 4503599627370496), (12, 251, .double 4841369599423283200), (12, 253, .int 8388608), (12, 254, .float 1258291200)]
/-- owner, entry, exception, its <init>'s entry -/
def mj_exc : List (Nat × Nat × Nat × Nat) := [(1, 80, 0, 84), (1, 91, 1, 95), (1, 130, 2, 134)]
/-- owner, entry, exception that is caught -/
def mj_hdl : List (Nat × Nat × Nat) := [(0, 13, 0), (0, 15, 1), (0, 25, 2)]
/-- owner, entry, text -/
def mj_str : List (Nat × Nat × String) := [(1, 82, "the value is not 0 to 999"), (1, 93, "the tail would be closed, and there are 12 blocks"), (1, 115, "the tail is empty, or there are 12 blocks"),
  (1, 132, "there is no such value"), (1, 157, "there is no such block"), (1, 162, "there is no such block, or none behind it"),
  (1, 167, "both have more than 16 values together"), (1, 175, "there is no such block or place"), (1, 177, "there are 12 blocks"),
  (1, 192, "there is no such setting"), (1, 198, "the setting cannot have this value"), (1, 206, "the code is not 33 to 126"),
  (1, 211, "the buffer has 60 characters"), (1, 222, "the buffer is not a complete column as a text"), (1, 243, "there is no snapshot"),
  (1, 248, "there is no saved state"), (1, 253, "what is not 0 to 3"), (1, 258, "what is not 0 to 9"),
  (1, 263, "the form is not 0 to 4"), (1, 271, "the index is below 0"), (1, 280, "what is not 0 to 8"),
  (1, 285, "an argument is out of range"), (1, 291, "value or what is out of range"), (1, 299, "what is not 0 to 2")]
/-! the words behind the tables, by their places -/
end
section
/-! ===== the mini machine's tables, looked up ===== -/
def mj_o (i : Nat) : Nat := mj_mO.getD i 0
def mj_y (i : Nat) : MethodName := mj_mY.getD i ⟨"", "", ""⟩
def mj_b (i : Nat) : ByteArray := mj_mB.getD i ⟨#[]⟩
def mj_l (i : Nat) : Nat := mj_mL.getD i 0
def mj_r (i : Nat) : Option FieldType := mj_mR.getD i none
def mj_h (i : Nat) : List (Nat × Nat × Nat × Nat) := mj_mH.getD i []
def mj_n (i : Nat) : Nat := mj_mN.getD i 0
def mj_c (i : Nat) : Nat := mj_mC.getD i 99
def mj_F (i : Nat) : Nat := mj_mF.getD i 0
def mj_D (i : Nat) : Nat := mj_mW.getD i 0
def mj_own (o : Nat) : String := mj_ON.getD o ""
def mj_cl (ci : Nat) : vw_C := vwCl.getD ci ("", (fun _ => ("", "", "", false)), 0)
def mj_ty (ci k : Nat) : FieldType := (parseFieldDescriptor ((mj_cl ci).2.1 k).2.2.1).getD .int
def mj_df (ci : Nat) : List Value := (List.range (mj_cl ci).2.2).map (fun k => defaultValue (mj_ty ci k))
def mj_rc (o x : Nat) : Option (Nat × Nat) := (mj_call.find? (fun q => q.1 == o && q.2.1 == x)).map (fun q => q.2.2)
def mj_rf (o x : Nat) : Option (Nat × Nat) := (mj_fld.find? (fun q => q.1 == o && q.2.1 == x)).map (fun q => q.2.2)
def mj_rn (o x : Nat) : Option Nat := (mj_cls.find? (fun q => q.1 == o && q.2.1 == x)).map (fun q => q.2.2)
def mj_rk (o x : Nat) : Option Value := (mj_kst.find? (fun q => q.1 == o && q.2.1 == x)).map (fun q => q.2.2)
def mj_rx (o x : Nat) : Option (Nat × Nat) := (mj_exc.find? (fun q => q.1 == o && q.2.1 == x)).map (fun q => q.2.2)
def mj_rh (o x : Nat) : Option Nat := (mj_hdl.find? (fun q => q.1 == o && q.2.1 == x)).map (fun q => q.2.2)
def mj_rs (o x : Nat) : Option String := (mj_str.find? (fun q => q.1 == o && q.2.1 == x)).map (fun q => q.2.2)
/-- the class whose objects the arrays of references hold -/
def mj_qc : Nat := 1
end
section
/-! ===== the words behind the mini machine's tables: each by its place in lw_tbl (places by program) ===== -/
def mj_gw : Cond → Bool
  | .arrayClass _ => true
  | .methodLinkNest .. => true
  | .arrayOver (.object _) => true
  | w => w.onTables && w.keepsFace
theorem mj_warm {s U : State} {args a' : Array Value} {c : Cond} (hW : s.WarmedH U.vm) (hc : mj_gw c = true) (h : c.before args s = true) : c.before a' U = true := by
  have key : (c.onTables && c.keepsFace) = true → c.before a' U = true := by
    intro hk
    simp only [Bool.and_eq_true] at hk
    exact va_tabs hk.1 (rfl : (s.setVm U.vm).vm = U.vm) (Cond.before_shiftedFace (State.Shifted.of_warmed hW) _ hk.2 h)
  cases c with
  | arrayClass ty => exact word_at hW (Or.inr ⟨_, rfl⟩) h
  | methodLinkNest a i x h' => exact va_Nw.use rfl (va_Nw.warmM hW (va_Nw.of rfl h))
  | arrayOver ty =>
    cases ty with
    | object C => exact va_AO.use (va_AO.moved hW.alike (va_AO.of h))
    | _ => exact key hc
  | _ => exact key hc
/-- all words that last -/
def mj_GT : List Cond := lw_tbl.filter mj_gw
theorem mj_GT_of {w : Cond} (h : w ∈ lw_tbl) (hg : mj_gw w = true) : w ∈ mj_GT := List.mem_filter.mpr ⟨h, hg⟩
theorem mj_GT_warm {s : State} {args : Array Value} (hts : ∀ w ∈ mj_GT, w.before args s = true) : ∀ w ∈ mj_GT, ∀ (a' : Array Value) (U : State), s.WarmedH U.vm → w.before a' U = true :=
  fun w hw a' U hW => mj_warm hW (List.mem_filter.mp hw).2 (hts w hw)
theorem mj_pl {w : Cond} {p : Nat} (h : lw_tbl[p]? = some w) (hg : mj_gw w = true) : w ∈ mj_GT := mj_GT_of (List.mem_of_getElem? h) hg
theorem mj_zip {α β : Type} {l : List α} {ps : List β} {f : α × β → Bool} (h : (l.zip ps).all f = true) (hn : l.length = ps.length) {q : α} (hq : q ∈ l) : ∃ p, f (q, p) = true := by
  obtain ⟨i, hi, rfl⟩ := List.getElem_of_mem hq
  have hz : (l[i], ps[i]'(hn ▸ hi)) ∈ l.zip ps := by
    have hlen : i < (l.zip ps).length := by rw [List.length_zip]; omega
    have := List.getElem_mem hlen
    rwa [List.getElem_zip] at this
  exact ⟨_, List.all_eq_true.mp h _ hz⟩
/-- the words ws stand in lw_tbl at the places ps -/
def mj_ats (ws : List Cond) (ps : List Nat) : Bool := decide (ws.map some = ps.map (fun p => lw_tbl[p]?)) && ws.all mj_gw
theorem mj_ats_in {ws : List Cond} {ps : List Nat} (h : mj_ats ws ps = true) : ∀ w ∈ ws, w ∈ mj_GT := by
  unfold mj_ats at h
  simp only [Bool.and_eq_true, decide_eq_true_eq] at h
  intro w hw
  have h1 : some w ∈ ps.map (fun p => lw_tbl[p]?) := by rw [← h.1]; exact List.mem_map.mpr ⟨w, hw, rfl⟩
  obtain ⟨p, -, hp⟩ := List.mem_map.mp h1
  exact mj_pl hp (List.all_eq_true.mp h.2 w hw)
def mj_cw (j : Nat) : Cond := if mj_h j = [] then .code (mj_y j) (mj_b j) (mj_l j) (mj_r j) else .codeWith (mj_y j) (mj_b j) (mj_l j) (mj_r j) (mj_h j)
def mj_host : String := "PickedForms"
/-- what a call site's words are -/
def mj_wd (q : Nat × Nat × Nat × Nat) : List Cond := match q with
  | (o, x, 0, j) => [.methodLink (mj_own o) x (mj_y j), .instanceMethod (mj_y j), .selects (mj_y j).cls (mj_y j) (mj_y j), .initialized (mj_y j).cls, mj_cw j]
  | (o, x, 1, j) => [.methodLink (mj_own o) x (mj_y j), .static (mj_y j), .initialized (mj_y j).cls, mj_cw j]
  | (o, x, 2, j) => [.methodLink (mj_own o) x (mj_y j), .instanceMethod (mj_y j), .initialized (mj_y j).cls, mj_cw j]
  | (o, x, 3, j) => [.methodLinkNest (mj_own o) x (mj_y j) mj_host, .instanceMethod (mj_y j), .initialized (mj_y j).cls, mj_cw j]
  | (o, x, 4, _) => [.methodLink (mj_own o) x Lib.objectInit, .instanceMethod Lib.objectInit, .code Lib.objectInit ⟨#[0xb1]⟩ 1 none]
  | (o, x, 6, _) => [.methodLink (mj_own o) x Lib.Math.max.name, .static Lib.Math.max.name, .initialized "java/lang/Math", .code Lib.Math.max.name Lib.Math.max.code 2 (some .int)]
  | (o, x, 7, _) => [.methodLink (mj_own o) x Lib.Math.min.name, .static Lib.Math.min.name, .initialized "java/lang/Math", .code Lib.Math.min.name Lib.Math.min.code 2 (some .int)]
  | (o, x, _, _) => [.methodLink (mj_own o) x arraycopyName, .native arraycopyName, .static arraycopyName, .initialized "java/lang/System"]
def mj_callp_0 : List (List Nat) := [[114, 115, 92, 116], [1064, 1065, 101, 1066], [689, 690, 91, 691], [1127, 1128, 1129, 101, 1130], [1123, 1124, 1125, 101, 1126], [814, 815, 91, 816], [1219, 1220, 1221, 101, 1222], [822, 823, 91, 824], [1223, 1224, 1225, 101, 1226], [854, 855, 91, 856], [1235, 1236, 1237, 101, 1238], [866, 867, 91, 868], [1243, 1244, 1245, 101, 1246], [883, 884, 91, 885], [1251, 1252, 1253, 101, 1254], [896, 897, 91, 898], [1267, 1268, 1269, 101, 1270], [907, 908, 91, 909], [1271, 1272, 1273, 101, 1274], [922, 923, 91, 924], [1275, 1276, 1277, 101, 1278], [369, 370, 371, 92, 372], [1279, 1280, 1281, 101, 1282], [373, 374, 375, 92, 376], [1283, 1284, 1285, 101, 1286], [936, 937, 91, 938], [1315, 1316, 1317, 101, 1318], [393, 394, 395, 92, 396], [1319, 1320, 1321, 101, 1322], [956, 957, 91, 958], [1323, 1324, 1325, 101, 1326], [964, 965, 91, 966], [1327, 1328, 1329, 101, 1330], [976, 977, 91, 978], [1331, 1332, 1333, 101, 1334], [984, 985, 91, 986], [1343, 1344, 1345, 101, 1346], [992, 993, 91, 994], [1351, 1352, 1353, 101, 1354], [1000, 1001, 91, 1002]]
def mj_callp_1 : List (List Nat) := [[1355, 1356, 1357, 101, 1358], [1008, 1009, 91, 1010], [1379, 1380, 1381, 101, 1382], [1016, 1017, 91, 1018], [1399, 1400, 1401, 101, 1402], [1023, 1024, 91, 1025], [1403, 1404, 1405, 101, 1406], [1035, 1036, 91, 1037], [1415, 1416, 1417, 101, 1418], [1047, 1048, 91, 1049], [1419, 1420, 1421, 101, 1422], [1054, 1055, 91, 1056], [1427, 1428, 1429, 101, 1430], [410, 411, 412, 92, 413], [1439, 1440, 1441, 101, 1442], [432, 433, 434, 92, 435], [1447, 1448, 1449, 101, 1450], [436, 437, 438, 92, 439], [1455, 1456, 1457, 101, 1458], [117, 118, 119], [122, 123, 93, 124], [172, 173, 94, 174], [192, 193, 95, 194], [219, 220, 96, 221], [264, 265, 97, 266], [284, 285, 98, 286], [304, 305, 99, 306], [322, 323, 100, 324], [125, 118, 119], [175, 118, 119], [178, 123, 93, 124], [195, 118, 119], [222, 118, 119], [267, 118, 119], [269, 220, 96, 221], [287, 118, 119], [289, 220, 96, 221], [307, 118, 119], [309, 220, 96, 221], [325, 118, 119]]
def mj_callp_2 : List (List Nat) := [[377, 378, 379, 95, 380], [381, 382, 106, 383], [384, 385, 95, 386], [387, 388, 95, 389], [390, 391, 95, 392], [397, 398, 399, 93, 400], [401, 402, 106, 403], [404, 405, 108, 406], [407, 409, 408, 109], [414, 416, 0, 92, 417], [418, 419, 420, 93, 421], [423, 424, 425, 93, 426], [422, 382, 106, 383], [427, 428, 429, 93, 430], [441, 443, 1, 92, 444], [496, 497, 92, 498], [500, 501, 502, 93, 503], [504, 506, 5, 92, 507], [521, 523, 8, 92, 524], [596, 598, 18, 92, 599], [636, 638, 23, 92, 639], [677, 411, 412, 92, 413], [678, 679, 111, 680], [684, 433, 434, 92, 435], [685, 686, 111, 687], [516, 382, 106, 383], [445, 447, 2, 92, 448], [492, 493, 494, 93, 495], [449, 451, 3, 92, 452], [481, 482, 483, 93, 484], [485, 486, 487, 96, 488], [453, 428, 429, 93, 430], [454, 455, 456, 93, 457], [458, 459, 460, 96, 461], [462, 463, 464, 96, 465], [466, 382, 106, 383], [467, 468, 469, 96, 470], [471, 472, 106, 473], [474, 475, 108, 476], [477, 479, 4, 96, 480]]
def mj_callp_3 : List (List Nat) := [[489, 490, 106, 491], [508, 510, 6, 92, 511], [512, 513, 514, 93, 515], [517, 519, 7, 92, 520], [525, 527, 9, 92, 528], [547, 549, 10, 92, 550], [592, 594, 17, 92, 595], [529, 530, 531, 93, 532], [533, 534, 535, 97, 536], [537, 382, 106, 383], [538, 405, 108, 406], [539, 463, 464, 96, 465], [540, 468, 469, 96, 470], [541, 542, 543, 96, 544], [546, 486, 487, 96, 488], [545, 486, 487, 96, 488], [551, 552, 553, 100, 554], [555, 428, 429, 93, 430], [556, 455, 456, 93, 457], [557, 482, 483, 93, 484], [558, 560, 11, 100, 561], [571, 573, 13, 100, 574], [575, 577, 14, 100, 578], [580, 582, 15, 100, 583], [588, 590, 16, 100, 591], [562, 490, 106, 491], [563, 565, 12, 100, 566], [570, 382, 106, 383], [567, 568, 106, 569], [579, 472, 106, 473], [584, 585, 586, 96, 587], [600, 601, 602, 98, 603], [628, 629, 630, 98, 631], [632, 633, 634, 98, 635], [604, 455, 456, 93, 457], [605, 459, 460, 96, 461], [606, 608, 19, 98, 609], [624, 626, 22, 98, 627], [610, 482, 483, 93, 484], [611, 613, 20, 98, 614]]
def mj_callp_4 : List (List Nat) := [[619, 621, 21, 98, 622], [615, 382, 106, 383], [616, 617, 98, 618], [623, 585, 586, 96, 587], [640, 641, 642, 99, 643], [665, 666, 667, 99, 668], [669, 670, 671, 99, 672], [673, 674, 675, 99, 676], [644, 501, 502, 93, 503], [645, 647, 24, 99, 648], [651, 405, 108, 406], [652, 463, 464, 96, 465], [653, 382, 106, 383], [654, 468, 469, 96, 470], [655, 657, 25, 99, 658], [661, 663, 26, 99, 664], [650, 568, 106, 569], [659, 542, 543, 96, 544], [660, 486, 487, 96, 488], [694, 695, 696, 92, 697], [698, 699, 92, 700], [769, 770, 771, 93, 772], [791, 792, 793, 94, 794], [800, 802, 29, 92, 803], [773, 424, 425, 93, 426], [774, 501, 502, 93, 503], [795, 797, 28, 94, 798], [799, 398, 399, 93, 400], [804, 568, 106, 569], [805, 806, 807, 93, 808], [810, 812, 30, 92, 813], [809, 568, 106, 569], [817, 818, 819, 92, 820], [826, 827, 828, 92, 829], [830, 831, 832, 93, 833], [850, 852, 31, 92, 853], [857, 858, 859, 92, 860], [861, 862, 863, 93, 864], [869, 870, 871, 92, 872], [875, 876, 877, 93, 878]]
def mj_callp_5 : List (List Nat) := [[879, 881, 32, 93, 882], [886, 887, 888, 92, 889], [892, 893, 894, 93, 895], [899, 900, 901, 92, 902], [903, 904, 905, 93, 906], [910, 911, 912, 92, 913], [914, 915, 92, 916], [918, 919, 92, 920], [925, 926, 927, 92, 928], [931, 932, 933, 95, 934], [935, 568, 106, 569], [939, 940, 941, 92, 942], [943, 944, 945, 95, 946], [948, 949, 950, 95, 951], [952, 954, 33, 95, 955], [959, 960, 961, 92, 962], [967, 968, 969, 92, 970], [972, 973, 974, 94, 975], [979, 980, 981, 92, 982], [987, 988, 989, 92, 990], [995, 996, 997, 92, 998], [1003, 1004, 1005, 92, 1006], [1011, 1012, 1013, 92, 1014], [1019, 1020, 1021, 92, 1022], [1026, 1027, 1028, 92, 1029], [1031, 1033, 34, 92, 1034], [1038, 1039, 1040, 92, 1041], [1043, 1045, 35, 92, 1046], [1050, 1051, 1052, 92, 1053], [1057, 1058, 1059, 92, 1060], [1067, 118, 119], [1131, 1132, 101, 1133], [1137, 1139, 36, 101, 1140], [1141, 1143, 37, 101, 1144], [1145, 1147, 38, 101, 1148], [1152, 1154, 39, 101, 1155], [1156, 1158, 40, 101, 1159], [1134, 1135, 101, 1136], [1149, 1150, 101, 1151], [1164, 1166, 42, 101, 1167]]
def mj_callp_6 : List (List Nat) := [[1160, 1162, 41, 101, 1163], [1168, 1170, 43, 101, 1171], [1172, 1174, 44, 101, 1175], [1215, 1217, 54, 101, 1218], [1176, 1178, 45, 101, 1179], [1180, 1182, 46, 101, 1183], [1184, 1186, 47, 101, 1187], [1188, 1190, 48, 101, 1191], [1192, 1193, 101, 1194], [1195, 1197, 49, 101, 1198], [1199, 1201, 50, 101, 1202], [1207, 1209, 52, 101, 1210], [1203, 1205, 51, 101, 1206], [1211, 1213, 53, 101, 1214], [1227, 1229, 55, 101, 1230], [1231, 1233, 56, 101, 1234], [1239, 1241, 57, 101, 1242], [1247, 1249, 58, 101, 1250], [1255, 1257, 59, 101, 1258], [1263, 1265, 61, 101, 1266], [1259, 1261, 60, 101, 1262], [1287, 1289, 62, 101, 1290], [1291, 1293, 63, 101, 1294], [1311, 1313, 68, 101, 1314], [1303, 1305, 66, 101, 1306], [1295, 1297, 64, 101, 1298], [1307, 1309, 67, 101, 1310], [1299, 1301, 65, 101, 1302], [1335, 1337, 69, 101, 1338], [1339, 1341, 70, 101, 1342], [1347, 1349, 71, 101, 1350], [1359, 1361, 72, 101, 1362], [1363, 1365, 73, 101, 1366], [1371, 1373, 75, 101, 1374], [1367, 1369, 74, 101, 1370], [1375, 1377, 76, 101, 1378], [1383, 1385, 77, 101, 1386], [1387, 1389, 78, 101, 1390], [1391, 1393, 79, 101, 1394], [1395, 1397, 80, 101, 1398]]
def mj_callp_7 : List (List Nat) := [[1407, 1409, 81, 101, 1410], [1411, 1413, 82, 101, 1414], [1423, 1425, 83, 101, 1426], [1431, 1433, 84, 101, 1434], [1435, 1437, 85, 101, 1438], [1443, 1445, 86, 101, 1446], [1451, 1453, 87, 101, 1454], [1460, 1462, 88, 101, 1463], [1465, 1467, 89, 101, 1468], [1469, 1471, 90, 101, 1472], [1473, 1474, 101, 1475], [1480, 1481, 101, 1482]]
theorem mj_call_ok : ∀ q ∈ mj_call, ∀ w ∈ mj_wd q, w ∈ mj_GT := by
  have h0 : (((mj_call.drop 0).take 40).zip mj_callp_0).all (fun z => mj_ats (mj_wd z.1) z.2) = true := by decide +kernel
  have n0 : ((mj_call.drop 0).take 40).length = mj_callp_0.length := by decide +kernel
  have h1 : (((mj_call.drop 40).take 40).zip mj_callp_1).all (fun z => mj_ats (mj_wd z.1) z.2) = true := by decide +kernel
  have n1 : ((mj_call.drop 40).take 40).length = mj_callp_1.length := by decide +kernel
  have h2 : (((mj_call.drop 80).take 40).zip mj_callp_2).all (fun z => mj_ats (mj_wd z.1) z.2) = true := by decide +kernel
  have n2 : ((mj_call.drop 80).take 40).length = mj_callp_2.length := by decide +kernel
  have h3 : (((mj_call.drop 120).take 40).zip mj_callp_3).all (fun z => mj_ats (mj_wd z.1) z.2) = true := by decide +kernel
  have n3 : ((mj_call.drop 120).take 40).length = mj_callp_3.length := by decide +kernel
  have h4 : (((mj_call.drop 160).take 40).zip mj_callp_4).all (fun z => mj_ats (mj_wd z.1) z.2) = true := by decide +kernel
  have n4 : ((mj_call.drop 160).take 40).length = mj_callp_4.length := by decide +kernel
  have h5 : (((mj_call.drop 200).take 40).zip mj_callp_5).all (fun z => mj_ats (mj_wd z.1) z.2) = true := by decide +kernel
  have n5 : ((mj_call.drop 200).take 40).length = mj_callp_5.length := by decide +kernel
  have h6 : (((mj_call.drop 240).take 40).zip mj_callp_6).all (fun z => mj_ats (mj_wd z.1) z.2) = true := by decide +kernel
  have n6 : ((mj_call.drop 240).take 40).length = mj_callp_6.length := by decide +kernel
  have h7 : (((mj_call.drop 280).take 40).zip mj_callp_7).all (fun z => mj_ats (mj_wd z.1) z.2) = true := by decide +kernel
  have n7 : ((mj_call.drop 280).take 40).length = mj_callp_7.length := by decide +kernel
  have e : mj_call = (mj_call.drop 0).take 40 ++ ((mj_call.drop 40).take 40 ++ ((mj_call.drop 80).take 40 ++ ((mj_call.drop 120).take 40 ++ ((mj_call.drop 160).take 40 ++ ((mj_call.drop 200).take 40 ++ ((mj_call.drop 240).take 40 ++ ((mj_call.drop 280).take 40))))))) := by decide +kernel
  intro q hq
  rw [e] at hq
  simp only [List.mem_append] at hq
  rcases hq with hq | hq | hq | hq | hq | hq | hq | hq
  · obtain ⟨p, hp⟩ := mj_zip h0 n0 hq
    exact mj_ats_in hp
  · obtain ⟨p, hp⟩ := mj_zip h1 n1 hq
    exact mj_ats_in hp
  · obtain ⟨p, hp⟩ := mj_zip h2 n2 hq
    exact mj_ats_in hp
  · obtain ⟨p, hp⟩ := mj_zip h3 n3 hq
    exact mj_ats_in hp
  · obtain ⟨p, hp⟩ := mj_zip h4 n4 hq
    exact mj_ats_in hp
  · obtain ⟨p, hp⟩ := mj_zip h5 n5 hq
    exact mj_ats_in hp
  · obtain ⟨p, hp⟩ := mj_zip h6 n6 hq
    exact mj_ats_in hp
  · obtain ⟨p, hp⟩ := mj_zip h7 n7 hq
    exact mj_ats_in hp
end
section
/-- what is plain of each method that is called -/
def mj_okm (q : Nat × Nat × Nat × Nat) : Bool := match q with
  | (_, _, 4, _) => true
  | (_, _, 5, _) => true
  | (_, _, 6, _) => true
  | (_, _, 7, _) => true
  | (_, _, k, j) => decide (0 < j ∧ plainName (mj_y j).cls = true ∧ (mj_y j).cls ≠ "java/lang/invoke/MethodHandle" ∧ (mj_y j).cls ≠ "java/lang/invoke/VarHandle" ∧ (parseMethodDescriptor (mj_y j).desc).map (fun d => d.parameters.length) = some (if k = 1 then mj_n j else mj_n j - 1) ∧ (mj_y j).cls = mj_own (mj_o j) ∧
      (k ≠ 1 → 1 ≤ mj_n j) ∧ (k = 0 → mj_c j < vwCl.length ∧ (mj_cl (mj_c j)).1 = (mj_y j).cls) ∧ (2 ≤ k → (mj_y j).name = "<init>" ∧ mj_r j = none) ∧ (k ≠ 1 → mj_h j = []))
theorem mj_call_okm : ∀ q ∈ mj_call, mj_okm q = true := List.all_eq_true.mp (by decide +kernel)
def mj_fw (q : Nat × Nat × Nat × Nat) : List Cond := [.fieldLink (mj_own q.1) q.2.1 ((mj_cl q.2.2.1).2.1 q.2.2.2).1 ((mj_cl q.2.2.1).2.1 q.2.2.2).2.1 ((mj_cl q.2.2.1).2.1 q.2.2.2).2.2.1]
def mj_fldp : List Nat := [126, 127, 128, 129, 130, 131, 132, 133, 134, 135, 136, 137, 138, 139, 140, 141, 142, 143, 144, 145, 146, 147, 148, 149, 179, 180, 181, 182, 196, 197, 198, 199, 200, 201, 202, 203, 204, 205, 223, 224, 225, 226, 227, 228, 229, 230, 231, 232, 233, 234, 235, 236, 237, 238, 239, 240, 241, 242, 243, 244, 270, 271, 272, 273, 274, 290, 291, 292, 293, 294, 310, 311, 312, 326, 327, 328, 329, 335, 336, 337, 338, 339, 340, 341, 342, 343, 344, 345, 1068, 1069, 1070, 1071, 1072, 1073, 1074, 1075, 1076, 1077, 1078, 1079, 1080, 1081, 1082, 1083, 1084, 1085]
theorem mj_fld_ok : ∀ q ∈ mj_fld, ∀ w ∈ mj_fw q, w ∈ mj_GT := by
  have h : (mj_fld.zip mj_fldp).all (fun z => mj_ats (mj_fw z.1) [z.2]) = true := by decide +kernel
  intro q hq
  obtain ⟨p, hp⟩ := mj_zip h (by decide +kernel) hq
  exact mj_ats_in hp
theorem mj_fld_okc : ∀ q ∈ mj_fld, q.2.2.1 < vwCl.length := by
  have h : mj_fld.all (fun q => decide (q.2.2.1 < vwCl.length)) = true := by decide +kernel
  intro q hq
  exact of_decide_eq_true (List.all_eq_true.mp h q hq)
def mj_nw (q : Nat × Nat × Nat) : List Cond := [.classLink (mj_own q.1) q.2.1 (mj_cl q.2.2).1, .instantiable (mj_cl q.2.2).1 (mj_cl q.2.2).2.2, .initialized (mj_cl q.2.2).1]
def mj_clsp : List (List Nat) := [[112, 113, 92], [120, 121, 93], [170, 171, 94], [176, 121, 93], [190, 191, 95], [217, 218, 96], [262, 263, 97], [268, 218, 96], [282, 283, 98], [288, 218, 96], [302, 303, 99], [308, 218, 96], [320, 321, 100], [1062, 1063, 101]]
theorem mj_cls_ok : ∀ q ∈ mj_cls, q.2.2 < vwCl.length ∧ ∀ w ∈ mj_nw q, w ∈ mj_GT := by
  have h : (mj_cls.zip mj_clsp).all (fun z => decide (z.1.2.2 < vwCl.length) && mj_ats (mj_nw z.1) z.2) = true := by decide +kernel
  intro q hq
  obtain ⟨p, hp⟩ := mj_zip h (by decide +kernel) hq
  simp only [Bool.and_eq_true, decide_eq_true_eq] at hp
  exact ⟨hp.1, mj_ats_in hp.2⟩
def mj_kw (q : Nat × Nat × Value) : List Cond := match q with
  | (o, x, .int v) => [.constant (mj_own o) x v]
  | (o, x, .long v) => [.constantLong (mj_own o) x v]
  | (o, x, .float v) => [.constantFloat (mj_own o) x v]
  | (o, x, .double v) => [.constantDouble (mj_own o) x v]
  | _ => []
def mj_kstp : List Nat := [431, 440, 499, 649, 681, 682, 683, 688, 1459, 1464, 1476, 1477, 1478, 1479, 1483, 1484]
theorem mj_kst_ok : ∀ q ∈ mj_kst, ∀ w ∈ mj_kw q, w ∈ mj_GT := by
  have h : (mj_kst.zip mj_kstp).all (fun z => mj_ats (mj_kw z.1) [z.2]) = true := by decide +kernel
  intro q hq
  obtain ⟨p, hp⟩ := mj_zip h (by decide +kernel) hq
  exact mj_ats_in hp
def mj_hw (q : Nat × Nat × Nat) : List Cond := [.classLink (mj_own q.1) q.2.1 (mj_E.getD q.2.2 ""), .castable (mj_E.getD q.2.2 "") (mj_E.getD q.2.2 "")]
def mj_hdlp : List (List Nat) := [[692, 703], [693, 777], [825, 836]]
theorem mj_hdl_ok : ∀ q ∈ mj_hdl, ∀ w ∈ mj_hw q, w ∈ mj_GT := by
  have h : (mj_hdl.zip mj_hdlp).all (fun z => mj_ats (mj_hw z.1) z.2) = true := by decide +kernel
  intro q hq
  obtain ⟨p, hp⟩ := mj_zip h (by decide +kernel) hq
  exact mj_ats_in hp
def mj_rt : List String := ["java/lang/RuntimeException", "java/lang/Exception"]
def mj_xw (q : Nat × Nat × Nat × Nat) : List Cond := .classLink (mj_own q.1) q.2.1 (mj_E.getD q.2.2.1 "") :: .initialized (mj_E.getD q.2.2.1 "") :: vx_atS (mj_own q.1) q.2.2.2 (mj_E.getD q.2.2.1 "") mj_rt
theorem mj_exc_ok : ∀ q ∈ mj_exc, (∀ w ∈ mj_xw q, w ∈ mj_GT) ∧ (∀ w ∈ mj_xw q, vx_ot w = true) ∧ Bundle.fit (mj_E.getD q.2.2.1 "") = true ∧ q.2.2.1 < mj_E.length := by
  have h : ∀ q ∈ mj_exc, (∀ w ∈ mj_xw q, w ∈ lw_tbl) ∧ (∀ w ∈ mj_xw q, mj_gw w = true) ∧ (∀ w ∈ mj_xw q, vx_ot w = true) ∧ Bundle.fit (mj_E.getD q.2.2.1 "") = true ∧ q.2.2.1 < mj_E.length := by decide +kernel
  intro q hq
  obtain ⟨h1, h2, h3, h4, h5⟩ := h q hq
  exact ⟨fun w hw => mj_GT_of (h1 w hw) (h2 w hw), h3, h4, h5⟩
theorem mj_rt_ok : ∀ n ∈ mj_rt, Bundle.fit n = true := by decide +kernel
theorem mj_arr_ok : Cond.arrayClass .int ∈ mj_GT ∧ Cond.arrayClass .long ∈ mj_GT ∧ Cond.arrayOver (.object (mj_cl mj_qc).1) ∈ mj_GT := by decide +kernel
/-- the classes of the world -/
theorem mj_cl_ok : ∀ c, c < vwCl.length → vwCl[c]? = some (mj_cl c) ∧ (∀ k, k < (mj_cl c).2.2 → parseFieldDescriptor ((mj_cl c).2.1 k).2.2.1 = some (mj_ty c k)) ∧ (∀ a, a < (mj_cl c).2.2 → ∀ b, b < (mj_cl c).2.2 → a ≠ b → ((mj_cl c).2.1 a).2.1 ≠ ((mj_cl c).2.1 b).2.1) ∧ (∀ w ∈ u_ws (mj_cl c).1 (mj_cl c).2.1 (mj_cl c).2.2, w ∈ mj_GT) := by
  intro c hc
  refine ⟨?_, ?_, ?_, ?_⟩
  · unfold mj_cl
    rw [List.getD_eq_getElem?_getD, List.getElem?_eq_getElem hc]
    rfl
  · have h : ∀ c, c < vwCl.length → ∀ k, k < (mj_cl c).2.2 → parseFieldDescriptor ((mj_cl c).2.1 k).2.2.1 = some (mj_ty c k) := by decide +kernel
    exact h c hc
  · have h : ∀ c, c < vwCl.length → ∀ a, a < (mj_cl c).2.2 → ∀ b, b < (mj_cl c).2.2 → a ≠ b → ((mj_cl c).2.1 a).2.1 ≠ ((mj_cl c).2.1 b).2.1 := by decide +kernel
    exact h c hc
  · have h : ∀ c, c < vwCl.length → (u_ws (mj_cl c).1 (mj_cl c).2.1 (mj_cl c).2.2).all mj_gw = true := by decide +kernel
    have h0 := h c hc
    have h1 : ∀ w ∈ u_ws (mj_cl c).1 (mj_cl c).2.1 (mj_cl c).2.2, w ∈ lw_tbl := by
      have hc' : c < 10 := hc
      match c, hc' with
      | 0, _ => exact mj_in0
      | 1, _ => exact mj_in1
      | 2, _ => exact mj_in2
      | 3, _ => exact mj_in3
      | 4, _ => exact mj_in4
      | 5, _ => exact mj_in5
      | 6, _ => exact mj_in6
      | 7, _ => exact mj_in7
      | 8, _ => exact mj_in8
      | 9, _ => exact mj_in9
    exact fun w hw => mj_GT_of (h1 w hw) (List.all_eq_true.mp h0 w hw)
theorem mj_find2 {β : Type} {l : List (Nat × Nat × β)} {o x : Nat} {v : β} (h : (l.find? (fun q => q.1 == o && q.2.1 == x)).map (fun q => q.2.2) = some v) : (o, x, v) ∈ l := by
  cases hf : l.find? (fun q => q.1 == o && q.2.1 == x) with
  | none => rw [hf] at h; cases h
  | some q =>
    rw [hf] at h
    cases h
    have h1 := List.find?_some hf
    simp only [Bool.and_eq_true, beq_iff_eq] at h1
    have h2 := List.mem_of_find?_eq_some hf
    obtain ⟨a, b, d⟩ := q
    obtain ⟨rfl, rfl⟩ := h1
    exact h2
end
section
/-! ===== THE MINI MACHINE: what the class's bytecode does, as a function over a small world; the machine itself is tied to it once, in parts 05 and 06 ===== -/
abbrev mj_H : Type := Nat → Option va_E
abbrev mj_U : Type := Nat × Nat × Nat
/-- cells made, exceptions made, slots used; what the cells hold, by their number; .ref 0 is the script -/
abbrev mj_W : Type := mj_U × mj_H
abbrev mj_R : Type := (Option Value) ⊕ Nat
abbrev mj_hole : Value := .retAddr 0
def mj_up (h : mj_H) (k : Nat) (e : va_E) : mj_H := fun j => if j = k then some e else h j
def mj_hol (v : Value) : Value := if v.category = 2 then mj_hole else v
def mj_hd : List Value → List Value
  | [] => []
  | _ :: L => mj_hole :: L
def mj_st1 : List Value → Nat → Value → List Value
  | [], _, _ => []
  | _ :: L, 0, v => v :: L
  | a :: L, i + 1, v => (if i = 0 then mj_hol a else a) :: mj_st1 L i v
def mj_st2 : List Value → Nat → Value → List Value
  | [], _, _ => []
  | _ :: L, 0, v => v :: mj_hd L
  | a :: L, i + 1, v => (if i = 0 then mj_hol a else a) :: mj_st2 L i v
def mj_args (vs : List Value) : List Value := vs.flatMap (fun v => if v.category = 2 then [v, mj_hole] else [v])
/-- the locals with which method j begins -/
def mj_ent (j : Nat) (vs : List Value) : List Value := mj_args vs ++ List.replicate (mj_l j - (mj_args vs).length) mj_hole
def mj_cat (vs : List Value) : Nat := (vs.map fun v => v.category).sum
section MJS
variable {α : Type}
def mj_p1 (S : List Value) (k : Int32 → List Value → Option α) : Option α := match S with
  | .int y :: S => k y S
  | _ => none
def mj_p2 (S : List Value) (k : Int32 → Int32 → List Value → Option α) : Option α := match S with
  | .int y :: .int x :: S => k y x S
  | _ => none
def mj_q1 (S : List Value) (k : Int64 → List Value → Option α) : Option α := match S with
  | .long y :: S => k y S
  | _ => none
def mj_q2 (S : List Value) (k : Int64 → Int64 → List Value → Option α) : Option α := match S with
  | .long y :: .long x :: S => k y x S
  | _ => none
def mj_f1 (S : List Value) (k : UInt32 → List Value → Option α) : Option α := match S with
  | .float y :: S => k y S
  | _ => none
def mj_f2 (S : List Value) (k : UInt32 → UInt32 → List Value → Option α) : Option α := match S with
  | .float y :: .float x :: S => k y x S
  | _ => none
def mj_d1 (S : List Value) (k : UInt64 → List Value → Option α) : Option α := match S with
  | .double y :: S => k y S
  | _ => none
def mj_d2 (S : List Value) (k : UInt64 → UInt64 → List Value → Option α) : Option α := match S with
  | .double y :: .double x :: S => k y x S
  | _ => none
def mj_r1 (S : List Value) (k : Nat → List Value → Option α) : Option α := match S with
  | .ref y :: S => k y S
  | _ => none
def mj_li (v : Option Value) (k : Int32 → Option α) : Option α := match v with
  | some (.int x) => k x
  | _ => none
def mj_lj (v : Option Value) (k : Int64 → Option α) : Option α := match v with
  | some (.long x) => k x
  | _ => none
def mj_lf (v : Option Value) (k : UInt32 → Option α) : Option α := match v with
  | some (.float x) => k x
  | _ => none
def mj_ld (v : Option Value) (k : UInt64 → Option α) : Option α := match v with
  | some (.double x) => k x
  | _ => none
def mj_lr' (v : Option Value) (k : Nat → Option α) : Option α := match v with
  | some (.ref x) => k x
  | _ => none
def mj_eo (e : Option va_E) (k : Nat → List Value → Option α) : Option α := match e with
  | some (.inr (c, fs)) => k c fs
  | _ => none
def mj_ei (e : Option va_E) (k : Nat → (Nat → Int32) → Option α) : Option α := match e with
  | some (.inl (t, n, .inl f)) => if t = 0 then k n f else none
  | _ => none
def mj_ej (e : Option va_E) (k : Nat → (Nat → Int64) → Option α) : Option α := match e with
  | some (.inl (t, n, .inr (.inl f))) => if t = 1 then k n f else none
  | _ => none
def mj_eq (e : Option va_E) (k : Nat → (Nat → Option Nat) → Option α) : Option α := match e with
  | some (.inl (t, n, .inr (.inr (.inr (.inr f))))) => if t = 2 then k n f else none
  | _ => none
/-- the length of an array of a kind that is known -/
def mj_en (e : Option va_E) : Option Nat := match e with
  | some (.inl (t, n, .inl _)) => if t = 0 then some n else none
  | some (.inl (t, n, .inr (.inl _))) => if t = 1 then some n else none
  | some (.inl (t, n, .inr (.inr (.inr (.inr _))))) => if t = 2 then some n else none
  | _ => none
def mj_in (i : Int32) (n : Nat) (k : Option α) : Option α := if i < 0 ∨ n ≤ i.toNatClampNeg then none else k
def mj_if (c : Prop) [Decidable c] (k : Option α) : Option α := if c then k else none
def mj_tg (pc : Nat) (off : Int) (k : Nat → Option α) : Option α := if 0 ≤ (pc : Int) + off then k ((pc : Int) + off).toNat else none
def mj_br (c : ClassFile.Cond) (x y : Int32) (t f : Option α) : Option α := match c with
  | .eq => if x = y then t else f
  | .ne => if x = y then f else t
  | .lt => if x < y then t else f
  | .ge => if y ≤ x then t else f
  | .gt => if y < x then t else f
  | .le => if x ≤ y then t else f
end MJS
abbrev mj_C : Type := (Nat × List Value × List Value) × mj_W
/-- how long an instruction is -/
def mj_ln (g : Instr) : Nat := match g with
  | .bipush _ | .iload _ | .lload _ | .fload _ | .dload _ | .aload _ | .istore _ | .lstore _ | .fstore _ | .dstore _ | .astore _ | .ldc _ | .newarray _ => 2
  | .sipush _ | .getfield _ | .putfield _ | .goto _ | .ifCond _ _ | .if_icmp _ _ | .ifnull _ | .iinc _ _ | .invokevirtual _ | .invokestatic _ | .invokespecial _ | .new _ | .anewarray _ | .ldc_w _ | .ldc2_w _ => 3
  | _ => 1
def mj_sw (g : Instr) : Bool := match g with
  | .tableswitch .. | .lookupswitch .. => true
  | _ => false
section MJT
variable (Ln : Nat) (xs : Nat → Int32)
/-- one instruction that stays in its frame -/
def mj_stp (i pc : Nat) (L S : List Value) (w : mj_W) (g : Instr) : Option mj_C :=
  let nx : List Value → Option mj_C := fun S' => some ((pc + mj_ln g, L, S'), w)
  let nl : List Value → List Value → Option mj_C := fun L' S' => some ((pc + mj_ln g, L', S'), w)
  let nh : List Value → mj_H → Option mj_C := fun S' h => some ((pc + mj_ln g, L, S'), (w.1, h))
  let jp : Int → List Value → Option mj_C := fun off S' => mj_tg pc off fun t => some ((t, L, S'), w)
  match g with
  | .iconst n => nx (.int (Int32.ofInt n) :: S)
  | .bipush n => nx (.int (Int8.ofInt n).toInt32 :: S)
  | .sipush n => nx (.int (Int16.ofInt n).toInt32 :: S)
  | .lconst n => nx (.long (Int64.ofNat (n : Nat)) :: S)
  | .fconst n => nx (.float (match n with | 0 => FP.fconst0 | 1 => FP.fconst1 | 2 => FP.fconst2) :: S)
  | .dconst n => nx (.double (match n with | 0 => FP.dconst0 | 1 => FP.dconst1) :: S)
  | .iload k => mj_li L[k]? fun x => nx (.int x :: S)
  | .lload k => mj_lj L[k]? fun x => nx (.long x :: S)
  | .fload k => mj_lf L[k]? fun x => nx (.float x :: S)
  | .dload k => mj_ld L[k]? fun x => nx (.double x :: S)
  | .aload k => mj_lr' L[k]? fun x => nx (.ref x :: S)
  | .iload_n k => mj_li L[(k : Nat)]? fun x => nx (.int x :: S)
  | .lload_n k => mj_lj L[(k : Nat)]? fun x => nx (.long x :: S)
  | .fload_n k => mj_lf L[(k : Nat)]? fun x => nx (.float x :: S)
  | .dload_n k => mj_ld L[(k : Nat)]? fun x => nx (.double x :: S)
  | .aload_n k => mj_lr' L[(k : Nat)]? fun x => nx (.ref x :: S)
  | .istore k => mj_p1 S fun x S => mj_if (k < mj_l i) (nl (mj_st1 L k (.int x)) S)
  | .lstore k => mj_q1 S fun x S => mj_if (k + 1 < mj_l i) (nl (mj_st2 L k (.long x)) S)
  | .fstore k => mj_f1 S fun x S => mj_if (k < mj_l i) (nl (mj_st1 L k (.float x)) S)
  | .dstore k => mj_d1 S fun x S => mj_if (k + 1 < mj_l i) (nl (mj_st2 L k (.double x)) S)
  | .astore k => mj_r1 S fun x S => mj_if (k < mj_l i) (nl (mj_st1 L k (.ref x)) S)
  | .istore_n k => mj_p1 S fun x S => mj_if ((k : Nat) < mj_l i) (nl (mj_st1 L k (.int x)) S)
  | .lstore_n k => mj_q1 S fun x S => mj_if ((k : Nat) + 1 < mj_l i) (nl (mj_st2 L k (.long x)) S)
  | .fstore_n k => mj_f1 S fun x S => mj_if ((k : Nat) < mj_l i) (nl (mj_st1 L k (.float x)) S)
  | .dstore_n k => mj_d1 S fun x S => mj_if ((k : Nat) + 1 < mj_l i) (nl (mj_st2 L k (.double x)) S)
  | .astore_n k => mj_r1 S fun x S => mj_if ((k : Nat) < mj_l i) (nl (mj_st1 L k (.ref x)) S)
  | .iinc k n => mj_li L[k]? fun x => mj_if (k < mj_l i) (nl (mj_st1 L k (.int (x + Int32.ofInt n))) S)
  | .iadd => mj_p2 S fun y x S => nx (.int (x + y) :: S)
  | .isub => mj_p2 S fun y x S => nx (.int (x - y) :: S)
  | .imul => mj_p2 S fun y x S => nx (.int (x * y) :: S)
  | .iand => mj_p2 S fun y x S => nx (.int (x &&& y) :: S)
  | .idiv => mj_p2 S fun y x S => mj_if (¬ y = 0) (nx (.int (x / y) :: S))
  | .irem => mj_p2 S fun y x S => mj_if (¬ y = 0) (nx (.int (x - x / y * y) :: S))
  | .ishl => mj_p2 S fun y x S => nx (.int (x <<< (y &&& 31)) :: S)
  | .ishr => mj_p2 S fun y x S => nx (.int (x >>> (y &&& 31)) :: S)
  | .i2l => mj_p1 S fun x S => nx (.long x.toInt64 :: S)
  | .ladd => mj_q2 S fun y x S => nx (.long (x + y) :: S)
  | .lsub => mj_q2 S fun y x S => nx (.long (x - y) :: S)
  | .lmul => mj_q2 S fun y x S => nx (.long (x * y) :: S)
  | .lshl => match S with
    | .int y :: .long x :: S => nx (.long (x <<< (y.toInt64 &&& 63)) :: S)
    | _ => none
  | .lcmp => mj_q2 S fun y x S => nx (.int (lg_cmp x y) :: S)
  | .i2f => mj_p1 S fun x S => nx (.float (FP.i2f x) :: S)
  | .i2d => mj_p1 S fun x S => nx (.double (FP.i2d x) :: S)
  | .f2i => mj_f1 S fun x S => nx (.int (FP.f2i x) :: S)
  | .d2l => mj_d1 S fun x S => nx (.long (FP.d2l x) :: S)
  | .f2d => mj_f1 S fun x S => mj_if (FP.f2d x &&& 0x7fffffffffffffff ≤ 0x7ff0000000000000) (nx (.double (FP.f2d x) :: S))
  | .fsub => mj_f2 S fun y x S => mj_if (FP.fsub x y &&& 0x7fffffff ≤ 0x7f800000) (nx (.float (FP.fsub x y) :: S))
  | .fmul => mj_f2 S fun y x S => mj_if (FP.fmul x y &&& 0x7fffffff ≤ 0x7f800000) (nx (.float (FP.fmul x y) :: S))
  | .fdiv => mj_f2 S fun y x S => mj_if (FP.fdiv x y &&& 0x7fffffff ≤ 0x7f800000) (nx (.float (FP.fdiv x y) :: S))
  | .dsub => mj_d2 S fun y x S => mj_if (FP.dsub x y &&& 0x7fffffffffffffff ≤ 0x7ff0000000000000) (nx (.double (FP.dsub x y) :: S))
  | .dmul => mj_d2 S fun y x S => mj_if (FP.dmul x y &&& 0x7fffffffffffffff ≤ 0x7ff0000000000000) (nx (.double (FP.dmul x y) :: S))
  | .ddiv => mj_d2 S fun y x S => mj_if (FP.ddiv x y &&& 0x7fffffffffffffff ≤ 0x7ff0000000000000) (nx (.double (FP.ddiv x y) :: S))
  | .fcmp c => mj_f2 S fun y x S => nx (.int (Op.cmpValue (FP.fcmp x y) c) :: S)
  | .dcmp c => mj_d2 S fun y x S => nx (.int (Op.cmpValue (FP.dcmp x y) c) :: S)
  | .dup => match S with
    | v :: S => mj_if (v.category = 1) (nx (v :: v :: S))
    | _ => none
  | .dup2 => match S with
    | v :: u :: S => mj_if (v.category = 1) (mj_if (u.category = 1) (nx (v :: u :: v :: u :: S)))
    | _ => none
  | .pop => match S with
    | v :: S => mj_if (v.category = 1) (nx S)
    | _ => none
  | .ifCond c off => mj_p1 S fun x S => mj_tg pc off fun t => mj_br c x 0 (some ((t, L, S), w)) (nx S)
  | .if_icmp c off => mj_p2 S fun y x S => mj_tg pc off fun t => mj_br c x y (some ((t, L, S), w)) (nx S)
  | .ifnull _ => mj_r1 S fun _ S => nx S
  | .goto off => jp off S
  | .tableswitch d lo hi offs => mj_p1 S fun x S => if x.toInt < lo ∨ hi < x.toInt then jp d S else match offs[(x.toInt - lo).toNat]? with
    | some off => jp off S
    | none => none
  | .lookupswitch d ps => mj_p1 S fun x S => mj_if ((ps.toList.zip (ps.toList.drop 1)).all (fun (a, next) => a.1 < next.1) = true) (jp (Op.lookupswitch.offset ps.toList d x.toInt) S)
  | .ldc x => match mj_rk (mj_o i) x with
    | some (.int v) => nx (.int v :: S)
    | some (.float v) => nx (.float v :: S)
    | _ => none
  | .ldc2_w x => match mj_rk (mj_o i) x with
    | some (.long v) => nx (.long v :: S)
    | some (.double v) => nx (.double v :: S)
    | _ => none
  | .getfield x => match mj_rf (mj_o i) x with
    | some (c, k) => mj_r1 S fun a S => mj_eo (w.2 a) fun c' fs => mj_if (c' = c) (match fs[k]? with
      | some v => mj_if (k < (mj_cl c).2.2) (nx (v :: S))
      | none => none)
    | none => none
  | .putfield x => match mj_rf (mj_o i) x with
    | some (c, k) => match S with
      | v :: .ref a :: S => mj_eo (w.2 a) fun c' fs => mj_if (c' = c ∧ k < fs.length ∧ k < (mj_cl c).2.2 ∧ narrow (mj_ty c k) v = v ∧ fits (mj_ty c k) v = true ∧ (((mj_cl c).2.1 k).2.2.2 = false ∨ ((mj_y i).name = "<init>" ∧ ((mj_cl c).2.1 k).1 = mj_own (mj_o i)))) (nh S (mj_up w.2 a (.inr (c, fs.set k v))))
      | _ => none
    | none => none
  | .iaload => mj_p1 S fun j S => mj_r1 S fun a S => if a = 0 then mj_in j Ln (nx (.int (xs j.toNatClampNeg) :: S)) else mj_ei (w.2 a) fun n f => mj_in j n (nx (.int (f j.toNatClampNeg) :: S))
  | .laload => mj_p1 S fun j S => mj_r1 S fun a S => mj_ej (w.2 a) fun n f => mj_in j n (nx (.long (f j.toNatClampNeg) :: S))
  | .aaload => mj_p1 S fun j S => mj_r1 S fun a S => mj_eq (w.2 a) fun n f => mj_in j n (match f j.toNatClampNeg with
    | some v => nx (.ref v :: S)
    | none => none)
  | .iastore => mj_p2 S fun x j S => mj_r1 S fun a S => mj_ei (w.2 a) fun n f => mj_in j n (nh S (mj_up w.2 a (.inl (0, n, .inl (upd f j.toNatClampNeg x)))))
  | .lastore => mj_q1 S fun x S => mj_p1 S fun j S => mj_r1 S fun a S => mj_ej (w.2 a) fun n f => mj_in j n (nh S (mj_up w.2 a (.inl (1, n, .inr (.inl (vp_updL f j.toNatClampNeg x))))))
  | .aastore => mj_r1 S fun v S => mj_p1 S fun j S => mj_r1 S fun a S => mj_eo (w.2 v) fun c _ => mj_if (c = mj_qc) (mj_eq (w.2 a) fun n f => mj_in j n (nh S (mj_up w.2 a (.inl (2, n, .inr (.inr (.inr (.inr (va_up f j.toNatClampNeg (some v)))))))) ))
  | .arraylength => mj_r1 S fun a S => if a = 0 then nx (.int (Int32.ofNat Ln) :: S) else match mj_en (w.2 a) with
    | some n => nx (.int (Int32.ofNat n) :: S)
    | none => none
  | .new x => match mj_rn (mj_o i) x with
    | some c => mj_if (w.1.2.1 = 0) (some ((pc + 3, L, .ref (w.1.1 + 1) :: S), ((w.1.1 + 1, w.1.2.1, w.1.2.2 + (mj_cl c).2.2), mj_up w.2 (w.1.1 + 1) (.inr (c, mj_df c)))))
    | none => none
  | .newarray .int => mj_p1 S fun n S => mj_if (w.1.2.1 = 0 ∧ ¬ n < 0 ∧ n.toNatClampNeg * 4 ≤ 536870912) (some ((pc + 2, L, .ref (w.1.1 + 1) :: S), ((w.1.1 + 1, w.1.2.1, w.1.2.2 + n.toNatClampNeg), mj_up w.2 (w.1.1 + 1) (.inl (0, n.toNatClampNeg, .inl (fun _ => 0))))))
  | .newarray .long => mj_p1 S fun n S => mj_if (w.1.2.1 = 0 ∧ ¬ n < 0 ∧ n.toNatClampNeg * 8 ≤ 536870912) (some ((pc + 2, L, .ref (w.1.1 + 1) :: S), ((w.1.1 + 1, w.1.2.1, w.1.2.2 + n.toNatClampNeg), mj_up w.2 (w.1.1 + 1) (.inl (1, n.toNatClampNeg, .inr (.inl (fun _ => 0)))))))
  | .anewarray x => mj_p1 S fun n S => mj_if (mj_rn (mj_o i) x = some mj_qc ∧ w.1.2.1 = 0 ∧ ¬ n < 0 ∧ n.toNatClampNeg * 4 ≤ 536870912) (some ((pc + 3, L, .ref (w.1.1 + 1) :: S), ((w.1.1 + 1, w.1.2.1, w.1.2.2 + n.toNatClampNeg), mj_up w.2 (w.1.1 + 1) (.inl (2, n.toNatClampNeg, .inr (.inr (.inr (.inr (fun _ => none)))))))))
  | .invokespecial x => match mj_rc (mj_o i) x with
    | some (4, _) => mj_r1 S fun _ S => mj_if (mj_cat S ≤ 8 ∧ 1 ≤ mj_F i ∧ 20 ≤ mj_D i) (nx S)
    | _ => none
  | .invokestatic x => match mj_rc (mj_o i) x with
    | some (5, _) => match S with
      | .int n :: .int dp :: .ref a :: .int sp :: .ref a0 :: S => mj_ei (w.2 a0) fun n0 f => mj_ei (w.2 a) fun n1 g => mj_if (¬ sp < 0 ∧ ¬ dp < 0 ∧ ¬ n < 0 ∧ sp.toNatClampNeg + n.toNatClampNeg ≤ n0 ∧ dp.toNatClampNeg + n.toNatClampNeg ≤ n1 ∧ mj_cat S ≤ 8 ∧ 1 ≤ mj_F i ∧ 26 ≤ mj_D i) (nh S (mj_up w.2 a (.inl (0, n1, .inl (va_cpy f g sp.toNatClampNeg dp.toNatClampNeg n.toNatClampNeg)))))
      | _ => none
    | some (6, _) => mj_p2 S fun y x S => mj_if (mj_cat S ≤ 8 ∧ 1 ≤ mj_F i ∧ 26 ≤ mj_D i) (nx (.int (if x < y then y else x) :: S))
    | some (7, _) => mj_p2 S fun y x S => mj_if (mj_cat S ≤ 8 ∧ 1 ≤ mj_F i ∧ 26 ≤ mj_D i) (nx (.int (if y < x then y else x) :: S))
    | _ => none
  | _ => none
/-- the answer with which a frame ends -/
def mj_fin (i : Nat) (S : List Value) (g : Instr) : Option (Option Value) := match g with
  | .ireturn => match S, mj_r i with
    | [.int v], some ty => mj_if (narrow ty (.int v) = .int v) (some (some (.int v)))
    | _, _ => none
  | .lreturn => match S, mj_r i with
    | [.long v], some .long => some (some (.long v))
    | _, _ => none
  | .freturn => match S, mj_r i with
    | [.float v], some .float => some (some (.float v))
    | _, _ => none
  | .dreturn => match S, mj_r i with
    | [.double v], some .double => some (some (.double v))
    | _, _ => none
  | .areturn => match S, mj_r i with
    | [.ref v], some (.object _) => some (some (.ref v))
    | _, _ => none
  | .return_ => match S, mj_r i with
    | [], none => some none
    | _, _ => none
  | _ => none
/-- 'throw new E("text")': new, dup, ldc, invokespecial, athrow -/
def mj_thr (i pc : Nat) (S : List Value) (g : Instr) : Option Nat := match g with
  | .new x => match mj_rx (mj_o i) x with
    | some (E, ic) => mj_if (decode (mj_b i) (pc + 3) = .ok (.dup, 1) ∧ mj_h i = [] ∧ mj_cat S ≤ 8 ∧ 6 ≤ mj_F i ∧ 100 ≤ mj_D i)
      (match decode (mj_b i) (pc + 4) with
        | .ok (.ldc z, 2) => mj_if ((mj_rs (mj_o i) z).isSome ∧ decode (mj_b i) (pc + 6) = .ok (.invokespecial ic, 3) ∧ decode (mj_b i) (pc + 9) = .ok (.athrow, 1)) (some E)
        | .ok (.ldc_w z, 3) => mj_if ((mj_rs (mj_o i) z).isSome ∧ decode (mj_b i) (pc + 7) = .ok (.invokespecial ic, 3) ∧ decode (mj_b i) (pc + 10) = .ok (.athrow, 1)) (some E)
        | _ => none)
    | none => none
  | _ => none
/-- a call: the method, its arguments, the rest of the stack -/
def mj_cal (i : Nat) (S : List Value) (w : mj_W) (g : Instr) : Option (Nat × List Value × List Value) :=
  let go : Nat → Option (Nat × List Value × List Value) := fun j => mj_if (mj_n j ≤ S.length ∧ mj_cat (S.drop (mj_n j)) ≤ 8 ∧ mj_F j + 1 ≤ mj_F i ∧ 8 + (mj_l j + 11) + mj_D j ≤ mj_D i ∧ mj_cat (S.take (mj_n j)) ≤ mj_l j) (some (j, (S.take (mj_n j)).reverse, S.drop (mj_n j)))
  match g with
  | .invokevirtual x => match mj_rc (mj_o i) x with
    | some (0, j) => match (S.take (mj_n j)).reverse with
      | .ref a :: _ => mj_eo (w.2 a) fun c _ => mj_if (c = mj_c j) (go j)
      | _ => none
    | _ => none
  | .invokestatic x => match mj_rc (mj_o i) x with
    | some (1, j) => go j
    | _ => none
  | .invokespecial x => match mj_rc (mj_o i) x with
    | some (2, j) => match (S.take (mj_n j)).reverse with
      | .ref _ :: _ => go j
      | _ => none
    | some (3, j) => match (S.take (mj_n j)).reverse with
      | .ref _ :: _ => go j
      | _ => none
    | _ => none
  | _ => none
/-- where an exception that a call at pc throws is caught: the pc behind the handler's astore, and the place it writes -/
def mj_cat2 (i pc E : Nat) : Option (Nat × Nat) :=
  match (mj_h i).find? (fun q => (q.1 ≤ pc && pc < q.2.1) && mj_rh (mj_o i) q.2.2.2 == some E) with
  | some q => match decode (mj_b i) q.2.2.1 with
    | .ok (.astore_n k, 1) => mj_if ((k : Nat) < mj_l i) (some (q.2.2.1 + 1, (k : Nat)))
    | .ok (.astore k, 2) => mj_if (k < mj_l i) (some (q.2.2.1 + 2, k))
    | _ => none
  | none => none
def mj_run : Nat → Nat → Nat → List Value → List Value → mj_W → Option (mj_R × mj_W)
  | 0, _, _, _, _, _ => none
  | f + 1, i, pc, L, S, w => match decode (mj_b i) pc with
    | .error _ => none
    | .ok (g, len) => if mj_sw g = true ∨ len = mj_ln g then
        match mj_stp Ln xs i pc L S w g with
        | some ((pc', L', S'), w') => if w.1.1 + w.1.2.1 ≤ w'.1.1 + w'.1.2.1 ∧ w.1.2.2 ≤ w'.1.2.2 then mj_run f i pc' L' S' w' else none
        | none => match mj_fin i S g with
          | some v => some (.inl v, w)
          | none => match mj_thr i pc S g with
            | some E => some (.inr E, ((w.1.1, w.1.2.1 + 1, w.1.2.2 + 6), w.2))
            | none => match mj_cal i S w g with
              | some (j, vs, S') => match mj_run f j 0 (mj_ent j vs) [] w with
                | none => none
                | some (.inl v, w') => mj_run f i (pc + 3) L (v.toList ++ S') w'
                | some (.inr E, w') => match mj_cat2 i pc E with
                  | some (h, k) => mj_run f i h (mj_st1 L k mj_hole) [] w'
                  | none => none
              | none => none
      else none
end MJT
end
section
/-! ===== rows over one cell of a world, with what else the heap holds (they follow the kit's va_put, va_putF, va_iast, va_last, va_astq, va_copyi, va_new, va_newa, va_newq) ===== -/
section MJR
variable {p : Program} {l : Launch} {e : Env} {R : Room} {s : State} {m : MethodId} {args : Array Value} {below : List Frame} {meth : Method} {c : Code} {H : Heap} {locs : List Loc} {cells slots : Nat} {Q : State → Prop}
variable {cc : ByteArray} {pc : Nat} {ls : Array Slot} {rest : List Value} {D : va_G} {cl : List vw_C} {a : Nat} {tys : List (ClassId × FieldType)}
theorem mo_get (hexec : p.tables.exec = Jvm.exec) (hb : c.code = cc) {own C : String} {T : u_T} {N ci index : Nat} {Ts : List Cond} (hts : ∀ w ∈ Ts, w.before args s = true) (hin : ∀ w ∈ u_ws C T N, w ∈ Ts) (hown : s.vm.findClass own = some m.cls) (hK : va_K D cl tys s) {fs : List Value} (he : va_at D cl (a, .inr (ci, fs)) H) (hc : cl[ci]? = some (C, T, N)) (k : Nat) (hk : k < N) (hlink : (Cond.fieldLink own index (T k).1 (T k).2.1 (T k).2.2.1).before args s = true) {v : Value} (hv : fs[k]? = some v) (hdg : decode cc pc = .ok (.getfield index, 3))
    (kk : W p l e R s m args below meth c H locs cells slots Q (F0 m (pc + 3) ls (v :: rest))) : W p l e R s m args below meth c H locs cells slots Q (F0 m pc ls (.ref a :: rest)) := by
  obtain ⟨r, h1, cell, q1, q2, q3, q4⟩ := he
  have hr : r = (C, T, N) := Option.some.inj (h1.symm.trans hc)
  subst hr
  obtain ⟨hS, hfc, kC, hkC, hkind⟩ := hK.1 ci _ hc
  obtain ⟨cf, kf, fi, f, hi, hsl⟩ := hS k hk
  refine W.getf hexec hb hown hlink hi (u_facts hfc hkC (u_lays hts hin hk) hi).1 q1 (by rw [q3]; exact fun h => by cases h) (v := v) ?_ rfl rfl hdg kk
  rw [hsl, q4 k hk]
  simp [vp_V, hv]
theorem mo_put (hexec : p.tables.exec = Jvm.exec) (hb : c.code = cc) {own C : String} {T : u_T} {N ci index : Nat} {Ts : List Cond} (hts : ∀ w ∈ Ts, w.before args s = true) (hin : ∀ w ∈ u_ws C T N, w ∈ Ts) (ty0 : Nat → FieldType) (hty : ∀ k, k < N → parseFieldDescriptor (T k).2.2.1 = some (ty0 k)) (hnm : ∀ a, a < N → ∀ b, b < N → a ≠ b → (T a).2.1 ≠ (T b).2.1) (hown : s.vm.findClass own = some m.cls) (hK : va_K D cl tys s) {fs : List Value} (he : va_at D cl (a, .inr (ci, fs)) H) (hc : cl[ci]? = some (C, T, N)) (k : Nat) (hk : k < N) (hlink : (Cond.fieldLink own index (T k).1 (T k).2.1 (T k).2.2.1).before args s = true) (hfin : (T k).2.2.2 = false ∨ (meth.name = "<init>" ∧ (T k).1 = own)) {ty : FieldType} {v : Value} (hd : parseFieldDescriptor (T k).2.2.1 = some ty) (hn : narrow ty v = v) (hfit : fits ty v = true) (hl : k < fs.length)
    (hdg : decode cc pc = .ok (.putfield index, 3)) (kk : ∀ (H1 : Heap) (z : Nat), va_at D cl (a, .inr (ci, fs.set k v)) H1 → H1.size = H.size → (∀ q : Nat, q ≠ a → H1[q]? = H[q]?) → W p l e R s m args below meth c H1 (locs ++ [⟨a, z⟩]) cells slots Q (F0 m (pc + 3) ls rest)) : W p l e R s m args below meth c H locs cells slots Q (F0 m pc ls (v :: .ref a :: rest)) := by
  have hap := va_apart (own := own) hts hin ty0 hty hnm hK hc
  obtain ⟨r, h1, cell, q1, q2, q3, q4⟩ := he
  have hr : r = (C, T, N) := Option.some.inj (h1.symm.trans hc)
  subst hr
  obtain ⟨hS, hfc, kC, hkC, hkind⟩ := hK.1 ci _ hc
  obtain ⟨cf, kf, fi, f, hi, hsl⟩ := hS k hk
  have hst := (u_facts hfc hkC (u_lays hts hin hk) hi).1
  have fin : ∀ (H1 : Heap), H1[a]? = some (cell.setSlot f.slot v) → va_at D cl (a, .inr (ci, fs.set k v)) H1 := by
    intro H1 e1
    rw [hsl] at e1
    exact ⟨_, hc, t_OB.to (V := updV (vp_V fs) k v) ⟨_, e1, q2, q3, t_set q4 hap hk v⟩ (fun j _ => vp_updV_set hl v j)⟩
  by_cases hf : (T k).2.2.2 = true
  · have hlay := hts _ (hin _ (u_in_lay hk))
    unfold u_lay at hlay
    rw [if_pos hf] at hlay
    have hin2 : meth.name = "<init>" ∧ (T k).1 = own := hfin.elim (fun h => by rw [hf] at h; cases h) id
    have hcf : m.cls = cf := by
      obtain ⟨_, _, c', _, _, _, -, -, hf', -, -, -, hown2, -⟩ := Cond.laysFinal_spec hlay
      have e1 : c' = cf := by have := hi.symm.trans hf'; simp at this; exact this.1.symm
      rw [hin2.2] at hown2
      rw [← e1]; exact Option.some.inj (hown.symm.trans hown2)
    have h6 := u_fits hfc hkC hkind (Or.inr hlay) hi hd hn hfit
    refine W.putFinK hexec hb hown hlink hi hst hcf hin2.1 (by rw [q2]; exact h6) q1 q3 (by rw [hsl]; exact k2_hasslot (q4 k hk)) rfl rfl hdg fun H' e1 e2 e3 => ?_
    exact kk H' _ (fin H' e1) e2 e3
  · have hf' : (T k).2.2.2 = false := by cases h : (T k).2.2.2 with
      | true => exact absurd h hf
      | false => rfl
    have hlay := hts _ (hin _ (u_in_lay hk))
    unfold u_lay at hlay
    rw [if_neg (by rw [hf']; decide)] at hlay
    have h6 := u_store hfc hkC hkind hlay hi hd hn hfit
    refine W.putK hexec hb (f := f) ⟨hown, hlink, ⟨_, _, _, hi⟩, hst⟩ (by rw [q2]; exact h6) q1 q3 (by rw [hsl]; exact k2_hasslot (q4 k hk)) rfl rfl hdg fun H' e1 e2 e3 => ?_
    exact kk H' _ (fin H' e1) e2 e3
theorem mo_iald (hexec : p.tables.exec = Jvm.exec) (hb : c.code = cc) (hK : va_K D cl tys s) {cA : ClassId} {n : Nat} {f : Nat → Int32} (ha : va_at D cl (a, .inl (cA, n, .inl f)) H) (t0 : Nat) (ht : tys[t0]? = some (cA, .int)) {i : Int32} (hin : vp_in i n) (hdg : decode cc pc = .ok (.iaload, 1))
    (kk : W p l e R s m args below meth c H locs cells slots Q (F0 m (pc + 1) ls (.int (f i.toNatClampNeg) :: rest))) : W p l e R s m args below meth c H locs cells slots Q (F0 m pc ls (.int i :: .ref a :: rest)) :=
  va_iald hexec hb hK (ws := [(a, .inl (cA, n, .inl f))]) (fun k q h => by match k, h with | 0, h => cases h; exact ha) 0 t0 rfl ht hin hdg kk
theorem mo_lald (hexec : p.tables.exec = Jvm.exec) (hb : c.code = cc) (hK : va_K D cl tys s) {cA : ClassId} {n : Nat} {f : Nat → Int64} (ha : va_at D cl (a, .inl (cA, n, .inr (.inl f))) H) (t0 : Nat) (ht : tys[t0]? = some (cA, .long)) {i : Int32} (hin : vp_in i n) (hdg : decode cc pc = .ok (.laload, 1))
    (kk : W p l e R s m args below meth c H locs cells slots Q (F0 m (pc + 1) ls (.long (f i.toNatClampNeg) :: rest))) : W p l e R s m args below meth c H locs cells slots Q (F0 m pc ls (.int i :: .ref a :: rest)) :=
  va_lald hexec hb hK (ws := [(a, .inl (cA, n, .inr (.inl f)))]) (fun k q h => by match k, h with | 0, h => cases h; exact ha) 0 t0 rfl ht hin hdg kk
theorem mo_aldq (hexec : p.tables.exec = Jvm.exec) (hb : c.code = cc) (hK : va_K D cl tys s) {cA : ClassId} {C : String} {n : Nat} {f : Nat → Option Nat} (ha : va_at D cl (a, .inl (cA, n, .inr (.inr (.inr (.inr f))))) H) (t0 : Nat) (ht : tys[t0]? = some (cA, .object C)) {i : Int32} (hin : vp_in i n) (hdg : decode cc pc = .ok (.aaload, 1))
    (kk : W p l e R s m args below meth c H locs cells slots Q (F0 m (pc + 1) ls (va_rf (f i.toNatClampNeg) :: rest))) : W p l e R s m args below meth c H locs cells slots Q (F0 m pc ls (.int i :: .ref a :: rest)) :=
  va_aldq hexec hb hK (ws := [(a, .inl (cA, n, .inr (.inr (.inr (.inr f)))))]) (fun k q h => by match k, h with | 0, h => cases h; exact ha) 0 t0 rfl ht hin hdg kk
theorem mo_alen (hexec : p.tables.exec = Jvm.exec) (hb : c.code = cc) (hK : va_K D cl tys s) {cA : ClassId} {x : vp_A} (ha : va_at D cl (a, .inl (cA, x)) H) (t0 : Nat) {ty : FieldType} (ht : tys[t0]? = some (cA, ty)) {v : Int32} (hv : Int32.ofNat x.1 = v) (hdg : decode cc pc = .ok (.arraylength, 1))
    (kk : W p l e R s m args below meth c H locs cells slots Q (F0 m (pc + 1) ls (.int v :: rest))) : W p l e R s m args below meth c H locs cells slots Q (F0 m pc ls (.ref a :: rest)) :=
  va_alen hexec hb hK (ws := [(a, .inl (cA, x))]) (fun k q h => by match k, h with | 0, h => cases h; exact ha) 0 t0 rfl ht hv hdg kk
theorem mo_iast (hexec : p.tables.exec = Jvm.exec) (hb : c.code = cc) (hK : va_K D cl tys s) {cA : ClassId} {n : Nat} {f : Nat → Int32} (ha : va_at D cl (a, .inl (cA, n, .inl f)) H) (t0 : Nat) (ht : tys[t0]? = some (cA, .int)) {i : Int32} {x : Int32} (hin : vp_in i n) (hdg : decode cc pc = .ok (.iastore, 1))
    (kk : ∀ (H1 : Heap) (z : Nat), va_at D cl (a, .inl (cA, n, .inl (upd f i.toNatClampNeg x))) H1 → H1.size = H.size → (∀ q : Nat, q ≠ a → H1[q]? = H[q]?) → W p l e R s m args below meth c H1 (locs ++ [⟨a, z⟩]) cells slots Q (F0 m (pc + 1) ls rest)) : W p l e R s m args below meth c H locs cells slots Q (F0 m pc ls (.int x :: .int i :: .ref a :: rest)) := by
  refine W.iast hexec hb ha ((hK.2 t0 _ ht).1 n (fun j => .int (f j))) (fun q => by cases q) (by show ¬ (i < 0 ∨ (arrV _ _ _).slots.size ≤ _); rw [arrV_size]; exact hin) rfl rfl hdg fun H1 e z oq => ?_
  refine kk H1 _ ?_ z oq
  show H1[a]? = some (vp_cell _ _)
  rw [e]
  rw [vp_cell_i, vp_cell_i, arrV_store]
  congr 2
  funext q
  by_cases hq : q = i.toNatClampNeg
  · subst hq
    simp [updV, upd]
  · simp [updV, upd, hq]
theorem mo_last (hexec : p.tables.exec = Jvm.exec) (hb : c.code = cc) (hK : va_K D cl tys s) {cA : ClassId} {n : Nat} {f : Nat → Int64} (ha : va_at D cl (a, .inl (cA, n, .inr (.inl f))) H) (t0 : Nat) (ht : tys[t0]? = some (cA, .long)) {i : Int32} {x : Int64} (hin : vp_in i n) (hdg : decode cc pc = .ok (.lastore, 1))
    (kk : ∀ (H1 : Heap) (z : Nat), va_at D cl (a, .inl (cA, n, .inr (.inl (vp_updL f i.toNatClampNeg x)))) H1 → H1.size = H.size → (∀ q : Nat, q ≠ a → H1[q]? = H[q]?) → W p l e R s m args below meth c H1 (locs ++ [⟨a, z⟩]) cells slots Q (F0 m (pc + 1) ls rest)) : W p l e R s m args below meth c H locs cells slots Q (F0 m pc ls (.long x :: .int i :: .ref a :: rest)) := by
  refine W.last hexec hb ha ((hK.2 t0 _ ht).1 n (fun j => .long (f j))) (fun q => by cases q) (by show ¬ (i < 0 ∨ (arrV _ _ _).slots.size ≤ _); rw [arrV_size]; exact hin) rfl rfl hdg fun H1 e z oq => ?_
  refine kk H1 _ ?_ z oq
  show H1[a]? = some (vp_cell _ _)
  rw [e]
  rw [vp_cell_l, vp_cell_l, arrV_store]
  congr 2
  funext q
  by_cases hq : q = i.toNatClampNeg
  · subst hq
    simp [updV, vp_updL]
  · simp [updV, vp_updL, hq]
theorem mo_astq (hexec : p.tables.exec = Jvm.exec) (hb : c.code = cc) (hK : va_K D cl tys s) {ci : Nat} {cA : ClassId} {r : vw_C} {n v : Nat} {vs : List Value} {f : Nat → Option Nat} (ha : va_at D cl (a, .inl (cA, n, .inr (.inr (.inr (.inr f))))) H) (t0 : Nat) (ht : tys[t0]? = some (cA, .object r.1)) (hv : va_at D cl (v, .inr (ci, vs)) H) (hc : cl[ci]? = some r) {i : Int32} (hin : vp_in i n) (hdg : decode cc pc = .ok (.aastore, 1))
    (kk : ∀ (H1 : Heap) (z : Nat), va_at D cl (a, .inl (cA, n, .inr (.inr (.inr (.inr (va_up f i.toNatClampNeg (some v))))))) H1 → H1.size = H.size → (∀ q : Nat, q ≠ a → H1[q]? = H[q]?) → W p l e R s m args below meth c H1 (locs ++ [⟨a, z⟩]) cells slots Q (F0 m (pc + 1) ls rest)) : W p l e R s m args below meth c H locs cells slots Q (F0 m pc ls (.ref v :: .int i :: .ref a :: rest)) := by
  have hlt : i.toNatClampNeg < n := Nat.not_le.mp fun q => hin (Or.inr q)
  have h0 : ¬ i < 0 := fun q => hin (Or.inl q)
  obtain ⟨r', hr', cellV, g1, g2, g3, -⟩ := hv
  have hcls := (hK.1 ci r hc).2
  obtain ⟨kA, comp, k1, k2, k3, -⟩ := (hK.2 t0 _ ht).2
  have hcomp : comp = D.1 ci := Option.some.inj (k3.symm.trans hcls.1)
  subst hcomp
  obtain ⟨kC, hkC, -⟩ := hcls.2
  refine W.aast hexec hb ha (fun q h => by cases h) (fun h => by cases h) k1 k2 rfl hkC ⟨h0, by show _ < (arrV _ _ _).slots.size; rw [arrV_size]; exact hlt⟩ g1 (fun q h => by rw [g3] at h; cases h) (by rw [g2]; exact hkC) (by rw [g2]; exact va_assign hcls) rfl rfl hdg fun H1 e z oq => ?_
  refine kk H1 _ ?_ z oq
  show H1[a]? = some (vp_cell _ _)
  rw [e]
  rw [vp_cell_q, vp_cell_q, arrV_store]
  congr 2
  funext q
  by_cases hq : q = i.toNatClampNeg
  · subst hq
    simp [updV, va_up, va_rf]
  · simp [updV, va_up, hq]
theorem mo_new {c0 : Code} (hexec : p.tables.exec = Jvm.exec) (hb : c0.code = cc) {own C : String} {T : u_T} {N ci index : Nat} {Ts : List Cond} (hts : ∀ w ∈ Ts, w.before args s = true) (hin : ∀ w ∈ u_ws C T N, w ∈ Ts) (ty : Nat → FieldType) (hty : ∀ k, k < N → parseFieldDescriptor (T k).2.2.1 = some (ty k)) (hown : s.vm.findClass own = some m.cls) (hcl : (Cond.classLink own index C).before args s = true) (hinst : (Cond.instantiable C N).before args s = true) (hini : (Cond.initialized C).before args s = true)
    (hK : va_K D cl tys s) (hc : cl[ci]? = some (C, T, N)) {fs : List Value} (hfs : ∀ j, j < N → defaultValue (ty j) = vp_V fs j) (hcells : cells + 1 ≤ R.cells) (hslots : slots + N ≤ R.slots) (hdg : decode cc pc = .ok (.new index, 3))
    (kk : ∀ (H1 : Heap), va_at D cl (H.size, .inr (ci, fs)) H1 → H1.size = H.size + 1 → (∀ q : Nat, q < H.size → H1[q]? = H[q]?) →
      W p l e R s m args below meth c0 H1 locs (cells + 1) (slots + N) Q (F0 m (pc + 3) ls (.ref H.size :: rest))) : W p l e R s m args below meth c0 H locs cells slots Q (F0 m pc ls rest) := by
  have hKn := hK.1 ci _ hc
  refine W.newcK hexec hb hown hcl hinst hini rfl hdg hcells hslots hKn.2.1 rfl fun H1 kC hkC e1 z1 o1 => ?_
  exact kk H1 ⟨_, hc, (u_born ty hts hin hKn hkC e1 hty).to hfs⟩ z1 o1
theorem mo_newa {cc : ByteArray} (hexec : p.tables.exec = Jvm.exec) (hb : c.code = cc) {atype : ArrayType} (harr : (Cond.arrayClass (newarray.typeOf atype)).before args s = true) {ty : FieldType} (hty : newarray.typeOf atype = ty) {cA : ClassId} (hfc : s.vm.findClass ("[" ++ ty.toString) = some cA)
    {n : Int32} {N' : Nat} {a0 : vp_A} (ha : ∀ cA : ClassId, vp_cell cA a0 = arrV cA N' (fun _ => defaultValue ty)) (hn : ¬ n < 0) (hN : n.toNatClampNeg = N') (hbytes : N' * componentBytes ty ≤ 536870912) (hcells : cells + 1 ≤ R.cells) (hslots : slots + N' ≤ R.slots) (hdg : decode cc pc = .ok (.newarray atype, 2))
    (kk : ∀ (H1 : Heap), va_at D cl (H.size, .inl (cA, a0)) H1 → H1.size = H.size + 1 → (∀ q : Nat, q < H.size → H1[q]? = H[q]?) →
      W p l e R s m args below meth c H1 locs (cells + 1) (slots + N') Q (F0 m (pc + 2) ls (.ref H.size :: rest))) : W p l e R s m args below meth c H locs cells slots Q (F0 m pc ls (.int n :: rest)) := by
  subst hty
  refine va_newaK hexec hb harr rfl hdg rfl hn hN hbytes hcells hslots rfl fun H1 cA' e1 z1 o1 hAr hNm => ?_
  cases hfc.symm.trans hNm
  refine kk H1 ?_ z1 o1
  show H1[H.size]? = some (vp_cell _ _)
  rw [ha]
  exact e1
theorem mo_newq (hexec : p.tables.exec = Jvm.exec) (hb : c.code = cc) {own C : String} {index : Nat} (hown : s.vm.findClass own = some m.cls) (hclink : (Cond.classLink own index C).before args s = true) (hover : va_AO C s) {cA : ClassId} (hfc : s.vm.findClass ("[" ++ (FieldType.object C).toString) = some cA)
    {n : Int32} {N' : Nat} (hn : ¬ n < 0) (hN : n.toNatClampNeg = N') (hbytes : N' * 4 ≤ 536870912) (hcells : cells + 1 ≤ R.cells) (hslots : slots + N' ≤ R.slots) (hdg : decode cc pc = .ok (.anewarray index, 3))
    (kk : ∀ (H1 : Heap), va_at D cl (H.size, .inl (cA, N', .inr (.inr (.inr (.inr (fun _ => none)))))) H1 → H1.size = H.size + 1 → (∀ q : Nat, q < H.size → H1[q]? = H[q]?) →
      W p l e R s m args below meth c H1 locs (cells + 1) (slots + N') Q (F0 m (pc + 3) ls (.ref H.size :: rest))) : W p l e R s m args below meth c H locs cells slots Q (F0 m pc ls (.int n :: rest)) := by
  subst hN
  refine W.anew hexec hb hown hclink (va_AO.use hover) rfl hdg rfl hn hbytes hcells hslots fun cA' kA comp f1 f2 f3 f4 => ?_
  cases hfc.symm.trans f1
  generalize hH1 : H.push ({ cls := cA, slots := Array.replicate n.toNatClampNeg .null, vm := .none } : Cell) = H1
  have z1 : H1.size = H.size + 1 := by rw [← hH1, Array.size_push]
  have e1 : H1[H.size]? = some (arrV cA n.toNatClampNeg (fun _ => .null)) := by rw [← hH1, Array.getElem?_push_size, ← arrV_new]
  have o1 : ∀ q : Nat, q < H.size → H1[q]? = H[q]? := fun q hq => by rw [← hH1, Array.getElem?_push, if_neg (Nat.ne_of_lt hq)]
  refine kk H1 ?_ z1 o1
  show H1[H.size]? = some (vp_cell _ _)
  rw [vp_cell_q]
  exact e1
theorem mo_copyi {cc : ByteArray} (hexec : p.tables.exec = Jvm.exec) (hb : c.code = cc) (hml : c.maxLocals = ls.size) {own : String} {index : Nat} (hown : s.vm.findClass own = some m.cls) (hlink : (Cond.methodLink own index arraycopyName).before args s = true) (hnat : (Cond.native arraycopyName).before args s = true) (hstat : (Cond.static arraycopyName).before args s = true) (hini : (Cond.initialized "java/lang/System").before args s = true)
    (hK : va_K D cl tys s) {a0 : Nat} {c0 c1 : ClassId} {n0 n1 : Nat} {f g : Nat → Int32} (ha0 : va_at D cl (a0, .inl (c0, n0, .inl f)) H) (ha1 : va_at D cl (a, .inl (c1, n1, .inl g)) H) (t0 : Nat) (ht0 : tys[t0]? = some (c0, .int)) (ht1 : tys[t0]? = some (c1, .int))
    {sp dp n : Int32} (h1 : ¬ sp < 0) (h2 : ¬ dp < 0) (h3 : ¬ n < 0) (h4 : sp.toNatClampNeg + n.toNatClampNeg ≤ n0) (h5 : dp.toNatClampNeg + n.toNatClampNeg ≤ n1)
    (hframes : 1 ≤ R.frames) (hlocals : (rest.map fun v => v.category).sum + (nativeFrameWords "java/lang/System" "arraycopy" 5 + 11) ≤ R.locals) (hdg : decode cc pc = .ok (.invokestatic index, 3))
    (kk : ∀ (H1 : Heap) (L : List Loc), (∀ q ∈ L, q.base = a) → va_at D cl (a, .inl (c1, n1, .inl (va_cpy f g sp.toNatClampNeg dp.toNatClampNeg n.toNatClampNeg))) H1 → H1.size = H.size → (∀ q : Nat, q ≠ a → H1[q]? = H[q]?) → W p l e R s m args below meth c H1 (locs ++ L) cells slots Q (F0 m (pc + 3) ls rest)) : W p l e R s m args below meth c H locs cells slots Q (F0 m pc ls (.int n :: .int dp :: .ref a :: .int sp :: .ref a0 :: rest)) := by
  have nn : ∀ z : Int32, ¬ z < 0 → z.toInt = (z.toNatClampNeg : Int) := by
    intro z hz
    have hz0 : (0 : Int) ≤ z.toInt := by
      have := Int32.not_lt.mp hz
      simpa using Int32.le_iff_toInt_le.mp this
    show z.toInt = ((z.toInt.toNat : Nat) : Int)
    omega
  intro T hT X
  have hc0 : H[a0]? = some (vp_cell c0 (n0, .inl f)) := ha0
  have hc1 : H[a]? = some (vp_cell c1 (n1, .inl g)) := ha1
  obtain ⟨-, k0, hk0, cm0, hkk0⟩ := (hK.2 t0 _ ht0).1 n0 (fun j => .int (f j))
  obtain ⟨-, k1, hk1, cm1, hkk1⟩ := (hK.2 t0 _ ht1).1 n1 (fun j => .int (g j))
  obtain ⟨vm', X', step⟩ := X.arraycopy hexec hown hlink hnat hstat hini (src := a0) (dst := a) (cs := vp_cell c0 (n0, .inl f)) (cd := vp_cell c1 (n1, .inl g)) (srcPos := sp) (destPos := dp) (n := n) (by rw [hT]; exact hc0) (by rw [hT]; exact hc1)
    (fun _ h => by cases h) (fun _ h => by cases h) (fun h => by cases h) (fun h => by cases h) hk0 hk1 hkk0 hkk1 (by simp [refKind]) h1 h2 h3
    (by rw [nn sp h1, nn n h3]; show ¬ _ > ((arrV c0 n0 (fun j => .int (f j))).slots.size : Int); rw [arrV_size]; omega)
    (by rw [nn dp h2, nn n h3]; show ¬ _ > ((arrV c1 n1 (fun j => .int (g j))).slots.size : Int); rw [arrV_size]; omega)
    (fun vm₁ _ i hi => by
      have e : (vp_cell c0 (n0, .inl f)).slots.getD (sp.toNatClampNeg + i) .null = .int (f (sp.toNatClampNeg + i)) := by
        show (arrV c0 n0 (fun j => .int (f j))).slots.getD _ _ = _
        rw [Array.getD_eq_getD_getElem?, arrV_read _ _ (by omega)]
        rfl
      refine ⟨?_, ?_⟩
      · rw [e]
        rfl
      · rw [e]
        exact trivial)
    (g := F0 m pc ls (.int n :: .int dp :: .ref a :: .int sp :: .ref a0 :: rest)) rfl (by rw [hml]) (rest := rest) rfl (by rw [hb]; exact hdg) hframes (by show 2 * 0 + _ + _ ≤ _; omega)
  have e1 : copied (vp_cell c0 (n0, .inl f)) (vp_cell c1 (n1, .inl g)) sp dp n = vp_cell c1 (n1, .inl (va_cpy f g sp.toNatClampNeg dp.toNatClampNeg n.toNatClampNeg)) := va_copied (fun z => .int z) c0 c1 f g h4
  rw [e1] at X' step
  have hl : a < H.size := (Array.getElem?_eq_some_iff.mp hc1).1
  have hheap : ((T.setVm vm').setCell a (vp_cell c1 (n1, .inl (va_cpy f g sp.toNatClampNeg dp.toNatClampNeg n.toNatClampNeg)))).heap = H.setIfInBounds a (vp_cell c1 (n1, .inl (va_cpy f g sp.toNatClampNeg dp.toNatClampNeg n.toNatClampNeg))) := by rw [← hT]; rfl
  have oq : ∀ q : Nat, q ≠ a → (H.setIfInBounds a (vp_cell c1 (n1, .inl (va_cpy f g sp.toNatClampNeg dp.toNatClampNeg n.toNatClampNeg))))[q]? = H[q]? := fun q hq => by simp [Array.getElem?_setIfInBounds, Ne.symm hq]
  obtain ⟨t, a1, b1⟩ := kk _ _ (fun q hq => by obtain ⟨z, -, hz⟩ := List.mem_map.mp hq; rw [← hz]) (show (H.setIfInBounds a _)[a]? = some _ by simp [Array.getElem?_setIfInBounds, hl]) (by simp) oq _ hheap X'
  exact ⟨t, step t a1, b1⟩
end MJR
end
section
/-! ===== the small world in the machine's heap: cell k + 1 lies at B + k, the script at b ===== -/
def mj_ish : Value → Bool
  | .retAddr _ => true
  | _ => false
section MSI
variable (B b : Nat)
def mj_ad : Nat → Nat
  | 0 => b
  | k + 1 => B + k
def mj_tv : Value → Value
  | .ref k => .ref (mj_ad B b k)
  | v => v
theorem mj_tv_cat (v : Value) : (mj_tv B b v).category = v.category := by cases v <;> rfl
theorem mj_tv_sum (S : List Value) : ((S.map (mj_tv B b)).map fun v => v.category).sum = mj_cat S := by
  unfold mj_cat
  rw [List.map_map]
  congr 1
  exact List.map_congr_left fun v _ => mj_tv_cat B b v
def mj_te (tys : List (ClassId × FieldType)) (x : va_E) : va_E := match x with
  | .inl (t, n, .inr (.inr (.inr (.inr f)))) => .inl ((tys.getD t (0, .int)).1, n, .inr (.inr (.inr (.inr (fun j => (f j).map (mj_ad B b))))))
  | .inl (t, a) => .inl ((tys.getD t (0, .int)).1, a)
  | .inr (c, fs) => .inr (c, fs.map (mj_tv B b))
def mj_Old (OH : Nat → Option Cell) (H : Heap) : Prop := ∀ q : Nat, q < B → H[q]? = OH q
def mj_Sim (tys : List (ClassId × FieldType)) (D : va_G) (OH : Nat → Option Cell) (w : mj_W) (H : Heap) : Prop :=
  (w.1.2.1 = 0 → H.size = B + w.1.1) ∧ B ≤ H.size ∧ mj_Old B OH H ∧ ∀ (k : Nat) (e : va_E), w.2 k = some e → ∃ j : Nat, k = j + 1 ∧ va_at D vwCl (B + j, mj_te B b tys e) H
variable {B b} {tys : List (ClassId × FieldType)} {D : va_G} {OH : Nat → Option Cell}
theorem mj_Sim.up {w : mj_W} {H H1 : Heap} {j : Nat} {e : va_E} (h : mj_Sim B b tys D OH w H) (h1 : va_at D vwCl (B + j, mj_te B b tys e) H1) (hz : H1.size = H.size) (ho : ∀ q : Nat, q ≠ B + j → H1[q]? = H[q]?) : mj_Sim B b tys D OH (w.1, mj_up w.2 (j + 1) e) H1 := by
  obtain ⟨a1, a2, a3, a4⟩ := h
  refine ⟨fun q => by rw [hz]; exact a1 q, by rw [hz]; exact a2, fun q hq => by rw [ho q (by omega)]; exact a3 q hq, fun k e' hk => ?_⟩
  have hk' : (if k = j + 1 then some e else w.2 k) = some e' := hk
  by_cases hj : k = j + 1
  · rw [if_pos hj] at hk'
    cases hk'
    exact ⟨j, hj, h1⟩
  · rw [if_neg hj] at hk'
    obtain ⟨i, hi, h2⟩ := a4 k e' hk'
    exact ⟨i, hi, h2.kept (ho _ (by show B + i ≠ B + j; omega))⟩
theorem mj_Sim.new {w : mj_W} {H H1 : Heap} {e : va_E} {sl : Nat} (h : mj_Sim B b tys D OH w H) (hx : w.1.2.1 = 0) (h1 : va_at D vwCl (H.size, mj_te B b tys e) H1) (hz : H1.size = H.size + 1) (ho : ∀ q : Nat, q < H.size → H1[q]? = H[q]?) : mj_Sim B b tys D OH ((w.1.1 + 1, w.1.2.1, w.1.2.2 + sl), mj_up w.2 (w.1.1 + 1) e) H1 := by
  obtain ⟨a1, a2, a3, a4⟩ := h
  have hs := a1 hx
  refine ⟨fun q => by show H1.size = B + (w.1.1 + 1); omega, by omega, fun q hq => by rw [ho q (by omega)]; exact a3 q hq, fun k e' hk => ?_⟩
  have hk' : (if k = w.1.1 + 1 then some e else w.2 k) = some e' := hk
  by_cases hj : k = w.1.1 + 1
  · rw [if_pos hj] at hk'
    cases hk'
    exact ⟨w.1.1, hj, by rw [← hs]; exact h1⟩
  · rw [if_neg hj] at hk'
    obtain ⟨i, hi, h2⟩ := a4 k e' hk'
    exact ⟨i, hi, h2.kept (ho _ h2.lt)⟩
/-- the locals: what is no hole is held -/
def mj_lr (B b : Nat) (ls : Array Slot) (nL : Nat) (L : List Value) : Prop := ls.size = nL ∧ lv_wf ls ∧ ∀ (k : Nat) (v : Value), L[k]? = some v → mj_ish v = false → ls[k]? = some (.val (mj_tv B b v))
def mj_lv (B b : Nat) (L : List Value) : List (Nat × Value) := (List.range L.length).filterMap (fun k => match L[k]? with
  | some v => if mj_ish v = true then none else some (k, mj_tv B b v)
  | none => none)
theorem mj_lv_mem {L : List Value} {q : Nat × Value} : q ∈ mj_lv B b L ↔ ∃ v, L[q.1]? = some v ∧ mj_ish v = false ∧ q.2 = mj_tv B b v := by
  unfold mj_lv
  rw [List.mem_filterMap]
  constructor
  · rintro ⟨k, -, h⟩
    cases hk : L[k]? with
    | none => rw [hk] at h; cases h
    | some v =>
      rw [hk] at h
      dsimp only at h
      by_cases hv : mj_ish v = true
      · rw [if_pos hv] at h; cases h
      · rw [if_neg hv] at h
        cases h
        exact ⟨v, hk, by simpa using hv, rfl⟩
  · rintro ⟨v, h1, h2, h3⟩
    refine ⟨q.1, List.mem_range.mpr (List.getElem?_eq_some_iff.mp h1).1, ?_⟩
    rw [h1]
    dsimp only
    rw [if_neg (by rw [h2]; decide), ← h3]
theorem mj_lr.has {ls : Array Slot} {nL : Nat} {L : List Value} (h : mj_lr B b ls nL L) : lv_has ls nL (mj_lv B b L) := by
  refine ⟨h.1, h.2.1, fun q hq => ?_⟩
  obtain ⟨v, h1, h2, h3⟩ := mj_lv_mem.mp hq
  rw [h3]
  exact h.2.2 q.1 v h1 h2
theorem mj_lr.of {ls : Array Slot} {nL : Nat} {L : List Value} {l : List (Nat × Value)} (h : lv_has ls nL l) (hm : ∀ q ∈ mj_lv B b L, q ∈ l) : mj_lr B b ls nL L :=
  ⟨h.1, h.2.1, fun k v h1 h2 => h.2.2 (k, mj_tv B b v) (hm _ (mj_lv_mem.mpr ⟨v, h1, h2, rfl⟩))⟩
theorem mj_hol_ish {v : Value} (h : mj_ish (mj_hol v) = false) : v.category ≠ 2 ∧ mj_hol v = v := by
  unfold mj_hol at h ⊢
  by_cases hc : v.category = 2
  · rw [if_pos hc] at h; cases h
  · rw [if_neg hc] at h ⊢; exact ⟨hc, rfl⟩
theorem mj_st1_get : ∀ (L : List Value) (i k : Nat) (v u : Value), (mj_st1 L i v)[k]? = some u → (k = i ∧ u = v) ∨ (k ≠ i ∧ ∃ u0, L[k]? = some u0 ∧ ((k + 1 = i ∧ u = mj_hol u0) ∨ (k + 1 ≠ i ∧ u = u0)))
  | [], i, k, v, u, h => by simp [mj_st1] at h
  | a :: L, 0, 0, v, u, h => by simp [mj_st1] at h; exact Or.inl ⟨rfl, h.symm⟩
  | a :: L, 0, k + 1, v, u, h => by
    simp only [mj_st1, List.getElem?_cons_succ] at h
    exact Or.inr ⟨by omega, u, by simpa using h, Or.inr ⟨by omega, rfl⟩⟩
  | a :: L, i + 1, 0, v, u, h => by
    simp only [mj_st1, List.getElem?_cons_zero, Option.some.injEq] at h
    refine Or.inr ⟨by omega, a, rfl, ?_⟩
    by_cases hi : i = 0
    · rw [if_pos hi] at h
      exact Or.inl ⟨by omega, h.symm⟩
    · rw [if_neg hi] at h
      exact Or.inr ⟨by omega, h.symm⟩
  | a :: L, i + 1, k + 1, v, u, h => by
    simp only [mj_st1, List.getElem?_cons_succ] at h
    rcases mj_st1_get L i k v u h with ⟨h1, h2⟩ | ⟨h1, u0, h2, h3⟩
    · exact Or.inl ⟨by omega, h2⟩
    · refine Or.inr ⟨by omega, u0, by simpa using h2, ?_⟩
      rcases h3 with ⟨h4, h5⟩ | ⟨h4, h5⟩
      · exact Or.inl ⟨by omega, h5⟩
      · exact Or.inr ⟨by omega, h5⟩
theorem mj_st2_get : ∀ (L : List Value) (i k : Nat) (v u : Value), (mj_st2 L i v)[k]? = some u → (k = i ∧ u = v) ∨ (k = i + 1 ∧ u = mj_hole) ∨ (k ≠ i ∧ k ≠ i + 1 ∧ ∃ u0, L[k]? = some u0 ∧ ((k + 1 = i ∧ u = mj_hol u0) ∨ (k + 1 ≠ i ∧ u = u0)))
  | [], i, k, v, u, h => by simp [mj_st2] at h
  | a :: L, 0, 0, v, u, h => by simp [mj_st2] at h; exact Or.inl ⟨rfl, h.symm⟩
  | a :: L, 0, k + 1, v, u, h => by
    simp only [mj_st2, List.getElem?_cons_succ] at h
    match L, k, h with
    | [], _, h => simp [mj_hd] at h
    | x :: L, 0, h => simp [mj_hd] at h; exact Or.inr (Or.inl ⟨rfl, h.symm⟩)
    | x :: L, k + 1, h =>
      simp only [mj_hd, List.getElem?_cons_succ] at h
      exact Or.inr (Or.inr ⟨by omega, by omega, u, by simpa using h, Or.inr ⟨by omega, rfl⟩⟩)
  | a :: L, i + 1, 0, v, u, h => by
    simp only [mj_st2, List.getElem?_cons_zero, Option.some.injEq] at h
    refine Or.inr (Or.inr ⟨by omega, by omega, a, rfl, ?_⟩)
    by_cases hi : i = 0
    · rw [if_pos hi] at h
      exact Or.inl ⟨by omega, h.symm⟩
    · rw [if_neg hi] at h
      exact Or.inr ⟨by omega, h.symm⟩
  | a :: L, i + 1, k + 1, v, u, h => by
    simp only [mj_st2, List.getElem?_cons_succ] at h
    rcases mj_st2_get L i k v u h with ⟨h1, h2⟩ | ⟨h1, h2⟩ | ⟨h1, h1', u0, h2, h3⟩
    · exact Or.inl ⟨by omega, h2⟩
    · exact Or.inr (Or.inl ⟨by omega, h2⟩)
    · refine Or.inr (Or.inr ⟨by omega, by omega, u0, by simpa using h2, ?_⟩)
      rcases h3 with ⟨h4, h5⟩ | ⟨h4, h5⟩
      · exact Or.inl ⟨by omega, h5⟩
      · exact Or.inr ⟨by omega, h5⟩
theorem mj_lr.st1 {ls : Array Slot} {nL i : Nat} {L : List Value} {v v' : Value} (hv : v' = mj_tv B b v) (h : lv_has ls nL ((i, v') :: (mj_lv B b L).filter (fun q => !(q.1 == i) && !(q.1 + 1 == i && q.2.category == 2)))) : mj_lr B b ls nL (mj_st1 L i v) := by
  subst hv
  refine mj_lr.of h fun q hq => ?_
  obtain ⟨u, h1, h2, h3⟩ := mj_lv_mem.mp hq
  rcases mj_st1_get L i q.1 v u h1 with ⟨e1, e2⟩ | ⟨e1, u0, e2, e3⟩
  · rw [e2] at h3
    rw [show q = (i, mj_tv B b v) from Prod.ext e1 h3]
    exact List.mem_cons_self
  · refine List.mem_cons_of_mem _ (List.mem_filter.mpr ?_)
    have hu : u = u0 ∧ ¬ (q.1 + 1 = i ∧ u.category = 2) := by
      rcases e3 with ⟨e4, e5⟩ | ⟨e4, e5⟩
      · rw [e5] at h2
        obtain ⟨g1, g2⟩ := mj_hol_ish h2
        rw [e5, g2]
        exact ⟨rfl, fun z => g1 z.2⟩
      · exact ⟨e5, fun z => e4 z.1⟩
    refine ⟨mj_lv_mem.mpr ⟨u0, e2, hu.1 ▸ h2, hu.1 ▸ h3⟩, ?_⟩
    rw [h3, mj_tv_cat]
    have hn := hu.2
    simp only [Bool.and_eq_true, Bool.not_eq_true', beq_eq_false_iff_ne, Bool.and_eq_false_iff, ne_eq]
    refine ⟨e1, ?_⟩
    by_cases z : q.1 + 1 = i
    · exact Or.inr (fun y => hn ⟨z, y⟩)
    · exact Or.inl z
theorem mj_lr.st2 {ls : Array Slot} {nL i : Nat} {L : List Value} {v v' : Value} (hv : v' = mj_tv B b v) (h : lv_has ls nL ((i, v') :: (mj_lv B b L).filter (fun q => !(q.1 == i) && (!(q.1 == i + 1) && !(q.1 + 1 == i && q.2.category == 2))))) : mj_lr B b ls nL (mj_st2 L i v) := by
  subst hv
  refine mj_lr.of h fun q hq => ?_
  obtain ⟨u, h1, h2, h3⟩ := mj_lv_mem.mp hq
  rcases mj_st2_get L i q.1 v u h1 with ⟨e1, e2⟩ | ⟨e1, e2⟩ | ⟨e1, e1', u0, e2, e3⟩
  · rw [e2] at h3
    rw [show q = (i, mj_tv B b v) from Prod.ext e1 h3]
    exact List.mem_cons_self
  · rw [e2] at h2
    cases h2
  · refine List.mem_cons_of_mem _ (List.mem_filter.mpr ?_)
    have hu : u = u0 ∧ ¬ (q.1 + 1 = i ∧ u.category = 2) := by
      rcases e3 with ⟨e4, e5⟩ | ⟨e4, e5⟩
      · rw [e5] at h2
        obtain ⟨g1, g2⟩ := mj_hol_ish h2
        rw [e5, g2]
        exact ⟨rfl, fun z => g1 z.2⟩
      · exact ⟨e5, fun z => e4 z.1⟩
    refine ⟨mj_lv_mem.mpr ⟨u0, e2, hu.1 ▸ h2, hu.1 ▸ h3⟩, ?_⟩
    rw [h3, mj_tv_cat]
    have hn := hu.2
    simp only [Bool.and_eq_true, Bool.not_eq_true', beq_eq_false_iff_ne, Bool.and_eq_false_iff, ne_eq]
    refine ⟨e1, e1', ?_⟩
    by_cases z : q.1 + 1 = i
    · exact Or.inr (fun y => hn ⟨z, y⟩)
    · exact Or.inl z
theorem mj_args_len (vs : List Value) : (mj_args vs).length = mj_cat vs := by
  induction vs with
  | nil => rfl
  | cons v vs ih =>
    unfold mj_args mj_cat at *
    rw [List.flatMap_cons, List.length_append, ih, List.map_cons, List.sum_cons]
    rcases lv_cat v with h | h
    · rw [h, if_neg (by decide)]; rfl
    · rw [h, if_pos rfl]; rfl
theorem mj_args_get : ∀ (vs : List Value) (o k : Nat) (v : Value), (mj_args vs)[k]? = some v → mj_ish v = false → (o + k, mj_tv B b v) ∈ lv_args o (vs.map (mj_tv B b))
  | [], o, k, v, h, _ => by simp [mj_args] at h
  | u :: vs, o, k, v, h, hv => by
    have e : mj_args (u :: vs) = (if u.category = 2 then [u, mj_hole] else [u]) ++ mj_args vs := by simp [mj_args]
    rw [e] at h
    simp only [List.map_cons, lv_args, mj_tv_cat]
    by_cases hc : u.category = 2
    · rw [if_pos hc] at h ⊢
      match k, h with
      | 0, h => simp at h; subst h; exact List.mem_cons_self
      | 1, h => simp at h; subst h; cases hv
      | k + 2, h =>
        simp at h
        have := mj_args_get vs (o + 2) k v h hv
        rw [show o + (k + 2) = o + 2 + k by omega]
        exact List.mem_cons_of_mem _ this
    · rw [if_neg hc] at h ⊢
      match k, h with
      | 0, h => simp at h; subst h; exact List.mem_cons_self
      | k + 1, h =>
        simp at h
        have := mj_args_get vs (o + 1) k v h hv
        rw [show o + (k + 1) = o + 1 + k by omega]
        exact List.mem_cons_of_mem _ this
theorem mj_lg_len (vs : List Value) : (lg_sl (vs.map (mj_tv B b))).length = mj_cat vs := by
  induction vs with
  | nil => rfl
  | cons v vs ih =>
    unfold lg_sl mj_cat at *
    rw [List.map_cons, List.flatMap_cons, List.length_append, ih, List.map_cons, List.sum_cons, mj_tv_cat]
    rcases lv_cat v with h | h
    · rw [h, if_neg (by decide)]; rfl
    · rw [h, if_pos rfl]; rfl
theorem mj_lr.entry {j : Nat} {vs : List Value} (h : mj_cat vs ≤ mj_l j) : mj_lr B b ((lg_sl (vs.map (mj_tv B b)) ++ List.replicate (mj_l j - (lg_sl (vs.map (mj_tv B b))).length) Slot.unset).toArray) (mj_l j) (mj_ent j vs) := by
  have h1 := lv_entry (vs.map (mj_tv B b)) (n := mj_l j) (by rw [mj_lg_len]; exact h)
  refine mj_lr.of h1 fun q hq => ?_
  obtain ⟨v, g1, g2, g3⟩ := mj_lv_mem.mp hq
  unfold mj_ent at g1
  by_cases hk : q.1 < (mj_args vs).length
  · rw [List.getElem?_append_left hk] at g1
    have := mj_args_get (B := B) (b := b) vs 0 q.1 v g1 g2
    rw [Nat.zero_add, ← g3] at this
    exact this
  · rw [List.getElem?_append_right (by omega)] at g1
    have := List.mem_of_getElem? g1
    rw [List.mem_replicate] at this
    rw [this.2] at g2
    cases g2
end MSI
/-- what lasts through a run: the classes, the script, Throwable's two statics, the texts, the exceptions apart -/
def mj_G (Ln : Nat) (xs : Nat → Int32) (B b : Nat) (tys : List (ClassId × FieldType)) (D : va_G) (OH : Nat → Option Cell) (s : State) : Prop :=
  va_K D vwCl tys s ∧ (∃ cI cL cQ : ClassId, tys = [(cI, .int), (cL, .long), (cQ, .object (mj_cl mj_qc).1)]) ∧ b < B ∧
  (∀ H : Heap, mj_Old B OH H → B ≤ H.size → va_X b Ln xs s H) ∧
  (∀ H : Heap, mj_Old B OH H → B ≤ H.size → vx_Zq Bundle.tN "UNASSIGNED_STACK" Bundle.steD (fun q => B ≤ q) s H) ∧
  (∀ H : Heap, mj_Old B OH H → B ≤ H.size → vx_Zq Bundle.tN "SUPPRESSED_SENTINEL" Bundle.listD (fun q => B ≤ q) s H) ∧
  (∀ q ∈ mj_str, ∃ sa : Nat, vk_R (mj_own q.1) q.2.1 q.2.2 sa s) ∧
  (∀ x y : Nat, x < mj_E.length → y < mj_E.length → x ≠ y → va_Nc (mj_E.getD x "") (mj_E.getD y "") s)
theorem mj_G.warm {Ln : Nat} {xs : Nat → Int32} {B b : Nat} {tys : List (ClassId × FieldType)} {D : va_G} {OH : Nat → Option Cell} {s U : State} (hW : s.WarmedH U.vm) (h : mj_G Ln xs B b tys D OH s) : mj_G Ln xs B b tys D OH U := by
  obtain ⟨h1, h2, h3, h4, h5, h6, h7, h8⟩ := h
  exact ⟨h1.moved hW.alike, h2, h3, fun H a c => (h4 H a c).moved hW.alike, fun H a c => (h5 H a c).moved hW.alike, fun H a c => (h6 H a c).moved hW.alike,
    fun q hq => by obtain ⟨sa, hs⟩ := h7 q hq; exact ⟨sa, hs.warm hW⟩, fun x y hx hy hn => (h8 x y hx hy hn).moved hW.alike⟩
end
section
/-! ===== each instruction of the mini machine that stays in its frame is a step of the machine ===== -/
section MJI
variable {α : Type} {r : α}
theorem mj_p1_s {S : List Value} {k : Int32 → List Value → Option α} (h : mj_p1 S k = some r) : ∃ y T, S = .int y :: T ∧ k y T = some r := by
  unfold mj_p1 at h; split at h; exact ⟨_, _, rfl, h⟩; cases h
theorem mj_p2_s {S : List Value} {k : Int32 → Int32 → List Value → Option α} (h : mj_p2 S k = some r) : ∃ y x T, S = .int y :: .int x :: T ∧ k y x T = some r := by
  unfold mj_p2 at h; split at h; exact ⟨_, _, _, rfl, h⟩; cases h
theorem mj_q1_s {S : List Value} {k : Int64 → List Value → Option α} (h : mj_q1 S k = some r) : ∃ y T, S = .long y :: T ∧ k y T = some r := by
  unfold mj_q1 at h; split at h; exact ⟨_, _, rfl, h⟩; cases h
theorem mj_q2_s {S : List Value} {k : Int64 → Int64 → List Value → Option α} (h : mj_q2 S k = some r) : ∃ y x T, S = .long y :: .long x :: T ∧ k y x T = some r := by
  unfold mj_q2 at h; split at h; exact ⟨_, _, _, rfl, h⟩; cases h
theorem mj_f1_s {S : List Value} {k : UInt32 → List Value → Option α} (h : mj_f1 S k = some r) : ∃ y T, S = .float y :: T ∧ k y T = some r := by
  unfold mj_f1 at h; split at h; exact ⟨_, _, rfl, h⟩; cases h
theorem mj_f2_s {S : List Value} {k : UInt32 → UInt32 → List Value → Option α} (h : mj_f2 S k = some r) : ∃ y x T, S = .float y :: .float x :: T ∧ k y x T = some r := by
  unfold mj_f2 at h; split at h; exact ⟨_, _, _, rfl, h⟩; cases h
theorem mj_d1_s {S : List Value} {k : UInt64 → List Value → Option α} (h : mj_d1 S k = some r) : ∃ y T, S = .double y :: T ∧ k y T = some r := by
  unfold mj_d1 at h; split at h; exact ⟨_, _, rfl, h⟩; cases h
theorem mj_d2_s {S : List Value} {k : UInt64 → UInt64 → List Value → Option α} (h : mj_d2 S k = some r) : ∃ y x T, S = .double y :: .double x :: T ∧ k y x T = some r := by
  unfold mj_d2 at h; split at h; exact ⟨_, _, _, rfl, h⟩; cases h
theorem mj_r1_s {S : List Value} {k : Nat → List Value → Option α} (h : mj_r1 S k = some r) : ∃ y T, S = .ref y :: T ∧ k y T = some r := by
  unfold mj_r1 at h; split at h; exact ⟨_, _, rfl, h⟩; cases h
theorem mj_li_s {v : Option Value} {k : Int32 → Option α} (h : mj_li v k = some r) : ∃ x, v = some (.int x) ∧ k x = some r := by
  unfold mj_li at h; split at h; exact ⟨_, rfl, h⟩; cases h
theorem mj_lj_s {v : Option Value} {k : Int64 → Option α} (h : mj_lj v k = some r) : ∃ x, v = some (.long x) ∧ k x = some r := by
  unfold mj_lj at h; split at h; exact ⟨_, rfl, h⟩; cases h
theorem mj_lf_s {v : Option Value} {k : UInt32 → Option α} (h : mj_lf v k = some r) : ∃ x, v = some (.float x) ∧ k x = some r := by
  unfold mj_lf at h; split at h; exact ⟨_, rfl, h⟩; cases h
theorem mj_ld_s {v : Option Value} {k : UInt64 → Option α} (h : mj_ld v k = some r) : ∃ x, v = some (.double x) ∧ k x = some r := by
  unfold mj_ld at h; split at h; exact ⟨_, rfl, h⟩; cases h
theorem mj_lr_s {v : Option Value} {k : Nat → Option α} (h : mj_lr' v k = some r) : ∃ x, v = some (.ref x) ∧ k x = some r := by
  unfold mj_lr' at h; split at h; exact ⟨_, rfl, h⟩; cases h
theorem mj_eo_s {e : Option va_E} {k : Nat → List Value → Option α} (h : mj_eo e k = some r) : ∃ c fs, e = some (.inr (c, fs)) ∧ k c fs = some r := by
  unfold mj_eo at h; split at h; exact ⟨_, _, rfl, h⟩; cases h
theorem mj_ei_s {e : Option va_E} {k : Nat → (Nat → Int32) → Option α} (h : mj_ei e k = some r) : ∃ n f, e = some (.inl (0, n, .inl f)) ∧ k n f = some r := by
  unfold mj_ei at h; split at h
  · split at h
    · rename_i h0; subst h0; exact ⟨_, _, rfl, h⟩
    · cases h
  · cases h
theorem mj_ej_s {e : Option va_E} {k : Nat → (Nat → Int64) → Option α} (h : mj_ej e k = some r) : ∃ n f, e = some (.inl (1, n, .inr (.inl f))) ∧ k n f = some r := by
  unfold mj_ej at h; split at h
  · split at h
    · rename_i h0; subst h0; exact ⟨_, _, rfl, h⟩
    · cases h
  · cases h
theorem mj_eq_s {e : Option va_E} {k : Nat → (Nat → Option Nat) → Option α} (h : mj_eq e k = some r) : ∃ n f, e = some (.inl (2, n, .inr (.inr (.inr (.inr f))))) ∧ k n f = some r := by
  unfold mj_eq at h; split at h
  · split at h
    · rename_i h0; subst h0; exact ⟨_, _, rfl, h⟩
    · cases h
  · cases h
theorem mj_in_s {i : Int32} {n : Nat} {k : Option α} (h : mj_in i n k = some r) : vp_in i n ∧ k = some r := by
  unfold mj_in at h; split at h
  · cases h
  · rename_i h0; exact ⟨h0, h⟩
theorem mj_if_s {c : Prop} [Decidable c] {k : Option α} (h : mj_if c k = some r) : c ∧ k = some r := by
  unfold mj_if at h; split at h
  · rename_i h0; exact ⟨h0, h⟩
  · cases h
theorem mj_tg_s {pc : Nat} {off : Int} {k : Nat → Option α} (h : mj_tg pc off k = some r) : ∃ t : Nat, (pc : Int) + off = (t : Int) ∧ k t = some r := by
  unfold mj_tg at h; split at h
  · rename_i h0; exact ⟨_, (Int.toNat_of_nonneg h0).symm, h⟩
  · cases h
end MJI
theorem mj_narrow {B b : Nat} {ty : FieldType} {v : Value} (h : narrow ty v = v) : narrow ty (mj_tv B b v) = mj_tv B b v := by
  cases v <;> first | exact h | (cases ty <;> rfl)
theorem mj_fits {B b : Nat} {ty : FieldType} {v : Value} (h : fits ty v = true) : fits ty (mj_tv B b v) = true := by
  cases v <;> first | exact h | (cases ty <;> first | rfl | exact h)
theorem mj_init0 {i : Nat} (h : (mj_y i).name = "<init>") : i ≠ 0 := by
  rintro rfl
  exact absurd h (by decide +kernel)
/-- the frame of method i at its start s -/
def mj_X (Ln : Nat) (xs : Nat → Int32) (B b : Nat) (tys : List (ClassId × FieldType)) (D : va_G) (OH : Nat → Option Cell) (i : Nat) (p : Program) (l : Launch) (s : State) (m : MethodId) (args : Array Value) (meth : Method) (c : Code) : Prop :=
  p.tables.exec = Jvm.exec ∧ c.code = mj_b i ∧ meth.sig.returnType = mj_r i ∧ c.maxLocals = mj_l i ∧ s.vm.findClass (mj_own (mj_o i)) = some m.cls ∧ (∀ w ∈ mj_GT, w.before args s = true) ∧ mj_G Ln xs B b tys D OH s ∧ meth.locks = false ∧ (i ≠ 0 → c.exceptionTable.toList = tableOf (mj_h i)) ∧ (i ≠ 0 → meth.name = (mj_y i).name) ∧ l.stackTraces = false ∧ B ≤ s.heap.size ∧ mj_Old B OH s.heap
set_option maxHeartbeats 4000000 in
set_option maxRecDepth 100000 in
theorem mj_step {p : Program} {l : Launch} {e : Env} {R : Room} {s : State} {m : MethodId} {args : Array Value} {below : List Frame} {meth : Method} {c : Code} {H : Heap} {locs : List Loc} {cells slots : Nat} {Q : State → Prop} {ls : Array Slot}
    {Ln : Nat} {xs : Nat → Int32} {B b : Nat} {tys : List (ClassId × FieldType)} {D : va_G} {OH : Nat → Option Cell} {i pc pc' : Nat} {L L' S S' : List Value} {w w' : mj_W} {g : Instr} {len : Nat}
    (hst : mj_stp Ln xs i pc L S w g = some ((pc', L', S'), w')) (hd0 : decode (mj_b i) pc = .ok (g, len)) (hln : mj_sw g = true ∨ len = mj_ln g) (X : mj_X Ln xs B b tys D OH i p l s m args meth c) (hF : mj_F i ≤ R.frames) (hDl : mj_D i ≤ R.locals)
    (hS : mj_Sim B b tys D OH w H) (hL : mj_lr B b ls (mj_l i) L) (hlo : ∀ q ∈ locs, B ≤ q.base) (hrc : cells + (w'.1.1 + w'.1.2.1) ≤ R.cells + (w.1.1 + w.1.2.1)) (hrs : slots + w'.1.2.2 ≤ R.slots + w.1.2.2)
    (kk : ∀ (H1 : Heap) (ls1 : Array Slot) (locs1 : List Loc) (c1 z1 : Nat), mj_Sim B b tys D OH w' H1 → mj_lr B b ls1 (mj_l i) L' → H.size ≤ H1.size → (∀ q ∈ locs1, B ≤ q.base) → c1 + (w.1.1 + w.1.2.1) = cells + (w'.1.1 + w'.1.2.1) → z1 + w.1.2.2 = slots + w'.1.2.2 → W p l e R s m args below meth c H1 locs1 c1 z1 Q (F0 m pc' ls1 (S'.map (mj_tv B b)))) :
    W p l e R s m args below meth c H locs cells slots Q (F0 m pc ls (S.map (mj_tv B b))) := by
  obtain ⟨hx, hb, hr, hml, hown, hts, hG, hlk, htab, hnm, hnt, hBs, hOs⟩ := X
  have hd1 : mj_sw g = false → decode (mj_b i) pc = .ok (g, mj_ln g) := fun h => by
    rcases hln with h1 | h1
    · rw [h] at h1; cases h1
    · rw [← h1]; exact hd0
  cases g with
  | iconst n =>
    have hd := hd1 rfl
    simp only [mj_stp] at hst
    cases hst
    refine lv_iconst (v := Int32.ofInt n) hx hb hd rfl ?_
    exact kk H ls locs cells slots hS hL (Nat.le_refl _) hlo rfl rfl
  | bipush n =>
    have hd := hd1 rfl
    simp only [mj_stp] at hst
    cases hst
    refine lv_bipush (v := (Int8.ofInt n).toInt32) hx hb hd rfl ?_
    exact kk H ls locs cells slots hS hL (Nat.le_refl _) hlo rfl rfl
  | sipush n =>
    have hd := hd1 rfl
    simp only [mj_stp] at hst
    cases hst
    refine lv_sipush (v := (Int16.ofInt n).toInt32) hx hb hd rfl ?_
    exact kk H ls locs cells slots hS hL (Nat.le_refl _) hlo rfl rfl
  | lconst n =>
    have hd := hd1 rfl
    simp only [mj_stp] at hst
    cases hst
    refine lv_lconst (v := Int64.ofNat (n : Nat)) hx hb hd rfl ?_
    exact kk H ls locs cells slots hS hL (Nat.le_refl _) hlo rfl rfl
  | fconst n =>
    have hd := hd1 rfl
    simp only [mj_stp] at hst
    match n, hd, hst with
    | 0, hd, hst => cases hst; refine lv_fconst0 hx hb hd ?_; exact kk H ls locs cells slots hS hL (Nat.le_refl _) hlo rfl rfl
    | 1, hd, hst => cases hst; refine lv_fconst1 hx hb hd ?_; exact kk H ls locs cells slots hS hL (Nat.le_refl _) hlo rfl rfl
    | 2, hd, hst => cases hst; refine lv_fconst2 hx hb hd ?_; exact kk H ls locs cells slots hS hL (Nat.le_refl _) hlo rfl rfl
  | dconst n =>
    have hd := hd1 rfl
    simp only [mj_stp] at hst
    match n, hd, hst with
    | 0, hd, hst => cases hst; refine lv_dconst0 hx hb hd ?_; exact kk H ls locs cells slots hS hL (Nat.le_refl _) hlo rfl rfl
    | 1, hd, hst => cases hst; refine lv_dconst1 hx hb hd ?_; exact kk H ls locs cells slots hS hL (Nat.le_refl _) hlo rfl rfl
  | iload k =>
    have hd := hd1 rfl
    simp only [mj_stp] at hst
    have h9 := mj_li_s hst; clear hst; obtain ⟨x, hk, hst⟩ := h9
    cases hst
    refine lv_iload hx hb hd (hL.2.2 _ _ hk rfl) ?_
    exact kk H ls locs cells slots hS hL (Nat.le_refl _) hlo rfl rfl
  | iload_n k =>
    have hd := hd1 rfl
    simp only [mj_stp] at hst
    have h9 := mj_li_s hst; clear hst; obtain ⟨x, hk, hst⟩ := h9
    cases hst
    refine lv_iload_n hx hb hd rfl (hL.2.2 _ _ hk rfl) ?_
    exact kk H ls locs cells slots hS hL (Nat.le_refl _) hlo rfl rfl
  | lload k =>
    have hd := hd1 rfl
    simp only [mj_stp] at hst
    have h9 := mj_lj_s hst; clear hst; obtain ⟨x, hk, hst⟩ := h9
    cases hst
    refine lv_lload hx hb hd (hL.2.2 _ _ hk rfl) ?_
    exact kk H ls locs cells slots hS hL (Nat.le_refl _) hlo rfl rfl
  | lload_n k =>
    have hd := hd1 rfl
    simp only [mj_stp] at hst
    have h9 := mj_lj_s hst; clear hst; obtain ⟨x, hk, hst⟩ := h9
    cases hst
    refine lv_lload_n hx hb hd rfl (hL.2.2 _ _ hk rfl) ?_
    exact kk H ls locs cells slots hS hL (Nat.le_refl _) hlo rfl rfl
  | fload k =>
    have hd := hd1 rfl
    simp only [mj_stp] at hst
    have h9 := mj_lf_s hst; clear hst; obtain ⟨x, hk, hst⟩ := h9
    cases hst
    refine lv_fload hx hb hd (hL.2.2 _ _ hk rfl) ?_
    exact kk H ls locs cells slots hS hL (Nat.le_refl _) hlo rfl rfl
  | fload_n k =>
    have hd := hd1 rfl
    simp only [mj_stp] at hst
    have h9 := mj_lf_s hst; clear hst; obtain ⟨x, hk, hst⟩ := h9
    cases hst
    refine lv_fload_n hx hb hd rfl (hL.2.2 _ _ hk rfl) ?_
    exact kk H ls locs cells slots hS hL (Nat.le_refl _) hlo rfl rfl
  | dload k =>
    have hd := hd1 rfl
    simp only [mj_stp] at hst
    have h9 := mj_ld_s hst; clear hst; obtain ⟨x, hk, hst⟩ := h9
    cases hst
    refine lv_dload hx hb hd (hL.2.2 _ _ hk rfl) ?_
    exact kk H ls locs cells slots hS hL (Nat.le_refl _) hlo rfl rfl
  | dload_n k =>
    have hd := hd1 rfl
    simp only [mj_stp] at hst
    have h9 := mj_ld_s hst; clear hst; obtain ⟨x, hk, hst⟩ := h9
    cases hst
    refine lv_dload_n hx hb hd rfl (hL.2.2 _ _ hk rfl) ?_
    exact kk H ls locs cells slots hS hL (Nat.le_refl _) hlo rfl rfl
  | aload k =>
    have hd := hd1 rfl
    simp only [mj_stp] at hst
    have h9 := mj_lr_s hst; clear hst; obtain ⟨x, hk, hst⟩ := h9
    cases hst
    refine lv_aload hx hb hd (hL.2.2 _ _ hk rfl) ?_
    exact kk H ls locs cells slots hS hL (Nat.le_refl _) hlo rfl rfl
  | aload_n k =>
    have hd := hd1 rfl
    simp only [mj_stp] at hst
    have h9 := mj_lr_s hst; clear hst; obtain ⟨x, hk, hst⟩ := h9
    cases hst
    refine lv_aload_n hx hb hd rfl (hL.2.2 _ _ hk rfl) ?_
    exact kk H ls locs cells slots hS hL (Nat.le_refl _) hlo rfl rfl
  | istore k =>
    have hd := hd1 rfl
    simp only [mj_stp] at hst
    have h9 := mj_p1_s hst; clear hst; obtain ⟨x, T, rfl, hst⟩ := h9
    have h9 := mj_if_s hst; clear hst; obtain ⟨hk, hst⟩ := h9
    cases hst
    refine lv_istore hx hb hd hL.has hk rfl (fun ls' h' => ?_)
    exact kk H ls' locs cells slots hS (mj_lr.st1 rfl h') (Nat.le_refl _) hlo rfl rfl
  | istore_n k =>
    have hd := hd1 rfl
    simp only [mj_stp] at hst
    have h9 := mj_p1_s hst; clear hst; obtain ⟨x, T, rfl, hst⟩ := h9
    have h9 := mj_if_s hst; clear hst; obtain ⟨hk, hst⟩ := h9
    cases hst
    refine lv_istore_n hx hb hd rfl hL.has hk rfl (fun ls' h' => ?_)
    exact kk H ls' locs cells slots hS (mj_lr.st1 rfl h') (Nat.le_refl _) hlo rfl rfl
  | lstore k =>
    have hd := hd1 rfl
    simp only [mj_stp] at hst
    have h9 := mj_q1_s hst; clear hst; obtain ⟨x, T, rfl, hst⟩ := h9
    have h9 := mj_if_s hst; clear hst; obtain ⟨hk, hst⟩ := h9
    cases hst
    refine lv_lstore hx hb hd hL.has hk rfl (fun ls' h' => ?_)
    exact kk H ls' locs cells slots hS (mj_lr.st2 rfl h') (Nat.le_refl _) hlo rfl rfl
  | lstore_n k =>
    have hd := hd1 rfl
    simp only [mj_stp] at hst
    have h9 := mj_q1_s hst; clear hst; obtain ⟨x, T, rfl, hst⟩ := h9
    have h9 := mj_if_s hst; clear hst; obtain ⟨hk, hst⟩ := h9
    cases hst
    refine lv_lstore_n hx hb hd rfl hL.has hk rfl (fun ls' h' => ?_)
    exact kk H ls' locs cells slots hS (mj_lr.st2 rfl h') (Nat.le_refl _) hlo rfl rfl
  | fstore k =>
    have hd := hd1 rfl
    simp only [mj_stp] at hst
    have h9 := mj_f1_s hst; clear hst; obtain ⟨x, T, rfl, hst⟩ := h9
    have h9 := mj_if_s hst; clear hst; obtain ⟨hk, hst⟩ := h9
    cases hst
    refine lv_fstore hx hb hd hL.has hk rfl (fun ls' h' => ?_)
    exact kk H ls' locs cells slots hS (mj_lr.st1 rfl h') (Nat.le_refl _) hlo rfl rfl
  | fstore_n k =>
    have hd := hd1 rfl
    simp only [mj_stp] at hst
    have h9 := mj_f1_s hst; clear hst; obtain ⟨x, T, rfl, hst⟩ := h9
    have h9 := mj_if_s hst; clear hst; obtain ⟨hk, hst⟩ := h9
    cases hst
    refine lv_fstore_n hx hb hd rfl hL.has hk rfl (fun ls' h' => ?_)
    exact kk H ls' locs cells slots hS (mj_lr.st1 rfl h') (Nat.le_refl _) hlo rfl rfl
  | dstore k =>
    have hd := hd1 rfl
    simp only [mj_stp] at hst
    have h9 := mj_d1_s hst; clear hst; obtain ⟨x, T, rfl, hst⟩ := h9
    have h9 := mj_if_s hst; clear hst; obtain ⟨hk, hst⟩ := h9
    cases hst
    refine lv_dstore hx hb hd hL.has hk rfl (fun ls' h' => ?_)
    exact kk H ls' locs cells slots hS (mj_lr.st2 rfl h') (Nat.le_refl _) hlo rfl rfl
  | dstore_n k =>
    have hd := hd1 rfl
    simp only [mj_stp] at hst
    have h9 := mj_d1_s hst; clear hst; obtain ⟨x, T, rfl, hst⟩ := h9
    have h9 := mj_if_s hst; clear hst; obtain ⟨hk, hst⟩ := h9
    cases hst
    refine lv_dstore_n hx hb hd rfl hL.has hk rfl (fun ls' h' => ?_)
    exact kk H ls' locs cells slots hS (mj_lr.st2 rfl h') (Nat.le_refl _) hlo rfl rfl
  | astore k =>
    have hd := hd1 rfl
    simp only [mj_stp] at hst
    have h9 := mj_r1_s hst; clear hst; obtain ⟨x, T, rfl, hst⟩ := h9
    have h9 := mj_if_s hst; clear hst; obtain ⟨hk, hst⟩ := h9
    cases hst
    refine lv_astore hx hb hd hL.has hk rfl (fun ls' h' => ?_)
    exact kk H ls' locs cells slots hS (mj_lr.st1 rfl h') (Nat.le_refl _) hlo rfl rfl
  | astore_n k =>
    have hd := hd1 rfl
    simp only [mj_stp] at hst
    have h9 := mj_r1_s hst; clear hst; obtain ⟨x, T, rfl, hst⟩ := h9
    have h9 := mj_if_s hst; clear hst; obtain ⟨hk, hst⟩ := h9
    cases hst
    refine lv_astore_n hx hb hd rfl hL.has hk rfl (fun ls' h' => ?_)
    exact kk H ls' locs cells slots hS (mj_lr.st1 rfl h') (Nat.le_refl _) hlo rfl rfl
  | iinc k n =>
    have hd := hd1 rfl
    simp only [mj_stp] at hst
    have h9 := mj_li_s hst; clear hst; obtain ⟨x, hk, hst⟩ := h9
    have h9 := mj_if_s hst; clear hst; obtain ⟨hlt, hst⟩ := h9
    cases hst
    obtain ⟨j, hj⟩ := List.mem_iff_getElem?.mp (mj_lv_mem.mpr ⟨_, hk, rfl, rfl⟩ : (k, Value.int x) ∈ mj_lv B b L)
    refine lv_iinc hx hb hd hL.has hj rfl hlt rfl (fun ls' h' => ?_)
    exact kk H ls' locs cells slots hS (mj_lr.st1 rfl h') (Nat.le_refl _) hlo rfl rfl
  | iadd =>
    have hd := hd1 rfl
    simp only [mj_stp] at hst
    have h9 := mj_p2_s hst; clear hst; obtain ⟨y, x, T, rfl, hst⟩ := h9
    cases hst
    refine lv_iadd hx hb hd ?_
    exact kk H ls locs cells slots hS hL (Nat.le_refl _) hlo rfl rfl
  | isub =>
    have hd := hd1 rfl
    simp only [mj_stp] at hst
    have h9 := mj_p2_s hst; clear hst; obtain ⟨y, x, T, rfl, hst⟩ := h9
    cases hst
    refine lv_isub hx hb hd ?_
    exact kk H ls locs cells slots hS hL (Nat.le_refl _) hlo rfl rfl
  | imul =>
    have hd := hd1 rfl
    simp only [mj_stp] at hst
    have h9 := mj_p2_s hst; clear hst; obtain ⟨y, x, T, rfl, hst⟩ := h9
    cases hst
    refine lv_imul hx hb hd ?_
    exact kk H ls locs cells slots hS hL (Nat.le_refl _) hlo rfl rfl
  | iand =>
    have hd := hd1 rfl
    simp only [mj_stp] at hst
    have h9 := mj_p2_s hst; clear hst; obtain ⟨y, x, T, rfl, hst⟩ := h9
    cases hst
    refine lv_iand hx hb hd ?_
    exact kk H ls locs cells slots hS hL (Nat.le_refl _) hlo rfl rfl
  | ishl =>
    have hd := hd1 rfl
    simp only [mj_stp] at hst
    have h9 := mj_p2_s hst; clear hst; obtain ⟨y, x, T, rfl, hst⟩ := h9
    cases hst
    refine lv_ishl hx hb hd ?_
    exact kk H ls locs cells slots hS hL (Nat.le_refl _) hlo rfl rfl
  | ishr =>
    have hd := hd1 rfl
    simp only [mj_stp] at hst
    have h9 := mj_p2_s hst; clear hst; obtain ⟨y, x, T, rfl, hst⟩ := h9
    cases hst
    refine lv_ishr hx hb hd ?_
    exact kk H ls locs cells slots hS hL (Nat.le_refl _) hlo rfl rfl
  | idiv =>
    have hd := hd1 rfl
    simp only [mj_stp] at hst
    have h9 := mj_p2_s hst; clear hst; obtain ⟨y, x, T, rfl, hst⟩ := h9
    have h9 := mj_if_s hst; clear hst; obtain ⟨h0, hst⟩ := h9
    cases hst
    refine lv_idiv hx hb hd h0 ?_
    exact kk H ls locs cells slots hS hL (Nat.le_refl _) hlo rfl rfl
  | irem =>
    have hd := hd1 rfl
    simp only [mj_stp] at hst
    have h9 := mj_p2_s hst; clear hst; obtain ⟨y, x, T, rfl, hst⟩ := h9
    have h9 := mj_if_s hst; clear hst; obtain ⟨h0, hst⟩ := h9
    cases hst
    refine lv_irem hx hb hd h0 ?_
    exact kk H ls locs cells slots hS hL (Nat.le_refl _) hlo rfl rfl
  | ladd =>
    have hd := hd1 rfl
    simp only [mj_stp] at hst
    have h9 := mj_q2_s hst; clear hst; obtain ⟨y, x, T, rfl, hst⟩ := h9
    cases hst
    refine lv_ladd hx hb hd ?_
    exact kk H ls locs cells slots hS hL (Nat.le_refl _) hlo rfl rfl
  | lsub =>
    have hd := hd1 rfl
    simp only [mj_stp] at hst
    have h9 := mj_q2_s hst; clear hst; obtain ⟨y, x, T, rfl, hst⟩ := h9
    cases hst
    refine lv_lsub hx hb hd ?_
    exact kk H ls locs cells slots hS hL (Nat.le_refl _) hlo rfl rfl
  | lmul =>
    have hd := hd1 rfl
    simp only [mj_stp] at hst
    have h9 := mj_q2_s hst; clear hst; obtain ⟨y, x, T, rfl, hst⟩ := h9
    cases hst
    refine lv_lmul hx hb hd ?_
    exact kk H ls locs cells slots hS hL (Nat.le_refl _) hlo rfl rfl
  | i2l =>
    have hd := hd1 rfl
    simp only [mj_stp] at hst
    have h9 := mj_p1_s hst; clear hst; obtain ⟨x, T, rfl, hst⟩ := h9
    cases hst
    refine lv_i2l hx hb hd rfl ?_
    exact kk H ls locs cells slots hS hL (Nat.le_refl _) hlo rfl rfl
  | lshl =>
    have hd := hd1 rfl
    simp only [mj_stp] at hst
    split at hst
    · cases hst
      refine lv_lshl hx hb hd rfl ?_
      exact kk H ls locs cells slots hS hL (Nat.le_refl _) hlo rfl rfl
    · cases hst
  | lcmp =>
    have hd := hd1 rfl
    simp only [mj_stp] at hst
    have h9 := mj_q2_s hst; clear hst; obtain ⟨y, x, T, rfl, hst⟩ := h9
    cases hst
    refine W.lcmp hx hb hd ?_
    exact kk H ls locs cells slots hS hL (Nat.le_refl _) hlo rfl rfl
  | i2f =>
    have hd := hd1 rfl
    simp only [mj_stp] at hst
    have h9 := mj_p1_s hst; clear hst; obtain ⟨x, T, rfl, hst⟩ := h9
    cases hst
    refine lv_i2f hx hb hd ?_
    exact kk H ls locs cells slots hS hL (Nat.le_refl _) hlo rfl rfl
  | i2d =>
    have hd := hd1 rfl
    simp only [mj_stp] at hst
    have h9 := mj_p1_s hst; clear hst; obtain ⟨x, T, rfl, hst⟩ := h9
    cases hst
    refine lv_i2d hx hb hd ?_
    exact kk H ls locs cells slots hS hL (Nat.le_refl _) hlo rfl rfl
  | f2i =>
    have hd := hd1 rfl
    simp only [mj_stp] at hst
    have h9 := mj_f1_s hst; clear hst; obtain ⟨x, T, rfl, hst⟩ := h9
    cases hst
    refine lv_f2i hx hb hd ?_
    exact kk H ls locs cells slots hS hL (Nat.le_refl _) hlo rfl rfl
  | d2l =>
    have hd := hd1 rfl
    simp only [mj_stp] at hst
    have h9 := mj_d1_s hst; clear hst; obtain ⟨x, T, rfl, hst⟩ := h9
    cases hst
    refine lv_d2l hx hb hd ?_
    exact kk H ls locs cells slots hS hL (Nat.le_refl _) hlo rfl rfl
  | f2d =>
    have hd := hd1 rfl
    simp only [mj_stp] at hst
    have h9 := mj_f1_s hst; clear hst; obtain ⟨x, T, rfl, hst⟩ := h9
    have h9 := mj_if_s hst; clear hst; obtain ⟨h0, hst⟩ := h9
    cases hst
    refine lv_f2d hx hb hd h0 ?_
    exact kk H ls locs cells slots hS hL (Nat.le_refl _) hlo rfl rfl
  | fsub =>
    have hd := hd1 rfl
    simp only [mj_stp] at hst
    have h9 := mj_f2_s hst; clear hst; obtain ⟨y, x, T, rfl, hst⟩ := h9
    have h9 := mj_if_s hst; clear hst; obtain ⟨h0, hst⟩ := h9
    cases hst
    refine lv_fsub hx hb hd h0 ?_
    exact kk H ls locs cells slots hS hL (Nat.le_refl _) hlo rfl rfl
  | dsub =>
    have hd := hd1 rfl
    simp only [mj_stp] at hst
    have h9 := mj_d2_s hst; clear hst; obtain ⟨y, x, T, rfl, hst⟩ := h9
    have h9 := mj_if_s hst; clear hst; obtain ⟨h0, hst⟩ := h9
    cases hst
    refine lv_dsub hx hb hd h0 ?_
    exact kk H ls locs cells slots hS hL (Nat.le_refl _) hlo rfl rfl
  | fmul =>
    have hd := hd1 rfl
    simp only [mj_stp] at hst
    have h9 := mj_f2_s hst; clear hst; obtain ⟨y, x, T, rfl, hst⟩ := h9
    have h9 := mj_if_s hst; clear hst; obtain ⟨h0, hst⟩ := h9
    cases hst
    refine lv_fmul hx hb hd h0 ?_
    exact kk H ls locs cells slots hS hL (Nat.le_refl _) hlo rfl rfl
  | dmul =>
    have hd := hd1 rfl
    simp only [mj_stp] at hst
    have h9 := mj_d2_s hst; clear hst; obtain ⟨y, x, T, rfl, hst⟩ := h9
    have h9 := mj_if_s hst; clear hst; obtain ⟨h0, hst⟩ := h9
    cases hst
    refine lv_dmul hx hb hd h0 ?_
    exact kk H ls locs cells slots hS hL (Nat.le_refl _) hlo rfl rfl
  | fdiv =>
    have hd := hd1 rfl
    simp only [mj_stp] at hst
    have h9 := mj_f2_s hst; clear hst; obtain ⟨y, x, T, rfl, hst⟩ := h9
    have h9 := mj_if_s hst; clear hst; obtain ⟨h0, hst⟩ := h9
    cases hst
    refine lv_fdiv hx hb hd h0 ?_
    exact kk H ls locs cells slots hS hL (Nat.le_refl _) hlo rfl rfl
  | ddiv =>
    have hd := hd1 rfl
    simp only [mj_stp] at hst
    have h9 := mj_d2_s hst; clear hst; obtain ⟨y, x, T, rfl, hst⟩ := h9
    have h9 := mj_if_s hst; clear hst; obtain ⟨h0, hst⟩ := h9
    cases hst
    refine lv_ddiv hx hb hd h0 ?_
    exact kk H ls locs cells slots hS hL (Nat.le_refl _) hlo rfl rfl
  | fcmp q =>
    have hd := hd1 rfl
    simp only [mj_stp] at hst
    have h9 := mj_f2_s hst; clear hst; obtain ⟨y, x, T, rfl, hst⟩ := h9
    cases hst
    refine lv_fcmp hx hb hd ?_
    exact kk H ls locs cells slots hS hL (Nat.le_refl _) hlo rfl rfl
  | dcmp q =>
    have hd := hd1 rfl
    simp only [mj_stp] at hst
    have h9 := mj_d2_s hst; clear hst; obtain ⟨y, x, T, rfl, hst⟩ := h9
    cases hst
    refine lv_dcmp hx hb hd ?_
    exact kk H ls locs cells slots hS hL (Nat.le_refl _) hlo rfl rfl
  | dup =>
    have hd := hd1 rfl
    simp only [mj_stp] at hst
    split at hst
    · have h9 := mj_if_s hst; clear hst; obtain ⟨h0, hst⟩ := h9
      cases hst
      refine lv_dup hx hb hd (by rw [mj_tv_cat]; exact h0) ?_
      exact kk H ls locs cells slots hS hL (Nat.le_refl _) hlo rfl rfl
    · cases hst
  | dup2 =>
    have hd := hd1 rfl
    simp only [mj_stp] at hst
    split at hst
    · have h9 := mj_if_s hst; clear hst; obtain ⟨h0, hst⟩ := h9
      have h9 := mj_if_s hst; clear hst; obtain ⟨h1, hst⟩ := h9
      cases hst
      refine lv_dup2_11 hx hb hd (by rw [mj_tv_cat]; exact h0) (by rw [mj_tv_cat]; exact h1) ?_
      exact kk H ls locs cells slots hS hL (Nat.le_refl _) hlo rfl rfl
    · cases hst
  | pop =>
    have hd := hd1 rfl
    simp only [mj_stp] at hst
    split at hst
    · have h9 := mj_if_s hst; clear hst; obtain ⟨h0, hst⟩ := h9
      cases hst
      refine lv_pop hx hb hd (by rw [mj_tv_cat]; exact h0) ?_
      exact kk H ls locs cells slots hS hL (Nat.le_refl _) hlo rfl rfl
    · cases hst
  | ifCond q off =>
    have hd := hd1 rfl
    simp only [mj_stp] at hst
    have h9 := mj_p1_s hst; clear hst; obtain ⟨x, T, rfl, hst⟩ := h9
    have h9 := mj_tg_s hst; clear hst; obtain ⟨t, ht, hst⟩ := h9
    cases q with
    | eq =>
      simp only [mj_br] at hst
      refine lv_if_eq hx hb hd ht (fun h => ?_) (fun h => ?_)
      · rw [if_pos h] at hst; cases hst; exact kk H ls locs cells slots hS hL (Nat.le_refl _) hlo rfl rfl
      · rw [if_neg h] at hst; cases hst; exact kk H ls locs cells slots hS hL (Nat.le_refl _) hlo rfl rfl
    | ne =>
      simp only [mj_br] at hst
      refine lv_if_ne hx hb hd ht (fun h => ?_) (fun h => ?_)
      · rw [if_neg h] at hst; cases hst; exact kk H ls locs cells slots hS hL (Nat.le_refl _) hlo rfl rfl
      · rw [if_pos h] at hst; cases hst; exact kk H ls locs cells slots hS hL (Nat.le_refl _) hlo rfl rfl
    | lt =>
      simp only [mj_br] at hst
      refine lv_if_lt hx hb hd ht (fun h => ?_) (fun h => ?_)
      · rw [if_pos h] at hst; cases hst; exact kk H ls locs cells slots hS hL (Nat.le_refl _) hlo rfl rfl
      · rw [if_neg h] at hst; cases hst; exact kk H ls locs cells slots hS hL (Nat.le_refl _) hlo rfl rfl
    | ge =>
      simp only [mj_br] at hst
      refine lv_if_ge hx hb hd ht (fun h => ?_) (fun h => ?_)
      · rw [if_pos h] at hst; cases hst; exact kk H ls locs cells slots hS hL (Nat.le_refl _) hlo rfl rfl
      · rw [if_neg h] at hst; cases hst; exact kk H ls locs cells slots hS hL (Nat.le_refl _) hlo rfl rfl
    | gt =>
      simp only [mj_br] at hst
      refine lv_if_gt hx hb hd ht (fun h => ?_) (fun h => ?_)
      · rw [if_pos h] at hst; cases hst; exact kk H ls locs cells slots hS hL (Nat.le_refl _) hlo rfl rfl
      · rw [if_neg h] at hst; cases hst; exact kk H ls locs cells slots hS hL (Nat.le_refl _) hlo rfl rfl
    | le =>
      simp only [mj_br] at hst
      refine lv_if_le hx hb hd ht (fun h => ?_) (fun h => ?_)
      · rw [if_pos h] at hst; cases hst; exact kk H ls locs cells slots hS hL (Nat.le_refl _) hlo rfl rfl
      · rw [if_neg h] at hst; cases hst; exact kk H ls locs cells slots hS hL (Nat.le_refl _) hlo rfl rfl
  | if_icmp q off =>
    have hd := hd1 rfl
    simp only [mj_stp] at hst
    have h9 := mj_p2_s hst; clear hst; obtain ⟨y, x, T, rfl, hst⟩ := h9
    have h9 := mj_tg_s hst; clear hst; obtain ⟨t, ht, hst⟩ := h9
    cases q with
    | eq =>
      simp only [mj_br] at hst
      refine lv_icmp_eq hx hb hd ht (fun h => ?_) (fun h => ?_)
      · rw [if_pos h] at hst; cases hst; exact kk H ls locs cells slots hS hL (Nat.le_refl _) hlo rfl rfl
      · rw [if_neg h] at hst; cases hst; exact kk H ls locs cells slots hS hL (Nat.le_refl _) hlo rfl rfl
    | ne =>
      simp only [mj_br] at hst
      refine lv_icmp_ne hx hb hd ht (fun h => ?_) (fun h => ?_)
      · rw [if_neg h] at hst; cases hst; exact kk H ls locs cells slots hS hL (Nat.le_refl _) hlo rfl rfl
      · rw [if_pos h] at hst; cases hst; exact kk H ls locs cells slots hS hL (Nat.le_refl _) hlo rfl rfl
    | lt =>
      simp only [mj_br] at hst
      refine lv_icmp_lt hx hb hd ht (fun h => ?_) (fun h => ?_)
      · rw [if_pos h] at hst; cases hst; exact kk H ls locs cells slots hS hL (Nat.le_refl _) hlo rfl rfl
      · rw [if_neg h] at hst; cases hst; exact kk H ls locs cells slots hS hL (Nat.le_refl _) hlo rfl rfl
    | ge =>
      simp only [mj_br] at hst
      refine lv_icmp_ge hx hb hd ht (fun h => ?_) (fun h => ?_)
      · rw [if_pos h] at hst; cases hst; exact kk H ls locs cells slots hS hL (Nat.le_refl _) hlo rfl rfl
      · rw [if_neg h] at hst; cases hst; exact kk H ls locs cells slots hS hL (Nat.le_refl _) hlo rfl rfl
    | gt =>
      simp only [mj_br] at hst
      refine lv_icmp_gt hx hb hd ht (fun h => ?_) (fun h => ?_)
      · rw [if_pos h] at hst; cases hst; exact kk H ls locs cells slots hS hL (Nat.le_refl _) hlo rfl rfl
      · rw [if_neg h] at hst; cases hst; exact kk H ls locs cells slots hS hL (Nat.le_refl _) hlo rfl rfl
    | le =>
      simp only [mj_br] at hst
      refine lv_icmp_le hx hb hd ht (fun h => ?_) (fun h => ?_)
      · rw [if_pos h] at hst; cases hst; exact kk H ls locs cells slots hS hL (Nat.le_refl _) hlo rfl rfl
      · rw [if_neg h] at hst; cases hst; exact kk H ls locs cells slots hS hL (Nat.le_refl _) hlo rfl rfl
  | ifnull off =>
    have hd := hd1 rfl
    simp only [mj_stp] at hst
    have h9 := mj_r1_s hst; clear hst; obtain ⟨x, T, rfl, hst⟩ := h9
    cases hst
    refine lv_ifnull hx hb hd ?_
    exact kk H ls locs cells slots hS hL (Nat.le_refl _) hlo rfl rfl
  | goto off =>
    have hd := hd1 rfl
    simp only [mj_stp] at hst
    have h9 := mj_tg_s hst; clear hst; obtain ⟨t, ht, hst⟩ := h9
    cases hst
    refine lv_goto hx hb hd ht ?_
    exact kk H ls locs cells slots hS hL (Nat.le_refl _) hlo rfl rfl
  | tableswitch d lo hi offs =>
    simp only [mj_stp] at hst
    have h9 := mj_p1_s hst; clear hst; obtain ⟨x, T, rfl, hst⟩ := h9
    split at hst
    · rename_i h0
      have h9 := mj_tg_s hst; clear hst; obtain ⟨t, ht, hst⟩ := h9
      cases hst
      refine lv_tableOut hx hb hd0 h0 ht ?_
      exact kk H ls locs cells slots hS hL (Nat.le_refl _) hlo rfl rfl
    · rename_i h0
      have h1 : ¬ x.toInt < lo := fun z => h0 (Or.inl z)
      have h2 : ¬ hi < x.toInt := fun z => h0 (Or.inr z)
      split at hst
      · rename_i off ho
        have h9 := mj_tg_s hst; clear hst; obtain ⟨t, ht, hst⟩ := h9
        cases hst
        refine lv_tableIn hx hb hd0 h1 h2 ho ht ?_
        exact kk H ls locs cells slots hS hL (Nat.le_refl _) hlo rfl rfl
      · cases hst
  | lookupswitch d ps =>
    simp only [mj_stp] at hst
    have h9 := mj_p1_s hst; clear hst; obtain ⟨x, T, rfl, hst⟩ := h9
    have h9 := mj_if_s hst; clear hst; obtain ⟨h0, hst⟩ := h9
    have h9 := mj_tg_s hst; clear hst; obtain ⟨t, ht, hst⟩ := h9
    cases hst
    refine lv_lookup hx hb hd0 h0 rfl ht ?_
    exact kk H ls locs cells slots hS hL (Nat.le_refl _) hlo rfl rfl
  | ldc x =>
    have hd := hd1 rfl
    simp only [mj_stp] at hst
    split at hst
    · rename_i v hk
      cases hst
      refine lv_ldc hx hb hown (hts _ (mj_kst_ok _ (mj_find2 hk) _ List.mem_cons_self)) hd ?_
      exact kk H ls locs cells slots hS hL (Nat.le_refl _) hlo rfl rfl
    · rename_i v hk
      cases hst
      refine lv_ldcf hx hb hown (hts _ (mj_kst_ok _ (mj_find2 hk) _ List.mem_cons_self)) hd ?_
      exact kk H ls locs cells slots hS hL (Nat.le_refl _) hlo rfl rfl
    · cases hst
  | ldc2_w x =>
    have hd := hd1 rfl
    simp only [mj_stp] at hst
    split at hst
    · rename_i v hk
      cases hst
      refine lv_ldc2 hx hb hown (hts _ (mj_kst_ok _ (mj_find2 hk) _ List.mem_cons_self)) hd ?_
      exact kk H ls locs cells slots hS hL (Nat.le_refl _) hlo rfl rfl
    · rename_i v hk
      cases hst
      refine lv_ldc2d hx hb hown (hts _ (mj_kst_ok _ (mj_find2 hk) _ List.mem_cons_self)) hd ?_
      exact kk H ls locs cells slots hS hL (Nat.le_refl _) hlo rfl rfl
    · cases hst
  | getfield x =>
    have hd := hd1 rfl
    simp only [mj_stp] at hst
    split at hst
    · rename_i cc k hk
      have h9 := mj_r1_s hst; clear hst; obtain ⟨a, T, rfl, hst⟩ := h9
      have h9 := mj_eo_s hst; clear hst; obtain ⟨c2, fs, he, hst⟩ := h9
      have h9 := mj_if_s hst; clear hst; obtain ⟨rfl, hst⟩ := h9
      split at hst
      · rename_i v hv
        have h9 := mj_if_s hst; clear hst; obtain ⟨hkN, hst⟩ := h9
        cases hst
        obtain ⟨j, rfl, hat⟩ := hS.2.2.2 _ _ he
        have hq := mj_find2 hk
        obtain ⟨k1, k2, k3, k4⟩ := mj_cl_ok _ (mj_fld_okc _ hq)
        refine mo_get hx hb hts k4 hown hG.1 hat k1 k hkN (hts _ (mj_fld_ok _ hq _ List.mem_cons_self)) (v := mj_tv B b v) (by rw [List.getElem?_map, hv]; rfl) hd ?_
        exact kk H ls locs cells slots hS hL (Nat.le_refl _) hlo rfl rfl
      · cases hst
    · cases hst
  | putfield x =>
    have hd := hd1 rfl
    simp only [mj_stp] at hst
    split at hst
    · rename_i cc k hk
      split at hst
      · rename_i v a T
        have h9 := mj_eo_s hst; clear hst; obtain ⟨c2, fs, he, hst⟩ := h9
        have h9 := mj_if_s hst; clear hst; obtain ⟨⟨rfl, hl, hkN, hn, hf, hfin⟩, hst⟩ := h9
        cases hst
        obtain ⟨j, rfl, hat⟩ := hS.2.2.2 _ _ he
        have hq := mj_find2 hk
        obtain ⟨k1, k2, k3, k4⟩ := mj_cl_ok _ (mj_fld_okc _ hq)
        refine mo_put hx hb hts k4 (mj_ty _) k2 k3 hown hG.1 hat k1 k hkN (hts _ (mj_fld_ok _ hq _ List.mem_cons_self)) (hfin.imp id (fun q => ⟨(hnm (mj_init0 q.1)).trans q.1, q.2⟩)) (k2 k hkN) (mj_narrow hn) (mj_fits hf) (by rw [List.length_map]; exact hl) hd (fun H1 z e1 e2 e3 => ?_)
        rw [← List.map_set] at e1
        exact kk H1 ls _ cells slots (hS.up e1 e2 e3) hL (Nat.le_of_eq e2.symm) (t_lc hlo (Nat.le_add_right _ _)) rfl rfl
      · cases hst
    · cases hst
  | iaload =>
    have hd := hd1 rfl
    simp only [mj_stp] at hst
    have h9 := mj_p1_s hst; clear hst; obtain ⟨j, T, rfl, hst⟩ := h9
    have h9 := mj_r1_s hst; clear hst; obtain ⟨a, T, rfl, hst⟩ := h9
    split at hst
    · rename_i h0
      subst h0
      have h9 := mj_in_s hst; clear hst; obtain ⟨hin, hst⟩ := h9
      cases hst
      refine va_sld hx hb (A := fun q => B ≤ q) (hG.2.2.2.1 H hS.2.2.1 hS.2.1) (Nat.lt_of_lt_of_le hG.2.2.1 hS.2.1) (Nat.not_le.mpr hG.2.2.1) ⟨Nat.le_refl _, fun _ _ _ => rfl, hlo⟩ hin hd ?_
      exact kk H ls locs cells slots hS hL (Nat.le_refl _) hlo rfl rfl
    · have h9 := mj_ei_s hst; clear hst; obtain ⟨n, f, he, hst⟩ := h9
      have h9 := mj_in_s hst; clear hst; obtain ⟨hin, hst⟩ := h9
      cases hst
      obtain ⟨k, rfl, hat⟩ := hS.2.2.2 _ _ he
      obtain ⟨cI, cL, cQ, rfl⟩ := hG.2.1
      refine mo_iald hx hb hG.1 hat 0 rfl hin hd ?_
      exact kk H ls locs cells slots hS hL (Nat.le_refl _) hlo rfl rfl
  | laload =>
    have hd := hd1 rfl
    simp only [mj_stp] at hst
    have h9 := mj_p1_s hst; clear hst; obtain ⟨j, T, rfl, hst⟩ := h9
    have h9 := mj_r1_s hst; clear hst; obtain ⟨a, T, rfl, hst⟩ := h9
    have h9 := mj_ej_s hst; clear hst; obtain ⟨n, f, he, hst⟩ := h9
    have h9 := mj_in_s hst; clear hst; obtain ⟨hin, hst⟩ := h9
    cases hst
    obtain ⟨k, rfl, hat⟩ := hS.2.2.2 _ _ he
    obtain ⟨cI, cL, cQ, rfl⟩ := hG.2.1
    refine mo_lald hx hb hG.1 hat 1 rfl hin hd ?_
    exact kk H ls locs cells slots hS hL (Nat.le_refl _) hlo rfl rfl
  | aaload =>
    have hd := hd1 rfl
    simp only [mj_stp] at hst
    have h9 := mj_p1_s hst; clear hst; obtain ⟨j, T, rfl, hst⟩ := h9
    have h9 := mj_r1_s hst; clear hst; obtain ⟨a, T, rfl, hst⟩ := h9
    have h9 := mj_eq_s hst; clear hst; obtain ⟨n, f, he, hst⟩ := h9
    have h9 := mj_in_s hst; clear hst; obtain ⟨hin, hst⟩ := h9
    split at hst
    · rename_i v hv
      cases hst
      obtain ⟨k, rfl, hat⟩ := hS.2.2.2 _ _ he
      obtain ⟨cI, cL, cQ, rfl⟩ := hG.2.1
      refine mo_aldq hx hb hG.1 hat 2 rfl hin hd ?_
      rw [hv]
      exact kk H ls locs cells slots hS hL (Nat.le_refl _) hlo rfl rfl
    · cases hst
  | iastore =>
    have hd := hd1 rfl
    simp only [mj_stp] at hst
    have h9 := mj_p2_s hst; clear hst; obtain ⟨x, j, T, rfl, hst⟩ := h9
    have h9 := mj_r1_s hst; clear hst; obtain ⟨a, T, rfl, hst⟩ := h9
    have h9 := mj_ei_s hst; clear hst; obtain ⟨n, f, he, hst⟩ := h9
    have h9 := mj_in_s hst; clear hst; obtain ⟨hin, hst⟩ := h9
    cases hst
    obtain ⟨k, rfl, hat⟩ := hS.2.2.2 _ _ he
    obtain ⟨cI, cL, cQ, rfl⟩ := hG.2.1
    refine mo_iast hx hb hG.1 hat 0 rfl hin hd (fun H1 z e1 e2 e3 => ?_)
    exact kk H1 ls _ cells slots (hS.up e1 e2 e3) hL (Nat.le_of_eq e2.symm) (t_lc hlo (Nat.le_add_right _ _)) rfl rfl
  | lastore =>
    have hd := hd1 rfl
    simp only [mj_stp] at hst
    have h9 := mj_q1_s hst; clear hst; obtain ⟨x, T, rfl, hst⟩ := h9
    have h9 := mj_p1_s hst; clear hst; obtain ⟨j, T, rfl, hst⟩ := h9
    have h9 := mj_r1_s hst; clear hst; obtain ⟨a, T, rfl, hst⟩ := h9
    have h9 := mj_ej_s hst; clear hst; obtain ⟨n, f, he, hst⟩ := h9
    have h9 := mj_in_s hst; clear hst; obtain ⟨hin, hst⟩ := h9
    cases hst
    obtain ⟨k, rfl, hat⟩ := hS.2.2.2 _ _ he
    obtain ⟨cI, cL, cQ, rfl⟩ := hG.2.1
    refine mo_last hx hb hG.1 hat 1 rfl hin hd (fun H1 z e1 e2 e3 => ?_)
    exact kk H1 ls _ cells slots (hS.up e1 e2 e3) hL (Nat.le_of_eq e2.symm) (t_lc hlo (Nat.le_add_right _ _)) rfl rfl
  | aastore =>
    have hd := hd1 rfl
    simp only [mj_stp] at hst
    have h9 := mj_r1_s hst; clear hst; obtain ⟨v, T, rfl, hst⟩ := h9
    have h9 := mj_p1_s hst; clear hst; obtain ⟨j, T, rfl, hst⟩ := h9
    have h9 := mj_r1_s hst; clear hst; obtain ⟨a, T, rfl, hst⟩ := h9
    have h9 := mj_eo_s hst; clear hst; obtain ⟨c2, fs, hv, hst⟩ := h9
    have h9 := mj_if_s hst; clear hst; obtain ⟨rfl, hst⟩ := h9
    have h9 := mj_eq_s hst; clear hst; obtain ⟨n, f, he, hst⟩ := h9
    have h9 := mj_in_s hst; clear hst; obtain ⟨hin, hst⟩ := h9
    cases hst
    obtain ⟨k, rfl, hat⟩ := hS.2.2.2 _ _ he
    obtain ⟨kv, rfl, hav⟩ := hS.2.2.2 _ _ hv
    obtain ⟨cI, cL, cQ, rfl⟩ := hG.2.1
    obtain ⟨k1, -, -, -⟩ := mj_cl_ok mj_qc (by decide +kernel)
    refine mo_astq hx hb hG.1 hat 2 rfl hav k1 hin hd (fun H1 z e1 e2 e3 => ?_)
    have e1 : va_at D vwCl (B + k, mj_te B b [(cI, .int), (cL, .long), (cQ, .object (mj_cl mj_qc).1)] (.inl (2, n, .inr (.inr (.inr (.inr (va_up f j.toNatClampNeg (some (kv + 1))))))))) H1 := by
      have ef : va_up (fun q => (f q).map (mj_ad B b)) j.toNatClampNeg (some (B + kv)) = fun q => (va_up f j.toNatClampNeg (some (kv + 1)) q).map (mj_ad B b) := by
        funext q
        unfold va_up
        by_cases hq : q = j.toNatClampNeg
        · rw [if_pos hq, if_pos hq]; rfl
        · rw [if_neg hq, if_neg hq]
      rw [ef] at e1
      exact e1
    exact kk H1 ls _ cells slots (hS.up e1 e2 e3) hL (Nat.le_of_eq e2.symm) (t_lc hlo (Nat.le_add_right _ _)) rfl rfl
  | arraylength =>
    have hd := hd1 rfl
    simp only [mj_stp] at hst
    have h9 := mj_r1_s hst; clear hst; obtain ⟨a, T, rfl, hst⟩ := h9
    split at hst
    · rename_i h0
      subst h0
      cases hst
      refine va_slen hx hb (A := fun q => B ≤ q) (hG.2.2.2.1 H hS.2.2.1 hS.2.1) (Nat.lt_of_lt_of_le hG.2.2.1 hS.2.1) (Nat.not_le.mpr hG.2.2.1) ⟨Nat.le_refl _, fun _ _ _ => rfl, hlo⟩ hd ?_
      exact kk H ls locs cells slots hS hL (Nat.le_refl _) hlo rfl rfl
    · split at hst
      · rename_i n hn
        cases hst
        obtain ⟨cI, cL, cQ, rfl⟩ := hG.2.1
        unfold mj_en at hn
        split at hn
        · rename_i he
          split at hn
          · rename_i h1; subst h1; cases hn
            obtain ⟨k, rfl, hat⟩ := hS.2.2.2 _ _ he
            refine mo_alen hx hb hG.1 hat 0 rfl rfl hd ?_
            exact kk H ls locs cells slots hS hL (Nat.le_refl _) hlo rfl rfl
          · cases hn
        · rename_i he
          split at hn
          · rename_i h1; subst h1; cases hn
            obtain ⟨k, rfl, hat⟩ := hS.2.2.2 _ _ he
            refine mo_alen hx hb hG.1 hat 1 rfl rfl hd ?_
            exact kk H ls locs cells slots hS hL (Nat.le_refl _) hlo rfl rfl
          · cases hn
        · rename_i he
          split at hn
          · rename_i h1; subst h1; cases hn
            obtain ⟨k, rfl, hat⟩ := hS.2.2.2 _ _ he
            refine mo_alen hx hb hG.1 hat 2 rfl rfl hd ?_
            exact kk H ls locs cells slots hS hL (Nat.le_refl _) hlo rfl rfl
          · cases hn
        · cases hn
      · cases hst
  | new x =>
    have hd := hd1 rfl
    simp only [mj_stp] at hst
    split at hst
    · rename_i cc hk
      have h9 := mj_if_s hst; clear hst; obtain ⟨h0, hst⟩ := h9
      cases hst
      have hq := mj_find2 hk
      obtain ⟨q1, q2⟩ := mj_cls_ok _ hq
      obtain ⟨k1, k2, k3, k4⟩ := mj_cl_ok _ q1
      have hc9 : cells + 1 ≤ R.cells := by have : cells + (w.1.1 + 1 + w.1.2.1) ≤ R.cells + (w.1.1 + w.1.2.1) := hrc; omega
      have hs9 : slots + (mj_cl cc).2.2 ≤ R.slots := by have : slots + (w.1.2.2 + (mj_cl cc).2.2) ≤ R.slots + w.1.2.2 := hrs; omega
      have hdf : ∀ j, j < (mj_cl cc).2.2 → defaultValue (mj_ty cc j) = vp_V ((mj_df cc).map (mj_tv B b)) j := by
        intro j hj
        unfold vp_V mj_df
        rw [List.getD_eq_getElem?_getD, List.getElem?_map, List.getElem?_map, List.getElem?_range hj]
        show defaultValue (mj_ty cc j) = mj_tv B b (defaultValue (mj_ty cc j))
        cases mj_ty cc j <;> rfl
      refine mo_new hx hb hts k4 (mj_ty cc) k2 hown (hts _ (q2 _ List.mem_cons_self)) (hts _ (q2 _ (List.mem_cons_of_mem _ List.mem_cons_self))) (hts _ (q2 _ (List.mem_cons_of_mem _ (List.mem_cons_of_mem _ List.mem_cons_self)))) hG.1 k1 hdf hc9 hs9 hd (fun H1 e1 e2 e3 => ?_)
      have hz := hS.1 h0
      rw [show Value.ref H.size = mj_tv B b (.ref (w.1.1 + 1)) from by rw [hz]; rfl]
      exact kk H1 ls locs _ _ (hS.new h0 (e := .inr (cc, mj_df cc)) e1 e2 e3) hL (by omega) hlo (by dsimp only; omega) (by dsimp only; omega)
    · cases hst
  | newarray aty =>
    cases aty with
    | int =>
      have hd := hd1 rfl
      simp only [mj_stp] at hst
      have h9 := mj_p1_s hst; clear hst; obtain ⟨n, T, rfl, hst⟩ := h9
      have h9 := mj_if_s hst; clear hst; obtain ⟨⟨h0, hn, hby⟩, hst⟩ := h9
      cases hst
      obtain ⟨cI, cL, cQ, rfl⟩ := hG.2.1
      have hc9 : cells + 1 ≤ R.cells := by have : cells + (w.1.1 + 1 + w.1.2.1) ≤ R.cells + (w.1.1 + w.1.2.1) := hrc; omega
      have hs9 : slots + n.toNatClampNeg ≤ R.slots := by have : slots + (w.1.2.2 + n.toNatClampNeg) ≤ R.slots + w.1.2.2 := hrs; omega
      have hfc := ((hG.1).2 0 _ rfl).2
      refine mo_newa (D := D) (cl := vwCl) (atype := .int) hx hb (hts _ mj_arr_ok.1) (ty := .int) rfl hfc (a0 := (n.toNatClampNeg, .inl (fun _ => 0))) (fun _ => rfl) hn rfl hby hc9 hs9 hd (fun H1 e1 e2 e3 => ?_)
      have hz := hS.1 h0
      rw [show Value.ref H.size = mj_tv B b (.ref (w.1.1 + 1)) from by rw [hz]; rfl]
      exact kk H1 ls locs _ _ (hS.new h0 (e := .inl (0, n.toNatClampNeg, .inl (fun _ => 0))) e1 e2 e3) hL (by omega) hlo (by dsimp only; omega) (by dsimp only; omega)
    | long =>
      have hd := hd1 rfl
      simp only [mj_stp] at hst
      have h9 := mj_p1_s hst; clear hst; obtain ⟨n, T, rfl, hst⟩ := h9
      have h9 := mj_if_s hst; clear hst; obtain ⟨⟨h0, hn, hby⟩, hst⟩ := h9
      cases hst
      obtain ⟨cI, cL, cQ, rfl⟩ := hG.2.1
      have hc9 : cells + 1 ≤ R.cells := by have : cells + (w.1.1 + 1 + w.1.2.1) ≤ R.cells + (w.1.1 + w.1.2.1) := hrc; omega
      have hs9 : slots + n.toNatClampNeg ≤ R.slots := by have : slots + (w.1.2.2 + n.toNatClampNeg) ≤ R.slots + w.1.2.2 := hrs; omega
      have hfc := ((hG.1).2 1 _ rfl).2
      refine mo_newa (D := D) (cl := vwCl) (atype := .long) hx hb (hts _ mj_arr_ok.2.1) (ty := .long) rfl hfc (a0 := (n.toNatClampNeg, .inr (.inl (fun _ => 0)))) (fun _ => rfl) hn rfl hby hc9 hs9 hd (fun H1 e1 e2 e3 => ?_)
      have hz := hS.1 h0
      rw [show Value.ref H.size = mj_tv B b (.ref (w.1.1 + 1)) from by rw [hz]; rfl]
      exact kk H1 ls locs _ _ (hS.new h0 (e := .inl (1, n.toNatClampNeg, .inr (.inl (fun _ => 0)))) e1 e2 e3) hL (by omega) hlo (by dsimp only; omega) (by dsimp only; omega)
    | _ => simp [mj_stp] at hst
  | anewarray x =>
    have hd := hd1 rfl
    simp only [mj_stp] at hst
    have h9 := mj_p1_s hst; clear hst; obtain ⟨n, T, rfl, hst⟩ := h9
    have h9 := mj_if_s hst; clear hst; obtain ⟨⟨hk, h0, hn, hby⟩, hst⟩ := h9
    cases hst
    obtain ⟨cI, cL, cQ, rfl⟩ := hG.2.1
    have hc9 : cells + 1 ≤ R.cells := by have : cells + (w.1.1 + 1 + w.1.2.1) ≤ R.cells + (w.1.1 + w.1.2.1) := hrc; omega
    have hs9 : slots + n.toNatClampNeg ≤ R.slots := by have : slots + (w.1.2.2 + n.toNatClampNeg) ≤ R.slots + w.1.2.2 := hrs; omega
    have hq := mj_find2 hk
    obtain ⟨q1, q2⟩ := mj_cls_ok _ hq
    obtain ⟨kA, comp, -, -, -, hfc⟩ := ((hG.1).2 2 _ rfl).2
    refine mo_newq (D := D) (cl := vwCl) hx hb hown (hts _ (q2 _ List.mem_cons_self)) (va_AO.of (hts _ mj_arr_ok.2.2)) hfc hn rfl hby hc9 hs9 hd (fun H1 e1 e2 e3 => ?_)
    have hz := hS.1 h0
    rw [show Value.ref H.size = mj_tv B b (.ref (w.1.1 + 1)) from by rw [hz]; rfl]
    exact kk H1 ls locs _ _ (hS.new h0 (e := .inl (2, n.toNatClampNeg, .inr (.inr (.inr (.inr (fun _ => none)))))) e1 e2 e3) hL (by omega) hlo (by dsimp only; omega) (by dsimp only; omega)
  | invokespecial x =>
    have hd := hd1 rfl
    simp only [mj_stp] at hst
    split at hst
    · rename_i jj hk
      have h9 := mj_r1_s hst; clear hst; obtain ⟨a, T, rfl, hst⟩ := h9
      have h9 := mj_if_s hst; clear hst; obtain ⟨⟨h0, h1, h2⟩, hst⟩ := h9
      cases hst
      have hw := mj_call_ok _ (mj_find2 hk)
      refine W.objInit hx hb hown (hts _ (hw _ List.mem_cons_self)) (hts _ (hw _ (List.mem_cons_of_mem _ List.mem_cons_self))) (hts _ (hw _ (List.mem_cons_of_mem _ (List.mem_cons_of_mem _ List.mem_cons_self)))) rfl (hL.1.trans hml.symm) rfl hd (Nat.le_trans h1 hF) (by rw [mj_tv_sum]; show 2 * 0 + _ + 12 ≤ _; omega) ?_
      exact kk H ls locs cells slots hS hL (Nat.le_refl _) hlo rfl rfl
    · cases hst
  | invokestatic x =>
    have hd := hd1 rfl
    simp only [mj_stp] at hst
    split at hst
    · rename_i jj hk
      split at hst
      · rename_i n dp a sp a0 T
        have h9 := mj_ei_s hst; clear hst; obtain ⟨n0, f, he0, hst⟩ := h9
        have h9 := mj_ei_s hst; clear hst; obtain ⟨n1, f1, he1, hst⟩ := h9
        have h9 := mj_if_s hst; clear hst; obtain ⟨⟨g1, g2, g3, g4, g5, h0, h1, h2⟩, hst⟩ := h9
        have hnf : nativeFrameWords "java/lang/System" "arraycopy" 5 = 7 := by decide +kernel
        have hloc : ((T.map (mj_tv B b)).map fun v => v.category).sum + (nativeFrameWords "java/lang/System" "arraycopy" 5 + 11) ≤ R.locals := by
          rw [mj_tv_sum, hnf]
          omega
        cases hst
        have hw := mj_call_ok _ (mj_find2 hk)
        obtain ⟨k0, rfl, hat0⟩ := hS.2.2.2 _ _ he0
        obtain ⟨k1, rfl, hat1⟩ := hS.2.2.2 _ _ he1
        obtain ⟨cI, cL, cQ, rfl⟩ := hG.2.1
        refine mo_copyi hx hb (hml.trans hL.1.symm) hown (hts _ (hw _ List.mem_cons_self)) (hts _ (hw _ (List.mem_cons_of_mem _ List.mem_cons_self))) (hts _ (hw _ (List.mem_cons_of_mem _ (List.mem_cons_of_mem _ List.mem_cons_self)))) (hts _ (hw _ (List.mem_cons_of_mem _ (List.mem_cons_of_mem _ (List.mem_cons_of_mem _ List.mem_cons_self))))) hG.1 hat0 hat1 0 rfl rfl g1 g2 g3 g4 g5 (Nat.le_trans h1 hF) hloc hd (fun H1 L1 hL1 e1 e2 e3 => ?_)
        exact kk H1 ls _ cells slots (hS.up e1 e2 e3) hL (Nat.le_of_eq e2.symm) (t_lL hlo (fun q hq => by rw [hL1 q hq]; exact Nat.le_add_right _ _)) rfl rfl
      · cases hst
    · rename_i jj hk
      have h9 := mj_p2_s hst; clear hst; obtain ⟨y, x9, T, rfl, hst⟩ := h9
      have h9 := mj_if_s hst; clear hst; obtain ⟨⟨h0, h1, h2⟩, hst⟩ := h9
      cases hst
      have hw := mj_call_ok _ (mj_find2 hk)
      refine va_mmax hx hb (hml.trans hL.1.symm) hown (hts _ (hw _ List.mem_cons_self)) (hts _ (hw _ (List.mem_cons_of_mem _ List.mem_cons_self))) (hts _ (hw _ (List.mem_cons_of_mem _ (List.mem_cons_of_mem _ List.mem_cons_self)))) (hts _ (hw _ (List.mem_cons_of_mem _ (List.mem_cons_of_mem _ (List.mem_cons_of_mem _ List.mem_cons_self))))) (Nat.le_trans h1 hF) (by rw [mj_tv_sum]; omega) (by omega) (by omega) hd ?_
      exact kk H ls locs cells slots hS hL (Nat.le_refl _) hlo rfl rfl
    · rename_i jj hk
      have h9 := mj_p2_s hst; clear hst; obtain ⟨y, x9, T, rfl, hst⟩ := h9
      have h9 := mj_if_s hst; clear hst; obtain ⟨⟨h0, h1, h2⟩, hst⟩ := h9
      cases hst
      have hw := mj_call_ok _ (mj_find2 hk)
      refine va_mmin hx hb (hml.trans hL.1.symm) hown (hts _ (hw _ List.mem_cons_self)) (hts _ (hw _ (List.mem_cons_of_mem _ List.mem_cons_self))) (hts _ (hw _ (List.mem_cons_of_mem _ (List.mem_cons_of_mem _ List.mem_cons_self)))) (hts _ (hw _ (List.mem_cons_of_mem _ (List.mem_cons_of_mem _ (List.mem_cons_of_mem _ List.mem_cons_self))))) (Nat.le_trans h1 hF) (by rw [mj_tv_sum]; omega) (by omega) (by omega) hd ?_
      exact kk H ls locs cells slots hS hL (Nat.le_refl _) hlo rfl rfl
    · cases hst
  | _ => simp [mj_stp] at hst
end
section
/-! ===== starting text: the kit's rows of a constructor that may throw ===== -/
/-! ===== BEGIN a constructor that throws (launches without stack traces) ===== -/
section VXIA
variable {p : Program} {l : Launch} {e : Env} {R : Room} {s : State} {m : MethodId} {args : Array Value} {below : List Frame} {meth : Method} {c : Code} {T : State} {locs : List Loc} {cells slots : Nat}
theorem vx_callI (X : Stand p l e R s m args below meth c T locs cells slots) (hexec : p.tables.exec = Jvm.exec) {own : String} {index : Nat} {y : MethodName} {bytes : ByteArray} {maxL : Nat}
    (hown : s.vm.findClass own = some m.cls) (hy1 : y.name = "<init>") (hlink : (Cond.methodLink own index y).before args s = true) (hinst : (Cond.instanceMethod y).before args s = true)
    (hcode : (Cond.code y bytes maxL none).before args s = true) (hy : y.cls ≠ "java/lang/invoke/MethodHandle" ∧ y.cls ≠ "java/lang/invoke/VarHandle")
    {W9 : Nat} {Pre : Pt → Array Value → Prop} {Post : Pt → Array Value → Option Value → Pt → Prop} {PostX : Pt → Array Value → Addr → Pt → Prop} (hK : vx_Back l R p e below s args y 3 W9 Pre Post PostX)
    {g : JFrame} (hg : g.method = m) (hsize : g.locals.size = c.maxLocals) {a : Addr} {argsL rest : List Value} (hlen : ∀ sig, parseMethodDescriptor y.desc = some sig → argsL.length = sig.parameters.length)
    (hstack : g.stack = argsL.reverse ++ .ref a :: rest) (hW : 2 * g.monitorRoom + (rest.map fun v => v.category).sum ≤ W9) (hdg : decode c.code g.pc = .ok (.invokespecial index, 3))
    (hpre : ∀ vm₁, s.WarmedH vm₁ → Pre ⟨T.setVm vm₁, locs, cells, slots⟩ (Value.ref a :: argsL).toArray) :
    (∃ (v : Option Value) (vm₁ : Vm) (B : Pt), s.WarmedH vm₁ ∧ Stand p l e R s m args below meth c B.U B.locs B.cells B.slots ∧ Post ⟨T.setVm vm₁, locs, cells, slots⟩ (Value.ref a :: argsL).toArray v B ∧
      ∀ target, Steps p.tables e below (B.U.setTop { g with pc := g.pc + 3, stack := v.toList ++ rest }) target → Steps p.tables e below (T.setTop g) target) ∨
    (∃ (q : Addr) (vm₁ : Vm) (B : Pt), s.WarmedH vm₁ ∧ Stand p l e R s m args below meth c B.U B.locs B.cells B.slots ∧ PostX ⟨T.setVm vm₁, locs, cells, slots⟩ (Value.ref a :: argsL).toArray q B ∧
      Steps p.tables e below (T.setTop g) ((B.U.setTop { g with stack := rest }).pushFrame (.throwing q))) := by
  subst hg
  have hpl : e.platform.magicAccessors = ({} : Platform).magicAccessors := by rw [X.admits.platform]
  obtain ⟨mk, methM, cM, kP, vm₁, hnamed, hmethM, hcodeM, -, hlocalsM, -, hkP, -, hW₁, hstep₁⟩ := Steps.initColdArgs (e := e) X.here hexec X.warmed hpl hown hy1 hy hlink hinst hcode (f := g) rfl hlen hstack hdg
  have X₁ := X.noted hW₁
  rcases hK g.method meth c ⟨T.setVm vm₁, locs, cells, slots⟩ { g with stack := rest } (.invokespecial index) mk (Value.ref a :: argsL).toArray X₁ rfl hsize hdg hW (X₁.named hnamed) (hpre vm₁ X₁.warmed) with ⟨v, B, X', hpost, hsteps⟩ | ⟨q, B, X', hpost, hsteps⟩
  · exact Or.inl ⟨v, vm₁, B, X₁.warmed, X', hpost, fun target h => hstep₁ _ fun acts => by rw [doInvoke_state]; exact hsteps.trans h⟩
  · exact Or.inr ⟨q, vm₁, B, X₁.warmed, X', hpost, hstep₁ _ fun acts => by rw [doInvoke_state]; exact hsteps⟩
end VXIA
section VXIB
variable {p : Program} {l : Launch} {e : Env} {R : Room} {s : State} {m : MethodId} {args : Array Value} {below : List Frame} {meth : Method} {c : Code} {H : Heap} {locs : List Loc} {cells slots : Nat}
variable {y : MethodName} {bytes cc : ByteArray} {maxL nL mc ms n index : Nat} {ret : Option FieldType} {ws : List Cond} {rm : Room} {Pc : Array Value → State → Prop} {Qc : Array Value → State → Outcome → State → Prop} {XC : String → State → State → Prop} {free : Addr → Prop} {Ts : List Cond} {own C : String} {b : Addr} {As rest : List Value} {g : JFrame}
theorem vx_runI (S : CallFix p m c cc nL s args Ts own) (hM : vx_Met l y ws rm Pc Qc XC mc ms free) (cw : CallB R s args own index y bytes maxL none ws rm mc ms n ∧ y.name = "<init>" ∧ (Cond.instanceMethod y).before args s = true) (hp : PreS s H Pc (.ref b :: As))
    (hg : g.method = m) (hn : As.length = n) (hsize : g.locals.size = nL) (hstack : g.stack = As.reverse ++ .ref b :: rest) (hW : 2 * g.monitorRoom + (rest.map fun v => v.category).sum ≤ 8) (hdg : decode cc g.pc = .ok (.invokespecial index, 3)) (hf : cells + mc ≤ R.cells ∧ slots + ms ≤ R.slots) :
    vx_Run p l e R s m args below meth c H locs cells slots mc ms g rest (Qc (Value.ref b :: As).toArray) XC free := by
  have hK : vx_Back l R p e below s args y 3 8 (PreOf R mc ms Pc) (PostOf Qc mc ms free) (vx_Post XC mc ms free) := vx_callBack cw.1 hM hp.1
  obtain ⟨⟨-, -, -, -, -, -, hcode, -, hy, hlen, hl⟩, hy1, hin⟩ := cw
  obtain ⟨hx, hb, hml, ho, -⟩ := S
  have hPc := hp.2
  intro T hT X
  rcases vx_callI X hx (bytes := bytes) (maxL := maxL) ho hy1 hl hin hcode hy hK hg (hsize.trans hml.symm) (a := b) (argsL := As) (rest := rest) (fun sig h => hn.trans (hlen sig h)) hstack hW (by rw [hb]; exact hdg)
    (fun vm₁ hW₁ => ⟨hf.1, hf.2, hPc (T.setVm vm₁) hT hW₁⟩) with ⟨v, vm₁, ⟨U', l2, c2, s2⟩, hW₁, X', ⟨g', mk, t, L, e1, e2, hq, h1, hL, h2, h3⟩, st⟩ | ⟨q, vm₁, ⟨U', l2, c2, s2⟩, hW₁, X', ⟨g', mk, t, L, E, ce, e1, e2, hq, hce, hcv, hcl, h1, hL, h2, h3⟩, st⟩
  · dsimp only [Pt.U, Pt.locs, Pt.cells, Pt.slots] at X' e1 e2 h1 h2 h3 st
    subst h1; subst h2; subst h3
    exact Or.inl ⟨v, (T.setVm vm₁).calling g' mk (Value.ref b :: As).toArray, t, U', L, hT, X', hL, e1, e2, hq, st⟩
  · dsimp only [Pt.U, Pt.locs, Pt.cells, Pt.slots] at X' e1 e2 h1 h2 h3 st hcl
    subst h1; subst h2; subst h3
    exact Or.inr ⟨q, (T.setVm vm₁).calling g' mk (Value.ref b :: As).toArray, t, U', L, E, ce, hT, X', hL, e1, e2, hq, hce, hcv, vx_cls hW₁ hcl, st⟩
end VXIB
/-! ===== END ===== -/
/-! ===== BEGIN a private constructor of a nest mate that throws ===== -/
section VXIC
variable {p : Program} {l : Launch} {e : Env} {R : Room} {s : State} {m : MethodId} {args : Array Value} {below : List Frame} {meth : Method} {c : Code} {T : State} {locs : List Loc} {cells slots : Nat}
theorem vx_callIN (X : Stand p l e R s m args below meth c T locs cells slots) (hexec : p.tables.exec = Jvm.exec) {own : String} {index : Nat} {host : String} {y : MethodName} {bytes : ByteArray} {maxL : Nat}
    (hown : s.vm.findClass own = some m.cls) (hy1 : y.name = "<init>") (hlink : (Cond.methodLinkNest own index y host).before args s = true) (hinst : (Cond.instanceMethod y).before args s = true)
    (hcode : (Cond.code y bytes maxL none).before args s = true) (hy : y.cls ≠ "java/lang/invoke/MethodHandle" ∧ y.cls ≠ "java/lang/invoke/VarHandle")
    {W9 : Nat} {Pre : Pt → Array Value → Prop} {Post : Pt → Array Value → Option Value → Pt → Prop} {PostX : Pt → Array Value → Addr → Pt → Prop} (hK : vx_Back l R p e below s args y 3 W9 Pre Post PostX)
    {g : JFrame} (hg : g.method = m) (hsize : g.locals.size = c.maxLocals) {a : Addr} {argsL rest : List Value} (hlen : ∀ sig, parseMethodDescriptor y.desc = some sig → argsL.length = sig.parameters.length)
    (hstack : g.stack = argsL.reverse ++ .ref a :: rest) (hW : 2 * g.monitorRoom + (rest.map fun v => v.category).sum ≤ W9) (hdg : decode c.code g.pc = .ok (.invokespecial index, 3))
    (hpre : ∀ vm₁, s.WarmedH vm₁ → Pre ⟨T.setVm vm₁, locs, cells, slots⟩ (Value.ref a :: argsL).toArray) :
    (∃ (v : Option Value) (vm₁ : Vm) (B : Pt), s.WarmedH vm₁ ∧ Stand p l e R s m args below meth c B.U B.locs B.cells B.slots ∧ Post ⟨T.setVm vm₁, locs, cells, slots⟩ (Value.ref a :: argsL).toArray v B ∧
      ∀ target, Steps p.tables e below (B.U.setTop { g with pc := g.pc + 3, stack := v.toList ++ rest }) target → Steps p.tables e below (T.setTop g) target) ∨
    (∃ (q : Addr) (vm₁ : Vm) (B : Pt), s.WarmedH vm₁ ∧ Stand p l e R s m args below meth c B.U B.locs B.cells B.slots ∧ PostX ⟨T.setVm vm₁, locs, cells, slots⟩ (Value.ref a :: argsL).toArray q B ∧
      Steps p.tables e below (T.setTop g) ((B.U.setTop { g with stack := rest }).pushFrame (.throwing q))) := by
  subst hg
  have hpl : e.platform.magicAccessors = ({} : Platform).magicAccessors := by rw [X.admits.platform]
  obtain ⟨mk, methM, cM, kP, vm₁, hnamed, hmethM, hcodeM, -, hlocalsM, -, hkP, -, hW₁, hstep₁⟩ := Steps.initColdArgsNest (e := e) X.here hexec X.warmed hpl hown hy1 hy hlink hinst hcode (f := g) rfl hlen hstack hdg
  have X₁ := X.noted hW₁
  rcases hK g.method meth c ⟨T.setVm vm₁, locs, cells, slots⟩ { g with stack := rest } (.invokespecial index) mk (Value.ref a :: argsL).toArray X₁ rfl hsize hdg hW (X₁.named hnamed) (hpre vm₁ X₁.warmed) with ⟨v, B, X', hpost, hsteps⟩ | ⟨q, B, X', hpost, hsteps⟩
  · exact Or.inl ⟨v, vm₁, B, X₁.warmed, X', hpost, fun target h => hstep₁ _ fun acts => by rw [doInvoke_state]; exact hsteps.trans h⟩
  · exact Or.inr ⟨q, vm₁, B, X₁.warmed, X', hpost, hstep₁ _ fun acts => by rw [doInvoke_state]; exact hsteps⟩
end VXIC
section VXID
variable {p : Program} {l : Launch} {e : Env} {R : Room} {s : State} {m : MethodId} {args : Array Value} {below : List Frame} {meth : Method} {c : Code} {H : Heap} {locs : List Loc} {cells slots : Nat}
theorem vx_runIN {y : MethodName} {bytes cc : ByteArray} {maxL nL mc ms n index : Nat} {ws : List Cond} {rm : Room} {Pc : Array Value → State → Prop} {Qc : Array Value → State → Outcome → State → Prop} {XC : String → State → State → Prop} {free : Addr → Prop} {Ts : List Cond} {own host : String} {b : Addr} {As rest : List Value} {g : JFrame}
    (S : CallFix p m c cc nL s args Ts own) (hM : vx_Met l y ws rm Pc Qc XC mc ms free) (cw : va_CN R s args own index y host bytes maxL none ws rm mc ms n ∧ y.name = "<init>" ∧ (Cond.instanceMethod y).before args s = true) (hp : PreS s H Pc (.ref b :: As))
    (hg : g.method = m) (hn : As.length = n) (hsize : g.locals.size = nL) (hstack : g.stack = As.reverse ++ .ref b :: rest) (hW : 2 * g.monitorRoom + (rest.map fun v => v.category).sum ≤ 8) (hdg : decode cc g.pc = .ok (.invokespecial index, 3)) (hf : cells + mc ≤ R.cells ∧ slots + ms ≤ R.slots) :
    vx_Run p l e R s m args below meth c H locs cells slots mc ms g rest (Qc (Value.ref b :: As).toArray) XC free := by
  obtain ⟨⟨⟨hrc, hrs, hfr, hlo, hws, hcw⟩, hcode, hini, hy, hlen, hl⟩, hx1, hx2⟩ := cw
  have hK : vx_Back l R p e below s args y 3 8 (PreOf R mc ms Pc) (PostOf Qc mc ms free) (vx_Post XC mc ms free) := vx_back (bytes := bytes) (maxL := maxL) (ret := none) hM hp.1 hrc hrs hfr hlo hws hcw (fun a' U hW => word_at hW (Or.inl (by first | rfl | simp [Cond.onTables, Cond.keeps, Cond.steady])) hini)
  obtain ⟨hx, hb, hml, ho, -⟩ := S
  have hPc := hp.2
  intro T hT X
  rcases vx_callIN X hx (bytes := bytes) (maxL := maxL) ho hx1 hl hx2 hcode hy hK hg (hsize.trans hml.symm) (a := b) (argsL := As) (rest := rest) (fun sig h => hn.trans (hlen sig h)) hstack hW (by rw [hb]; exact hdg)
    (fun vm₁ hW₁ => ⟨hf.1, hf.2, hPc (T.setVm vm₁) hT hW₁⟩) with ⟨v, vm₁, ⟨U', l2, c2, s2⟩, hW₁, X', ⟨g', mk, t, L, e1, e2, hq, h1, hL, h2, h3⟩, st⟩ | ⟨q, vm₁, ⟨U', l2, c2, s2⟩, hW₁, X', ⟨g', mk, t, L, E, ce, e1, e2, hq, hce, hcv, hcl, h1, hL, h2, h3⟩, st⟩
  · dsimp only [Pt.U, Pt.locs, Pt.cells, Pt.slots] at X' e1 e2 h1 h2 h3 st
    subst h1; subst h2; subst h3
    exact Or.inl ⟨v, (T.setVm vm₁).calling g' mk (Value.ref b :: As).toArray, t, U', L, hT, X', hL, e1, e2, hq, st⟩
  · dsimp only [Pt.U, Pt.locs, Pt.cells, Pt.slots] at X' e1 e2 h1 h2 h3 st hcl
    subst h1; subst h2; subst h3
    exact Or.inr ⟨q, (T.setVm vm₁).calling g' mk (Value.ref b :: As).toArray, t, U', L, E, ce, hT, X', hL, e1, e2, hq, hce, hcv, vx_cls hW₁ hcl, st⟩
end VXID
/-! ===== END ===== -/
end
section
/-! ===== a run of the mini machine is a run of the machine ===== -/
section MJG
variable {Ln : Nat} {xs : Nat → Int32} {B b : Nat} {tys : List (ClassId × FieldType)} {D : va_G} {OH : Nat → Option Cell}
theorem mj_mono : ∀ (f i pc : Nat) (L S : List Value) (w w' : mj_W) (r : mj_R), mj_run Ln xs f i pc L S w = some (r, w') → w.1.1 + w.1.2.1 ≤ w'.1.1 + w'.1.2.1 ∧ w.1.2.2 ≤ w'.1.2.2
  | 0, _, _, _, _, _, _, _, h => by cases h
  | f + 1, i, pc, L, S, w, w', r, h => by
    unfold mj_run at h
    split at h
    · cases h
    · split at h
      · split at h
        · split at h
          · rename_i h0
            have h1 := mj_mono f _ _ _ _ _ _ _ h
            exact ⟨Nat.le_trans h0.1 h1.1, Nat.le_trans h0.2 h1.2⟩
          · cases h
        · split at h
          · cases h; exact ⟨Nat.le_refl _, Nat.le_refl _⟩
          · split at h
            · cases h; exact ⟨by dsimp only; omega, by dsimp only; omega⟩
            · split at h
              · split at h
                · cases h
                · rename_i v w1 h2
                  have h1 := mj_mono f _ _ _ _ _ _ _ h2
                  have h3 := mj_mono f _ _ _ _ _ _ _ h
                  exact ⟨Nat.le_trans h1.1 h3.1, Nat.le_trans h1.2 h3.2⟩
                · rename_i E w1 h2
                  split at h
                  · have h1 := mj_mono f _ _ _ _ _ _ _ h2
                    have h3 := mj_mono f _ _ _ _ _ _ _ h
                    exact ⟨Nat.le_trans h1.1 h3.1, Nat.le_trans h1.2 h3.2⟩
                  · cases h
              · cases h
      · cases h
theorem mj_G.same {s U : State} (hv : U.vm = s.vm) (h : mj_G Ln xs B b tys D OH s) : mj_G Ln xs B b tys D OH U := by
  have ha : s.vm.Alike U.vm := by rw [hv]; exact Vm.Alike.refl _
  obtain ⟨h1, h2, h3, h4, h5, h6, h7, h8⟩ := h
  exact ⟨h1.moved ha, h2, h3, fun H a c => (h4 H a c).moved ha, fun H a c => (h5 H a c).moved ha, fun H a c => (h6 H a c).moved ha,
    fun q hq => by obtain ⟨sa, hs⟩ := h7 q hq; exact ⟨sa, hs.same hv⟩, fun x y hx hy hn => (h8 x y hx hy hn).moved ha⟩
theorem mj_Sim.grow {w : mj_W} {H H1 : Heap} (h : mj_Sim B b tys D OH w H) (hz : H.size ≤ H1.size) (ho : ∀ q : Nat, q < H.size → H1[q]? = H[q]?) : mj_Sim B b tys D OH ((w.1.1, w.1.2.1 + 1, w.1.2.2 + 6), w.2) H1 := by
  obtain ⟨a1, a2, a3, a4⟩ := h
  refine ⟨fun q => absurd q (Nat.succ_ne_zero _), Nat.le_trans a2 hz, fun q hq => by rw [ho q (by omega)]; exact a3 q hq, fun k e hk => ?_⟩
  obtain ⟨j, hj, h2⟩ := a4 k e hk
  exact ⟨j, hj, h2.kept (ho _ h2.lt)⟩
def mj_Post (B b : Nat) (tys : List (ClassId × FieldType)) (D : va_G) (OH : Nat → Option Cell) (w' : mj_W) (st t : State) : Prop := mj_Sim B b tys D OH w' t.heap ∧ st.heap.size ≤ t.heap.size
def mj_Qc (B b : Nat) (tys : List (ClassId × FieldType)) (D : va_G) (OH : Nat → Option Cell) (r : mj_R) (w' : mj_W) : Array Value → State → Outcome → State → Prop := fun _ st o t => (∃ v, r = .inl v ∧ o = .returned (v.map (mj_tv B b))) ∧ mj_Post B b tys D OH w' st t
def mj_XC (B b : Nat) (tys : List (ClassId × FieldType)) (D : va_G) (OH : Nat → Option Cell) (r : mj_R) (w' : mj_W) : String → State → State → Prop := fun E st t => (∃ k, r = .inr k ∧ E = mj_E.getD k "") ∧ mj_Post B b tys D OH w' st t
def mj_Pc (Ln : Nat) (xs : Nat → Int32) (B b : Nat) (tys : List (ClassId × FieldType)) (D : va_G) (OH : Nat → Option Cell) (vs : List Value) (w : mj_W) : Array Value → State → Prop := fun a U => a = (vs.map (mj_tv B b)).toArray ∧ mj_Sim B b tys D OH w U.heap ∧ mj_G Ln xs B b tys D OH U
def mj_rm (j dc dz : Nat) : Room := { frames := mj_F j, cells := dc, slots := dz, locals := mj_D j }
def mj_ws (j : Nat) : List Cond := mj_cw j :: mj_GT
def mj_free (B : Nat) : Addr → Prop := fun q => B ≤ q
def mj_GoAt (l : Launch) (Ln : Nat) (xs : Nat → Int32) (B b : Nat) (tys : List (ClassId × FieldType)) (D : va_G) (OH : Nat → Option Cell) (f : Nat) : Prop :=
  ∀ (i pc : Nat) (L S : List Value) (w w' : mj_W) (r : mj_R), mj_run Ln xs f i pc L S w = some (r, w') →
  ∀ (p : Program) (e : Env) (R : Room) (s : State) (m : MethodId) (args : Array Value) (below : List Frame) (meth : Method) (c : Code) (H : Heap) (locs : List Loc) (cells slots : Nat) (Q : State → Prop) (ls : Array Slot),
  mj_X Ln xs B b tys D OH i p l s m args meth c → mj_F i ≤ R.frames → mj_D i ≤ R.locals → mj_Sim B b tys D OH w H → mj_lr B b ls (mj_l i) L → s.heap.size ≤ H.size → (∀ q ∈ locs, B ≤ q.base) → cells + (w'.1.1 + w'.1.2.1) ≤ R.cells + (w.1.1 + w.1.2.1) → slots + w'.1.2.2 ≤ R.slots + w.1.2.2 →
  (∀ (H1 : Heap) (ls1 : Array Slot) (locs1 : List Loc) (c1 z1 pc1 : Nat) (S1 : List Value) (g1 : Instr) (v : Option Value), r = .inl v → mj_Sim B b tys D OH w' H1 → s.heap.size ≤ H1.size → (∀ q ∈ locs1, B ≤ q.base) → c1 + (w.1.1 + w.1.2.1) = cells + (w'.1.1 + w'.1.2.1) → z1 + w.1.2.2 = slots + w'.1.2.2 → decode (mj_b i) pc1 = .ok (g1, 1) → mj_fin i S1 g1 = some v → W p l e R s m args below meth c H1 locs1 c1 z1 Q (F0 m pc1 ls1 (S1.map (mj_tv B b)))) →
  (∀ (H1 : Heap) (ls1 : Array Slot) (locs1 : List Loc) (c1 z1 pc1 : Nat) (S1 : List Value) (g1 : Instr) (E : Nat) (w1 : mj_W), r = .inr E → w' = ((w1.1.1, w1.1.2.1 + 1, w1.1.2.2 + 6), w1.2) → mj_Sim B b tys D OH w1 H1 → s.heap.size ≤ H1.size → (∀ q ∈ locs1, B ≤ q.base) → c1 + (w.1.1 + w.1.2.1) = cells + (w1.1.1 + w1.1.2.1) → z1 + w.1.2.2 = slots + w1.1.2.2 → ls1.size = mj_l i → decode (mj_b i) pc1 = .ok (g1, 3) → mj_thr i pc1 S1 g1 = some E → W p l e R s m args below meth c H1 locs1 c1 z1 Q (F0 m pc1 ls1 (S1.map (mj_tv B b)))) →
  W p l e R s m args below meth c H locs cells slots Q (F0 m pc ls (S.map (mj_tv B b)))
theorem mj_fin_ln {i : Nat} {S : List Value} {g : Instr} {v : Option Value} (h : mj_fin i S g = some v) : mj_sw g = false ∧ mj_ln g = 1 := by
  cases g <;> first | exact ⟨rfl, rfl⟩ | simp [mj_fin] at h
theorem mj_thr_ln {i pc : Nat} {S : List Value} {g : Instr} {E : Nat} (h : mj_thr i pc S g = some E) : mj_sw g = false ∧ mj_ln g = 3 := by
  cases g <;> first | exact ⟨rfl, rfl⟩ | simp [mj_thr] at h
theorem mj_exc_own : ∀ q ∈ mj_exc, q.1 ≠ 0 := by decide +kernel
section BODY
variable {p : Program} {l : Launch} {e : Env} {R : Room} {s : State} {m : MethodId} {args : Array Value} {below : List Frame} {meth : Method} {c : Code} {H : Heap} {locs : List Loc} {cells slots : Nat} {ls : Array Slot}
/-- a method's own end -/
theorem mj_ends {i pc : Nat} {S : List Value} {g : Instr} {v : Option Value} {r : mj_R} {w' : mj_W} (X : mj_X Ln xs B b tys D OH i p l s m args meth c) (hr0 : r = .inl v) (hS : mj_Sim B b tys D OH w' H) (hz : s.heap.size ≤ H.size) (hlo : ∀ q ∈ locs, B ≤ q.base) (hd : decode (mj_b i) pc = .ok (g, 1)) (hf : mj_fin i S g = some v) :
    W p l e R s m args below meth c H locs cells slots (vx_MQ below (mj_Qc B b tys D OH r w') (mj_XC B b tys D OH r w') args s cells slots (mj_free B)) (F0 m pc ls (S.map (mj_tv B b))) := by
  obtain ⟨hx, hb, hr, hml, hown, hts, hG, hlk, htab, hnm, hnt, hBs, hOs⟩ := X
  have hpost : ∀ t : State, t.heap = H → mj_Post B b tys D OH w' s t := fun t ht => ⟨by rw [ht]; exact hS, by rw [ht]; exact hz⟩
  refine vx_ret ?_
  cases g with
  | ireturn =>
    simp only [mj_fin] at hf
    split at hf
    · rename_i v0 ty hty
      obtain ⟨hn, hf⟩ := mj_if_s hf
      cases hf
      exact W.zret hx hb (hr.trans hty) hn (fun t ht _ => ⟨⟨_, hr0, rfl⟩, hpost t ht⟩) hlo hd hlk
    · cases hf
  | lreturn =>
    simp only [mj_fin] at hf
    split at hf
    · rename_i v0 hty
      cases hf
      exact W.lret hx hb (hr.trans hty) (fun t ht _ => ⟨⟨_, hr0, rfl⟩, hpost t ht⟩) hlo hd hlk
    · cases hf
  | freturn =>
    simp only [mj_fin] at hf
    split at hf
    · rename_i v0 hty
      cases hf
      exact W.fret hx hb (hr.trans hty) (fun t ht _ => ⟨⟨_, hr0, rfl⟩, hpost t ht⟩) hlo hd hlk
    · cases hf
  | dreturn =>
    simp only [mj_fin] at hf
    split at hf
    · rename_i v0 hty
      cases hf
      exact W.dret hx hb (hr.trans hty) (fun t ht _ => ⟨⟨_, hr0, rfl⟩, hpost t ht⟩) hlo hd hlk
    · cases hf
  | areturn =>
    simp only [mj_fin] at hf
    split at hf
    · rename_i v0 C hty
      cases hf
      exact W.aret hx hb (hr.trans hty) (Or.inl ⟨_, rfl⟩) (Or.inr ⟨_, rfl⟩) (fun t ht _ => ⟨⟨_, hr0, rfl⟩, hpost t ht⟩) hlo hd hlk
    · cases hf
  | return_ =>
    simp only [mj_fin] at hf
    split at hf
    · rename_i hty
      cases hf
      exact W.vret hx hb (hr.trans hty) (fun t ht _ => ⟨⟨_, hr0, rfl⟩, hpost t ht⟩) hlo hd hlk
    · cases hf
  | _ => simp [mj_fin] at hf
/-- a throw that leaves the method -/
theorem mj_throws {i pc : Nat} {S : List Value} {g : Instr} {E mc ms : Nat} {r : mj_R} {w w' : mj_W} (X : mj_X Ln xs B b tys D OH i p l s m args meth c) (hF : mj_F i ≤ R.frames) (hDl : mj_D i ≤ R.locals) (hr0 : r = .inr E) (hw : w' = ((w.1.1, w.1.2.1 + 1, w.1.2.2 + 6), w.2)) (hS : mj_Sim B b tys D OH w H) (hz : s.heap.size ≤ H.size) (hlo : ∀ q ∈ locs, B ≤ q.base) (hsz : ls.size = mj_l i) (hd : decode (mj_b i) pc = .ok (g, 3)) (hf : mj_thr i pc S g = some E)
    (hc1 : cells + 1 ≤ R.cells) (hs1 : slots + 6 ≤ R.slots) (hc : cells + 1 ≤ mc) (hs : slots + 6 ≤ ms) :
    W p l e R s m args below meth c H locs cells slots (vx_MQ below (mj_Qc B b tys D OH r w') (mj_XC B b tys D OH r w') args s mc ms (mj_free B)) (F0 m pc ls (S.map (mj_tv B b))) := by
  obtain ⟨hx, hb, hr, hml, hown, hts, hG, hlk, htab, hnm, hnt, hBs, hOs⟩ := X
  have hXC : ∀ (cls : String), cls = mj_E.getD E "" → ∀ t : State, s.vm.Alike t.vm → H.size ≤ t.heap.size → (∀ q : Nat, q < H.size → t.heap[q]? = H[q]?) → mj_XC B b tys D OH r w' cls s t := by
    intro cls hcls t _ h1 h2
    refine ⟨⟨E, hr0, hcls⟩, ?_, Nat.le_trans hz h1⟩
    rw [hw]
    exact hS.grow h1 h2
  have hSS : va_S (fun q => B ≤ q) s.heap H locs := ⟨hz, fun q hq hn => by rw [hS.2.2.1 q (Nat.not_le.mp hn), hOs q (Nat.not_le.mp hn)], hlo⟩
  cases g with
  | new x =>
    simp only [mj_thr] at hf
    split at hf
    · rename_i E0 ic hk
      have hi0 : i ≠ 0 := by
        rintro rfl
        have := mj_exc_own _ (mj_find2 hk)
        exact this (show mj_o 0 = 0 by decide +kernel)
      obtain ⟨⟨d3, hh, hcat, hF6, hD9⟩, hf⟩ := mj_if_s hf
      have hq := mj_find2 hk
      obtain ⟨e1, e2, e3, e4⟩ := mj_exc_ok _ hq
      have hat : ∀ w ∈ mj_xw (mj_o i, x, E0, ic), w.before args s = true := fun w hw => hts w (e1 w hw)
      have hout : ∀ (pc9 : Nat), ∀ x ∈ c.exceptionTable.toList, covers x pc9 = false := by
        intro pc9 x hx9
        rw [htab hi0, hh] at hx9
        cases hx9
      have hst : ∀ z, (mj_rs (mj_o i) z).isSome = true → ∃ tx sa, vk_R (mj_own (mj_o i)) z tx sa s := by
        intro z hz9
        obtain ⟨tx, htx⟩ := Option.isSome_iff_exists.mp hz9
        obtain ⟨sa, hsa⟩ := hG.2.2.2.2.2.2.1 _ (mj_find2 htx)
        exact ⟨tx, sa, hsa⟩
      have hU := hG.2.2.2.2.1 s.heap hOs hBs
      have hN := hG.2.2.2.2.2.1 s.heap hOs hBs
      have hloc : ((S.map (mj_tv B b)).map fun v => v.category).sum + (13 * (mj_rt.length + 1) + 43) ≤ R.locals := by
        rw [mj_tv_sum]
        show _ + (13 * (2 + 1) + 43) ≤ _
        omega
      have hfr : mj_rt.length + 3 < R.frames := by
        show 2 + 3 < _
        omega
      split at hf
      · rename_i z hz4
        obtain ⟨⟨hz9, d6, d9⟩, hf⟩ := mj_if_s hf
        cases hf
        obtain ⟨tx, sa, hsa⟩ := hst z hz9
        exact vx_throwS hx hb hnt hown e3 mj_rt_ok (hat _ List.mem_cons_self) (hat _ (List.mem_cons_of_mem _ List.mem_cons_self)) hsa (fun w hw => hat w (List.mem_cons_of_mem _ (List.mem_cons_of_mem _ hw))) e2 hU hN hSS (hsz.trans hml.symm) hd d3 hz4 d6 d9 (hout _) hfr hloc hc1 hs1 hlk (hXC _ rfl) hlo hc hs
      · rename_i z hz4
        obtain ⟨⟨hz9, d7, d10⟩, hf⟩ := mj_if_s hf
        cases hf
        obtain ⟨tx, sa, hsa⟩ := hst z hz9
        exact vx_throwSW hx hb hnt hown e3 mj_rt_ok (hat _ List.mem_cons_self) (hat _ (List.mem_cons_of_mem _ List.mem_cons_self)) hsa (fun w hw => hat w (List.mem_cons_of_mem _ (List.mem_cons_of_mem _ hw))) e2 hU hN hSS (hsz.trans hml.symm) hd d3 hz4 d7 d10 (hout _) hfr hloc hc1 hs1 hlk (hXC _ rfl) hlo hc hs
      · cases hf
    · cases hf
  | _ => simp [mj_thr] at hf
end BODY
set_option maxHeartbeats 1000000 in
/-- a method's contract, out of a run of the mini machine -/
theorem mj_met {l : Launch} {f : Nat} (hf : mj_GoAt l Ln xs B b tys D OH f) (hnt : l.stackTraces = false) {j : Nat} (hj : plainName (mj_y j).cls = true) (hcls : (mj_y j).cls = mj_own (mj_o j)) {vs : List Value} {w w' : mj_W} {r : mj_R} (h : mj_run Ln xs f j 0 (mj_ent j vs) [] w = some (r, w')) (hcat : mj_cat vs ≤ mj_l j) :
    vx_Met l (mj_y j) (mj_ws j) (mj_rm j (w'.1.1 + w'.1.2.1 - (w.1.1 + w.1.2.1)) (w'.1.2.2 - w.1.2.2)) (mj_Pc Ln xs B b tys D OH vs w) (mj_Qc B b tys D OH r w') (mj_XC B b tys D OH r w') (w'.1.1 + w'.1.2.1 - (w.1.1 + w.1.2.1)) (w'.1.2.2 - w.1.2.2) (mj_free B) := by
  have hm := mj_mono _ _ _ _ _ _ _ _ h
  have key : ∀ (p : Program) (e : Env) (s : State) (m : MethodId) (args : Array Value) (below : List Frame) (meth : Method) (c : Code) (s₁ : State), BodyLoose p l (mj_y j) (headSpec (mj_ws j) (mj_rm j (w'.1.1 + w'.1.2.1 - (w.1.1 + w.1.2.1)) (w'.1.2.2 - w.1.2.2))) (mj_b j) (mj_l j) (mj_r j) e s m args below meth c s₁ → c.maxLocals = mj_l j → c.exceptionTable.toList = tableOf (mj_h j) → mj_Pc Ln xs B b tys D OH vs w args s →
      W p l e (mj_rm j (w'.1.1 + w'.1.2.1 - (w.1.1 + w.1.2.1)) (w'.1.2.2 - w.1.2.2)) s m args below meth c s.heap [] 0 0 (vx_MQ below (mj_Qc B b tys D OH r w') (mj_XC B b tys D OH r w') args s (w'.1.1 + w'.1.2.1 - (w.1.1 + w.1.2.1)) (w'.1.2.2 - w.1.2.2) (mj_free B)) (entryFrame m args (mj_l j)) := by
    intro p e s m args below meth c s₁ Bd hml htab hP
    obtain ⟨rfl, hS, hG⟩ := hP
    have hts0 := atoms_spec (ws := mj_ws j) Bd.pre
    have hown : s.vm.findClass (mj_own (mj_o j)) = some m.cls := by rw [← hcls]; exact findClass_of_methodNamed Bd.named
    have X : mj_X Ln xs B b tys D OH j p l s m (vs.map (mj_tv B b)).toArray meth c := ⟨Bd.exec, Bd.bytes, Bd.returns, hml, hown, fun w hw => hts0 w (List.mem_cons_of_mem _ hw), hG, Bd.notSynchronized, fun _ => htab, fun _ => (name_of_methodNamed Bd.named Bd.method).1, hnt, hS.2.1, hS.2.2.1⟩
    rw [lg_entry_eq]
    refine hf j 0 (mj_ent j vs) [] w w' r h p e _ s m _ below meth c s.heap [] 0 0 _ _ X (Nat.le_refl _) (Nat.le_refl _) hS (mj_lr.entry hcat) (Nat.le_refl _) (fun q hq => by cases hq) (by show 0 + _ ≤ (_ - _) + _; omega) (by show 0 + _ ≤ (_ - _) + _; omega) ?_ ?_
    · intro H1 ls1 locs1 c1 z1 pc1 S1 g1 v hr0 hS1 hz1 hlo1 hc1 hz1' hd1 hf1
      have ec : w'.1.1 + w'.1.2.1 - (w.1.1 + w.1.2.1) = c1 := by omega
      have ez : w'.1.2.2 - w.1.2.2 = z1 := by omega
      rw [ec, ez]
      exact mj_ends X hr0 hS1 hz1 hlo1 hd1 hf1
    · intro H1 ls1 locs1 c1 z1 pc1 S1 g1 E w1 hr0 hw1 hS1 hz1 hlo1 hc1 hz1' hsz1 hd1 hf1
      have hm1 : w'.1.1 + w'.1.2.1 = w1.1.1 + (w1.1.2.1 + 1) := by rw [hw1]
      have hm2 : w'.1.2.2 = w1.1.2.2 + 6 := by rw [hw1]
      exact mj_throws X (Nat.le_refl _) (Nat.le_refl _) hr0 hw1 hS1 hz1 hlo1 hsz1 hd1 hf1 (by show c1 + 1 ≤ _ - _; omega) (by show z1 + 6 ≤ _ - _; omega) (by omega) (by omega)
  by_cases hh : mj_h j = []
  · refine vx_ofW (cc := mj_b j) (maxL := mj_l j) (ret := mj_r j) (ws' := mj_GT) hj (by unfold mj_ws mj_cw; rw [if_pos hh]) ?_
    intro p e s m args below meth c s₁ Bd hml ht hP
    refine key p e s m args below meth c s₁ Bd hml ?_ hP
    rw [hh]
    exact List.eq_nil_iff_forall_not_mem.mpr fun x hx => ht x hx
  · refine vx_ofWH (cc := mj_b j) (maxL := mj_l j) (ret := mj_r j) (hh := mj_h j) (ws' := mj_GT) hj (by unfold mj_ws mj_cw; rw [if_neg hh]) ?_
    intro p e s m args below meth c s₁ Bd hml hP
    refine key p e s m args below meth c s₁ Bd hml ?_ hP
    refine vx_table (x := mj_y j) Bd (bytes := mj_b j) (maxL' := mj_l j) (ret' := mj_r j) ?_
    have := atoms_spec (ws := mj_ws j) Bd.pre (mj_cw j) List.mem_cons_self
    unfold mj_cw at this
    rw [if_neg hh] at this
    exact this
end MJG
end
section
/-! ===== calls, and the run whole ===== -/
theorem mj_hdl_lt : ∀ q ∈ mj_hdl, q.2.2 < mj_E.length := by decide +kernel
theorem mj_hrow0 : ∀ i, i < mj_mH.length → ∀ q ∈ mj_h i, q.2.2.2 ≠ 0 ∧ (mj_rh (mj_o i) q.2.2.2).isSome = true := by decide +kernel
theorem mj_hrow {i : Nat} {q : Nat × Nat × Nat × Nat} (h : q ∈ mj_h i) : q.2.2.2 ≠ 0 ∧ ∃ E, mj_rh (mj_o i) q.2.2.2 = some E := by
  by_cases hi : i < mj_mH.length
  · obtain ⟨h1, h2⟩ := mj_hrow0 i hi q h
    exact ⟨h1, Option.isSome_iff_exists.mp h2⟩
  · exfalso
    unfold mj_h at h
    rw [List.getD_eq_getElem?_getD, List.getElem?_eq_none (Nat.not_lt.mp hi)] at h
    cases h
theorem mj_h0 {i : Nat} {q : Nat × Nat × Nat × Nat} (h : q ∈ mj_h i) : i ≠ 0 := by
  rintro rfl
  rw [show mj_h 0 = [] from by decide +kernel] at h
  cases h
theorem mj_lr.st1h {B b : Nat} {ls : Array Slot} {nL i : Nat} {L : List Value} {v' : Value} (h : lv_has ls nL ((i, v') :: (mj_lv B b L).filter (fun q => !(q.1 == i) && !(q.1 + 1 == i && q.2.category == 2)))) : mj_lr B b ls nL (mj_st1 L i mj_hole) := by
  refine mj_lr.of h fun q hq => ?_
  obtain ⟨u, h1, h2, h3⟩ := mj_lv_mem.mp hq
  rcases mj_st1_get L i q.1 mj_hole u h1 with ⟨e1, e2⟩ | ⟨e1, u0, e2, e3⟩
  · rw [e2] at h2
    cases h2
  · refine List.mem_cons_of_mem _ (List.mem_filter.mpr ?_)
    have hu : u = u0 ∧ ¬ (q.1 + 1 = i ∧ u.category = 2) := by
      rcases e3 with ⟨e4, e5⟩ | ⟨e4, e5⟩
      · rw [e5] at h2
        obtain ⟨g1, g2⟩ := mj_hol_ish h2
        rw [e5, g2]
        exact ⟨rfl, fun z => g1 z.2⟩
      · exact ⟨e5, fun z => e4 z.1⟩
    refine ⟨mj_lv_mem.mpr ⟨u0, e2, hu.1 ▸ h2, hu.1 ▸ h3⟩, ?_⟩
    rw [h3, mj_tv_cat]
    have hn := hu.2
    simp only [Bool.and_eq_true, Bool.not_eq_true', beq_eq_false_iff_ne, Bool.and_eq_false_iff, ne_eq]
    refine ⟨e1, ?_⟩
    by_cases z : q.1 + 1 = i
    · exact Or.inr (fun y => hn ⟨z, y⟩)
    · exact Or.inl z
section MJC
variable {Ln : Nat} {xs : Nat → Int32} {B b : Nat} {tys : List (ClassId × FieldType)} {D : va_G} {OH : Nat → Option Cell}
variable {p : Program} {l : Launch} {e : Env} {R : Room} {s : State} {m : MethodId} {args : Array Value} {below : List Frame} {meth : Method} {c : Code} {H : Heap} {locs : List Loc} {cells slots : Nat} {Q : State → Prop} {ls : Array Slot}
theorem mj_goes {pc mc ms : Nat} {st0 rest : List Value} {r : mj_R} {w1 : mj_W} {a : Array Value} (hr : vx_Run p l e R s m args below meth c H locs cells slots mc ms (F0 m pc ls st0) rest (mj_Qc B b tys D OH r w1 a) (mj_XC B b tys D OH r w1) (mj_free B)) (hlo : ∀ q ∈ locs, B ≤ q.base)
    (kk : ∀ v, r = .inl v → ∀ (H1 : Heap) (locs1 : List Loc), mj_Sim B b tys D OH w1 H1 → H.size ≤ H1.size → (∀ q ∈ locs1, B ≤ q.base) → W p l e R s m args below meth c H1 locs1 (cells + mc) (slots + ms) Q (F0 m (pc + 3) ls ((v.map (mj_tv B b)).toList ++ rest)))
    (kx : ∀ E, r = .inr E → ∀ (H1 : Heap) (locs1 : List Loc) (q : Addr) (ce : Cell), mj_Sim B b tys D OH w1 H1 → H.size ≤ H1.size → (∀ q ∈ locs1, B ≤ q.base) → H1[q]? = some ce → ce.vm = .none → s.vm.findClass (mj_E.getD E "") = some ce.cls → vx_W p l e R s m args below meth c H1 locs1 (cells + mc) (slots + ms) Q (F0 m pc ls rest) q) :
    W p l e R s m args below meth c H locs cells slots Q (F0 m pc ls st0) := by
  intro T hT X
  have hl9 : ∀ (L : List Loc), (∀ q ∈ L, mj_free B q.base) → ∀ q ∈ locs ++ L, B ≤ q.base := fun L hL q hq => (List.mem_append.mp hq).elim (hlo q) (hL q)
  rcases hr T hT X with ⟨v, st₀, t, T', L, h0, X', hL, e1, e2, ⟨⟨v', hv, ho⟩, hP, hz⟩, st⟩ | ⟨q, st₀, t, T', L, E, ce, h0, X', hL, e1, e2, ⟨⟨k, hk, hE⟩, hP, hz⟩, hce, hcv, hcl, st⟩
  · cases ho
    obtain ⟨t2, a1, b1⟩ := kk v' hv T'.heap (locs ++ L) (by rw [e1]; exact hP) (by rw [e1, ← h0]; exact hz) (hl9 L hL) T' rfl X'
    exact ⟨t2, st t2 a1, b1⟩
  · obtain ⟨t2, a1, b1⟩ := kx k hk T'.heap (locs ++ L) q ce (by rw [e1]; exact hP) (by rw [e1, ← h0]; exact hz) (hl9 L hL) (by rw [e1]; exact hce) hcv (by rw [← hE]; exact hcl) T' rfl X'
    exact ⟨t2, st.trans a1, b1⟩
theorem mj_blind {vs : List Value} {w : mj_W} : FrameBlind (mj_Pc Ln xs B b tys D OH vs w) := fun a U g mk q => ⟨q.1, q.2.1, mj_G.same (s := U) rfl q.2.2⟩
theorem mj_stack {S As : List Value} {a n : Nat} (h : (S.take n).reverse = .ref a :: As) : S.map (mj_tv B b) = (As.map (mj_tv B b)).reverse ++ Value.ref (mj_ad B b a) :: (S.drop n).map (mj_tv B b) := by
  have h1 : S.take n = As.reverse ++ [.ref a] := by
    have := congrArg List.reverse h
    rw [List.reverse_reverse, List.reverse_cons] at this
    exact this
  have h2 : S = As.reverse ++ [.ref a] ++ S.drop n := by rw [← h1, List.take_append_drop]
  conv => lhs; rw [h2]
  simp [List.map_append, List.map_reverse, mj_tv]
theorem mj_stackS {S : List Value} {n : Nat} : S.map (mj_tv B b) = (((S.take n).reverse).map (mj_tv B b)).reverse ++ (S.drop n).map (mj_tv B b) := by
  conv => lhs; rw [← List.take_append_drop n S]
  simp [List.map_append, List.map_reverse]
theorem mj_recv {w : mj_W} {j : Nat} {c0 : Nat} {fs : List Value} (hG : mj_G Ln xs B b tys D OH s) (hS : mj_Sim B b tys D OH w H) (he : w.2 j = some (.inr (c0, fs))) (hc : c0 < vwCl.length) : ∃ cellB : Cell, H[mj_ad B b j]? = some cellB ∧ cellB.vm.isStatics = false ∧ s.vm.findClass (mj_cl c0).1 = some cellB.cls := by
  obtain ⟨k, rfl, r, h1, cell, g1, g2, g3, -⟩ := hS.2.2.2 _ _ he
  have h2 := (mj_cl_ok c0 hc).1
  have hr : r = mj_cl c0 := Option.some.inj (h1.symm.trans h2)
  subst hr
  exact ⟨cell, g1, by rw [g3]; rfl, by rw [g2]; exact (hG.1.1 c0 _ h2).2.1⟩
/-- what a call's place tells of the method -/
theorem mj_cal_ok {i j : Nat} {S vs S' : List Value} {w : mj_W} {g : Instr} (h : mj_cal i S w g = some (j, vs, S')) : mj_sw g = false ∧ mj_ln g = 3 ∧ plainName (mj_y j).cls = true ∧ (mj_y j).cls = mj_own (mj_o j) ∧ mj_cat vs ≤ mj_l j := by
  have hrev : ∀ (n : Nat), mj_cat (S.take n) = mj_cat ((S.take n).reverse) := fun n => by unfold mj_cat; rw [List.map_reverse, List.sum_reverse]
  cases g with
  | invokevirtual x =>
    simp only [mj_cal] at h
    split at h
    · rename_i j0 hk
      have hok := of_decide_eq_true (mj_call_okm _ (mj_find2 hk))
      split at h
      · obtain ⟨c0, fs, -, h⟩ := mj_eo_s h
        obtain ⟨-, h⟩ := mj_if_s h
        obtain ⟨⟨-, -, -, -, h5⟩, h⟩ := mj_if_s h
        cases h
        exact ⟨rfl, rfl, hok.2.1, hok.2.2.2.2.2.1, by rw [← hrev]; exact h5⟩
      · cases h
    · cases h
  | invokestatic x =>
    simp only [mj_cal] at h
    split at h
    · rename_i j0 hk
      have hok := of_decide_eq_true (mj_call_okm _ (mj_find2 hk))
      obtain ⟨⟨-, -, -, -, h5⟩, h⟩ := mj_if_s h
      cases h
      exact ⟨rfl, rfl, hok.2.1, hok.2.2.2.2.2.1, by rw [← hrev]; exact h5⟩
    · cases h
  | invokespecial x =>
    simp only [mj_cal] at h
    split at h
    · rename_i j0 hk
      have hok := of_decide_eq_true (mj_call_okm _ (mj_find2 hk))
      split at h
      · obtain ⟨⟨-, -, -, -, h5⟩, h⟩ := mj_if_s h
        cases h
        exact ⟨rfl, rfl, hok.2.1, hok.2.2.2.2.2.1, by rw [← hrev]; exact h5⟩
      · cases h
    · rename_i j0 hk
      have hok := of_decide_eq_true (mj_call_okm _ (mj_find2 hk))
      split at h
      · obtain ⟨⟨-, -, -, -, h5⟩, h⟩ := mj_if_s h
        cases h
        exact ⟨rfl, rfl, hok.2.1, hok.2.2.2.2.2.1, by rw [← hrev]; exact h5⟩
      · cases h
    · cases h
  | _ => simp [mj_cal] at h
set_option maxHeartbeats 2000000 in
theorem mj_callrun {i pc j dc dz : Nat} {S vs S' : List Value} {w w1 : mj_W} {g : Instr} {r : mj_R} (X : mj_X Ln xs B b tys D OH i p l s m args meth c) (hcal : mj_cal i S w g = some (j, vs, S')) (hd : decode (mj_b i) pc = .ok (g, 3)) (hM : vx_Met l (mj_y j) (mj_ws j) (mj_rm j dc dz) (mj_Pc Ln xs B b tys D OH vs w) (mj_Qc B b tys D OH r w1) (mj_XC B b tys D OH r w1) dc dz (mj_free B))
    (hF : mj_F i ≤ R.frames) (hDl : mj_D i ≤ R.locals) (hS : mj_Sim B b tys D OH w H) (hL : ls.size = mj_l i) (hc : cells + dc ≤ R.cells) (hs : slots + dz ≤ R.slots) :
    vx_Run p l e R s m args below meth c H locs cells slots dc dz (F0 m pc ls (S.map (mj_tv B b))) (S'.map (mj_tv B b)) (mj_Qc B b tys D OH r w1 #[]) (mj_XC B b tys D OH r w1) (mj_free B) := by
  obtain ⟨hx, hb, hr, hml, hown, hts, hG, hlk, htab, hnm, hnt, hBs, hOs⟩ := X
  have hG1 : ∀ U : State, s.WarmedH U.vm → mj_G Ln xs B b tys D OH U := fun U hW => hG.warm hW
  have hws : mj_cw j ∈ mj_GT → ∀ w ∈ mj_ws j, ∀ (a' : Array Value) (U : State), s.WarmedH U.vm → w.before a' U = true := fun hj w hw a' U hW => mj_GT_warm hts w ((List.mem_cons.mp hw).elim (fun q => by rw [q]; exact hj) id) a' U hW
  cases g with
  | invokevirtual x =>
    simp only [mj_cal] at hcal
    split at hcal
    · rename_i j0 hk
      have hok := of_decide_eq_true (mj_call_okm _ (mj_find2 hk))
      have hw := mj_call_ok _ (mj_find2 hk)
      split at hcal
      · rename_i a As hAs
        have h9 := mj_eo_s hcal; clear hcal; obtain ⟨c0, fs, he, hcal⟩ := h9
        have h9 := mj_if_s hcal; clear hcal; obtain ⟨h0, hcal⟩ := h9
        have h9 := mj_if_s hcal; clear hcal; obtain ⟨⟨h1, h2, h3, h4, h5⟩, hcal⟩ := h9
        cases hcal
        obtain ⟨k1, k2, k3, k4, k5, k6, k7, k8, k9, k10⟩ := hok
        have hnil : mj_h j = [] := k10 (by decide)
        have hcw : mj_cw j = .code (mj_y j) (mj_b j) (mj_l j) (mj_r j) := by unfold mj_cw; rw [if_pos hnil]
        have hcG : mj_cw j ∈ mj_GT := hw _ (by simp [mj_wd])
        have hlen : As.length = mj_n j - 1 := by
          have := congrArg List.length hAs
          rw [List.length_reverse, List.length_take, List.length_cons] at this
          omega
        have hst : S.map (mj_tv B b) = (As.map (mj_tv B b)).reverse ++ Value.ref (mj_ad B b a) :: (S.drop (mj_n j)).map (mj_tv B b) := mj_stack hAs
        obtain ⟨q8, q9⟩ := k8 rfl
        refine vx_runV (nL := mj_l i) (cc := mj_b i) (C := (mj_y j).cls) (b := mj_ad B b a) (As := As.map (mj_tv B b)) (Ts := mj_GT) (own := mj_own (mj_o i)) (index := x) (bytes := mj_b j) (maxL := mj_l j) (ret := mj_r j) (n := mj_n j - 1) ⟨hx, hb, hml, hown, hts⟩ hM ⟨⟨rfl, rfl, by show mj_F j + 1 ≤ _; omega, by show 8 + (mj_l j + 11) + mj_D j ≤ _; omega, hws hcG, by unfold mj_ws; rw [hcw]; exact List.mem_cons_self, by rw [← hcw]; exact hts _ hcG, hts _ (hw _ (by simp [mj_wd])), ⟨k3, k4⟩, fun sig hsig => ?_, hts _ (hw _ (by simp [mj_wd]))⟩, hts _ (hw _ (by simp [mj_wd])), hts _ (hw _ (by simp [mj_wd]))⟩ ⟨mj_blind, ?_, fun U hU hW => ⟨?_, by rw [hU]; exact hS, hG1 U hW⟩⟩ rfl (by rw [List.length_map]; exact hlen) hL hst (by show 2 * 0 + _ ≤ 8; rw [mj_tv_sum]; omega) hd ⟨hc, hs⟩
        · rw [hsig] at k5
          have := Option.some.inj k5
          rw [if_neg (by decide)] at this
          exact this.symm
        · rw [← q9, ← h0]
          exact mj_recv hG hS he (by rw [h0]; exact q8)
        · rw [hAs]; rfl
      · cases hcal
    · cases hcal
  | invokestatic x =>
    simp only [mj_cal] at hcal
    split at hcal
    · rename_i j0 hk
      have hok := of_decide_eq_true (mj_call_okm _ (mj_find2 hk))
      have hw := mj_call_ok _ (mj_find2 hk)
      have h9 := mj_if_s hcal; clear hcal; obtain ⟨⟨h1, h2, h3, h4, h5⟩, hcal⟩ := h9
      cases hcal
      obtain ⟨k1, k2, k3, k4, k5, k6, k7, k8, k9, k10⟩ := hok
      have hcG : mj_cw j ∈ mj_GT := hw _ (by simp [mj_wd])
      have hlen : ((S.take (mj_n j)).reverse).length = mj_n j := by rw [List.length_reverse, List.length_take]; omega
      have hln : ∀ sig, parseMethodDescriptor (mj_y j).desc = some sig → mj_n j = sig.parameters.length := by
        intro sig hsig
        rw [hsig] at k5
        have := Option.some.inj k5
        rw [if_pos rfl] at this
        exact this.symm
      by_cases hnil : mj_h j = []
      · have hcw : mj_cw j = .code (mj_y j) (mj_b j) (mj_l j) (mj_r j) := by unfold mj_cw; rw [if_pos hnil]
        exact vx_runS (nL := mj_l i) (cc := mj_b i) (As := ((S.take (mj_n j)).reverse).map (mj_tv B b)) (Ts := mj_GT) (own := mj_own (mj_o i)) (index := x) (bytes := mj_b j) (maxL := mj_l j) (ret := mj_r j) (n := mj_n j) ⟨hx, hb, hml, hown, hts⟩ hM ⟨⟨rfl, rfl, by show mj_F j + 1 ≤ _; omega, by show 8 + (mj_l j + 11) + mj_D j ≤ _; omega, hws hcG, by unfold mj_ws; rw [hcw]; exact List.mem_cons_self, by rw [← hcw]; exact hts _ hcG, hts _ (hw _ (by simp [mj_wd])), ⟨k3, k4⟩, hln, hts _ (hw _ (by simp [mj_wd]))⟩, hts _ (hw _ (by simp [mj_wd]))⟩ ⟨mj_blind, fun U hU hW => ⟨rfl, by rw [hU]; exact hS, hG1 U hW⟩⟩ rfl (by rw [List.length_map]; exact hlen) hL mj_stackS (by show 2 * 0 + _ ≤ 8; rw [mj_tv_sum]; omega) hd ⟨hc, hs⟩
      · have hcw : mj_cw j = .codeWith (mj_y j) (mj_b j) (mj_l j) (mj_r j) (mj_h j) := by unfold mj_cw; rw [if_neg hnil]
        exact vx_runSX (nL := mj_l i) (cc := mj_b i) (As := ((S.take (mj_n j)).reverse).map (mj_tv B b)) (Ts := mj_GT) (own := mj_own (mj_o i)) (index := x) (bytes := mj_b j) (maxL := mj_l j) (ret := mj_r j) (hh := mj_h j) (n := mj_n j) ⟨hx, hb, hml, hown, hts⟩ hM ⟨⟨rfl, rfl, by show mj_F j + 1 ≤ _; omega, by show 8 + (mj_l j + 11) + mj_D j ≤ _; omega, hws hcG, by unfold mj_ws; rw [hcw]; exact List.mem_cons_self⟩, by rw [← hcw]; exact hts _ hcG, hts _ (hw _ (by simp [mj_wd])), ⟨k3, k4⟩, hln, hts _ (hw _ (by simp [mj_wd])), hts _ (hw _ (by simp [mj_wd]))⟩ ⟨mj_blind, fun U hU hW => ⟨rfl, by rw [hU]; exact hS, hG1 U hW⟩⟩ rfl (by rw [List.length_map]; exact hlen) hL mj_stackS (by show 2 * 0 + _ ≤ 8; rw [mj_tv_sum]; omega) hd ⟨hc, hs⟩
    · cases hcal
  | invokespecial x =>
    simp only [mj_cal] at hcal
    split at hcal
    · rename_i j0 hk
      have hok := of_decide_eq_true (mj_call_okm _ (mj_find2 hk))
      have hw := mj_call_ok _ (mj_find2 hk)
      split at hcal
      · rename_i a As hAs
        have h9 := mj_if_s hcal; clear hcal; obtain ⟨⟨h1, h2, h3, h4, h5⟩, hcal⟩ := h9
        cases hcal
        obtain ⟨k1, k2, k3, k4, k5, k6, k7, k8, k9, k10⟩ := hok
        have hnil : mj_h j = [] := k10 (by decide)
        obtain ⟨q1, q2⟩ := k9 (by decide)
        have hcw : mj_cw j = .code (mj_y j) (mj_b j) (mj_l j) none := by unfold mj_cw; rw [if_pos hnil, q2]
        have hcG : mj_cw j ∈ mj_GT := hw _ (by simp [mj_wd])
        have hlen : As.length = mj_n j - 1 := by
          have := congrArg List.length hAs
          rw [List.length_reverse, List.length_take, List.length_cons] at this
          omega
        have hst : S.map (mj_tv B b) = (As.map (mj_tv B b)).reverse ++ Value.ref (mj_ad B b a) :: (S.drop (mj_n j)).map (mj_tv B b) := mj_stack hAs
        refine vx_runI (nL := mj_l i) (cc := mj_b i) (b := mj_ad B b a) (As := As.map (mj_tv B b)) (Ts := mj_GT) (own := mj_own (mj_o i)) (index := x) (bytes := mj_b j) (maxL := mj_l j) (n := mj_n j - 1) ⟨hx, hb, hml, hown, hts⟩ hM ⟨⟨rfl, rfl, by show mj_F j + 1 ≤ _; omega, by show 8 + (mj_l j + 11) + mj_D j ≤ _; omega, hws hcG, by unfold mj_ws; rw [hcw]; exact List.mem_cons_self, by rw [← hcw]; exact hts _ hcG, hts _ (hw _ (by simp [mj_wd])), ⟨k3, k4⟩, fun sig hsig => ?_, hts _ (hw _ (by simp [mj_wd]))⟩, q1, hts _ (hw _ (by simp [mj_wd]))⟩ ⟨mj_blind, fun U hU hW => ⟨?_, by rw [hU]; exact hS, hG1 U hW⟩⟩ rfl (by rw [List.length_map]; exact hlen) hL hst (by show 2 * 0 + _ ≤ 8; rw [mj_tv_sum]; omega) hd ⟨hc, hs⟩
        · rw [hsig] at k5
          have := Option.some.inj k5
          rw [if_neg (by decide)] at this
          exact this.symm
        · rw [hAs]; rfl
      · cases hcal
    · rename_i j0 hk
      have hok := of_decide_eq_true (mj_call_okm _ (mj_find2 hk))
      have hw := mj_call_ok _ (mj_find2 hk)
      split at hcal
      · rename_i a As hAs
        have h9 := mj_if_s hcal; clear hcal; obtain ⟨⟨h1, h2, h3, h4, h5⟩, hcal⟩ := h9
        cases hcal
        obtain ⟨k1, k2, k3, k4, k5, k6, k7, k8, k9, k10⟩ := hok
        have hnil : mj_h j = [] := k10 (by decide)
        obtain ⟨q1, q2⟩ := k9 (by decide)
        have hcw : mj_cw j = .code (mj_y j) (mj_b j) (mj_l j) none := by unfold mj_cw; rw [if_pos hnil, q2]
        have hcG : mj_cw j ∈ mj_GT := hw _ (by simp [mj_wd])
        have hlen : As.length = mj_n j - 1 := by
          have := congrArg List.length hAs
          rw [List.length_reverse, List.length_take, List.length_cons] at this
          omega
        have hst : S.map (mj_tv B b) = (As.map (mj_tv B b)).reverse ++ Value.ref (mj_ad B b a) :: (S.drop (mj_n j)).map (mj_tv B b) := mj_stack hAs
        refine vx_runIN (nL := mj_l i) (cc := mj_b i) (b := mj_ad B b a) (As := As.map (mj_tv B b)) (Ts := mj_GT) (own := mj_own (mj_o i)) (index := x) (host := mj_host) (bytes := mj_b j) (maxL := mj_l j) (n := mj_n j - 1) ⟨hx, hb, hml, hown, hts⟩ hM ⟨⟨⟨rfl, rfl, by show mj_F j + 1 ≤ _; omega, by show 8 + (mj_l j + 11) + mj_D j ≤ _; omega, hws hcG, by unfold mj_ws; rw [hcw]; exact List.mem_cons_self⟩, by rw [← hcw]; exact hts _ hcG, hts _ (hw _ (by simp [mj_wd])), ⟨k3, k4⟩, fun sig hsig => ?_, hts _ (hw _ (by simp [mj_wd]))⟩, q1, hts _ (hw _ (by simp [mj_wd]))⟩ ⟨mj_blind, fun U hU hW => ⟨?_, by rw [hU]; exact hS, hG1 U hW⟩⟩ rfl (by rw [List.length_map]; exact hlen) hL hst (by show 2 * 0 + _ ≤ 8; rw [mj_tv_sum]; omega) hd ⟨hc, hs⟩
        · rw [hsig] at k5
          have := Option.some.inj k5
          rw [if_neg (by decide)] at this
          exact this.symm
        · rw [hAs]; rfl
      · cases hcal
    · cases hcal
  | _ => simp [mj_cal] at hcal
theorem mj_catch {i pc E hpc k : Nat} {L rest : List Value} {q : Addr} {ce : Cell} (X : mj_X Ln xs B b tys D OH i p l s m args meth c) (hc2 : mj_cat2 i pc E = some (hpc, k)) (hL : mj_lr B b ls (mj_l i) L) (hcell : H[q]? = some ce) (hcv : ce.vm = .none) (hcl : s.vm.findClass (mj_E.getD E "") = some ce.cls)
    (kk : ∀ ls' : Array Slot, mj_lr B b ls' (mj_l i) (mj_st1 L k mj_hole) → W p l e R s m args below meth c H locs cells slots Q (F0 m hpc ls' [])) : vx_W p l e R s m args below meth c H locs cells slots Q (F0 m pc ls rest) q := by
  obtain ⟨hx, hb, hr, hml, hown, hts, hG, hlk, htab, hnm, hnt, hBs, hOs⟩ := X
  unfold mj_cat2 at hc2
  split at hc2
  · rename_i z hz
    obtain ⟨hp, as, bs, hsp, hno⟩ := List.find?_eq_some_iff_append.mp hz
    simp only [Bool.and_eq_true, beq_iff_eq] at hp
    have hzm : z ∈ mj_h i := List.mem_of_find?_eq_some hz
    have hw := mj_hdl_ok _ (mj_find2 hp.2)
    have hElt : E < mj_E.length := mj_hdl_lt _ (mj_find2 hp.2)
    have hw1 : Cond.classLink (mj_own (mj_o i)) z.2.2.2 (mj_E.getD E "") ∈ mj_GT := hw _ (by simp [mj_hw])
    have hw2 : Cond.castable (mj_E.getD E "") (mj_E.getD E "") ∈ mj_GT := hw _ (by simp [mj_hw])
    refine vx_catch (own := mj_own (mj_o i)) (name := mj_E.getD E "") (E := mj_E.getD E "") (ce := ce) hown (tableOf as) ⟨z.1, z.2.1, z.2.2.1, z.2.2.2⟩ (tableOf bs) (by rw [htab (mj_h0 hzm), hsp]; simp [tableOf]) ?_ ?_ (mj_hrow hzm).1 (hts _ hw1) (hts _ hw2) hcell hcv hcl ?_
    · intro x hx9
      unfold tableOf at hx9
      obtain ⟨y, hy, rfl⟩ := List.mem_map.mp hx9
      have hn := hno y hy
      by_cases hcov : covers ⟨y.1, y.2.1, y.2.2.1, y.2.2.2⟩ pc = true
      · refine Or.inr ?_
        obtain ⟨y0, E', hE'⟩ := mj_hrow (i := i) (q := y) (by rw [hsp]; exact List.mem_append_left _ hy)
        refine ⟨y0, mj_E.getD E' "", hts _ (mj_hdl_ok _ (mj_find2 hE') _ (by simp [mj_hw])), ?_⟩
        have hE9 : E' < mj_E.length := mj_hdl_lt _ (mj_find2 hE')
        have hne : E ≠ E' := by
          rintro rfl
          have hc9 : (decide (y.1 ≤ pc) && decide (pc < y.2.1)) = true := hcov
          rw [hc9, hE'] at hn
          simp at hn
        exact hG.2.2.2.2.2.2.2 E E' hElt hE9 hne
      · exact Or.inl (by simpa using hcov)
    · show (decide (z.1 ≤ pc) && decide (pc < z.2.1)) = true
      simpa using hp.1
    · split at hc2
      · rename_i kk9 hd
        obtain ⟨hlt, hc2⟩ := mj_if_s hc2
        cases hc2
        exact lv_astore_n hx hb hd rfl hL.has hlt rfl (fun ls' h' => kk ls' (mj_lr.st1h h'))
      · rename_i kk9 hd
        obtain ⟨hlt, hc2⟩ := mj_if_s hc2
        cases hc2
        exact lv_astore hx hb hd hL.has hlt rfl (fun ls' h' => kk ls' (mj_lr.st1h h'))
      · cases hc2
  · cases hc2
end MJC
set_option maxHeartbeats 2000000 in
/-- THE RUN: what the mini machine does, the machine does -/
theorem mj_go {l : Launch} {Ln : Nat} {xs : Nat → Int32} {B b : Nat} {tys : List (ClassId × FieldType)} {D : va_G} {OH : Nat → Option Cell} (hnt : l.stackTraces = false) : ∀ f : Nat, mj_GoAt l Ln xs B b tys D OH f
  | 0 => by
    intro i pc L S w w' r h
    cases h
  | f + 1 => by
    have ih := mj_go (Ln := Ln) (xs := xs) (B := B) (b := b) (tys := tys) (D := D) (OH := OH) hnt f
    intro i pc L S w w' r h p e R s m args below meth c H locs cells slots Q ls X hF hDl hS hL hz hlo hrc hrs hend hthr
    unfold mj_run at h
    split at h
    · cases h
    · rename_i g len hd
      split at h
      · rename_i hln
        have hd1 : mj_sw g = false → decode (mj_b i) pc = .ok (g, mj_ln g) := fun h => by
          rcases hln with h1 | h1
          · rw [h] at h1; cases h1
          · rw [← h1]; exact hd
        split at h
        · rename_i pc' L' S' w1 hst
          split at h
          · rename_i h0
            have hm := mj_mono _ _ _ _ _ _ _ _ h
            refine mj_step hst hd hln X hF hDl hS hL hlo (by omega) (by omega) ?_
            intro H1 ls1 locs1 c1 z1 hS1 hL1 hz1 hlo1 hc1 hz1'
            refine ih i pc' L' S' w1 w' r h p e R s m args below meth c H1 locs1 c1 z1 Q ls1 X hF hDl hS1 hL1 (Nat.le_trans hz hz1) hlo1 (by omega) (by omega) ?_ ?_
            · intro H2 ls2 locs2 c2 z2 pc2 S2 g2 v hv a1 a2 a3 a4 a5 a6 a7
              exact hend H2 ls2 locs2 c2 z2 pc2 S2 g2 v hv a1 a2 a3 (by omega) (by omega) a6 a7
            · intro H2 ls2 locs2 c2 z2 pc2 S2 g2 E w2 hv hw2 a1 a2 a3 a4 a5 a6 a7 a8
              exact hthr H2 ls2 locs2 c2 z2 pc2 S2 g2 E w2 hv hw2 a1 a2 a3 (by omega) (by omega) a6 a7 a8
          · cases h
        · split at h
          · rename_i v hv
            cases h
            obtain ⟨e1, e2⟩ := mj_fin_ln hv
            have hd2 := hd1 e1
            rw [e2] at hd2
            exact hend H ls locs cells slots pc S g v rfl hS hz hlo rfl rfl hd2 hv
          · split at h
            · rename_i E hE
              cases h
              obtain ⟨e1, e2⟩ := mj_thr_ln hE
              have hd2 := hd1 e1
              rw [e2] at hd2
              exact hthr H ls locs cells slots pc S g E w rfl rfl hS hz hlo rfl rfl hL.1 hd2 hE
            · split at h
              · rename_i j vs S' hcal
                obtain ⟨e1, e2, e3, e4, e5⟩ := mj_cal_ok hcal
                have hd2 := hd1 e1
                rw [e2] at hd2
                split at h
                · cases h
                · rename_i v w1 h2
                  have hm1 := mj_mono _ _ _ _ _ _ _ _ h2
                  have hm2 := mj_mono _ _ _ _ _ _ _ _ h
                  have hM := mj_met ih hnt e3 e4 h2 e5
                  refine mj_goes (mj_callrun X hcal hd2 hM hF hDl hS hL.1 (by omega) (by omega)) hlo ?_ ?_
                  · intro v' hv' H1 locs1 hS1 hz1 hlo1
                    cases hv'
                    rw [show (v.map (mj_tv B b)).toList ++ S'.map (mj_tv B b) = (v.toList ++ S').map (mj_tv B b) from by cases v <;> rfl]
                    refine ih i (pc + 3) L (v.toList ++ S') w1 w' r h p e R s m args below meth c H1 locs1 _ _ Q ls X hF hDl hS1 hL (Nat.le_trans hz hz1) hlo1 (by omega) (by omega) ?_ ?_
                    · intro H2 ls2 locs2 c2 z2 pc2 S2 g2 v hv a1 a2 a3 a4 a5 a6 a7
                      exact hend H2 ls2 locs2 c2 z2 pc2 S2 g2 v hv a1 a2 a3 (by omega) (by omega) a6 a7
                    · intro H2 ls2 locs2 c2 z2 pc2 S2 g2 E w2 hv hw2 a1 a2 a3 a4 a5 a6 a7 a8
                      exact hthr H2 ls2 locs2 c2 z2 pc2 S2 g2 E w2 hv hw2 a1 a2 a3 (by omega) (by omega) a6 a7 a8
                  · intro E hE
                    cases hE
                · rename_i E w1 h2
                  split at h
                  · rename_i hpc k hc2
                    have hm1 := mj_mono _ _ _ _ _ _ _ _ h2
                    have hm2 := mj_mono _ _ _ _ _ _ _ _ h
                    have hM := mj_met ih hnt e3 e4 h2 e5
                    refine mj_goes (mj_callrun X hcal hd2 hM hF hDl hS hL.1 (by omega) (by omega)) hlo ?_ ?_
                    · intro v' hv'
                      cases hv'
                    · intro E' hE' H1 locs1 q ce hS1 hz1 hlo1 g1 g2 g3
                      cases hE'
                      refine mj_catch X hc2 hL g1 g2 g3 (fun ls' hL' => ?_)
                      refine ih i hpc (mj_st1 L k mj_hole) [] w1 w' r h p e R s m args below meth c H1 locs1 _ _ Q ls' X hF hDl hS1 hL' (Nat.le_trans hz hz1) hlo1 (by omega) (by omega) ?_ ?_
                      · intro H2 ls2 locs2 c2 z2 pc2 S2 g2 v hv a1 a2 a3 a4 a5 a6 a7
                        exact hend H2 ls2 locs2 c2 z2 pc2 S2 g2 v hv a1 a2 a3 (by omega) (by omega) a6 a7
                      · intro H2 ls2 locs2 c2 z2 pc2 S2 g2 E w2 hv hw2 a1 a2 a3 a4 a5 a6 a7 a8
                        exact hthr H2 ls2 locs2 c2 z2 pc2 S2 g2 E w2 hv hw2 a1 a2 a3 (by omega) (by omega) a6 a7 a8
                  · cases h
              · cases h
      · cases h
end
section
/-! THE CLAIM OUT OF ONE WALK OF THE LAW'S BODY. Your part is whole_start (and what it stands on); all else here is the same for every law, but numbers. -/
def R_law : String := "PickedFormsLaw"
def lw_P (b : Addr) (xs : List Int32) (args : Array Value) (s : State) : Prop := args = #[.ref b] ∧ s.IntsAt b xs ∧ xs.length ≤ 2048 ∧ (Jvm.Cond.and given_1 narrow_1).before args s = true
/-- what a walk over the start with the record d0 says of its end, said of the start itself -/
theorem lw_closed {s t : State} {o : Outcome} {d0 : Drawn} {L : List Loc} {k n : Nat} (hd0 : s.drawn.sameBut d0 lw_cs) (hv : ∃ v, o = .returned v) (hW : (s.setDrawn d0).WarmedH t.vm) (hs : (s.setDrawn d0).sameButNew ({ t with vm := s.vm } : State) L k n) : State.butDraws s t lw_cs (fun t1 => Framed s o t1 L k n) := by
  have h2 : t.drawn = d0 := congrArg State.drawn hs.1
  refine ⟨⟨hv, hW, State.sameButNew.setDrawn hs s.drawn⟩, ?_, by decide⟩
  rw [h2]
  exact hd0
def lw_Q (_ : Array Value) (s : State) (o : Outcome) (t : State) : Prop := o = .returned (some (.int 1)) ∧ State.butDraws s t lw_cs (fun t1 => Framed s o t1 [] 601024 7293034)
def lw_Z (below : List Frame) (a : Array Value) (s : State) : State → Prop := fun t => ∃ o, t.status = .running ∧ Ended t below o ∧ lw_Q a s o t
/-- the law's own end, with 1 on the stack, nothing written that was there before, its room as the claim has it; d0: the record of draws at this point (at the entry s.drawn: begin with 'refine W.base ?_' and 'have hd0 := Drawn.sameBut.refl s.drawn lw_cs') -/
theorem lw_ret {p : Program} {l : Launch} {e : Env} {s : State} {m : MethodId} {below : List Frame} {meth : Method} {c : Code} {b : Nat} {d0 : Drawn} (hd0 : s.drawn.sameBut d0 lw_cs) (hx : p.tables.exec = Jvm.exec) (hb : c.code = code) (hr : meth.sig.returnType = ret) (hlocks : meth.locks = false) {pc : Nat} {H : Heap} {ls : Array Slot} (hdg : decode code pc = .ok (.ireturn, 1)) : W p l e room_1 (s.setDrawn d0) m #[Value.ref b] below meth c H [] 601024 7293034 (lw_Z below #[Value.ref b] s) (F0 m pc ls [.int 1]) := by
  intro T hT X
  obtain ⟨fs, hret, hrun, hended, hW, hframe⟩ := X.leave (v := some (.int 1)) (hlocks := hlocks) (fun h => by rw [hr] at h; cases h)
  have hmeth' : T.vm.method? m = some meth := X.method'
  refine ⟨T.setFrames fs, ?_, .returned (some (.int 1)), hrun, hended, rfl, lw_closed hd0 ⟨_, rfl⟩ hW hframe⟩
  jvm_step X.here [X.here.top, hx, hb, hdg, hmeth', hr, ret, narrow_b1]
  (try refine ⟨rfl, ?_⟩); (try refine ⟨rfl, ?_⟩)
  first | (intro acts; rw [hret _ acts rfl rfl rfl]) | rw [hret _ _ rfl rfl rfl]
  exact Steps.refl _
/-- what holds at the law's entry: the machine, the code, the tables' words (any of lw_tbl by 'hts w (by decide +kernel)'), the script of L ints xs at the cell b, what the Statement gives of the start (any of its parts by flat_of_before) -/
def lw_At (p : Program) (s : State) (m : MethodId) (meth : Method) (c : Code) (b L : Nat) (xs : Nat → Int32) : Prop :=
  p.tables.exec = Jvm.exec ∧ c.code = code ∧ meth.sig.returnType = ret ∧ c.maxLocals = 9 ∧ s.vm.findClass R_law = some m.cls ∧ (∀ w ∈ lw_tbl, w.before #[Value.ref b] s = true) ∧ va_X b L xs s s.heap ∧ b < s.heap.size ∧ meth.locks = false ∧ (Jvm.Cond.and given_1 narrow_1).before #[Value.ref b] s = true
def mj_strp : List Nat := [742, 784, 821, 843, 865, 873, 874, 890, 891, 917, 921, 929, 930, 947, 963, 971, 983, 991, 999, 1007, 1015, 1030, 1042, 1061]
theorem mj_str_ok : ∀ q ∈ mj_str, Cond.stringRef (mj_own q.1) q.2.1 q.2.2 ∈ lw_tbl := by
  have h : (mj_str.zip mj_strp).all (fun z => decide (lw_tbl[z.2]? = some (Cond.stringRef (mj_own z.1.1) z.1.2.1 z.1.2.2))) = true := by decide +kernel
  intro q hq
  obtain ⟨p, hp⟩ := mj_zip h (by decide +kernel) hq
  exact List.mem_of_getElem? (of_decide_eq_true hp)
theorem mj_str_ex : ∀ q ∈ mj_str, Cond.exactly (.string (mj_own q.1) q.2.1) "java/lang/String" ∈ flatC (Jvm.Cond.and given_1 narrow_1) := by decide +kernel
theorem mj_nc_in : ∀ x, x < mj_E.length → ∀ y, y < mj_E.length → x ≠ y → Cond.not (.castable (mj_E.getD x "") (mj_E.getD y "")) ∈ flatC (Jvm.Cond.and given_1 narrow_1) := by decide +kernel
theorem mj_inst : ∀ c, c < vwCl.length → Cond.instantiable (mj_cl c).1 (mj_cl c).2.2 ∈ lw_tbl := by decide +kernel
theorem mj_inl : ∀ c, c < vwCl.length → ∀ w ∈ u_ws (mj_cl c).1 (mj_cl c).2.1 (mj_cl c).2.2, w ∈ lw_tbl := fun c hc w hw => (List.mem_filter.mp ((mj_cl_ok c hc).2.2.2 w hw)).1
set_option maxRecDepth 100000 in
set_option maxHeartbeats 4000000 in
/-- from the law's entry, out of the mini machine's run of the law -/
theorem mj_start {p : Program} {e : Env} {s : State} {m : MethodId} {below : List Frame} {meth : Method} {c : Code} (l : Launch) (hflags : l.flags = flags0) {b L : Nat} {xs : Nat → Int32} (C0 : lw_At p s m meth c b L xs)
    (hlaw : ∃ (f : Nat) (w' : mj_W), mj_run L xs f 0 0 (mj_ent 0 [.ref 0]) [] ((0, 0, 0), fun _ => none) = some (.inl (some (.int 1)), w') ∧ w'.1.1 + w'.1.2.1 ≤ 601024 ∧ w'.1.2.2 ≤ 7293034) :
    W p l e room_1 s m #[Value.ref b] below meth c s.heap [] 0 0 (lw_Z below #[Value.ref b] s) (entryFrame m ([Value.ref b] : List Value).toArray 9) := by
  obtain ⟨hx, hb, hr, hml, hown, hts, hX, hbl, hlocks, hgv⟩ := C0
  obtain ⟨f, w', hrun, hwc, hwz⟩ := hlaw
  have hnt : l.stackTraces = false := by unfold Launch.stackTraces; rw [hflags]; decide +kernel
  have hfl := flat_of_before _ hgv
  have hnar : ∀ w ∈ flatC (Jvm.Cond.and given_1 narrow_1), w.before #[Value.ref b] s = true := hfl
  have hKn : ∀ k : Nat, ∃ x : ClassId × (Nat → Nat), k < vwCl.length → u_Kn s (mj_cl k).1 (mj_cl k).2.1 (mj_cl k).2.2 x.1 x.2 := by
    intro k
    by_cases hk : k < vwCl.length
    · obtain ⟨cC, iS, h⟩ := u_known hts (mj_inl k hk) (hts _ (mj_inst k hk))
      exact ⟨(cC, iS), fun _ => h⟩
    · exact ⟨(0, fun _ => 0), fun h => absurd h hk⟩
  obtain ⟨ad, had⟩ := Classical.axiomOfChoice hKn
  obtain ⟨cI, kI, pI, i1, i2, i3⟩ := Cond.arrayClass_spec (args := #[Value.ref b]) (first := s) (o := none) (s := s) (idx := []) (hts _ (List.mem_filter.mp mj_arr_ok.1).1)
  obtain ⟨cL, kL, pL, j1, j2, j3⟩ := Cond.arrayClass_spec (args := #[Value.ref b]) (first := s) (o := none) (s := s) (idx := []) (hts _ (List.mem_filter.mp mj_arr_ok.2.1).1)
  obtain ⟨pQ, cQ, kQ, q1, q2, q3, q4, q5⟩ := Cond.arrayOver_spec (args := #[Value.ref b]) (first := s) (o := none) (s := s) (idx := []) (hts _ (List.mem_filter.mp mj_arr_ok.2.2).1)
  have hK : va_K (fun k => (ad k).1, fun k => (ad k).2) vwCl [(cI, .int), (cL, .long), (cQ, .object (mj_cl mj_qc).1)] s := by
    refine ⟨fun k q hq => ?_, fun k q hq => ?_⟩
    · have hk : k < vwCl.length := (List.getElem?_eq_some_iff.mp hq).1
      have := Option.some.inj (hq.symm.trans (mj_cl_ok k hk).1)
      subst this
      exact had k hk
    · match k, hq with
      | 0, hq => cases hq; exact ⟨fun n z => ⟨(fun k h => by cases h), kI, i2, pI, i3⟩, i1⟩
      | 1, hq => cases hq; exact ⟨fun n z => ⟨(fun k h => by cases h), kL, j2, pL, j3⟩, j1⟩
      | 2, hq => cases hq; exact ⟨fun n z => ⟨(fun k h => by cases h), kQ, q3, pQ, q4⟩, kQ, pQ, q3, q4, q1, q5⟩
      | k + 3, hq => simp at hq
  have hA : ∀ a : Nat, a < s.heap.size → ¬ s.heap.size ≤ a := fun a h => Nat.not_le.mpr h
  have hU0 : vx_Zq Bundle.tN "UNASSIGNED_STACK" Bundle.steD (fun q => s.heap.size ≤ q) s s.heap := vx_Zqof (hts _ (by decide +kernel)) (hts _ (by decide +kernel)) (hnar _ (by decide +kernel)) hA
  have hN0 : vx_Zq Bundle.tN "SUPPRESSED_SENTINEL" Bundle.listD (fun q => s.heap.size ≤ q) s s.heap := vx_Zqof (hts _ (by decide +kernel)) (hts _ (by decide +kernel)) (hnar _ (by decide +kernel)) hA
  have hG : mj_G L xs s.heap.size b [(cI, .int), (cL, .long), (cQ, .object (mj_cl mj_qc).1)] (fun k => (ad k).1, fun k => (ad k).2) (fun q => s.heap[q]?) s := by
    refine ⟨hK, ⟨cI, cL, cQ, rfl⟩, hbl, fun H ho hz => hX.kept (ho b hbl), fun H ho hz => hU0.kept (fun a h1 _ => ho a h1), fun H ho hz => hN0.kept (fun a h1 _ => ho a h1), fun q hq => ?_, fun x y hx hy hn => va_Nc.of (hnar _ (mj_nc_in x hx y hy hn))⟩
    obtain ⟨a, c9, cA, kA, g1, -⟩ := Cond.exactly_spec (args := #[Value.ref b]) (first := s) (o := none) (s := s) (idx := []) (hnar _ (mj_str_ex q hq))
    exact ⟨a, vk_R.of (A := #[Value.ref b]) (hts _ (mj_str_ok q hq)) (by first | exact g1 | simpa [Term.eval] using g1)⟩
  have X : mj_X L xs s.heap.size b [(cI, .int), (cL, .long), (cQ, .object (mj_cl mj_qc).1)] (fun k => (ad k).1, fun k => (ad k).2) (fun q => s.heap[q]?) 0 p l s m #[Value.ref b] meth c :=
    ⟨hx, hb, hr, hml, hown, fun w hw => hts w (List.mem_filter.mp hw).1, hG, hlocks, fun h => absurd rfl h, fun h => absurd rfl h, hnt, Nat.le_refl _, fun q _ => rfl⟩
  have hS : mj_Sim s.heap.size b [(cI, .int), (cL, .long), (cQ, .object (mj_cl mj_qc).1)] (fun k => (ad k).1, fun k => (ad k).2) (fun q => s.heap[q]?) ((0, 0, 0), fun _ => none) s.heap :=
    ⟨fun _ => rfl, Nat.le_refl _, fun q _ => rfl, fun k e9 h => by cases h⟩
  have hd0 := Drawn.sameBut.refl s.drawn lw_cs
  refine W.base ?_
  rw [lg_entry_eq]
  refine mj_go hnt f 0 0 (mj_ent 0 [.ref 0]) [] ((0, 0, 0), fun _ => none) w' _ hrun p e room_1 s m #[Value.ref b] below meth c s.heap [] 0 0 _ _ X (by decide +kernel) (by decide +kernel) hS (mj_lr.entry (j := 0) (vs := [.ref 0]) (by decide +kernel)) (Nat.le_refl _) (fun q hq => by cases hq) (by show 0 + _ ≤ 601024 + _; omega) (by show 0 + _ ≤ 7293034 + _; omega) ?_ ?_
  · intro H1 ls1 locs1 c1 z1 pc1 S1 g1 v hr0 hS1 hz1 hlo1 hc1 hz1' hd1 hf1
    cases hr0
    have hc9 : c1 ≤ 601024 := by have : c1 + (0 + 0) = 0 + (w'.1.1 + w'.1.2.1) := hc1; omega
    have hz9 : z1 ≤ 7293034 := by have : z1 + 0 = 0 + w'.1.2.2 := hz1'; omega
    refine va_forget hlo1 (W.widen hc9 hz9 ?_)
    cases g1 with
    | ireturn =>
      simp only [mj_fin] at hf1
      split at hf1
      · obtain ⟨-, hf1⟩ := mj_if_s hf1
        cases hf1
        exact lw_ret hd0 hx hb hr hlocks hd1
      · cases hf1
    | lreturn => simp only [mj_fin] at hf1; split at hf1 <;> cases hf1
    | freturn => simp only [mj_fin] at hf1; split at hf1 <;> cases hf1
    | dreturn => simp only [mj_fin] at hf1; split at hf1 <;> cases hf1
    | areturn => simp only [mj_fin] at hf1; split at hf1 <;> cases hf1
    | return_ => simp only [mj_fin] at hf1; split at hf1 <;> cases hf1
    | _ => simp [mj_fin] at hf1
  · intro H1 ls1 locs1 c1 z1 pc1 S1 g1 E w1 hr0
    cases hr0
end
section
/-! ===== what a run comes to, as a predicate: wp i pc L S w Φ; an equation an instruction ===== -/
section MWP
variable {Ln : Nat} {xs : Nat → Int32}
theorem mj_fuel1 : ∀ (f i pc : Nat) (L S : List Value) (w : mj_W) (x : mj_R × mj_W), mj_run Ln xs f i pc L S w = some x → mj_run Ln xs (f + 1) i pc L S w = some x
  | 0, _, _, _, _, _, _, h => by cases h
  | f + 1, i, pc, L, S, w, x, h => by
    rw [mj_run] at h ⊢
    cases hd : decode (mj_b i) pc with
    | error e => rw [hd] at h; cases h
    | ok q =>
      obtain ⟨g, len⟩ := q
      rw [hd] at h
      dsimp only at h ⊢
      by_cases hln : mj_sw g = true ∨ len = mj_ln g
      · rw [if_pos hln] at h ⊢
        cases hst : mj_stp Ln xs i pc L S w g with
        | some q1 =>
          obtain ⟨⟨pc', L', S'⟩, w'⟩ := q1
          rw [hst] at h
          dsimp only at h ⊢
          by_cases h0 : w.1.1 + w.1.2.1 ≤ w'.1.1 + w'.1.2.1 ∧ w.1.2.2 ≤ w'.1.2.2
          · rw [if_pos h0] at h ⊢
            exact mj_fuel1 f _ _ _ _ _ _ h
          · rw [if_neg h0] at h
            cases h
        | none =>
          rw [hst] at h
          dsimp only at h ⊢
          cases hf : mj_fin i S g with
          | some v => rw [hf] at h; exact h
          | none =>
            rw [hf] at h
            dsimp only at h ⊢
            cases ht : mj_thr i pc S g with
            | some E => rw [ht] at h; exact h
            | none =>
              rw [ht] at h
              dsimp only at h ⊢
              cases hc : mj_cal i S w g with
              | none => rw [hc] at h; cases h
              | some q2 =>
                obtain ⟨j, vs, S'⟩ := q2
                rw [hc] at h
                dsimp only at h ⊢
                cases h2 : mj_run Ln xs f j 0 (mj_ent j vs) [] w with
                | none => rw [h2] at h; cases h
                | some q3 =>
                  obtain ⟨r1, w1⟩ := q3
                  rw [h2] at h
                  rw [mj_fuel1 f _ _ _ _ _ _ h2]
                  cases r1 with
                  | inl v => exact mj_fuel1 f _ _ _ _ _ _ h
                  | inr E =>
                    dsimp only at h ⊢
                    cases hk : mj_cat2 i pc E with
                    | none => rw [hk] at h; cases h
                    | some q4 =>
                      obtain ⟨h9, k9⟩ := q4
                      rw [hk] at h
                      exact mj_fuel1 f _ _ _ _ _ _ h
      · rw [if_neg hln] at h
        cases h
theorem mj_fuel {f g i pc : Nat} {L S : List Value} {w : mj_W} {x : mj_R × mj_W} (h : mj_run Ln xs f i pc L S w = some x) (hg : f ≤ g) : mj_run Ln xs g i pc L S w = some x := by
  induction hg with
  | refl => exact h
  | step _ ih => exact mj_fuel1 _ _ _ _ _ _ _ ih
def wp (Ln : Nat) (xs : Nat → Int32) (i pc : Nat) (L S : List Value) (w : mj_W) (Φ : mj_R → mj_W → Prop) : Prop := ∃ (f : Nat) (r : mj_R) (w' : mj_W), mj_run Ln xs f i pc L S w = some (r, w') ∧ Φ r w'
/-- what goes on behind a call -/
def mk (Ln : Nat) (xs : Nat → Int32) (i pc : Nat) (L S : List Value) (Φ : mj_R → mj_W → Prop) : mj_R → mj_W → Prop := fun r w => match r with
  | .inl v => wp Ln xs i (pc + 3) L (v.toList ++ S) w Φ
  | .inr E => match mj_cat2 i pc E with
    | some (h, k) => wp Ln xs i h (mj_st1 L k mj_hole) [] w Φ
    | none => False
variable {i pc pc' : Nat} {L L' S S' : List Value} {w w' : mj_W} {Φ : mj_R → mj_W → Prop} {g : Instr} {len : Nat}
theorem wp_stp (hd : decode (mj_b i) pc = .ok (g, len)) (hl : mj_sw g = true ∨ len = mj_ln g) (hst : mj_stp Ln xs i pc L S w g = some ((pc', L', S'), w')) (hm : w.1.1 + w.1.2.1 ≤ w'.1.1 + w'.1.2.1 ∧ w.1.2.2 ≤ w'.1.2.2) :
    wp Ln xs i pc L S w Φ = wp Ln xs i pc' L' S' w' Φ := by
  have e : ∀ f, mj_run Ln xs (f + 1) i pc L S w = mj_run Ln xs f i pc' L' S' w' := by
    intro f
    conv => lhs; unfold mj_run
    rw [hd]
    dsimp only
    rw [if_pos hl, hst]
    dsimp only
    rw [if_pos hm]
  refine propext ⟨?_, ?_⟩
  · rintro ⟨f, r, w9, h, hΦ⟩
    cases f with
    | zero => cases h
    | succ f => exact ⟨f, r, w9, by rw [← e]; exact h, hΦ⟩
  · rintro ⟨f, r, w9, h, hΦ⟩
    exact ⟨f + 1, r, w9, by rw [e]; exact h, hΦ⟩
theorem wp_same (hd : decode (mj_b i) pc = .ok (g, len)) (hl : mj_sw g = true ∨ len = mj_ln g) {u : mj_U} {h h' : mj_H} (hst : mj_stp Ln xs i pc L S (u, h) g = some ((pc', L', S'), (u, h'))) :
    wp Ln xs i pc L S (u, h) Φ = wp Ln xs i pc' L' S' (u, h') Φ := wp_stp hd hl hst ⟨Nat.le_refl _, Nat.le_refl _⟩
theorem wp_fin {v : Option Value} (hd : decode (mj_b i) pc = .ok (g, len)) (hl : mj_sw g = true ∨ len = mj_ln g) (hst : mj_stp Ln xs i pc L S w g = none) (hf : mj_fin i S g = some v) : wp Ln xs i pc L S w Φ = Φ (.inl v) w := by
  have e : ∀ f, mj_run Ln xs (f + 1) i pc L S w = some (.inl v, w) := by
    intro f
    unfold mj_run
    rw [hd]
    dsimp only
    rw [if_pos hl, hst]
    dsimp only
    rw [hf]
  refine propext ⟨?_, fun h => ⟨1, _, _, e 0, h⟩⟩
  rintro ⟨f, r, w9, h, hΦ⟩
  cases f with
  | zero => cases h
  | succ f =>
    rw [e] at h
    cases h
    exact hΦ
theorem wp_thr {E : Nat} (hd : decode (mj_b i) pc = .ok (g, len)) (hl : mj_sw g = true ∨ len = mj_ln g) (hst : mj_stp Ln xs i pc L S w g = none) (hf : mj_fin i S g = none) (ht : mj_thr i pc S g = some E) : wp Ln xs i pc L S w Φ = Φ (.inr E) ((w.1.1, w.1.2.1 + 1, w.1.2.2 + 6), w.2) := by
  have e : ∀ f, mj_run Ln xs (f + 1) i pc L S w = some (.inr E, ((w.1.1, w.1.2.1 + 1, w.1.2.2 + 6), w.2)) := by
    intro f
    unfold mj_run
    rw [hd]
    dsimp only
    rw [if_pos hl, hst]
    dsimp only
    rw [hf]
    dsimp only
    rw [ht]
  refine propext ⟨?_, fun h => ⟨1, _, _, e 0, h⟩⟩
  rintro ⟨f, r, w9, h, hΦ⟩
  cases f with
  | zero => cases h
  | succ f =>
    rw [e] at h
    cases h
    exact hΦ
theorem wp_cal {j : Nat} {vs : List Value} (hd : decode (mj_b i) pc = .ok (g, len)) (hl : mj_sw g = true ∨ len = mj_ln g) (hst : mj_stp Ln xs i pc L S w g = none) (hf : mj_fin i S g = none) (ht : mj_thr i pc S g = none) (hc : mj_cal i S w g = some (j, vs, S')) :
    wp Ln xs i pc L S w Φ = wp Ln xs j 0 (mj_ent j vs) [] w (mk Ln xs i pc L S' Φ) := by
  have e : ∀ f, mj_run Ln xs (f + 1) i pc L S w = match mj_run Ln xs f j 0 (mj_ent j vs) [] w with
                | none => none
                | some (.inl v, w') => mj_run Ln xs f i (pc + 3) L (v.toList ++ S') w'
                | some (.inr E, w') => match mj_cat2 i pc E with
                  | some (h, k) => mj_run Ln xs f i h (mj_st1 L k mj_hole) [] w'
                  | none => none := by
    intro f
    conv => lhs; unfold mj_run
    rw [hd]
    dsimp only
    rw [if_pos hl, hst]
    dsimp only
    rw [hf]
    dsimp only
    rw [ht]
    dsimp only
    rw [hc]
    rfl
  refine propext ⟨?_, ?_⟩
  · rintro ⟨f, r, w9, h, hΦ⟩
    cases f with
    | zero => cases h
    | succ f =>
      rw [e] at h
      split at h
      · cases h
      · rename_i v w1 h1
        exact ⟨f, _, _, h1, f, r, w9, h, hΦ⟩
      · rename_i E w1 h1
        refine ⟨f, _, _, h1, ?_⟩
        show (match mj_cat2 i pc E with
          | some (h, k) => wp Ln xs i h (mj_st1 L k mj_hole) [] w1 Φ
          | none => False)
        split at h
        · exact ⟨f, r, w9, h, hΦ⟩
        · cases h
  · rintro ⟨f1, r1, w1, h1, hk⟩
    cases r1 with
    | inl v =>
      obtain ⟨f2, r, w9, h2, hΦ⟩ := hk
      refine ⟨max f1 f2 + 1, r, w9, ?_, hΦ⟩
      rw [e, mj_fuel h1 (Nat.le_max_left f1 f2)]
      exact mj_fuel h2 (Nat.le_max_right f1 f2)
    | inr E =>
      have hk9 : (match mj_cat2 i pc E with
        | some (h, k) => wp Ln xs i h (mj_st1 L k mj_hole) [] w1 Φ
        | none => False) := hk
      split at hk9
      · rename_i h9 k9 hc9
        obtain ⟨f2, r, w9, h2, hΦ⟩ := hk9
        refine ⟨max f1 f2 + 1, r, w9, ?_, hΦ⟩
        rw [e, mj_fuel h1 (Nat.le_max_left f1 f2)]
        dsimp only
        rw [hc9]
        exact mj_fuel h2 (Nat.le_max_right f1 f2)
      · exact hk9.elim
/-! an equation an instruction -/
variable {u : mj_U} {h : mj_H}
theorem mk_v {v : Value} : mk Ln xs i pc L S Φ (.inl (some v)) w = wp Ln xs i (pc + 3) L (v :: S) w Φ := rfl
theorem mk_n : mk Ln xs i pc L S Φ (.inl none) w = wp Ln xs i (pc + 3) L S w Φ := rfl
theorem wx_if {c : ClassFile.Cond} {off : Int} {x : Int32} {p1 p2 : Nat} (hd : decode (mj_b i) pc = .ok (.ifCond c off, 3)) (h1 : (pc : Int) + off = (p1 : Int)) (h2 : pc + 3 = p2) (q : Prop) [Decidable q] (hq : ∀ (a b : Option mj_C), mj_br c x 0 a b = if q then a else b) :
    wp Ln xs i pc L (.int x :: S) w Φ = if q then wp Ln xs i p1 L S w Φ else wp Ln xs i p2 L S w Φ := by
  subst h2
  have e0 : mj_stp Ln xs i pc L (.int x :: S) w (.ifCond c off) = if q then some ((p1, L, S), w) else some ((pc + 3, L, S), w) := by
    rw [← hq]
    simp only [mj_stp, mj_p1, mj_p2, mj_tg, h1, Int.natCast_nonneg, if_true, Int.toNat_natCast]
    rfl
  by_cases hc : q
  · rw [if_pos hc] at e0 ⊢
    exact wp_stp hd (Or.inr rfl) e0 ⟨Nat.le_refl _, Nat.le_refl _⟩
  · rw [if_neg hc] at e0 ⊢
    exact wp_stp hd (Or.inr rfl) e0 ⟨Nat.le_refl _, Nat.le_refl _⟩
theorem wx_icmp {c : ClassFile.Cond} {off : Int} {x y : Int32} {p1 p2 : Nat} (hd : decode (mj_b i) pc = .ok (.if_icmp c off, 3)) (h1 : (pc : Int) + off = (p1 : Int)) (h2 : pc + 3 = p2) (q : Prop) [Decidable q] (hq : ∀ (a b : Option mj_C), mj_br c x y a b = if q then a else b) :
    wp Ln xs i pc L (.int y :: .int x :: S) w Φ = if q then wp Ln xs i p1 L S w Φ else wp Ln xs i p2 L S w Φ := by
  subst h2
  have e0 : mj_stp Ln xs i pc L (.int y :: .int x :: S) w (.if_icmp c off) = if q then some ((p1, L, S), w) else some ((pc + 3, L, S), w) := by
    rw [← hq]
    simp only [mj_stp, mj_p1, mj_p2, mj_tg, h1, Int.natCast_nonneg, if_true, Int.toNat_natCast]
    rfl
  by_cases hc : q
  · rw [if_pos hc] at e0 ⊢
    exact wp_stp hd (Or.inr rfl) e0 ⟨Nat.le_refl _, Nat.le_refl _⟩
  · rw [if_neg hc] at e0 ⊢
    exact wp_stp hd (Or.inr rfl) e0 ⟨Nat.le_refl _, Nat.le_refl _⟩
theorem wx_goto {off : Int} {p1 : Nat} (hd : decode (mj_b i) pc = .ok (.goto off, 3)) (h1 : (pc : Int) + off = (p1 : Int)) : wp Ln xs i pc L S w Φ = wp Ln xs i p1 L S w Φ := by
  refine wp_stp hd (Or.inr rfl) ?_ ⟨Nat.le_refl _, Nat.le_refl _⟩
  simp only [mj_stp, mj_tg, h1, Int.natCast_nonneg, if_true, Int.toNat_natCast]
end MWP
theorem mb_eq {x y : Int32} (a b : Option mj_C) : mj_br .eq x y a b = if x = y then a else b := rfl
theorem mb_ne {x y : Int32} (a b : Option mj_C) : mj_br .ne x y a b = if ¬ x = y then a else b := by
  show (if x = y then b else a) = _
  by_cases h : x = y
  · rw [if_pos h, if_neg (fun q => q h)]
  · rw [if_neg h, if_pos h]
theorem mb_lt {x y : Int32} (a b : Option mj_C) : mj_br .lt x y a b = if x < y then a else b := rfl
theorem mb_ge {x y : Int32} (a b : Option mj_C) : mj_br .ge x y a b = if y ≤ x then a else b := rfl
theorem mb_gt {x y : Int32} (a b : Option mj_C) : mj_br .gt x y a b = if y < x then a else b := rfl
theorem mb_le {x y : Int32} (a b : Option mj_C) : mj_br .le x y a b = if x ≤ y then a else b := rfl
end
section
/-! ===== the heap behind the constructors: its layout stands; what changes are numbers ===== -/
abbrev ml_M : Type := Nat → Nat → Int32
abbrev ml_J : Type := Nat → Nat → Int64
abbrev ml_Z : Type := (Nat × Nat) ⊕ (Nat × List Value)
def ml_L : List ml_Z := [
  .inl (9, 0),
  .inr (8, [.ref 2, .ref 8, .int 0, .ref 14, .ref 52, .ref 56, .ref 58, .ref 61, .ref 64, .ref 69, .ref 71]),
  .inr (1, [.ref 3, .ref 4, .ref 5, .ref 6, .ref 7, .int 0, .int 0, .int 0, .int 0]),
  .inl (0, 207),
  .inl (0, 12),
  .inl (0, 12),
  .inl (0, 12),
  .inl (0, 3),
  .inr (1, [.ref 9, .ref 10, .ref 11, .ref 12, .ref 13, .int 0, .int 0, .int 0, .int 0]),
  .inl (0, 207),
  .inl (0, 12),
  .inl (0, 12),
  .inl (0, 12),
  .inl (0, 3),
  .inr (2, [.ref 15, .int 0, .int 0]),
  .inl (2, 6),
  .inr (1, [.ref 17, .ref 18, .ref 19, .ref 20, .ref 21, .int 0, .int 0, .int 0, .int 0]),
  .inl (0, 207),
  .inl (0, 12),
  .inl (0, 12),
  .inl (0, 12),
  .inl (0, 3),
  .inr (1, [.ref 23, .ref 24, .ref 25, .ref 26, .ref 27, .int 0, .int 0, .int 0, .int 0]),
  .inl (0, 207),
  .inl (0, 12),
  .inl (0, 12),
  .inl (0, 12),
  .inl (0, 3),
  .inr (1, [.ref 29, .ref 30, .ref 31, .ref 32, .ref 33, .int 0, .int 0, .int 0, .int 0]),
  .inl (0, 207),
  .inl (0, 12),
  .inl (0, 12),
  .inl (0, 12),
  .inl (0, 3),
  .inr (1, [.ref 35, .ref 36, .ref 37, .ref 38, .ref 39, .int 0, .int 0, .int 0, .int 0]),
  .inl (0, 207),
  .inl (0, 12),
  .inl (0, 12),
  .inl (0, 12),
  .inl (0, 3),
  .inr (1, [.ref 41, .ref 42, .ref 43, .ref 44, .ref 45, .int 0, .int 0, .int 0, .int 0]),
  .inl (0, 207),
  .inl (0, 12),
  .inl (0, 12),
  .inl (0, 12),
  .inl (0, 3),
  .inr (1, [.ref 47, .ref 48, .ref 49, .ref 50, .ref 51, .int 0, .int 0, .int 0, .int 0]),
  .inl (0, 207),
  .inl (0, 12),
  .inl (0, 12),
  .inl (0, 12),
  .inl (0, 3),
  .inr (7, [.ref 53, .int 0, .ref 54, .ref 55, .int 0]),
  .inl (0, 60),
  .inl (0, 30),
  .inl (0, 30),
  .inr (6, [.ref 57, .int 0, .int 0, .int 0, .int 0, .int 0, .int 0, .int 0]),
  .inl (0, 16),
  .inr (5, [.ref 59, .int 0, .int 0]),
  .inr (6, [.ref 60, .int 0, .int 0, .int 0, .int 0, .int 0, .int 0, .int 0]),
  .inl (0, 16),
  .inr (3, [.ref 62, .int 0, .int 0]),
  .inr (6, [.ref 63, .int 0, .int 0, .int 0, .int 0, .int 0, .int 0, .int 0]),
  .inl (0, 16),
  .inr (4, [.ref 65, .ref 67, .ref 68]),
  .inr (6, [.ref 66, .int 0, .int 0, .int 0, .int 0, .int 0, .int 0, .int 0]),
  .inl (0, 16),
  .inl (0, 208),
  .inl (0, 208),
  .inr (0, [.ref 70, .int 0]),
  .inl (0, 228),
  .inl (0, 16),
  .inr (9, [.ref 73, .ref 74, .int 0, .ref 75, .int 0, .ref 76, .ref 77, .int 0, .int 0, .int 0, .int 0, .int 0, .int 0, .ref 78, .int 0, .ref 79, .ref 80, .long 0]),
  .inl (0, 251),
  .inl (0, 1506),
  .inl (0, 251),
  .inl (0, 251),
  .inl (0, 60),
  .inl (0, 240),
  .inl (0, 208),
  .inl (0, 208),
  .inl (1, 1)]
def ml_ring (j : Nat) : Option Nat := if j < 6 then some (16 + 6 * j) else none
def ml_f (m : ml_M) (lm : ml_J) (a : Nat) : Nat → List Value → List Value
  | _, [] => []
  | k, .int _ :: t => .int (m a k) :: ml_f m lm a (k + 1) t
  | k, .long _ :: t => .long (lm a k) :: ml_f m lm a (k + 1) t
  | k, v :: t => v :: ml_f m lm a (k + 1) t
def ml_e (m : ml_M) (lm : ml_J) (a : Nat) (z : ml_Z) : Option va_E := match z with
  | .inl (0, n) => some (.inl (0, n, .inl (m a)))
  | .inl (1, n) => some (.inl (1, n, .inr (.inl (lm a))))
  | .inl (2, n) => some (.inl (2, n, .inr (.inr (.inr (.inr ml_ring)))))
  | .inl _ => none
  | .inr (c, fs) => some (.inr (c, ml_f m lm a 0 fs))
/-- the heap with these numbers -/
def ml_h (m : ml_M) (lm : ml_J) : mj_H := fun a => match ml_L[a]? with
  | some z => ml_e m lm a z
  | none => none
def ml_s (m : ml_M) (a k : Nat) (v : Int32) : ml_M := fun a' k' => if a' = a ∧ k' = k then v else m a' k'
def ml_sj (m : ml_J) (a k : Nat) (v : Int64) : ml_J := fun a' k' => if a' = a ∧ k' = k then v else m a' k'
/-- the first n numbers of row r in row a -/
def ml_cp (m : ml_M) (r a sp dp n : Nat) : ml_M := fun a' k' => if a' = a ∧ dp ≤ k' ∧ k' < dp + n then m r (sp + (k' - dp)) else m a' k'
def ml_n (r : Nat) : Nat := match ml_L[r]? with
  | some (.inl (0, n)) => n
  | _ => 0
/-- r is a row of ints -/
def ml_ia (r : Nat) : Prop := ml_L[r]? = some (.inl (0, ml_n r))
/-- p is a Shape, its row of unlike values behind it -/
def ml_sh (p : Nat) : Prop := ml_L[p]? = some (.inr (6, [.ref (p + 1), .int 0, .int 0, .int 0, .int 0, .int 0, .int 0, .int 0])) ∧ ml_L[p + 1]? = some (.inl (0, 16))
/-- p is a Column, its five rows behind it -/
def ml_co (p : Nat) : Prop := ml_L[p]? = some (.inr (1, [.ref (p + 1), .ref (p + 2), .ref (p + 3), .ref (p + 4), .ref (p + 5), .int 0, .int 0, .int 0, .int 0])) ∧ ml_L[p + 1]? = some (.inl (0, 207)) ∧ ml_L[p + 2]? = some (.inl (0, 12)) ∧ ml_L[p + 3]? = some (.inl (0, 12)) ∧ ml_L[p + 4]? = some (.inl (0, 12)) ∧ ml_L[p + 5]? = some (.inl (0, 3))
theorem ml_co_2 : ml_co 2 := ⟨rfl, rfl, rfl, rfl, rfl, rfl⟩
theorem ml_ia_3 : ml_ia 3 := rfl
theorem ml_n_3 : ml_n 3 = 207 := rfl
theorem ml_ia_4 : ml_ia 4 := rfl
theorem ml_n_4 : ml_n 4 = 12 := rfl
theorem ml_ia_5 : ml_ia 5 := rfl
theorem ml_n_5 : ml_n 5 = 12 := rfl
theorem ml_ia_6 : ml_ia 6 := rfl
theorem ml_n_6 : ml_n 6 = 12 := rfl
theorem ml_ia_7 : ml_ia 7 := rfl
theorem ml_n_7 : ml_n 7 = 3 := rfl
theorem ml_co_8 : ml_co 8 := ⟨rfl, rfl, rfl, rfl, rfl, rfl⟩
theorem ml_ia_9 : ml_ia 9 := rfl
theorem ml_n_9 : ml_n 9 = 207 := rfl
theorem ml_ia_10 : ml_ia 10 := rfl
theorem ml_n_10 : ml_n 10 = 12 := rfl
theorem ml_ia_11 : ml_ia 11 := rfl
theorem ml_n_11 : ml_n 11 = 12 := rfl
theorem ml_ia_12 : ml_ia 12 := rfl
theorem ml_n_12 : ml_n 12 = 12 := rfl
theorem ml_ia_13 : ml_ia 13 := rfl
theorem ml_n_13 : ml_n 13 = 3 := rfl
theorem ml_co_16 : ml_co 16 := ⟨rfl, rfl, rfl, rfl, rfl, rfl⟩
theorem ml_ia_17 : ml_ia 17 := rfl
theorem ml_n_17 : ml_n 17 = 207 := rfl
theorem ml_ia_18 : ml_ia 18 := rfl
theorem ml_n_18 : ml_n 18 = 12 := rfl
theorem ml_ia_19 : ml_ia 19 := rfl
theorem ml_n_19 : ml_n 19 = 12 := rfl
theorem ml_ia_20 : ml_ia 20 := rfl
theorem ml_n_20 : ml_n 20 = 12 := rfl
theorem ml_ia_21 : ml_ia 21 := rfl
theorem ml_n_21 : ml_n 21 = 3 := rfl
theorem ml_co_22 : ml_co 22 := ⟨rfl, rfl, rfl, rfl, rfl, rfl⟩
theorem ml_ia_23 : ml_ia 23 := rfl
theorem ml_n_23 : ml_n 23 = 207 := rfl
theorem ml_ia_24 : ml_ia 24 := rfl
theorem ml_n_24 : ml_n 24 = 12 := rfl
theorem ml_ia_25 : ml_ia 25 := rfl
theorem ml_n_25 : ml_n 25 = 12 := rfl
theorem ml_ia_26 : ml_ia 26 := rfl
theorem ml_n_26 : ml_n 26 = 12 := rfl
theorem ml_ia_27 : ml_ia 27 := rfl
theorem ml_n_27 : ml_n 27 = 3 := rfl
theorem ml_co_28 : ml_co 28 := ⟨rfl, rfl, rfl, rfl, rfl, rfl⟩
theorem ml_ia_29 : ml_ia 29 := rfl
theorem ml_n_29 : ml_n 29 = 207 := rfl
theorem ml_ia_30 : ml_ia 30 := rfl
theorem ml_n_30 : ml_n 30 = 12 := rfl
theorem ml_ia_31 : ml_ia 31 := rfl
theorem ml_n_31 : ml_n 31 = 12 := rfl
theorem ml_ia_32 : ml_ia 32 := rfl
theorem ml_n_32 : ml_n 32 = 12 := rfl
theorem ml_ia_33 : ml_ia 33 := rfl
theorem ml_n_33 : ml_n 33 = 3 := rfl
theorem ml_co_34 : ml_co 34 := ⟨rfl, rfl, rfl, rfl, rfl, rfl⟩
theorem ml_ia_35 : ml_ia 35 := rfl
theorem ml_n_35 : ml_n 35 = 207 := rfl
theorem ml_ia_36 : ml_ia 36 := rfl
theorem ml_n_36 : ml_n 36 = 12 := rfl
theorem ml_ia_37 : ml_ia 37 := rfl
theorem ml_n_37 : ml_n 37 = 12 := rfl
theorem ml_ia_38 : ml_ia 38 := rfl
theorem ml_n_38 : ml_n 38 = 12 := rfl
theorem ml_ia_39 : ml_ia 39 := rfl
theorem ml_n_39 : ml_n 39 = 3 := rfl
theorem ml_co_40 : ml_co 40 := ⟨rfl, rfl, rfl, rfl, rfl, rfl⟩
theorem ml_ia_41 : ml_ia 41 := rfl
theorem ml_n_41 : ml_n 41 = 207 := rfl
theorem ml_ia_42 : ml_ia 42 := rfl
theorem ml_n_42 : ml_n 42 = 12 := rfl
theorem ml_ia_43 : ml_ia 43 := rfl
theorem ml_n_43 : ml_n 43 = 12 := rfl
theorem ml_ia_44 : ml_ia 44 := rfl
theorem ml_n_44 : ml_n 44 = 12 := rfl
theorem ml_ia_45 : ml_ia 45 := rfl
theorem ml_n_45 : ml_n 45 = 3 := rfl
theorem ml_co_46 : ml_co 46 := ⟨rfl, rfl, rfl, rfl, rfl, rfl⟩
theorem ml_ia_47 : ml_ia 47 := rfl
theorem ml_n_47 : ml_n 47 = 207 := rfl
theorem ml_ia_48 : ml_ia 48 := rfl
theorem ml_n_48 : ml_n 48 = 12 := rfl
theorem ml_ia_49 : ml_ia 49 := rfl
theorem ml_n_49 : ml_n 49 = 12 := rfl
theorem ml_ia_50 : ml_ia 50 := rfl
theorem ml_n_50 : ml_n 50 = 12 := rfl
theorem ml_ia_51 : ml_ia 51 := rfl
theorem ml_n_51 : ml_n 51 = 3 := rfl
theorem ml_ia_53 : ml_ia 53 := rfl
theorem ml_n_53 : ml_n 53 = 60 := rfl
theorem ml_ia_54 : ml_ia 54 := rfl
theorem ml_n_54 : ml_n 54 = 30 := rfl
theorem ml_ia_55 : ml_ia 55 := rfl
theorem ml_n_55 : ml_n 55 = 30 := rfl
theorem ml_sh_56 : ml_sh 56 := ⟨rfl, rfl⟩
theorem ml_ia_57 : ml_ia 57 := rfl
theorem ml_n_57 : ml_n 57 = 16 := rfl
theorem ml_sh_59 : ml_sh 59 := ⟨rfl, rfl⟩
theorem ml_ia_60 : ml_ia 60 := rfl
theorem ml_n_60 : ml_n 60 = 16 := rfl
theorem ml_sh_62 : ml_sh 62 := ⟨rfl, rfl⟩
theorem ml_ia_63 : ml_ia 63 := rfl
theorem ml_n_63 : ml_n 63 = 16 := rfl
theorem ml_sh_65 : ml_sh 65 := ⟨rfl, rfl⟩
theorem ml_ia_66 : ml_ia 66 := rfl
theorem ml_n_66 : ml_n 66 = 16 := rfl
theorem ml_ia_67 : ml_ia 67 := rfl
theorem ml_n_67 : ml_n 67 = 208 := rfl
theorem ml_ia_68 : ml_ia 68 := rfl
theorem ml_n_68 : ml_n 68 = 208 := rfl
theorem ml_ia_70 : ml_ia 70 := rfl
theorem ml_n_70 : ml_n 70 = 228 := rfl
theorem ml_ia_71 : ml_ia 71 := rfl
theorem ml_n_71 : ml_n 71 = 16 := rfl
theorem ml_ia_73 : ml_ia 73 := rfl
theorem ml_n_73 : ml_n 73 = 251 := rfl
theorem ml_ia_74 : ml_ia 74 := rfl
theorem ml_n_74 : ml_n 74 = 1506 := rfl
theorem ml_ia_75 : ml_ia 75 := rfl
theorem ml_n_75 : ml_n 75 = 251 := rfl
theorem ml_ia_76 : ml_ia 76 := rfl
theorem ml_n_76 : ml_n 76 = 251 := rfl
theorem ml_ia_77 : ml_ia 77 := rfl
theorem ml_n_77 : ml_n 77 = 60 := rfl
theorem ml_ia_78 : ml_ia 78 := rfl
theorem ml_n_78 : ml_n 78 = 240 := rfl
theorem ml_ia_79 : ml_ia 79 := rfl
theorem ml_n_79 : ml_n 79 = 208 := rfl
theorem ml_ia_80 : ml_ia 80 := rfl
theorem ml_n_80 : ml_n 80 = 208 := rfl
theorem ml_n_lt (r : Nat) : ml_n r < 2 ^ 31 := by
  by_cases hr : r < ml_L.length
  · have h : ∀ r, r < ml_L.length → ml_n r < 2 ^ 31 := by decide +kernel
    exact h r hr
  · unfold ml_n
    rw [List.getElem?_eq_none (Nat.not_lt.mp hr)]
    exact Nat.two_pow_pos 31
theorem ml_s_eq (m : ml_M) (a k : Nat) (v : Int32) (a' k' : Nat) : ml_s m a k v a' k' = if a' = a ∧ k' = k then v else m a' k' := rfl
theorem ml_f_congr {m m' : ml_M} {lm lm' : ml_J} {a : Nat} (h : m a = m' a) (hj : lm a = lm' a) : ∀ (k : Nat) (fs : List Value), ml_f m lm a k fs = ml_f m' lm' a k fs
  | _, [] => rfl
  | k, v :: t => by cases v <;> simp only [ml_f, h, hj, ml_f_congr h hj (k + 1) t]
theorem ml_e_congr {m m' : ml_M} {lm lm' : ml_J} {a : Nat} (h : m a = m' a) (hj : lm a = lm' a) (z : ml_Z) : ml_e m lm a z = ml_e m' lm' a z := by
  unfold ml_e
  split <;> first | rfl | (rw [h]) | (rw [hj]) | (rw [ml_f_congr h hj])
theorem ml_f_get {m : ml_M} {lm : ml_J} {a : Nat} : ∀ (fs : List Value) (o k : Nat), (∀ z, fs[k]? = some (.int z) → (ml_f m lm a o fs)[k]? = some (.int (m a (o + k)))) ∧ (∀ z, fs[k]? = some (.long z) → (ml_f m lm a o fs)[k]? = some (.long (lm a (o + k)))) ∧ (∀ r, fs[k]? = some (.ref r) → (ml_f m lm a o fs)[k]? = some (.ref r))
  | [], o, k => ⟨fun _ h => by simp at h, fun _ h => by simp at h, fun _ h => by simp at h⟩
  | v :: t, o, 0 => ⟨fun z h => by simp at h; subst h; simp [ml_f], fun z h => by simp at h; subst h; simp [ml_f], fun z h => by simp at h; subst h; simp [ml_f]⟩
  | v :: t, o, k + 1 => by
    have ih := ml_f_get (m := m) (lm := lm) (a := a) t (o + 1) k
    rw [show o + 1 + k = o + (k + 1) by omega] at ih
    cases v <;> exact ih
theorem ml_f_len {m : ml_M} {lm : ml_J} {a : Nat} : ∀ (fs : List Value) (o : Nat), (ml_f m lm a o fs).length = fs.length
  | [], _ => rfl
  | v :: t, o => by cases v <;> simp only [ml_f, List.length_cons, ml_f_len t]
theorem ml_f_set {m : ml_M} {lm : ml_J} {a : Nat} {v : Int32} : ∀ (fs : List Value) (o k : Nat) (z : Int32), fs[k]? = some (.int z) → (ml_f m lm a o fs).set k (.int v) = ml_f (ml_s m a (o + k) v) lm a o fs
  | [], _, _, _, h => by simp at h
  | w :: t, o, 0, z, h => by
    simp at h
    subst h
    have e : ∀ (o' : Nat) (fs : List Value), o < o' → ml_f (ml_s m a (o + 0) v) lm a o' fs = ml_f m lm a o' fs := by
      intro o' fs
      induction fs generalizing o' with
      | nil => intro _; rfl
      | cons x xs ih =>
        intro ho
        have := ih (o' + 1) (by omega)
        cases x <;> simp only [ml_f, this, ml_s_eq] <;> first | rfl | (rw [if_neg (by omega)])
    simp only [ml_f, List.set_cons_zero, e (o + 1) t (by omega), ml_s_eq]
    simp
  | w :: t, o, k + 1, z, h => by
    have ih := ml_f_set (m := m) (lm := lm) (a := a) (v := v) t (o + 1) k z (by simpa using h)
    rw [show o + 1 + k = o + (k + 1) by omega] at ih
    cases w <;> simp only [ml_f, List.set_cons_succ, ih, ml_s_eq] <;> first | rfl | (rw [if_neg (by omega)])
theorem ml_f_setj {m : ml_M} {lm : ml_J} {a : Nat} {v : Int64} : ∀ (fs : List Value) (o k : Nat) (z : Int64), fs[k]? = some (.long z) → (ml_f m lm a o fs).set k (.long v) = ml_f m (ml_sj lm a (o + k) v) a o fs
  | [], _, _, _, h => by simp at h
  | w :: t, o, 0, z, h => by
    simp at h
    subst h
    have e : ∀ (o' : Nat) (fs : List Value), o < o' → ml_f m (ml_sj lm a (o + 0) v) a o' fs = ml_f m lm a o' fs := by
      intro o' fs
      induction fs generalizing o' with
      | nil => intro _; rfl
      | cons x xs ih =>
        intro ho
        have := ih (o' + 1) (by omega)
        cases x <;> simp only [ml_f, this, ml_sj] <;> first | rfl | (rw [if_neg (by omega)])
    simp only [ml_f, List.set_cons_zero, e (o + 1) t (by omega), ml_sj]
    simp
  | w :: t, o, k + 1, z, h => by
    have ih := ml_f_setj (m := m) (lm := lm) (a := a) (v := v) t (o + 1) k z (by simpa using h)
    rw [show o + 1 + k = o + (k + 1) by omega] at ih
    cases w <;> simp only [ml_f, List.set_cons_succ, ih, ml_sj] <;> first | rfl | (rw [if_neg (by omega)])
theorem ml_h_o {m : ml_M} {lm : ml_J} {a c : Nat} {fs : List Value} (h : ml_L[a]? = some (.inr (c, fs))) : ml_h m lm a = some (.inr (c, ml_f m lm a 0 fs)) := by
  unfold ml_h
  rw [h]
  rfl
theorem ml_h_i {m : ml_M} {lm : ml_J} {a n : Nat} (h : ml_L[a]? = some (.inl (0, n))) : ml_h m lm a = some (.inl (0, n, .inl (m a))) := by
  unfold ml_h
  rw [h]
  rfl
theorem ml_h_j {m : ml_M} {lm : ml_J} {a n : Nat} (h : ml_L[a]? = some (.inl (1, n))) : ml_h m lm a = some (.inl (1, n, .inr (.inl (lm a)))) := by
  unfold ml_h
  rw [h]
  rfl
theorem ml_up {m m' : ml_M} {lm lm' : ml_J} {a : Nat} {e : va_E} (h : ml_h m' lm' a = some e) (hm : ∀ j, j ≠ a → m j = m' j) (hj : ∀ j, j ≠ a → lm j = lm' j) : mj_up (ml_h m lm) a e = ml_h m' lm' := by
  funext j
  unfold mj_up
  by_cases hja : j = a
  · rw [if_pos hja, hja, h]
  · rw [if_neg hja]
    unfold ml_h
    cases ml_L[j]? with
    | none => rfl
    | some z => exact ml_e_congr (hm j hja) (hj j hja) z
theorem ml_s_ne {m : ml_M} {a k : Nat} {v : Int32} {j : Nat} (h : j ≠ a) : m j = ml_s m a k v j := by
  funext q
  rw [ml_s_eq, if_neg (fun z => h z.1)]
theorem ml_sj_ne {m : ml_J} {a k : Nat} {v : Int64} {j : Nat} (h : j ≠ a) : m j = ml_sj m a k v j := by
  funext q
  unfold ml_sj
  rw [if_neg (fun z => h z.1)]
theorem mj_in_k {α : Type} {k n : Nat} {z : Option α} (hk : k < n) (hn : n < 2 ^ 31) : mj_in (nI k) n z = z := if_neg (nI_in hk hn)
section MLW
variable {Ln : Nat} {xs : Nat → Int32} {i pc : Nat} {L S : List Value} {u : mj_U} {m : ml_M} {lm : ml_J} {Φ : mj_R → mj_W → Prop} {a c k x n : Nat} {fs : List Value}
theorem wm_geti {z : Int32} (hd : decode (mj_b i) pc = .ok (.getfield x, 3)) (hr : mj_rf (mj_o i) x = some (c, k)) (hl : ml_L[a]? = some (.inr (c, fs))) (hk : fs[k]? = some (.int z)) (hN : k < (mj_cl c).2.2) : wp Ln xs i pc L (.ref a :: S) (u, ml_h m lm) Φ = wp Ln xs i (pc + 3) L (.int (m a k) :: S) (u, ml_h m lm) Φ := by
  refine wp_same hd (Or.inr rfl) ?_
  have h := ((ml_f_get (m := m) (lm := lm) (a := a) fs 0 k).1 z hk)
  rw [Nat.zero_add] at h
  simp only [mj_stp, hr, mj_r1, ml_h_o hl, mj_eo, mj_if, if_true, h, if_pos hN]
  rfl
theorem wm_getr {r : Nat} (hd : decode (mj_b i) pc = .ok (.getfield x, 3)) (hr : mj_rf (mj_o i) x = some (c, k)) (hl : ml_L[a]? = some (.inr (c, fs))) (hk : fs[k]? = some (.ref r)) (hN : k < (mj_cl c).2.2) : wp Ln xs i pc L (.ref a :: S) (u, ml_h m lm) Φ = wp Ln xs i (pc + 3) L (.ref r :: S) (u, ml_h m lm) Φ := by
  refine wp_same hd (Or.inr rfl) ?_
  have h := ((ml_f_get (m := m) (lm := lm) (a := a) fs 0 k).2.2 r hk)
  simp only [mj_stp, hr, mj_r1, ml_h_o hl, mj_eo, mj_if, if_true, h, if_pos hN]
  rfl
theorem wm_getj {z : Int64} (hd : decode (mj_b i) pc = .ok (.getfield x, 3)) (hr : mj_rf (mj_o i) x = some (c, k)) (hl : ml_L[a]? = some (.inr (c, fs))) (hk : fs[k]? = some (.long z)) (hN : k < (mj_cl c).2.2) : wp Ln xs i pc L (.ref a :: S) (u, ml_h m lm) Φ = wp Ln xs i (pc + 3) L (.long (lm a k) :: S) (u, ml_h m lm) Φ := by
  refine wp_same hd (Or.inr rfl) ?_
  have h := ((ml_f_get (m := m) (lm := lm) (a := a) fs 0 k).2.1 z hk)
  rw [Nat.zero_add] at h
  simp only [mj_stp, hr, mj_r1, ml_h_o hl, mj_eo, mj_if, if_true, h, if_pos hN]
  rfl
theorem wm_puti {z v : Int32} (hd : decode (mj_b i) pc = .ok (.putfield x, 3)) (hr : mj_rf (mj_o i) x = some (c, k)) (hl : ml_L[a]? = some (.inr (c, fs))) (hk : fs[k]? = some (.int z)) (hN : k < (mj_cl c).2.2) (hfin : ((mj_cl c).2.1 k).2.2.2 = false) (hn : narrow (mj_ty c k) (.int v) = .int v) (hf : fits (mj_ty c k) (.int v) = true) :
    wp Ln xs i pc L (.int v :: .ref a :: S) (u, ml_h m lm) Φ = wp Ln xs i (pc + 3) L S (u, ml_h (ml_s m a k v) lm) Φ := by
  refine wp_same hd (Or.inr rfl) ?_
  have hlen : k < (ml_f m lm a 0 fs).length := by rw [ml_f_len]; exact (List.getElem?_eq_some_iff.mp hk).1
  have hset := ml_f_set (m := m) (lm := lm) (a := a) (v := v) fs 0 k z hk
  rw [Nat.zero_add] at hset
  have e : mj_up (ml_h m lm) a (.inr (c, (ml_f m lm a 0 fs).set k (.int v))) = ml_h (ml_s m a k v) lm := ml_up (by rw [ml_h_o hl, hset]) (fun j hj => ml_s_ne hj) (fun _ _ => rfl)
  simp only [mj_stp, hr, ml_h_o hl, mj_eo, mj_if, e]
  rw [if_pos ⟨trivial, hlen, hN, hn, hf, Or.inl hfin⟩]
  rfl
theorem wm_putj {z v : Int64} (hd : decode (mj_b i) pc = .ok (.putfield x, 3)) (hr : mj_rf (mj_o i) x = some (c, k)) (hl : ml_L[a]? = some (.inr (c, fs))) (hk : fs[k]? = some (.long z)) (hN : k < (mj_cl c).2.2) (hfin : ((mj_cl c).2.1 k).2.2.2 = false) (hn : narrow (mj_ty c k) (.long v) = .long v) (hf : fits (mj_ty c k) (.long v) = true) :
    wp Ln xs i pc L (.long v :: .ref a :: S) (u, ml_h m lm) Φ = wp Ln xs i (pc + 3) L S (u, ml_h m (ml_sj lm a k v)) Φ := by
  refine wp_same hd (Or.inr rfl) ?_
  have hlen : k < (ml_f m lm a 0 fs).length := by rw [ml_f_len]; exact (List.getElem?_eq_some_iff.mp hk).1
  have hset := ml_f_setj (m := m) (lm := lm) (a := a) (v := v) fs 0 k z hk
  rw [Nat.zero_add] at hset
  have e : mj_up (ml_h m lm) a (.inr (c, (ml_f m lm a 0 fs).set k (.long v))) = ml_h m (ml_sj lm a k v) := ml_up (by rw [ml_h_o hl, hset]) (fun _ _ => rfl) (fun j hj => ml_sj_ne hj)
  simp only [mj_stp, hr, ml_h_o hl, mj_eo, mj_if, e]
  rw [if_pos ⟨trivial, hlen, hN, hn, hf, Or.inl hfin⟩]
  rfl
theorem wm_iald (hd : decode (mj_b i) pc = .ok (.iaload, 1)) (hl : ml_ia a) (h0 : a ≠ 0) (hk : k < ml_n a) : wp Ln xs i pc L (.int (nI k) :: .ref a :: S) (u, ml_h m lm) Φ = wp Ln xs i (pc + 1) L (.int (m a k) :: S) (u, ml_h m lm) Φ := by
  refine wp_same hd (Or.inr rfl) ?_
  have hn := ml_n_lt a
  simp only [mj_stp, mj_p1, mj_r1, if_neg h0, ml_h_i hl, mj_ei, if_true, mj_in_k hk hn, nI_clamp (Nat.lt_trans hk hn)]
  rfl
theorem wm_iast {v : Int32} (hd : decode (mj_b i) pc = .ok (.iastore, 1)) (hl : ml_ia a) (hk : k < ml_n a) : wp Ln xs i pc L (.int v :: .int (nI k) :: .ref a :: S) (u, ml_h m lm) Φ = wp Ln xs i (pc + 1) L S (u, ml_h (ml_s m a k v) lm) Φ := by
  refine wp_same hd (Or.inr rfl) ?_
  have hn := ml_n_lt a
  have e : mj_up (ml_h m lm) a (.inl (0, ml_n a, .inl (upd (m a) k v))) = ml_h (ml_s m a k v) lm := by
    refine ml_up ?_ (fun j hj => ml_s_ne hj) (fun _ _ => rfl)
    rw [ml_h_i hl]
    congr 5
    funext q
    unfold upd ml_s
    by_cases hq : q = k
    · rw [if_pos hq, if_pos ⟨rfl, hq⟩]
    · rw [if_neg hq, if_neg (fun z => hq z.2)]
  simp only [mj_stp, mj_p2, mj_r1, ml_h_i hl, mj_ei, if_true, mj_in_k hk hn, nI_clamp (Nat.lt_trans hk hn), e]
  rfl
theorem wm_alen (hd : decode (mj_b i) pc = .ok (.arraylength, 1)) (hl : ml_ia a) (h0 : a ≠ 0) : wp Ln xs i pc L (.ref a :: S) (u, ml_h m lm) Φ = wp Ln xs i (pc + 1) L (.int (nI (ml_n a)) :: S) (u, ml_h m lm) Φ := by
  refine wp_same hd (Or.inr rfl) ?_
  simp only [mj_stp, mj_r1, if_neg h0, ml_h_i hl, mj_en, if_true]
  rfl
theorem wm_last {v : Int64} (hd : decode (mj_b i) pc = .ok (.lastore, 1)) (hl : ml_L[a]? = some (.inl (1, n))) (hk : k < n) (hn : n < 2 ^ 31) : wp Ln xs i pc L (.long v :: .int (nI k) :: .ref a :: S) (u, ml_h m lm) Φ = wp Ln xs i (pc + 1) L S (u, ml_h m (ml_sj lm a k v)) Φ := by
  refine wp_same hd (Or.inr rfl) ?_
  have e : mj_up (ml_h m lm) a (.inl (1, n, .inr (.inl (vp_updL (lm a) k v)))) = ml_h m (ml_sj lm a k v) := by
    refine ml_up ?_ (fun _ _ => rfl) (fun j hj => ml_sj_ne hj)
    rw [ml_h_j hl]
    congr 6
    funext q
    unfold vp_updL ml_sj
    by_cases hq : q = k
    · rw [if_pos hq, if_pos ⟨rfl, hq⟩]
    · rw [if_neg hq, if_neg (fun z => hq z.2)]
  simp only [mj_stp, mj_q1, mj_p1, mj_r1, ml_h_j hl, mj_ej, if_true, mj_in_k hk hn, nI_clamp (Nat.lt_trans hk hn), e]
  rfl
theorem wm_lald (hd : decode (mj_b i) pc = .ok (.laload, 1)) (hl : ml_L[a]? = some (.inl (1, n))) (hk : k < n) (hn : n < 2 ^ 31) : wp Ln xs i pc L (.int (nI k) :: .ref a :: S) (u, ml_h m lm) Φ = wp Ln xs i (pc + 1) L (.long (lm a k) :: S) (u, ml_h m lm) Φ := by
  refine wp_same hd (Or.inr rfl) ?_
  simp only [mj_stp, mj_p1, mj_r1, ml_h_j hl, mj_ej, if_true, mj_in_k hk hn, nI_clamp (Nat.lt_trans hk hn)]
  rfl
theorem wm_aald (hd : decode (mj_b i) pc = .ok (.aaload, 1)) (hl : ml_L[a]? = some (.inl (2, 6))) (hk : k < 6) : wp Ln xs i pc L (.int (nI k) :: .ref a :: S) (u, ml_h m lm) Φ = wp Ln xs i (pc + 1) L (.ref (16 + 6 * k) :: S) (u, ml_h m lm) Φ := by
  refine wp_same hd (Or.inr rfl) ?_
  have e : ml_h m lm a = some (.inl (2, 6, .inr (.inr (.inr (.inr ml_ring))))) := by
    unfold ml_h
    rw [hl]
    rfl
  have hn : (6 : Nat) < 2 ^ 31 := by decide
  simp only [mj_stp, mj_p1, mj_r1, e, mj_eq, if_true, mj_in_k hk hn, nI_clamp (Nat.lt_trans hk hn), ml_ring, if_pos hk]
  rfl
theorem wm_alenq (hd : decode (mj_b i) pc = .ok (.arraylength, 1)) (hl : ml_L[a]? = some (.inl (2, n))) (h0 : a ≠ 0) : wp Ln xs i pc L (.ref a :: S) (u, ml_h m lm) Φ = wp Ln xs i (pc + 1) L (.int (nI n) :: S) (u, ml_h m lm) Φ := by
  refine wp_same hd (Or.inr rfl) ?_
  have e : ml_h m lm a = some (.inl (2, n, .inr (.inr (.inr (.inr ml_ring))))) := by
    unfold ml_h
    rw [hl]
    rfl
  simp only [mj_stp, mj_r1, if_neg h0, e, mj_en, if_true]
  rfl
/-- a virtual call -/
theorem wm_cv {j : Nat} {As rest : List Value} (hd : decode (mj_b i) pc = .ok (.invokevirtual x, 3)) (hr : mj_rc (mj_o i) x = some (0, j)) (hn : mj_n j = As.length + 1) (hl : ml_L[a]? = some (.inr (mj_c j, fs))) (h1 : mj_cat rest ≤ 8) (h2 : mj_F j + 1 ≤ mj_F i) (h3 : 8 + (mj_l j + 11) + mj_D j ≤ mj_D i) (h4 : mj_cat (As.reverse ++ [.ref a]) ≤ mj_l j) :
    wp Ln xs i pc L (As.reverse ++ .ref a :: rest) (u, ml_h m lm) Φ = wp Ln xs j 0 (mj_ent j (.ref a :: As)) [] (u, ml_h m lm) (mk Ln xs i pc L rest Φ) := by
  have hlen : (As.reverse ++ [Value.ref a]).length = mj_n j := by rw [List.length_append, List.length_reverse, hn]; rfl
  have e1 : As.reverse ++ .ref a :: rest = (As.reverse ++ [Value.ref a]) ++ rest := by simp
  have ht : (As.reverse ++ .ref a :: rest).take (mj_n j) = As.reverse ++ [Value.ref a] := by rw [e1, ← hlen, List.take_left]
  have hdr : (As.reverse ++ .ref a :: rest).drop (mj_n j) = rest := by rw [e1, ← hlen, List.drop_left]
  have hrev : (As.reverse ++ [Value.ref a]).reverse = .ref a :: As := by simp
  refine wp_cal hd (Or.inr rfl) rfl rfl rfl ?_
  simp only [mj_cal, hr, ht, hrev, ml_h_o hl, mj_eo, mj_if, if_true, hdr]
  rw [if_pos ⟨by rw [e1, List.length_append, hlen]; omega, h1, h2, h3, h4⟩]
/-- a static call -/
theorem wm_cs {j : Nat} {As rest : List Value} {w : mj_W} (hd : decode (mj_b i) pc = .ok (.invokestatic x, 3)) (hr : mj_rc (mj_o i) x = some (1, j)) (hn : mj_n j = As.length) (h1 : mj_cat rest ≤ 8) (h2 : mj_F j + 1 ≤ mj_F i) (h3 : 8 + (mj_l j + 11) + mj_D j ≤ mj_D i) (h4 : mj_cat As.reverse ≤ mj_l j) :
    wp Ln xs i pc L (As.reverse ++ rest) w Φ = wp Ln xs j 0 (mj_ent j As) [] w (mk Ln xs i pc L rest Φ) := by
  have hlen : As.reverse.length = mj_n j := by rw [List.length_reverse, hn]
  have ht : (As.reverse ++ rest).take (mj_n j) = As.reverse := by rw [← hlen, List.take_left]
  have hdr : (As.reverse ++ rest).drop (mj_n j) = rest := by rw [← hlen, List.drop_left]
  refine wp_cal hd (Or.inr rfl) ?_ rfl rfl ?_
  · simp only [mj_stp, hr]
  · simp only [mj_cal, hr, ht, List.reverse_reverse, mj_if, hdr]
    rw [if_pos ⟨by rw [List.length_append, hlen]; omega, h1, h2, h3, h4⟩]
/-- System.arraycopy from the first on -/
theorem wm_copy {r q : Nat} {rest : List Value} (hd : decode (mj_b i) pc = .ok (.invokestatic x, 3)) (hr : mj_rc (mj_o i) x = some (5, 0)) (hl : ml_ia r) (hq : ml_ia q) (h1 : k ≤ ml_n r) (h2 : k ≤ ml_n q) (h3 : mj_cat rest ≤ 8) (h4 : 1 ≤ mj_F i) (h5 : 26 ≤ mj_D i) :
    wp Ln xs i pc L (.int (nI k) :: .int 0 :: .ref q :: .int 0 :: .ref r :: rest) (u, ml_h m lm) Φ = wp Ln xs i (pc + 3) L rest (u, ml_h (ml_cp m r q 0 0 k) lm) Φ := by
  refine wp_same hd (Or.inr rfl) ?_
  have hn := ml_n_lt r
  have e : mj_up (ml_h m lm) q (.inl (0, ml_n q, .inl (va_cpy (m r) (m q) 0 0 k))) = ml_h (ml_cp m r q 0 0 k) lm := by
    refine ml_up ?_ (fun j hj => ?_) (fun _ _ => rfl)
    · rw [ml_h_i hq]
      congr 5
      funext z
      unfold va_cpy ml_cp
      by_cases hz : 0 ≤ z ∧ z < 0 + k
      · rw [if_pos hz, if_pos ⟨rfl, hz⟩]
      · rw [if_neg hz, if_neg (fun y => hz y.2)]
    · funext z
      unfold ml_cp
      rw [if_neg (fun y => hj y.1)]
  have c0 : (0 : Int32).toNatClampNeg = 0 := rfl
  have ck : (nI k).toNatClampNeg = k := nI_clamp (by omega)
  simp only [mj_stp, hr, ml_h_i hl, ml_h_i hq, mj_ei, if_true, mj_if, c0, ck, Nat.zero_add, e]
  rw [if_pos ⟨by decide, by decide, nI_pos (by omega), h1, h2, h3, h4, h5⟩]
  rfl
theorem wm_max {z y : Int32} {rest : List Value} {w : mj_W} (hd : decode (mj_b i) pc = .ok (.invokestatic x, 3)) (hr : mj_rc (mj_o i) x = some (6, 0)) (h3 : mj_cat rest ≤ 8) (h4 : 1 ≤ mj_F i) (h5 : 26 ≤ mj_D i) : wp Ln xs i pc L (.int y :: .int z :: rest) w Φ = wp Ln xs i (pc + 3) L (.int (if z < y then y else z) :: rest) w Φ := by
  obtain ⟨u, h⟩ := w
  refine wp_same hd (Or.inr rfl) ?_
  simp only [mj_stp, hr, mj_p2, mj_if]
  rw [if_pos ⟨h3, h4, h5⟩]
  rfl
theorem wm_min {z y : Int32} {rest : List Value} {w : mj_W} (hd : decode (mj_b i) pc = .ok (.invokestatic x, 3)) (hr : mj_rc (mj_o i) x = some (7, 0)) (h3 : mj_cat rest ≤ 8) (h4 : 1 ≤ mj_F i) (h5 : 26 ≤ mj_D i) : wp Ln xs i pc L (.int y :: .int z :: rest) w Φ = wp Ln xs i (pc + 3) L (.int (if y < z then y else z) :: rest) w Φ := by
  obtain ⟨u, h⟩ := w
  refine wp_same hd (Or.inr rfl) ?_
  simp only [mj_stp, hr, mj_p2, mj_if]
  rw [if_pos ⟨h3, h4, h5⟩]
  rfl
theorem wm_ldc {v : Value} {w : mj_W} (hd : decode (mj_b i) pc = .ok (.ldc x, 2)) (hr : mj_rk (mj_o i) x = some v) (hv : mj_ish v = false) (h2 : v.category = 1 ∧ v.isRef = false) : wp Ln xs i pc L S w Φ = wp Ln xs i (pc + 2) L (v :: S) w Φ := by
  obtain ⟨u, h⟩ := w
  refine wp_same hd (Or.inr rfl) ?_
  simp only [mj_stp, hr]
  cases v <;> first | rfl | (simp [Value.category, Value.isRef, mj_ish] at h2 hv)
theorem wm_ldc2 {v : Value} {w : mj_W} (hd : decode (mj_b i) pc = .ok (.ldc2_w x, 3)) (hr : mj_rk (mj_o i) x = some v) (h2 : v.category = 2) : wp Ln xs i pc L S w Φ = wp Ln xs i (pc + 3) L (v :: S) w Φ := by
  obtain ⟨u, h⟩ := w
  refine wp_same hd (Or.inr rfl) ?_
  simp only [mj_stp, hr]
  cases v <;> first | rfl | (simp [Value.category] at h2)
end MLW
end
section
/-! ===== what the segments' equations want of the layout ===== -/
theorem ml_ia_of {a n : Nat} (h : ml_L[a]? = some (.inl (0, n))) : ml_ia a ∧ ml_n a = n := by
  have e : ml_n a = n := by
    unfold ml_n
    simp only [h]
  exact ⟨by unfold ml_ia; rw [e]; exact h, e⟩
theorem ml_sh_ia {p : Nat} (h : ml_sh p) : ml_ia (p + 1) := (ml_ia_of h.2).1
theorem ml_sh_n {p : Nat} (h : ml_sh p) : ml_n (p + 1) = 16 := (ml_ia_of h.2).2
theorem ml_co_ia1 {p : Nat} (h : ml_co p) : ml_ia (p + 1) := (ml_ia_of h.2.1).1
theorem ml_co_n1 {p : Nat} (h : ml_co p) : ml_n (p + 1) = 207 := (ml_ia_of h.2.1).2
theorem ml_co_ia2 {p : Nat} (h : ml_co p) : ml_ia (p + 2) := (ml_ia_of h.2.2.1).1
theorem ml_co_n2 {p : Nat} (h : ml_co p) : ml_n (p + 2) = 12 := (ml_ia_of h.2.2.1).2
theorem ml_co_ia3 {p : Nat} (h : ml_co p) : ml_ia (p + 3) := (ml_ia_of h.2.2.2.1).1
theorem ml_co_n3 {p : Nat} (h : ml_co p) : ml_n (p + 3) = 12 := (ml_ia_of h.2.2.2.1).2
theorem ml_co_ia4 {p : Nat} (h : ml_co p) : ml_ia (p + 4) := (ml_ia_of h.2.2.2.2.1).1
theorem ml_co_n4 {p : Nat} (h : ml_co p) : ml_n (p + 4) = 12 := (ml_ia_of h.2.2.2.2.1).2
theorem ml_co_ia5 {p : Nat} (h : ml_co p) : ml_ia (p + 5) := (ml_ia_of h.2.2.2.2.2).1
theorem ml_co_n5 {p : Nat} (h : ml_co p) : ml_n (p + 5) = 3 := (ml_ia_of h.2.2.2.2.2).2
section MLV
variable {Ln : Nat} {xs : Nat → Int32} {i pc : Nat} {L S : List Value} {u : mj_U} {m : ml_M} {lm : ml_J} {w : mj_W} {Φ : mj_R → mj_W → Prop} {a k n : Nat}
theorem wm_alenk (hd : decode (mj_b i) pc = .ok (.arraylength, 1)) (hl : ml_ia a) (h0 : a ≠ 0) (hn : ml_n a = n) : wp Ln xs i pc L (.ref a :: S) (u, ml_h m lm) Φ = wp Ln xs i (pc + 1) L (.int (nI n) :: S) (u, ml_h m lm) Φ := by
  subst hn
  exact wm_alen hd hl h0
/-- a number of the script -/
theorem wx_ald0 (hd : decode (mj_b i) pc = .ok (.iaload, 1)) (hk : k < Ln) (hL : Ln < 2 ^ 31) : wp Ln xs i pc L (.int (nI k) :: .ref 0 :: S) (u, ml_h m lm) Φ = wp Ln xs i (pc + 1) L (.int (xs k) :: S) (u, ml_h m lm) Φ := by
  refine wp_same hd (Or.inr rfl) ?_
  simp only [mj_stp, mj_p1, mj_r1, if_true, mj_in_k hk hL, nI_clamp (Nat.lt_trans hk hL)]
  rfl
end MLV
theorem mj_fin_i {i : Nat} {v : Int32} (h : mj_r i = some .int) : mj_fin i [.int v] .ireturn = some (some (.int v)) := by
  simp only [mj_fin, h, mj_if]
  exact if_pos rfl
end
section
/-! ===== an equation for each straight piece of a method ===== -/
section MXa
variable {Ln : Nat} {xs : Nat → Int32} {u : mj_U} {m : ml_M} {lm : ml_J} {Φ : mj_R → mj_W → Prop}
/- PickedForms$Rows.at -/
theorem xd13_0 : decode (mj_b 13) 0 = .ok (.iload_n 1, 1) := by decide +kernel
theorem xd13_1 : decode (mj_b 13) 1 = .ok (.ifCond .lt 15, 3) := by decide +kernel
theorem xd13_4 : decode (mj_b 13) 4 = .ok (.iload_n 1, 1) := by decide +kernel
theorem xd13_5 : decode (mj_b 13) 5 = .ok (.aload_n 0, 1) := by decide +kernel
theorem xd13_6 : decode (mj_b 13) 6 = .ok (.arraylength, 1) := by decide +kernel
theorem xd13_7 : decode (mj_b 13) 7 = .ok (.if_icmp .ge 9, 3) := by decide +kernel
theorem xd13_10 : decode (mj_b 13) 10 = .ok (.aload_n 0, 1) := by decide +kernel
theorem xd13_11 : decode (mj_b 13) 11 = .ok (.iload_n 1, 1) := by decide +kernel
theorem xd13_12 : decode (mj_b 13) 12 = .ok (.iaload, 1) := by decide +kernel
theorem xd13_13 : decode (mj_b 13) 13 = .ok (.goto 4, 3) := by decide +kernel
theorem xd13_16 : decode (mj_b 13) 16 = .ok (.iconst 0, 1) := by decide +kernel
theorem xd13_17 : decode (mj_b 13) 17 = .ok (.ireturn, 1) := by decide +kernel
theorem x13_0 {r : Nat} {x1 : Int32} : wp Ln xs 13 0 [.ref r, .int x1] [] (u, ml_h m lm) Φ = if x1 < (nI 0) then wp Ln xs 13 16 [.ref r, .int x1] [] (u, ml_h m lm) Φ else wp Ln xs 13 4 [.ref r, .int x1] [] (u, ml_h m lm) Φ := (wp_same xd13_0 (Or.inr rfl) rfl).trans (wx_if xd13_1 rfl rfl (x1 < (nI 0)) mb_lt)
theorem x13_4 {r : Nat} {x1 : Int32} (hr : ml_ia r) (hr0 : r ≠ 0) : wp Ln xs 13 4 [.ref r, .int x1] [] (u, ml_h m lm) Φ = if (nI (ml_n r)) ≤ x1 then wp Ln xs 13 16 [.ref r, .int x1] [] (u, ml_h m lm) Φ else wp Ln xs 13 10 [.ref r, .int x1] [] (u, ml_h m lm) Φ := (wp_same xd13_4 (Or.inr rfl) rfl).trans ((wp_same xd13_5 (Or.inr rfl) rfl).trans ((wm_alen xd13_6 hr hr0).trans (wx_icmp xd13_7 rfl rfl ((nI (ml_n r)) ≤ x1) mb_ge)))
theorem x13_10 {r : Nat} {x1 : Int32} : wp Ln xs 13 10 [.ref r, .int x1] [] (u, ml_h m lm) Φ = wp Ln xs 13 12 [.ref r, .int x1] [.int x1, .ref r] (u, ml_h m lm) Φ := (wp_same xd13_10 (Or.inr rfl) rfl).trans (wp_same xd13_11 (Or.inr rfl) rfl)
theorem x13_12 {r : Nat} {x1 : Int32} {k : Nat} (hr : ml_ia r) (hr0 : r ≠ 0) (hk : k < ml_n r) : wp Ln xs 13 12 [.ref r, .int x1] [.int (nI k), .ref r] (u, ml_h m lm) Φ = Φ (.inl (some (.int (m r k)))) (u, ml_h m lm) := (wm_iald (k := k) xd13_12 hr hr0 hk).trans ((wx_goto xd13_13 rfl).trans (wp_fin (v := some (.int (m r k))) xd13_17 (Or.inr rfl) rfl (mj_fin_i rfl)))
theorem x13_16 {r : Nat} {x1 : Int32} : wp Ln xs 13 16 [.ref r, .int x1] [] (u, ml_h m lm) Φ = Φ (.inl (some (.int (nI 0)))) (u, ml_h m lm) := (wp_same (S' := [.int (nI 0)]) xd13_16 (Or.inr rfl) rfl).trans (wp_fin (v := some (.int (nI 0))) xd13_17 (Or.inr rfl) rfl (mj_fin_i rfl))
/- PickedForms.usedBits -/
theorem xd28_0 : decode (mj_b 28) 0 = .ok (.iconst 0, 1) := by decide +kernel
theorem xd28_1 : decode (mj_b 28) 1 = .ok (.istore_n 1, 1) := by decide +kernel
theorem xd28_2 : decode (mj_b 28) 2 = .ok (.iconst 0, 1) := by decide +kernel
theorem xd28_3 : decode (mj_b 28) 3 = .ok (.istore_n 2, 1) := by decide +kernel
theorem xd28_4 : decode (mj_b 28) 4 = .ok (.iload_n 2, 1) := by decide +kernel
theorem xd28_5 : decode (mj_b 28) 5 = .ok (.aload_n 0, 1) := by decide +kernel
theorem xd28_6 : decode (mj_b 28) 6 = .ok (.getfield 12, 3) := by decide +kernel
theorem xd28_9 : decode (mj_b 28) 9 = .ok (.getfield 112, 3) := by decide +kernel
theorem xd28_12 : decode (mj_b 28) 12 = .ok (.if_icmp .ge 32, 3) := by decide +kernel
theorem xd28_15 : decode (mj_b 28) 15 = .ok (.aload_n 0, 1) := by decide +kernel
theorem xd28_16 : decode (mj_b 28) 16 = .ok (.iload_n 2, 1) := by decide +kernel
theorem xd28_17 : decode (mj_b 28) 17 = .ok (.invokevirtual 265, 3) := by decide +kernel
theorem xd28_20 : decode (mj_b 28) 20 = .ok (.iload_n 1, 1) := by decide +kernel
theorem xd28_21 : decode (mj_b 28) 21 = .ok (.aload_n 0, 1) := by decide +kernel
theorem xd28_22 : decode (mj_b 28) 22 = .ok (.getfield 40, 3) := by decide +kernel
theorem xd28_25 : decode (mj_b 28) 25 = .ok (.aload_n 0, 1) := by decide +kernel
theorem xd28_26 : decode (mj_b 28) 26 = .ok (.getfield 12, 3) := by decide +kernel
theorem xd28_29 : decode (mj_b 28) 29 = .ok (.iload_n 2, 1) := by decide +kernel
theorem xd28_30 : decode (mj_b 28) 30 = .ok (.invokevirtual 123, 3) := by decide +kernel
theorem xd28_33 : decode (mj_b 28) 33 = .ok (.invokevirtual 268, 3) := by decide +kernel
theorem xd28_36 : decode (mj_b 28) 36 = .ok (.iadd, 1) := by decide +kernel
theorem xd28_37 : decode (mj_b 28) 37 = .ok (.istore_n 1, 1) := by decide +kernel
theorem xd28_38 : decode (mj_b 28) 38 = .ok (.iinc 2 1, 3) := by decide +kernel
theorem xd28_41 : decode (mj_b 28) 41 = .ok (.goto (-37), 3) := by decide +kernel
theorem xd28_44 : decode (mj_b 28) 44 = .ok (.iload_n 1, 1) := by decide +kernel
theorem xd28_45 : decode (mj_b 28) 45 = .ok (.ireturn, 1) := by decide +kernel
theorem x28_0 : wp Ln xs 28 0 [.ref 1, mj_hole, mj_hole] [] (u, ml_h m lm) Φ = wp Ln xs 28 4 [.ref 1, .int (nI 0), .int (nI 0)] [] (u, ml_h m lm) Φ := (wp_same (S' := [.int (nI 0)]) xd28_0 (Or.inr rfl) rfl).trans ((wp_same (L' := [.ref 1, .int (nI 0), mj_hole]) xd28_1 (Or.inr rfl) rfl).trans ((wp_same (S' := [.int (nI 0)]) xd28_2 (Or.inr rfl) rfl).trans (wp_same (L' := [.ref 1, .int (nI 0), .int (nI 0)]) xd28_3 (Or.inr rfl) rfl)))
theorem x28_4 {x1 : Int32} {x2 : Int32} : wp Ln xs 28 4 [.ref 1, .int x1, .int x2] [] (u, ml_h m lm) Φ = if (m 2 6) ≤ x2 then wp Ln xs 28 44 [.ref 1, .int x1, .int x2] [] (u, ml_h m lm) Φ else wp Ln xs 28 15 [.ref 1, .int x1, .int x2] [] (u, ml_h m lm) Φ := (wp_same xd28_4 (Or.inr rfl) rfl).trans ((wp_same xd28_5 (Or.inr rfl) rfl).trans ((wm_getr xd28_6 rfl (show ml_L[1]? = _ from rfl) rfl (Nat.le_of_ble_eq_true rfl)).trans ((wm_geti xd28_9 rfl (show ml_L[2]? = _ from rfl) rfl (Nat.le_of_ble_eq_true rfl)).trans (wx_icmp xd28_12 rfl rfl ((m 2 6) ≤ x2) mb_ge))))
theorem x28_15 {x1 : Int32} {x2 : Int32} : wp Ln xs 28 15 [.ref 1, .int x1, .int x2] [] (u, ml_h m lm) Φ = wp Ln xs 29 0 [.ref 1, .int x2] [] (u, ml_h m lm) (mk Ln xs 28 17 [.ref 1, .int x1, .int x2] [] Φ) := (wp_same xd28_15 (Or.inr rfl) rfl).trans ((wp_same xd28_16 (Or.inr rfl) rfl).trans (wm_cv (As := [.int x2]) (rest := []) xd28_17 rfl rfl (show ml_L[1]? = _ from rfl) (Nat.le_of_ble_eq_true rfl) (Nat.le_of_ble_eq_true rfl) (Nat.le_of_ble_eq_true rfl) (Nat.le_of_ble_eq_true rfl)))
theorem x28_20 {x1 : Int32} {x2 : Int32} : wp Ln xs 28 20 [.ref 1, .int x1, .int x2] [] (u, ml_h m lm) Φ = wp Ln xs 36 0 [.ref 2, .int x2] [] (u, ml_h m lm) (mk Ln xs 28 30 [.ref 1, .int x1, .int x2] [.ref 56, .int x1] Φ) := (wp_same xd28_20 (Or.inr rfl) rfl).trans ((wp_same xd28_21 (Or.inr rfl) rfl).trans ((wm_getr xd28_22 rfl (show ml_L[1]? = _ from rfl) rfl (Nat.le_of_ble_eq_true rfl)).trans ((wp_same xd28_25 (Or.inr rfl) rfl).trans ((wm_getr xd28_26 rfl (show ml_L[1]? = _ from rfl) rfl (Nat.le_of_ble_eq_true rfl)).trans ((wp_same xd28_29 (Or.inr rfl) rfl).trans (wm_cv (As := [.int x2]) (rest := [.ref 56, .int x1]) xd28_30 rfl rfl (show ml_L[2]? = _ from rfl) (Nat.le_of_ble_eq_true rfl) (Nat.le_of_ble_eq_true rfl) (Nat.le_of_ble_eq_true rfl) (Nat.le_of_ble_eq_true rfl)))))))
theorem x28_33 {x1 : Int32} {x2 : Int32} {xs0 : Int32} {xs2 : Int32} : wp Ln xs 28 33 [.ref 1, .int x1, .int x2] [.int xs0, .ref 56, .int xs2] (u, ml_h m lm) Φ = wp Ln xs 37 0 [.ref 56, .int xs0] [] (u, ml_h m lm) (mk Ln xs 28 33 [.ref 1, .int x1, .int x2] [.int xs2] Φ) := wm_cv (As := [.int xs0]) (rest := [.int xs2]) xd28_33 rfl rfl (show ml_L[56]? = _ from rfl) (Nat.le_of_ble_eq_true rfl) (Nat.le_of_ble_eq_true rfl) (Nat.le_of_ble_eq_true rfl) (Nat.le_of_ble_eq_true rfl)
theorem x28_36 {x1 : Int32} {x2 : Int32} {xs0 : Int32} {xs1 : Int32} : wp Ln xs 28 36 [.ref 1, .int x1, .int x2] [.int xs0, .int xs1] (u, ml_h m lm) Φ = wp Ln xs 28 4 [.ref 1, .int (xs1 + xs0), .int (x2 + nI 1)] [] (u, ml_h m lm) Φ := (wp_same xd28_36 (Or.inr rfl) rfl).trans ((wp_same (L' := [.ref 1, .int (xs1 + xs0), .int x2]) xd28_37 (Or.inr rfl) rfl).trans ((wp_same (L' := [.ref 1, .int (xs1 + xs0), .int (x2 + nI 1)]) xd28_38 (Or.inr rfl) rfl).trans (wx_goto xd28_41 rfl)))
theorem x28_44 {x1 : Int32} {x2 : Int32} : wp Ln xs 28 44 [.ref 1, .int x1, .int x2] [] (u, ml_h m lm) Φ = Φ (.inl (some (.int x1))) (u, ml_h m lm) := (wp_same xd28_44 (Or.inr rfl) rfl).trans (wp_fin (v := some (.int x1)) xd28_45 (Or.inr rfl) rfl (mj_fin_i rfl))
/- PickedForms$Shape.read -/
theorem xd31_0 : decode (mj_b 31) 0 = .ok (.aload_n 0, 1) := by decide +kernel
theorem xd31_1 : decode (mj_b 31) 1 = .ok (.invokevirtual 37, 3) := by decide +kernel
theorem xd31_4 : decode (mj_b 31) 4 = .ok (.iconst 0, 1) := by decide +kernel
theorem xd31_5 : decode (mj_b 31) 5 = .ok (.istore 4, 2) := by decide +kernel
theorem xd31_7 : decode (mj_b 31) 7 = .ok (.iload 4, 2) := by decide +kernel
theorem xd31_9 : decode (mj_b 31) 9 = .ok (.iload_n 3, 1) := by decide +kernel
theorem xd31_10 : decode (mj_b 31) 10 = .ok (.if_icmp .ge 21, 3) := by decide +kernel
theorem xd31_13 : decode (mj_b 31) 13 = .ok (.aload_n 0, 1) := by decide +kernel
theorem xd31_14 : decode (mj_b 31) 14 = .ok (.aload_n 1, 1) := by decide +kernel
theorem xd31_15 : decode (mj_b 31) 15 = .ok (.iload_n 2, 1) := by decide +kernel
theorem xd31_16 : decode (mj_b 31) 16 = .ok (.iload 4, 2) := by decide +kernel
theorem xd31_18 : decode (mj_b 31) 18 = .ok (.iadd, 1) := by decide +kernel
theorem xd31_19 : decode (mj_b 31) 19 = .ok (.invokestatic 40, 3) := by decide +kernel
theorem xd31_22 : decode (mj_b 31) 22 = .ok (.invokevirtual 46, 3) := by decide +kernel
theorem xd31_25 : decode (mj_b 31) 25 = .ok (.iinc 4 1, 3) := by decide +kernel
theorem xd31_28 : decode (mj_b 31) 28 = .ok (.goto (-21), 3) := by decide +kernel
theorem xd31_31 : decode (mj_b 31) 31 = .ok (.return_, 1) := by decide +kernel
theorem x31_0 {p r : Nat} {x2 : Int32} {x3 : Int32} (hp : ml_sh p) : wp Ln xs 31 0 [.ref p, .ref r, .int x2, .int x3, mj_hole] [] (u, ml_h m lm) Φ = wp Ln xs 32 0 [.ref p] [] (u, ml_h m lm) (mk Ln xs 31 1 [.ref p, .ref r, .int x2, .int x3, mj_hole] [] Φ) := (wp_same xd31_0 (Or.inr rfl) rfl).trans (wm_cv (As := []) (rest := []) xd31_1 rfl rfl hp.1 (Nat.le_of_ble_eq_true rfl) (Nat.le_of_ble_eq_true rfl) (Nat.le_of_ble_eq_true rfl) (Nat.le_of_ble_eq_true rfl))
theorem x31_4 {p r : Nat} {x2 : Int32} {x3 : Int32} : wp Ln xs 31 4 [.ref p, .ref r, .int x2, .int x3, mj_hole] [] (u, ml_h m lm) Φ = wp Ln xs 31 7 [.ref p, .ref r, .int x2, .int x3, .int (nI 0)] [] (u, ml_h m lm) Φ := (wp_same (S' := [.int (nI 0)]) xd31_4 (Or.inr rfl) rfl).trans (wp_same (L' := [.ref p, .ref r, .int x2, .int x3, .int (nI 0)]) xd31_5 (Or.inr rfl) rfl)
theorem x31_7 {p r : Nat} {x2 : Int32} {x3 : Int32} {x4 : Int32} : wp Ln xs 31 7 [.ref p, .ref r, .int x2, .int x3, .int x4] [] (u, ml_h m lm) Φ = if x3 ≤ x4 then wp Ln xs 31 31 [.ref p, .ref r, .int x2, .int x3, .int x4] [] (u, ml_h m lm) Φ else wp Ln xs 31 13 [.ref p, .ref r, .int x2, .int x3, .int x4] [] (u, ml_h m lm) Φ := (wp_same xd31_7 (Or.inr rfl) rfl).trans ((wp_same xd31_9 (Or.inr rfl) rfl).trans (wx_icmp xd31_10 rfl rfl (x3 ≤ x4) mb_ge))
theorem x31_13 {p r : Nat} {x2 : Int32} {x3 : Int32} {x4 : Int32} : wp Ln xs 31 13 [.ref p, .ref r, .int x2, .int x3, .int x4] [] (u, ml_h m lm) Φ = wp Ln xs 13 0 [.ref r, .int (x2 + x4)] [] (u, ml_h m lm) (mk Ln xs 31 19 [.ref p, .ref r, .int x2, .int x3, .int x4] [.ref p] Φ) := (wp_same xd31_13 (Or.inr rfl) rfl).trans ((wp_same xd31_14 (Or.inr rfl) rfl).trans ((wp_same xd31_15 (Or.inr rfl) rfl).trans ((wp_same xd31_16 (Or.inr rfl) rfl).trans ((wp_same xd31_18 (Or.inr rfl) rfl).trans (wm_cs (As := [.ref r, .int (x2 + x4)]) (rest := [.ref p]) xd31_19 rfl rfl (Nat.le_of_ble_eq_true rfl) (Nat.le_of_ble_eq_true rfl) (Nat.le_of_ble_eq_true rfl) (Nat.le_of_ble_eq_true rfl))))))
theorem x31_22 {p r : Nat} {x2 : Int32} {x3 : Int32} {x4 : Int32} {xs0 : Int32} (hp : ml_sh p) : wp Ln xs 31 22 [.ref p, .ref r, .int x2, .int x3, .int x4] [.int xs0, .ref p] (u, ml_h m lm) Φ = wp Ln xs 33 0 [.ref p, .int xs0] [] (u, ml_h m lm) (mk Ln xs 31 22 [.ref p, .ref r, .int x2, .int x3, .int x4] [] Φ) := wm_cv (As := [.int xs0]) (rest := []) xd31_22 rfl rfl hp.1 (Nat.le_of_ble_eq_true rfl) (Nat.le_of_ble_eq_true rfl) (Nat.le_of_ble_eq_true rfl) (Nat.le_of_ble_eq_true rfl)
theorem x31_25 {p r : Nat} {x2 : Int32} {x3 : Int32} {x4 : Int32} : wp Ln xs 31 25 [.ref p, .ref r, .int x2, .int x3, .int x4] [] (u, ml_h m lm) Φ = wp Ln xs 31 7 [.ref p, .ref r, .int x2, .int x3, .int (x4 + nI 1)] [] (u, ml_h m lm) Φ := (wp_same (L' := [.ref p, .ref r, .int x2, .int x3, .int (x4 + nI 1)]) xd31_25 (Or.inr rfl) rfl).trans (wx_goto xd31_28 rfl)
theorem x31_31 {p r : Nat} {x2 : Int32} {x3 : Int32} {x4 : Int32} : wp Ln xs 31 31 [.ref p, .ref r, .int x2, .int x3, .int x4] [] (u, ml_h m lm) Φ = Φ (.inl none) (u, ml_h m lm) := wp_fin (v := none) xd31_31 (Or.inr rfl) rfl rfl
/- PickedForms$Shape.addUnlike -/
theorem xd35_0 : decode (mj_b 35) 0 = .ok (.iconst 0, 1) := by decide +kernel
theorem xd35_1 : decode (mj_b 35) 1 = .ok (.istore_n 2, 1) := by decide +kernel
theorem xd35_2 : decode (mj_b 35) 2 = .ok (.iconst 0, 1) := by decide +kernel
theorem xd35_3 : decode (mj_b 35) 3 = .ok (.istore_n 3, 1) := by decide +kernel
theorem xd35_4 : decode (mj_b 35) 4 = .ok (.iload_n 3, 1) := by decide +kernel
theorem xd35_5 : decode (mj_b 35) 5 = .ok (.aload_n 0, 1) := by decide +kernel
theorem xd35_6 : decode (mj_b 35) 6 = .ok (.getfield 15, 3) := by decide +kernel
theorem xd35_9 : decode (mj_b 35) 9 = .ok (.if_icmp .ge 42, 3) := by decide +kernel
theorem xd35_12 : decode (mj_b 35) 12 = .ok (.iload_n 3, 1) := by decide +kernel
theorem xd35_13 : decode (mj_b 35) 13 = .ok (.aload_n 0, 1) := by decide +kernel
theorem xd35_14 : decode (mj_b 35) 14 = .ok (.getfield 9, 3) := by decide +kernel
theorem xd35_17 : decode (mj_b 35) 17 = .ok (.arraylength, 1) := by decide +kernel
theorem xd35_18 : decode (mj_b 35) 18 = .ok (.if_icmp .ge 33, 3) := by decide +kernel
theorem xd35_21 : decode (mj_b 35) 21 = .ok (.aload_n 0, 1) := by decide +kernel
theorem xd35_22 : decode (mj_b 35) 22 = .ok (.getfield 9, 3) := by decide +kernel
theorem xd35_25 : decode (mj_b 35) 25 = .ok (.iload_n 3, 1) := by decide +kernel
theorem xd35_26 : decode (mj_b 35) 26 = .ok (.iaload, 1) := by decide +kernel
theorem xd35_27 : decode (mj_b 35) 27 = .ok (.iload_n 1, 1) := by decide +kernel
theorem xd35_28 : decode (mj_b 35) 28 = .ok (.if_icmp .ne 4, 3) := by decide +kernel
theorem xd35_31 : decode (mj_b 35) 31 = .ok (.return_, 1) := by decide +kernel
theorem xd35_32 : decode (mj_b 35) 32 = .ok (.aload_n 0, 1) := by decide +kernel
theorem xd35_33 : decode (mj_b 35) 33 = .ok (.getfield 9, 3) := by decide +kernel
theorem xd35_36 : decode (mj_b 35) 36 = .ok (.iload_n 3, 1) := by decide +kernel
theorem xd35_37 : decode (mj_b 35) 37 = .ok (.iaload, 1) := by decide +kernel
theorem xd35_38 : decode (mj_b 35) 38 = .ok (.iload_n 1, 1) := by decide +kernel
theorem xd35_39 : decode (mj_b 35) 39 = .ok (.if_icmp .ge 6, 3) := by decide +kernel
theorem xd35_42 : decode (mj_b 35) 42 = .ok (.iinc 2 1, 3) := by decide +kernel
theorem xd35_45 : decode (mj_b 35) 45 = .ok (.iinc 3 1, 3) := by decide +kernel
theorem xd35_48 : decode (mj_b 35) 48 = .ok (.goto (-44), 3) := by decide +kernel
theorem xd35_51 : decode (mj_b 35) 51 = .ok (.aload_n 0, 1) := by decide +kernel
theorem xd35_52 : decode (mj_b 35) 52 = .ok (.getfield 15, 3) := by decide +kernel
theorem xd35_55 : decode (mj_b 35) 55 = .ok (.aload_n 0, 1) := by decide +kernel
theorem xd35_56 : decode (mj_b 35) 56 = .ok (.getfield 9, 3) := by decide +kernel
theorem xd35_59 : decode (mj_b 35) 59 = .ok (.arraylength, 1) := by decide +kernel
theorem xd35_60 : decode (mj_b 35) 60 = .ok (.if_icmp .lt 4, 3) := by decide +kernel
theorem xd35_63 : decode (mj_b 35) 63 = .ok (.return_, 1) := by decide +kernel
theorem xd35_64 : decode (mj_b 35) 64 = .ok (.aload_n 0, 1) := by decide +kernel
theorem xd35_65 : decode (mj_b 35) 65 = .ok (.getfield 15, 3) := by decide +kernel
theorem xd35_68 : decode (mj_b 35) 68 = .ok (.istore_n 3, 1) := by decide +kernel
theorem xd35_69 : decode (mj_b 35) 69 = .ok (.iload_n 3, 1) := by decide +kernel
theorem xd35_70 : decode (mj_b 35) 70 = .ok (.iload_n 2, 1) := by decide +kernel
theorem xd35_71 : decode (mj_b 35) 71 = .ok (.if_icmp .le 23, 3) := by decide +kernel
theorem xd35_74 : decode (mj_b 35) 74 = .ok (.aload_n 0, 1) := by decide +kernel
theorem xd35_75 : decode (mj_b 35) 75 = .ok (.getfield 9, 3) := by decide +kernel
theorem xd35_78 : decode (mj_b 35) 78 = .ok (.iload_n 3, 1) := by decide +kernel
theorem xd35_79 : decode (mj_b 35) 79 = .ok (.aload_n 0, 1) := by decide +kernel
theorem xd35_80 : decode (mj_b 35) 80 = .ok (.getfield 9, 3) := by decide +kernel
theorem xd35_83 : decode (mj_b 35) 83 = .ok (.iload_n 3, 1) := by decide +kernel
theorem xd35_84 : decode (mj_b 35) 84 = .ok (.iconst 1, 1) := by decide +kernel
theorem xd35_85 : decode (mj_b 35) 85 = .ok (.isub, 1) := by decide +kernel
theorem xd35_86 : decode (mj_b 35) 86 = .ok (.iaload, 1) := by decide +kernel
theorem xd35_87 : decode (mj_b 35) 87 = .ok (.iastore, 1) := by decide +kernel
theorem xd35_88 : decode (mj_b 35) 88 = .ok (.iinc 3 (-1), 3) := by decide +kernel
theorem xd35_91 : decode (mj_b 35) 91 = .ok (.goto (-22), 3) := by decide +kernel
theorem xd35_94 : decode (mj_b 35) 94 = .ok (.aload_n 0, 1) := by decide +kernel
theorem xd35_95 : decode (mj_b 35) 95 = .ok (.getfield 9, 3) := by decide +kernel
theorem xd35_98 : decode (mj_b 35) 98 = .ok (.iload_n 2, 1) := by decide +kernel
theorem xd35_99 : decode (mj_b 35) 99 = .ok (.iload_n 1, 1) := by decide +kernel
theorem xd35_100 : decode (mj_b 35) 100 = .ok (.iastore, 1) := by decide +kernel
theorem xd35_101 : decode (mj_b 35) 101 = .ok (.aload_n 0, 1) := by decide +kernel
theorem xd35_102 : decode (mj_b 35) 102 = .ok (.dup, 1) := by decide +kernel
theorem xd35_103 : decode (mj_b 35) 103 = .ok (.getfield 15, 3) := by decide +kernel
theorem xd35_106 : decode (mj_b 35) 106 = .ok (.iconst 1, 1) := by decide +kernel
theorem xd35_107 : decode (mj_b 35) 107 = .ok (.iadd, 1) := by decide +kernel
theorem xd35_108 : decode (mj_b 35) 108 = .ok (.putfield 15, 3) := by decide +kernel
theorem xd35_111 : decode (mj_b 35) 111 = .ok (.return_, 1) := by decide +kernel
theorem x35_0 {p : Nat} {x1 : Int32} : wp Ln xs 35 0 [.ref p, .int x1, mj_hole, mj_hole] [] (u, ml_h m lm) Φ = wp Ln xs 35 4 [.ref p, .int x1, .int (nI 0), .int (nI 0)] [] (u, ml_h m lm) Φ := (wp_same (S' := [.int (nI 0)]) xd35_0 (Or.inr rfl) rfl).trans ((wp_same (L' := [.ref p, .int x1, .int (nI 0), mj_hole]) xd35_1 (Or.inr rfl) rfl).trans ((wp_same (S' := [.int (nI 0)]) xd35_2 (Or.inr rfl) rfl).trans (wp_same (L' := [.ref p, .int x1, .int (nI 0), .int (nI 0)]) xd35_3 (Or.inr rfl) rfl)))
theorem x35_4 {p : Nat} {x1 : Int32} {x2 : Int32} {x3 : Int32} (hp : ml_sh p) : wp Ln xs 35 4 [.ref p, .int x1, .int x2, .int x3] [] (u, ml_h m lm) Φ = if (m p 1) ≤ x3 then wp Ln xs 35 51 [.ref p, .int x1, .int x2, .int x3] [] (u, ml_h m lm) Φ else wp Ln xs 35 12 [.ref p, .int x1, .int x2, .int x3] [] (u, ml_h m lm) Φ := (wp_same xd35_4 (Or.inr rfl) rfl).trans ((wp_same xd35_5 (Or.inr rfl) rfl).trans ((wm_geti xd35_6 rfl hp.1 rfl (Nat.le_of_ble_eq_true rfl)).trans (wx_icmp xd35_9 rfl rfl ((m p 1) ≤ x3) mb_ge)))
theorem x35_12 {p : Nat} {x1 : Int32} {x2 : Int32} {x3 : Int32} (hp : ml_sh p) : wp Ln xs 35 12 [.ref p, .int x1, .int x2, .int x3] [] (u, ml_h m lm) Φ = if (nI 16) ≤ x3 then wp Ln xs 35 51 [.ref p, .int x1, .int x2, .int x3] [] (u, ml_h m lm) Φ else wp Ln xs 35 21 [.ref p, .int x1, .int x2, .int x3] [] (u, ml_h m lm) Φ := (wp_same xd35_12 (Or.inr rfl) rfl).trans ((wp_same xd35_13 (Or.inr rfl) rfl).trans ((wm_getr xd35_14 rfl hp.1 rfl (Nat.le_of_ble_eq_true rfl)).trans ((wm_alenk xd35_17 (ml_sh_ia hp) (Nat.succ_ne_zero _) (ml_sh_n hp)).trans (wx_icmp xd35_18 rfl rfl ((nI 16) ≤ x3) mb_ge))))
theorem x35_21 {p : Nat} {x1 : Int32} {x2 : Int32} {x3 : Int32} (hp : ml_sh p) : wp Ln xs 35 21 [.ref p, .int x1, .int x2, .int x3] [] (u, ml_h m lm) Φ = wp Ln xs 35 26 [.ref p, .int x1, .int x2, .int x3] [.int x3, .ref (p + 1)] (u, ml_h m lm) Φ := (wp_same xd35_21 (Or.inr rfl) rfl).trans ((wm_getr xd35_22 rfl hp.1 rfl (Nat.le_of_ble_eq_true rfl)).trans (wp_same xd35_25 (Or.inr rfl) rfl))
theorem x35_26 {p : Nat} {x1 : Int32} {x2 : Int32} {x3 : Int32} {k : Nat} (hp : ml_sh p) (hk : k < 16) : wp Ln xs 35 26 [.ref p, .int x1, .int x2, .int x3] [.int (nI k), .ref (p + 1)] (u, ml_h m lm) Φ = if ¬ (m (p + 1) k) = x1 then wp Ln xs 35 32 [.ref p, .int x1, .int x2, .int x3] [] (u, ml_h m lm) Φ else wp Ln xs 35 31 [.ref p, .int x1, .int x2, .int x3] [] (u, ml_h m lm) Φ := (wm_iald (k := k) xd35_26 (ml_sh_ia hp) (Nat.succ_ne_zero _) (show k < ml_n (p + 1) from (ml_sh_n hp).symm ▸ hk)).trans ((wp_same xd35_27 (Or.inr rfl) rfl).trans (wx_icmp xd35_28 rfl rfl (¬ (m (p + 1) k) = x1) mb_ne))
theorem x35_31 {p : Nat} {x1 : Int32} {x2 : Int32} {x3 : Int32} : wp Ln xs 35 31 [.ref p, .int x1, .int x2, .int x3] [] (u, ml_h m lm) Φ = Φ (.inl none) (u, ml_h m lm) := wp_fin (v := none) xd35_31 (Or.inr rfl) rfl rfl
theorem x35_32 {p : Nat} {x1 : Int32} {x2 : Int32} {x3 : Int32} (hp : ml_sh p) : wp Ln xs 35 32 [.ref p, .int x1, .int x2, .int x3] [] (u, ml_h m lm) Φ = wp Ln xs 35 37 [.ref p, .int x1, .int x2, .int x3] [.int x3, .ref (p + 1)] (u, ml_h m lm) Φ := (wp_same xd35_32 (Or.inr rfl) rfl).trans ((wm_getr xd35_33 rfl hp.1 rfl (Nat.le_of_ble_eq_true rfl)).trans (wp_same xd35_36 (Or.inr rfl) rfl))
theorem x35_37 {p : Nat} {x1 : Int32} {x2 : Int32} {x3 : Int32} {k : Nat} (hp : ml_sh p) (hk : k < 16) : wp Ln xs 35 37 [.ref p, .int x1, .int x2, .int x3] [.int (nI k), .ref (p + 1)] (u, ml_h m lm) Φ = if x1 ≤ (m (p + 1) k) then wp Ln xs 35 45 [.ref p, .int x1, .int x2, .int x3] [] (u, ml_h m lm) Φ else wp Ln xs 35 42 [.ref p, .int x1, .int x2, .int x3] [] (u, ml_h m lm) Φ := (wm_iald (k := k) xd35_37 (ml_sh_ia hp) (Nat.succ_ne_zero _) (show k < ml_n (p + 1) from (ml_sh_n hp).symm ▸ hk)).trans ((wp_same xd35_38 (Or.inr rfl) rfl).trans (wx_icmp xd35_39 rfl rfl (x1 ≤ (m (p + 1) k)) mb_ge))
theorem x35_42 {p : Nat} {x1 : Int32} {x2 : Int32} {x3 : Int32} : wp Ln xs 35 42 [.ref p, .int x1, .int x2, .int x3] [] (u, ml_h m lm) Φ = wp Ln xs 35 45 [.ref p, .int x1, .int (x2 + nI 1), .int x3] [] (u, ml_h m lm) Φ := wp_same (L' := [.ref p, .int x1, .int (x2 + nI 1), .int x3]) xd35_42 (Or.inr rfl) rfl
theorem x35_45 {p : Nat} {x1 : Int32} {x2 : Int32} {x3 : Int32} : wp Ln xs 35 45 [.ref p, .int x1, .int x2, .int x3] [] (u, ml_h m lm) Φ = wp Ln xs 35 4 [.ref p, .int x1, .int x2, .int (x3 + nI 1)] [] (u, ml_h m lm) Φ := (wp_same (L' := [.ref p, .int x1, .int x2, .int (x3 + nI 1)]) xd35_45 (Or.inr rfl) rfl).trans (wx_goto xd35_48 rfl)
theorem x35_51 {p : Nat} {x1 : Int32} {x2 : Int32} {x3 : Int32} (hp : ml_sh p) : wp Ln xs 35 51 [.ref p, .int x1, .int x2, .int x3] [] (u, ml_h m lm) Φ = if (m p 1) < (nI 16) then wp Ln xs 35 64 [.ref p, .int x1, .int x2, .int x3] [] (u, ml_h m lm) Φ else wp Ln xs 35 63 [.ref p, .int x1, .int x2, .int x3] [] (u, ml_h m lm) Φ := (wp_same xd35_51 (Or.inr rfl) rfl).trans ((wm_geti xd35_52 rfl hp.1 rfl (Nat.le_of_ble_eq_true rfl)).trans ((wp_same xd35_55 (Or.inr rfl) rfl).trans ((wm_getr xd35_56 rfl hp.1 rfl (Nat.le_of_ble_eq_true rfl)).trans ((wm_alenk xd35_59 (ml_sh_ia hp) (Nat.succ_ne_zero _) (ml_sh_n hp)).trans (wx_icmp xd35_60 rfl rfl ((m p 1) < (nI 16)) mb_lt)))))
theorem x35_63 {p : Nat} {x1 : Int32} {x2 : Int32} {x3 : Int32} : wp Ln xs 35 63 [.ref p, .int x1, .int x2, .int x3] [] (u, ml_h m lm) Φ = Φ (.inl none) (u, ml_h m lm) := wp_fin (v := none) xd35_63 (Or.inr rfl) rfl rfl
theorem x35_64 {p : Nat} {x1 : Int32} {x2 : Int32} {x3 : Int32} (hp : ml_sh p) : wp Ln xs 35 64 [.ref p, .int x1, .int x2, .int x3] [] (u, ml_h m lm) Φ = wp Ln xs 35 69 [.ref p, .int x1, .int x2, .int (m p 1)] [] (u, ml_h m lm) Φ := (wp_same xd35_64 (Or.inr rfl) rfl).trans ((wm_geti xd35_65 rfl hp.1 rfl (Nat.le_of_ble_eq_true rfl)).trans (wp_same (L' := [.ref p, .int x1, .int x2, .int (m p 1)]) xd35_68 (Or.inr rfl) rfl))
theorem x35_69 {p : Nat} {x1 : Int32} {x2 : Int32} {x3 : Int32} : wp Ln xs 35 69 [.ref p, .int x1, .int x2, .int x3] [] (u, ml_h m lm) Φ = if x3 ≤ x2 then wp Ln xs 35 94 [.ref p, .int x1, .int x2, .int x3] [] (u, ml_h m lm) Φ else wp Ln xs 35 74 [.ref p, .int x1, .int x2, .int x3] [] (u, ml_h m lm) Φ := (wp_same xd35_69 (Or.inr rfl) rfl).trans ((wp_same xd35_70 (Or.inr rfl) rfl).trans (wx_icmp xd35_71 rfl rfl (x3 ≤ x2) mb_le))
theorem x35_74 {p : Nat} {x1 : Int32} {x2 : Int32} {x3 : Int32} (hp : ml_sh p) : wp Ln xs 35 74 [.ref p, .int x1, .int x2, .int x3] [] (u, ml_h m lm) Φ = wp Ln xs 35 86 [.ref p, .int x1, .int x2, .int x3] [.int (x3 - (nI 1)), .ref (p + 1), .int x3, .ref (p + 1)] (u, ml_h m lm) Φ := (wp_same xd35_74 (Or.inr rfl) rfl).trans ((wm_getr xd35_75 rfl hp.1 rfl (Nat.le_of_ble_eq_true rfl)).trans ((wp_same xd35_78 (Or.inr rfl) rfl).trans ((wp_same xd35_79 (Or.inr rfl) rfl).trans ((wm_getr xd35_80 rfl hp.1 rfl (Nat.le_of_ble_eq_true rfl)).trans ((wp_same xd35_83 (Or.inr rfl) rfl).trans ((wp_same (S' := [.int (nI 1), .int x3, .ref (p + 1), .int x3, .ref (p + 1)]) xd35_84 (Or.inr rfl) rfl).trans (wp_same xd35_85 (Or.inr rfl) rfl)))))))
theorem x35_86 {p : Nat} {x1 : Int32} {x2 : Int32} {x3 : Int32} {k : Nat} {xs2 : Int32} (hp : ml_sh p) (hk : k < 16) : wp Ln xs 35 86 [.ref p, .int x1, .int x2, .int x3] [.int (nI k), .ref (p + 1), .int xs2, .ref (p + 1)] (u, ml_h m lm) Φ = wp Ln xs 35 87 [.ref p, .int x1, .int x2, .int x3] [.int (m (p + 1) k), .int xs2, .ref (p + 1)] (u, ml_h m lm) Φ := wm_iald (k := k) xd35_86 (ml_sh_ia hp) (Nat.succ_ne_zero _) (show k < ml_n (p + 1) from (ml_sh_n hp).symm ▸ hk)
theorem x35_87 {p : Nat} {x1 : Int32} {x2 : Int32} {x3 : Int32} {xs0 : Int32} {k : Nat} (hp : ml_sh p) (hk : k < 16) : wp Ln xs 35 87 [.ref p, .int x1, .int x2, .int x3] [.int xs0, .int (nI k), .ref (p + 1)] (u, ml_h m lm) Φ = wp Ln xs 35 69 [.ref p, .int x1, .int x2, .int (x3 + (-1))] [] (u, ml_h (ml_s m (p + 1) k xs0) lm) Φ := (wm_iast (k := k) xd35_87 (ml_sh_ia hp) (show k < ml_n (p + 1) from (ml_sh_n hp).symm ▸ hk)).trans ((wp_same (L' := [.ref p, .int x1, .int x2, .int (x3 + (-1))]) xd35_88 (Or.inr rfl) rfl).trans (wx_goto xd35_91 rfl))
theorem x35_94 {p : Nat} {x1 : Int32} {x2 : Int32} {x3 : Int32} (hp : ml_sh p) : wp Ln xs 35 94 [.ref p, .int x1, .int x2, .int x3] [] (u, ml_h m lm) Φ = wp Ln xs 35 100 [.ref p, .int x1, .int x2, .int x3] [.int x1, .int x2, .ref (p + 1)] (u, ml_h m lm) Φ := (wp_same xd35_94 (Or.inr rfl) rfl).trans ((wm_getr xd35_95 rfl hp.1 rfl (Nat.le_of_ble_eq_true rfl)).trans ((wp_same xd35_98 (Or.inr rfl) rfl).trans (wp_same xd35_99 (Or.inr rfl) rfl)))
theorem x35_100 {p : Nat} {x1 : Int32} {x2 : Int32} {x3 : Int32} {xs0 : Int32} {k : Nat} (hp : ml_sh p) (hk : k < 16) : wp Ln xs 35 100 [.ref p, .int x1, .int x2, .int x3] [.int xs0, .int (nI k), .ref (p + 1)] (u, ml_h m lm) Φ = Φ (.inl none) (u, ml_h (ml_s (ml_s m (p + 1) k xs0) p 1 (((ml_s m (p + 1) k xs0) p 1) + (nI 1))) lm) := (wm_iast (k := k) xd35_100 (ml_sh_ia hp) (show k < ml_n (p + 1) from (ml_sh_n hp).symm ▸ hk)).trans ((wp_same xd35_101 (Or.inr rfl) rfl).trans ((wp_same xd35_102 (Or.inr rfl) rfl).trans ((wm_geti xd35_103 rfl hp.1 rfl (Nat.le_of_ble_eq_true rfl)).trans ((wp_same (S' := [.int (nI 1), .int ((ml_s m (p + 1) k xs0) p 1), .ref p]) xd35_106 (Or.inr rfl) rfl).trans ((wp_same xd35_107 (Or.inr rfl) rfl).trans ((wm_puti xd35_108 rfl hp.1 rfl (Nat.le_of_ble_eq_true rfl) rfl rfl rfl).trans (wp_fin (v := none) xd35_111 (Or.inr rfl) rfl rfl)))))))
/- PickedFormsLaw.write -/
theorem xd81_0 : decode (mj_b 81) 0 = .ok (.aload_n 2, 1) := by decide +kernel
theorem xd81_1 : decode (mj_b 81) 1 = .ok (.iconst 0, 1) := by decide +kernel
theorem xd81_2 : decode (mj_b 81) 2 = .ok (.aload_n 0, 1) := by decide +kernel
theorem xd81_3 : decode (mj_b 81) 3 = .ok (.iload_n 1, 1) := by decide +kernel
theorem xd81_4 : decode (mj_b 81) 4 = .ok (.invokevirtual 7, 3) := by decide +kernel
theorem xd81_7 : decode (mj_b 81) 7 = .ok (.i2l, 1) := by decide +kernel
theorem xd81_8 : decode (mj_b 81) 8 = .ok (.lastore, 1) := by decide +kernel
theorem xd81_9 : decode (mj_b 81) 9 = .ok (.goto 9, 3) := by decide +kernel
theorem xd81_13 : decode (mj_b 81) 13 = .ok (.iconst 1, 1) := by decide +kernel
theorem xd81_14 : decode (mj_b 81) 14 = .ok (.ireturn, 1) := by decide +kernel
theorem xd81_16 : decode (mj_b 81) 16 = .ok (.iconst 2, 1) := by decide +kernel
theorem xd81_17 : decode (mj_b 81) 17 = .ok (.ireturn, 1) := by decide +kernel
theorem xd81_18 : decode (mj_b 81) 18 = .ok (.iconst 0, 1) := by decide +kernel
theorem xd81_19 : decode (mj_b 81) 19 = .ok (.ireturn, 1) := by decide +kernel
theorem x81_0 {x1 : Int32} : wp Ln xs 81 0 [.ref 1, .int x1, .ref 81, mj_hole] [] (u, ml_h m lm) Φ = wp Ln xs 82 0 [.ref 1, .int x1] [] (u, ml_h m lm) (mk Ln xs 81 4 [.ref 1, .int x1, .ref 81, mj_hole] [.int (nI 0), .ref 81] Φ) := (wp_same xd81_0 (Or.inr rfl) rfl).trans ((wp_same (S' := [.int (nI 0), .ref 81]) xd81_1 (Or.inr rfl) rfl).trans ((wp_same xd81_2 (Or.inr rfl) rfl).trans ((wp_same xd81_3 (Or.inr rfl) rfl).trans (wm_cv (As := [.int x1]) (rest := [.int (nI 0), .ref 81]) xd81_4 rfl rfl (show ml_L[1]? = _ from rfl) (Nat.le_of_ble_eq_true rfl) (Nat.le_of_ble_eq_true rfl) (Nat.le_of_ble_eq_true rfl) (Nat.le_of_ble_eq_true rfl)))))
theorem x81_7 {x1 : Int32} {xs0 : Int32} {xs1 : Int32} : wp Ln xs 81 7 [.ref 1, .int x1, .ref 81, mj_hole] [.int xs0, .int xs1, .ref 81] (u, ml_h m lm) Φ = wp Ln xs 81 8 [.ref 1, .int x1, .ref 81, mj_hole] [.long xs0.toInt64, .int xs1, .ref 81] (u, ml_h m lm) Φ := wp_same xd81_7 (Or.inr rfl) rfl
theorem x81_8 {x1 : Int32} {ys0 : Int64} {k : Nat} (hk : k < 1) : wp Ln xs 81 8 [.ref 1, .int x1, .ref 81, mj_hole] [.long ys0, .int (nI k), .ref 81] (u, ml_h m lm) Φ = wp Ln xs 81 18 [.ref 1, .int x1, .ref 81, mj_hole] [] (u, ml_h m (ml_sj lm 81 k ys0)) Φ := (wm_last (k := k) xd81_8 rfl hk (by decide)).trans (wx_goto xd81_9 rfl)
theorem x81_13 {x1 : Int32} : wp Ln xs 81 13 [.ref 1, .int x1, .ref 81, mj_hole] [] (u, ml_h m lm) Φ = Φ (.inl (some (.int (nI 1)))) (u, ml_h m lm) := (wp_same (S' := [.int (nI 1)]) xd81_13 (Or.inr rfl) rfl).trans (wp_fin (v := some (.int (nI 1))) xd81_14 (Or.inr rfl) rfl (mj_fin_i rfl))
theorem x81_16 {x1 : Int32} : wp Ln xs 81 16 [.ref 1, .int x1, .ref 81, mj_hole] [] (u, ml_h m lm) Φ = Φ (.inl (some (.int (nI 2)))) (u, ml_h m lm) := (wp_same (S' := [.int (nI 2)]) xd81_16 (Or.inr rfl) rfl).trans (wp_fin (v := some (.int (nI 2))) xd81_17 (Or.inr rfl) rfl (mj_fin_i rfl))
theorem x81_18 {x1 : Int32} : wp Ln xs 81 18 [.ref 1, .int x1, .ref 81, mj_hole] [] (u, ml_h m lm) Φ = Φ (.inl (some (.int (nI 0)))) (u, ml_h m lm) := (wp_same (S' := [.int (nI 0)]) xd81_18 (Or.inr rfl) rfl).trans (wp_fin (v := some (.int (nI 0))) xd81_19 (Or.inr rfl) rfl (mj_fin_i rfl))
/- PickedForms$History.push -/
theorem xd85_0 : decode (mj_b 85) 0 = .ok (.aload_n 0, 1) := by decide +kernel
theorem xd85_1 : decode (mj_b 85) 1 = .ok (.aload_n 0, 1) := by decide +kernel
theorem xd85_2 : decode (mj_b 85) 2 = .ok (.getfield 17, 3) := by decide +kernel
theorem xd85_5 : decode (mj_b 85) 5 = .ok (.aload_n 0, 1) := by decide +kernel
theorem xd85_6 : decode (mj_b 85) 6 = .ok (.getfield 21, 3) := by decide +kernel
theorem xd85_9 : decode (mj_b 85) 9 = .ok (.iadd, 1) := by decide +kernel
theorem xd85_10 : decode (mj_b 85) 10 = .ok (.invokevirtual 25, 3) := by decide +kernel
theorem xd85_13 : decode (mj_b 85) 13 = .ok (.astore_n 2, 1) := by decide +kernel
theorem xd85_14 : decode (mj_b 85) 14 = .ok (.aload_n 2, 1) := by decide +kernel
theorem xd85_15 : decode (mj_b 85) 15 = .ok (.ifnull 8, 3) := by decide +kernel
theorem xd85_18 : decode (mj_b 85) 18 = .ok (.aload_n 2, 1) := by decide +kernel
theorem xd85_19 : decode (mj_b 85) 19 = .ok (.aload_n 1, 1) := by decide +kernel
theorem xd85_20 : decode (mj_b 85) 20 = .ok (.invokevirtual 29, 3) := by decide +kernel
theorem xd85_23 : decode (mj_b 85) 23 = .ok (.aload_n 0, 1) := by decide +kernel
theorem xd85_24 : decode (mj_b 85) 24 = .ok (.getfield 21, 3) := by decide +kernel
theorem xd85_27 : decode (mj_b 85) 27 = .ok (.bipush 6, 2) := by decide +kernel
theorem xd85_29 : decode (mj_b 85) 29 = .ok (.if_icmp .ge 16, 3) := by decide +kernel
theorem xd85_32 : decode (mj_b 85) 32 = .ok (.aload_n 0, 1) := by decide +kernel
theorem xd85_33 : decode (mj_b 85) 33 = .ok (.dup, 1) := by decide +kernel
theorem xd85_34 : decode (mj_b 85) 34 = .ok (.getfield 21, 3) := by decide +kernel
theorem xd85_37 : decode (mj_b 85) 37 = .ok (.iconst 1, 1) := by decide +kernel
theorem xd85_38 : decode (mj_b 85) 38 = .ok (.iadd, 1) := by decide +kernel
theorem xd85_39 : decode (mj_b 85) 39 = .ok (.putfield 21, 3) := by decide +kernel
theorem xd85_42 : decode (mj_b 85) 42 = .ok (.goto 16, 3) := by decide +kernel
theorem xd85_45 : decode (mj_b 85) 45 = .ok (.aload_n 0, 1) := by decide +kernel
theorem xd85_46 : decode (mj_b 85) 46 = .ok (.aload_n 0, 1) := by decide +kernel
theorem xd85_47 : decode (mj_b 85) 47 = .ok (.getfield 17, 3) := by decide +kernel
theorem xd85_50 : decode (mj_b 85) 50 = .ok (.iconst 1, 1) := by decide +kernel
theorem xd85_51 : decode (mj_b 85) 51 = .ok (.iadd, 1) := by decide +kernel
theorem xd85_52 : decode (mj_b 85) 52 = .ok (.bipush 6, 2) := by decide +kernel
theorem xd85_54 : decode (mj_b 85) 54 = .ok (.irem, 1) := by decide +kernel
theorem xd85_55 : decode (mj_b 85) 55 = .ok (.putfield 17, 3) := by decide +kernel
theorem xd85_58 : decode (mj_b 85) 58 = .ok (.return_, 1) := by decide +kernel
theorem x85_0 : wp Ln xs 85 0 [.ref 14, .ref 2, mj_hole] [] (u, ml_h m lm) Φ = wp Ln xs 86 0 [.ref 14, .int ((m 14 1) + (m 14 2)), mj_hole] [] (u, ml_h m lm) (mk Ln xs 85 10 [.ref 14, .ref 2, mj_hole] [] Φ) := (wp_same xd85_0 (Or.inr rfl) rfl).trans ((wp_same xd85_1 (Or.inr rfl) rfl).trans ((wm_geti xd85_2 rfl (show ml_L[14]? = _ from rfl) rfl (Nat.le_of_ble_eq_true rfl)).trans ((wp_same xd85_5 (Or.inr rfl) rfl).trans ((wm_geti xd85_6 rfl (show ml_L[14]? = _ from rfl) rfl (Nat.le_of_ble_eq_true rfl)).trans ((wp_same xd85_9 (Or.inr rfl) rfl).trans (wm_cv (As := [.int ((m 14 1) + (m 14 2))]) (rest := []) xd85_10 rfl rfl (show ml_L[14]? = _ from rfl) (Nat.le_of_ble_eq_true rfl) (Nat.le_of_ble_eq_true rfl) (Nat.le_of_ble_eq_true rfl) (Nat.le_of_ble_eq_true rfl)))))))
theorem x85_13 {rs0 : Nat} (hrs0 : ml_co rs0) : wp Ln xs 85 13 [.ref 14, .ref 2, mj_hole] [.ref rs0] (u, ml_h m lm) Φ = wp Ln xs 18 0 [.ref rs0, .ref 2] [] (u, ml_h m lm) (mk Ln xs 85 20 [.ref 14, .ref 2, .ref rs0] [] Φ) := (wp_same (L' := [.ref 14, .ref 2, .ref rs0]) xd85_13 (Or.inr rfl) rfl).trans ((wp_same xd85_14 (Or.inr rfl) rfl).trans ((wp_same xd85_15 (Or.inr rfl) rfl).trans ((wp_same xd85_18 (Or.inr rfl) rfl).trans ((wp_same xd85_19 (Or.inr rfl) rfl).trans (wm_cv (As := [.ref 2]) (rest := []) xd85_20 rfl rfl hrs0.1 (Nat.le_of_ble_eq_true rfl) (Nat.le_of_ble_eq_true rfl) (Nat.le_of_ble_eq_true rfl) (Nat.le_of_ble_eq_true rfl))))))
theorem x85_23 {r2 : Nat} : wp Ln xs 85 23 [.ref 14, .ref 2, .ref r2] [] (u, ml_h m lm) Φ = if (nI 6) ≤ (m 14 2) then wp Ln xs 85 45 [.ref 14, .ref 2, .ref r2] [] (u, ml_h m lm) Φ else wp Ln xs 85 32 [.ref 14, .ref 2, .ref r2] [] (u, ml_h m lm) Φ := (wp_same xd85_23 (Or.inr rfl) rfl).trans ((wm_geti xd85_24 rfl (show ml_L[14]? = _ from rfl) rfl (Nat.le_of_ble_eq_true rfl)).trans ((wp_same (S' := [.int (nI 6), .int (m 14 2)]) xd85_27 (Or.inr rfl) rfl).trans (wx_icmp xd85_29 rfl rfl ((nI 6) ≤ (m 14 2)) mb_ge)))
theorem x85_32 {r2 : Nat} : wp Ln xs 85 32 [.ref 14, .ref 2, .ref r2] [] (u, ml_h m lm) Φ = Φ (.inl none) (u, ml_h (ml_s m 14 2 ((m 14 2) + (nI 1))) lm) := (wp_same xd85_32 (Or.inr rfl) rfl).trans ((wp_same xd85_33 (Or.inr rfl) rfl).trans ((wm_geti xd85_34 rfl (show ml_L[14]? = _ from rfl) rfl (Nat.le_of_ble_eq_true rfl)).trans ((wp_same (S' := [.int (nI 1), .int (m 14 2), .ref 14]) xd85_37 (Or.inr rfl) rfl).trans ((wp_same xd85_38 (Or.inr rfl) rfl).trans ((wm_puti xd85_39 rfl (show ml_L[14]? = _ from rfl) rfl (Nat.le_of_ble_eq_true rfl) rfl rfl rfl).trans ((wx_goto xd85_42 rfl).trans (wp_fin (v := none) xd85_58 (Or.inr rfl) rfl rfl)))))))
theorem x85_45 {r2 : Nat} : wp Ln xs 85 45 [.ref 14, .ref 2, .ref r2] [] (u, ml_h m lm) Φ = Φ (.inl none) (u, ml_h (ml_s m 14 1 (((m 14 1) + (nI 1)) - ((m 14 1) + (nI 1)) / (nI 6) * (nI 6))) lm) := (wp_same xd85_45 (Or.inr rfl) rfl).trans ((wp_same xd85_46 (Or.inr rfl) rfl).trans ((wm_geti xd85_47 rfl (show ml_L[14]? = _ from rfl) rfl (Nat.le_of_ble_eq_true rfl)).trans ((wp_same (S' := [.int (nI 1), .int (m 14 1), .ref 14]) xd85_50 (Or.inr rfl) rfl).trans ((wp_same xd85_51 (Or.inr rfl) rfl).trans ((wp_same (S' := [.int (nI 6), .int ((m 14 1) + (nI 1)), .ref 14]) xd85_52 (Or.inr rfl) rfl).trans ((wp_same xd85_54 (Or.inr rfl) rfl).trans ((wm_puti xd85_55 rfl (show ml_L[14]? = _ from rfl) rfl (Nat.le_of_ble_eq_true rfl) rfl rfl rfl).trans (wp_fin (v := none) xd85_58 (Or.inr rfl) rfl rfl))))))))
/- PickedForms$History.slotAt -/
theorem xd86_0 : decode (mj_b 86) 0 = .ok (.iload_n 1, 1) := by decide +kernel
theorem xd86_1 : decode (mj_b 86) 1 = .ok (.bipush 6, 2) := by decide +kernel
theorem xd86_3 : decode (mj_b 86) 3 = .ok (.irem, 1) := by decide +kernel
theorem xd86_4 : decode (mj_b 86) 4 = .ok (.istore_n 2, 1) := by decide +kernel
theorem xd86_5 : decode (mj_b 86) 5 = .ok (.iload_n 2, 1) := by decide +kernel
theorem xd86_6 : decode (mj_b 86) 6 = .ok (.ifCond .lt 21, 3) := by decide +kernel
theorem xd86_9 : decode (mj_b 86) 9 = .ok (.iload_n 2, 1) := by decide +kernel
theorem xd86_10 : decode (mj_b 86) 10 = .ok (.aload_n 0, 1) := by decide +kernel
theorem xd86_11 : decode (mj_b 86) 11 = .ok (.getfield 11, 3) := by decide +kernel
theorem xd86_14 : decode (mj_b 86) 14 = .ok (.arraylength, 1) := by decide +kernel
theorem xd86_15 : decode (mj_b 86) 15 = .ok (.if_icmp .ge 12, 3) := by decide +kernel
theorem xd86_18 : decode (mj_b 86) 18 = .ok (.aload_n 0, 1) := by decide +kernel
theorem xd86_19 : decode (mj_b 86) 19 = .ok (.getfield 11, 3) := by decide +kernel
theorem xd86_22 : decode (mj_b 86) 22 = .ok (.iload_n 2, 1) := by decide +kernel
theorem xd86_23 : decode (mj_b 86) 23 = .ok (.aaload, 1) := by decide +kernel
theorem xd86_24 : decode (mj_b 86) 24 = .ok (.goto 4, 3) := by decide +kernel
theorem xd86_27 : decode (mj_b 86) 27 = .ok (.aconst_null, 1) := by decide +kernel
theorem xd86_28 : decode (mj_b 86) 28 = .ok (.areturn, 1) := by decide +kernel
theorem x86_0 {x1 : Int32} : wp Ln xs 86 0 [.ref 14, .int x1, mj_hole] [] (u, ml_h m lm) Φ = if (x1 - x1 / (nI 6) * (nI 6)) < (nI 0) then wp Ln xs 86 27 [.ref 14, .int x1, .int (x1 - x1 / (nI 6) * (nI 6))] [] (u, ml_h m lm) Φ else wp Ln xs 86 9 [.ref 14, .int x1, .int (x1 - x1 / (nI 6) * (nI 6))] [] (u, ml_h m lm) Φ := (wp_same xd86_0 (Or.inr rfl) rfl).trans ((wp_same (S' := [.int (nI 6), .int x1]) xd86_1 (Or.inr rfl) rfl).trans ((wp_same xd86_3 (Or.inr rfl) rfl).trans ((wp_same (L' := [.ref 14, .int x1, .int (x1 - x1 / (nI 6) * (nI 6))]) xd86_4 (Or.inr rfl) rfl).trans ((wp_same xd86_5 (Or.inr rfl) rfl).trans (wx_if xd86_6 rfl rfl ((x1 - x1 / (nI 6) * (nI 6)) < (nI 0)) mb_lt)))))
theorem x86_9 {x1 : Int32} {x2 : Int32} : wp Ln xs 86 9 [.ref 14, .int x1, .int x2] [] (u, ml_h m lm) Φ = if (nI 6) ≤ x2 then wp Ln xs 86 27 [.ref 14, .int x1, .int x2] [] (u, ml_h m lm) Φ else wp Ln xs 86 18 [.ref 14, .int x1, .int x2] [] (u, ml_h m lm) Φ := (wp_same xd86_9 (Or.inr rfl) rfl).trans ((wp_same xd86_10 (Or.inr rfl) rfl).trans ((wm_getr xd86_11 rfl (show ml_L[14]? = _ from rfl) rfl (Nat.le_of_ble_eq_true rfl)).trans ((wm_alenq xd86_14 rfl (by decide)).trans (wx_icmp xd86_15 rfl rfl ((nI 6) ≤ x2) mb_ge))))
theorem x86_18 {x1 : Int32} {x2 : Int32} : wp Ln xs 86 18 [.ref 14, .int x1, .int x2] [] (u, ml_h m lm) Φ = wp Ln xs 86 23 [.ref 14, .int x1, .int x2] [.int x2, .ref 15] (u, ml_h m lm) Φ := (wp_same xd86_18 (Or.inr rfl) rfl).trans ((wm_getr xd86_19 rfl (show ml_L[14]? = _ from rfl) rfl (Nat.le_of_ble_eq_true rfl)).trans (wp_same xd86_22 (Or.inr rfl) rfl))
theorem x86_23 {x1 : Int32} {x2 : Int32} {k : Nat} (hk : k < 6) : wp Ln xs 86 23 [.ref 14, .int x1, .int x2] [.int (nI k), .ref 15] (u, ml_h m lm) Φ = Φ (.inl (some (.ref (16 + 6 * k)))) (u, ml_h m lm) := (wm_aald xd86_23 rfl hk).trans ((wx_goto xd86_24 rfl).trans (wp_fin (v := some (.ref (16 + 6 * k))) xd86_28 (Or.inr rfl) rfl rfl))
/- PickedFormsModel.allBits -/
theorem xd216_0 : decode (mj_b 216) 0 = .ok (.bipush 10, 2) := by decide +kernel
theorem xd216_2 : decode (mj_b 216) 2 = .ok (.aload_n 0, 1) := by decide +kernel
theorem xd216_3 : decode (mj_b 216) 3 = .ok (.getfield 7, 3) := by decide +kernel
theorem xd216_6 : decode (mj_b 216) 6 = .ok (.iconst 1, 1) := by decide +kernel
theorem xd216_7 : decode (mj_b 216) 7 = .ok (.iaload, 1) := by decide +kernel
theorem xd216_8 : decode (mj_b 216) 8 = .ok (.imul, 1) := by decide +kernel
theorem xd216_9 : decode (mj_b 216) 9 = .ok (.istore_n 1, 1) := by decide +kernel
theorem xd216_10 : decode (mj_b 216) 10 = .ok (.iconst 0, 1) := by decide +kernel
theorem xd216_11 : decode (mj_b 216) 11 = .ok (.istore_n 2, 1) := by decide +kernel
theorem xd216_12 : decode (mj_b 216) 12 = .ok (.iload_n 2, 1) := by decide +kernel
theorem xd216_13 : decode (mj_b 216) 13 = .ok (.aload_n 0, 1) := by decide +kernel
theorem xd216_14 : decode (mj_b 216) 14 = .ok (.getfield 7, 3) := by decide +kernel
theorem xd216_17 : decode (mj_b 216) 17 = .ok (.iconst 0, 1) := by decide +kernel
theorem xd216_18 : decode (mj_b 216) 18 = .ok (.iaload, 1) := by decide +kernel
theorem xd216_19 : decode (mj_b 216) 19 = .ok (.if_icmp .ge 24, 3) := by decide +kernel
theorem xd216_22 : decode (mj_b 216) 22 = .ok (.iload_n 1, 1) := by decide +kernel
theorem xd216_23 : decode (mj_b 216) 23 = .ok (.aload_n 0, 1) := by decide +kernel
theorem xd216_24 : decode (mj_b 216) 24 = .ok (.getfield 7, 3) := by decide +kernel
theorem xd216_27 : decode (mj_b 216) 27 = .ok (.bipush 31, 2) := by decide +kernel
theorem xd216_29 : decode (mj_b 216) 29 = .ok (.iload_n 2, 1) := by decide +kernel
theorem xd216_30 : decode (mj_b 216) 30 = .ok (.iadd, 1) := by decide +kernel
theorem xd216_31 : decode (mj_b 216) 31 = .ok (.iaload, 1) := by decide +kernel
theorem xd216_32 : decode (mj_b 216) 32 = .ok (.bipush 7, 2) := by decide +kernel
theorem xd216_34 : decode (mj_b 216) 34 = .ok (.iadd, 1) := by decide +kernel
theorem xd216_35 : decode (mj_b 216) 35 = .ok (.iadd, 1) := by decide +kernel
theorem xd216_36 : decode (mj_b 216) 36 = .ok (.istore_n 1, 1) := by decide +kernel
theorem xd216_37 : decode (mj_b 216) 37 = .ok (.iinc 2 1, 3) := by decide +kernel
theorem xd216_40 : decode (mj_b 216) 40 = .ok (.goto (-28), 3) := by decide +kernel
theorem xd216_43 : decode (mj_b 216) 43 = .ok (.iload_n 1, 1) := by decide +kernel
theorem xd216_44 : decode (mj_b 216) 44 = .ok (.ireturn, 1) := by decide +kernel
theorem x216_0 : wp Ln xs 216 0 [.ref 72, mj_hole, mj_hole] [] (u, ml_h m lm) Φ = wp Ln xs 216 12 [.ref 72, .int ((nI 10) * (m 73 1)), .int (nI 0)] [] (u, ml_h m lm) Φ := (wp_same (S' := [.int (nI 10)]) xd216_0 (Or.inr rfl) rfl).trans ((wp_same xd216_2 (Or.inr rfl) rfl).trans ((wm_getr xd216_3 rfl (show ml_L[72]? = _ from rfl) rfl (Nat.le_of_ble_eq_true rfl)).trans ((wp_same (S' := [.int (nI 1), .ref 73, .int (nI 10)]) xd216_6 (Or.inr rfl) rfl).trans ((wm_iald (k := 1) xd216_7 ml_ia_73 (by decide) (Nat.le_of_ble_eq_true rfl)).trans ((wp_same xd216_8 (Or.inr rfl) rfl).trans ((wp_same (L' := [.ref 72, .int ((nI 10) * (m 73 1)), mj_hole]) xd216_9 (Or.inr rfl) rfl).trans ((wp_same (S' := [.int (nI 0)]) xd216_10 (Or.inr rfl) rfl).trans (wp_same (L' := [.ref 72, .int ((nI 10) * (m 73 1)), .int (nI 0)]) xd216_11 (Or.inr rfl) rfl))))))))
theorem x216_12 {x1 : Int32} {x2 : Int32} : wp Ln xs 216 12 [.ref 72, .int x1, .int x2] [] (u, ml_h m lm) Φ = if (m 73 0) ≤ x2 then wp Ln xs 216 43 [.ref 72, .int x1, .int x2] [] (u, ml_h m lm) Φ else wp Ln xs 216 22 [.ref 72, .int x1, .int x2] [] (u, ml_h m lm) Φ := (wp_same xd216_12 (Or.inr rfl) rfl).trans ((wp_same xd216_13 (Or.inr rfl) rfl).trans ((wm_getr xd216_14 rfl (show ml_L[72]? = _ from rfl) rfl (Nat.le_of_ble_eq_true rfl)).trans ((wp_same (S' := [.int (nI 0), .ref 73, .int x2]) xd216_17 (Or.inr rfl) rfl).trans ((wm_iald (k := 0) xd216_18 ml_ia_73 (by decide) (Nat.le_of_ble_eq_true rfl)).trans (wx_icmp xd216_19 rfl rfl ((m 73 0) ≤ x2) mb_ge)))))
theorem x216_22 {x1 : Int32} {x2 : Int32} : wp Ln xs 216 22 [.ref 72, .int x1, .int x2] [] (u, ml_h m lm) Φ = wp Ln xs 216 31 [.ref 72, .int x1, .int x2] [.int ((nI 31) + x2), .ref 73, .int x1] (u, ml_h m lm) Φ := (wp_same xd216_22 (Or.inr rfl) rfl).trans ((wp_same xd216_23 (Or.inr rfl) rfl).trans ((wm_getr xd216_24 rfl (show ml_L[72]? = _ from rfl) rfl (Nat.le_of_ble_eq_true rfl)).trans ((wp_same (S' := [.int (nI 31), .ref 73, .int x1]) xd216_27 (Or.inr rfl) rfl).trans ((wp_same xd216_29 (Or.inr rfl) rfl).trans (wp_same xd216_30 (Or.inr rfl) rfl)))))
theorem x216_31 {x1 : Int32} {x2 : Int32} {k : Nat} {xs2 : Int32} (hk : k < 251) : wp Ln xs 216 31 [.ref 72, .int x1, .int x2] [.int (nI k), .ref 73, .int xs2] (u, ml_h m lm) Φ = wp Ln xs 216 12 [.ref 72, .int (xs2 + ((m 73 k) + (nI 7))), .int (x2 + nI 1)] [] (u, ml_h m lm) Φ := (wm_iald (k := k) xd216_31 ml_ia_73 (by decide) hk).trans ((wp_same (S' := [.int (nI 7), .int (m 73 k), .int xs2]) xd216_32 (Or.inr rfl) rfl).trans ((wp_same xd216_34 (Or.inr rfl) rfl).trans ((wp_same xd216_35 (Or.inr rfl) rfl).trans ((wp_same (L' := [.ref 72, .int (xs2 + ((m 73 k) + (nI 7))), .int x2]) xd216_36 (Or.inr rfl) rfl).trans ((wp_same (L' := [.ref 72, .int (xs2 + ((m 73 k) + (nI 7))), .int (x2 + nI 1)]) xd216_37 (Or.inr rfl) rfl).trans (wx_goto xd216_40 rfl))))))
theorem x216_43 {x1 : Int32} {x2 : Int32} : wp Ln xs 216 43 [.ref 72, .int x1, .int x2] [] (u, ml_h m lm) Φ = Φ (.inl (some (.int x1))) (u, ml_h m lm) := (wp_same xd216_43 (Or.inr rfl) rfl).trans (wp_fin (v := some (.int x1)) xd216_44 (Or.inr rfl) rfl (mj_fin_i rfl))
end MXa
end
