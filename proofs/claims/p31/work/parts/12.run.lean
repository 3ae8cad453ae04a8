/-! ===== calls, and the run whole ===== -/
theorem mj_hdl_lt : ∀ q ∈ mj_hdl, q.2.2 < mj_E.length := by decide +kernel
theorem mj_hrow0 : ∀ i, i < mj_mH.length → ∀ q ∈ mj_h i, q.2.2.2 ≠ 0 ∧ (mj_rh (mj_o i) q.2.2.2).isSome = true := by decide +kernel
theorem mj_hrow {i : Nat} {q : Nat × Nat × Nat × Nat} (h : q ∈ mj_h i) : q.2.2.2 ≠ 0 ∧ ∃ E, mj_rh (mj_o i) q.2.2.2 = some E := by
  by_cases hi : i < mj_mH.length
  · obtain ⟨h1, h2⟩ := mj_hrow0 i hi q h
    exact ⟨h1, Option.isSome_iff_exists.mp h2⟩
  · exfalso
    unfold mj_h at h
    rw [List.getD_eq_getElem?_getD, List.getElem?_eq_none (Nat.not_lt.mp hi)] at h
    cases h
theorem mj_h0 {i : Nat} {q : Nat × Nat × Nat × Nat} (h : q ∈ mj_h i) : i ≠ 0 := by
  rintro rfl
  rw [show mj_h 0 = [] from by decide +kernel] at h
  cases h
theorem mj_lr.st1h {B b : Nat} {ls : Array Slot} {nL i : Nat} {L : List Value} {v' : Value} (h : lv_has ls nL ((i, v') :: (mj_lv B b L).filter (fun q => !(q.1 == i) && !(q.1 + 1 == i && q.2.category == 2)))) : mj_lr B b ls nL (mj_st1 L i mj_hole) := by
  refine mj_lr.of h fun q hq => ?_
  obtain ⟨u, h1, h2, h3⟩ := mj_lv_mem.mp hq
  rcases mj_st1_get L i q.1 mj_hole u h1 with ⟨e1, e2⟩ | ⟨e1, u0, e2, e3⟩
  · rw [e2] at h2
    cases h2
  · refine List.mem_cons_of_mem _ (List.mem_filter.mpr ?_)
    have hu : u = u0 ∧ ¬ (q.1 + 1 = i ∧ u.category = 2) := by
      rcases e3 with ⟨e4, e5⟩ | ⟨e4, e5⟩
      · rw [e5] at h2
        obtain ⟨g1, g2⟩ := mj_hol_ish h2
        rw [e5, g2]
        exact ⟨rfl, fun z => g1 z.2⟩
      · exact ⟨e5, fun z => e4 z.1⟩
    refine ⟨mj_lv_mem.mpr ⟨u0, e2, hu.1 ▸ h2, hu.1 ▸ h3⟩, ?_⟩
    rw [h3, mj_tv_cat]
    have hn := hu.2
    simp only [Bool.and_eq_true, Bool.not_eq_true', beq_eq_false_iff_ne, Bool.and_eq_false_iff, ne_eq]
    refine ⟨e1, ?_⟩
    by_cases z : q.1 + 1 = i
    · exact Or.inr (fun y => hn ⟨z, y⟩)
    · exact Or.inl z
section MJC
variable {Ln : Nat} {xs : Nat → Int32} {B b : Nat} {tys : List (ClassId × FieldType)} {D : va_G} {OH : Nat → Option Cell}
variable {p : Program} {l : Launch} {e : Env} {R : Room} {s : State} {m : MethodId} {args : Array Value} {below : List Frame} {meth : Method} {c : Code} {H : Heap} {locs : List Loc} {cells slots : Nat} {Q : State → Prop} {ls : Array Slot}
theorem mj_goes {pc mc ms : Nat} {st0 rest : List Value} {r : mj_R} {w1 : mj_W} {a : Array Value} (hr : vx_Run p l e R s m args below meth c H locs cells slots mc ms (F0 m pc ls st0) rest (mj_Qc B b tys D OH r w1 a) (mj_XC B b tys D OH r w1) (mj_free B)) (hlo : ∀ q ∈ locs, B ≤ q.base)
    (kk : ∀ v, r = .inl v → ∀ (H1 : Heap) (locs1 : List Loc), mj_Sim B b tys D OH w1 H1 → H.size ≤ H1.size → (∀ q ∈ locs1, B ≤ q.base) → W p l e R s m args below meth c H1 locs1 (cells + mc) (slots + ms) Q (F0 m (pc + 3) ls ((v.map (mj_tv B b)).toList ++ rest)))
    (kx : ∀ E, r = .inr E → ∀ (H1 : Heap) (locs1 : List Loc) (q : Addr) (ce : Cell), mj_Sim B b tys D OH w1 H1 → H.size ≤ H1.size → (∀ q ∈ locs1, B ≤ q.base) → H1[q]? = some ce → ce.vm = .none → s.vm.findClass (mj_E.getD E "") = some ce.cls → vx_W p l e R s m args below meth c H1 locs1 (cells + mc) (slots + ms) Q (F0 m pc ls rest) q) :
    W p l e R s m args below meth c H locs cells slots Q (F0 m pc ls st0) := by
  intro T hT X
  have hl9 : ∀ (L : List Loc), (∀ q ∈ L, mj_free B q.base) → ∀ q ∈ locs ++ L, B ≤ q.base := fun L hL q hq => (List.mem_append.mp hq).elim (hlo q) (hL q)
  rcases hr T hT X with ⟨v, st₀, t, T', L, h0, X', hL, e1, e2, ⟨⟨v', hv, ho⟩, hP, hz⟩, st⟩ | ⟨q, st₀, t, T', L, E, ce, h0, X', hL, e1, e2, ⟨⟨k, hk, hE⟩, hP, hz⟩, hce, hcv, hcl, st⟩
  · cases ho
    obtain ⟨t2, a1, b1⟩ := kk v' hv T'.heap (locs ++ L) (by rw [e1]; exact hP) (by rw [e1, ← h0]; exact hz) (hl9 L hL) T' rfl X'
    exact ⟨t2, st t2 a1, b1⟩
  · obtain ⟨t2, a1, b1⟩ := kx k hk T'.heap (locs ++ L) q ce (by rw [e1]; exact hP) (by rw [e1, ← h0]; exact hz) (hl9 L hL) (by rw [e1]; exact hce) hcv (by rw [← hE]; exact hcl) T' rfl X'
    exact ⟨t2, st.trans a1, b1⟩
theorem mj_blind {vs : List Value} {w : mj_W} : FrameBlind (mj_Pc Ln xs B b tys D OH vs w) := fun a U g mk q => ⟨q.1, q.2.1, mj_G.same (s := U) rfl q.2.2⟩
theorem mj_stack {S As : List Value} {a n : Nat} (h : (S.take n).reverse = .ref a :: As) : S.map (mj_tv B b) = (As.map (mj_tv B b)).reverse ++ Value.ref (mj_ad B b a) :: (S.drop n).map (mj_tv B b) := by
  have h1 : S.take n = As.reverse ++ [.ref a] := by
    have := congrArg List.reverse h
    rw [List.reverse_reverse, List.reverse_cons] at this
    exact this
  have h2 : S = As.reverse ++ [.ref a] ++ S.drop n := by rw [← h1, List.take_append_drop]
  conv => lhs; rw [h2]
  simp [List.map_append, List.map_reverse, mj_tv]
theorem mj_stackS {S : List Value} {n : Nat} : S.map (mj_tv B b) = (((S.take n).reverse).map (mj_tv B b)).reverse ++ (S.drop n).map (mj_tv B b) := by
  conv => lhs; rw [← List.take_append_drop n S]
  simp [List.map_append, List.map_reverse]
theorem mj_recv {w : mj_W} {j : Nat} {c0 : Nat} {fs : List Value} (hG : mj_G Ln xs B b tys D OH s) (hS : mj_Sim B b tys D OH w H) (he : w.2 j = some (.inr (c0, fs))) (hc : c0 < vwCl.length) : ∃ cellB : Cell, H[mj_ad B b j]? = some cellB ∧ cellB.vm.isStatics = false ∧ s.vm.findClass (mj_cl c0).1 = some cellB.cls := by
  obtain ⟨k, rfl, r, h1, cell, g1, g2, g3, -⟩ := hS.2.2.2 _ _ he
  have h2 := (mj_cl_ok c0 hc).1
  have hr : r = mj_cl c0 := Option.some.inj (h1.symm.trans h2)
  subst hr
  exact ⟨cell, g1, by rw [g3]; rfl, by rw [g2]; exact (hG.1.1 c0 _ h2).2.1⟩
/-- what a call's place tells of the method -/
theorem mj_cal_ok {i j : Nat} {S vs S' : List Value} {w : mj_W} {g : Instr} (h : mj_cal i S w g = some (j, vs, S')) : mj_sw g = false ∧ mj_ln g = 3 ∧ plainName (mj_y j).cls = true ∧ (mj_y j).cls = mj_own (mj_o j) ∧ mj_cat vs ≤ mj_l j := by
  have hrev : ∀ (n : Nat), mj_cat (S.take n) = mj_cat ((S.take n).reverse) := fun n => by unfold mj_cat; rw [List.map_reverse, List.sum_reverse]
  cases g with
  | invokevirtual x =>
    simp only [mj_cal] at h
    split at h
    · rename_i j0 hk
      have hok := of_decide_eq_true (mj_call_okm _ (mj_find2 hk))
      split at h
      · obtain ⟨c0, fs, -, h⟩ := mj_eo_s h
        obtain ⟨-, h⟩ := mj_if_s h
        obtain ⟨⟨-, -, -, -, h5⟩, h⟩ := mj_if_s h
        cases h
        exact ⟨rfl, rfl, hok.2.1, hok.2.2.2.2.2.1, by rw [← hrev]; exact h5⟩
      · cases h
    · cases h
  | invokestatic x =>
    simp only [mj_cal] at h
    split at h
    · rename_i j0 hk
      have hok := of_decide_eq_true (mj_call_okm _ (mj_find2 hk))
      obtain ⟨⟨-, -, -, -, h5⟩, h⟩ := mj_if_s h
      cases h
      exact ⟨rfl, rfl, hok.2.1, hok.2.2.2.2.2.1, by rw [← hrev]; exact h5⟩
    · cases h
  | invokespecial x =>
    simp only [mj_cal] at h
    split at h
    · rename_i j0 hk
      have hok := of_decide_eq_true (mj_call_okm _ (mj_find2 hk))
      split at h
      · obtain ⟨⟨-, -, -, -, h5⟩, h⟩ := mj_if_s h
        cases h
        exact ⟨rfl, rfl, hok.2.1, hok.2.2.2.2.2.1, by rw [← hrev]; exact h5⟩
      · cases h
    · rename_i j0 hk
      have hok := of_decide_eq_true (mj_call_okm _ (mj_find2 hk))
      split at h
      · obtain ⟨⟨-, -, -, -, h5⟩, h⟩ := mj_if_s h
        cases h
        exact ⟨rfl, rfl, hok.2.1, hok.2.2.2.2.2.1, by rw [← hrev]; exact h5⟩
      · cases h
    · cases h
  | _ => simp [mj_cal] at h
set_option maxHeartbeats 2000000 in
theorem mj_callrun {i pc j dc dz : Nat} {S vs S' : List Value} {w w1 : mj_W} {g : Instr} {r : mj_R} (X : mj_X Ln xs B b tys D OH i p l s m args meth c) (hcal : mj_cal i S w g = some (j, vs, S')) (hd : decode (mj_b i) pc = .ok (g, 3)) (hM : vx_Met l (mj_y j) (mj_ws j) (mj_rm j dc dz) (mj_Pc Ln xs B b tys D OH vs w) (mj_Qc B b tys D OH r w1) (mj_XC B b tys D OH r w1) dc dz (mj_free B))
    (hF : mj_F i ≤ R.frames) (hDl : mj_D i ≤ R.locals) (hS : mj_Sim B b tys D OH w H) (hL : ls.size = mj_l i) (hc : cells + dc ≤ R.cells) (hs : slots + dz ≤ R.slots) :
    vx_Run p l e R s m args below meth c H locs cells slots dc dz (F0 m pc ls (S.map (mj_tv B b))) (S'.map (mj_tv B b)) (mj_Qc B b tys D OH r w1 #[]) (mj_XC B b tys D OH r w1) (mj_free B) := by
  obtain ⟨hx, hb, hr, hml, hown, hts, hG, hlk, htab, hnm, hnt, hBs, hOs⟩ := X
  have hG1 : ∀ U : State, s.WarmedH U.vm → mj_G Ln xs B b tys D OH U := fun U hW => hG.warm hW
  have hws : mj_cw j ∈ mj_GT → ∀ w ∈ mj_ws j, ∀ (a' : Array Value) (U : State), s.WarmedH U.vm → w.before a' U = true := fun hj w hw a' U hW => mj_GT_warm hts w ((List.mem_cons.mp hw).elim (fun q => by rw [q]; exact hj) id) a' U hW
  cases g with
  | invokevirtual x =>
    simp only [mj_cal] at hcal
    split at hcal
    · rename_i j0 hk
      have hok := of_decide_eq_true (mj_call_okm _ (mj_find2 hk))
      have hw := mj_call_ok _ (mj_find2 hk)
      split at hcal
      · rename_i a As hAs
        have h9 := mj_eo_s hcal; clear hcal; obtain ⟨c0, fs, he, hcal⟩ := h9
        have h9 := mj_if_s hcal; clear hcal; obtain ⟨h0, hcal⟩ := h9
        have h9 := mj_if_s hcal; clear hcal; obtain ⟨⟨h1, h2, h3, h4, h5⟩, hcal⟩ := h9
        cases hcal
        obtain ⟨k1, k2, k3, k4, k5, k6, k7, k8, k9, k10⟩ := hok
        have hnil : mj_h j = [] := k10 (by decide)
        have hcw : mj_cw j = .code (mj_y j) (mj_b j) (mj_l j) (mj_r j) := by unfold mj_cw; rw [if_pos hnil]
        have hcG : mj_cw j ∈ mj_GT := hw _ (by simp [mj_wd])
        have hlen : As.length = mj_n j - 1 := by
          have := congrArg List.length hAs
          rw [List.length_reverse, List.length_take, List.length_cons] at this
          omega
        have hst : S.map (mj_tv B b) = (As.map (mj_tv B b)).reverse ++ Value.ref (mj_ad B b a) :: (S.drop (mj_n j)).map (mj_tv B b) := mj_stack hAs
        obtain ⟨q8, q9⟩ := k8 rfl
        refine vx_runV (nL := mj_l i) (cc := mj_b i) (C := (mj_y j).cls) (b := mj_ad B b a) (As := As.map (mj_tv B b)) (Ts := mj_GT) (own := mj_own (mj_o i)) (index := x) (bytes := mj_b j) (maxL := mj_l j) (ret := mj_r j) (n := mj_n j - 1) ⟨hx, hb, hml, hown, hts⟩ hM ⟨⟨rfl, rfl, by show mj_F j + 1 ≤ _; omega, by show 8 + (mj_l j + 11) + mj_D j ≤ _; omega, hws hcG, by unfold mj_ws; rw [hcw]; exact List.mem_cons_self, by rw [← hcw]; exact hts _ hcG, hts _ (hw _ (by simp [mj_wd])), ⟨k3, k4⟩, fun sig hsig => ?_, hts _ (hw _ (by simp [mj_wd]))⟩, hts _ (hw _ (by simp [mj_wd])), hts _ (hw _ (by simp [mj_wd]))⟩ ⟨mj_blind, ?_, fun U hU hW => ⟨?_, by rw [hU]; exact hS, hG1 U hW⟩⟩ rfl (by rw [List.length_map]; exact hlen) hL hst (by show 2 * 0 + _ ≤ 8; rw [mj_tv_sum]; omega) hd ⟨hc, hs⟩
        · rw [hsig] at k5
          have := Option.some.inj k5
          rw [if_neg (by decide)] at this
          exact this.symm
        · rw [← q9, ← h0]
          exact mj_recv hG hS he (by rw [h0]; exact q8)
        · rw [hAs]; rfl
      · cases hcal
    · cases hcal
  | invokestatic x =>
    simp only [mj_cal] at hcal
    split at hcal
    · rename_i j0 hk
      have hok := of_decide_eq_true (mj_call_okm _ (mj_find2 hk))
      have hw := mj_call_ok _ (mj_find2 hk)
      have h9 := mj_if_s hcal; clear hcal; obtain ⟨⟨h1, h2, h3, h4, h5⟩, hcal⟩ := h9
      cases hcal
      obtain ⟨k1, k2, k3, k4, k5, k6, k7, k8, k9, k10⟩ := hok
      have hcG : mj_cw j ∈ mj_GT := hw _ (by simp [mj_wd])
      have hlen : ((S.take (mj_n j)).reverse).length = mj_n j := by rw [List.length_reverse, List.length_take]; omega
      have hln : ∀ sig, parseMethodDescriptor (mj_y j).desc = some sig → mj_n j = sig.parameters.length := by
        intro sig hsig
        rw [hsig] at k5
        have := Option.some.inj k5
        rw [if_pos rfl] at this
        exact this.symm
      by_cases hnil : mj_h j = []
      · have hcw : mj_cw j = .code (mj_y j) (mj_b j) (mj_l j) (mj_r j) := by unfold mj_cw; rw [if_pos hnil]
        exact vx_runS (nL := mj_l i) (cc := mj_b i) (As := ((S.take (mj_n j)).reverse).map (mj_tv B b)) (Ts := mj_GT) (own := mj_own (mj_o i)) (index := x) (bytes := mj_b j) (maxL := mj_l j) (ret := mj_r j) (n := mj_n j) ⟨hx, hb, hml, hown, hts⟩ hM ⟨⟨rfl, rfl, by show mj_F j + 1 ≤ _; omega, by show 8 + (mj_l j + 11) + mj_D j ≤ _; omega, hws hcG, by unfold mj_ws; rw [hcw]; exact List.mem_cons_self, by rw [← hcw]; exact hts _ hcG, hts _ (hw _ (by simp [mj_wd])), ⟨k3, k4⟩, hln, hts _ (hw _ (by simp [mj_wd]))⟩, hts _ (hw _ (by simp [mj_wd]))⟩ ⟨mj_blind, fun U hU hW => ⟨rfl, by rw [hU]; exact hS, hG1 U hW⟩⟩ rfl (by rw [List.length_map]; exact hlen) hL mj_stackS (by show 2 * 0 + _ ≤ 8; rw [mj_tv_sum]; omega) hd ⟨hc, hs⟩
      · have hcw : mj_cw j = .codeWith (mj_y j) (mj_b j) (mj_l j) (mj_r j) (mj_h j) := by unfold mj_cw; rw [if_neg hnil]
        exact vx_runSX (nL := mj_l i) (cc := mj_b i) (As := ((S.take (mj_n j)).reverse).map (mj_tv B b)) (Ts := mj_GT) (own := mj_own (mj_o i)) (index := x) (bytes := mj_b j) (maxL := mj_l j) (ret := mj_r j) (hh := mj_h j) (n := mj_n j) ⟨hx, hb, hml, hown, hts⟩ hM ⟨⟨rfl, rfl, by show mj_F j + 1 ≤ _; omega, by show 8 + (mj_l j + 11) + mj_D j ≤ _; omega, hws hcG, by unfold mj_ws; rw [hcw]; exact List.mem_cons_self⟩, by rw [← hcw]; exact hts _ hcG, hts _ (hw _ (by simp [mj_wd])), ⟨k3, k4⟩, hln, hts _ (hw _ (by simp [mj_wd])), hts _ (hw _ (by simp [mj_wd]))⟩ ⟨mj_blind, fun U hU hW => ⟨rfl, by rw [hU]; exact hS, hG1 U hW⟩⟩ rfl (by rw [List.length_map]; exact hlen) hL mj_stackS (by show 2 * 0 + _ ≤ 8; rw [mj_tv_sum]; omega) hd ⟨hc, hs⟩
    · cases hcal
  | invokespecial x =>
    simp only [mj_cal] at hcal
    split at hcal
    · rename_i j0 hk
      have hok := of_decide_eq_true (mj_call_okm _ (mj_find2 hk))
      have hw := mj_call_ok _ (mj_find2 hk)
      split at hcal
      · rename_i a As hAs
        have h9 := mj_if_s hcal; clear hcal; obtain ⟨⟨h1, h2, h3, h4, h5⟩, hcal⟩ := h9
        cases hcal
        obtain ⟨k1, k2, k3, k4, k5, k6, k7, k8, k9, k10⟩ := hok
        have hnil : mj_h j = [] := k10 (by decide)
        obtain ⟨q1, q2⟩ := k9 (by decide)
        have hcw : mj_cw j = .code (mj_y j) (mj_b j) (mj_l j) none := by unfold mj_cw; rw [if_pos hnil, q2]
        have hcG : mj_cw j ∈ mj_GT := hw _ (by simp [mj_wd])
        have hlen : As.length = mj_n j - 1 := by
          have := congrArg List.length hAs
          rw [List.length_reverse, List.length_take, List.length_cons] at this
          omega
        have hst : S.map (mj_tv B b) = (As.map (mj_tv B b)).reverse ++ Value.ref (mj_ad B b a) :: (S.drop (mj_n j)).map (mj_tv B b) := mj_stack hAs
        refine vx_runI (nL := mj_l i) (cc := mj_b i) (b := mj_ad B b a) (As := As.map (mj_tv B b)) (Ts := mj_GT) (own := mj_own (mj_o i)) (index := x) (bytes := mj_b j) (maxL := mj_l j) (n := mj_n j - 1) ⟨hx, hb, hml, hown, hts⟩ hM ⟨⟨rfl, rfl, by show mj_F j + 1 ≤ _; omega, by show 8 + (mj_l j + 11) + mj_D j ≤ _; omega, hws hcG, by unfold mj_ws; rw [hcw]; exact List.mem_cons_self, by rw [← hcw]; exact hts _ hcG, hts _ (hw _ (by simp [mj_wd])), ⟨k3, k4⟩, fun sig hsig => ?_, hts _ (hw _ (by simp [mj_wd]))⟩, q1, hts _ (hw _ (by simp [mj_wd]))⟩ ⟨mj_blind, fun U hU hW => ⟨?_, by rw [hU]; exact hS, hG1 U hW⟩⟩ rfl (by rw [List.length_map]; exact hlen) hL hst (by show 2 * 0 + _ ≤ 8; rw [mj_tv_sum]; omega) hd ⟨hc, hs⟩
        · rw [hsig] at k5
          have := Option.some.inj k5
          rw [if_neg (by decide)] at this
          exact this.symm
        · rw [hAs]; rfl
      · cases hcal
    · rename_i j0 hk
      have hok := of_decide_eq_true (mj_call_okm _ (mj_find2 hk))
      have hw := mj_call_ok _ (mj_find2 hk)
      split at hcal
      · rename_i a As hAs
        have h9 := mj_if_s hcal; clear hcal; obtain ⟨⟨h1, h2, h3, h4, h5⟩, hcal⟩ := h9
        cases hcal
        obtain ⟨k1, k2, k3, k4, k5, k6, k7, k8, k9, k10⟩ := hok
        have hnil : mj_h j = [] := k10 (by decide)
        obtain ⟨q1, q2⟩ := k9 (by decide)
        have hcw : mj_cw j = .code (mj_y j) (mj_b j) (mj_l j) none := by unfold mj_cw; rw [if_pos hnil, q2]
        have hcG : mj_cw j ∈ mj_GT := hw _ (by simp [mj_wd])
        have hlen : As.length = mj_n j - 1 := by
          have := congrArg List.length hAs
          rw [List.length_reverse, List.length_take, List.length_cons] at this
          omega
        have hst : S.map (mj_tv B b) = (As.map (mj_tv B b)).reverse ++ Value.ref (mj_ad B b a) :: (S.drop (mj_n j)).map (mj_tv B b) := mj_stack hAs
        refine vx_runIN (nL := mj_l i) (cc := mj_b i) (b := mj_ad B b a) (As := As.map (mj_tv B b)) (Ts := mj_GT) (own := mj_own (mj_o i)) (index := x) (host := mj_host) (bytes := mj_b j) (maxL := mj_l j) (n := mj_n j - 1) ⟨hx, hb, hml, hown, hts⟩ hM ⟨⟨⟨rfl, rfl, by show mj_F j + 1 ≤ _; omega, by show 8 + (mj_l j + 11) + mj_D j ≤ _; omega, hws hcG, by unfold mj_ws; rw [hcw]; exact List.mem_cons_self⟩, by rw [← hcw]; exact hts _ hcG, hts _ (hw _ (by simp [mj_wd])), ⟨k3, k4⟩, fun sig hsig => ?_, hts _ (hw _ (by simp [mj_wd]))⟩, q1, hts _ (hw _ (by simp [mj_wd]))⟩ ⟨mj_blind, fun U hU hW => ⟨?_, by rw [hU]; exact hS, hG1 U hW⟩⟩ rfl (by rw [List.length_map]; exact hlen) hL hst (by show 2 * 0 + _ ≤ 8; rw [mj_tv_sum]; omega) hd ⟨hc, hs⟩
        · rw [hsig] at k5
          have := Option.some.inj k5
          rw [if_neg (by decide)] at this
          exact this.symm
        · rw [hAs]; rfl
      · cases hcal
    · cases hcal
  | _ => simp [mj_cal] at hcal
theorem mj_catch {i pc E hpc k : Nat} {L rest : List Value} {q : Addr} {ce : Cell} (X : mj_X Ln xs B b tys D OH i p l s m args meth c) (hc2 : mj_cat2 i pc E = some (hpc, k)) (hL : mj_lr B b ls (mj_l i) L) (hcell : H[q]? = some ce) (hcv : ce.vm = .none) (hcl : s.vm.findClass (mj_E.getD E "") = some ce.cls)
    (kk : ∀ ls' : Array Slot, mj_lr B b ls' (mj_l i) (mj_st1 L k mj_hole) → W p l e R s m args below meth c H locs cells slots Q (F0 m hpc ls' [])) : vx_W p l e R s m args below meth c H locs cells slots Q (F0 m pc ls rest) q := by
  obtain ⟨hx, hb, hr, hml, hown, hts, hG, hlk, htab, hnm, hnt, hBs, hOs⟩ := X
  unfold mj_cat2 at hc2
  split at hc2
  · rename_i z hz
    obtain ⟨hp, as, bs, hsp, hno⟩ := List.find?_eq_some_iff_append.mp hz
    simp only [Bool.and_eq_true, beq_iff_eq] at hp
    have hzm : z ∈ mj_h i := List.mem_of_find?_eq_some hz
    have hw := mj_hdl_ok _ (mj_find2 hp.2)
    have hElt : E < mj_E.length := mj_hdl_lt _ (mj_find2 hp.2)
    have hw1 : Cond.classLink (mj_own (mj_o i)) z.2.2.2 (mj_E.getD E "") ∈ mj_GT := hw _ (by simp [mj_hw])
    have hw2 : Cond.castable (mj_E.getD E "") (mj_E.getD E "") ∈ mj_GT := hw _ (by simp [mj_hw])
    refine vx_catch (own := mj_own (mj_o i)) (name := mj_E.getD E "") (E := mj_E.getD E "") (ce := ce) hown (tableOf as) ⟨z.1, z.2.1, z.2.2.1, z.2.2.2⟩ (tableOf bs) (by rw [htab (mj_h0 hzm), hsp]; simp [tableOf]) ?_ ?_ (mj_hrow hzm).1 (hts _ hw1) (hts _ hw2) hcell hcv hcl ?_
    · intro x hx9
      unfold tableOf at hx9
      obtain ⟨y, hy, rfl⟩ := List.mem_map.mp hx9
      have hn := hno y hy
      by_cases hcov : covers ⟨y.1, y.2.1, y.2.2.1, y.2.2.2⟩ pc = true
      · refine Or.inr ?_
        obtain ⟨y0, E', hE'⟩ := mj_hrow (i := i) (q := y) (by rw [hsp]; exact List.mem_append_left _ hy)
        refine ⟨y0, mj_E.getD E' "", hts _ (mj_hdl_ok _ (mj_find2 hE') _ (by simp [mj_hw])), ?_⟩
        have hE9 : E' < mj_E.length := mj_hdl_lt _ (mj_find2 hE')
        have hne : E ≠ E' := by
          rintro rfl
          have hc9 : (decide (y.1 ≤ pc) && decide (pc < y.2.1)) = true := hcov
          rw [hc9, hE'] at hn
          simp at hn
        exact hG.2.2.2.2.2.2.2 E E' hElt hE9 hne (List.ne_nil_of_mem (mj_find2 hE'))
      · exact Or.inl (by simpa using hcov)
    · show (decide (z.1 ≤ pc) && decide (pc < z.2.1)) = true
      simpa using hp.1
    · split at hc2
      · rename_i kk9 hd
        obtain ⟨hlt, hc2⟩ := mj_if_s hc2
        cases hc2
        exact lv_astore_n hx hb hd rfl hL.has hlt rfl (fun ls' h' => kk ls' (mj_lr.st1h h'))
      · rename_i kk9 hd
        obtain ⟨hlt, hc2⟩ := mj_if_s hc2
        cases hc2
        exact lv_astore hx hb hd hL.has hlt rfl (fun ls' h' => kk ls' (mj_lr.st1h h'))
      · cases hc2
  · cases hc2
end MJC
set_option maxHeartbeats 2000000 in
/-- THE RUN: what the mini machine does, the machine does -/
theorem mj_go {l : Launch} {Ln : Nat} {xs : Nat → Int32} {B b : Nat} {tys : List (ClassId × FieldType)} {D : va_G} {OH : Nat → Option Cell} (hnt : l.stackTraces = false) : ∀ f : Nat, mj_GoAt l Ln xs B b tys D OH f
  | 0 => by
    intro i pc L S w w' r h
    cases h
  | f + 1 => by
    have ih := mj_go (Ln := Ln) (xs := xs) (B := B) (b := b) (tys := tys) (D := D) (OH := OH) hnt f
    intro i pc L S w w' r h p e R s m args below meth c H locs cells slots Q ls X hF hDl hS hL hz hlo hrc hrs hend hthr
    unfold mj_run at h
    split at h
    · cases h
    · rename_i g len hd
      split at h
      · rename_i hln
        have hd1 : mj_sw g = false → decode (mj_b i) pc = .ok (g, mj_ln g) := fun h => by
          rcases hln with h1 | h1
          · rw [h] at h1; cases h1
          · rw [← h1]; exact hd
        split at h
        · rename_i pc' L' S' w1 hst
          split at h
          · rename_i h0
            have hm := mj_mono _ _ _ _ _ _ _ _ h
            refine mj_step hst hd hln X hF hDl hS hL hlo (by omega) (by omega) ?_
            intro H1 ls1 locs1 c1 z1 hS1 hL1 hz1 hlo1 hc1 hz1'
            refine ih i pc' L' S' w1 w' r h p e R s m args below meth c H1 locs1 c1 z1 Q ls1 X hF hDl hS1 hL1 (Nat.le_trans hz hz1) hlo1 (by omega) (by omega) ?_ ?_
            · intro H2 ls2 locs2 c2 z2 pc2 S2 g2 v hv a1 a2 a3 a4 a5 a6 a7
              exact hend H2 ls2 locs2 c2 z2 pc2 S2 g2 v hv a1 a2 a3 (by omega) (by omega) a6 a7
            · intro H2 ls2 locs2 c2 z2 pc2 S2 g2 E w2 hv hw2 a1 a2 a3 a4 a5 a6 a7 a8
              exact hthr H2 ls2 locs2 c2 z2 pc2 S2 g2 E w2 hv hw2 a1 a2 a3 (by omega) (by omega) a6 a7 a8
          · cases h
        · split at h
          · rename_i v hv
            cases h
            obtain ⟨e1, e2⟩ := mj_fin_ln hv
            have hd2 := hd1 e1
            rw [e2] at hd2
            exact hend H ls locs cells slots pc S g v rfl hS hz hlo rfl rfl hd2 hv
          · split at h
            · rename_i E hE
              cases h
              obtain ⟨e1, e2⟩ := mj_thr_ln hE
              have hd2 := hd1 e1
              rw [e2] at hd2
              exact hthr H ls locs cells slots pc S g E w rfl rfl hS hz hlo rfl rfl hL.1 hd2 hE
            · split at h
              · rename_i j vs S' hcal
                obtain ⟨e1, e2, e3, e4, e5⟩ := mj_cal_ok hcal
                have hd2 := hd1 e1
                rw [e2] at hd2
                split at h
                · cases h
                · rename_i v w1 h2
                  have hm1 := mj_mono _ _ _ _ _ _ _ _ h2
                  have hm2 := mj_mono _ _ _ _ _ _ _ _ h
                  have hM := mj_met ih hnt e3 e4 h2 e5
                  refine mj_goes (mj_callrun X hcal hd2 hM hF hDl hS hL.1 (by omega) (by omega)) hlo ?_ ?_
                  · intro v' hv' H1 locs1 hS1 hz1 hlo1
                    cases hv'
                    rw [show (v.map (mj_tv B b)).toList ++ S'.map (mj_tv B b) = (v.toList ++ S').map (mj_tv B b) from by cases v <;> rfl]
                    refine ih i (pc + 3) L (v.toList ++ S') w1 w' r h p e R s m args below meth c H1 locs1 _ _ Q ls X hF hDl hS1 hL (Nat.le_trans hz hz1) hlo1 (by omega) (by omega) ?_ ?_
                    · intro H2 ls2 locs2 c2 z2 pc2 S2 g2 v hv a1 a2 a3 a4 a5 a6 a7
                      exact hend H2 ls2 locs2 c2 z2 pc2 S2 g2 v hv a1 a2 a3 (by omega) (by omega) a6 a7
                    · intro H2 ls2 locs2 c2 z2 pc2 S2 g2 E w2 hv hw2 a1 a2 a3 a4 a5 a6 a7 a8
                      exact hthr H2 ls2 locs2 c2 z2 pc2 S2 g2 E w2 hv hw2 a1 a2 a3 (by omega) (by omega) a6 a7 a8
                  · intro E hE
                    cases hE
                · rename_i E w1 h2
                  split at h
                  · rename_i hpc k hc2
                    have hm1 := mj_mono _ _ _ _ _ _ _ _ h2
                    have hm2 := mj_mono _ _ _ _ _ _ _ _ h
                    have hM := mj_met ih hnt e3 e4 h2 e5
                    refine mj_goes (mj_callrun X hcal hd2 hM hF hDl hS hL.1 (by omega) (by omega)) hlo ?_ ?_
                    · intro v' hv'
                      cases hv'
                    · intro E' hE' H1 locs1 q ce hS1 hz1 hlo1 g1 g2 g3
                      cases hE'
                      refine mj_catch X hc2 hL g1 g2 g3 (fun ls' hL' => ?_)
                      refine ih i hpc (mj_st1 L k mj_hole) [] w1 w' r h p e R s m args below meth c H1 locs1 _ _ Q ls' X hF hDl hS1 hL' (Nat.le_trans hz hz1) hlo1 (by omega) (by omega) ?_ ?_
                      · intro H2 ls2 locs2 c2 z2 pc2 S2 g2 v hv a1 a2 a3 a4 a5 a6 a7
                        exact hend H2 ls2 locs2 c2 z2 pc2 S2 g2 v hv a1 a2 a3 (by omega) (by omega) a6 a7
                      · intro H2 ls2 locs2 c2 z2 pc2 S2 g2 E w2 hv hw2 a1 a2 a3 a4 a5 a6 a7 a8
                        exact hthr H2 ls2 locs2 c2 z2 pc2 S2 g2 E w2 hv hw2 a1 a2 a3 (by omega) (by omega) a6 a7 a8
                  · cases h
              · cases h
      · cases h
