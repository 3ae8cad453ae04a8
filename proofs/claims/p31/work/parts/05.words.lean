/-- what is plain of each method that is called -/
def mj_okm (q : Nat × Nat × Nat × Nat) : Bool := match q with
  | (_, _, 4, _) => true
  | (_, _, 5, _) => true
  | (_, _, 6, _) => true
  | (_, _, 7, _) => true
  | (_, _, k, j) => decide (0 < j ∧ plainName (mj_y j).cls = true ∧ (mj_y j).cls ≠ "java/lang/invoke/MethodHandle" ∧ (mj_y j).cls ≠ "java/lang/invoke/VarHandle" ∧ (parseMethodDescriptor (mj_y j).desc).map (fun d => d.parameters.length) = some (if k = 1 then mj_n j else mj_n j - 1) ∧ (mj_y j).cls = mj_own (mj_o j) ∧
      (k ≠ 1 → 1 ≤ mj_n j) ∧ (k = 0 → mj_c j < vwCl.length ∧ (mj_cl (mj_c j)).1 = (mj_y j).cls) ∧ (2 ≤ k → (mj_y j).name = "<init>" ∧ mj_r j = none) ∧ (k ≠ 1 → mj_h j = []))
theorem mj_call_okm : ∀ q ∈ mj_call, mj_okm q = true := List.all_eq_true.mp (by decide +kernel)
def mj_fw (q : Nat × Nat × Nat × Nat) : List Cond := [.fieldLink (mj_own q.1) q.2.1 ((mj_cl q.2.2.1).2.1 q.2.2.2).1 ((mj_cl q.2.2.1).2.1 q.2.2.2).2.1 ((mj_cl q.2.2.1).2.1 q.2.2.2).2.2.1]
def mj_fldp : List Nat := [64, 65, 66, 67, 68, 69, 70, 71, 72, 73, 74, 75, 76, 77, 78, 79, 80, 81, 82, 83, 84, 85, 86, 87, 117, 118, 119, 120, 134, 135, 136, 137, 138, 156, 157, 158, 159, 160, 161, 162, 163, 164, 165, 166, 167, 168, 169, 170, 171, 172, 173, 174, 175, 176, 177, 203, 204, 205, 206, 207, 223, 224, 225, 226, 227, 243, 244, 245, 259, 260, 261, 262, 268, 269, 270, 271, 272, 273, 274, 275, 276, 277, 278]
theorem mj_fld_ok : ∀ q ∈ mj_fld, ∀ w ∈ mj_fw q, w ∈ mj_GT := by
  have h : (mj_fld.zip mj_fldp).all (fun z => mj_ats (mj_fw z.1) [z.2]) = true := by decide +kernel
  intro q hq
  obtain ⟨p, hp⟩ := mj_zip h (by decide +kernel) hq
  exact mj_ats_in hp
theorem mj_fld_okc : ∀ q ∈ mj_fld, q.2.2.1 < vwCl.length := by
  have h : mj_fld.all (fun q => decide (q.2.2.1 < vwCl.length)) = true := by decide +kernel
  intro q hq
  exact of_decide_eq_true (List.all_eq_true.mp h q hq)
def mj_nw (q : Nat × Nat × Nat) : List Cond := [.classLink (mj_own q.1) q.2.1 (mj_cl q.2.2).1, .instantiable (mj_cl q.2.2).1 (mj_cl q.2.2).2.2, .initialized (mj_cl q.2.2).1]
def mj_clsp : List (List Nat) := [[50, 51, 32], [58, 59, 33], [108, 109, 34], [114, 59, 33], [128, 129, 35], [150, 151, 36], [195, 196, 37], [201, 151, 36], [215, 216, 38], [221, 151, 36], [235, 236, 39], [241, 151, 36], [253, 254, 40]]
theorem mj_cls_ok : ∀ q ∈ mj_cls, q.2.2 < vwCl.length ∧ ∀ w ∈ mj_nw q, w ∈ mj_GT := by
  have h : (mj_cls.zip mj_clsp).all (fun z => decide (z.1.2.2 < vwCl.length) && mj_ats (mj_nw z.1) z.2) = true := by decide +kernel
  intro q hq
  obtain ⟨p, hp⟩ := mj_zip h (by decide +kernel) hq
  simp only [Bool.and_eq_true, decide_eq_true_eq] at hp
  exact ⟨hp.1, mj_ats_in hp.2⟩
def mj_kw (q : Nat × Nat × Value) : List Cond := match q with
  | (o, x, .int v) => [.constant (mj_own o) x v]
  | (o, x, .long v) => [.constantLong (mj_own o) x v]
  | (o, x, .float v) => [.constantFloat (mj_own o) x v]
  | (o, x, .double v) => [.constantDouble (mj_own o) x v]
  | _ => []
def mj_kstp : List Nat := [548, 580, 588, 589, 699, 832]
theorem mj_kst_ok : ∀ q ∈ mj_kst, ∀ w ∈ mj_kw q, w ∈ mj_GT := by
  have h : (mj_kst.zip mj_kstp).all (fun z => mj_ats (mj_kw z.1) [z.2]) = true := by decide +kernel
  intro q hq
  obtain ⟨p, hp⟩ := mj_zip h (by decide +kernel) hq
  exact mj_ats_in hp
def mj_hw (q : Nat × Nat × Nat) : List Cond := [.classLink (mj_own q.1) q.2.1 (mj_E.getD q.2.2 ""), .castable (mj_E.getD q.2.2 "") (mj_E.getD q.2.2 "")]
def mj_hdlp : List (List Nat) := []
theorem mj_hdl_ok : ∀ q ∈ mj_hdl, ∀ w ∈ mj_hw q, w ∈ mj_GT := by
  have h : (mj_hdl.zip mj_hdlp).all (fun z => mj_ats (mj_hw z.1) z.2) = true := by decide +kernel
  intro q hq
  obtain ⟨p, hp⟩ := mj_zip h (by decide +kernel) hq
  exact mj_ats_in hp
def mj_rt : List String := ["java/lang/RuntimeException", "java/lang/Exception"]
def mj_xw (q : Nat × Nat × Nat × Nat) : List Cond := .classLink (mj_own q.1) q.2.1 (mj_E.getD q.2.2.1 "") :: .initialized (mj_E.getD q.2.2.1 "") :: vx_atS (mj_own q.1) q.2.2.2 (mj_E.getD q.2.2.1 "") mj_rt
theorem mj_exc_ok : ∀ q ∈ mj_exc, (∀ w ∈ mj_xw q, w ∈ mj_GT) ∧ (∀ w ∈ mj_xw q, vx_ot w = true) ∧ Bundle.fit (mj_E.getD q.2.2.1 "") = true ∧ q.2.2.1 < mj_E.length := by
  have h : ∀ q ∈ mj_exc, (∀ w ∈ mj_xw q, w ∈ lw_tbl) ∧ (∀ w ∈ mj_xw q, mj_gw w = true) ∧ (∀ w ∈ mj_xw q, vx_ot w = true) ∧ Bundle.fit (mj_E.getD q.2.2.1 "") = true ∧ q.2.2.1 < mj_E.length := by decide +kernel
  intro q hq
  obtain ⟨h1, h2, h3, h4, h5⟩ := h q hq
  exact ⟨fun w hw => mj_GT_of (h1 w hw) (h2 w hw), h3, h4, h5⟩
theorem mj_rt_ok : ∀ n ∈ mj_rt, Bundle.fit n = true := by decide +kernel
theorem mj_arr_ok : Cond.arrayClass .int ∈ mj_GT ∧ Cond.arrayClass .int ∈ mj_GT ∧ Cond.arrayOver (.object (mj_cl mj_qc).1) ∈ mj_GT := by decide +kernel
/-- the classes of the world -/
theorem mj_cl_ok : ∀ c, c < vwCl.length → vwCl[c]? = some (mj_cl c) ∧ (∀ k, k < (mj_cl c).2.2 → parseFieldDescriptor ((mj_cl c).2.1 k).2.2.1 = some (mj_ty c k)) ∧ (∀ a, a < (mj_cl c).2.2 → ∀ b, b < (mj_cl c).2.2 → a ≠ b → ((mj_cl c).2.1 a).2.1 ≠ ((mj_cl c).2.1 b).2.1) ∧ (∀ w ∈ u_ws (mj_cl c).1 (mj_cl c).2.1 (mj_cl c).2.2, w ∈ mj_GT) := by
  intro c hc
  refine ⟨?_, ?_, ?_, ?_⟩
  · unfold mj_cl
    rw [List.getD_eq_getElem?_getD, List.getElem?_eq_getElem hc]
    rfl
  · have h : ∀ c, c < vwCl.length → ∀ k, k < (mj_cl c).2.2 → parseFieldDescriptor ((mj_cl c).2.1 k).2.2.1 = some (mj_ty c k) := by decide +kernel
    exact h c hc
  · have h : ∀ c, c < vwCl.length → ∀ a, a < (mj_cl c).2.2 → ∀ b, b < (mj_cl c).2.2 → a ≠ b → ((mj_cl c).2.1 a).2.1 ≠ ((mj_cl c).2.1 b).2.1 := by decide +kernel
    exact h c hc
  · have h : ∀ c, c < vwCl.length → (u_ws (mj_cl c).1 (mj_cl c).2.1 (mj_cl c).2.2).all mj_gw = true := by decide +kernel
    have h0 := h c hc
    have h1 : ∀ w ∈ u_ws (mj_cl c).1 (mj_cl c).2.1 (mj_cl c).2.2, w ∈ lw_tbl := by
      have hc' : c < 9 := hc
      match c, hc' with
      | 0, _ => exact mj_in0
      | 1, _ => exact mj_in1
      | 2, _ => exact mj_in2
      | 3, _ => exact mj_in3
      | 4, _ => exact mj_in4
      | 5, _ => exact mj_in5
      | 6, _ => exact mj_in6
      | 7, _ => exact mj_in7
      | 8, _ => exact mj_in8
    exact fun w hw => mj_GT_of (h1 w hw) (List.all_eq_true.mp h0 w hw)
theorem mj_find2 {β : Type} {l : List (Nat × Nat × β)} {o x : Nat} {v : β} (h : (l.find? (fun q => q.1 == o && q.2.1 == x)).map (fun q => q.2.2) = some v) : (o, x, v) ∈ l := by
  cases hf : l.find? (fun q => q.1 == o && q.2.1 == x) with
  | none => rw [hf] at h; cases h
  | some q =>
    rw [hf] at h
    cases h
    have h1 := List.find?_some hf
    simp only [Bool.and_eq_true, beq_iff_eq] at h1
    have h2 := List.mem_of_find?_eq_some hf
    obtain ⟨a, b, d⟩ := q
    obtain ⟨rfl, rfl⟩ := h1
    exact h2
