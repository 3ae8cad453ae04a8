/-! ===== each instruction of the mini machine that stays in its frame is a step of the machine ===== -/
section MJI
variable {α : Type} {r : α}
theorem mj_p1_s {S : List Value} {k : Int32 → List Value → Option α} (h : mj_p1 S k = some r) : ∃ y T, S = .int y :: T ∧ k y T = some r := by
  unfold mj_p1 at h; split at h; exact ⟨_, _, rfl, h⟩; cases h
theorem mj_p2_s {S : List Value} {k : Int32 → Int32 → List Value → Option α} (h : mj_p2 S k = some r) : ∃ y x T, S = .int y :: .int x :: T ∧ k y x T = some r := by
  unfold mj_p2 at h; split at h; exact ⟨_, _, _, rfl, h⟩; cases h
theorem mj_q1_s {S : List Value} {k : Int64 → List Value → Option α} (h : mj_q1 S k = some r) : ∃ y T, S = .long y :: T ∧ k y T = some r := by
  unfold mj_q1 at h; split at h; exact ⟨_, _, rfl, h⟩; cases h
theorem mj_q2_s {S : List Value} {k : Int64 → Int64 → List Value → Option α} (h : mj_q2 S k = some r) : ∃ y x T, S = .long y :: .long x :: T ∧ k y x T = some r := by
  unfold mj_q2 at h; split at h; exact ⟨_, _, _, rfl, h⟩; cases h
theorem mj_f1_s {S : List Value} {k : UInt32 → List Value → Option α} (h : mj_f1 S k = some r) : ∃ y T, S = .float y :: T ∧ k y T = some r := by
  unfold mj_f1 at h; split at h; exact ⟨_, _, rfl, h⟩; cases h
theorem mj_f2_s {S : List Value} {k : UInt32 → UInt32 → List Value → Option α} (h : mj_f2 S k = some r) : ∃ y x T, S = .float y :: .float x :: T ∧ k y x T = some r := by
  unfold mj_f2 at h; split at h; exact ⟨_, _, _, rfl, h⟩; cases h
theorem mj_d1_s {S : List Value} {k : UInt64 → List Value → Option α} (h : mj_d1 S k = some r) : ∃ y T, S = .double y :: T ∧ k y T = some r := by
  unfold mj_d1 at h; split at h; exact ⟨_, _, rfl, h⟩; cases h
theorem mj_d2_s {S : List Value} {k : UInt64 → UInt64 → List Value → Option α} (h : mj_d2 S k = some r) : ∃ y x T, S = .double y :: .double x :: T ∧ k y x T = some r := by
  unfold mj_d2 at h; split at h; exact ⟨_, _, _, rfl, h⟩; cases h
theorem mj_r1_s {S : List Value} {k : Nat → List Value → Option α} (h : mj_r1 S k = some r) : ∃ y T, S = .ref y :: T ∧ k y T = some r := by
  unfold mj_r1 at h; split at h; exact ⟨_, _, rfl, h⟩; cases h
theorem mj_li_s {v : Option Value} {k : Int32 → Option α} (h : mj_li v k = some r) : ∃ x, v = some (.int x) ∧ k x = some r := by
  unfold mj_li at h; split at h; exact ⟨_, rfl, h⟩; cases h
theorem mj_lj_s {v : Option Value} {k : Int64 → Option α} (h : mj_lj v k = some r) : ∃ x, v = some (.long x) ∧ k x = some r := by
  unfold mj_lj at h; split at h; exact ⟨_, rfl, h⟩; cases h
theorem mj_lf_s {v : Option Value} {k : UInt32 → Option α} (h : mj_lf v k = some r) : ∃ x, v = some (.float x) ∧ k x = some r := by
  unfold mj_lf at h; split at h; exact ⟨_, rfl, h⟩; cases h
theorem mj_ld_s {v : Option Value} {k : UInt64 → Option α} (h : mj_ld v k = some r) : ∃ x, v = some (.double x) ∧ k x = some r := by
  unfold mj_ld at h; split at h; exact ⟨_, rfl, h⟩; cases h
theorem mj_lr_s {v : Option Value} {k : Nat → Option α} (h : mj_lr' v k = some r) : ∃ x, v = some (.ref x) ∧ k x = some r := by
  unfold mj_lr' at h; split at h; exact ⟨_, rfl, h⟩; cases h
theorem mj_eo_s {e : Option va_E} {k : Nat → List Value → Option α} (h : mj_eo e k = some r) : ∃ c fs, e = some (.inr (c, fs)) ∧ k c fs = some r := by
  unfold mj_eo at h; split at h; exact ⟨_, _, rfl, h⟩; cases h
theorem mj_ei_s {e : Option va_E} {k : Nat → (Nat → Int32) → Option α} (h : mj_ei e k = some r) : ∃ n f, e = some (.inl (0, n, .inl f)) ∧ k n f = some r := by
  unfold mj_ei at h; split at h
  · split at h
    · rename_i h0; subst h0; exact ⟨_, _, rfl, h⟩
    · cases h
  · cases h
theorem mj_ej_s {e : Option va_E} {k : Nat → (Nat → Int64) → Option α} (h : mj_ej e k = some r) : ∃ n f, e = some (.inl (1, n, .inr (.inl f))) ∧ k n f = some r := by
  unfold mj_ej at h; split at h
  · split at h
    · rename_i h0; subst h0; exact ⟨_, _, rfl, h⟩
    · cases h
  · cases h
theorem mj_eq_s {e : Option va_E} {k : Nat → (Nat → Option Nat) → Option α} (h : mj_eq e k = some r) : ∃ n f, e = some (.inl (2, n, .inr (.inr (.inr (.inr f))))) ∧ k n f = some r := by
  unfold mj_eq at h; split at h
  · split at h
    · rename_i h0; subst h0; exact ⟨_, _, rfl, h⟩
    · cases h
  · cases h
theorem mj_in_s {i : Int32} {n : Nat} {k : Option α} (h : mj_in i n k = some r) : vp_in i n ∧ k = some r := by
  unfold mj_in at h; split at h
  · cases h
  · rename_i h0; exact ⟨h0, h⟩
theorem mj_if_s {c : Prop} [Decidable c] {k : Option α} (h : mj_if c k = some r) : c ∧ k = some r := by
  unfold mj_if at h; split at h
  · rename_i h0; exact ⟨h0, h⟩
  · cases h
theorem mj_tg_s {pc : Nat} {off : Int} {k : Nat → Option α} (h : mj_tg pc off k = some r) : ∃ t : Nat, (pc : Int) + off = (t : Int) ∧ k t = some r := by
  unfold mj_tg at h; split at h
  · rename_i h0; exact ⟨_, (Int.toNat_of_nonneg h0).symm, h⟩
  · cases h
end MJI
theorem mj_narrow {B b : Nat} {ty : FieldType} {v : Value} (h : narrow ty v = v) : narrow ty (mj_tv B b v) = mj_tv B b v := by
  cases v <;> first | exact h | (cases ty <;> rfl)
theorem mj_fits {B b : Nat} {ty : FieldType} {v : Value} (h : fits ty v = true) : fits ty (mj_tv B b v) = true := by
  cases v <;> first | exact h | (cases ty <;> first | rfl | exact h)
theorem mj_init0 {i : Nat} (h : (mj_y i).name = "<init>") : i ≠ 0 := by
  rintro rfl
  exact absurd h (by decide +kernel)
/-- the frame of method i at its start s -/
def mj_X (Ln : Nat) (xs : Nat → Int32) (B b : Nat) (tys : List (ClassId × FieldType)) (D : va_G) (OH : Nat → Option Cell) (i : Nat) (p : Program) (l : Launch) (s : State) (m : MethodId) (args : Array Value) (meth : Method) (c : Code) : Prop :=
  p.tables.exec = Jvm.exec ∧ c.code = mj_b i ∧ meth.sig.returnType = mj_r i ∧ c.maxLocals = mj_l i ∧ s.vm.findClass (mj_own (mj_o i)) = some m.cls ∧ (∀ w ∈ mj_GT, w.before args s = true) ∧ mj_G Ln xs B b tys D OH s ∧ meth.locks = false ∧ (i ≠ 0 → c.exceptionTable.toList = tableOf (mj_h i)) ∧ (i ≠ 0 → meth.name = (mj_y i).name) ∧ l.stackTraces = false ∧ B ≤ s.heap.size ∧ mj_Old B OH s.heap
set_option maxHeartbeats 4000000 in
set_option maxRecDepth 100000 in
theorem mj_step {p : Program} {l : Launch} {e : Env} {R : Room} {s : State} {m : MethodId} {args : Array Value} {below : List Frame} {meth : Method} {c : Code} {H : Heap} {locs : List Loc} {cells slots : Nat} {Q : State → Prop} {ls : Array Slot}
    {Ln : Nat} {xs : Nat → Int32} {B b : Nat} {tys : List (ClassId × FieldType)} {D : va_G} {OH : Nat → Option Cell} {i pc pc' : Nat} {L L' S S' : List Value} {w w' : mj_W} {g : Instr} {len : Nat}
    (hst : mj_stp Ln xs i pc L S w g = some ((pc', L', S'), w')) (hd0 : decode (mj_b i) pc = .ok (g, len)) (hln : mj_sw g = true ∨ len = mj_ln g) (X : mj_X Ln xs B b tys D OH i p l s m args meth c) (hF : mj_F i ≤ R.frames) (hDl : mj_D i ≤ R.locals)
    (hS : mj_Sim B b tys D OH w H) (hL : mj_lr B b ls (mj_l i) L) (hlo : ∀ q ∈ locs, B ≤ q.base) (hrc : cells + (w'.1.1 + w'.1.2.1) ≤ R.cells + (w.1.1 + w.1.2.1)) (hrs : slots + w'.1.2.2 ≤ R.slots + w.1.2.2)
    (kk : ∀ (H1 : Heap) (ls1 : Array Slot) (locs1 : List Loc) (c1 z1 : Nat), mj_Sim B b tys D OH w' H1 → mj_lr B b ls1 (mj_l i) L' → H.size ≤ H1.size → (∀ q ∈ locs1, B ≤ q.base) → c1 + (w.1.1 + w.1.2.1) = cells + (w'.1.1 + w'.1.2.1) → z1 + w.1.2.2 = slots + w'.1.2.2 → W p l e R s m args below meth c H1 locs1 c1 z1 Q (F0 m pc' ls1 (S'.map (mj_tv B b)))) :
    W p l e R s m args below meth c H locs cells slots Q (F0 m pc ls (S.map (mj_tv B b))) := by
  obtain ⟨hx, hb, hr, hml, hown, hts, hG, hlk, htab, hnm, hnt, hBs, hOs⟩ := X
  have hd1 : mj_sw g = false → decode (mj_b i) pc = .ok (g, mj_ln g) := fun h => by
    rcases hln with h1 | h1
    · rw [h] at h1; cases h1
    · rw [← h1]; exact hd0
  cases g with
  | iconst n =>
    have hd := hd1 rfl
    simp only [mj_stp] at hst
    cases hst
    refine lv_iconst (v := Int32.ofInt n) hx hb hd rfl ?_
    exact kk H ls locs cells slots hS hL (Nat.le_refl _) hlo rfl rfl
  | bipush n =>
    have hd := hd1 rfl
    simp only [mj_stp] at hst
    cases hst
    refine lv_bipush (v := (Int8.ofInt n).toInt32) hx hb hd rfl ?_
    exact kk H ls locs cells slots hS hL (Nat.le_refl _) hlo rfl rfl
  | sipush n =>
    have hd := hd1 rfl
    simp only [mj_stp] at hst
    cases hst
    refine lv_sipush (v := (Int16.ofInt n).toInt32) hx hb hd rfl ?_
    exact kk H ls locs cells slots hS hL (Nat.le_refl _) hlo rfl rfl
  | lconst n =>
    have hd := hd1 rfl
    simp only [mj_stp] at hst
    cases hst
    refine lv_lconst (v := Int64.ofNat (n : Nat)) hx hb hd rfl ?_
    exact kk H ls locs cells slots hS hL (Nat.le_refl _) hlo rfl rfl
  | fconst n =>
    have hd := hd1 rfl
    simp only [mj_stp] at hst
    match n, hd, hst with
    | 0, hd, hst => cases hst; refine lv_fconst0 hx hb hd ?_; exact kk H ls locs cells slots hS hL (Nat.le_refl _) hlo rfl rfl
    | 1, hd, hst => cases hst; refine lv_fconst1 hx hb hd ?_; exact kk H ls locs cells slots hS hL (Nat.le_refl _) hlo rfl rfl
    | 2, hd, hst => cases hst; refine lv_fconst2 hx hb hd ?_; exact kk H ls locs cells slots hS hL (Nat.le_refl _) hlo rfl rfl
  | dconst n =>
    have hd := hd1 rfl
    simp only [mj_stp] at hst
    match n, hd, hst with
    | 0, hd, hst => cases hst; refine lv_dconst0 hx hb hd ?_; exact kk H ls locs cells slots hS hL (Nat.le_refl _) hlo rfl rfl
    | 1, hd, hst => cases hst; refine lv_dconst1 hx hb hd ?_; exact kk H ls locs cells slots hS hL (Nat.le_refl _) hlo rfl rfl
  | iload k =>
    have hd := hd1 rfl
    simp only [mj_stp] at hst
    have h9 := mj_li_s hst; clear hst; obtain ⟨x, hk, hst⟩ := h9
    cases hst
    refine lv_iload hx hb hd (hL.2.2 _ _ hk rfl) ?_
    exact kk H ls locs cells slots hS hL (Nat.le_refl _) hlo rfl rfl
  | iload_n k =>
    have hd := hd1 rfl
    simp only [mj_stp] at hst
    have h9 := mj_li_s hst; clear hst; obtain ⟨x, hk, hst⟩ := h9
    cases hst
    refine lv_iload_n hx hb hd rfl (hL.2.2 _ _ hk rfl) ?_
    exact kk H ls locs cells slots hS hL (Nat.le_refl _) hlo rfl rfl
  | lload k =>
    have hd := hd1 rfl
    simp only [mj_stp] at hst
    have h9 := mj_lj_s hst; clear hst; obtain ⟨x, hk, hst⟩ := h9
    cases hst
    refine lv_lload hx hb hd (hL.2.2 _ _ hk rfl) ?_
    exact kk H ls locs cells slots hS hL (Nat.le_refl _) hlo rfl rfl
  | lload_n k =>
    have hd := hd1 rfl
    simp only [mj_stp] at hst
    have h9 := mj_lj_s hst; clear hst; obtain ⟨x, hk, hst⟩ := h9
    cases hst
    refine lv_lload_n hx hb hd rfl (hL.2.2 _ _ hk rfl) ?_
    exact kk H ls locs cells slots hS hL (Nat.le_refl _) hlo rfl rfl
  | fload k =>
    have hd := hd1 rfl
    simp only [mj_stp] at hst
    have h9 := mj_lf_s hst; clear hst; obtain ⟨x, hk, hst⟩ := h9
    cases hst
    refine lv_fload hx hb hd (hL.2.2 _ _ hk rfl) ?_
    exact kk H ls locs cells slots hS hL (Nat.le_refl _) hlo rfl rfl
  | fload_n k =>
    have hd := hd1 rfl
    simp only [mj_stp] at hst
    have h9 := mj_lf_s hst; clear hst; obtain ⟨x, hk, hst⟩ := h9
    cases hst
    refine lv_fload_n hx hb hd rfl (hL.2.2 _ _ hk rfl) ?_
    exact kk H ls locs cells slots hS hL (Nat.le_refl _) hlo rfl rfl
  | dload k =>
    have hd := hd1 rfl
    simp only [mj_stp] at hst
    have h9 := mj_ld_s hst; clear hst; obtain ⟨x, hk, hst⟩ := h9
    cases hst
    refine lv_dload hx hb hd (hL.2.2 _ _ hk rfl) ?_
    exact kk H ls locs cells slots hS hL (Nat.le_refl _) hlo rfl rfl
  | dload_n k =>
    have hd := hd1 rfl
    simp only [mj_stp] at hst
    have h9 := mj_ld_s hst; clear hst; obtain ⟨x, hk, hst⟩ := h9
    cases hst
    refine lv_dload_n hx hb hd rfl (hL.2.2 _ _ hk rfl) ?_
    exact kk H ls locs cells slots hS hL (Nat.le_refl _) hlo rfl rfl
  | aload k =>
    have hd := hd1 rfl
    simp only [mj_stp] at hst
    have h9 := mj_lr_s hst; clear hst; obtain ⟨x, hk, hst⟩ := h9
    cases hst
    refine lv_aload hx hb hd (hL.2.2 _ _ hk rfl) ?_
    exact kk H ls locs cells slots hS hL (Nat.le_refl _) hlo rfl rfl
  | aload_n k =>
    have hd := hd1 rfl
    simp only [mj_stp] at hst
    have h9 := mj_lr_s hst; clear hst; obtain ⟨x, hk, hst⟩ := h9
    cases hst
    refine lv_aload_n hx hb hd rfl (hL.2.2 _ _ hk rfl) ?_
    exact kk H ls locs cells slots hS hL (Nat.le_refl _) hlo rfl rfl
  | istore k =>
    have hd := hd1 rfl
    simp only [mj_stp] at hst
    have h9 := mj_p1_s hst; clear hst; obtain ⟨x, T, rfl, hst⟩ := h9
    have h9 := mj_if_s hst; clear hst; obtain ⟨hk, hst⟩ := h9
    cases hst
    refine lv_istore hx hb hd hL.has hk rfl (fun ls' h' => ?_)
    exact kk H ls' locs cells slots hS (mj_lr.st1 rfl h') (Nat.le_refl _) hlo rfl rfl
  | istore_n k =>
    have hd := hd1 rfl
    simp only [mj_stp] at hst
    have h9 := mj_p1_s hst; clear hst; obtain ⟨x, T, rfl, hst⟩ := h9
    have h9 := mj_if_s hst; clear hst; obtain ⟨hk, hst⟩ := h9
    cases hst
    refine lv_istore_n hx hb hd rfl hL.has hk rfl (fun ls' h' => ?_)
    exact kk H ls' locs cells slots hS (mj_lr.st1 rfl h') (Nat.le_refl _) hlo rfl rfl
  | lstore k =>
    have hd := hd1 rfl
    simp only [mj_stp] at hst
    have h9 := mj_q1_s hst; clear hst; obtain ⟨x, T, rfl, hst⟩ := h9
    have h9 := mj_if_s hst; clear hst; obtain ⟨hk, hst⟩ := h9
    cases hst
    refine lv_lstore hx hb hd hL.has hk rfl (fun ls' h' => ?_)
    exact kk H ls' locs cells slots hS (mj_lr.st2 rfl h') (Nat.le_refl _) hlo rfl rfl
  | lstore_n k =>
    have hd := hd1 rfl
    simp only [mj_stp] at hst
    have h9 := mj_q1_s hst; clear hst; obtain ⟨x, T, rfl, hst⟩ := h9
    have h9 := mj_if_s hst; clear hst; obtain ⟨hk, hst⟩ := h9
    cases hst
    refine lv_lstore_n hx hb hd rfl hL.has hk rfl (fun ls' h' => ?_)
    exact kk H ls' locs cells slots hS (mj_lr.st2 rfl h') (Nat.le_refl _) hlo rfl rfl
  | fstore k =>
    have hd := hd1 rfl
    simp only [mj_stp] at hst
    have h9 := mj_f1_s hst; clear hst; obtain ⟨x, T, rfl, hst⟩ := h9
    have h9 := mj_if_s hst; clear hst; obtain ⟨hk, hst⟩ := h9
    cases hst
    refine lv_fstore hx hb hd hL.has hk rfl (fun ls' h' => ?_)
    exact kk H ls' locs cells slots hS (mj_lr.st1 rfl h') (Nat.le_refl _) hlo rfl rfl
  | fstore_n k =>
    have hd := hd1 rfl
    simp only [mj_stp] at hst
    have h9 := mj_f1_s hst; clear hst; obtain ⟨x, T, rfl, hst⟩ := h9
    have h9 := mj_if_s hst; clear hst; obtain ⟨hk, hst⟩ := h9
    cases hst
    refine lv_fstore_n hx hb hd rfl hL.has hk rfl (fun ls' h' => ?_)
    exact kk H ls' locs cells slots hS (mj_lr.st1 rfl h') (Nat.le_refl _) hlo rfl rfl
  | dstore k =>
    have hd := hd1 rfl
    simp only [mj_stp] at hst
    have h9 := mj_d1_s hst; clear hst; obtain ⟨x, T, rfl, hst⟩ := h9
    have h9 := mj_if_s hst; clear hst; obtain ⟨hk, hst⟩ := h9
    cases hst
    refine lv_dstore hx hb hd hL.has hk rfl (fun ls' h' => ?_)
    exact kk H ls' locs cells slots hS (mj_lr.st2 rfl h') (Nat.le_refl _) hlo rfl rfl
  | dstore_n k =>
    have hd := hd1 rfl
    simp only [mj_stp] at hst
    have h9 := mj_d1_s hst; clear hst; obtain ⟨x, T, rfl, hst⟩ := h9
    have h9 := mj_if_s hst; clear hst; obtain ⟨hk, hst⟩ := h9
    cases hst
    refine lv_dstore_n hx hb hd rfl hL.has hk rfl (fun ls' h' => ?_)
    exact kk H ls' locs cells slots hS (mj_lr.st2 rfl h') (Nat.le_refl _) hlo rfl rfl
  | astore k =>
    have hd := hd1 rfl
    simp only [mj_stp] at hst
    have h9 := mj_r1_s hst; clear hst; obtain ⟨x, T, rfl, hst⟩ := h9
    have h9 := mj_if_s hst; clear hst; obtain ⟨hk, hst⟩ := h9
    cases hst
    refine lv_astore hx hb hd hL.has hk rfl (fun ls' h' => ?_)
    exact kk H ls' locs cells slots hS (mj_lr.st1 rfl h') (Nat.le_refl _) hlo rfl rfl
  | astore_n k =>
    have hd := hd1 rfl
    simp only [mj_stp] at hst
    have h9 := mj_r1_s hst; clear hst; obtain ⟨x, T, rfl, hst⟩ := h9
    have h9 := mj_if_s hst; clear hst; obtain ⟨hk, hst⟩ := h9
    cases hst
    refine lv_astore_n hx hb hd rfl hL.has hk rfl (fun ls' h' => ?_)
    exact kk H ls' locs cells slots hS (mj_lr.st1 rfl h') (Nat.le_refl _) hlo rfl rfl
  | iinc k n =>
    have hd := hd1 rfl
    simp only [mj_stp] at hst
    have h9 := mj_li_s hst; clear hst; obtain ⟨x, hk, hst⟩ := h9
    have h9 := mj_if_s hst; clear hst; obtain ⟨hlt, hst⟩ := h9
    cases hst
    obtain ⟨j, hj⟩ := List.mem_iff_getElem?.mp (mj_lv_mem.mpr ⟨_, hk, rfl, rfl⟩ : (k, Value.int x) ∈ mj_lv B b L)
    refine lv_iinc hx hb hd hL.has hj rfl hlt rfl (fun ls' h' => ?_)
    exact kk H ls' locs cells slots hS (mj_lr.st1 rfl h') (Nat.le_refl _) hlo rfl rfl
  | iadd =>
    have hd := hd1 rfl
    simp only [mj_stp] at hst
    have h9 := mj_p2_s hst; clear hst; obtain ⟨y, x, T, rfl, hst⟩ := h9
    cases hst
    refine lv_iadd hx hb hd ?_
    exact kk H ls locs cells slots hS hL (Nat.le_refl _) hlo rfl rfl
  | isub =>
    have hd := hd1 rfl
    simp only [mj_stp] at hst
    have h9 := mj_p2_s hst; clear hst; obtain ⟨y, x, T, rfl, hst⟩ := h9
    cases hst
    refine lv_isub hx hb hd ?_
    exact kk H ls locs cells slots hS hL (Nat.le_refl _) hlo rfl rfl
  | imul =>
    have hd := hd1 rfl
    simp only [mj_stp] at hst
    have h9 := mj_p2_s hst; clear hst; obtain ⟨y, x, T, rfl, hst⟩ := h9
    cases hst
    refine lv_imul hx hb hd ?_
    exact kk H ls locs cells slots hS hL (Nat.le_refl _) hlo rfl rfl
  | iand =>
    have hd := hd1 rfl
    simp only [mj_stp] at hst
    have h9 := mj_p2_s hst; clear hst; obtain ⟨y, x, T, rfl, hst⟩ := h9
    cases hst
    refine lv_iand hx hb hd ?_
    exact kk H ls locs cells slots hS hL (Nat.le_refl _) hlo rfl rfl
  | ishl =>
    have hd := hd1 rfl
    simp only [mj_stp] at hst
    have h9 := mj_p2_s hst; clear hst; obtain ⟨y, x, T, rfl, hst⟩ := h9
    cases hst
    refine lv_ishl hx hb hd ?_
    exact kk H ls locs cells slots hS hL (Nat.le_refl _) hlo rfl rfl
  | ishr =>
    have hd := hd1 rfl
    simp only [mj_stp] at hst
    have h9 := mj_p2_s hst; clear hst; obtain ⟨y, x, T, rfl, hst⟩ := h9
    cases hst
    refine lv_ishr hx hb hd ?_
    exact kk H ls locs cells slots hS hL (Nat.le_refl _) hlo rfl rfl
  | idiv =>
    have hd := hd1 rfl
    simp only [mj_stp] at hst
    have h9 := mj_p2_s hst; clear hst; obtain ⟨y, x, T, rfl, hst⟩ := h9
    have h9 := mj_if_s hst; clear hst; obtain ⟨h0, hst⟩ := h9
    cases hst
    refine lv_idiv hx hb hd h0 ?_
    exact kk H ls locs cells slots hS hL (Nat.le_refl _) hlo rfl rfl
  | irem =>
    have hd := hd1 rfl
    simp only [mj_stp] at hst
    have h9 := mj_p2_s hst; clear hst; obtain ⟨y, x, T, rfl, hst⟩ := h9
    have h9 := mj_if_s hst; clear hst; obtain ⟨h0, hst⟩ := h9
    cases hst
    refine lv_irem hx hb hd h0 ?_
    exact kk H ls locs cells slots hS hL (Nat.le_refl _) hlo rfl rfl
  | ladd =>
    have hd := hd1 rfl
    simp only [mj_stp] at hst
    have h9 := mj_q2_s hst; clear hst; obtain ⟨y, x, T, rfl, hst⟩ := h9
    cases hst
    refine lv_ladd hx hb hd ?_
    exact kk H ls locs cells slots hS hL (Nat.le_refl _) hlo rfl rfl
  | lsub =>
    have hd := hd1 rfl
    simp only [mj_stp] at hst
    have h9 := mj_q2_s hst; clear hst; obtain ⟨y, x, T, rfl, hst⟩ := h9
    cases hst
    refine lv_lsub hx hb hd ?_
    exact kk H ls locs cells slots hS hL (Nat.le_refl _) hlo rfl rfl
  | lmul =>
    have hd := hd1 rfl
    simp only [mj_stp] at hst
    have h9 := mj_q2_s hst; clear hst; obtain ⟨y, x, T, rfl, hst⟩ := h9
    cases hst
    refine lv_lmul hx hb hd ?_
    exact kk H ls locs cells slots hS hL (Nat.le_refl _) hlo rfl rfl
  | i2l =>
    have hd := hd1 rfl
    simp only [mj_stp] at hst
    have h9 := mj_p1_s hst; clear hst; obtain ⟨x, T, rfl, hst⟩ := h9
    cases hst
    refine lv_i2l hx hb hd rfl ?_
    exact kk H ls locs cells slots hS hL (Nat.le_refl _) hlo rfl rfl
  | lshl =>
    have hd := hd1 rfl
    simp only [mj_stp] at hst
    split at hst
    · cases hst
      refine lv_lshl hx hb hd rfl ?_
      exact kk H ls locs cells slots hS hL (Nat.le_refl _) hlo rfl rfl
    · cases hst
  | lcmp =>
    have hd := hd1 rfl
    simp only [mj_stp] at hst
    have h9 := mj_q2_s hst; clear hst; obtain ⟨y, x, T, rfl, hst⟩ := h9
    cases hst
    refine W.lcmp hx hb hd ?_
    exact kk H ls locs cells slots hS hL (Nat.le_refl _) hlo rfl rfl
  | i2f =>
    have hd := hd1 rfl
    simp only [mj_stp] at hst
    have h9 := mj_p1_s hst; clear hst; obtain ⟨x, T, rfl, hst⟩ := h9
    cases hst
    refine lv_i2f hx hb hd ?_
    exact kk H ls locs cells slots hS hL (Nat.le_refl _) hlo rfl rfl
  | i2d =>
    have hd := hd1 rfl
    simp only [mj_stp] at hst
    have h9 := mj_p1_s hst; clear hst; obtain ⟨x, T, rfl, hst⟩ := h9
    cases hst
    refine lv_i2d hx hb hd ?_
    exact kk H ls locs cells slots hS hL (Nat.le_refl _) hlo rfl rfl
  | f2i =>
    have hd := hd1 rfl
    simp only [mj_stp] at hst
    have h9 := mj_f1_s hst; clear hst; obtain ⟨x, T, rfl, hst⟩ := h9
    cases hst
    refine lv_f2i hx hb hd ?_
    exact kk H ls locs cells slots hS hL (Nat.le_refl _) hlo rfl rfl
  | d2l =>
    have hd := hd1 rfl
    simp only [mj_stp] at hst
    have h9 := mj_d1_s hst; clear hst; obtain ⟨x, T, rfl, hst⟩ := h9
    cases hst
    refine lv_d2l hx hb hd ?_
    exact kk H ls locs cells slots hS hL (Nat.le_refl _) hlo rfl rfl
  | f2d =>
    have hd := hd1 rfl
    simp only [mj_stp] at hst
    have h9 := mj_f1_s hst; clear hst; obtain ⟨x, T, rfl, hst⟩ := h9
    have h9 := mj_if_s hst; clear hst; obtain ⟨h0, hst⟩ := h9
    cases hst
    refine lv_f2d hx hb hd h0 ?_
    exact kk H ls locs cells slots hS hL (Nat.le_refl _) hlo rfl rfl
  | fsub =>
    have hd := hd1 rfl
    simp only [mj_stp] at hst
    have h9 := mj_f2_s hst; clear hst; obtain ⟨y, x, T, rfl, hst⟩ := h9
    have h9 := mj_if_s hst; clear hst; obtain ⟨h0, hst⟩ := h9
    cases hst
    refine lv_fsub hx hb hd h0 ?_
    exact kk H ls locs cells slots hS hL (Nat.le_refl _) hlo rfl rfl
  | dsub =>
    have hd := hd1 rfl
    simp only [mj_stp] at hst
    have h9 := mj_d2_s hst; clear hst; obtain ⟨y, x, T, rfl, hst⟩ := h9
    have h9 := mj_if_s hst; clear hst; obtain ⟨h0, hst⟩ := h9
    cases hst
    refine lv_dsub hx hb hd h0 ?_
    exact kk H ls locs cells slots hS hL (Nat.le_refl _) hlo rfl rfl
  | fmul =>
    have hd := hd1 rfl
    simp only [mj_stp] at hst
    have h9 := mj_f2_s hst; clear hst; obtain ⟨y, x, T, rfl, hst⟩ := h9
    have h9 := mj_if_s hst; clear hst; obtain ⟨h0, hst⟩ := h9
    cases hst
    refine lv_fmul hx hb hd h0 ?_
    exact kk H ls locs cells slots hS hL (Nat.le_refl _) hlo rfl rfl
  | dmul =>
    have hd := hd1 rfl
    simp only [mj_stp] at hst
    have h9 := mj_d2_s hst; clear hst; obtain ⟨y, x, T, rfl, hst⟩ := h9
    have h9 := mj_if_s hst; clear hst; obtain ⟨h0, hst⟩ := h9
    cases hst
    refine lv_dmul hx hb hd h0 ?_
    exact kk H ls locs cells slots hS hL (Nat.le_refl _) hlo rfl rfl
  | fdiv =>
    have hd := hd1 rfl
    simp only [mj_stp] at hst
    have h9 := mj_f2_s hst; clear hst; obtain ⟨y, x, T, rfl, hst⟩ := h9
    have h9 := mj_if_s hst; clear hst; obtain ⟨h0, hst⟩ := h9
    cases hst
    refine lv_fdiv hx hb hd h0 ?_
    exact kk H ls locs cells slots hS hL (Nat.le_refl _) hlo rfl rfl
  | ddiv =>
    have hd := hd1 rfl
    simp only [mj_stp] at hst
    have h9 := mj_d2_s hst; clear hst; obtain ⟨y, x, T, rfl, hst⟩ := h9
    have h9 := mj_if_s hst; clear hst; obtain ⟨h0, hst⟩ := h9
    cases hst
    refine lv_ddiv hx hb hd h0 ?_
    exact kk H ls locs cells slots hS hL (Nat.le_refl _) hlo rfl rfl
  | fcmp q =>
    have hd := hd1 rfl
    simp only [mj_stp] at hst
    have h9 := mj_f2_s hst; clear hst; obtain ⟨y, x, T, rfl, hst⟩ := h9
    cases hst
    refine lv_fcmp hx hb hd ?_
    exact kk H ls locs cells slots hS hL (Nat.le_refl _) hlo rfl rfl
  | dcmp q =>
    have hd := hd1 rfl
    simp only [mj_stp] at hst
    have h9 := mj_d2_s hst; clear hst; obtain ⟨y, x, T, rfl, hst⟩ := h9
    cases hst
    refine lv_dcmp hx hb hd ?_
    exact kk H ls locs cells slots hS hL (Nat.le_refl _) hlo rfl rfl
  | dup =>
    have hd := hd1 rfl
    simp only [mj_stp] at hst
    split at hst
    · have h9 := mj_if_s hst; clear hst; obtain ⟨h0, hst⟩ := h9
      cases hst
      refine lv_dup hx hb hd (by rw [mj_tv_cat]; exact h0) ?_
      exact kk H ls locs cells slots hS hL (Nat.le_refl _) hlo rfl rfl
    · cases hst
  | dup2 =>
    have hd := hd1 rfl
    simp only [mj_stp] at hst
    split at hst
    · have h9 := mj_if_s hst; clear hst; obtain ⟨h0, hst⟩ := h9
      have h9 := mj_if_s hst; clear hst; obtain ⟨h1, hst⟩ := h9
      cases hst
      refine lv_dup2_11 hx hb hd (by rw [mj_tv_cat]; exact h0) (by rw [mj_tv_cat]; exact h1) ?_
      exact kk H ls locs cells slots hS hL (Nat.le_refl _) hlo rfl rfl
    · cases hst
  | pop =>
    have hd := hd1 rfl
    simp only [mj_stp] at hst
    split at hst
    · have h9 := mj_if_s hst; clear hst; obtain ⟨h0, hst⟩ := h9
      cases hst
      refine lv_pop hx hb hd (by rw [mj_tv_cat]; exact h0) ?_
      exact kk H ls locs cells slots hS hL (Nat.le_refl _) hlo rfl rfl
    · cases hst
  | ifCond q off =>
    have hd := hd1 rfl
    simp only [mj_stp] at hst
    have h9 := mj_p1_s hst; clear hst; obtain ⟨x, T, rfl, hst⟩ := h9
    have h9 := mj_tg_s hst; clear hst; obtain ⟨t, ht, hst⟩ := h9
    cases q with
    | eq =>
      simp only [mj_br] at hst
      refine lv_if_eq hx hb hd ht (fun h => ?_) (fun h => ?_)
      · rw [if_pos h] at hst; cases hst; exact kk H ls locs cells slots hS hL (Nat.le_refl _) hlo rfl rfl
      · rw [if_neg h] at hst; cases hst; exact kk H ls locs cells slots hS hL (Nat.le_refl _) hlo rfl rfl
    | ne =>
      simp only [mj_br] at hst
      refine lv_if_ne hx hb hd ht (fun h => ?_) (fun h => ?_)
      · rw [if_neg h] at hst; cases hst; exact kk H ls locs cells slots hS hL (Nat.le_refl _) hlo rfl rfl
      · rw [if_pos h] at hst; cases hst; exact kk H ls locs cells slots hS hL (Nat.le_refl _) hlo rfl rfl
    | lt =>
      simp only [mj_br] at hst
      refine lv_if_lt hx hb hd ht (fun h => ?_) (fun h => ?_)
      · rw [if_pos h] at hst; cases hst; exact kk H ls locs cells slots hS hL (Nat.le_refl _) hlo rfl rfl
      · rw [if_neg h] at hst; cases hst; exact kk H ls locs cells slots hS hL (Nat.le_refl _) hlo rfl rfl
    | ge =>
      simp only [mj_br] at hst
      refine lv_if_ge hx hb hd ht (fun h => ?_) (fun h => ?_)
      · rw [if_pos h] at hst; cases hst; exact kk H ls locs cells slots hS hL (Nat.le_refl _) hlo rfl rfl
      · rw [if_neg h] at hst; cases hst; exact kk H ls locs cells slots hS hL (Nat.le_refl _) hlo rfl rfl
    | gt =>
      simp only [mj_br] at hst
      refine lv_if_gt hx hb hd ht (fun h => ?_) (fun h => ?_)
      · rw [if_pos h] at hst; cases hst; exact kk H ls locs cells slots hS hL (Nat.le_refl _) hlo rfl rfl
      · rw [if_neg h] at hst; cases hst; exact kk H ls locs cells slots hS hL (Nat.le_refl _) hlo rfl rfl
    | le =>
      simp only [mj_br] at hst
      refine lv_if_le hx hb hd ht (fun h => ?_) (fun h => ?_)
      · rw [if_pos h] at hst; cases hst; exact kk H ls locs cells slots hS hL (Nat.le_refl _) hlo rfl rfl
      · rw [if_neg h] at hst; cases hst; exact kk H ls locs cells slots hS hL (Nat.le_refl _) hlo rfl rfl
  | if_icmp q off =>
    have hd := hd1 rfl
    simp only [mj_stp] at hst
    have h9 := mj_p2_s hst; clear hst; obtain ⟨y, x, T, rfl, hst⟩ := h9
    have h9 := mj_tg_s hst; clear hst; obtain ⟨t, ht, hst⟩ := h9
    cases q with
    | eq =>
      simp only [mj_br] at hst
      refine lv_icmp_eq hx hb hd ht (fun h => ?_) (fun h => ?_)
      · rw [if_pos h] at hst; cases hst; exact kk H ls locs cells slots hS hL (Nat.le_refl _) hlo rfl rfl
      · rw [if_neg h] at hst; cases hst; exact kk H ls locs cells slots hS hL (Nat.le_refl _) hlo rfl rfl
    | ne =>
      simp only [mj_br] at hst
      refine lv_icmp_ne hx hb hd ht (fun h => ?_) (fun h => ?_)
      · rw [if_neg h] at hst; cases hst; exact kk H ls locs cells slots hS hL (Nat.le_refl _) hlo rfl rfl
      · rw [if_pos h] at hst; cases hst; exact kk H ls locs cells slots hS hL (Nat.le_refl _) hlo rfl rfl
    | lt =>
      simp only [mj_br] at hst
      refine lv_icmp_lt hx hb hd ht (fun h => ?_) (fun h => ?_)
      · rw [if_pos h] at hst; cases hst; exact kk H ls locs cells slots hS hL (Nat.le_refl _) hlo rfl rfl
      · rw [if_neg h] at hst; cases hst; exact kk H ls locs cells slots hS hL (Nat.le_refl _) hlo rfl rfl
    | ge =>
      simp only [mj_br] at hst
      refine lv_icmp_ge hx hb hd ht (fun h => ?_) (fun h => ?_)
      · rw [if_pos h] at hst; cases hst; exact kk H ls locs cells slots hS hL (Nat.le_refl _) hlo rfl rfl
      · rw [if_neg h] at hst; cases hst; exact kk H ls locs cells slots hS hL (Nat.le_refl _) hlo rfl rfl
    | gt =>
      simp only [mj_br] at hst
      refine lv_icmp_gt hx hb hd ht (fun h => ?_) (fun h => ?_)
      · rw [if_pos h] at hst; cases hst; exact kk H ls locs cells slots hS hL (Nat.le_refl _) hlo rfl rfl
      · rw [if_neg h] at hst; cases hst; exact kk H ls locs cells slots hS hL (Nat.le_refl _) hlo rfl rfl
    | le =>
      simp only [mj_br] at hst
      refine lv_icmp_le hx hb hd ht (fun h => ?_) (fun h => ?_)
      · rw [if_pos h] at hst; cases hst; exact kk H ls locs cells slots hS hL (Nat.le_refl _) hlo rfl rfl
      · rw [if_neg h] at hst; cases hst; exact kk H ls locs cells slots hS hL (Nat.le_refl _) hlo rfl rfl
  | ifnull off =>
    have hd := hd1 rfl
    simp only [mj_stp] at hst
    have h9 := mj_r1_s hst; clear hst; obtain ⟨x, T, rfl, hst⟩ := h9
    cases hst
    refine lv_ifnull hx hb hd ?_
    exact kk H ls locs cells slots hS hL (Nat.le_refl _) hlo rfl rfl
  | goto off =>
    have hd := hd1 rfl
    simp only [mj_stp] at hst
    have h9 := mj_tg_s hst; clear hst; obtain ⟨t, ht, hst⟩ := h9
    cases hst
    refine lv_goto hx hb hd ht ?_
    exact kk H ls locs cells slots hS hL (Nat.le_refl _) hlo rfl rfl
  | tableswitch d lo hi offs =>
    simp only [mj_stp] at hst
    have h9 := mj_p1_s hst; clear hst; obtain ⟨x, T, rfl, hst⟩ := h9
    split at hst
    · rename_i h0
      have h9 := mj_tg_s hst; clear hst; obtain ⟨t, ht, hst⟩ := h9
      cases hst
      refine lv_tableOut hx hb hd0 h0 ht ?_
      exact kk H ls locs cells slots hS hL (Nat.le_refl _) hlo rfl rfl
    · rename_i h0
      have h1 : ¬ x.toInt < lo := fun z => h0 (Or.inl z)
      have h2 : ¬ hi < x.toInt := fun z => h0 (Or.inr z)
      split at hst
      · rename_i off ho
        have h9 := mj_tg_s hst; clear hst; obtain ⟨t, ht, hst⟩ := h9
        cases hst
        refine lv_tableIn hx hb hd0 h1 h2 ho ht ?_
        exact kk H ls locs cells slots hS hL (Nat.le_refl _) hlo rfl rfl
      · cases hst
  | lookupswitch d ps =>
    simp only [mj_stp] at hst
    have h9 := mj_p1_s hst; clear hst; obtain ⟨x, T, rfl, hst⟩ := h9
    have h9 := mj_if_s hst; clear hst; obtain ⟨h0, hst⟩ := h9
    have h9 := mj_tg_s hst; clear hst; obtain ⟨t, ht, hst⟩ := h9
    cases hst
    refine lv_lookup hx hb hd0 h0 rfl ht ?_
    exact kk H ls locs cells slots hS hL (Nat.le_refl _) hlo rfl rfl
  | ldc x =>
    have hd := hd1 rfl
    simp only [mj_stp] at hst
    split at hst
    · rename_i v hk
      cases hst
      refine lv_ldc hx hb hown (hts _ (mj_kst_ok _ (mj_find2 hk) _ List.mem_cons_self)) hd ?_
      exact kk H ls locs cells slots hS hL (Nat.le_refl _) hlo rfl rfl
    · rename_i v hk
      cases hst
      refine lv_ldcf hx hb hown (hts _ (mj_kst_ok _ (mj_find2 hk) _ List.mem_cons_self)) hd ?_
      exact kk H ls locs cells slots hS hL (Nat.le_refl _) hlo rfl rfl
    · cases hst
  | ldc2_w x =>
    have hd := hd1 rfl
    simp only [mj_stp] at hst
    split at hst
    · rename_i v hk
      cases hst
      refine lv_ldc2 hx hb hown (hts _ (mj_kst_ok _ (mj_find2 hk) _ List.mem_cons_self)) hd ?_
      exact kk H ls locs cells slots hS hL (Nat.le_refl _) hlo rfl rfl
    · rename_i v hk
      cases hst
      refine lv_ldc2d hx hb hown (hts _ (mj_kst_ok _ (mj_find2 hk) _ List.mem_cons_self)) hd ?_
      exact kk H ls locs cells slots hS hL (Nat.le_refl _) hlo rfl rfl
    · cases hst
  | getfield x =>
    have hd := hd1 rfl
    simp only [mj_stp] at hst
    split at hst
    · rename_i cc k hk
      have h9 := mj_r1_s hst; clear hst; obtain ⟨a, T, rfl, hst⟩ := h9
      have h9 := mj_eo_s hst; clear hst; obtain ⟨c2, fs, he, hst⟩ := h9
      have h9 := mj_if_s hst; clear hst; obtain ⟨rfl, hst⟩ := h9
      split at hst
      · rename_i v hv
        have h9 := mj_if_s hst; clear hst; obtain ⟨hkN, hst⟩ := h9
        cases hst
        obtain ⟨j, rfl, hat⟩ := hS.2.2.2 _ _ he
        have hq := mj_find2 hk
        obtain ⟨k1, k2, k3, k4⟩ := mj_cl_ok _ (mj_fld_okc _ hq)
        refine mo_get hx hb hts k4 hown hG.1 hat k1 k hkN (hts _ (mj_fld_ok _ hq _ List.mem_cons_self)) (v := mj_tv B b v) (by rw [List.getElem?_map, hv]; rfl) hd ?_
        exact kk H ls locs cells slots hS hL (Nat.le_refl _) hlo rfl rfl
      · cases hst
    · cases hst
  | putfield x =>
    have hd := hd1 rfl
    simp only [mj_stp] at hst
    split at hst
    · rename_i cc k hk
      split at hst
      · rename_i v a T
        have h9 := mj_eo_s hst; clear hst; obtain ⟨c2, fs, he, hst⟩ := h9
        have h9 := mj_if_s hst; clear hst; obtain ⟨⟨rfl, hl, hkN, hn, hf, hfin⟩, hst⟩ := h9
        cases hst
        obtain ⟨j, rfl, hat⟩ := hS.2.2.2 _ _ he
        have hq := mj_find2 hk
        obtain ⟨k1, k2, k3, k4⟩ := mj_cl_ok _ (mj_fld_okc _ hq)
        refine mo_put hx hb hts k4 (mj_ty _) k2 k3 hown hG.1 hat k1 k hkN (hts _ (mj_fld_ok _ hq _ List.mem_cons_self)) (hfin.imp id (fun q => ⟨(hnm (mj_init0 q.1)).trans q.1, q.2⟩)) (k2 k hkN) (mj_narrow hn) (mj_fits hf) (by rw [List.length_map]; exact hl) hd (fun H1 z e1 e2 e3 => ?_)
        rw [← List.map_set] at e1
        exact kk H1 ls _ cells slots (hS.up e1 e2 e3) hL (Nat.le_of_eq e2.symm) (t_lc hlo (Nat.le_add_right _ _)) rfl rfl
      · cases hst
    · cases hst
  | iaload =>
    have hd := hd1 rfl
    simp only [mj_stp] at hst
    have h9 := mj_p1_s hst; clear hst; obtain ⟨j, T, rfl, hst⟩ := h9
    have h9 := mj_r1_s hst; clear hst; obtain ⟨a, T, rfl, hst⟩ := h9
    split at hst
    · rename_i h0
      subst h0
      have h9 := mj_in_s hst; clear hst; obtain ⟨hin, hst⟩ := h9
      cases hst
      refine va_sld hx hb (A := fun q => B ≤ q) (hG.2.2.2.1 H hS.2.2.1 hS.2.1) (Nat.lt_of_lt_of_le hG.2.2.1 hS.2.1) (Nat.not_le.mpr hG.2.2.1) ⟨Nat.le_refl _, fun _ _ _ => rfl, hlo⟩ hin hd ?_
      exact kk H ls locs cells slots hS hL (Nat.le_refl _) hlo rfl rfl
    · have h9 := mj_ei_s hst; clear hst; obtain ⟨n, f, he, hst⟩ := h9
      have h9 := mj_in_s hst; clear hst; obtain ⟨hin, hst⟩ := h9
      cases hst
      obtain ⟨k, rfl, hat⟩ := hS.2.2.2 _ _ he
      obtain ⟨cI, cL, cQ, rfl⟩ := hG.2.1
      refine mo_iald hx hb hG.1 hat 0 rfl hin hd ?_
      exact kk H ls locs cells slots hS hL (Nat.le_refl _) hlo rfl rfl
  | aaload =>
    have hd := hd1 rfl
    simp only [mj_stp] at hst
    have h9 := mj_p1_s hst; clear hst; obtain ⟨j, T, rfl, hst⟩ := h9
    have h9 := mj_r1_s hst; clear hst; obtain ⟨a, T, rfl, hst⟩ := h9
    have h9 := mj_eq_s hst; clear hst; obtain ⟨n, f, he, hst⟩ := h9
    have h9 := mj_in_s hst; clear hst; obtain ⟨hin, hst⟩ := h9
    split at hst
    · rename_i v hv
      cases hst
      obtain ⟨k, rfl, hat⟩ := hS.2.2.2 _ _ he
      obtain ⟨cI, cL, cQ, rfl⟩ := hG.2.1
      refine mo_aldq hx hb hG.1 hat 2 rfl hin hd ?_
      rw [hv]
      exact kk H ls locs cells slots hS hL (Nat.le_refl _) hlo rfl rfl
    · cases hst
  | iastore =>
    have hd := hd1 rfl
    simp only [mj_stp] at hst
    have h9 := mj_p2_s hst; clear hst; obtain ⟨x, j, T, rfl, hst⟩ := h9
    have h9 := mj_r1_s hst; clear hst; obtain ⟨a, T, rfl, hst⟩ := h9
    have h9 := mj_ei_s hst; clear hst; obtain ⟨n, f, he, hst⟩ := h9
    have h9 := mj_in_s hst; clear hst; obtain ⟨hin, hst⟩ := h9
    cases hst
    obtain ⟨k, rfl, hat⟩ := hS.2.2.2 _ _ he
    obtain ⟨cI, cL, cQ, rfl⟩ := hG.2.1
    refine mo_iast hx hb hG.1 hat 0 rfl hin hd (fun H1 z e1 e2 e3 => ?_)
    exact kk H1 ls _ cells slots (hS.up e1 e2 e3) hL (Nat.le_of_eq e2.symm) (t_lc hlo (Nat.le_add_right _ _)) rfl rfl
  | aastore =>
    have hd := hd1 rfl
    simp only [mj_stp] at hst
    have h9 := mj_r1_s hst; clear hst; obtain ⟨v, T, rfl, hst⟩ := h9
    have h9 := mj_p1_s hst; clear hst; obtain ⟨j, T, rfl, hst⟩ := h9
    have h9 := mj_r1_s hst; clear hst; obtain ⟨a, T, rfl, hst⟩ := h9
    have h9 := mj_eo_s hst; clear hst; obtain ⟨c2, fs, hv, hst⟩ := h9
    have h9 := mj_if_s hst; clear hst; obtain ⟨rfl, hst⟩ := h9
    have h9 := mj_eq_s hst; clear hst; obtain ⟨n, f, he, hst⟩ := h9
    have h9 := mj_in_s hst; clear hst; obtain ⟨hin, hst⟩ := h9
    cases hst
    obtain ⟨k, rfl, hat⟩ := hS.2.2.2 _ _ he
    obtain ⟨kv, rfl, hav⟩ := hS.2.2.2 _ _ hv
    obtain ⟨cI, cL, cQ, rfl⟩ := hG.2.1
    obtain ⟨k1, -, -, -⟩ := mj_cl_ok mj_qc (by decide +kernel)
    refine mo_astq hx hb hG.1 hat 2 rfl hav k1 hin hd (fun H1 z e1 e2 e3 => ?_)
    have e1 : va_at D vwCl (B + k, mj_te B b [(cI, .int), (cI, .int), (cQ, .object (mj_cl mj_qc).1)] (.inl (2, n, .inr (.inr (.inr (.inr (va_up f j.toNatClampNeg (some (kv + 1))))))))) H1 := by
      have ef : va_up (fun q => (f q).map (mj_ad B b)) j.toNatClampNeg (some (B + kv)) = fun q => (va_up f j.toNatClampNeg (some (kv + 1)) q).map (mj_ad B b) := by
        funext q
        unfold va_up
        by_cases hq : q = j.toNatClampNeg
        · rw [if_pos hq, if_pos hq]; rfl
        · rw [if_neg hq, if_neg hq]
      rw [ef] at e1
      exact e1
    exact kk H1 ls _ cells slots (hS.up e1 e2 e3) hL (Nat.le_of_eq e2.symm) (t_lc hlo (Nat.le_add_right _ _)) rfl rfl
  | arraylength =>
    have hd := hd1 rfl
    simp only [mj_stp] at hst
    have h9 := mj_r1_s hst; clear hst; obtain ⟨a, T, rfl, hst⟩ := h9
    split at hst
    · rename_i h0
      subst h0
      cases hst
      refine va_slen hx hb (A := fun q => B ≤ q) (hG.2.2.2.1 H hS.2.2.1 hS.2.1) (Nat.lt_of_lt_of_le hG.2.2.1 hS.2.1) (Nat.not_le.mpr hG.2.2.1) ⟨Nat.le_refl _, fun _ _ _ => rfl, hlo⟩ hd ?_
      exact kk H ls locs cells slots hS hL (Nat.le_refl _) hlo rfl rfl
    · split at hst
      · rename_i n hn
        cases hst
        obtain ⟨cI, cL, cQ, rfl⟩ := hG.2.1
        unfold mj_en at hn
        split at hn
        · rename_i he
          split at hn
          · rename_i h1; subst h1; cases hn
            obtain ⟨k, rfl, hat⟩ := hS.2.2.2 _ _ he
            refine mo_alen hx hb hG.1 hat 0 rfl rfl hd ?_
            exact kk H ls locs cells slots hS hL (Nat.le_refl _) hlo rfl rfl
          · cases hn
        · rename_i he
          split at hn
          · rename_i h1; subst h1; cases hn
            obtain ⟨k, rfl, hat⟩ := hS.2.2.2 _ _ he
            refine mo_alen hx hb hG.1 hat 2 rfl rfl hd ?_
            exact kk H ls locs cells slots hS hL (Nat.le_refl _) hlo rfl rfl
          · cases hn
        · cases hn
      · cases hst
  | new x =>
    have hd := hd1 rfl
    simp only [mj_stp] at hst
    split at hst
    · rename_i cc hk
      have h9 := mj_if_s hst; clear hst; obtain ⟨h0, hst⟩ := h9
      cases hst
      have hq := mj_find2 hk
      obtain ⟨q1, q2⟩ := mj_cls_ok _ hq
      obtain ⟨k1, k2, k3, k4⟩ := mj_cl_ok _ q1
      have hc9 : cells + 1 ≤ R.cells := by have : cells + (w.1.1 + 1 + w.1.2.1) ≤ R.cells + (w.1.1 + w.1.2.1) := hrc; omega
      have hs9 : slots + (mj_cl cc).2.2 ≤ R.slots := by have : slots + (w.1.2.2 + (mj_cl cc).2.2) ≤ R.slots + w.1.2.2 := hrs; omega
      have hdf : ∀ j, j < (mj_cl cc).2.2 → defaultValue (mj_ty cc j) = vp_V ((mj_df cc).map (mj_tv B b)) j := by
        intro j hj
        unfold vp_V mj_df
        rw [List.getD_eq_getElem?_getD, List.getElem?_map, List.getElem?_map, List.getElem?_range hj]
        show defaultValue (mj_ty cc j) = mj_tv B b (defaultValue (mj_ty cc j))
        cases mj_ty cc j <;> rfl
      refine mo_new hx hb hts k4 (mj_ty cc) k2 hown (hts _ (q2 _ List.mem_cons_self)) (hts _ (q2 _ (List.mem_cons_of_mem _ List.mem_cons_self))) (hts _ (q2 _ (List.mem_cons_of_mem _ (List.mem_cons_of_mem _ List.mem_cons_self)))) hG.1 k1 hdf hc9 hs9 hd (fun H1 e1 e2 e3 => ?_)
      have hz := hS.1 h0
      rw [show Value.ref H.size = mj_tv B b (.ref (w.1.1 + 1)) from by rw [hz]; rfl]
      exact kk H1 ls locs _ _ (hS.new h0 (e := .inr (cc, mj_df cc)) e1 e2 e3) hL (by omega) hlo (by dsimp only; omega) (by dsimp only; omega)
    · cases hst
  | newarray aty =>
    cases aty with
    | int =>
      have hd := hd1 rfl
      simp only [mj_stp] at hst
      have h9 := mj_p1_s hst; clear hst; obtain ⟨n, T, rfl, hst⟩ := h9
      have h9 := mj_if_s hst; clear hst; obtain ⟨⟨h0, hn, hby⟩, hst⟩ := h9
      cases hst
      obtain ⟨cI, cL, cQ, rfl⟩ := hG.2.1
      have hc9 : cells + 1 ≤ R.cells := by have : cells + (w.1.1 + 1 + w.1.2.1) ≤ R.cells + (w.1.1 + w.1.2.1) := hrc; omega
      have hs9 : slots + n.toNatClampNeg ≤ R.slots := by have : slots + (w.1.2.2 + n.toNatClampNeg) ≤ R.slots + w.1.2.2 := hrs; omega
      have hfc := ((hG.1).2 0 _ rfl).2
      refine mo_newa (D := D) (cl := vwCl) (atype := .int) hx hb (hts _ mj_arr_ok.1) (ty := .int) rfl hfc (a0 := (n.toNatClampNeg, .inl (fun _ => 0))) (fun _ => rfl) hn rfl hby hc9 hs9 hd (fun H1 e1 e2 e3 => ?_)
      have hz := hS.1 h0
      rw [show Value.ref H.size = mj_tv B b (.ref (w.1.1 + 1)) from by rw [hz]; rfl]
      exact kk H1 ls locs _ _ (hS.new h0 (e := .inl (0, n.toNatClampNeg, .inl (fun _ => 0))) e1 e2 e3) hL (by omega) hlo (by dsimp only; omega) (by dsimp only; omega)
    | _ => simp [mj_stp] at hst
  | anewarray x =>
    have hd := hd1 rfl
    simp only [mj_stp] at hst
    have h9 := mj_p1_s hst; clear hst; obtain ⟨n, T, rfl, hst⟩ := h9
    have h9 := mj_if_s hst; clear hst; obtain ⟨⟨hk, h0, hn, hby⟩, hst⟩ := h9
    cases hst
    obtain ⟨cI, cL, cQ, rfl⟩ := hG.2.1
    have hc9 : cells + 1 ≤ R.cells := by have : cells + (w.1.1 + 1 + w.1.2.1) ≤ R.cells + (w.1.1 + w.1.2.1) := hrc; omega
    have hs9 : slots + n.toNatClampNeg ≤ R.slots := by have : slots + (w.1.2.2 + n.toNatClampNeg) ≤ R.slots + w.1.2.2 := hrs; omega
    have hq := mj_find2 hk
    obtain ⟨q1, q2⟩ := mj_cls_ok _ hq
    obtain ⟨kA, comp, -, -, -, hfc⟩ := ((hG.1).2 2 _ rfl).2
    refine mo_newq (D := D) (cl := vwCl) hx hb hown (hts _ (q2 _ List.mem_cons_self)) (va_AO.of (hts _ mj_arr_ok.2.2)) hfc hn rfl hby hc9 hs9 hd (fun H1 e1 e2 e3 => ?_)
    have hz := hS.1 h0
    rw [show Value.ref H.size = mj_tv B b (.ref (w.1.1 + 1)) from by rw [hz]; rfl]
    exact kk H1 ls locs _ _ (hS.new h0 (e := .inl (2, n.toNatClampNeg, .inr (.inr (.inr (.inr (fun _ => none)))))) e1 e2 e3) hL (by omega) hlo (by dsimp only; omega) (by dsimp only; omega)
  | invokespecial x =>
    have hd := hd1 rfl
    simp only [mj_stp] at hst
    split at hst
    · rename_i jj hk
      have h9 := mj_r1_s hst; clear hst; obtain ⟨a, T, rfl, hst⟩ := h9
      have h9 := mj_if_s hst; clear hst; obtain ⟨⟨h0, h1, h2⟩, hst⟩ := h9
      cases hst
      have hw := mj_call_ok _ (mj_find2 hk)
      refine W.objInit hx hb hown (hts _ (hw _ List.mem_cons_self)) (hts _ (hw _ (List.mem_cons_of_mem _ List.mem_cons_self))) (hts _ (hw _ (List.mem_cons_of_mem _ (List.mem_cons_of_mem _ List.mem_cons_self)))) rfl (hL.1.trans hml.symm) rfl hd (Nat.le_trans h1 hF) (by rw [mj_tv_sum]; show 2 * 0 + _ + 12 ≤ _; omega) ?_
      exact kk H ls locs cells slots hS hL (Nat.le_refl _) hlo rfl rfl
    · cases hst
  | invokestatic x =>
    have hd := hd1 rfl
    simp only [mj_stp] at hst
    split at hst
    · rename_i jj hk
      split at hst
      · rename_i n dp a sp a0 T
        have h9 := mj_ei_s hst; clear hst; obtain ⟨n0, f, he0, hst⟩ := h9
        have h9 := mj_ei_s hst; clear hst; obtain ⟨n1, f1, he1, hst⟩ := h9
        have h9 := mj_if_s hst; clear hst; obtain ⟨⟨g1, g2, g3, g4, g5, h0, h1, h2⟩, hst⟩ := h9
        have hnf : nativeFrameWords "java/lang/System" "arraycopy" 5 = 7 := by decide +kernel
        have hloc : ((T.map (mj_tv B b)).map fun v => v.category).sum + (nativeFrameWords "java/lang/System" "arraycopy" 5 + 11) ≤ R.locals := by
          rw [mj_tv_sum, hnf]
          omega
        cases hst
        have hw := mj_call_ok _ (mj_find2 hk)
        obtain ⟨k0, rfl, hat0⟩ := hS.2.2.2 _ _ he0
        obtain ⟨k1, rfl, hat1⟩ := hS.2.2.2 _ _ he1
        obtain ⟨cI, cL, cQ, rfl⟩ := hG.2.1
        refine mo_copyi hx hb (hml.trans hL.1.symm) hown (hts _ (hw _ List.mem_cons_self)) (hts _ (hw _ (List.mem_cons_of_mem _ List.mem_cons_self))) (hts _ (hw _ (List.mem_cons_of_mem _ (List.mem_cons_of_mem _ List.mem_cons_self)))) (hts _ (hw _ (List.mem_cons_of_mem _ (List.mem_cons_of_mem _ (List.mem_cons_of_mem _ List.mem_cons_self))))) hG.1 hat0 hat1 0 rfl rfl g1 g2 g3 g4 g5 (Nat.le_trans h1 hF) hloc hd (fun H1 L1 hL1 e1 e2 e3 => ?_)
        exact kk H1 ls _ cells slots (hS.up e1 e2 e3) hL (Nat.le_of_eq e2.symm) (t_lL hlo (fun q hq => by rw [hL1 q hq]; exact Nat.le_add_right _ _)) rfl rfl
      · cases hst
    · rename_i jj hk
      have h9 := mj_p2_s hst; clear hst; obtain ⟨y, x9, T, rfl, hst⟩ := h9
      have h9 := mj_if_s hst; clear hst; obtain ⟨⟨h0, h1, h2⟩, hst⟩ := h9
      cases hst
      have hw := mj_call_ok _ (mj_find2 hk)
      refine va_mmax hx hb (hml.trans hL.1.symm) hown (hts _ (hw _ List.mem_cons_self)) (hts _ (hw _ (List.mem_cons_of_mem _ List.mem_cons_self))) (hts _ (hw _ (List.mem_cons_of_mem _ (List.mem_cons_of_mem _ List.mem_cons_self)))) (hts _ (hw _ (List.mem_cons_of_mem _ (List.mem_cons_of_mem _ (List.mem_cons_of_mem _ List.mem_cons_self))))) (Nat.le_trans h1 hF) (by rw [mj_tv_sum]; omega) (by omega) (by omega) hd ?_
      exact kk H ls locs cells slots hS hL (Nat.le_refl _) hlo rfl rfl
    · rename_i jj hk
      have h9 := mj_p2_s hst; clear hst; obtain ⟨y, x9, T, rfl, hst⟩ := h9
      have h9 := mj_if_s hst; clear hst; obtain ⟨⟨h0, h1, h2⟩, hst⟩ := h9
      cases hst
      have hw := mj_call_ok _ (mj_find2 hk)
      refine va_mmin hx hb (hml.trans hL.1.symm) hown (hts _ (hw _ List.mem_cons_self)) (hts _ (hw _ (List.mem_cons_of_mem _ List.mem_cons_self))) (hts _ (hw _ (List.mem_cons_of_mem _ (List.mem_cons_of_mem _ List.mem_cons_self)))) (hts _ (hw _ (List.mem_cons_of_mem _ (List.mem_cons_of_mem _ (List.mem_cons_of_mem _ List.mem_cons_self))))) (Nat.le_trans h1 hF) (by rw [mj_tv_sum]; omega) (by omega) (by omega) hd ?_
      exact kk H ls locs cells slots hS hL (Nat.le_refl _) hlo rfl rfl
    · cases hst
  | _ => simp [mj_stp] at hst
