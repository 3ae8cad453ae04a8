/-! ===== THE MINI MACHINE: what the class's bytecode does, as a function over a small world; the machine itself is tied to it once, in parts 05 and 06 ===== -/
abbrev mj_H : Type := Nat → Option va_E
abbrev mj_U : Type := Nat × Nat × Nat
/-- cells made, exceptions made, slots used; what the cells hold, by their number; .ref 0 is the script -/
abbrev mj_W : Type := mj_U × mj_H
abbrev mj_R : Type := (Option Value) ⊕ Nat
abbrev mj_hole : Value := .retAddr 0
def mj_up (h : mj_H) (k : Nat) (e : va_E) : mj_H := fun j => if j = k then some e else h j
def mj_hol (v : Value) : Value := if v.category = 2 then mj_hole else v
def mj_hd : List Value → List Value
  | [] => []
  | _ :: L => mj_hole :: L
def mj_st1 : List Value → Nat → Value → List Value
  | [], _, _ => []
  | _ :: L, 0, v => v :: L
  | a :: L, i + 1, v => (if i = 0 then mj_hol a else a) :: mj_st1 L i v
def mj_st2 : List Value → Nat → Value → List Value
  | [], _, _ => []
  | _ :: L, 0, v => v :: mj_hd L
  | a :: L, i + 1, v => (if i = 0 then mj_hol a else a) :: mj_st2 L i v
def mj_args (vs : List Value) : List Value := vs.flatMap (fun v => if v.category = 2 then [v, mj_hole] else [v])
/-- the locals with which method j begins -/
def mj_ent (j : Nat) (vs : List Value) : List Value := mj_args vs ++ List.replicate (mj_l j - (mj_args vs).length) mj_hole
def mj_cat (vs : List Value) : Nat := (vs.map fun v => v.category).sum
section MJS
variable {α : Type}
def mj_p1 (S : List Value) (k : Int32 → List Value → Option α) : Option α := match S with
  | .int y :: S => k y S
  | _ => none
def mj_p2 (S : List Value) (k : Int32 → Int32 → List Value → Option α) : Option α := match S with
  | .int y :: .int x :: S => k y x S
  | _ => none
def mj_q1 (S : List Value) (k : Int64 → List Value → Option α) : Option α := match S with
  | .long y :: S => k y S
  | _ => none
def mj_q2 (S : List Value) (k : Int64 → Int64 → List Value → Option α) : Option α := match S with
  | .long y :: .long x :: S => k y x S
  | _ => none
def mj_f1 (S : List Value) (k : UInt32 → List Value → Option α) : Option α := match S with
  | .float y :: S => k y S
  | _ => none
def mj_f2 (S : List Value) (k : UInt32 → UInt32 → List Value → Option α) : Option α := match S with
  | .float y :: .float x :: S => k y x S
  | _ => none
def mj_d1 (S : List Value) (k : UInt64 → List Value → Option α) : Option α := match S with
  | .double y :: S => k y S
  | _ => none
def mj_d2 (S : List Value) (k : UInt64 → UInt64 → List Value → Option α) : Option α := match S with
  | .double y :: .double x :: S => k y x S
  | _ => none
def mj_r1 (S : List Value) (k : Nat → List Value → Option α) : Option α := match S with
  | .ref y :: S => k y S
  | _ => none
def mj_li (v : Option Value) (k : Int32 → Option α) : Option α := match v with
  | some (.int x) => k x
  | _ => none
def mj_lj (v : Option Value) (k : Int64 → Option α) : Option α := match v with
  | some (.long x) => k x
  | _ => none
def mj_lf (v : Option Value) (k : UInt32 → Option α) : Option α := match v with
  | some (.float x) => k x
  | _ => none
def mj_ld (v : Option Value) (k : UInt64 → Option α) : Option α := match v with
  | some (.double x) => k x
  | _ => none
def mj_lr' (v : Option Value) (k : Nat → Option α) : Option α := match v with
  | some (.ref x) => k x
  | _ => none
def mj_eo (e : Option va_E) (k : Nat → List Value → Option α) : Option α := match e with
  | some (.inr (c, fs)) => k c fs
  | _ => none
def mj_ei (e : Option va_E) (k : Nat → (Nat → Int32) → Option α) : Option α := match e with
  | some (.inl (t, n, .inl f)) => if t = 0 then k n f else none
  | _ => none
def mj_ej (e : Option va_E) (k : Nat → (Nat → Int64) → Option α) : Option α := match e with
  | some (.inl (t, n, .inr (.inl f))) => if t = 1 then k n f else none
  | _ => none
def mj_eq (e : Option va_E) (k : Nat → (Nat → Option Nat) → Option α) : Option α := match e with
  | some (.inl (t, n, .inr (.inr (.inr (.inr f))))) => if t = 2 then k n f else none
  | _ => none
/-- the length of an array of a kind that is known -/
def mj_en (e : Option va_E) : Option Nat := match e with
  | some (.inl (t, n, .inl _)) => if t = 0 then some n else none
  | some (.inl (t, n, .inr (.inr (.inr (.inr _))))) => if t = 2 then some n else none
  | _ => none
def mj_in (i : Int32) (n : Nat) (k : Option α) : Option α := if i < 0 ∨ n ≤ i.toNatClampNeg then none else k
def mj_if (c : Prop) [Decidable c] (k : Option α) : Option α := if c then k else none
def mj_tg (pc : Nat) (off : Int) (k : Nat → Option α) : Option α := if 0 ≤ (pc : Int) + off then k ((pc : Int) + off).toNat else none
def mj_br (c : ClassFile.Cond) (x y : Int32) (t f : Option α) : Option α := match c with
  | .eq => if x = y then t else f
  | .ne => if x = y then f else t
  | .lt => if x < y then t else f
  | .ge => if y ≤ x then t else f
  | .gt => if y < x then t else f
  | .le => if x ≤ y then t else f
end MJS
abbrev mj_C : Type := (Nat × List Value × List Value) × mj_W
/-- how long an instruction is -/
def mj_ln (g : Instr) : Nat := match g with
  | .bipush _ | .iload _ | .lload _ | .fload _ | .dload _ | .aload _ | .istore _ | .lstore _ | .fstore _ | .dstore _ | .astore _ | .ldc _ | .newarray _ => 2
  | .sipush _ | .getfield _ | .putfield _ | .goto _ | .ifCond _ _ | .if_icmp _ _ | .ifnull _ | .iinc _ _ | .invokevirtual _ | .invokestatic _ | .invokespecial _ | .new _ | .anewarray _ | .ldc_w _ | .ldc2_w _ => 3
  | _ => 1
def mj_sw (g : Instr) : Bool := match g with
  | .tableswitch .. | .lookupswitch .. => true
  | _ => false
section MJT
variable (Ln : Nat) (xs : Nat → Int32)
/-- one instruction that stays in its frame -/
def mj_stp (i pc : Nat) (L S : List Value) (w : mj_W) (g : Instr) : Option mj_C :=
  let nx : List Value → Option mj_C := fun S' => some ((pc + mj_ln g, L, S'), w)
  let nl : List Value → List Value → Option mj_C := fun L' S' => some ((pc + mj_ln g, L', S'), w)
  let nh : List Value → mj_H → Option mj_C := fun S' h => some ((pc + mj_ln g, L, S'), (w.1, h))
  let jp : Int → List Value → Option mj_C := fun off S' => mj_tg pc off fun t => some ((t, L, S'), w)
  match g with
  | .iconst n => nx (.int (Int32.ofInt n) :: S)
  | .bipush n => nx (.int (Int8.ofInt n).toInt32 :: S)
  | .sipush n => nx (.int (Int16.ofInt n).toInt32 :: S)
  | .lconst n => nx (.long (Int64.ofNat (n : Nat)) :: S)
  | .fconst n => nx (.float (match n with | 0 => FP.fconst0 | 1 => FP.fconst1 | 2 => FP.fconst2) :: S)
  | .dconst n => nx (.double (match n with | 0 => FP.dconst0 | 1 => FP.dconst1) :: S)
  | .iload k => mj_li L[k]? fun x => nx (.int x :: S)
  | .lload k => mj_lj L[k]? fun x => nx (.long x :: S)
  | .fload k => mj_lf L[k]? fun x => nx (.float x :: S)
  | .dload k => mj_ld L[k]? fun x => nx (.double x :: S)
  | .aload k => mj_lr' L[k]? fun x => nx (.ref x :: S)
  | .iload_n k => mj_li L[(k : Nat)]? fun x => nx (.int x :: S)
  | .lload_n k => mj_lj L[(k : Nat)]? fun x => nx (.long x :: S)
  | .fload_n k => mj_lf L[(k : Nat)]? fun x => nx (.float x :: S)
  | .dload_n k => mj_ld L[(k : Nat)]? fun x => nx (.double x :: S)
  | .aload_n k => mj_lr' L[(k : Nat)]? fun x => nx (.ref x :: S)
  | .istore k => mj_p1 S fun x S => mj_if (k < mj_l i) (nl (mj_st1 L k (.int x)) S)
  | .lstore k => mj_q1 S fun x S => mj_if (k + 1 < mj_l i) (nl (mj_st2 L k (.long x)) S)
  | .fstore k => mj_f1 S fun x S => mj_if (k < mj_l i) (nl (mj_st1 L k (.float x)) S)
  | .dstore k => mj_d1 S fun x S => mj_if (k + 1 < mj_l i) (nl (mj_st2 L k (.double x)) S)
  | .astore k => mj_r1 S fun x S => mj_if (k < mj_l i) (nl (mj_st1 L k (.ref x)) S)
  | .istore_n k => mj_p1 S fun x S => mj_if ((k : Nat) < mj_l i) (nl (mj_st1 L k (.int x)) S)
  | .lstore_n k => mj_q1 S fun x S => mj_if ((k : Nat) + 1 < mj_l i) (nl (mj_st2 L k (.long x)) S)
  | .fstore_n k => mj_f1 S fun x S => mj_if ((k : Nat) < mj_l i) (nl (mj_st1 L k (.float x)) S)
  | .dstore_n k => mj_d1 S fun x S => mj_if ((k : Nat) + 1 < mj_l i) (nl (mj_st2 L k (.double x)) S)
  | .astore_n k => mj_r1 S fun x S => mj_if ((k : Nat) < mj_l i) (nl (mj_st1 L k (.ref x)) S)
  | .iinc k n => mj_li L[k]? fun x => mj_if (k < mj_l i) (nl (mj_st1 L k (.int (x + Int32.ofInt n))) S)
  | .iadd => mj_p2 S fun y x S => nx (.int (x + y) :: S)
  | .isub => mj_p2 S fun y x S => nx (.int (x - y) :: S)
  | .imul => mj_p2 S fun y x S => nx (.int (x * y) :: S)
  | .iand => mj_p2 S fun y x S => nx (.int (x &&& y) :: S)
  | .idiv => mj_p2 S fun y x S => mj_if (¬ y = 0) (nx (.int (x / y) :: S))
  | .irem => mj_p2 S fun y x S => mj_if (¬ y = 0) (nx (.int (x - x / y * y) :: S))
  | .ishl => mj_p2 S fun y x S => nx (.int (x <<< (y &&& 31)) :: S)
  | .ishr => mj_p2 S fun y x S => nx (.int (x >>> (y &&& 31)) :: S)
  | .i2l => mj_p1 S fun x S => nx (.long x.toInt64 :: S)
  | .ladd => mj_q2 S fun y x S => nx (.long (x + y) :: S)
  | .lsub => mj_q2 S fun y x S => nx (.long (x - y) :: S)
  | .lmul => mj_q2 S fun y x S => nx (.long (x * y) :: S)
  | .lshl => match S with
    | .int y :: .long x :: S => nx (.long (x <<< (y.toInt64 &&& 63)) :: S)
    | _ => none
  | .lcmp => mj_q2 S fun y x S => nx (.int (lg_cmp x y) :: S)
  | .i2f => mj_p1 S fun x S => nx (.float (FP.i2f x) :: S)
  | .i2d => mj_p1 S fun x S => nx (.double (FP.i2d x) :: S)
  | .f2i => mj_f1 S fun x S => nx (.int (FP.f2i x) :: S)
  | .d2l => mj_d1 S fun x S => nx (.long (FP.d2l x) :: S)
  | .f2d => mj_f1 S fun x S => mj_if (FP.f2d x &&& 0x7fffffffffffffff ≤ 0x7ff0000000000000) (nx (.double (FP.f2d x) :: S))
  | .fsub => mj_f2 S fun y x S => mj_if (FP.fsub x y &&& 0x7fffffff ≤ 0x7f800000) (nx (.float (FP.fsub x y) :: S))
  | .fmul => mj_f2 S fun y x S => mj_if (FP.fmul x y &&& 0x7fffffff ≤ 0x7f800000) (nx (.float (FP.fmul x y) :: S))
  | .fdiv => mj_f2 S fun y x S => mj_if (FP.fdiv x y &&& 0x7fffffff ≤ 0x7f800000) (nx (.float (FP.fdiv x y) :: S))
  | .dsub => mj_d2 S fun y x S => mj_if (FP.dsub x y &&& 0x7fffffffffffffff ≤ 0x7ff0000000000000) (nx (.double (FP.dsub x y) :: S))
  | .dmul => mj_d2 S fun y x S => mj_if (FP.dmul x y &&& 0x7fffffffffffffff ≤ 0x7ff0000000000000) (nx (.double (FP.dmul x y) :: S))
  | .ddiv => mj_d2 S fun y x S => mj_if (FP.ddiv x y &&& 0x7fffffffffffffff ≤ 0x7ff0000000000000) (nx (.double (FP.ddiv x y) :: S))
  | .fcmp c => mj_f2 S fun y x S => nx (.int (Op.cmpValue (FP.fcmp x y) c) :: S)
  | .dcmp c => mj_d2 S fun y x S => nx (.int (Op.cmpValue (FP.dcmp x y) c) :: S)
  | .dup => match S with
    | v :: S => mj_if (v.category = 1) (nx (v :: v :: S))
    | _ => none
  | .dup2 => match S with
    | v :: u :: S => mj_if (v.category = 1) (mj_if (u.category = 1) (nx (v :: u :: v :: u :: S)))
    | _ => none
  | .pop => match S with
    | v :: S => mj_if (v.category = 1) (nx S)
    | _ => none
  | .ifCond c off => mj_p1 S fun x S => mj_tg pc off fun t => mj_br c x 0 (some ((t, L, S), w)) (nx S)
  | .if_icmp c off => mj_p2 S fun y x S => mj_tg pc off fun t => mj_br c x y (some ((t, L, S), w)) (nx S)
  | .ifnull _ => mj_r1 S fun _ S => nx S
  | .goto off => jp off S
  | .tableswitch d lo hi offs => mj_p1 S fun x S => if x.toInt < lo ∨ hi < x.toInt then jp d S else match offs[(x.toInt - lo).toNat]? with
    | some off => jp off S
    | none => none
  | .lookupswitch d ps => mj_p1 S fun x S => mj_if ((ps.toList.zip (ps.toList.drop 1)).all (fun (a, next) => a.1 < next.1) = true) (jp (Op.lookupswitch.offset ps.toList d x.toInt) S)
  | .ldc x => match mj_rk (mj_o i) x with
    | some (.int v) => nx (.int v :: S)
    | some (.float v) => nx (.float v :: S)
    | _ => none
  | .ldc2_w x => match mj_rk (mj_o i) x with
    | some (.long v) => nx (.long v :: S)
    | some (.double v) => nx (.double v :: S)
    | _ => none
  | .getfield x => match mj_rf (mj_o i) x with
    | some (c, k) => mj_r1 S fun a S => mj_eo (w.2 a) fun c' fs => mj_if (c' = c) (match fs[k]? with
      | some v => mj_if (k < (mj_cl c).2.2) (nx (v :: S))
      | none => none)
    | none => none
  | .putfield x => match mj_rf (mj_o i) x with
    | some (c, k) => match S with
      | v :: .ref a :: S => mj_eo (w.2 a) fun c' fs => mj_if (c' = c ∧ k < fs.length ∧ k < (mj_cl c).2.2 ∧ narrow (mj_ty c k) v = v ∧ fits (mj_ty c k) v = true ∧ (((mj_cl c).2.1 k).2.2.2 = false ∨ ((mj_y i).name = "<init>" ∧ ((mj_cl c).2.1 k).1 = mj_own (mj_o i)))) (nh S (mj_up w.2 a (.inr (c, fs.set k v))))
      | _ => none
    | none => none
  | .iaload => mj_p1 S fun j S => mj_r1 S fun a S => if a = 0 then mj_in j Ln (nx (.int (xs j.toNatClampNeg) :: S)) else mj_ei (w.2 a) fun n f => mj_in j n (nx (.int (f j.toNatClampNeg) :: S))
  | .aaload => mj_p1 S fun j S => mj_r1 S fun a S => mj_eq (w.2 a) fun n f => mj_in j n (match f j.toNatClampNeg with
    | some v => nx (.ref v :: S)
    | none => none)
  | .iastore => mj_p2 S fun x j S => mj_r1 S fun a S => mj_ei (w.2 a) fun n f => mj_in j n (nh S (mj_up w.2 a (.inl (0, n, .inl (upd f j.toNatClampNeg x)))))
  | .aastore => mj_r1 S fun v S => mj_p1 S fun j S => mj_r1 S fun a S => mj_eo (w.2 v) fun c _ => mj_if (c = mj_qc) (mj_eq (w.2 a) fun n f => mj_in j n (nh S (mj_up w.2 a (.inl (2, n, .inr (.inr (.inr (.inr (va_up f j.toNatClampNeg (some v)))))))) ))
  | .arraylength => mj_r1 S fun a S => if a = 0 then nx (.int (Int32.ofNat Ln) :: S) else match mj_en (w.2 a) with
    | some n => nx (.int (Int32.ofNat n) :: S)
    | none => none
  | .new x => match mj_rn (mj_o i) x with
    | some c => mj_if (w.1.2.1 = 0) (some ((pc + 3, L, .ref (w.1.1 + 1) :: S), ((w.1.1 + 1, w.1.2.1, w.1.2.2 + (mj_cl c).2.2), mj_up w.2 (w.1.1 + 1) (.inr (c, mj_df c)))))
    | none => none
  | .newarray .int => mj_p1 S fun n S => mj_if (w.1.2.1 = 0 ∧ ¬ n < 0 ∧ n.toNatClampNeg * 4 ≤ 536870912) (some ((pc + 2, L, .ref (w.1.1 + 1) :: S), ((w.1.1 + 1, w.1.2.1, w.1.2.2 + n.toNatClampNeg), mj_up w.2 (w.1.1 + 1) (.inl (0, n.toNatClampNeg, .inl (fun _ => 0))))))
  | .anewarray x => mj_p1 S fun n S => mj_if (mj_rn (mj_o i) x = some mj_qc ∧ w.1.2.1 = 0 ∧ ¬ n < 0 ∧ n.toNatClampNeg * 4 ≤ 536870912) (some ((pc + 3, L, .ref (w.1.1 + 1) :: S), ((w.1.1 + 1, w.1.2.1, w.1.2.2 + n.toNatClampNeg), mj_up w.2 (w.1.1 + 1) (.inl (2, n.toNatClampNeg, .inr (.inr (.inr (.inr (fun _ => none)))))))))
  | .invokespecial x => match mj_rc (mj_o i) x with
    | some (4, _) => mj_r1 S fun _ S => mj_if (mj_cat S ≤ 8 ∧ 1 ≤ mj_F i ∧ 20 ≤ mj_D i) (nx S)
    | _ => none
  | .invokestatic x => match mj_rc (mj_o i) x with
    | some (5, _) => match S with
      | .int n :: .int dp :: .ref a :: .int sp :: .ref a0 :: S => mj_ei (w.2 a0) fun n0 f => mj_ei (w.2 a) fun n1 g => mj_if (¬ sp < 0 ∧ ¬ dp < 0 ∧ ¬ n < 0 ∧ sp.toNatClampNeg + n.toNatClampNeg ≤ n0 ∧ dp.toNatClampNeg + n.toNatClampNeg ≤ n1 ∧ mj_cat S ≤ 8 ∧ 1 ≤ mj_F i ∧ 26 ≤ mj_D i) (nh S (mj_up w.2 a (.inl (0, n1, .inl (va_cpy f g sp.toNatClampNeg dp.toNatClampNeg n.toNatClampNeg)))))
      | _ => none
    | some (6, _) => mj_p2 S fun y x S => mj_if (mj_cat S ≤ 8 ∧ 1 ≤ mj_F i ∧ 26 ≤ mj_D i) (nx (.int (if x < y then y else x) :: S))
    | some (7, _) => mj_p2 S fun y x S => mj_if (mj_cat S ≤ 8 ∧ 1 ≤ mj_F i ∧ 26 ≤ mj_D i) (nx (.int (if y < x then y else x) :: S))
    | _ => none
  | _ => none
/-- the answer with which a frame ends -/
def mj_fin (i : Nat) (S : List Value) (g : Instr) : Option (Option Value) := match g with
  | .ireturn => match S, mj_r i with
    | [.int v], some ty => mj_if (narrow ty (.int v) = .int v) (some (some (.int v)))
    | _, _ => none
  | .lreturn => match S, mj_r i with
    | [.long v], some .long => some (some (.long v))
    | _, _ => none
  | .freturn => match S, mj_r i with
    | [.float v], some .float => some (some (.float v))
    | _, _ => none
  | .dreturn => match S, mj_r i with
    | [.double v], some .double => some (some (.double v))
    | _, _ => none
  | .areturn => match S, mj_r i with
    | [.ref v], some (.object _) => some (some (.ref v))
    | _, _ => none
  | .return_ => match S, mj_r i with
    | [], none => some none
    | _, _ => none
  | _ => none
/-- 'throw new E("text")': new, dup, ldc, invokespecial, athrow -/
def mj_thr (i pc : Nat) (S : List Value) (g : Instr) : Option Nat := match g with
  | .new x => match mj_rx (mj_o i) x with
    | some (E, ic) => mj_if (decode (mj_b i) (pc + 3) = .ok (.dup, 1) ∧ mj_h i = [] ∧ mj_cat S ≤ 8 ∧ 6 ≤ mj_F i ∧ 100 ≤ mj_D i)
      (match decode (mj_b i) (pc + 4) with
        | .ok (.ldc z, 2) => mj_if ((mj_rs (mj_o i) z).isSome ∧ decode (mj_b i) (pc + 6) = .ok (.invokespecial ic, 3) ∧ decode (mj_b i) (pc + 9) = .ok (.athrow, 1)) (some E)
        | .ok (.ldc_w z, 3) => mj_if ((mj_rs (mj_o i) z).isSome ∧ decode (mj_b i) (pc + 7) = .ok (.invokespecial ic, 3) ∧ decode (mj_b i) (pc + 10) = .ok (.athrow, 1)) (some E)
        | _ => none)
    | none => none
  | _ => none
/-- a call: the method, its arguments, the rest of the stack -/
def mj_cal (i : Nat) (S : List Value) (w : mj_W) (g : Instr) : Option (Nat × List Value × List Value) :=
  let go : Nat → Option (Nat × List Value × List Value) := fun j => mj_if (mj_n j ≤ S.length ∧ mj_cat (S.drop (mj_n j)) ≤ 8 ∧ mj_F j + 1 ≤ mj_F i ∧ 8 + (mj_l j + 11) + mj_D j ≤ mj_D i ∧ mj_cat (S.take (mj_n j)) ≤ mj_l j) (some (j, (S.take (mj_n j)).reverse, S.drop (mj_n j)))
  match g with
  | .invokevirtual x => match mj_rc (mj_o i) x with
    | some (0, j) => match (S.take (mj_n j)).reverse with
      | .ref a :: _ => mj_eo (w.2 a) fun c _ => mj_if (c = mj_c j) (go j)
      | _ => none
    | _ => none
  | .invokestatic x => match mj_rc (mj_o i) x with
    | some (1, j) => go j
    | _ => none
  | .invokespecial x => match mj_rc (mj_o i) x with
    | some (2, j) => match (S.take (mj_n j)).reverse with
      | .ref _ :: _ => go j
      | _ => none
    | some (3, j) => match (S.take (mj_n j)).reverse with
      | .ref _ :: _ => go j
      | _ => none
    | _ => none
  | _ => none
/-- where an exception that a call at pc throws is caught: the pc behind the handler's astore, and the place it writes -/
def mj_cat2 (i pc E : Nat) : Option (Nat × Nat) :=
  match (mj_h i).find? (fun q => (q.1 ≤ pc && pc < q.2.1) && mj_rh (mj_o i) q.2.2.2 == some E) with
  | some q => match decode (mj_b i) q.2.2.1 with
    | .ok (.astore_n k, 1) => mj_if ((k : Nat) < mj_l i) (some (q.2.2.1 + 1, (k : Nat)))
    | .ok (.astore k, 2) => mj_if (k < mj_l i) (some (q.2.2.1 + 2, k))
    | _ => none
  | none => none
def mj_run : Nat → Nat → Nat → List Value → List Value → mj_W → Option (mj_R × mj_W)
  | 0, _, _, _, _, _ => none
  | f + 1, i, pc, L, S, w => match decode (mj_b i) pc with
    | .error _ => none
    | .ok (g, len) => if mj_sw g = true ∨ len = mj_ln g then
        match mj_stp Ln xs i pc L S w g with
        | some ((pc', L', S'), w') => if w.1.1 + w.1.2.1 ≤ w'.1.1 + w'.1.2.1 ∧ w.1.2.2 ≤ w'.1.2.2 then mj_run f i pc' L' S' w' else none
        | none => match mj_fin i S g with
          | some v => some (.inl v, w)
          | none => match mj_thr i pc S g with
            | some E => some (.inr E, ((w.1.1, w.1.2.1 + 1, w.1.2.2 + 6), w.2))
            | none => match mj_cal i S w g with
              | some (j, vs, S') => match mj_run f j 0 (mj_ent j vs) [] w with
                | none => none
                | some (.inl v, w') => mj_run f i (pc + 3) L (v.toList ++ S') w'
                | some (.inr E, w') => match mj_cat2 i pc E with
                  | some (h, k) => mj_run f i h (mj_st1 L k mj_hole) [] w'
                  | none => none
              | none => none
      else none
end MJT
