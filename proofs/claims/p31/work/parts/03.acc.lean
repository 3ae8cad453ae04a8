/-! ===== the mini machine's tables, looked up ===== -/
def mj_o (i : Nat) : Nat := mj_mO.getD i 0
def mj_y (i : Nat) : MethodName := mj_mY.getD i ⟨"", "", ""⟩
def mj_b (i : Nat) : ByteArray := mj_mB.getD i ⟨#[]⟩
def mj_l (i : Nat) : Nat := mj_mL.getD i 0
def mj_r (i : Nat) : Option FieldType := mj_mR.getD i none
def mj_h (i : Nat) : List (Nat × Nat × Nat × Nat) := mj_mH.getD i []
def mj_n (i : Nat) : Nat := mj_mN.getD i 0
def mj_c (i : Nat) : Nat := mj_mC.getD i 99
def mj_F (i : Nat) : Nat := mj_mF.getD i 0
def mj_D (i : Nat) : Nat := mj_mW.getD i 0
def mj_own (o : Nat) : String := mj_ON.getD o ""
def mj_cl (ci : Nat) : vw_C := vwCl.getD ci ("", (fun _ => ("", "", "", false)), 0)
def mj_ty (ci k : Nat) : FieldType := (parseFieldDescriptor ((mj_cl ci).2.1 k).2.2.1).getD .int
def mj_df (ci : Nat) : List Value := (List.range (mj_cl ci).2.2).map (fun k => defaultValue (mj_ty ci k))
def mj_rc (o x : Nat) : Option (Nat × Nat) := (mj_call.find? (fun q => q.1 == o && q.2.1 == x)).map (fun q => q.2.2)
def mj_rf (o x : Nat) : Option (Nat × Nat) := (mj_fld.find? (fun q => q.1 == o && q.2.1 == x)).map (fun q => q.2.2)
def mj_rn (o x : Nat) : Option Nat := (mj_cls.find? (fun q => q.1 == o && q.2.1 == x)).map (fun q => q.2.2)
def mj_rk (o x : Nat) : Option Value := (mj_kst.find? (fun q => q.1 == o && q.2.1 == x)).map (fun q => q.2.2)
def mj_rx (o x : Nat) : Option (Nat × Nat) := (mj_exc.find? (fun q => q.1 == o && q.2.1 == x)).map (fun q => q.2.2)
def mj_rh (o x : Nat) : Option Nat := (mj_hdl.find? (fun q => q.1 == o && q.2.1 == x)).map (fun q => q.2.2)
def mj_rs (o x : Nat) : Option String := (mj_str.find? (fun q => q.1 == o && q.2.1 == x)).map (fun q => q.2.2)
/-- the class whose objects the arrays of references hold -/
def mj_qc : Nat := 1
