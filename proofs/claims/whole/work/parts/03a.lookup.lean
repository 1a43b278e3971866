def fTys : List (Nat × (Nat → FieldType)) := [(6, tyX0), (10, tyX1), (8, tyX2), (14, tyX3), (14, tyX4), (2, tyX5), (6, tyX6), (8, tyX7), (2, tyX8), (14, tyX9), (65, tyX10)]
def nF (c : Nat) : Nat := (fTys.getD c (0, fun _ => .int)).1
def fTy (c k : Nat) : FieldType := (fTys.getD c (0, fun _ => .int)).2 k
def isRf (t : FieldType) : Bool := match t with | .object _ => true | .array _ => true | _ => false
def isZ (t : FieldType) : Bool := match t with | .boolean => true | _ => false
def fK (c k : Nat) : Nat := match fTy c k with | .int => 0 | .boolean => 1 | .object _ => 2 | .array _ => 2 | _ => 3
def dflT : ByteArray × IC := (⟨#[]⟩, [])
def mB (y : Nat) : ByteArray := (mTab.getD y dflT).1
def mC (y : Nat) : IC := (mTab.getD y dflT).2
def mY (y : Nat) : MethodName := mYl.getD y ⟨"", "", ""⟩
def mO (y : Nat) : Nat := mOl.getD y 0
def nmO (o : Nat) : String := nmOl.getD o ""
def mL (y : Nat) : Nat := mLl.getD y 0
def mNA (y : Nat) : Nat := mNl.getD y 0
def mSt (y : Nat) : Bool := mSl.getD y false
def mIn (y : Nat) : Bool := mIl.getD y false
def mR (y : Nat) : Option FieldType := mRl.getD y none
def mFr (y : Nat) : Nat := mFl.getD y 0
def mLo (y : Nat) : Nat := mVl.getD y 0
def fldQ (o i : Nat) : Option (Nat × Nat × Nat) := (fldL.find? (fun t => t.1 == o && t.2.1 == i)).map (fun t => t.2.2)
def mthQ (o i : Nat) : Option (Nat × Nat × Nat) := (mthL.find? (fun t => t.1 == o && t.2.1 == i)).map (fun t => t.2.2)
def cstQ (o i : Nat) : Option (Int × Nat) := (cstL.find? (fun t => t.1 == o && t.2.1 == i)).map (fun t => t.2.2)
def cslQ (o i : Nat) : Option (Int × Nat) := (cslL.find? (fun t => t.1 == o && t.2.1 == i)).map (fun t => t.2.2)
def cllQ (o i : Nat) : Option (Nat × Nat × Nat × Nat) := (cllL.find? (fun t => t.1 == o && t.2.1 == i)).map (fun t => t.2.2)
def fTb : List (Nat → String × String × String × Bool) := [TX0, TX1, TX2, TX3, TX4, TX5, TX6, TX7, TX8, TX9, TX10]
def fFin (c k : Nat) : Bool := ((fTb.getD c TX0) k).2.2.2
