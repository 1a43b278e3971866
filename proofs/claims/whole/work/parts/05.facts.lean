/-! ===== what the tables say, by computing ===== -/
abbrev fW (ci : Nat) : u_T := fTb.getD ci TX0
def bigW : List Cond := lw_tbl.filter goodWord
theorem big_at {p : Nat} {w : Cond} (h : lw_tbl[p]? = some w) (hg : goodWord w = true) : w ∈ bigW := List.mem_filter.mpr ⟨List.mem_of_getElem? h, hg⟩
theorem tb_fld : ∀ t ∈ fldL, lw_tbl[t.2.2.2.2]? = some (Cond.fieldLink (nmO t.1) t.2.1 (nmO t.2.2.1) (fW t.2.2.1 t.2.2.2.1).2.1 (fW t.2.2.1 t.2.2.2.1).2.2.1) ∧ t.2.2.2.1 < nF t.2.2.1 ∧ t.2.2.1 < 11 ∧ t.2.2.2.1 < 1000 := by decide +kernel
theorem tb_own : ∀ ci, ci < 11 → ∀ k, k < nF ci → (fW ci k).1 = nmO ci := by decide +kernel
theorem tb_cl (ci : Nat) (h : ci < 11) : vwCl[ci]? = some (nmO ci, fW ci, nF ci) := by
  match ci, h with
  | 0, _ => rfl
  | 1, _ => rfl
  | 2, _ => rfl
  | 3, _ => rfl
  | 4, _ => rfl
  | 5, _ => rfl
  | 6, _ => rfl
  | 7, _ => rfl
  | 8, _ => rfl
  | 9, _ => rfl
  | 10, _ => rfl
theorem tb_lay : ∀ ci, ci < 11 → ∀ k, k < nF ci → lw_tbl[(layL.getD ci []).getD k 0]? = some (u_lay (nmO ci) (fW ci) k) := by decide +kernel
theorem tb_ty : ∀ ci, ci < 11 → ∀ k, k < nF ci → parseFieldDescriptor (fW ci k).2.2.1 = some (fTy ci k) := by decide +kernel
theorem tb_nm : ∀ ci, ci < 11 → ∀ a, a < nF ci → ∀ b, b < nF ci → a ≠ b → (fW ci a).2.1 ≠ (fW ci b).2.1 := by decide +kernel
def mP (c : Nat) : Nat × Nat × Nat × Nat := mPl.getD c (0, 0, 0, 0)
theorem tb_code : ∀ c, 0 < c → c < 200 → lw_tbl[(mP c).1]? = some (Cond.code (mY c) (mB c) (mL c) (mR c)) := by decide +kernel
theorem tb_kind : ∀ c, 0 < c → c < 200 → lw_tbl[(mP c).2.1]? = some (bif mSt c then Cond.static (mY c) else Cond.instanceMethod (mY c)) := by decide +kernel
theorem tb_sel : ∀ c, 0 < c → c < 200 → mSt c = false → mIn c = false → lw_tbl[(mP c).2.2.1]? = some (Cond.selects (mY c).cls (mY c) (mY c)) := by decide +kernel
theorem tb_ini : ∀ c, 0 < c → c < 200 → lw_tbl[(mP c).2.2.2]? = some (Cond.initialized (mY c).cls) := by decide +kernel
theorem tb_met : ∀ c, 0 < c → c < 200 → (mY c).cls = nmO (mO c) ∧ (parseMethodDescriptor (mY c).desc).map (fun d => d.parameters.length) = some (bif mSt c then mNA c else mNA c - 1) ∧ (mSt c = false → 0 < mNA c) ∧ (mY c).cls ≠ "java/lang/invoke/MethodHandle" ∧ (mY c).cls ≠ "java/lang/invoke/VarHandle" ∧ plainName (mY c).cls = true ∧ (mIn c = true → (mY c).name = "<init>" ∧ mR c = none ∧ mSt c = false) ∧ (mSt c = false → mO c < 11) := by decide +kernel
theorem tb_mth : ∀ t ∈ mthL, (t.2.2.1 < 1000 → 0 < t.2.2.1 ∧ t.2.2.1 < 200 ∧ lw_tbl[t.2.2.2.2]? = some (bif t.2.2.2.1 == 0 then Cond.methodLink (nmO t.1) t.2.1 (mY t.2.2.1) else Cond.methodLinkNest (nmO t.1) t.2.1 (mY t.2.2.1) "RightsWeb") ∧ (t.2.2.2.1 = 0 ∨ t.2.2.2.2 ∈ nstP)) := by decide +kernel
theorem tb_blt : ∀ t ∈ mthL, (t.2.2.1 = 1000 → lw_tbl[t.2.2.2.2]? = some (Cond.methodLink (nmO t.1) t.2.1 Lib.Math.max.name)) ∧ (t.2.2.1 = 1001 → lw_tbl[t.2.2.2.2]? = some (Cond.methodLink (nmO t.1) t.2.1 Lib.Math.min.name)) ∧ (t.2.2.1 = 1002 → lw_tbl[t.2.2.2.2]? = some (Cond.methodLink (nmO t.1) t.2.1 arraycopyName)) ∧ (t.2.2.1 = 1003 → lw_tbl[t.2.2.2.2]? = some (Cond.methodLink (nmO t.1) t.2.1 objectInit)) := by decide +kernel
theorem tb_cst : ∀ t ∈ cstL, lw_tbl[t.2.2.2]? = some (Cond.constant (nmO t.1) t.2.1 (Int32.ofInt t.2.2.1)) := by decide +kernel
theorem tb_csl : ∀ t ∈ cslL, lw_tbl[t.2.2.2]? = some (Cond.constantLong (nmO t.1) t.2.1 (Int64.ofInt t.2.2.1)) := by decide +kernel
theorem tb_cll : ∀ t ∈ cllL, lw_tbl[t.2.2.2.1]? = some (Cond.classLink (nmO t.1) t.2.1 (nmO t.2.2.1)) ∧ lw_tbl[t.2.2.2.2.1]? = some (Cond.instantiable (nmO t.2.2.1) (nF t.2.2.1)) ∧ lw_tbl[t.2.2.2.2.2]? = some (Cond.initialized (nmO t.2.2.1)) ∧ t.2.2.1 < 11 := by decide +kernel
theorem tb_w1 : Cond.static Lib.Math.max.name ∈ bigW ∧ Cond.static Lib.Math.min.name ∈ bigW ∧ Cond.initialized "java/lang/Math" ∈ bigW ∧ Cond.code Lib.Math.max.name Lib.Math.max.code 2 (some .int) ∈ bigW ∧ Cond.code Lib.Math.min.name Lib.Math.min.code 2 (some .int) ∈ bigW := by decide +kernel
theorem tb_w2 : Cond.native arraycopyName ∈ bigW ∧ Cond.static arraycopyName ∈ bigW ∧ Cond.initialized "java/lang/System" ∈ bigW := by decide +kernel
theorem tb_w3 : Cond.instanceMethod objectInit ∈ bigW ∧ Cond.code objectInit ⟨#[0xb1]⟩ 1 none ∈ bigW := by decide +kernel
theorem tb_w4 : Cond.arrayClass .int ∈ bigW ∧ Cond.arrayClass .long ∈ bigW ∧ Cond.arrayClass .boolean ∈ bigW := by decide +kernel
theorem tb_big : ∀ w ∈ bigW, goodWord w = true := fun w h => (List.mem_filter.mp h).2
