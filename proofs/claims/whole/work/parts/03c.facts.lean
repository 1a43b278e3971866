theorem tb_kind : ∀ c, c < 200 → 0 < c → lw_tbl[(mP c).2.1]? = some (bif mSt c then Cond.static (mY c) else Cond.instanceMethod (mY c)) := by decide +kernel
theorem tb_sel : ∀ c, c < 200 → 0 < c → mSt c = false → mIn c = false → lw_tbl[(mP c).2.2.1]? = some (Cond.selects (mY c).cls (mY c) (mY c)) := by decide +kernel
theorem tb_ini : ∀ c, c < 200 → 0 < c → lw_tbl[(mP c).2.2.2]? = some (Cond.initialized (mY c).cls) := by decide +kernel
theorem tb_met1 : ∀ c, c < 200 → 0 < c → (mY c).cls = nmO (mO c) := by decide +kernel
theorem tb_met2 : ∀ c, c < 200 → 0 < c → (parseMethodDescriptor (mY c).desc).map (fun d => d.parameters.length) = some (bif mSt c then mNA c else mNA c - 1) := by decide +kernel
theorem tb_met3 : ∀ c, c < 200 → 0 < c → mSt c = false → 0 < mNA c ∧ mO c < 11 := by decide +kernel
theorem tb_met4 : ∀ c, c < 200 → 0 < c → (mY c).cls ≠ "java/lang/invoke/MethodHandle" ∧ (mY c).cls ≠ "java/lang/invoke/VarHandle" := by decide +kernel
theorem tb_met5 : ∀ c, c < 200 → 0 < c → plainName (mY c).cls = true := by decide +kernel
theorem tb_met6 : ∀ c, c < 200 → 0 < c → mIn c = true → (mY c).name = "<init>" ∧ (mR c).isNone = true ∧ mSt c = false := by decide +kernel
theorem tb_mth : ∀ t ∈ mthL, (t.2.2.1 < 1000 → 0 < t.2.2.1 ∧ t.2.2.1 < 200 ∧ lw_tbl[t.2.2.2.2]? = some (bif t.2.2.2.1 == 0 then Cond.methodLink (nmO t.1) t.2.1 (mY t.2.2.1) else Cond.methodLinkNest (nmO t.1) t.2.1 (mY t.2.2.1) "RightsWeb") ∧ (t.2.2.2.1 = 0 ∨ t.2.2.2.2 ∈ nstP)) := by decide +kernel
theorem tb_blt : ∀ t ∈ mthL, (t.2.2.1 = 1000 → lw_tbl[t.2.2.2.2]? = some (Cond.methodLink (nmO t.1) t.2.1 Lib.Math.max.name)) ∧ (t.2.2.1 = 1001 → lw_tbl[t.2.2.2.2]? = some (Cond.methodLink (nmO t.1) t.2.1 Lib.Math.min.name)) ∧ (t.2.2.1 = 1002 → lw_tbl[t.2.2.2.2]? = some (Cond.methodLink (nmO t.1) t.2.1 arraycopyName)) ∧ (t.2.2.1 = 1003 → lw_tbl[t.2.2.2.2]? = some (Cond.methodLink (nmO t.1) t.2.1 objectInit)) := by decide +kernel
theorem tb_cst : ∀ t ∈ cstL, lw_tbl[t.2.2.2]? = some (Cond.constant (nmO t.1) t.2.1 (Int32.ofInt t.2.2.1)) := by decide +kernel
theorem tb_csl : ∀ t ∈ cslL, lw_tbl[t.2.2.2]? = some (Cond.constantLong (nmO t.1) t.2.1 (Int64.ofInt t.2.2.1)) := by decide +kernel
theorem tb_cll : ∀ t ∈ cllL, lw_tbl[t.2.2.2.1]? = some (Cond.classLink (nmO t.1) t.2.1 (nmO t.2.2.1)) ∧ lw_tbl[t.2.2.2.2.1]? = some (Cond.instantiable (nmO t.2.2.1) (nF t.2.2.1)) ∧ lw_tbl[t.2.2.2.2.2]? = some (Cond.initialized (nmO t.2.2.1)) ∧ t.2.2.1 < 11 := by decide +kernel
theorem tb_w1 : Cond.static Lib.Math.max.name ∈ bigW ∧ Cond.static Lib.Math.min.name ∈ bigW ∧ Cond.initialized "java/lang/Math" ∈ bigW ∧ Cond.code Lib.Math.max.name Lib.Math.max.code 2 (some .int) ∈ bigW ∧ Cond.code Lib.Math.min.name Lib.Math.min.code 2 (some .int) ∈ bigW := by decide +kernel
theorem tb_w2 : Cond.native arraycopyName ∈ bigW ∧ Cond.static arraycopyName ∈ bigW ∧ Cond.initialized "java/lang/System" ∈ bigW := by decide +kernel
theorem tb_w3 : Cond.instanceMethod objectInit ∈ bigW ∧ Cond.code objectInit ⟨#[0xb1]⟩ 1 none ∈ bigW := by decide +kernel
theorem tb_w4 : Cond.arrayClass .int ∈ bigW ∧ Cond.arrayClass .long ∈ bigW ∧ Cond.arrayClass .boolean ∈ bigW := by decide +kernel
theorem tb_big : ∀ w ∈ bigW, goodWord w = true := fun w h => (List.mem_filter.mp h).2
