/-! ===== bits of longs ===== -/
def tb (x : Int64) (i : Nat) : Bool := x.toBitVec.getLsbD i
def bt (k : Nat) : Int64 := shll (Int64.ofInt 1) (k : Int)
theorem tb_ext {x y : Int64} (h : ∀ i, i < 64 → tb x i = tb y i) : x = y := by
  apply Int64.toBitVec_inj.mp
  apply BitVec.eq_of_getLsbD_eq
  intro i hi
  exact h i hi
theorem tb_hi (x : Int64) {i : Nat} (h : 64 ≤ i) : tb x i = false := BitVec.getLsbD_of_ge _ _ h
theorem tb_or (x y : Int64) (i : Nat) : tb (x ||| y) i = (tb x i || tb y i) := by
  unfold tb
  rw [Int64.toBitVec_or, BitVec.getLsbD_or]
theorem tb_and (x y : Int64) (i : Nat) : tb (x &&& y) i = (tb x i && tb y i) := by
  unfold tb
  rw [Int64.toBitVec_and, BitVec.getLsbD_and]
theorem tb_xor (x y : Int64) (i : Nat) : tb (x ^^^ y) i = (tb x i ^^ tb y i) := by
  unfold tb
  rw [Int64.toBitVec_xor, BitVec.getLsbD_xor]
theorem tb_0 (i : Nat) : tb (Int64.ofInt 0) i = false := by
  unfold tb
  rw [show (Int64.ofInt 0).toBitVec = 0#64 from rfl, BitVec.getLsbD_zero]
theorem tb_m1 {i : Nat} (h : i < 64) : tb (Int64.ofInt (-1)) i = true := by
  unfold tb
  rw [show (Int64.ofInt (-1)).toBitVec = BitVec.allOnes 64 from by decide, BitVec.getLsbD_allOnes]
  simpa using h
theorem sh_nat : ∀ k : Nat, k < 64 → (Int64.ofInt (k : Int)).toBitVec.smod 64 = BitVec.ofNat 64 k ∧ (Int64.ofInt (k : Int)).toUInt64.toBitVec % 64 = BitVec.ofNat 64 k := by decide +kernel
theorem ushr_bv (x : Int64) {k : Nat} (h : k < 64) : (ushr x k).toBitVec = x.toBitVec >>> k := by
  have e : (ushr x k).toBitVec = x.toBitVec >>> ((Int64.ofInt (k : Int)).toUInt64.toBitVec % 64) := by
    show (x.toUInt64 >>> (Int64.ofInt (k : Int)).toUInt64).toBitVec = _
    rw [UInt64.toBitVec_shiftRight]
    rfl
  rw [e, (sh_nat k h).2]
  show x.toBitVec >>> (BitVec.ofNat 64 k).toNat = _
  rw [BitVec.toNat_ofNat, Nat.mod_eq_of_lt (by omega)]
theorem shll_bv (x : Int64) {k : Nat} (h : k < 64) : (shll x k).toBitVec = x.toBitVec <<< k := by
  unfold shll
  rw [Int64.toBitVec_shiftLeft, (sh_nat k h).1]
  show x.toBitVec <<< (BitVec.ofNat 64 k).toNat = _
  rw [BitVec.toNat_ofNat, Nat.mod_eq_of_lt (by omega)]
theorem shrl_bv (x : Int64) {k : Nat} (h : k < 64) : (shrl x k).toBitVec = x.toBitVec.sshiftRight k := by
  unfold shrl
  rw [Int64.toBitVec_shiftRight, (sh_nat k h).1]
  show x.toBitVec.sshiftRight (BitVec.ofNat 64 k).toNat = _
  rw [BitVec.toNat_ofNat, Nat.mod_eq_of_lt (by omega)]
theorem bv_one (v : BitVec 64) : v &&& 1#64 = if v.getLsbD 0 = true then 1#64 else 0#64 := by
  apply BitVec.eq_of_getLsbD_eq
  intro i hi
  rw [BitVec.getLsbD_and, BitVec.getLsbD_one]
  by_cases h : i = 0
  · subst h
    cases hv : v.getLsbD 0 <;> simp
  · cases hv : v.getLsbD 0 <;> simp [h] <;> omega
theorem and1 (x y : Int64) (k : Nat) (hy : y.toBitVec.getLsbD 0 = tb x k) : y &&& Int64.ofInt 1 = if tb x k = true then Int64.ofInt 1 else Int64.ofInt 0 := by
  apply Int64.toBitVec_inj.mp
  rw [Int64.toBitVec_and, show (Int64.ofInt 1).toBitVec = 1#64 from rfl, bv_one, hy]
  split <;> rfl
theorem ushr_1 (x : Int64) {k : Nat} (h : k < 64) : ushr x k &&& Int64.ofInt 1 = if tb x k = true then Int64.ofInt 1 else Int64.ofInt 0 := by
  refine and1 x _ k ?_
  rw [ushr_bv x h, BitVec.getLsbD_ushiftRight]
  rfl
theorem shrl_1 (x : Int64) {k : Nat} (h : k < 64) : shrl x k &&& Int64.ofInt 1 = if tb x k = true then Int64.ofInt 1 else Int64.ofInt 0 := by
  refine and1 x _ k ?_
  rw [shrl_bv x h, BitVec.getLsbD_sshiftRight]
  simp [tb]
  omega
theorem i64_10 : ¬ Int64.ofInt 1 = Int64.ofInt 0 := by decide
theorem ushr_0 (x : Int64) {k : Nat} (h : k < 64) : (ushr x k &&& Int64.ofInt 1 = Int64.ofInt 0) ↔ tb x k = false := by
  rw [ushr_1 x h]
  cases tb x k <;> simp [i64_10]
theorem shrl_0 (x : Int64) {k : Nat} (h : k < 64) : (shrl x k &&& Int64.ofInt 1 = Int64.ofInt 0) ↔ tb x k = false := by
  rw [shrl_1 x h]
  cases tb x k <;> simp [i64_10]
theorem shrl_e1 (x : Int64) {k : Nat} (h : k < 64) : (shrl x k &&& Int64.ofInt 1 = Int64.ofInt 1) ↔ tb x k = true := by
  rw [shrl_1 x h]
  cases tb x k <;> simp [Ne.symm i64_10]
theorem shrl_i (x : Int64) {k : Nat} (h : k < 64) : (shrl x k &&& Int64.ofInt 1).toInt = b2 (tb x k) := by
  rw [shrl_1 x h]
  cases tb x k <;> rfl
theorem tb_bt {k : Nat} (h : k < 64) (i : Nat) : tb (bt k) i = decide (i = k) := by
  unfold tb bt
  rw [shll_bv _ h, BitVec.getLsbD_shiftLeft, show (Int64.ofInt 1).toBitVec = 1#64 from rfl, BitVec.getLsbD_one]
  by_cases h1 : i = k
  · subst h1; simp [h]
  · by_cases h2 : i < 64 <;> by_cases h3 : i < k <;> simp [h1, h2, h3] <;> omega
theorem tb_not (x : Int64) {i : Nat} (h : i < 64) : tb (x ^^^ Int64.ofInt (-1)) i = !tb x i := by
  rw [tb_xor, tb_m1 h]
  cases tb x i <;> rfl
theorem i64_toInt {x : Int} (h : inR x) : (Int64.ofInt x).toInt = x := by
  obtain ⟨h1, h2⟩ := h
  rw [Int64.toInt_ofInt, Int.bmod_eq_of_le (by have := sz64; omega) (by have := sz64; omega)]
theorem i64_toInt2 {x y : Int} (h : inR x) (h2 : inR y) : (Int64.ofInt x + Int64.ofInt y).toInt = x + y := by
  obtain ⟨h1, h2⟩ := h
  obtain ⟨h3, h4⟩ := ‹inR y›
  rw [← Int64.ofInt_add, Int64.toInt_ofInt, Int.bmod_eq_of_le (by have := sz64; omega) (by have := sz64; omega)]
theorem lcm_lt (x y : Int64) : lcm x y < 0 ↔ x.toInt < y.toInt := by
  have hh : y < x ↔ y.toInt < x.toInt := Int64.lt_iff_toInt_lt
  unfold lcm
  split
  · rename_i h; have := hh.mp h; omega
  · rename_i h0
    have : ¬ y.toInt < x.toInt := fun q => h0 (hh.mpr q)
    split
    · rename_i h; subst h; omega
    · rename_i h; have : x.toInt ≠ y.toInt := fun q => h (Int64.toInt_inj.mp q); omega
theorem lcm_ge (x y : Int64) : 0 ≤ lcm x y ↔ y.toInt ≤ x.toInt := by have := lcm_lt x y; omega
theorem lcm_gt (x y : Int64) : 0 < lcm x y ↔ y.toInt < x.toInt := by
  have hh : y < x ↔ y.toInt < x.toInt := Int64.lt_iff_toInt_lt
  unfold lcm
  split
  · rename_i h; have := hh.mp h; omega
  · rename_i h0
    have : ¬ y.toInt < x.toInt := fun q => h0 (hh.mpr q)
    split <;> omega
theorem lcm_le (x y : Int64) : lcm x y ≤ 0 ↔ x.toInt ≤ y.toInt := by have := lcm_gt x y; omega
theorem lcm_eq (x y : Int64) : lcm x y = 0 ↔ x = y := by
  have h1 := lcm_lt x y
  have h2 := lcm_gt x y
  rw [← Int64.toInt_inj]
  omega
