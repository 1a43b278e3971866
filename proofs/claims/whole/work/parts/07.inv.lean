/-! ===== the plain machine, instruction by instruction ===== -/
theorem si_bipush {v : Int} {len pc : Nat} {ls : LV} {st : List AV} {M : M5} {ps : List Prop} {s' : ST} (h : stp (.bipush v) len (pc, ls, st, M) = some (ps, s')) : inRb v = true ∧ ps = [] ∧ s' = (pc + len, ls, aI v :: st, M) := by
  simp only [stp, Bool.cond_eq_ite] at h
  repeat' split at h
  all_goals first | (cases h; done) | (cases h; exact ⟨‹_›, rfl, rfl⟩)
theorem si_jsr_w {v : Int} {len pc : Nat} {ls : LV} {st : List AV} {M : M5} {ps : List Prop} {s' : ST} (h : stp (.jsr_w v) len (pc, ls, st, M) = some (ps, s')) : ps = [] ∧ s' = (pc + len, ls, aL (Int64.ofInt v) :: st, M) := by
  simp only [stp, Bool.cond_eq_ite] at h
  repeat' split at h
  all_goals first | (cases h; done) | (cases h; exact ⟨rfl, rfl⟩)
theorem si_iload {i : Nat} {len pc : Nat} {ls : LV} {st : List AV} {M : M5} {ps : List Prop} {s' : ST} (h : stp (.iload i) len (pc, ls, st, M) = some (ps, s')) : ∃ (z : Int), ls.getD i none = some (aI z) ∧ ps = [] ∧ s' = (pc + len, ls, aI z :: st, M) := by
  simp only [stp, Bool.cond_eq_ite] at h
  repeat' split at h
  all_goals first | (cases h; done) | (cases h; exact ⟨_, ‹_›, rfl, rfl⟩)
theorem si_lload {i : Nat} {len pc : Nat} {ls : LV} {st : List AV} {M : M5} {ps : List Prop} {s' : ST} (h : stp (.lload i) len (pc, ls, st, M) = some (ps, s')) : ∃ (z : Int64), ls.getD i none = some (aL z) ∧ ps = [] ∧ s' = (pc + len, ls, aL z :: st, M) := by
  simp only [stp, Bool.cond_eq_ite] at h
  repeat' split at h
  all_goals first | (cases h; done) | (cases h; exact ⟨_, ‹_›, rfl, rfl⟩)
theorem si_aload {i : Nat} {len pc : Nat} {ls : LV} {st : List AV} {M : M5} {ps : List Prop} {s' : ST} (h : stp (.aload i) len (pc, ls, st, M) = some (ps, s')) : ∃ (z : Nat), ls.getD i none = some (aR z) ∧ ps = [] ∧ s' = (pc + len, ls, aR z :: st, M) := by
  simp only [stp, Bool.cond_eq_ite] at h
  repeat' split at h
  all_goals first | (cases h; done) | (cases h; exact ⟨_, ‹_›, rfl, rfl⟩)
theorem si_istore {i : Nat} {len pc : Nat} {ls : LV} {st : List AV} {M : M5} {ps : List Prop} {s' : ST} (h : stp (.istore i) len (pc, ls, st, M) = some (ps, s')) : ∃ (z : Int) (r : List AV), st = aI z :: r ∧ Nat.blt i ls.length = true ∧ ps = [] ∧ s' = (pc + len, ls1 ls i (aI z), r, M) := by
  simp only [stp, Bool.cond_eq_ite] at h
  repeat' split at h
  all_goals first | (cases h; done) | (cases h; exact ⟨_, _, rfl, ‹_›, rfl, rfl⟩)
theorem si_lstore {i : Nat} {len pc : Nat} {ls : LV} {st : List AV} {M : M5} {ps : List Prop} {s' : ST} (h : stp (.lstore i) len (pc, ls, st, M) = some (ps, s')) : ∃ (z : Int64) (r : List AV), st = aL z :: r ∧ Nat.blt (i + 1) ls.length = true ∧ ps = [] ∧ s' = (pc + len, ls2 ls i (aL z), r, M) := by
  simp only [stp, Bool.cond_eq_ite] at h
  repeat' split at h
  all_goals first | (cases h; done) | (cases h; exact ⟨_, _, rfl, ‹_›, rfl, rfl⟩)
theorem si_astore {i : Nat} {len pc : Nat} {ls : LV} {st : List AV} {M : M5} {ps : List Prop} {s' : ST} (h : stp (.astore i) len (pc, ls, st, M) = some (ps, s')) : ∃ (z : Nat) (r : List AV), st = aR z :: r ∧ Nat.blt i ls.length = true ∧ ps = [] ∧ s' = (pc + len, ls1 ls i (aR z), r, M) := by
  simp only [stp, Bool.cond_eq_ite] at h
  repeat' split at h
  all_goals first | (cases h; done) | (cases h; exact ⟨_, _, rfl, ‹_›, rfl, rfl⟩)
theorem si_iinc {i : Nat} {n : Int} {len pc : Nat} {ls : LV} {st : List AV} {M : M5} {ps : List Prop} {s' : ST} (h : stp (.iinc i n) len (pc, ls, st, M) = some (ps, s')) : ∃ (z : Int), ls.getD i none = some (aI z) ∧ ps = [inR (z + n)] ∧ s' = (pc + len, ls1 ls i (aI (z + n)), st, M) := by
  simp only [stp, Bool.cond_eq_ite] at h
  repeat' split at h
  all_goals first | (cases h; done) | (cases h; exact ⟨_, ‹_›, rfl, rfl⟩)
theorem si_iadd  {len pc : Nat} {ls : LV} {st : List AV} {M : M5} {ps : List Prop} {s' : ST} (h : stp (.iadd) len (pc, ls, st, M) = some (ps, s')) : ∃ (y x : Int) (r : List AV), st = aI y :: aI x :: r ∧ ps = [inR (x + y)] ∧ s' = (pc + len, ls, aI (x + y) :: r, M) := by
  simp only [stp, Bool.cond_eq_ite] at h
  repeat' split at h
  all_goals first | (cases h; done) | (cases h; exact ⟨_, _, _, rfl, rfl, rfl⟩)
theorem si_isub  {len pc : Nat} {ls : LV} {st : List AV} {M : M5} {ps : List Prop} {s' : ST} (h : stp (.isub) len (pc, ls, st, M) = some (ps, s')) : ∃ (y x : Int) (r : List AV), st = aI y :: aI x :: r ∧ ps = [inR (x - y)] ∧ s' = (pc + len, ls, aI (x - y) :: r, M) := by
  simp only [stp, Bool.cond_eq_ite] at h
  repeat' split at h
  all_goals first | (cases h; done) | (cases h; exact ⟨_, _, _, rfl, rfl, rfl⟩)
theorem si_imul  {len pc : Nat} {ls : LV} {st : List AV} {M : M5} {ps : List Prop} {s' : ST} (h : stp (.imul) len (pc, ls, st, M) = some (ps, s')) : ∃ (y x : Int) (r : List AV), st = aI y :: aI x :: r ∧ ps = [inR (x * y)] ∧ s' = (pc + len, ls, aI (x * y) :: r, M) := by
  simp only [stp, Bool.cond_eq_ite] at h
  repeat' split at h
  all_goals first | (cases h; done) | (cases h; exact ⟨_, _, _, rfl, rfl, rfl⟩)
theorem si_ineg  {len pc : Nat} {ls : LV} {st : List AV} {M : M5} {ps : List Prop} {s' : ST} (h : stp (.ineg) len (pc, ls, st, M) = some (ps, s')) : ∃ (x : Int) (r : List AV), st = aI x :: r ∧ ps = [inR (-x)] ∧ s' = (pc + len, ls, aI (-x) :: r, M) := by
  simp only [stp, Bool.cond_eq_ite] at h
  repeat' split at h
  all_goals first | (cases h; done) | (cases h; exact ⟨_, _, rfl, rfl, rfl⟩)
theorem si_idiv  {len pc : Nat} {ls : LV} {st : List AV} {M : M5} {ps : List Prop} {s' : ST} (h : stp (.idiv) len (pc, ls, st, M) = some (ps, s')) : ∃ (y x : Int) (r : List AV), st = aI y :: aI x :: r ∧ ps = [0 ≤ x ∧ 0 < y] ∧ s' = (pc + len, ls, aI (x / y) :: r, M) := by
  simp only [stp, Bool.cond_eq_ite] at h
  repeat' split at h
  all_goals first | (cases h; done) | (cases h; exact ⟨_, _, _, rfl, rfl, rfl⟩)
theorem si_irem  {len pc : Nat} {ls : LV} {st : List AV} {M : M5} {ps : List Prop} {s' : ST} (h : stp (.irem) len (pc, ls, st, M) = some (ps, s')) : ∃ (y x : Int) (r : List AV), st = aI y :: aI x :: r ∧ ps = [0 ≤ x ∧ 0 < y] ∧ s' = (pc + len, ls, aI (x % y) :: r, M) := by
  simp only [stp, Bool.cond_eq_ite] at h
  repeat' split at h
  all_goals first | (cases h; done) | (cases h; exact ⟨_, _, _, rfl, rfl, rfl⟩)
theorem si_iand  {len pc : Nat} {ls : LV} {st : List AV} {M : M5} {ps : List Prop} {s' : ST} (h : stp (.iand) len (pc, ls, st, M) = some (ps, s')) : ∃ (y x : Int) (r : List AV), st = aI y :: aI x :: r ∧ ps = [y = 1 ∨ y = 63 ∨ y = 127] ∧ s' = (pc + len, ls, aI (x % (y + 1)) :: r, M) := by
  simp only [stp, Bool.cond_eq_ite] at h
  repeat' split at h
  all_goals first | (cases h; done) | (cases h; exact ⟨_, _, _, rfl, rfl, rfl⟩)
theorem si_ishr  {len pc : Nat} {ls : LV} {st : List AV} {M : M5} {ps : List Prop} {s' : ST} (h : stp (.ishr) len (pc, ls, st, M) = some (ps, s')) : ∃ (y x : Int) (r : List AV), st = aI y :: aI x :: r ∧ ps = [y = 1] ∧ s' = (pc + len, ls, aI (x / 2) :: r, M) := by
  simp only [stp, Bool.cond_eq_ite] at h
  repeat' split at h
  all_goals first | (cases h; done) | (cases h; exact ⟨_, _, _, rfl, rfl, rfl⟩)
theorem si_i2l  {len pc : Nat} {ls : LV} {st : List AV} {M : M5} {ps : List Prop} {s' : ST} (h : stp (.i2l) len (pc, ls, st, M) = some (ps, s')) : ∃ (x : Int) (r : List AV), st = aI x :: r ∧ ps = [] ∧ s' = (pc + len, ls, aL (Int64.ofInt x) :: r, M) := by
  simp only [stp, Bool.cond_eq_ite] at h
  repeat' split at h
  all_goals first | (cases h; done) | (cases h; exact ⟨_, _, rfl, rfl, rfl⟩)
theorem si_l2i  {len pc : Nat} {ls : LV} {st : List AV} {M : M5} {ps : List Prop} {s' : ST} (h : stp (.l2i) len (pc, ls, st, M) = some (ps, s')) : ∃ (x : Int64) (r : List AV), st = aL x :: r ∧ ps = [] ∧ s' = (pc + len, ls, aI x.toInt32.toInt :: r, M) := by
  simp only [stp, Bool.cond_eq_ite] at h
  repeat' split at h
  all_goals first | (cases h; done) | (cases h; exact ⟨_, _, rfl, rfl, rfl⟩)
theorem si_ladd  {len pc : Nat} {ls : LV} {st : List AV} {M : M5} {ps : List Prop} {s' : ST} (h : stp (.ladd) len (pc, ls, st, M) = some (ps, s')) : ∃ (y x : Int64) (r : List AV), st = aL y :: aL x :: r ∧ ps = [] ∧ s' = (pc + len, ls, aL (x + y) :: r, M) := by
  simp only [stp, Bool.cond_eq_ite] at h
  repeat' split at h
  all_goals first | (cases h; done) | (cases h; exact ⟨_, _, _, rfl, rfl, rfl⟩)
theorem si_lsub  {len pc : Nat} {ls : LV} {st : List AV} {M : M5} {ps : List Prop} {s' : ST} (h : stp (.lsub) len (pc, ls, st, M) = some (ps, s')) : ∃ (y x : Int64) (r : List AV), st = aL y :: aL x :: r ∧ ps = [] ∧ s' = (pc + len, ls, aL (x - y) :: r, M) := by
  simp only [stp, Bool.cond_eq_ite] at h
  repeat' split at h
  all_goals first | (cases h; done) | (cases h; exact ⟨_, _, _, rfl, rfl, rfl⟩)
theorem si_land  {len pc : Nat} {ls : LV} {st : List AV} {M : M5} {ps : List Prop} {s' : ST} (h : stp (.land) len (pc, ls, st, M) = some (ps, s')) : ∃ (y x : Int64) (r : List AV), st = aL y :: aL x :: r ∧ ps = [] ∧ s' = (pc + len, ls, aL (x &&& y) :: r, M) := by
  simp only [stp, Bool.cond_eq_ite] at h
  repeat' split at h
  all_goals first | (cases h; done) | (cases h; exact ⟨_, _, _, rfl, rfl, rfl⟩)
theorem si_lor  {len pc : Nat} {ls : LV} {st : List AV} {M : M5} {ps : List Prop} {s' : ST} (h : stp (.lor) len (pc, ls, st, M) = some (ps, s')) : ∃ (y x : Int64) (r : List AV), st = aL y :: aL x :: r ∧ ps = [] ∧ s' = (pc + len, ls, aL (x ||| y) :: r, M) := by
  simp only [stp, Bool.cond_eq_ite] at h
  repeat' split at h
  all_goals first | (cases h; done) | (cases h; exact ⟨_, _, _, rfl, rfl, rfl⟩)
theorem si_lxor  {len pc : Nat} {ls : LV} {st : List AV} {M : M5} {ps : List Prop} {s' : ST} (h : stp (.lxor) len (pc, ls, st, M) = some (ps, s')) : ∃ (y x : Int64) (r : List AV), st = aL y :: aL x :: r ∧ ps = [] ∧ s' = (pc + len, ls, aL (x ^^^ y) :: r, M) := by
  simp only [stp, Bool.cond_eq_ite] at h
  repeat' split at h
  all_goals first | (cases h; done) | (cases h; exact ⟨_, _, _, rfl, rfl, rfl⟩)
theorem si_lushr  {len pc : Nat} {ls : LV} {st : List AV} {M : M5} {ps : List Prop} {s' : ST} (h : stp (.lushr) len (pc, ls, st, M) = some (ps, s')) : ∃ (y : Int) (x : Int64) (r : List AV), st = aI y :: aL x :: r ∧ ps = [0 ≤ y ∧ y < 64] ∧ s' = (pc + len, ls, aL (ushr x y) :: r, M) := by
  simp only [stp, Bool.cond_eq_ite] at h
  repeat' split at h
  all_goals first | (cases h; done) | (cases h; exact ⟨_, _, _, rfl, rfl, rfl⟩)
theorem si_lshl  {len pc : Nat} {ls : LV} {st : List AV} {M : M5} {ps : List Prop} {s' : ST} (h : stp (.lshl) len (pc, ls, st, M) = some (ps, s')) : ∃ (y : Int) (x : Int64) (r : List AV), st = aI y :: aL x :: r ∧ ps = [0 ≤ y ∧ y < 64] ∧ s' = (pc + len, ls, aL (shll x y) :: r, M) := by
  simp only [stp, Bool.cond_eq_ite] at h
  repeat' split at h
  all_goals first | (cases h; done) | (cases h; exact ⟨_, _, _, rfl, rfl, rfl⟩)
theorem si_lshr  {len pc : Nat} {ls : LV} {st : List AV} {M : M5} {ps : List Prop} {s' : ST} (h : stp (.lshr) len (pc, ls, st, M) = some (ps, s')) : ∃ (y : Int) (x : Int64) (r : List AV), st = aI y :: aL x :: r ∧ ps = [0 ≤ y ∧ y < 64] ∧ s' = (pc + len, ls, aL (shrl x y) :: r, M) := by
  simp only [stp, Bool.cond_eq_ite] at h
  repeat' split at h
  all_goals first | (cases h; done) | (cases h; exact ⟨_, _, _, rfl, rfl, rfl⟩)
theorem si_lcmp  {len pc : Nat} {ls : LV} {st : List AV} {M : M5} {ps : List Prop} {s' : ST} (h : stp (.lcmp) len (pc, ls, st, M) = some (ps, s')) : ∃ (y x : Int64) (r : List AV), st = aL y :: aL x :: r ∧ ps = [] ∧ s' = (pc + len, ls, aI (lcm x y) :: r, M) := by
  simp only [stp, Bool.cond_eq_ite] at h
  repeat' split at h
  all_goals first | (cases h; done) | (cases h; exact ⟨_, _, _, rfl, rfl, rfl⟩)
theorem si_pop  {len pc : Nat} {ls : LV} {st : List AV} {M : M5} {ps : List Prop} {s' : ST} (h : stp (.pop) len (pc, ls, st, M) = some (ps, s')) : ∃ (x : Int) (r : List AV), st = aI x :: r ∧ ps = [] ∧ s' = (pc + len, ls, r, M) := by
  simp only [stp, Bool.cond_eq_ite] at h
  repeat' split at h
  all_goals first | (cases h; done) | (cases h; exact ⟨_, _, rfl, rfl, rfl⟩)
theorem si_pop2  {len pc : Nat} {ls : LV} {st : List AV} {M : M5} {ps : List Prop} {s' : ST} (h : stp (.pop2) len (pc, ls, st, M) = some (ps, s')) : ∃ (x : Int64) (r : List AV), st = aL x :: r ∧ ps = [] ∧ s' = (pc + len, ls, r, M) := by
  simp only [stp, Bool.cond_eq_ite] at h
  repeat' split at h
  all_goals first | (cases h; done) | (cases h; exact ⟨_, _, rfl, rfl, rfl⟩)
theorem si_dup2  {len pc : Nat} {ls : LV} {st : List AV} {M : M5} {ps : List Prop} {s' : ST} (h : stp (.dup2) len (pc, ls, st, M) = some (ps, s')) : ∃ (x : Int) (v : Option Nat) (r : List AV), st = aI x :: .inr (.inr v) :: r ∧ ps = [] ∧ s' = (pc + len, ls, aI x :: .inr (.inr v) :: aI x :: .inr (.inr v) :: r, M) := by
  simp only [stp, Bool.cond_eq_ite] at h
  repeat' split at h
  all_goals first | (cases h; done) | (cases h; exact ⟨_, _, _, rfl, rfl, rfl⟩)
theorem si_goto {t : Int} {len pc : Nat} {ls : LV} {st : List AV} {M : M5} {ps : List Prop} {s' : ST} (h : stp (.goto t) len (pc, ls, st, M) = some (ps, s')) : ps = [] ∧ s' = (t.toNat, ls, st, M) := by
  simp only [stp, Bool.cond_eq_ite] at h
  repeat' split at h
  all_goals first | (cases h; done) | (cases h; exact ⟨rfl, rfl⟩)
theorem si_ifCond {c : Jvm.ClassFile.Cond} {t : Int} {len pc : Nat} {ls : LV} {st : List AV} {M : M5} {ps : List Prop} {s' : ST} (h : stp (.ifCond c t) len (pc, ls, st, M) = some (ps, s')) : ∃ (x : Int) (r : List AV), st = aI x :: r ∧ ps = [] ∧ s' = (brc c x 0 t.toNat (pc + len), ls, r, M) := by
  simp only [stp, Bool.cond_eq_ite] at h
  repeat' split at h
  all_goals first | (cases h; done) | (cases h; exact ⟨_, _, rfl, rfl, rfl⟩)
theorem si_if_icmp {c : Jvm.ClassFile.Cond} {t : Int} {len pc : Nat} {ls : LV} {st : List AV} {M : M5} {ps : List Prop} {s' : ST} (h : stp (.if_icmp c t) len (pc, ls, st, M) = some (ps, s')) : ∃ (y x : Int) (r : List AV), st = aI y :: aI x :: r ∧ ps = [] ∧ s' = (brc c x y t.toNat (pc + len), ls, r, M) := by
  simp only [stp, Bool.cond_eq_ite] at h
  repeat' split at h
  all_goals first | (cases h; done) | (cases h; exact ⟨_, _, _, rfl, rfl, rfl⟩)
theorem si_tableswitch {d lo hi : Int} {offs : Array Int} {len pc : Nat} {ls : LV} {st : List AV} {M : M5} {ps : List Prop} {s' : ST} (h : stp (.tableswitch d lo hi offs) len (pc, ls, st, M) = some (ps, s')) : ∃ (x : Int) (r : List AV), st = aI x :: r ∧ ps = [] ∧ s' = (tsw d lo hi offs.toList x, ls, r, M) := by
  simp only [stp, Bool.cond_eq_ite] at h
  repeat' split at h
  all_goals first | (cases h; done) | (cases h; exact ⟨_, _, rfl, rfl, rfl⟩)
theorem si_getfield {q : Nat} {len pc : Nat} {ls : LV} {st : List AV} {M : M5} {ps : List Prop} {s' : ST} (h : stp (.getfield q) len (pc, ls, st, M) = some (ps, s')) : ∃ (a : Nat) (v : AV) (r : List AV), st = aR a :: r ∧ (Nat.blt a M.1 && Nat.beq (M.2.1 a).1 (q / 1000 + 3) && Nat.blt (q % 1000) (nF (q / 1000))) = true ∧ pmF M a (q % 1000) = some v ∧ ps = [] ∧ s' = (pc + len, ls, v :: r, M) := by
  simp only [stp, Bool.cond_eq_ite] at h
  repeat' split at h
  all_goals first | (cases h; done) | (cases h; exact ⟨_, _, _, rfl, ‹_›, ‹_›, rfl, rfl⟩)
theorem si_iaload  {len pc : Nat} {ls : LV} {st : List AV} {M : M5} {ps : List Prop} {s' : ST} (h : stp (.iaload) len (pc, ls, st, M) = some (ps, s')) : ∃ (i : Int) (a : Nat) (r : List AV), st = aI i :: aR a :: r ∧ (Nat.blt a M.1 && Nat.beq (M.2.1 a).1 0) = true ∧ ps = [0 ≤ i ∧ i < ((M.2.1 a).2 : Int)] ∧ s' = (pc + len, ls, aI (M.2.2.2.1 a i.toNat) :: r, M) := by
  simp only [stp, Bool.cond_eq_ite] at h
  repeat' split at h
  all_goals first | (cases h; done) | (cases h; exact ⟨_, _, _, rfl, ‹_›, rfl, rfl⟩)
theorem si_baload  {len pc : Nat} {ls : LV} {st : List AV} {M : M5} {ps : List Prop} {s' : ST} (h : stp (.baload) len (pc, ls, st, M) = some (ps, s')) : ∃ (i : Int) (a : Nat) (r : List AV), st = aI i :: aR a :: r ∧ (Nat.blt a M.1 && Nat.beq (M.2.1 a).1 2) = true ∧ ps = [0 ≤ i ∧ i < ((M.2.1 a).2 : Int)] ∧ s' = (pc + len, ls, aI (M.2.2.2.1 a i.toNat) :: r, M) := by
  simp only [stp, Bool.cond_eq_ite] at h
  repeat' split at h
  all_goals first | (cases h; done) | (cases h; exact ⟨_, _, _, rfl, ‹_›, rfl, rfl⟩)
theorem si_laload  {len pc : Nat} {ls : LV} {st : List AV} {M : M5} {ps : List Prop} {s' : ST} (h : stp (.laload) len (pc, ls, st, M) = some (ps, s')) : ∃ (i : Int) (a : Nat) (r : List AV), st = aI i :: aR a :: r ∧ (Nat.blt a M.1 && Nat.beq (M.2.1 a).1 1) = true ∧ ps = [0 ≤ i ∧ i < ((M.2.1 a).2 : Int)] ∧ s' = (pc + len, ls, aL (M.2.2.2.2 a i.toNat) :: r, M) := by
  simp only [stp, Bool.cond_eq_ite] at h
  repeat' split at h
  all_goals first | (cases h; done) | (cases h; exact ⟨_, _, _, rfl, ‹_›, rfl, rfl⟩)
theorem si_iastore  {len pc : Nat} {ls : LV} {st : List AV} {M : M5} {ps : List Prop} {s' : ST} (h : stp (.iastore) len (pc, ls, st, M) = some (ps, s')) : ∃ (z i : Int) (a : Nat) (r : List AV), st = aI z :: aI i :: aR a :: r ∧ (Nat.blt a M.1 && Nat.beq (M.2.1 a).1 0) = true ∧ ps = [0 ≤ i ∧ i < ((M.2.1 a).2 : Int)] ∧ s' = (pc + len, ls, r, M.1, M.2.1, M.2.2.1, ma M.2.2.2.1 a (ma (M.2.2.2.1 a) i.toNat z), M.2.2.2.2) := by
  simp only [stp, Bool.cond_eq_ite] at h
  repeat' split at h
  all_goals first | (cases h; done) | (cases h; exact ⟨_, _, _, _, rfl, ‹_›, rfl, rfl⟩)
theorem si_bastore  {len pc : Nat} {ls : LV} {st : List AV} {M : M5} {ps : List Prop} {s' : ST} (h : stp (.bastore) len (pc, ls, st, M) = some (ps, s')) : ∃ (z i : Int) (a : Nat) (r : List AV), st = aI z :: aI i :: aR a :: r ∧ (Nat.blt a M.1 && Nat.beq (M.2.1 a).1 2) = true ∧ ps = [0 ≤ i ∧ i < ((M.2.1 a).2 : Int), 0 ≤ z ∧ z ≤ 1] ∧ s' = (pc + len, ls, r, M.1, M.2.1, M.2.2.1, ma M.2.2.2.1 a (ma (M.2.2.2.1 a) i.toNat z), M.2.2.2.2) := by
  simp only [stp, Bool.cond_eq_ite] at h
  repeat' split at h
  all_goals first | (cases h; done) | (cases h; exact ⟨_, _, _, _, rfl, ‹_›, rfl, rfl⟩)
theorem si_lastore  {len pc : Nat} {ls : LV} {st : List AV} {M : M5} {ps : List Prop} {s' : ST} (h : stp (.lastore) len (pc, ls, st, M) = some (ps, s')) : ∃ (z : Int64) (i : Int) (a : Nat) (r : List AV), st = aL z :: aI i :: aR a :: r ∧ (Nat.blt a M.1 && Nat.beq (M.2.1 a).1 1) = true ∧ ps = [0 ≤ i ∧ i < ((M.2.1 a).2 : Int)] ∧ s' = (pc + len, ls, r, M.1, M.2.1, M.2.2.1, M.2.2.2.1, ma M.2.2.2.2 a (ma (M.2.2.2.2 a) i.toNat z)) := by
  simp only [stp, Bool.cond_eq_ite] at h
  repeat' split at h
  all_goals first | (cases h; done) | (cases h; exact ⟨_, _, _, _, rfl, ‹_›, rfl, rfl⟩)
theorem si_arraylength  {len pc : Nat} {ls : LV} {st : List AV} {M : M5} {ps : List Prop} {s' : ST} (h : stp (.arraylength) len (pc, ls, st, M) = some (ps, s')) : ∃ (a : Nat) (r : List AV), st = aR a :: r ∧ (Nat.blt a M.1 && Nat.ble (M.2.1 a).1 2 && Nat.ble (M.2.1 a).2 100000) = true ∧ ps = [] ∧ s' = (pc + len, ls, aI ((M.2.1 a).2 : Int) :: r, M) := by
  simp only [stp, Bool.cond_eq_ite] at h
  repeat' split at h
  all_goals first | (cases h; done) | (cases h; exact ⟨_, _, rfl, ‹_›, rfl, rfl⟩)
theorem si_caload  {len pc : Nat} {ls : LV} {st : List AV} {M : M5} {ps : List Prop} {s' : ST} (h : stp (.caload) len (pc, ls, st, M) = some (ps, s')) : ∃ (i : Int) (a : Nat) (r : List AV), st = aI i :: aR a :: r ∧ Nat.beq a SCR = true ∧ ps = [0 ≤ i ∧ i < ((M.2.1 SCR).2 : Int)] ∧ s' = (pc + len, ls, aI (M.2.2.2.1 SCR i.toNat) :: r, M) := by
  simp only [stp, Bool.cond_eq_ite] at h
  repeat' split at h
  all_goals first | (cases h; done) | (cases h; exact ⟨_, _, _, rfl, ‹_›, rfl, rfl⟩)
theorem si_saload  {len pc : Nat} {ls : LV} {st : List AV} {M : M5} {ps : List Prop} {s' : ST} (h : stp (.saload) len (pc, ls, st, M) = some (ps, s')) : ∃ (a : Nat) (r : List AV), st = aR a :: r ∧ Nat.beq a SCR = true ∧ ps = [((M.2.1 SCR).2 : Int) ≤ 100000] ∧ s' = (pc + len, ls, aI ((M.2.1 SCR).2 : Int) :: r, M) := by
  simp only [stp, Bool.cond_eq_ite] at h
  repeat' split at h
  all_goals first | (cases h; done) | (cases h; exact ⟨_, _, rfl, ‹_›, rfl, rfl⟩)
theorem si_new {q : Nat} {len pc : Nat} {ls : LV} {st : List AV} {M : M5} {ps : List Prop} {s' : ST} (h : stp (.new q) len (pc, ls, st, M) = some (ps, s')) : (Nat.blt q 11 && Nat.blt M.1 SCR) = true ∧ ps = [] ∧ s' = (pc + len, ls, aR M.1 :: st, M.1 + 1, ma M.2.1 M.1 (q + 3, nF q), ma M.2.2.1 M.1 (fun _ => none), ma M.2.2.2.1 M.1 (fun _ => 0), M.2.2.2.2) := by
  simp only [stp, Bool.cond_eq_ite] at h
  repeat' split at h
  all_goals first | (cases h; done) | (cases h; exact ⟨‹_›, rfl, rfl⟩)
theorem si_newarray_int  {len pc : Nat} {ls : LV} {st : List AV} {M : M5} {ps : List Prop} {s' : ST} (h : stp (.newarray .int) len (pc, ls, st, M) = some (ps, s')) : ∃ (z : Int) (r : List AV), st = aI z :: r ∧ (decide (0 ≤ z) && decide (z ≤ 100000) && Nat.blt M.1 SCR) = true ∧ ps = [] ∧ s' = (pc + len, ls, aR M.1 :: r, M.1 + 1, ma M.2.1 M.1 (0, z.toNat), M.2.2.1, ma M.2.2.2.1 M.1 (fun _ => 0), M.2.2.2.2) := by
  simp only [stp, Bool.cond_eq_ite] at h
  repeat' split at h
  all_goals first | (cases h; done) | (cases h; exact ⟨_, _, rfl, ‹_›, rfl, rfl⟩)
theorem si_newarray_long  {len pc : Nat} {ls : LV} {st : List AV} {M : M5} {ps : List Prop} {s' : ST} (h : stp (.newarray .long) len (pc, ls, st, M) = some (ps, s')) : ∃ (z : Int) (r : List AV), st = aI z :: r ∧ (decide (0 ≤ z) && decide (z ≤ 100000) && Nat.blt M.1 SCR) = true ∧ ps = [] ∧ s' = (pc + len, ls, aR M.1 :: r, M.1 + 1, ma M.2.1 M.1 (1, z.toNat), M.2.2.1, M.2.2.2.1, ma M.2.2.2.2 M.1 (fun _ => 0)) := by
  simp only [stp, Bool.cond_eq_ite] at h
  repeat' split at h
  all_goals first | (cases h; done) | (cases h; exact ⟨_, _, rfl, ‹_›, rfl, rfl⟩)
theorem si_newarray_boolean  {len pc : Nat} {ls : LV} {st : List AV} {M : M5} {ps : List Prop} {s' : ST} (h : stp (.newarray .boolean) len (pc, ls, st, M) = some (ps, s')) : ∃ (z : Int) (r : List AV), st = aI z :: r ∧ (decide (0 ≤ z) && decide (z ≤ 100000) && Nat.blt M.1 SCR) = true ∧ ps = [] ∧ s' = (pc + len, ls, aR M.1 :: r, M.1 + 1, ma M.2.1 M.1 (2, z.toNat), M.2.2.1, ma M.2.2.2.1 M.1 (fun _ => 0), M.2.2.2.2) := by
  simp only [stp, Bool.cond_eq_ite] at h
  repeat' split at h
  all_goals first | (cases h; done) | (cases h; exact ⟨_, _, rfl, ‹_›, rfl, rfl⟩)
theorem si_max  {len pc : Nat} {ls : LV} {st : List AV} {M : M5} {ps : List Prop} {s' : ST} (h : stp (.invokestatic 1000) len (pc, ls, st, M) = some (ps, s')) : ∃ (y x : Int) (r : List AV), st = aI y :: aI x :: r ∧ Nat.ble (catS r) 8 = true ∧ ps = [] ∧ s' = (pc + len, ls, aI (if x < y then y else x) :: r, M) := by
  simp only [stp, Bool.cond_eq_ite] at h
  match st, h with
  | .inl y :: .inl x :: r, h =>
    dsimp only at h
    by_cases hc : Nat.ble (catS r) 8 = true
    · rw [if_pos hc] at h
      cases h
      exact ⟨_, _, _, rfl, hc, rfl, rfl⟩
    · rw [if_neg hc] at h
      cases h
theorem si_min  {len pc : Nat} {ls : LV} {st : List AV} {M : M5} {ps : List Prop} {s' : ST} (h : stp (.invokestatic 1001) len (pc, ls, st, M) = some (ps, s')) : ∃ (y x : Int) (r : List AV), st = aI y :: aI x :: r ∧ Nat.ble (catS r) 8 = true ∧ ps = [] ∧ s' = (pc + len, ls, aI (if y < x then y else x) :: r, M) := by
  simp only [stp, Bool.cond_eq_ite] at h
  match st, h with
  | .inl y :: .inl x :: r, h =>
    dsimp only at h
    by_cases hc : Nat.ble (catS r) 8 = true
    · rw [if_pos hc] at h
      cases h
      exact ⟨_, _, _, rfl, hc, rfl, rfl⟩
    · rw [if_neg hc] at h
      cases h
theorem si_oinit  {len pc : Nat} {ls : LV} {st : List AV} {M : M5} {ps : List Prop} {s' : ST} (h : stp (.invokestatic 1003) len (pc, ls, st, M) = some (ps, s')) : ∃ (x : Nat) (r : List AV), st = aR x :: r ∧ Nat.ble (catS r) 8 = true ∧ ps = [] ∧ s' = (pc + len, ls, r, M) := by
  simp only [stp, Bool.cond_eq_ite] at h
  repeat' split at h
  all_goals first | (cases h; done) | (cases h; exact ⟨_, _, rfl, ‹_›, rfl, rfl⟩)
theorem si_dup {len pc : Nat} {ls : LV} {st : List AV} {M : M5} {ps : List Prop} {s' : ST} (h : stp (.dup) len (pc, ls, st, M) = some (ps, s')) : ∃ (v : AV) (r : List AV), st = v :: r ∧ (∀ z, v ≠ .inr (.inl z)) ∧ ps = [] ∧ s' = (pc + len, ls, v :: v :: r, M) := by
  simp only [stp] at h
  match st, h with
  | .inl z :: r, h => cases h; exact ⟨_, _, rfl, (fun _ q => by cases q), rfl, rfl⟩
  | .inr (.inr z) :: r, h => cases h; exact ⟨_, _, rfl, (fun _ q => by cases q), rfl, rfl⟩
theorem si_putfield {q : Nat} {len pc : Nat} {ls : LV} {st : List AV} {M : M5} {ps : List Prop} {s' : ST} (h : stp (.putfield q) len (pc, ls, st, M) = some (ps, s')) :
    (∃ (z : Int) (a : Nat) (r : List AV), st = aI z :: aR a :: r ∧ (Nat.blt a M.1 && Nat.beq (M.2.1 a).1 (q / 1000 + 3) && Nat.blt (q % 1000) (nF (q / 1000))) = true ∧ ((fK (q / 1000) (q % 1000) = 0 ∧ ps = []) ∨ (fK (q / 1000) (q % 1000) = 1 ∧ ps = [0 ≤ z ∧ z ≤ 1])) ∧ s' = (pc + len, ls, r, M.1, M.2.1, M.2.2.1, ma M.2.2.2.1 a (ma (M.2.2.2.1 a) (q % 1000) z), M.2.2.2.2)) ∨
    (∃ (j a : Nat) (r : List AV), st = aR j :: aR a :: r ∧ (Nat.blt a M.1 && Nat.beq (M.2.1 a).1 (q / 1000 + 3) && Nat.blt (q % 1000) (nF (q / 1000))) = true ∧ fK (q / 1000) (q % 1000) = 2 ∧ Nat.blt j M.1 = true ∧ ps = [] ∧ s' = (pc + len, ls, r, M.1, M.2.1, ma M.2.2.1 a (ma (M.2.2.1 a) (q % 1000) (some j)), M.2.2.2.1, M.2.2.2.2)) := by
  simp only [stp, Bool.cond_eq_ite] at h
  repeat' split at h
  all_goals first | (cases h; done) | (cases h; exact Or.inl ⟨_, _, _, rfl, ‹_›, Or.inl ⟨‹_›, rfl⟩, rfl⟩) | (cases h; exact Or.inl ⟨_, _, _, rfl, ‹_›, Or.inr ⟨‹_›, rfl⟩, rfl⟩) | (cases h; exact Or.inr ⟨_, _, _, rfl, by assumption, by assumption, by assumption, rfl, rfl⟩)
theorem si_copy {len pc : Nat} {ls : LV} {st : List AV} {M : M5} {ps : List Prop} {s' : ST} (h : stp (.invokestatic 1002) len (pc, ls, st, M) = some (ps, s')) :
    ∃ (n dp : Int) (a : Nat) (sp : Int) (a0 : Nat) (r : List AV), st = aI n :: aI dp :: aR a :: aI sp :: aR a0 :: r ∧ (Nat.blt a M.1 && Nat.blt a0 M.1 && Nat.ble (catS r) 8) = true ∧ ps = [0 ≤ sp ∧ 0 ≤ dp ∧ 0 ≤ n ∧ sp + n ≤ ((M.2.1 a0).2 : Int) ∧ dp + n ≤ ((M.2.1 a).2 : Int)] ∧
      (((M.2.1 a0).1 = 0 ∧ (M.2.1 a).1 = 0 ∧ s' = (pc + len, ls, r, M.1, M.2.1, M.2.2.1, ma M.2.2.2.1 a (acp (M.2.2.2.1 a0) (M.2.2.2.1 a) sp.toNat dp.toNat n.toNat), M.2.2.2.2)) ∨
       ((M.2.1 a0).1 = 1 ∧ (M.2.1 a).1 = 1 ∧ s' = (pc + len, ls, r, M.1, M.2.1, M.2.2.1, M.2.2.2.1, ma M.2.2.2.2 a (acp (M.2.2.2.2 a0) (M.2.2.2.2 a) sp.toNat dp.toNat n.toNat)))) := by
  simp only [stp, Bool.cond_eq_ite] at h
  repeat' split at h
  all_goals first | (cases h; done) | (cases h; exact ⟨_, _, _, _, _, _, rfl, ‹_›, rfl, Or.inl ⟨by assumption, by assumption, rfl⟩⟩) | (cases h; exact ⟨_, _, _, _, _, _, rfl, ‹_›, rfl, Or.inr ⟨by assumption, by assumption, rfl⟩⟩)
