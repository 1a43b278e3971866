/-! ===== a step of the plain machine is a step of the real one ===== -/
/-- what stands at a method's entry: s is the state there -/
def pmCx (p : Program) (l : Launch) (R : Room) (s : State) (m : MethodId) (args : Array Value) (meth : Method) (c : Code) (D : va_G) (g : G3) (b0 b L : Nat) (xs : Nat → Int32) (y n0 q0 Nc Ns : Nat) : Prop :=
  p.tables.exec = Jvm.exec ∧ c.code = mB y ∧ c.maxLocals = mL y ∧ s.vm.findClass (nmO (mO y)) = some m.cls ∧ (∀ w ∈ bigW, w.before args s = true) ∧ va_K D vwCl [(g.1, .int), (g.2.1, .long), (g.2.2, .boolean)] s ∧
  (∀ i ∈ nstP, ∀ w, lw_tbl[i]? = some w → va_Nw w s) ∧ s.heap.size = b0 + n0 ∧ (mIn y = true → meth.name = "<init>") ∧ mFr y ≤ R.frames ∧ mLo y ≤ R.locals ∧ Nc - n0 ≤ R.cells ∧ Ns - q0 ≤ R.slots ∧ (y = 0 → va_X b L xs s s.heap ∧ b < b0)
/-- the goal, seen from a state of the plain machine -/
def pmAt (p : Program) (l : Launch) (e : Env) (R : Room) (s : State) (m : MethodId) (args : Array Value) (below : List Frame) (meth : Method) (c : Code) (Q : State → Prop) (D : va_G) (g : G3) (b0 b : Nat) (y n0 q0 : Nat) (z : ST) : Prop :=
  ∀ (H : Heap) (locs : List Loc) (rl : Array Slot), wld D g b0 z.2.2.2 H → va_S (fun q => b0 ≤ q) s.heap H locs → lhas b0 b rl (mL y) z.2.1 →
    W p l e R s m args below meth c H locs (z.2.2.2.1 - n0) (slT z.2.2.2.1 z.2.2.2.2.1 - q0) Q (F0 m z.1 rl (z.2.2.1.map (cv b0 b)))
theorem raw_dec {y pc : Nat} {t : Nat × Instr × Nat} (h : rawAt y pc = some t) : t.1 = pc ∧ decode (mB y) pc = .ok t.2 := by
  have h1 := List.find?_some h
  have h2 := List.mem_of_find?_eq_some h
  have e : t.1 = pc := by simpa using h1
  refine ⟨e, ?_⟩
  unfold mC at h2
  by_cases hy : y < mTab.length
  · have hg : mTab.getD y dflT = mTab[y] := by simp [List.getD, hy]
    rw [hg] at h2
    have := mTab_ok _ (List.getElem_mem hy) _ h2
    rw [e] at this
    unfold mB
    rw [hg]
    exact this
  · have hg : mTab.getD y dflT = dflT := by simp [List.getD, hy]
    rw [hg] at h2
    cases h2
theorem i32_add (x y : Int) : Int32.ofInt x + Int32.ofInt y = Int32.ofInt (x + y) := (Int32.ofInt_add ..).symm
theorem i32_sub (x y : Int) : Int32.ofInt x - Int32.ofInt y = Int32.ofInt (x - y) := (Int32.ofInt_sub ..).symm
theorem i32_mul (x y : Int) : Int32.ofInt x * Int32.ofInt y = Int32.ofInt (x * y) := (Int32.ofInt_mul ..).symm
theorem i32_neg (x : Int) : -Int32.ofInt x = Int32.ofInt (-x) := (Int32.ofInt_neg ..).symm
theorem sz32 : ((Int32.size : Nat) : Int) = 4294967296 := rfl
theorem sz64 : ((Int64.size : Nat) : Int) = 18446744073709551616 := rfl
theorem sz8 : ((Int8.size : Nat) : Int) = 256 := rfl
theorem sz16 : ((Int16.size : Nat) : Int) = 65536 := rfl
theorem i32_toInt {x : Int} (h : inR x) : (Int32.ofInt x).toInt = x := by
  obtain ⟨h1, h2⟩ := h
  rw [Int32.toInt_ofInt, Int.bmod_eq_of_le (by have := sz32; omega) (by have := sz32; omega)]
theorem i32_lt {x y : Int} (hx : inR x) (hy : inR y) : Int32.ofInt x < Int32.ofInt y ↔ x < y := by
  rw [Int32.lt_iff_toInt_lt, i32_toInt hx, i32_toInt hy]
theorem i32_le {x y : Int} (hx : inR x) (hy : inR y) : Int32.ofInt x ≤ Int32.ofInt y ↔ x ≤ y := by
  rw [Int32.le_iff_toInt_le, i32_toInt hx, i32_toInt hy]
theorem i32_eq {x y : Int} (hx : inR x) (hy : inR y) : Int32.ofInt x = Int32.ofInt y ↔ x = y := by
  rw [← Int32.toInt_inj, i32_toInt hx, i32_toInt hy]
theorem inR_0 : inR 0 := ⟨by decide, by decide⟩
theorem i32_0 : Int32.ofInt 0 = 0 := rfl
theorem i32_clamp {x : Int} (hx : inR x) : (Int32.ofInt x).toNatClampNeg = x.toNat := by
  show (Int32.ofInt x).toInt.toNat = _
  rw [i32_toInt hx]
theorem i32_in {x : Int} {n : Nat} (hx : inR x) (h : 0 ≤ x ∧ x < (n : Int)) : vp_in (Int32.ofInt x) n := by
  rw [vp_in_iff, i32_toInt hx]
  exact h
theorem i64_of {x : Int} (hx : inR x) : (Int32.ofInt x).toInt64 = Int64.ofInt x := by
  obtain ⟨h1, h2⟩ := hx
  rw [← Int64.toInt_inj, Int32.toInt_toInt64, i32_toInt ⟨h1, h2⟩, Int64.toInt_ofInt, Int.bmod_eq_of_le (by have := sz64; omega) (by have := sz64; omega)]
theorem i32_div {x y : Int} (hx : inR x) (hy : inR y) (h0 : 0 ≤ x) (h1 : 0 < y) : Int32.ofInt x / Int32.ofInt y = Int32.ofInt (x / y) := by
  have hb : inR (x / y) := by
    have a := Int.ediv_nonneg h0 (Int.le_of_lt h1)
    have b := Int.ediv_le_self y h0
    exact ⟨by have := hx.1; omega, by have := hx.2; omega⟩
  rw [← Int32.toInt_inj, Int32.toInt_div, i32_toInt hx, i32_toInt hy, i32_toInt hb, Int.tdiv_eq_ediv_of_nonneg h0]
  obtain ⟨g1, g2⟩ := hb
  exact Int.bmod_eq_of_le (by omega) (by omega)
theorem i32_rem {x y : Int} (hx : inR x) (hy : inR y) (h0 : 0 ≤ x) (h1 : 0 < y) : Int32.ofInt x - Int32.ofInt x / Int32.ofInt y * Int32.ofInt y = Int32.ofInt (x % y) := by
  rw [i32_div hx hy h0 h1, i32_mul, i32_sub]
  congr 1
  have := Int.emod_add_mul_ediv x y
  rw [Int.mul_comm (x / y) y]
  omega
theorem sh63 : ∀ k : Nat, k < 64 → ((Int64.ofInt (k : Int)) &&& 63) = Int64.ofInt (k : Int) ∧ (Int64.ofInt (k : Int)).toUInt64 &&& Int64.toUInt64 63 = (Int64.ofInt (k : Int)).toUInt64 := by decide +kernel
theorem sh_mask {y : Int} (hy : 0 ≤ y ∧ y < 64) : ((Int32.ofInt y).toInt64 &&& 63) = Int64.ofInt y ∧ (Int32.ofInt y).toInt64.toUInt64 &&& Int64.toUInt64 63 = (Int64.ofInt y).toUInt64 := by
  obtain ⟨k, rfl⟩ : ∃ k : Nat, y = (k : Int) := ⟨y.toNat, by omega⟩
  have hk : k < 64 := by omega
  rw [i64_of ⟨by omega, by omega⟩]
  exact sh63 k hk
theorem i32_and {x y : Int} (hx : inR x) (hy : y = 1 ∨ y = 63 ∨ y = 127) : Int32.ofInt x &&& Int32.ofInt y = Int32.ofInt (x % (y + 1)) := by
  have key : ∀ (v : BitVec 32) (k : Nat) (hk : k < 32), v &&& BitVec.ofNat 32 (2 ^ k - 1) = BitVec.ofNat 32 (v.toNat % 2 ^ k) := by
    intro v k hk
    apply BitVec.eq_of_toNat_eq
    rw [BitVec.toNat_and, BitVec.toNat_ofNat, BitVec.toNat_ofNat]
    have h2 : 2 ^ k ≤ 2 ^ 31 := Nat.pow_le_pow_right (by decide) (by omega)
    rw [Nat.mod_eq_of_lt (show 2 ^ k - 1 < 2 ^ 32 by omega), Nat.and_two_pow_sub_one_eq_mod, Nat.mod_eq_of_lt (Nat.lt_of_lt_of_le (Nat.mod_lt _ (Nat.two_pow_pos k)) (by omega))]
  have fin : ∀ k : Nat, k < 32 → (Int32.ofInt x).toBitVec &&& BitVec.ofNat 32 (2 ^ k - 1) = (Int32.ofInt (x % (2 ^ k : Nat))).toBitVec := by
    intro k hk
    rw [key _ k hk]
    apply BitVec.eq_of_toNat_eq
    have h2 : 2 ^ k ≤ 2 ^ 31 := Nat.pow_le_pow_right (by decide) (by omega)
    have h3 : 0 < 2 ^ k := Nat.two_pow_pos k
    have hm : (x % ((2 ^ k : Nat) : Int)).toNat < 2 ^ k := by
      have := Int.emod_lt_of_pos x (show (0 : Int) < ((2 ^ k : Nat) : Int) by omega)
      have := Int.emod_nonneg x (show ((2 ^ k : Nat) : Int) ≠ 0 by omega)
      omega
    show (BitVec.ofNat 32 ((BitVec.ofInt 32 x).toNat % 2 ^ k)).toNat = (BitVec.ofInt 32 (x % ((2 ^ k : Nat) : Int))).toNat
    rw [BitVec.toNat_ofNat, BitVec.toNat_ofInt, BitVec.toNat_ofInt]
    rw [Nat.mod_eq_of_lt (Nat.lt_of_lt_of_le (Nat.mod_lt _ h3) (by omega))]
    have hd : ((2 ^ k : Nat) : Int) ∣ ((2 ^ 32 : Nat) : Int) := Int.natCast_dvd_natCast.mpr (Nat.pow_dvd_pow 2 (by omega))
    have e1 : (x % ((2 ^ 32 : Nat) : Int)).toNat % 2 ^ k = (x % ((2 ^ k : Nat) : Int)).toNat := by
      have hn := Int.emod_nonneg x (show ((2 ^ 32 : Nat) : Int) ≠ 0 by decide)
      have := Int.emod_emod_of_dvd x hd
      apply Int.natCast_inj.mp
      rw [Int.natCast_emod, Int.toNat_of_nonneg hn, this, Int.toNat_of_nonneg (Int.emod_nonneg x (by omega))]
    have e2 : (x % ((2 ^ k : Nat) : Int) % ((2 ^ 32 : Nat) : Int)).toNat = (x % ((2 ^ k : Nat) : Int)).toNat := by
      rw [Int.emod_eq_of_lt (Int.emod_nonneg x (by omega)) (by omega)]
    rw [e1, e2]
  apply Int32.toBitVec_inj.mp
  rw [Int32.toBitVec_and]
  rcases hy with rfl | rfl | rfl
  · exact fin 1 (by decide)
  · exact fin 6 (by decide)
  · exact fin 7 (by decide)
theorem i32_shr1 {x : Int} (hx : inR x) : Int32.ofInt x >>> (Int32.ofInt 1 &&& 31) = Int32.ofInt (x / 2) := by
  have hb : inR (x / 2) := by obtain ⟨a, b⟩ := hx; exact ⟨by omega, by omega⟩
  apply Int32.toBitVec_inj.mp
  rw [show (Int32.ofInt 1 &&& 31 : Int32) = 1 from rfl]
  apply BitVec.eq_of_toInt_eq
  rw [Int32.toBitVec_shiftRight]
  show ((Int32.ofInt x).toBitVec.sshiftRight' _).toInt = (Int32.ofInt (x / 2)).toInt
  rw [i32_toInt hb]
  rw [show ((1 : Int32).toBitVec.smod 32 : BitVec 32) = 1#32 from rfl, BitVec.sshiftRight', BitVec.toInt_sshiftRight]
  show (Int32.ofInt x).toInt >>> (1#32).toNat = _
  rw [i32_toInt hx, Int.shiftRight_eq_div_pow]
  rfl
theorem blt_lt {a b : Nat} (h : Nat.blt a b = true) : a < b := by simpa [Nat.blt_eq] using h
theorem beq_of {a b : Nat} (h : Nat.beq a b = true) : a = b := Nat.eq_of_beq_eq_true h
theorem and2 {a b : Bool} (h : (a && b) = true) : a = true ∧ b = true := by simpa using h
theorem bif_some {α : Type} {c : Bool} {a z : α} (h : (bif c then some a else none) = some z) : c = true ∧ a = z := by
  cases c
  · cases h
  · exact ⟨rfl, Option.some.inj h⟩
theorem gw_ok (w : Cond) (h : (w.onTables && w.keeps) = true) : goodWord w = true := by cases w <;> first | rfl | exact h
theorem find2 {α : Type} {L : List (Nat × Nat × α)} {o i : Nat} {v : α} (h : (L.find? (fun t => t.1 == o && t.2.1 == i)).map (fun t => t.2.2) = some v) : (o, i, v) ∈ L := by
  cases hf : L.find? (fun t => t.1 == o && t.2.1 == i) with
  | none => rw [hf] at h; cases h
  | some t =>
    rw [hf] at h
    have h1 := List.find?_some hf
    have h2 := List.mem_of_find?_eq_some hf
    simp only [Bool.and_eq_true, beq_iff_eq] at h1
    obtain ⟨a, a2, a3⟩ := t
    obtain ⟨rfl, rfl⟩ := h1
    cases h
    exact h2
theorem cst_big {y i : Nat} {v : Int × Nat} (h : cstQ (mO y) i = some v) : Cond.constant (nmO (mO y)) i (Int32.ofInt v.1) ∈ bigW := big_at (tb_cst _ (find2 h)) (gw_ok _ (by first | rfl | simp [Cond.onTables, Cond.keeps, Cond.steady]))
theorem csl_big {y i : Nat} {v : Int × Nat} (h : cslQ (mO y) i = some v) : Cond.constantLong (nmO (mO y)) i (Int64.ofInt v.1) ∈ bigW := big_at (tb_csl _ (find2 h)) (gw_ok _ (by first | rfl | simp [Cond.onTables, Cond.keeps, Cond.steady]))
theorem i8_of {v : Int} (h : -128 ≤ v ∧ v ≤ 127) : (Int8.ofInt v).toInt32 = Int32.ofInt v := by
  rw [← Int32.toInt_inj, Int8.toInt_toInt32, Int8.toInt_ofInt, i32_toInt ⟨by omega, by omega⟩, Int.bmod_eq_of_le (by have := sz8; omega) (by have := sz8; omega)]
theorem i16_of {v : Int} (h : -32768 ≤ v ∧ v ≤ 32767) : (Int16.ofInt v).toInt32 = Int32.ofInt v := by
  rw [← Int32.toInt_inj, Int16.toInt_toInt32, Int16.toInt_ofInt, i32_toInt ⟨by omega, by omega⟩, Int.bmod_eq_of_le (by have := sz16; omega) (by have := sz16; omega)]
theorem lc_of (v : Fin 2) : Int64.ofNat (v : Nat) = Int64.ofInt ((v : Nat) : Int) := by
  match v with
  | 0 => rfl
  | 1 => rfl
theorem i32_ne0 {x : Int} (h : inR x) (h0 : 0 < x) : ¬ Int32.ofInt x = 0 := by
  rw [← i32_0, i32_eq h inR_0]
  omega
theorem i32_rng (x : Int32) : inR x.toInt := by
  have h1 := Int32.le_toInt x
  have h2 := Int32.toInt_lt x
  have e : (2 : Int) ^ 31 = 2147483648 := by decide
  unfold inR
  omega
theorem l2i_of (x : Int64) : x.toInt32 = Int32.ofInt x.toInt32.toInt := by
  rw [← Int32.toInt_inj, i32_toInt (i32_rng _)]
theorem lcm_of (x y : Int64) : lg_cmp x y = Int32.ofInt (lcm x y) := by
  unfold lg_cmp lcm
  by_cases h : y < x
  · rw [if_pos h, if_pos h]; rfl
  · rw [if_neg h, if_neg h]
    by_cases h2 : x = y
    · rw [if_pos h2, if_pos h2]; rfl
    · rw [if_neg h2, if_neg h2]; rfl
theorem ne_scr {L : Nat} {xs : Nat → Int32} {M : M5} {a : Nat} (h : okM L xs M) (ha : a < M.1) : a ≠ SCR := by have := h.1; omega
theorem cv_ref {b0 b a : Nat} (h : a ≠ SCR) : cv b0 b (aR a) = .ref (b0 + a) := by
  show Value.ref (if a = SCR then b else b0 + a) = _
  rw [if_neg h]
theorem cell_0 {g : G3} {b0 : Nat} {M : M5} {i : Nat} (h : (M.2.1 i).1 = 0) : cellOf g b0 M i = .inl (g.1, (M.2.1 i).2, .inl (fun k => Int32.ofInt (M.2.2.2.1 i k))) := by simp only [cellOf, h]
theorem cell_1 {g : G3} {b0 : Nat} {M : M5} {i : Nat} (h : (M.2.1 i).1 = 1) : cellOf g b0 M i = .inl (g.2.1, (M.2.1 i).2, .inr (.inl (M.2.2.2.2 i))) := by simp only [cellOf, h]
theorem cell_2 {g : G3} {b0 : Nat} {M : M5} {i : Nat} (h : (M.2.1 i).1 = 2) : cellOf g b0 M i = .inl (g.2.2, (M.2.1 i).2, .inl (fun k => Int32.ofInt (M.2.2.2.1 i k))) := by simp only [cellOf, h]
theorem cell_3 {g : G3} {b0 : Nat} {M : M5} {i c : Nat} (h : (M.2.1 i).1 = c + 3) : cellOf g b0 M i = .inr (c, (List.range (nF c)).map (fv b0 M i c)) := by simp only [cellOf, h]
theorem fv_congr {b0 : Nat} {M M' : M5} {i ci k : Nat} (hR : M'.2.2.1 i = M.2.2.1 i) (hI : M'.2.2.2.1 i = M.2.2.2.1 i) : fv b0 M' i ci k = fv b0 M i ci k := by
  unfold fv
  rw [hR, hI]
theorem cell_same {g : G3} {b0 : Nat} {M M' : M5} {j : Nat} (hS : M'.2.1 j = M.2.1 j) (hR : M'.2.2.1 j = M.2.2.1 j) (hI : M'.2.2.2.1 j = M.2.2.2.1 j) (hL : M'.2.2.2.2 j = M.2.2.2.2 j) : cellOf g b0 M' j = cellOf g b0 M j := by
  unfold cellOf
  rw [hS, hI, hL]
  have : ∀ c, fv b0 M' j c = fv b0 M j c := fun c => funext fun k => fv_congr hR hI
  split <;> simp [this]
theorem cell_othI {g : G3} {b0 : Nat} {M : M5} {a j : Nat} {f : Nat → Int} (h : j ≠ a) : cellOf g b0 (M.1, M.2.1, M.2.2.1, ma M.2.2.2.1 a f, M.2.2.2.2) j = cellOf g b0 M j := cell_same rfl rfl (ma_ne _ _ h) rfl
theorem cell_othL {g : G3} {b0 : Nat} {M : M5} {a j : Nat} {f : Nat → Int64} (h : j ≠ a) : cellOf g b0 (M.1, M.2.1, M.2.2.1, M.2.2.2.1, ma M.2.2.2.2 a f) j = cellOf g b0 M j := cell_same rfl rfl rfl (ma_ne _ _ h)
theorem upd_ma (f : Nat → Int) (i : Nat) (z : Int) : (fun k => Int32.ofInt (ma f i z k)) = upd (fun k => Int32.ofInt (f k)) i (Int32.ofInt z) := by
  funext k
  unfold ma upd
  by_cases h : k = i <;> simp [h]
theorem updL_ma (f : Nat → Int64) (i : Nat) (z : Int64) : ma f i z = vp_updL f i z := by
  funext k
  unfold ma vp_updL
  rfl
theorem nar_z {z : Int} (h : 0 ≤ z ∧ z ≤ 1) : vp_nar .boolean (Int32.ofInt z) = Int32.ofInt z := by
  obtain ⟨h1, h2⟩ := h
  have : z = 0 ∨ z = 1 := by omega
  rcases this with rfl | rfl <;> rfl
section SIM
variable {p : Program} {l : Launch} {e : Env} {R : Room} {s : State} {m : MethodId} {args : Array Value} {below : List Frame} {meth : Method} {c : Code} {Q : State → Prop} {D : va_G} {g : G3} {b0 b L : Nat} {xs : Nat → Int32} {y n0 q0 Nc Ns : Nat}
variable {pc len : Nat} {ls : LV} {st : List AV} {M : M5} {ps : List Prop} {z' : ST}
theorem sm_iconst {v : Int} (hC : pmCx p l R s m args meth c D g b0 b L xs y n0 q0 Nc Ns) (hd : decode (mB y) pc = .ok (.iconst v, 1)) (hs : stp (.bipush v) 1 (pc, ls, st, M) = some (ps, z')) (hp : allP ps) (hok : okS L xs (pc, ls, st, M))  (k : pmAt p l e R s m args below meth c Q D g b0 b y n0 q0 z') : pmAt p l e R s m args below meth c Q D g b0 b y n0 q0 (pc, ls, st, M) := by
  obtain ⟨h0, rfl, rfl⟩ := si_bipush hs
  obtain ⟨hx, hb, -⟩ := hC
  intro H locs rl h1 h2 h3
  exact lv_iconst hx hb hd rfl (k H locs rl h1 h2 h3)
theorem sm_bipush {v : Int} (hv : -128 ≤ v ∧ v ≤ 127) (hC : pmCx p l R s m args meth c D g b0 b L xs y n0 q0 Nc Ns) (hd : decode (mB y) pc = .ok (.bipush v, 2)) (hs : stp (.bipush v) 2 (pc, ls, st, M) = some (ps, z')) (hp : allP ps) (hok : okS L xs (pc, ls, st, M))  (k : pmAt p l e R s m args below meth c Q D g b0 b y n0 q0 z') : pmAt p l e R s m args below meth c Q D g b0 b y n0 q0 (pc, ls, st, M) := by
  obtain ⟨h0, rfl, rfl⟩ := si_bipush hs
  obtain ⟨hx, hb, -⟩ := hC
  intro H locs rl h1 h2 h3
  exact lv_bipush hx hb hd (i8_of hv) (k H locs rl h1 h2 h3)
theorem sm_sipush {v : Int} (hv : -32768 ≤ v ∧ v ≤ 32767) (hC : pmCx p l R s m args meth c D g b0 b L xs y n0 q0 Nc Ns) (hd : decode (mB y) pc = .ok (.sipush v, 3)) (hs : stp (.bipush v) 3 (pc, ls, st, M) = some (ps, z')) (hp : allP ps) (hok : okS L xs (pc, ls, st, M))  (k : pmAt p l e R s m args below meth c Q D g b0 b y n0 q0 z') : pmAt p l e R s m args below meth c Q D g b0 b y n0 q0 (pc, ls, st, M) := by
  obtain ⟨h0, rfl, rfl⟩ := si_bipush hs
  obtain ⟨hx, hb, -⟩ := hC
  intro H locs rl h1 h2 h3
  exact lv_sipush hx hb hd (i16_of hv) (k H locs rl h1 h2 h3)
theorem sm_ldc {i : Nat} {v : Int × Nat} (hq : cstQ (mO y) i = some v) (hC : pmCx p l R s m args meth c D g b0 b L xs y n0 q0 Nc Ns) (hd : decode (mB y) pc = .ok (.ldc i, 2)) (hs : stp (.bipush v.1) 2 (pc, ls, st, M) = some (ps, z')) (hp : allP ps) (hok : okS L xs (pc, ls, st, M))  (k : pmAt p l e R s m args below meth c Q D g b0 b y n0 q0 z') : pmAt p l e R s m args below meth c Q D g b0 b y n0 q0 (pc, ls, st, M) := by
  obtain ⟨h0, rfl, rfl⟩ := si_bipush hs
  obtain ⟨hx, hb, -, hown, hts, -⟩ := hC
  intro H locs rl h1 h2 h3
  exact lv_ldc hx hb hown (hts _ (cst_big hq)) hd (k H locs rl h1 h2 h3)
theorem sm_ldc_w {i : Nat} {v : Int × Nat} (hq : cstQ (mO y) i = some v) (hC : pmCx p l R s m args meth c D g b0 b L xs y n0 q0 Nc Ns) (hd : decode (mB y) pc = .ok (.ldc_w i, 3)) (hs : stp (.bipush v.1) 3 (pc, ls, st, M) = some (ps, z')) (hp : allP ps) (hok : okS L xs (pc, ls, st, M))  (k : pmAt p l e R s m args below meth c Q D g b0 b y n0 q0 z') : pmAt p l e R s m args below meth c Q D g b0 b y n0 q0 (pc, ls, st, M) := by
  obtain ⟨h0, rfl, rfl⟩ := si_bipush hs
  obtain ⟨hx, hb, -, hown, hts, -⟩ := hC
  intro H locs rl h1 h2 h3
  exact lv_ldcw hx hb hown (hts _ (cst_big hq)) hd (k H locs rl h1 h2 h3)
theorem sm_lconst {v : Fin 2} (hC : pmCx p l R s m args meth c D g b0 b L xs y n0 q0 Nc Ns) (hd : decode (mB y) pc = .ok (.lconst v, 1)) (hs : stp (.jsr_w ((v : Nat) : Int)) 1 (pc, ls, st, M) = some (ps, z')) (hp : allP ps) (hok : okS L xs (pc, ls, st, M))  (k : pmAt p l e R s m args below meth c Q D g b0 b y n0 q0 z') : pmAt p l e R s m args below meth c Q D g b0 b y n0 q0 (pc, ls, st, M) := by
  obtain ⟨rfl, rfl⟩ := si_jsr_w hs
  obtain ⟨hx, hb, -⟩ := hC
  intro H locs rl h1 h2 h3
  exact lv_lconst hx hb hd (lc_of v) (k H locs rl h1 h2 h3)
theorem sm_ldc2 {i : Nat} {v : Int × Nat} (hq : cslQ (mO y) i = some v) (hC : pmCx p l R s m args meth c D g b0 b L xs y n0 q0 Nc Ns) (hd : decode (mB y) pc = .ok (.ldc2_w i, 3)) (hs : stp (.jsr_w v.1) 3 (pc, ls, st, M) = some (ps, z')) (hp : allP ps) (hok : okS L xs (pc, ls, st, M))  (k : pmAt p l e R s m args below meth c Q D g b0 b y n0 q0 z') : pmAt p l e R s m args below meth c Q D g b0 b y n0 q0 (pc, ls, st, M) := by
  obtain ⟨rfl, rfl⟩ := si_jsr_w hs
  obtain ⟨hx, hb, -, hown, hts, -⟩ := hC
  intro H locs rl h1 h2 h3
  exact lv_ldc2 hx hb hown (hts _ (csl_big hq)) hd (k H locs rl h1 h2 h3)
theorem sm_iload_n {n : Fin 4} (hC : pmCx p l R s m args meth c D g b0 b L xs y n0 q0 Nc Ns) (hd : decode (mB y) pc = .ok (.iload_n n, 1)) (hs : stp (.iload (n : Nat)) 1 (pc, ls, st, M) = some (ps, z')) (hp : allP ps) (hok : okS L xs (pc, ls, st, M))  (k : pmAt p l e R s m args below meth c Q D g b0 b y n0 q0 z') : pmAt p l e R s m args below meth c Q D g b0 b y n0 q0 (pc, ls, st, M) := by
  obtain ⟨v, hv, rfl, rfl⟩ := si_iload hs
  obtain ⟨hx, hb, -⟩ := hC
  intro H locs rl h1 h2 h3
  exact lv_iload_n hx hb hd rfl (lhas_at h3 hv) (k H locs rl h1 h2 h3)
theorem sm_istore_n {n : Fin 4} (hC : pmCx p l R s m args meth c D g b0 b L xs y n0 q0 Nc Ns) (hd : decode (mB y) pc = .ok (.istore_n n, 1)) (hs : stp (.istore (n : Nat)) 1 (pc, ls, st, M) = some (ps, z')) (hp : allP ps) (hok : okS L xs (pc, ls, st, M))  (k : pmAt p l e R s m args below meth c Q D g b0 b y n0 q0 z') : pmAt p l e R s m args below meth c Q D g b0 b y n0 q0 (pc, ls, st, M) := by
  obtain ⟨v, r, rfl, hi, rfl, rfl⟩ := si_istore hs
  obtain ⟨hx, hb, -⟩ := hC
  intro H locs rl h1 h2 h3
  have hi' : (n : Nat) < mL y := Nat.lt_of_lt_of_le (blt_lt hi) h3.2.2.1
  exact lv_istore_n hx hb hd rfl (lhas_lv h3) hi' rfl (fun rl' h' => k H locs rl' h1 h2 (lhas_st1 h3 rfl (blt_lt hi) h'))
theorem sm_iload {i : Nat} (hC : pmCx p l R s m args meth c D g b0 b L xs y n0 q0 Nc Ns) (hd : decode (mB y) pc = .ok (.iload i, 2)) (hs : stp (.iload i) 2 (pc, ls, st, M) = some (ps, z')) (hp : allP ps) (hok : okS L xs (pc, ls, st, M))  (k : pmAt p l e R s m args below meth c Q D g b0 b y n0 q0 z') : pmAt p l e R s m args below meth c Q D g b0 b y n0 q0 (pc, ls, st, M) := by
  obtain ⟨v, hv, rfl, rfl⟩ := si_iload hs
  obtain ⟨hx, hb, -⟩ := hC
  intro H locs rl h1 h2 h3
  exact lv_iload hx hb hd (lhas_at h3 hv) (k H locs rl h1 h2 h3)
theorem sm_istore {i : Nat} (hC : pmCx p l R s m args meth c D g b0 b L xs y n0 q0 Nc Ns) (hd : decode (mB y) pc = .ok (.istore i, 2)) (hs : stp (.istore i) 2 (pc, ls, st, M) = some (ps, z')) (hp : allP ps) (hok : okS L xs (pc, ls, st, M))  (k : pmAt p l e R s m args below meth c Q D g b0 b y n0 q0 z') : pmAt p l e R s m args below meth c Q D g b0 b y n0 q0 (pc, ls, st, M) := by
  obtain ⟨v, r, rfl, hi, rfl, rfl⟩ := si_istore hs
  obtain ⟨hx, hb, -⟩ := hC
  intro H locs rl h1 h2 h3
  have hi' : i < mL y := Nat.lt_of_lt_of_le (blt_lt hi) h3.2.2.1
  exact lv_istore hx hb hd (lhas_lv h3) hi' rfl (fun rl' h' => k H locs rl' h1 h2 (lhas_st1 h3 rfl (blt_lt hi) h'))
theorem sm_lload_n {n : Fin 4} (hC : pmCx p l R s m args meth c D g b0 b L xs y n0 q0 Nc Ns) (hd : decode (mB y) pc = .ok (.lload_n n, 1)) (hs : stp (.lload (n : Nat)) 1 (pc, ls, st, M) = some (ps, z')) (hp : allP ps) (hok : okS L xs (pc, ls, st, M))  (k : pmAt p l e R s m args below meth c Q D g b0 b y n0 q0 z') : pmAt p l e R s m args below meth c Q D g b0 b y n0 q0 (pc, ls, st, M) := by
  obtain ⟨v, hv, rfl, rfl⟩ := si_lload hs
  obtain ⟨hx, hb, -⟩ := hC
  intro H locs rl h1 h2 h3
  exact lv_lload_n hx hb hd rfl (lhas_at h3 hv) (k H locs rl h1 h2 h3)
theorem sm_lstore_n {n : Fin 4} (hC : pmCx p l R s m args meth c D g b0 b L xs y n0 q0 Nc Ns) (hd : decode (mB y) pc = .ok (.lstore_n n, 1)) (hs : stp (.lstore (n : Nat)) 1 (pc, ls, st, M) = some (ps, z')) (hp : allP ps) (hok : okS L xs (pc, ls, st, M))  (k : pmAt p l e R s m args below meth c Q D g b0 b y n0 q0 z') : pmAt p l e R s m args below meth c Q D g b0 b y n0 q0 (pc, ls, st, M) := by
  obtain ⟨v, r, rfl, hi, rfl, rfl⟩ := si_lstore hs
  obtain ⟨hx, hb, -⟩ := hC
  intro H locs rl h1 h2 h3
  have hi' : (n : Nat) + 1 < mL y := by
    have h9 : ls.length ≤ mL y := h3.2.2.1
    have := blt_lt hi
    omega
  exact lv_lstore_n hx hb hd rfl (lhas_lv h3) hi' rfl (fun rl' h' => k H locs rl' h1 h2 (lhas_st2 h3 rfl h'))
theorem sm_lload {i : Nat} (hC : pmCx p l R s m args meth c D g b0 b L xs y n0 q0 Nc Ns) (hd : decode (mB y) pc = .ok (.lload i, 2)) (hs : stp (.lload i) 2 (pc, ls, st, M) = some (ps, z')) (hp : allP ps) (hok : okS L xs (pc, ls, st, M))  (k : pmAt p l e R s m args below meth c Q D g b0 b y n0 q0 z') : pmAt p l e R s m args below meth c Q D g b0 b y n0 q0 (pc, ls, st, M) := by
  obtain ⟨v, hv, rfl, rfl⟩ := si_lload hs
  obtain ⟨hx, hb, -⟩ := hC
  intro H locs rl h1 h2 h3
  exact lv_lload hx hb hd (lhas_at h3 hv) (k H locs rl h1 h2 h3)
theorem sm_lstore {i : Nat} (hC : pmCx p l R s m args meth c D g b0 b L xs y n0 q0 Nc Ns) (hd : decode (mB y) pc = .ok (.lstore i, 2)) (hs : stp (.lstore i) 2 (pc, ls, st, M) = some (ps, z')) (hp : allP ps) (hok : okS L xs (pc, ls, st, M))  (k : pmAt p l e R s m args below meth c Q D g b0 b y n0 q0 z') : pmAt p l e R s m args below meth c Q D g b0 b y n0 q0 (pc, ls, st, M) := by
  obtain ⟨v, r, rfl, hi, rfl, rfl⟩ := si_lstore hs
  obtain ⟨hx, hb, -⟩ := hC
  intro H locs rl h1 h2 h3
  have hi' : i + 1 < mL y := by
    have h9 : ls.length ≤ mL y := h3.2.2.1
    have := blt_lt hi
    omega
  exact lv_lstore hx hb hd (lhas_lv h3) hi' rfl (fun rl' h' => k H locs rl' h1 h2 (lhas_st2 h3 rfl h'))
theorem sm_aload_n {n : Fin 4} (hC : pmCx p l R s m args meth c D g b0 b L xs y n0 q0 Nc Ns) (hd : decode (mB y) pc = .ok (.aload_n n, 1)) (hs : stp (.aload (n : Nat)) 1 (pc, ls, st, M) = some (ps, z')) (hp : allP ps) (hok : okS L xs (pc, ls, st, M))  (k : pmAt p l e R s m args below meth c Q D g b0 b y n0 q0 z') : pmAt p l e R s m args below meth c Q D g b0 b y n0 q0 (pc, ls, st, M) := by
  obtain ⟨v, hv, rfl, rfl⟩ := si_aload hs
  obtain ⟨hx, hb, -⟩ := hC
  intro H locs rl h1 h2 h3
  exact lv_aload_n hx hb hd rfl (lhas_at h3 hv) (k H locs rl h1 h2 h3)
theorem sm_astore_n {n : Fin 4} (hC : pmCx p l R s m args meth c D g b0 b L xs y n0 q0 Nc Ns) (hd : decode (mB y) pc = .ok (.astore_n n, 1)) (hs : stp (.astore (n : Nat)) 1 (pc, ls, st, M) = some (ps, z')) (hp : allP ps) (hok : okS L xs (pc, ls, st, M))  (k : pmAt p l e R s m args below meth c Q D g b0 b y n0 q0 z') : pmAt p l e R s m args below meth c Q D g b0 b y n0 q0 (pc, ls, st, M) := by
  obtain ⟨v, r, rfl, hi, rfl, rfl⟩ := si_astore hs
  obtain ⟨hx, hb, -⟩ := hC
  intro H locs rl h1 h2 h3
  have hi' : (n : Nat) < mL y := Nat.lt_of_lt_of_le (blt_lt hi) h3.2.2.1
  exact lv_astore_n hx hb hd rfl (lhas_lv h3) hi' rfl (fun rl' h' => k H locs rl' h1 h2 (lhas_st1 h3 rfl (blt_lt hi) h'))
theorem sm_aload {i : Nat} (hC : pmCx p l R s m args meth c D g b0 b L xs y n0 q0 Nc Ns) (hd : decode (mB y) pc = .ok (.aload i, 2)) (hs : stp (.aload i) 2 (pc, ls, st, M) = some (ps, z')) (hp : allP ps) (hok : okS L xs (pc, ls, st, M))  (k : pmAt p l e R s m args below meth c Q D g b0 b y n0 q0 z') : pmAt p l e R s m args below meth c Q D g b0 b y n0 q0 (pc, ls, st, M) := by
  obtain ⟨v, hv, rfl, rfl⟩ := si_aload hs
  obtain ⟨hx, hb, -⟩ := hC
  intro H locs rl h1 h2 h3
  exact lv_aload hx hb hd (lhas_at h3 hv) (k H locs rl h1 h2 h3)
theorem sm_astore {i : Nat} (hC : pmCx p l R s m args meth c D g b0 b L xs y n0 q0 Nc Ns) (hd : decode (mB y) pc = .ok (.astore i, 2)) (hs : stp (.astore i) 2 (pc, ls, st, M) = some (ps, z')) (hp : allP ps) (hok : okS L xs (pc, ls, st, M))  (k : pmAt p l e R s m args below meth c Q D g b0 b y n0 q0 z') : pmAt p l e R s m args below meth c Q D g b0 b y n0 q0 (pc, ls, st, M) := by
  obtain ⟨v, r, rfl, hi, rfl, rfl⟩ := si_astore hs
  obtain ⟨hx, hb, -⟩ := hC
  intro H locs rl h1 h2 h3
  have hi' : i < mL y := Nat.lt_of_lt_of_le (blt_lt hi) h3.2.2.1
  exact lv_astore hx hb hd (lhas_lv h3) hi' rfl (fun rl' h' => k H locs rl' h1 h2 (lhas_st1 h3 rfl (blt_lt hi) h'))
theorem sm_iinc {i : Nat} {n : Int} (hC : pmCx p l R s m args meth c D g b0 b L xs y n0 q0 Nc Ns) (hd : decode (mB y) pc = .ok (.iinc i n, 3)) (hs : stp (.iinc i n) 3 (pc, ls, st, M) = some (ps, z')) (hp : allP ps) (hok : okS L xs (pc, ls, st, M))  (k : pmAt p l e R s m args below meth c Q D g b0 b y n0 q0 z') : pmAt p l e R s m args below meth c Q D g b0 b y n0 q0 (pc, ls, st, M) := by
  obtain ⟨v, hv, rfl, rfl⟩ := si_iinc hs
  obtain ⟨hx, hb, -⟩ := hC
  intro H locs rl h1 h2 h3
  have hm : ls[i]? = some (some (aI v)) := by
    rw [List.getD, Option.getD_eq_iff] at hv
    rcases hv with hv | hv
    · exact hv
    · cases hv.2
  have hi := (List.getElem?_eq_some_iff.mp hm).1
  obtain ⟨kq, hkq⟩ := List.getElem?_of_mem (lvOf_mem (b0 := b0) (b := b) hm)
  exact lv_iinc hx hb hd (lhas_lv h3) hkq (i32_add v n) (Nat.lt_of_lt_of_le hi h3.2.2.1) rfl (fun rl' h' => k H locs rl' h1 h2 (lhas_st1 h3 rfl hi h'))
theorem sm_iadd  (hC : pmCx p l R s m args meth c D g b0 b L xs y n0 q0 Nc Ns) (hd : decode (mB y) pc = .ok (.iadd, 1)) (hs : stp (.iadd) 1 (pc, ls, st, M) = some (ps, z')) (hp : allP ps) (hok : okS L xs (pc, ls, st, M))  (k : pmAt p l e R s m args below meth c Q D g b0 b y n0 q0 z') : pmAt p l e R s m args below meth c Q D g b0 b y n0 q0 (pc, ls, st, M) := by
  obtain ⟨y1, x1, r, rfl, rfl, rfl⟩ := si_iadd hs
  obtain ⟨hx, hb, -⟩ := hC
  intro H locs rl h1 h2 h3
  refine lv_iadd hx hb hd ?_
  rw [i32_add]
  exact k H locs rl h1 h2 h3
theorem sm_isub  (hC : pmCx p l R s m args meth c D g b0 b L xs y n0 q0 Nc Ns) (hd : decode (mB y) pc = .ok (.isub, 1)) (hs : stp (.isub) 1 (pc, ls, st, M) = some (ps, z')) (hp : allP ps) (hok : okS L xs (pc, ls, st, M))  (k : pmAt p l e R s m args below meth c Q D g b0 b y n0 q0 z') : pmAt p l e R s m args below meth c Q D g b0 b y n0 q0 (pc, ls, st, M) := by
  obtain ⟨y1, x1, r, rfl, rfl, rfl⟩ := si_isub hs
  obtain ⟨hx, hb, -⟩ := hC
  intro H locs rl h1 h2 h3
  refine lv_isub hx hb hd ?_
  rw [i32_sub]
  exact k H locs rl h1 h2 h3
theorem sm_imul  (hC : pmCx p l R s m args meth c D g b0 b L xs y n0 q0 Nc Ns) (hd : decode (mB y) pc = .ok (.imul, 1)) (hs : stp (.imul) 1 (pc, ls, st, M) = some (ps, z')) (hp : allP ps) (hok : okS L xs (pc, ls, st, M))  (k : pmAt p l e R s m args below meth c Q D g b0 b y n0 q0 z') : pmAt p l e R s m args below meth c Q D g b0 b y n0 q0 (pc, ls, st, M) := by
  obtain ⟨y1, x1, r, rfl, rfl, rfl⟩ := si_imul hs
  obtain ⟨hx, hb, -⟩ := hC
  intro H locs rl h1 h2 h3
  refine lv_imul hx hb hd ?_
  rw [i32_mul]
  exact k H locs rl h1 h2 h3
theorem sm_ineg  (hC : pmCx p l R s m args meth c D g b0 b L xs y n0 q0 Nc Ns) (hd : decode (mB y) pc = .ok (.ineg, 1)) (hs : stp (.ineg) 1 (pc, ls, st, M) = some (ps, z')) (hp : allP ps) (hok : okS L xs (pc, ls, st, M))  (k : pmAt p l e R s m args below meth c Q D g b0 b y n0 q0 z') : pmAt p l e R s m args below meth c Q D g b0 b y n0 q0 (pc, ls, st, M) := by
  obtain ⟨x1, r, rfl, rfl, rfl⟩ := si_ineg hs
  obtain ⟨hx, hb, -⟩ := hC
  intro H locs rl h1 h2 h3
  refine lv_ineg hx hb hd ?_
  rw [i32_neg]
  exact k H locs rl h1 h2 h3
theorem sm_idiv  (hC : pmCx p l R s m args meth c D g b0 b L xs y n0 q0 Nc Ns) (hd : decode (mB y) pc = .ok (.idiv, 1)) (hs : stp (.idiv) 1 (pc, ls, st, M) = some (ps, z')) (hp : allP ps) (hok : okS L xs (pc, ls, st, M))  (k : pmAt p l e R s m args below meth c Q D g b0 b y n0 q0 z') : pmAt p l e R s m args below meth c Q D g b0 b y n0 q0 (pc, ls, st, M) := by
  obtain ⟨y1, x1, r, rfl, rfl, rfl⟩ := si_idiv hs
  obtain ⟨hx, hb, -⟩ := hC
  have hst := hok.2.1
  simp only [List.forall_mem_cons] at hst
  intro H locs rl h1 h2 h3
  refine lv_idiv hx hb hd (i32_ne0 hst.1 hp.2) ?_
  rw [i32_div hst.2.1 hst.1 hp.1 hp.2]
  exact k H locs rl h1 h2 h3
theorem sm_irem  (hC : pmCx p l R s m args meth c D g b0 b L xs y n0 q0 Nc Ns) (hd : decode (mB y) pc = .ok (.irem, 1)) (hs : stp (.irem) 1 (pc, ls, st, M) = some (ps, z')) (hp : allP ps) (hok : okS L xs (pc, ls, st, M))  (k : pmAt p l e R s m args below meth c Q D g b0 b y n0 q0 z') : pmAt p l e R s m args below meth c Q D g b0 b y n0 q0 (pc, ls, st, M) := by
  obtain ⟨y1, x1, r, rfl, rfl, rfl⟩ := si_irem hs
  obtain ⟨hx, hb, -⟩ := hC
  have hst := hok.2.1
  simp only [List.forall_mem_cons] at hst
  intro H locs rl h1 h2 h3
  refine lv_irem hx hb hd (i32_ne0 hst.1 hp.2) ?_
  rw [i32_rem hst.2.1 hst.1 hp.1 hp.2]
  exact k H locs rl h1 h2 h3
theorem sm_iand  (hC : pmCx p l R s m args meth c D g b0 b L xs y n0 q0 Nc Ns) (hd : decode (mB y) pc = .ok (.iand, 1)) (hs : stp (.iand) 1 (pc, ls, st, M) = some (ps, z')) (hp : allP ps) (hok : okS L xs (pc, ls, st, M))  (k : pmAt p l e R s m args below meth c Q D g b0 b y n0 q0 z') : pmAt p l e R s m args below meth c Q D g b0 b y n0 q0 (pc, ls, st, M) := by
  obtain ⟨y1, x1, r, rfl, rfl, rfl⟩ := si_iand hs
  obtain ⟨hx, hb, -⟩ := hC
  have hst := hok.2.1
  simp only [List.forall_mem_cons] at hst
  intro H locs rl h1 h2 h3
  refine lv_iand hx hb hd ?_
  rw [i32_and hst.2.1 hp]
  exact k H locs rl h1 h2 h3
theorem sm_ishr  (hC : pmCx p l R s m args meth c D g b0 b L xs y n0 q0 Nc Ns) (hd : decode (mB y) pc = .ok (.ishr, 1)) (hs : stp (.ishr) 1 (pc, ls, st, M) = some (ps, z')) (hp : allP ps) (hok : okS L xs (pc, ls, st, M))  (k : pmAt p l e R s m args below meth c Q D g b0 b y n0 q0 z') : pmAt p l e R s m args below meth c Q D g b0 b y n0 q0 (pc, ls, st, M) := by
  obtain ⟨y1, x1, r, rfl, rfl, rfl⟩ := si_ishr hs
  obtain ⟨hx, hb, -⟩ := hC
  have hst := hok.2.1
  simp only [List.forall_mem_cons] at hst
  intro H locs rl h1 h2 h3
  have hp : y1 = 1 := hp
  subst hp
  refine lv_ishr hx hb hd ?_
  rw [i32_shr1 hst.2.1]
  exact k H locs rl h1 h2 h3
theorem sm_i2l  (hC : pmCx p l R s m args meth c D g b0 b L xs y n0 q0 Nc Ns) (hd : decode (mB y) pc = .ok (.i2l, 1)) (hs : stp (.i2l) 1 (pc, ls, st, M) = some (ps, z')) (hp : allP ps) (hok : okS L xs (pc, ls, st, M))  (k : pmAt p l e R s m args below meth c Q D g b0 b y n0 q0 z') : pmAt p l e R s m args below meth c Q D g b0 b y n0 q0 (pc, ls, st, M) := by
  obtain ⟨x1, r, rfl, rfl, rfl⟩ := si_i2l hs
  obtain ⟨hx, hb, -⟩ := hC
  have hst := hok.2.1
  simp only [List.forall_mem_cons] at hst
  intro H locs rl h1 h2 h3
  exact lv_i2l hx hb hd (i64_of hst.1) (k H locs rl h1 h2 h3)
theorem sm_l2i  (hC : pmCx p l R s m args meth c D g b0 b L xs y n0 q0 Nc Ns) (hd : decode (mB y) pc = .ok (.l2i, 1)) (hs : stp (.l2i) 1 (pc, ls, st, M) = some (ps, z')) (hp : allP ps) (hok : okS L xs (pc, ls, st, M))  (k : pmAt p l e R s m args below meth c Q D g b0 b y n0 q0 z') : pmAt p l e R s m args below meth c Q D g b0 b y n0 q0 (pc, ls, st, M) := by
  obtain ⟨x1, r, rfl, rfl, rfl⟩ := si_l2i hs
  obtain ⟨hx, hb, -⟩ := hC
  intro H locs rl h1 h2 h3
  exact lv_l2i hx hb hd (l2i_of x1) (k H locs rl h1 h2 h3)
theorem sm_ladd  (hC : pmCx p l R s m args meth c D g b0 b L xs y n0 q0 Nc Ns) (hd : decode (mB y) pc = .ok (.ladd, 1)) (hs : stp (.ladd) 1 (pc, ls, st, M) = some (ps, z')) (hp : allP ps) (hok : okS L xs (pc, ls, st, M))  (k : pmAt p l e R s m args below meth c Q D g b0 b y n0 q0 z') : pmAt p l e R s m args below meth c Q D g b0 b y n0 q0 (pc, ls, st, M) := by
  obtain ⟨y1, x1, r, rfl, rfl, rfl⟩ := si_ladd hs
  obtain ⟨hx, hb, -⟩ := hC
  intro H locs rl h1 h2 h3
  exact lv_ladd hx hb hd (k H locs rl h1 h2 h3)
theorem sm_lsub  (hC : pmCx p l R s m args meth c D g b0 b L xs y n0 q0 Nc Ns) (hd : decode (mB y) pc = .ok (.lsub, 1)) (hs : stp (.lsub) 1 (pc, ls, st, M) = some (ps, z')) (hp : allP ps) (hok : okS L xs (pc, ls, st, M))  (k : pmAt p l e R s m args below meth c Q D g b0 b y n0 q0 z') : pmAt p l e R s m args below meth c Q D g b0 b y n0 q0 (pc, ls, st, M) := by
  obtain ⟨y1, x1, r, rfl, rfl, rfl⟩ := si_lsub hs
  obtain ⟨hx, hb, -⟩ := hC
  intro H locs rl h1 h2 h3
  exact lv_lsub hx hb hd (k H locs rl h1 h2 h3)
theorem sm_land  (hC : pmCx p l R s m args meth c D g b0 b L xs y n0 q0 Nc Ns) (hd : decode (mB y) pc = .ok (.land, 1)) (hs : stp (.land) 1 (pc, ls, st, M) = some (ps, z')) (hp : allP ps) (hok : okS L xs (pc, ls, st, M))  (k : pmAt p l e R s m args below meth c Q D g b0 b y n0 q0 z') : pmAt p l e R s m args below meth c Q D g b0 b y n0 q0 (pc, ls, st, M) := by
  obtain ⟨y1, x1, r, rfl, rfl, rfl⟩ := si_land hs
  obtain ⟨hx, hb, -⟩ := hC
  intro H locs rl h1 h2 h3
  exact lv_land hx hb hd (k H locs rl h1 h2 h3)
theorem sm_lor  (hC : pmCx p l R s m args meth c D g b0 b L xs y n0 q0 Nc Ns) (hd : decode (mB y) pc = .ok (.lor, 1)) (hs : stp (.lor) 1 (pc, ls, st, M) = some (ps, z')) (hp : allP ps) (hok : okS L xs (pc, ls, st, M))  (k : pmAt p l e R s m args below meth c Q D g b0 b y n0 q0 z') : pmAt p l e R s m args below meth c Q D g b0 b y n0 q0 (pc, ls, st, M) := by
  obtain ⟨y1, x1, r, rfl, rfl, rfl⟩ := si_lor hs
  obtain ⟨hx, hb, -⟩ := hC
  intro H locs rl h1 h2 h3
  exact lv_lor hx hb hd (k H locs rl h1 h2 h3)
theorem sm_lxor  (hC : pmCx p l R s m args meth c D g b0 b L xs y n0 q0 Nc Ns) (hd : decode (mB y) pc = .ok (.lxor, 1)) (hs : stp (.lxor) 1 (pc, ls, st, M) = some (ps, z')) (hp : allP ps) (hok : okS L xs (pc, ls, st, M))  (k : pmAt p l e R s m args below meth c Q D g b0 b y n0 q0 z') : pmAt p l e R s m args below meth c Q D g b0 b y n0 q0 (pc, ls, st, M) := by
  obtain ⟨y1, x1, r, rfl, rfl, rfl⟩ := si_lxor hs
  obtain ⟨hx, hb, -⟩ := hC
  intro H locs rl h1 h2 h3
  exact lv_lxor hx hb hd (k H locs rl h1 h2 h3)
theorem sm_lushr  (hC : pmCx p l R s m args meth c D g b0 b L xs y n0 q0 Nc Ns) (hd : decode (mB y) pc = .ok (.lushr, 1)) (hs : stp (.lushr) 1 (pc, ls, st, M) = some (ps, z')) (hp : allP ps) (hok : okS L xs (pc, ls, st, M))  (k : pmAt p l e R s m args below meth c Q D g b0 b y n0 q0 z') : pmAt p l e R s m args below meth c Q D g b0 b y n0 q0 (pc, ls, st, M) := by
  obtain ⟨y1, x1, r, rfl, rfl, rfl⟩ := si_lushr hs
  obtain ⟨hx, hb, -⟩ := hC
  intro H locs rl h1 h2 h3
  exact lv_lushr hx hb hd (by rw [(sh_mask hp).2]; rfl) (k H locs rl h1 h2 h3)
theorem sm_lshl  (hC : pmCx p l R s m args meth c D g b0 b L xs y n0 q0 Nc Ns) (hd : decode (mB y) pc = .ok (.lshl, 1)) (hs : stp (.lshl) 1 (pc, ls, st, M) = some (ps, z')) (hp : allP ps) (hok : okS L xs (pc, ls, st, M))  (k : pmAt p l e R s m args below meth c Q D g b0 b y n0 q0 z') : pmAt p l e R s m args below meth c Q D g b0 b y n0 q0 (pc, ls, st, M) := by
  obtain ⟨y1, x1, r, rfl, rfl, rfl⟩ := si_lshl hs
  obtain ⟨hx, hb, -⟩ := hC
  intro H locs rl h1 h2 h3
  exact lv_lshl hx hb hd (by rw [(sh_mask hp).1]; rfl) (k H locs rl h1 h2 h3)
theorem sm_lshr  (hC : pmCx p l R s m args meth c D g b0 b L xs y n0 q0 Nc Ns) (hd : decode (mB y) pc = .ok (.lshr, 1)) (hs : stp (.lshr) 1 (pc, ls, st, M) = some (ps, z')) (hp : allP ps) (hok : okS L xs (pc, ls, st, M))  (k : pmAt p l e R s m args below meth c Q D g b0 b y n0 q0 z') : pmAt p l e R s m args below meth c Q D g b0 b y n0 q0 (pc, ls, st, M) := by
  obtain ⟨y1, x1, r, rfl, rfl, rfl⟩ := si_lshr hs
  obtain ⟨hx, hb, -⟩ := hC
  intro H locs rl h1 h2 h3
  exact lv_lshr hx hb hd (by rw [(sh_mask hp).1]; rfl) (k H locs rl h1 h2 h3)
theorem sm_lcmp  (hC : pmCx p l R s m args meth c D g b0 b L xs y n0 q0 Nc Ns) (hd : decode (mB y) pc = .ok (.lcmp, 1)) (hs : stp (.lcmp) 1 (pc, ls, st, M) = some (ps, z')) (hp : allP ps) (hok : okS L xs (pc, ls, st, M))  (k : pmAt p l e R s m args below meth c Q D g b0 b y n0 q0 z') : pmAt p l e R s m args below meth c Q D g b0 b y n0 q0 (pc, ls, st, M) := by
  obtain ⟨y1, x1, r, rfl, rfl, rfl⟩ := si_lcmp hs
  obtain ⟨hx, hb, -⟩ := hC
  intro H locs rl h1 h2 h3
  refine W.lcmp hx hb hd ?_
  rw [lcm_of]
  exact k H locs rl h1 h2 h3
theorem sm_dup  (hC : pmCx p l R s m args meth c D g b0 b L xs y n0 q0 Nc Ns) (hd : decode (mB y) pc = .ok (.dup, 1)) (hs : stp (.dup) 1 (pc, ls, st, M) = some (ps, z')) (hp : allP ps) (hok : okS L xs (pc, ls, st, M))  (k : pmAt p l e R s m args below meth c Q D g b0 b y n0 q0 z') : pmAt p l e R s m args below meth c Q D g b0 b y n0 q0 (pc, ls, st, M) := by
  obtain ⟨v, r, rfl, hv, rfl, rfl⟩ := si_dup hs
  obtain ⟨hx, hb, -⟩ := hC
  intro H locs rl h1 h2 h3
  exact lv_dup hx hb hd (cv_cat hv) (k H locs rl h1 h2 h3)
theorem sm_dup2  (hC : pmCx p l R s m args meth c D g b0 b L xs y n0 q0 Nc Ns) (hd : decode (mB y) pc = .ok (.dup2, 1)) (hs : stp (.dup2) 1 (pc, ls, st, M) = some (ps, z')) (hp : allP ps) (hok : okS L xs (pc, ls, st, M))  (k : pmAt p l e R s m args below meth c Q D g b0 b y n0 q0 z') : pmAt p l e R s m args below meth c Q D g b0 b y n0 q0 (pc, ls, st, M) := by
  obtain ⟨x1, v, r, rfl, rfl, rfl⟩ := si_dup2 hs
  obtain ⟨hx, hb, -⟩ := hC
  intro H locs rl h1 h2 h3
  exact lv_dup2_11 hx hb hd rfl (cv_cat (fun _ q => by cases q)) (k H locs rl h1 h2 h3)
theorem sm_pop  (hC : pmCx p l R s m args meth c D g b0 b L xs y n0 q0 Nc Ns) (hd : decode (mB y) pc = .ok (.pop, 1)) (hs : stp (.pop) 1 (pc, ls, st, M) = some (ps, z')) (hp : allP ps) (hok : okS L xs (pc, ls, st, M))  (k : pmAt p l e R s m args below meth c Q D g b0 b y n0 q0 z') : pmAt p l e R s m args below meth c Q D g b0 b y n0 q0 (pc, ls, st, M) := by
  obtain ⟨x1, r, rfl, rfl, rfl⟩ := si_pop hs
  obtain ⟨hx, hb, -⟩ := hC
  intro H locs rl h1 h2 h3
  exact lv_pop hx hb hd rfl (k H locs rl h1 h2 h3)
theorem sm_pop2  (hC : pmCx p l R s m args meth c D g b0 b L xs y n0 q0 Nc Ns) (hd : decode (mB y) pc = .ok (.pop2, 1)) (hs : stp (.pop2) 1 (pc, ls, st, M) = some (ps, z')) (hp : allP ps) (hok : okS L xs (pc, ls, st, M))  (k : pmAt p l e R s m args below meth c Q D g b0 b y n0 q0 z') : pmAt p l e R s m args below meth c Q D g b0 b y n0 q0 (pc, ls, st, M) := by
  obtain ⟨x1, r, rfl, rfl, rfl⟩ := si_pop2 hs
  obtain ⟨hx, hb, -⟩ := hC
  intro H locs rl h1 h2 h3
  exact lv_pop2_2 hx hb hd rfl (k H locs rl h1 h2 h3)
theorem sm_goto {o : Int} (ho : 0 ≤ (pc : Int) + o) (hC : pmCx p l R s m args meth c D g b0 b L xs y n0 q0 Nc Ns) (hd : decode (mB y) pc = .ok (.goto o, 3)) (hs : stp (.goto (pc + o)) 3 (pc, ls, st, M) = some (ps, z')) (hp : allP ps) (hok : okS L xs (pc, ls, st, M))  (k : pmAt p l e R s m args below meth c Q D g b0 b y n0 q0 z') : pmAt p l e R s m args below meth c Q D g b0 b y n0 q0 (pc, ls, st, M) := by
  obtain ⟨rfl, rfl⟩ := si_goto hs
  obtain ⟨hx, hb, -⟩ := hC
  intro H locs rl h1 h2 h3
  exact lv_goto hx hb hd (by omega) (k H locs rl h1 h2 h3)
theorem sm_ifCond {cd : Jvm.ClassFile.Cond} {o : Int} (ho : 0 ≤ (pc : Int) + o) (hC : pmCx p l R s m args meth c D g b0 b L xs y n0 q0 Nc Ns) (hd : decode (mB y) pc = .ok (.ifCond cd o, 3)) (hs : stp (.ifCond cd (pc + o)) 3 (pc, ls, st, M) = some (ps, z')) (hp : allP ps) (hok : okS L xs (pc, ls, st, M))  (k : pmAt p l e R s m args below meth c Q D g b0 b y n0 q0 z') : pmAt p l e R s m args below meth c Q D g b0 b y n0 q0 (pc, ls, st, M) := by
  obtain ⟨x1, r, rfl, rfl, rfl⟩ := si_ifCond hs
  obtain ⟨hx, hb, -⟩ := hC
  have hst := hok.2.1
  simp only [List.forall_mem_cons] at hst
  intro H locs rl h1 h2 h3
  have k1 := k H locs rl h1 h2 h3
  have e1 : inR x1 := hst.1
  have e2 : inR 0 := inR_0
  have ht : (pc : Int) + o = (((pc : Int) + o).toNat : Int) := by omega
  cases cd
  · refine lv_if_eq hx hb (tgt := ((pc : Int) + o).toNat) hd ht (fun q1 => ?_) (fun q1 => ?_)
    · have a : (x1 = 0) := (i32_eq e1 e2).mp q1
      have k2 := k1
      simp only [brc] at k2
      rw [if_pos a] at k2
      exact k2
    · have a : ¬ (x1 = 0) := fun q => q1 ((i32_eq e1 e2).mpr q)
      have k2 := k1
      simp only [brc] at k2
      rw [if_neg a] at k2
      exact k2
  · refine lv_if_ne hx hb (tgt := ((pc : Int) + o).toNat) hd ht (fun q1 => ?_) (fun q1 => ?_)
    · have a : ¬ (x1 = 0) := fun q => q1 ((i32_eq e1 e2).mpr q)
      have k2 := k1
      simp only [brc] at k2
      rw [if_neg a] at k2
      exact k2
    · have a : (x1 = 0) := (i32_eq e1 e2).mp q1
      have k2 := k1
      simp only [brc] at k2
      rw [if_pos a] at k2
      exact k2
  · refine lv_if_lt hx hb (tgt := ((pc : Int) + o).toNat) hd ht (fun q1 => ?_) (fun q1 => ?_)
    · have a : (x1 < 0) := (i32_lt e1 e2).mp q1
      have k2 := k1
      simp only [brc] at k2
      rw [if_pos a] at k2
      exact k2
    · have a : ¬ (x1 < 0) := fun q => q1 ((i32_lt e1 e2).mpr q)
      have k2 := k1
      simp only [brc] at k2
      rw [if_neg a] at k2
      exact k2
  · refine lv_if_ge hx hb (tgt := ((pc : Int) + o).toNat) hd ht (fun q1 => ?_) (fun q1 => ?_)
    · have a : ¬ (x1 < 0) := Int.not_lt.mpr ((i32_le e2 e1).mp q1)
      have k2 := k1
      simp only [brc] at k2
      rw [if_neg a] at k2
      exact k2
    · have a : (x1 < 0) := Int.not_le.mp (fun q => q1 ((i32_le e2 e1).mpr q))
      have k2 := k1
      simp only [brc] at k2
      rw [if_pos a] at k2
      exact k2
  · refine lv_if_gt hx hb (tgt := ((pc : Int) + o).toNat) hd ht (fun q1 => ?_) (fun q1 => ?_)
    · have a : (0 < x1) := (i32_lt e2 e1).mp q1
      have k2 := k1
      simp only [brc] at k2
      rw [if_pos a] at k2
      exact k2
    · have a : ¬ (0 < x1) := fun q => q1 ((i32_lt e2 e1).mpr q)
      have k2 := k1
      simp only [brc] at k2
      rw [if_neg a] at k2
      exact k2
  · refine lv_if_le hx hb (tgt := ((pc : Int) + o).toNat) hd ht (fun q1 => ?_) (fun q1 => ?_)
    · have a : ¬ (0 < x1) := Int.not_lt.mpr ((i32_le e1 e2).mp q1)
      have k2 := k1
      simp only [brc] at k2
      rw [if_neg a] at k2
      exact k2
    · have a : (0 < x1) := Int.not_le.mp (fun q => q1 ((i32_le e1 e2).mpr q))
      have k2 := k1
      simp only [brc] at k2
      rw [if_pos a] at k2
      exact k2
theorem sm_if_icmp {cd : Jvm.ClassFile.Cond} {o : Int} (ho : 0 ≤ (pc : Int) + o) (hC : pmCx p l R s m args meth c D g b0 b L xs y n0 q0 Nc Ns) (hd : decode (mB y) pc = .ok (.if_icmp cd o, 3)) (hs : stp (.if_icmp cd (pc + o)) 3 (pc, ls, st, M) = some (ps, z')) (hp : allP ps) (hok : okS L xs (pc, ls, st, M))  (k : pmAt p l e R s m args below meth c Q D g b0 b y n0 q0 z') : pmAt p l e R s m args below meth c Q D g b0 b y n0 q0 (pc, ls, st, M) := by
  obtain ⟨y1, x1, r, rfl, rfl, rfl⟩ := si_if_icmp hs
  obtain ⟨hx, hb, -⟩ := hC
  have hst := hok.2.1
  simp only [List.forall_mem_cons] at hst
  intro H locs rl h1 h2 h3
  have k1 := k H locs rl h1 h2 h3
  have hy := hst.1
  have hxx := hst.2.1
  have e1 : inR x1 := hxx
  have e2 : inR y1 := hy
  have ht : (pc : Int) + o = (((pc : Int) + o).toNat : Int) := by omega
  cases cd
  · refine lv_icmp_eq hx hb (tgt := ((pc : Int) + o).toNat) hd ht (fun q1 => ?_) (fun q1 => ?_)
    · have a : (x1 = y1) := (i32_eq e1 e2).mp q1
      have k2 := k1
      simp only [brc] at k2
      rw [if_pos a] at k2
      exact k2
    · have a : ¬ (x1 = y1) := fun q => q1 ((i32_eq e1 e2).mpr q)
      have k2 := k1
      simp only [brc] at k2
      rw [if_neg a] at k2
      exact k2
  · refine lv_icmp_ne hx hb (tgt := ((pc : Int) + o).toNat) hd ht (fun q1 => ?_) (fun q1 => ?_)
    · have a : ¬ (x1 = y1) := fun q => q1 ((i32_eq e1 e2).mpr q)
      have k2 := k1
      simp only [brc] at k2
      rw [if_neg a] at k2
      exact k2
    · have a : (x1 = y1) := (i32_eq e1 e2).mp q1
      have k2 := k1
      simp only [brc] at k2
      rw [if_pos a] at k2
      exact k2
  · refine lv_icmp_lt hx hb (tgt := ((pc : Int) + o).toNat) hd ht (fun q1 => ?_) (fun q1 => ?_)
    · have a : (x1 < y1) := (i32_lt e1 e2).mp q1
      have k2 := k1
      simp only [brc] at k2
      rw [if_pos a] at k2
      exact k2
    · have a : ¬ (x1 < y1) := fun q => q1 ((i32_lt e1 e2).mpr q)
      have k2 := k1
      simp only [brc] at k2
      rw [if_neg a] at k2
      exact k2
  · refine lv_icmp_ge hx hb (tgt := ((pc : Int) + o).toNat) hd ht (fun q1 => ?_) (fun q1 => ?_)
    · have a : ¬ (x1 < y1) := Int.not_lt.mpr ((i32_le e2 e1).mp q1)
      have k2 := k1
      simp only [brc] at k2
      rw [if_neg a] at k2
      exact k2
    · have a : (x1 < y1) := Int.not_le.mp (fun q => q1 ((i32_le e2 e1).mpr q))
      have k2 := k1
      simp only [brc] at k2
      rw [if_pos a] at k2
      exact k2
  · refine lv_icmp_gt hx hb (tgt := ((pc : Int) + o).toNat) hd ht (fun q1 => ?_) (fun q1 => ?_)
    · have a : (y1 < x1) := (i32_lt e2 e1).mp q1
      have k2 := k1
      simp only [brc] at k2
      rw [if_pos a] at k2
      exact k2
    · have a : ¬ (y1 < x1) := fun q => q1 ((i32_lt e2 e1).mpr q)
      have k2 := k1
      simp only [brc] at k2
      rw [if_neg a] at k2
      exact k2
  · refine lv_icmp_le hx hb (tgt := ((pc : Int) + o).toNat) hd ht (fun q1 => ?_) (fun q1 => ?_)
    · have a : ¬ (y1 < x1) := Int.not_lt.mpr ((i32_le e1 e2).mp q1)
      have k2 := k1
      simp only [brc] at k2
      rw [if_neg a] at k2
      exact k2
    · have a : (y1 < x1) := Int.not_le.mp (fun q => q1 ((i32_le e1 e2).mpr q))
      have k2 := k1
      simp only [brc] at k2
      rw [if_pos a] at k2
      exact k2
theorem sm_tsw {d lo hi : Int} {offs : Array Int} (hd0 : 0 ≤ (pc : Int) + d) (hall : offs.toList.all (fun o => decide (0 ≤ (pc : Int) + o)) = true) (hsz : (offs.size : Int) = hi - lo + 1) (hC : pmCx p l R s m args meth c D g b0 b L xs y n0 q0 Nc Ns) (hd : decode (mB y) pc = .ok (.tableswitch d lo hi offs, len)) (hs : stp (.tableswitch (pc + d) lo hi (offs.map (fun o => pc + o))) len (pc, ls, st, M) = some (ps, z')) (hp : allP ps) (hok : okS L xs (pc, ls, st, M))  (k : pmAt p l e R s m args below meth c Q D g b0 b y n0 q0 z') : pmAt p l e R s m args below meth c Q D g b0 b y n0 q0 (pc, ls, st, M) := by
  obtain ⟨x1, r, rfl, rfl, rfl⟩ := si_tableswitch hs
  obtain ⟨hx, hb, -⟩ := hC
  have hst := hok.2.1
  simp only [List.forall_mem_cons] at hst
  intro H locs rl h1 h2 h3
  have k1 := k H locs rl h1 h2 h3
  have e1 : (Int32.ofInt x1).toInt = x1 := i32_toInt hst.1
  by_cases hin : lo ≤ x1 ∧ x1 ≤ hi
  · have hlt : (x1 - lo).toNat < offs.size := by omega
    have hg : offs[(x1 - lo).toNat]? = some offs[(x1 - lo).toNat] := Array.getElem?_eq_getElem hlt
    have hpos : 0 ≤ (pc : Int) + offs[(x1 - lo).toNat] := by
      have := List.all_eq_true.mp hall offs[(x1 - lo).toNat] (Array.mem_toList_iff.mpr (Array.getElem_mem hlt))
      simpa using this
    refine lv_tableIn hx hb (tgt := ((pc : Int) + offs[(x1 - lo).toNat]).toNat) hd (by rw [e1]; omega) (by rw [e1]; omega) (by rw [e1]; exact hg) (by omega) ?_
    have k2 := k1
    simp only [tsw] at k2
    rw [if_pos hin] at k2
    have e3 : (offs.map (fun o => (pc : Int) + o)).toList.getD (x1 - lo).toNat (pc + d) = (pc : Int) + offs[(x1 - lo).toNat] := by
      simp [List.getD, hlt]
    rw [e3] at k2
    exact k2
  · refine lv_tableOut hx hb (tgt := ((pc : Int) + d).toNat) hd (by rw [e1]; omega) (by omega) ?_
    have k2 := k1
    simp only [tsw] at k2
    rw [if_neg hin] at k2
    exact k2
theorem sm_iaload  (hC : pmCx p l R s m args meth c D g b0 b L xs y n0 q0 Nc Ns) (hd : decode (mB y) pc = .ok (.iaload, 1)) (hs : stp (.iaload) 1 (pc, ls, st, M) = some (ps, z')) (hp : allP ps) (hok : okS L xs (pc, ls, st, M))  (k : pmAt p l e R s m args below meth c Q D g b0 b y n0 q0 z') : pmAt p l e R s m args below meth c Q D g b0 b y n0 q0 (pc, ls, st, M) := by
  obtain ⟨i, a, r, rfl, hcnd, rfl, rfl⟩ := si_iaload hs
  obtain ⟨hx, hb, -, -, -, hK, -⟩ := hC
  have hst := hok.2.1
  simp only [List.forall_mem_cons] at hst
  intro H locs rl h1 h2 h3
  obtain ⟨ha, hk⟩ := and2 hcnd
  have hi : inR i := hst.1
  have hw := wl_get (g := g) (b0 := b0) (blt_lt ha)
  rw [cell_0 (beq_of hk)] at hw
  have k1 := k H locs rl h1 h2 h3
  simp only [List.map_cons, cv_ref (ne_scr hok.2.2 (blt_lt ha))]
  refine va_iald hx hb hK h1 a 0 hw rfl (i32_in hi hp) hd ?_
  rw [i32_clamp hi]
  exact k1
theorem sm_baload  (hC : pmCx p l R s m args meth c D g b0 b L xs y n0 q0 Nc Ns) (hd : decode (mB y) pc = .ok (.baload, 1)) (hs : stp (.baload) 1 (pc, ls, st, M) = some (ps, z')) (hp : allP ps) (hok : okS L xs (pc, ls, st, M))  (k : pmAt p l e R s m args below meth c Q D g b0 b y n0 q0 z') : pmAt p l e R s m args below meth c Q D g b0 b y n0 q0 (pc, ls, st, M) := by
  obtain ⟨i, a, r, rfl, hcnd, rfl, rfl⟩ := si_baload hs
  obtain ⟨hx, hb, -, -, -, hK, -⟩ := hC
  have hst := hok.2.1
  simp only [List.forall_mem_cons] at hst
  intro H locs rl h1 h2 h3
  obtain ⟨ha, hk⟩ := and2 hcnd
  have hi : inR i := hst.1
  have hw := wl_get (g := g) (b0 := b0) (blt_lt ha)
  rw [cell_2 (beq_of hk)] at hw
  have k1 := k H locs rl h1 h2 h3
  simp only [List.map_cons, cv_ref (ne_scr hok.2.2 (blt_lt ha))]
  refine va_zald hx hb hK h1 a 2 hw rfl (i32_in hi hp) hd ?_
  rw [i32_clamp hi]
  exact k1
theorem sm_laload  (hC : pmCx p l R s m args meth c D g b0 b L xs y n0 q0 Nc Ns) (hd : decode (mB y) pc = .ok (.laload, 1)) (hs : stp (.laload) 1 (pc, ls, st, M) = some (ps, z')) (hp : allP ps) (hok : okS L xs (pc, ls, st, M))  (k : pmAt p l e R s m args below meth c Q D g b0 b y n0 q0 z') : pmAt p l e R s m args below meth c Q D g b0 b y n0 q0 (pc, ls, st, M) := by
  obtain ⟨i, a, r, rfl, hcnd, rfl, rfl⟩ := si_laload hs
  obtain ⟨hx, hb, -, -, -, hK, -⟩ := hC
  have hst := hok.2.1
  simp only [List.forall_mem_cons] at hst
  intro H locs rl h1 h2 h3
  obtain ⟨ha, hk⟩ := and2 hcnd
  have hi : inR i := hst.1
  have hw := wl_get (g := g) (b0 := b0) (blt_lt ha)
  rw [cell_1 (beq_of hk)] at hw
  have k1 := k H locs rl h1 h2 h3
  simp only [List.map_cons, cv_ref (ne_scr hok.2.2 (blt_lt ha))]
  refine va_lald hx hb hK h1 a 1 hw rfl (i32_in hi hp) hd ?_
  rw [i32_clamp hi]
  exact k1
theorem sm_iastore  (hC : pmCx p l R s m args meth c D g b0 b L xs y n0 q0 Nc Ns) (hd : decode (mB y) pc = .ok (.iastore, 1)) (hs : stp (.iastore) 1 (pc, ls, st, M) = some (ps, z')) (hp : allP ps) (hok : okS L xs (pc, ls, st, M))  (k : pmAt p l e R s m args below meth c Q D g b0 b y n0 q0 z') : pmAt p l e R s m args below meth c Q D g b0 b y n0 q0 (pc, ls, st, M) := by
  obtain ⟨z, i, a, r, rfl, hcnd, rfl, rfl⟩ := si_iastore hs
  obtain ⟨hx, hb, -, -, -, hK, -⟩ := hC
  have hst := hok.2.1
  simp only [List.forall_mem_cons] at hst
  intro H locs rl h1 h2 h3
  obtain ⟨ha, hk⟩ := and2 hcnd
  have hi : inR i := hst.2.1
  have hw := wl_get (g := g) (b0 := b0) (blt_lt ha)
  rw [cell_0 (beq_of hk)] at hw
  simp only [List.map_cons, cv_ref (ne_scr hok.2.2 (blt_lt ha))]
  refine va_iast hx hb hK h1 (wl_D g b0 M) h2 a 0 hw rfl (i32_in hi hp) hd (fun H' locs' p1 _ p3 => ?_)
  rw [i32_clamp hi] at p1
  rw [wl_set (M := M) (M' := (M.1, M.2.1, M.2.2.1, ma M.2.2.2.1 a (ma (M.2.2.2.1 a) i.toNat z), M.2.2.2.2)) rfl (by rw [cell_0 (by exact beq_of hk)]; simp only [ma_self]; exact congrArg _ (congrArg _ (congrArg _ (congrArg Sum.inl (upd_ma _ _ _))))) (fun j hj => cell_othI hj)] at p1
  exact k H' locs' rl p1 p3 h3
theorem sm_bastore  (hC : pmCx p l R s m args meth c D g b0 b L xs y n0 q0 Nc Ns) (hd : decode (mB y) pc = .ok (.bastore, 1)) (hs : stp (.bastore) 1 (pc, ls, st, M) = some (ps, z')) (hp : allP ps) (hok : okS L xs (pc, ls, st, M))  (k : pmAt p l e R s m args below meth c Q D g b0 b y n0 q0 z') : pmAt p l e R s m args below meth c Q D g b0 b y n0 q0 (pc, ls, st, M) := by
  obtain ⟨z, i, a, r, rfl, hcnd, rfl, rfl⟩ := si_bastore hs
  obtain ⟨hx, hb, -, -, -, hK, -⟩ := hC
  have hst := hok.2.1
  simp only [List.forall_mem_cons] at hst
  intro H locs rl h1 h2 h3
  obtain ⟨ha, hk⟩ := and2 hcnd
  have hi : inR i := hst.2.1
  have hw := wl_get (g := g) (b0 := b0) (blt_lt ha)
  rw [cell_2 (beq_of hk)] at hw
  simp only [List.map_cons, cv_ref (ne_scr hok.2.2 (blt_lt ha))]
  refine va_zast hx hb hK h1 (wl_D g b0 M) h2 a 2 hw rfl (i32_in hi hp.1) hd (fun H' locs' p1 _ p3 => ?_)
  rw [i32_clamp hi] at p1
  rw [nar_z hp.2] at p1
  rw [wl_set (M := M) (M' := (M.1, M.2.1, M.2.2.1, ma M.2.2.2.1 a (ma (M.2.2.2.1 a) i.toNat z), M.2.2.2.2)) rfl (by rw [cell_2 (by exact beq_of hk)]; simp only [ma_self]; exact congrArg _ (congrArg _ (congrArg _ (congrArg Sum.inl (upd_ma _ _ _))))) (fun j hj => cell_othI hj)] at p1
  exact k H' locs' rl p1 p3 h3
theorem sm_lastore  (hC : pmCx p l R s m args meth c D g b0 b L xs y n0 q0 Nc Ns) (hd : decode (mB y) pc = .ok (.lastore, 1)) (hs : stp (.lastore) 1 (pc, ls, st, M) = some (ps, z')) (hp : allP ps) (hok : okS L xs (pc, ls, st, M))  (k : pmAt p l e R s m args below meth c Q D g b0 b y n0 q0 z') : pmAt p l e R s m args below meth c Q D g b0 b y n0 q0 (pc, ls, st, M) := by
  obtain ⟨z, i, a, r, rfl, hcnd, rfl, rfl⟩ := si_lastore hs
  obtain ⟨hx, hb, -, -, -, hK, -⟩ := hC
  have hst := hok.2.1
  simp only [List.forall_mem_cons] at hst
  intro H locs rl h1 h2 h3
  obtain ⟨ha, hk⟩ := and2 hcnd
  have hi : inR i := hst.2.1
  have hw := wl_get (g := g) (b0 := b0) (blt_lt ha)
  rw [cell_1 (beq_of hk)] at hw
  simp only [List.map_cons, cv_ref (ne_scr hok.2.2 (blt_lt ha))]
  refine va_last hx hb hK h1 (wl_D g b0 M) h2 a 1 hw rfl (i32_in hi hp) hd (fun H' locs' p1 _ p3 => ?_)
  rw [i32_clamp hi] at p1
  rw [wl_set (M := M) (M' := (M.1, M.2.1, M.2.2.1, M.2.2.2.1, ma M.2.2.2.2 a (ma (M.2.2.2.2 a) i.toNat z))) rfl (by rw [cell_1 (by exact beq_of hk)]; simp only [ma_self]; exact congrArg _ (congrArg _ (congrArg _ (congrArg _ (congrArg Sum.inl (updL_ma _ _ _)))))) (fun j hj => cell_othL hj)] at p1
  exact k H' locs' rl p1 p3 h3
theorem fld_big {y i : Nat} {t : Nat × Nat × Nat} (h : fldQ (mO y) i = some t) : t.1 < 11 ∧ t.2.1 < nF t.1 ∧ t.2.1 < 1000 ∧ Cond.fieldLink (nmO (mO y)) i (nmO t.1) (fW t.1 t.2.1).2.1 (fW t.1 t.2.1).2.2.1 ∈ bigW := by
  obtain ⟨h1, h2, h3, h4⟩ := tb_fld _ (find2 h)
  exact ⟨h3, h2, h4, big_at h1 (gw_ok _ (by first | rfl | simp [Cond.onTables, Cond.keeps, Cond.steady]))⟩
theorem lay_big {ci : Nat} (h : ci < 11) : ∀ w ∈ u_ws (nmO ci) (fW ci) (nF ci), w ∈ bigW := by
  intro w hw
  obtain ⟨k, hk, rfl⟩ := List.mem_map.mp hw
  refine big_at (tb_lay ci h k (List.mem_range.mp hk)) ?_
  unfold u_lay
  split <;> exact gw_ok _ (by first | rfl | simp [Cond.onTables, Cond.keeps, Cond.steady])
theorem pmF_cv {b0 b L : Nat} {xs : Nat → Int32} {M : M5} {a ci k : Nat} {v : AV} (hS : (M.2.1 a).1 = ci + 3) (hv : pmF M a k = some v) (hok : okM L xs M) : cv b0 b v = fv b0 M a ci k := by
  unfold pmF at hv
  unfold fv
  rw [hS, Nat.add_sub_cancel] at hv
  cases hb : Nat.beq (fK ci k) 2 with
  | false =>
    rw [hb] at hv
    cases hv
    rfl
  | true =>
    rw [hb] at hv
    cases hr : M.2.2.1 a k with
    | none =>
      rw [hr] at hv
      cases hv
      rfl
    | some j =>
      rw [hr] at hv
      cases hv
      have hj := hok.2.2.1 a k j hr
      exact cv_ref (ne_scr hok hj)
theorem fK0 {c k : Nat} (h : fK c k = 0) : fTy c k = .int := by
  unfold fK at h
  split at h <;> first | assumption | cases h
theorem fK1 {c k : Nat} (h : fK c k = 1) : fTy c k = .boolean := by
  unfold fK at h
  split at h <;> first | assumption | cases h
theorem fK2 {c k : Nat} (h : fK c k = 2) (v : Value) (hv : (∃ j, v = .ref j) ∨ v = .null) : narrow (fTy c k) v = v ∧ fits (fTy c k) v = true := by
  unfold fK at h
  split at h
  · cases h
  · cases h
  · rename_i n hn
    rw [hn]
    rcases hv with ⟨j, rfl⟩ | rfl <;> exact ⟨rfl, rfl⟩
  · rename_i n hn
    rw [hn]
    rcases hv with ⟨j, rfl⟩ | rfl <;> exact ⟨rfl, rfl⟩
  · cases h
theorem fset {n k : Nat} {f f' : Nat → Value} {v : Value} (hk : k < n) (h1 : f' k = v) (h2 : ∀ j, j ≠ k → f' j = f j) : (List.range n).map f' = ((List.range n).map f).set k v := by
  apply List.ext_getElem?
  intro j
  rw [List.getElem?_set]
  by_cases e : k = j
  · subst e
    rw [if_pos rfl]
    simp [hk, h1]
  · rw [if_neg e]
    by_cases hj : j < n
    · simp [hj, h2 j (fun q => e q.symm)]
    · simp [hj]
theorem i32_nat (n : Nat) : Int32.ofNat n = Int32.ofInt (n : Int) := by first | rfl | simp
theorem tb_fk : ∀ ci, ci < 11 → ∀ k, k < nF ci → fK ci k < 3 := by decide +kernel
theorem tb_nat : nativeFrameWords "java/lang/System" "arraycopy" 5 + 11 ≤ 26 := by decide +kernel
theorem fz {z : Int} (h : 0 ≤ z ∧ z ≤ 1) : narrow .boolean (.int (Int32.ofInt z)) = .int (Int32.ofInt z) ∧ fits .boolean (.int (Int32.ofInt z)) = true := by
  obtain ⟨h1, h2⟩ := h
  have : z = 0 ∨ z = 1 := by omega
  rcases this with rfl | rfl <;> exact ⟨rfl, rfl⟩
theorem cvs_cat {b0 b : Nat} : ∀ (st : List AV), ((st.map (cv b0 b)).map fun v => v.category).sum = catS st
  | [] => rfl
  | .inr (.inl z) :: r => by
    have := cvs_cat (b0 := b0) (b := b) r
    simp only [List.map_cons, List.sum_cons, this, catS]
    rfl
  | .inl z :: r => by
    have := cvs_cat (b0 := b0) (b := b) r
    simp only [List.map_cons, List.sum_cons, this, catS]
    rfl
  | .inr (.inr z) :: r => by
    have := cvs_cat (b0 := b0) (b := b) r
    have hc : (cv b0 b (.inr (.inr z))).category = 1 := cv_cat (fun _ q => by cases q)
    simp only [List.map_cons, List.sum_cons, this, catS, hc]
theorem W_size {g0 : JFrame} {H : Heap} {locs : List Loc} {cells slots : Nat} (k : H.size ≤ s.heap.size + cells → W p l e R s m args below meth c H locs cells slots Q g0) : W p l e R s m args below meth c H locs cells slots Q g0 := by
  intro T hT X
  refine k ?_ T hT X
  rw [← hT]
  exact X.same.2.2.1
theorem W_sz {g0 : JFrame} {H : Heap} {locs : List Loc} {slots : Nat} (hP : wld D g b0 M H) (hS : va_S (fun q => b0 ≤ q) s.heap H locs) (h0 : s.heap.size = b0 + n0) (hn : n0 ≤ M.1) (k : H.size = b0 + M.1 → W p l e R s m args below meth c H locs (M.1 - n0) slots Q g0) : W p l e R s m args below meth c H locs (M.1 - n0) slots Q g0 := by
  refine W_size (fun hle => k ?_)
  have h1 := hS.1
  by_cases hz : M.1 = 0
  · omega
  · have := (hP (M.1 - 1) _ (wl_get (by omega))).lt
    have : b0 + (M.1 - 1) < H.size := this
    omega
theorem S_new {H H1 : Heap} {locs : List Loc} {x : Nat} (h2 : va_S (fun q => b0 ≤ q) s.heap H locs) (hx : H.size = x) (z1 : H1.size = x + 1) (o1 : ∀ q, q < x → H1[q]? = H[q]?) : va_S (fun q => b0 ≤ q) s.heap H1 locs := by
  refine ⟨Nat.le_trans h2.1 (by omega), fun q g1 g2 => (o1 q ?_).trans (h2.2.1 q g1 g2), h2.2.2⟩
  have := h2.1
  omega
theorem sm_getfield {i : Nat} {t : Nat × Nat × Nat} (hq : fldQ (mO y) i = some t) (hC : pmCx p l R s m args meth c D g b0 b L xs y n0 q0 Nc Ns) (hd : decode (mB y) pc = .ok (.getfield i, 3)) (hs : stp (.getfield (t.1 * 1000 + t.2.1)) 3 (pc, ls, st, M) = some (ps, z')) (hp : allP ps) (hok : okS L xs (pc, ls, st, M))  (k : pmAt p l e R s m args below meth c Q D g b0 b y n0 q0 z') : pmAt p l e R s m args below meth c Q D g b0 b y n0 q0 (pc, ls, st, M) := by
  obtain ⟨a, v, r, rfl, hcnd, hv, rfl, rfl⟩ := si_getfield hs
  obtain ⟨f1, f2, f3, f4⟩ := fld_big hq
  have eq1 : (t.1 * 1000 + t.2.1) / 1000 = t.1 := by omega
  have eq2 : (t.1 * 1000 + t.2.1) % 1000 = t.2.1 := by omega
  obtain ⟨hx, hb, -, hown, hts, hK, -⟩ := hC
  rw [eq1, eq2] at hcnd
  rw [eq2] at hv
  obtain ⟨hcnd, hn⟩ := and2 hcnd
  obtain ⟨ha, hk⟩ := and2 hcnd
  intro H locs rl h1 h2 h3
  have hw := wl_get (g := g) (b0 := b0) (blt_lt ha)
  rw [cell_3 (beq_of hk)] at hw
  have k1 := k H locs rl h1 h2 h3
  simp only [List.map_cons, cv_ref (ne_scr hok.2.2 (blt_lt ha))]
  refine va_get hx hb (C := nmO t.1) (T := fW t.1) (N := nF t.1) (ref := nmO t.1) hts (lay_big f1) hown hK h1 a hw (tb_cl _ f1) t.2.1 f2 (hts _ f4) (fun _ h9 => by rw [← tb_own _ f1 _ f2]; exact h9) (v := fv b0 M a t.1 t.2.1) (by simp [f2]) hd ?_
  rw [← pmF_cv (b := b) (beq_of hk) hv hok.2.2]
  exact k1
theorem sm_putfield {i : Nat} {t : Nat × Nat × Nat} (hq : fldQ (mO y) i = some t) (hfin : fFin t.1 t.2.1 = false) (hC : pmCx p l R s m args meth c D g b0 b L xs y n0 q0 Nc Ns) (hd : decode (mB y) pc = .ok (.putfield i, 3)) (hs : stp (.putfield (t.1 * 1000 + t.2.1)) 3 (pc, ls, st, M) = some (ps, z')) (hp : allP ps) (hok : okS L xs (pc, ls, st, M))  (k : pmAt p l e R s m args below meth c Q D g b0 b y n0 q0 z') : pmAt p l e R s m args below meth c Q D g b0 b y n0 q0 (pc, ls, st, M) := by
  obtain ⟨hx, hb, -, hown, hts, hK, -, -, hinit, -⟩ := hC
  obtain ⟨f1, f2, f3, f4⟩ := fld_big hq
  have eq1 : (t.1 * 1000 + t.2.1) / 1000 = t.1 := by omega
  have eq2 : (t.1 * 1000 + t.2.1) % 1000 = t.2.1 := by omega
  have hsm : ∀ x, s.fieldFound? (fW t.1 t.2.1).1 (fW t.1 t.2.1).2.1 (fW t.1 t.2.1).2.2.1 = some x → s.fieldFound? (nmO t.1) (fW t.1 t.2.1).2.1 (fW t.1 t.2.1).2.2.1 = some x := fun _ h9 => by rw [← tb_own _ f1 _ f2]; exact h9
  rcases si_putfield hs with ⟨z, a, r, rfl, hcnd, hty, rfl⟩ | ⟨j, a, r, rfl, hcnd, hty, hj, rfl, rfl⟩
  · rw [eq1, eq2] at hcnd hty
    rw [eq2] at k
    obtain ⟨hcnd, hn⟩ := and2 hcnd
    obtain ⟨ha, hk⟩ := and2 hcnd
    intro H locs rl h1 h2 h3
    have hw := wl_get (g := g) (b0 := b0) (blt_lt ha)
    rw [cell_3 (beq_of hk)] at hw
    simp only [List.map_cons, cv_ref (ne_scr hok.2.2 (blt_lt ha))]
    have hnf : narrow (fTy t.1 t.2.1) (.int (Int32.ofInt z)) = .int (Int32.ofInt z) ∧ fits (fTy t.1 t.2.1) (.int (Int32.ofInt z)) = true := by
      rcases hty with ⟨q, -⟩ | ⟨q, rfl⟩
      · rw [fK0 q]; exact ⟨rfl, rfl⟩
      · rw [fK1 q]; exact fz hp
    have hne : Nat.beq (fK t.1 t.2.1) 2 = false := by rcases hty with ⟨q, -⟩ | ⟨q, -⟩ <;> rw [q] <;> rfl
    refine va_put hx hb (C := nmO t.1) (T := fW t.1) (N := nF t.1) (ref := nmO t.1) hts (lay_big f1) (fTy t.1) (tb_ty _ f1) (tb_nm _ f1) hown hK h1 (wl_D g b0 M) h2 a hw (tb_cl _ f1) t.2.1 f2 (hts _ f4) hsm hfin (tb_ty _ f1 _ f2) hnf.1 hnf.2 (by simp [f2]) hd (fun H' locs' p1 _ p3 => ?_)
    rw [wl_set (M := M) (M' := (M.1, M.2.1, M.2.2.1, ma M.2.2.2.1 a (ma (M.2.2.2.1 a) t.2.1 z), M.2.2.2.2)) rfl (by rw [cell_3 (c := t.1) (by exact beq_of hk)]; exact congrArg _ (congrArg _ (fset f2 (by unfold fv; rw [hne]; simp only [ma_self]; rfl) (fun q hq2 => by unfold fv; simp only [ma_self, ma_ne _ _ hq2])))) (fun q hq2 => cell_othI hq2)] at p1
    exact k H' locs' rl p1 p3 h3
  · rw [eq1, eq2] at hcnd hty
    rw [eq2] at k
    obtain ⟨hcnd, hn⟩ := and2 hcnd
    obtain ⟨ha, hk⟩ := and2 hcnd
    intro H locs rl h1 h2 h3
    have hw := wl_get (g := g) (b0 := b0) (blt_lt ha)
    rw [cell_3 (beq_of hk)] at hw
    simp only [List.map_cons, cv_ref (ne_scr hok.2.2 (blt_lt ha)), cv_ref (ne_scr hok.2.2 (blt_lt hj))]
    have hnf := fK2 hty (.ref (b0 + j)) (Or.inl ⟨_, rfl⟩)
    refine va_put hx hb (C := nmO t.1) (T := fW t.1) (N := nF t.1) (ref := nmO t.1) hts (lay_big f1) (fTy t.1) (tb_ty _ f1) (tb_nm _ f1) hown hK h1 (wl_D g b0 M) h2 a hw (tb_cl _ f1) t.2.1 f2 (hts _ f4) hsm hfin (tb_ty _ f1 _ f2) hnf.1 hnf.2 (by simp [f2]) hd (fun H' locs' p1 _ p3 => ?_)
    rw [wl_set (M := M) (M' := (M.1, M.2.1, ma M.2.2.1 a (ma (M.2.2.1 a) t.2.1 (some j)), M.2.2.2.1, M.2.2.2.2)) rfl (by rw [cell_3 (c := t.1) (by exact beq_of hk)]; exact congrArg _ (congrArg _ (fset f2 (by unfold fv; rw [hty]; simp only [ma_self]; rfl) (fun q hq2 => by unfold fv; simp only [ma_self, ma_ne _ _ hq2])))) (fun q hq2 => cell_same rfl (ma_ne _ _ hq2) rfl rfl)] at p1
    exact k H' locs' rl p1 p3 h3
theorem sm_putF {i : Nat} {t : Nat × Nat × Nat} (hq : fldQ (mO y) i = some t) (hfin : fFin t.1 t.2.1 = true) (hy : mIn y = true ∧ mO y = t.1) (hC : pmCx p l R s m args meth c D g b0 b L xs y n0 q0 Nc Ns) (hd : decode (mB y) pc = .ok (.putfield i, 3)) (hs : stp (.putfield (t.1 * 1000 + t.2.1)) 3 (pc, ls, st, M) = some (ps, z')) (hp : allP ps) (hok : okS L xs (pc, ls, st, M))  (k : pmAt p l e R s m args below meth c Q D g b0 b y n0 q0 z') : pmAt p l e R s m args below meth c Q D g b0 b y n0 q0 (pc, ls, st, M) := by
  obtain ⟨hx, hb, -, hown, hts, hK, -, -, hinit, -⟩ := hC
  obtain ⟨f1, f2, f3, f4⟩ := fld_big hq
  have eq1 : (t.1 * 1000 + t.2.1) / 1000 = t.1 := by omega
  have eq2 : (t.1 * 1000 + t.2.1) % 1000 = t.2.1 := by omega
  have hsm : ∀ x, s.fieldFound? (fW t.1 t.2.1).1 (fW t.1 t.2.1).2.1 (fW t.1 t.2.1).2.2.1 = some x → s.fieldFound? (nmO t.1) (fW t.1 t.2.1).2.1 (fW t.1 t.2.1).2.2.1 = some x := fun _ h9 => by rw [← tb_own _ f1 _ f2]; exact h9
  rcases si_putfield hs with ⟨z, a, r, rfl, hcnd, hty, rfl⟩ | ⟨j, a, r, rfl, hcnd, hty, hj, rfl, rfl⟩
  · rw [eq1, eq2] at hcnd hty
    rw [eq2] at k
    obtain ⟨hcnd, hn⟩ := and2 hcnd
    obtain ⟨ha, hk⟩ := and2 hcnd
    intro H locs rl h1 h2 h3
    have hw := wl_get (g := g) (b0 := b0) (blt_lt ha)
    rw [cell_3 (beq_of hk)] at hw
    simp only [List.map_cons, cv_ref (ne_scr hok.2.2 (blt_lt ha))]
    have hnf : narrow (fTy t.1 t.2.1) (.int (Int32.ofInt z)) = .int (Int32.ofInt z) ∧ fits (fTy t.1 t.2.1) (.int (Int32.ofInt z)) = true := by
      rcases hty with ⟨q, -⟩ | ⟨q, rfl⟩
      · rw [fK0 q]; exact ⟨rfl, rfl⟩
      · rw [fK1 q]; exact fz hp
    have hne : Nat.beq (fK t.1 t.2.1) 2 = false := by rcases hty with ⟨q, -⟩ | ⟨q, -⟩ <;> rw [q] <;> rfl
    refine va_putF hx hb (C := nmO t.1) (T := fW t.1) (N := nF t.1) (ref := nmO t.1) hts (lay_big f1) (fTy t.1) (tb_ty _ f1) (tb_nm _ f1) hown hK h1 (wl_D g b0 M) h2 a hw (tb_cl _ f1) t.2.1 f2 (hts _ f4) hsm hfin (hinit hy.1) (by rw [tb_own _ f1 _ f2, hy.2]) (tb_ty _ f1 _ f2) hnf.1 hnf.2 (by simp [f2]) hd (fun H' locs' p1 _ p3 => ?_)
    rw [wl_set (M := M) (M' := (M.1, M.2.1, M.2.2.1, ma M.2.2.2.1 a (ma (M.2.2.2.1 a) t.2.1 z), M.2.2.2.2)) rfl (by rw [cell_3 (c := t.1) (by exact beq_of hk)]; exact congrArg _ (congrArg _ (fset f2 (by unfold fv; rw [hne]; simp only [ma_self]; rfl) (fun q hq2 => by unfold fv; simp only [ma_self, ma_ne _ _ hq2])))) (fun q hq2 => cell_othI hq2)] at p1
    exact k H' locs' rl p1 p3 h3
  · rw [eq1, eq2] at hcnd hty
    rw [eq2] at k
    obtain ⟨hcnd, hn⟩ := and2 hcnd
    obtain ⟨ha, hk⟩ := and2 hcnd
    intro H locs rl h1 h2 h3
    have hw := wl_get (g := g) (b0 := b0) (blt_lt ha)
    rw [cell_3 (beq_of hk)] at hw
    simp only [List.map_cons, cv_ref (ne_scr hok.2.2 (blt_lt ha)), cv_ref (ne_scr hok.2.2 (blt_lt hj))]
    have hnf := fK2 hty (.ref (b0 + j)) (Or.inl ⟨_, rfl⟩)
    refine va_putF hx hb (C := nmO t.1) (T := fW t.1) (N := nF t.1) (ref := nmO t.1) hts (lay_big f1) (fTy t.1) (tb_ty _ f1) (tb_nm _ f1) hown hK h1 (wl_D g b0 M) h2 a hw (tb_cl _ f1) t.2.1 f2 (hts _ f4) hsm hfin (hinit hy.1) (by rw [tb_own _ f1 _ f2, hy.2]) (tb_ty _ f1 _ f2) hnf.1 hnf.2 (by simp [f2]) hd (fun H' locs' p1 _ p3 => ?_)
    rw [wl_set (M := M) (M' := (M.1, M.2.1, ma M.2.2.1 a (ma (M.2.2.1 a) t.2.1 (some j)), M.2.2.2.1, M.2.2.2.2)) rfl (by rw [cell_3 (c := t.1) (by exact beq_of hk)]; exact congrArg _ (congrArg _ (fset f2 (by unfold fv; rw [hty]; simp only [ma_self]; rfl) (fun q hq2 => by unfold fv; simp only [ma_self, ma_ne _ _ hq2])))) (fun q hq2 => cell_same rfl (ma_ne _ _ hq2) rfl rfl)] at p1
    exact k H' locs' rl p1 p3 h3
theorem sm_arraylength  (hC : pmCx p l R s m args meth c D g b0 b L xs y n0 q0 Nc Ns) (hd : decode (mB y) pc = .ok (.arraylength, 1)) (hs : stp (.arraylength) 1 (pc, ls, st, M) = some (ps, z')) (hp : allP ps) (hok : okS L xs (pc, ls, st, M))  (k : pmAt p l e R s m args below meth c Q D g b0 b y n0 q0 z') : pmAt p l e R s m args below meth c Q D g b0 b y n0 q0 (pc, ls, st, M) := by
  obtain ⟨a, r, rfl, hcnd, rfl, rfl⟩ := si_arraylength hs
  obtain ⟨hx, hb, -, -, -, hK, -⟩ := hC
  obtain ⟨hcnd, hn⟩ := and2 hcnd
  obtain ⟨ha, hk⟩ := and2 hcnd
  intro H locs rl h1 h2 h3
  have hw := wl_get (g := g) (b0 := b0) (blt_lt ha)
  have k1 := k H locs rl h1 h2 h3
  simp only [List.map_cons, cv_ref (ne_scr hok.2.2 (blt_lt ha))]
  have hk : (M.2.1 a).1 ≤ 2 := Nat.le_of_ble_eq_true hk
  have h012 : (M.2.1 a).1 = 0 ∨ (M.2.1 a).1 = 1 ∨ (M.2.1 a).1 = 2 := by omega
  rcases h012 with q | q | q
  · rw [cell_0 q] at hw
    exact va_alen hx hb hK h1 a 0 hw rfl (i32_nat _) hd k1
  · rw [cell_1 q] at hw
    exact va_alen hx hb hK h1 a 1 hw rfl (i32_nat _) hd k1
  · rw [cell_2 q] at hw
    exact va_alen hx hb hK h1 a 2 hw rfl (i32_nat _) hd k1
theorem sm_caload (hy : y = 0) (hC : pmCx p l R s m args meth c D g b0 b L xs y n0 q0 Nc Ns) (hd : decode (mB y) pc = .ok (.iaload, 1)) (hs : stp (.caload) 1 (pc, ls, st, M) = some (ps, z')) (hp : allP ps) (hok : okS L xs (pc, ls, st, M))  (k : pmAt p l e R s m args below meth c Q D g b0 b y n0 q0 z') : pmAt p l e R s m args below meth c Q D g b0 b y n0 q0 (pc, ls, st, M) := by
  obtain ⟨i, a, r, rfl, hcnd, rfl, rfl⟩ := si_caload hs
  obtain ⟨hx, hb, -, -, -, hK, -, hsz, -, -, -, -, -, hscr⟩ := hC
  obtain ⟨hX, hbl⟩ := hscr hy
  have hst := hok.2.1
  simp only [List.forall_mem_cons] at hst
  intro H locs rl h1 h2 h3
  have hi : inR i := hst.1
  have k1 := k H locs rl h1 h2 h3
  have ea : a = SCR := beq_of hcnd
  subst ea
  have hp : 0 ≤ i ∧ i < ((M.2.1 SCR).2 : Int) := hp
  rw [hok.2.2.2.2.2.1] at hp
  have ecv : cv b0 b (aR SCR) = .ref b := by
    show Value.ref (if SCR = SCR then b else b0 + SCR) = _
    rw [if_pos rfl]
  simp only [List.map_cons, ecv]
  refine va_sld hx hb hX (by omega) (Nat.not_le.mpr hbl) h2 (i32_in hi hp) hd ?_
  rw [i32_clamp hi, ← hok.2.2.2.2.2.2]
  exact k1
theorem sm_saload (hy : y = 0) (hC : pmCx p l R s m args meth c D g b0 b L xs y n0 q0 Nc Ns) (hd : decode (mB y) pc = .ok (.arraylength, 1)) (hs : stp (.saload) 1 (pc, ls, st, M) = some (ps, z')) (hp : allP ps) (hok : okS L xs (pc, ls, st, M))  (k : pmAt p l e R s m args below meth c Q D g b0 b y n0 q0 z') : pmAt p l e R s m args below meth c Q D g b0 b y n0 q0 (pc, ls, st, M) := by
  obtain ⟨a, r, rfl, hcnd, rfl, rfl⟩ := si_saload hs
  obtain ⟨hx, hb, -, -, -, hK, -, hsz, -, -, -, -, -, hscr⟩ := hC
  obtain ⟨hX, hbl⟩ := hscr hy
  intro H locs rl h1 h2 h3
  have k1 := k H locs rl h1 h2 h3
  have ea : a = SCR := beq_of hcnd
  subst ea
  have ecv : cv b0 b (aR SCR) = .ref b := by
    show Value.ref (if SCR = SCR then b else b0 + SCR) = _
    rw [if_pos rfl]
  simp only [List.map_cons, ecv]
  refine va_slen hx hb hX (by omega) (Nat.not_le.mpr hbl) h2 hd ?_
  rw [i32_nat, ← hok.2.2.2.2.2.1]
  exact k1
theorem sm_new {i : Nat} {t : Nat × Nat × Nat × Nat} (hq : cllQ (mO y) i = some t) (hC : pmCx p l R s m args meth c D g b0 b L xs y n0 q0 Nc Ns) (hd : decode (mB y) pc = .ok (.new i, 3)) (hs : stp (.new t.1) 3 (pc, ls, st, M) = some (ps, z')) (hp : allP ps) (hok : okS L xs (pc, ls, st, M)) (hn0 : n0 ≤ M.1) (hq0 : q0 ≤ slT M.1 M.2.1) (hNc : z'.2.2.2.1 ≤ Nc) (hNs : slT z'.2.2.2.1 z'.2.2.2.2.1 ≤ Ns) (k : pmAt p l e R s m args below meth c Q D g b0 b y n0 q0 z') : pmAt p l e R s m args below meth c Q D g b0 b y n0 q0 (pc, ls, st, M) := by
  obtain ⟨hcnd, rfl, rfl⟩ := si_new hs
  obtain ⟨hx, hb, -, hown, hts, hK, -, hsz, -, -, -, hNc1, hNs1, -⟩ := hC
  obtain ⟨f1, f2, f3, f4⟩ := tb_cll _ (find2 hq)
  dsimp only at f1 f2 f3 f4
  have hKn := hK.1 t.1 _ (tb_cl _ f4)
  have hsl : slT (M.1 + 1) (ma M.2.1 M.1 (t.1 + 3, nF t.1)) = slT M.1 M.2.1 + nF t.1 := slT_succ _ _ _
  dsimp only at hNc hNs
  rw [hsl] at hNs
  intro H locs rl h1 h2 h3
  show W p l e R s m args below meth c H locs (M.1 - n0) (slT M.1 M.2.1 - q0) Q (F0 m pc rl (List.map (cv b0 b) st))
  refine W_sz h1 h2 hsz hn0 (fun hH => ?_)
  refine W.newcK hx hb hown (hts _ (big_at f1 (gw_ok _ (by first | rfl | simp [Cond.onTables, Cond.keeps, Cond.steady])))) (hts _ (big_at f2 (gw_ok _ (by first | rfl | simp [Cond.onTables, Cond.keeps, Cond.steady])))) (hts _ (big_at f3 (gw_ok _ (by first | rfl | simp [Cond.onTables, Cond.keeps, Cond.steady])))) rfl hd (by omega) (by omega) hKn.2.1 hH (fun H1 kC hkC e1 z1 o1 => ?_)
  refine W.cs (cells' := M.1 + 1 - n0) (slots' := slT (M.1 + 1) (ma M.2.1 M.1 (t.1 + 3, nF t.1)) - q0) (by omega) (by rw [hsl]; omega) ?_
  have p1 : wld D g b0 (M.1 + 1, ma M.2.1 M.1 (t.1 + 3, nF t.1), ma M.2.2.1 M.1 (fun _ => none), ma M.2.2.2.1 M.1 (fun _ => 0), M.2.2.2.2) H1 := by
    show va_P D vwCl (wl g b0 _) H1
    rw [← wl_push (M := M) (M' := (M.1 + 1, ma M.2.1 M.1 (t.1 + 3, nF t.1), ma M.2.2.1 M.1 (fun _ => none), ma M.2.2.2.1 M.1 (fun _ => 0), M.2.2.2.2)) rfl (cell_3 (c := t.1) (by show (ma M.2.1 M.1 (t.1 + 3, nF t.1) M.1).1 = _; rw [ma_self])) (fun j hj => cell_same (ma_ne _ _ (Nat.ne_of_lt hj)) (ma_ne _ _ (Nat.ne_of_lt hj)) (ma_ne _ _ (Nat.ne_of_lt hj)) rfl)]
    refine va_P.app (va_P.kept h1 (fun kq x hx2 => o1 x.1 (by have := (h1 kq x hx2).lt; omega))) (fun kq x hx2 => ?_)
    have hz : kq < 1 := (List.getElem?_eq_some_iff.mp hx2).1
    rw [show kq = 0 by omega] at hx2
    cases hx2
    refine ⟨_, tb_cl _ f4, (u_born (fTy t.1) hts (lay_big f4) hKn hkC e1 (tb_ty _ f4)).to (fun j hj => ?_)⟩
    have h3 := tb_fk _ f4 j hj
    show defaultValue (fTy t.1 j) = vp_V _ j
    have ev : vp_V ((List.range (nF t.1)).map (fv b0 (M.1 + 1, ma M.2.1 M.1 (t.1 + 3, nF t.1), ma M.2.2.1 M.1 (fun _ => none), ma M.2.2.2.1 M.1 (fun _ => 0), M.2.2.2.2) M.1 t.1)) j = fv b0 (M.1 + 1, ma M.2.1 M.1 (t.1 + 3, nF t.1), ma M.2.2.1 M.1 (fun _ => none), ma M.2.2.2.1 M.1 (fun _ => 0), M.2.2.2.2) M.1 t.1 j := by
      simp [vp_V, List.getD, hj]
    rw [ev]
    unfold fv
    simp only [ma_self]
    have h012 : fK t.1 j = 0 ∨ fK t.1 j = 1 ∨ fK t.1 j = 2 := by omega
    rcases h012 with q | q | q
    · rw [q, fK0 q]; rfl
    · rw [q, fK1 q]; rfl
    · rw [q]
      unfold fK at q
      split at q
      · cases q
      · cases q
      · rename_i hn; rw [hn]; rfl
      · rename_i hn; rw [hn]; rfl
      · cases q
  have k1 := k H1 locs rl p1 (S_new h2 hH z1 o1) h3
  simp only [List.map_cons, cv_ref (show M.1 ≠ SCR by have := blt_lt (and2 hcnd).2; omega)] at k1
  exact k1
theorem sm_newarray_int  (hC : pmCx p l R s m args meth c D g b0 b L xs y n0 q0 Nc Ns) (hd : decode (mB y) pc = .ok (.newarray .int, 2)) (hs : stp (.newarray .int) 2 (pc, ls, st, M) = some (ps, z')) (hp : allP ps) (hok : okS L xs (pc, ls, st, M)) (hn0 : n0 ≤ M.1) (hq0 : q0 ≤ slT M.1 M.2.1) (hNc : z'.2.2.2.1 ≤ Nc) (hNs : slT z'.2.2.2.1 z'.2.2.2.2.1 ≤ Ns) (k : pmAt p l e R s m args below meth c Q D g b0 b y n0 q0 z') : pmAt p l e R s m args below meth c Q D g b0 b y n0 q0 (pc, ls, st, M) := by
  obtain ⟨z, r, rfl, hcnd, rfl, rfl⟩ := si_newarray_int hs
  obtain ⟨hx, hb, -, hown, hts, hK, -, hsz, -, -, -, hNc1, hNs1, -⟩ := hC
  have hst := hok.2.1
  simp only [List.forall_mem_cons] at hst
  have hz1 : inR z := hst.1
  obtain ⟨hcz, hcM⟩ := and2 hcnd
  obtain ⟨hz2, hz3⟩ := and2 hcz
  have hz2 := of_decide_eq_true hz2
  have hz3 := of_decide_eq_true hz3
  have hsl : slT (M.1 + 1) (ma M.2.1 M.1 (0, z.toNat)) = slT M.1 M.2.1 + z.toNat := slT_succ _ _ _
  dsimp only at hNc hNs
  rw [hsl] at hNs
  intro H locs rl h1 h2 h3
  have hby : z.toNat * componentBytes (newarray.typeOf .int) ≤ 536870912 := by
    have g1 : componentBytes (newarray.typeOf .int) ≤ 8 := by decide
    have g2 : z.toNat ≤ 100000 := by omega
    exact Nat.le_trans (Nat.mul_le_mul g2 g1) (by decide)
  show W p l e R s m args below meth c H locs (M.1 - n0) (slT M.1 M.2.1 - q0) Q (F0 m pc rl (List.map (cv b0 b) (aI z :: r)))
  refine W_sz h1 h2 hsz hn0 (fun hH => ?_)
  refine va_newaK (N := z.toNat) hx hb (atype := .int) (hts _ tb_w4.1) rfl hd rfl (by rw [← i32_0, i32_lt hz1 inR_0]; omega) (i32_clamp hz1) hby (by omega) (by omega) hH (fun H1 cA e1 z1 o1 hAr hNm => ?_)
  refine W.cs (cells' := M.1 + 1 - n0) (slots' := slT (M.1 + 1) (ma M.2.1 M.1 (0, z.toNat)) - q0) (by omega) (by rw [hsl]; omega) ?_
  have hcA : cA = g.1 := by
    have h9 : s.vm.findClass ("[" ++ (FieldType.int).toString) = some g.1 := (hK.2 0 _ rfl).2
    have h8 : s.vm.findClass ("[" ++ (FieldType.int).toString) = some cA := hNm
    exact Option.some.inj (h8.symm.trans h9)
  subst hcA
  have p1 : wld D g b0 (M.1 + 1, ma M.2.1 M.1 (0, z.toNat), M.2.2.1, ma M.2.2.2.1 M.1 (fun _ => 0), M.2.2.2.2) H1 := by
    show va_P D vwCl (wl g b0 _) H1
    rw [← wl_push (M := M) (M' := (M.1 + 1, ma M.2.1 M.1 (0, z.toNat), M.2.2.1, ma M.2.2.2.1 M.1 (fun _ => 0), M.2.2.2.2)) rfl (cell_0 (by show (ma M.2.1 M.1 (0, z.toNat) M.1).1 = _; rw [ma_self])) (fun j hj => cell_same (ma_ne _ _ (Nat.ne_of_lt hj)) rfl (ma_ne _ _ (Nat.ne_of_lt hj)) rfl)]
    refine va_P.app (va_P.kept h1 (fun kq x hx2 => o1 x.1 (by have := (h1 kq x hx2).lt; omega))) (fun kq x hx2 => ?_)
    have hz : kq < 1 := (List.getElem?_eq_some_iff.mp hx2).1
    rw [show kq = 0 by omega] at hx2
    cases hx2
    show H1[b0 + M.1]? = some (vp_cell _ _)
    simp only [ma_self]
    exact e1
  have k1 := k H1 locs rl p1 (S_new h2 hH z1 o1) h3
  simp only [List.map_cons, cv_ref (show M.1 ≠ SCR by have := blt_lt hcM; omega)] at k1
  exact k1
theorem sm_newarray_long  (hC : pmCx p l R s m args meth c D g b0 b L xs y n0 q0 Nc Ns) (hd : decode (mB y) pc = .ok (.newarray .long, 2)) (hs : stp (.newarray .long) 2 (pc, ls, st, M) = some (ps, z')) (hp : allP ps) (hok : okS L xs (pc, ls, st, M)) (hn0 : n0 ≤ M.1) (hq0 : q0 ≤ slT M.1 M.2.1) (hNc : z'.2.2.2.1 ≤ Nc) (hNs : slT z'.2.2.2.1 z'.2.2.2.2.1 ≤ Ns) (k : pmAt p l e R s m args below meth c Q D g b0 b y n0 q0 z') : pmAt p l e R s m args below meth c Q D g b0 b y n0 q0 (pc, ls, st, M) := by
  obtain ⟨z, r, rfl, hcnd, rfl, rfl⟩ := si_newarray_long hs
  obtain ⟨hx, hb, -, hown, hts, hK, -, hsz, -, -, -, hNc1, hNs1, -⟩ := hC
  have hst := hok.2.1
  simp only [List.forall_mem_cons] at hst
  have hz1 : inR z := hst.1
  obtain ⟨hcz, hcM⟩ := and2 hcnd
  obtain ⟨hz2, hz3⟩ := and2 hcz
  have hz2 := of_decide_eq_true hz2
  have hz3 := of_decide_eq_true hz3
  have hsl : slT (M.1 + 1) (ma M.2.1 M.1 (1, z.toNat)) = slT M.1 M.2.1 + z.toNat := slT_succ _ _ _
  dsimp only at hNc hNs
  rw [hsl] at hNs
  intro H locs rl h1 h2 h3
  have hby : z.toNat * componentBytes (newarray.typeOf .long) ≤ 536870912 := by
    have g1 : componentBytes (newarray.typeOf .long) ≤ 8 := by decide
    have g2 : z.toNat ≤ 100000 := by omega
    exact Nat.le_trans (Nat.mul_le_mul g2 g1) (by decide)
  show W p l e R s m args below meth c H locs (M.1 - n0) (slT M.1 M.2.1 - q0) Q (F0 m pc rl (List.map (cv b0 b) (aI z :: r)))
  refine W_sz h1 h2 hsz hn0 (fun hH => ?_)
  refine va_newaK (N := z.toNat) hx hb (atype := .long) (hts _ tb_w4.2.1) rfl hd rfl (by rw [← i32_0, i32_lt hz1 inR_0]; omega) (i32_clamp hz1) hby (by omega) (by omega) hH (fun H1 cA e1 z1 o1 hAr hNm => ?_)
  refine W.cs (cells' := M.1 + 1 - n0) (slots' := slT (M.1 + 1) (ma M.2.1 M.1 (1, z.toNat)) - q0) (by omega) (by rw [hsl]; omega) ?_
  have hcA : cA = g.2.1 := by
    have h9 : s.vm.findClass ("[" ++ (FieldType.long).toString) = some g.2.1 := (hK.2 1 _ rfl).2
    have h8 : s.vm.findClass ("[" ++ (FieldType.long).toString) = some cA := hNm
    exact Option.some.inj (h8.symm.trans h9)
  subst hcA
  have p1 : wld D g b0 (M.1 + 1, ma M.2.1 M.1 (1, z.toNat), M.2.2.1, M.2.2.2.1, ma M.2.2.2.2 M.1 (fun _ => 0)) H1 := by
    show va_P D vwCl (wl g b0 _) H1
    rw [← wl_push (M := M) (M' := (M.1 + 1, ma M.2.1 M.1 (1, z.toNat), M.2.2.1, M.2.2.2.1, ma M.2.2.2.2 M.1 (fun _ => 0))) rfl (cell_1 (by show (ma M.2.1 M.1 (1, z.toNat) M.1).1 = _; rw [ma_self])) (fun j hj => cell_same (ma_ne _ _ (Nat.ne_of_lt hj)) rfl rfl (ma_ne _ _ (Nat.ne_of_lt hj)))]
    refine va_P.app (va_P.kept h1 (fun kq x hx2 => o1 x.1 (by have := (h1 kq x hx2).lt; omega))) (fun kq x hx2 => ?_)
    have hz : kq < 1 := (List.getElem?_eq_some_iff.mp hx2).1
    rw [show kq = 0 by omega] at hx2
    cases hx2
    show H1[b0 + M.1]? = some (vp_cell _ _)
    simp only [ma_self]
    exact e1
  have k1 := k H1 locs rl p1 (S_new h2 hH z1 o1) h3
  simp only [List.map_cons, cv_ref (show M.1 ≠ SCR by have := blt_lt hcM; omega)] at k1
  exact k1
theorem sm_newarray_boolean  (hC : pmCx p l R s m args meth c D g b0 b L xs y n0 q0 Nc Ns) (hd : decode (mB y) pc = .ok (.newarray .boolean, 2)) (hs : stp (.newarray .boolean) 2 (pc, ls, st, M) = some (ps, z')) (hp : allP ps) (hok : okS L xs (pc, ls, st, M)) (hn0 : n0 ≤ M.1) (hq0 : q0 ≤ slT M.1 M.2.1) (hNc : z'.2.2.2.1 ≤ Nc) (hNs : slT z'.2.2.2.1 z'.2.2.2.2.1 ≤ Ns) (k : pmAt p l e R s m args below meth c Q D g b0 b y n0 q0 z') : pmAt p l e R s m args below meth c Q D g b0 b y n0 q0 (pc, ls, st, M) := by
  obtain ⟨z, r, rfl, hcnd, rfl, rfl⟩ := si_newarray_boolean hs
  obtain ⟨hx, hb, -, hown, hts, hK, -, hsz, -, -, -, hNc1, hNs1, -⟩ := hC
  have hst := hok.2.1
  simp only [List.forall_mem_cons] at hst
  have hz1 : inR z := hst.1
  obtain ⟨hcz, hcM⟩ := and2 hcnd
  obtain ⟨hz2, hz3⟩ := and2 hcz
  have hz2 := of_decide_eq_true hz2
  have hz3 := of_decide_eq_true hz3
  have hsl : slT (M.1 + 1) (ma M.2.1 M.1 (2, z.toNat)) = slT M.1 M.2.1 + z.toNat := slT_succ _ _ _
  dsimp only at hNc hNs
  rw [hsl] at hNs
  intro H locs rl h1 h2 h3
  have hby : z.toNat * componentBytes (newarray.typeOf .boolean) ≤ 536870912 := by
    have g1 : componentBytes (newarray.typeOf .boolean) ≤ 8 := by decide
    have g2 : z.toNat ≤ 100000 := by omega
    exact Nat.le_trans (Nat.mul_le_mul g2 g1) (by decide)
  show W p l e R s m args below meth c H locs (M.1 - n0) (slT M.1 M.2.1 - q0) Q (F0 m pc rl (List.map (cv b0 b) (aI z :: r)))
  refine W_sz h1 h2 hsz hn0 (fun hH => ?_)
  refine va_newaK (N := z.toNat) hx hb (atype := .boolean) (hts _ tb_w4.2.2) rfl hd rfl (by rw [← i32_0, i32_lt hz1 inR_0]; omega) (i32_clamp hz1) hby (by omega) (by omega) hH (fun H1 cA e1 z1 o1 hAr hNm => ?_)
  refine W.cs (cells' := M.1 + 1 - n0) (slots' := slT (M.1 + 1) (ma M.2.1 M.1 (2, z.toNat)) - q0) (by omega) (by rw [hsl]; omega) ?_
  have hcA : cA = g.2.2 := by
    have h9 : s.vm.findClass ("[" ++ (FieldType.boolean).toString) = some g.2.2 := (hK.2 2 _ rfl).2
    have h8 : s.vm.findClass ("[" ++ (FieldType.boolean).toString) = some cA := hNm
    exact Option.some.inj (h8.symm.trans h9)
  subst hcA
  have p1 : wld D g b0 (M.1 + 1, ma M.2.1 M.1 (2, z.toNat), M.2.2.1, ma M.2.2.2.1 M.1 (fun _ => 0), M.2.2.2.2) H1 := by
    show va_P D vwCl (wl g b0 _) H1
    rw [← wl_push (M := M) (M' := (M.1 + 1, ma M.2.1 M.1 (2, z.toNat), M.2.2.1, ma M.2.2.2.1 M.1 (fun _ => 0), M.2.2.2.2)) rfl (cell_2 (by show (ma M.2.1 M.1 (2, z.toNat) M.1).1 = _; rw [ma_self])) (fun j hj => cell_same (ma_ne _ _ (Nat.ne_of_lt hj)) rfl (ma_ne _ _ (Nat.ne_of_lt hj)) rfl)]
    refine va_P.app (va_P.kept h1 (fun kq x hx2 => o1 x.1 (by have := (h1 kq x hx2).lt; omega))) (fun kq x hx2 => ?_)
    have hz : kq < 1 := (List.getElem?_eq_some_iff.mp hx2).1
    rw [show kq = 0 by omega] at hx2
    cases hx2
    show H1[b0 + M.1]? = some (vp_cell _ _)
    simp only [ma_self]
    exact e1
  have k1 := k H1 locs rl p1 (S_new h2 hH z1 o1) h3
  simp only [List.map_cons, cv_ref (show M.1 ≠ SCR by have := blt_lt hcM; omega)] at k1
  exact k1
theorem blt_big {y i : Nat} {t : Nat × Nat × Nat} (h : mthQ (mO y) i = some t) : (t.1 = 1000 → Cond.methodLink (nmO (mO y)) i Lib.Math.max.name ∈ bigW) ∧ (t.1 = 1001 → Cond.methodLink (nmO (mO y)) i Lib.Math.min.name ∈ bigW) ∧ (t.1 = 1002 → Cond.methodLink (nmO (mO y)) i arraycopyName ∈ bigW) ∧ (t.1 = 1003 → Cond.methodLink (nmO (mO y)) i objectInit ∈ bigW) := by
  obtain ⟨h1, h2, h3, h4⟩ := tb_blt _ (find2 h)
  exact ⟨fun q => big_at (h1 q) (gw_ok _ (by first | rfl | simp [Cond.onTables, Cond.keeps, Cond.steady])), fun q => big_at (h2 q) (gw_ok _ (by first | rfl | simp [Cond.onTables, Cond.keeps, Cond.steady])), fun q => big_at (h3 q) (gw_ok _ (by first | rfl | simp [Cond.onTables, Cond.keeps, Cond.steady])), fun q => big_at (h4 q) (gw_ok _ (by first | rfl | simp [Cond.onTables, Cond.keeps, Cond.steady]))⟩
theorem sm_max {i : Nat} {t : Nat × Nat × Nat} (hq : mthQ (mO y) i = some t) (ht : t.1 = 1000) (hr1 : 1 ≤ mFr y) (hr2 : 21 ≤ mLo y) (hC : pmCx p l R s m args meth c D g b0 b L xs y n0 q0 Nc Ns) (hd : decode (mB y) pc = .ok (.invokestatic i, 3)) (hs : stp (.invokestatic 1000) 3 (pc, ls, st, M) = some (ps, z')) (hp : allP ps) (hok : okS L xs (pc, ls, st, M)) (hNc : M.1 ≤ Nc) (hNs : slT M.1 M.2.1 ≤ Ns) (k : pmAt p l e R s m args below meth c Q D g b0 b y n0 q0 z') : pmAt p l e R s m args below meth c Q D g b0 b y n0 q0 (pc, ls, st, M) := by
  obtain ⟨y1, x1, r, rfl, hcat, rfl, rfl⟩ := si_max hs
  obtain ⟨hx, hb, hml, hown, hts, hK, -, hsz, -, hfr, hlo, hNc1, hNs1, -⟩ := hC
  have hst := hok.2.1
  simp only [List.forall_mem_cons] at hst
  intro H locs rl h1 h2 h3
  have k1 := k H locs rl h1 h2 h3
  have e1 : inR x1 := hst.2.1
  have e2 : inR y1 := hst.1
  have hcat := Nat.le_of_ble_eq_true hcat
  show W p l e R s m args below meth c H locs (M.1 - n0) (slT M.1 M.2.1 - q0) Q (F0 m pc rl (List.map (cv b0 b) (aI y1 :: aI x1 :: r)))
  refine va_mmax hx hb (by rw [hml]; exact h3.1.symm) hown (hts _ ((blt_big hq).1 ht)) (hts _ tb_w1.1) (hts _ tb_w1.2.2.1) (hts _ tb_w1.2.2.2.1) (by omega) (by rw [cvs_cat]; omega) (by omega) (by omega) hd ?_
  by_cases h9 : x1 < y1
  · rw [if_pos ((i32_lt e1 e2).mpr h9)]
    simp only [if_pos h9] at k1
    exact k1
  · rw [if_neg (fun q => h9 ((i32_lt e1 e2).mp q))]
    simp only [if_neg h9] at k1
    exact k1
theorem sm_min {i : Nat} {t : Nat × Nat × Nat} (hq : mthQ (mO y) i = some t) (ht : t.1 = 1001) (hr1 : 1 ≤ mFr y) (hr2 : 21 ≤ mLo y) (hC : pmCx p l R s m args meth c D g b0 b L xs y n0 q0 Nc Ns) (hd : decode (mB y) pc = .ok (.invokestatic i, 3)) (hs : stp (.invokestatic 1001) 3 (pc, ls, st, M) = some (ps, z')) (hp : allP ps) (hok : okS L xs (pc, ls, st, M)) (hNc : M.1 ≤ Nc) (hNs : slT M.1 M.2.1 ≤ Ns) (k : pmAt p l e R s m args below meth c Q D g b0 b y n0 q0 z') : pmAt p l e R s m args below meth c Q D g b0 b y n0 q0 (pc, ls, st, M) := by
  obtain ⟨y1, x1, r, rfl, hcat, rfl, rfl⟩ := si_min hs
  obtain ⟨hx, hb, hml, hown, hts, hK, -, hsz, -, hfr, hlo, hNc1, hNs1, -⟩ := hC
  have hst := hok.2.1
  simp only [List.forall_mem_cons] at hst
  intro H locs rl h1 h2 h3
  have k1 := k H locs rl h1 h2 h3
  have e1 : inR x1 := hst.2.1
  have e2 : inR y1 := hst.1
  have hcat := Nat.le_of_ble_eq_true hcat
  show W p l e R s m args below meth c H locs (M.1 - n0) (slT M.1 M.2.1 - q0) Q (F0 m pc rl (List.map (cv b0 b) (aI y1 :: aI x1 :: r)))
  refine va_mmin hx hb (by rw [hml]; exact h3.1.symm) hown (hts _ ((blt_big hq).2.1 ht)) (hts _ tb_w1.2.1) (hts _ tb_w1.2.2.1) (hts _ tb_w1.2.2.2.2) (by omega) (by rw [cvs_cat]; omega) (by omega) (by omega) hd ?_
  by_cases h9 : y1 < x1
  · rw [if_pos ((i32_lt e2 e1).mpr h9)]
    simp only [if_pos h9] at k1
    exact k1
  · rw [if_neg (fun q => h9 ((i32_lt e2 e1).mp q))]
    simp only [if_neg h9] at k1
    exact k1
theorem sm_oinit {i : Nat} {t : Nat × Nat × Nat} (hq : mthQ (mO y) i = some t) (ht : t.1 = 1003) (hr1 : 1 ≤ mFr y) (hr2 : 21 ≤ mLo y) (hC : pmCx p l R s m args meth c D g b0 b L xs y n0 q0 Nc Ns) (hd : decode (mB y) pc = .ok (.invokespecial i, 3)) (hs : stp (.invokestatic 1003) 3 (pc, ls, st, M) = some (ps, z')) (hp : allP ps) (hok : okS L xs (pc, ls, st, M))  (k : pmAt p l e R s m args below meth c Q D g b0 b y n0 q0 z') : pmAt p l e R s m args below meth c Q D g b0 b y n0 q0 (pc, ls, st, M) := by
  obtain ⟨a, r, rfl, hcat, rfl, rfl⟩ := si_oinit hs
  obtain ⟨hx, hb, hml, hown, hts, hK, -, hsz, -, hfr, hlo, hNc1, hNs1, -⟩ := hC
  intro H locs rl h1 h2 h3
  have k1 := k H locs rl h1 h2 h3
  have hcat := Nat.le_of_ble_eq_true hcat
  exact W.objInit hx hb hown (hts _ ((blt_big hq).2.2.2 ht)) (hts _ tb_w3.1) (hts _ tb_w3.2) rfl (by rw [hml]; exact h3.1) rfl hd (by omega) (by show 2 * 0 + _ + 12 ≤ _; rw [cvs_cat]; omega) k1
theorem sm_copy {i : Nat} {t : Nat × Nat × Nat} (hq : mthQ (mO y) i = some t) (ht : t.1 = 1002) (hr1 : 1 ≤ mFr y) (hr2 : 34 ≤ mLo y) (hC : pmCx p l R s m args meth c D g b0 b L xs y n0 q0 Nc Ns) (hd : decode (mB y) pc = .ok (.invokestatic i, 3)) (hs : stp (.invokestatic 1002) 3 (pc, ls, st, M) = some (ps, z')) (hp : allP ps) (hok : okS L xs (pc, ls, st, M))  (k : pmAt p l e R s m args below meth c Q D g b0 b y n0 q0 z') : pmAt p l e R s m args below meth c Q D g b0 b y n0 q0 (pc, ls, st, M) := by
  obtain ⟨n, dp, a, sp, a0, r, rfl, hcnd, rfl, hkk⟩ := si_copy hs
  obtain ⟨hx, hb, hml, hown, hts, hK, -, hsz, -, hfr, hlo, hNc1, hNs1, -⟩ := hC
  have hst := hok.2.1
  simp only [List.forall_mem_cons] at hst
  have en : inR n := hst.1
  have edp : inR dp := hst.2.1
  have esp : inR sp := hst.2.2.2.1
  have hp : 0 ≤ sp ∧ 0 ≤ dp ∧ 0 ≤ n ∧ sp + n ≤ ((M.2.1 a0).2 : Int) ∧ dp + n ≤ ((M.2.1 a).2 : Int) := hp
  obtain ⟨hcnd, hcat⟩ := and2 hcnd
  obtain ⟨ha, ha0⟩ := and2 hcnd
  have ha := blt_lt ha
  have ha0 := blt_lt ha0
  have hcat := Nat.le_of_ble_eq_true hcat
  intro H locs rl h1 h2 h3
  rcases hkk with ⟨q1, q2, rfl⟩ | ⟨q1, q2, rfl⟩
  · skip
    have hw := wl_get (g := g) (b0 := b0) ha
    have hw0 := wl_get (g := g) (b0 := b0) ha0
    rw [cell_0 q2] at hw
    rw [cell_0 q1] at hw0
    simp only [List.map_cons, cv_ref (ne_scr hok.2.2 ha), cv_ref (ne_scr hok.2.2 ha0)]
    refine va_copyi hx hb (by rw [hml]; exact h3.1.symm) hown (hts _ ((blt_big hq).2.2.1 ht)) (hts _ tb_w2.1) (hts _ tb_w2.2.1) (hts _ tb_w2.2.2) hK h1 (wl_D g b0 M) h2 a0 a 0 0 hw0 hw rfl rfl rfl (by rw [← i32_0, i32_lt esp inR_0]; omega) (by rw [← i32_0, i32_lt edp inR_0]; omega) (by rw [← i32_0, i32_lt en inR_0]; omega) (by rw [i32_clamp esp, i32_clamp en]; omega) (by rw [i32_clamp edp, i32_clamp en]; omega) (fun _ _ => rfl) (by omega) (by rw [cvs_cat]; have := tb_nat; omega) hd (fun H' locs' p1 _ p3 => ?_)
    rw [i32_clamp esp, i32_clamp edp, i32_clamp en] at p1
    rw [wl_set (M := M) (M' := (M.1, M.2.1, M.2.2.1, ma M.2.2.2.1 a (acp (M.2.2.2.1 a0) (M.2.2.2.1 a) sp.toNat dp.toNat n.toNat), M.2.2.2.2)) rfl (by rw [cell_0 (by exact q2)]; simp only [ma_self]; exact congrArg _ (congrArg _ (congrArg _ (congrArg _ (by funext kq; unfold acp va_cpy; split <;> rfl))))) (fun j hj => cell_othI hj)] at p1
    exact k H' locs' rl p1 p3 h3
  · skip
    have hw := wl_get (g := g) (b0 := b0) ha
    have hw0 := wl_get (g := g) (b0 := b0) ha0
    rw [cell_1 q2] at hw
    rw [cell_1 q1] at hw0
    simp only [List.map_cons, cv_ref (ne_scr hok.2.2 ha), cv_ref (ne_scr hok.2.2 ha0)]
    refine va_copyl hx hb (by rw [hml]; exact h3.1.symm) hown (hts _ ((blt_big hq).2.2.1 ht)) (hts _ tb_w2.1) (hts _ tb_w2.2.1) (hts _ tb_w2.2.2) hK h1 (wl_D g b0 M) h2 a0 a 1 1 hw0 hw rfl rfl rfl (by rw [← i32_0, i32_lt esp inR_0]; omega) (by rw [← i32_0, i32_lt edp inR_0]; omega) (by rw [← i32_0, i32_lt en inR_0]; omega) (by rw [i32_clamp esp, i32_clamp en]; omega) (by rw [i32_clamp edp, i32_clamp en]; omega) (fun _ _ => rfl) (by omega) (by rw [cvs_cat]; have := tb_nat; omega) hd (fun H' locs' p1 _ p3 => ?_)
    rw [i32_clamp esp, i32_clamp edp, i32_clamp en] at p1
    rw [wl_set (M := M) (M' := (M.1, M.2.1, M.2.2.1, M.2.2.2.1, ma M.2.2.2.2 a (acp (M.2.2.2.2 a0) (M.2.2.2.2 a) sp.toNat dp.toNat n.toNat))) rfl (by rw [cell_1 (by exact q2)]; simp only [ma_self]; exact congrArg _ (congrArg _ (congrArg _ (congrArg _ (congrArg Sum.inl (by funext kq; unfold acp va_cpy; split <;> rfl)))))) (fun j hj => cell_othL hj)] at p1
    exact k H' locs' rl p1 p3 h3
end SIM
