/-! ===== the whole run ===== -/
theorem fetch_raw {y pc len : Nat} {op : Instr} (h : fetch y pc = some (op, len)) : ∃ raw, decode (mB y) pc = .ok (raw, len) ∧ rsv y pc raw len = some op := by
  unfold fetch at h
  split at h
  · rename_i t ht
    split at h
    · rename_i o ho
      cases h
      exact ⟨t.2.1, (raw_dec ht).2, ho⟩
    · cases h
  · cases h
def retAt (y pc : Nat) (r : Option AV) : Prop := match r with
  | some (.inl z) => decode (mB y) pc = .ok (.ireturn, 1) ∧ retI y z
  | some (.inr (.inl _)) => decode (mB y) pc = .ok (.lreturn, 1) ∧ mR y = some .long
  | none => decode (mB y) pc = .ok (.return_, 1) ∧ mR y = none
  | _ => False
section TOP
variable {p : Program} {l : Launch} {e : Env} {R : Room} {s : State} {m : MethodId} {args : Array Value} {below : List Frame} {meth : Method} {c : Code} {Q : State → Prop} {D : va_G} {g : G3} {b0 b L : Nat} {xs : Nat → Int32} {y n0 q0 Nc Ns : Nat}
variable {pc len : Nat} {ls : LV} {st : List AV} {M : M5} {ps : List Prop} {z' : ST}
theorem sim_step {raw op : Instr} (hC : pmCx p l R s m args meth c D g b0 b L xs y n0 q0 Nc Ns) (hd : decode (mB y) pc = .ok (raw, len)) (hr : rsv y pc raw len = some op) (hs : stp op len (pc, ls, st, M) = some (ps, z')) (hp : allP ps) (hok : okS L xs (pc, ls, st, M)) (hn0 : n0 ≤ M.1) (hq0 : q0 ≤ slT M.1 M.2.1) (hNc0 : M.1 ≤ Nc) (hNs0 : slT M.1 M.2.1 ≤ Ns) (hNc : z'.2.2.2.1 ≤ Nc) (hNs : slT z'.2.2.2.1 z'.2.2.2.2.1 ≤ Ns) (k : pmAt p l e R s m args below meth c Q D g b0 b y n0 q0 z') : pmAt p l e R s m args below meth c Q D g b0 b y n0 q0 (pc, ls, st, M) := by
  cases raw
  case iconst v =>
    simp only [rsv] at hr
    obtain ⟨hl, rfl⟩ := bif_some hr
    have hl : len = 1 := by simpa using hl
    subst hl
    exact sm_iconst hC hd hs hp hok k
  case bipush v =>
    simp only [rsv] at hr
    obtain ⟨hl, rfl⟩ := bif_some hr
    simp only [Bool.and_eq_true, decide_eq_true_eq, beq_iff_eq] at hl
    obtain ⟨⟨hl, h1⟩, h2⟩ := hl
    subst hl
    exact sm_bipush ⟨h1, h2⟩ hC hd hs hp hok k
  case sipush v =>
    simp only [rsv] at hr
    obtain ⟨hl, rfl⟩ := bif_some hr
    simp only [Bool.and_eq_true, decide_eq_true_eq, beq_iff_eq] at hl
    obtain ⟨⟨hl, h1⟩, h2⟩ := hl
    subst hl
    exact sm_sipush ⟨h1, h2⟩ hC hd hs hp hok k
  case ldc i =>
    simp only [rsv, Bool.cond_eq_ite] at hr
    split at hr
    · rename_i hl
      have hl : len = 2 := by simpa using hl
      subst hl
      cases hq : cstQ (mO y) i with
      | none => rw [hq] at hr; cases hr
      | some v => rw [hq] at hr; cases hr; exact sm_ldc hq hC hd hs hp hok k
    · cases hr
  case ldc_w i =>
    simp only [rsv, Bool.cond_eq_ite] at hr
    split at hr
    · rename_i hl
      have hl : len = 3 := by simpa using hl
      subst hl
      cases hq : cstQ (mO y) i with
      | none => rw [hq] at hr; cases hr
      | some v => rw [hq] at hr; cases hr; exact sm_ldc_w hq hC hd hs hp hok k
    · cases hr
  case ldc2_w i =>
    simp only [rsv, Bool.cond_eq_ite] at hr
    split at hr
    · rename_i hl
      have hl : len = 3 := by simpa using hl
      subst hl
      cases hq : cslQ (mO y) i with
      | none => rw [hq] at hr; cases hr
      | some v => rw [hq] at hr; cases hr; exact sm_ldc2 hq hC hd hs hp hok k
    · cases hr
  case lconst v =>
    simp only [rsv] at hr
    obtain ⟨hl, rfl⟩ := bif_some hr
    have hl : len = 1 := by simpa using hl
    subst hl
    exact sm_lconst hC hd hs hp hok k
  case iload_n n =>
    simp only [rsv] at hr
    obtain ⟨hl, rfl⟩ := bif_some hr
    have hl : len = 1 := by simpa using hl
    subst hl
    exact sm_iload_n hC hd hs hp hok k
  case iload n =>
    simp only [rsv] at hr
    obtain ⟨hl, rfl⟩ := bif_some hr
    have hl : len = 2 := by simpa using hl
    subst hl
    exact sm_iload hC hd hs hp hok k
  case istore_n n =>
    simp only [rsv] at hr
    obtain ⟨hl, rfl⟩ := bif_some hr
    have hl : len = 1 := by simpa using hl
    subst hl
    exact sm_istore_n hC hd hs hp hok k
  case istore n =>
    simp only [rsv] at hr
    obtain ⟨hl, rfl⟩ := bif_some hr
    have hl : len = 2 := by simpa using hl
    subst hl
    exact sm_istore hC hd hs hp hok k
  case lload_n n =>
    simp only [rsv] at hr
    obtain ⟨hl, rfl⟩ := bif_some hr
    have hl : len = 1 := by simpa using hl
    subst hl
    exact sm_lload_n hC hd hs hp hok k
  case lload n =>
    simp only [rsv] at hr
    obtain ⟨hl, rfl⟩ := bif_some hr
    have hl : len = 2 := by simpa using hl
    subst hl
    exact sm_lload hC hd hs hp hok k
  case lstore_n n =>
    simp only [rsv] at hr
    obtain ⟨hl, rfl⟩ := bif_some hr
    have hl : len = 1 := by simpa using hl
    subst hl
    exact sm_lstore_n hC hd hs hp hok k
  case lstore n =>
    simp only [rsv] at hr
    obtain ⟨hl, rfl⟩ := bif_some hr
    have hl : len = 2 := by simpa using hl
    subst hl
    exact sm_lstore hC hd hs hp hok k
  case aload_n n =>
    simp only [rsv] at hr
    obtain ⟨hl, rfl⟩ := bif_some hr
    have hl : len = 1 := by simpa using hl
    subst hl
    exact sm_aload_n hC hd hs hp hok k
  case aload n =>
    simp only [rsv] at hr
    obtain ⟨hl, rfl⟩ := bif_some hr
    have hl : len = 2 := by simpa using hl
    subst hl
    exact sm_aload hC hd hs hp hok k
  case astore_n n =>
    simp only [rsv] at hr
    obtain ⟨hl, rfl⟩ := bif_some hr
    have hl : len = 1 := by simpa using hl
    subst hl
    exact sm_astore_n hC hd hs hp hok k
  case astore n =>
    simp only [rsv] at hr
    obtain ⟨hl, rfl⟩ := bif_some hr
    have hl : len = 2 := by simpa using hl
    subst hl
    exact sm_astore hC hd hs hp hok k
  case iinc i n =>
    simp only [rsv] at hr
    obtain ⟨hl, rfl⟩ := bif_some hr
    have hl : len = 3 := by simpa using hl
    subst hl
    exact sm_iinc hC hd hs hp hok k
  case goto o =>
    simp only [rsv] at hr
    obtain ⟨hl, rfl⟩ := bif_some hr
    simp only [Bool.and_eq_true, decide_eq_true_eq, beq_iff_eq] at hl
    obtain ⟨hl, h1⟩ := hl
    subst hl
    exact sm_goto h1 hC hd hs hp hok k
  case ifCond cd o =>
    simp only [rsv] at hr
    obtain ⟨hl, rfl⟩ := bif_some hr
    simp only [Bool.and_eq_true, decide_eq_true_eq, beq_iff_eq] at hl
    obtain ⟨hl, h1⟩ := hl
    subst hl
    exact sm_ifCond h1 hC hd hs hp hok k
  case if_icmp cd o =>
    simp only [rsv] at hr
    obtain ⟨hl, rfl⟩ := bif_some hr
    simp only [Bool.and_eq_true, decide_eq_true_eq, beq_iff_eq] at hl
    obtain ⟨hl, h1⟩ := hl
    subst hl
    exact sm_if_icmp h1 hC hd hs hp hok k
  case tableswitch d lo hi offs =>
    simp only [rsv] at hr
    obtain ⟨hl, rfl⟩ := bif_some hr
    obtain ⟨hl, h3⟩ := and2 hl
    obtain ⟨h1, h2⟩ := and2 hl
    exact sm_tsw (of_decide_eq_true h1) h2 (of_decide_eq_true h3) hC hd hs hp hok k
  case getfield i =>
    simp only [rsv, Bool.cond_eq_ite] at hr
    split at hr
    · rename_i hl
      have hl : len = 3 := by simpa using hl
      subst hl
      cases hq : fldQ (mO y) i with
      | none => rw [hq] at hr; cases hr
      | some v => rw [hq] at hr; cases hr; exact sm_getfield hq hC hd hs hp hok k
    · cases hr
  case putfield i =>
    simp only [rsv, Bool.cond_eq_ite] at hr
    split at hr
    · rename_i hl
      have hl : len = 3 := by simpa using hl
      subst hl
      cases hq : fldQ (mO y) i with
      | none => rw [hq] at hr; cases hr
      | some v =>
        rw [hq] at hr
        simp only [Option.bind_some] at hr
        split at hr
        · rename_i hb
          cases hr
          cases hf : fFin v.1 v.2.1 with
          | false => exact sm_putfield hq hf hC hd hs hp hok k
          | true =>
            rw [hf] at hb
            simp at hb
            exact sm_putF hq hf hb hC hd hs hp hok k
        · cases hr
    · cases hr
  case new i =>
    simp only [rsv, Bool.cond_eq_ite] at hr
    split at hr
    · rename_i hl
      have hl : len = 3 := by simpa using hl
      subst hl
      cases hq : cllQ (mO y) i with
      | none => rw [hq] at hr; cases hr
      | some v => rw [hq] at hr; cases hr; exact sm_new hq hC hd hs hp hok hn0 hq0 hNc hNs k
    · cases hr
  case newarray t =>
    simp only [rsv] at hr
    obtain ⟨hl, rfl⟩ := bif_some hr
    have hl : len = 2 := by simpa using hl
    subst hl
    cases t
    case int => exact sm_newarray_int hC hd hs hp hok hn0 hq0 hNc hNs k
    case long => exact sm_newarray_long hC hd hs hp hok hn0 hq0 hNc hNs k
    case boolean => exact sm_newarray_boolean hC hd hs hp hok hn0 hq0 hNc hNs k
    all_goals (simp only [stp, Bool.cond_eq_ite] at hs; repeat' split at hs) <;> cases hs
  case iaload =>
    simp only [rsv, Bool.cond_eq_ite] at hr
    split at hr
    · rename_i hl
      have hl : len = 1 := by simpa using hl
      subst hl
      split at hr
      · rename_i hy
        cases hr
        exact sm_caload (by simpa using hy) hC hd hs hp hok k
      · cases hr
        exact sm_iaload hC hd hs hp hok k
    · cases hr
  case arraylength =>
    simp only [rsv, Bool.cond_eq_ite] at hr
    split at hr
    · rename_i hl
      have hl : len = 1 := by simpa using hl
      subst hl
      split at hr
      · rename_i hy
        cases hr
        exact sm_saload (by simpa using hy) hC hd hs hp hok k
      · cases hr
        exact sm_arraylength hC hd hs hp hok k
    · cases hr
  case invokevirtual i =>
    simp only [rsv, Bool.cond_eq_ite] at hr
    split at hr
    · cases hq : mthQ (mO y) i with
      | none => rw [hq] at hr; cases hr
      | some v =>
        rw [hq] at hr
        simp only [Option.bind_some] at hr
        split at hr
        · cases hr
          simp only [stp] at hs
          cases hs
        · cases hr
    · cases hr
  case invokespecial i =>
    simp only [rsv, Bool.cond_eq_ite] at hr
    split at hr
    · rename_i hl
      have hl : len = 3 := by simpa using hl
      subst hl
      cases hq : mthQ (mO y) i with
      | none => rw [hq] at hr; cases hr
      | some v =>
        rw [hq] at hr
        simp only [Option.bind_some] at hr
        split at hr
        · split at hr
          · cases hr
            simp only [stp] at hs
            cases hs
          · cases hr
        · split at hr
          · rename_i hb
            cases hr
            simp only [Bool.and_eq_true, beq_iff_eq] at hb
            exact sm_oinit hq hb.1.1 (Nat.le_of_ble_eq_true hb.1.2) (Nat.le_of_ble_eq_true hb.2) hC hd hs hp hok k
          · cases hr
    · cases hr
  case invokestatic i =>
    simp only [rsv, Bool.cond_eq_ite] at hr
    split at hr
    · rename_i hl
      have hl : len = 3 := by simpa using hl
      subst hl
      cases hq : mthQ (mO y) i with
      | none => rw [hq] at hr; cases hr
      | some v =>
        rw [hq] at hr
        simp only [Option.bind_some] at hr
        split at hr
        · split at hr
          · cases hr
            simp only [stp] at hs
            cases hs
          · cases hr
        · rename_i hge
          split at hr
          · rename_i hb
            cases hr
            simp only [Bool.or_eq_true, Bool.and_eq_true, beq_iff_eq] at hb
            have hge : ¬ v.1 < 1000 := fun q => hge (by simpa [Nat.blt_eq] using q)
            rcases hb with hb | hb
            · have h1 := Nat.le_of_ble_eq_true hb.1.1
              have h2 : v.1 = 1000 ∨ v.1 = 1001 := by omega
              rcases h2 with h2 | h2
              · rw [h2] at hs
                exact sm_max hq h2 (Nat.le_of_ble_eq_true hb.1.2) (Nat.le_of_ble_eq_true hb.2) hC hd hs hp hok hNc0 hNs0 k
              · rw [h2] at hs
                exact sm_min hq h2 (Nat.le_of_ble_eq_true hb.1.2) (Nat.le_of_ble_eq_true hb.2) hC hd hs hp hok hNc0 hNs0 k
            · rw [hb.1.1] at hs
              exact sm_copy hq hb.1.1 (Nat.le_of_ble_eq_true hb.1.2) (Nat.le_of_ble_eq_true hb.2) hC hd hs hp hok k
          · cases hr
    · cases hr
  case baload =>
    simp only [rsv] at hr
    obtain ⟨hl, rfl⟩ := bif_some hr
    have hl : len = 1 := by simpa using hl
    subst hl
    exact sm_baload hC hd hs hp hok k
  case bastore =>
    simp only [rsv] at hr
    obtain ⟨hl, rfl⟩ := bif_some hr
    have hl : len = 1 := by simpa using hl
    subst hl
    exact sm_bastore hC hd hs hp hok k
  case laload =>
    simp only [rsv] at hr
    obtain ⟨hl, rfl⟩ := bif_some hr
    have hl : len = 1 := by simpa using hl
    subst hl
    exact sm_laload hC hd hs hp hok k
  case lastore =>
    simp only [rsv] at hr
    obtain ⟨hl, rfl⟩ := bif_some hr
    have hl : len = 1 := by simpa using hl
    subst hl
    exact sm_lastore hC hd hs hp hok k
  case iastore =>
    simp only [rsv] at hr
    obtain ⟨hl, rfl⟩ := bif_some hr
    have hl : len = 1 := by simpa using hl
    subst hl
    exact sm_iastore hC hd hs hp hok k
  case iadd =>
    simp only [rsv] at hr
    obtain ⟨hl, rfl⟩ := bif_some hr
    have hl : len = 1 := by simpa using hl
    subst hl
    exact sm_iadd hC hd hs hp hok k
  case isub =>
    simp only [rsv] at hr
    obtain ⟨hl, rfl⟩ := bif_some hr
    have hl : len = 1 := by simpa using hl
    subst hl
    exact sm_isub hC hd hs hp hok k
  case imul =>
    simp only [rsv] at hr
    obtain ⟨hl, rfl⟩ := bif_some hr
    have hl : len = 1 := by simpa using hl
    subst hl
    exact sm_imul hC hd hs hp hok k
  case ineg =>
    simp only [rsv] at hr
    obtain ⟨hl, rfl⟩ := bif_some hr
    have hl : len = 1 := by simpa using hl
    subst hl
    exact sm_ineg hC hd hs hp hok k
  case idiv =>
    simp only [rsv] at hr
    obtain ⟨hl, rfl⟩ := bif_some hr
    have hl : len = 1 := by simpa using hl
    subst hl
    exact sm_idiv hC hd hs hp hok k
  case irem =>
    simp only [rsv] at hr
    obtain ⟨hl, rfl⟩ := bif_some hr
    have hl : len = 1 := by simpa using hl
    subst hl
    exact sm_irem hC hd hs hp hok k
  case iand =>
    simp only [rsv] at hr
    obtain ⟨hl, rfl⟩ := bif_some hr
    have hl : len = 1 := by simpa using hl
    subst hl
    exact sm_iand hC hd hs hp hok k
  case ishr =>
    simp only [rsv] at hr
    obtain ⟨hl, rfl⟩ := bif_some hr
    have hl : len = 1 := by simpa using hl
    subst hl
    exact sm_ishr hC hd hs hp hok k
  case i2l =>
    simp only [rsv] at hr
    obtain ⟨hl, rfl⟩ := bif_some hr
    have hl : len = 1 := by simpa using hl
    subst hl
    exact sm_i2l hC hd hs hp hok k
  case l2i =>
    simp only [rsv] at hr
    obtain ⟨hl, rfl⟩ := bif_some hr
    have hl : len = 1 := by simpa using hl
    subst hl
    exact sm_l2i hC hd hs hp hok k
  case ladd =>
    simp only [rsv] at hr
    obtain ⟨hl, rfl⟩ := bif_some hr
    have hl : len = 1 := by simpa using hl
    subst hl
    exact sm_ladd hC hd hs hp hok k
  case lsub =>
    simp only [rsv] at hr
    obtain ⟨hl, rfl⟩ := bif_some hr
    have hl : len = 1 := by simpa using hl
    subst hl
    exact sm_lsub hC hd hs hp hok k
  case land =>
    simp only [rsv] at hr
    obtain ⟨hl, rfl⟩ := bif_some hr
    have hl : len = 1 := by simpa using hl
    subst hl
    exact sm_land hC hd hs hp hok k
  case lor =>
    simp only [rsv] at hr
    obtain ⟨hl, rfl⟩ := bif_some hr
    have hl : len = 1 := by simpa using hl
    subst hl
    exact sm_lor hC hd hs hp hok k
  case lxor =>
    simp only [rsv] at hr
    obtain ⟨hl, rfl⟩ := bif_some hr
    have hl : len = 1 := by simpa using hl
    subst hl
    exact sm_lxor hC hd hs hp hok k
  case lushr =>
    simp only [rsv] at hr
    obtain ⟨hl, rfl⟩ := bif_some hr
    have hl : len = 1 := by simpa using hl
    subst hl
    exact sm_lushr hC hd hs hp hok k
  case lshl =>
    simp only [rsv] at hr
    obtain ⟨hl, rfl⟩ := bif_some hr
    have hl : len = 1 := by simpa using hl
    subst hl
    exact sm_lshl hC hd hs hp hok k
  case lshr =>
    simp only [rsv] at hr
    obtain ⟨hl, rfl⟩ := bif_some hr
    have hl : len = 1 := by simpa using hl
    subst hl
    exact sm_lshr hC hd hs hp hok k
  case lcmp =>
    simp only [rsv] at hr
    obtain ⟨hl, rfl⟩ := bif_some hr
    have hl : len = 1 := by simpa using hl
    subst hl
    exact sm_lcmp hC hd hs hp hok k
  case dup =>
    simp only [rsv] at hr
    obtain ⟨hl, rfl⟩ := bif_some hr
    have hl : len = 1 := by simpa using hl
    subst hl
    exact sm_dup hC hd hs hp hok k
  case dup2 =>
    simp only [rsv] at hr
    obtain ⟨hl, rfl⟩ := bif_some hr
    have hl : len = 1 := by simpa using hl
    subst hl
    exact sm_dup2 hC hd hs hp hok k
  case pop =>
    simp only [rsv] at hr
    obtain ⟨hl, rfl⟩ := bif_some hr
    have hl : len = 1 := by simpa using hl
    subst hl
    exact sm_pop hC hd hs hp hok k
  case pop2 =>
    simp only [rsv] at hr
    obtain ⟨hl, rfl⟩ := bif_some hr
    have hl : len = 1 := by simpa using hl
    subst hl
    exact sm_pop2 hC hd hs hp hok k
  case ireturn =>
    simp only [rsv] at hr
    obtain ⟨hl, rfl⟩ := bif_some hr
    simp only [stp] at hs
    cases hs
  case lreturn =>
    simp only [rsv] at hr
    obtain ⟨hl, rfl⟩ := bif_some hr
    simp only [stp] at hs
    cases hs
  case return_ =>
    simp only [rsv] at hr
    obtain ⟨hl, rfl⟩ := bif_some hr
    simp only [stp] at hs
    cases hs
  all_goals (simp only [rsv] at hr; cases hr)
theorem ret_raw {raw : Instr} {len : Nat} : (rsv y pc raw len = some .ireturn → raw = .ireturn ∧ len = 1) ∧ (rsv y pc raw len = some .lreturn → raw = .lreturn ∧ len = 1) ∧ (rsv y pc raw len = some .return_ → raw = .return_ ∧ len = 1) := by
  refine ⟨fun h => ?_, fun h => ?_, fun h => ?_⟩ <;> unfold rsv at h <;> split at h
  all_goals first
    | (cases h; done)
    | (obtain ⟨hl, hh⟩ := bif_some h; cases hh; exact ⟨rfl, by simpa using hl⟩)
    | (obtain ⟨hl, hh⟩ := bif_some h; cases hh; done)
    | (simp only [Bool.cond_eq_ite] at h; repeat' split at h) <;> first | (cases h; done) | (simp [Option.map_eq_some_iff, Option.bind_eq_some_iff] at h; done) | (simp only [Option.bind_eq_some_iff] at h; obtain ⟨w, -, h⟩ := h; (repeat' split at h) <;> cases h)
theorem call_raw {raw : Instr} {len cid : Nat} (h : rsv y pc raw len = some (.invokespecial cid)) : len = 3 ∧ ∃ i t, mthQ (mO y) i = some t ∧ t.1 = cid ∧ t.1 < 1000 ∧ ((raw = .invokevirtual i ∧ mSt t.1 = false ∧ mIn t.1 = false) ∨ (raw = .invokestatic i ∧ mSt t.1 = true) ∨ (raw = .invokespecial i ∧ mIn t.1 = true)) := by
  cases raw
  case invokevirtual i =>
    simp only [rsv, Bool.cond_eq_ite] at h
    split at h
    · rename_i hl
      refine ⟨by simpa using hl, i, ?_⟩
      cases hq : mthQ (mO y) i with
      | none => rw [hq] at h; cases h
      | some v =>
        rw [hq] at h
        simp only [Option.bind_some] at h
        split at h
        · rename_i hb
          cases h
          simp only [Bool.and_eq_true, Bool.not_eq_true'] at hb
          exact ⟨v, rfl, rfl, blt_lt hb.1.1, Or.inl ⟨rfl, hb.1.2, hb.2⟩⟩
        · cases h
    · cases h
  case invokestatic i =>
    simp only [rsv, Bool.cond_eq_ite] at h
    split at h
    · rename_i hl
      refine ⟨by simpa using hl, i, ?_⟩
      cases hq : mthQ (mO y) i with
      | none => rw [hq] at h; cases h
      | some v =>
        rw [hq] at h
        simp only [Option.bind_some] at h
        split at h
        · rename_i hlt
          split at h
          · rename_i hb
            cases h
            exact ⟨v, rfl, rfl, blt_lt hlt, Or.inr (Or.inl ⟨rfl, hb⟩)⟩
          · cases h
        · split at h <;> cases h
    · cases h
  case invokespecial i =>
    simp only [rsv, Bool.cond_eq_ite] at h
    split at h
    · rename_i hl
      refine ⟨by simpa using hl, i, ?_⟩
      cases hq : mthQ (mO y) i with
      | none => rw [hq] at h; cases h
      | some v =>
        rw [hq] at h
        simp only [Option.bind_some] at h
        split at h
        · rename_i hlt
          split at h
          · rename_i hb
            cases h
            exact ⟨v, rfl, rfl, blt_lt hlt, Or.inr (Or.inr ⟨rfl, hb⟩)⟩
          · cases h
        · split at h <;> cases h
    · cases h
  all_goals first
    | (simp only [rsv] at h; cases h; done)
    | (simp only [rsv, Bool.cond_eq_ite] at h; repeat' split at h) <;> first | (cases h; done) | (simp [Option.map_eq_some_iff] at h; done) | (simp only [Option.bind_eq_some_iff] at h; obtain ⟨w, -, h⟩ := h; (repeat' split at h) <;> cases h)
theorem pm_sim {K : Nat → List AV → M5 → Option AV → M5 → Prop} (hKo : KOk L xs K) (hKc : ∀ cid as M rv M1, K cid as M rv M1 → 0 < cid → cid < 200 → (∀ v ∈ as, okV v) → okM L xs M → Ctr l b cid as M rv M1) : ∀ (k : Nat) (z : ST) (r : Option AV) (M' : M5), runK K y k z r M' → pmCx p l R s m args meth c D g b0 b L xs y n0 q0 Nc Ns → okS L xs z → n0 ≤ z.2.2.2.1 → q0 ≤ slT z.2.2.2.1 z.2.2.2.2.1 → M'.1 ≤ Nc → slT M'.1 M'.2.1 ≤ Ns →
    (∀ (pc : Nat) (rl : Array Slot) (H : Heap) (locs : List Loc), retAt y pc r → wld D g b0 M' H → va_S (fun q => b0 ≤ q) s.heap H locs → W p l e R s m args below meth c H locs (M'.1 - n0) (slT M'.1 M'.2.1 - q0) Q (F0 m pc rl ((r.map (cv b0 b)).toList))) →
    pmAt p l e R s m args below meth c Q D g b0 b y n0 q0 z := by
  intro k
  induction k with
  | zero => intro z r M' h; exact h.elim
  | succ k ih =>
    intro z r M' h hC hs hn hq hNc hNs hret
    obtain ⟨pc, ls, st, M⟩ := z
    obtain ⟨f1, f2, f3, f4⟩ := run_ok hKo _ _ _ _ h hs
    simp only [runK] at h
    split at h
    · exact h.elim
    · rename_i len hf
      obtain ⟨raw, hd, hr⟩ := fetch_raw hf
      obtain ⟨rfl, rfl⟩ := ret_raw.1 hr
      obtain ⟨q, h1, h2, rfl, rfl⟩ := h
      intro H locs rl g1 g2 g3
      have h1 : st = [aI q] := h1
      subst h1
      exact hret pc rl H locs ⟨hd, h2⟩ g1 g2
    · rename_i len hf
      obtain ⟨raw, hd, hr⟩ := fetch_raw hf
      obtain ⟨rfl, rfl⟩ := ret_raw.2.1 hr
      obtain ⟨q, h1, h2, rfl, rfl⟩ := h
      intro H locs rl g1 g2 g3
      have h1 : st = [aL q] := h1
      subst h1
      exact hret pc rl H locs ⟨hd, h2⟩ g1 g2
    · rename_i len hf
      obtain ⟨raw, hd, hr⟩ := fetch_raw hf
      obtain ⟨rfl, rfl⟩ := ret_raw.2.2 hr
      obtain ⟨h1, h2, rfl, rfl⟩ := h
      intro H locs rl g1 g2 g3
      have h1 : st = [] := h1
      subst h1
      exact hret pc rl H locs ⟨hd, h2⟩ g1 g2
    · rename_i cid len hf
      obtain ⟨raw, hd, hr⟩ := fetch_raw hf
      obtain ⟨rfl, i, t, hq2, ht, hlt, hkind⟩ := call_raw hr
      obtain ⟨h1, rv, M1, h2, h3, h4⟩ := h
      dsimp only at h1 h2 h4 hn hq f3 f4
      have has : ∀ v ∈ (st.take (mNA cid)).reverse, okV v := fun v hv => hs.2.1 v (List.mem_of_mem_take (List.mem_reverse.mp hv))
      obtain ⟨g1, g2, g3, g4⟩ := hKo _ _ _ _ _ h2 has hs.2.2
      obtain ⟨k0, k1, -⟩ := mth_big hq2 hlt
      have hctr := hKc _ _ _ _ _ h2 (by rw [← ht]; exact k0) (by rw [← ht]; exact k1) has hs.2.2
      have hs2 : okS L xs (pc + 3, ls, rv.toList ++ st.drop (mNA cid), M1) := ⟨hs.1, fun v hv => by
        rcases List.mem_append.mp hv with hv | hv
        · exact g1 v (by cases rv with
            | none => cases hv
            | some w => simp only [Option.toList, List.mem_singleton] at hv; rw [hv])
        · exact hs.2.1 v (List.mem_of_mem_drop hv), g2⟩
      obtain ⟨-, -, f5, f6⟩ := run_ok hKo _ _ _ _ h4 hs2
      dsimp only at f5 f6
      have kk := ih _ _ _ h4 hC hs2 (Nat.le_trans hn g3) (Nat.le_trans hq g4) hNc hNs hret
      rcases hkind with ⟨rfl, a1, a2⟩ | ⟨rfl, a1⟩ | ⟨rfl, a1⟩
      · exact sc_virt hC hs hq2 ht hlt h1 hctr hn hq g3 g4 (Nat.le_trans f5 hNc) (Nat.le_trans f6 hNs) a1 a2 hd kk
      · exact sc_stat hC hs hq2 ht hlt h1 hctr hn hq g3 g4 (Nat.le_trans f5 hNc) (Nat.le_trans f6 hNs) a1 hd kk
      · exact sc_init hC hs hq2 ht hlt h1 hctr hn hq g3 g4 (Nat.le_trans f5 hNc) (Nat.le_trans f6 hNs) a1 hd kk
    · rename_i op len _ _ _ _ hf
      obtain ⟨raw, hd, hr⟩ := fetch_raw hf
      obtain ⟨ps, z', h1, h2, h3⟩ := h
      dsimp only at hn hq f3 f4
      obtain ⟨g1, g2, g3⟩ := stp_ok h1 h2 hs
      obtain ⟨-, -, f5, f6⟩ := run_ok hKo _ _ _ _ h3 g1
      exact sim_step hC hd hr h1 h2 hs hn hq (Nat.le_trans f3 hNc) (Nat.le_trans f4 hNs) (Nat.le_trans f5 hNc) (Nat.le_trans f6 hNs) (ih _ _ _ h3 hC g1 (Nat.le_trans hn g2) (Nat.le_trans hq g3) hNc hNs hret)
end TOP
theorem Rn_Ctr (l : Launch) (b L : Nat) (xs : Nat → Int32) : ∀ d cid as M rv M1, Rn d cid as M rv M1 → 0 < cid → cid < 200 → (∀ v ∈ as, okV v) → okM L xs M → Ctr l b cid as M rv M1 := by
  intro d
  induction d with
  | zero => intro cid as M rv M1 h; exact h.elim
  | succ d ih =>
    intro cid as M rv M1 h h0 h1 has hM
    obtain ⟨hlen, k, h⟩ := h
    intro D g b0
    have hKo := Rn_ok L xs d
    have hs0 : okS L xs (0, entL as (mL cid), [], M) := ⟨ok_ent has, (fun v hv => by cases hv), hM⟩
    obtain ⟨f1, f2, f3, f4⟩ := run_ok hKo _ _ _ _ h hs0
    dsimp only at f3 f4
    refine Met.ofW (cc := mB cid) (maxL := mL cid) (ret := mR cid) (tb_met5 cid h1 h0) rfl ?_
    intro p e s m args below meth c s₁ B hml hv
    obtain ⟨rfl, hsz, hP, hK, hN⟩ := hv
    have hts := atoms_spec (ws := wsM cid) B.pre
    have hown : s.vm.findClass (nmO (mO cid)) = some m.cls := by rw [← tb_met1 cid h1 h0]; exact findClass_of_methodNamed B.named
    have hlocks := B.notSynchronized
    have hr := B.returns
    rw [lg_entry_eq]
    have hC : pmCx p l (headSpec (wsM cid) (rmM cid M M1)).room s m (as.map (cv b0 b)).toArray meth c D g b0 b L xs cid M.1 (slT M.1 M.2.1) M1.1 (slT M1.1 M1.2.1) :=
      ⟨B.exec, B.bytes, hml, hown, fun w hw => hts w (List.mem_cons_of_mem _ hw), hK, hN, hsz, fun hi => by rw [(name_of_methodNamed B.named B.method).1]; exact (tb_met6 cid h1 h0 hi).1, Nat.le_refl _, Nat.le_refl _, Nat.le_refl _, Nat.le_refl _, fun h => by omega⟩
    have hS0 : va_S (fun q => b0 ≤ q) s.heap s.heap [] := va_S.rf
    have main := pm_sim (y := cid) (e := e) (below := below) (Q := MQ below (pmQ D g b0 b rv M1) (as.map (cv b0 b)).toArray s (M1.1 - M.1) (slT M1.1 M1.2.1 - slT M.1 M.2.1) (fun q => b0 ≤ q)) hKo (fun cid as M rv M1 q a1 a2 a3 a4 => ih cid as M rv M1 q a1 a2 a3 a4) k _ _ _ h hC hs0 (Nat.le_refl _) (Nat.le_refl _) (Nat.le_refl _) (Nat.le_refl _) ?_
    · have := main s.heap [] _ hP hS0 (lhas_entry as hlen)
      dsimp only at this
      rw [Nat.sub_self, Nat.sub_self] at this
      exact this
    · intro pc rl H locs hra hw hS
      have hq : ∀ t : State, t.heap = H → pmQ D g b0 b rv M1 (as.map (cv b0 b)).toArray s (.returned (rv.map (cv b0 b))) t := fun t ht => ⟨rfl, by rw [ht]; exact hw, by rw [ht]; exact hS.1, fun q hq => by
        rw [ht]
        by_cases hl : q < s.heap.size
        · exact hS.2.1 q hl (Nat.not_le.mpr hq)
        · omega⟩
      match rv, hra, hq with
      | some (.inl z), hra, hq =>
        obtain ⟨hd, hz⟩ := hra
        rcases hz with hz | ⟨hz, hz2⟩
        · exact W.iret B.exec B.bytes (by rw [hr]; exact hz) (fun t ht _ => hq t ht) hS.2.2 hd
        · exact W.zret (ty := .boolean) B.exec B.bytes (by rw [hr]; exact hz) (fz hz2).1 (fun t ht _ => hq t ht) hS.2.2 hd
      | some (.inr (.inl z)), hra, hq =>
        obtain ⟨hd, hz⟩ := hra
        exact W.lret B.exec B.bytes (by rw [hr]; exact hz) (fun t ht _ => hq t ht) hS.2.2 hd
      | none, hra, hq =>
        obtain ⟨hd, hz⟩ := hra
        exact W.vret B.exec B.bytes (by rw [hr]; exact hz) (fun t ht _ => hq t ht) hS.2.2 hd
