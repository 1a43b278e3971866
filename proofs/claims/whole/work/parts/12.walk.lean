/-! ===== walking the plain machine ===== -/
theorem allP_app : ∀ (ps qs : List Prop), allP (ps ++ qs) → allP ps ∧ allP qs
  | [], qs, h => ⟨trivial, h⟩
  | [p], [], h => ⟨h, trivial⟩
  | [p], q :: r, h => ⟨h.1, h.2⟩
  | p :: p2 :: r, qs, h => by
    have h2 : p ∧ allP ((p2 :: r) ++ qs) := h
    obtain ⟨a, b⟩ := allP_app (p2 :: r) qs h2.2
    exact ⟨⟨h2.1, a⟩, b⟩
theorem runK_mono {K K' : Nat → List AV → M5 → Option AV → M5 → Prop} {y : Nat} (h : ∀ c a M r M1, K c a M r M1 → K' c a M r M1) : ∀ (k k' : Nat) (z : ST) (r : Option AV) (M' : M5), k ≤ k' → runK K y k z r M' → runK K' y k' z r M' := by
  intro k
  induction k with
  | zero => intro k' z r M' _ q; exact q.elim
  | succ k ih =>
    intro k' z r M' hk q
    obtain ⟨k2, rfl⟩ : ∃ k2, k' = k2 + 1 := ⟨k' - 1, by omega⟩
    simp only [runK] at q ⊢
    split at q
    · exact q.elim
    · exact q
    · exact q
    · exact q
    · obtain ⟨h1, rv, M1, h2, h3, h4⟩ := q
      exact ⟨h1, rv, M1, h _ _ _ _ _ h2, h3, ih _ _ _ _ (by omega) h4⟩
    · obtain ⟨ps, z', h1, h2, h3⟩ := q
      exact ⟨ps, z', h1, h2, ih _ _ _ _ (by omega) h3⟩
theorem Rn_mono : ∀ (d d' : Nat) (c : Nat) (a : List AV) (M : M5) (r : Option AV) (M1 : M5), d ≤ d' → Rn d c a M r M1 → Rn d' c a M r M1 := by
  intro d
  induction d with
  | zero => intro d' c a M r M1 _ h; exact h.elim
  | succ d ih =>
    intro d' c a M r M1 hd h
    obtain ⟨d2, rfl⟩ : ∃ d2, d' = d2 + 1 := ⟨d' - 1, by omega⟩
    obtain ⟨h1, k, h2⟩ := h
    exact ⟨h1, k, runK_mono (fun c a M r M1 q => ih d2 c a M r M1 (by omega) q) k k _ _ _ (Nat.le_refl _) h2⟩
theorem run_ret {K : Nat → List AV → M5 → Option AV → M5 → Prop} {y : Nat} : ∀ (k : Nat) (z : ST) (r : Option AV) (M' : M5), runK K y k z r M' → retOk y r := by
  intro k
  induction k with
  | zero => intro z r M' q; exact q.elim
  | succ k ih =>
    intro z r M' q
    simp only [runK] at q
    split at q
    · exact q.elim
    · obtain ⟨z, h1, h2, rfl, h4⟩ := q; exact h2
    · obtain ⟨z, h1, h2, rfl, h4⟩ := q; exact h2
    · obtain ⟨h1, h2, rfl, h4⟩ := q; exact h2
    · obtain ⟨h1, rv, M1, h2, h3, h4⟩ := q; exact ih _ _ _ h4
    · obtain ⟨ps, z', h1, h2, h3⟩ := q; exact ih _ _ _ h3
theorem Rn_ret {d c : Nat} {a : List AV} {M : M5} {r : Option AV} {M1 : M5} (h : Rn d c a M r M1) : retOk c r := by
  cases d with
  | zero => exact h.elim
  | succ d => obtain ⟨-, k, h⟩ := h; exact run_ret _ _ _ _ h
/-- from a state of method y the run comes to a return with Q -/
def V (y : Nat) (z : ST) (Q : Option AV → M5 → Prop) : Prop := ∃ d k r M', runK (Rn d) y k z r M' ∧ Q r M'
/-- a call of y returns with Q -/
def CT (y : Nat) (args : List AV) (M : M5) (Q : Option AV → M5 → Prop) : Prop := ∃ d r M', Rn d y args M r M' ∧ Q r M'
theorem CT.mono {y : Nat} {args : List AV} {M : M5} {Q Q' : Option AV → M5 → Prop} (h : CT y args M Q) (hQ : ∀ r M', Q r M' → Q' r M') : CT y args M Q' := by
  obtain ⟨d, r, M', h1, h2⟩ := h
  exact ⟨d, r, M', h1, hQ _ _ h2⟩
theorem V.mono {y : Nat} {z : ST} {Q Q' : Option AV → M5 → Prop} (h : V y z Q) (hQ : ∀ r M', Q r M' → Q' r M') : V y z Q' := by
  obtain ⟨d, k, r, M', h1, h2⟩ := h
  exact ⟨d, k, r, M', h1, hQ _ _ h2⟩
theorem CT.ofV {y n : Nat} {args : List AV} {M : M5} {Q : Option AV → M5 → Prop} {ls : LV} (hn : mL y = n) (hl : Nat.ble (entA args).length n = true) (he : entL args n = ls) (h : V y (0, ls, [], M) Q) : CT y args M Q := by
  obtain ⟨d, k, r, M', h1, h2⟩ := h
  subst he
  subst hn
  exact ⟨d + 1, r, M', ⟨Nat.le_of_ble_eq_true hl, k, h1⟩, h2⟩
abbrev BK : Type := List (Nat × Instr × Nat)
def notC (op : Instr) : Bool := match op with
  | .ireturn => false
  | .lreturn => false
  | .return_ => false
  | .invokespecial _ => false
  | _ => true
def blkOk (y : Nat) (ops : BK) : Bool := ops.all (fun t => decide (fetch y t.1 = some t.2) && notC t.2.1)
def runB : BK → ST → Option (List Prop × ST)
  | [], z => some ([], z)
  | t :: r, z => bif Nat.beq t.1 z.1 then (match stp t.2.1 t.2.2 z with
    | some (ps, z') => (match runB r z' with
      | some (qs, w) => some (ps ++ qs, w)
      | none => none)
    | none => none) else none
theorem V.step {y : Nat} {z z' : ST} {op : Instr} {len : Nat} {ps : List Prop} {Q : Option AV → M5 → Prop} (hf : fetch y z.1 = some (op, len)) (hc : notC op = true) (hs : stp op len z = some (ps, z')) (hp : allP ps) (k : V y z' Q) : V y z Q := by
  obtain ⟨d, n, r, M', h1, h2⟩ := k
  refine ⟨d, n + 1, r, M', ?_, h2⟩
  simp only [runK]
  split
  · rename_i h; rw [hf] at h; cases h
  · rename_i h; rw [hf] at h; cases h; cases hc
  · rename_i h; rw [hf] at h; cases h; cases hc
  · rename_i h; rw [hf] at h; cases h; cases hc
  · rename_i h; rw [hf] at h; cases h; cases hc
  · rename_i h; rw [hf] at h; cases h
    exact ⟨ps, z', hs, hp, h1⟩
theorem V.blk {y : Nat} {Q : Option AV → M5 → Prop} : ∀ (ops : BK) {z z' : ST} {ps : List Prop}, blkOk y ops = true → runB ops z = some (ps, z') → allP ps → V y z' Q → V y z Q
  | [], z, z', ps, _, hr, _, k => by
    simp only [runB] at hr
    cases hr
    exact k
  | t :: r, z, z', ps, hf, hr, hp, k => by
    have h0 : (decide (fetch y t.1 = some t.2) && notC t.2.1) = true ∧ blkOk y r = true := by
      have : blkOk y (t :: r) = ((decide (fetch y t.1 = some t.2) && notC t.2.1) && blkOk y r) := by simp [blkOk]
      rw [this] at hf
      exact and2 hf
    obtain ⟨h1, h2⟩ := h0
    obtain ⟨h3, h4⟩ := and2 h1
    have h3 := of_decide_eq_true h3
    simp only [runB, Bool.cond_eq_ite] at hr
    split at hr
    · rename_i hpc
      have hpc := beq_of hpc
      split at hr
      · rename_i qs w hs
        split at hr
        · rename_i qs2 w2 hr2
          cases hr
          obtain ⟨p1, p2⟩ := allP_app _ _ hp
          exact V.step (by rw [← hpc]; exact h3) h4 hs p1 (V.blk r h2 hr2 p2 k)
        · cases hr
      · cases hr
    · cases hr
/-- what the tables say of a call: the callee, its number of arguments, its class (100: static) -/
def calOk (y pc c na o : Nat) : Bool := decide (fetch y pc = some (.invokespecial c, 3)) && Nat.blt c 200 && Nat.ble (mFr c + 1) (mFr y) && Nat.ble (8 + (mL c + 11) + mLo c) (mLo y) && Nat.beq (mNA c) na && (bif Nat.beq o 100 then mSt c else (!mSt c && Nat.beq (mO c) o))
theorem V.call {y pc c : Nat} {ls : LV} {st : List AV} {M : M5} {Q : Option AV → M5 → Prop} (hf : fetch y pc = some (.invokespecial c, 3)) (hc : callOk y c st M = true) (h : CT c ((st.take (mNA c)).reverse) M (fun rv M1 => V y (pc + 3, ls, rv.toList ++ st.drop (mNA c), M1) Q)) : V y (pc, ls, st, M) Q := by
  obtain ⟨d, r, M1, h1, d2, k, r2, M2, h2, h3⟩ := h
  refine ⟨max d d2, k + 1, r2, M2, ?_, h3⟩
  simp only [runK]
  split
  · rename_i q; rw [hf] at q; cases q
  · rename_i q; rw [hf] at q; cases q
  · rename_i q; rw [hf] at q; cases q
  · rename_i q; rw [hf] at q; cases q
  · rename_i q; rw [hf] at q; cases q
    exact ⟨hc, r, M1, Rn_mono _ _ _ _ _ _ _ (Nat.le_max_left _ _) h1, Rn_ret h1, runK_mono (fun c a M r M1 q => Rn_mono _ _ _ _ _ _ _ (Nat.le_max_right _ _) q) k k _ _ _ (Nat.le_refl _) h2⟩
  · rename_i q1 q2 q3 q4 q; rw [hf] at q; cases q; exact (q4 _ rfl).elim
theorem V.cs {y pc c na : Nat} {ls : LV} {M : M5} {Q : Option AV → M5 → Prop} (ar rest : List AV) (hf : calOk y pc c na 100 = true) (hl : ar.length = na) (hcat : Nat.ble (catS rest) 8 = true) (h : CT c ar.reverse M (fun rv M1 => V y (pc + 3, ls, rv.toList ++ rest, M1) Q)) : V y (pc, ls, ar ++ rest, M) Q := by
  simp only [calOk, Bool.and_eq_true, decide_eq_true_eq] at hf
  obtain ⟨⟨⟨⟨⟨h1, h2⟩, h3⟩, h4⟩, h5⟩, h6⟩ := hf
  have h5 := beq_of h5
  have e : mNA c = ar.length := h5.trans hl.symm
  refine V.call h1 ?_ ?_
  · simp only [callOk, Bool.and_eq_true]
    refine ⟨⟨⟨⟨⟨h2, h3⟩, h4⟩, Nat.ble_eq_true_of_le (by rw [e]; simp)⟩, by rw [e, List.drop_left]; exact hcat⟩, ?_⟩
    have h6 : mSt c = true := h6
    rw [h6]
    rfl
  · rw [e, List.take_left, List.drop_left]
    exact h
theorem V.cv {y pc c na o a : Nat} {ls : LV} {M : M5} {Q : Option AV → M5 → Prop} (ar rest : List AV) (hf : calOk y pc c na o = true) (ho : Nat.beq o 100 = false) (hl : ar.length + 1 = na) (hcat : Nat.ble (catS rest) 8 = true) (ha : Nat.blt a M.1 = true) (hS : Nat.beq (M.2.1 a).1 (o + 3) = true) (h : CT c (aR a :: ar.reverse) M (fun rv M1 => V y (pc + 3, ls, rv.toList ++ rest, M1) Q)) : V y (pc, ls, ar ++ aR a :: rest, M) Q := by
  simp only [calOk, Bool.and_eq_true, decide_eq_true_eq] at hf
  obtain ⟨⟨⟨⟨⟨h1, h2⟩, h3⟩, h4⟩, h5⟩, h6⟩ := hf
  have h5 := beq_of h5
  have e : mNA c = (ar ++ [aR a]).length := by simp; omega
  have e1 : mNA c - 1 = ar.length := by omega
  rw [ho] at h6
  simp only [cond_false, Bool.and_eq_true, Bool.not_eq_true'] at h6
  have e2 : ar ++ aR a :: rest = (ar ++ [aR a]) ++ rest := by simp
  refine V.call h1 ?_ ?_
  · simp only [callOk, Bool.and_eq_true]
    refine ⟨⟨⟨⟨⟨h2, h3⟩, h4⟩, Nat.ble_eq_true_of_le (by rw [e, e2]; simp)⟩, by rw [e, e2, List.drop_left]; exact hcat⟩, ?_⟩
    rw [h6.1, e1, List.drop_left]
    simp only [Bool.false_or]
    rw [ha, beq_of h6.2, hS]
    rfl
  · rw [e, e2, List.take_left, List.drop_left, List.reverse_append]
    exact h
theorem V.ri {y pc : Nat} {ls : LV} {z : Int} {M : M5} {Q : Option AV → M5 → Prop} (hf : (decide (fetch y pc = some (.ireturn, 1)) && decide (mR y = some .int)) = true) (h : Q (some (aI z)) M) : V y (pc, ls, [aI z], M) Q := by
  obtain ⟨h1, h2⟩ := and2 hf
  have h1 := of_decide_eq_true h1
  refine ⟨0, 1, _, _, ?_, h⟩
  simp only [runK, h1]
  exact ⟨z, by simp, Or.inl (of_decide_eq_true h2), by simp, by simp⟩
theorem V.rz {y pc : Nat} {ls : LV} {z : Int} {M : M5} {Q : Option AV → M5 → Prop} (hf : (decide (fetch y pc = some (.ireturn, 1)) && decide (mR y = some .boolean)) = true) (hz : 0 ≤ z ∧ z ≤ 1) (h : Q (some (aI z)) M) : V y (pc, ls, [aI z], M) Q := by
  obtain ⟨h1, h2⟩ := and2 hf
  have h1 := of_decide_eq_true h1
  refine ⟨0, 1, _, _, ?_, h⟩
  simp only [runK, h1]
  exact ⟨z, by simp, Or.inr ⟨of_decide_eq_true h2, hz⟩, by simp, by simp⟩
theorem V.rl {y pc : Nat} {ls : LV} {z : Int64} {M : M5} {Q : Option AV → M5 → Prop} (hf : (decide (fetch y pc = some (.lreturn, 1)) && decide (mR y = some .long)) = true) (h : Q (some (aL z)) M) : V y (pc, ls, [aL z], M) Q := by
  obtain ⟨h1, h2⟩ := and2 hf
  have h1 := of_decide_eq_true h1
  refine ⟨0, 1, _, _, ?_, h⟩
  simp only [runK, h1]
  exact ⟨z, by simp, of_decide_eq_true h2, by simp, by simp⟩
theorem V.rv {y pc : Nat} {ls : LV} {M : M5} {Q : Option AV → M5 → Prop} (hf : (decide (fetch y pc = some (.return_, 1)) && decide (mR y = none)) = true) (h : Q none M) : V y (pc, ls, [], M) Q := by
  obtain ⟨h1, h2⟩ := and2 hf
  have h1 := of_decide_eq_true h1
  refine ⟨0, 1, _, _, ?_, h⟩
  simp only [runK, h1]
  exact ⟨by simp, of_decide_eq_true h2, by simp, by simp⟩
section BR
variable {y a b : Nat} {ls : LV} {st : List AV} {M : M5} {Q : Option AV → M5 → Prop} {u v : Int}
theorem V.eq (h1 : u = v → V y (a, ls, st, M) Q) (h2 : ¬ u = v → V y (b, ls, st, M) Q) : V y (brc .eq u v a b, ls, st, M) Q := by
  by_cases h : u = v
  · have := h1 h; rwa [show brc .eq u v a b = a from if_pos h]
  · have := h2 h; rwa [show brc .eq u v a b = b from if_neg h]
theorem V.ne (h1 : ¬ u = v → V y (a, ls, st, M) Q) (h2 : u = v → V y (b, ls, st, M) Q) : V y (brc .ne u v a b, ls, st, M) Q := by
  by_cases h : u = v
  · have := h2 h; rwa [show brc .ne u v a b = b from if_pos h]
  · have := h1 h; rwa [show brc .ne u v a b = a from if_neg h]
theorem V.lt (h1 : u < v → V y (a, ls, st, M) Q) (h2 : v ≤ u → V y (b, ls, st, M) Q) : V y (brc .lt u v a b, ls, st, M) Q := by
  by_cases h : u < v
  · have := h1 h; rwa [show brc .lt u v a b = a from if_pos h]
  · have := h2 (Int.not_lt.mp h); rwa [show brc .lt u v a b = b from if_neg h]
theorem V.ge (h1 : v ≤ u → V y (a, ls, st, M) Q) (h2 : u < v → V y (b, ls, st, M) Q) : V y (brc .ge u v a b, ls, st, M) Q := by
  by_cases h : u < v
  · have := h2 h; rwa [show brc .ge u v a b = b from if_pos h]
  · have := h1 (Int.not_lt.mp h); rwa [show brc .ge u v a b = a from if_neg h]
theorem V.gt (h1 : v < u → V y (a, ls, st, M) Q) (h2 : u ≤ v → V y (b, ls, st, M) Q) : V y (brc .gt u v a b, ls, st, M) Q := by
  by_cases h : v < u
  · have := h1 h; rwa [show brc .gt u v a b = a from if_pos h]
  · have := h2 (Int.not_lt.mp h); rwa [show brc .gt u v a b = b from if_neg h]
theorem V.le (h1 : u ≤ v → V y (a, ls, st, M) Q) (h2 : v < u → V y (b, ls, st, M) Q) : V y (brc .le u v a b, ls, st, M) Q := by
  by_cases h : v < u
  · have := h2 h; rwa [show brc .le u v a b = b from if_pos h]
  · have := h1 (Int.not_lt.mp h); rwa [show brc .le u v a b = a from if_neg h]
theorem V.ts {d lo hi : Int} {offs : List Int} (h1 : ∀ k : Nat, u = lo + k → k < offs.length → lo + k ≤ hi → V y ((offs.getD k d).toNat, ls, st, M) Q) (hlen : (offs.length : Int) = hi - lo + 1) (h2 : (u < lo ∨ hi < u) → V y (d.toNat, ls, st, M) Q) : V y (tsw d lo hi offs u, ls, st, M) Q := by
  by_cases h : lo ≤ u ∧ u ≤ hi
  · have := h1 (u - lo).toNat (by omega) (by omega) (by omega)
    rwa [show tsw d lo hi offs u = (offs.getD (u - lo).toNat d).toNat from if_pos h]
  · have := h2 (by omega)
    rwa [show tsw d lo hi offs u = d.toNat from if_neg h]
/-- a name for a term of the state -/
theorem V.nm {α : Type} {y : Nat} {Q : Option AV → M5 → Prop} (f : α → ST) (x : α) (h : ∀ w, w = x → V y (f w) Q) : V y (f x) Q := h x rfl
end BR
