/-! ===== the plain machine's states on the real one ===== -/
def cv (b0 b : Nat) : AV → Value
  | .inl z => .int (Int32.ofInt z)
  | .inr (.inl z) => .long z
  | .inr (.inr none) => .null
  | .inr (.inr (some i)) => .ref (if i = SCR then b else b0 + i)
def fv (b0 : Nat) (M : M5) (i ci k : Nat) : Value := bif Nat.beq (fK ci k) 2 then (match M.2.2.1 i k with | some j => .ref (b0 + j) | none => .null) else .int (Int32.ofInt (M.2.2.2.1 i k))
abbrev G3 : Type := ClassId × ClassId × ClassId
def cellOf (g : G3) (b0 : Nat) (M : M5) (i : Nat) : va_E := match (M.2.1 i).1 with
  | 0 => .inl (g.1, (M.2.1 i).2, .inl (fun k => Int32.ofInt (M.2.2.2.1 i k)))
  | 1 => .inl (g.2.1, (M.2.1 i).2, .inr (.inl (M.2.2.2.2 i)))
  | 2 => .inl (g.2.2, (M.2.1 i).2, .inl (fun k => Int32.ofInt (M.2.2.2.1 i k)))
  | c + 3 => .inr (c, (List.range (nF c)).map (fv b0 M i c))
def wl (g : G3) (b0 : Nat) (M : M5) : va_W := (List.range M.1).map (fun i => (b0 + i, cellOf g b0 M i))
theorem wl_get {g : G3} {b0 : Nat} {M : M5} {i : Nat} (h : i < M.1) : (wl g b0 M)[i]? = some (b0 + i, cellOf g b0 M i) := by
  simp [wl, h]
theorem wl_lt {g : G3} {b0 : Nat} {M : M5} {k : Nat} {q : Nat × va_E} (h : (wl g b0 M)[k]? = some q) : k < M.1 ∧ q = (b0 + k, cellOf g b0 M k) := by
  have hk : k < M.1 := by
    have := (List.getElem?_eq_some_iff.mp h).1
    simpa [wl] using this
  rw [wl_get hk] at h
  exact ⟨hk, (Option.some.inj h).symm⟩
theorem wl_D (g : G3) (b0 : Nat) (M : M5) : va_D (fun q => b0 ≤ q) (wl g b0 M) := by
  refine ⟨fun i j p q hi hj hpq => ?_, fun k q hk => ?_⟩
  · obtain ⟨h1, rfl⟩ := wl_lt hi
    obtain ⟨h2, rfl⟩ := wl_lt hj
    have : b0 + i = b0 + j := hpq
    omega
  · obtain ⟨h1, rfl⟩ := wl_lt hk
    exact Nat.le_add_right _ _
theorem wl_set {g : G3} {b0 : Nat} {M M' : M5} {i : Nat} {x : va_E} (hn : M'.1 = M.1) (hx : cellOf g b0 M' i = x) (ho : ∀ j, j ≠ i → cellOf g b0 M' j = cellOf g b0 M j) : (wl g b0 M).set i (b0 + i, x) = wl g b0 M' := by
  apply List.ext_getElem?
  intro j
  by_cases hj : j < M.1
  · rw [List.getElem?_set, wl_get (M := M') (by omega)]
    by_cases e : i = j
    · subst e
      simp [wl, hj, hx]
    · rw [if_neg e, wl_get hj, ho j (fun q => e q.symm)]
  · have h1 : (wl g b0 M').length = M.1 := by simp [wl, hn]
    have h2 : (wl g b0 M).length = M.1 := by simp [wl]
    rw [List.getElem?_eq_none (by simp only [List.length_set]; omega), List.getElem?_eq_none (by omega)]
theorem wl_push {g : G3} {b0 : Nat} {M M' : M5} {x : va_E} (hn : M'.1 = M.1 + 1) (hx : cellOf g b0 M' M.1 = x) (ho : ∀ j, j < M.1 → cellOf g b0 M' j = cellOf g b0 M j) : wl g b0 M ++ [(b0 + M.1, x)] = wl g b0 M' := by
  unfold wl
  rw [hn, List.range_succ, List.map_append]
  congr 1
  · apply List.map_congr_left
    intro j hj
    rw [ho j (List.mem_range.mp hj)]
  · simp [hx]
def wld (D : va_G) (g : G3) (b0 : Nat) (M : M5) (H : Heap) : Prop := va_P D vwCl (wl g b0 M) H
def slT (n : Nat) (S : Nat → Nat × Nat) : Nat := ((List.range n).map (fun i => (S i).2)).sum
theorem slT_succ (n : Nat) (S : Nat → Nat × Nat) (v : Nat × Nat) : slT (n + 1) (ma S n v) = slT n S + v.2 := by
  unfold slT
  rw [List.range_succ, List.map_append, List.sum_append]
  congr 1
  · congr 1
    apply List.map_congr_left
    intro j hj
    have := List.mem_range.mp hj
    simp [ma, Nat.ne_of_lt this]
  · simp [ma]
theorem ma_self {α : Type} (f : Nat → α) (i : Nat) (v : α) : ma f i v i = v := by simp [ma]
theorem ma_ne {α : Type} (f : Nat → α) {i j : Nat} (v : α) (h : j ≠ i) : ma f i v j = f j := by simp [ma, h]
/-- locals -/
def lhas (b0 b : Nat) (rl : Array Slot) (n : Nat) (ls : LV) : Prop := rl.size = n ∧ lv_wf rl ∧ ls.length ≤ n ∧ ∀ (i : Nat) (v : AV), ls[i]? = some (some v) → rl[i]? = some (.val (cv b0 b v))
def lvOf (b0 b : Nat) (ls : LV) : List (Nat × Value) := (List.range ls.length).filterMap (fun i => (ls.getD i none).map (fun v => (i, cv b0 b v)))
theorem lvOf_mem {b0 b : Nat} {ls : LV} {i : Nat} {v : AV} (h : ls[i]? = some (some v)) : (i, cv b0 b v) ∈ lvOf b0 b ls := by
  have hi := (List.getElem?_eq_some_iff.mp h).1
  refine List.mem_filterMap.mpr ⟨i, List.mem_range.mpr hi, ?_⟩
  simp [List.getD, h]
theorem lvOf_of {b0 b : Nat} {ls : LV} {q : Nat × Value} (h : q ∈ lvOf b0 b ls) : ∃ v, ls[q.1]? = some (some v) ∧ q.2 = cv b0 b v := by
  obtain ⟨i, hi, hq⟩ := List.mem_filterMap.mp h
  have hi := List.mem_range.mp hi
  cases hv : ls.getD i none with
  | none => rw [hv] at hq; cases hq
  | some v =>
    rw [hv] at hq
    cases hq
    refine ⟨v, ?_, rfl⟩
    rw [List.getD, Option.getD_eq_iff] at hv
    rcases hv with hv | hv
    · exact hv
    · cases hv.2
theorem lhas_lv {b0 b : Nat} {rl : Array Slot} {n : Nat} {ls : LV} (h : lhas b0 b rl n ls) : lv_has rl n (lvOf b0 b ls) := by
  refine ⟨h.1, h.2.1, fun q hq => ?_⟩
  obtain ⟨v, h1, h2⟩ := lvOf_of hq
  rw [h2]
  exact h.2.2.2 _ _ h1
theorem lhas_at {b0 b : Nat} {rl : Array Slot} {n : Nat} {ls : LV} {i : Nat} {v : AV} (h : lhas b0 b rl n ls) (hv : ls.getD i none = some v) : rl[i]? = some (.val (cv b0 b v)) := by
  refine h.2.2.2 i v ?_
  rw [List.getD, Option.getD_eq_iff] at hv
  rcases hv with hv | hv
  · exact hv
  · cases hv.2
theorem lpre_len (l : LV) (i : Nat) : (lpre l i).length = l.length := by
  unfold lpre
  split
  · rfl
  · split <;> simp
/-- what lies in a place behind lpre, lay there ahead of it, and isn't the head of a pair that ends at i -/
theorem lpre_get {l : LV} {i j : Nat} {w : AV} (h : (lpre l i)[j]? = some (some w)) : l[j]? = some (some w) ∧ (j + 1 = i → ∀ z, w ≠ .inr (.inl z)) := by
  unfold lpre at h
  split at h
  · exact ⟨h, fun q => by omega⟩
  · rename_i k
    split at h
    · rename_i z hz
      rw [List.getElem?_set] at h
      by_cases e : k = j
      · rw [if_pos e] at h
        split at h <;> cases h
      · rw [if_neg e] at h
        exact ⟨h, fun q => by omega⟩
    · rename_i hz
      refine ⟨h, fun q z e => ?_⟩
      have : j = k := by omega
      subst this
      subst e
      exact hz z (by simp [List.getD, h])
theorem cv_cat {b0 b : Nat} {w : AV} (h : ∀ z, w ≠ .inr (.inl z)) : (cv b0 b w).category = 1 := by
  match w, h with
  | .inl z, _ => rfl
  | .inr (.inl z), h => exact absurd rfl (h z)
  | .inr (.inr none), _ => rfl
  | .inr (.inr (some i)), _ => rfl
theorem lhas_st1 {b0 b : Nat} {rl rl' : Array Slot} {n i : Nat} {ls : LV} {v : AV} {x : Value} (h : lhas b0 b rl n ls) (hx : cv b0 b v = x) (hi : i < ls.length)
    (h' : lv_has rl' n ((i, x) :: (lvOf b0 b ls).filter (fun q => !(q.1 == i) && !(q.1 + 1 == i && q.2.category == 2)))) : lhas b0 b rl' n (ls1 ls i v) := by
  refine ⟨h'.1, h'.2.1, by unfold ls1; rw [List.length_set, lpre_len]; exact h.2.2.1, fun j w hj => ?_⟩
  unfold ls1 at hj
  rw [List.getElem?_set] at hj
  by_cases e : i = j
  · rw [if_pos e] at hj
    split at hj
    · cases hj
      rw [hx]
      subst e
      exact h'.2.2 (i, x) List.mem_cons_self
    · cases hj
  · rw [if_neg e] at hj
    obtain ⟨a1, a2⟩ := lpre_get hj
    refine h'.2.2 (j, cv b0 b w) (List.mem_cons_of_mem _ (List.mem_filter.mpr ⟨lvOf_mem a1, ?_⟩))
    have e' : ¬ j = i := fun q => e q.symm
    by_cases q : j + 1 = i
    · have := cv_cat (b0 := b0) (b := b) (a2 q)
      simp [e', this]
    · simp [e', q]
theorem lhas_st2 {b0 b : Nat} {rl rl' : Array Slot} {n i : Nat} {ls : LV} {v : AV} {x : Value} (h : lhas b0 b rl n ls) (hx : cv b0 b v = x)
    (h' : lv_has rl' n ((i, x) :: (lvOf b0 b ls).filter (fun q => !(q.1 == i) && (!(q.1 == i + 1) && !(q.1 + 1 == i && q.2.category == 2))))) : lhas b0 b rl' n (ls2 ls i v) := by
  refine ⟨h'.1, h'.2.1, by unfold ls2; rw [List.length_set, List.length_set, lpre_len]; exact h.2.2.1, fun j w hj => ?_⟩
  unfold ls2 at hj
  rw [List.getElem?_set] at hj
  by_cases e2 : i + 1 = j
  · rw [if_pos e2] at hj
    split at hj <;> cases hj
  · rw [if_neg e2, List.getElem?_set] at hj
    by_cases e : i = j
    · rw [if_pos e] at hj
      split at hj
      · cases hj
        rw [hx]
        subst e
        exact h'.2.2 (i, x) List.mem_cons_self
      · cases hj
    · rw [if_neg e] at hj
      obtain ⟨a1, a2⟩ := lpre_get hj
      refine h'.2.2 (j, cv b0 b w) (List.mem_cons_of_mem _ (List.mem_filter.mpr ⟨lvOf_mem a1, ?_⟩))
      have e' : ¬ j = i := fun q => e q.symm
      have e2' : ¬ j = i + 1 := fun q => e2 q.symm
      by_cases q : j + 1 = i
      · have := cv_cat (b0 := b0) (b := b) (a2 q)
        simp [e', e2', this]
      · simp [e', e2', q]
theorem entA_get {b0 b : Nat} : ∀ (args : List AV) (k i : Nat) (v : AV), (entA args)[i]? = some (some v) → (k + i, cv b0 b v) ∈ lv_args k (args.map (cv b0 b))
  | [], k, i, v, h => by simp [entA] at h
  | .inr (.inl z) :: r, k, i, v, h => by
    rw [List.map_cons]
    show _ ∈ (k, cv b0 b (.inr (.inl z))) :: lv_args (k + 2) (r.map (cv b0 b))
    match i, h with
    | 0, h => cases h; exact List.mem_cons_self
    | 1, h => cases h
    | i + 2, h =>
      have := entA_get (b0 := b0) (b := b) r (k + 2) i v h
      rw [show k + (i + 2) = k + 2 + i by omega]
      exact List.mem_cons_of_mem _ this
  | .inl z :: r, k, i, v, h => by
    rw [List.map_cons]
    show _ ∈ (k, cv b0 b (.inl z)) :: lv_args (k + 1) (r.map (cv b0 b))
    match i, h with
    | 0, h => cases h; exact List.mem_cons_self
    | i + 1, h =>
      have := entA_get (b0 := b0) (b := b) r (k + 1) i v h
      rw [show k + (i + 1) = k + 1 + i by omega]
      exact List.mem_cons_of_mem _ this
  | .inr (.inr z) :: r, k, i, v, h => by
    rw [List.map_cons]
    have hc : (cv b0 b (.inr (.inr z))).category = 1 := cv_cat (fun _ q => by cases q)
    show _ ∈ (k, cv b0 b (.inr (.inr z))) :: lv_args (if (cv b0 b (.inr (.inr z))).category = 2 then k + 2 else k + 1) (r.map (cv b0 b))
    rw [if_neg (by omega)]
    match i, h with
    | 0, h => cases h; exact List.mem_cons_self
    | i + 1, h =>
      have := entA_get (b0 := b0) (b := b) r (k + 1) i v h
      rw [show k + (i + 1) = k + 1 + i by omega]
      exact List.mem_cons_of_mem _ this
theorem entA_len {b0 b : Nat} : ∀ args : List AV, (lg_sl (args.map (cv b0 b))).length = (entA args).length
  | [] => rfl
  | .inr (.inl z) :: r => by
    have := entA_len (b0 := b0) (b := b) r
    simp only [lg_sl, List.map_cons, List.flatMap_cons, List.length_append] at this ⊢
    rw [this]
    simp [entA, cv, Value.category]
    omega
  | .inl z :: r => by
    have := entA_len (b0 := b0) (b := b) r
    simp only [lg_sl, List.map_cons, List.flatMap_cons, List.length_append] at this ⊢
    rw [this]
    simp [entA, cv, Value.category]
    omega
  | .inr (.inr z) :: r => by
    have := entA_len (b0 := b0) (b := b) r
    have hc : (cv b0 b (.inr (.inr z))).category = 1 := cv_cat (fun _ q => by cases q)
    simp only [lg_sl, List.map_cons, List.flatMap_cons, List.length_append] at this ⊢
    rw [this, if_neg (by omega)]
    simp [entA]
    omega
theorem lhas_entry {b0 b n : Nat} (args : List AV) (h : (entA args).length ≤ n) : lhas b0 b ((lg_sl (args.map (cv b0 b)) ++ List.replicate (n - (lg_sl (args.map (cv b0 b))).length) Slot.unset).toArray) n (entL args n) := by
  have h1 := lv_entry (args.map (cv b0 b)) (n := n) (by rw [entA_len]; exact h)
  refine ⟨h1.1, h1.2.1, by simp [entL]; omega, fun i v hi => ?_⟩
  unfold entL at hi
  by_cases hl : i < (entA args).length
  · rw [List.getElem?_append_left hl] at hi
    have := h1.2.2 _ (entA_get (b0 := b0) (b := b) args 0 i v hi)
    simpa using this
  · rw [List.getElem?_append_right (by omega)] at hi
    have := List.mem_of_getElem? hi
    simp at this
/-- what every state keeps: ints in range, references to cells that are there, the script as it was -/
def okM (L : Nat) (xs : Nat → Int32) (M : M5) : Prop := M.1 ≤ SCR ∧ (∀ i k, inR (M.2.2.2.1 i k)) ∧ (∀ i k j, M.2.2.1 i k = some j → j < M.1) ∧ (M.2.1 SCR).2 = L ∧ ∀ k, Int32.ofInt (M.2.2.2.1 SCR k) = xs k
def okV (v : AV) : Prop := match v with | .inl z => inR z | _ => True
def okS (L : Nat) (xs : Nat → Int32) (s : ST) : Prop := (∀ (i : Nat) (v : AV), s.2.1[i]? = some (some v) → okV v) ∧ (∀ v ∈ s.2.2.1, okV v) ∧ okM L xs s.2.2.2
theorem inR_of {z : Int} (h : inRb z = true) : inR z := by
  simp only [inRb, Bool.and_eq_true, decide_eq_true_eq] at h
  exact h
theorem ok_get {L : Nat} {xs : Nat → Int32} {pc : Nat} {ls : LV} {st : List AV} {M : M5} (h : okS L xs (pc, ls, st, M)) {i : Nat} {v : AV} (hv : ls.getD i none = some v) : okV v := by
  refine h.1 i v ?_
  rw [List.getD, Option.getD_eq_iff] at hv
  rcases hv with hv | hv
  · exact hv
  · cases hv.2
theorem ok_ls1 {ls : LV} {i : Nat} {v : AV} (h : ∀ (i : Nat) (v : AV), ls[i]? = some (some v) → okV v) (hv : okV v) : ∀ (j : Nat) (w : AV), (ls1 ls i v)[j]? = some (some w) → okV w := by
  intro j w hj
  unfold ls1 at hj
  rw [List.getElem?_set] at hj
  by_cases e : i = j
  · rw [if_pos e] at hj
    split at hj
    · cases hj; exact hv
    · cases hj
  · rw [if_neg e] at hj
    exact h j w (lpre_get hj).1
theorem ok_ls2 {ls : LV} {i : Nat} {v : AV} (h : ∀ (i : Nat) (v : AV), ls[i]? = some (some v) → okV v) (hv : okV v) : ∀ (j : Nat) (w : AV), (ls2 ls i v)[j]? = some (some w) → okV w := by
  intro j w hj
  unfold ls2 at hj
  rw [List.getElem?_set] at hj
  by_cases e2 : i + 1 = j
  · rw [if_pos e2] at hj
    split at hj <;> cases hj
  · rw [if_neg e2] at hj
    exact ok_ls1 h hv j w hj
theorem ok_ent {args : List AV} {n : Nat} (h : ∀ v ∈ args, okV v) : ∀ (i : Nat) (v : AV), (entL args n)[i]? = some (some v) → okV v := by
  intro i v hi
  have hm := List.mem_of_getElem? hi
  unfold entL at hm
  rcases List.mem_append.mp hm with hm | hm
  · clear hi
    induction args with
    | nil => simp [entA] at hm
    | cons a r ih =>
      match a, h, hm with
      | .inr (.inl z), h, hm =>
        simp only [entA, List.mem_cons] at hm
        rcases hm with hm | hm | hm
        · cases hm; exact h _ List.mem_cons_self
        · cases hm
        · exact ih (fun v hv => h v (List.mem_cons_of_mem _ hv)) (List.mem_append_left _ hm) hm
      | .inl z, h, hm =>
        simp only [entA, List.mem_cons] at hm
        rcases hm with hm | hm
        · cases hm; exact h _ List.mem_cons_self
        · exact ih (fun v hv => h v (List.mem_cons_of_mem _ hv)) (List.mem_append_left _ hm) hm
      | .inr (.inr z), h, hm =>
        simp only [entA, List.mem_cons] at hm
        rcases hm with hm | hm
        · cases hm; exact h _ List.mem_cons_self
        · exact ih (fun v hv => h v (List.mem_cons_of_mem _ hv)) (List.mem_append_left _ hm) hm
  · have := List.eq_of_mem_replicate hm
    cases this
