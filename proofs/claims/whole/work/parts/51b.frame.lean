/-! ===== what a run leaves alone: cells that it has no reference to ===== -/
def rOk (S : Nat → Prop) : AV → Prop
  | .inr (.inr (some a)) => S a
  | _ => True
def clo (S : Nat → Prop) (M : M5) : Prop := (∀ a, S a → ∀ k, k < 100 → ∀ j, M.2.2.1 a k = some j → S j) ∧ ∀ a, M.1 ≤ a → S a
def frm (S : Nat → Prop) (M M' : M5) : Prop := ∀ a, ¬ S a → M'.2.2.2.1 a = M.2.2.2.1 a ∧ M'.2.2.2.2 a = M.2.2.2.2 a
theorem frm.refl (S : Nat → Prop) (M : M5) : frm S M M := fun _ _ => ⟨rfl, rfl⟩
theorem frm.trans {S : Nat → Prop} {M M1 M2 : M5} (h : frm S M M1) (g : frm S M1 M2) : frm S M M2 := fun a ha => ⟨(g a ha).1.trans (h a ha).1, (g a ha).2.trans (h a ha).2⟩
def lOk (S : Nat → Prop) (ls : LV) : Prop := ∀ i v, ls.getD i none = some v → rOk S v
def sOk (S : Nat → Prop) (z : ST) : Prop := lOk S z.2.1 ∧ (∀ v ∈ z.2.2.1, rOk S v) ∧ clo S z.2.2.2
theorem lOk_set {S : Nat → Prop} {ls : LV} {i : Nat} {v : AV} (h : lOk S ls) (hv : rOk S v) : lOk S (ls.set i (some v)) := by
  intro j w hw
  rw [List.getD_eq_getElem?_getD, List.getElem?_set] at hw
  split at hw
  · split at hw
    · cases hw; exact hv
    · cases hw
  · rw [← List.getD_eq_getElem?_getD] at hw
    exact h j w hw
theorem lOk_none {S : Nat → Prop} {ls : LV} {i : Nat} (h : lOk S ls) : lOk S (ls.set i none) := by
  intro j w hw
  rw [List.getD_eq_getElem?_getD, List.getElem?_set] at hw
  split at hw
  · split at hw
    · cases hw
    · cases hw
  · rw [← List.getD_eq_getElem?_getD] at hw
    exact h j w hw
theorem lOk_pre {S : Nat → Prop} {ls : LV} (h : lOk S ls) : ∀ i, lOk S (lpre ls i) := by
  intro i
  unfold lpre
  split
  · exact h
  · split
    · exact lOk_none h
    · exact h
theorem lOk_ls1 {S : Nat → Prop} {ls : LV} {i : Nat} {v : AV} (h : lOk S ls) (hv : rOk S v) : lOk S (ls1 ls i v) := lOk_set (lOk_pre h i) hv
theorem lOk_ls2 {S : Nat → Prop} {ls : LV} {i : Nat} {v : AV} (h : lOk S ls) (hv : rOk S v) : lOk S (ls2 ls i v) := lOk_none (lOk_set (lOk_pre h i) hv)
theorem frm_I {S : Nat → Prop} {M : M5} {a : Nat} {f : Nat → Int} (ha : S a) : frm S M (M.1, M.2.1, M.2.2.1, ma M.2.2.2.1 a f, M.2.2.2.2) := fun b hb => ⟨ma_ne _ _ (fun e => hb (e ▸ ha)), rfl⟩
theorem frm_J {S : Nat → Prop} {M : M5} {a : Nat} {f : Nat → Int64} (ha : S a) : frm S M (M.1, M.2.1, M.2.2.1, M.2.2.2.1, ma M.2.2.2.2 a f) := fun b hb => ⟨rfl, ma_ne _ _ (fun e => hb (e ▸ ha))⟩
theorem clo_R {S : Nat → Prop} {M : M5} {a k j : Nat} (h : clo S M) (hj : S j) : clo S (M.1, M.2.1, ma M.2.2.1 a (ma (M.2.2.1 a) k (some j)), M.2.2.2.1, M.2.2.2.2) := by
  refine ⟨fun b hb q hq w hw => ?_, h.2⟩
  have hw : ma M.2.2.1 a (ma (M.2.2.1 a) k (some j)) b q = some w := hw
  unfold ma at hw
  split at hw
  · rename_i e1
    have hw : (if q = k then some j else M.2.2.1 a q) = some w := hw
    split at hw
    · cases hw; exact hj
    · rw [← e1] at hw
      exact h.1 b hb _ hq _ hw
  · exact h.1 b hb _ hq _ hw
theorem nF_le (c : Nat) : nF c ≤ 99 := by
  by_cases h : c < 11
  · have : ∀ c, c < 11 → nF c ≤ 99 := by decide +kernel
    exact this c h
  · unfold nF
    have hl : fTys.length = 11 := by decide +kernel
    rw [List.getD_eq_getElem?_getD, List.getElem?_eq_none (by omega)]
    exact Nat.zero_le _
theorem nF_100 {M : M5} {a q : Nat} (h : (Nat.blt a M.1 && Nat.beq (M.2.1 a).1 (q / 1000 + 3) && Nat.blt (q % 1000) (nF (q / 1000))) = true) : q % 1000 < 100 := by
  have h1 := blt_lt (and2 h).2
  have h2 := nF_le (q / 1000)
  omega
section FRM
variable {S : Nat → Prop} {pc len : Nat} {ls : LV} {st : List AV} {M : M5} {ps : List Prop} {z' : ST}
abbrev fkept (S : Nat → Prop) (z z' : ST) : Prop := sOk S z' ∧ frm S z.2.2.2 z'.2.2.2
theorem sf_bipush {v : Int} (h : stp (.bipush v) len (pc, ls, st, M) = some (ps, z')) (hs : sOk S (pc, ls, st, M)) : fkept S (pc, ls, st, M) z' := by
  obtain ⟨h0, rfl, rfl⟩ := si_bipush h
  have hst := hs.2.1
  simp only [List.forall_mem_cons] at hst
  refine ⟨⟨hs.1, ?_, hs.2.2⟩, frm.refl _ _⟩
  simp only [List.forall_mem_cons]
  exact ⟨trivial, hs.2.1⟩
theorem sf_jsr_w {v : Int} (h : stp (.jsr_w v) len (pc, ls, st, M) = some (ps, z')) (hs : sOk S (pc, ls, st, M)) : fkept S (pc, ls, st, M) z' := by
  obtain ⟨rfl, rfl⟩ := si_jsr_w h
  have hst := hs.2.1
  simp only [List.forall_mem_cons] at hst
  refine ⟨⟨hs.1, ?_, hs.2.2⟩, frm.refl _ _⟩
  simp only [List.forall_mem_cons]
  exact ⟨trivial, hs.2.1⟩
theorem sf_iload {i : Nat} (h : stp (.iload i) len (pc, ls, st, M) = some (ps, z')) (hs : sOk S (pc, ls, st, M)) : fkept S (pc, ls, st, M) z' := by
  obtain ⟨v, hv, rfl, rfl⟩ := si_iload h
  have hst := hs.2.1
  simp only [List.forall_mem_cons] at hst
  refine ⟨⟨hs.1, ?_, hs.2.2⟩, frm.refl _ _⟩
  simp only [List.forall_mem_cons]
  exact ⟨hs.1 _ _ hv, hs.2.1⟩
theorem sf_lload {i : Nat} (h : stp (.lload i) len (pc, ls, st, M) = some (ps, z')) (hs : sOk S (pc, ls, st, M)) : fkept S (pc, ls, st, M) z' := by
  obtain ⟨v, hv, rfl, rfl⟩ := si_lload h
  have hst := hs.2.1
  simp only [List.forall_mem_cons] at hst
  refine ⟨⟨hs.1, ?_, hs.2.2⟩, frm.refl _ _⟩
  simp only [List.forall_mem_cons]
  exact ⟨hs.1 _ _ hv, hs.2.1⟩
theorem sf_aload {i : Nat} (h : stp (.aload i) len (pc, ls, st, M) = some (ps, z')) (hs : sOk S (pc, ls, st, M)) : fkept S (pc, ls, st, M) z' := by
  obtain ⟨v, hv, rfl, rfl⟩ := si_aload h
  have hst := hs.2.1
  simp only [List.forall_mem_cons] at hst
  refine ⟨⟨hs.1, ?_, hs.2.2⟩, frm.refl _ _⟩
  simp only [List.forall_mem_cons]
  exact ⟨hs.1 _ _ hv, hs.2.1⟩
theorem sf_istore {i : Nat} (h : stp (.istore i) len (pc, ls, st, M) = some (ps, z')) (hs : sOk S (pc, ls, st, M)) : fkept S (pc, ls, st, M) z' := by
  obtain ⟨v, r, rfl, hi, rfl, rfl⟩ := si_istore h
  have hst := hs.2.1
  simp only [List.forall_mem_cons] at hst
  exact ⟨⟨lOk_ls1 hs.1 hst.1, hst.2, hs.2.2⟩, frm.refl _ _⟩
theorem sf_astore {i : Nat} (h : stp (.astore i) len (pc, ls, st, M) = some (ps, z')) (hs : sOk S (pc, ls, st, M)) : fkept S (pc, ls, st, M) z' := by
  obtain ⟨v, r, rfl, hi, rfl, rfl⟩ := si_astore h
  have hst := hs.2.1
  simp only [List.forall_mem_cons] at hst
  exact ⟨⟨lOk_ls1 hs.1 hst.1, hst.2, hs.2.2⟩, frm.refl _ _⟩
theorem sf_lstore {i : Nat} (h : stp (.lstore i) len (pc, ls, st, M) = some (ps, z')) (hs : sOk S (pc, ls, st, M)) : fkept S (pc, ls, st, M) z' := by
  obtain ⟨v, r, rfl, hi, rfl, rfl⟩ := si_lstore h
  have hst := hs.2.1
  simp only [List.forall_mem_cons] at hst
  exact ⟨⟨lOk_ls2 hs.1 hst.1, hst.2, hs.2.2⟩, frm.refl _ _⟩
theorem sf_iinc {i : Nat} {n : Int} (h : stp (.iinc i n) len (pc, ls, st, M) = some (ps, z')) (hs : sOk S (pc, ls, st, M)) : fkept S (pc, ls, st, M) z' := by
  obtain ⟨v, hv, rfl, rfl⟩ := si_iinc h
  exact ⟨⟨lOk_ls1 hs.1 trivial, hs.2.1, hs.2.2⟩, frm.refl _ _⟩
theorem sf_iadd  (h : stp (.iadd) len (pc, ls, st, M) = some (ps, z')) (hs : sOk S (pc, ls, st, M)) : fkept S (pc, ls, st, M) z' := by
  obtain ⟨y1, x1, r, rfl, rfl, rfl⟩ := si_iadd h
  have hst := hs.2.1
  simp only [List.forall_mem_cons] at hst
  refine ⟨⟨hs.1, ?_, hs.2.2⟩, frm.refl _ _⟩
  simp only [List.forall_mem_cons]
  exact ⟨trivial, hst.2.2⟩
theorem sf_isub  (h : stp (.isub) len (pc, ls, st, M) = some (ps, z')) (hs : sOk S (pc, ls, st, M)) : fkept S (pc, ls, st, M) z' := by
  obtain ⟨y1, x1, r, rfl, rfl, rfl⟩ := si_isub h
  have hst := hs.2.1
  simp only [List.forall_mem_cons] at hst
  refine ⟨⟨hs.1, ?_, hs.2.2⟩, frm.refl _ _⟩
  simp only [List.forall_mem_cons]
  exact ⟨trivial, hst.2.2⟩
theorem sf_imul  (h : stp (.imul) len (pc, ls, st, M) = some (ps, z')) (hs : sOk S (pc, ls, st, M)) : fkept S (pc, ls, st, M) z' := by
  obtain ⟨y1, x1, r, rfl, rfl, rfl⟩ := si_imul h
  have hst := hs.2.1
  simp only [List.forall_mem_cons] at hst
  refine ⟨⟨hs.1, ?_, hs.2.2⟩, frm.refl _ _⟩
  simp only [List.forall_mem_cons]
  exact ⟨trivial, hst.2.2⟩
theorem sf_idiv  (h : stp (.idiv) len (pc, ls, st, M) = some (ps, z')) (hs : sOk S (pc, ls, st, M)) : fkept S (pc, ls, st, M) z' := by
  obtain ⟨y1, x1, r, rfl, rfl, rfl⟩ := si_idiv h
  have hst := hs.2.1
  simp only [List.forall_mem_cons] at hst
  refine ⟨⟨hs.1, ?_, hs.2.2⟩, frm.refl _ _⟩
  simp only [List.forall_mem_cons]
  exact ⟨trivial, hst.2.2⟩
theorem sf_irem  (h : stp (.irem) len (pc, ls, st, M) = some (ps, z')) (hs : sOk S (pc, ls, st, M)) : fkept S (pc, ls, st, M) z' := by
  obtain ⟨y1, x1, r, rfl, rfl, rfl⟩ := si_irem h
  have hst := hs.2.1
  simp only [List.forall_mem_cons] at hst
  refine ⟨⟨hs.1, ?_, hs.2.2⟩, frm.refl _ _⟩
  simp only [List.forall_mem_cons]
  exact ⟨trivial, hst.2.2⟩
theorem sf_iand  (h : stp (.iand) len (pc, ls, st, M) = some (ps, z')) (hs : sOk S (pc, ls, st, M)) : fkept S (pc, ls, st, M) z' := by
  obtain ⟨y1, x1, r, rfl, rfl, rfl⟩ := si_iand h
  have hst := hs.2.1
  simp only [List.forall_mem_cons] at hst
  refine ⟨⟨hs.1, ?_, hs.2.2⟩, frm.refl _ _⟩
  simp only [List.forall_mem_cons]
  exact ⟨trivial, hst.2.2⟩
theorem sf_ladd  (h : stp (.ladd) len (pc, ls, st, M) = some (ps, z')) (hs : sOk S (pc, ls, st, M)) : fkept S (pc, ls, st, M) z' := by
  obtain ⟨y1, x1, r, rfl, rfl, rfl⟩ := si_ladd h
  have hst := hs.2.1
  simp only [List.forall_mem_cons] at hst
  refine ⟨⟨hs.1, ?_, hs.2.2⟩, frm.refl _ _⟩
  simp only [List.forall_mem_cons]
  exact ⟨trivial, hst.2.2⟩
theorem sf_lsub  (h : stp (.lsub) len (pc, ls, st, M) = some (ps, z')) (hs : sOk S (pc, ls, st, M)) : fkept S (pc, ls, st, M) z' := by
  obtain ⟨y1, x1, r, rfl, rfl, rfl⟩ := si_lsub h
  have hst := hs.2.1
  simp only [List.forall_mem_cons] at hst
  refine ⟨⟨hs.1, ?_, hs.2.2⟩, frm.refl _ _⟩
  simp only [List.forall_mem_cons]
  exact ⟨trivial, hst.2.2⟩
theorem sf_land  (h : stp (.land) len (pc, ls, st, M) = some (ps, z')) (hs : sOk S (pc, ls, st, M)) : fkept S (pc, ls, st, M) z' := by
  obtain ⟨y1, x1, r, rfl, rfl, rfl⟩ := si_land h
  have hst := hs.2.1
  simp only [List.forall_mem_cons] at hst
  refine ⟨⟨hs.1, ?_, hs.2.2⟩, frm.refl _ _⟩
  simp only [List.forall_mem_cons]
  exact ⟨trivial, hst.2.2⟩
theorem sf_lor  (h : stp (.lor) len (pc, ls, st, M) = some (ps, z')) (hs : sOk S (pc, ls, st, M)) : fkept S (pc, ls, st, M) z' := by
  obtain ⟨y1, x1, r, rfl, rfl, rfl⟩ := si_lor h
  have hst := hs.2.1
  simp only [List.forall_mem_cons] at hst
  refine ⟨⟨hs.1, ?_, hs.2.2⟩, frm.refl _ _⟩
  simp only [List.forall_mem_cons]
  exact ⟨trivial, hst.2.2⟩
theorem sf_lxor  (h : stp (.lxor) len (pc, ls, st, M) = some (ps, z')) (hs : sOk S (pc, ls, st, M)) : fkept S (pc, ls, st, M) z' := by
  obtain ⟨y1, x1, r, rfl, rfl, rfl⟩ := si_lxor h
  have hst := hs.2.1
  simp only [List.forall_mem_cons] at hst
  refine ⟨⟨hs.1, ?_, hs.2.2⟩, frm.refl _ _⟩
  simp only [List.forall_mem_cons]
  exact ⟨trivial, hst.2.2⟩
theorem sf_lushr  (h : stp (.lushr) len (pc, ls, st, M) = some (ps, z')) (hs : sOk S (pc, ls, st, M)) : fkept S (pc, ls, st, M) z' := by
  obtain ⟨y1, x1, r, rfl, rfl, rfl⟩ := si_lushr h
  have hst := hs.2.1
  simp only [List.forall_mem_cons] at hst
  refine ⟨⟨hs.1, ?_, hs.2.2⟩, frm.refl _ _⟩
  simp only [List.forall_mem_cons]
  exact ⟨trivial, hst.2.2⟩
theorem sf_lshl  (h : stp (.lshl) len (pc, ls, st, M) = some (ps, z')) (hs : sOk S (pc, ls, st, M)) : fkept S (pc, ls, st, M) z' := by
  obtain ⟨y1, x1, r, rfl, rfl, rfl⟩ := si_lshl h
  have hst := hs.2.1
  simp only [List.forall_mem_cons] at hst
  refine ⟨⟨hs.1, ?_, hs.2.2⟩, frm.refl _ _⟩
  simp only [List.forall_mem_cons]
  exact ⟨trivial, hst.2.2⟩
theorem sf_lshr  (h : stp (.lshr) len (pc, ls, st, M) = some (ps, z')) (hs : sOk S (pc, ls, st, M)) : fkept S (pc, ls, st, M) z' := by
  obtain ⟨y1, x1, r, rfl, rfl, rfl⟩ := si_lshr h
  have hst := hs.2.1
  simp only [List.forall_mem_cons] at hst
  refine ⟨⟨hs.1, ?_, hs.2.2⟩, frm.refl _ _⟩
  simp only [List.forall_mem_cons]
  exact ⟨trivial, hst.2.2⟩
theorem sf_lcmp  (h : stp (.lcmp) len (pc, ls, st, M) = some (ps, z')) (hs : sOk S (pc, ls, st, M)) : fkept S (pc, ls, st, M) z' := by
  obtain ⟨y1, x1, r, rfl, rfl, rfl⟩ := si_lcmp h
  have hst := hs.2.1
  simp only [List.forall_mem_cons] at hst
  refine ⟨⟨hs.1, ?_, hs.2.2⟩, frm.refl _ _⟩
  simp only [List.forall_mem_cons]
  exact ⟨trivial, hst.2.2⟩
theorem sf_ineg  (h : stp (.ineg) len (pc, ls, st, M) = some (ps, z')) (hs : sOk S (pc, ls, st, M)) : fkept S (pc, ls, st, M) z' := by
  obtain ⟨x1, r, rfl, rfl, rfl⟩ := si_ineg h
  have hst := hs.2.1
  simp only [List.forall_mem_cons] at hst
  refine ⟨⟨hs.1, ?_, hs.2.2⟩, frm.refl _ _⟩
  simp only [List.forall_mem_cons]
  exact ⟨trivial, hst.2⟩
theorem sf_i2l  (h : stp (.i2l) len (pc, ls, st, M) = some (ps, z')) (hs : sOk S (pc, ls, st, M)) : fkept S (pc, ls, st, M) z' := by
  obtain ⟨x1, r, rfl, rfl, rfl⟩ := si_i2l h
  have hst := hs.2.1
  simp only [List.forall_mem_cons] at hst
  refine ⟨⟨hs.1, ?_, hs.2.2⟩, frm.refl _ _⟩
  simp only [List.forall_mem_cons]
  exact ⟨trivial, hst.2⟩
theorem sf_l2i  (h : stp (.l2i) len (pc, ls, st, M) = some (ps, z')) (hs : sOk S (pc, ls, st, M)) : fkept S (pc, ls, st, M) z' := by
  obtain ⟨x1, r, rfl, rfl, rfl⟩ := si_l2i h
  have hst := hs.2.1
  simp only [List.forall_mem_cons] at hst
  refine ⟨⟨hs.1, ?_, hs.2.2⟩, frm.refl _ _⟩
  simp only [List.forall_mem_cons]
  exact ⟨trivial, hst.2⟩
theorem sf_ishr  (h : stp (.ishr) len (pc, ls, st, M) = some (ps, z')) (hs : sOk S (pc, ls, st, M)) : fkept S (pc, ls, st, M) z' := by
  obtain ⟨y1, x1, r, rfl, rfl, rfl⟩ := si_ishr h
  have hst := hs.2.1
  simp only [List.forall_mem_cons] at hst
  refine ⟨⟨hs.1, ?_, hs.2.2⟩, frm.refl _ _⟩
  simp only [List.forall_mem_cons]
  exact ⟨trivial, hst.2.2⟩
theorem sf_dup  (h : stp (.dup) len (pc, ls, st, M) = some (ps, z')) (hs : sOk S (pc, ls, st, M)) : fkept S (pc, ls, st, M) z' := by
  obtain ⟨v, r, rfl, hv, rfl, rfl⟩ := si_dup h
  have hst := hs.2.1
  simp only [List.forall_mem_cons] at hst
  refine ⟨⟨hs.1, ?_, hs.2.2⟩, frm.refl _ _⟩
  simp only [List.forall_mem_cons]
  exact ⟨hst.1, hst.1, hst.2⟩
theorem sf_dup2  (h : stp (.dup2) len (pc, ls, st, M) = some (ps, z')) (hs : sOk S (pc, ls, st, M)) : fkept S (pc, ls, st, M) z' := by
  obtain ⟨x1, v, r, rfl, rfl, rfl⟩ := si_dup2 h
  have hst := hs.2.1
  simp only [List.forall_mem_cons] at hst
  refine ⟨⟨hs.1, ?_, hs.2.2⟩, frm.refl _ _⟩
  simp only [List.forall_mem_cons]
  exact ⟨hst.1, hst.2.1, hst.1, hst.2.1, hst.2.2⟩
theorem sf_pop  (h : stp (.pop) len (pc, ls, st, M) = some (ps, z')) (hs : sOk S (pc, ls, st, M)) : fkept S (pc, ls, st, M) z' := by
  obtain ⟨x1, r, rfl, rfl, rfl⟩ := si_pop h
  have hst := hs.2.1
  simp only [List.forall_mem_cons] at hst
  exact ⟨⟨hs.1, hst.2, hs.2.2⟩, frm.refl _ _⟩
theorem sf_pop2  (h : stp (.pop2) len (pc, ls, st, M) = some (ps, z')) (hs : sOk S (pc, ls, st, M)) : fkept S (pc, ls, st, M) z' := by
  obtain ⟨x1, r, rfl, rfl, rfl⟩ := si_pop2 h
  have hst := hs.2.1
  simp only [List.forall_mem_cons] at hst
  exact ⟨⟨hs.1, hst.2, hs.2.2⟩, frm.refl _ _⟩
theorem sf_goto {t : Int} (h : stp (.goto t) len (pc, ls, st, M) = some (ps, z')) (hs : sOk S (pc, ls, st, M)) : fkept S (pc, ls, st, M) z' := by
  obtain ⟨rfl, rfl⟩ := si_goto h
  exact ⟨⟨hs.1, hs.2.1, hs.2.2⟩, frm.refl _ _⟩
theorem sf_ifCond {c : Jvm.ClassFile.Cond} {t : Int} (h : stp (.ifCond c t) len (pc, ls, st, M) = some (ps, z')) (hs : sOk S (pc, ls, st, M)) : fkept S (pc, ls, st, M) z' := by
  obtain ⟨x1, r, rfl, rfl, rfl⟩ := si_ifCond h
  have hst := hs.2.1
  simp only [List.forall_mem_cons] at hst
  exact ⟨⟨hs.1, hst.2, hs.2.2⟩, frm.refl _ _⟩
theorem sf_if_icmp {c : Jvm.ClassFile.Cond} {t : Int} (h : stp (.if_icmp c t) len (pc, ls, st, M) = some (ps, z')) (hs : sOk S (pc, ls, st, M)) : fkept S (pc, ls, st, M) z' := by
  obtain ⟨y1, x1, r, rfl, rfl, rfl⟩ := si_if_icmp h
  have hst := hs.2.1
  simp only [List.forall_mem_cons] at hst
  exact ⟨⟨hs.1, hst.2.2, hs.2.2⟩, frm.refl _ _⟩
theorem sf_tableswitch {d lo hi : Int} {offs : Array Int} (h : stp (.tableswitch d lo hi offs) len (pc, ls, st, M) = some (ps, z')) (hs : sOk S (pc, ls, st, M)) : fkept S (pc, ls, st, M) z' := by
  obtain ⟨x1, r, rfl, rfl, rfl⟩ := si_tableswitch h
  have hst := hs.2.1
  simp only [List.forall_mem_cons] at hst
  exact ⟨⟨hs.1, hst.2, hs.2.2⟩, frm.refl _ _⟩
theorem sf_getfield {q : Nat} (h : stp (.getfield q) len (pc, ls, st, M) = some (ps, z')) (hs : sOk S (pc, ls, st, M)) : fkept S (pc, ls, st, M) z' := by
  obtain ⟨a, v, r, rfl, hc, hv, rfl, rfl⟩ := si_getfield h
  have hst := hs.2.1
  simp only [List.forall_mem_cons] at hst
  refine ⟨⟨hs.1, ?_, hs.2.2⟩, frm.refl _ _⟩
  simp only [List.forall_mem_cons]
  refine ⟨?_, hst.2⟩
  unfold pmF at hv
  cases hb : Nat.beq (fK ((M.2.1 a).1 - 3) (q % 1000)) 2 with
  | false =>
    rw [hb] at hv
    cases hv
    trivial
  | true =>
    rw [hb] at hv
    cases hr : M.2.2.1 a (q % 1000) with
    | none => rw [hr] at hv; cases hv; trivial
    | some j => rw [hr] at hv; cases hv; exact hs.2.2.1 a hst.1 _ (nF_100 hc) _ hr
theorem sf_putfield {q : Nat} (h : stp (.putfield q) len (pc, ls, st, M) = some (ps, z')) (hs : sOk S (pc, ls, st, M)) : fkept S (pc, ls, st, M) z' := by
  rcases si_putfield h with ⟨z, a, r, rfl, hc, hty, rfl⟩ | ⟨j, a, r, rfl, hc, hty, hj, rfl, rfl⟩
  · have hst := hs.2.1
    simp only [List.forall_mem_cons] at hst
    exact ⟨⟨hs.1, hst.2.2, hs.2.2⟩, frm_I hst.2.1⟩
  · have hst := hs.2.1
    simp only [List.forall_mem_cons] at hst
    exact ⟨⟨hs.1, hst.2.2, clo_R hs.2.2 hst.1⟩, fun _ _ => ⟨rfl, rfl⟩⟩
theorem sf_iaload  (h : stp (.iaload) len (pc, ls, st, M) = some (ps, z')) (hs : sOk S (pc, ls, st, M)) : fkept S (pc, ls, st, M) z' := by
  obtain ⟨i, a, r, rfl, hc, rfl, rfl⟩ := si_iaload h
  have hst := hs.2.1
  simp only [List.forall_mem_cons] at hst
  refine ⟨⟨hs.1, ?_, hs.2.2⟩, frm.refl _ _⟩
  simp only [List.forall_mem_cons]
  exact ⟨trivial, hst.2.2⟩
theorem sf_baload  (h : stp (.baload) len (pc, ls, st, M) = some (ps, z')) (hs : sOk S (pc, ls, st, M)) : fkept S (pc, ls, st, M) z' := by
  obtain ⟨i, a, r, rfl, hc, rfl, rfl⟩ := si_baload h
  have hst := hs.2.1
  simp only [List.forall_mem_cons] at hst
  refine ⟨⟨hs.1, ?_, hs.2.2⟩, frm.refl _ _⟩
  simp only [List.forall_mem_cons]
  exact ⟨trivial, hst.2.2⟩
theorem sf_laload  (h : stp (.laload) len (pc, ls, st, M) = some (ps, z')) (hs : sOk S (pc, ls, st, M)) : fkept S (pc, ls, st, M) z' := by
  obtain ⟨i, a, r, rfl, hc, rfl, rfl⟩ := si_laload h
  have hst := hs.2.1
  simp only [List.forall_mem_cons] at hst
  refine ⟨⟨hs.1, ?_, hs.2.2⟩, frm.refl _ _⟩
  simp only [List.forall_mem_cons]
  exact ⟨trivial, hst.2.2⟩
theorem sf_caload  (h : stp (.caload) len (pc, ls, st, M) = some (ps, z')) (hs : sOk S (pc, ls, st, M)) : fkept S (pc, ls, st, M) z' := by
  obtain ⟨i, a, r, rfl, hc, rfl, rfl⟩ := si_caload h
  have hst := hs.2.1
  simp only [List.forall_mem_cons] at hst
  refine ⟨⟨hs.1, ?_, hs.2.2⟩, frm.refl _ _⟩
  simp only [List.forall_mem_cons]
  exact ⟨trivial, hst.2.2⟩
theorem sf_iastore  (h : stp (.iastore) len (pc, ls, st, M) = some (ps, z')) (hs : sOk S (pc, ls, st, M)) : fkept S (pc, ls, st, M) z' := by
  obtain ⟨z, i, a, r, rfl, hc, rfl, rfl⟩ := si_iastore h
  have hst := hs.2.1
  simp only [List.forall_mem_cons] at hst
  exact ⟨⟨hs.1, hst.2.2.2, hs.2.2⟩, frm_I hst.2.2.1⟩
theorem sf_bastore  (h : stp (.bastore) len (pc, ls, st, M) = some (ps, z')) (hs : sOk S (pc, ls, st, M)) : fkept S (pc, ls, st, M) z' := by
  obtain ⟨z, i, a, r, rfl, hc, rfl, rfl⟩ := si_bastore h
  have hst := hs.2.1
  simp only [List.forall_mem_cons] at hst
  exact ⟨⟨hs.1, hst.2.2.2, hs.2.2⟩, frm_I hst.2.2.1⟩
theorem sf_lastore  (h : stp (.lastore) len (pc, ls, st, M) = some (ps, z')) (hs : sOk S (pc, ls, st, M)) : fkept S (pc, ls, st, M) z' := by
  obtain ⟨z, i, a, r, rfl, hc, rfl, rfl⟩ := si_lastore h
  have hst := hs.2.1
  simp only [List.forall_mem_cons] at hst
  exact ⟨⟨hs.1, hst.2.2.2, hs.2.2⟩, frm_J hst.2.2.1⟩
theorem sf_arraylength  (h : stp (.arraylength) len (pc, ls, st, M) = some (ps, z')) (hs : sOk S (pc, ls, st, M)) : fkept S (pc, ls, st, M) z' := by
  obtain ⟨a, r, rfl, hc, rfl, rfl⟩ := si_arraylength h
  have hst := hs.2.1
  simp only [List.forall_mem_cons] at hst
  refine ⟨⟨hs.1, ?_, hs.2.2⟩, frm.refl _ _⟩
  simp only [List.forall_mem_cons]
  exact ⟨trivial, hst.2⟩
theorem sf_saload  (h : stp (.saload) len (pc, ls, st, M) = some (ps, z')) (hs : sOk S (pc, ls, st, M)) : fkept S (pc, ls, st, M) z' := by
  obtain ⟨a, r, rfl, hc, rfl, rfl⟩ := si_saload h
  have hst := hs.2.1
  simp only [List.forall_mem_cons] at hst
  refine ⟨⟨hs.1, ?_, hs.2.2⟩, frm.refl _ _⟩
  simp only [List.forall_mem_cons]
  exact ⟨trivial, hst.2⟩
theorem sf_new {q : Nat} (h : stp (.new q) len (pc, ls, st, M) = some (ps, z')) (hs : sOk S (pc, ls, st, M)) : fkept S (pc, ls, st, M) z' := by
  obtain ⟨hc, rfl, rfl⟩ := si_new h
  have hM : S M.1 := hs.2.2.2 M.1 (Nat.le_refl _)
  refine ⟨⟨hs.1, ?_, fun b hb q hq w hw => ?_, fun b hb => hs.2.2.2 b (Nat.le_trans (Nat.le_succ _) hb)⟩, fun b hb => ⟨ma_ne _ _ (fun e => hb (e ▸ hM)), rfl⟩⟩
  · simp only [List.forall_mem_cons]
    exact ⟨hM, hs.2.1⟩
  · have hw : ma M.2.2.1 M.1 (fun _ => none) b q = some w := hw
    unfold ma at hw
    split at hw
    · cases hw
    · exact hs.2.2.1 b hb _ hq _ hw
theorem sf_newarray_int  (h : stp (.newarray .int) len (pc, ls, st, M) = some (ps, z')) (hs : sOk S (pc, ls, st, M)) : fkept S (pc, ls, st, M) z' := by
  obtain ⟨z, r, rfl, hc, rfl, rfl⟩ := si_newarray_int h
  have hst := hs.2.1
  simp only [List.forall_mem_cons] at hst
  have hM : S M.1 := hs.2.2.2 M.1 (Nat.le_refl _)
  refine ⟨⟨hs.1, ?_, hs.2.2.1, fun b hb => hs.2.2.2 b (Nat.le_trans (Nat.le_succ _) hb)⟩, fun b hb => ⟨ma_ne _ _ (fun e => hb (e ▸ hM)), rfl⟩⟩
  simp only [List.forall_mem_cons]
  exact ⟨hM, hst.2⟩
theorem sf_newarray_long  (h : stp (.newarray .long) len (pc, ls, st, M) = some (ps, z')) (hs : sOk S (pc, ls, st, M)) : fkept S (pc, ls, st, M) z' := by
  obtain ⟨z, r, rfl, hc, rfl, rfl⟩ := si_newarray_long h
  have hst := hs.2.1
  simp only [List.forall_mem_cons] at hst
  have hM : S M.1 := hs.2.2.2 M.1 (Nat.le_refl _)
  refine ⟨⟨hs.1, ?_, hs.2.2.1, fun b hb => hs.2.2.2 b (Nat.le_trans (Nat.le_succ _) hb)⟩, fun b hb => ⟨rfl, ma_ne _ _ (fun e => hb (e ▸ hM))⟩⟩
  simp only [List.forall_mem_cons]
  exact ⟨hM, hst.2⟩
theorem sf_newarray_boolean  (h : stp (.newarray .boolean) len (pc, ls, st, M) = some (ps, z')) (hs : sOk S (pc, ls, st, M)) : fkept S (pc, ls, st, M) z' := by
  obtain ⟨z, r, rfl, hc, rfl, rfl⟩ := si_newarray_boolean h
  have hst := hs.2.1
  simp only [List.forall_mem_cons] at hst
  have hM : S M.1 := hs.2.2.2 M.1 (Nat.le_refl _)
  refine ⟨⟨hs.1, ?_, hs.2.2.1, fun b hb => hs.2.2.2 b (Nat.le_trans (Nat.le_succ _) hb)⟩, fun b hb => ⟨ma_ne _ _ (fun e => hb (e ▸ hM)), rfl⟩⟩
  simp only [List.forall_mem_cons]
  exact ⟨hM, hst.2⟩
theorem sf_max  (h : stp (.invokestatic 1000) len (pc, ls, st, M) = some (ps, z')) (hs : sOk S (pc, ls, st, M)) : fkept S (pc, ls, st, M) z' := by
  obtain ⟨y1, x1, r, rfl, hc, rfl, rfl⟩ := si_max h
  have hst := hs.2.1
  simp only [List.forall_mem_cons] at hst
  refine ⟨⟨hs.1, ?_, hs.2.2⟩, frm.refl _ _⟩
  simp only [List.forall_mem_cons]
  exact ⟨trivial, hst.2.2⟩
theorem sf_min  (h : stp (.invokestatic 1001) len (pc, ls, st, M) = some (ps, z')) (hs : sOk S (pc, ls, st, M)) : fkept S (pc, ls, st, M) z' := by
  obtain ⟨y1, x1, r, rfl, hc, rfl, rfl⟩ := si_min h
  have hst := hs.2.1
  simp only [List.forall_mem_cons] at hst
  refine ⟨⟨hs.1, ?_, hs.2.2⟩, frm.refl _ _⟩
  simp only [List.forall_mem_cons]
  exact ⟨trivial, hst.2.2⟩
theorem sf_oinit  (h : stp (.invokestatic 1003) len (pc, ls, st, M) = some (ps, z')) (hs : sOk S (pc, ls, st, M)) : fkept S (pc, ls, st, M) z' := by
  obtain ⟨a, r, rfl, hc, rfl, rfl⟩ := si_oinit h
  have hst := hs.2.1
  simp only [List.forall_mem_cons] at hst
  exact ⟨⟨hs.1, hst.2, hs.2.2⟩, frm.refl _ _⟩
theorem sf_copy  (h : stp (.invokestatic 1002) len (pc, ls, st, M) = some (ps, z')) (hs : sOk S (pc, ls, st, M)) : fkept S (pc, ls, st, M) z' := by
  obtain ⟨n, dp, a, sp, a0, r, rfl, hc, rfl, hk⟩ := si_copy h
  have hst := hs.2.1
  simp only [List.forall_mem_cons] at hst
  rcases hk with ⟨-, -, rfl⟩ | ⟨-, -, rfl⟩
  · exact ⟨⟨hs.1, hst.2.2.2.2.2, hs.2.2⟩, frm_I hst.2.2.1⟩
  · exact ⟨⟨hs.1, hst.2.2.2.2.2, hs.2.2⟩, frm_J hst.2.2.1⟩
theorem stp_frm {op : Instr} {z : ST} (h : stp op len z = some (ps, z')) (hs : sOk S z) : fkept S z z' := by
  obtain ⟨pc, ls, st, M⟩ := z
  cases op
  case bipush v => exact sf_bipush h hs
  case jsr_w v => exact sf_jsr_w h hs
  case iload i => exact sf_iload h hs
  case lload i => exact sf_lload h hs
  case aload i => exact sf_aload h hs
  case istore i => exact sf_istore h hs
  case astore i => exact sf_astore h hs
  case lstore i => exact sf_lstore h hs
  case iinc i n => exact sf_iinc h hs
  case iadd => exact sf_iadd h hs
  case isub => exact sf_isub h hs
  case imul => exact sf_imul h hs
  case idiv => exact sf_idiv h hs
  case irem => exact sf_irem h hs
  case iand => exact sf_iand h hs
  case ladd => exact sf_ladd h hs
  case lsub => exact sf_lsub h hs
  case land => exact sf_land h hs
  case lor => exact sf_lor h hs
  case lxor => exact sf_lxor h hs
  case lushr => exact sf_lushr h hs
  case lshl => exact sf_lshl h hs
  case lshr => exact sf_lshr h hs
  case lcmp => exact sf_lcmp h hs
  case ineg => exact sf_ineg h hs
  case i2l => exact sf_i2l h hs
  case l2i => exact sf_l2i h hs
  case ishr => exact sf_ishr h hs
  case dup => exact sf_dup h hs
  case dup2 => exact sf_dup2 h hs
  case pop => exact sf_pop h hs
  case pop2 => exact sf_pop2 h hs
  case goto t => exact sf_goto h hs
  case ifCond c t => exact sf_ifCond h hs
  case if_icmp c t => exact sf_if_icmp h hs
  case tableswitch d lo hi offs => exact sf_tableswitch h hs
  case getfield q => exact sf_getfield h hs
  case putfield q => exact sf_putfield h hs
  case iaload => exact sf_iaload h hs
  case baload => exact sf_baload h hs
  case laload => exact sf_laload h hs
  case caload => exact sf_caload h hs
  case iastore => exact sf_iastore h hs
  case bastore => exact sf_bastore h hs
  case lastore => exact sf_lastore h hs
  case arraylength => exact sf_arraylength h hs
  case saload => exact sf_saload h hs
  case new q => exact sf_new h hs
  case newarray t =>
    cases t
    case int => exact sf_newarray_int h hs
    case long => exact sf_newarray_long h hs
    case boolean => exact sf_newarray_boolean h hs
    all_goals (simp only [stp, Bool.cond_eq_ite] at h; repeat' split at h) <;> cases h
  case invokestatic q =>
    by_cases h0 : q = 1000
    · subst h0; exact sf_max h hs
    by_cases h1 : q = 1001
    · subst h1; exact sf_min h hs
    by_cases h2 : q = 1002
    · subst h2; exact sf_copy h hs
    by_cases h3 : q = 1003
    · subst h3; exact sf_oinit h hs
    simp only [stp] at h
    cases h
  all_goals (simp only [stp] at h; cases h)
end FRM
def KF (S : Nat → Prop) (K : Nat → List AV → M5 → Option AV → M5 → Prop) : Prop := ∀ c args M rv M1, K c args M rv M1 → (∀ v ∈ args, rOk S v) → clo S M → clo S M1 ∧ frm S M M1
theorem runK_frm {S : Nat → Prop} {K : Nat → List AV → M5 → Option AV → M5 → Prop} (hK : KF S K) {y : Nat} : ∀ (k : Nat) (z : ST) (r : Option AV) (M' : M5), runK K y k z r M' → sOk S z → clo S M' ∧ frm S z.2.2.2 M' := by
  intro k
  induction k with
  | zero => intro z r M' q; exact q.elim
  | succ k ih =>
    intro z r M' q hs
    simp only [runK] at q
    split at q
    · exact q.elim
    · obtain ⟨x, h1, h2, rfl, rfl⟩ := q; exact ⟨hs.2.2, frm.refl _ _⟩
    · obtain ⟨x, h1, h2, rfl, rfl⟩ := q; exact ⟨hs.2.2, frm.refl _ _⟩
    · obtain ⟨h1, h2, rfl, rfl⟩ := q; exact ⟨hs.2.2, frm.refl _ _⟩
    · obtain ⟨h1, rv, M1, h2, h3, h4⟩ := q
      have a := hK _ _ _ _ _ h2 (fun v hv => hs.2.1 v (List.mem_of_mem_take (List.mem_reverse.mp hv))) hs.2.2
      have b := ih _ _ _ h4 ⟨hs.1, fun v hv => by
        rcases List.mem_append.mp hv with hv | hv
        · cases rv with
          | none => cases hv
          | some w =>
            have hv : v ∈ [w] := hv
            rw [List.mem_singleton] at hv
            subst hv
            match v, h3 with
            | .inl _, _ => trivial
            | .inr (.inl _), _ => trivial
            | .inr (.inr none), _ => trivial
            | .inr (.inr (some _)), h3 => exact h3.elim
        · exact hs.2.1 v (List.mem_of_mem_drop hv), a.1⟩
      exact ⟨b.1, a.2.trans b.2⟩
    · obtain ⟨ps, z', h1, h2, h3⟩ := q
      have a := stp_frm h1 hs
      have b := ih _ _ _ h3 a.1
      exact ⟨b.1, a.2.trans b.2⟩
theorem entA_ok {S : Nat → Prop} : ∀ args : List AV, (∀ v ∈ args, rOk S v) → ∀ w ∈ entA args, ∀ v, w = some v → rOk S v
  | [], _, w, hw => by cases hw
  | .inr (.inl z) :: r, h, w, hw => by
    simp only [entA, List.mem_cons] at hw
    intro v hv
    rcases hw with rfl | rfl | hw
    · cases hv; trivial
    · cases hv
    · exact entA_ok r (fun v hv => h v (List.mem_cons_of_mem _ hv)) w hw v hv
  | .inl z :: r, h, w, hw => by
    simp only [entA, List.mem_cons] at hw
    intro v hv
    rcases hw with rfl | hw
    · cases hv; trivial
    · exact entA_ok r (fun v hv => h v (List.mem_cons_of_mem _ hv)) w hw v hv
  | .inr (.inr z) :: r, h, w, hw => by
    simp only [entA, List.mem_cons] at hw
    intro v hv
    rcases hw with rfl | hw
    · cases hv; exact h _ List.mem_cons_self
    · exact entA_ok r (fun v hv => h v (List.mem_cons_of_mem _ hv)) w hw v hv
theorem Rn_frm {S : Nat → Prop} : ∀ d : Nat, KF S (Rn d)
  | 0 => fun _ _ _ _ _ h => h.elim
  | d + 1 => fun c args M rv M1 h ha hc => by
    obtain ⟨-, k, h⟩ := h
    refine runK_frm (Rn_frm d) k _ _ _ h ⟨fun i v hv => ?_, fun v hv => (by cases hv), hc⟩
    have hv : (entL args (mL c)).getD i none = some v := hv
    have : some v ∈ entL args (mL c) := by
      rw [List.getD_eq_getElem?_getD] at hv
      cases e : (entL args (mL c))[i]? with
      | none => rw [e] at hv; cases hv
      | some w =>
        rw [e] at hv
        have hv : w = some v := hv
        rw [← hv]
        exact List.mem_of_getElem? e
    unfold entL at this
    rcases List.mem_append.mp this with q | q
    · exact entA_ok args ha _ q v rfl
    · rw [List.mem_replicate] at q
      cases q.2
theorem CT.frm {S : Nat → Prop} {y : Nat} {args : List AV} {M : M5} {Q : Option AV → M5 → Prop} (h : CT y args M Q) (ha : ∀ v ∈ args, rOk S v) (hc : clo S M) : CT y args M (fun r M' => Q r M' ∧ frm S M M') := by
  obtain ⟨d, r, M', h1, h2⟩ := h
  exact ⟨d, r, M', h1, h2, (Rn_frm d _ _ _ _ _ h1 ha hc).2⟩
def SX (a : Nat) : Prop := a < 52 ∨ 96 ≤ a
def SM (a : Nat) : Prop := 52 ≤ a
theorem sR_tab : ∀ i, i < 96 → ∀ k, k < 100 → (match sR i k with | some j => (decide (i < 52) == decide (j < 52)) && decide (j < 96) | none => true) = true := by decide +kernel
theorem sR_far (i k : Nat) (h : 96 ≤ i) : sR i k = none := by
  have hl : Nat.blt i 96 = false := by
    cases hq : Nat.blt i 96 with
    | false => rfl
    | true => have := blt_lt hq; omega
  unfold sR
  rw [hl]
  rfl
theorem clo_X {N : Nat} {I : Nat → Nat → Int} {J : Nat → Nat → Int64} : clo SX (MM N I J) := by
  refine ⟨fun a ha k hk j hj => ?_, fun a ha => Or.inr ha⟩
  have hj : sR a k = some j := hj
  rcases ha with ha | ha
  · have t := sR_tab a (by omega) k hk
    rw [hj] at t
    simp only [Bool.and_eq_true, decide_eq_true_eq] at t
    have := t.1
    rw [decide_eq_true ha] at this
    simp at this
    exact Or.inl this
  · rw [sR_far a k (by omega)] at hj
    cases hj
theorem clo_M {N : Nat} {I : Nat → Nat → Int} {J : Nat → Nat → Int64} : clo SM (MM N I J) := by
  refine ⟨fun a ha k hk j hj => ?_, fun a ha => Nat.le_trans (show 52 ≤ 96 by decide) ha⟩
  have hj : sR a k = some j := hj
  unfold SM at ha ⊢
  by_cases h96 : a < 96
  · have t := sR_tab a h96 k hk
    rw [hj] at t
    simp only [Bool.and_eq_true, decide_eq_true_eq] at t
    have := t.1
    rw [decide_eq_false (by omega)] at this
    simp at this
    exact this
  · rw [sR_far a k (by omega)] at hj
    cases hj
/-- a call of the class leaves the reference's cells alone, and a call of the reference the class's -/
theorem CT.x {y N : Nat} {args : List AV} {I : Nat → Nat → Int} {J : Nat → Nat → Int64} {Q : Option AV → M5 → Prop} (h : CT y args (MM N I J) Q) (ha : ∀ v ∈ args, rOk SX v) : CT y args (MM N I J) (fun r M' => Q r M' ∧ ∀ i, 52 ≤ i → i < 96 → M'.2.2.2.1 i = I i ∧ M'.2.2.2.2 i = J i) :=
  (h.frm ha clo_X).mono fun r M' q => ⟨q.1, fun i a b => q.2 i (fun w => by unfold SX at w; omega)⟩
theorem CT.m {y N : Nat} {args : List AV} {I : Nat → Nat → Int} {J : Nat → Nat → Int64} {Q : Option AV → M5 → Prop} (h : CT y args (MM N I J) Q) (ha : ∀ v ∈ args, rOk SM v) : CT y args (MM N I J) (fun r M' => Q r M' ∧ ∀ i, i < 52 → M'.2.2.2.1 i = I i ∧ M'.2.2.2.2 i = J i) :=
  (h.frm ha clo_M).mono fun r M' q => ⟨q.1, fun i a => q.2 i (fun w => by unfold SM at w; omega)⟩
