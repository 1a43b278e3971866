/-! ===== what every step keeps ===== -/
theorem okM_I {L : Nat} {xs : Nat → Int32} {M : M5} {a : Nat} {f : Nat → Int} (h : okM L xs M) (ha : a < M.1) (hf : ∀ k, inR (f k)) : okM L xs (M.1, M.2.1, M.2.2.1, ma M.2.2.2.1 a f, M.2.2.2.2) := by
  refine ⟨h.1, fun i k => ?_, h.2.2.1, h.2.2.2.1, fun k => ?_⟩
  · show inR (ma M.2.2.2.1 a f i k)
    unfold ma
    split
    · exact hf k
    · exact h.2.1 i k
  · show Int32.ofInt (ma M.2.2.2.1 a f SCR k) = _
    rw [ma_ne _ _ (ne_scr h ha).symm]
    exact h.2.2.2.2 k
theorem okM_R {L : Nat} {xs : Nat → Int32} {M : M5} {a k j : Nat} (h : okM L xs M) (hj : j < M.1) : okM L xs (M.1, M.2.1, ma M.2.2.1 a (ma (M.2.2.1 a) k (some j)), M.2.2.2.1, M.2.2.2.2) := by
  refine ⟨h.1, h.2.1, fun i q w hw => ?_, h.2.2.2.1, h.2.2.2.2⟩
  have hw : ma M.2.2.1 a (ma (M.2.2.1 a) k (some j)) i q = some w := hw
  show w < M.1
  unfold ma at hw
  split at hw
  · have hw : (if q = k then some j else M.2.2.1 a q) = some w := hw
    split at hw
    · cases hw; exact hj
    · exact h.2.2.1 _ _ _ hw
  · exact h.2.2.1 _ _ _ hw
theorem ma_in {f : Nat → Int} {i : Nat} {z : Int} (h : ∀ k, inR (f k)) (hz : inR z) : ∀ k, inR (ma f i z k) := by
  intro k
  unfold ma
  split
  · exact hz
  · exact h k
theorem acp_in {f g : Nat → Int} {a b n : Nat} (h : ∀ k, inR (f k)) (hz : ∀ k, inR (g k)) : ∀ k, inR (acp f g a b n k) := by
  intro k
  unfold acp
  split
  · exact h _
  · exact hz k
theorem okM_new {L : Nat} {xs : Nat → Int32} {M : M5} {v : Nat × Nat} {R' : Nat → Nat → Option Nat} {I' : Nat → Nat → Int} {L' : Nat → Nat → Int64} (h : okM L xs M) (hM : M.1 < SCR) (hR : R' = M.2.2.1 ∨ R' = ma M.2.2.1 M.1 (fun _ => none)) (hI : I' = M.2.2.2.1 ∨ I' = ma M.2.2.2.1 M.1 (fun _ => 0)) : okM L xs (M.1 + 1, ma M.2.1 M.1 v, R', I', L') := by
  refine ⟨hM, fun i k => ?_, fun i q w hw => ?_, ?_, fun k => ?_⟩
  · show inR (I' i k)
    rcases hI with rfl | rfl
    · exact h.2.1 i k
    · unfold ma
      split
      · exact inR_0
      · exact h.2.1 i k
  · have hw : R' i q = some w := hw
    show w < M.1 + 1
    rcases hR with rfl | rfl
    · have := h.2.2.1 _ _ _ hw; omega
    · unfold ma at hw
      split at hw
      · cases hw
      · have := h.2.2.1 _ _ _ hw; omega
  · show (ma M.2.1 M.1 v SCR).2 = L
    rw [ma_ne _ _ (by omega)]
    exact h.2.2.2.1
  · show Int32.ofInt (I' SCR k) = _
    rcases hI with rfl | rfl
    · exact h.2.2.2.2 k
    · rw [ma_ne _ _ (by omega)]
      exact h.2.2.2.2 k
theorem slT_mono (n : Nat) (S : Nat → Nat × Nat) (v : Nat × Nat) : slT n S ≤ slT (n + 1) (ma S n v) := by
  rw [slT_succ]; omega
theorem inR_div {x y : Int} (hx : inR x) (h0 : 0 ≤ x) (h1 : 0 < y) : inR (x / y) := by
  have a := Int.ediv_nonneg h0 (Int.le_of_lt h1)
  have b := Int.ediv_le_self y h0
  exact ⟨by have := hx.1; omega, by have := hx.2; omega⟩
theorem inR_mod {x y : Int} (hy : inR y) (h1 : 0 < y) : inR (x % y) := by
  have a := Int.emod_nonneg x (Int.ne_of_gt h1)
  have b := Int.emod_lt_of_pos x h1
  exact ⟨by omega, by have := hy.2; omega⟩
theorem inR_and {x y : Int} (h : y = 1 ∨ y = 63 ∨ y = 127) : inR (x % (y + 1)) := by
  refine inR_mod ?_ ?_ <;> rcases h with rfl | rfl | rfl <;> first | exact ⟨by decide, by decide⟩ | decide
theorem inR_lcm (x y : Int64) : inR (lcm x y) := by
  unfold lcm
  split
  · exact ⟨by decide, by decide⟩
  · split <;> exact ⟨by decide, by decide⟩
theorem inR_len {n : Nat} (h : n ≤ 100000) : inR (n : Int) := ⟨by omega, by omega⟩
section KEEP
variable {L : Nat} {xs : Nat → Int32} {pc len : Nat} {ls : LV} {st : List AV} {M : M5} {ps : List Prop} {z' : ST}
abbrev kept (L : Nat) (xs : Nat → Int32) (z z' : ST) : Prop := okS L xs z' ∧ z.2.2.2.1 ≤ z'.2.2.2.1 ∧ slT z.2.2.2.1 z.2.2.2.2.1 ≤ slT z'.2.2.2.1 z'.2.2.2.2.1
theorem sk_bipush {v : Int} (h : stp (.bipush v) len (pc, ls, st, M) = some (ps, z')) (hp : allP ps) (hs : okS L xs (pc, ls, st, M)) : kept L xs (pc, ls, st, M) z' := by
  obtain ⟨h0, rfl, rfl⟩ := si_bipush h
  have hst := hs.2.1
  simp only [List.forall_mem_cons] at hst
  refine ⟨⟨hs.1, ?_, hs.2.2⟩, Nat.le_refl _, Nat.le_refl _⟩
  simp only [List.forall_mem_cons]
  exact ⟨inR_of h0, hs.2.1⟩
theorem sk_jsr_w {v : Int} (h : stp (.jsr_w v) len (pc, ls, st, M) = some (ps, z')) (hp : allP ps) (hs : okS L xs (pc, ls, st, M)) : kept L xs (pc, ls, st, M) z' := by
  obtain ⟨rfl, rfl⟩ := si_jsr_w h
  have hst := hs.2.1
  simp only [List.forall_mem_cons] at hst
  refine ⟨⟨hs.1, ?_, hs.2.2⟩, Nat.le_refl _, Nat.le_refl _⟩
  simp only [List.forall_mem_cons]
  exact ⟨trivial, hs.2.1⟩
theorem sk_iload {i : Nat} (h : stp (.iload i) len (pc, ls, st, M) = some (ps, z')) (hp : allP ps) (hs : okS L xs (pc, ls, st, M)) : kept L xs (pc, ls, st, M) z' := by
  obtain ⟨v, hv, rfl, rfl⟩ := si_iload h
  have hst := hs.2.1
  simp only [List.forall_mem_cons] at hst
  refine ⟨⟨hs.1, ?_, hs.2.2⟩, Nat.le_refl _, Nat.le_refl _⟩
  simp only [List.forall_mem_cons]
  exact ⟨ok_get hs hv, hs.2.1⟩
theorem sk_lload {i : Nat} (h : stp (.lload i) len (pc, ls, st, M) = some (ps, z')) (hp : allP ps) (hs : okS L xs (pc, ls, st, M)) : kept L xs (pc, ls, st, M) z' := by
  obtain ⟨v, hv, rfl, rfl⟩ := si_lload h
  have hst := hs.2.1
  simp only [List.forall_mem_cons] at hst
  refine ⟨⟨hs.1, ?_, hs.2.2⟩, Nat.le_refl _, Nat.le_refl _⟩
  simp only [List.forall_mem_cons]
  exact ⟨trivial, hs.2.1⟩
theorem sk_aload {i : Nat} (h : stp (.aload i) len (pc, ls, st, M) = some (ps, z')) (hp : allP ps) (hs : okS L xs (pc, ls, st, M)) : kept L xs (pc, ls, st, M) z' := by
  obtain ⟨v, hv, rfl, rfl⟩ := si_aload h
  have hst := hs.2.1
  simp only [List.forall_mem_cons] at hst
  refine ⟨⟨hs.1, ?_, hs.2.2⟩, Nat.le_refl _, Nat.le_refl _⟩
  simp only [List.forall_mem_cons]
  exact ⟨trivial, hs.2.1⟩
theorem sk_istore {i : Nat} (h : stp (.istore i) len (pc, ls, st, M) = some (ps, z')) (hp : allP ps) (hs : okS L xs (pc, ls, st, M)) : kept L xs (pc, ls, st, M) z' := by
  obtain ⟨v, r, rfl, hi, rfl, rfl⟩ := si_istore h
  have hst := hs.2.1
  simp only [List.forall_mem_cons] at hst
  exact ⟨⟨ok_ls1 hs.1 hst.1, hst.2, hs.2.2⟩, Nat.le_refl _, Nat.le_refl _⟩
theorem sk_lstore {i : Nat} (h : stp (.lstore i) len (pc, ls, st, M) = some (ps, z')) (hp : allP ps) (hs : okS L xs (pc, ls, st, M)) : kept L xs (pc, ls, st, M) z' := by
  obtain ⟨v, r, rfl, hi, rfl, rfl⟩ := si_lstore h
  have hst := hs.2.1
  simp only [List.forall_mem_cons] at hst
  exact ⟨⟨ok_ls2 hs.1 hst.1, hst.2, hs.2.2⟩, Nat.le_refl _, Nat.le_refl _⟩
theorem sk_astore {i : Nat} (h : stp (.astore i) len (pc, ls, st, M) = some (ps, z')) (hp : allP ps) (hs : okS L xs (pc, ls, st, M)) : kept L xs (pc, ls, st, M) z' := by
  obtain ⟨v, r, rfl, hi, rfl, rfl⟩ := si_astore h
  have hst := hs.2.1
  simp only [List.forall_mem_cons] at hst
  exact ⟨⟨ok_ls1 hs.1 hst.1, hst.2, hs.2.2⟩, Nat.le_refl _, Nat.le_refl _⟩
theorem sk_iinc {i : Nat} {n : Int} (h : stp (.iinc i n) len (pc, ls, st, M) = some (ps, z')) (hp : allP ps) (hs : okS L xs (pc, ls, st, M)) : kept L xs (pc, ls, st, M) z' := by
  obtain ⟨v, hv, rfl, rfl⟩ := si_iinc h
  exact ⟨⟨ok_ls1 hs.1 hp, hs.2.1, hs.2.2⟩, Nat.le_refl _, Nat.le_refl _⟩
theorem sk_iadd  (h : stp (.iadd) len (pc, ls, st, M) = some (ps, z')) (hp : allP ps) (hs : okS L xs (pc, ls, st, M)) : kept L xs (pc, ls, st, M) z' := by
  obtain ⟨y1, x1, r, rfl, rfl, rfl⟩ := si_iadd h
  have hst := hs.2.1
  simp only [List.forall_mem_cons] at hst
  refine ⟨⟨hs.1, ?_, hs.2.2⟩, Nat.le_refl _, Nat.le_refl _⟩
  simp only [List.forall_mem_cons]
  exact ⟨hp, hst.2.2⟩
theorem sk_isub  (h : stp (.isub) len (pc, ls, st, M) = some (ps, z')) (hp : allP ps) (hs : okS L xs (pc, ls, st, M)) : kept L xs (pc, ls, st, M) z' := by
  obtain ⟨y1, x1, r, rfl, rfl, rfl⟩ := si_isub h
  have hst := hs.2.1
  simp only [List.forall_mem_cons] at hst
  refine ⟨⟨hs.1, ?_, hs.2.2⟩, Nat.le_refl _, Nat.le_refl _⟩
  simp only [List.forall_mem_cons]
  exact ⟨hp, hst.2.2⟩
theorem sk_imul  (h : stp (.imul) len (pc, ls, st, M) = some (ps, z')) (hp : allP ps) (hs : okS L xs (pc, ls, st, M)) : kept L xs (pc, ls, st, M) z' := by
  obtain ⟨y1, x1, r, rfl, rfl, rfl⟩ := si_imul h
  have hst := hs.2.1
  simp only [List.forall_mem_cons] at hst
  refine ⟨⟨hs.1, ?_, hs.2.2⟩, Nat.le_refl _, Nat.le_refl _⟩
  simp only [List.forall_mem_cons]
  exact ⟨hp, hst.2.2⟩
theorem sk_ineg  (h : stp (.ineg) len (pc, ls, st, M) = some (ps, z')) (hp : allP ps) (hs : okS L xs (pc, ls, st, M)) : kept L xs (pc, ls, st, M) z' := by
  obtain ⟨x1, r, rfl, rfl, rfl⟩ := si_ineg h
  have hst := hs.2.1
  simp only [List.forall_mem_cons] at hst
  refine ⟨⟨hs.1, ?_, hs.2.2⟩, Nat.le_refl _, Nat.le_refl _⟩
  simp only [List.forall_mem_cons]
  exact ⟨hp, hst.2⟩
theorem sk_idiv  (h : stp (.idiv) len (pc, ls, st, M) = some (ps, z')) (hp : allP ps) (hs : okS L xs (pc, ls, st, M)) : kept L xs (pc, ls, st, M) z' := by
  obtain ⟨y1, x1, r, rfl, rfl, rfl⟩ := si_idiv h
  have hst := hs.2.1
  simp only [List.forall_mem_cons] at hst
  refine ⟨⟨hs.1, ?_, hs.2.2⟩, Nat.le_refl _, Nat.le_refl _⟩
  simp only [List.forall_mem_cons]
  exact ⟨inR_div hst.2.1 hp.1 hp.2, hst.2.2⟩
theorem sk_irem  (h : stp (.irem) len (pc, ls, st, M) = some (ps, z')) (hp : allP ps) (hs : okS L xs (pc, ls, st, M)) : kept L xs (pc, ls, st, M) z' := by
  obtain ⟨y1, x1, r, rfl, rfl, rfl⟩ := si_irem h
  have hst := hs.2.1
  simp only [List.forall_mem_cons] at hst
  refine ⟨⟨hs.1, ?_, hs.2.2⟩, Nat.le_refl _, Nat.le_refl _⟩
  simp only [List.forall_mem_cons]
  exact ⟨inR_mod hst.1 hp.2, hst.2.2⟩
theorem sk_iand  (h : stp (.iand) len (pc, ls, st, M) = some (ps, z')) (hp : allP ps) (hs : okS L xs (pc, ls, st, M)) : kept L xs (pc, ls, st, M) z' := by
  obtain ⟨y1, x1, r, rfl, rfl, rfl⟩ := si_iand h
  have hst := hs.2.1
  simp only [List.forall_mem_cons] at hst
  refine ⟨⟨hs.1, ?_, hs.2.2⟩, Nat.le_refl _, Nat.le_refl _⟩
  simp only [List.forall_mem_cons]
  exact ⟨inR_and hp, hst.2.2⟩
theorem sk_ishr  (h : stp (.ishr) len (pc, ls, st, M) = some (ps, z')) (hp : allP ps) (hs : okS L xs (pc, ls, st, M)) : kept L xs (pc, ls, st, M) z' := by
  obtain ⟨y1, x1, r, rfl, rfl, rfl⟩ := si_ishr h
  have hst := hs.2.1
  simp only [List.forall_mem_cons] at hst
  refine ⟨⟨hs.1, ?_, hs.2.2⟩, Nat.le_refl _, Nat.le_refl _⟩
  simp only [List.forall_mem_cons]
  exact ⟨by have := hst.2.1; exact ⟨by have := this.1; omega, by have := this.2; omega⟩, hst.2.2⟩
theorem sk_i2l  (h : stp (.i2l) len (pc, ls, st, M) = some (ps, z')) (hp : allP ps) (hs : okS L xs (pc, ls, st, M)) : kept L xs (pc, ls, st, M) z' := by
  obtain ⟨x1, r, rfl, rfl, rfl⟩ := si_i2l h
  have hst := hs.2.1
  simp only [List.forall_mem_cons] at hst
  refine ⟨⟨hs.1, ?_, hs.2.2⟩, Nat.le_refl _, Nat.le_refl _⟩
  simp only [List.forall_mem_cons]
  exact ⟨trivial, hst.2⟩
theorem sk_l2i  (h : stp (.l2i) len (pc, ls, st, M) = some (ps, z')) (hp : allP ps) (hs : okS L xs (pc, ls, st, M)) : kept L xs (pc, ls, st, M) z' := by
  obtain ⟨x1, r, rfl, rfl, rfl⟩ := si_l2i h
  have hst := hs.2.1
  simp only [List.forall_mem_cons] at hst
  refine ⟨⟨hs.1, ?_, hs.2.2⟩, Nat.le_refl _, Nat.le_refl _⟩
  simp only [List.forall_mem_cons]
  exact ⟨i32_rng _, hst.2⟩
theorem sk_ladd  (h : stp (.ladd) len (pc, ls, st, M) = some (ps, z')) (hp : allP ps) (hs : okS L xs (pc, ls, st, M)) : kept L xs (pc, ls, st, M) z' := by
  obtain ⟨y1, x1, r, rfl, rfl, rfl⟩ := si_ladd h
  have hst := hs.2.1
  simp only [List.forall_mem_cons] at hst
  refine ⟨⟨hs.1, ?_, hs.2.2⟩, Nat.le_refl _, Nat.le_refl _⟩
  simp only [List.forall_mem_cons]
  exact ⟨trivial, hst.2.2⟩
theorem sk_lsub  (h : stp (.lsub) len (pc, ls, st, M) = some (ps, z')) (hp : allP ps) (hs : okS L xs (pc, ls, st, M)) : kept L xs (pc, ls, st, M) z' := by
  obtain ⟨y1, x1, r, rfl, rfl, rfl⟩ := si_lsub h
  have hst := hs.2.1
  simp only [List.forall_mem_cons] at hst
  refine ⟨⟨hs.1, ?_, hs.2.2⟩, Nat.le_refl _, Nat.le_refl _⟩
  simp only [List.forall_mem_cons]
  exact ⟨trivial, hst.2.2⟩
theorem sk_land  (h : stp (.land) len (pc, ls, st, M) = some (ps, z')) (hp : allP ps) (hs : okS L xs (pc, ls, st, M)) : kept L xs (pc, ls, st, M) z' := by
  obtain ⟨y1, x1, r, rfl, rfl, rfl⟩ := si_land h
  have hst := hs.2.1
  simp only [List.forall_mem_cons] at hst
  refine ⟨⟨hs.1, ?_, hs.2.2⟩, Nat.le_refl _, Nat.le_refl _⟩
  simp only [List.forall_mem_cons]
  exact ⟨trivial, hst.2.2⟩
theorem sk_lor  (h : stp (.lor) len (pc, ls, st, M) = some (ps, z')) (hp : allP ps) (hs : okS L xs (pc, ls, st, M)) : kept L xs (pc, ls, st, M) z' := by
  obtain ⟨y1, x1, r, rfl, rfl, rfl⟩ := si_lor h
  have hst := hs.2.1
  simp only [List.forall_mem_cons] at hst
  refine ⟨⟨hs.1, ?_, hs.2.2⟩, Nat.le_refl _, Nat.le_refl _⟩
  simp only [List.forall_mem_cons]
  exact ⟨trivial, hst.2.2⟩
theorem sk_lxor  (h : stp (.lxor) len (pc, ls, st, M) = some (ps, z')) (hp : allP ps) (hs : okS L xs (pc, ls, st, M)) : kept L xs (pc, ls, st, M) z' := by
  obtain ⟨y1, x1, r, rfl, rfl, rfl⟩ := si_lxor h
  have hst := hs.2.1
  simp only [List.forall_mem_cons] at hst
  refine ⟨⟨hs.1, ?_, hs.2.2⟩, Nat.le_refl _, Nat.le_refl _⟩
  simp only [List.forall_mem_cons]
  exact ⟨trivial, hst.2.2⟩
theorem sk_lushr  (h : stp (.lushr) len (pc, ls, st, M) = some (ps, z')) (hp : allP ps) (hs : okS L xs (pc, ls, st, M)) : kept L xs (pc, ls, st, M) z' := by
  obtain ⟨y1, x1, r, rfl, rfl, rfl⟩ := si_lushr h
  have hst := hs.2.1
  simp only [List.forall_mem_cons] at hst
  refine ⟨⟨hs.1, ?_, hs.2.2⟩, Nat.le_refl _, Nat.le_refl _⟩
  simp only [List.forall_mem_cons]
  exact ⟨trivial, hst.2.2⟩
theorem sk_lshl  (h : stp (.lshl) len (pc, ls, st, M) = some (ps, z')) (hp : allP ps) (hs : okS L xs (pc, ls, st, M)) : kept L xs (pc, ls, st, M) z' := by
  obtain ⟨y1, x1, r, rfl, rfl, rfl⟩ := si_lshl h
  have hst := hs.2.1
  simp only [List.forall_mem_cons] at hst
  refine ⟨⟨hs.1, ?_, hs.2.2⟩, Nat.le_refl _, Nat.le_refl _⟩
  simp only [List.forall_mem_cons]
  exact ⟨trivial, hst.2.2⟩
theorem sk_lshr  (h : stp (.lshr) len (pc, ls, st, M) = some (ps, z')) (hp : allP ps) (hs : okS L xs (pc, ls, st, M)) : kept L xs (pc, ls, st, M) z' := by
  obtain ⟨y1, x1, r, rfl, rfl, rfl⟩ := si_lshr h
  have hst := hs.2.1
  simp only [List.forall_mem_cons] at hst
  refine ⟨⟨hs.1, ?_, hs.2.2⟩, Nat.le_refl _, Nat.le_refl _⟩
  simp only [List.forall_mem_cons]
  exact ⟨trivial, hst.2.2⟩
theorem sk_lcmp  (h : stp (.lcmp) len (pc, ls, st, M) = some (ps, z')) (hp : allP ps) (hs : okS L xs (pc, ls, st, M)) : kept L xs (pc, ls, st, M) z' := by
  obtain ⟨y1, x1, r, rfl, rfl, rfl⟩ := si_lcmp h
  have hst := hs.2.1
  simp only [List.forall_mem_cons] at hst
  refine ⟨⟨hs.1, ?_, hs.2.2⟩, Nat.le_refl _, Nat.le_refl _⟩
  simp only [List.forall_mem_cons]
  exact ⟨inR_lcm _ _, hst.2.2⟩
theorem sk_dup  (h : stp (.dup) len (pc, ls, st, M) = some (ps, z')) (hp : allP ps) (hs : okS L xs (pc, ls, st, M)) : kept L xs (pc, ls, st, M) z' := by
  obtain ⟨v, r, rfl, hv, rfl, rfl⟩ := si_dup h
  have hst := hs.2.1
  simp only [List.forall_mem_cons] at hst
  refine ⟨⟨hs.1, ?_, hs.2.2⟩, Nat.le_refl _, Nat.le_refl _⟩
  simp only [List.forall_mem_cons]
  exact ⟨hst.1, hst.1, hst.2⟩
theorem sk_dup2  (h : stp (.dup2) len (pc, ls, st, M) = some (ps, z')) (hp : allP ps) (hs : okS L xs (pc, ls, st, M)) : kept L xs (pc, ls, st, M) z' := by
  obtain ⟨x1, v, r, rfl, rfl, rfl⟩ := si_dup2 h
  have hst := hs.2.1
  simp only [List.forall_mem_cons] at hst
  refine ⟨⟨hs.1, ?_, hs.2.2⟩, Nat.le_refl _, Nat.le_refl _⟩
  simp only [List.forall_mem_cons]
  exact ⟨hst.1, hst.2.1, hst.1, hst.2.1, hst.2.2⟩
theorem sk_pop  (h : stp (.pop) len (pc, ls, st, M) = some (ps, z')) (hp : allP ps) (hs : okS L xs (pc, ls, st, M)) : kept L xs (pc, ls, st, M) z' := by
  obtain ⟨x1, r, rfl, rfl, rfl⟩ := si_pop h
  have hst := hs.2.1
  simp only [List.forall_mem_cons] at hst
  exact ⟨⟨hs.1, hst.2, hs.2.2⟩, Nat.le_refl _, Nat.le_refl _⟩
theorem sk_pop2  (h : stp (.pop2) len (pc, ls, st, M) = some (ps, z')) (hp : allP ps) (hs : okS L xs (pc, ls, st, M)) : kept L xs (pc, ls, st, M) z' := by
  obtain ⟨x1, r, rfl, rfl, rfl⟩ := si_pop2 h
  have hst := hs.2.1
  simp only [List.forall_mem_cons] at hst
  exact ⟨⟨hs.1, hst.2, hs.2.2⟩, Nat.le_refl _, Nat.le_refl _⟩
theorem sk_goto {t : Int} (h : stp (.goto t) len (pc, ls, st, M) = some (ps, z')) (hp : allP ps) (hs : okS L xs (pc, ls, st, M)) : kept L xs (pc, ls, st, M) z' := by
  obtain ⟨rfl, rfl⟩ := si_goto h
  exact ⟨⟨hs.1, hs.2.1, hs.2.2⟩, Nat.le_refl _, Nat.le_refl _⟩
theorem sk_ifCond {c : Jvm.ClassFile.Cond} {t : Int} (h : stp (.ifCond c t) len (pc, ls, st, M) = some (ps, z')) (hp : allP ps) (hs : okS L xs (pc, ls, st, M)) : kept L xs (pc, ls, st, M) z' := by
  obtain ⟨x1, r, rfl, rfl, rfl⟩ := si_ifCond h
  have hst := hs.2.1
  simp only [List.forall_mem_cons] at hst
  exact ⟨⟨hs.1, hst.2, hs.2.2⟩, Nat.le_refl _, Nat.le_refl _⟩
theorem sk_if_icmp {c : Jvm.ClassFile.Cond} {t : Int} (h : stp (.if_icmp c t) len (pc, ls, st, M) = some (ps, z')) (hp : allP ps) (hs : okS L xs (pc, ls, st, M)) : kept L xs (pc, ls, st, M) z' := by
  obtain ⟨y1, x1, r, rfl, rfl, rfl⟩ := si_if_icmp h
  have hst := hs.2.1
  simp only [List.forall_mem_cons] at hst
  exact ⟨⟨hs.1, hst.2.2, hs.2.2⟩, Nat.le_refl _, Nat.le_refl _⟩
theorem sk_tableswitch {d lo hi : Int} {offs : Array Int} (h : stp (.tableswitch d lo hi offs) len (pc, ls, st, M) = some (ps, z')) (hp : allP ps) (hs : okS L xs (pc, ls, st, M)) : kept L xs (pc, ls, st, M) z' := by
  obtain ⟨x1, r, rfl, rfl, rfl⟩ := si_tableswitch h
  have hst := hs.2.1
  simp only [List.forall_mem_cons] at hst
  exact ⟨⟨hs.1, hst.2, hs.2.2⟩, Nat.le_refl _, Nat.le_refl _⟩
theorem sk_getfield {q : Nat} (h : stp (.getfield q) len (pc, ls, st, M) = some (ps, z')) (hp : allP ps) (hs : okS L xs (pc, ls, st, M)) : kept L xs (pc, ls, st, M) z' := by
  obtain ⟨a, v, r, rfl, hc, hv, rfl, rfl⟩ := si_getfield h
  have hst := hs.2.1
  simp only [List.forall_mem_cons] at hst
  refine ⟨⟨hs.1, ?_, hs.2.2⟩, Nat.le_refl _, Nat.le_refl _⟩
  simp only [List.forall_mem_cons]
  refine ⟨?_, hst.2⟩
  unfold pmF at hv
  cases hb : Nat.beq (fK ((M.2.1 a).1 - 3) (q % 1000)) 2 with
  | false =>
    rw [hb] at hv
    cases hv
    exact hs.2.2.2.1 _ _
  | true =>
    rw [hb] at hv
    cases hr : M.2.2.1 a (q % 1000) with
    | none => rw [hr] at hv; cases hv; trivial
    | some j => rw [hr] at hv; cases hv; trivial
theorem sk_putfield {q : Nat} (h : stp (.putfield q) len (pc, ls, st, M) = some (ps, z')) (hp : allP ps) (hs : okS L xs (pc, ls, st, M)) : kept L xs (pc, ls, st, M) z' := by
  rcases si_putfield h with ⟨z, a, r, rfl, hc, hty, rfl⟩ | ⟨j, a, r, rfl, hc, hty, hj, rfl, rfl⟩
  · have hst := hs.2.1
    simp only [List.forall_mem_cons] at hst
    exact ⟨⟨hs.1, hst.2.2, okM_I hs.2.2 (blt_lt (and2 (and2 hc).1).1) (ma_in (hs.2.2.2.1 _) hst.1)⟩, Nat.le_refl _, Nat.le_refl _⟩
  · have hst := hs.2.1
    simp only [List.forall_mem_cons] at hst
    exact ⟨⟨hs.1, hst.2.2, okM_R hs.2.2 (blt_lt hj)⟩, Nat.le_refl _, Nat.le_refl _⟩
theorem sk_iaload  (h : stp (.iaload) len (pc, ls, st, M) = some (ps, z')) (hp : allP ps) (hs : okS L xs (pc, ls, st, M)) : kept L xs (pc, ls, st, M) z' := by
  obtain ⟨i, a, r, rfl, hc, rfl, rfl⟩ := si_iaload h
  have hst := hs.2.1
  simp only [List.forall_mem_cons] at hst
  refine ⟨⟨hs.1, ?_, hs.2.2⟩, Nat.le_refl _, Nat.le_refl _⟩
  simp only [List.forall_mem_cons]
  exact ⟨hs.2.2.2.1 _ _, hst.2.2⟩
theorem sk_baload  (h : stp (.baload) len (pc, ls, st, M) = some (ps, z')) (hp : allP ps) (hs : okS L xs (pc, ls, st, M)) : kept L xs (pc, ls, st, M) z' := by
  obtain ⟨i, a, r, rfl, hc, rfl, rfl⟩ := si_baload h
  have hst := hs.2.1
  simp only [List.forall_mem_cons] at hst
  refine ⟨⟨hs.1, ?_, hs.2.2⟩, Nat.le_refl _, Nat.le_refl _⟩
  simp only [List.forall_mem_cons]
  exact ⟨hs.2.2.2.1 _ _, hst.2.2⟩
theorem sk_laload  (h : stp (.laload) len (pc, ls, st, M) = some (ps, z')) (hp : allP ps) (hs : okS L xs (pc, ls, st, M)) : kept L xs (pc, ls, st, M) z' := by
  obtain ⟨i, a, r, rfl, hc, rfl, rfl⟩ := si_laload h
  have hst := hs.2.1
  simp only [List.forall_mem_cons] at hst
  refine ⟨⟨hs.1, ?_, hs.2.2⟩, Nat.le_refl _, Nat.le_refl _⟩
  simp only [List.forall_mem_cons]
  exact ⟨trivial, hst.2.2⟩
theorem sk_iastore  (h : stp (.iastore) len (pc, ls, st, M) = some (ps, z')) (hp : allP ps) (hs : okS L xs (pc, ls, st, M)) : kept L xs (pc, ls, st, M) z' := by
  obtain ⟨z, i, a, r, rfl, hc, rfl, rfl⟩ := si_iastore h
  have hst := hs.2.1
  simp only [List.forall_mem_cons] at hst
  exact ⟨⟨hs.1, hst.2.2.2, okM_I hs.2.2 (blt_lt (and2 hc).1) (ma_in (hs.2.2.2.1 _) hst.1)⟩, Nat.le_refl _, Nat.le_refl _⟩
theorem sk_bastore  (h : stp (.bastore) len (pc, ls, st, M) = some (ps, z')) (hp : allP ps) (hs : okS L xs (pc, ls, st, M)) : kept L xs (pc, ls, st, M) z' := by
  obtain ⟨z, i, a, r, rfl, hc, rfl, rfl⟩ := si_bastore h
  have hst := hs.2.1
  simp only [List.forall_mem_cons] at hst
  exact ⟨⟨hs.1, hst.2.2.2, okM_I hs.2.2 (blt_lt (and2 hc).1) (ma_in (hs.2.2.2.1 _) hst.1)⟩, Nat.le_refl _, Nat.le_refl _⟩
theorem sk_lastore  (h : stp (.lastore) len (pc, ls, st, M) = some (ps, z')) (hp : allP ps) (hs : okS L xs (pc, ls, st, M)) : kept L xs (pc, ls, st, M) z' := by
  obtain ⟨z, i, a, r, rfl, hc, rfl, rfl⟩ := si_lastore h
  have hst := hs.2.1
  simp only [List.forall_mem_cons] at hst
  exact ⟨⟨hs.1, hst.2.2.2, hs.2.2⟩, Nat.le_refl _, Nat.le_refl _⟩
theorem sk_arraylength  (h : stp (.arraylength) len (pc, ls, st, M) = some (ps, z')) (hp : allP ps) (hs : okS L xs (pc, ls, st, M)) : kept L xs (pc, ls, st, M) z' := by
  obtain ⟨a, r, rfl, hc, rfl, rfl⟩ := si_arraylength h
  have hst := hs.2.1
  simp only [List.forall_mem_cons] at hst
  refine ⟨⟨hs.1, ?_, hs.2.2⟩, Nat.le_refl _, Nat.le_refl _⟩
  simp only [List.forall_mem_cons]
  exact ⟨inR_len (Nat.le_of_ble_eq_true (and2 hc).2), hst.2⟩
theorem sk_caload  (h : stp (.caload) len (pc, ls, st, M) = some (ps, z')) (hp : allP ps) (hs : okS L xs (pc, ls, st, M)) : kept L xs (pc, ls, st, M) z' := by
  obtain ⟨i, a, r, rfl, hc, rfl, rfl⟩ := si_caload h
  have hst := hs.2.1
  simp only [List.forall_mem_cons] at hst
  refine ⟨⟨hs.1, ?_, hs.2.2⟩, Nat.le_refl _, Nat.le_refl _⟩
  simp only [List.forall_mem_cons]
  exact ⟨hs.2.2.2.1 _ _, hst.2.2⟩
theorem sk_saload  (h : stp (.saload) len (pc, ls, st, M) = some (ps, z')) (hp : allP ps) (hs : okS L xs (pc, ls, st, M)) : kept L xs (pc, ls, st, M) z' := by
  obtain ⟨a, r, rfl, hc, rfl, rfl⟩ := si_saload h
  have hst := hs.2.1
  simp only [List.forall_mem_cons] at hst
  refine ⟨⟨hs.1, ?_, hs.2.2⟩, Nat.le_refl _, Nat.le_refl _⟩
  simp only [List.forall_mem_cons]
  exact ⟨by have hp : ((M.2.1 SCR).2 : Int) ≤ 100000 := hp; exact ⟨by omega, by omega⟩, hst.2⟩
theorem sk_new {q : Nat} (h : stp (.new q) len (pc, ls, st, M) = some (ps, z')) (hp : allP ps) (hs : okS L xs (pc, ls, st, M)) : kept L xs (pc, ls, st, M) z' := by
  obtain ⟨hc, rfl, rfl⟩ := si_new h
  refine ⟨⟨hs.1, ?_, okM_new hs.2.2 (blt_lt (and2 hc).2) (Or.inr rfl) (Or.inr rfl)⟩, Nat.le_succ _, slT_mono _ _ _⟩
  simp only [List.forall_mem_cons]
  exact ⟨trivial, hs.2.1⟩
theorem sk_newarray_int  (h : stp (.newarray .int) len (pc, ls, st, M) = some (ps, z')) (hp : allP ps) (hs : okS L xs (pc, ls, st, M)) : kept L xs (pc, ls, st, M) z' := by
  obtain ⟨z, r, rfl, hc, rfl, rfl⟩ := si_newarray_int h
  have hst := hs.2.1
  simp only [List.forall_mem_cons] at hst
  refine ⟨⟨hs.1, ?_, okM_new hs.2.2 (blt_lt (and2 hc).2) (Or.inl rfl) (Or.inr rfl)⟩, Nat.le_succ _, slT_mono _ _ _⟩
  simp only [List.forall_mem_cons]
  exact ⟨trivial, hst.2⟩
theorem sk_newarray_long  (h : stp (.newarray .long) len (pc, ls, st, M) = some (ps, z')) (hp : allP ps) (hs : okS L xs (pc, ls, st, M)) : kept L xs (pc, ls, st, M) z' := by
  obtain ⟨z, r, rfl, hc, rfl, rfl⟩ := si_newarray_long h
  have hst := hs.2.1
  simp only [List.forall_mem_cons] at hst
  refine ⟨⟨hs.1, ?_, okM_new hs.2.2 (blt_lt (and2 hc).2) (Or.inl rfl) (Or.inl rfl)⟩, Nat.le_succ _, slT_mono _ _ _⟩
  simp only [List.forall_mem_cons]
  exact ⟨trivial, hst.2⟩
theorem sk_newarray_boolean  (h : stp (.newarray .boolean) len (pc, ls, st, M) = some (ps, z')) (hp : allP ps) (hs : okS L xs (pc, ls, st, M)) : kept L xs (pc, ls, st, M) z' := by
  obtain ⟨z, r, rfl, hc, rfl, rfl⟩ := si_newarray_boolean h
  have hst := hs.2.1
  simp only [List.forall_mem_cons] at hst
  refine ⟨⟨hs.1, ?_, okM_new hs.2.2 (blt_lt (and2 hc).2) (Or.inl rfl) (Or.inr rfl)⟩, Nat.le_succ _, slT_mono _ _ _⟩
  simp only [List.forall_mem_cons]
  exact ⟨trivial, hst.2⟩
theorem sk_max  (h : stp (.invokestatic 1000) len (pc, ls, st, M) = some (ps, z')) (hp : allP ps) (hs : okS L xs (pc, ls, st, M)) : kept L xs (pc, ls, st, M) z' := by
  obtain ⟨y1, x1, r, rfl, hc, rfl, rfl⟩ := si_max h
  have hst := hs.2.1
  simp only [List.forall_mem_cons] at hst
  refine ⟨⟨hs.1, ?_, hs.2.2⟩, Nat.le_refl _, Nat.le_refl _⟩
  simp only [List.forall_mem_cons]
  exact ⟨by show inR (if _ then _ else _); split; exact hst.1; exact hst.2.1, hst.2.2⟩
theorem sk_min  (h : stp (.invokestatic 1001) len (pc, ls, st, M) = some (ps, z')) (hp : allP ps) (hs : okS L xs (pc, ls, st, M)) : kept L xs (pc, ls, st, M) z' := by
  obtain ⟨y1, x1, r, rfl, hc, rfl, rfl⟩ := si_min h
  have hst := hs.2.1
  simp only [List.forall_mem_cons] at hst
  refine ⟨⟨hs.1, ?_, hs.2.2⟩, Nat.le_refl _, Nat.le_refl _⟩
  simp only [List.forall_mem_cons]
  exact ⟨by show inR (if _ then _ else _); split; exact hst.1; exact hst.2.1, hst.2.2⟩
theorem sk_oinit  (h : stp (.invokestatic 1003) len (pc, ls, st, M) = some (ps, z')) (hp : allP ps) (hs : okS L xs (pc, ls, st, M)) : kept L xs (pc, ls, st, M) z' := by
  obtain ⟨a, r, rfl, hc, rfl, rfl⟩ := si_oinit h
  have hst := hs.2.1
  simp only [List.forall_mem_cons] at hst
  exact ⟨⟨hs.1, hst.2, hs.2.2⟩, Nat.le_refl _, Nat.le_refl _⟩
theorem sk_copy  (h : stp (.invokestatic 1002) len (pc, ls, st, M) = some (ps, z')) (hp : allP ps) (hs : okS L xs (pc, ls, st, M)) : kept L xs (pc, ls, st, M) z' := by
  obtain ⟨n, dp, a, sp, a0, r, rfl, hc, rfl, hk⟩ := si_copy h
  have hst := hs.2.1
  simp only [List.forall_mem_cons] at hst
  rcases hk with ⟨-, -, rfl⟩ | ⟨-, -, rfl⟩
  · exact ⟨⟨hs.1, hst.2.2.2.2.2, okM_I hs.2.2 (blt_lt (and2 (and2 hc).1).1) (acp_in (hs.2.2.2.1 _) (hs.2.2.2.1 _))⟩, Nat.le_refl _, Nat.le_refl _⟩
  · exact ⟨⟨hs.1, hst.2.2.2.2.2, hs.2.2⟩, Nat.le_refl _, Nat.le_refl _⟩
theorem stp_ok {op : Instr} {z : ST} (h : stp op len z = some (ps, z')) (hp : allP ps) (hs : okS L xs z) : kept L xs z z' := by
  obtain ⟨pc, ls, st, M⟩ := z
  cases op
  case bipush v => exact sk_bipush h hp hs
  case jsr_w v => exact sk_jsr_w h hp hs
  case iload i => exact sk_iload h hp hs
  case lload i => exact sk_lload h hp hs
  case aload i => exact sk_aload h hp hs
  case istore i => exact sk_istore h hp hs
  case lstore i => exact sk_lstore h hp hs
  case astore i => exact sk_astore h hp hs
  case iinc i n => exact sk_iinc h hp hs
  case iadd => exact sk_iadd h hp hs
  case isub => exact sk_isub h hp hs
  case imul => exact sk_imul h hp hs
  case ineg => exact sk_ineg h hp hs
  case idiv => exact sk_idiv h hp hs
  case irem => exact sk_irem h hp hs
  case iand => exact sk_iand h hp hs
  case ishr => exact sk_ishr h hp hs
  case i2l => exact sk_i2l h hp hs
  case l2i => exact sk_l2i h hp hs
  case ladd => exact sk_ladd h hp hs
  case lsub => exact sk_lsub h hp hs
  case land => exact sk_land h hp hs
  case lor => exact sk_lor h hp hs
  case lxor => exact sk_lxor h hp hs
  case lushr => exact sk_lushr h hp hs
  case lshl => exact sk_lshl h hp hs
  case lshr => exact sk_lshr h hp hs
  case lcmp => exact sk_lcmp h hp hs
  case dup => exact sk_dup h hp hs
  case dup2 => exact sk_dup2 h hp hs
  case pop => exact sk_pop h hp hs
  case pop2 => exact sk_pop2 h hp hs
  case goto t => exact sk_goto h hp hs
  case ifCond c t => exact sk_ifCond h hp hs
  case if_icmp c t => exact sk_if_icmp h hp hs
  case tableswitch d lo hi offs => exact sk_tableswitch h hp hs
  case getfield q => exact sk_getfield h hp hs
  case putfield q => exact sk_putfield h hp hs
  case iaload => exact sk_iaload h hp hs
  case baload => exact sk_baload h hp hs
  case laload => exact sk_laload h hp hs
  case iastore => exact sk_iastore h hp hs
  case bastore => exact sk_bastore h hp hs
  case lastore => exact sk_lastore h hp hs
  case arraylength => exact sk_arraylength h hp hs
  case caload => exact sk_caload h hp hs
  case saload => exact sk_saload h hp hs
  case new q => exact sk_new h hp hs
  case newarray t =>
    cases t
    case int => exact sk_newarray_int h hp hs
    case long => exact sk_newarray_long h hp hs
    case boolean => exact sk_newarray_boolean h hp hs
    all_goals (simp only [stp, Bool.cond_eq_ite] at h; repeat' split at h) <;> cases h
  case invokestatic q =>
    by_cases h0 : q = 1000
    · subst h0; exact sk_max h hp hs
    by_cases h1 : q = 1001
    · subst h1; exact sk_min h hp hs
    by_cases h2 : q = 1002
    · subst h2; exact sk_copy h hp hs
    by_cases h3 : q = 1003
    · subst h3; exact sk_oinit h hp hs
    simp only [stp] at h
    cases h
  all_goals (simp only [stp] at h; cases h)
end KEEP
