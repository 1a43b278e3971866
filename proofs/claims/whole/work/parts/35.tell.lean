/-! ===== the class: what is told at a spot ===== -/
theorem b2_e1 (p : Bool) : (1 = b2 p) ↔ p = true := by cases p <;> simp [b2]
theorem b2_e0 (p : Bool) : (0 = b2 p) ↔ p = false := by cases p <;> simp [b2]
theorem it_step {P : Nat → Prop} {f : Nat → Bool} {n q : Nat} (hP : ∀ p, P p → f p = true) (hn : n ≤ q) (hno : cntF f q = cntF f n) : (∃ p, p < q + 1 ∧ P p) ↔ (∃ p, p < n ∧ P p) ∨ P q := by
  have none := cntF_none (f := f) (show cntF f q ≤ cntF f n by omega)
  constructor
  · intro w
    obtain ⟨p, h1, h2⟩ := w
    by_cases e : p = q
    · subst e; exact Or.inr h2
    · by_cases e2 : p < n
      · exact Or.inl ⟨p, e2, h2⟩
      · have := none p (by omega) (by omega)
        rw [hP p h2] at this
        cases this
  · intro w
    rcases w with ⟨p, h1, h2⟩ | h
    · exact ⟨p, by omega, h2⟩
    · exact ⟨q, by omega, h⟩
theorem it_add {P : Nat → Nat → Prop} {f : Nat → Bool} {n q : Nat} {x y : Int64} (hx : ∀ i, i < 64 → (tb x i = true ↔ ∃ p, p < n ∧ P i p)) (hP : ∀ i p, P i p → f p = true) (hn : n ≤ q) (hno : cntF f q = cntF f n) (hy : ∀ i, i < 64 → (tb y i = true ↔ P i q)) : ∀ i, i < 64 → (tb (x ||| y) i = true ↔ ∃ p, p < q + 1 ∧ P i p) := by
  intro i hi
  rw [it_step (hP i) hn hno, tb_or, Bool.or_eq_true, hx i hi, hy i hi]
theorem it_skip {P : Nat → Nat → Prop} {f : Nat → Bool} {n q : Nat} {x : Int64} (hx : ∀ i, i < 64 → (tb x i = true ↔ ∃ p, p < n ∧ P i p)) (hP : ∀ i p, P i p → f p = true) (hn : n ≤ q) (hno : cntF f q = cntF f n) (hy : ∀ i, ¬ P i q) : ∀ i, i < 64 → (tb x i = true ↔ ∃ p, p < q + 1 ∧ P i p) := by
  intro i hi
  rw [it_step (hP i) hn hno, hx i hi]
  constructor
  · exact Or.inl
  · intro w
    rcases w with w | w
    · exact w
    · exact absurd w (hy i)
theorem it_done {P : Nat → Nat → Prop} {f : Nat → Bool} {n m : Nat} {x : Int64} (hx : ∀ i, i < 64 → (tb x i = true ↔ ∃ p, p < n ∧ P i p)) (hP : ∀ i p, P i p → f p = true) (hn : n ≤ m) (hno : cntF f m ≤ cntF f n) : ∀ i, i < 64 → (tb x i = true ↔ ∃ p, p < m ∧ P i p) := by
  intro i hi
  rw [hx i hi]
  constructor
  · intro w
    obtain ⟨p, h1, h2⟩ := w
    exact ⟨p, by omega, h2⟩
  · intro w
    obtain ⟨p, h1, h2⟩ := w
    by_cases e : p < n
    · exact ⟨p, e, h2⟩
    · have := cntF_none hno p (by omega) h1
      rw [hP i p h2] at this
      cases this
def MemP (K : MI) (cp : Nat → Bool) (v : SV) (s : Nat) (u : Bool) (i p : Nat) : Prop := cp p = true ∧ K 17 p = s ∧ decide (K 14 p ≠ 0) = u ∧ K 19 p = -1 ∧ ((K 18 p = -1 ∧ (i : Int) = K 13 p) ∨ (K 18 p ≠ -1 ∧ tb (v (K 18 p).toNat) i = true))
def ThrP (K : MI) (cp : Nat → Bool) (v : SV) (s y : Nat) (i p : Nat) : Prop := cp p = true ∧ K 17 p = s ∧ K 19 p ≠ -1 ∧ tb (v ((K 19 p).toNat * 8 + y)) i = true
theorem MemP.f {K : MI} {cp : Nat → Bool} {v : SV} {s : Nat} {u : Bool} (i p : Nat) (h : MemP K cp v s u i p) : spB K cp s p = true := spB_t.mpr ⟨h.1, h.2.1⟩
theorem ThrP.f {K : MI} {cp : Nat → Bool} {v : SV} {s y : Nat} (i p : Nat) (h : ThrP K cp v s y i p) : spB K cp s p = true := spB_t.mpr ⟨h.1, h.2.1⟩
theorem mem_of {K : MI} {cp : Nat → Bool} {v : SV} {s m : Nat} {u : Bool} {x : Int64} (hm : K 10 9 = m) (h : ∀ i, i < 64 → (tb x i = true ↔ ∃ p, p < m ∧ MemP K cp v s u i p)) : x = mkI (MemB K cp v s u) := by
  refine mkI_eq fun i hi => ?_
  rw [h i hi]
  unfold MemB
  rw [hm]
  constructor
  · intro w
    obtain ⟨p, h1, h2⟩ := w
    exact ⟨p, by omega, h2⟩
  · intro w
    obtain ⟨p, h1, h2⟩ := w
    exact ⟨p, by omega, h2⟩
theorem thr_of {K : MI} {cp : Nat → Bool} {v : SV} {s m y : Nat} {x : Int64} (hm : K 10 9 = m) (h : ∀ i, i < 64 → (tb x i = true ↔ ∃ p, p < m ∧ ThrP K cp v s y i p)) : x = mkI (ThrB K cp v s y) := by
  refine mkI_eq fun i hi => ?_
  rw [h i hi]
  unfold ThrB
  rw [hm]
  constructor
  · intro w
    obtain ⟨p, h1, h2⟩ := w
    exact ⟨p, by omega, h2⟩
  · intro w
    obtain ⟨p, h1, h2⟩ := w
    exact ⟨p, by omega, h2⟩
/-- the next pair that counts at spot s -/
theorem cnt_next {I : MI} {cp : Nat → Bool} {s n m : Nat} (hm : I 10 9 = m) (hs : s < 320) (hc : CntR I cp) (hn : n ≤ m) (h : prF I cp m s + cF I cp s n < I 38 (s + 1)) : ∃ q, n ≤ q ∧ q < m ∧ spB I cp s q = true ∧ cF I cp s q = cF I cp s n ∧ cF I cp s (q + 1) = cF I cp s n + 1 ∧ I 37 (prF I cp m s + cF I cp s n).toNat = q ∧ 0 ≤ prF I cp m s ∧ 0 ≤ cF I cp s n ∧ prF I cp m s + cF I cp s n < m := by
  have em : (I 10 9).toNat = m := by rw [hm]; rfl
  have h1 := hc.1 (s + 1) (by omega)
  rw [em] at h1
  have h1 : I 38 (s + 1) = prF I cp m s + cF I cp s m := h1
  obtain ⟨q, a, b, c, d⟩ := cntF_next (f := spB I cp s) (n := n) m (by unfold cF at *; omega)
  have e := hc.2 q (by omega) (spB_t.mp c).1
  rw [em] at e
  unfold ixF at e
  rw [(spB_t.mp c).2] at e
  have d : cF I cp s q = cF I cp s n := d
  rw [show ((s : Int)).toNat = s from rfl, d] at e
  have l1 := prF_le (K := I) (cp := cp) (s := s + 1) m
  have l2 : prF I cp m (s + 1) = prF I cp m s + cF I cp s m := rfl
  refine ⟨q, a, b, c, d, ?_, e, prF_nn, (cF_le (Nat.le_refl n)).1, by omega⟩
  have : cF I cp s (q + 1) = cF I cp s q + 1 := cntF_t c
  omega
theorem cnt_end {I : MI} {cp : Nat → Bool} {s n m : Nat} (hm : I 10 9 = m) (hs : s < 320) (hc : CntR I cp) (h : I 38 (s + 1) ≤ prF I cp m s + cF I cp s n) : cntF (spB I cp s) m ≤ cntF (spB I cp s) n := by
  have em : (I 10 9).toNat = m := by rw [hm]; rfl
  have h1 := hc.1 (s + 1) (by omega)
  rw [em] at h1
  have h1 : I 38 (s + 1) = prF I cp m s + cF I cp s m := h1
  unfold cF at *
  omega
/-- what telling asks for -/
def TelP (I : MI) (J : MJ) (cp : Nat → Bool) : Prop := kdOK I ∧ rlOK I ∧ rtOK I ∧ prOK I ∧ (0 ≤ I 10 9 ∧ I 10 9 ≤ 400) ∧ (∀ n, n < 48 → -1 ≤ I 7 n ∧ I 7 n < 64) ∧ svOK I J ∧ CntR I cp
theorem l_members {N : Nat} {I : MI} {J : MJ} {cp : Nat → Bool} {s m : Nat} {u : Bool} (hm : I 10 9 = m) (h4 : m ≤ 400) (hs : s < 320) (hc : CntR I cp) (hq : prOK I) : ∀ (k n : Nat) (x : Int64) (w6 w7 : Option AV), m + 1 ≤ k + n → n ≤ m → (∀ i, i < 64 → (tb x i = true ↔ ∃ p, p < n ∧ MemP I cp (J 39) s u i p)) → V 56 (10, [some (aR 36), some (aI (s : Int)), some (aI (b2 u)), some (aL (x)), none, some (aI (prF I cp m s + cF I cp s n)), w6, w7], [], MM N I J) (pure1 N I J (aL (mkI (MemB I cp (J 39) s u)))) := by
  intro k
  induction k with
  | zero => intro n x w6 w7 h1 h2; exfalso; omega
  | succ k ih =>
    intro n x w6 w7 h1 h2 hx
    refine V.blk [(10, .iload 5, 2), (12, .aload 0, 1), (13, .getfield 7005, 3), (16, .iload 1, 1), (17, .bipush 1, 1), (18, .iadd, 1), (19, .iaload, 1), (20, .if_icmp .ge 117, 3)] (ps := [inR ((s : Int) + 1), 0 ≤ ((s + 1 : Nat) : Int) ∧ ((s + 1 : Nat) : Int) < 321]) (z' := (brc .ge (prF I cp m s + cF I cp s n) (I 38 (s + 1)) 117 23, [some (aR 36), some (aI (s : Int)), some (aI (b2 u)), some (aL (x)), none, some (aI (prF I cp m s + cF I cp s n)), w6, w7], [], MM N I J)) (by decide +kernel) rfl (show (inR ((s : Int) + 1)) ∧ (0 ≤ ((s + 1 : Nat) : Int) ∧ ((s + 1 : Nat) : Int) < 321) from ⟨(by unfold inR; omega), (by omega)⟩) ?_
    refine V.ge (fun h1 => ?_) (fun h2 => ?_)
    · skip
      try simp only [b2_cast, b2_ncast, Classical.not_not, lcm_lt, lcm_ge, lcm_gt, lcm_le, lcm_eq, b2_0, b2_n0, b2_e1, b2_e0, Bool.not_eq_false, Bool.not_eq_true, decide_eq_true_eq, decide_eq_false_iff_not, Classical.not_not] at h1
      refine V.blk [(117, .lload 3, 1)] (ps := []) (z' := (118, [some (aR 36), some (aI (s : Int)), some (aI (b2 u)), some (aL (x)), none, some (aI (prF I cp m s + cF I cp s n)), w6, w7], [aL (x)], MM N I J)) (by decide +kernel) rfl trivial ?_
      refine V.rl (by decide +kernel) ?_
      exact ⟨congrArg (fun w => some (aL w)) (mem_of hm (it_done hx MemP.f (by omega) (cnt_end hm hs hc (by assumption)))), rfl⟩
    · skip
      try simp only [b2_cast, b2_ncast, Classical.not_not, lcm_lt, lcm_ge, lcm_gt, lcm_le, lcm_eq, b2_0, b2_n0, b2_e1, b2_e0, Bool.not_eq_false, Bool.not_eq_true, decide_eq_true_eq, decide_eq_false_iff_not, Classical.not_not] at h2
      obtain ⟨q, q1, q2, q3, q4, q5, q6, q7, q8, q9⟩ := cnt_next hm hs hc (n := n) (by omega) (by omega)
      have hqq := hq.2 q (by omega)
      have hq0 := hq.1
      refine V.blk [(23, .aload 0, 1), (24, .getfield 7004, 3), (27, .iload 5, 2), (29, .iaload, 1), (30, .istore 6, 2)] (ps := [0 ≤ (prF I cp m s + cF I cp s n) ∧ (prF I cp m s + cF I cp s n) < 400]) (z' := (32, [some (aR 36), some (aI (s : Int)), some (aI (b2 u)), some (aL (x)), none, some (aI (prF I cp m s + cF I cp s n)), some (aI (I 37 ((prF I cp m s + cF I cp s n).toNat))), w7], [], MM N I J)) (by decide +kernel) rfl (show (0 ≤ (prF I cp m s + cF I cp s n) ∧ (prF I cp m s + cF I cp s n) < 400) from (by omega)) ?_
      rw [q6]
      refine V.blk [(32, .aload 0, 1), (33, .getfield 7002, 3), (36, .getfield 3007, 3), (39, .iload 6, 2), (41, .iaload, 1), (42, .istore 7, 2), (44, .aload 0, 1), (45, .getfield 7002, 3), (48, .getfield 3003, 3), (51, .iload 6, 2), (53, .iaload, 1), (54, .ifCond .eq 61, 3)] (ps := [0 ≤ (q : Int) ∧ (q : Int) < 400, 0 ≤ (q : Int) ∧ (q : Int) < 400]) (z' := (brc .eq (I 14 q) 0 61 57, [some (aR 36), some (aI (s : Int)), some (aI (b2 u)), some (aL (x)), none, some (aI (prF I cp m s + cF I cp s n)), some (aI (q : Int)), some (aI (I 18 q))], [], MM N I J)) (by decide +kernel) rfl (show (0 ≤ (q : Int) ∧ (q : Int) < 400) ∧ (0 ≤ (q : Int) ∧ (q : Int) < 400) from ⟨(by omega), (by omega)⟩) ?_
      refine V.eq (fun h3 => ?_) (fun h4 => ?_)
      · skip
        try simp only [b2_cast, b2_ncast, Classical.not_not, lcm_lt, lcm_ge, lcm_gt, lcm_le, lcm_eq, b2_0, b2_n0, b2_e1, b2_e0, Bool.not_eq_false, Bool.not_eq_true, decide_eq_true_eq, decide_eq_false_iff_not, Classical.not_not] at h3
        refine V.blk [(61, .bipush 0, 1), (62, .iload 2, 1), (63, .if_icmp .ne 111, 3)] (ps := []) (z' := (brc .ne 0 (b2 u) 111 66, [some (aR 36), some (aI (s : Int)), some (aI (b2 u)), some (aL (x)), none, some (aI (prF I cp m s + cF I cp s n)), some (aI (q : Int)), some (aI (I 18 q))], [], MM N I J)) (by decide +kernel) rfl trivial ?_
        refine V.ne (fun h5 => ?_) (fun h6 => ?_)
        · skip
          try simp only [b2_cast, b2_ncast, Classical.not_not, lcm_lt, lcm_ge, lcm_gt, lcm_le, lcm_eq, b2_0, b2_n0, b2_e1, b2_e0, Bool.not_eq_false, Bool.not_eq_true, decide_eq_true_eq, decide_eq_false_iff_not, Classical.not_not] at h5
          refine V.blk [(111, .iinc 5 1, 3), (114, .goto 10, 3)] (ps := [inR ((prF I cp m s + cF I cp s n) + 1)]) (z' := (10, [some (aR 36), some (aI (s : Int)), some (aI (b2 u)), some (aL (x)), none, some (aI ((prF I cp m s + cF I cp s n) + 1)), some (aI (q : Int)), some (aI (I 18 q))], [], MM N I J)) (by decide +kernel) rfl (show (inR ((prF I cp m s + cF I cp s n) + 1)) from (by unfold inR; omega)) ?_
          rw [show prF I cp m s + cF I cp s n + 1 = prF I cp m s + cF I cp s (q + 1) by omega]
          refine ih (q + 1) x _ _ (by omega) (by omega) (it_skip hx MemP.f q1 q4 (fun i w => ?_))
          obtain ⟨w1, w2, w3, w4, w5⟩ := w
          first
            | omega
            | (simp_all; done)
            | (cases u <;> simp_all <;> omega)
        · skip
          try simp only [b2_cast, b2_ncast, Classical.not_not, lcm_lt, lcm_ge, lcm_gt, lcm_le, lcm_eq, b2_0, b2_n0, b2_e1, b2_e0, Bool.not_eq_false, Bool.not_eq_true, decide_eq_true_eq, decide_eq_false_iff_not, Classical.not_not] at h6
          refine V.blk [(66, .aload 0, 1), (67, .getfield 7002, 3), (70, .getfield 3008, 3), (73, .iload 6, 2), (75, .iaload, 1), (76, .bipush (-1), 1), (77, .if_icmp .ne 111, 3)] (ps := [0 ≤ (q : Int) ∧ (q : Int) < 400]) (z' := (brc .ne (I 19 q) (-1) 111 80, [some (aR 36), some (aI (s : Int)), some (aI (b2 u)), some (aL (x)), none, some (aI (prF I cp m s + cF I cp s n)), some (aI (q : Int)), some (aI (I 18 q))], [], MM N I J)) (by decide +kernel) rfl (show (0 ≤ (q : Int) ∧ (q : Int) < 400) from (by omega)) ?_
          refine V.ne (fun h7 => ?_) (fun h8 => ?_)
          · skip
            try simp only [b2_cast, b2_ncast, Classical.not_not, lcm_lt, lcm_ge, lcm_gt, lcm_le, lcm_eq, b2_0, b2_n0, b2_e1, b2_e0, Bool.not_eq_false, Bool.not_eq_true, decide_eq_true_eq, decide_eq_false_iff_not, Classical.not_not] at h7
            refine V.blk [(111, .iinc 5 1, 3), (114, .goto 10, 3)] (ps := [inR ((prF I cp m s + cF I cp s n) + 1)]) (z' := (10, [some (aR 36), some (aI (s : Int)), some (aI (b2 u)), some (aL (x)), none, some (aI ((prF I cp m s + cF I cp s n) + 1)), some (aI (q : Int)), some (aI (I 18 q))], [], MM N I J)) (by decide +kernel) rfl (show (inR ((prF I cp m s + cF I cp s n) + 1)) from (by unfold inR; omega)) ?_
            rw [show prF I cp m s + cF I cp s n + 1 = prF I cp m s + cF I cp s (q + 1) by omega]
            refine ih (q + 1) x _ _ (by omega) (by omega) (it_skip hx MemP.f q1 q4 (fun i w => ?_))
            obtain ⟨w1, w2, w3, w4, w5⟩ := w
            first
              | omega
              | (simp_all; done)
              | (cases u <;> simp_all <;> omega)
          · skip
            try simp only [b2_cast, b2_ncast, Classical.not_not, lcm_lt, lcm_ge, lcm_gt, lcm_le, lcm_eq, b2_0, b2_n0, b2_e1, b2_e0, Bool.not_eq_false, Bool.not_eq_true, decide_eq_true_eq, decide_eq_false_iff_not, Classical.not_not] at h8
            refine V.blk [(80, .lload 3, 1), (81, .iload 7, 2), (83, .bipush (-1), 1), (84, .if_icmp .ne 102, 3)] (ps := []) (z' := (brc .ne (I 18 q) (-1) 102 87, [some (aR 36), some (aI (s : Int)), some (aI (b2 u)), some (aL (x)), none, some (aI (prF I cp m s + cF I cp s n)), some (aI (q : Int)), some (aI (I 18 q))], [aL (x)], MM N I J)) (by decide +kernel) rfl trivial ?_
            refine V.ne (fun h9 => ?_) (fun h10 => ?_)
            · skip
              try simp only [b2_cast, b2_ncast, Classical.not_not, lcm_lt, lcm_ge, lcm_gt, lcm_le, lcm_eq, b2_0, b2_n0, b2_e1, b2_e0, Bool.not_eq_false, Bool.not_eq_true, decide_eq_true_eq, decide_eq_false_iff_not, Classical.not_not] at h9
              refine V.blk [(102, .aload 0, 1), (103, .getfield 7006, 3), (106, .iload 7, 2), (108, .laload, 1), (109, .lor, 1), (110, .lstore 3, 1), (111, .iinc 5 1, 3), (114, .goto 10, 3)] (ps := [0 ≤ (I 18 q) ∧ (I 18 q) < 320, inR ((prF I cp m s + cF I cp s n) + 1)]) (z' := (10, [some (aR 36), some (aI (s : Int)), some (aI (b2 u)), some (aL ((x) ||| (J 39 ((I 18 q).toNat)))), none, some (aI ((prF I cp m s + cF I cp s n) + 1)), some (aI (q : Int)), some (aI (I 18 q))], [], MM N I J)) (by decide +kernel) rfl (show (0 ≤ (I 18 q) ∧ (I 18 q) < 320) ∧ (inR ((prF I cp m s + cF I cp s n) + 1)) from ⟨(by omega), (by unfold inR; omega)⟩) ?_
              rw [show prF I cp m s + cF I cp s n + 1 = prF I cp m s + cF I cp s (q + 1) by omega]
              refine ih (q + 1) _ _ _ (by omega) (by omega) (it_add hx MemP.f q1 q4 (fun i hi => ?_))
              unfold MemP
              constructor
              · intro w
                refine ⟨(spB_t.mp q3).1, (spB_t.mp q3).2, ?_, by omega, Or.inr ⟨by omega, w⟩⟩
                simp_all
              · intro w
                rcases w.2.2.2.2 with w | w
                · exfalso; omega
                · exact w.2
            · skip
              try simp only [b2_cast, b2_ncast, Classical.not_not, lcm_lt, lcm_ge, lcm_gt, lcm_le, lcm_eq, b2_0, b2_n0, b2_e1, b2_e0, Bool.not_eq_false, Bool.not_eq_true, decide_eq_true_eq, decide_eq_false_iff_not, Classical.not_not] at h10
              have hu9 := hqq.2.2.2.2.2 (by omega) (by omega)
              refine V.blk [(87, .jsr_w 1, 1), (88, .aload 0, 1), (89, .getfield 7002, 3), (92, .getfield 3002, 3), (95, .iload 6, 2), (97, .iaload, 1), (98, .lshl, 1), (99, .goto 109, 3), (109, .lor, 1), (110, .lstore 3, 1), (111, .iinc 5 1, 3), (114, .goto 10, 3)] (ps := [0 ≤ (q : Int) ∧ (q : Int) < 400, 0 ≤ (I 13 q) ∧ (I 13 q) < 64, inR ((prF I cp m s + cF I cp s n) + 1)]) (z' := (10, [some (aR 36), some (aI (s : Int)), some (aI (b2 u)), some (aL ((x) ||| (shll (Int64.ofInt 1) (I 13 q)))), none, some (aI ((prF I cp m s + cF I cp s n) + 1)), some (aI (q : Int)), some (aI (I 18 q))], [], MM N I J)) (by decide +kernel) rfl (show (0 ≤ (q : Int) ∧ (q : Int) < 400) ∧ (0 ≤ (I 13 q) ∧ (I 13 q) < 64) ∧ (inR ((prF I cp m s + cF I cp s n) + 1)) from ⟨(by omega), (by omega), (by unfold inR; omega)⟩) ?_
              rw [show prF I cp m s + cF I cp s n + 1 = prF I cp m s + cF I cp s (q + 1) by omega]
              have hu := hqq.2.2.2.2.2 (by omega) (by omega)
              obtain ⟨a, ea⟩ : ∃ a : Nat, I 13 q = a := ⟨(I 13 q).toNat, by omega⟩
              rw [ea]
              refine ih (q + 1) (x ||| bt a) _ _ (by omega) (by omega) (it_add hx MemP.f q1 q4 (fun i hi => ?_))
              rw [tb_bt (by omega), decide_eq_true_eq]
              unfold MemP
              constructor
              · intro w
                refine ⟨(spB_t.mp q3).1, (spB_t.mp q3).2, ?_, by omega, Or.inl ⟨by omega, by omega⟩⟩
                simp_all
              · intro w
                rcases w.2.2.2.2 with w | w
                · omega
                · exfalso; omega
      · skip
        try simp only [b2_cast, b2_ncast, Classical.not_not, lcm_lt, lcm_ge, lcm_gt, lcm_le, lcm_eq, b2_0, b2_n0, b2_e1, b2_e0, Bool.not_eq_false, Bool.not_eq_true, decide_eq_true_eq, decide_eq_false_iff_not, Classical.not_not] at h4
        refine V.blk [(57, .bipush 1, 1), (58, .goto 62, 3), (62, .iload 2, 1), (63, .if_icmp .ne 111, 3)] (ps := []) (z' := (brc .ne 1 (b2 u) 111 66, [some (aR 36), some (aI (s : Int)), some (aI (b2 u)), some (aL (x)), none, some (aI (prF I cp m s + cF I cp s n)), some (aI (q : Int)), some (aI (I 18 q))], [], MM N I J)) (by decide +kernel) rfl trivial ?_
        refine V.ne (fun h11 => ?_) (fun h12 => ?_)
        · skip
          try simp only [b2_cast, b2_ncast, Classical.not_not, lcm_lt, lcm_ge, lcm_gt, lcm_le, lcm_eq, b2_0, b2_n0, b2_e1, b2_e0, Bool.not_eq_false, Bool.not_eq_true, decide_eq_true_eq, decide_eq_false_iff_not, Classical.not_not] at h11
          refine V.blk [(111, .iinc 5 1, 3), (114, .goto 10, 3)] (ps := [inR ((prF I cp m s + cF I cp s n) + 1)]) (z' := (10, [some (aR 36), some (aI (s : Int)), some (aI (b2 u)), some (aL (x)), none, some (aI ((prF I cp m s + cF I cp s n) + 1)), some (aI (q : Int)), some (aI (I 18 q))], [], MM N I J)) (by decide +kernel) rfl (show (inR ((prF I cp m s + cF I cp s n) + 1)) from (by unfold inR; omega)) ?_
          rw [show prF I cp m s + cF I cp s n + 1 = prF I cp m s + cF I cp s (q + 1) by omega]
          refine ih (q + 1) x _ _ (by omega) (by omega) (it_skip hx MemP.f q1 q4 (fun i w => ?_))
          obtain ⟨w1, w2, w3, w4, w5⟩ := w
          first
            | omega
            | (simp_all; done)
            | (cases u <;> simp_all <;> omega)
        · skip
          try simp only [b2_cast, b2_ncast, Classical.not_not, lcm_lt, lcm_ge, lcm_gt, lcm_le, lcm_eq, b2_0, b2_n0, b2_e1, b2_e0, Bool.not_eq_false, Bool.not_eq_true, decide_eq_true_eq, decide_eq_false_iff_not, Classical.not_not] at h12
          refine V.blk [(66, .aload 0, 1), (67, .getfield 7002, 3), (70, .getfield 3008, 3), (73, .iload 6, 2), (75, .iaload, 1), (76, .bipush (-1), 1), (77, .if_icmp .ne 111, 3)] (ps := [0 ≤ (q : Int) ∧ (q : Int) < 400]) (z' := (brc .ne (I 19 q) (-1) 111 80, [some (aR 36), some (aI (s : Int)), some (aI (b2 u)), some (aL (x)), none, some (aI (prF I cp m s + cF I cp s n)), some (aI (q : Int)), some (aI (I 18 q))], [], MM N I J)) (by decide +kernel) rfl (show (0 ≤ (q : Int) ∧ (q : Int) < 400) from (by omega)) ?_
          refine V.ne (fun h13 => ?_) (fun h14 => ?_)
          · skip
            try simp only [b2_cast, b2_ncast, Classical.not_not, lcm_lt, lcm_ge, lcm_gt, lcm_le, lcm_eq, b2_0, b2_n0, b2_e1, b2_e0, Bool.not_eq_false, Bool.not_eq_true, decide_eq_true_eq, decide_eq_false_iff_not, Classical.not_not] at h13
            refine V.blk [(111, .iinc 5 1, 3), (114, .goto 10, 3)] (ps := [inR ((prF I cp m s + cF I cp s n) + 1)]) (z' := (10, [some (aR 36), some (aI (s : Int)), some (aI (b2 u)), some (aL (x)), none, some (aI ((prF I cp m s + cF I cp s n) + 1)), some (aI (q : Int)), some (aI (I 18 q))], [], MM N I J)) (by decide +kernel) rfl (show (inR ((prF I cp m s + cF I cp s n) + 1)) from (by unfold inR; omega)) ?_
            rw [show prF I cp m s + cF I cp s n + 1 = prF I cp m s + cF I cp s (q + 1) by omega]
            refine ih (q + 1) x _ _ (by omega) (by omega) (it_skip hx MemP.f q1 q4 (fun i w => ?_))
            obtain ⟨w1, w2, w3, w4, w5⟩ := w
            first
              | omega
              | (simp_all; done)
              | (cases u <;> simp_all <;> omega)
          · skip
            try simp only [b2_cast, b2_ncast, Classical.not_not, lcm_lt, lcm_ge, lcm_gt, lcm_le, lcm_eq, b2_0, b2_n0, b2_e1, b2_e0, Bool.not_eq_false, Bool.not_eq_true, decide_eq_true_eq, decide_eq_false_iff_not, Classical.not_not] at h14
            refine V.blk [(80, .lload 3, 1), (81, .iload 7, 2), (83, .bipush (-1), 1), (84, .if_icmp .ne 102, 3)] (ps := []) (z' := (brc .ne (I 18 q) (-1) 102 87, [some (aR 36), some (aI (s : Int)), some (aI (b2 u)), some (aL (x)), none, some (aI (prF I cp m s + cF I cp s n)), some (aI (q : Int)), some (aI (I 18 q))], [aL (x)], MM N I J)) (by decide +kernel) rfl trivial ?_
            refine V.ne (fun h15 => ?_) (fun h16 => ?_)
            · skip
              try simp only [b2_cast, b2_ncast, Classical.not_not, lcm_lt, lcm_ge, lcm_gt, lcm_le, lcm_eq, b2_0, b2_n0, b2_e1, b2_e0, Bool.not_eq_false, Bool.not_eq_true, decide_eq_true_eq, decide_eq_false_iff_not, Classical.not_not] at h15
              refine V.blk [(102, .aload 0, 1), (103, .getfield 7006, 3), (106, .iload 7, 2), (108, .laload, 1), (109, .lor, 1), (110, .lstore 3, 1), (111, .iinc 5 1, 3), (114, .goto 10, 3)] (ps := [0 ≤ (I 18 q) ∧ (I 18 q) < 320, inR ((prF I cp m s + cF I cp s n) + 1)]) (z' := (10, [some (aR 36), some (aI (s : Int)), some (aI (b2 u)), some (aL ((x) ||| (J 39 ((I 18 q).toNat)))), none, some (aI ((prF I cp m s + cF I cp s n) + 1)), some (aI (q : Int)), some (aI (I 18 q))], [], MM N I J)) (by decide +kernel) rfl (show (0 ≤ (I 18 q) ∧ (I 18 q) < 320) ∧ (inR ((prF I cp m s + cF I cp s n) + 1)) from ⟨(by omega), (by unfold inR; omega)⟩) ?_
              rw [show prF I cp m s + cF I cp s n + 1 = prF I cp m s + cF I cp s (q + 1) by omega]
              refine ih (q + 1) _ _ _ (by omega) (by omega) (it_add hx MemP.f q1 q4 (fun i hi => ?_))
              unfold MemP
              constructor
              · intro w
                refine ⟨(spB_t.mp q3).1, (spB_t.mp q3).2, ?_, by omega, Or.inr ⟨by omega, w⟩⟩
                simp_all
              · intro w
                rcases w.2.2.2.2 with w | w
                · exfalso; omega
                · exact w.2
            · skip
              try simp only [b2_cast, b2_ncast, Classical.not_not, lcm_lt, lcm_ge, lcm_gt, lcm_le, lcm_eq, b2_0, b2_n0, b2_e1, b2_e0, Bool.not_eq_false, Bool.not_eq_true, decide_eq_true_eq, decide_eq_false_iff_not, Classical.not_not] at h16
              have hu9 := hqq.2.2.2.2.2 (by omega) (by omega)
              refine V.blk [(87, .jsr_w 1, 1), (88, .aload 0, 1), (89, .getfield 7002, 3), (92, .getfield 3002, 3), (95, .iload 6, 2), (97, .iaload, 1), (98, .lshl, 1), (99, .goto 109, 3), (109, .lor, 1), (110, .lstore 3, 1), (111, .iinc 5 1, 3), (114, .goto 10, 3)] (ps := [0 ≤ (q : Int) ∧ (q : Int) < 400, 0 ≤ (I 13 q) ∧ (I 13 q) < 64, inR ((prF I cp m s + cF I cp s n) + 1)]) (z' := (10, [some (aR 36), some (aI (s : Int)), some (aI (b2 u)), some (aL ((x) ||| (shll (Int64.ofInt 1) (I 13 q)))), none, some (aI ((prF I cp m s + cF I cp s n) + 1)), some (aI (q : Int)), some (aI (I 18 q))], [], MM N I J)) (by decide +kernel) rfl (show (0 ≤ (q : Int) ∧ (q : Int) < 400) ∧ (0 ≤ (I 13 q) ∧ (I 13 q) < 64) ∧ (inR ((prF I cp m s + cF I cp s n) + 1)) from ⟨(by omega), (by omega), (by unfold inR; omega)⟩) ?_
              rw [show prF I cp m s + cF I cp s n + 1 = prF I cp m s + cF I cp s (q + 1) by omega]
              have hu := hqq.2.2.2.2.2 (by omega) (by omega)
              obtain ⟨a, ea⟩ : ∃ a : Nat, I 13 q = a := ⟨(I 13 q).toNat, by omega⟩
              rw [ea]
              refine ih (q + 1) (x ||| bt a) _ _ (by omega) (by omega) (it_add hx MemP.f q1 q4 (fun i hi => ?_))
              rw [tb_bt (by omega), decide_eq_true_eq]
              unfold MemP
              constructor
              · intro w
                refine ⟨(spB_t.mp q3).1, (spB_t.mp q3).2, ?_, by omega, Or.inl ⟨by omega, by omega⟩⟩
                simp_all
              · intro w
                rcases w.2.2.2.2 with w | w
                · omega
                · exfalso; omega
theorem c_members {N : Nat} {I : MI} {J : MJ} {cp : Nat → Bool} {s m : Nat} {u : Bool} (hm : I 10 9 = m) (h4 : m ≤ 400) (hs : s < 320) (hc : CntR I cp) (hq : prOK I) : CT 56 [aR 36, aI (s : Int), aI (b2 u)] (MM N I J) (pure1 N I J (aL (mkI (MemB I cp (J 39) s u)))) := by
  have e0 : I 38 s = prF I cp m s + cF I cp s 0 := by
    rw [hc.1 s (by omega), hm]
    show _ = _ + (0 : Int)
    rw [show ((m : Int)).toNat = m from rfl]
    omega
  refine CT.ofV (n := 8) (ls := [some (aR 36), some (aI (s : Int)), some (aI (b2 u)), none, none, none, none, none]) rfl rfl rfl ?_
  refine V.blk [(0, .jsr_w 0, 1), (1, .lstore 3, 1), (2, .aload 0, 1), (3, .getfield 7005, 3), (6, .iload 1, 1), (7, .iaload, 1), (8, .istore 5, 2)] (ps := [0 ≤ (s : Int) ∧ (s : Int) < 321]) (z' := (10, [some (aR 36), some (aI (s : Int)), some (aI (b2 u)), some (aL (Int64.ofInt 0)), none, some (aI (I 38 s)), none, none], [], MM N I J)) (by decide +kernel) rfl (show (0 ≤ (s : Int) ∧ (s : Int) < 321) from (by omega)) ?_
  rw [e0]
  exact l_members hm h4 hs hc hq (m + 1) 0 _ _ _ (by omega) (by omega) (fun i _ => ⟨(fun w => by rw [tb_0] at w; cases w), (fun w => by obtain ⟨p, hp, _⟩ := w; omega)⟩)
theorem l_behindT {N : Nat} {I : MI} {J : MJ} {cp : Nat → Bool} {s m : Nat} {y : Nat} (hm : I 10 9 = m) (h4 : m ≤ 400) (hs : s < 320) (hy : y < 8) (hc : CntR I cp) (hq : prOK I) : ∀ (k n : Nat) (x : Int64) (w6 : Option AV), m + 1 ≤ k + n → n ≤ m → (∀ i, i < 64 → (tb x i = true ↔ ∃ p, p < n ∧ ThrP I cp (J 39) s y i p)) → V 57 (10, [some (aR 36), some (aI (s : Int)), some (aI (y : Int)), some (aL (x)), none, some (aI (prF I cp m s + cF I cp s n)), w6], [], MM N I J) (pure1 N I J (aL (mkI (ThrB I cp (J 39) s y)))) := by
  intro k
  induction k with
  | zero => intro n x w6 h1 h2; exfalso; omega
  | succ k ih =>
    intro n x w6 h1 h2 hx
    refine V.blk [(10, .iload 5, 2), (12, .aload 0, 1), (13, .getfield 7005, 3), (16, .iload 1, 1), (17, .bipush 1, 1), (18, .iadd, 1), (19, .iaload, 1), (20, .if_icmp .ge 67, 3)] (ps := [inR ((s : Int) + 1), 0 ≤ ((s + 1 : Nat) : Int) ∧ ((s + 1 : Nat) : Int) < 321]) (z' := (brc .ge (prF I cp m s + cF I cp s n) (I 38 (s + 1)) 67 23, [some (aR 36), some (aI (s : Int)), some (aI (y : Int)), some (aL (x)), none, some (aI (prF I cp m s + cF I cp s n)), w6], [], MM N I J)) (by decide +kernel) rfl (show (inR ((s : Int) + 1)) ∧ (0 ≤ ((s + 1 : Nat) : Int) ∧ ((s + 1 : Nat) : Int) < 321) from ⟨(by unfold inR; first | omega | (rw [q6]; omega)), (by first | omega | (rw [q6]; omega))⟩) ?_
    refine V.ge (fun h1 => ?_) (fun h2 => ?_)
    · skip
      try simp only [b2_cast, b2_ncast, Classical.not_not, lcm_lt, lcm_ge, lcm_gt, lcm_le, lcm_eq, b2_0, b2_n0, b2_e1, b2_e0, Bool.not_eq_false, Bool.not_eq_true, decide_eq_true_eq, decide_eq_false_iff_not, Classical.not_not] at h1
      refine V.blk [(67, .lload 3, 1)] (ps := []) (z' := (68, [some (aR 36), some (aI (s : Int)), some (aI (y : Int)), some (aL (x)), none, some (aI (prF I cp m s + cF I cp s n)), w6], [aL (x)], MM N I J)) (by decide +kernel) rfl trivial ?_
      refine V.rl (by decide +kernel) ?_
      exact ⟨congrArg (fun w => some (aL w)) (thr_of hm (it_done hx ThrP.f (by omega) (cnt_end hm hs hc (by assumption)))), rfl⟩
    · skip
      try simp only [b2_cast, b2_ncast, Classical.not_not, lcm_lt, lcm_ge, lcm_gt, lcm_le, lcm_eq, b2_0, b2_n0, b2_e1, b2_e0, Bool.not_eq_false, Bool.not_eq_true, decide_eq_true_eq, decide_eq_false_iff_not, Classical.not_not] at h2
      obtain ⟨q, q1, q2, q3, q4, q5, q6, q7, q8, q9⟩ := cnt_next hm hs hc (n := n) (by omega) (by omega)
      have hqq := hq.2 q (by omega)
      have hq0 := hq.1
      refine V.blk [(23, .aload 0, 1), (24, .getfield 7002, 3), (27, .getfield 3008, 3), (30, .aload 0, 1), (31, .getfield 7004, 3), (34, .iload 5, 2), (36, .iaload, 1), (37, .iaload, 1), (38, .istore 6, 2)] (ps := [0 ≤ (prF I cp m s + cF I cp s n) ∧ (prF I cp m s + cF I cp s n) < 400, 0 ≤ (I 37 ((prF I cp m s + cF I cp s n).toNat)) ∧ (I 37 ((prF I cp m s + cF I cp s n).toNat)) < 400]) (z' := (40, [some (aR 36), some (aI (s : Int)), some (aI (y : Int)), some (aL (x)), none, some (aI (prF I cp m s + cF I cp s n)), some (aI (I 19 ((I 37 ((prF I cp m s + cF I cp s n).toNat)).toNat)))], [], MM N I J)) (by decide +kernel) rfl (show (0 ≤ (prF I cp m s + cF I cp s n) ∧ (prF I cp m s + cF I cp s n) < 400) ∧ (0 ≤ (I 37 ((prF I cp m s + cF I cp s n).toNat)) ∧ (I 37 ((prF I cp m s + cF I cp s n).toNat)) < 400) from ⟨(by first | omega | (rw [q6]; omega)), (by first | omega | (rw [q6]; omega))⟩) ?_
      rw [q6]
      show V 57 (40, [some (aR 36), some (aI (s : Int)), some (aI (y : Int)), some (aL (x)), none, some (aI (prF I cp m s + cF I cp s n)), some (aI (I 19 q))], [], MM N I J) _
      refine V.blk [(40, .iload 6, 2), (42, .bipush (-1), 1), (43, .if_icmp .eq 61, 3)] (ps := []) (z' := (brc .eq (I 19 q) (-1) 61 46, [some (aR 36), some (aI (s : Int)), some (aI (y : Int)), some (aL (x)), none, some (aI (prF I cp m s + cF I cp s n)), some (aI (I 19 q))], [], MM N I J)) (by decide +kernel) rfl trivial ?_
      refine V.eq (fun h3 => ?_) (fun h4 => ?_)
      · skip
        try simp only [b2_cast, b2_ncast, Classical.not_not, lcm_lt, lcm_ge, lcm_gt, lcm_le, lcm_eq, b2_0, b2_n0, b2_e1, b2_e0, Bool.not_eq_false, Bool.not_eq_true, decide_eq_true_eq, decide_eq_false_iff_not, Classical.not_not] at h3
        refine V.blk [(61, .iinc 5 1, 3), (64, .goto 10, 3)] (ps := [inR ((prF I cp m s + cF I cp s n) + 1)]) (z' := (10, [some (aR 36), some (aI (s : Int)), some (aI (y : Int)), some (aL (x)), none, some (aI ((prF I cp m s + cF I cp s n) + 1)), some (aI (I 19 q))], [], MM N I J)) (by decide +kernel) rfl (show (inR ((prF I cp m s + cF I cp s n) + 1)) from (by unfold inR; first | omega | (rw [q6]; omega))) ?_
        rw [show prF I cp m s + cF I cp s n + 1 = prF I cp m s + cF I cp s (q + 1) by omega]
        refine ih (q + 1) x _ (by omega) (by omega) (it_skip hx ThrP.f q1 q4 (fun i w => ?_))
        exact w.2.2.1 (by omega)
      · skip
        try simp only [b2_cast, b2_ncast, Classical.not_not, lcm_lt, lcm_ge, lcm_gt, lcm_le, lcm_eq, b2_0, b2_n0, b2_e1, b2_e0, Bool.not_eq_false, Bool.not_eq_true, decide_eq_true_eq, decide_eq_false_iff_not, Classical.not_not] at h4
        refine V.blk [(46, .lload 3, 1), (47, .aload 0, 1), (48, .getfield 7006, 3), (51, .iload 6, 2), (53, .bipush 8, 2), (55, .imul, 1), (56, .iload 2, 1), (57, .iadd, 1), (58, .laload, 1), (59, .lor, 1), (60, .lstore 3, 1), (61, .iinc 5 1, 3), (64, .goto 10, 3)] (ps := [inR ((I 19 q) * 8), inR (((I 19 q) * 8) + (y : Int)), 0 ≤ (((I 19 q) * 8) + (y : Int)) ∧ (((I 19 q) * 8) + (y : Int)) < 320, inR ((prF I cp m s + cF I cp s n) + 1)]) (z' := (10, [some (aR 36), some (aI (s : Int)), some (aI (y : Int)), some (aL ((x) ||| (J 39 ((((I 19 q) * 8) + (y : Int)).toNat)))), none, some (aI ((prF I cp m s + cF I cp s n) + 1)), some (aI (I 19 q))], [], MM N I J)) (by decide +kernel) rfl (show (inR ((I 19 q) * 8)) ∧ (inR (((I 19 q) * 8) + (y : Int))) ∧ (0 ≤ (((I 19 q) * 8) + (y : Int)) ∧ (((I 19 q) * 8) + (y : Int)) < 320) ∧ (inR ((prF I cp m s + cF I cp s n) + 1)) from ⟨(by unfold inR; first | omega | (rw [q6]; omega)), (by unfold inR; first | omega | (rw [q6]; omega)), (by first | omega | (rw [q6]; omega)), (by unfold inR; first | omega | (rw [q6]; omega))⟩) ?_
        rw [show prF I cp m s + cF I cp s n + 1 = prF I cp m s + cF I cp s (q + 1) by omega]
        refine ih (q + 1) _ _ (by omega) (by omega) (it_add hx ThrP.f q1 q4 (fun i hi => ?_))
        unfold ThrP
        rw [show (I 19 q * 8 + (y : Int)).toNat = (I 19 q).toNat * 8 + y by omega]
        exact ⟨fun w => ⟨(spB_t.mp q3).1, (spB_t.mp q3).2, by omega, w⟩, fun w => w.2.2.2⟩
theorem c_behindT {N : Nat} {I : MI} {J : MJ} {cp : Nat → Bool} {s m : Nat} {y : Nat} (hm : I 10 9 = m) (h4 : m ≤ 400) (hs : s < 320) (hy : y < 8) (hc : CntR I cp) (hq : prOK I) : CT 57 [aR 36, aI (s : Int), aI (y : Int)] (MM N I J) (pure1 N I J (aL (mkI (ThrB I cp (J 39) s y)))) := by
  have e0 : I 38 s = prF I cp m s + cF I cp s 0 := by
    rw [hc.1 s (by omega), hm]
    show _ = _ + (0 : Int)
    rw [show ((m : Int)).toNat = m from rfl]
    omega
  refine CT.ofV (n := 7) (ls := [some (aR 36), some (aI (s : Int)), some (aI (y : Int)), none, none, none, none]) rfl rfl rfl ?_
  refine V.blk [(0, .jsr_w 0, 1), (1, .lstore 3, 1), (2, .aload 0, 1), (3, .getfield 7005, 3), (6, .iload 1, 1), (7, .iaload, 1), (8, .istore 5, 2)] (ps := [0 ≤ (s : Int) ∧ (s : Int) < 321]) (z' := (10, [some (aR 36), some (aI (s : Int)), some (aI (y : Int)), some (aL (Int64.ofInt 0)), none, some (aI (I 38 s)), none], [], MM N I J)) (by decide +kernel) rfl (show (0 ≤ (s : Int) ∧ (s : Int) < 321) from (by omega)) ?_
  rw [e0]
  exact l_behindT hm h4 hs hy hc hq (m + 1) 0 _ _ (by omega) (by omega) (fun i _ => ⟨(fun w => by rw [tb_0] at w; cases w), (fun w => by obtain ⟨p, hp, _⟩ := w; omega)⟩)
theorem c_spotOfN {N : Nat} {I : MI} {J : MJ} {a : Nat} {z : Int} (h : a ≤ 1000 ∧ 0 ≤ z ∧ z ≤ 1000) : CT 108 [aI (a : Int), aI z] (MM N I J) (pure1 N I J (aI ((a * 8 + z.toNat : Nat) : Int))) := by
  have := c_X9_spotOf (N := N) (I := I) (J := J) (u := (a : Int)) (v := z) (by omega)
  rw [show ((a * 8 + z.toNat : Nat) : Int) = (a : Int) * 8 + z by omega]
  exact this
theorem c_tellPlace {N : Nat} {I : MI} {J : MJ} {cp : Nat → Bool} {p s : Nat} (hp : p < 64) (hs : s < 320) (hT : TelP I J cp) : CT 55 [aR 36, aI (p : Int), aI (s : Int)] (MM N I J) (pure1 N I J (aL (plS I cp (J 39) s (J 40) p))) := by
  obtain ⟨hk, hl, hr, hq, hm, h7, hsv, hc⟩ := hT
  obtain ⟨m, em⟩ : ∃ m : Nat, I 10 9 = m := ⟨(I 10 9).toNat, by omega⟩
  have hlp := hl p hp
  have hrp := hr p hp
  refine CT.ofV (n := 6) (ls := [some (aR 36), some (aI (p : Int)), some (aI (s : Int)), none, none, none]) rfl rfl rfl ?_
  refine V.blk [(0, .aload 0, 1), (1, .getfield 7001, 3), (4, .getfield 6001, 3), (7, .iload 1, 1), (8, .iaload, 1), (9, .istore 3, 1), (10, .aload 0, 1), (11, .getfield 7001, 3), (14, .getfield 6002, 3), (17, .iload 1, 1), (18, .iaload, 1), (19, .istore 4, 2), (21, .iload 2, 1), (22, .bipush 8, 2), (24, .idiv, 1), (25, .istore 5, 2), (27, .aload 0, 1), (28, .getfield 7001, 3), (31, .getfield 6000, 3), (34, .iload 1, 1), (35, .iaload, 1), (36, .tableswitch 168 0 6 #[80, 87, 94, 106, 119, 134, 149], 44)] (ps := [0 ≤ (p : Int) ∧ (p : Int) < 64, 0 ≤ (p : Int) ∧ (p : Int) < 64, 0 ≤ (s : Int) ∧ 0 < 8, 0 ≤ (p : Int) ∧ (p : Int) < 64]) (z' := (tsw 168 0 6 [80, 87, 94, 106, 119, 134, 149] (I 4 p), [some (aR 36), some (aI (p : Int)), some (aI (s : Int)), some (aI (I 5 p)), some (aI (I 6 p)), some (aI ((s / 8 : Nat) : Int))], [], MM N I J)) (by decide +kernel) rfl (show (0 ≤ (p : Int) ∧ (p : Int) < 64) ∧ (0 ≤ (p : Int) ∧ (p : Int) < 64) ∧ (0 ≤ (s : Int) ∧ 0 < 8) ∧ (0 ≤ (p : Int) ∧ (p : Int) < 64) from ⟨(by omega), (by omega), (by omega), (by omega)⟩) ?_
  refine V.ts (fun k t1 hlt hle => ?_) (by decide) (fun h2 => ?_)
  · match k, t1, hlt with
    | 0, t1, _ =>
      show V 55 (80, [some (aR 36), some (aI (p : Int)), some (aI (s : Int)), some (aI (I 5 p)), some (aI (I 6 p)), some (aI ((s / 8 : Nat) : Int))], [], MM N I J) _
      have e4 : I 4 p = 0 := by have := t1; omega
      refine V.blk [(80, .aload 0, 1), (81, .iload 2, 1), (82, .bipush 0, 1)] (ps := []) (z' := (83, [some (aR 36), some (aI (p : Int)), some (aI (s : Int)), some (aI (I 5 p)), some (aI (I 6 p)), some (aI ((s / 8 : Nat) : Int))], [aI 0, aI (s : Int), aR 36], MM N I J)) (by decide +kernel) rfl trivial ?_
      refine V.cv (c := 56) (na := 3) (o := 7) (a := 36) [aI 0, aI (s : Int)] [] (by decide +kernel) rfl rfl rfl rfl rfl (V.pr (c_members (u := false) em (by omega) hs hc hq) ?_)
      show V 55 (86, [some (aR 36), some (aI (p : Int)), some (aI (s : Int)), some (aI (I 5 p)), some (aI (I 6 p)), some (aI ((s / 8 : Nat) : Int))], [aL (mkI (MemB I cp (J 39) s false))], MM N I J) _
      refine V.rl (by decide +kernel) ?_
      exact ⟨congrArg (fun w => some (aL w)) (by unfold plS; simp only [e4]; rfl), rfl⟩
    | 1, t1, _ =>
      show V 55 (87, [some (aR 36), some (aI (p : Int)), some (aI (s : Int)), some (aI (I 5 p)), some (aI (I 6 p)), some (aI ((s / 8 : Nat) : Int))], [], MM N I J) _
      have e4 : I 4 p = 1 := by have := t1; omega
      refine V.blk [(87, .aload 0, 1), (88, .iload 2, 1), (89, .bipush 1, 1)] (ps := []) (z' := (90, [some (aR 36), some (aI (p : Int)), some (aI (s : Int)), some (aI (I 5 p)), some (aI (I 6 p)), some (aI ((s / 8 : Nat) : Int))], [aI 1, aI (s : Int), aR 36], MM N I J)) (by decide +kernel) rfl trivial ?_
      refine V.cv (c := 56) (na := 3) (o := 7) (a := 36) [aI 1, aI (s : Int)] [] (by decide +kernel) rfl rfl rfl rfl rfl (V.pr (c_members (u := true) em (by omega) hs hc hq) ?_)
      show V 55 (93, [some (aR 36), some (aI (p : Int)), some (aI (s : Int)), some (aI (I 5 p)), some (aI (I 6 p)), some (aI ((s / 8 : Nat) : Int))], [aL (mkI (MemB I cp (J 39) s true))], MM N I J) _
      refine V.rl (by decide +kernel) ?_
      exact ⟨congrArg (fun w => some (aL w)) (by unfold plS; simp only [e4]; rfl), rfl⟩
    | 2, t1, _ =>
      show V 55 (94, [some (aR 36), some (aI (p : Int)), some (aI (s : Int)), some (aI (I 5 p)), some (aI (I 6 p)), some (aI ((s / 8 : Nat) : Int))], [], MM N I J) _
      have e4 : I 4 p = 2 := by have := t1; omega
      refine V.blk [(94, .aload 0, 1), (95, .getfield 7006, 3), (98, .iload 5, 2), (100, .iload 3, 1)] (ps := []) (z' := (101, [some (aR 36), some (aI (p : Int)), some (aI (s : Int)), some (aI (I 5 p)), some (aI (I 6 p)), some (aI ((s / 8 : Nat) : Int))], [aI (I 5 p), aI ((s / 8 : Nat) : Int), aR 39], MM N I J)) (by decide +kernel) rfl trivial ?_
      refine V.cs (c := 108) (na := 2) [aI (I 5 p), aI ((s / 8 : Nat) : Int)] [aR 39] (by decide +kernel) rfl rfl (V.pr (c_spotOfN (by omega)) ?_)
      show V 55 (104, [some (aR 36), some (aI (p : Int)), some (aI (s : Int)), some (aI (I 5 p)), some (aI (I 6 p)), some (aI ((s / 8 : Nat) : Int))], [aI (((s / 8) * 8 + (I 5 p).toNat : Nat) : Int), aR 39], MM N I J) _
      refine V.blk [(104, .laload, 1)] (ps := [0 ≤ (((s / 8) * 8 + (I 5 p).toNat : Nat) : Int) ∧ (((s / 8) * 8 + (I 5 p).toNat : Nat) : Int) < 320]) (z' := (105, [some (aR 36), some (aI (p : Int)), some (aI (s : Int)), some (aI (I 5 p)), some (aI (I 6 p)), some (aI ((s / 8 : Nat) : Int))], [aL (J 39 ((s / 8) * 8 + (I 5 p).toNat))], MM N I J)) (by decide +kernel) rfl (show (0 ≤ (((s / 8) * 8 + (I 5 p).toNat : Nat) : Int) ∧ (((s / 8) * 8 + (I 5 p).toNat : Nat) : Int) < 320) from (by omega)) ?_
      refine V.rl (by decide +kernel) ?_
      exact ⟨congrArg (fun w => some (aL w)) (by unfold plS; simp only [e4]; rfl), rfl⟩
    | 3, t1, _ =>
      show V 55 (106, [some (aR 36), some (aI (p : Int)), some (aI (s : Int)), some (aI (I 5 p)), some (aI (I 6 p)), some (aI ((s / 8 : Nat) : Int))], [], MM N I J) _
      have e4 : I 4 p = 3 := by have := t1; omega
      obtain ⟨y, ey⟩ : ∃ y : Nat, I 6 p = y := ⟨(I 6 p).toNat, by omega⟩
      rw [ey]
      refine V.blk [(106, .aload 0, 1), (107, .iload 5, 2), (109, .iload 3, 1)] (ps := []) (z' := (110, [some (aR 36), some (aI (p : Int)), some (aI (s : Int)), some (aI (I 5 p)), some (aI (y : Int)), some (aI ((s / 8 : Nat) : Int))], [aI (I 5 p), aI ((s / 8 : Nat) : Int), aR 36], MM N I J)) (by decide +kernel) rfl trivial ?_
      refine V.cs (c := 108) (na := 2) [aI (I 5 p), aI ((s / 8 : Nat) : Int)] [aR 36] (by decide +kernel) rfl rfl (V.pr (c_spotOfN (by omega)) ?_)
      show V 55 (113, [some (aR 36), some (aI (p : Int)), some (aI (s : Int)), some (aI (I 5 p)), some (aI (y : Int)), some (aI ((s / 8 : Nat) : Int))], [aI (((s / 8) * 8 + (I 5 p).toNat : Nat) : Int), aR 36], MM N I J) _
      refine V.blk [(113, .iload 4, 2)] (ps := []) (z' := (115, [some (aR 36), some (aI (p : Int)), some (aI (s : Int)), some (aI (I 5 p)), some (aI (y : Int)), some (aI ((s / 8 : Nat) : Int))], [aI (y : Int), aI (((s / 8) * 8 + (I 5 p).toNat : Nat) : Int), aR 36], MM N I J)) (by decide +kernel) rfl trivial ?_
      refine V.cv (c := 57) (na := 3) (o := 7) (a := 36) [aI (y : Int), aI (((s / 8) * 8 + (I 5 p).toNat : Nat) : Int)] [] (by decide +kernel) rfl rfl rfl rfl rfl (V.pr (c_behindT em (by omega) (by omega) (by omega) hc hq) ?_)
      show V 55 (118, [some (aR 36), some (aI (p : Int)), some (aI (s : Int)), some (aI (I 5 p)), some (aI (y : Int)), some (aI ((s / 8 : Nat) : Int))], [aL (mkI (ThrB I cp (J 39) ((s / 8) * 8 + (I 5 p).toNat) y))], MM N I J) _
      refine V.rl (by decide +kernel) ?_
      exact ⟨congrArg (fun w => some (aL w)) (by unfold plS; simp only [e4, ey]; rfl), rfl⟩
    | 4, t1, _ =>
      show V 55 (119, [some (aR 36), some (aI (p : Int)), some (aI (s : Int)), some (aI (I 5 p)), some (aI (I 6 p)), some (aI ((s / 8 : Nat) : Int))], [], MM N I J) _
      have e4 : I 4 p = 4 := by have := t1; omega
      refine V.blk [(119, .aload 0, 1), (120, .getfield 7007, 3), (123, .iload 3, 1), (124, .laload, 1), (125, .aload 0, 1), (126, .getfield 7007, 3), (129, .iload 4, 2), (131, .laload, 1), (132, .lor, 1)] (ps := [0 ≤ (I 5 p) ∧ (I 5 p) < 64, 0 ≤ (I 6 p) ∧ (I 6 p) < 64]) (z' := (133, [some (aR 36), some (aI (p : Int)), some (aI (s : Int)), some (aI (I 5 p)), some (aI (I 6 p)), some (aI ((s / 8 : Nat) : Int))], [aL ((J 40 ((I 5 p).toNat)) ||| (J 40 ((I 6 p).toNat)))], MM N I J)) (by decide +kernel) rfl (show (0 ≤ (I 5 p) ∧ (I 5 p) < 64) ∧ (0 ≤ (I 6 p) ∧ (I 6 p) < 64) from ⟨(by omega), (by omega)⟩) ?_
      refine V.rl (by decide +kernel) ?_
      exact ⟨congrArg (fun w => some (aL w)) (by unfold plS; simp only [e4]; rfl), rfl⟩
    | 5, t1, _ =>
      show V 55 (134, [some (aR 36), some (aI (p : Int)), some (aI (s : Int)), some (aI (I 5 p)), some (aI (I 6 p)), some (aI ((s / 8 : Nat) : Int))], [], MM N I J) _
      have e4 : I 4 p = 5 := by have := t1; omega
      refine V.blk [(134, .aload 0, 1), (135, .getfield 7007, 3), (138, .iload 3, 1), (139, .laload, 1), (140, .aload 0, 1), (141, .getfield 7007, 3), (144, .iload 4, 2), (146, .laload, 1), (147, .land, 1)] (ps := [0 ≤ (I 5 p) ∧ (I 5 p) < 64, 0 ≤ (I 6 p) ∧ (I 6 p) < 64]) (z' := (148, [some (aR 36), some (aI (p : Int)), some (aI (s : Int)), some (aI (I 5 p)), some (aI (I 6 p)), some (aI ((s / 8 : Nat) : Int))], [aL ((J 40 ((I 5 p).toNat)) &&& (J 40 ((I 6 p).toNat)))], MM N I J)) (by decide +kernel) rfl (show (0 ≤ (I 5 p) ∧ (I 5 p) < 64) ∧ (0 ≤ (I 6 p) ∧ (I 6 p) < 64) from ⟨(by omega), (by omega)⟩) ?_
      refine V.rl (by decide +kernel) ?_
      exact ⟨congrArg (fun w => some (aL w)) (by unfold plS; simp only [e4]; rfl), rfl⟩
    | 6, t1, _ =>
      show V 55 (149, [some (aR 36), some (aI (p : Int)), some (aI (s : Int)), some (aI (I 5 p)), some (aI (I 6 p)), some (aI ((s / 8 : Nat) : Int))], [], MM N I J) _
      have e4 : I 4 p = 6 := by have := t1; omega
      refine V.blk [(149, .aload 0, 1), (150, .getfield 7007, 3), (153, .iload 3, 1), (154, .laload, 1), (155, .aload 0, 1), (156, .getfield 7007, 3), (159, .iload 4, 2), (161, .laload, 1), (162, .jsr_w (-1), 3), (165, .lxor, 1), (166, .land, 1)] (ps := [0 ≤ (I 5 p) ∧ (I 5 p) < 64, 0 ≤ (I 6 p) ∧ (I 6 p) < 64]) (z' := (167, [some (aR 36), some (aI (p : Int)), some (aI (s : Int)), some (aI (I 5 p)), some (aI (I 6 p)), some (aI ((s / 8 : Nat) : Int))], [aL ((J 40 ((I 5 p).toNat)) &&& ((J 40 ((I 6 p).toNat)) ^^^ (Int64.ofInt (-1))))], MM N I J)) (by decide +kernel) rfl (show (0 ≤ (I 5 p) ∧ (I 5 p) < 64) ∧ (0 ≤ (I 6 p) ∧ (I 6 p) < 64) from ⟨(by omega), (by omega)⟩) ?_
      refine V.rl (by decide +kernel) ?_
      exact ⟨congrArg (fun w => some (aL w)) (by unfold plS; simp only [e4]; rfl), rfl⟩
    | n + 7, _, hlt => exact absurd hlt (by simp)
  · show V 55 (168, [some (aR 36), some (aI (p : Int)), some (aI (s : Int)), some (aI (I 5 p)), some (aI (I 6 p)), some (aI ((s / 8 : Nat) : Int))], [], MM N I J) _
    refine V.blk [(168, .jsr_w 0, 1)] (ps := []) (z' := (169, [some (aR 36), some (aI (p : Int)), some (aI (s : Int)), some (aI (I 5 p)), some (aI (I 6 p)), some (aI ((s / 8 : Nat) : Int))], [aL (Int64.ofInt 0)], MM N I J)) (by decide +kernel) rfl trivial ?_
    refine V.rl (by decide +kernel) ?_
    exact ⟨congrArg (fun w => some (aL w)) (by unfold plS; rw [if_neg (by omega), if_neg (by omega), if_neg (by omega), if_neg (by omega), if_neg (by omega), if_neg (by omega), if_neg (by omega)]), rfl⟩
theorem c_rootOf {N : Nat} {I : MI} {J : MJ} {s : Nat} (hs : s < 320) (hk : kdOK I) : CT 53 [aR 36, aI (s : Int)] (MM N I J) (pure1 N I J (aI (I 7 (kS I s)))) := by
  refine CT.ofV (n := 2) (ls := [some (aR 36), some (aI (s : Int))]) rfl rfl rfl ?_
  refine V.blk [(0, .aload 0, 1), (1, .getfield 7001, 3), (4, .getfield 6003, 3), (7, .aload 0, 1), (8, .getfield 7000, 3), (11, .iload 1, 1)] (ps := []) (z' := (12, [some (aR 36), some (aI (s : Int))], [aI (s : Int), aR 1, aR 7], MM N I J)) (by decide +kernel) rfl trivial ?_
  refine V.cv (c := 62) (na := 2) (o := 8) (a := 1) [aI (s : Int)] [aR 7] (by decide +kernel) rfl rfl rfl rfl rfl (V.pr (c_X8_knotAt hk (by omega)) ?_)
  show V 53 (15, [some (aR 36), some (aI (s : Int))], [aI (kn I (s : Int)), aR 7], MM N I J) _
  have k1 := kn_in hk (s := (s : Int)) (by omega)
  refine V.blk [(15, .iaload, 1)] (ps := [0 ≤ (kn I (s : Int)) ∧ (kn I (s : Int)) < 48]) (z' := (16, [some (aR 36), some (aI (s : Int))], [aI (I 7 ((kn I (s : Int)).toNat))], MM N I J)) (by decide +kernel) rfl (show (0 ≤ (kn I (s : Int)) ∧ (kn I (s : Int)) < 48) from (by omega)) ?_
  refine V.ri (by decide +kernel) ?_
  exact ⟨rfl, rfl⟩
def askd (J : MJ) (r p : Nat) : Bool := tb (J 8 r ||| J 9 r) p
theorem askd_or {J : MJ} {r p : Nat} : askd J r p = true ↔ tb (J 8 r) p = true ∨ tb (J 9 r) p = true := by
  unfold askd
  rw [tb_or, Bool.or_eq_true]
theorem askd_clo {K : MI} {L : MJ} (h : svOK K L) (hl : rlOK K) {r p : Nat} (hr : r < 64) (hp : p < 64) (h4 : 4 ≤ K 4 p) (h6 : K 4 p ≤ 6) (ha : askd L r p = true) : askd L r (K 5 p).toNat = true ∧ askd L r (K 6 p).toNat = true := by
  have c := sv_clo h hl r hr p hp h4 h6
  rw [askd_or] at ha
  rw [askd_or, askd_or]
  rcases ha with ha | ha
  · obtain ⟨a, b, d⟩ := c.1 ha
    refine ⟨Or.inl a, ?_⟩
    by_cases e : K 4 p = 6
    · exact Or.inr (d e)
    · exact Or.inl (b e)
  · exact ⟨Or.inr (c.2 ha).1, Or.inr (c.2 ha).2⟩
theorem TelP.j {I : MI} {J J' : MJ} {cp : Nat → Bool} (h : TelP I J cp) (e : ∀ i, i ≠ 40 → i ≠ 39 → J' i = J i) : TelP I J' cp := by
  obtain ⟨hk, hl, hr, hq, hm, h7, hsv, hc⟩ := h
  exact ⟨hk, hl, hr, hq, hm, h7, svOK_congr hsv rfl rfl rfl (e 8 (by decide) (by decide)) (e 9 (by decide) (by decide)), hc⟩
theorem l_tell {N : Nat} {I : MI} {J : MJ} {cp : Nat → Bool} {s r : Nat} (hs : s < 320) (hr : r < 64) (hT : TelP I J cp) (er : I 7 (kS I s) = r) : ∀ (k p : Nat) (J' : MJ), r + 2 ≤ k + p → p ≤ r + 1 → (∀ i, i ≠ 40 → J' i = J i) → (∀ q, q < p → askd J r q = true → J' 40 q = pl I cp (J 39) s q) → V 54 (36, [some (aR 36), some (aI (s : Int)), some (aI (r : Int)), some (aL (J 8 r ||| J 9 r)), none, some (aI (p : Int))], [], MM N I J') (fun r M' => ∃ J', r = some (aL (tellV I cp (J 39) s)) ∧ M' = MM N I J' ∧ (∀ i, i ≠ 40 → J' i = J i) ∧ (I 7 (kS I s) ≠ -1 → ∀ p, p < 64 → askd J (I 7 (kS I s)).toNat p = true → J' 40 p = pl I cp (J 39) s p)) := by
  intro k
  induction k with
  | zero => intro p J' h1 h2; exfalso; omega
  | succ k ih =>
    intro p J' h1 h2 ho ht
    have hT2 : TelP I J' cp := hT.j fun i h40 _ => ho i h40
    have e39 : J' 39 = J 39 := ho 39 (by decide)
    refine V.blk [(36, .iload 5, 2), (38, .iload 2, 1), (39, .if_icmp .gt 71, 3)] (ps := []) (z' := (brc .gt (p : Int) (r : Int) 71 42, [some (aR 36), some (aI (s : Int)), some (aI (r : Int)), some (aL (J 8 r ||| J 9 r)), none, some (aI (p : Int))], [], MM N I J')) (by decide +kernel) rfl trivial ?_
    refine V.gt (fun h1 => ?_) (fun h2 => ?_)
    · skip
      try simp only [b2_cast, b2_ncast, Classical.not_not, lcm_lt, lcm_ge, lcm_gt, lcm_le, lcm_eq, b2_0, b2_n0, b2_e1, b2_e0, Bool.not_eq_false, Bool.not_eq_true, decide_eq_true_eq, decide_eq_false_iff_not, Classical.not_not] at h1
      refine V.blk [(71, .aload 0, 1), (72, .getfield 7007, 3), (75, .iload 2, 1), (76, .laload, 1)] (ps := [0 ≤ (r : Int) ∧ (r : Int) < 64]) (z' := (77, [some (aR 36), some (aI (s : Int)), some (aI (r : Int)), some (aL (J 8 r ||| J 9 r)), none, some (aI (p : Int))], [aL (J' 40 r)], MM N I J')) (by decide +kernel) rfl (show (0 ≤ (r : Int) ∧ (r : Int) < 64) from (by omega)) ?_
      refine V.rl (by decide +kernel) ?_
      have hrr : askd J r r = true := by rw [askd_or]; exact Or.inl (sv_self hT.2.2.2.2.2.2.1 hr)
      refine ⟨J', ?_, rfl, ho, fun _ q hq hqa => ?_⟩
      · unfold tellV
        rw [if_neg (by omega), er, ht r (by omega) hrr]
        rfl
      · rw [er] at hqa
        rw [show ((r : Int)).toNat = r from rfl] at hqa
        have : q ≤ r := by
          have := sv_lt hT.2.2.2.2.2.2.1 hT.2.1 r hr q hq
          rw [askd_or] at hqa
          rcases hqa with w | w
          · exact this.1 w
          · exact Nat.le_of_lt (this.2 w)
        exact ht q (by omega) hqa
    · skip
      try simp only [b2_cast, b2_ncast, Classical.not_not, lcm_lt, lcm_ge, lcm_gt, lcm_le, lcm_eq, b2_0, b2_n0, b2_e1, b2_e0, Bool.not_eq_false, Bool.not_eq_true, decide_eq_true_eq, decide_eq_false_iff_not, Classical.not_not] at h2
      refine V.blk [(42, .lload 3, 1), (43, .iload 5, 2)] (ps := []) (z' := (45, [some (aR 36), some (aI (s : Int)), some (aI (r : Int)), some (aL (J 8 r ||| J 9 r)), none, some (aI (p : Int))], [aI (p : Int), aL (J 8 r ||| J 9 r)], MM N I J')) (by decide +kernel) rfl trivial ?_
      refine V.cs (c := 107) (na := 2) [aI (p : Int), aL (J 8 r ||| J 9 r)] [] (by decide +kernel) rfl rfl (V.pr (c_X9_hasBit (k := p) (by omega)) ?_)
      show V 54 (48, [some (aR 36), some (aI (s : Int)), some (aI (r : Int)), some (aL (J 8 r ||| J 9 r)), none, some (aI (p : Int))], [aI (b2 (tb (J 8 r ||| J 9 r) p))], MM N I J') _
      refine V.blk [(48, .ifCond .eq 65, 3)] (ps := []) (z' := (brc .eq (b2 (tb (J 8 r ||| J 9 r) p)) 0 65 51, [some (aR 36), some (aI (s : Int)), some (aI (r : Int)), some (aL (J 8 r ||| J 9 r)), none, some (aI (p : Int))], [], MM N I J')) (by decide +kernel) rfl trivial ?_
      refine V.eq (fun h3 => ?_) (fun h4 => ?_)
      · skip
        try simp only [b2_cast, b2_ncast, Classical.not_not, lcm_lt, lcm_ge, lcm_gt, lcm_le, lcm_eq, b2_0, b2_n0, b2_e1, b2_e0, Bool.not_eq_false, Bool.not_eq_true, decide_eq_true_eq, decide_eq_false_iff_not, Classical.not_not] at h3
        refine V.blk [(65, .iinc 5 1, 3), (68, .goto 36, 3)] (ps := [inR ((p : Int) + 1)]) (z' := (36, [some (aR 36), some (aI (s : Int)), some (aI (r : Int)), some (aL (J 8 r ||| J 9 r)), none, some (aI ((p + 1 : Nat) : Int))], [], MM N I J')) (by decide +kernel) rfl (show (inR ((p : Int) + 1)) from (by unfold inR; omega)) ?_
        refine ih (p + 1) J' (by omega) (by omega) ho (fun q hq hqa => ?_)
        by_cases e : q = p
        · subst e
          unfold askd at hqa
          simp_all
        · exact ht q (by omega) hqa
      · skip
        try simp only [b2_cast, b2_ncast, Classical.not_not, lcm_lt, lcm_ge, lcm_gt, lcm_le, lcm_eq, b2_0, b2_n0, b2_e1, b2_e0, Bool.not_eq_false, Bool.not_eq_true, decide_eq_true_eq, decide_eq_false_iff_not, Classical.not_not] at h4
        refine V.blk [(51, .aload 0, 1), (52, .getfield 7007, 3), (55, .iload 5, 2), (57, .aload 0, 1), (58, .iload 5, 2), (60, .iload 1, 1)] (ps := []) (z' := (61, [some (aR 36), some (aI (s : Int)), some (aI (r : Int)), some (aL (J 8 r ||| J 9 r)), none, some (aI (p : Int))], [aI (s : Int), aI (p : Int), aR 36, aI (p : Int), aR 40], MM N I J')) (by decide +kernel) rfl trivial ?_
        refine V.cv (c := 55) (na := 3) (o := 7) (a := 36) [aI (s : Int), aI (p : Int)] [aI (p : Int), aR 40] (by decide +kernel) rfl rfl rfl rfl rfl (V.pr (c_tellPlace (by omega) hs hT2) ?_)
        show V 54 (64, [some (aR 36), some (aI (s : Int)), some (aI (r : Int)), some (aL (J 8 r ||| J 9 r)), none, some (aI (p : Int))], [aL (plS I cp (J' 39) s (J' 40) p), aI (p : Int), aR 40], MM N I J') _
        refine V.blk [(64, .lastore, 1), (65, .iinc 5 1, 3), (68, .goto 36, 3)] (ps := [0 ≤ (p : Int) ∧ (p : Int) < 64, inR ((p : Int) + 1)]) (z' := (36, [some (aR 36), some (aI (s : Int)), some (aI (r : Int)), some (aL (J 8 r ||| J 9 r)), none, some (aI ((p + 1 : Nat) : Int))], [], MM N I (ma J' 40 (ma (J' 40) p (plS I cp (J' 39) s (J' 40) p))))) (by decide +kernel) rfl (show (0 ≤ (p : Int) ∧ (p : Int) < 64) ∧ (inR ((p : Int) + 1)) from ⟨(by omega), (by unfold inR; omega)⟩) ?_
        refine V.nJ (fun J5 eJ5 => ?_)
        have ha : askd J r p = true := by unfold askd; assumption
        refine ih (p + 1) _ (by omega) (by omega) (fun i h40 => ?_) (fun q hq hqa => ?_)
        · subst eJ5
          rw [ma_ne _ _ h40]
          exact ho i h40
        · subst eJ5
          rw [ma_self]
          by_cases e : q = p
          · subst e
            rw [ma_self, pl_eq hT.2.1 (by omega), e39]
            refine plS_T fun h4 h6 => ?_
            have hl := hT.2.1 q (by omega) h4 h6
            have cl := askd_clo hT.2.2.2.2.2.2.1 hT.2.1 hr (by omega) h4 h6 ha
            exact ⟨ht _ (by omega) cl.1, ht _ (by omega) cl.2⟩
          · rw [ma_ne _ _ e]
            exact ht q (by omega) hqa
theorem c_tell {N : Nat} {I : MI} {J : MJ} {cp : Nat → Bool} {s : Nat} (hs : s < 320) (hT : TelP I J cp) : CT 54 [aR 36, aI (s : Int)] (MM N I J) (fun r M' => ∃ J', r = some (aL (tellV I cp (J 39) s)) ∧ M' = MM N I J' ∧ (∀ i, i ≠ 40 → J' i = J i) ∧ (I 7 (kS I s) ≠ -1 → ∀ p, p < 64 → askd J (I 7 (kS I s)).toNat p = true → J' 40 p = pl I cp (J 39) s p)) := by
  have hk := hT.1
  have h7 := hT.2.2.2.2.2.1 _ (kS_lt hk hs)
  refine CT.ofV (n := 6) (ls := [some (aR 36), some (aI (s : Int)), none, none, none, none]) rfl rfl rfl ?_
  refine V.blk [(0, .aload 0, 1), (1, .iload 1, 1)] (ps := []) (z' := (2, [some (aR 36), some (aI (s : Int)), none, none, none, none], [aI (s : Int), aR 36], MM N I J)) (by decide +kernel) rfl trivial ?_
  refine V.cv (c := 53) (na := 2) (o := 7) (a := 36) [aI (s : Int)] [] (by decide +kernel) rfl rfl rfl rfl rfl (V.pr (c_rootOf (by omega) (by assumption)) ?_)
  show V 54 (5, [some (aR 36), some (aI (s : Int)), none, none, none, none], [aI (I 7 (kS I s))], MM N I J) _
  refine V.blk [(5, .istore 2, 1), (6, .iload 2, 1), (7, .bipush (-1), 1), (8, .if_icmp .ne 13, 3)] (ps := []) (z' := (brc .ne (I 7 (kS I s)) (-1) 13 11, [some (aR 36), some (aI (s : Int)), some (aI (I 7 (kS I s))), none, none, none], [], MM N I J)) (by decide +kernel) rfl trivial ?_
  refine V.ne (fun h1 => ?_) (fun h2 => ?_)
  · skip
    obtain ⟨r, er⟩ : ∃ r : Nat, I 7 (kS I s) = r := ⟨(I 7 (kS I s)).toNat, by omega⟩
    rw [er]
    refine V.blk [(13, .aload 0, 1), (14, .getfield 7001, 3), (17, .getfield 6004, 3), (20, .iload 2, 1), (21, .laload, 1), (22, .aload 0, 1), (23, .getfield 7001, 3), (26, .getfield 6005, 3), (29, .iload 2, 1), (30, .laload, 1), (31, .lor, 1), (32, .lstore 3, 1), (33, .bipush 0, 1), (34, .istore 5, 2)] (ps := [0 ≤ (r : Int) ∧ (r : Int) < 64, 0 ≤ (r : Int) ∧ (r : Int) < 64]) (z' := (36, [some (aR 36), some (aI (s : Int)), some (aI (r : Int)), some (aL ((J 8 r) ||| (J 9 r))), none, some (aI 0)], [], MM N I J)) (by decide +kernel) rfl (show (0 ≤ (r : Int) ∧ (r : Int) < 64) ∧ (0 ≤ (r : Int) ∧ (r : Int) < 64) from ⟨(by omega), (by omega)⟩) ?_
    have g := l_tell (N := N) hs (by omega) hT er (r + 2) 0 J (by omega) (by omega) (fun _ _ => rfl) (fun q hq => by omega)
    rw [er] at g
    exact g
  · skip
    refine V.blk [(11, .jsr_w 0, 1)] (ps := []) (z' := (12, [some (aR 36), some (aI (s : Int)), some (aI (I 7 (kS I s))), none, none, none], [aL (Int64.ofInt 0)], MM N I J)) (by decide +kernel) rfl trivial ?_
    refine V.rl (by decide +kernel) ?_
    refine ⟨J, ?_, rfl, fun _ _ => rfl, fun w => absurd (by assumption) w⟩
    unfold tellV
    rw [if_pos (by assumption)]
theorem c_isIn {N : Nat} {I : MI} {J : MJ} {s k : Nat} (hs : s < 320) (hk : k < 64) : CT 58 [aR 36, aI (s : Int), aI (k : Int)] (MM N I J) (pure1 N I J (aI (b2 (tb (J 39 s) k)))) := by
  refine CT.ofV (n := 3) (ls := [some (aR 36), some (aI (s : Int)), some (aI (k : Int))]) rfl rfl rfl ?_
  refine V.blk [(0, .aload 0, 1), (1, .getfield 7006, 3), (4, .iload 1, 1), (5, .laload, 1), (6, .iload 2, 1)] (ps := [0 ≤ (s : Int) ∧ (s : Int) < 320]) (z' := (7, [some (aR 36), some (aI (s : Int)), some (aI (k : Int))], [aI (k : Int), aL (J 39 s)], MM N I J)) (by decide +kernel) rfl (show (0 ≤ (s : Int) ∧ (s : Int) < 320) from (by omega)) ?_
  refine V.cs (c := 107) (na := 2) [aI (k : Int), aL (J 39 s)] [] (by decide +kernel) rfl rfl (V.pr (c_X9_hasBit (k := k) (by omega)) ?_)
  show V 58 (10, [some (aR 36), some (aI (s : Int)), some (aI (k : Int))], [aI (b2 (tb (J 39 s) k))], MM N I J) _
  refine V.rz (by decide +kernel) (by first | exact b2_in _ | omega) ?_
  exact ⟨rfl, rfl⟩
