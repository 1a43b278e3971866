/-! ===== the reference: commit; pairs that count ===== -/
theorem RA.clr {K I I' : MI} (h : RA K I) (e : ∀ i, i ≠ 52 → I' i = I i) (e29 : I' 52 29 = 0) (e30 : I' 52 30 = 0) (f : ∀ k, k ≠ 29 → k ≠ 30 → k ≠ 40 → I' 52 k = I 52 k) : RA (clrU K) I' := by
  obtain ⟨h1, h2, h3, h4, h5, h6, h7, h8⟩ := h
  have kn : ∀ i, i ≠ 22 → clrU K i = K i := fun i a => ma_ne _ _ a
  have k4 : clrU K 22 4 = 0 := by unfold clrU; rw [ma_self, ma_ne _ _ (by decide), ma_self]
  have k9 : clrU K 22 9 = 0 := by unfold clrU; rw [ma_self, ma_self]
  refine ⟨?_, ?_, ?_, ?_, ⟨by rw [e29, k4], by rw [e30, k9], fun a w => by omega, fun a w => by omega⟩, ?_, ?_, ?_⟩
  · unfold RTh; rw [kn 1 (by decide), kn 2 (by decide), f 1 (by decide) (by decide) (by decide), e 53 (by decide)]; exact h1
  · unfold RRu; rw [kn 4 (by decide), kn 5 (by decide), kn 6 (by decide), kn 7 (by decide), e 54 (by decide), e 55 (by decide), e 56 (by decide), e 57 (by decide), e 58 (by decide)]; exact h2
  · unfold RPr; rw [kn 10 (by decide), kn 11 (by decide), kn 12 (by decide), kn 13 (by decide), kn 14 (by decide), kn 15 (by decide), kn 16 (by decide), f 13 (by decide) (by decide) (by decide), e 59 (by decide), e 60 (by decide), e 61 (by decide), e 62 (by decide), e 63 (by decide), e 64 (by decide)]; exact h3
  · unfold RLg; rw [kn 10 (by decide), kn 20 (by decide), kn 21 (by decide), f 17 (by decide) (by decide) (by decide), f 18 (by decide) (by decide) (by decide), e 65 (by decide), e 66 (by decide), e 67 (by decide)]; exact h4
  · unfold RSc; rw [kn 0 (by decide), kn 51 (by decide), f 19 (by decide) (by decide) (by decide), f 31 (by decide) (by decide) (by decide), e 77 (by decide)]; exact h6
  · unfold RRe; rw [kn 44 (by decide), kn 45 (by decide), f 56 (by decide) (by decide) (by decide), f 57 (by decide) (by decide) (by decide), f 58 (by decide) (by decide) (by decide), f 59 (by decide) (by decide) (by decide), f 60 (by decide) (by decide) (by decide), f 61 (by decide) (by decide) (by decide), e 93 (by decide)]; exact h7
  · unfold RRo; rw [kn 48 (by decide), kn 49 (by decide), f 64 (by decide) (by decide) (by decide), e 94 (by decide)]; exact h8
theorem RA.fail {K I I' : MI} {z : Int} (h : RA K I) (e : ∀ i, i ≠ 52 → I' i = I i) (e31 : I' 52 31 = z) (f : ∀ k, k ≠ 31 → I' 52 k = I 52 k) : RA (ma K 0 (ma (K 0) 13 z)) I' := by
  obtain ⟨h1, h2, h3, h4, h5, h6, h7, h8⟩ := h
  have kn : ∀ i, i ≠ 0 → ma K 0 (ma (K 0) 13 z) i = K i := fun i a => ma_ne _ _ a
  refine ⟨?_, ?_, ?_, ?_, ?_, ?_, ?_, ?_⟩
  · unfold RTh; rw [kn 1 (by decide), kn 2 (by decide), f 1 (by decide), e 53 (by decide)]; exact h1
  · unfold RRu; rw [kn 4 (by decide), kn 5 (by decide), kn 6 (by decide), kn 7 (by decide), e 54 (by decide), e 55 (by decide), e 56 (by decide), e 57 (by decide), e 58 (by decide)]; exact h2
  · unfold RPr; rw [kn 10 (by decide), kn 11 (by decide), kn 12 (by decide), kn 13 (by decide), kn 14 (by decide), kn 15 (by decide), kn 16 (by decide), f 13 (by decide), e 59 (by decide), e 60 (by decide), e 61 (by decide), e 62 (by decide), e 63 (by decide), e 64 (by decide)]; exact h3
  · unfold RLg; rw [kn 10 (by decide), kn 20 (by decide), kn 21 (by decide), f 17 (by decide), f 18 (by decide), e 65 (by decide), e 66 (by decide), e 67 (by decide)]; exact h4
  · unfold RDr; rw [kn 22 (by decide), kn 23 (by decide), kn 24 (by decide), kn 25 (by decide), kn 26 (by decide), kn 27 (by decide), kn 28 (by decide), kn 29 (by decide), kn 30 (by decide), f 29 (by decide), f 30 (by decide), e 68 (by decide), e 69 (by decide), e 70 (by decide), e 71 (by decide), e 72 (by decide), e 73 (by decide), e 74 (by decide), e 75 (by decide), e 76 (by decide)]; exact h5
  · obtain ⟨a, b, c⟩ := h6
    refine ⟨by rw [f 19 (by decide), ma_self, ma_ne _ _ (by decide)]; exact a, by rw [e31, ma_self, ma_self], ?_⟩
    rw [e 77 (by decide), kn 51 (by decide)]
    exact c
  · unfold RRe; rw [kn 44 (by decide), kn 45 (by decide), f 56 (by decide), f 57 (by decide), f 58 (by decide), f 59 (by decide), f 60 (by decide), f 61 (by decide), e 93 (by decide)]; exact h7
  · unfold RRo; rw [kn 48 (by decide), kn 49 (by decide), f 64 (by decide), e 94 (by decide)]; exact h8
theorem m_X10_commit {N : Nat} {I : MI} {J : MJ} {K : MI} {L : MJ} (hX : WX K L) (hA : RA K I) (hr : RfM I) (hV : Vok I) : CT 153 [aR 52] (MM N I J) (fun r M' => ∃ a U I', r = some a ∧ M' = MM N I' J ∧ CommitR K L a U ∧ RA U I' ∧ Vn K U I I') := by
  obtain ⟨hv1, hv2, hv3, hv4, hv5, hv6⟩ := hV
  refine CT.ofV (n := 2) (ls := [some (aR 52), none]) rfl rfl rfl ?_
  refine V.blk [(0, .aload 0, 1)] (ps := []) (z' := (1, [some (aR 52), none], [aR 52], MM N I J)) (by decide +kernel) rfl trivial ?_
  refine V.cv (c := 150) (na := 1) (o := 10) (a := 52) [] [] (by decide +kernel) rfl rfl rfl rfl rfl ((m_makes hX hA hv6).mono (fun rv M1 q => ?_))
  obtain ⟨z, IM, rfl, rfl, hM, hM4, hM37, hM7, hM8⟩ := q
  have hz : z = -9 ∨ z = -8 ∨ z = -7 ∨ z = 0 := by
    rcases hM with ⟨w, -⟩ | ⟨w, -⟩ | ⟨w, -⟩ | ⟨w, -⟩ <;> omega
  have hrM : RfM IM := by
    have h77 : ∀ k, k < 8 → IM 77 (k + 2) = I 77 (k + 2) := by
      have a := hA.2.2.2.2.2.1.2.2
      rcases hM with ⟨-, -, w⟩ | ⟨-, -, -, -, w⟩ | ⟨-, -, -, -, w⟩ | ⟨-, -, -, -, w⟩
      · exact fun k hk => (w.2.2.2.2.2.1.2.2 k hk).trans (a k hk).symm
      · exact fun k hk => (w.2.2.2.2.2.1.2.2 k hk).trans (a k hk).symm
      · exact fun k hk => (w.2.2.2.2.2.1.2.2 k hk).trans (a k hk).symm
      · intro k hk
        rw [w.2.2.2.2.2.1.2.2 k hk, a k hk, (closeU_v _).1 51 (by decide) (by decide)]
        exact congrFun (runU_ne K (by omega) _) k
    intro k a b
    have := h77 (k - 2) (by omega)
    rw [show k - 2 + 2 = k by omega] at this
    rw [this]
    exact hr k a b
  show V 153 (4, [some (aR 52), none], [aI z], MM N IM J) _
  refine V.blk [(4, .istore 1, 1), (5, .iload 1, 1), (6, .bipush (-8), 2), (8, .if_icmp .ne 19, 3)] (ps := []) (z' := (brc .ne z (-8) 19 11, [some (aR 52), some (aI z)], [], MM N IM J)) (by decide +kernel) rfl trivial ?_
  refine V.ne (fun bh1 => ?_) (fun bh2 => ?_)
  · skip
    try simp only [b2_cast, b2_ncast, Classical.not_not, lcm_lt, lcm_ge, lcm_gt, lcm_le, lcm_eq, b2_0, b2_n0, Bool.not_eq_false, Bool.not_eq_true, decide_eq_true_eq, decide_eq_false_iff_not] at bh1
    refine V.blk [(19, .iload 1, 1), (20, .ifCond .eq 29, 3)] (ps := []) (z' := (brc .eq z 0 29 23, [some (aR 52), some (aI z)], [], MM N IM J)) (by decide +kernel) rfl trivial ?_
    refine V.eq (fun bh3 => ?_) (fun bh4 => ?_)
    · skip
      try simp only [b2_cast, b2_ncast, Classical.not_not, lcm_lt, lcm_ge, lcm_gt, lcm_le, lcm_eq, b2_0, b2_n0, Bool.not_eq_false, Bool.not_eq_true, decide_eq_true_eq, decide_eq_false_iff_not] at bh3
      refine V.blk [(29, .aload 0, 1), (30, .bipush 0, 1), (31, .putfield 10029, 3), (34, .aload 0, 1), (35, .bipush 0, 1), (36, .putfield 10030, 3)] (ps := []) (z' := (39, [some (aR 52), some (aI z)], [], MM N (ma (ma IM 52 (ma (IM 52) 29 0)) 52 (ma ((ma IM 52 (ma (IM 52) 29 0)) 52) 30 0)) J)) (by decide +kernel) rfl trivial ?_
      refine V.nI (fun I5 eI5 => ?_)
      have hb40 := hM4 40 (by decide) (by decide)
      refine V.blk [(39, .aload 0, 1), (40, .dup, 1), (41, .getfield 10040, 3), (44, .bipush 1, 1), (45, .iadd, 1), (46, .putfield 10040, 3)] (ps := [inR ((I5 52 40) + 1)]) (z' := (49, [some (aR 52), some (aI z)], [], MM N (ma I5 52 (ma (I5 52) 40 ((I5 52 40) + 1))) J)) (by decide +kernel) rfl (show (inR ((I5 52 40) + 1)) from (by unfold inR; first | omega | (simp [ma]; omega) | (subst_vars; simp [ma]; omega))) ?_
      refine V.nI (fun I6 eI6 => ?_)
      refine V.blk [(49, .aload 0, 1), (50, .getfield 10018, 3)] (ps := []) (z' := (53, [some (aR 52), some (aI z)], [aI (I6 52 18)], MM N I6 J)) (by decide +kernel) rfl trivial ?_
      refine V.ri (by decide +kernel) ?_
      first
        | (exfalso; omega)
        | (rcases hM with ⟨w, -⟩ | ⟨w, -⟩ | ⟨w, -⟩ | ⟨w, w1, w2, w3, w4⟩
           · exfalso; omega
           · exfalso; omega
           · exfalso; omega
           · have f0 : ∀ i, i ≠ 52 → I6 i = IM i := fun i a => by subst_vars; simp only [ma_ne, ne_eq, a, not_false_eq_true]
             have f52 : ∀ k, k ≠ 29 → k ≠ 30 → k ≠ 40 → I6 52 k = IM 52 k := fun k a b c => by subst_vars; simp only [ma_self, ma_ne, ne_eq, a, b, c, not_false_eq_true]
             have f29 : I6 52 29 = 0 := by subst_vars; simp only [ma_self, ma_ne, ne_eq, reduceCtorEq, not_false_eq_true, Nat.reduceEqDiff]
             have f30 : I6 52 30 = 0 := by subst_vars; simp only [ma_self, ma_ne, ne_eq, reduceCtorEq, not_false_eq_true, Nat.reduceEqDiff]
             have f40 : I6 52 40 = IM 52 40 + 1 := by subst_vars; simp only [ma_self, ma_ne, ne_eq, reduceCtorEq, not_false_eq_true, Nat.reduceEqDiff]
             have e18 : I6 52 18 = K 10 13 + 1 := by
               rw [f52 18 (by decide) (by decide) (by decide), w4.2.2.2.1.2.1, (closeU_v _).2.1]
               exact congrArg (· + 1) (runU_10 K (by decide) (by decide) _)
             refine ⟨_, clrU (closeU (finU K)), I6, rfl, rfl, ⟨fun x => absurd w1 x, fun _ => ⟨fun x => absurd w2 x, fun _ => ⟨fun x => absurd x w3, fun _ => ⟨?_, rfl⟩⟩⟩⟩, w4.clr f0 f29 f30 f52, ⟨Or.inl ?_, ?_, ?_, ?_, ?_, ?_, ?_⟩⟩
             · exact congrArg aI e18
             · rw [f40, hM4 40 (by decide) (by decide)]
             · rw [f52 37 (by decide) (by decide) (by decide), hM37, hv6]
             · rw [f52 41 (by decide) (by decide) (by decide)]; exact hM4 41 (by decide) (by decide)
             · rw [f52 42 (by decide) (by decide) (by decide)]; exact hM4 42 (by decide) (by decide)
             · rw [f52 43 (by decide) (by decide) (by decide)]; exact hM4 43 (by decide) (by decide)
             · rw [f0 87 (by decide)]; exact hM7
             · rw [f0 88 (by decide)]; exact hM8)
    · skip
      try simp only [b2_cast, b2_ncast, Classical.not_not, lcm_lt, lcm_ge, lcm_gt, lcm_le, lcm_eq, b2_0, b2_n0, Bool.not_eq_false, Bool.not_eq_true, decide_eq_true_eq, decide_eq_false_iff_not] at bh4
      refine V.blk [(23, .aload 0, 1), (24, .iload 1, 1)] (ps := []) (z' := (25, [some (aR 52), some (aI z)], [aI z, aR 52], MM N IM J)) (by decide +kernel) rfl trivial ?_
      refine V.cv (c := 116) (na := 2) (o := 10) (a := 52) [aI z] [] (by decide +kernel) rfl rfl rfl rfl rfl ((m_no (by assumption) (by omega)).mono (fun rv M1 q => ?_))
      obtain ⟨rfl, rfl⟩ := q
      show V 153 (28, [some (aR 52), some (aI z)], [aI z], MM N ((noU IM z)) J) _
      refine V.nI (fun I7 eI7 => ?_)
      refine V.ri (by decide +kernel) ?_
      rcases hM with ⟨w, w1, w2⟩ | ⟨w, -⟩ | ⟨w, w1, w2, w3, w4⟩ | ⟨w, -⟩
      · subst w
        refine ⟨_, rfU K (-9), _, rfl, rfl, ⟨fun _ => ⟨rfl, rfl⟩, fun x => absurd x w1⟩, ?_, ?_⟩
        · subst_vars
          exact w2.rf (by decide)
        · subst_vars
          refine ⟨Or.inr ⟨?_, sameS.rf _ _⟩, ?_, ?_, ?_, ?_, ?_, ?_⟩
          all_goals unfold noU; rw [ma_ne _ _ (by decide)]
          · exact hM4 40 (by decide) (by decide)
          · rw [hM37, hv6]
          · exact hM4 41 (by decide) (by decide)
          · exact hM4 42 (by decide) (by decide)
          · exact hM4 43 (by decide) (by decide)
          · exact hM7
          · exact hM8
      · exfalso; omega
      · subst w
        refine ⟨_, rfU K (-7), _, rfl, rfl, ⟨fun x => absurd w1 x, fun _ => ⟨fun x => absurd w2 x, fun _ => ⟨fun _ => ⟨rfl, rfl⟩, fun x => absurd w3 x⟩⟩⟩, ?_, ?_⟩
        · subst_vars
          exact w4.rf (by decide)
        · subst_vars
          refine ⟨Or.inr ⟨?_, sameS.rf _ _⟩, ?_, ?_, ?_, ?_, ?_, ?_⟩
          all_goals unfold noU; rw [ma_ne _ _ (by decide)]
          · exact hM4 40 (by decide) (by decide)
          · rw [hM37, hv6]
          · exact hM4 41 (by decide) (by decide)
          · exact hM4 42 (by decide) (by decide)
          · exact hM4 43 (by decide) (by decide)
          · exact hM7
          · exact hM8
      · exfalso; omega
  · skip
    try simp only [b2_cast, b2_ncast, Classical.not_not, lcm_lt, lcm_ge, lcm_gt, lcm_le, lcm_eq, b2_0, b2_n0, Bool.not_eq_false, Bool.not_eq_true, decide_eq_true_eq, decide_eq_false_iff_not] at bh2
    refine V.blk [(11, .aload 0, 1), (12, .aload 0, 1), (13, .getfield 10039, 3), (16, .putfield 10031, 3), (19, .iload 1, 1), (20, .ifCond .eq 29, 3)] (ps := []) (z' := (brc .eq z 0 29 23, [some (aR 52), some (aI z)], [], MM N (ma IM 52 (ma (IM 52) 31 (IM 52 39))) J)) (by decide +kernel) rfl trivial ?_
    refine V.nI (fun I8 eI8 => ?_)
    refine V.eq (fun bh9 => ?_) (fun bh10 => ?_)
    · skip
      try simp only [b2_cast, b2_ncast, Classical.not_not, lcm_lt, lcm_ge, lcm_gt, lcm_le, lcm_eq, b2_0, b2_n0, Bool.not_eq_false, Bool.not_eq_true, decide_eq_true_eq, decide_eq_false_iff_not] at bh9
      refine V.blk [(29, .aload 0, 1), (30, .bipush 0, 1), (31, .putfield 10029, 3), (34, .aload 0, 1), (35, .bipush 0, 1), (36, .putfield 10030, 3)] (ps := []) (z' := (39, [some (aR 52), some (aI z)], [], MM N (ma (ma I8 52 (ma (I8 52) 29 0)) 52 (ma ((ma I8 52 (ma (I8 52) 29 0)) 52) 30 0)) J)) (by decide +kernel) rfl trivial ?_
      refine V.nI (fun I11 eI11 => ?_)
      have hb40 := hM4 40 (by decide) (by decide)
      refine V.blk [(39, .aload 0, 1), (40, .dup, 1), (41, .getfield 10040, 3), (44, .bipush 1, 1), (45, .iadd, 1), (46, .putfield 10040, 3)] (ps := [inR ((I11 52 40) + 1)]) (z' := (49, [some (aR 52), some (aI z)], [], MM N (ma I11 52 (ma (I11 52) 40 ((I11 52 40) + 1))) J)) (by decide +kernel) rfl (show (inR ((I11 52 40) + 1)) from (by unfold inR; first | omega | (simp [ma]; omega) | (subst_vars; simp [ma]; omega))) ?_
      refine V.nI (fun I12 eI12 => ?_)
      refine V.blk [(49, .aload 0, 1), (50, .getfield 10018, 3)] (ps := []) (z' := (53, [some (aR 52), some (aI z)], [aI (I12 52 18)], MM N I12 J)) (by decide +kernel) rfl trivial ?_
      refine V.ri (by decide +kernel) ?_
      first
        | (exfalso; omega)
        | (rcases hM with ⟨w, -⟩ | ⟨w, -⟩ | ⟨w, -⟩ | ⟨w, w1, w2, w3, w4⟩
           · exfalso; omega
           · exfalso; omega
           · exfalso; omega
           · have f0 : ∀ i, i ≠ 52 → I12 i = IM i := fun i a => by subst_vars; simp only [ma_ne, ne_eq, a, not_false_eq_true]
             have f52 : ∀ k, k ≠ 29 → k ≠ 30 → k ≠ 40 → I12 52 k = IM 52 k := fun k a b c => by subst_vars; simp only [ma_self, ma_ne, ne_eq, a, b, c, not_false_eq_true]
             have f29 : I12 52 29 = 0 := by subst_vars; simp only [ma_self, ma_ne, ne_eq, reduceCtorEq, not_false_eq_true, Nat.reduceEqDiff]
             have f30 : I12 52 30 = 0 := by subst_vars; simp only [ma_self, ma_ne, ne_eq, reduceCtorEq, not_false_eq_true, Nat.reduceEqDiff]
             have f40 : I12 52 40 = IM 52 40 + 1 := by subst_vars; simp only [ma_self, ma_ne, ne_eq, reduceCtorEq, not_false_eq_true, Nat.reduceEqDiff]
             have e18 : I12 52 18 = K 10 13 + 1 := by
               rw [f52 18 (by decide) (by decide) (by decide), w4.2.2.2.1.2.1, (closeU_v _).2.1]
               exact congrArg (· + 1) (runU_10 K (by decide) (by decide) _)
             refine ⟨_, clrU (closeU (finU K)), I12, rfl, rfl, ⟨fun x => absurd w1 x, fun _ => ⟨fun x => absurd w2 x, fun _ => ⟨fun x => absurd x w3, fun _ => ⟨?_, rfl⟩⟩⟩⟩, w4.clr f0 f29 f30 f52, ⟨Or.inl ?_, ?_, ?_, ?_, ?_, ?_, ?_⟩⟩
             · exact congrArg aI e18
             · rw [f40, hM4 40 (by decide) (by decide)]
             · rw [f52 37 (by decide) (by decide) (by decide), hM37, hv6]
             · rw [f52 41 (by decide) (by decide) (by decide)]; exact hM4 41 (by decide) (by decide)
             · rw [f52 42 (by decide) (by decide) (by decide)]; exact hM4 42 (by decide) (by decide)
             · rw [f52 43 (by decide) (by decide) (by decide)]; exact hM4 43 (by decide) (by decide)
             · rw [f0 87 (by decide)]; exact hM7
             · rw [f0 88 (by decide)]; exact hM8)
    · skip
      try simp only [b2_cast, b2_ncast, Classical.not_not, lcm_lt, lcm_ge, lcm_gt, lcm_le, lcm_eq, b2_0, b2_n0, Bool.not_eq_false, Bool.not_eq_true, decide_eq_true_eq, decide_eq_false_iff_not] at bh10
      have hrM2 : RfM I8 := by unfold RfM; rw [eI8, ma_ne _ _ (by decide)]; exact hrM
      refine V.blk [(23, .aload 0, 1), (24, .iload 1, 1)] (ps := []) (z' := (25, [some (aR 52), some (aI z)], [aI z, aR 52], MM N I8 J)) (by decide +kernel) rfl trivial ?_
      refine V.cv (c := 116) (na := 2) (o := 10) (a := 52) [aI z] [] (by decide +kernel) rfl rfl rfl rfl rfl ((m_no (by assumption) (by omega)).mono (fun rv M1 q => ?_))
      obtain ⟨rfl, rfl⟩ := q
      show V 153 (28, [some (aR 52), some (aI z)], [aI z], MM N ((noU I8 z)) J) _
      refine V.nI (fun I13 eI13 => ?_)
      refine V.ri (by decide +kernel) ?_
      rcases hM with ⟨w, -⟩ | ⟨w, w1, w2, w3, w4⟩ | ⟨w, -⟩ | ⟨w, -⟩
      · exfalso; omega
      · have f0 : ∀ i, i ≠ 52 → I8 i = IM i := fun i a => by rw [eI8, ma_ne _ _ a]
        have f52 : ∀ k, k ≠ 31 → I8 52 k = IM 52 k := fun k a => by rw [eI8, ma_self, ma_ne _ _ a]
        have f31 : I8 52 31 = perfA K := by rw [eI8, ma_self, ma_self, w3]
        clear eI8
        subst w
        refine ⟨_, rfU (ma K 0 (ma (K 0) 13 (perfA K))) (-8), _, rfl, rfl, ⟨fun x => absurd w1 x, fun _ => ⟨fun _ => ⟨rfl, rfl⟩, fun x => absurd x w2⟩⟩, ?_, ?_⟩
        · subst_vars
          exact (w4.fail f0 f31 f52).rf (by decide)
        · subst_vars
          refine ⟨Or.inr ⟨?_, ⟨fun i hi => ?_, ?_⟩⟩, ?_, ?_, ?_, ?_, ?_, ?_⟩
          rotate_left
          · unfold rdC at hi
            unfold rfU
            rw [ma_ne _ _ (by omega), ma_ne _ _ (by omega)]
          · unfold rfU
            rw [ma_ne _ _ (by decide), ma_self, ma_ne _ _ (by decide)]
          all_goals (unfold noU; rw [ma_ne _ _ (by decide)]; first | rw [f52 _ (by decide)] | rw [f0 _ (by decide)])
          · rw [hM37, hv6]
          · exact hM4 41 (by decide) (by decide)
          · exact hM4 42 (by decide) (by decide)
          · exact hM4 43 (by decide) (by decide)
          · exact hM7
          · exact hM8
          · exact hM4 40 (by decide) (by decide)
      · exfalso; omega
      · exfalso; omega
/-- the first place from n on, below n + k, where b is; else -1 -/
def srF (b : Nat → Bool) : Nat → Nat → Int
  | _, 0 => -1
  | n, k + 1 => if b n = true then (n : Int) else srF b (n + 1) k
theorem srF_c (b : Nat → Bool) : ∀ (k n : Nat), (srF b n k = -1 ∧ ∀ q, n ≤ q → q < n + k → b q = false) ∨ ∃ q, n ≤ q ∧ q < n + k ∧ srF b n k = (q : Int) ∧ b q = true ∧ ∀ r, n ≤ r → r < q → b r = false
  | 0, n => Or.inl ⟨rfl, fun q a b => by omega⟩
  | k + 1, n => by
    have e : srF b n (k + 1) = if b n = true then (n : Int) else srF b (n + 1) k := rfl
    rw [e]
    by_cases hb : b n = true
    · rw [if_pos hb]
      exact Or.inr ⟨n, Nat.le_refl _, by omega, rfl, hb, fun r a c => by omega⟩
    · rw [if_neg hb]
      have hb : b n = false := by simpa using hb
      rcases srF_c b k (n + 1) with ⟨a, c⟩ | ⟨q, a1, a2, a3, a4, a5⟩
      · refine Or.inl ⟨a, fun q x y => ?_⟩
        by_cases w : q = n
        · subst w; exact hb
        · exact c q (by omega) (by omega)
      · refine Or.inr ⟨q, by omega, by omega, a3, a4, fun r x y => ?_⟩
        by_cases w : r = n
        · subst w; exact hb
        · exact a5 r (by omega) y
def sr (b : Nat → Bool) (n m : Nat) : Int := srF b n (m - n)
theorem sr_at {b : Nat → Bool} {n m : Nat} (hn : n < m) : sr b n m = if b n = true then (n : Int) else sr b (n + 1) m := by
  unfold sr
  rw [show m - n = (m - (n + 1)) + 1 by omega]
  rfl
theorem sr_end (b : Nat → Bool) (m : Nat) : sr b m m = -1 := by
  unfold sr
  rw [Nat.sub_self]
  rfl
theorem sr_c (b : Nat → Bool) {n m : Nat} (h : n ≤ m) : (sr b n m = -1 ∧ ∀ q, n ≤ q → q < m → b q = false) ∨ ∃ q, n ≤ q ∧ q < m ∧ sr b n m = (q : Int) ∧ b q = true ∧ ∀ r, n ≤ r → r < q → b r = false := by
  have := srF_c b (m - n) n
  rw [show n + (m - n) = m by omega] at this
  exact this
/-- the reference's lists of pairs that count -/
def ChR (K : MI) (cp : Nat → Bool) (n m : Nat) (I : MI) : Prop := (∀ s, s < 320 → I 87 s = sr (spB K cp s) n m) ∧ ∀ q, n ≤ q → q < m → cp q = true → I 88 q = sr (spB K cp (K 17 q).toNat) (q + 1) m
theorem m_tells {N : Nat} {I : MI} {J : MJ} {K : MI} {p : Nat} {t : Int} (hp : (p : Int) < K 10 9) (h4 : K 10 9 ≤ 400) (hP : RPr K I) (hn : I 52 19 = K 0 11) : CT 161 [aR 52, aI (p : Int), aI t] (MM N I J) (pure1 N I J (aI (b2 (cnB K t (K 0 11) (I 52 43) p)))) := by
  obtain ⟨g1, g2, g3, g4, g5, g6⟩ := hP.2 p hp
  refine CT.ofV (n := 3) (ls := [some (aR 52), some (aI (p : Int)), some (aI t)]) rfl rfl rfl ?_
  refine V.blk [(0, .iload 1, 1), (1, .aload 0, 1), (2, .getfield 10043, 3), (5, .if_icmp .eq 43, 3)] (ps := []) (z' := (brc .eq (p : Int) (I 52 43) 43 8, [some (aR 52), some (aI (p : Int)), some (aI t)], [], MM N I J)) (by decide +kernel) rfl trivial ?_
  refine V.eq (fun bh1 => ?_) (fun bh2 => ?_)
  · skip
    try simp only [b2_cast, b2_ncast, Classical.not_not, lcm_lt, lcm_ge, lcm_gt, lcm_le, lcm_eq, b2_0, b2_n0, Bool.not_eq_false, Bool.not_eq_true, decide_eq_true_eq, decide_eq_false_iff_not] at bh1
    refine V.blk [(43, .bipush 0, 1)] (ps := []) (z' := (44, [some (aR 52), some (aI (p : Int)), some (aI t)], [aI 0], MM N I J)) (by decide +kernel) rfl trivial ?_
    refine V.rz (by decide +kernel) (by first | exact b2_in _ | omega) ?_
    refine ⟨congrArg (fun w => some (aI w)) ?_, rfl⟩
    have e : cnB K t (K 0 11) (I 52 43) p = false := by
      unfold cnB
      exact decide_eq_false (by omega)
    rw [e]
    rfl
  · skip
    try simp only [b2_cast, b2_ncast, Classical.not_not, lcm_lt, lcm_ge, lcm_gt, lcm_le, lcm_eq, b2_0, b2_n0, Bool.not_eq_false, Bool.not_eq_true, decide_eq_true_eq, decide_eq_false_iff_not] at bh2
    refine V.blk [(8, .aload 0, 1), (9, .iload 1, 1), (10, .iload 2, 1)] (ps := []) (z' := (11, [some (aR 52), some (aI (p : Int)), some (aI t)], [aI t, aI (p : Int), aR 52], MM N I J)) (by decide +kernel) rfl trivial ?_
    refine V.cv (c := 148) (na := 3) (o := 10) (a := 52) [aI t, aI (p : Int)] [] (by decide +kernel) rfl rfl rfl rfl rfl (V.pr (m_X10_isInForce (by omega)) ?_)
    show V 161 (14, [some (aR 52), some (aI (p : Int)), some (aI t)], [aI (b2 (decide (I 63 p ≤ t ∧ (I 64 p = -1 ∨ t < I 64 p))))], MM N I J) _
    refine V.blk [(14, .ifCond .eq 43, 3)] (ps := []) (z' := (brc .eq (b2 (decide (I 63 p ≤ t ∧ (I 64 p = -1 ∨ t < I 64 p)))) 0 43 17, [some (aR 52), some (aI (p : Int)), some (aI t)], [], MM N I J)) (by decide +kernel) rfl trivial ?_
    refine V.eq (fun bh3 => ?_) (fun bh4 => ?_)
    · skip
      try simp only [b2_cast, b2_ncast, Classical.not_not, lcm_lt, lcm_ge, lcm_gt, lcm_le, lcm_eq, b2_0, b2_n0, Bool.not_eq_false, Bool.not_eq_true, decide_eq_true_eq, decide_eq_false_iff_not] at bh3
      refine V.blk [(43, .bipush 0, 1)] (ps := []) (z' := (44, [some (aR 52), some (aI (p : Int)), some (aI t)], [aI 0], MM N I J)) (by decide +kernel) rfl trivial ?_
      refine V.rz (by decide +kernel) (by first | exact b2_in _ | omega) ?_
      refine ⟨congrArg (fun w => some (aI w)) ?_, rfl⟩
      have e : cnB K t (K 0 11) (I 52 43) p = false := by
        unfold cnB
        exact decide_eq_false (by omega)
      rw [e]
      rfl
    · skip
      try simp only [b2_cast, b2_ncast, Classical.not_not, lcm_lt, lcm_ge, lcm_gt, lcm_le, lcm_eq, b2_0, b2_n0, Bool.not_eq_false, Bool.not_eq_true, decide_eq_true_eq, decide_eq_false_iff_not] at bh4
      refine V.blk [(17, .aload 0, 1), (18, .getfield 10010, 3), (21, .iload 1, 1), (22, .iaload, 1), (23, .ifCond .eq 39, 3)] (ps := [0 ≤ (p : Int) ∧ (p : Int) < 420]) (z' := (brc .eq (I 62 p) 0 39 26, [some (aR 52), some (aI (p : Int)), some (aI t)], [], MM N I J)) (by decide +kernel) rfl (show (0 ≤ (p : Int) ∧ (p : Int) < 420) from (by omega)) ?_
      refine V.eq (fun bh5 => ?_) (fun bh6 => ?_)
      · skip
        try simp only [b2_cast, b2_ncast, Classical.not_not, lcm_lt, lcm_ge, lcm_gt, lcm_le, lcm_eq, b2_0, b2_n0, Bool.not_eq_false, Bool.not_eq_true, decide_eq_true_eq, decide_eq_false_iff_not] at bh5
        refine V.blk [(39, .bipush 1, 1), (40, .goto 44, 3)] (ps := []) (z' := (44, [some (aR 52), some (aI (p : Int)), some (aI t)], [aI 1], MM N I J)) (by decide +kernel) rfl trivial ?_
        refine V.rz (by decide +kernel) (by first | exact b2_in _ | omega) ?_
        refine ⟨congrArg (fun w => some (aI w)) ?_, rfl⟩
        have e : cnB K t (K 0 11) (I 52 43) p = true := by
          unfold cnB
          exact decide_eq_true (by omega)
        rw [e]
        rfl
      · skip
        try simp only [b2_cast, b2_ncast, Classical.not_not, lcm_lt, lcm_ge, lcm_gt, lcm_le, lcm_eq, b2_0, b2_n0, Bool.not_eq_false, Bool.not_eq_true, decide_eq_true_eq, decide_eq_false_iff_not] at bh6
        refine V.blk [(26, .aload 0, 1), (27, .getfield 10010, 3), (30, .iload 1, 1), (31, .iaload, 1), (32, .aload 0, 1), (33, .getfield 10019, 3), (36, .if_icmp .le 43, 3)] (ps := [0 ≤ (p : Int) ∧ (p : Int) < 420]) (z' := (brc .le (I 62 p) (I 52 19) 43 39, [some (aR 52), some (aI (p : Int)), some (aI t)], [], MM N I J)) (by decide +kernel) rfl (show (0 ≤ (p : Int) ∧ (p : Int) < 420) from (by omega)) ?_
        refine V.le (fun bh7 => ?_) (fun bh8 => ?_)
        · skip
          try simp only [b2_cast, b2_ncast, Classical.not_not, lcm_lt, lcm_ge, lcm_gt, lcm_le, lcm_eq, b2_0, b2_n0, Bool.not_eq_false, Bool.not_eq_true, decide_eq_true_eq, decide_eq_false_iff_not] at bh7
          refine V.blk [(43, .bipush 0, 1)] (ps := []) (z' := (44, [some (aR 52), some (aI (p : Int)), some (aI t)], [aI 0], MM N I J)) (by decide +kernel) rfl trivial ?_
          refine V.rz (by decide +kernel) (by first | exact b2_in _ | omega) ?_
          refine ⟨congrArg (fun w => some (aI w)) ?_, rfl⟩
          have e : cnB K t (K 0 11) (I 52 43) p = false := by
            unfold cnB
            exact decide_eq_false (by omega)
          rw [e]
          rfl
        · skip
          try simp only [b2_cast, b2_ncast, Classical.not_not, lcm_lt, lcm_ge, lcm_gt, lcm_le, lcm_eq, b2_0, b2_n0, Bool.not_eq_false, Bool.not_eq_true, decide_eq_true_eq, decide_eq_false_iff_not] at bh8
          refine V.blk [(39, .bipush 1, 1), (40, .goto 44, 3)] (ps := []) (z' := (44, [some (aR 52), some (aI (p : Int)), some (aI t)], [aI 1], MM N I J)) (by decide +kernel) rfl trivial ?_
          refine V.rz (by decide +kernel) (by first | exact b2_in _ | omega) ?_
          refine ⟨congrArg (fun w => some (aI w)) ?_, rfl⟩
          have e : cnB K t (K 0 11) (I 52 43) p = true := by
            unfold cnB
            exact decide_eq_true (by omega)
          rw [e]
          rfl
theorem l_chain {N : Nat} {I : MI} {J : MJ} {K : MI} {m : Nat} {t : Int} (hm : K 10 9 = m) (h4 : m ≤ 400) (hP : RPr K I) (hn : I 52 19 = K 0 11) (hW : ∀ p : Nat, (p : Int) < K 10 9 → WPr K p) (h40 : K 1 1 ≤ 40) : ∀ (n : Nat) (I' : MI) (w : Option AV), n ≤ m → (∀ i, i ≠ 87 → i ≠ 88 → I' i = I i) → ChR K (cnB K t (K 0 11) (I 52 43)) n m I' → V 162 (29, [some (aR 52), some (aI t), some (aI ((n : Int) - 1)), w], [], MM N I' J) (fun r M' => r = none ∧ ∃ I', M' = MM N I' J ∧ (∀ i, i ≠ 87 → i ≠ 88 → I' i = I i) ∧ ChR K (cnB K t (K 0 11) (I 52 43)) 0 m I') := by
  intro n
  induction n with
  | zero =>
    intro I' w h2 ho hC
    refine V.blk [(29, .iload 2, 1), (30, .ifCond .lt 87, 3)] (ps := []) (z' := (brc .lt (((0 : Nat) : Int) - 1) 0 87 33, [some (aR 52), some (aI t), some (aI (((0 : Nat) : Int) - 1)), w], [], MM N I' J)) (by decide +kernel) rfl trivial ?_
    refine V.lt (fun bh1 => ?_) (fun bh2 => ?_)
    · skip
      refine V.rv (by decide +kernel) ?_
      exact ⟨rfl, I', rfl, ho, hC⟩
    · skip
      exfalso
      omega
  | succ p ih =>
    intro I' w h2 ho hC
    have hP2 : RPr K I' := by
      unfold RPr
      rw [ho 52 (by decide) (by decide), ho 59 (by decide) (by decide), ho 60 (by decide) (by decide), ho 61 (by decide) (by decide), ho 62 (by decide) (by decide), ho 63 (by decide) (by decide), ho 64 (by decide) (by decide)]
      exact hP
    have hn2 : I' 52 19 = K 0 11 := by rw [ho 52 (by decide) (by decide)]; exact hn
    have h43 : I' 52 43 = I 52 43 := by rw [ho 52 (by decide) (by decide)]
    obtain ⟨g1, g2, g3, g4, g5, g6⟩ := hP2.2 p (by omega)
    obtain ⟨w1, w2, w3, w4, w5, w6, w7, w8, w9, w10⟩ := hW p (by omega)
    have e17 : (8 * I' 59 p + I' 60 p).toNat = (K 17 p).toNat := by rw [g1, g2, w8]; omega
    rw [show (((p + 1 : Nat) : Int) - 1) = (p : Int) by omega]
    refine V.blk [(29, .iload 2, 1), (30, .ifCond .lt 87, 3)] (ps := []) (z' := (brc .lt (p : Int) 0 87 33, [some (aR 52), some (aI t), some (aI (p : Int)), w], [], MM N I' J)) (by decide +kernel) rfl trivial ?_
    refine V.lt (fun bh1 => ?_) (fun bh2 => ?_)
    · skip
      exfalso
      omega
    · skip
      try simp only [b2_cast, b2_ncast, Classical.not_not, lcm_lt, lcm_ge, lcm_gt, lcm_le, lcm_eq, b2_0, b2_n0, Bool.not_eq_false, Bool.not_eq_true, decide_eq_true_eq, decide_eq_false_iff_not] at bh2
      refine V.blk [(33, .aload 0, 1), (34, .iload 2, 1), (35, .iload 1, 1)] (ps := []) (z' := (36, [some (aR 52), some (aI t), some (aI (p : Int)), w], [aI t, aI (p : Int), aR 52], MM N I' J)) (by decide +kernel) rfl trivial ?_
      refine V.cv (c := 161) (na := 3) (o := 10) (a := 52) [aI t, aI (p : Int)] [] (by decide +kernel) rfl rfl rfl rfl rfl (V.pr (m_tells (by omega) (by omega) hP2 hn2) ?_)
      show V 162 (39, [some (aR 52), some (aI t), some (aI (p : Int)), w], [aI (b2 (cnB K t (K 0 11) (I' 52 43) p))], MM N I' J) _
      refine V.blk [(39, .ifCond .ne 45, 3)] (ps := []) (z' := (brc .ne (b2 (cnB K t (K 0 11) (I' 52 43) p)) 0 45 42, [some (aR 52), some (aI t), some (aI (p : Int)), w], [], MM N I' J)) (by decide +kernel) rfl trivial ?_
      refine V.ne (fun bh3 => ?_) (fun bh4 => ?_)
      · skip
        try simp only [b2_cast, b2_ncast, Classical.not_not, lcm_lt, lcm_ge, lcm_gt, lcm_le, lcm_eq, b2_0, b2_n0, Bool.not_eq_false, Bool.not_eq_true, decide_eq_true_eq, decide_eq_false_iff_not] at bh3
        refine V.blk [(45, .bipush 8, 2), (47, .aload 0, 1), (48, .getfield 10007, 3), (51, .iload 2, 1), (52, .iaload, 1), (53, .imul, 1), (54, .aload 0, 1), (55, .getfield 10008, 3), (58, .iload 2, 1), (59, .iaload, 1), (60, .iadd, 1), (61, .istore 3, 1), (62, .aload 0, 1), (63, .getfield 10049, 3), (66, .iload 2, 1), (67, .aload 0, 1), (68, .getfield 10048, 3), (71, .iload 3, 1), (72, .iaload, 1), (73, .iastore, 1), (74, .aload 0, 1), (75, .getfield 10048, 3), (78, .iload 3, 1), (79, .iload 2, 1), (80, .iastore, 1), (81, .iinc 2 (-1), 3), (84, .goto 29, 3)] (ps := [0 ≤ (p : Int) ∧ (p : Int) < 420, inR (8 * (I' 59 p)), 0 ≤ (p : Int) ∧ (p : Int) < 420, inR ((8 * (I' 59 p)) + (I' 60 p)), 0 ≤ ((8 * (I' 59 p)) + (I' 60 p)) ∧ ((8 * (I' 59 p)) + (I' 60 p)) < 320, 0 ≤ (p : Int) ∧ (p : Int) < 420, 0 ≤ ((8 * (I' 59 p)) + (I' 60 p)) ∧ ((8 * (I' 59 p)) + (I' 60 p)) < 320, inR ((p : Int) + (-1))]) (z' := (29, [some (aR 52), some (aI t), some (aI ((p : Int) + (-1))), some (aI ((8 * (I' 59 p)) + (I' 60 p)))], [], MM N (ma (ma I' 88 (ma (I' 88) p (I' 87 (((8 * (I' 59 p)) + (I' 60 p)).toNat)))) 87 (ma ((ma I' 88 (ma (I' 88) p (I' 87 (((8 * (I' 59 p)) + (I' 60 p)).toNat)))) 87) (((8 * (I' 59 p)) + (I' 60 p)).toNat) (p : Int))) J)) (by decide +kernel) rfl (show (0 ≤ (p : Int) ∧ (p : Int) < 420) ∧ (inR (8 * (I' 59 p))) ∧ (0 ≤ (p : Int) ∧ (p : Int) < 420) ∧ (inR ((8 * (I' 59 p)) + (I' 60 p))) ∧ (0 ≤ ((8 * (I' 59 p)) + (I' 60 p)) ∧ ((8 * (I' 59 p)) + (I' 60 p)) < 320) ∧ (0 ≤ (p : Int) ∧ (p : Int) < 420) ∧ (0 ≤ ((8 * (I' 59 p)) + (I' 60 p)) ∧ ((8 * (I' 59 p)) + (I' 60 p)) < 320) ∧ (inR ((p : Int) + (-1))) from ⟨(by first | omega | (simp [ma]; omega)), (by unfold inR; first | omega | (simp [ma]; omega)), (by first | omega | (simp [ma]; omega)), (by unfold inR; first | omega | (simp [ma]; omega)), (by first | omega | (simp [ma]; omega)), (by first | omega | (simp [ma]; omega)), (by first | omega | (simp [ma]; omega)), (by unfold inR; first | omega | (simp [ma]; omega))⟩) ?_
        refine V.nI (fun I5 eI5 => ?_)
        rw [show ((p : Int) + (-1)) = (p : Int) - 1 by omega]
        have hcf : cnB K t (K 0 11) (I 52 43) p = true := by rw [← h43]; simp_all
        have hs320 : (K 17 p).toNat < 320 := by omega
        have hsp : spB K (cnB K t (K 0 11) (I 52 43)) (K 17 p).toNat p = true := spB_t.mpr ⟨hcf, by omega⟩
        refine ih I5 _ (by omega) (fun i a b => by subst_vars; simp only [ma_ne, ne_eq, a, b, not_false_eq_true]; exact ho i a b) ⟨fun s hs => ?_, fun q a b c => ?_⟩
        · subst_vars
          simp only [ma_self, ma_ne, ne_eq, reduceCtorEq, not_false_eq_true, Nat.reduceEqDiff, e17]
          rw [sr_at (show p < m by omega)]
          by_cases e : s = (K 17 p).toNat
          · subst e
            rw [ma_self, if_pos hsp]
          · rw [ma_ne _ _ e, hC.1 s hs, if_neg]
            intro x
            have := (spB_t.mp x).2
            omega
        · subst_vars
          simp only [ma_self, ma_ne, ne_eq, reduceCtorEq, not_false_eq_true, Nat.reduceEqDiff, e17]
          by_cases e : q = p
          · subst e
            rw [ma_self]
            exact hC.1 _ hs320
          · rw [ma_ne _ _ e]
            exact hC.2 q (by omega) b c
      · skip
        try simp only [b2_cast, b2_ncast, Classical.not_not, lcm_lt, lcm_ge, lcm_gt, lcm_le, lcm_eq, b2_0, b2_n0, Bool.not_eq_false, Bool.not_eq_true, decide_eq_true_eq, decide_eq_false_iff_not] at bh4
        refine V.blk [(42, .goto 81, 3), (81, .iinc 2 (-1), 3), (84, .goto 29, 3)] (ps := [inR ((p : Int) + (-1))]) (z' := (29, [some (aR 52), some (aI t), some (aI ((p : Int) + (-1))), w], [], MM N I' J)) (by decide +kernel) rfl (show (inR ((p : Int) + (-1))) from (by unfold inR; first | omega | (simp [ma]; omega))) ?_
        rw [show ((p : Int) + (-1)) = (p : Int) - 1 by omega]
        have hcf : cnB K t (K 0 11) (I 52 43) p = false := by rw [← h43]; simp_all
        refine ih I' _ (by omega) ho ⟨fun s hs => ?_, fun q a b c => ?_⟩
        · rw [hC.1 s hs, sr_at (show p < m by omega), if_neg (by unfold spB; rw [hcf]; simp)]
        · by_cases e : q = p
          · subst e; rw [hcf] at c; cases c
          · exact hC.2 q (by omega) b c
theorem l_chain0 {N : Nat} {I : MI} {J : MJ} {K : MI} {m : Nat} {t : Int} (hm : K 10 9 = m) (h4 : m ≤ 400) (hP : RPr K I) (hn : I 52 19 = K 0 11) (hW : ∀ p : Nat, (p : Int) < K 10 9 → WPr K p) (h40 : K 1 1 ≤ 40) : ∀ (k s : Nat) (I' : MI), 321 ≤ k + s → s ≤ 320 → (∀ i, i ≠ 87 → i ≠ 88 → I' i = I i) → (∀ q, q < s → I' 87 q = -1) → V 162 (2, [some (aR 52), some (aI t), some (aI (s : Int)), none], [], MM N I' J) (fun r M' => r = none ∧ ∃ I', M' = MM N I' J ∧ (∀ i, i ≠ 87 → i ≠ 88 → I' i = I i) ∧ ChR K (cnB K t (K 0 11) (I 52 43)) 0 m I') := by
  intro k
  induction k with
  | zero => intro s I' h1 h2; exfalso; omega
  | succ k ih =>
    intro s I' h1 h2 ho hz
    have h13 : I' 52 13 = m := by rw [ho 52 (by decide) (by decide)]; exact hP.1.trans hm
    refine V.blk [(2, .iload 2, 1), (3, .bipush 320, 3), (6, .if_icmp .ge 22, 3)] (ps := []) (z' := (brc .ge (s : Int) 320 22 9, [some (aR 52), some (aI t), some (aI (s : Int)), none], [], MM N I' J)) (by decide +kernel) rfl trivial ?_
    refine V.ge (fun bh1 => ?_) (fun bh2 => ?_)
    · skip
      refine V.blk [(22, .aload 0, 1), (23, .getfield 10013, 3), (26, .bipush 1, 1), (27, .isub, 1), (28, .istore 2, 1)] (ps := [inR ((I' 52 13) - 1)]) (z' := (29, [some (aR 52), some (aI t), some (aI ((I' 52 13) - 1)), none], [], MM N I' J)) (by decide +kernel) rfl (show (inR ((I' 52 13) - 1)) from (by unfold inR; omega)) ?_
      rw [h13]
      exact l_chain hm h4 hP hn hW h40 m I' _ (Nat.le_refl _) ho ⟨fun q hq => by rw [hz q (by omega), sr_end], fun q a b => by omega⟩
    · skip
      refine V.blk [(9, .aload 0, 1), (10, .getfield 10048, 3), (13, .iload 2, 1), (14, .bipush (-1), 1), (15, .iastore, 1), (16, .iinc 2 1, 3), (19, .goto 2, 3)] (ps := [0 ≤ (s : Int) ∧ (s : Int) < 320, inR ((s : Int) + 1)]) (z' := (2, [some (aR 52), some (aI t), some (aI ((s + 1 : Nat) : Int)), none], [], MM N (ma I' 87 (ma (I' 87) s (-1))) J)) (by decide +kernel) rfl (show (0 ≤ (s : Int) ∧ (s : Int) < 320) ∧ (inR ((s : Int) + 1)) from ⟨(by omega), (by unfold inR; omega)⟩) ?_
      refine V.nI (fun I3 eI3 => ?_)
      refine ih (s + 1) I3 (by omega) (by omega) (fun i a b => by rw [eI3, ma_ne _ _ a]; exact ho i a b) (fun q hq => ?_)
      rw [eI3, ma_self]
      by_cases c : q = s
      · subst c; rw [ma_self]
      · rw [ma_ne _ _ c]; exact hz q (by omega)
theorem m_chain {N : Nat} {I : MI} {J : MJ} {K : MI} {m : Nat} {t : Int} (hm : K 10 9 = m) (h4 : m ≤ 400) (hP : RPr K I) (hn : I 52 19 = K 0 11) (hW : ∀ p : Nat, (p : Int) < K 10 9 → WPr K p) (h40 : K 1 1 ≤ 40) : CT 162 [aR 52, aI t] (MM N I J) (fun r M' => r = none ∧ ∃ I', M' = MM N I' J ∧ (∀ i, i ≠ 87 → i ≠ 88 → I' i = I i) ∧ ChR K (cnB K t (K 0 11) (I 52 43)) 0 m I') := by
  refine CT.ofV (n := 4) (ls := [some (aR 52), some (aI t), none, none]) rfl rfl rfl ?_
  refine V.blk [(0, .bipush 0, 1), (1, .istore 2, 1)] (ps := []) (z' := (2, [some (aR 52), some (aI t), some (aI 0), none], [], MM N I J)) (by decide +kernel) rfl trivial ?_
  exact l_chain0 hm h4 hP hn hW h40 321 0 I (by omega) (by omega) (fun _ _ _ => rfl) (fun q hq => by omega)
