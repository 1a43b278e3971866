/-! ===== the reference: list, differ, without ===== -/
theorem RA.row {K U I I' : MI} (h : RA K I) (kn : ∀ i, i ≠ 48 → i ≠ 49 → U i = K i) (im : ∀ i, i ≠ 52 → i ≠ 94 → I' i = I i) (f : ∀ k, k ≠ 64 → I' 52 k = I 52 k) (hr : RRo U I') : RA U I' := by
  obtain ⟨h1, h2, h3, h4, h5, h6, h7, h8⟩ := h
  refine ⟨?_, ?_, ?_, ?_, ?_, ?_, ?_, hr⟩
  · unfold RTh; rw [kn 1 (by decide) (by decide), kn 2 (by decide) (by decide), f 1 (by decide), im 53 (by decide) (by decide)]; exact h1
  · unfold RRu; rw [kn 4 (by decide) (by decide), kn 5 (by decide) (by decide), kn 6 (by decide) (by decide), kn 7 (by decide) (by decide), im 54 (by decide) (by decide), im 55 (by decide) (by decide), im 56 (by decide) (by decide), im 57 (by decide) (by decide), im 58 (by decide) (by decide)]; exact h2
  · unfold RPr; rw [kn 10 (by decide) (by decide), kn 11 (by decide) (by decide), kn 12 (by decide) (by decide), kn 13 (by decide) (by decide), kn 14 (by decide) (by decide), kn 15 (by decide) (by decide), kn 16 (by decide) (by decide), f 13 (by decide), im 59 (by decide) (by decide), im 60 (by decide) (by decide), im 61 (by decide) (by decide), im 62 (by decide) (by decide), im 63 (by decide) (by decide), im 64 (by decide) (by decide)]; exact h3
  · unfold RLg; rw [kn 10 (by decide) (by decide), kn 20 (by decide) (by decide), kn 21 (by decide) (by decide), f 17 (by decide), f 18 (by decide), im 65 (by decide) (by decide), im 66 (by decide) (by decide), im 67 (by decide) (by decide)]; exact h4
  · unfold RDr; rw [kn 22 (by decide) (by decide), kn 23 (by decide) (by decide), kn 24 (by decide) (by decide), kn 25 (by decide) (by decide), kn 26 (by decide) (by decide), kn 27 (by decide) (by decide), kn 28 (by decide) (by decide), kn 29 (by decide) (by decide), kn 30 (by decide) (by decide), f 29 (by decide), f 30 (by decide), im 68 (by decide) (by decide), im 69 (by decide) (by decide), im 70 (by decide) (by decide), im 71 (by decide) (by decide), im 72 (by decide) (by decide), im 73 (by decide) (by decide), im 74 (by decide) (by decide), im 75 (by decide) (by decide), im 76 (by decide) (by decide)]; exact h5
  · unfold RSc; rw [kn 0 (by decide) (by decide), kn 51 (by decide) (by decide), f 19 (by decide), f 31 (by decide), im 77 (by decide) (by decide)]; exact h6
  · unfold RRe; rw [kn 44 (by decide) (by decide), kn 45 (by decide) (by decide), f 56 (by decide), f 57 (by decide), f 58 (by decide), f 59 (by decide), f 60 (by decide), f 61 (by decide), im 93 (by decide) (by decide)]; exact h7
theorem RRo.app {U I I' : MI} {x : Int} (h : RRo U I) (h0 : 0 ≤ U 48 1) (e1 : I' 52 64 = I 52 64 + 1) (e2 : I' 94 = ma (I 94) (I 52 64).toNat x) : RRo (appU U x) I' := by
  obtain ⟨a, b⟩ := h
  refine ⟨by rw [appU_m, e1, a], fun i hi => ?_⟩
  rw [appU_m] at hi
  have e49 : appU U x 49 = ma (U 49) (U 48 1).toNat x := by
    unfold appU
    rw [ma_ne _ _ (by decide), ma_self]
  rw [e49, e2, a]
  by_cases c : i = (U 48 1).toNat
  · rw [c, ma_self, ma_self]
  · rw [ma_ne _ _ c, ma_ne _ _ c]
    exact b i (by omega)
theorem l_mlist {N : Nat} {I : MI} {J : MJ} {K : MI} {kd rl pe t : Int} (hT : RTh K I) (h40 : 0 ≤ K 1 1 ∧ K 1 1 ≤ 40) (hrl : 0 ≤ rl ∧ rl < 8) (hpe : 0 ≤ pe ∧ pe < 40) : ∀ (k x : Nat) (I' : MI), 42 ≤ k + x → (x : Int) ≤ K 1 1 → (∀ i, i ≠ 52 → i ≠ 94 → I' i = I i) → (∀ k, k ≠ 64 → I' 52 k = I 52 k) → RRo (lsF K (vw (J 83)) kd rl.toNat pe.toNat x) I' → V 192 (33, [some (aR 52), some (aI kd), some (aI rl), some (aI pe), some (aI t), some (aI (x : Int))], [], MM N I' J) (fun r M' => ∃ I', r = some (aI (lsF K (vw (J 83)) kd rl.toNat pe.toNat (K 1 1).toNat 48 1)) ∧ M' = MM N I' J ∧ (∀ i, i ≠ 52 → i ≠ 94 → I' i = I i) ∧ (∀ k, k ≠ 64 → I' 52 k = I 52 k) ∧ RRo (lsF K (vw (J 83)) kd rl.toNat pe.toNat (K 1 1).toNat) I') := by
  intro k
  induction k with
  | zero => intro x I' h1 h2; exfalso; omega
  | succ k ih =>
    intro x I' h1 h2 hi hf hR
    have e1 : I' 52 1 = K 1 1 := (hf 1 (by decide)).trans hT.1
    have lm := lsF_m (I := K) (v := vw (J 83)) (kd := kd) (rl := rl.toNat) (pe := pe.toNat) x
    have em : I' 52 64 = lsF K (vw (J 83)) kd rl.toNat pe.toNat x 48 1 := hR.1
    refine V.blk [(33, .iload 5, 2), (35, .aload 0, 1), (36, .getfield 10001, 3), (39, .if_icmp .ge 104, 3)] (ps := []) (z' := (brc .ge (x : Int) (I' 52 1) 104 42, [some (aR 52), some (aI kd), some (aI rl), some (aI pe), some (aI t), some (aI (x : Int))], [], MM N I' J)) (by decide +kernel) rfl trivial ?_
    refine V.ge (fun bh1 => ?_) (fun bh2 => ?_)
    · skip
      try simp only [b2_cast, b2_ncast, Classical.not_not, lcm_lt, lcm_ge, lcm_gt, lcm_le, lcm_eq, b2_0, b2_n0, Bool.not_eq_false, Bool.not_eq_true, decide_eq_true_eq, decide_eq_false_iff_not] at bh1
      refine V.blk [(104, .aload 0, 1), (105, .getfield 10064, 3)] (ps := []) (z' := (108, [some (aR 52), some (aI kd), some (aI rl), some (aI pe), some (aI t), some (aI (x : Int))], [aI (I' 52 64)], MM N I' J)) (by decide +kernel) rfl trivial ?_
      refine V.ri (by decide +kernel) ?_
      have ex : x = (K 1 1).toNat := by omega
      subst ex
      exact ⟨I', congrArg (fun z => some (aI z)) em, rfl, hi, hf, hR⟩
    · skip
      try simp only [b2_cast, b2_ncast, Classical.not_not, lcm_lt, lcm_ge, lcm_gt, lcm_le, lcm_eq, b2_0, b2_n0, Bool.not_eq_false, Bool.not_eq_true, decide_eq_true_eq, decide_eq_false_iff_not] at bh2
      have hxl : (x : Int) < K 1 1 := by omega
      have e53 : I' 53 x = K 2 x := by rw [hi 53 (by decide) (by decide)]; exact hT.2 x hxl
      have eix : (((8 * x : Nat) : Int) + rl).toNat = x * 8 + rl.toNat := by omega
      have hbit := shrl_0 (J 83 (x * 8 + rl.toNat)) (k := pe.toNat) (by omega)
      rw [show ((pe.toNat : Nat) : Int) = pe by omega] at hbit
      have hvw : vw (J 83) (x * 8 + rl.toNat) = J 83 (x * 8 + rl.toNat) := vw_lt (by omega)
      refine V.blk [(42, .aload 0, 1), (43, .getfield 10000, 3), (46, .iload 5, 2), (48, .iaload, 1), (49, .iload 1, 1), (50, .if_icmp .ne 98, 3)] (ps := [0 ≤ (x : Int) ∧ (x : Int) < 40]) (z' := (brc .ne (I' 53 x) kd 98 53, [some (aR 52), some (aI kd), some (aI rl), some (aI pe), some (aI t), some (aI (x : Int))], [], MM N I' J)) (by decide +kernel) rfl (show (0 ≤ (x : Int) ∧ (x : Int) < 40) from (by first | omega | (simp only [ma_ne _ _ (show (52 : Nat) ≠ 94 by decide)]; omega))) ?_
      refine V.ne (fun bh3 => ?_) (fun bh4 => ?_)
      · skip
        try simp only [b2_cast, b2_ncast, Classical.not_not, lcm_lt, lcm_ge, lcm_gt, lcm_le, lcm_eq, b2_0, b2_n0, Bool.not_eq_false, Bool.not_eq_true, decide_eq_true_eq, decide_eq_false_iff_not] at bh3
        refine V.blk [(98, .iinc 5 1, 3), (101, .goto 33, 3)] (ps := [inR ((x : Int) + 1)]) (z' := (33, [some (aR 52), some (aI kd), some (aI rl), some (aI pe), some (aI t), some (aI ((x + 1 : Nat) : Int))], [], MM N I' J)) (by decide +kernel) rfl (show (inR ((x : Int) + 1)) from (by unfold inR; first | omega | (simp only [ma_ne _ _ (show (52 : Nat) ≠ 94 by decide)]; omega))) ?_
        have hn : ¬ hasB K (vw (J 83)) kd rl.toNat pe.toNat x = true := by
          rw [hasB_t]
          rintro ⟨w1, w2⟩
          first
            | omega
            | (rw [hvw] at w2
               have hb := hbit.mp (by rw [← eix]; assumption)
               rw [hb] at w2
               exact absurd w2 (by decide))
        refine ih (x + 1) I' (by omega) (by omega) hi hf ?_
        rw [lsF, if_neg hn]
        exact hR
      · skip
        try simp only [b2_cast, b2_ncast, Classical.not_not, lcm_lt, lcm_ge, lcm_gt, lcm_le, lcm_eq, b2_0, b2_n0, Bool.not_eq_false, Bool.not_eq_true, decide_eq_true_eq, decide_eq_false_iff_not] at bh4
        refine V.blk [(53, .aload 0, 1), (54, .getfield 10044, 3), (57, .bipush 8, 2), (59, .iload 5, 2), (61, .imul, 1), (62, .iload 2, 1), (63, .iadd, 1), (64, .laload, 1), (65, .iload 3, 1), (66, .lshr, 1), (67, .jsr_w 1, 1), (68, .land, 1), (69, .jsr_w 0, 1), (70, .lcmp, 1), (71, .ifCond .ne 77, 3)] (ps := [inR (8 * (x : Int)), inR (((8 * x : Nat) : Int) + rl), 0 ≤ (((8 * x : Nat) : Int) + rl) ∧ (((8 * x : Nat) : Int) + rl) < 320, 0 ≤ pe ∧ pe < 64]) (z' := (brc .ne (lcm ((shrl (J 83 ((((8 * x : Nat) : Int) + rl).toNat)) pe) &&& (Int64.ofInt 1)) (Int64.ofInt 0)) 0 77 74, [some (aR 52), some (aI kd), some (aI rl), some (aI pe), some (aI t), some (aI (x : Int))], [], MM N I' J)) (by decide +kernel) rfl (show (inR (8 * (x : Int))) ∧ (inR (((8 * x : Nat) : Int) + rl)) ∧ (0 ≤ (((8 * x : Nat) : Int) + rl) ∧ (((8 * x : Nat) : Int) + rl) < 320) ∧ (0 ≤ pe ∧ pe < 64) from ⟨(by unfold inR; first | omega | (simp only [ma_ne _ _ (show (52 : Nat) ≠ 94 by decide)]; omega)), (by unfold inR; first | omega | (simp only [ma_ne _ _ (show (52 : Nat) ≠ 94 by decide)]; omega)), (by first | omega | (simp only [ma_ne _ _ (show (52 : Nat) ≠ 94 by decide)]; omega)), (by first | omega | (simp only [ma_ne _ _ (show (52 : Nat) ≠ 94 by decide)]; omega))⟩) ?_
        refine V.ne (fun bh5 => ?_) (fun bh6 => ?_)
        · skip
          try simp only [b2_cast, b2_ncast, Classical.not_not, lcm_lt, lcm_ge, lcm_gt, lcm_le, lcm_eq, b2_0, b2_n0, Bool.not_eq_false, Bool.not_eq_true, decide_eq_true_eq, decide_eq_false_iff_not] at bh5
          refine V.blk [(77, .aload 0, 1), (78, .getfield 10062, 3), (81, .aload 0, 1), (82, .getfield 10064, 3), (85, .iload 5, 2), (87, .iastore, 1), (88, .aload 0, 1), (89, .dup, 1), (90, .getfield 10064, 3), (93, .bipush 1, 1), (94, .iadd, 1), (95, .putfield 10064, 3), (98, .iinc 5 1, 3), (101, .goto 33, 3)] (ps := [0 ≤ (I' 52 64) ∧ (I' 52 64) < 40, inR (((ma I' 94 (ma (I' 94) ((I' 52 64).toNat) (x : Int))) 52 64) + 1), inR ((x : Int) + 1)]) (z' := (33, [some (aR 52), some (aI kd), some (aI rl), some (aI pe), some (aI t), some (aI ((x + 1 : Nat) : Int))], [], MM N (ma (ma I' 94 (ma (I' 94) ((I' 52 64).toNat) (x : Int))) 52 (ma ((ma I' 94 (ma (I' 94) ((I' 52 64).toNat) (x : Int))) 52) 64 (((ma I' 94 (ma (I' 94) ((I' 52 64).toNat) (x : Int))) 52 64) + 1))) J)) (by decide +kernel) rfl (show (0 ≤ (I' 52 64) ∧ (I' 52 64) < 40) ∧ (inR (((ma I' 94 (ma (I' 94) ((I' 52 64).toNat) (x : Int))) 52 64) + 1)) ∧ (inR ((x : Int) + 1)) from ⟨(by first | omega | (simp only [ma_ne _ _ (show (52 : Nat) ≠ 94 by decide)]; omega)), (by unfold inR; first | omega | (simp only [ma_ne _ _ (show (52 : Nat) ≠ 94 by decide)]; omega)), (by unfold inR; first | omega | (simp only [ma_ne _ _ (show (52 : Nat) ≠ 94 by decide)]; omega))⟩) ?_
          refine V.nI (fun I7 eI7 => ?_)
          have hh : hasB K (vw (J 83)) kd rl.toNat pe.toNat x = true := by
            rw [hasB_t]
            refine ⟨by omega, ?_⟩
            rw [hvw]
            by_cases c : tb (J 83 (x * 8 + rl.toNat)) pe.toNat = true
            · exact c
            · have hb := hbit.mpr (by simpa using c)
              rw [← eix] at hb
              exact absurd hb (by assumption)
          have g64 : I7 52 64 = I' 52 64 + 1 := by subst_vars; simp only [ma_self, ma_ne, ne_eq, reduceCtorEq, not_false_eq_true, Nat.reduceEqDiff]
          have g94 : I7 94 = ma (I' 94) (I' 52 64).toNat (x : Int) := by subst_vars; simp only [ma_self, ma_ne, ne_eq, reduceCtorEq, not_false_eq_true, Nat.reduceEqDiff]
          have g0 : ∀ i, i ≠ 52 → i ≠ 94 → I7 i = I' i := fun i a b => by subst_vars; simp only [ma_ne, ne_eq, a, b, not_false_eq_true]
          have g52 : ∀ k, k ≠ 64 → I7 52 k = I' 52 k := fun k a => by subst_vars; simp only [ma_self, ma_ne, ne_eq, a, reduceCtorEq, not_false_eq_true, Nat.reduceEqDiff]
          refine ih (x + 1) I7 (by omega) (by omega) (fun i a b => (g0 i a b).trans (hi i a b)) (fun k a => (g52 k a).trans (hf k a)) ?_
          rw [lsF, if_pos hh]
          exact hR.app lm.1 g64 g94
        · skip
          try simp only [b2_cast, b2_ncast, Classical.not_not, lcm_lt, lcm_ge, lcm_gt, lcm_le, lcm_eq, b2_0, b2_n0, Bool.not_eq_false, Bool.not_eq_true, decide_eq_true_eq, decide_eq_false_iff_not] at bh6
          refine V.blk [(74, .goto 98, 3), (98, .iinc 5 1, 3), (101, .goto 33, 3)] (ps := [inR ((x : Int) + 1)]) (z' := (33, [some (aR 52), some (aI kd), some (aI rl), some (aI pe), some (aI t), some (aI ((x + 1 : Nat) : Int))], [], MM N I' J)) (by decide +kernel) rfl (show (inR ((x : Int) + 1)) from (by unfold inR; first | omega | (simp only [ma_ne _ _ (show (52 : Nat) ≠ 94 by decide)]; omega))) ?_
          have hn : ¬ hasB K (vw (J 83)) kd rl.toNat pe.toNat x = true := by
            rw [hasB_t]
            rintro ⟨w1, w2⟩
            first
              | omega
              | (rw [hvw] at w2
                 have hb := hbit.mp (by rw [← eix]; assumption)
                 rw [hb] at w2
                 exact absurd w2 (by decide))
          refine ih (x + 1) I' (by omega) (by omega) hi hf ?_
          rw [lsF, if_neg hn]
          exact hR
theorem lsF_sameS {K : MI} {v : SV} {kd : Int} {rl pe x : Nat} : sameS K (lsF K v kd rl pe x) := ⟨fun i hi => lsF_ne x (by unfold rdC at hi; omega) (by unfold rdC at hi; omega), by rw [lsF_ne x (by decide) (by decide)]⟩
theorem m_X10_list {N : Nat} {I : MI} {J : MJ} {K : MI} {L : MJ} {kd rl pe t : Int} (hX : WX K L) (hA : RA K I) (hr : RfM I) (hV : Vok I) (hC : CA K L I J) (hi : inR kd) : CT 192 [aR 52, aI kd, aI rl, aI pe, aI t] (MM N I J) (fun r M' => ∃ a U I' J', r = some a ∧ M' = MM N I' J' ∧ ListR K L kd rl pe t a U ∧ PO U L I I' J') := by
  have h40 := hX.prOK.1
  have g1 : I 52 1 = K 1 1 := hA.1.1
  have g18 : I 52 18 = K 10 13 := hA.2.2.2.1.2.1
  unfold inR at hi
  refine CT.ofV (n := 6) (ls := [some (aR 52), some (aI kd), some (aI rl), some (aI pe), some (aI t), none]) rfl rfl rfl ?_
  refine V.blk [(0, .aload 0, 1), (1, .iload 1, 1), (2, .iload 2, 1), (3, .iload 3, 1), (4, .iload 4, 2)] (ps := []) (z' := (6, [some (aR 52), some (aI kd), some (aI rl), some (aI pe), some (aI t), none], [aI t, aI pe, aI rl, aI kd, aR 52], MM N I J)) (by decide +kernel) rfl trivial ?_
  refine V.cv (c := 175) (na := 5) (o := 10) (a := 52) [aI t, aI pe, aI rl, aI kd] [] (by decide +kernel) rfl rfl rfl rfl rfl (V.pr (m_X10_isAsked (by assumption)) ?_)
  show V 192 (9, [some (aR 52), some (aI kd), some (aI rl), some (aI pe), some (aI t), none], [aI (b2 (decide (0 ≤ kd ∧ kd < 6 ∧ 0 ≤ rl ∧ rl < 8 ∧ 0 ≤ pe ∧ pe < 40 ∧ 0 ≤ t ∧ t ≤ I 52 18)))], MM N I J) _
  refine V.blk [(9, .ifCond .ne 19, 3)] (ps := []) (z' := (brc .ne (b2 (decide (0 ≤ kd ∧ kd < 6 ∧ 0 ≤ rl ∧ rl < 8 ∧ 0 ≤ pe ∧ pe < 40 ∧ 0 ≤ t ∧ t ≤ I 52 18))) 0 19 12, [some (aR 52), some (aI kd), some (aI rl), some (aI pe), some (aI t), none], [], MM N I J)) (by decide +kernel) rfl trivial ?_
  refine V.ne (fun bh1 => ?_) (fun bh2 => ?_)
  · skip
    try simp only [b2_cast, b2_ncast, Classical.not_not, lcm_lt, lcm_ge, lcm_gt, lcm_le, lcm_eq, b2_0, b2_n0, Bool.not_eq_false, Bool.not_eq_true, decide_eq_true_eq, decide_eq_false_iff_not] at bh1
    refine V.blk [(19, .aload 0, 1), (20, .iload 4, 2)] (ps := []) (z' := (22, [some (aR 52), some (aI kd), some (aI rl), some (aI pe), some (aI t), none], [aI t, aR 52], MM N I J)) (by decide +kernel) rfl trivial ?_
    refine V.cv (c := 171) (na := 2) (o := 10) (a := 52) [aI t] [] (by decide +kernel) rfl rfl rfl rfl rfl ((m_look hX hA hV hC).mono (fun rv M1 q => ?_))
    obtain ⟨rfl, IL, JL, rfl, hL⟩ := q
    show V 192 (25, [some (aR 52), some (aI kd), some (aI rl), some (aI pe), some (aI t), none], [], MM N IL JL) _
    refine V.blk [(25, .aload 0, 1), (26, .bipush 0, 1), (27, .putfield 10064, 3), (30, .bipush 0, 1), (31, .istore 5, 2)] (ps := []) (z' := (33, [some (aR 52), some (aI kd), some (aI rl), some (aI pe), some (aI t), some (aI 0)], [], MM N (ma IL 52 (ma (IL 52) 64 0)) JL)) (by decide +kernel) rfl trivial ?_
    refine V.nI (fun I3 eI3 => ?_)
    have g64 : I3 52 64 = 0 := by subst_vars; simp only [ma_self]
    have g0 : ∀ i, i ≠ 52 → i ≠ 94 → I3 i = IL i := fun i a b => by subst_vars; simp only [ma_ne, ne_eq, a, not_false_eq_true]
    have g52 : ∀ k, k ≠ 64 → I3 52 k = IL 52 k := fun k a => by subst_vars; simp only [ma_self, ma_ne, ne_eq, a, not_false_eq_true]
    have hA2 := hL.ra hA
    refine (l_mlist (N := N) (I := IL) (J := JL) (K := K) (t := t) hA2.1 h40 (by omega) (by omega) 42 0 I3 (by omega) (by omega) g0 g52 ⟨?_, fun i w => ?_⟩).mono (fun r M' q => ?_)
    · rw [g64, lsF, ma_self, ma_self]
    · exfalso
      rw [lsF, ma_self, ma_self] at w
      omega
    · obtain ⟨I9, rfl, rfl, f1, f2, f3⟩ := q
      have hp := hL.po hA hV
      obtain ⟨p1, p2, p3⟩ := hp
      refine ⟨_, _, I9, JL, rfl, rfl, ⟨fun w => by exfalso; omega, fun _ => ⟨_, hL.2.2.2.2.2.1, rfl, rfl⟩⟩, hA2.row (fun i a b => lsF_ne _ a b) f1 f2 f3, ?_, ?_⟩
      · rw [f2 37 (by decide), f2 43 (by decide), f2 41 (by decide), f2 40 (by decide)]
        exact p2
      · exact hL.ca.same lsF_sameS (f2 40 (by decide)) (f2 41 (by decide)) (f2 42 (by decide)) (f1 87 (by decide) (by decide)) (f1 88 (by decide) (by decide)) rfl
  · skip
    try simp only [b2_cast, b2_ncast, Classical.not_not, lcm_lt, lcm_ge, lcm_gt, lcm_le, lcm_eq, b2_0, b2_n0, Bool.not_eq_false, Bool.not_eq_true, decide_eq_true_eq, decide_eq_false_iff_not] at bh2
    refine V.blk [(12, .aload 0, 1), (13, .bipush (-3), 2)] (ps := []) (z' := (15, [some (aR 52), some (aI kd), some (aI rl), some (aI pe), some (aI t), none], [aI (-3), aR 52], MM N I J)) (by decide +kernel) rfl trivial ?_
    refine V.cv (c := 116) (na := 2) (o := 10) (a := 52) [aI (-3)] [] (by decide +kernel) rfl rfl rfl rfl rfl ((m_no (by assumption) (by omega)).mono (fun rv M1 q => ?_))
    obtain ⟨rfl, rfl⟩ := q
    show V 192 (18, [some (aR 52), some (aI kd), some (aI rl), some (aI pe), some (aI t), none], [aI (-3)], MM N ((noU I (-3))) J) _
    refine V.nI (fun I4 eI4 => ?_)
    refine V.ri (by decide +kernel) ?_
    refine ⟨_, rfU K (-3), noU I (-3), J, rfl, by subst_vars; rfl, ⟨fun _ => ⟨rfl, rfl⟩, fun w => by exfalso; omega⟩, PO.no hA hV hC (by decide)⟩
theorem m_X10_without {N : Nat} {I : MI} {J : MJ} {K : MI} {L : MJ} {p : Int} (hX : WX K L) (hA : RA K I) (hr : RfM I) (hV : Vok I) (hC : CA K L I J) (hi : inR p) : CT 189 [aR 52, aI p] (MM N I J) (fun r M' => ∃ a U I' J', r = some a ∧ M' = MM N I' J' ∧ WithR K L p a U ∧ PO U L I I' J') := by
  have h40 := hX.prOK.1
  have g1 : I 52 1 = K 1 1 := hA.1.1
  have g18 : I 52 18 = K 10 13 := hA.2.2.2.1.2.1
  unfold inR at hi
  have g13 : I 52 13 = K 10 9 := hA.2.2.1.1
  obtain ⟨hre1, hre2, hre3⟩ := hX.2.2.2.2.2.1
  have hm := hX.2.2.1.1
  have hm2 := hX.2.2.1.2.1
  have g61 := hA.2.2.2.2.2.2.1.2.2.1
  have g57 := hA.2.2.2.2.2.2.1.2.2.2
  refine CT.ofV (n := 2) (ls := [some (aR 52), some (aI p)]) rfl rfl rfl ?_
  refine V.blk [(0, .iload 1, 1), (1, .i2l, 1), (2, .jsr_w 0, 1), (3, .aload 0, 1), (4, .getfield 10013, 3), (7, .bipush 1, 1), (8, .isub, 1), (9, .i2l, 1)] (ps := [inR ((I 52 13) - 1)]) (z' := (10, [some (aR 52), some (aI p)], [aL (Int64.ofInt ((I 52 13) - 1)), aL (Int64.ofInt 0), aL (Int64.ofInt p)], MM N I J)) (by decide +kernel) rfl (show (inR ((I 52 13) - 1)) from (by unfold inR; omega)) ?_
  refine V.cs (c := 115) (na := 3) [aL (Int64.ofInt ((I 52 13) - 1)), aL (Int64.ofInt 0), aL (Int64.ofInt p)] [] (by decide +kernel) rfl rfl (V.pr (m_X10_isIn (by unfold inR; omega) (by unfold inR; omega) (by unfold inR; omega)) ?_)
  show V 189 (13, [some (aR 52), some (aI p)], [aI (b2 (decide (0 ≤ p ∧ p ≤ ((I 52 13) - 1))))], MM N I J) _
  refine V.blk [(13, .ifCond .ne 23, 3)] (ps := []) (z' := (brc .ne (b2 (decide (0 ≤ p ∧ p ≤ ((I 52 13) - 1)))) 0 23 16, [some (aR 52), some (aI p)], [], MM N I J)) (by decide +kernel) rfl trivial ?_
  refine V.ne (fun bh1 => ?_) (fun bh2 => ?_)
  · skip
    try simp only [b2_cast, b2_ncast, Classical.not_not, lcm_lt, lcm_ge, lcm_gt, lcm_le, lcm_eq, b2_0, b2_n0, Bool.not_eq_false, Bool.not_eq_true, decide_eq_true_eq, decide_eq_false_iff_not] at bh1
    refine V.blk [(23, .aload 0, 1), (24, .getfield 10061, 3), (27, .ifCond .ne 37, 3)] (ps := []) (z' := (brc .ne (I 52 61) 0 37 30, [some (aR 52), some (aI p)], [], MM N I J)) (by decide +kernel) rfl trivial ?_
    refine V.ne (fun bh3 => ?_) (fun bh4 => ?_)
    · skip
      try simp only [b2_cast, b2_ncast, Classical.not_not, lcm_lt, lcm_ge, lcm_gt, lcm_le, lcm_eq, b2_0, b2_n0, Bool.not_eq_false, Bool.not_eq_true, decide_eq_true_eq, decide_eq_false_iff_not] at bh3
      refine V.blk [(37, .aload 0, 1), (38, .iload 1, 1), (39, .putfield 10043, 3)] (ps := []) (z' := (42, [some (aR 52), some (aI p)], [], MM N (ma I 52 (ma (I 52) 43 p)) J)) (by decide +kernel) rfl trivial ?_
      refine V.nI (fun I5 eI5 => ?_)
      have hne : K 44 6 ≠ -1 := by
        intro w
        rw [if_pos w] at g61
        omega
      obtain ⟨q1, q2, q3, q4, q5⟩ := g57 hne
      have w43 : I5 52 43 = p := by rw [eI5]; simp only [ma_self]
      have w0 : ∀ i, i ≠ 52 → I5 i = I i := fun i a => by rw [eI5]; simp only [ma_ne, ne_eq, a, not_false_eq_true]
      have w52 : ∀ k, k ≠ 43 → I5 52 k = I 52 k := fun k a => by rw [eI5]; simp only [ma_self, ma_ne, ne_eq, a, not_false_eq_true]
      have hAw : RA K I5 := hA.keep (fun i a b => w0 i (by omega)) (fun k _ _ _ _ _ b _ => w52 k b)
      obtain ⟨v1, v2, v3, v4, v5, v6⟩ := hV
      have hw37 : I5 52 37 = 0 := by rw [w52 37 (by decide)]; exact v6
      refine V.blk [(42, .aload 0, 1), (43, .aload 0, 1), (44, .getfield 10060, 3)] (ps := []) (z' := (47, [some (aR 52), some (aI p)], [aI (I5 52 60), aR 52], MM N I5 J)) (by decide +kernel) rfl trivial ?_
      refine V.cv (c := 170) (na := 2) (o := 10) (a := 52) [aI (I5 52 60)] [] (by decide +kernel) rfl rfl rfl rfl rfl ((m_findSets hX hAw hw37).mono (fun rv M1 q => ?_))
      obtain ⟨rfl, IS, JS, rfl, s1, s2, s3, s4⟩ := q
      show V 189 (50, [some (aR 52), some (aI p)], [], MM N IS JS) _
      refine V.blk [(50, .aload 0, 1), (51, .bipush (-1), 1), (52, .putfield 10043, 3), (55, .aload 0, 1), (56, .bipush 0, 1), (57, .putfield 10041, 3)] (ps := []) (z' := (60, [some (aR 52), some (aI p)], [], MM N (ma (ma IS 52 (ma (IS 52) 43 (-1))) 52 (ma ((ma IS 52 (ma (IS 52) 43 (-1))) 52) 41 0)) JS)) (by decide +kernel) rfl trivial ?_
      refine V.nI (fun I6 eI6 => ?_)
      have s52 : IS 52 = I5 52 := s1 52 (by decide) (by decide) (by decide) (by decide) (by decide) (by decide) (by decide)
      have k0 : ∀ i, i ≠ 52 → I6 i = IS i := fun i a => by subst_vars; simp only [ma_ne, ne_eq, a, not_false_eq_true]
      have k43 : I6 52 43 = -1 := by subst_vars; simp only [ma_self, ma_ne, ne_eq, reduceCtorEq, not_false_eq_true, Nat.reduceEqDiff]
      have k41 : I6 52 41 = 0 := by subst_vars; simp only [ma_self, ma_ne, ne_eq, reduceCtorEq, not_false_eq_true, Nat.reduceEqDiff]
      have k52 : ∀ k, k ≠ 43 → k ≠ 41 → I6 52 k = I 52 k := fun k a b => by
        rw [← w52 k a, ← s52]
        subst_vars
        simp only [ma_self, ma_ne, ne_eq, a, b, not_false_eq_true]
      have i57 := k52 57 (by decide) (by decide)
      have i58 := k52 58 (by decide) (by decide)
      have i59 := k52 59 (by decide) (by decide)
      refine V.blk [(60, .aload 0, 1), (61, .getfield 10044, 3), (64, .bipush 8, 2), (66, .aload 0, 1), (67, .getfield 10057, 3), (70, .imul, 1), (71, .aload 0, 1), (72, .getfield 10058, 3), (75, .iadd, 1), (76, .laload, 1), (77, .aload 0, 1), (78, .getfield 10059, 3), (81, .lshr, 1), (82, .jsr_w 1, 1), (83, .land, 1), (84, .l2i, 1)] (ps := [inR (8 * (I6 52 57)), inR ((8 * (I6 52 57)) + (I6 52 58)), 0 ≤ ((8 * (I6 52 57)) + (I6 52 58)) ∧ ((8 * (I6 52 57)) + (I6 52 58)) < 320, 0 ≤ (I6 52 59) ∧ (I6 52 59) < 64]) (z' := (85, [some (aR 52), some (aI p)], [aI (((shrl (JS 83 (((8 * (I6 52 57)) + (I6 52 58)).toNat)) (I6 52 59)) &&& (Int64.ofInt 1)).toInt32.toInt)], MM N I6 JS)) (by decide +kernel) rfl (show (inR (8 * (I6 52 57))) ∧ (inR ((8 * (I6 52 57)) + (I6 52 58))) ∧ (0 ≤ ((8 * (I6 52 57)) + (I6 52 58)) ∧ ((8 * (I6 52 57)) + (I6 52 58)) < 320) ∧ (0 ≤ (I6 52 59) ∧ (I6 52 59) < 64) from ⟨(by unfold inR; omega), (by unfold inR; omega), (by omega), (by omega)⟩) ?_
      refine V.ri (by decide +kernel) ?_
      rw [w43, w52 60 (by decide), q5] at s3
      refine ⟨_, K, I6, JS, rfl, rfl, ⟨fun w => by exfalso; omega, fun _ => ⟨fun w => absurd w hne, fun _ => ⟨rfl, _, s3, congrArg aI ?_⟩⟩⟩, ?_, ⟨?_, ?_, ?_, ?_, ?_, ?_⟩, ?_⟩
      · rw [vw_lt (by omega), show (8 * I6 52 57 + I6 52 58).toNat = (K 44 6).toNat by omega, show I6 52 59 = ((K 44 7).toNat : Int) by omega]
        have hs := shrl_i (JS 83 (K 44 6).toNat) (k := (K 44 7).toNat) (by omega)
        have h32 : ∀ x : Int64, x = Int64.ofInt 0 ∨ x = Int64.ofInt 1 → x.toInt32.toInt = x.toInt := by
          intro x hx
          rcases hx with rfl | rfl <;> decide +kernel
        rw [h32, hs]
        have h1 := shrl_1 (JS 83 (K 44 6).toNat) (k := (K 44 7).toNat) (by omega)
        rw [h1]
        split
        · exact Or.inr rfl
        · exact Or.inl rfl
      · exact hA.keep (fun i a b => by rw [k0 i (by omega), s1 i (by omega) (by omega) (by omega) (by omega) (by omega) (by omega) (by omega), w0 i (by omega)]) (fun k _ _ _ a _ b _ => k52 k b a)
      · rw [k52 37 (by decide) (by decide)]; exact v6
      · exact k43
      · rw [k41]; exact Int.le_refl _
      · rw [k41, k52 40 (by decide) (by decide)]; omega
      · rw [k52 40 (by decide) (by decide)]; exact Int.le_refl _
      · rw [k52 40 (by decide) (by decide)]; omega
      · intro w
        rw [k41, k52 40 (by decide) (by decide)] at w
        omega
    · skip
      try simp only [b2_cast, b2_ncast, Classical.not_not, lcm_lt, lcm_ge, lcm_gt, lcm_le, lcm_eq, b2_0, b2_n0, Bool.not_eq_false, Bool.not_eq_true, decide_eq_true_eq, decide_eq_false_iff_not] at bh4
      refine V.blk [(30, .aload 0, 1), (31, .bipush (-2), 2)] (ps := []) (z' := (33, [some (aR 52), some (aI p)], [aI (-2), aR 52], MM N I J)) (by decide +kernel) rfl trivial ?_
      refine V.cv (c := 116) (na := 2) (o := 10) (a := 52) [aI (-2)] [] (by decide +kernel) rfl rfl rfl rfl rfl ((m_no (by assumption) (by omega)).mono (fun rv M1 q => ?_))
      obtain ⟨rfl, rfl⟩ := q
      show V 189 (36, [some (aR 52), some (aI p)], [aI (-2)], MM N ((noU I (-2))) J) _
      refine V.nI (fun I7 eI7 => ?_)
      refine V.ri (by decide +kernel) ?_
      have hne : K 44 6 = -1 := by
        apply Classical.byContradiction
        intro w
        rw [if_neg w] at g61
        omega
      refine ⟨_, rfU K (-2), noU I (-2), J, rfl, by subst_vars; rfl, ⟨fun w => by exfalso; omega, fun _ => ⟨fun _ => ⟨rfl, rfl⟩, fun w => absurd hne w⟩⟩, PO.no hA hV hC (by decide)⟩
  · skip
    try simp only [b2_cast, b2_ncast, Classical.not_not, lcm_lt, lcm_ge, lcm_gt, lcm_le, lcm_eq, b2_0, b2_n0, Bool.not_eq_false, Bool.not_eq_true, decide_eq_true_eq, decide_eq_false_iff_not] at bh2
    refine V.blk [(16, .aload 0, 1), (17, .bipush (-3), 2)] (ps := []) (z' := (19, [some (aR 52), some (aI p)], [aI (-3), aR 52], MM N I J)) (by decide +kernel) rfl trivial ?_
    refine V.cv (c := 116) (na := 2) (o := 10) (a := 52) [aI (-3)] [] (by decide +kernel) rfl rfl rfl rfl rfl ((m_no (by assumption) (by omega)).mono (fun rv M1 q => ?_))
    obtain ⟨rfl, rfl⟩ := q
    show V 189 (22, [some (aR 52), some (aI p)], [aI (-3)], MM N ((noU I (-3))) J) _
    refine V.nI (fun I8 eI8 => ?_)
    refine V.ri (by decide +kernel) ?_
    refine ⟨_, rfU K (-3), noU I (-3), J, rfl, by subst_vars; rfl, ⟨fun _ => ⟨rfl, rfl⟩, fun w => by exfalso; omega⟩, PO.no hA hV hC (by decide)⟩
