/-! ===== the class: may, who, reach, list ===== -/
abbrev QX (N : Nat) (R : AV → MI → Prop) : Option AV → M5 → Prop := fun r M' => ∃ a U I' J', r = some a ∧ M' = MM N I' J' ∧ R a U ∧ CE U I' ∧ svOK I' J'
theorem LookR.sv {I I' : MI} {J J' : MJ} {cp : Nat → Bool} (h : LookR I J cp I' J') (hX : WX I J) : svOK I' J' := svOK_ce hX.2.2.2.2.2.2.2.1 h.ce (h.2.1 8 (by decide) (by decide) (by decide) (by decide) (by decide)) (h.2.1 9 (by decide) (by decide) (by decide) (by decide) (by decide))
abbrev cellP (I : MI) (th rl : Int) : Prop := 0 ≤ th ∧ th < I 1 1 ∧ 0 ≤ rl ∧ rl < 8
abbrev turnP (I : MI) (t : Int) : Prop := 0 ≤ t ∧ t ≤ I 10 13
def MayR (I : MI) (J : MJ) (th rl pe t : Int) (a : AV) (U : MI) : Prop :=
  (¬ (cellP I th rl ∧ (0 ≤ pe ∧ pe < 40) ∧ turnP I t) → a = aI (-3) ∧ U = rfU I (-3)) ∧
  (cellP I th rl ∧ (0 ≤ pe ∧ pe < 40) ∧ turnP I t → U = I ∧ ∃ v, SETS I J (cnB I t (I 0 11) (-1)) v ∧ a = aI (b2 (tb (v (th * 8 + rl).toNat) pe.toNat)))
def WhoR (I : MI) (J : MJ) (th rl t : Int) (a : AV) (U : MI) : Prop :=
  (¬ (cellP I th rl ∧ turnP I t) → a = aL (Int64.ofInt 0) ∧ U = rfU I (-3)) ∧
  (cellP I th rl ∧ turnP I t → U = I ∧ ∃ v, SETS I J (cnB I t (I 0 11) (-1)) v ∧ a = aL (v (th * 8 + rl).toNat))
theorem c_isInZ {N : Nat} {I : MI} {J : MJ} {s k : Int} (hs : 0 ≤ s ∧ s < 320) (hk : 0 ≤ k ∧ k < 64) : CT 58 [aR 36, aI s, aI k] (MM N I J) (pure1 N I J (aI (b2 (tb (J 39 s.toNat) k.toNat)))) := by
  have := c_isIn (N := N) (I := I) (J := J) (s := s.toNat) (k := k.toNat) (by omega) (by omega)
  rw [show ((s.toNat : Nat) : Int) = s by omega, show ((k.toNat : Nat) : Int) = k by omega] at this
  exact this
theorem c_X9_may {N : Nat} {I : MI} {J : MJ} {th rl pe t : Int} (hX : WX I J) (hf : Rf I) : CT 85 [aR 0, aI th, aI rl, aI pe, aI t] (MM N I J) (QX N (MayR I J th rl pe t)) := by
  have h40 := hX.prOK.1
  refine CT.ofV (n := 5) (ls := [some (aR 0), some (aI th), some (aI rl), some (aI pe), some (aI t)]) rfl rfl rfl ?_
  refine V.blk [(0, .aload 0, 1), (1, .iload 1, 1), (2, .iload 2, 1)] (ps := []) (z' := (3, [some (aR 0), some (aI th), some (aI rl), some (aI pe), some (aI t)], [aI rl, aI th, aR 0], MM N I J)) (by decide +kernel) rfl trivial ?_
  refine V.cv (c := 100) (na := 3) (o := 9) (a := 0) [aI rl, aI th] [] (by decide +kernel) rfl rfl rfl rfl rfl (V.pr (c_X9_isSpot) ?_)
  show V 85 (6, [some (aR 0), some (aI th), some (aI rl), some (aI pe), some (aI t)], [aI (b2 (decide (0 ≤ th ∧ th < I 1 1 ∧ 0 ≤ rl ∧ rl < 8)))], MM N I J) _
  refine V.blk [(6, .ifCond .eq 27, 3)] (ps := []) (z' := (brc .eq (b2 (decide (0 ≤ th ∧ th < I 1 1 ∧ 0 ≤ rl ∧ rl < 8))) 0 27 9, [some (aR 0), some (aI th), some (aI rl), some (aI pe), some (aI t)], [], MM N I J)) (by decide +kernel) rfl trivial ?_
  refine V.eq (fun bh1 => ?_) (fun bh2 => ?_)
  · skip
    try simp only [b2_cast, b2_ncast, Classical.not_not, lcm_lt, lcm_ge, lcm_gt, lcm_le, lcm_eq, b2_0, b2_n0, Bool.not_eq_false, Bool.not_eq_true, decide_eq_true_eq, decide_eq_false_iff_not] at bh1
    refine V.blk [(27, .aload 0, 1), (28, .bipush (-3), 2)] (ps := []) (z' := (30, [some (aR 0), some (aI th), some (aI rl), some (aI pe), some (aI t)], [aI (-3), aR 0], MM N I J)) (by decide +kernel) rfl trivial ?_
    refine V.cv (c := 98) (na := 2) (o := 9) (a := 0) [aI (-3)] [] (by decide +kernel) rfl rfl rfl rfl rfl ((c_refuse (by assumption) (by omega)).mono (fun rv M1 q => ?_))
    obtain ⟨rfl, rfl⟩ := q
    show V 85 (33, [some (aR 0), some (aI th), some (aI rl), some (aI pe), some (aI t)], [aI (-3)], MM N ((rfU I (-3))) J) _
    refine V.nI (fun I3 eI3 => ?_)
    refine V.ri (by decide +kernel) ?_
    exact ⟨_, rfU I (-3), _, J, rfl, rfl, ⟨fun _ => ⟨rfl, rfl⟩, fun w => by exfalso; omega⟩, by subst_vars; exact CE.refl _, by subst_vars; exact sv_rf hX.2.2.2.2.2.2.2.1⟩
  · skip
    try simp only [b2_cast, b2_ncast, Classical.not_not, lcm_lt, lcm_ge, lcm_gt, lcm_le, lcm_eq, b2_0, b2_n0, Bool.not_eq_false, Bool.not_eq_true, decide_eq_true_eq, decide_eq_false_iff_not] at bh2
    refine V.blk [(9, .iload 3, 1), (10, .bipush 40, 2)] (ps := []) (z' := (12, [some (aR 0), some (aI th), some (aI rl), some (aI pe), some (aI t)], [aI 40, aI pe], MM N I J)) (by decide +kernel) rfl trivial ?_
    refine V.cs (c := 103) (na := 2) [aI 40, aI pe] [] (by decide +kernel) rfl rfl (V.pr (c_X9_within) ?_)
    show V 85 (15, [some (aR 0), some (aI th), some (aI rl), some (aI pe), some (aI t)], [aI (b2 (decide (0 ≤ pe ∧ pe < 40)))], MM N I J) _
    refine V.blk [(15, .ifCond .eq 27, 3)] (ps := []) (z' := (brc .eq (b2 (decide (0 ≤ pe ∧ pe < 40))) 0 27 18, [some (aR 0), some (aI th), some (aI rl), some (aI pe), some (aI t)], [], MM N I J)) (by decide +kernel) rfl trivial ?_
    refine V.eq (fun bh4 => ?_) (fun bh5 => ?_)
    · skip
      try simp only [b2_cast, b2_ncast, Classical.not_not, lcm_lt, lcm_ge, lcm_gt, lcm_le, lcm_eq, b2_0, b2_n0, Bool.not_eq_false, Bool.not_eq_true, decide_eq_true_eq, decide_eq_false_iff_not] at bh4
      refine V.blk [(27, .aload 0, 1), (28, .bipush (-3), 2)] (ps := []) (z' := (30, [some (aR 0), some (aI th), some (aI rl), some (aI pe), some (aI t)], [aI (-3), aR 0], MM N I J)) (by decide +kernel) rfl trivial ?_
      refine V.cv (c := 98) (na := 2) (o := 9) (a := 0) [aI (-3)] [] (by decide +kernel) rfl rfl rfl rfl rfl ((c_refuse (by assumption) (by omega)).mono (fun rv M1 q => ?_))
      obtain ⟨rfl, rfl⟩ := q
      show V 85 (33, [some (aR 0), some (aI th), some (aI rl), some (aI pe), some (aI t)], [aI (-3)], MM N ((rfU I (-3))) J) _
      refine V.nI (fun I6 eI6 => ?_)
      refine V.ri (by decide +kernel) ?_
      exact ⟨_, rfU I (-3), _, J, rfl, rfl, ⟨fun _ => ⟨rfl, rfl⟩, fun w => by exfalso; omega⟩, by subst_vars; exact CE.refl _, by subst_vars; exact sv_rf hX.2.2.2.2.2.2.2.1⟩
    · skip
      try simp only [b2_cast, b2_ncast, Classical.not_not, lcm_lt, lcm_ge, lcm_gt, lcm_le, lcm_eq, b2_0, b2_n0, Bool.not_eq_false, Bool.not_eq_true, decide_eq_true_eq, decide_eq_false_iff_not] at bh5
      refine V.blk [(18, .aload 0, 1), (19, .iload 4, 2)] (ps := []) (z' := (21, [some (aR 0), some (aI th), some (aI rl), some (aI pe), some (aI t)], [aI t, aR 0], MM N I J)) (by decide +kernel) rfl trivial ?_
      refine V.cv (c := 101) (na := 2) (o := 9) (a := 0) [aI t] [] (by decide +kernel) rfl rfl rfl rfl rfl (V.pr (c_X9_isTurn) ?_)
      show V 85 (24, [some (aR 0), some (aI th), some (aI rl), some (aI pe), some (aI t)], [aI (b2 (decide (0 ≤ t ∧ t ≤ I 10 13)))], MM N I J) _
      refine V.blk [(24, .ifCond .ne 34, 3)] (ps := []) (z' := (brc .ne (b2 (decide (0 ≤ t ∧ t ≤ I 10 13))) 0 34 27, [some (aR 0), some (aI th), some (aI rl), some (aI pe), some (aI t)], [], MM N I J)) (by decide +kernel) rfl trivial ?_
      refine V.ne (fun bh7 => ?_) (fun bh8 => ?_)
      · skip
        try simp only [b2_cast, b2_ncast, Classical.not_not, lcm_lt, lcm_ge, lcm_gt, lcm_le, lcm_eq, b2_0, b2_n0, Bool.not_eq_false, Bool.not_eq_true, decide_eq_true_eq, decide_eq_false_iff_not] at bh7
        refine V.blk [(34, .aload 0, 1), (35, .getfield 9005, 3), (38, .iload 4, 2), (40, .aload 0, 1), (41, .getfield 9011, 3), (44, .bipush (-1), 1)] (ps := []) (z' := (45, [some (aR 0), some (aI th), some (aI rl), some (aI pe), some (aI t)], [aI (-1), aI (I 0 11), aI t, aR 36], MM N I J)) (by decide +kernel) rfl trivial ?_
        refine V.cv (c := 49) (na := 4) (o := 7) (a := 36) [aI (-1), aI (I 0 11), aI t] [] (by decide +kernel) rfl rfl rfl rfl rfl ((c_look hX).mono (fun rv M1 q => ?_))
        obtain ⟨rfl, IL, JL, rfl, hL⟩ := q
        show V 85 (48, [some (aR 0), some (aI th), some (aI rl), some (aI pe), some (aI t)], [], MM N IL JL) _
        refine V.blk [(48, .aload 0, 1), (49, .getfield 9005, 3), (52, .iload 1, 1), (53, .iload 2, 1)] (ps := []) (z' := (54, [some (aR 0), some (aI th), some (aI rl), some (aI pe), some (aI t)], [aI rl, aI th, aR 36], MM N IL JL)) (by decide +kernel) rfl trivial ?_
        refine V.cs (c := 108) (na := 2) [aI rl, aI th] [aR 36] (by decide +kernel) rfl rfl (V.pr (c_X9_spotOf (by omega)) ?_)
        show V 85 (57, [some (aR 0), some (aI th), some (aI rl), some (aI pe), some (aI t)], [aI (th * 8 + rl), aR 36], MM N IL JL) _
        refine V.blk [(57, .iload 3, 1)] (ps := []) (z' := (58, [some (aR 0), some (aI th), some (aI rl), some (aI pe), some (aI t)], [aI pe, aI (th * 8 + rl), aR 36], MM N IL JL)) (by decide +kernel) rfl trivial ?_
        refine V.cv (c := 58) (na := 3) (o := 7) (a := 36) [aI pe, aI (th * 8 + rl)] [] (by decide +kernel) rfl rfl rfl rfl rfl (V.pr (c_isInZ (by omega) (by omega)) ?_)
        show V 85 (61, [some (aR 0), some (aI th), some (aI rl), some (aI pe), some (aI t)], [aI (b2 (tb (JL 39 ((th * 8 + rl)).toNat) (pe).toNat))], MM N IL JL) _
        refine V.blk [(61, .ifCond .eq 68, 3)] (ps := []) (z' := (brc .eq (b2 (tb (JL 39 ((th * 8 + rl)).toNat) (pe).toNat)) 0 68 64, [some (aR 0), some (aI th), some (aI rl), some (aI pe), some (aI t)], [], MM N IL JL)) (by decide +kernel) rfl trivial ?_
        refine V.eq (fun bh9 => ?_) (fun bh10 => ?_)
        · skip
          try simp only [b2_cast, b2_ncast, Classical.not_not, lcm_lt, lcm_ge, lcm_gt, lcm_le, lcm_eq, b2_0, b2_n0, Bool.not_eq_false, Bool.not_eq_true, decide_eq_true_eq, decide_eq_false_iff_not] at bh9
          refine V.blk [(68, .bipush 0, 1)] (ps := []) (z' := (69, [some (aR 0), some (aI th), some (aI rl), some (aI pe), some (aI t)], [aI 0], MM N IL JL)) (by decide +kernel) rfl trivial ?_
          refine V.ri (by decide +kernel) ?_
          refine ⟨_, I, _, JL, rfl, rfl, ⟨fun w => by exfalso; omega, fun _ => ⟨rfl, _, hL.2.2.2, congrArg aI ?_⟩⟩, hL.ce, hL.sv hX⟩
          rw [vw_lt (by omega)]
          have hb : tb (JL 39 (th * 8 + rl).toNat) pe.toNat = false := by assumption
          rw [hb]
          rfl
        · skip
          try simp only [b2_cast, b2_ncast, Classical.not_not, lcm_lt, lcm_ge, lcm_gt, lcm_le, lcm_eq, b2_0, b2_n0, Bool.not_eq_false, Bool.not_eq_true, decide_eq_true_eq, decide_eq_false_iff_not] at bh10
          refine V.blk [(64, .bipush 1, 1), (65, .goto 69, 3)] (ps := []) (z' := (69, [some (aR 0), some (aI th), some (aI rl), some (aI pe), some (aI t)], [aI 1], MM N IL JL)) (by decide +kernel) rfl trivial ?_
          refine V.ri (by decide +kernel) ?_
          refine ⟨_, I, _, JL, rfl, rfl, ⟨fun w => by exfalso; omega, fun _ => ⟨rfl, _, hL.2.2.2, congrArg aI ?_⟩⟩, hL.ce, hL.sv hX⟩
          rw [vw_lt (by omega)]
          have hb : tb (JL 39 (th * 8 + rl).toNat) pe.toNat = true := by assumption
          rw [hb]
          rfl
      · skip
        try simp only [b2_cast, b2_ncast, Classical.not_not, lcm_lt, lcm_ge, lcm_gt, lcm_le, lcm_eq, b2_0, b2_n0, Bool.not_eq_false, Bool.not_eq_true, decide_eq_true_eq, decide_eq_false_iff_not] at bh8
        refine V.blk [(27, .aload 0, 1), (28, .bipush (-3), 2)] (ps := []) (z' := (30, [some (aR 0), some (aI th), some (aI rl), some (aI pe), some (aI t)], [aI (-3), aR 0], MM N I J)) (by decide +kernel) rfl trivial ?_
        refine V.cv (c := 98) (na := 2) (o := 9) (a := 0) [aI (-3)] [] (by decide +kernel) rfl rfl rfl rfl rfl ((c_refuse (by assumption) (by omega)).mono (fun rv M1 q => ?_))
        obtain ⟨rfl, rfl⟩ := q
        show V 85 (33, [some (aR 0), some (aI th), some (aI rl), some (aI pe), some (aI t)], [aI (-3)], MM N ((rfU I (-3))) J) _
        refine V.nI (fun I11 eI11 => ?_)
        refine V.ri (by decide +kernel) ?_
        exact ⟨_, rfU I (-3), _, J, rfl, rfl, ⟨fun _ => ⟨rfl, rfl⟩, fun w => by exfalso; omega⟩, by subst_vars; exact CE.refl _, by subst_vars; exact sv_rf hX.2.2.2.2.2.2.2.1⟩
theorem c_X9_who {N : Nat} {I : MI} {J : MJ} {th rl t : Int} (hX : WX I J) (hf : Rf I) : CT 86 [aR 0, aI th, aI rl, aI t] (MM N I J) (QX N (WhoR I J th rl t)) := by
  have h40 := hX.prOK.1
  refine CT.ofV (n := 4) (ls := [some (aR 0), some (aI th), some (aI rl), some (aI t)]) rfl rfl rfl ?_
  refine V.blk [(0, .aload 0, 1), (1, .iload 1, 1), (2, .iload 2, 1)] (ps := []) (z' := (3, [some (aR 0), some (aI th), some (aI rl), some (aI t)], [aI rl, aI th, aR 0], MM N I J)) (by decide +kernel) rfl trivial ?_
  refine V.cv (c := 100) (na := 3) (o := 9) (a := 0) [aI rl, aI th] [] (by decide +kernel) rfl rfl rfl rfl rfl (V.pr (c_X9_isSpot) ?_)
  show V 86 (6, [some (aR 0), some (aI th), some (aI rl), some (aI t)], [aI (b2 (decide (0 ≤ th ∧ th < I 1 1 ∧ 0 ≤ rl ∧ rl < 8)))], MM N I J) _
  refine V.blk [(6, .ifCond .eq 17, 3)] (ps := []) (z' := (brc .eq (b2 (decide (0 ≤ th ∧ th < I 1 1 ∧ 0 ≤ rl ∧ rl < 8))) 0 17 9, [some (aR 0), some (aI th), some (aI rl), some (aI t)], [], MM N I J)) (by decide +kernel) rfl trivial ?_
  refine V.eq (fun bh1 => ?_) (fun bh2 => ?_)
  · skip
    try simp only [b2_cast, b2_ncast, Classical.not_not, lcm_lt, lcm_ge, lcm_gt, lcm_le, lcm_eq, b2_0, b2_n0, Bool.not_eq_false, Bool.not_eq_true, decide_eq_true_eq, decide_eq_false_iff_not] at bh1
    refine V.blk [(17, .aload 0, 1), (18, .bipush (-3), 2)] (ps := []) (z' := (20, [some (aR 0), some (aI th), some (aI rl), some (aI t)], [aI (-3), aR 0], MM N I J)) (by decide +kernel) rfl trivial ?_
    refine V.cv (c := 98) (na := 2) (o := 9) (a := 0) [aI (-3)] [] (by decide +kernel) rfl rfl rfl rfl rfl ((c_refuse (by assumption) (by omega)).mono (fun rv M1 q => ?_))
    obtain ⟨rfl, rfl⟩ := q
    show V 86 (23, [some (aR 0), some (aI th), some (aI rl), some (aI t)], [aI (-3)], MM N ((rfU I (-3))) J) _
    refine V.blk [(23, .pop, 1), (24, .jsr_w 0, 1)] (ps := []) (z' := (25, [some (aR 0), some (aI th), some (aI rl), some (aI t)], [aL (Int64.ofInt 0)], MM N ((rfU I (-3))) J)) (by decide +kernel) rfl trivial ?_
    refine V.nI (fun I3 eI3 => ?_)
    refine V.rl (by decide +kernel) ?_
    exact ⟨_, rfU I (-3), _, J, rfl, rfl, ⟨fun _ => ⟨rfl, rfl⟩, fun w => by exfalso; omega⟩, by subst_vars; exact CE.refl _, by subst_vars; exact sv_rf hX.2.2.2.2.2.2.2.1⟩
  · skip
    try simp only [b2_cast, b2_ncast, Classical.not_not, lcm_lt, lcm_ge, lcm_gt, lcm_le, lcm_eq, b2_0, b2_n0, Bool.not_eq_false, Bool.not_eq_true, decide_eq_true_eq, decide_eq_false_iff_not] at bh2
    refine V.blk [(9, .aload 0, 1), (10, .iload 3, 1)] (ps := []) (z' := (11, [some (aR 0), some (aI th), some (aI rl), some (aI t)], [aI t, aR 0], MM N I J)) (by decide +kernel) rfl trivial ?_
    refine V.cv (c := 101) (na := 2) (o := 9) (a := 0) [aI t] [] (by decide +kernel) rfl rfl rfl rfl rfl (V.pr (c_X9_isTurn) ?_)
    show V 86 (14, [some (aR 0), some (aI th), some (aI rl), some (aI t)], [aI (b2 (decide (0 ≤ t ∧ t ≤ I 10 13)))], MM N I J) _
    refine V.blk [(14, .ifCond .ne 26, 3)] (ps := []) (z' := (brc .ne (b2 (decide (0 ≤ t ∧ t ≤ I 10 13))) 0 26 17, [some (aR 0), some (aI th), some (aI rl), some (aI t)], [], MM N I J)) (by decide +kernel) rfl trivial ?_
    refine V.ne (fun bh4 => ?_) (fun bh5 => ?_)
    · skip
      try simp only [b2_cast, b2_ncast, Classical.not_not, lcm_lt, lcm_ge, lcm_gt, lcm_le, lcm_eq, b2_0, b2_n0, Bool.not_eq_false, Bool.not_eq_true, decide_eq_true_eq, decide_eq_false_iff_not] at bh4
      refine V.blk [(26, .aload 0, 1), (27, .getfield 9005, 3), (30, .iload 3, 1), (31, .aload 0, 1), (32, .getfield 9011, 3), (35, .bipush (-1), 1)] (ps := []) (z' := (36, [some (aR 0), some (aI th), some (aI rl), some (aI t)], [aI (-1), aI (I 0 11), aI t, aR 36], MM N I J)) (by decide +kernel) rfl trivial ?_
      refine V.cv (c := 49) (na := 4) (o := 7) (a := 36) [aI (-1), aI (I 0 11), aI t] [] (by decide +kernel) rfl rfl rfl rfl rfl ((c_look hX).mono (fun rv M1 q => ?_))
      obtain ⟨rfl, IL, JL, rfl, hL⟩ := q
      show V 86 (39, [some (aR 0), some (aI th), some (aI rl), some (aI t)], [], MM N IL JL) _
      refine V.blk [(39, .aload 0, 1), (40, .getfield 9005, 3), (43, .getfield 7006, 3), (46, .iload 1, 1), (47, .iload 2, 1)] (ps := []) (z' := (48, [some (aR 0), some (aI th), some (aI rl), some (aI t)], [aI rl, aI th, aR 39], MM N IL JL)) (by decide +kernel) rfl trivial ?_
      refine V.cs (c := 108) (na := 2) [aI rl, aI th] [aR 39] (by decide +kernel) rfl rfl (V.pr (c_X9_spotOf (by omega)) ?_)
      show V 86 (51, [some (aR 0), some (aI th), some (aI rl), some (aI t)], [aI (th * 8 + rl), aR 39], MM N IL JL) _
      refine V.blk [(51, .laload, 1)] (ps := [0 ≤ (th * 8 + rl) ∧ (th * 8 + rl) < 320]) (z' := (52, [some (aR 0), some (aI th), some (aI rl), some (aI t)], [aL (JL 39 ((th * 8 + rl).toNat))], MM N IL JL)) (by decide +kernel) rfl (show (0 ≤ (th * 8 + rl) ∧ (th * 8 + rl) < 320) from (by omega)) ?_
      refine V.rl (by decide +kernel) ?_
      refine ⟨_, I, _, JL, rfl, rfl, ⟨fun w => by exfalso; omega, fun _ => ⟨rfl, _, hL.2.2.2, congrArg aL ?_⟩⟩, hL.ce, hL.sv hX⟩
      rw [vw_lt (by omega)]
    · skip
      try simp only [b2_cast, b2_ncast, Classical.not_not, lcm_lt, lcm_ge, lcm_gt, lcm_le, lcm_eq, b2_0, b2_n0, Bool.not_eq_false, Bool.not_eq_true, decide_eq_true_eq, decide_eq_false_iff_not] at bh5
      refine V.blk [(17, .aload 0, 1), (18, .bipush (-3), 2)] (ps := []) (z' := (20, [some (aR 0), some (aI th), some (aI rl), some (aI t)], [aI (-3), aR 0], MM N I J)) (by decide +kernel) rfl trivial ?_
      refine V.cv (c := 98) (na := 2) (o := 9) (a := 0) [aI (-3)] [] (by decide +kernel) rfl rfl rfl rfl rfl ((c_refuse (by assumption) (by omega)).mono (fun rv M1 q => ?_))
      obtain ⟨rfl, rfl⟩ := q
      show V 86 (23, [some (aR 0), some (aI th), some (aI rl), some (aI t)], [aI (-3)], MM N ((rfU I (-3))) J) _
      refine V.blk [(23, .pop, 1), (24, .jsr_w 0, 1)] (ps := []) (z' := (25, [some (aR 0), some (aI th), some (aI rl), some (aI t)], [aL (Int64.ofInt 0)], MM N ((rfU I (-3))) J)) (by decide +kernel) rfl trivial ?_
      refine V.nI (fun I6 eI6 => ?_)
      refine V.rl (by decide +kernel) ?_
      exact ⟨_, rfU I (-3), _, J, rfl, rfl, ⟨fun _ => ⟨rfl, rfl⟩, fun w => by exfalso; omega⟩, by subst_vars; exact CE.refl _, by subst_vars; exact sv_rf hX.2.2.2.2.2.2.2.1⟩
abbrev hasT (I : MI) (v : SV) (kd : Int) (rl pe x : Nat) : Prop := I 2 x = kd ∧ tb (v (x * 8 + rl)) pe = true
/-- the first thing from x0 on, below the number of things, that has it; else -1 -/
def NextR (I : MI) (v : SV) (kd : Int) (rl pe : Nat) (x0 : Int) (z : Int) : Prop :=
  (z = -1 ∧ ∀ x : Nat, x0 ≤ x → (x : Int) < I 1 1 → ¬ hasT I v kd rl pe x) ∨ (∃ x : Nat, z = x ∧ x0 ≤ x ∧ (x : Int) < I 1 1 ∧ hasT I v kd rl pe x ∧ ∀ y : Nat, x0 ≤ y → y < x → ¬ hasT I v kd rl pe y)
theorem NextR.uniq {I : MI} {v : SV} {kd : Int} {rl pe : Nat} {x0 z z' : Int} (h : NextR I v kd rl pe x0 z) (g : NextR I v kd rl pe x0 z') : z = z' := by
  rcases h with ⟨h1, h2⟩ | ⟨x, h1, h2, h3, h4, h5⟩
  · rcases g with ⟨g1, g2⟩ | ⟨y, g1, g2, g3, g4, g5⟩
    · omega
    · exact absurd g4 (h2 y g2 g3)
  · rcases g with ⟨g1, g2⟩ | ⟨y, g1, g2, g3, g4, g5⟩
    · exact absurd h4 (g2 x h2 h3)
    · rcases Nat.lt_trichotomy x y with e | e | e
      · exact absurd h4 (g5 x h2 e)
      · omega
      · exact absurd g4 (h5 y g2 e)
theorem l_next0 {N : Nat} {I : MI} {J : MJ} {kd x0 : Int} {rl pe : Nat} (h40 : 0 ≤ I 1 1 ∧ I 1 1 ≤ 40) (hrl : rl < 8) (hpe : pe < 40) {x : Nat} (h1 : 41 ≤ 0 + x) (h2 : x0 ≤ x) (hy : ∀ y : Nat, x0 ≤ y → y < x → ¬ hasT I (J 39) kd rl pe y) : V 59 (4, [some (aR 36), some (aI kd), some (aI (rl : Int)), some (aI (pe : Int)), some (aI x0), some (aI (x : Int))], [], MM N I J) (fun r M' => ∃ z, r = some (aI z) ∧ M' = MM N I J ∧ NextR I (J 39) kd rl pe x0 z) := by
  refine V.blk [(4, .iload 5, 2), (6, .aload 0, 1), (7, .getfield 7000, 3), (10, .getfield 8001, 3), (13, .if_icmp .ge 53, 3)] (ps := []) (z' := (brc .ge (x : Int) (I 1 1) 53 16, [some (aR 36), some (aI kd), some (aI (rl : Int)), some (aI (pe : Int)), some (aI x0), some (aI (x : Int))], [], MM N I J)) (by decide +kernel) rfl trivial ?_
  refine V.ge (fun bh1 => ?_) (fun bh2 => ?_)
  · skip
    refine V.blk [(53, .bipush (-1), 1)] (ps := []) (z' := (54, [some (aR 36), some (aI kd), some (aI (rl : Int)), some (aI (pe : Int)), some (aI x0), some (aI (x : Int))], [aI (-1)], MM N I J)) (by decide +kernel) rfl trivial ?_
    refine V.ri (by decide +kernel) ?_
    refine ⟨-1, rfl, rfl, Or.inl ⟨rfl, fun y a b => ?_⟩⟩
    exact hy y a (by omega)
  · skip
    exfalso; omega
theorem l_next {N : Nat} {I : MI} {J : MJ} {kd x0 : Int} {rl pe : Nat} (h40 : 0 ≤ I 1 1 ∧ I 1 1 ≤ 40) (hrl : rl < 8) (hpe : pe < 40) : ∀ (k x : Nat), 41 ≤ k + x → x0 ≤ x → (∀ y : Nat, x0 ≤ y → y < x → ¬ hasT I (J 39) kd rl pe y) → V 59 (4, [some (aR 36), some (aI kd), some (aI (rl : Int)), some (aI (pe : Int)), some (aI x0), some (aI (x : Int))], [], MM N I J) (fun r M' => ∃ z, r = some (aI z) ∧ M' = MM N I J ∧ NextR I (J 39) kd rl pe x0 z) := by
  intro k
  induction k with
  | zero =>
    intro x h1 h2 hy
    exact (l_next0 h40 hrl hpe h1 h2 hy)
  | succ k ih =>
    intro x h1 h2 hy
    refine V.blk [(4, .iload 5, 2), (6, .aload 0, 1), (7, .getfield 7000, 3), (10, .getfield 8001, 3), (13, .if_icmp .ge 53, 3)] (ps := []) (z' := (brc .ge (x : Int) (I 1 1) 53 16, [some (aR 36), some (aI kd), some (aI (rl : Int)), some (aI (pe : Int)), some (aI x0), some (aI (x : Int))], [], MM N I J)) (by decide +kernel) rfl trivial ?_
    refine V.ge (fun bh1 => ?_) (fun bh2 => ?_)
    · skip
      try simp only [b2_cast, b2_ncast, Classical.not_not, lcm_lt, lcm_ge, lcm_gt, lcm_le, lcm_eq, b2_0, b2_n0, Bool.not_eq_false, Bool.not_eq_true, decide_eq_true_eq, decide_eq_false_iff_not] at bh1
      refine V.blk [(53, .bipush (-1), 1)] (ps := []) (z' := (54, [some (aR 36), some (aI kd), some (aI (rl : Int)), some (aI (pe : Int)), some (aI x0), some (aI (x : Int))], [aI (-1)], MM N I J)) (by decide +kernel) rfl trivial ?_
      refine V.ri (by decide +kernel) ?_
      refine ⟨-1, rfl, rfl, Or.inl ⟨rfl, fun y a b => ?_⟩⟩
      exact hy y a (by omega)
    · skip
      try simp only [b2_cast, b2_ncast, Classical.not_not, lcm_lt, lcm_ge, lcm_gt, lcm_le, lcm_eq, b2_0, b2_n0, Bool.not_eq_false, Bool.not_eq_true, decide_eq_true_eq, decide_eq_false_iff_not] at bh2
      refine V.blk [(16, .aload 0, 1), (17, .getfield 7000, 3), (20, .getfield 8000, 3), (23, .iload 5, 2), (25, .iaload, 1), (26, .iload 1, 1), (27, .if_icmp .ne 47, 3)] (ps := [0 ≤ (x : Int) ∧ (x : Int) < 40]) (z' := (brc .ne (I 2 x) kd 47 30, [some (aR 36), some (aI kd), some (aI (rl : Int)), some (aI (pe : Int)), some (aI x0), some (aI (x : Int))], [], MM N I J)) (by decide +kernel) rfl (show (0 ≤ (x : Int) ∧ (x : Int) < 40) from (by omega)) ?_
      refine V.ne (fun bh3 => ?_) (fun bh4 => ?_)
      · skip
        try simp only [b2_cast, b2_ncast, Classical.not_not, lcm_lt, lcm_ge, lcm_gt, lcm_le, lcm_eq, b2_0, b2_n0, Bool.not_eq_false, Bool.not_eq_true, decide_eq_true_eq, decide_eq_false_iff_not] at bh3
        refine V.blk [(47, .iinc 5 1, 3), (50, .goto 4, 3)] (ps := [inR ((x : Int) + 1)]) (z' := (4, [some (aR 36), some (aI kd), some (aI (rl : Int)), some (aI (pe : Int)), some (aI x0), some (aI ((x + 1 : Nat) : Int))], [], MM N I J)) (by decide +kernel) rfl (show (inR ((x : Int) + 1)) from (by unfold inR; omega)) ?_
        refine ih (x + 1) (by omega) (by omega) (fun y a b => ?_)
        by_cases e : y = x
        · subst e
          intro w
          first
            | exact absurd w.1 (by assumption)
            | (have w2 := w.2; simp_all)
        · exact hy y a (by omega)
      · skip
        try simp only [b2_cast, b2_ncast, Classical.not_not, lcm_lt, lcm_ge, lcm_gt, lcm_le, lcm_eq, b2_0, b2_n0, Bool.not_eq_false, Bool.not_eq_true, decide_eq_true_eq, decide_eq_false_iff_not] at bh4
        refine V.blk [(30, .aload 0, 1), (31, .iload 5, 2), (33, .iload 2, 1)] (ps := []) (z' := (34, [some (aR 36), some (aI kd), some (aI (rl : Int)), some (aI (pe : Int)), some (aI x0), some (aI (x : Int))], [aI (rl : Int), aI (x : Int), aR 36], MM N I J)) (by decide +kernel) rfl trivial ?_
        refine V.cs (c := 108) (na := 2) [aI (rl : Int), aI (x : Int)] [aR 36] (by decide +kernel) rfl rfl (V.pr (c_X9_spotOf (by omega)) ?_)
        show V 59 (37, [some (aR 36), some (aI kd), some (aI (rl : Int)), some (aI (pe : Int)), some (aI x0), some (aI (x : Int))], [aI ((x * 8 + rl : Nat) : Int), aR 36], MM N I J) _
        refine V.blk [(37, .iload 3, 1)] (ps := []) (z' := (38, [some (aR 36), some (aI kd), some (aI (rl : Int)), some (aI (pe : Int)), some (aI x0), some (aI (x : Int))], [aI (pe : Int), aI ((x * 8 + rl : Nat) : Int), aR 36], MM N I J)) (by decide +kernel) rfl trivial ?_
        refine V.cv (c := 58) (na := 3) (o := 7) (a := 36) [aI (pe : Int), aI ((x * 8 + rl : Nat) : Int)] [] (by decide +kernel) rfl rfl rfl rfl rfl (V.pr (c_isIn (by omega) (by omega)) ?_)
        show V 59 (41, [some (aR 36), some (aI kd), some (aI (rl : Int)), some (aI (pe : Int)), some (aI x0), some (aI (x : Int))], [aI (b2 (tb (J 39 (x * 8 + rl)) pe))], MM N I J) _
        refine V.blk [(41, .ifCond .eq 47, 3)] (ps := []) (z' := (brc .eq (b2 (tb (J 39 (x * 8 + rl)) pe)) 0 47 44, [some (aR 36), some (aI kd), some (aI (rl : Int)), some (aI (pe : Int)), some (aI x0), some (aI (x : Int))], [], MM N I J)) (by decide +kernel) rfl trivial ?_
        refine V.eq (fun bh5 => ?_) (fun bh6 => ?_)
        · skip
          try simp only [b2_cast, b2_ncast, Classical.not_not, lcm_lt, lcm_ge, lcm_gt, lcm_le, lcm_eq, b2_0, b2_n0, Bool.not_eq_false, Bool.not_eq_true, decide_eq_true_eq, decide_eq_false_iff_not] at bh5
          refine V.blk [(47, .iinc 5 1, 3), (50, .goto 4, 3)] (ps := [inR ((x : Int) + 1)]) (z' := (4, [some (aR 36), some (aI kd), some (aI (rl : Int)), some (aI (pe : Int)), some (aI x0), some (aI ((x + 1 : Nat) : Int))], [], MM N I J)) (by decide +kernel) rfl (show (inR ((x : Int) + 1)) from (by unfold inR; omega)) ?_
          refine ih (x + 1) (by omega) (by omega) (fun y a b => ?_)
          by_cases e : y = x
          · subst e
            intro w
            first
              | exact absurd w.1 (by assumption)
              | (have w2 := w.2; simp_all)
          · exact hy y a (by omega)
        · skip
          try simp only [b2_cast, b2_ncast, Classical.not_not, lcm_lt, lcm_ge, lcm_gt, lcm_le, lcm_eq, b2_0, b2_n0, Bool.not_eq_false, Bool.not_eq_true, decide_eq_true_eq, decide_eq_false_iff_not] at bh6
          refine V.blk [(44, .iload 5, 2)] (ps := []) (z' := (46, [some (aR 36), some (aI kd), some (aI (rl : Int)), some (aI (pe : Int)), some (aI x0), some (aI (x : Int))], [aI (x : Int)], MM N I J)) (by decide +kernel) rfl trivial ?_
          refine V.ri (by decide +kernel) ?_
          exact ⟨_, rfl, rfl, Or.inr ⟨x, rfl, by omega, by omega, ⟨by assumption, by assumption⟩, hy⟩⟩
theorem c_next {N : Nat} {I : MI} {J : MJ} {kd x0 : Int} {rl pe : Nat} (h40 : 0 ≤ I 1 1 ∧ I 1 1 ≤ 40) (hrl : rl < 8) (hpe : pe < 40) (hx : 0 ≤ x0) : CT 59 [aR 36, aI kd, aI (rl : Int), aI (pe : Int), aI x0] (MM N I J) (fun r M' => ∃ z, r = some (aI z) ∧ M' = MM N I J ∧ NextR I (J 39) kd rl pe x0 z) := by
  obtain ⟨x, ex⟩ : ∃ x : Nat, x0 = x := ⟨x0.toNat, by omega⟩
  refine CT.ofV (n := 6) (ls := [some (aR 36), some (aI kd), some (aI (rl : Int)), some (aI (pe : Int)), some (aI x0), none]) rfl rfl rfl ?_
  refine V.blk [(0, .iload 4, 2), (2, .istore 5, 2)] (ps := []) (z' := (4, [some (aR 36), some (aI kd), some (aI (rl : Int)), some (aI (pe : Int)), some (aI x0), some (aI x0)], [], MM N I J)) (by decide +kernel) rfl trivial ?_
  have g := l_next (N := N) (I := I) (J := J) (x0 := x0) (kd := kd) h40 hrl hpe 41 x (by omega) (by omega) (fun y a b => by exfalso; omega)
  rw [← ex] at g
  exact g
theorem next_vw {I I' : MI} {f : Nat → Int64} {kd : Int} {rl pe : Nat} {x0 z : Int} (h40 : I 1 1 ≤ 40) (hrl : rl < 8) (h1 : I' 1 = I 1) (h2 : I' 2 = I 2) (hx : 0 ≤ x0) (h : NextR I' f kd rl pe x0 z) : NextR I (vw f) kd rl pe x0 z := by
  have e : ∀ x : Nat, (x : Int) < I 1 1 → (hasT I (vw f) kd rl pe x ↔ hasT I' f kd rl pe x) := by
    intro x hlt
    unfold hasT
    rw [h2, vw_lt (by omega)]
  unfold NextR at h ⊢
  rw [h1] at h
  rcases h with ⟨a, b⟩ | ⟨x, a, b, c, d, g⟩
  · exact Or.inl ⟨a, fun x p q w => b x p q ((e x q).mp w)⟩
  · exact Or.inr ⟨x, a, b, c, (e x c).mpr d, fun y p q w => g y p q ((e y (by omega)).mp w)⟩
def ReachR (I : MI) (J : MJ) (kd rl pe x0 t : Int) (a : AV) (U : MI) : Prop :=
  (¬ (0 ≤ kd ∧ kd < 6 ∧ 0 ≤ rl ∧ rl < 8 ∧ 0 ≤ pe ∧ pe < 40 ∧ 0 ≤ t ∧ t ≤ I 10 13) → a = aI (-3) ∧ U = rfU I (-3)) ∧
  (0 ≤ kd ∧ kd < 6 ∧ 0 ≤ rl ∧ rl < 8 ∧ 0 ≤ pe ∧ pe < 40 ∧ 0 ≤ t ∧ t ≤ I 10 13 → (x0 < 0 → a = aI (-4) ∧ U = rfU I (-4)) ∧ (0 ≤ x0 → U = I ∧ ∃ v z, SETS I J (cnB I t (I 0 11) (-1)) v ∧ NextR I v kd rl.toNat pe.toNat x0 z ∧ a = aI z))
theorem c_nextZ {N : Nat} {I : MI} {J : MJ} {kd rl pe x0 : Int} (h40 : 0 ≤ I 1 1 ∧ I 1 1 ≤ 40) (hrl : 0 ≤ rl ∧ rl < 8) (hpe : 0 ≤ pe ∧ pe < 40) (hx : 0 ≤ x0) : CT 59 [aR 36, aI kd, aI rl, aI pe, aI x0] (MM N I J) (fun r M' => ∃ z, r = some (aI z) ∧ M' = MM N I J ∧ NextR I (J 39) kd rl.toNat pe.toNat x0 z) := by
  have := c_next (N := N) (I := I) (J := J) (kd := kd) (rl := rl.toNat) (pe := pe.toNat) h40 (by omega) (by omega) hx
  rw [show ((rl.toNat : Nat) : Int) = rl by omega, show ((pe.toNat : Nat) : Int) = pe by omega] at this
  exact this
theorem c_X9_reach {N : Nat} {I : MI} {J : MJ} {kd rl pe x0 t : Int} (hX : WX I J) (hf : Rf I) : CT 87 [aR 0, aI kd, aI rl, aI pe, aI x0, aI t] (MM N I J) (QX N (ReachR I J kd rl pe x0 t)) := by
  have h40 := hX.prOK.1
  refine CT.ofV (n := 6) (ls := [some (aR 0), some (aI kd), some (aI rl), some (aI pe), some (aI x0), some (aI t)]) rfl rfl rfl ?_
  refine V.blk [(0, .aload 0, 1), (1, .iload 1, 1), (2, .iload 2, 1), (3, .iload 3, 1), (4, .iload 5, 2)] (ps := []) (z' := (6, [some (aR 0), some (aI kd), some (aI rl), some (aI pe), some (aI x0), some (aI t)], [aI t, aI pe, aI rl, aI kd, aR 0], MM N I J)) (by decide +kernel) rfl trivial ?_
  refine V.cv (c := 102) (na := 5) (o := 9) (a := 0) [aI t, aI pe, aI rl, aI kd] [] (by decide +kernel) rfl rfl rfl rfl rfl (V.pr (c_X9_isSearch) ?_)
  show V 87 (9, [some (aR 0), some (aI kd), some (aI rl), some (aI pe), some (aI x0), some (aI t)], [aI (b2 (decide (0 ≤ kd ∧ kd < 6 ∧ 0 ≤ rl ∧ rl < 8 ∧ 0 ≤ pe ∧ pe < 40 ∧ 0 ≤ t ∧ t ≤ I 10 13)))], MM N I J) _
  refine V.blk [(9, .ifCond .ne 19, 3)] (ps := []) (z' := (brc .ne (b2 (decide (0 ≤ kd ∧ kd < 6 ∧ 0 ≤ rl ∧ rl < 8 ∧ 0 ≤ pe ∧ pe < 40 ∧ 0 ≤ t ∧ t ≤ I 10 13))) 0 19 12, [some (aR 0), some (aI kd), some (aI rl), some (aI pe), some (aI x0), some (aI t)], [], MM N I J)) (by decide +kernel) rfl trivial ?_
  refine V.ne (fun bh1 => ?_) (fun bh2 => ?_)
  · skip
    try simp only [b2_cast, b2_ncast, Classical.not_not, lcm_lt, lcm_ge, lcm_gt, lcm_le, lcm_eq, b2_0, b2_n0, Bool.not_eq_false, Bool.not_eq_true, decide_eq_true_eq, decide_eq_false_iff_not] at bh1
    refine V.blk [(19, .iload 4, 2), (21, .ifCond .ge 31, 3)] (ps := []) (z' := (brc .ge x0 0 31 24, [some (aR 0), some (aI kd), some (aI rl), some (aI pe), some (aI x0), some (aI t)], [], MM N I J)) (by decide +kernel) rfl trivial ?_
    refine V.ge (fun bh3 => ?_) (fun bh4 => ?_)
    · skip
      try simp only [b2_cast, b2_ncast, Classical.not_not, lcm_lt, lcm_ge, lcm_gt, lcm_le, lcm_eq, b2_0, b2_n0, Bool.not_eq_false, Bool.not_eq_true, decide_eq_true_eq, decide_eq_false_iff_not] at bh3
      refine V.blk [(31, .aload 0, 1), (32, .getfield 9005, 3), (35, .iload 5, 2), (37, .aload 0, 1), (38, .getfield 9011, 3), (41, .bipush (-1), 1)] (ps := []) (z' := (42, [some (aR 0), some (aI kd), some (aI rl), some (aI pe), some (aI x0), some (aI t)], [aI (-1), aI (I 0 11), aI t, aR 36], MM N I J)) (by decide +kernel) rfl trivial ?_
      refine V.cv (c := 49) (na := 4) (o := 7) (a := 36) [aI (-1), aI (I 0 11), aI t] [] (by decide +kernel) rfl rfl rfl rfl rfl ((c_look hX).mono (fun rv M1 q => ?_))
      obtain ⟨rfl, IL, JL, rfl, hL⟩ := q
      show V 87 (45, [some (aR 0), some (aI kd), some (aI rl), some (aI pe), some (aI x0), some (aI t)], [], MM N IL JL) _
      refine V.blk [(45, .aload 0, 1), (46, .getfield 9005, 3), (49, .iload 1, 1), (50, .iload 2, 1), (51, .iload 3, 1), (52, .iload 4, 2)] (ps := []) (z' := (54, [some (aR 0), some (aI kd), some (aI rl), some (aI pe), some (aI x0), some (aI t)], [aI x0, aI pe, aI rl, aI kd, aR 36], MM N IL JL)) (by decide +kernel) rfl trivial ?_
      refine V.cv (c := 59) (na := 5) (o := 7) (a := 36) [aI x0, aI pe, aI rl, aI kd] [] (by decide +kernel) rfl rfl rfl rfl rfl ((c_nextZ (by rw [hL.1 1 (by decide) (by decide) (by decide) (by decide)]; exact h40) (by omega) (by omega) (by omega)).mono (fun rv M1 q => ?_))
      obtain ⟨z, rfl, rfl, hz⟩ := q
      show V 87 (57, [some (aR 0), some (aI kd), some (aI rl), some (aI pe), some (aI x0), some (aI t)], [aI z], MM N IL JL) _
      refine V.ri (by decide +kernel) ?_
      exact ⟨_, I, _, JL, rfl, rfl, ⟨fun w => by exfalso; omega, fun _ => ⟨fun w => by exfalso; omega, fun _ => ⟨rfl, _, z, hL.2.2.2, next_vw h40.2 (by omega) (hL.1 1 (by decide) (by decide) (by decide) (by decide)) (hL.1 2 (by decide) (by decide) (by decide) (by decide)) (by omega) hz, rfl⟩⟩⟩, hL.ce, hL.sv hX⟩
    · skip
      try simp only [b2_cast, b2_ncast, Classical.not_not, lcm_lt, lcm_ge, lcm_gt, lcm_le, lcm_eq, b2_0, b2_n0, Bool.not_eq_false, Bool.not_eq_true, decide_eq_true_eq, decide_eq_false_iff_not] at bh4
      refine V.blk [(24, .aload 0, 1), (25, .bipush (-4), 2)] (ps := []) (z' := (27, [some (aR 0), some (aI kd), some (aI rl), some (aI pe), some (aI x0), some (aI t)], [aI (-4), aR 0], MM N I J)) (by decide +kernel) rfl trivial ?_
      refine V.cv (c := 98) (na := 2) (o := 9) (a := 0) [aI (-4)] [] (by decide +kernel) rfl rfl rfl rfl rfl ((c_refuse (by assumption) (by omega)).mono (fun rv M1 q => ?_))
      obtain ⟨rfl, rfl⟩ := q
      show V 87 (30, [some (aR 0), some (aI kd), some (aI rl), some (aI pe), some (aI x0), some (aI t)], [aI (-4)], MM N ((rfU I (-4))) J) _
      refine V.nI (fun I5 eI5 => ?_)
      refine V.ri (by decide +kernel) ?_
      exact ⟨_, rfU I (-4), _, J, rfl, rfl, ⟨fun w => by exfalso; omega, fun _ => ⟨fun _ => ⟨rfl, rfl⟩, fun w => by exfalso; omega⟩⟩, by subst_vars; exact CE.refl _, by subst_vars; exact sv_rf hX.2.2.2.2.2.2.2.1⟩
  · skip
    try simp only [b2_cast, b2_ncast, Classical.not_not, lcm_lt, lcm_ge, lcm_gt, lcm_le, lcm_eq, b2_0, b2_n0, Bool.not_eq_false, Bool.not_eq_true, decide_eq_true_eq, decide_eq_false_iff_not] at bh2
    refine V.blk [(12, .aload 0, 1), (13, .bipush (-3), 2)] (ps := []) (z' := (15, [some (aR 0), some (aI kd), some (aI rl), some (aI pe), some (aI x0), some (aI t)], [aI (-3), aR 0], MM N I J)) (by decide +kernel) rfl trivial ?_
    refine V.cv (c := 98) (na := 2) (o := 9) (a := 0) [aI (-3)] [] (by decide +kernel) rfl rfl rfl rfl rfl ((c_refuse (by assumption) (by omega)).mono (fun rv M1 q => ?_))
    obtain ⟨rfl, rfl⟩ := q
    show V 87 (18, [some (aR 0), some (aI kd), some (aI rl), some (aI pe), some (aI x0), some (aI t)], [aI (-3)], MM N ((rfU I (-3))) J) _
    refine V.nI (fun I6 eI6 => ?_)
    refine V.ri (by decide +kernel) ?_
    exact ⟨_, rfU I (-3), _, J, rfl, rfl, ⟨fun _ => ⟨rfl, rfl⟩, fun w => by exfalso; omega⟩, by subst_vars; exact CE.refl _, by subst_vars; exact sv_rf hX.2.2.2.2.2.2.2.1⟩
def appU (I : MI) (x : Int) : MI := ma (ma I 49 (ma (I 49) (I 48 1).toNat x)) 48 (ma (I 48) 1 (I 48 1 + 1))
def hasB (I : MI) (v : SV) (kd : Int) (rl pe x : Nat) : Bool := decide (I 2 x = kd) && tb (v (x * 8 + rl)) pe
theorem hasB_t {I : MI} {v : SV} {kd : Int} {rl pe x : Nat} : hasB I v kd rl pe x = true ↔ hasT I v kd rl pe x := by
  unfold hasB
  rw [Bool.and_eq_true, decide_eq_true_eq]
/-- the row behind the first x things -/
def lsF (I : MI) (v : SV) (kd : Int) (rl pe : Nat) : Nat → MI
  | 0 => ma I 48 (ma (I 48) 1 0)
  | x + 1 => if hasB I v kd rl pe x = true then appU (lsF I v kd rl pe x) x else lsF I v kd rl pe x
theorem appU_ne (I : MI) (x : Int) {i : Nat} (h : i ≠ 48) (g : i ≠ 49) : appU I x i = I i := by
  unfold appU
  rw [ma_ne _ _ h, ma_ne _ _ g]
theorem appU_m (I : MI) (x : Int) : appU I x 48 1 = I 48 1 + 1 := by
  unfold appU
  rw [ma_self, ma_self]
theorem lsF_m {I : MI} {v : SV} {kd : Int} {rl pe : Nat} : ∀ x : Nat, 0 ≤ lsF I v kd rl pe x 48 1 ∧ lsF I v kd rl pe x 48 1 ≤ x
  | 0 => by
    unfold lsF
    rw [ma_self, ma_self]
    exact ⟨Int.le_refl _, Int.le_refl _⟩
  | x + 1 => by
    have := lsF_m (I := I) (v := v) (kd := kd) (rl := rl) (pe := pe) x
    unfold lsF
    split
    · rw [appU_m]; omega
    · omega
theorem CE.app {U I' : MI} (h : CE U I') (x : Int) : CE (appU U x) (appU I' x) := by
  have h1 := h.ma (i := 49) (k := (U 48 1).toNat) (v := x) rfl
  have h2 := h1.ma (i := 48) (k := 1) (v := U 48 1 + 1) rfl
  unfold appU
  rw [ma_ne _ _ (show (48 : Nat) ≠ 49 by decide), ma_ne _ _ (show (48 : Nat) ≠ 49 by decide)] at h2
  rw [h.1 48 rfl] at h2 ⊢
  exact h2
def ListR (I : MI) (J : MJ) (kd rl pe t : Int) (a : AV) (U : MI) : Prop :=
  (¬ (0 ≤ kd ∧ kd < 6 ∧ 0 ≤ rl ∧ rl < 8 ∧ 0 ≤ pe ∧ pe < 40 ∧ 0 ≤ t ∧ t ≤ I 10 13) → a = aI (-3) ∧ U = rfU I (-3)) ∧
  (0 ≤ kd ∧ kd < 6 ∧ 0 ≤ rl ∧ rl < 8 ∧ 0 ≤ pe ∧ pe < 40 ∧ 0 ≤ t ∧ t ≤ I 10 13 → ∃ v, SETS I J (cnB I t (I 0 11) (-1)) v ∧ U = lsF I v kd rl.toNat pe.toNat (I 1 1).toNat ∧ a = aI (U 48 1))
theorem c_begin {N : Nat} {I : MI} {J : MJ} : CT 42 [aR 48] (MM N I J) (QV N J (ma I 48 (ma (I 48) 1 0))) := by
  refine CT.ofV (n := 1) (ls := [some (aR 48)]) rfl rfl rfl ?_
  refine V.blk [(0, .aload 0, 1), (1, .bipush 0, 1), (2, .putfield 5001, 3)] (ps := []) (z' := (5, [some (aR 48)], [], MM N (ma I 48 (ma (I 48) 1 0)) J)) (by decide +kernel) rfl trivial ?_
  refine V.nI (fun I1 eI1 => ?_)
  refine V.rv (by decide +kernel) ?_
  exact ⟨rfl, congrArg (fun w => MM N w J) eI1⟩
theorem c_append {N : Nat} {I : MI} {J : MJ} {x : Int} (h : 0 ≤ I 48 1 ∧ I 48 1 < 40) : CT 43 [aR 48, aI x] (MM N I J) (QV N J (appU I x)) := by
  refine CT.ofV (n := 2) (ls := [some (aR 48), some (aI x)]) rfl rfl rfl ?_
  refine V.blk [(0, .aload 0, 1), (1, .getfield 5001, 3), (4, .bipush 40, 2)] (ps := []) (z' := (6, [some (aR 48), some (aI x)], [aI 40, aI (I 48 1)], MM N I J)) (by decide +kernel) rfl trivial ?_
  refine V.cs (c := 103) (na := 2) [aI 40, aI (I 48 1)] [] (by decide +kernel) rfl rfl (V.pr (c_X9_within) ?_)
  show V 43 (9, [some (aR 48), some (aI x)], [aI (b2 (decide (0 ≤ (I 48 1) ∧ (I 48 1) < 40)))], MM N I J) _
  refine V.blk [(9, .ifCond .eq 32, 3)] (ps := []) (z' := (brc .eq (b2 (decide (0 ≤ (I 48 1) ∧ (I 48 1) < 40))) 0 32 12, [some (aR 48), some (aI x)], [], MM N I J)) (by decide +kernel) rfl trivial ?_
  refine V.eq (fun bh1 => ?_) (fun bh2 => ?_)
  · skip
    exfalso
    rw [b2_cast] at bh1
    omega
  · skip
    refine V.blk [(12, .aload 0, 1), (13, .getfield 5000, 3), (16, .aload 0, 1), (17, .getfield 5001, 3), (20, .iload 1, 1), (21, .iastore, 1), (22, .aload 0, 1), (23, .dup, 1), (24, .getfield 5001, 3), (27, .bipush 1, 1), (28, .iadd, 1), (29, .putfield 5001, 3)] (ps := [0 ≤ (I 48 1) ∧ (I 48 1) < 40, inR (((ma I 49 (ma (I 49) ((I 48 1).toNat) x)) 48 1) + 1)]) (z' := (32, [some (aR 48), some (aI x)], [], MM N (ma (ma I 49 (ma (I 49) ((I 48 1).toNat) x)) 48 (ma ((ma I 49 (ma (I 49) ((I 48 1).toNat) x)) 48) 1 (((ma I 49 (ma (I 49) ((I 48 1).toNat) x)) 48 1) + 1))) J)) (by decide +kernel) rfl (show (0 ≤ (I 48 1) ∧ (I 48 1) < 40) ∧ (inR (((ma I 49 (ma (I 49) ((I 48 1).toNat) x)) 48 1) + 1)) from ⟨(by first | omega | (simp only [ma_ne _ _ (show (48 : Nat) ≠ 49 by decide)]; omega)), (by unfold inR; first | omega | (simp only [ma_ne _ _ (show (48 : Nat) ≠ 49 by decide)]; omega))⟩) ?_
    refine V.nI (fun I3 eI3 => ?_)
    refine V.rv (by decide +kernel) ?_
    refine ⟨rfl, congrArg (fun w => MM N w J) ?_⟩
    subst eI3
    unfold appU
    rw [ma_ne _ _ (show (48 : Nat) ≠ 49 by decide)]
theorem l_list {N : Nat} {I : MI} {JL : MJ} {v : SV} {kd t : Int} {rl pe : Nat} (h40 : 0 ≤ I 1 1 ∧ I 1 1 ≤ 40) (hrl : rl < 8) (hpe : pe < 40) (hv : v = vw (JL 39)) : ∀ (k x : Nat) (I' : MI), 42 ≤ k + x → (x : Int) ≤ I 1 1 → CE (lsF I v kd rl pe x) I' → I' 1 = I 1 → I' 2 = I 2 → V 93 (43, [some (aR 0), some (aI kd), some (aI (rl : Int)), some (aI (pe : Int)), some (aI t), some (aI (x : Int))], [], MM N I' JL) (fun r M' => ∃ I', r = some (aI (lsF I v kd rl pe (I 1 1).toNat 48 1)) ∧ M' = MM N I' JL ∧ CE (lsF I v kd rl pe (I 1 1).toNat) I') := by
  intro k
  induction k with
  | zero => intro x I' h1 h2; exfalso; omega
  | succ k ih =>
    intro x I' h1 h2 hc e1 e2
    have e11 : I' 1 1 = I 1 1 := by rw [e1]
    have e22 : I' 2 x = I 2 x := by rw [e2]
    have em : I' 48 1 = lsF I v kd rl pe x 48 1 := by rw [hc.1 48 rfl]
    have lm := lsF_m (I := I) (v := v) (kd := kd) (rl := rl) (pe := pe) x
    refine V.blk [(43, .iload 5, 2), (45, .aload 0, 1), (46, .getfield 9000, 3), (49, .getfield 8001, 3), (52, .if_icmp .ge 101, 3)] (ps := []) (z' := (brc .ge (x : Int) (I' 1 1) 101 55, [some (aR 0), some (aI kd), some (aI (rl : Int)), some (aI (pe : Int)), some (aI t), some (aI (x : Int))], [], MM N I' JL)) (by decide +kernel) rfl trivial ?_
    refine V.ge (fun bh1 => ?_) (fun bh2 => ?_)
    · skip
      try simp only [b2_cast, b2_ncast, Classical.not_not, lcm_lt, lcm_ge, lcm_gt, lcm_le, lcm_eq, b2_0, b2_n0, Bool.not_eq_false, Bool.not_eq_true, decide_eq_true_eq, decide_eq_false_iff_not] at bh1
      refine V.blk [(101, .aload 0, 1), (102, .getfield 9008, 3), (105, .getfield 5001, 3)] (ps := []) (z' := (108, [some (aR 0), some (aI kd), some (aI (rl : Int)), some (aI (pe : Int)), some (aI t), some (aI (x : Int))], [aI (I' 48 1)], MM N I' JL)) (by decide +kernel) rfl trivial ?_
      refine V.ri (by decide +kernel) ?_
      have ex : (I 1 1).toNat = x := by omega
      rw [ex, em]
      exact ⟨I', rfl, rfl, hc⟩
    · skip
      try simp only [b2_cast, b2_ncast, Classical.not_not, lcm_lt, lcm_ge, lcm_gt, lcm_le, lcm_eq, b2_0, b2_n0, Bool.not_eq_false, Bool.not_eq_true, decide_eq_true_eq, decide_eq_false_iff_not] at bh2
      refine V.blk [(55, .aload 0, 1), (56, .getfield 9000, 3), (59, .getfield 8000, 3), (62, .iload 5, 2), (64, .iaload, 1), (65, .iload 1, 1), (66, .if_icmp .ne 95, 3)] (ps := [0 ≤ (x : Int) ∧ (x : Int) < 40]) (z' := (brc .ne (I' 2 x) kd 95 69, [some (aR 0), some (aI kd), some (aI (rl : Int)), some (aI (pe : Int)), some (aI t), some (aI (x : Int))], [], MM N I' JL)) (by decide +kernel) rfl (show (0 ≤ (x : Int) ∧ (x : Int) < 40) from (by omega)) ?_
      refine V.ne (fun bh3 => ?_) (fun bh4 => ?_)
      · skip
        try simp only [b2_cast, b2_ncast, Classical.not_not, lcm_lt, lcm_ge, lcm_gt, lcm_le, lcm_eq, b2_0, b2_n0, Bool.not_eq_false, Bool.not_eq_true, decide_eq_true_eq, decide_eq_false_iff_not] at bh3
        refine V.blk [(95, .iinc 5 1, 3), (98, .goto 43, 3)] (ps := [inR ((x : Int) + 1)]) (z' := (43, [some (aR 0), some (aI kd), some (aI (rl : Int)), some (aI (pe : Int)), some (aI t), some (aI ((x + 1 : Nat) : Int))], [], MM N I' JL)) (by decide +kernel) rfl (show (inR ((x : Int) + 1)) from (by unfold inR; omega)) ?_
        refine ih (x + 1) I' (by omega) (by omega) ?_ e1 e2
        have hn : ¬ hasB I v kd rl pe x = true := by
          rw [hasB_t]
          intro w
          first
            | exact absurd (e22.trans w.1) (by assumption)
            | (have w2 := w.2; rw [hv, vw_lt (by omega)] at w2; simp_all)
        rw [lsF, if_neg hn]
        exact hc
      · skip
        try simp only [b2_cast, b2_ncast, Classical.not_not, lcm_lt, lcm_ge, lcm_gt, lcm_le, lcm_eq, b2_0, b2_n0, Bool.not_eq_false, Bool.not_eq_true, decide_eq_true_eq, decide_eq_false_iff_not] at bh4
        refine V.blk [(69, .aload 0, 1), (70, .getfield 9005, 3), (73, .iload 5, 2), (75, .iload 2, 1)] (ps := []) (z' := (76, [some (aR 0), some (aI kd), some (aI (rl : Int)), some (aI (pe : Int)), some (aI t), some (aI (x : Int))], [aI (rl : Int), aI (x : Int), aR 36], MM N I' JL)) (by decide +kernel) rfl trivial ?_
        refine V.cs (c := 108) (na := 2) [aI (rl : Int), aI (x : Int)] [aR 36] (by decide +kernel) rfl rfl (V.pr (c_X9_spotOf (by omega)) ?_)
        show V 93 (79, [some (aR 0), some (aI kd), some (aI (rl : Int)), some (aI (pe : Int)), some (aI t), some (aI (x : Int))], [aI ((x * 8 + rl : Nat) : Int), aR 36], MM N I' JL) _
        refine V.blk [(79, .iload 3, 1)] (ps := []) (z' := (80, [some (aR 0), some (aI kd), some (aI (rl : Int)), some (aI (pe : Int)), some (aI t), some (aI (x : Int))], [aI (pe : Int), aI ((x * 8 + rl : Nat) : Int), aR 36], MM N I' JL)) (by decide +kernel) rfl trivial ?_
        refine V.cv (c := 58) (na := 3) (o := 7) (a := 36) [aI (pe : Int), aI ((x * 8 + rl : Nat) : Int)] [] (by decide +kernel) rfl rfl rfl rfl rfl (V.pr (c_isIn (by omega) (by omega)) ?_)
        show V 93 (83, [some (aR 0), some (aI kd), some (aI (rl : Int)), some (aI (pe : Int)), some (aI t), some (aI (x : Int))], [aI (b2 (tb (JL 39 (x * 8 + rl)) pe))], MM N I' JL) _
        refine V.blk [(83, .ifCond .eq 95, 3)] (ps := []) (z' := (brc .eq (b2 (tb (JL 39 (x * 8 + rl)) pe)) 0 95 86, [some (aR 0), some (aI kd), some (aI (rl : Int)), some (aI (pe : Int)), some (aI t), some (aI (x : Int))], [], MM N I' JL)) (by decide +kernel) rfl trivial ?_
        refine V.eq (fun bh5 => ?_) (fun bh6 => ?_)
        · skip
          try simp only [b2_cast, b2_ncast, Classical.not_not, lcm_lt, lcm_ge, lcm_gt, lcm_le, lcm_eq, b2_0, b2_n0, Bool.not_eq_false, Bool.not_eq_true, decide_eq_true_eq, decide_eq_false_iff_not] at bh5
          refine V.blk [(95, .iinc 5 1, 3), (98, .goto 43, 3)] (ps := [inR ((x : Int) + 1)]) (z' := (43, [some (aR 0), some (aI kd), some (aI (rl : Int)), some (aI (pe : Int)), some (aI t), some (aI ((x + 1 : Nat) : Int))], [], MM N I' JL)) (by decide +kernel) rfl (show (inR ((x : Int) + 1)) from (by unfold inR; omega)) ?_
          refine ih (x + 1) I' (by omega) (by omega) ?_ e1 e2
          have hn : ¬ hasB I v kd rl pe x = true := by
            rw [hasB_t]
            intro w
            first
              | exact absurd (e22.trans w.1) (by assumption)
              | (have w2 := w.2; rw [hv, vw_lt (by omega)] at w2; simp_all)
          rw [lsF, if_neg hn]
          exact hc
        · skip
          try simp only [b2_cast, b2_ncast, Classical.not_not, lcm_lt, lcm_ge, lcm_gt, lcm_le, lcm_eq, b2_0, b2_n0, Bool.not_eq_false, Bool.not_eq_true, decide_eq_true_eq, decide_eq_false_iff_not] at bh6
          refine V.blk [(86, .aload 0, 1), (87, .getfield 9008, 3), (90, .iload 5, 2)] (ps := []) (z' := (92, [some (aR 0), some (aI kd), some (aI (rl : Int)), some (aI (pe : Int)), some (aI t), some (aI (x : Int))], [aI (x : Int), aR 48], MM N I' JL)) (by decide +kernel) rfl trivial ?_
          refine V.cv (c := 43) (na := 2) (o := 5) (a := 48) [aI (x : Int)] [] (by decide +kernel) rfl rfl rfl rfl rfl ((c_append (by omega)).mono (fun rv M1 q => ?_))
          obtain ⟨rfl, rfl⟩ := q
          show V 93 (95, [some (aR 0), some (aI kd), some (aI (rl : Int)), some (aI (pe : Int)), some (aI t), some (aI (x : Int))], [], MM N ((appU I' x)) JL) _
          refine V.blk [(95, .iinc 5 1, 3), (98, .goto 43, 3)] (ps := [inR ((x : Int) + 1)]) (z' := (43, [some (aR 0), some (aI kd), some (aI (rl : Int)), some (aI (pe : Int)), some (aI t), some (aI ((x + 1 : Nat) : Int))], [], MM N ((appU I' x)) JL)) (by decide +kernel) rfl (show (inR ((x : Int) + 1)) from (by unfold inR; omega)) ?_
          refine V.nI (fun I7 eI7 => ?_)
          have hh : hasB I v kd rl pe x = true := by
            rw [hasB_t]
            refine ⟨e22 ▸ (by assumption), ?_⟩
            rw [hv, vw_lt (by omega)]
            assumption
          refine ih (x + 1) _ (by omega) (by omega) ?_ (by subst eI7; rw [appU_ne _ _ (by decide) (by decide)]; exact e1) (by subst eI7; rw [appU_ne _ _ (by decide) (by decide)]; exact e2)
          rw [lsF, if_pos hh, eI7]
          exact hc.app _
theorem lsF_ne {I : MI} {v : SV} {kd : Int} {rl pe : Nat} : ∀ (x : Nat) {i : Nat} (h : i ≠ 48) (g : i ≠ 49), lsF I v kd rl pe x i = I i
  | 0, i, h, g => ma_ne _ _ h
  | x + 1, i, h, g => by
    unfold lsF
    split
    · rw [appU_ne _ _ h g, lsF_ne x h g]
    · exact lsF_ne x h g
theorem c_X9_list {N : Nat} {I : MI} {J : MJ} {kd rl pe t : Int} (hX : WX I J) (hf : Rf I) : CT 93 [aR 0, aI kd, aI rl, aI pe, aI t] (MM N I J) (QX N (ListR I J kd rl pe t)) := by
  have h40 := hX.prOK.1
  refine CT.ofV (n := 6) (ls := [some (aR 0), some (aI kd), some (aI rl), some (aI pe), some (aI t), none]) rfl rfl rfl ?_
  refine V.blk [(0, .aload 0, 1), (1, .iload 1, 1), (2, .iload 2, 1), (3, .iload 3, 1), (4, .iload 4, 2)] (ps := []) (z' := (6, [some (aR 0), some (aI kd), some (aI rl), some (aI pe), some (aI t), none], [aI t, aI pe, aI rl, aI kd, aR 0], MM N I J)) (by decide +kernel) rfl trivial ?_
  refine V.cv (c := 102) (na := 5) (o := 9) (a := 0) [aI t, aI pe, aI rl, aI kd] [] (by decide +kernel) rfl rfl rfl rfl rfl (V.pr (c_X9_isSearch) ?_)
  show V 93 (9, [some (aR 0), some (aI kd), some (aI rl), some (aI pe), some (aI t), none], [aI (b2 (decide (0 ≤ kd ∧ kd < 6 ∧ 0 ≤ rl ∧ rl < 8 ∧ 0 ≤ pe ∧ pe < 40 ∧ 0 ≤ t ∧ t ≤ I 10 13)))], MM N I J) _
  refine V.blk [(9, .ifCond .ne 19, 3)] (ps := []) (z' := (brc .ne (b2 (decide (0 ≤ kd ∧ kd < 6 ∧ 0 ≤ rl ∧ rl < 8 ∧ 0 ≤ pe ∧ pe < 40 ∧ 0 ≤ t ∧ t ≤ I 10 13))) 0 19 12, [some (aR 0), some (aI kd), some (aI rl), some (aI pe), some (aI t), none], [], MM N I J)) (by decide +kernel) rfl trivial ?_
  refine V.ne (fun bh1 => ?_) (fun bh2 => ?_)
  · skip
    try simp only [b2_cast, b2_ncast, Classical.not_not, lcm_lt, lcm_ge, lcm_gt, lcm_le, lcm_eq, b2_0, b2_n0, Bool.not_eq_false, Bool.not_eq_true, decide_eq_true_eq, decide_eq_false_iff_not] at bh1
    refine V.blk [(19, .aload 0, 1), (20, .getfield 9005, 3), (23, .iload 4, 2), (25, .aload 0, 1), (26, .getfield 9011, 3), (29, .bipush (-1), 1)] (ps := []) (z' := (30, [some (aR 0), some (aI kd), some (aI rl), some (aI pe), some (aI t), none], [aI (-1), aI (I 0 11), aI t, aR 36], MM N I J)) (by decide +kernel) rfl trivial ?_
    refine V.cv (c := 49) (na := 4) (o := 7) (a := 36) [aI (-1), aI (I 0 11), aI t] [] (by decide +kernel) rfl rfl rfl rfl rfl ((c_look hX).mono (fun rv M1 q => ?_))
    obtain ⟨rfl, IL, JL, rfl, hL⟩ := q
    show V 93 (33, [some (aR 0), some (aI kd), some (aI rl), some (aI pe), some (aI t), none], [], MM N IL JL) _
    refine V.blk [(33, .aload 0, 1), (34, .getfield 9008, 3)] (ps := []) (z' := (37, [some (aR 0), some (aI kd), some (aI rl), some (aI pe), some (aI t), none], [aR 48], MM N IL JL)) (by decide +kernel) rfl trivial ?_
    refine V.cv (c := 42) (na := 1) (o := 5) (a := 48) [] [] (by decide +kernel) rfl rfl rfl rfl rfl ((c_begin).mono (fun rv M1 q => ?_))
    obtain ⟨rfl, rfl⟩ := q
    show V 93 (40, [some (aR 0), some (aI kd), some (aI rl), some (aI pe), some (aI t), none], [], MM N ((ma IL 48 (ma (IL 48) 1 0))) JL) _
    refine V.blk [(40, .bipush 0, 1), (41, .istore 5, 2)] (ps := []) (z' := (43, [some (aR 0), some (aI kd), some (aI rl), some (aI pe), some (aI t), some (aI 0)], [], MM N ((ma IL 48 (ma (IL 48) 1 0))) JL)) (by decide +kernel) rfl trivial ?_
    refine V.nI (fun I3 eI3 => ?_)
    have g := l_list (N := N) (t := t) (kd := kd) (rl := rl.toNat) (pe := pe.toNat) (v := vw (JL 39)) h40 (by omega) (by omega) rfl 42 0 I3 (by omega) (by omega) ?_ ?_ ?_
    · rw [show ((rl.toNat : Nat) : Int) = rl by omega, show ((pe.toNat : Nat) : Int) = pe by omega] at g
      refine g.mono (fun r M' q => ?_)
      obtain ⟨I2, rfl, rfl, hc⟩ := q
      refine ⟨_, _, I2, JL, rfl, rfl, ⟨fun w => by exfalso; omega, fun _ => ⟨_, hL.2.2.2, rfl, rfl⟩⟩, hc, ?_⟩
      refine svOK_congr (hL.sv hX) ?_ ?_ ?_ rfl rfl
      · rw [hc.1 4 rfl, lsF_ne _ (by decide) (by decide), hL.1 4 (by decide) (by decide) (by decide) (by decide)]
      · rw [hc.1 5 rfl, lsF_ne _ (by decide) (by decide), hL.1 5 (by decide) (by decide) (by decide) (by decide)]
      · rw [hc.1 6 rfl, lsF_ne _ (by decide) (by decide), hL.1 6 (by decide) (by decide) (by decide) (by decide)]
    · rw [eI3]
      have := hL.ce.ma (i := 48) (k := 1) (v := 0) rfl
      exact this
    · rw [eI3, ma_ne _ _ (by decide), hL.1 1 (by decide) (by decide) (by decide) (by decide)]
    · rw [eI3, ma_ne _ _ (by decide), hL.1 2 (by decide) (by decide) (by decide) (by decide)]
  · skip
    try simp only [b2_cast, b2_ncast, Classical.not_not, lcm_lt, lcm_ge, lcm_gt, lcm_le, lcm_eq, b2_0, b2_n0, Bool.not_eq_false, Bool.not_eq_true, decide_eq_true_eq, decide_eq_false_iff_not] at bh2
    refine V.blk [(12, .aload 0, 1), (13, .bipush (-3), 2)] (ps := []) (z' := (15, [some (aR 0), some (aI kd), some (aI rl), some (aI pe), some (aI t), none], [aI (-3), aR 0], MM N I J)) (by decide +kernel) rfl trivial ?_
    refine V.cv (c := 98) (na := 2) (o := 9) (a := 0) [aI (-3)] [] (by decide +kernel) rfl rfl rfl rfl rfl ((c_refuse (by assumption) (by omega)).mono (fun rv M1 q => ?_))
    obtain ⟨rfl, rfl⟩ := q
    show V 93 (18, [some (aR 0), some (aI kd), some (aI rl), some (aI pe), some (aI t), none], [aI (-3)], MM N ((rfU I (-3))) J) _
    refine V.nI (fun I4 eI4 => ?_)
    refine V.ri (by decide +kernel) ?_
    exact ⟨_, rfU I (-3), _, J, rfl, rfl, ⟨fun _ => ⟨rfl, rfl⟩, fun w => by exfalso; omega⟩, by subst_vars; exact CE.refl _, by subst_vars; exact sv_rf hX.2.2.2.2.2.2.2.1⟩
