/-! ===== the class: why, differ ===== -/
def whU (K I : MI) : MI := fun i => if i = 44 then I 44 else if i = 45 then I 45 else K i
def WhyR (K : MI) (L : MJ) (th rl pe t : Int) (a : AV) (U : MI) : Prop :=
  (¬ (cellP K th rl ∧ (0 ≤ pe ∧ pe < 40) ∧ turnP K t) → a = aI (-3) ∧ U = rfU K (-3)) ∧
  (cellP K th rl ∧ (0 ≤ pe ∧ pe < 40) ∧ turnP K t → ∃ v, SETS K L (cnB K t (K 0 11) (-1)) v ∧
    (¬ tb (v (th * 8 + rl).toNat) pe.toNat = true → a = aI (-2) ∧ U = rfU K (-2)) ∧
    (tb (v (th * 8 + rl).toNat) pe.toNat = true → a = aI (cst K (cnB K t (K 0 11) (-1)) v pe.toNat (th * 8 + rl).toNat) ∧
      (∀ i, i ≠ 44 → i ≠ 45 → U i = K i) ∧ U 44 6 = th * 8 + rl ∧ U 44 7 = pe ∧ U 44 8 = t ∧
      Told U (tale K (cnB K t (K 0 11) (-1)) v pe.toNat (cst K (cnB K t (K 0 11) (-1)) v pe.toNat) (th * 8 + rl).toNat (K 7 (kS K (th * 8 + rl).toNat)).toNat)))
theorem c_X9_why {N : Nat} {I : MI} {J : MJ} {th rl pe t : Int} (hX : WX I J) (hf : Rf I) : CT 88 [aR 0, aI th, aI rl, aI pe, aI t] (MM N I J) (QX N (WhyR I J th rl pe t)) := by
  have h40 := hX.prOK.1
  refine CT.ofV (n := 5) (ls := [some (aR 0), some (aI th), some (aI rl), some (aI pe), some (aI t)]) rfl rfl rfl ?_
  refine V.blk [(0, .aload 0, 1), (1, .iload 1, 1), (2, .iload 2, 1)] (ps := []) (z' := (3, [some (aR 0), some (aI th), some (aI rl), some (aI pe), some (aI t)], [aI rl, aI th, aR 0], MM N I J)) (by decide +kernel) rfl trivial ?_
  refine V.cv (c := 100) (na := 3) (o := 9) (a := 0) [aI rl, aI th] [] (by decide +kernel) rfl rfl rfl rfl rfl (V.pr (c_X9_isSpot) ?_)
  show V 88 (6, [some (aR 0), some (aI th), some (aI rl), some (aI pe), some (aI t)], [aI (b2 (decide (0 ≤ th ∧ th < I 1 1 ∧ 0 ≤ rl ∧ rl < 8)))], MM N I J) _
  refine V.blk [(6, .ifCond .eq 27, 3)] (ps := []) (z' := (brc .eq (b2 (decide (0 ≤ th ∧ th < I 1 1 ∧ 0 ≤ rl ∧ rl < 8))) 0 27 9, [some (aR 0), some (aI th), some (aI rl), some (aI pe), some (aI t)], [], MM N I J)) (by decide +kernel) rfl trivial ?_
  refine V.eq (fun bh1 => ?_) (fun bh2 => ?_)
  · skip
    try simp only [b2_cast, b2_ncast, Classical.not_not, lcm_lt, lcm_ge, lcm_gt, lcm_le, lcm_eq, b2_0, b2_n0, Bool.not_eq_false, Bool.not_eq_true, decide_eq_true_eq, decide_eq_false_iff_not] at bh1
    refine V.blk [(27, .aload 0, 1), (28, .bipush (-3), 2)] (ps := []) (z' := (30, [some (aR 0), some (aI th), some (aI rl), some (aI pe), some (aI t)], [aI (-3), aR 0], MM N I J)) (by decide +kernel) rfl trivial ?_
    refine V.cv (c := 98) (na := 2) (o := 9) (a := 0) [aI (-3)] [] (by decide +kernel) rfl rfl rfl rfl rfl ((c_refuse (by assumption) (by omega)).mono (fun rv M1 q => ?_))
    obtain ⟨rfl, rfl⟩ := q
    show V 88 (33, [some (aR 0), some (aI th), some (aI rl), some (aI pe), some (aI t)], [aI (-3)], MM N ((rfU I (-3))) J) _
    refine V.nI (fun I3 eI3 => ?_)
    refine V.ri (by decide +kernel) ?_
    exact ⟨_, rfU I (-3), _, J, rfl, rfl, ⟨fun _ => ⟨rfl, rfl⟩, fun w => by exfalso; omega⟩, by subst_vars; exact CE.refl _, by subst_vars; exact sv_rf hX.2.2.2.2.2.2.2.1⟩
  · skip
    try simp only [b2_cast, b2_ncast, Classical.not_not, lcm_lt, lcm_ge, lcm_gt, lcm_le, lcm_eq, b2_0, b2_n0, Bool.not_eq_false, Bool.not_eq_true, decide_eq_true_eq, decide_eq_false_iff_not] at bh2
    refine V.blk [(9, .iload 3, 1), (10, .bipush 40, 2)] (ps := []) (z' := (12, [some (aR 0), some (aI th), some (aI rl), some (aI pe), some (aI t)], [aI 40, aI pe], MM N I J)) (by decide +kernel) rfl trivial ?_
    refine V.cs (c := 103) (na := 2) [aI 40, aI pe] [] (by decide +kernel) rfl rfl (V.pr (c_X9_within) ?_)
    show V 88 (15, [some (aR 0), some (aI th), some (aI rl), some (aI pe), some (aI t)], [aI (b2 (decide (0 ≤ pe ∧ pe < 40)))], MM N I J) _
    refine V.blk [(15, .ifCond .eq 27, 3)] (ps := []) (z' := (brc .eq (b2 (decide (0 ≤ pe ∧ pe < 40))) 0 27 18, [some (aR 0), some (aI th), some (aI rl), some (aI pe), some (aI t)], [], MM N I J)) (by decide +kernel) rfl trivial ?_
    refine V.eq (fun bh4 => ?_) (fun bh5 => ?_)
    · skip
      try simp only [b2_cast, b2_ncast, Classical.not_not, lcm_lt, lcm_ge, lcm_gt, lcm_le, lcm_eq, b2_0, b2_n0, Bool.not_eq_false, Bool.not_eq_true, decide_eq_true_eq, decide_eq_false_iff_not] at bh4
      refine V.blk [(27, .aload 0, 1), (28, .bipush (-3), 2)] (ps := []) (z' := (30, [some (aR 0), some (aI th), some (aI rl), some (aI pe), some (aI t)], [aI (-3), aR 0], MM N I J)) (by decide +kernel) rfl trivial ?_
      refine V.cv (c := 98) (na := 2) (o := 9) (a := 0) [aI (-3)] [] (by decide +kernel) rfl rfl rfl rfl rfl ((c_refuse (by assumption) (by omega)).mono (fun rv M1 q => ?_))
      obtain ⟨rfl, rfl⟩ := q
      show V 88 (33, [some (aR 0), some (aI th), some (aI rl), some (aI pe), some (aI t)], [aI (-3)], MM N ((rfU I (-3))) J) _
      refine V.nI (fun I6 eI6 => ?_)
      refine V.ri (by decide +kernel) ?_
      exact ⟨_, rfU I (-3), _, J, rfl, rfl, ⟨fun _ => ⟨rfl, rfl⟩, fun w => by exfalso; omega⟩, by subst_vars; exact CE.refl _, by subst_vars; exact sv_rf hX.2.2.2.2.2.2.2.1⟩
    · skip
      try simp only [b2_cast, b2_ncast, Classical.not_not, lcm_lt, lcm_ge, lcm_gt, lcm_le, lcm_eq, b2_0, b2_n0, Bool.not_eq_false, Bool.not_eq_true, decide_eq_true_eq, decide_eq_false_iff_not] at bh5
      refine V.blk [(18, .aload 0, 1), (19, .iload 4, 2)] (ps := []) (z' := (21, [some (aR 0), some (aI th), some (aI rl), some (aI pe), some (aI t)], [aI t, aR 0], MM N I J)) (by decide +kernel) rfl trivial ?_
      refine V.cv (c := 101) (na := 2) (o := 9) (a := 0) [aI t] [] (by decide +kernel) rfl rfl rfl rfl rfl (V.pr (c_X9_isTurn) ?_)
      show V 88 (24, [some (aR 0), some (aI th), some (aI rl), some (aI pe), some (aI t)], [aI (b2 (decide (0 ≤ t ∧ t ≤ I 10 13)))], MM N I J) _
      refine V.blk [(24, .ifCond .ne 34, 3)] (ps := []) (z' := (brc .ne (b2 (decide (0 ≤ t ∧ t ≤ I 10 13))) 0 34 27, [some (aR 0), some (aI th), some (aI rl), some (aI pe), some (aI t)], [], MM N I J)) (by decide +kernel) rfl trivial ?_
      refine V.ne (fun bh7 => ?_) (fun bh8 => ?_)
      · skip
        try simp only [b2_cast, b2_ncast, Classical.not_not, lcm_lt, lcm_ge, lcm_gt, lcm_le, lcm_eq, b2_0, b2_n0, Bool.not_eq_false, Bool.not_eq_true, decide_eq_true_eq, decide_eq_false_iff_not] at bh7
        refine V.blk [(34, .aload 0, 1), (35, .getfield 9005, 3), (38, .iload 4, 2), (40, .aload 0, 1), (41, .getfield 9011, 3), (44, .bipush (-1), 1)] (ps := []) (z' := (45, [some (aR 0), some (aI th), some (aI rl), some (aI pe), some (aI t)], [aI (-1), aI (I 0 11), aI t, aR 36], MM N I J)) (by decide +kernel) rfl trivial ?_
        refine V.cv (c := 49) (na := 4) (o := 7) (a := 36) [aI (-1), aI (I 0 11), aI t] [] (by decide +kernel) rfl rfl rfl rfl rfl ((c_look hX).mono (fun rv M1 q => ?_))
        obtain ⟨rfl, IL, JL, rfl, hL⟩ := q
        show V 88 (48, [some (aR 0), some (aI th), some (aI rl), some (aI pe), some (aI t)], [], MM N IL JL) _
        refine V.blk [(48, .aload 0, 1), (49, .getfield 9005, 3), (52, .iload 1, 1), (53, .iload 2, 1)] (ps := []) (z' := (54, [some (aR 0), some (aI th), some (aI rl), some (aI pe), some (aI t)], [aI rl, aI th, aR 36], MM N IL JL)) (by decide +kernel) rfl trivial ?_
        refine V.cs (c := 108) (na := 2) [aI rl, aI th] [aR 36] (by decide +kernel) rfl rfl (V.pr (c_X9_spotOf (by omega)) ?_)
        show V 88 (57, [some (aR 0), some (aI th), some (aI rl), some (aI pe), some (aI t)], [aI (th * 8 + rl), aR 36], MM N IL JL) _
        refine V.blk [(57, .iload 3, 1)] (ps := []) (z' := (58, [some (aR 0), some (aI th), some (aI rl), some (aI pe), some (aI t)], [aI pe, aI (th * 8 + rl), aR 36], MM N IL JL)) (by decide +kernel) rfl trivial ?_
        refine V.cv (c := 58) (na := 3) (o := 7) (a := 36) [aI pe, aI (th * 8 + rl)] [] (by decide +kernel) rfl rfl rfl rfl rfl (V.pr (c_isInZ (by omega) (by omega)) ?_)
        show V 88 (61, [some (aR 0), some (aI th), some (aI rl), some (aI pe), some (aI t)], [aI (b2 (tb (JL 39 ((th * 8 + rl)).toNat) (pe).toNat))], MM N IL JL) _
        refine V.blk [(61, .ifCond .ne 71, 3)] (ps := []) (z' := (brc .ne (b2 (tb (JL 39 ((th * 8 + rl)).toNat) (pe).toNat)) 0 71 64, [some (aR 0), some (aI th), some (aI rl), some (aI pe), some (aI t)], [], MM N IL JL)) (by decide +kernel) rfl trivial ?_
        refine V.ne (fun bh9 => ?_) (fun bh10 => ?_)
        · skip
          try simp only [b2_cast, b2_ncast, Classical.not_not, lcm_lt, lcm_ge, lcm_gt, lcm_le, lcm_eq, b2_0, b2_n0, Bool.not_eq_false, Bool.not_eq_true, decide_eq_true_eq, decide_eq_false_iff_not] at bh9
          obtain ⟨pn, epn⟩ : ∃ pn : Nat, pe = pn := ⟨pe.toNat, by omega⟩
          subst epn
          have hpn64 : pn < 64 := by omega
          obtain ⟨s, es⟩ : ∃ s : Nat, th * 8 + rl = s := ⟨(th * 8 + rl).toNat, by omega⟩
          have hs3 : s < 320 := by omega
          have hbit : tb (vw (JL 39) s) pn = true := by
            rw [vw_lt hs3]
            have : tb (JL 39 (th * 8 + rl).toNat) ((pn : Int)).toNat = true := by assumption
            rw [es] at this
            exact this
          have hSL := (hX.ScP.ce hL.ce (hL.2.1 8 (by decide) (by decide) (by decide) (by decide) (by decide)) (hL.2.1 9 (by decide) (by decide) (by decide) (by decide) (by decide))).1
          have h400 : IL 10 9 ≤ 400 := by rw [hL.ce.1 10 rfl]; exact hX.2.2.1.2.1
          have hTL := hSL.telP h400 hL.2.2.1
          refine V.blk [(71, .aload 0, 1), (72, .getfield 9006, 3), (75, .iload 3, 1)] (ps := []) (z' := (76, [some (aR 0), some (aI th), some (aI rl), some (aI (pn : Int)), some (aI t)], [aI (pn : Int), aR 41], MM N IL JL)) (by decide +kernel) rfl trivial ?_
          refine V.cv (c := 2) (na := 2) (o := 0) (a := 41) [aI (pn : Int)] [] (by decide +kernel) rfl rfl rfl rfl rfl ((c_weigh hSL hTL hpn64 (fun _ _ => rfl)).mono (fun rv M1 q => ?_))
          obtain ⟨rfl, IW, JW, rfl, w1, w2, w3, w4, -⟩ := q
          have rdW : ∀ i, rdC i → IW i = I i := fun i hi => (w3.rd i hi).trans (hL.ce.rd i hi)
          have hRP : RP I J (cnB I t (I 0 11) (-1)) (vw (JL 39)) pn (cst I (cnB I t (I 0 11) (-1)) (vw (JL 39)) pn) := ⟨hX.ScP, hpn64, cst_ck hX.ScP _ _ _⟩
          have evL : ∀ r, r < 320 → JL 39 r = vw (JL 39) r := fun r hr => (vw_lt hr).symm
          have hXW : RMX I J (cnB I t (I 0 11) (-1)) (vw (JL 39)) pn (cst I (cnB I t (I 0 11) (-1)) (vw (JL 39)) pn) IW JW := by
            refine ⟨hRP, (hTL.i w3).j fun i a _ => w4 i a, rdW, (w4 8 (by decide)).trans (hL.2.1 8 (by decide) (by decide) (by decide) (by decide) (by decide)), (w4 9 (by decide)).trans (hL.2.1 9 (by decide) (by decide) (by decide) (by decide) (by decide)), fun r hr => ?_, fun r hr => ?_, w2, fun _ _ => rfl⟩
            · rw [w1 r hr, cst_ce hL.ce.rd]
              exact cst_cg hX.ScP evL r hr
            · rw [w4 39 (by decide)]; exact evL r hr
          have hfin := sets_fin hX.ScP hpn64 hL.2.2.2 hRP.2.2 s hs3 hbit
          obtain ⟨r, r1, r2, r3, r4⟩ := hRP.root hs3 (by omega)
          show V 88 (79, [some (aR 0), some (aI th), some (aI rl), some (aI (pn : Int)), some (aI t)], [], MM N IW JW) _
          refine V.blk [(79, .aload 0, 1), (80, .getfield 9007, 3), (83, .iload 1, 1), (84, .iload 2, 1)] (ps := []) (z' := (85, [some (aR 0), some (aI th), some (aI rl), some (aI (pn : Int)), some (aI t)], [aI rl, aI th, aR 44], MM N IW JW)) (by decide +kernel) rfl trivial ?_
          refine V.cs (c := 108) (na := 2) [aI rl, aI th] [aR 44] (by decide +kernel) rfl rfl (V.pr (c_X9_spotOf (by omega)) ?_)
          show V 88 (88, [some (aR 0), some (aI th), some (aI rl), some (aI (pn : Int)), some (aI t)], [aI (th * 8 + rl), aR 44], MM N IW JW) _
          rw [es]
          refine V.blk [(88, .iload 3, 1), (89, .iload 4, 2)] (ps := []) (z' := (91, [some (aR 0), some (aI th), some (aI rl), some (aI (pn : Int)), some (aI t)], [aI t, aI (pn : Int), aI (s : Int), aR 44], MM N IW JW)) (by decide +kernel) rfl trivial ?_
          refine V.cv (c := 35) (na := 4) (o := 4) (a := 44) [aI t, aI (pn : Int), aI (s : Int)] [] (by decide +kernel) rfl rfl rfl rfl rfl ((c_find hXW hs3 (by omega) r2).mono (fun rv M1 q => ?_))
          obtain ⟨rfl, I9, J9, rfl, g1, g6, g7, g8, g9, gT⟩ := q
          show V 88 (94, [some (aR 0), some (aI th), some (aI rl), some (aI (pn : Int)), some (aI t)], [], MM N I9 J9) _
          refine V.blk [(94, .aload 0, 1), (95, .getfield 9006, 3), (98, .getfield 3, 3), (101, .iload 1, 1), (102, .iload 2, 1)] (ps := []) (z' := (103, [some (aR 0), some (aI th), some (aI rl), some (aI (pn : Int)), some (aI t)], [aI rl, aI th, aR 42], MM N I9 J9)) (by decide +kernel) rfl trivial ?_
          refine V.cs (c := 108) (na := 2) [aI rl, aI th] [aR 42] (by decide +kernel) rfl rfl (V.pr (c_X9_spotOf (by omega)) ?_)
          show V 88 (106, [some (aR 0), some (aI th), some (aI rl), some (aI (pn : Int)), some (aI t)], [aI (th * 8 + rl), aR 42], MM N I9 J9) _
          refine V.blk [(106, .iaload, 1)] (ps := [0 ≤ (th * 8 + rl) ∧ (th * 8 + rl) < 320]) (z' := (107, [some (aR 0), some (aI th), some (aI rl), some (aI (pn : Int)), some (aI t)], [aI (I9 42 ((th * 8 + rl).toNat))], MM N I9 J9)) (by decide +kernel) rfl (show (0 ≤ (th * 8 + rl) ∧ (th * 8 + rl) < 320) from (by omega)) ?_
          refine V.ri (by decide +kernel) ?_
          have hn42 : I9 42 (th * 8 + rl).toNat = cst I (cnB I t (I 0 11) (-1)) (vw (JL 39)) pn s := by
            rw [g1 42 (by decide), es]
            exact hXW.2.2.2.2.2.1 s hs3
          refine ⟨_, whU I I9, I9, J9, rfl, rfl, ⟨fun w => by exfalso; omega, fun _ => ⟨_, hL.2.2.2, fun w => ?_, fun _ => ⟨congrArg aI ?_, fun i a b => ?_, ?_, ?_, ?_, ?_⟩⟩⟩, ⟨fun i hi => ?_, fun k _ _ => ?_, fun i hi => ?_⟩, ?_⟩
          · rw [es] at w
            exact absurd hbit w
          · rw [hn42, es]
            rfl
          · unfold whU; rw [if_neg a, if_neg b]
          · rw [es]; exact g6
          · exact g7
          · exact g8
          · rw [es]
            show Told (whU I I9) (tale I _ _ pn _ s (I 7 (kS I s)).toNat)
            rw [r2]
            exact gT
          · have cn := core_ne hi
            unfold whU
            by_cases e : i = 45
            · rw [if_neg (by omega), if_pos e, e]
            · rw [if_neg (by omega), if_neg e, g1 i (by omega), w3 i (by omega) (by omega) (by omega)]
              exact hL.ce.1 i hi
          · unfold whU; rw [if_pos rfl]
          · unfold whU
            rw [if_neg (by omega), if_neg (by omega), g1 i (by omega), w3 i (by omega) (by omega) (by omega)]
            exact hL.ce.2.2 i hi
          · refine svOK_congr hX.2.2.2.2.2.2.2.1 ?_ ?_ ?_ ?_ ?_
            · rw [g1 4 (by decide)]; exact rdW 4 (by unfold rdC; omega)
            · rw [g1 5 (by decide)]; exact rdW 5 (by unfold rdC; omega)
            · rw [g1 6 (by decide)]; exact rdW 6 (by unfold rdC; omega)
            · rw [g9 8 (by decide)]; exact hXW.2.2.2.1
            · rw [g9 9 (by decide)]; exact hXW.2.2.2.2.1
        · skip
          try simp only [b2_cast, b2_ncast, Classical.not_not, lcm_lt, lcm_ge, lcm_gt, lcm_le, lcm_eq, b2_0, b2_n0, Bool.not_eq_false, Bool.not_eq_true, decide_eq_true_eq, decide_eq_false_iff_not] at bh10
          have hfL : Rf IL := Rf_ce hf hL.ce
          refine V.blk [(64, .aload 0, 1), (65, .bipush (-2), 2)] (ps := []) (z' := (67, [some (aR 0), some (aI th), some (aI rl), some (aI pe), some (aI t)], [aI (-2), aR 0], MM N IL JL)) (by decide +kernel) rfl trivial ?_
          refine V.cv (c := 98) (na := 2) (o := 9) (a := 0) [aI (-2)] [] (by decide +kernel) rfl rfl rfl rfl rfl ((c_refuse (by assumption) (by omega)).mono (fun rv M1 q => ?_))
          obtain ⟨rfl, rfl⟩ := q
          show V 88 (70, [some (aR 0), some (aI th), some (aI rl), some (aI pe), some (aI t)], [aI (-2)], MM N ((rfU IL (-2))) JL) _
          refine V.nI (fun I11 eI11 => ?_)
          refine V.ri (by decide +kernel) ?_
          refine ⟨_, rfU I (-2), _, JL, rfl, rfl, ⟨fun w => by exfalso; omega, fun _ => ⟨_, hL.2.2.2, fun _ => ⟨rfl, rfl⟩, fun w => ?_⟩⟩, ?_, ?_⟩
          · exfalso
            rw [vw_lt (by omega)] at w
            simp_all
          · subst_vars
            exact hL.ce.rf _
          · subst_vars
            exact sv_rf (hL.sv hX)
      · skip
        try simp only [b2_cast, b2_ncast, Classical.not_not, lcm_lt, lcm_ge, lcm_gt, lcm_le, lcm_eq, b2_0, b2_n0, Bool.not_eq_false, Bool.not_eq_true, decide_eq_true_eq, decide_eq_false_iff_not] at bh8
        refine V.blk [(27, .aload 0, 1), (28, .bipush (-3), 2)] (ps := []) (z' := (30, [some (aR 0), some (aI th), some (aI rl), some (aI pe), some (aI t)], [aI (-3), aR 0], MM N I J)) (by decide +kernel) rfl trivial ?_
        refine V.cv (c := 98) (na := 2) (o := 9) (a := 0) [aI (-3)] [] (by decide +kernel) rfl rfl rfl rfl rfl ((c_refuse (by assumption) (by omega)).mono (fun rv M1 q => ?_))
        obtain ⟨rfl, rfl⟩ := q
        show V 88 (33, [some (aR 0), some (aI th), some (aI rl), some (aI pe), some (aI t)], [aI (-3)], MM N ((rfU I (-3))) J) _
        refine V.nI (fun I12 eI12 => ?_)
        refine V.ri (by decide +kernel) ?_
        exact ⟨_, rfU I (-3), _, J, rfl, rfl, ⟨fun _ => ⟨rfl, rfl⟩, fun w => by exfalso; omega⟩, by subst_vars; exact CE.refl _, by subst_vars; exact sv_rf hX.2.2.2.2.2.2.2.1⟩
def bq1 (x : Int64) : Int64 := x - (ushr x 1 &&& Int64.ofInt 6148914691236517205)
def bq2 (x : Int64) : Int64 := (x &&& Int64.ofInt 3689348814741910323) + (ushr x 2 &&& Int64.ofInt 3689348814741910323)
def bq3 (x : Int64) : Int64 := (x + ushr x 4) &&& Int64.ofInt 1085102592571150095
def bq4 (x : Int64) : Int64 := x + ushr x 8
def bq5 (x : Int64) : Int64 := x + ushr x 16
def bq6 (x : Int64) : Int64 := x + ushr x 32
def bitC (x : Int64) : Int := (bq6 (bq5 (bq4 (bq3 (bq2 (bq1 x)))))).toInt32.toInt % 128
theorem c_bitCount {N : Nat} {I : MI} {J : MJ} {x : Int64} : CT 197 [aL (x)] (MM N I J) (pure1 N I J (aI (bitC x))) := by
  refine CT.ofV (n := 2) (ls := [some (aL (x)), none]) rfl rfl rfl ?_
  refine V.blk [(0, .lload 0, 1), (1, .lload 0, 1), (2, .bipush 1, 1), (3, .lushr, 1), (4, .jsr_w 6148914691236517205, 3), (7, .land, 1), (8, .lsub, 1), (9, .lstore 0, 1), (10, .lload 0, 1), (11, .jsr_w 3689348814741910323, 3), (14, .land, 1), (15, .lload 0, 1), (16, .bipush 2, 1), (17, .lushr, 1), (18, .jsr_w 3689348814741910323, 3), (21, .land, 1), (22, .ladd, 1), (23, .lstore 0, 1), (24, .lload 0, 1), (25, .lload 0, 1), (26, .bipush 4, 1), (27, .lushr, 1), (28, .ladd, 1), (29, .jsr_w 1085102592571150095, 3), (32, .land, 1), (33, .lstore 0, 1), (34, .lload 0, 1), (35, .lload 0, 1), (36, .bipush 8, 2), (38, .lushr, 1), (39, .ladd, 1), (40, .lstore 0, 1), (41, .lload 0, 1), (42, .lload 0, 1), (43, .bipush 16, 2), (45, .lushr, 1), (46, .ladd, 1), (47, .lstore 0, 1), (48, .lload 0, 1), (49, .lload 0, 1), (50, .bipush 32, 2), (52, .lushr, 1), (53, .ladd, 1), (54, .lstore 0, 1), (55, .lload 0, 1), (56, .l2i, 1), (57, .bipush 127, 2), (59, .iand, 1)] (ps := [0 ≤ 1 ∧ 1 < 64, 0 ≤ 2 ∧ 2 < 64, 0 ≤ 4 ∧ 4 < 64, 0 ≤ 8 ∧ 8 < 64, 0 ≤ 16 ∧ 16 < 64, 0 ≤ 32 ∧ 32 < 64, 127 = 1 ∨ 127 = 63 ∨ 127 = 127]) (z' := (60, [some (aL (((((((((x) - ((ushr (x) 1) &&& (Int64.ofInt 6148914691236517205))) &&& (Int64.ofInt 3689348814741910323)) + ((ushr ((x) - ((ushr (x) 1) &&& (Int64.ofInt 6148914691236517205))) 2) &&& (Int64.ofInt 3689348814741910323))) + (ushr ((((x) - ((ushr (x) 1) &&& (Int64.ofInt 6148914691236517205))) &&& (Int64.ofInt 3689348814741910323)) + ((ushr ((x) - ((ushr (x) 1) &&& (Int64.ofInt 6148914691236517205))) 2) &&& (Int64.ofInt 3689348814741910323))) 4)) &&& (Int64.ofInt 1085102592571150095)) + (ushr ((((((x) - ((ushr (x) 1) &&& (Int64.ofInt 6148914691236517205))) &&& (Int64.ofInt 3689348814741910323)) + ((ushr ((x) - ((ushr (x) 1) &&& (Int64.ofInt 6148914691236517205))) 2) &&& (Int64.ofInt 3689348814741910323))) + (ushr ((((x) - ((ushr (x) 1) &&& (Int64.ofInt 6148914691236517205))) &&& (Int64.ofInt 3689348814741910323)) + ((ushr ((x) - ((ushr (x) 1) &&& (Int64.ofInt 6148914691236517205))) 2) &&& (Int64.ofInt 3689348814741910323))) 4)) &&& (Int64.ofInt 1085102592571150095)) 8)) + (ushr (((((((x) - ((ushr (x) 1) &&& (Int64.ofInt 6148914691236517205))) &&& (Int64.ofInt 3689348814741910323)) + ((ushr ((x) - ((ushr (x) 1) &&& (Int64.ofInt 6148914691236517205))) 2) &&& (Int64.ofInt 3689348814741910323))) + (ushr ((((x) - ((ushr (x) 1) &&& (Int64.ofInt 6148914691236517205))) &&& (Int64.ofInt 3689348814741910323)) + ((ushr ((x) - ((ushr (x) 1) &&& (Int64.ofInt 6148914691236517205))) 2) &&& (Int64.ofInt 3689348814741910323))) 4)) &&& (Int64.ofInt 1085102592571150095)) + (ushr ((((((x) - ((ushr (x) 1) &&& (Int64.ofInt 6148914691236517205))) &&& (Int64.ofInt 3689348814741910323)) + ((ushr ((x) - ((ushr (x) 1) &&& (Int64.ofInt 6148914691236517205))) 2) &&& (Int64.ofInt 3689348814741910323))) + (ushr ((((x) - ((ushr (x) 1) &&& (Int64.ofInt 6148914691236517205))) &&& (Int64.ofInt 3689348814741910323)) + ((ushr ((x) - ((ushr (x) 1) &&& (Int64.ofInt 6148914691236517205))) 2) &&& (Int64.ofInt 3689348814741910323))) 4)) &&& (Int64.ofInt 1085102592571150095)) 8)) 16)) + (ushr ((((((((x) - ((ushr (x) 1) &&& (Int64.ofInt 6148914691236517205))) &&& (Int64.ofInt 3689348814741910323)) + ((ushr ((x) - ((ushr (x) 1) &&& (Int64.ofInt 6148914691236517205))) 2) &&& (Int64.ofInt 3689348814741910323))) + (ushr ((((x) - ((ushr (x) 1) &&& (Int64.ofInt 6148914691236517205))) &&& (Int64.ofInt 3689348814741910323)) + ((ushr ((x) - ((ushr (x) 1) &&& (Int64.ofInt 6148914691236517205))) 2) &&& (Int64.ofInt 3689348814741910323))) 4)) &&& (Int64.ofInt 1085102592571150095)) + (ushr ((((((x) - ((ushr (x) 1) &&& (Int64.ofInt 6148914691236517205))) &&& (Int64.ofInt 3689348814741910323)) + ((ushr ((x) - ((ushr (x) 1) &&& (Int64.ofInt 6148914691236517205))) 2) &&& (Int64.ofInt 3689348814741910323))) + (ushr ((((x) - ((ushr (x) 1) &&& (Int64.ofInt 6148914691236517205))) &&& (Int64.ofInt 3689348814741910323)) + ((ushr ((x) - ((ushr (x) 1) &&& (Int64.ofInt 6148914691236517205))) 2) &&& (Int64.ofInt 3689348814741910323))) 4)) &&& (Int64.ofInt 1085102592571150095)) 8)) + (ushr (((((((x) - ((ushr (x) 1) &&& (Int64.ofInt 6148914691236517205))) &&& (Int64.ofInt 3689348814741910323)) + ((ushr ((x) - ((ushr (x) 1) &&& (Int64.ofInt 6148914691236517205))) 2) &&& (Int64.ofInt 3689348814741910323))) + (ushr ((((x) - ((ushr (x) 1) &&& (Int64.ofInt 6148914691236517205))) &&& (Int64.ofInt 3689348814741910323)) + ((ushr ((x) - ((ushr (x) 1) &&& (Int64.ofInt 6148914691236517205))) 2) &&& (Int64.ofInt 3689348814741910323))) 4)) &&& (Int64.ofInt 1085102592571150095)) + (ushr ((((((x) - ((ushr (x) 1) &&& (Int64.ofInt 6148914691236517205))) &&& (Int64.ofInt 3689348814741910323)) + ((ushr ((x) - ((ushr (x) 1) &&& (Int64.ofInt 6148914691236517205))) 2) &&& (Int64.ofInt 3689348814741910323))) + (ushr ((((x) - ((ushr (x) 1) &&& (Int64.ofInt 6148914691236517205))) &&& (Int64.ofInt 3689348814741910323)) + ((ushr ((x) - ((ushr (x) 1) &&& (Int64.ofInt 6148914691236517205))) 2) &&& (Int64.ofInt 3689348814741910323))) 4)) &&& (Int64.ofInt 1085102592571150095)) 8)) 16)) 32))), none], [aI (((((((((((x) - ((ushr (x) 1) &&& (Int64.ofInt 6148914691236517205))) &&& (Int64.ofInt 3689348814741910323)) + ((ushr ((x) - ((ushr (x) 1) &&& (Int64.ofInt 6148914691236517205))) 2) &&& (Int64.ofInt 3689348814741910323))) + (ushr ((((x) - ((ushr (x) 1) &&& (Int64.ofInt 6148914691236517205))) &&& (Int64.ofInt 3689348814741910323)) + ((ushr ((x) - ((ushr (x) 1) &&& (Int64.ofInt 6148914691236517205))) 2) &&& (Int64.ofInt 3689348814741910323))) 4)) &&& (Int64.ofInt 1085102592571150095)) + (ushr ((((((x) - ((ushr (x) 1) &&& (Int64.ofInt 6148914691236517205))) &&& (Int64.ofInt 3689348814741910323)) + ((ushr ((x) - ((ushr (x) 1) &&& (Int64.ofInt 6148914691236517205))) 2) &&& (Int64.ofInt 3689348814741910323))) + (ushr ((((x) - ((ushr (x) 1) &&& (Int64.ofInt 6148914691236517205))) &&& (Int64.ofInt 3689348814741910323)) + ((ushr ((x) - ((ushr (x) 1) &&& (Int64.ofInt 6148914691236517205))) 2) &&& (Int64.ofInt 3689348814741910323))) 4)) &&& (Int64.ofInt 1085102592571150095)) 8)) + (ushr (((((((x) - ((ushr (x) 1) &&& (Int64.ofInt 6148914691236517205))) &&& (Int64.ofInt 3689348814741910323)) + ((ushr ((x) - ((ushr (x) 1) &&& (Int64.ofInt 6148914691236517205))) 2) &&& (Int64.ofInt 3689348814741910323))) + (ushr ((((x) - ((ushr (x) 1) &&& (Int64.ofInt 6148914691236517205))) &&& (Int64.ofInt 3689348814741910323)) + ((ushr ((x) - ((ushr (x) 1) &&& (Int64.ofInt 6148914691236517205))) 2) &&& (Int64.ofInt 3689348814741910323))) 4)) &&& (Int64.ofInt 1085102592571150095)) + (ushr ((((((x) - ((ushr (x) 1) &&& (Int64.ofInt 6148914691236517205))) &&& (Int64.ofInt 3689348814741910323)) + ((ushr ((x) - ((ushr (x) 1) &&& (Int64.ofInt 6148914691236517205))) 2) &&& (Int64.ofInt 3689348814741910323))) + (ushr ((((x) - ((ushr (x) 1) &&& (Int64.ofInt 6148914691236517205))) &&& (Int64.ofInt 3689348814741910323)) + ((ushr ((x) - ((ushr (x) 1) &&& (Int64.ofInt 6148914691236517205))) 2) &&& (Int64.ofInt 3689348814741910323))) 4)) &&& (Int64.ofInt 1085102592571150095)) 8)) 16)) + (ushr ((((((((x) - ((ushr (x) 1) &&& (Int64.ofInt 6148914691236517205))) &&& (Int64.ofInt 3689348814741910323)) + ((ushr ((x) - ((ushr (x) 1) &&& (Int64.ofInt 6148914691236517205))) 2) &&& (Int64.ofInt 3689348814741910323))) + (ushr ((((x) - ((ushr (x) 1) &&& (Int64.ofInt 6148914691236517205))) &&& (Int64.ofInt 3689348814741910323)) + ((ushr ((x) - ((ushr (x) 1) &&& (Int64.ofInt 6148914691236517205))) 2) &&& (Int64.ofInt 3689348814741910323))) 4)) &&& (Int64.ofInt 1085102592571150095)) + (ushr ((((((x) - ((ushr (x) 1) &&& (Int64.ofInt 6148914691236517205))) &&& (Int64.ofInt 3689348814741910323)) + ((ushr ((x) - ((ushr (x) 1) &&& (Int64.ofInt 6148914691236517205))) 2) &&& (Int64.ofInt 3689348814741910323))) + (ushr ((((x) - ((ushr (x) 1) &&& (Int64.ofInt 6148914691236517205))) &&& (Int64.ofInt 3689348814741910323)) + ((ushr ((x) - ((ushr (x) 1) &&& (Int64.ofInt 6148914691236517205))) 2) &&& (Int64.ofInt 3689348814741910323))) 4)) &&& (Int64.ofInt 1085102592571150095)) 8)) + (ushr (((((((x) - ((ushr (x) 1) &&& (Int64.ofInt 6148914691236517205))) &&& (Int64.ofInt 3689348814741910323)) + ((ushr ((x) - ((ushr (x) 1) &&& (Int64.ofInt 6148914691236517205))) 2) &&& (Int64.ofInt 3689348814741910323))) + (ushr ((((x) - ((ushr (x) 1) &&& (Int64.ofInt 6148914691236517205))) &&& (Int64.ofInt 3689348814741910323)) + ((ushr ((x) - ((ushr (x) 1) &&& (Int64.ofInt 6148914691236517205))) 2) &&& (Int64.ofInt 3689348814741910323))) 4)) &&& (Int64.ofInt 1085102592571150095)) + (ushr ((((((x) - ((ushr (x) 1) &&& (Int64.ofInt 6148914691236517205))) &&& (Int64.ofInt 3689348814741910323)) + ((ushr ((x) - ((ushr (x) 1) &&& (Int64.ofInt 6148914691236517205))) 2) &&& (Int64.ofInt 3689348814741910323))) + (ushr ((((x) - ((ushr (x) 1) &&& (Int64.ofInt 6148914691236517205))) &&& (Int64.ofInt 3689348814741910323)) + ((ushr ((x) - ((ushr (x) 1) &&& (Int64.ofInt 6148914691236517205))) 2) &&& (Int64.ofInt 3689348814741910323))) 4)) &&& (Int64.ofInt 1085102592571150095)) 8)) 16)) 32)).toInt32.toInt) % (127 + 1))], MM N I J)) (by decide +kernel) rfl (show (0 ≤ 1 ∧ 1 < 64) ∧ (0 ≤ 2 ∧ 2 < 64) ∧ (0 ≤ 4 ∧ 4 < 64) ∧ (0 ≤ 8 ∧ 8 < 64) ∧ (0 ≤ 16 ∧ 16 < 64) ∧ (0 ≤ 32 ∧ 32 < 64) ∧ (127 = 1 ∨ 127 = 63 ∨ 127 = 127) from ⟨(by first | omega | exact Or.inr (Or.inr rfl)), (by first | omega | exact Or.inr (Or.inr rfl)), (by first | omega | exact Or.inr (Or.inr rfl)), (by first | omega | exact Or.inr (Or.inr rfl)), (by first | omega | exact Or.inr (Or.inr rfl)), (by first | omega | exact Or.inr (Or.inr rfl)), (by first | omega | exact Or.inr (Or.inr rfl))⟩) ?_
  refine V.ri (by decide +kernel) ?_
  exact ⟨rfl, rfl⟩
theorem bitC_in (x : Int64) : 0 ≤ bitC x ∧ bitC x ≤ 127 := by
  unfold bitC
  omega
/-- over how many bits two scenes differ, the first n spots -/
def dfF (v w : Nat → Int64) : Nat → Int
  | 0 => 0
  | n + 1 => dfF v w n + bitC (w n ^^^ v n)
theorem dfF_in (v w : Nat → Int64) : ∀ n : Nat, 0 ≤ dfF v w n ∧ dfF v w n ≤ 127 * n
  | 0 => ⟨Int.le_refl _, Int.le_refl _⟩
  | n + 1 => by
    have i := dfF_in v w n
    have j := bitC_in (w n ^^^ v n)
    unfold dfF
    omega
theorem dfF_congr {v w v' w' : Nat → Int64} : ∀ n, (∀ s, s < n → v s = v' s ∧ w s = w' s) → dfF v w n = dfF v' w' n
  | 0, _ => rfl
  | n + 1, h => by
    unfold dfF
    rw [dfF_congr n fun s hs => h s (by omega), (h n (by omega)).1, (h n (by omega)).2]
def DiffR (K : MI) (L : MJ) (t u : Int) (a : AV) (U : MI) : Prop :=
  (¬ (turnP K t ∧ turnP K u) → a = aI (-3) ∧ U = rfU K (-3)) ∧
  (turnP K t ∧ turnP K u → U = K ∧ ∃ v w, SETS K L (cnB K t (K 0 11) (-1)) v ∧ SETS K L (cnB K u (K 0 11) (-1)) w ∧ a = aI (dfF v w 320))
theorem l_differ {N : Nat} {I : MI} {J : MJ} {t u : Int} : ∀ (k s : Nat) (c : Int), 322 ≤ k + s → s ≤ 320 → c = dfF (J 50) (J 39) s → V 92 (73, [some (aR 0), some (aI t), some (aI u), some (aI c), some (aI (s : Int))], [], MM N I J) (pure1 N I J (aI (dfF (J 50) (J 39) 320))) := by
  intro k
  induction k with
  | zero => intro s c h1 h2; exfalso; omega
  | succ k ih =>
    intro s c h1 h2 hc
    have i1 := dfF_in (J 50) (J 39) s
    have i2 := bitC_in (J 39 s ^^^ J 50 s)
    refine V.blk [(73, .iload 4, 2), (75, .bipush 320, 3), (78, .if_icmp .ge 111, 3)] (ps := []) (z' := (brc .ge (s : Int) 320 111 81, [some (aR 0), some (aI t), some (aI u), some (aI c), some (aI (s : Int))], [], MM N I J)) (by decide +kernel) rfl trivial ?_
    refine V.ge (fun bh1 => ?_) (fun bh2 => ?_)
    · skip
      refine V.blk [(111, .iload 3, 1)] (ps := []) (z' := (112, [some (aR 0), some (aI t), some (aI u), some (aI c), some (aI (s : Int))], [aI c], MM N I J)) (by decide +kernel) rfl trivial ?_
      refine V.ri (by decide +kernel) ?_
      refine ⟨congrArg (fun w => some (aI w)) ?_, rfl⟩
      have e : s = 320 := by omega
      rw [hc, e]
    · skip
      refine V.blk [(81, .iload 3, 1), (82, .aload 0, 1), (83, .getfield 9005, 3), (86, .getfield 7006, 3), (89, .iload 4, 2), (91, .laload, 1), (92, .aload 0, 1), (93, .getfield 9009, 3), (96, .iload 4, 2), (98, .laload, 1), (99, .lxor, 1)] (ps := [0 ≤ (s : Int) ∧ (s : Int) < 320, 0 ≤ (s : Int) ∧ (s : Int) < 320]) (z' := (100, [some (aR 0), some (aI t), some (aI u), some (aI c), some (aI (s : Int))], [aL ((J 39 s) ^^^ (J 50 s)), aI c], MM N I J)) (by decide +kernel) rfl (show (0 ≤ (s : Int) ∧ (s : Int) < 320) ∧ (0 ≤ (s : Int) ∧ (s : Int) < 320) from ⟨(by omega), (by omega)⟩) ?_
      refine V.cs (c := 197) (na := 1) [aL ((J 39 s) ^^^ (J 50 s))] [aI c] (by decide +kernel) rfl rfl (V.pr (c_bitCount) ?_)
      show V 92 (103, [some (aR 0), some (aI t), some (aI u), some (aI c), some (aI (s : Int))], [aI (bitC ((J 39 s) ^^^ (J 50 s))), aI c], MM N I J) _
      refine V.blk [(103, .iadd, 1), (104, .istore 3, 1), (105, .iinc 4 1, 3), (108, .goto 73, 3)] (ps := [inR (c + (bitC ((J 39 s) ^^^ (J 50 s)))), inR ((s : Int) + 1)]) (z' := (73, [some (aR 0), some (aI t), some (aI u), some (aI (c + (bitC ((J 39 s) ^^^ (J 50 s))))), some (aI ((s + 1 : Nat) : Int))], [], MM N I J)) (by decide +kernel) rfl (show (inR (c + (bitC ((J 39 s) ^^^ (J 50 s))))) ∧ (inR ((s : Int) + 1)) from ⟨(by unfold inR; omega), (by unfold inR; omega)⟩) ?_
      exact ih (s + 1) _ (by omega) (by omega) (by rw [hc]; rfl)
theorem c_X9_differ {N : Nat} {I : MI} {J : MJ} {t u : Int} (hX : WX I J) (hf : Rf I) : CT 92 [aR 0, aI t, aI u] (MM N I J) (QX N (DiffR I J t u)) := by
  have h40 := hX.prOK.1
  refine CT.ofV (n := 5) (ls := [some (aR 0), some (aI t), some (aI u), none, none]) rfl rfl rfl ?_
  refine V.blk [(0, .aload 0, 1), (1, .iload 1, 1)] (ps := []) (z' := (2, [some (aR 0), some (aI t), some (aI u), none, none], [aI t, aR 0], MM N I J)) (by decide +kernel) rfl trivial ?_
  refine V.cv (c := 101) (na := 2) (o := 9) (a := 0) [aI t] [] (by decide +kernel) rfl rfl rfl rfl rfl (V.pr (c_X9_isTurn) ?_)
  show V 92 (5, [some (aR 0), some (aI t), some (aI u), none, none], [aI (b2 (decide (0 ≤ t ∧ t ≤ I 10 13)))], MM N I J) _
  refine V.blk [(5, .ifCond .eq 16, 3)] (ps := []) (z' := (brc .eq (b2 (decide (0 ≤ t ∧ t ≤ I 10 13))) 0 16 8, [some (aR 0), some (aI t), some (aI u), none, none], [], MM N I J)) (by decide +kernel) rfl trivial ?_
  refine V.eq (fun bh1 => ?_) (fun bh2 => ?_)
  · skip
    try simp only [b2_cast, b2_ncast, Classical.not_not, lcm_lt, lcm_ge, lcm_gt, lcm_le, lcm_eq, b2_0, b2_n0, Bool.not_eq_false, Bool.not_eq_true, decide_eq_true_eq, decide_eq_false_iff_not] at bh1
    refine V.blk [(16, .aload 0, 1), (17, .bipush (-3), 2)] (ps := []) (z' := (19, [some (aR 0), some (aI t), some (aI u), none, none], [aI (-3), aR 0], MM N I J)) (by decide +kernel) rfl trivial ?_
    refine V.cv (c := 98) (na := 2) (o := 9) (a := 0) [aI (-3)] [] (by decide +kernel) rfl rfl rfl rfl rfl ((c_refuse (by assumption) (by omega)).mono (fun rv M1 q => ?_))
    obtain ⟨rfl, rfl⟩ := q
    show V 92 (22, [some (aR 0), some (aI t), some (aI u), none, none], [aI (-3)], MM N ((rfU I (-3))) J) _
    refine V.nI (fun I3 eI3 => ?_)
    refine V.ri (by decide +kernel) ?_
    exact ⟨_, rfU I (-3), _, J, rfl, rfl, ⟨fun _ => ⟨rfl, rfl⟩, fun w => by exfalso; omega⟩, by subst_vars; exact CE.refl _, by subst_vars; exact sv_rf hX.2.2.2.2.2.2.2.1⟩
  · skip
    try simp only [b2_cast, b2_ncast, Classical.not_not, lcm_lt, lcm_ge, lcm_gt, lcm_le, lcm_eq, b2_0, b2_n0, Bool.not_eq_false, Bool.not_eq_true, decide_eq_true_eq, decide_eq_false_iff_not] at bh2
    refine V.blk [(8, .aload 0, 1), (9, .iload 2, 1)] (ps := []) (z' := (10, [some (aR 0), some (aI t), some (aI u), none, none], [aI u, aR 0], MM N I J)) (by decide +kernel) rfl trivial ?_
    refine V.cv (c := 101) (na := 2) (o := 9) (a := 0) [aI u] [] (by decide +kernel) rfl rfl rfl rfl rfl (V.pr (c_X9_isTurn) ?_)
    show V 92 (13, [some (aR 0), some (aI t), some (aI u), none, none], [aI (b2 (decide (0 ≤ u ∧ u ≤ I 10 13)))], MM N I J) _
    refine V.blk [(13, .ifCond .ne 23, 3)] (ps := []) (z' := (brc .ne (b2 (decide (0 ≤ u ∧ u ≤ I 10 13))) 0 23 16, [some (aR 0), some (aI t), some (aI u), none, none], [], MM N I J)) (by decide +kernel) rfl trivial ?_
    refine V.ne (fun bh4 => ?_) (fun bh5 => ?_)
    · skip
      try simp only [b2_cast, b2_ncast, Classical.not_not, lcm_lt, lcm_ge, lcm_gt, lcm_le, lcm_eq, b2_0, b2_n0, Bool.not_eq_false, Bool.not_eq_true, decide_eq_true_eq, decide_eq_false_iff_not] at bh4
      refine V.blk [(23, .aload 0, 1), (24, .getfield 9005, 3), (27, .iload 1, 1), (28, .aload 0, 1), (29, .getfield 9011, 3), (32, .bipush (-1), 1)] (ps := []) (z' := (33, [some (aR 0), some (aI t), some (aI u), none, none], [aI (-1), aI (I 0 11), aI t, aR 36], MM N I J)) (by decide +kernel) rfl trivial ?_
      refine V.cv (c := 49) (na := 4) (o := 7) (a := 36) [aI (-1), aI (I 0 11), aI t] [] (by decide +kernel) rfl rfl rfl rfl rfl ((c_look hX).mono (fun rv M1 q => ?_))
      obtain ⟨rfl, IL, JL, rfl, hL⟩ := q
      have e11 : IL 0 11 = I 0 11 := by rw [hL.ce.1 0 rfl]
      show V 92 (36, [some (aR 0), some (aI t), some (aI u), none, none], [], MM N IL JL) _
      refine V.blk [(36, .aload 0, 1), (37, .getfield 9005, 3), (40, .getfield 7006, 3), (43, .bipush 0, 1), (44, .aload 0, 1), (45, .getfield 9009, 3), (48, .bipush 0, 1), (49, .bipush 320, 3), (52, .invokestatic 1002, 3)] (ps := [0 ≤ 0 ∧ 0 ≤ 0 ∧ 0 ≤ 320 ∧ 0 + 320 ≤ 320 ∧ 0 + 320 ≤ 320]) (z' := (55, [some (aR 0), some (aI t), some (aI u), none, none], [], MM N IL (ma JL 50 (acp (JL 39) (JL 50) 0 0 320)))) (by decide +kernel) rfl (show (0 ≤ 0 ∧ 0 ≤ 0 ∧ 0 ≤ 320 ∧ 0 + 320 ≤ 320 ∧ 0 + 320 ≤ 320) from (by omega)) ?_
      refine V.nJ (fun J6 eJ6 => ?_)
      have hs2 : svOK IL J6 := svOK_congr (hL.sv hX) rfl rfl rfl (by rw [eJ6, ma_ne _ _ (by decide)]) (by rw [eJ6, ma_ne _ _ (by decide)])
      have hX2 : WX IL J6 := WX_er hX hL.ce.er hs2
      have j8 : J6 8 = J 8 := by rw [eJ6, ma_ne _ _ (by decide)]; exact hL.2.1 8 (by decide) (by decide) (by decide) (by decide) (by decide)
      have j9 : J6 9 = J 9 := by rw [eJ6, ma_ne _ _ (by decide)]; exact hL.2.1 9 (by decide) (by decide) (by decide) (by decide) (by decide)
      have j50 : ∀ s, s < 320 → J6 50 s = JL 39 s := fun s hs => by
        rw [eJ6, ma_self]
        unfold acp
        rw [if_pos (by omega)]
        exact congrArg (JL 39) (by omega)
      refine V.blk [(55, .aload 0, 1), (56, .getfield 9005, 3), (59, .iload 2, 1), (60, .aload 0, 1), (61, .getfield 9011, 3), (64, .bipush (-1), 1)] (ps := []) (z' := (65, [some (aR 0), some (aI t), some (aI u), none, none], [aI (-1), aI (IL 0 11), aI u, aR 36], MM N IL J6)) (by decide +kernel) rfl trivial ?_
      refine V.cv (c := 49) (na := 4) (o := 7) (a := 36) [aI (-1), aI (IL 0 11), aI u] [] (by decide +kernel) rfl rfl rfl rfl rfl ((c_look hX2).mono (fun rv M1 q => ?_))
      obtain ⟨rfl, IM, JM, rfl, hM⟩ := q
      show V 92 (68, [some (aR 0), some (aI t), some (aI u), none, none], [], MM N IM JM) _
      refine V.blk [(68, .bipush 0, 1), (69, .istore 3, 1), (70, .bipush 0, 1), (71, .istore 4, 2)] (ps := []) (z' := (73, [some (aR 0), some (aI t), some (aI u), some (aI 0), some (aI 0)], [], MM N IM JM)) (by decide +kernel) rfl trivial ?_
      refine (l_differ (N := N) 322 0 0 (by omega) (by omega) rfl).mono (fun rv M2 q => ?_)
      obtain ⟨rfl, rfl⟩ := q
      have hS2 := hM.2.2.2
      rw [SETS_er hL.ce.er hX.2.2.1.1 j8 j9] at hS2
      rw [e11] at hS2
      refine ⟨_, I, IM, JM, rfl, rfl, ⟨fun w => by exfalso; omega, fun _ => ⟨rfl, _, _, hL.2.2.2, hS2, congrArg aI (dfF_congr 320 fun s hs => ⟨?_, ?_⟩)⟩⟩, hL.ce.trans hM.ce, hM.sv hX2⟩
      · rw [hM.2.1 50 (by decide) (by decide) (by decide) (by decide) (by decide), j50 s hs, vw_lt hs]
      · rw [vw_lt hs]
    · skip
      try simp only [b2_cast, b2_ncast, Classical.not_not, lcm_lt, lcm_ge, lcm_gt, lcm_le, lcm_eq, b2_0, b2_n0, Bool.not_eq_false, Bool.not_eq_true, decide_eq_true_eq, decide_eq_false_iff_not] at bh5
      refine V.blk [(16, .aload 0, 1), (17, .bipush (-3), 2)] (ps := []) (z' := (19, [some (aR 0), some (aI t), some (aI u), none, none], [aI (-3), aR 0], MM N I J)) (by decide +kernel) rfl trivial ?_
      refine V.cv (c := 98) (na := 2) (o := 9) (a := 0) [aI (-3)] [] (by decide +kernel) rfl rfl rfl rfl rfl ((c_refuse (by assumption) (by omega)).mono (fun rv M1 q => ?_))
      obtain ⟨rfl, rfl⟩ := q
      show V 92 (22, [some (aR 0), some (aI t), some (aI u), none, none], [aI (-3)], MM N ((rfU I (-3))) J) _
      refine V.nI (fun I7 eI7 => ?_)
      refine V.ri (by decide +kernel) ?_
      exact ⟨_, rfU I (-3), _, J, rfl, rfl, ⟨fun _ => ⟨rfl, rfl⟩, fun w => by exfalso; omega⟩, by subst_vars; exact CE.refl _, by subst_vars; exact sv_rf hX.2.2.2.2.2.2.2.1⟩
