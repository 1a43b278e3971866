/-! ===== the reference: relate ===== -/
theorem lm_relate {N : Nat} {I : MI} {J : MJ} {K : MI} {L : MJ} {k rl p : Int} (hX : WX K L) (hA : RA K I) (hr : RfM I) (hV : Vok I) (hc : ((0 ≤ k ∧ k < 6) ∧ (0 ≤ rl ∧ rl < 8)) ∧ (-1 ≤ p ∧ p < 64)) : V 141 (38, [some (aR 52), some (aI k), some (aI rl), some (aI p), none, none], [], MM N I J) (fun r M' => ∃ v U I', r = some (aI v) ∧ M' = MM N I' J ∧ RelR K k rl p L v U ∧ RA U I' ∧ Vn K U I I') := by
  obtain ⟨hv1, hv2, hv3, hv4, hv5, hv6⟩ := hV
  refine V.blk [(38, .bipush 8, 2), (40, .iload 1, 1), (41, .imul, 1), (42, .iload 2, 1), (43, .iadd, 1), (44, .istore 4, 2), (46, .aload 0, 1), (47, .getfield 10006, 3), (50, .iload 4, 2), (52, .iaload, 1), (53, .istore 5, 2), (55, .aload 0, 1), (56, .getfield 10006, 3), (59, .iload 4, 2), (61, .iload 3, 1), (62, .iastore, 1)] (ps := [inR (8 * k), inR ((8 * k) + rl), 0 ≤ ((8 * k) + rl) ∧ ((8 * k) + rl) < 48, 0 ≤ ((8 * k) + rl) ∧ ((8 * k) + rl) < 48]) (z' := (63, [some (aR 52), some (aI k), some (aI rl), some (aI p), some (aI ((8 * k) + rl)), some (aI (I 58 (((8 * k) + rl).toNat)))], [], MM N (ma I 58 (ma (I 58) (((8 * k) + rl).toNat) p)) J)) (by decide +kernel) rfl (show (inR (8 * k)) ∧ (inR ((8 * k) + rl)) ∧ (0 ≤ ((8 * k) + rl) ∧ ((8 * k) + rl) < 48) ∧ (0 ≤ ((8 * k) + rl) ∧ ((8 * k) + rl) < 48) from ⟨(by unfold inR; first | omega | (simp [ma]; omega)), (by unfold inR; first | omega | (simp [ma]; omega)), (by first | omega | (simp [ma]; omega)), (by first | omega | (simp [ma]; omega))⟩) ?_
  refine V.nI (fun I1 eI1 => ?_)
  have q0 : ∀ i, i ≠ 58 → I1 i = I i := fun i a => by rw [eI1, ma_ne _ _ a]
  have q58 : I1 58 = ma (I 58) (8 * k + rl).toNat p := by rw [eI1, ma_self]
  clear eI1
  have kn : ∀ i, i ≠ 7 → relU K k rl p i = K i := fun i a => ma_ne _ _ a
  have k7 : relU K k rl p 7 = ma (K 7) (k * 8 + rl).toNat p := ma_self _ _ _
  have e8 : (8 * k + rl).toNat = (k * 8 + rl).toNat := by omega
  have hWr : WRu (relU K k rl p) := rel_rt hX.2.1 hc.2
  have hs' : svOK (relU K k rl p) L := svOK_congr hX.2.2.2.2.2.2.2.1 (kn 4 (by decide)) (kn 5 (by decide)) (kn 6 (by decide)) rfl rfl
  have hRR : RRu (relU K k rl p) I1 := by
    refine ⟨?_, fun q hq => ?_⟩
    · rw [q0 54 (by decide), q0 55 (by decide), q0 56 (by decide), q0 57 (by decide), kn 4 (by decide), kn 5 (by decide), kn 6 (by decide)]
      exact hA.2.1.1
    · rw [q58, k7, e8]
      by_cases e : q = (k * 8 + rl).toNat
      · rw [e, ma_self, ma_self]
      · rw [ma_ne _ _ e, ma_ne _ _ e]
        exact hA.2.1.2 q hq
  have hE2 : EdH (relU K k rl p) L I1 := by
    obtain ⟨a, b, c, d, f, g, h1, h2, h3, h4⟩ := hX.EdH hA
    refine ⟨?_, hWr, hs', fun w hw => ?_, ?_, ?_, ?_, hRR, ?_, ?_⟩
    · unfold WTh; rw [kn 1 (by decide), kn 2 (by decide)]; exact a
    · rw [kn 10 (by decide)] at hw
      have := d w hw
      unfold WPr at this ⊢
      rw [kn 1 (by decide), kn 11 (by decide), kn 12 (by decide), kn 13 (by decide), kn 14 (by decide), kn 17 (by decide), kn 18 (by decide), kn 19 (by decide)]
      exact this
    · rw [kn 10 (by decide)]; exact f
    · unfold WDr WAct WCnd at g ⊢
      rw [kn 1 (by decide), kn 22 (by decide), kn 23 (by decide), kn 24 (by decide), kn 25 (by decide), kn 26 (by decide), kn 27 (by decide), kn 28 (by decide), kn 29 (by decide), kn 30 (by decide)]
      exact g
    · unfold RTh; rw [kn 1 (by decide), kn 2 (by decide), q0 52 (by decide), q0 53 (by decide)]; exact h1
    · unfold RPr; rw [kn 10 (by decide), kn 11 (by decide), kn 12 (by decide), kn 13 (by decide), kn 14 (by decide), kn 15 (by decide), kn 16 (by decide), q0 52 (by decide), q0 59 (by decide), q0 60 (by decide), q0 61 (by decide), q0 62 (by decide), q0 63 (by decide), q0 64 (by decide)]; exact h3
    · unfold RDr; rw [kn 22 (by decide), kn 23 (by decide), kn 24 (by decide), kn 25 (by decide), kn 26 (by decide), kn 27 (by decide), kn 28 (by decide), kn 29 (by decide), kn 30 (by decide), q0 52 (by decide), q0 68 (by decide), q0 69 (by decide), q0 70 (by decide), q0 71 (by decide), q0 72 (by decide), q0 73 (by decide), q0 74 (by decide), q0 75 (by decide), q0 76 (by decide)]; exact h4
  have h37 : I1 52 37 = 0 := by rw [q0 52 (by decide)]; exact hv6
  refine V.blk [(63, .aload 0, 1)] (ps := []) (z' := (64, [some (aR 52), some (aI k), some (aI rl), some (aI p), some (aI ((8 * k) + rl)), some (aI (I 58 (((8 * k) + rl).toNat)))], [aR 52], MM N I1 J)) (by decide +kernel) rfl trivial ?_
  refine V.cv (c := 132) (na := 1) (o := 10) (a := 52) [] [] (by decide +kernel) rfl rfl rfl rfl rfl ((m_isRing0 hE2 h37).mono (fun rv M1 q => ?_))
  obtain ⟨b, IR, rfl, rfl, r1, r2⟩ := q
  show V 141 (67, [some (aR 52), some (aI k), some (aI rl), some (aI p), some (aI ((8 * k) + rl)), some (aI (I 58 (((8 * k) + rl).toNat)))], [aI (b2 b)], MM N IR J) _
  refine V.blk [(67, .ifCond .eq 86, 3)] (ps := []) (z' := (brc .eq (b2 b) 0 86 70, [some (aR 52), some (aI k), some (aI rl), some (aI p), some (aI ((8 * k) + rl)), some (aI (I 58 (((8 * k) + rl).toNat)))], [], MM N IR J)) (by decide +kernel) rfl trivial ?_
  refine V.eq (fun bh2 => ?_) (fun bh3 => ?_)
  · skip
    try simp only [b2_cast, b2_ncast, Classical.not_not, lcm_lt, lcm_ge, lcm_gt, lcm_le, lcm_eq, b2_0, b2_n0, Bool.not_eq_false, Bool.not_eq_true, decide_eq_true_eq, decide_eq_false_iff_not] at bh2
    have hyy : IR 52 40 = I 52 40 := by rw [r1 52 (by decide) (by decide) (by decide) (by decide) (by decide), q0 52 (by decide)]
    refine V.blk [(86, .aload 0, 1), (87, .dup, 1), (88, .getfield 10040, 3), (91, .bipush 1, 1), (92, .iadd, 1), (93, .putfield 10040, 3), (96, .bipush 1, 1)] (ps := [inR ((IR 52 40) + 1)]) (z' := (97, [some (aR 52), some (aI k), some (aI rl), some (aI p), some (aI ((8 * k) + rl)), some (aI (I 58 (((8 * k) + rl).toNat)))], [aI 1], MM N (ma IR 52 (ma (IR 52) 40 ((IR 52 40) + 1))) J)) (by decide +kernel) rfl (show (inR ((IR 52 40) + 1)) from (by unfold inR; first | omega | (simp [ma]; omega))) ?_
    refine V.nI (fun I4 eI4 => ?_)
    refine V.ri (by decide +kernel) ?_
    have hb : ¬ ringF (relU K k rl p) L := fun w => by
      have := r2.mpr w
      simp_all
    have y52 : IR 52 = I 52 := by rw [r1 52 (by decide) (by decide) (by decide) (by decide) (by decide)]; exact q0 52 (by decide)
    refine ⟨1, relU K k rl p, _, rfl, rfl, ⟨fun w => absurd hc w, fun _ => ⟨fun w => absurd w hb, fun _ => ⟨rfl, rfl⟩⟩⟩, ?_, ?_⟩
    · have hRR2 : RRu (relU K k rl p) IR := by unfold RRu; rw [r1 54 (by decide) (by decide) (by decide) (by decide) (by decide), r1 55 (by decide) (by decide) (by decide) (by decide) (by decide), r1 56 (by decide) (by decide) (by decide) (by decide) (by decide), r1 57 (by decide) (by decide) (by decide) (by decide) (by decide), r1 58 (by decide) (by decide) (by decide) (by decide) (by decide)]; exact hRR
      have hfr : ∀ i, 53 ≤ i → (i ≤ 77 ∨ i = 93 ∨ i = 94) → i ≠ 58 → IR i = I i := fun i a b c => by rw [r1 i (by omega) (by omega) (by omega) (by omega) (by omega)]; exact q0 i c
      subst_vars
      refine RA.keep (I := IR) ?_ (fun i a b => by rw [ma_ne _ _ (by omega)]) (fun k _ _ a _ _ _ _ => by rw [ma_self, ma_ne _ _ a])
      obtain ⟨h1, h2, h3, h4, h5, h6, h7, h8⟩ := hA
      refine ⟨?_, hRR2, ?_, ?_, ?_, ?_, ?_, ?_⟩
      · unfold RTh; rw [kn 1 (by decide), kn 2 (by decide), y52, hfr 53 (by decide) (by decide) (by decide)]; exact h1
      · unfold RPr; rw [kn 10 (by decide), kn 11 (by decide), kn 12 (by decide), kn 13 (by decide), kn 14 (by decide), kn 15 (by decide), kn 16 (by decide), y52, hfr 59 (by decide) (by decide) (by decide), hfr 60 (by decide) (by decide) (by decide), hfr 61 (by decide) (by decide) (by decide), hfr 62 (by decide) (by decide) (by decide), hfr 63 (by decide) (by decide) (by decide), hfr 64 (by decide) (by decide) (by decide)]; exact h3
      · unfold RLg; rw [kn 10 (by decide), kn 20 (by decide), kn 21 (by decide), y52, hfr 65 (by decide) (by decide) (by decide), hfr 66 (by decide) (by decide) (by decide), hfr 67 (by decide) (by decide) (by decide)]; exact h4
      · unfold RDr; rw [kn 22 (by decide), kn 23 (by decide), kn 24 (by decide), kn 25 (by decide), kn 26 (by decide), kn 27 (by decide), kn 28 (by decide), kn 29 (by decide), kn 30 (by decide), y52, hfr 68 (by decide) (by decide) (by decide), hfr 69 (by decide) (by decide) (by decide), hfr 70 (by decide) (by decide) (by decide), hfr 71 (by decide) (by decide) (by decide), hfr 72 (by decide) (by decide) (by decide), hfr 73 (by decide) (by decide) (by decide), hfr 74 (by decide) (by decide) (by decide), hfr 75 (by decide) (by decide) (by decide), hfr 76 (by decide) (by decide) (by decide)]; exact h5
      · unfold RSc; rw [kn 0 (by decide), kn 51 (by decide), y52, hfr 77 (by decide) (by decide) (by decide)]; exact h6
      · unfold RRe; rw [kn 44 (by decide), kn 45 (by decide), y52, hfr 93 (by decide) (by decide) (by decide)]; exact h7
      · unfold RRo; rw [kn 48 (by decide), kn 49 (by decide), y52, hfr 94 (by decide) (by decide) (by decide)]; exact h8
    · subst_vars
      refine ⟨Or.inl ?_, ?_, ?_, ?_, ?_, ?_, ?_⟩
      · rw [ma_self, ma_self, y52]
      all_goals first | (rw [ma_self, ma_ne _ _ (by decide), y52]) | (rw [ma_ne _ _ (by decide)]; first | exact (r1 87 (by decide) (by decide) (by decide) (by decide) (by decide)).trans (q0 87 (by decide)) | exact (r1 88 (by decide) (by decide) (by decide) (by decide) (by decide)).trans (q0 88 (by decide)))
  · skip
    try simp only [b2_cast, b2_ncast, Classical.not_not, lcm_lt, lcm_ge, lcm_gt, lcm_le, lcm_eq, b2_0, b2_n0, Bool.not_eq_false, Bool.not_eq_true, decide_eq_true_eq, decide_eq_false_iff_not] at bh3
    refine V.blk [(70, .aload 0, 1), (71, .getfield 10006, 3), (74, .iload 4, 2), (76, .iload 5, 2), (78, .iastore, 1)] (ps := [0 ≤ ((8 * k) + rl) ∧ ((8 * k) + rl) < 48]) (z' := (79, [some (aR 52), some (aI k), some (aI rl), some (aI p), some (aI ((8 * k) + rl)), some (aI (I 58 (((8 * k) + rl).toNat)))], [], MM N (ma IR 58 (ma (IR 58) (((8 * k) + rl).toNat) (I 58 (((8 * k) + rl).toNat)))) J)) (by decide +kernel) rfl (show (0 ≤ ((8 * k) + rl) ∧ ((8 * k) + rl) < 48) from (by first | omega | (simp [ma]; omega))) ?_
    refine V.nI (fun I5 eI5 => ?_)
    have hb : ringF (relU K k rl p) L := r2.mp (by assumption)
    have z2 : ∀ i, i ≠ 78 → i ≠ 79 → i ≠ 80 → i ≠ 81 → i ≠ 82 → I5 i = I i := fun i a b c d e => by
      by_cases hi : i = 58
      · subst hi
        rw [eI5, ma_self, r1 58 (by decide) (by decide) (by decide) (by decide) (by decide), q58, ma_ma, ma_id]
      · rw [eI5, ma_ne _ _ hi, r1 i a b c d e]
        exact q0 i hi
    clear eI5
    have hr9 : RfM I5 := by unfold RfM; rw [z2 77 (by decide) (by decide) (by decide) (by decide) (by decide)]; exact hr
    have hA9 : RA K I5 := hA.keep (fun i a b => z2 i (by omega) (by omega) (by omega) (by omega) (by omega)) (fun k _ _ _ _ _ _ _ => by rw [z2 52 (by decide) (by decide) (by decide) (by decide) (by decide)])
    have hz52 : I5 52 = I 52 := z2 52 (by decide) (by decide) (by decide) (by decide) (by decide)
    refine V.blk [(79, .aload 0, 1), (80, .bipush (-7), 2)] (ps := []) (z' := (82, [some (aR 52), some (aI k), some (aI rl), some (aI p), some (aI ((8 * k) + rl)), some (aI (I 58 (((8 * k) + rl).toNat)))], [aI (-7), aR 52], MM N I5 J)) (by decide +kernel) rfl trivial ?_
    refine V.cv (c := 116) (na := 2) (o := 10) (a := 52) [aI (-7)] [] (by decide +kernel) rfl rfl rfl rfl rfl ((m_no (by assumption) (by omega)).mono (fun rv M1 q => ?_))
    obtain ⟨rfl, rfl⟩ := q
    show V 141 (85, [some (aR 52), some (aI k), some (aI rl), some (aI p), some (aI ((8 * k) + rl)), some (aI (I 58 (((8 * k) + rl).toNat)))], [aI (-7)], MM N ((noU I5 (-7))) J) _
    refine V.nI (fun I6 eI6 => ?_)
    refine V.ri (by decide +kernel) ?_
    refine ⟨-7, rfU K (-7), _, rfl, rfl, ⟨fun w => absurd hc w, fun _ => ⟨fun _ => ⟨rfl, rfl⟩, fun w => absurd hb w⟩⟩, ?_, ?_⟩
    · subst_vars
      exact hA9.rf (by decide)
    · subst_vars
      refine ⟨Or.inr ⟨?_, sameS.rf _ _⟩, ?_, ?_, ?_, ?_, ?_, ?_⟩
      all_goals (unfold noU; rw [ma_ne _ _ (by decide)]; first | rw [hz52] | exact z2 87 (by decide) (by decide) (by decide) (by decide) (by decide) | exact z2 88 (by decide) (by decide) (by decide) (by decide) (by decide))
theorem m_X10_relate {N : Nat} {I : MI} {J : MJ} {K : MI} {L : MJ} {k rl p : Int} (hX : WX K L) (hA : RA K I) (hr : RfM I) (hV : Vok I) (hi : inR k) : CT 141 [aR 52, aI k, aI rl, aI p] (MM N I J) (fun r M' => ∃ v U I', r = some (aI v) ∧ M' = MM N I' J ∧ RelR K k rl p L v U ∧ RA U I' ∧ Vn K U I I') := by
  unfold inR at hi
  refine CT.ofV (n := 6) (ls := [some (aR 52), some (aI k), some (aI rl), some (aI p), none, none]) rfl rfl rfl ?_
  refine V.blk [(0, .iload 1, 1), (1, .i2l, 1), (2, .jsr_w 0, 1), (3, .jsr_w 5, 3)] (ps := []) (z' := (6, [some (aR 52), some (aI k), some (aI rl), some (aI p), none, none], [aL (Int64.ofInt 5), aL (Int64.ofInt 0), aL (Int64.ofInt k)], MM N I J)) (by decide +kernel) rfl trivial ?_
  refine V.cs (c := 115) (na := 3) [aL (Int64.ofInt 5), aL (Int64.ofInt 0), aL (Int64.ofInt k)] [] (by decide +kernel) rfl rfl (V.pr (m_X10_isIn (by unfold inR; omega) (by unfold inR; omega) (by unfold inR; omega)) ?_)
  show V 141 (9, [some (aR 52), some (aI k), some (aI rl), some (aI p), none, none], [aI (b2 (decide (0 ≤ k ∧ k ≤ 5)))], MM N I J) _
  refine V.blk [(9, .ifCond .eq 31, 3)] (ps := []) (z' := (brc .eq (b2 (decide (0 ≤ k ∧ k ≤ 5))) 0 31 12, [some (aR 52), some (aI k), some (aI rl), some (aI p), none, none], [], MM N I J)) (by decide +kernel) rfl trivial ?_
  refine V.eq (fun bh1 => ?_) (fun bh2 => ?_)
  · skip
    try simp only [b2_cast, b2_ncast, Classical.not_not, lcm_lt, lcm_ge, lcm_gt, lcm_le, lcm_eq, b2_0, b2_n0, Bool.not_eq_false, Bool.not_eq_true, decide_eq_true_eq, decide_eq_false_iff_not] at bh1
    refine V.blk [(31, .aload 0, 1), (32, .bipush (-3), 2)] (ps := []) (z' := (34, [some (aR 52), some (aI k), some (aI rl), some (aI p), none, none], [aI (-3), aR 52], MM N I J)) (by decide +kernel) rfl trivial ?_
    refine V.cv (c := 116) (na := 2) (o := 10) (a := 52) [aI (-3)] [] (by decide +kernel) rfl rfl rfl rfl rfl ((m_no (by assumption) (by omega)).mono (fun rv M1 q => ?_))
    obtain ⟨rfl, rfl⟩ := q
    show V 141 (37, [some (aR 52), some (aI k), some (aI rl), some (aI p), none, none], [aI (-3)], MM N ((noU I (-3))) J) _
    refine V.nI (fun I3 eI3 => ?_)
    refine V.ri (by decide +kernel) ?_
    refine ⟨-3, rfU K (-3), noU I (-3), rfl, by subst_vars; rfl, ⟨fun w => ⟨rfl, rfl⟩, fun w => ?_⟩, hA.rf (by decide), ⟨Or.inr ⟨by unfold noU; rw [ma_ne _ _ (by decide)], sameS.rf _ _⟩, by unfold noU; rw [ma_ne _ _ (by decide)], by unfold noU; rw [ma_ne _ _ (by decide)], by unfold noU; rw [ma_ne _ _ (by decide)], by unfold noU; rw [ma_ne _ _ (by decide)], by unfold noU; rw [ma_ne _ _ (by decide)], by unfold noU; rw [ma_ne _ _ (by decide)]⟩⟩
    exfalso
    omega
  · skip
    try simp only [b2_cast, b2_ncast, Classical.not_not, lcm_lt, lcm_ge, lcm_gt, lcm_le, lcm_eq, b2_0, b2_n0, Bool.not_eq_false, Bool.not_eq_true, decide_eq_true_eq, decide_eq_false_iff_not] at bh2
    refine V.blk [(12, .iload 2, 1)] (ps := []) (z' := (13, [some (aR 52), some (aI k), some (aI rl), some (aI p), none, none], [aI rl], MM N I J)) (by decide +kernel) rfl trivial ?_
    refine V.cs (c := 118) (na := 1) [aI rl] [] (by decide +kernel) rfl rfl (V.pr (m_X10_isRelation) ?_)
    show V 141 (16, [some (aR 52), some (aI k), some (aI rl), some (aI p), none, none], [aI (b2 (decide (0 ≤ rl ∧ rl < 8)))], MM N I J) _
    refine V.blk [(16, .ifCond .eq 31, 3)] (ps := []) (z' := (brc .eq (b2 (decide (0 ≤ rl ∧ rl < 8))) 0 31 19, [some (aR 52), some (aI k), some (aI rl), some (aI p), none, none], [], MM N I J)) (by decide +kernel) rfl trivial ?_
    refine V.eq (fun bh4 => ?_) (fun bh5 => ?_)
    · skip
      try simp only [b2_cast, b2_ncast, Classical.not_not, lcm_lt, lcm_ge, lcm_gt, lcm_le, lcm_eq, b2_0, b2_n0, Bool.not_eq_false, Bool.not_eq_true, decide_eq_true_eq, decide_eq_false_iff_not] at bh4
      refine V.blk [(31, .aload 0, 1), (32, .bipush (-3), 2)] (ps := []) (z' := (34, [some (aR 52), some (aI k), some (aI rl), some (aI p), none, none], [aI (-3), aR 52], MM N I J)) (by decide +kernel) rfl trivial ?_
      refine V.cv (c := 116) (na := 2) (o := 10) (a := 52) [aI (-3)] [] (by decide +kernel) rfl rfl rfl rfl rfl ((m_no (by assumption) (by omega)).mono (fun rv M1 q => ?_))
      obtain ⟨rfl, rfl⟩ := q
      show V 141 (37, [some (aR 52), some (aI k), some (aI rl), some (aI p), none, none], [aI (-3)], MM N ((noU I (-3))) J) _
      refine V.nI (fun I6 eI6 => ?_)
      refine V.ri (by decide +kernel) ?_
      refine ⟨-3, rfU K (-3), noU I (-3), rfl, by subst_vars; rfl, ⟨fun w => ⟨rfl, rfl⟩, fun w => ?_⟩, hA.rf (by decide), ⟨Or.inr ⟨by unfold noU; rw [ma_ne _ _ (by decide)], sameS.rf _ _⟩, by unfold noU; rw [ma_ne _ _ (by decide)], by unfold noU; rw [ma_ne _ _ (by decide)], by unfold noU; rw [ma_ne _ _ (by decide)], by unfold noU; rw [ma_ne _ _ (by decide)], by unfold noU; rw [ma_ne _ _ (by decide)], by unfold noU; rw [ma_ne _ _ (by decide)]⟩⟩
      exfalso
      omega
    · skip
      try simp only [b2_cast, b2_ncast, Classical.not_not, lcm_lt, lcm_ge, lcm_gt, lcm_le, lcm_eq, b2_0, b2_n0, Bool.not_eq_false, Bool.not_eq_true, decide_eq_true_eq, decide_eq_false_iff_not] at bh5
      refine V.blk [(19, .iload 3, 1), (20, .bipush (-1), 1), (21, .if_icmp .eq 38, 3)] (ps := []) (z' := (brc .eq p (-1) 38 24, [some (aR 52), some (aI k), some (aI rl), some (aI p), none, none], [], MM N I J)) (by decide +kernel) rfl trivial ?_
      refine V.eq (fun bh7 => ?_) (fun bh8 => ?_)
      · skip
        try simp only [b2_cast, b2_ncast, Classical.not_not, lcm_lt, lcm_ge, lcm_gt, lcm_le, lcm_eq, b2_0, b2_n0, Bool.not_eq_false, Bool.not_eq_true, decide_eq_true_eq, decide_eq_false_iff_not] at bh7
        exact lm_relate hX hA hr hV (by omega)
      · skip
        try simp only [b2_cast, b2_ncast, Classical.not_not, lcm_lt, lcm_ge, lcm_gt, lcm_le, lcm_eq, b2_0, b2_n0, Bool.not_eq_false, Bool.not_eq_true, decide_eq_true_eq, decide_eq_false_iff_not] at bh8
        refine V.blk [(24, .iload 3, 1)] (ps := []) (z' := (25, [some (aR 52), some (aI k), some (aI rl), some (aI p), none, none], [aI p], MM N I J)) (by decide +kernel) rfl trivial ?_
        refine V.cs (c := 121) (na := 1) [aI p] [] (by decide +kernel) rfl rfl (V.pr (m_X10_isPlace) ?_)
        show V 141 (28, [some (aR 52), some (aI k), some (aI rl), some (aI p), none, none], [aI (b2 (decide (0 ≤ p ∧ p < 64)))], MM N I J) _
        refine V.blk [(28, .ifCond .ne 38, 3)] (ps := []) (z' := (brc .ne (b2 (decide (0 ≤ p ∧ p < 64))) 0 38 31, [some (aR 52), some (aI k), some (aI rl), some (aI p), none, none], [], MM N I J)) (by decide +kernel) rfl trivial ?_
        refine V.ne (fun bh9 => ?_) (fun bh10 => ?_)
        · skip
          try simp only [b2_cast, b2_ncast, Classical.not_not, lcm_lt, lcm_ge, lcm_gt, lcm_le, lcm_eq, b2_0, b2_n0, Bool.not_eq_false, Bool.not_eq_true, decide_eq_true_eq, decide_eq_false_iff_not] at bh9
          exact lm_relate hX hA hr hV (by omega)
        · skip
          try simp only [b2_cast, b2_ncast, Classical.not_not, lcm_lt, lcm_ge, lcm_gt, lcm_le, lcm_eq, b2_0, b2_n0, Bool.not_eq_false, Bool.not_eq_true, decide_eq_true_eq, decide_eq_false_iff_not] at bh10
          refine V.blk [(31, .aload 0, 1), (32, .bipush (-3), 2)] (ps := []) (z' := (34, [some (aR 52), some (aI k), some (aI rl), some (aI p), none, none], [aI (-3), aR 52], MM N I J)) (by decide +kernel) rfl trivial ?_
          refine V.cv (c := 116) (na := 2) (o := 10) (a := 52) [aI (-3)] [] (by decide +kernel) rfl rfl rfl rfl rfl ((m_no (by assumption) (by omega)).mono (fun rv M1 q => ?_))
          obtain ⟨rfl, rfl⟩ := q
          show V 141 (37, [some (aR 52), some (aI k), some (aI rl), some (aI p), none, none], [aI (-3)], MM N ((noU I (-3))) J) _
          refine V.nI (fun I11 eI11 => ?_)
          refine V.ri (by decide +kernel) ?_
          refine ⟨-3, rfU K (-3), noU I (-3), rfl, by subst_vars; rfl, ⟨fun w => ⟨rfl, rfl⟩, fun w => ?_⟩, hA.rf (by decide), ⟨Or.inr ⟨by unfold noU; rw [ma_ne _ _ (by decide)], sameS.rf _ _⟩, by unfold noU; rw [ma_ne _ _ (by decide)], by unfold noU; rw [ma_ne _ _ (by decide)], by unfold noU; rw [ma_ne _ _ (by decide)], by unfold noU; rw [ma_ne _ _ (by decide)], by unfold noU; rw [ma_ne _ _ (by decide)], by unfold noU; rw [ma_ne _ _ (by decide)]⟩⟩
          exfalso
          omega
