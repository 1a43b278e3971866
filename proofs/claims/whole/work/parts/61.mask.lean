/-! ===== the reference: what is kept of a look; may, who, reach, list, differ ===== -/
theorem swF_lev {K : MI} {cp : Nat → Bool} {lev lev' : Nat → Int} {l : Int} {v : SV} (hk : kdOK K) (h : ∀ k, k < 48 → lev k = lev' k) : ∀ n, n ≤ 320 → swF K cp lev l n v = swF K cp lev' l n v
  | 0, _ => rfl
  | n + 1, hn => by
    unfold swF
    rw [swF_lev hk h n (by omega), h _ (kS_lt hk (by omega))]
theorem SetsR_lev {K : MI} {cp : Nat → Bool} {lev lev' : Nat → Int} (hk : kdOK K) (hn : K 1 1 ≤ 40) (h : ∀ k, k < 48 → lev k = lev' k) : ∀ (n : Nat) (v : SV), SetsR K cp lev n v → SetsR K cp lev' n v
  | 0, v, g => g
  | n + 1, w, ⟨v, g1, k, g2, g3⟩ => by
    have e : ∀ v, swp K cp lev n v = swp K cp lev' n v := fun v => swF_lev hk h _ (by omega)
    have ei : ∀ k, itr K cp lev n k v = itr K cp lev' n k v := by
      intro k
      induction k with
      | zero => rfl
      | succ k ih =>
        show swp K cp lev n (itr K cp lev n k v) = swp K cp lev' n (itr K cp lev' n k v)
        rw [ih, e]
    exact ⟨v, SetsR_lev hk hn h n v g1, k, by rw [← ei]; exact g2, by rw [← e]; exact g3⟩
theorem lv_sv {K : MI} {L L' : MJ} (h : svOK K L) (h' : svOK K L') (hl : rlOK K) (h7 : ∀ n, n < 48 → -1 ≤ K 7 n ∧ K 7 n < 64) : ∀ k, k < 48 → lv K L k = lv K L' k := by
  have e : ∀ n m, n < 48 → m < 48 → (EJ K L n m ↔ EJ K L' n m) ∧ (ET K L n m ↔ ET K L' n m) := by
    intro n m hn hm
    have := h7 n hn
    unfold EJ ET
    constructor
    · refine ex_congr fun p => ?_
      constructor
      · rintro ⟨a, b, c⟩
        exact ⟨a, (sv_uniq h h' hl _ (by omega) p (by omega)).1.mpr b, c⟩
      · rintro ⟨a, b, c⟩
        exact ⟨a, (sv_uniq h h' hl _ (by omega) p (by omega)).1.mp b, c⟩
    · refine ex_congr fun p => ?_
      constructor
      · rintro ⟨a, b, c⟩
        exact ⟨a, (sv_uniq h h' hl _ (by omega) p (by omega)).2.mpr b, c⟩
      · rintro ⟨a, b, c⟩
        exact ⟨a, (sv_uniq h h' hl _ (by omega) p (by omega)).2.mp b, c⟩
  intro k hk
  by_cases c : ∃ v, LevOK (EJ K L) (ET K L) v
  · obtain ⟨v, hv⟩ := c
    rw [← lv_eq hv k hk]
    exact lv_eq (LevOK_congr e hv) k hk
  · have c' : ¬ ∃ v, LevOK (EJ K L') (ET K L') v := fun ⟨v, hv⟩ => c ⟨v, LevOK_congr (fun n m a b => ⟨(e n m a b).1.symm, (e n m a b).2.symm⟩) hv⟩
    unfold lv lvG
    rw [dif_neg c, dif_neg c']
theorem SETS_sv {K : MI} {L L' : MJ} {cp : Nat → Bool} {v : SV} (h : svOK K L) (h' : svOK K L') (hl : rlOK K) (h7 : ∀ n, n < 48 → -1 ≤ K 7 n ∧ K 7 n < 64) (hk : kdOK K) (hn : K 1 1 ≤ 40) (g : SETS K L cp v) : SETS K L' cp v := by
  obtain ⟨a, n, b, c⟩ := g
  have e := lv_sv h h' hl h7
  exact ⟨a, n, fun k hk => by rw [← e k hk]; exact b k hk, SetsR_lev hk hn e n v c⟩
theorem SETS_rd {K U : MI} {L : MJ} {t now wo : Int} {v : SV} (h : ∀ i, rdC i → U i = K i) : SETS U L (cnB U t now wo) v ↔ SETS K L (cnB K t now wo) v := by
  have ee := EJ_congr (I := K) (I' := U) (J := L) (J' := L) (fun i hi => h i (by unfold rdC; omega)) rfl rfl
  unfold SETS
  rw [lv_congr ee.1 ee.2, SetsR_ce h, cnB_ce h]
theorem ChR_rd {K U : MI} {cp : Nat → Bool} {n m : Nat} {I : MI} (h : ∀ i, rdC i → U i = K i) : ChR U cp n m I ↔ ChR K cp n m I := by
  unfold ChR
  rw [spB_ce h, h 17 (by unfold rdC; omega)]
theorem CA.same {K U : MI} {L : MJ} {I I' : MI} {J J' : MJ} (h : CA K L I J) (hs : sameS K U) (e40 : I' 52 40 = I 52 40) (e41 : I' 52 41 = I 52 41) (e42 : I' 52 42 = I 52 42) (e87 : I' 87 = I 87) (e88 : I' 88 = I 88) (ej : J' 83 = J 83) : CA U L I' J' := by
  unfold CA at h ⊢
  rw [e40, e41, e42, hs.2, SETS_rd hs.1, ej, ChR_rd hs.1, cnB_ce hs.1, hs.1 10 (by unfold rdC; omega)]
  intro w
  obtain ⟨a, b⟩ := h w
  refine ⟨a, ?_⟩
  unfold ChR at b ⊢
  rw [e87, e88]
  exact b
/-- how the reference stands behind a call -/
def PO (U : MI) (L : MJ) (I I' : MI) (J' : MJ) : Prop := RA U I' ∧ (I' 52 37 = 0 ∧ I' 52 43 = -1 ∧ 0 ≤ I' 52 41 ∧ I' 52 41 ≤ I' 52 40 ∧ I 52 40 ≤ I' 52 40 ∧ I' 52 40 ≤ I 52 40 + 1) ∧ CA U L I' J'
theorem PO.vn {K U : MI} {L L' : MJ} {I I' : MI} {J J' : MJ} (hA : RA U I') (hV : Vok I) (hn : Vn K U I I') (hC : CA K L I J) (hL : I' 52 40 = I 52 40 → L' = L) (ej : J' 83 = J 83) : PO U L' I I' J' := by
  obtain ⟨v1, v2, v3, v4, v5, v6⟩ := hV
  obtain ⟨n1, n2, n3, n4, n5, e87, e88⟩ := hn
  refine ⟨hA, ⟨by omega, by omega, by omega, by omega, by omega, by omega⟩, ?_⟩
  rcases n1 with n1 | ⟨n1, n6⟩
  · intro w; omega
  · rw [hL n1]
    exact hC.same n6 n1 n3 n4 e87 e88 ej
theorem PO.no {K : MI} {L : MJ} {I : MI} {J : MJ} {z : Int} (hA : RA K I) (hV : Vok I) (hC : CA K L I J) (hz : -9 ≤ z ∧ z ≤ -2) : PO (rfU K z) L I (noU I z) J :=
  PO.vn (hA.rf hz) hV ⟨Or.inr ⟨by unfold noU; rw [ma_ne _ _ (by decide)], sameS.rf _ _⟩, by unfold noU; rw [ma_ne _ _ (by decide)], by unfold noU; rw [ma_ne _ _ (by decide)], by unfold noU; rw [ma_ne _ _ (by decide)], by unfold noU; rw [ma_ne _ _ (by decide)], by unfold noU; rw [ma_ne _ _ (by decide)], by unfold noU; rw [ma_ne _ _ (by decide)]⟩ hC (fun _ => rfl) rfl
theorem MLk.ra {K : MI} {L : MJ} {t : Int} {I I' : MI} {J J' : MJ} (h : MLk K L t I J I' J') (hA : RA K I) : RA K I' := hA.keep (fun i a b => h.1 i (by omega) (by omega) (by omega) (by omega) (by omega) (by omega) (by omega) (by omega)) (fun k _ _ _ a b _ _ => h.2.1 k a b)
theorem MLk.vok {K : MI} {L : MJ} {t : Int} {I I' : MI} {J J' : MJ} (h : MLk K L t I J I' J') (hV : Vok I) : Vok I' := by
  obtain ⟨v1, v2, v3, v4, v5, v6⟩ := hV
  obtain ⟨h1, h2, h3, h4, -⟩ := h
  have a := h2 40 (by decide) (by decide)
  have b := h2 43 (by decide) (by decide)
  have c := h2 37 (by decide) (by decide)
  exact ⟨by omega, by omega, by omega, by omega, by omega, by omega⟩
theorem MLk.ca {K : MI} {L : MJ} {t : Int} {I I' : MI} {J J' : MJ} (h : MLk K L t I J I' J') : CA K L I' J' := by
  obtain ⟨h1, h2, h3, h4, h5, h6, h7⟩ := h
  unfold CA
  rw [h4]
  exact fun _ => ⟨h6, h7⟩
theorem MLk.po {K : MI} {L : MJ} {t : Int} {I I' : MI} {J J' : MJ} (h : MLk K L t I J I' J') (hA : RA K I) (hV : Vok I) : PO K L I I' J' := by
  have v := h.vok hV
  have a := h.2.1 40 (by decide) (by decide)
  obtain ⟨v1, v2, v3, v4, v5, v6⟩ := v
  exact ⟨h.ra hA, ⟨v6, v5, v3, v4, by omega, by omega⟩, h.ca⟩
theorem m_X10_may {N : Nat} {I : MI} {J : MJ} {K : MI} {L : MJ} {th rl pe t : Int} (hX : WX K L) (hA : RA K I) (hr : RfM I) (hV : Vok I) (hC : CA K L I J) : CT 173 [aR 52, aI th, aI rl, aI pe, aI t] (MM N I J) (fun r M' => ∃ a U I' J', r = some a ∧ M' = MM N I' J' ∧ MayR K L th rl pe t a U ∧ PO U L I I' J') := by
  have h40 := hX.prOK.1
  have g1 : I 52 1 = K 1 1 := hA.1.1
  have g18 : I 52 18 = K 10 13 := hA.2.2.2.1.2.1
  refine CT.ofV (n := 5) (ls := [some (aR 52), some (aI th), some (aI rl), some (aI pe), some (aI t)]) rfl rfl rfl ?_
  refine V.blk [(0, .aload 0, 1), (1, .iload 1, 1), (2, .iload 2, 1)] (ps := []) (z' := (3, [some (aR 52), some (aI th), some (aI rl), some (aI pe), some (aI t)], [aI rl, aI th, aR 52], MM N I J)) (by decide +kernel) rfl trivial ?_
  refine V.cv (c := 172) (na := 3) (o := 10) (a := 52) [aI rl, aI th] [] (by decide +kernel) rfl rfl rfl rfl rfl (V.pr (m_X10_isCell) ?_)
  show V 173 (6, [some (aR 52), some (aI th), some (aI rl), some (aI pe), some (aI t)], [aI (b2 (decide (0 ≤ th ∧ th < I 52 1 ∧ 0 ≤ rl ∧ rl < 8)))], MM N I J) _
  refine V.blk [(6, .ifCond .eq 25, 3)] (ps := []) (z' := (brc .eq (b2 (decide (0 ≤ th ∧ th < I 52 1 ∧ 0 ≤ rl ∧ rl < 8))) 0 25 9, [some (aR 52), some (aI th), some (aI rl), some (aI pe), some (aI t)], [], MM N I J)) (by decide +kernel) rfl trivial ?_
  refine V.eq (fun bh1 => ?_) (fun bh2 => ?_)
  · skip
    try simp only [b2_cast, b2_ncast, Classical.not_not, lcm_lt, lcm_ge, lcm_gt, lcm_le, lcm_eq, b2_0, b2_n0, Bool.not_eq_false, Bool.not_eq_true, decide_eq_true_eq, decide_eq_false_iff_not] at bh1
    refine V.blk [(25, .aload 0, 1), (26, .bipush (-3), 2)] (ps := []) (z' := (28, [some (aR 52), some (aI th), some (aI rl), some (aI pe), some (aI t)], [aI (-3), aR 52], MM N I J)) (by decide +kernel) rfl trivial ?_
    refine V.cv (c := 116) (na := 2) (o := 10) (a := 52) [aI (-3)] [] (by decide +kernel) rfl rfl rfl rfl rfl ((m_no (by assumption) (by omega)).mono (fun rv M1 q => ?_))
    obtain ⟨rfl, rfl⟩ := q
    show V 173 (31, [some (aR 52), some (aI th), some (aI rl), some (aI pe), some (aI t)], [aI (-3)], MM N ((noU I (-3))) J) _
    refine V.nI (fun I3 eI3 => ?_)
    refine V.ri (by decide +kernel) ?_
    refine ⟨_, rfU K (-3), noU I (-3), J, rfl, by subst_vars; rfl, ⟨fun _ => ⟨rfl, rfl⟩, fun w => by exfalso; omega⟩, PO.no hA hV hC (by decide)⟩
  · skip
    try simp only [b2_cast, b2_ncast, Classical.not_not, lcm_lt, lcm_ge, lcm_gt, lcm_le, lcm_eq, b2_0, b2_n0, Bool.not_eq_false, Bool.not_eq_true, decide_eq_true_eq, decide_eq_false_iff_not] at bh2
    refine V.blk [(9, .iload 3, 1)] (ps := []) (z' := (10, [some (aR 52), some (aI th), some (aI rl), some (aI pe), some (aI t)], [aI pe], MM N I J)) (by decide +kernel) rfl trivial ?_
    refine V.cs (c := 119) (na := 1) [aI pe] [] (by decide +kernel) rfl rfl (V.pr (m_X10_isPerson) ?_)
    show V 173 (13, [some (aR 52), some (aI th), some (aI rl), some (aI pe), some (aI t)], [aI (b2 (decide (0 ≤ pe ∧ pe < 40)))], MM N I J) _
    refine V.blk [(13, .ifCond .eq 25, 3)] (ps := []) (z' := (brc .eq (b2 (decide (0 ≤ pe ∧ pe < 40))) 0 25 16, [some (aR 52), some (aI th), some (aI rl), some (aI pe), some (aI t)], [], MM N I J)) (by decide +kernel) rfl trivial ?_
    refine V.eq (fun bh4 => ?_) (fun bh5 => ?_)
    · skip
      try simp only [b2_cast, b2_ncast, Classical.not_not, lcm_lt, lcm_ge, lcm_gt, lcm_le, lcm_eq, b2_0, b2_n0, Bool.not_eq_false, Bool.not_eq_true, decide_eq_true_eq, decide_eq_false_iff_not] at bh4
      refine V.blk [(25, .aload 0, 1), (26, .bipush (-3), 2)] (ps := []) (z' := (28, [some (aR 52), some (aI th), some (aI rl), some (aI pe), some (aI t)], [aI (-3), aR 52], MM N I J)) (by decide +kernel) rfl trivial ?_
      refine V.cv (c := 116) (na := 2) (o := 10) (a := 52) [aI (-3)] [] (by decide +kernel) rfl rfl rfl rfl rfl ((m_no (by assumption) (by omega)).mono (fun rv M1 q => ?_))
      obtain ⟨rfl, rfl⟩ := q
      show V 173 (31, [some (aR 52), some (aI th), some (aI rl), some (aI pe), some (aI t)], [aI (-3)], MM N ((noU I (-3))) J) _
      refine V.nI (fun I6 eI6 => ?_)
      refine V.ri (by decide +kernel) ?_
      refine ⟨_, rfU K (-3), noU I (-3), J, rfl, by subst_vars; rfl, ⟨fun _ => ⟨rfl, rfl⟩, fun w => by exfalso; omega⟩, PO.no hA hV hC (by decide)⟩
    · skip
      try simp only [b2_cast, b2_ncast, Classical.not_not, lcm_lt, lcm_ge, lcm_gt, lcm_le, lcm_eq, b2_0, b2_n0, Bool.not_eq_false, Bool.not_eq_true, decide_eq_true_eq, decide_eq_false_iff_not] at bh5
      refine V.blk [(16, .aload 0, 1), (17, .iload 4, 2)] (ps := []) (z' := (19, [some (aR 52), some (aI th), some (aI rl), some (aI pe), some (aI t)], [aI t, aR 52], MM N I J)) (by decide +kernel) rfl trivial ?_
      refine V.cv (c := 120) (na := 2) (o := 10) (a := 52) [aI t] [] (by decide +kernel) rfl rfl rfl rfl rfl (V.pr (m_X10_isTurn) ?_)
      show V 173 (22, [some (aR 52), some (aI th), some (aI rl), some (aI pe), some (aI t)], [aI (b2 (decide (0 ≤ t ∧ t ≤ I 52 18)))], MM N I J) _
      refine V.blk [(22, .ifCond .ne 32, 3)] (ps := []) (z' := (brc .ne (b2 (decide (0 ≤ t ∧ t ≤ I 52 18))) 0 32 25, [some (aR 52), some (aI th), some (aI rl), some (aI pe), some (aI t)], [], MM N I J)) (by decide +kernel) rfl trivial ?_
      refine V.ne (fun bh7 => ?_) (fun bh8 => ?_)
      · skip
        try simp only [b2_cast, b2_ncast, Classical.not_not, lcm_lt, lcm_ge, lcm_gt, lcm_le, lcm_eq, b2_0, b2_n0, Bool.not_eq_false, Bool.not_eq_true, decide_eq_true_eq, decide_eq_false_iff_not] at bh7
        refine V.blk [(32, .aload 0, 1), (33, .iload 4, 2)] (ps := []) (z' := (35, [some (aR 52), some (aI th), some (aI rl), some (aI pe), some (aI t)], [aI t, aR 52], MM N I J)) (by decide +kernel) rfl trivial ?_
        refine V.cv (c := 171) (na := 2) (o := 10) (a := 52) [aI t] [] (by decide +kernel) rfl rfl rfl rfl rfl ((m_look hX hA hV hC).mono (fun rv M1 q => ?_))
        obtain ⟨rfl, IL, JL, rfl, hL⟩ := q
        show V 173 (38, [some (aR 52), some (aI th), some (aI rl), some (aI pe), some (aI t)], [], MM N IL JL) _
        refine V.blk [(38, .aload 0, 1), (39, .getfield 10044, 3), (42, .bipush 8, 2), (44, .iload 1, 1), (45, .imul, 1), (46, .iload 2, 1), (47, .iadd, 1), (48, .laload, 1), (49, .iload 3, 1), (50, .lshr, 1), (51, .jsr_w 1, 1), (52, .land, 1), (53, .l2i, 1)] (ps := [inR (8 * th), inR ((8 * th) + rl), 0 ≤ ((8 * th) + rl) ∧ ((8 * th) + rl) < 320, 0 ≤ pe ∧ pe < 64]) (z' := (54, [some (aR 52), some (aI th), some (aI rl), some (aI pe), some (aI t)], [aI (((shrl (JL 83 (((8 * th) + rl).toNat)) pe) &&& (Int64.ofInt 1)).toInt32.toInt)], MM N IL JL)) (by decide +kernel) rfl (show (inR (8 * th)) ∧ (inR ((8 * th) + rl)) ∧ (0 ≤ ((8 * th) + rl) ∧ ((8 * th) + rl) < 320) ∧ (0 ≤ pe ∧ pe < 64) from ⟨(by unfold inR; omega), (by unfold inR; omega), (by omega), (by omega)⟩) ?_
        refine V.ri (by decide +kernel) ?_
        refine ⟨_, K, IL, JL, rfl, rfl, ⟨fun w => by exfalso; omega, fun _ => ⟨rfl, _, hL.2.2.2.2.2.1, congrArg aI ?_⟩⟩, hL.po hA hV⟩
        rw [vw_lt (by omega), show (8 * th + rl).toNat = (th * 8 + rl).toNat by omega]
        have hs := shrl_i (JL 83 (th * 8 + rl).toNat) (k := pe.toNat) (by omega)
        rw [show ((pe.toNat : Nat) : Int) = pe by omega] at hs
        have h32 : ∀ x : Int64, x = Int64.ofInt 0 ∨ x = Int64.ofInt 1 → x.toInt32.toInt = x.toInt := by
          intro x hx
          rcases hx with rfl | rfl <;> decide +kernel
        rw [h32, hs]
        have h1 := shrl_1 (JL 83 (th * 8 + rl).toNat) (k := pe.toNat) (by omega)
        rw [show ((pe.toNat : Nat) : Int) = pe by omega] at h1
        rw [h1]
        split
        · exact Or.inr rfl
        · exact Or.inl rfl
      · skip
        try simp only [b2_cast, b2_ncast, Classical.not_not, lcm_lt, lcm_ge, lcm_gt, lcm_le, lcm_eq, b2_0, b2_n0, Bool.not_eq_false, Bool.not_eq_true, decide_eq_true_eq, decide_eq_false_iff_not] at bh8
        refine V.blk [(25, .aload 0, 1), (26, .bipush (-3), 2)] (ps := []) (z' := (28, [some (aR 52), some (aI th), some (aI rl), some (aI pe), some (aI t)], [aI (-3), aR 52], MM N I J)) (by decide +kernel) rfl trivial ?_
        refine V.cv (c := 116) (na := 2) (o := 10) (a := 52) [aI (-3)] [] (by decide +kernel) rfl rfl rfl rfl rfl ((m_no (by assumption) (by omega)).mono (fun rv M1 q => ?_))
        obtain ⟨rfl, rfl⟩ := q
        show V 173 (31, [some (aR 52), some (aI th), some (aI rl), some (aI pe), some (aI t)], [aI (-3)], MM N ((noU I (-3))) J) _
        refine V.nI (fun I9 eI9 => ?_)
        refine V.ri (by decide +kernel) ?_
        refine ⟨_, rfU K (-3), noU I (-3), J, rfl, by subst_vars; rfl, ⟨fun _ => ⟨rfl, rfl⟩, fun w => by exfalso; omega⟩, PO.no hA hV hC (by decide)⟩
theorem m_X10_who {N : Nat} {I : MI} {J : MJ} {K : MI} {L : MJ} {th rl t : Int} (hX : WX K L) (hA : RA K I) (hr : RfM I) (hV : Vok I) (hC : CA K L I J) : CT 174 [aR 52, aI th, aI rl, aI t] (MM N I J) (fun r M' => ∃ a U I' J', r = some a ∧ M' = MM N I' J' ∧ WhoR K L th rl t a U ∧ PO U L I I' J') := by
  have h40 := hX.prOK.1
  have g1 : I 52 1 = K 1 1 := hA.1.1
  have g18 : I 52 18 = K 10 13 := hA.2.2.2.1.2.1
  refine CT.ofV (n := 5) (ls := [some (aR 52), some (aI th), some (aI rl), some (aI t), none]) rfl rfl rfl ?_
  refine V.blk [(0, .aload 0, 1), (1, .iload 1, 1), (2, .iload 2, 1)] (ps := []) (z' := (3, [some (aR 52), some (aI th), some (aI rl), some (aI t), none], [aI rl, aI th, aR 52], MM N I J)) (by decide +kernel) rfl trivial ?_
  refine V.cv (c := 172) (na := 3) (o := 10) (a := 52) [aI rl, aI th] [] (by decide +kernel) rfl rfl rfl rfl rfl (V.pr (m_X10_isCell) ?_)
  show V 174 (6, [some (aR 52), some (aI th), some (aI rl), some (aI t), none], [aI (b2 (decide (0 ≤ th ∧ th < I 52 1 ∧ 0 ≤ rl ∧ rl < 8)))], MM N I J) _
  refine V.blk [(6, .ifCond .eq 17, 3)] (ps := []) (z' := (brc .eq (b2 (decide (0 ≤ th ∧ th < I 52 1 ∧ 0 ≤ rl ∧ rl < 8))) 0 17 9, [some (aR 52), some (aI th), some (aI rl), some (aI t), none], [], MM N I J)) (by decide +kernel) rfl trivial ?_
  refine V.eq (fun bh1 => ?_) (fun bh2 => ?_)
  · skip
    try simp only [b2_cast, b2_ncast, Classical.not_not, lcm_lt, lcm_ge, lcm_gt, lcm_le, lcm_eq, b2_0, b2_n0, Bool.not_eq_false, Bool.not_eq_true, decide_eq_true_eq, decide_eq_false_iff_not] at bh1
    refine V.blk [(17, .aload 0, 1), (18, .bipush (-3), 2)] (ps := []) (z' := (20, [some (aR 52), some (aI th), some (aI rl), some (aI t), none], [aI (-3), aR 52], MM N I J)) (by decide +kernel) rfl trivial ?_
    refine V.cv (c := 116) (na := 2) (o := 10) (a := 52) [aI (-3)] [] (by decide +kernel) rfl rfl rfl rfl rfl ((m_no (by assumption) (by omega)).mono (fun rv M1 q => ?_))
    obtain ⟨rfl, rfl⟩ := q
    show V 174 (23, [some (aR 52), some (aI th), some (aI rl), some (aI t), none], [aI (-3)], MM N ((noU I (-3))) J) _
    refine V.blk [(23, .istore 4, 2), (25, .jsr_w 0, 1)] (ps := []) (z' := (26, [some (aR 52), some (aI th), some (aI rl), some (aI t), some (aI (-3))], [aL (Int64.ofInt 0)], MM N ((noU I (-3))) J)) (by decide +kernel) rfl trivial ?_
    refine V.nI (fun I3 eI3 => ?_)
    refine V.rl (by decide +kernel) ?_
    refine ⟨_, rfU K (-3), noU I (-3), J, rfl, by subst_vars; rfl, ⟨fun _ => ⟨rfl, rfl⟩, fun w => by exfalso; omega⟩, PO.no hA hV hC (by decide)⟩
  · skip
    try simp only [b2_cast, b2_ncast, Classical.not_not, lcm_lt, lcm_ge, lcm_gt, lcm_le, lcm_eq, b2_0, b2_n0, Bool.not_eq_false, Bool.not_eq_true, decide_eq_true_eq, decide_eq_false_iff_not] at bh2
    refine V.blk [(9, .aload 0, 1), (10, .iload 3, 1)] (ps := []) (z' := (11, [some (aR 52), some (aI th), some (aI rl), some (aI t), none], [aI t, aR 52], MM N I J)) (by decide +kernel) rfl trivial ?_
    refine V.cv (c := 120) (na := 2) (o := 10) (a := 52) [aI t] [] (by decide +kernel) rfl rfl rfl rfl rfl (V.pr (m_X10_isTurn) ?_)
    show V 174 (14, [some (aR 52), some (aI th), some (aI rl), some (aI t), none], [aI (b2 (decide (0 ≤ t ∧ t ≤ I 52 18)))], MM N I J) _
    refine V.blk [(14, .ifCond .ne 27, 3)] (ps := []) (z' := (brc .ne (b2 (decide (0 ≤ t ∧ t ≤ I 52 18))) 0 27 17, [some (aR 52), some (aI th), some (aI rl), some (aI t), none], [], MM N I J)) (by decide +kernel) rfl trivial ?_
    refine V.ne (fun bh4 => ?_) (fun bh5 => ?_)
    · skip
      try simp only [b2_cast, b2_ncast, Classical.not_not, lcm_lt, lcm_ge, lcm_gt, lcm_le, lcm_eq, b2_0, b2_n0, Bool.not_eq_false, Bool.not_eq_true, decide_eq_true_eq, decide_eq_false_iff_not] at bh4
      refine V.blk [(27, .aload 0, 1), (28, .iload 3, 1)] (ps := []) (z' := (29, [some (aR 52), some (aI th), some (aI rl), some (aI t), none], [aI t, aR 52], MM N I J)) (by decide +kernel) rfl trivial ?_
      refine V.cv (c := 171) (na := 2) (o := 10) (a := 52) [aI t] [] (by decide +kernel) rfl rfl rfl rfl rfl ((m_look hX hA hV hC).mono (fun rv M1 q => ?_))
      obtain ⟨rfl, IL, JL, rfl, hL⟩ := q
      show V 174 (32, [some (aR 52), some (aI th), some (aI rl), some (aI t), none], [], MM N IL JL) _
      refine V.blk [(32, .aload 0, 1), (33, .getfield 10044, 3), (36, .bipush 8, 2), (38, .iload 1, 1), (39, .imul, 1), (40, .iload 2, 1), (41, .iadd, 1), (42, .laload, 1)] (ps := [inR (8 * th), inR ((8 * th) + rl), 0 ≤ ((8 * th) + rl) ∧ ((8 * th) + rl) < 320]) (z' := (43, [some (aR 52), some (aI th), some (aI rl), some (aI t), none], [aL (JL 83 (((8 * th) + rl).toNat))], MM N IL JL)) (by decide +kernel) rfl (show (inR (8 * th)) ∧ (inR ((8 * th) + rl)) ∧ (0 ≤ ((8 * th) + rl) ∧ ((8 * th) + rl) < 320) from ⟨(by unfold inR; omega), (by unfold inR; omega), (by omega)⟩) ?_
      refine V.rl (by decide +kernel) ?_
      refine ⟨_, K, IL, JL, rfl, rfl, ⟨fun w => by exfalso; omega, fun _ => ⟨rfl, _, hL.2.2.2.2.2.1, congrArg aL ?_⟩⟩, hL.po hA hV⟩
      rw [vw_lt (by omega)]
      exact congrArg (JL 83) (by omega)
    · skip
      try simp only [b2_cast, b2_ncast, Classical.not_not, lcm_lt, lcm_ge, lcm_gt, lcm_le, lcm_eq, b2_0, b2_n0, Bool.not_eq_false, Bool.not_eq_true, decide_eq_true_eq, decide_eq_false_iff_not] at bh5
      refine V.blk [(17, .aload 0, 1), (18, .bipush (-3), 2)] (ps := []) (z' := (20, [some (aR 52), some (aI th), some (aI rl), some (aI t), none], [aI (-3), aR 52], MM N I J)) (by decide +kernel) rfl trivial ?_
      refine V.cv (c := 116) (na := 2) (o := 10) (a := 52) [aI (-3)] [] (by decide +kernel) rfl rfl rfl rfl rfl ((m_no (by assumption) (by omega)).mono (fun rv M1 q => ?_))
      obtain ⟨rfl, rfl⟩ := q
      show V 174 (23, [some (aR 52), some (aI th), some (aI rl), some (aI t), none], [aI (-3)], MM N ((noU I (-3))) J) _
      refine V.blk [(23, .istore 4, 2), (25, .jsr_w 0, 1)] (ps := []) (z' := (26, [some (aR 52), some (aI th), some (aI rl), some (aI t), some (aI (-3))], [aL (Int64.ofInt 0)], MM N ((noU I (-3))) J)) (by decide +kernel) rfl trivial ?_
      refine V.nI (fun I6 eI6 => ?_)
      refine V.rl (by decide +kernel) ?_
      refine ⟨_, rfU K (-3), noU I (-3), J, rfl, by subst_vars; rfl, ⟨fun _ => ⟨rfl, rfl⟩, fun w => by exfalso; omega⟩, PO.no hA hV hC (by decide)⟩
theorem l_mreach {N : Nat} {I : MI} {J : MJ} {K : MI} {kd rl pe x0 t : Int} (hT : RTh K I) (h40 : 0 ≤ K 1 1 ∧ K 1 1 ≤ 40) (hrl : 0 ≤ rl ∧ rl < 8) (hpe : 0 ≤ pe ∧ pe < 40) (hx0 : 0 ≤ x0) : ∀ (k x : Nat), 41 ≤ k + x → x0 ≤ x → (∀ y : Nat, x0 ≤ y → y < x → (y : Int) < K 1 1 → ¬ hasT K (vw (J 83)) kd rl.toNat pe.toNat y) → V 176 (41, [some (aR 52), some (aI kd), some (aI rl), some (aI pe), some (aI x0), some (aI t), some (aI (x : Int))], [], MM N I J) (fun r M' => ∃ z, r = some (aI z) ∧ M' = MM N I J ∧ NextR K (vw (J 83)) kd rl.toNat pe.toNat x0 z) := by
  intro k
  induction k with
  | zero =>
    intro x h1 h2 hy
    have e1 : I 52 1 = K 1 1 := hT.1
    refine V.blk [(41, .iload 6, 2), (43, .aload 0, 1), (44, .getfield 10001, 3), (47, .if_icmp .ge 91, 3)] (ps := []) (z' := (brc .ge (x : Int) (I 52 1) 91 50, [some (aR 52), some (aI kd), some (aI rl), some (aI pe), some (aI x0), some (aI t), some (aI (x : Int))], [], MM N I J)) (by decide +kernel) rfl trivial ?_
    refine V.ge (fun bh1 => ?_) (fun bh2 => ?_)
    · skip
      refine V.blk [(91, .bipush (-1), 1)] (ps := []) (z' := (92, [some (aR 52), some (aI kd), some (aI rl), some (aI pe), some (aI x0), some (aI t), some (aI (x : Int))], [aI (-1)], MM N I J)) (by decide +kernel) rfl trivial ?_
      refine V.ri (by decide +kernel) ?_
      exact ⟨-1, rfl, rfl, Or.inl ⟨rfl, fun y a b => hy y a (by omega) b⟩⟩
    · skip
      exfalso
      omega
  | succ k ih =>
    intro x h1 h2 hy
    have e1 : I 52 1 = K 1 1 := hT.1
    refine V.blk [(41, .iload 6, 2), (43, .aload 0, 1), (44, .getfield 10001, 3), (47, .if_icmp .ge 91, 3)] (ps := []) (z' := (brc .ge (x : Int) (I 52 1) 91 50, [some (aR 52), some (aI kd), some (aI rl), some (aI pe), some (aI x0), some (aI t), some (aI (x : Int))], [], MM N I J)) (by decide +kernel) rfl trivial ?_
    refine V.ge (fun bh1 => ?_) (fun bh2 => ?_)
    · skip
      try simp only [b2_cast, b2_ncast, Classical.not_not, lcm_lt, lcm_ge, lcm_gt, lcm_le, lcm_eq, b2_0, b2_n0, Bool.not_eq_false, Bool.not_eq_true, decide_eq_true_eq, decide_eq_false_iff_not] at bh1
      refine V.blk [(91, .bipush (-1), 1)] (ps := []) (z' := (92, [some (aR 52), some (aI kd), some (aI rl), some (aI pe), some (aI x0), some (aI t), some (aI (x : Int))], [aI (-1)], MM N I J)) (by decide +kernel) rfl trivial ?_
      refine V.ri (by decide +kernel) ?_
      exact ⟨-1, rfl, rfl, Or.inl ⟨rfl, fun y a b => hy y a (by omega) b⟩⟩
    · skip
      try simp only [b2_cast, b2_ncast, Classical.not_not, lcm_lt, lcm_ge, lcm_gt, lcm_le, lcm_eq, b2_0, b2_n0, Bool.not_eq_false, Bool.not_eq_true, decide_eq_true_eq, decide_eq_false_iff_not] at bh2
      have hxl : (x : Int) < K 1 1 := by omega
      have e53 : I 53 x = K 2 x := hT.2 x hxl
      have eix : (((8 * x : Nat) : Int) + rl).toNat = x * 8 + rl.toNat := by omega
      have hbit := shrl_e1 (J 83 (x * 8 + rl.toNat)) (k := pe.toNat) (by omega)
      rw [show ((pe.toNat : Nat) : Int) = pe by omega] at hbit
      refine V.blk [(50, .aload 0, 1), (51, .getfield 10000, 3), (54, .iload 6, 2), (56, .iaload, 1), (57, .iload 1, 1), (58, .if_icmp .ne 85, 3)] (ps := [0 ≤ (x : Int) ∧ (x : Int) < 40]) (z' := (brc .ne (I 53 x) kd 85 61, [some (aR 52), some (aI kd), some (aI rl), some (aI pe), some (aI x0), some (aI t), some (aI (x : Int))], [], MM N I J)) (by decide +kernel) rfl (show (0 ≤ (x : Int) ∧ (x : Int) < 40) from (by omega)) ?_
      refine V.ne (fun bh3 => ?_) (fun bh4 => ?_)
      · skip
        try simp only [b2_cast, b2_ncast, Classical.not_not, lcm_lt, lcm_ge, lcm_gt, lcm_le, lcm_eq, b2_0, b2_n0, Bool.not_eq_false, Bool.not_eq_true, decide_eq_true_eq, decide_eq_false_iff_not] at bh3
        refine V.blk [(85, .iinc 6 1, 3), (88, .goto 41, 3)] (ps := [inR ((x : Int) + 1)]) (z' := (41, [some (aR 52), some (aI kd), some (aI rl), some (aI pe), some (aI x0), some (aI t), some (aI ((x + 1 : Nat) : Int))], [], MM N I J)) (by decide +kernel) rfl (show (inR ((x : Int) + 1)) from (by unfold inR; omega)) ?_
        refine ih (x + 1) (by omega) (by omega) (fun y a b c => ?_)
        by_cases e : y = x
        · subst e
          rintro ⟨w1, w2⟩
          first
            | omega
            | (rw [vw_lt (by omega)] at w2
               have := hbit.mpr w2
               rw [← eix] at this
               exact absurd this (by assumption))
        · exact hy y a (by omega) c
      · skip
        try simp only [b2_cast, b2_ncast, Classical.not_not, lcm_lt, lcm_ge, lcm_gt, lcm_le, lcm_eq, b2_0, b2_n0, Bool.not_eq_false, Bool.not_eq_true, decide_eq_true_eq, decide_eq_false_iff_not] at bh4
        refine V.blk [(61, .aload 0, 1), (62, .getfield 10044, 3), (65, .bipush 8, 2), (67, .iload 6, 2), (69, .imul, 1), (70, .iload 2, 1), (71, .iadd, 1), (72, .laload, 1), (73, .iload 3, 1), (74, .lshr, 1), (75, .jsr_w 1, 1), (76, .land, 1), (77, .jsr_w 1, 1), (78, .lcmp, 1), (79, .ifCond .ne 85, 3)] (ps := [inR (8 * (x : Int)), inR (((8 * x : Nat) : Int) + rl), 0 ≤ (((8 * x : Nat) : Int) + rl) ∧ (((8 * x : Nat) : Int) + rl) < 320, 0 ≤ pe ∧ pe < 64]) (z' := (brc .ne (lcm ((shrl (J 83 ((((8 * x : Nat) : Int) + rl).toNat)) pe) &&& (Int64.ofInt 1)) (Int64.ofInt 1)) 0 85 82, [some (aR 52), some (aI kd), some (aI rl), some (aI pe), some (aI x0), some (aI t), some (aI (x : Int))], [], MM N I J)) (by decide +kernel) rfl (show (inR (8 * (x : Int))) ∧ (inR (((8 * x : Nat) : Int) + rl)) ∧ (0 ≤ (((8 * x : Nat) : Int) + rl) ∧ (((8 * x : Nat) : Int) + rl) < 320) ∧ (0 ≤ pe ∧ pe < 64) from ⟨(by unfold inR; omega), (by unfold inR; omega), (by omega), (by omega)⟩) ?_
        refine V.ne (fun bh5 => ?_) (fun bh6 => ?_)
        · skip
          try simp only [b2_cast, b2_ncast, Classical.not_not, lcm_lt, lcm_ge, lcm_gt, lcm_le, lcm_eq, b2_0, b2_n0, Bool.not_eq_false, Bool.not_eq_true, decide_eq_true_eq, decide_eq_false_iff_not] at bh5
          refine V.blk [(85, .iinc 6 1, 3), (88, .goto 41, 3)] (ps := [inR ((x : Int) + 1)]) (z' := (41, [some (aR 52), some (aI kd), some (aI rl), some (aI pe), some (aI x0), some (aI t), some (aI ((x + 1 : Nat) : Int))], [], MM N I J)) (by decide +kernel) rfl (show (inR ((x : Int) + 1)) from (by unfold inR; omega)) ?_
          refine ih (x + 1) (by omega) (by omega) (fun y a b c => ?_)
          by_cases e : y = x
          · subst e
            rintro ⟨w1, w2⟩
            first
              | omega
              | (rw [vw_lt (by omega)] at w2
                 have := hbit.mpr w2
                 rw [← eix] at this
                 exact absurd this (by assumption))
          · exact hy y a (by omega) c
        · skip
          try simp only [b2_cast, b2_ncast, Classical.not_not, lcm_lt, lcm_ge, lcm_gt, lcm_le, lcm_eq, b2_0, b2_n0, Bool.not_eq_false, Bool.not_eq_true, decide_eq_true_eq, decide_eq_false_iff_not] at bh6
          refine V.blk [(82, .iload 6, 2)] (ps := []) (z' := (84, [some (aR 52), some (aI kd), some (aI rl), some (aI pe), some (aI x0), some (aI t), some (aI (x : Int))], [aI (x : Int)], MM N I J)) (by decide +kernel) rfl trivial ?_
          refine V.ri (by decide +kernel) ?_
          refine ⟨_, rfl, rfl, Or.inr ⟨x, rfl, h2, hxl, ⟨by omega, ?_⟩, fun y a b => hy y a b (by omega)⟩⟩
          rw [vw_lt (by omega)]
          apply hbit.mp
          rw [← eix]
          assumption
theorem m_X10_reach {N : Nat} {I : MI} {J : MJ} {K : MI} {L : MJ} {kd rl pe x0 t : Int} (hX : WX K L) (hA : RA K I) (hr : RfM I) (hV : Vok I) (hC : CA K L I J) (hi : inR kd) : CT 176 [aR 52, aI kd, aI rl, aI pe, aI x0, aI t] (MM N I J) (fun r M' => ∃ a U I' J', r = some a ∧ M' = MM N I' J' ∧ ReachR K L kd rl pe x0 t a U ∧ PO U L I I' J') := by
  have h40 := hX.prOK.1
  have g1 : I 52 1 = K 1 1 := hA.1.1
  have g18 : I 52 18 = K 10 13 := hA.2.2.2.1.2.1
  unfold inR at hi
  refine CT.ofV (n := 7) (ls := [some (aR 52), some (aI kd), some (aI rl), some (aI pe), some (aI x0), some (aI t), none]) rfl rfl rfl ?_
  refine V.blk [(0, .aload 0, 1), (1, .iload 1, 1), (2, .iload 2, 1), (3, .iload 3, 1), (4, .iload 5, 2)] (ps := []) (z' := (6, [some (aR 52), some (aI kd), some (aI rl), some (aI pe), some (aI x0), some (aI t), none], [aI t, aI pe, aI rl, aI kd, aR 52], MM N I J)) (by decide +kernel) rfl trivial ?_
  refine V.cv (c := 175) (na := 5) (o := 10) (a := 52) [aI t, aI pe, aI rl, aI kd] [] (by decide +kernel) rfl rfl rfl rfl rfl (V.pr (m_X10_isAsked (by assumption)) ?_)
  show V 176 (9, [some (aR 52), some (aI kd), some (aI rl), some (aI pe), some (aI x0), some (aI t), none], [aI (b2 (decide (0 ≤ kd ∧ kd < 6 ∧ 0 ≤ rl ∧ rl < 8 ∧ 0 ≤ pe ∧ pe < 40 ∧ 0 ≤ t ∧ t ≤ I 52 18)))], MM N I J) _
  refine V.blk [(9, .ifCond .ne 19, 3)] (ps := []) (z' := (brc .ne (b2 (decide (0 ≤ kd ∧ kd < 6 ∧ 0 ≤ rl ∧ rl < 8 ∧ 0 ≤ pe ∧ pe < 40 ∧ 0 ≤ t ∧ t ≤ I 52 18))) 0 19 12, [some (aR 52), some (aI kd), some (aI rl), some (aI pe), some (aI x0), some (aI t), none], [], MM N I J)) (by decide +kernel) rfl trivial ?_
  refine V.ne (fun bh1 => ?_) (fun bh2 => ?_)
  · skip
    try simp only [b2_cast, b2_ncast, Classical.not_not, lcm_lt, lcm_ge, lcm_gt, lcm_le, lcm_eq, b2_0, b2_n0, Bool.not_eq_false, Bool.not_eq_true, decide_eq_true_eq, decide_eq_false_iff_not] at bh1
    refine V.blk [(19, .iload 4, 2), (21, .ifCond .ge 31, 3)] (ps := []) (z' := (brc .ge x0 0 31 24, [some (aR 52), some (aI kd), some (aI rl), some (aI pe), some (aI x0), some (aI t), none], [], MM N I J)) (by decide +kernel) rfl trivial ?_
    refine V.ge (fun bh3 => ?_) (fun bh4 => ?_)
    · skip
      try simp only [b2_cast, b2_ncast, Classical.not_not, lcm_lt, lcm_ge, lcm_gt, lcm_le, lcm_eq, b2_0, b2_n0, Bool.not_eq_false, Bool.not_eq_true, decide_eq_true_eq, decide_eq_false_iff_not] at bh3
      refine V.blk [(31, .aload 0, 1), (32, .iload 5, 2)] (ps := []) (z' := (34, [some (aR 52), some (aI kd), some (aI rl), some (aI pe), some (aI x0), some (aI t), none], [aI t, aR 52], MM N I J)) (by decide +kernel) rfl trivial ?_
      refine V.cv (c := 171) (na := 2) (o := 10) (a := 52) [aI t] [] (by decide +kernel) rfl rfl rfl rfl rfl ((m_look hX hA hV hC).mono (fun rv M1 q => ?_))
      obtain ⟨rfl, IL, JL, rfl, hL⟩ := q
      show V 176 (37, [some (aR 52), some (aI kd), some (aI rl), some (aI pe), some (aI x0), some (aI t), none], [], MM N IL JL) _
      refine V.blk [(37, .iload 4, 2), (39, .istore 6, 2)] (ps := []) (z' := (41, [some (aR 52), some (aI kd), some (aI rl), some (aI pe), some (aI x0), some (aI t), some (aI x0)], [], MM N IL JL)) (by decide +kernel) rfl trivial ?_
      obtain ⟨x, ex⟩ : ∃ x : Nat, x0 = x := ⟨x0.toNat, by omega⟩
      have hgo := l_mreach (N := N) (I := IL) (J := JL) (K := K) (kd := kd) (rl := rl) (pe := pe) (x0 := x0) (t := t) (hL.ra hA).1 h40 (by omega) (by omega) (by omega) 41 x (by omega) (by omega) (fun y a b => by omega)
      rw [← ex] at hgo
      refine hgo.mono (fun r M' q => ?_)
      obtain ⟨z, rfl, rfl, hz⟩ := q
      exact ⟨_, K, IL, JL, rfl, rfl, ⟨fun w => by exfalso; omega, fun _ => ⟨fun w => by exfalso; omega, fun _ => ⟨rfl, _, z, hL.2.2.2.2.2.1, hz, rfl⟩⟩⟩, hL.po hA hV⟩
    · skip
      try simp only [b2_cast, b2_ncast, Classical.not_not, lcm_lt, lcm_ge, lcm_gt, lcm_le, lcm_eq, b2_0, b2_n0, Bool.not_eq_false, Bool.not_eq_true, decide_eq_true_eq, decide_eq_false_iff_not] at bh4
      refine V.blk [(24, .aload 0, 1), (25, .bipush (-4), 2)] (ps := []) (z' := (27, [some (aR 52), some (aI kd), some (aI rl), some (aI pe), some (aI x0), some (aI t), none], [aI (-4), aR 52], MM N I J)) (by decide +kernel) rfl trivial ?_
      refine V.cv (c := 116) (na := 2) (o := 10) (a := 52) [aI (-4)] [] (by decide +kernel) rfl rfl rfl rfl rfl ((m_no (by assumption) (by omega)).mono (fun rv M1 q => ?_))
      obtain ⟨rfl, rfl⟩ := q
      show V 176 (30, [some (aR 52), some (aI kd), some (aI rl), some (aI pe), some (aI x0), some (aI t), none], [aI (-4)], MM N ((noU I (-4))) J) _
      refine V.nI (fun I5 eI5 => ?_)
      refine V.ri (by decide +kernel) ?_
      refine ⟨_, rfU K (-4), noU I (-4), J, rfl, by subst_vars; rfl, ⟨fun w => by exfalso; omega, fun _ => ⟨fun _ => ⟨rfl, rfl⟩, fun w => by exfalso; omega⟩⟩, PO.no hA hV hC (by decide)⟩
  · skip
    try simp only [b2_cast, b2_ncast, Classical.not_not, lcm_lt, lcm_ge, lcm_gt, lcm_le, lcm_eq, b2_0, b2_n0, Bool.not_eq_false, Bool.not_eq_true, decide_eq_true_eq, decide_eq_false_iff_not] at bh2
    refine V.blk [(12, .aload 0, 1), (13, .bipush (-3), 2)] (ps := []) (z' := (15, [some (aR 52), some (aI kd), some (aI rl), some (aI pe), some (aI x0), some (aI t), none], [aI (-3), aR 52], MM N I J)) (by decide +kernel) rfl trivial ?_
    refine V.cv (c := 116) (na := 2) (o := 10) (a := 52) [aI (-3)] [] (by decide +kernel) rfl rfl rfl rfl rfl ((m_no (by assumption) (by omega)).mono (fun rv M1 q => ?_))
    obtain ⟨rfl, rfl⟩ := q
    show V 176 (18, [some (aR 52), some (aI kd), some (aI rl), some (aI pe), some (aI x0), some (aI t), none], [aI (-3)], MM N ((noU I (-3))) J) _
    refine V.nI (fun I6 eI6 => ?_)
    refine V.ri (by decide +kernel) ?_
    refine ⟨_, rfU K (-3), noU I (-3), J, rfl, by subst_vars; rfl, ⟨fun _ => ⟨rfl, rfl⟩, fun w => by exfalso; omega⟩, PO.no hA hV hC (by decide)⟩
