/-! ===== the class: would, without, differ ===== -/
def tkU (I : MI) : MI := ma I 10 (ma (I 10) 13 (I 10 13 - 1))
theorem c_takeBack {N : Nat} {J : MJ} {K : MI} {n : Nat} {c0 t0 : Nat} (hc0 : K 10 11 = c0) (ht0 : K 10 13 = t0) (ht2 : t0 ≤ 199) (hu : K 21 t0 = c0) (hO : ∀ b, b ≤ n → WOp (runU K b)) (hB : ∀ b, b < n → aoB (runU K b) b = true) {I' : MI} (h : ER (runU K n) (tkU I')) (hcn : tkU I' 10 11 = runU K n 10 11) (hl : 0 < I' 10 13 ∧ I' 10 13 ≤ 200) : CT 33 [aR 10] (MM N I' J) (fun r M' => r = none ∧ ∃ I9, M' = MM N I9 J ∧ ERx K I9 ∧ I9 0 = I' 0) := by
  refine CT.ofV (n := 1) (ls := [some (aR 10)]) rfl rfl rfl ?_
  refine V.blk [(0, .aload 0, 1), (1, .getfield 3013, 3), (4, .ifCond .le 21, 3)] (ps := []) (z' := (brc .le (I' 10 13) 0 21 7, [some (aR 10)], [], MM N I' J)) (by decide +kernel) rfl trivial ?_
  refine V.le (fun bh1 => ?_) (fun bh2 => ?_)
  · skip
    refine V.rv (by decide +kernel) ?_
    exfalso; omega
  · skip
    refine V.blk [(7, .aload 0, 1), (8, .dup, 1), (9, .getfield 3013, 3), (12, .bipush 1, 1), (13, .isub, 1), (14, .putfield 3013, 3), (17, .aload 0, 1)] (ps := [inR ((I' 10 13) - 1)]) (z' := (18, [some (aR 10)], [aR 10], MM N (ma I' 10 (ma (I' 10) 13 ((I' 10 13) - 1))) J)) (by decide +kernel) rfl (show (inR ((I' 10 13) - 1)) from (by unfold inR; omega)) ?_
    refine V.nI (fun I3 eI3 => ?_)
    refine V.cv (c := 32) (na := 1) (o := 3) (a := 10) [] [] (by decide +kernel) rfl rfl rfl rfl rfl ((c_drop hc0 ht0 ht2 hu hO hB (by rw [eI3]; exact h) (by rw [eI3]; exact hcn)).mono (fun rv M1 q => ?_))
    obtain ⟨rfl, ID, rfl, hID, hI0⟩ := q
    show V 33 (21, [some (aR 10)], [], MM N ID J) _
    refine V.rv (by decide +kernel) ?_
    refine ⟨rfl, ID, rfl, hID, hI0.trans ?_⟩
    subst_vars
    exact ma_ne _ _ (by decide)
def WoB (K : MI) (L : MJ) (th rl op : Int) (a : AV) (U : MI) : Prop :=
  (¬ roomP K → a = aL (Int64.ofInt 0) ∧ U = rfU K (-9)) ∧ (roomP K → (perfA K ≠ -1 → a = aL (Int64.ofInt 0) ∧ U = rfU K (-8)) ∧ (perfA K = -1 → (ringF (finU K) L → a = aL (Int64.ofInt 0) ∧ U = rfU K (-7)) ∧
  (¬ ringF (finU K) L → U = K ∧ ∃ v w, SETS (closeU (finU K)) L (cnB (closeU (finU K)) (K 10 13 + 1) (K 0 11) (-1)) v ∧ SETS K L (cnB K (K 10 13) (K 0 11) (-1)) w ∧
    a = aL (if op = 0 then w (th * 8 + rl).toNat &&& (v (th * 8 + rl).toNat ^^^ Int64.ofInt (-1)) else v (th * 8 + rl).toNat &&& (w (th * 8 + rl).toNat ^^^ Int64.ofInt (-1))))))
def WouldR (K : MI) (L : MJ) (th rl op : Int) (a : AV) (U : MI) : Prop := (¬ cellP K th rl → a = aL (Int64.ofInt 0) ∧ U = rfU K (-3)) ∧ (cellP K th rl → WoB K L th rl op a U)
theorem ER.take {K I : MI} (h : ERx (closeU K) I) (h13 : 0 ≤ K 10 13) : ER K (tkU I) ∧ tkU I 10 11 = K 10 11 := by
  obtain ⟨⟨a, b, c, d, e, f, j, l⟩, g⟩ := h
  obtain ⟨v, v13, v10, v21⟩ := closeU_v K
  have n10 : ∀ i, i ≠ 10 → tkU I i = I i := fun i hi => ma_ne _ _ hi
  have t13 : tkU I 10 13 = K 10 13 := by
    unfold tkU
    rw [ma_self, ma_self, e 13 (by decide), v13]
    omega
  have t10 : ∀ k, k ≠ 13 → tkU I 10 k = I 10 k := fun k hk => by
    unfold tkU
    rw [ma_self, ma_ne _ _ hk]
  refine ⟨⟨fun i x y z => ?_, fun k x => ?_, fun k x y => ?_, fun i x => ?_, fun k x => ?_, fun i x y p hp => ?_, fun c' hc' => ?_, fun t ht => ?_⟩, ?_⟩
  · rw [n10 i (by intro w; subst w; omega), a i x y z, v i (by intro w; subst w; omega) (by intro w; subst w; omega)]
  · rw [n10 0 (by decide), b k x, v 0 (by decide) (by decide)]
  · rw [n10 44 (by decide), c k x y, v 44 (by decide) (by decide)]
  · rw [n10 i (by omega), d i x, v i (by omega) (by omega)]
  · by_cases q : k = 13
    · subst q; exact t13
    · rw [t10 k q, e k x, v10 k q]
  · rw [n10 i (by omega), f i x y p (by rw [v10 9 (by decide)]; exact hp), v i (by omega) (by omega)]
  · rw [n10 20 (by decide), j c' (by rw [v10 11 (by decide)]; exact hc'), v 20 (by decide) (by decide)]
  · rw [n10 21 (by decide), l t (by rw [v13]; omega), v21, ma_ne _ _ (by omega)]
  · rw [t10 11 (by decide), g, v10 11 (by decide)]
theorem c_X9_would {N : Nat} {I : MI} {J : MJ} {th rl op : Int} (hX : WX I J) (hf : Rf I) : CT 91 [aR 0, aI th, aI rl, aI op] (MM N I J) (QXe N (WouldR I J th rl op)) := by
  have h40 := hX.prOK.1
  refine CT.ofV (n := 10) (ls := [some (aR 0), some (aI th), some (aI rl), some (aI op), none, none, none, none, none, none]) rfl rfl rfl ?_
  refine V.blk [(0, .aload 0, 1), (1, .iload 1, 1), (2, .iload 2, 1)] (ps := []) (z' := (3, [some (aR 0), some (aI th), some (aI rl), some (aI op), none, none, none, none, none, none], [aI rl, aI th, aR 0], MM N I J)) (by decide +kernel) rfl trivial ?_
  refine V.cv (c := 100) (na := 3) (o := 9) (a := 0) [aI rl, aI th] [] (by decide +kernel) rfl rfl rfl rfl rfl (V.pr (c_X9_isSpot) ?_)
  show V 91 (6, [some (aR 0), some (aI th), some (aI rl), some (aI op), none, none, none, none, none, none], [aI (b2 (decide (0 ≤ th ∧ th < I 1 1 ∧ 0 ≤ rl ∧ rl < 8)))], MM N I J) _
  refine V.blk [(6, .ifCond .ne 18, 3)] (ps := []) (z' := (brc .ne (b2 (decide (0 ≤ th ∧ th < I 1 1 ∧ 0 ≤ rl ∧ rl < 8))) 0 18 9, [some (aR 0), some (aI th), some (aI rl), some (aI op), none, none, none, none, none, none], [], MM N I J)) (by decide +kernel) rfl trivial ?_
  refine V.ne (fun bh1 => ?_) (fun bh2 => ?_)
  · skip
    try simp only [b2_cast, b2_ncast, Classical.not_not, lcm_lt, lcm_ge, lcm_gt, lcm_le, lcm_eq, b2_0, b2_n0, Bool.not_eq_false, Bool.not_eq_true, decide_eq_true_eq, decide_eq_false_iff_not] at bh1
    refine V.blk [(18, .aload 0, 1)] (ps := []) (z' := (19, [some (aR 0), some (aI th), some (aI rl), some (aI op), none, none, none, none, none, none], [aR 0], MM N I J)) (by decide +kernel) rfl trivial ?_
    refine V.cv (c := 99) (na := 1) (o := 9) (a := 0) [] [] (by decide +kernel) rfl rfl rfl rfl rfl ((c_attempt hX).mono (fun rv M1 q => ?_))
    obtain ⟨z, IA, JA, rfl, rfl, hA, hj8, hj9⟩ := q
    show V 91 (22, [some (aR 0), some (aI th), some (aI rl), some (aI op), none, none, none, none, none, none], [aI z], MM N IA JA) _
    refine V.blk [(22, .istore 4, 2), (24, .iload 4, 2), (26, .ifCond .eq 38, 3)] (ps := []) (z' := (brc .eq z 0 38 29, [some (aR 0), some (aI th), some (aI rl), some (aI op), some (aI z), none, none, none, none, none], [], MM N IA JA)) (by decide +kernel) rfl trivial ?_
    refine V.eq (fun bh3 => ?_) (fun bh4 => ?_)
    · skip
      try simp only [b2_cast, b2_ncast, Classical.not_not, lcm_lt, lcm_ge, lcm_gt, lcm_le, lcm_eq, b2_0, b2_n0, Bool.not_eq_false, Bool.not_eq_true, decide_eq_true_eq, decide_eq_false_iff_not] at bh3
      refine V.blk [(38, .iload 1, 1), (39, .iload 2, 1)] (ps := []) (z' := (40, [some (aR 0), some (aI th), some (aI rl), some (aI op), some (aI z), none, none, none, none, none], [aI rl, aI th], MM N IA JA)) (by decide +kernel) rfl trivial ?_
      refine V.cs (c := 108) (na := 2) [aI rl, aI th] [] (by decide +kernel) rfl rfl (V.pr (c_X9_spotOf (by omega)) ?_)
      show V 91 (43, [some (aR 0), some (aI th), some (aI rl), some (aI op), some (aI z), none, none, none, none, none], [aI (th * 8 + rl)], MM N IA JA) _
      refine V.blk [(43, .istore 5, 2)] (ps := []) (z' := (45, [some (aR 0), some (aI th), some (aI rl), some (aI op), some (aI z), some (aI (th * 8 + rl)), none, none, none, none], [], MM N IA JA)) (by decide +kernel) rfl trivial ?_
      have hz0 : z = 0 := by omega
      obtain ⟨hroom, hpa, hnr, hEA⟩ : roomP I ∧ perfA I = -1 ∧ ¬ ringF (finU I) J ∧ ERx (closeU (finU I)) IA := by
        rcases hA.cases with ⟨w, -⟩ | ⟨w, -⟩ | ⟨w, -⟩ | ⟨w, hr, hp, hg, hE⟩
        · exfalso; omega
        · exfalso; omega
        · exfalso; omega
        · exact ⟨hr, hp, hg, hE⟩
      have hXc := WX_close hX hroom hpa hnr
      have hsA := svOK_er hXc.2.2.2.2.2.2.2.1 hEA hj8 hj9
      have hXA : WX IA JA := WX_er hXc hEA hsA
      have hf13 : finU I 10 13 = I 10 13 := runU_10 I (by decide) (by decide) _
      have hl0 := hX.2.2.1.2.2.1
      have hl2 := hroom.1
      refine V.blk [(45, .aload 0, 1), (46, .getfield 9005, 3), (49, .aload 0, 1), (50, .getfield 9002, 3), (53, .getfield 3013, 3), (56, .aload 0, 1), (57, .getfield 9011, 3), (60, .bipush (-1), 1)] (ps := []) (z' := (61, [some (aR 0), some (aI th), some (aI rl), some (aI op), some (aI z), some (aI (th * 8 + rl)), none, none, none, none], [aI (-1), aI (IA 0 11), aI (IA 10 13), aR 36], MM N IA JA)) (by decide +kernel) rfl trivial ?_
      refine V.cv (c := 49) (na := 4) (o := 7) (a := 36) [aI (-1), aI (IA 0 11), aI (IA 10 13)] [] (by decide +kernel) rfl rfl rfl rfl rfl ((c_look hXA).mono (fun rv M1 q => ?_))
      obtain ⟨rfl, IL, JL, rfl, hL⟩ := q
      show V 91 (64, [some (aR 0), some (aI th), some (aI rl), some (aI op), some (aI z), some (aI (th * 8 + rl)), none, none, none, none], [], MM N IL JL) _
      refine V.blk [(64, .aload 0, 1), (65, .getfield 9005, 3), (68, .getfield 7006, 3), (71, .iload 5, 2), (73, .laload, 1), (74, .lstore 6, 2)] (ps := [0 ≤ (th * 8 + rl) ∧ (th * 8 + rl) < 320]) (z' := (76, [some (aR 0), some (aI th), some (aI rl), some (aI op), some (aI z), some (aI (th * 8 + rl)), some (aL (JL 39 ((th * 8 + rl).toNat))), none, none, none], [], MM N IL JL)) (by decide +kernel) rfl (show (0 ≤ (th * 8 + rl) ∧ (th * 8 + rl) < 320) from (by omega)) ?_
      have hEL : ERx (closeU (finU I)) IL := hEA.trans hL.ce.er
      have hdr := drop_of hX (by omega)
      have hpn : perfN I = (I 22 4).toNat := (perf_ok hX.2.2.2.1.1).2.2 hpa
      rw [hpn] at hdr
      obtain ⟨hO, hd1, hd2, hd3, hd4, hd5, hd6⟩ := hdr
      have hEt := ER.take hEL (by omega)
      have hL13 : IL 10 13 = I 10 13 + 1 := by rw [hEL.1.2.2.2.2.1 13 (by decide), (closeU_v _).2.1, hf13]
      refine V.blk [(76, .aload 0, 1), (77, .getfield 9002, 3)] (ps := []) (z' := (80, [some (aR 0), some (aI th), some (aI rl), some (aI op), some (aI z), some (aI (th * 8 + rl)), some (aL (JL 39 ((th * 8 + rl).toNat))), none, none, none], [aR 10], MM N IL JL)) (by decide +kernel) rfl trivial ?_
      refine V.cv (c := 33) (na := 1) (o := 3) (a := 10) [] [] (by decide +kernel) rfl rfl rfl rfl rfl ((c_takeBack hd1 hd2 hd3 hd4 hd5 hd6 hEt.1 hEt.2 (by omega)).mono (fun rv M1 q => ?_))
      obtain ⟨rfl, I9, rfl, hE9, _⟩ := q
      show V 91 (83, [some (aR 0), some (aI th), some (aI rl), some (aI op), some (aI z), some (aI (th * 8 + rl)), some (aL (JL 39 ((th * 8 + rl).toNat))), none, none, none], [], MM N I9 JL) _
      have hs9 : svOK I9 JL := svOK_er hX.2.2.2.2.2.2.2.1 hE9 ((hL.2.1 8 (by decide) (by decide) (by decide) (by decide) (by decide)).trans hj8) ((hL.2.1 9 (by decide) (by decide) (by decide) (by decide) (by decide)).trans hj9)
      have hX9 : WX I9 JL := WX_er hX hE9 hs9
      refine V.blk [(83, .aload 0, 1), (84, .getfield 9005, 3), (87, .aload 0, 1), (88, .getfield 9002, 3), (91, .getfield 3013, 3), (94, .aload 0, 1), (95, .getfield 9011, 3), (98, .bipush (-1), 1)] (ps := []) (z' := (99, [some (aR 0), some (aI th), some (aI rl), some (aI op), some (aI z), some (aI (th * 8 + rl)), some (aL (JL 39 ((th * 8 + rl).toNat))), none, none, none], [aI (-1), aI (I9 0 11), aI (I9 10 13), aR 36], MM N I9 JL)) (by decide +kernel) rfl trivial ?_
      refine V.cv (c := 49) (na := 4) (o := 7) (a := 36) [aI (-1), aI (I9 0 11), aI (I9 10 13)] [] (by decide +kernel) rfl rfl rfl rfl rfl ((c_look hX9).mono (fun rv M1 q => ?_))
      obtain ⟨rfl, IL2, JL2, rfl, hL2⟩ := q
      show V 91 (102, [some (aR 0), some (aI th), some (aI rl), some (aI op), some (aI z), some (aI (th * 8 + rl)), some (aL (JL 39 ((th * 8 + rl).toNat))), none, none, none], [], MM N IL2 JL2) _
      refine V.blk [(102, .aload 0, 1), (103, .getfield 9005, 3), (106, .getfield 7006, 3), (109, .iload 5, 2), (111, .laload, 1), (112, .lstore 8, 2), (114, .iload 3, 1), (115, .ifCond .eq 130, 3)] (ps := [0 ≤ (th * 8 + rl) ∧ (th * 8 + rl) < 320]) (z' := (brc .eq op 0 130 118, [some (aR 0), some (aI th), some (aI rl), some (aI op), some (aI z), some (aI (th * 8 + rl)), some (aL (JL 39 ((th * 8 + rl).toNat))), none, some (aL (JL2 39 ((th * 8 + rl).toNat))), none], [], MM N IL2 JL2)) (by decide +kernel) rfl (show (0 ≤ (th * 8 + rl) ∧ (th * 8 + rl) < 320) from (by omega)) ?_
      refine V.eq (fun bh5 => ?_) (fun bh6 => ?_)
      · skip
        try simp only [b2_cast, b2_ncast, Classical.not_not, lcm_lt, lcm_ge, lcm_gt, lcm_le, lcm_eq, b2_0, b2_n0, Bool.not_eq_false, Bool.not_eq_true, decide_eq_true_eq, decide_eq_false_iff_not] at bh5
        refine V.blk [(130, .lload 8, 2), (132, .lload 6, 2), (134, .jsr_w (-1), 3), (137, .lxor, 1), (138, .land, 1)] (ps := []) (z' := (139, [some (aR 0), some (aI th), some (aI rl), some (aI op), some (aI z), some (aI (th * 8 + rl)), some (aL (JL 39 ((th * 8 + rl).toNat))), none, some (aL (JL2 39 ((th * 8 + rl).toNat))), none], [aL ((JL2 39 ((th * 8 + rl).toNat)) &&& ((JL 39 ((th * 8 + rl).toNat)) ^^^ (Int64.ofInt (-1))))], MM N IL2 JL2)) (by decide +kernel) rfl trivial ?_
        refine V.rl (by decide +kernel) ?_
        have hS1 := hL.2.2.2
        have hS2 := hL2.2.2.2
        rw [SETS_er hEA (by rw [(closeU_v _).2.2.1 9 (by decide)]; exact hO.1.1 |> fun _ => (hd5 _ (Nat.le_refl _)).1.1) hj8 hj9] at hS1
        rw [SETS_er hE9 hX.2.2.1.1 ((hL.2.1 8 (by decide) (by decide) (by decide) (by decide) (by decide)).trans hj8) ((hL.2.1 9 (by decide) (by decide) (by decide) (by decide) (by decide)).trans hj9)] at hS2
        have eA13 : IA 10 13 = I 10 13 + 1 := by rw [hEA.1.2.2.2.2.1 13 (by decide), (closeU_v _).2.1, hf13]
        have eA11 : IA 0 11 = I 0 11 := by rw [hEA.1.2.1 11 (by decide), (closeU_v _).1 0 (by decide) (by decide), show finU I 0 = I 0 from runU_ne I (by omega) _]
        have e913 : I9 10 13 = I 10 13 := hE9.1.2.2.2.2.1 13 (by decide)
        have e911 : I9 0 11 = I 0 11 := hE9.1.2.1 11 (by decide)
        rw [eA13, eA11] at hS1
        rw [e913, e911] at hS2
        refine ⟨_, I, _, JL2, rfl, rfl, ⟨fun w => by exfalso; omega, fun _ => ⟨fun w => absurd hroom w, fun _ => ⟨fun w => absurd hpa w, fun _ => ⟨fun w => absurd w hnr, fun _ => ⟨rfl, _, _, hS1, hS2, congrArg aL ?_⟩⟩⟩⟩⟩, hE9.trans hL2.ce.er, hL2.sv hX9⟩
        rw [vw_lt (by omega), vw_lt (by omega)]
        first
          | rw [if_pos (by omega)]
          | rw [if_neg (by omega)]
      · skip
        try simp only [b2_cast, b2_ncast, Classical.not_not, lcm_lt, lcm_ge, lcm_gt, lcm_le, lcm_eq, b2_0, b2_n0, Bool.not_eq_false, Bool.not_eq_true, decide_eq_true_eq, decide_eq_false_iff_not] at bh6
        refine V.blk [(118, .lload 6, 2), (120, .lload 8, 2), (122, .jsr_w (-1), 3), (125, .lxor, 1), (126, .land, 1), (127, .goto 139, 3)] (ps := []) (z' := (139, [some (aR 0), some (aI th), some (aI rl), some (aI op), some (aI z), some (aI (th * 8 + rl)), some (aL (JL 39 ((th * 8 + rl).toNat))), none, some (aL (JL2 39 ((th * 8 + rl).toNat))), none], [aL ((JL 39 ((th * 8 + rl).toNat)) &&& ((JL2 39 ((th * 8 + rl).toNat)) ^^^ (Int64.ofInt (-1))))], MM N IL2 JL2)) (by decide +kernel) rfl trivial ?_
        refine V.rl (by decide +kernel) ?_
        have hS1 := hL.2.2.2
        have hS2 := hL2.2.2.2
        rw [SETS_er hEA (by rw [(closeU_v _).2.2.1 9 (by decide)]; exact hO.1.1 |> fun _ => (hd5 _ (Nat.le_refl _)).1.1) hj8 hj9] at hS1
        rw [SETS_er hE9 hX.2.2.1.1 ((hL.2.1 8 (by decide) (by decide) (by decide) (by decide) (by decide)).trans hj8) ((hL.2.1 9 (by decide) (by decide) (by decide) (by decide) (by decide)).trans hj9)] at hS2
        have eA13 : IA 10 13 = I 10 13 + 1 := by rw [hEA.1.2.2.2.2.1 13 (by decide), (closeU_v _).2.1, hf13]
        have eA11 : IA 0 11 = I 0 11 := by rw [hEA.1.2.1 11 (by decide), (closeU_v _).1 0 (by decide) (by decide), show finU I 0 = I 0 from runU_ne I (by omega) _]
        have e913 : I9 10 13 = I 10 13 := hE9.1.2.2.2.2.1 13 (by decide)
        have e911 : I9 0 11 = I 0 11 := hE9.1.2.1 11 (by decide)
        rw [eA13, eA11] at hS1
        rw [e913, e911] at hS2
        refine ⟨_, I, _, JL2, rfl, rfl, ⟨fun w => by exfalso; omega, fun _ => ⟨fun w => absurd hroom w, fun _ => ⟨fun w => absurd hpa w, fun _ => ⟨fun w => absurd w hnr, fun _ => ⟨rfl, _, _, hS1, hS2, congrArg aL ?_⟩⟩⟩⟩⟩, hE9.trans hL2.ce.er, hL2.sv hX9⟩
        rw [vw_lt (by omega), vw_lt (by omega)]
        first
          | rw [if_pos (by omega)]
          | rw [if_neg (by omega)]
    · skip
      try simp only [b2_cast, b2_ncast, Classical.not_not, lcm_lt, lcm_ge, lcm_gt, lcm_le, lcm_eq, b2_0, b2_n0, Bool.not_eq_false, Bool.not_eq_true, decide_eq_true_eq, decide_eq_false_iff_not] at bh4
      have hz : z = -9 ∨ z = -8 ∨ z = -7 := by
        rcases hA.cases with ⟨w, -⟩ | ⟨w, -⟩ | ⟨w, -⟩ | ⟨w, -⟩ <;> omega
      have hfA : Rf IA := by
        rcases hA.cases with ⟨w, hr, hE⟩ | ⟨w, hr, hp, h12, hE⟩ | ⟨w, hr, hp, hg, hE⟩ | ⟨w, hr, hp, hg, hE⟩
        · exact ERx.rf_ hf hE
        · exact ERx.rf_ hf hE
        · exact ERx.rf_ hf hE
        · exact ERx.rf_ (Rf_fin hf) hE
      refine V.blk [(29, .aload 0, 1), (30, .iload 4, 2)] (ps := []) (z' := (32, [some (aR 0), some (aI th), some (aI rl), some (aI op), some (aI z), none, none, none, none, none], [aI z, aR 0], MM N IA JA)) (by decide +kernel) rfl trivial ?_
      refine V.cv (c := 98) (na := 2) (o := 9) (a := 0) [aI z] [] (by decide +kernel) rfl rfl rfl rfl rfl ((c_refuse (by assumption) (by omega)).mono (fun rv M1 q => ?_))
      obtain ⟨rfl, rfl⟩ := q
      show V 91 (35, [some (aR 0), some (aI th), some (aI rl), some (aI op), some (aI z), none, none, none, none, none], [aI z], MM N ((rfU IA z)) JA) _
      refine V.blk [(35, .pop, 1), (36, .jsr_w 0, 1)] (ps := []) (z' := (37, [some (aR 0), some (aI th), some (aI rl), some (aI op), some (aI z), none, none, none, none, none], [aL (Int64.ofInt 0)], MM N ((rfU IA z)) JA)) (by decide +kernel) rfl trivial ?_
      refine V.nI (fun I7 eI7 => ?_)
      refine V.rl (by decide +kernel) ?_
      rcases hA.cases with ⟨w, hr, hE⟩ | ⟨w, hr, hp, h12, hE⟩ | ⟨w, hr, hp, hg, hE⟩ | ⟨w, -⟩
      · subst w
        refine ⟨_, rfU I (-9), _, JA, rfl, rfl, ⟨fun w => by exfalso; omega, fun _ => ⟨fun _ => ⟨rfl, rfl⟩, fun w => absurd w hr⟩⟩, ?_, ?_⟩
        · subst_vars
          exact hE.rf _
        · subst_vars
          exact sv_rf (svOK_er hX.2.2.2.2.2.2.2.1 hE hj8 hj9)
      · subst w
        refine ⟨_, rfU I (-8), _, JA, rfl, rfl, ⟨fun w => by exfalso; omega, fun _ => ⟨fun w => absurd hr w, fun _ => ⟨fun _ => ⟨rfl, rfl⟩, fun w => absurd w hp⟩⟩⟩, ?_, ?_⟩
        · subst_vars
          exact hE.rf _
        · subst_vars
          exact sv_rf (svOK_er hX.2.2.2.2.2.2.2.1 hE hj8 hj9)
      · subst w
        refine ⟨_, rfU I (-7), _, JA, rfl, rfl, ⟨fun w => by exfalso; omega, fun _ => ⟨fun w => absurd hr w, fun _ => ⟨fun w => absurd hp w, fun _ => ⟨fun _ => ⟨rfl, rfl⟩, fun w => absurd hg w⟩⟩⟩⟩, ?_, ?_⟩
        · subst_vars
          exact hE.rf _
        · subst_vars
          exact sv_rf (svOK_er hX.2.2.2.2.2.2.2.1 hE hj8 hj9)
      · exfalso; omega
  · skip
    try simp only [b2_cast, b2_ncast, Classical.not_not, lcm_lt, lcm_ge, lcm_gt, lcm_le, lcm_eq, b2_0, b2_n0, Bool.not_eq_false, Bool.not_eq_true, decide_eq_true_eq, decide_eq_false_iff_not] at bh2
    refine V.blk [(9, .aload 0, 1), (10, .bipush (-3), 2)] (ps := []) (z' := (12, [some (aR 0), some (aI th), some (aI rl), some (aI op), none, none, none, none, none, none], [aI (-3), aR 0], MM N I J)) (by decide +kernel) rfl trivial ?_
    refine V.cv (c := 98) (na := 2) (o := 9) (a := 0) [aI (-3)] [] (by decide +kernel) rfl rfl rfl rfl rfl ((c_refuse (by assumption) (by omega)).mono (fun rv M1 q => ?_))
    obtain ⟨rfl, rfl⟩ := q
    show V 91 (15, [some (aR 0), some (aI th), some (aI rl), some (aI op), none, none, none, none, none, none], [aI (-3)], MM N ((rfU I (-3))) J) _
    refine V.blk [(15, .pop, 1), (16, .jsr_w 0, 1)] (ps := []) (z' := (17, [some (aR 0), some (aI th), some (aI rl), some (aI op), none, none, none, none, none, none], [aL (Int64.ofInt 0)], MM N ((rfU I (-3))) J)) (by decide +kernel) rfl trivial ?_
    refine V.nI (fun I8 eI8 => ?_)
    refine V.rl (by decide +kernel) ?_
    exact ⟨_, rfU I (-3), _, J, rfl, rfl, ⟨fun _ => ⟨rfl, rfl⟩, fun w => by exfalso; omega⟩, by subst_vars; exact ERx.refl _, by subst_vars; exact sv_rf hX.2.2.2.2.2.2.2.1⟩
def WithR (K : MI) (L : MJ) (p : Int) (a : AV) (U : MI) : Prop :=
  (¬ (0 ≤ p ∧ p < K 10 9) → a = aI (-3) ∧ U = rfU K (-3)) ∧ (0 ≤ p ∧ p < K 10 9 → (K 44 6 = -1 → a = aI (-2) ∧ U = rfU K (-2)) ∧
  (K 44 6 ≠ -1 → U = K ∧ ∃ v, SETS K L (cnB K (K 44 8) (K 0 11) p) v ∧ a = aI (b2 (tb (v (K 44 6).toNat) (K 44 7).toNat))))
theorem c_X9_without {N : Nat} {I : MI} {J : MJ} {p : Int} (hX : WX I J) (hf : Rf I) : CT 90 [aR 0, aI p] (MM N I J) (QX N (WithR I J p)) := by
  have h40 := hX.prOK.1
  have hre := hX.2.2.2.2.2.1
  obtain ⟨hre1, hre2, hre3⟩ := hre
  refine CT.ofV (n := 2) (ls := [some (aR 0), some (aI p)]) rfl rfl rfl ?_
  refine V.blk [(0, .iload 1, 1), (1, .aload 0, 1), (2, .getfield 9002, 3), (5, .getfield 3009, 3)] (ps := []) (z' := (8, [some (aR 0), some (aI p)], [aI (I 10 9), aI p], MM N I J)) (by decide +kernel) rfl trivial ?_
  refine V.cs (c := 103) (na := 2) [aI (I 10 9), aI p] [] (by decide +kernel) rfl rfl (V.pr (c_X9_within) ?_)
  show V 90 (11, [some (aR 0), some (aI p)], [aI (b2 (decide (0 ≤ p ∧ p < (I 10 9))))], MM N I J) _
  refine V.blk [(11, .ifCond .ne 21, 3)] (ps := []) (z' := (brc .ne (b2 (decide (0 ≤ p ∧ p < (I 10 9)))) 0 21 14, [some (aR 0), some (aI p)], [], MM N I J)) (by decide +kernel) rfl trivial ?_
  refine V.ne (fun bh1 => ?_) (fun bh2 => ?_)
  · skip
    try simp only [b2_cast, b2_ncast, Classical.not_not, lcm_lt, lcm_ge, lcm_gt, lcm_le, lcm_eq, b2_0, b2_n0, Bool.not_eq_false, Bool.not_eq_true, decide_eq_true_eq, decide_eq_false_iff_not] at bh1
    refine V.blk [(21, .aload 0, 1), (22, .getfield 9007, 3), (25, .getfield 4006, 3), (28, .bipush (-1), 1), (29, .if_icmp .ne 39, 3)] (ps := []) (z' := (brc .ne (I 44 6) (-1) 39 32, [some (aR 0), some (aI p)], [], MM N I J)) (by decide +kernel) rfl trivial ?_
    refine V.ne (fun bh3 => ?_) (fun bh4 => ?_)
    · skip
      try simp only [b2_cast, b2_ncast, Classical.not_not, lcm_lt, lcm_ge, lcm_gt, lcm_le, lcm_eq, b2_0, b2_n0, Bool.not_eq_false, Bool.not_eq_true, decide_eq_true_eq, decide_eq_false_iff_not] at bh3
      refine V.blk [(39, .aload 0, 1), (40, .getfield 9005, 3), (43, .aload 0, 1), (44, .getfield 9007, 3), (47, .getfield 4008, 3), (50, .aload 0, 1), (51, .getfield 9011, 3), (54, .iload 1, 1)] (ps := []) (z' := (55, [some (aR 0), some (aI p)], [aI p, aI (I 0 11), aI (I 44 8), aR 36], MM N I J)) (by decide +kernel) rfl trivial ?_
      refine V.cv (c := 49) (na := 4) (o := 7) (a := 36) [aI p, aI (I 0 11), aI (I 44 8)] [] (by decide +kernel) rfl rfl rfl rfl rfl ((c_look hX).mono (fun rv M1 q => ?_))
      obtain ⟨rfl, IL, JL, rfl, hL⟩ := q
      show V 90 (58, [some (aR 0), some (aI p)], [], MM N IL JL) _
      refine V.blk [(58, .aload 0, 1), (59, .getfield 9005, 3), (62, .aload 0, 1), (63, .getfield 9007, 3), (66, .getfield 4006, 3), (69, .aload 0, 1), (70, .getfield 9007, 3), (73, .getfield 4007, 3)] (ps := []) (z' := (76, [some (aR 0), some (aI p)], [aI (IL 44 7), aI (IL 44 6), aR 36], MM N IL JL)) (by decide +kernel) rfl trivial ?_
      refine V.cv (c := 58) (na := 3) (o := 7) (a := 36) [aI (IL 44 7), aI (IL 44 6)] [] (by decide +kernel) rfl rfl rfl rfl rfl (V.pr (c_isInZ (by rw [hL.ce.2.1 6 (by decide) (by decide)]; omega) (by rw [hL.ce.2.1 7 (by decide) (by decide)]; omega)) ?_)
      show V 90 (79, [some (aR 0), some (aI p)], [aI (b2 (tb (JL 39 (IL 44 6).toNat) (IL 44 7).toNat))], MM N IL JL) _
      rw [hL.ce.2.1 6 (by decide) (by decide), hL.ce.2.1 7 (by decide) (by decide)]
      refine V.blk [(79, .ifCond .eq 86, 3)] (ps := []) (z' := (brc .eq (b2 (tb (JL 39 (I 44 6).toNat) (I 44 7).toNat)) 0 86 82, [some (aR 0), some (aI p)], [], MM N IL JL)) (by decide +kernel) rfl trivial ?_
      refine V.eq (fun bh5 => ?_) (fun bh6 => ?_)
      · skip
        try simp only [b2_cast, b2_ncast, Classical.not_not, lcm_lt, lcm_ge, lcm_gt, lcm_le, lcm_eq, b2_0, b2_n0, Bool.not_eq_false, Bool.not_eq_true, decide_eq_true_eq, decide_eq_false_iff_not] at bh5
        refine V.blk [(86, .bipush 0, 1)] (ps := []) (z' := (87, [some (aR 0), some (aI p)], [aI 0], MM N IL JL)) (by decide +kernel) rfl trivial ?_
        refine V.ri (by decide +kernel) ?_
        refine ⟨_, I, _, JL, rfl, rfl, ⟨fun w => by exfalso; omega, fun _ => ⟨fun w => by exfalso; omega, fun _ => ⟨rfl, _, hL.2.2.2, congrArg aI ?_⟩⟩⟩, hL.ce, hL.sv hX⟩
        rw [vw_lt (by omega)]
        have hb : tb (JL 39 (I 44 6).toNat) (I 44 7).toNat = false := by assumption
        rw [hb]
        rfl
      · skip
        try simp only [b2_cast, b2_ncast, Classical.not_not, lcm_lt, lcm_ge, lcm_gt, lcm_le, lcm_eq, b2_0, b2_n0, Bool.not_eq_false, Bool.not_eq_true, decide_eq_true_eq, decide_eq_false_iff_not] at bh6
        refine V.blk [(82, .bipush 1, 1), (83, .goto 87, 3)] (ps := []) (z' := (87, [some (aR 0), some (aI p)], [aI 1], MM N IL JL)) (by decide +kernel) rfl trivial ?_
        refine V.ri (by decide +kernel) ?_
        refine ⟨_, I, _, JL, rfl, rfl, ⟨fun w => by exfalso; omega, fun _ => ⟨fun w => by exfalso; omega, fun _ => ⟨rfl, _, hL.2.2.2, congrArg aI ?_⟩⟩⟩, hL.ce, hL.sv hX⟩
        rw [vw_lt (by omega)]
        have hb : tb (JL 39 (I 44 6).toNat) (I 44 7).toNat = true := by assumption
        rw [hb]
        rfl
    · skip
      try simp only [b2_cast, b2_ncast, Classical.not_not, lcm_lt, lcm_ge, lcm_gt, lcm_le, lcm_eq, b2_0, b2_n0, Bool.not_eq_false, Bool.not_eq_true, decide_eq_true_eq, decide_eq_false_iff_not] at bh4
      refine V.blk [(32, .aload 0, 1), (33, .bipush (-2), 2)] (ps := []) (z' := (35, [some (aR 0), some (aI p)], [aI (-2), aR 0], MM N I J)) (by decide +kernel) rfl trivial ?_
      refine V.cv (c := 98) (na := 2) (o := 9) (a := 0) [aI (-2)] [] (by decide +kernel) rfl rfl rfl rfl rfl ((c_refuse (by assumption) (by omega)).mono (fun rv M1 q => ?_))
      obtain ⟨rfl, rfl⟩ := q
      show V 90 (38, [some (aR 0), some (aI p)], [aI (-2)], MM N ((rfU I (-2))) J) _
      refine V.nI (fun I7 eI7 => ?_)
      refine V.ri (by decide +kernel) ?_
      exact ⟨_, rfU I (-2), _, J, rfl, rfl, ⟨fun w => by exfalso; omega, fun _ => ⟨fun _ => ⟨rfl, rfl⟩, fun w => by exfalso; omega⟩⟩, by subst_vars; exact CE.refl _, by subst_vars; exact sv_rf hX.2.2.2.2.2.2.2.1⟩
  · skip
    try simp only [b2_cast, b2_ncast, Classical.not_not, lcm_lt, lcm_ge, lcm_gt, lcm_le, lcm_eq, b2_0, b2_n0, Bool.not_eq_false, Bool.not_eq_true, decide_eq_true_eq, decide_eq_false_iff_not] at bh2
    refine V.blk [(14, .aload 0, 1), (15, .bipush (-3), 2)] (ps := []) (z' := (17, [some (aR 0), some (aI p)], [aI (-3), aR 0], MM N I J)) (by decide +kernel) rfl trivial ?_
    refine V.cv (c := 98) (na := 2) (o := 9) (a := 0) [aI (-3)] [] (by decide +kernel) rfl rfl rfl rfl rfl ((c_refuse (by assumption) (by omega)).mono (fun rv M1 q => ?_))
    obtain ⟨rfl, rfl⟩ := q
    show V 90 (20, [some (aR 0), some (aI p)], [aI (-3)], MM N ((rfU I (-3))) J) _
    refine V.nI (fun I8 eI8 => ?_)
    refine V.ri (by decide +kernel) ?_
    exact ⟨_, rfU I (-3), _, J, rfl, rfl, ⟨fun _ => ⟨rfl, rfl⟩, fun w => by exfalso; omega⟩, by subst_vars; exact CE.refl _, by subst_vars; exact sv_rf hX.2.2.2.2.2.2.2.1⟩
