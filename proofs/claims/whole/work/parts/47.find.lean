/-! ===== the class: the reason is found; why ===== -/
theorem c_follow {N : Nat} {I : MI} {J : MJ} {K : MI} {L : MJ} {cp : Nat → Bool} {v : SV} {pe : Nat} {c : Nat → Int} {T0 : List Int} {n w s p : Nat} (hX : RMX K L cp v pe c I J) (hR : RsA K L cp v pe c T0 I n w s p) (hn : n < 60) : CT 37 [aR 44] (MM N I J) (fun rv M' => rv = none ∧ ∃ I' J', M' = MM N I' J' ∧ (∀ i, (i < 43 ∨ 47 < i) → I' i = I i) ∧ (∀ k, 6 ≤ k → k ≤ 8 → I' 44 k = I 44 k) ∧ (∀ i, i ≠ 40 → J' i = J i) ∧ (∀ q, q < 64 → I' 43 q = I' 43 q) ∧ ((∃ w' s' p', RsA K L cp v pe c T0 I' n w' s' p' ∧ pr K cp v c pe s' p' + 1 ≤ pr K cp v c pe s p) ∨ RsZ T0 I' (n + 1) ∨ ∃ w' s' p', RsA K L cp v pe c T0 I' (n + 1) w' s' p')) := by
  have hw11 := hR.2.2.1
  have hw60 := hR.2.2.2.1
  have hs12 : I 44 12 = (s : Int) := hR.2.2.2.2.1
  have hf0 := hR.2.2.2.2.2.2.1
  have hs3 := hf0.1
  obtain ⟨r, hr64, er, -⟩ := hf0.2.2.1
  refine CT.ofV (n := 2) (ls := [some (aR 44), none]) rfl rfl rfl ?_
  refine V.blk [(0, .aload 0, 1), (1, .getfield 4003, 3), (4, .aload 0, 1), (5, .getfield 4012, 3)] (ps := []) (z' := (8, [some (aR 44), none], [aI (I 44 12), aR 41], MM N I J)) (by decide +kernel) rfl trivial ?_
  rw [hs12]
  refine V.cv (c := 4) (na := 2) (o := 0) (a := 41) [aI (s : Int)] [] (by decide +kernel) rfl rfl rfl rfl rfl ((c_priceSpot hX.2.1 hX.2.2.2.2.2.2.2.1 hX.1.2.1 hs3 hX.cp_ hX.2.2.2.2.2.2.2.2).mono (fun rv M1 q => ?_))
  obtain ⟨IP, JP, rfl, rfl, p1, p2o, p3, p4⟩ := q
  have hXP : RMX K L cp v pe c IP JP := hX.step (fun i hi => p1 i (by omega)) p2o p4
  have hRP : RsA K L cp v pe c T0 IP n w s p := hR.to (by rw [p1 44 (by decide)]) (by rw [p1 44 (by decide)]) (by rw [p1 44 (by decide)]) (by rw [p1 44 (by decide)]; exact hR.2.2.2.2.2.1) (p1 45 (by decide)) (p1 46 (by decide)) (p1 47 (by decide)) hf0 rfl
  have hpt : ∀ q, q < 64 → askd L r q = true → IP 43 q = pr K cp v c pe s q := fun q hq ha => by
    obtain ⟨x4, x5, x6, x7, x10, x18, x19, xk, xa⟩ := hX.k
    rw [xk, x7, er] at p3
    rw [p3 (by omega) q hq (by rw [xa]; exact ha)]
    exact hX.pr_ hs3 hq
  show V 37 (11, [some (aR 44), none], [aI (prT I cp (J 39) (I 42) pe s)], MM N IP JP) _
  refine V.blk [(11, .pop, 1), (12, .aload 0, 1)] (ps := []) (z' := (13, [some (aR 44), none], [aR 44], MM N IP JP)) (by decide +kernel) rfl trivial ?_
  refine V.cv (c := 38) (na := 1) (o := 4) (a := 44) [] [] (by decide +kernel) rfl rfl rfl rfl rfl ((c_descend (p0 := p) hXP er hpt hRP (Int.le_refl _)).mono (fun rv M1 q => ?_))
  obtain ⟨rfl, ID, w2, p2, rfl, d1, d2, hRD, hnj, hle⟩ := q
  have hXD : RMX K L cp v pe c ID JP := hXP.step (fun i hi => d1 i (by omega) (by omega) (by omega)) (fun _ _ => rfl) (by rw [d1 43 (by decide) (by decide) (by decide)]; exact p4)
  obtain ⟨x4, x5, x6, x7, x10, x18, x19, xk, xa⟩ := hXD.k
  have hD13 : ID 44 13 = (p2 : Int) := hRD.2.2.2.2.2.1
  have hD12 : ID 44 12 = (s : Int) := hRD.2.2.2.2.1
  have hD11 := hRD.2.2.1
  have hD11b := hRD.2.2.2.1
  have hD5 := hRD.1
  have hf2 := hRD.2.2.2.2.2.2.1
  have hp2 := hf2.2.1
  have y4 : ID 4 p2 = K 4 p2 := congrFun x4 p2
  have y5 : ID 5 p2 = K 5 p2 := congrFun x5 p2
  have y6 : ID 6 p2 = K 6 p2 := congrFun x6 p2
  have rr := hX.1.1.2.2.1 p2 hp2
  have hkd : kdOK ID := hXD.2.1.1
  have hlt2 := hf2.in_ hX.1
  have hoD : ∀ i, (i < 43 ∨ 47 < i) → ID i = I i := fun i hi => (d1 i (by omega) (by omega) (by omega)).trans (p1 i (by omega))
  have h4D : ∀ k, 6 ≤ k → k ≤ 8 → ID 44 k = I 44 k := fun k a b => (d2 k (by omega) (by omega)).trans (by rw [p1 44 (by decide)])
  have h43D : ∀ q, q < 64 → ID 43 q = ID 43 q := by rw [d1 43 (by decide) (by decide) (by decide)]; exact p4
  show V 37 (16, [some (aR 44), none], [], MM N ID JP) _
  refine V.blk [(16, .aload 0, 1), (17, .getfield 4000, 3), (20, .getfield 6000, 3), (23, .aload 0, 1), (24, .getfield 4013, 3)] (ps := []) (z' := (27, [some (aR 44), none], [aI (ID 44 13), aR 4], MM N ID JP)) (by decide +kernel) rfl trivial ?_
  rw [hD13]
  refine V.blk [(27, .iaload, 1), (28, .bipush 2, 1), (29, .if_icmp .ne 59, 3)] (ps := [0 ≤ (p2 : Int) ∧ (p2 : Int) < 64]) (z' := (brc .ne (ID 4 p2) 2 59 32, [some (aR 44), none], [], MM N ID JP)) (by decide +kernel) rfl (show (0 ≤ (p2 : Int) ∧ (p2 : Int) < 64) from (by first | omega | (simp [ma, hD5]; omega) | (rw [y5]; omega) | (rw [t6]; omega))) ?_
  refine V.ne (fun bh1 => ?_) (fun bh2 => ?_)
  · skip
    try simp only [b2_cast, b2_ncast, Classical.not_not, lcm_lt, lcm_ge, lcm_gt, lcm_le, lcm_eq, b2_0, b2_n0, b2_e1, b2_e0, Bool.not_eq_false, Bool.not_eq_true, decide_eq_true_eq, decide_eq_false_iff_not, Classical.not_not] at bh1
    refine V.blk [(59, .aload 0, 1), (60, .getfield 4003, 3), (63, .aload 0, 1), (64, .getfield 4013, 3)] (ps := []) (z' := (67, [some (aR 44), none], [aI (ID 44 13), aR 41], MM N ID JP)) (by decide +kernel) rfl trivial ?_
    rw [hD13]
    refine V.blk [(67, .aload 0, 1), (68, .getfield 4012, 3)] (ps := []) (z' := (71, [some (aR 44), none], [aI (ID 44 12), aI (p2 : Int), aR 41], MM N ID JP)) (by decide +kernel) rfl trivial ?_
    rw [hD12]
    refine V.cv (c := 6) (na := 3) (o := 0) (a := 41) [aI (s : Int), aI (p2 : Int)] [] (by decide +kernel) rfl rfl rfl rfl rfl (V.pr (c_best (m := (ID 10 9).toNat) (by have := hXD.2.1.2.2.2.2.1; omega) (by have := hXD.2.1.2.2.2.2.1; omega) hXD.2.1.2.2.2.2.2.2.2 hXD.2.1.2.2.2.1 hXD.2.1.2.2.1 hXD.2.2.2.2.2.2.2.1 hp2 hs3) ?_)
    show V 37 (74, [some (aR 44), none], [aI (lfQ ID cp (ID 42) pe s p2)], MM N ID JP) _
    refine V.blk [(74, .istore 1, 1), (75, .iload 1, 1), (76, .bipush (-1), 1), (77, .if_icmp .ne 85, 3)] (ps := []) (z' := (brc .ne (lfQ ID cp (ID 42) pe s p2) (-1) 85 80, [some (aR 44), some (aI (lfQ ID cp (ID 42) pe s p2))], [], MM N ID JP)) (by decide +kernel) rfl trivial ?_
    refine V.ne (fun bh3 => ?_) (fun bh4 => ?_)
    · skip
      try simp only [b2_cast, b2_ncast, Classical.not_not, lcm_lt, lcm_ge, lcm_gt, lcm_le, lcm_eq, b2_0, b2_n0, b2_e1, b2_e0, Bool.not_eq_false, Bool.not_eq_true, decide_eq_true_eq, decide_eq_false_iff_not, Classical.not_not] at bh3
      obtain ⟨hk01, q, q1, q2, q3, q4, -, q5⟩ := hf2.leaf hX.1 (by omega) hnj
      have eq2 : lfQ ID cp (ID 42) pe s p2 = (q : Int) := (hXD.lf hp2).trans q2
      rw [eq2]
      have wq := hX.1.1.2.2.2.1.2 q q1
      have wq0 := hX.1.1.2.2.2.1.1
      have hm4 := hXD.2.1.2.2.2.2.1
      rw [x10] at hm4
      refine V.blk [(85, .aload 0, 1), (86, .getfield 4004, 3), (89, .aload 0, 1), (90, .getfield 4005, 3), (93, .iload 1, 1), (94, .iastore, 1), (95, .aload 0, 1), (96, .dup, 1), (97, .getfield 4005, 3), (100, .bipush 1, 1), (101, .iadd, 1), (102, .putfield 4005, 3)] (ps := [0 ≤ (ID 44 5) ∧ (ID 44 5) < 60, inR (((ma ID 45 (ma (ID 45) ((ID 44 5).toNat) (q : Int))) 44 5) + 1)]) (z' := (105, [some (aR 44), some (aI (q : Int))], [], MM N (ma (ma ID 45 (ma (ID 45) ((ID 44 5).toNat) (q : Int))) 44 (ma ((ma ID 45 (ma (ID 45) ((ID 44 5).toNat) (q : Int))) 44) 5 (((ma ID 45 (ma (ID 45) ((ID 44 5).toNat) (q : Int))) 44 5) + 1))) JP)) (by decide +kernel) rfl (show (0 ≤ (ID 44 5) ∧ (ID 44 5) < 60) ∧ (inR (((ma ID 45 (ma (ID 45) ((ID 44 5).toNat) (q : Int))) 44 5) + 1)) from ⟨(by first | omega | (simp [ma, hD5]; omega) | (rw [y5]; omega) | (rw [t6]; omega)), (by unfold inR; first | omega | (simp [ma, hD5]; omega) | (rw [y5]; omega) | (rw [t6]; omega))⟩) ?_
      refine V.nI (fun I5 eI5 => ?_)
      have t5 : I5 44 5 = (n : Int) + 1 := by rw [eI5]; simp [ma_self, ma_ne]; omega
      have t45 : I5 45 = ma (ID 45) n (q : Int) := by rw [eI5]; simp [ma_self, ma_ne, hD5]
      have tk : ∀ k, k ≠ 5 → I5 44 k = ID 44 k := fun k hk => by rw [eI5]; simp [ma_self, ma_ne, hk]
      have to : ∀ i, i ≠ 44 → i ≠ 45 → I5 i = ID i := fun i a b => by rw [eI5]; simp [ma_ne, a, b]
      clear eI5
      have tX : RMX K L cp v pe c I5 JP := hXD.step (fun i hi => to i (by omega) (by omega)) (fun _ _ => rfl) (by rw [to 43 (by decide) (by decide)]; exact h43D)
      have tkd : kdOK I5 := tX.2.1.1
      have t4 : I5 4 p2 = K 4 p2 := congrFun tX.k.1 p2
      have t6 : I5 6 p2 = K 6 p2 := congrFun tX.k.2.2.1 p2
      have t18 : I5 18 q = K 18 q := congrFun tX.k.2.2.2.2.2.1 q
      have t19 : I5 19 q = K 19 q := congrFun tX.k.2.2.2.2.2.2.1 q
      have tks : kS I5 = kS K := tX.k.2.2.2.2.2.2.2.1
      have t7 : I5 7 = K 7 := tX.k.2.2.2.1
      refine V.blk [(105, .aload 0, 1), (106, .getfield 4000, 3), (109, .getfield 6000, 3), (112, .aload 0, 1), (113, .getfield 4013, 3)] (ps := []) (z' := (116, [some (aR 44), some (aI (q : Int))], [aI (I5 44 13), aR 4], MM N I5 JP)) (by decide +kernel) rfl trivial ?_
      rw [show I5 44 13 = (p2 : Int) from (tk 13 (by decide)).trans hD13]
      refine V.blk [(116, .iaload, 1), (117, .bipush 3, 1), (118, .if_icmp .ne 152, 3)] (ps := [0 ≤ (p2 : Int) ∧ (p2 : Int) < 64]) (z' := (brc .ne (I5 4 p2) 3 152 121, [some (aR 44), some (aI (q : Int))], [], MM N I5 JP)) (by decide +kernel) rfl (show (0 ≤ (p2 : Int) ∧ (p2 : Int) < 64) from (by first | omega | (simp [ma, hD5]; omega) | (rw [y5]; omega) | (rw [t6]; omega))) ?_
      refine V.ne (fun bh6 => ?_) (fun bh7 => ?_)
      · skip
        try simp only [b2_cast, b2_ncast, Classical.not_not, lcm_lt, lcm_ge, lcm_gt, lcm_le, lcm_eq, b2_0, b2_n0, b2_e1, b2_e0, Bool.not_eq_false, Bool.not_eq_true, decide_eq_true_eq, decide_eq_false_iff_not, Classical.not_not] at bh6
        refine V.blk [(152, .aload 0, 1), (153, .getfield 4001, 3), (156, .getfield 3007, 3), (159, .iload 1, 1), (160, .iaload, 1), (161, .bipush (-1), 1), (162, .if_icmp .eq 181, 3)] (ps := [0 ≤ (q : Int) ∧ (q : Int) < 400]) (z' := (brc .eq (I5 18 q) (-1) 181 165, [some (aR 44), some (aI (q : Int))], [], MM N I5 JP)) (by decide +kernel) rfl (show (0 ≤ (q : Int) ∧ (q : Int) < 400) from (by first | omega | (simp [ma, hD5]; omega) | (rw [y5]; omega) | (rw [t6]; omega))) ?_
        refine V.eq (fun bh8 => ?_) (fun bh9 => ?_)
        · skip
          try simp only [b2_cast, b2_ncast, Classical.not_not, lcm_lt, lcm_ge, lcm_gt, lcm_le, lcm_eq, b2_0, b2_n0, b2_e1, b2_e0, Bool.not_eq_false, Bool.not_eq_true, decide_eq_true_eq, decide_eq_false_iff_not, Classical.not_not] at bh8
          refine V.blk [(181, .aload 0, 1)] (ps := []) (z' := (182, [some (aR 44), some (aI (q : Int))], [aR 44], MM N I5 JP)) (by decide +kernel) rfl trivial ?_
          refine V.cv (c := 40) (na := 1) (o := 4) (a := 44) [] [] (by decide +kernel) rfl rfl rfl rfl rfl ((c_resume (by rw [tk 11 (by decide)]; omega)).mono (fun rv M1 q => ?_))
          obtain ⟨rfl, rfl⟩ := q
          show V 37 (185, [some (aR 44), some (aI (q : Int))], [], MM N ((rsmU I5)) JP) _
          refine V.nI (fun I10 eI10 => ?_)
          refine V.rv (by decide +kernel) ?_
          have z3 : nxC K q p2 = -1 := by
            rcases q5 with ⟨w, -⟩ | ⟨s', r', z1, z2, z3, -⟩
            · exact w
            · exfalso
              unfold nxC at z3
              rw [if_neg (by omega)] at z3
              omega
          clear q5
          have k2n : K 4 p2 ≠ 2 := by omega
          refine ⟨rfl, rsmU I5, JP, by subst_vars; rfl, fun i hi => ?_, fun k a b => ?_, p2o, ?_, Or.inr (hRD.fin (q := q) hn ?_ ?_ (tale_end k2n hnj q2 z3) (fun hw => ?_) (fun w1 hw => ?_))⟩
          · unfold rsmU; split <;> (rw [ma_ne _ _ (by omega), to i (by omega) (by omega)]; exact hoD i hi)
          · unfold rsmU; split
            · rw [ma_self, ma_ne _ _ (by omega), tk k (by omega)]; exact h4D k a b
            · rw [ma_self, ma_ne _ _ (by omega), ma_ne _ _ (by omega), ma_ne _ _ (by omega), tk k (by omega)]; exact h4D k a b
          · unfold rsmU; split <;> (rw [ma_ne _ _ (by decide), to 43 (by decide) (by decide)]; exact h43D)
          · unfold rsmU; split
            · rw [ma_self, ma_ne _ _ (by decide)]; exact t5
            · rw [ma_self, ma_ne _ _ (by decide), ma_ne _ _ (by decide), ma_ne _ _ (by decide)]; exact t5
          · unfold rsmU; split <;> (rw [ma_ne _ _ (by decide)]; exact t45)
          · unfold rsmU
            rw [if_pos (by rw [tk 11 (by decide)]; omega), ma_self, ma_self]
          · have t11 : I5 44 11 = (w1 : Int) + 1 := by rw [tk 11 (by decide)]; omega
            unfold rsmU
            rw [if_neg (by omega), t11]
            have e1 : ((w1 : Int) + 1 - 1).toNat = w1 := by omega
            rw [e1]
            refine ⟨?_, ?_, ?_, ?_, ?_⟩
            · rw [ma_self, ma_ne _ _ (by decide), ma_ne _ _ (by decide), ma_self]; omega
            · rw [ma_self, ma_ne _ _ (by decide), ma_self, to 46 (by decide) (by decide)]
            · rw [ma_self, ma_self, to 47 (by decide) (by decide)]
            · rw [ma_ne _ _ (by decide)]; exact to 46 (by decide) (by decide)
            · rw [ma_ne _ _ (by decide)]; exact to 47 (by decide) (by decide)
        · skip
          try simp only [b2_cast, b2_ncast, Classical.not_not, lcm_lt, lcm_ge, lcm_gt, lcm_le, lcm_eq, b2_0, b2_n0, b2_e1, b2_e0, Bool.not_eq_false, Bool.not_eq_true, decide_eq_true_eq, decide_eq_false_iff_not, Classical.not_not] at bh9
          refine V.blk [(165, .aload 0, 1), (166, .aload 0, 1), (167, .getfield 4001, 3), (170, .getfield 3007, 3), (173, .iload 1, 1), (174, .iaload, 1)] (ps := [0 ≤ (q : Int) ∧ (q : Int) < 400]) (z' := (175, [some (aR 44), some (aI (q : Int))], [aI (I5 18 q), aR 44], MM N I5 JP)) (by decide +kernel) rfl (show (0 ≤ (q : Int) ∧ (q : Int) < 400) from (by first | omega | (simp [ma, hD5]; omega) | (rw [y5]; omega) | (rw [t6]; omega))) ?_
          obtain ⟨s', r', z1, z2, z3, z4, z5, z6, z7⟩ : ∃ s' r : Nat, s' < 320 ∧ r < 64 ∧ nxC K q p2 = (s' : Int) ∧ K 7 (kS K s') = (r : Int) ∧ Fi K L cp v pe c s' r ∧ pr K cp v c pe s' r = pr K cp v c pe s p2 - 1 ∧ c s' = pr K cp v c pe s p2 - 1 := by
            rcases q5 with ⟨w, -⟩ | q5
            · exfalso
              unfold nxC at w
              rw [if_neg (by omega)] at w
              omega
            · exact q5
          clear q5
          have z8 : I5 18 q = (s' : Int) := by
            rw [t18, ← z3]
            unfold nxC
            rw [if_neg (by omega)]
          rw [z8]
          refine V.cv (c := 36) (na := 2) (o := 4) (a := 44) [aI (s' : Int)] [] (by decide +kernel) rfl rfl rfl rfl rfl ((c_enter z1 tkd).mono (fun rv M1 q => ?_))
          obtain ⟨rfl, rfl⟩ := q
          show V 37 (178, [some (aR 44), some (aI (q : Int))], [], MM N ((entU I5 s')) JP) _
          refine V.blk [(178, .goto 185, 3)] (ps := []) (z' := (185, [some (aR 44), some (aI (q : Int))], [], MM N ((entU I5 s')) JP)) (by decide +kernel) rfl trivial ?_
          refine V.nI (fun I11 eI11 => ?_)
          refine V.rv (by decide +kernel) ?_
          refine ⟨rfl, entU I5 s', JP, by subst_vars; rfl, fun i hi => ?_, fun k a b => ?_, p2o, ?_, Or.inr (Or.inr ⟨w2, s', r', hRD.tell (q := q) hn ?_ ?_ ?_ ?_ ?_ ?_ ?_ z5 (tale_next hX.1 (by omega) hnj q2 z3 z4 z5)⟩)⟩
          · unfold entU; rw [ma_ne _ _ (by omega), to i (by omega) (by omega)]; exact hoD i hi
          · unfold entU; rw [ma_self, ma_ne _ _ (by omega), ma_ne _ _ (by omega), tk k (by omega)]; exact h4D k a b
          · unfold entU; rw [ma_ne _ _ (by decide), to 43 (by decide) (by decide)]; exact h43D
          · unfold entU; rw [ma_self, ma_ne _ _ (by decide), ma_ne _ _ (by decide)]; exact t5
          · unfold entU; rw [ma_self, ma_ne _ _ (by decide), ma_ne _ _ (by decide)]; exact tk 11 (by decide)
          · unfold entU; rw [ma_self, ma_ne _ _ (by decide), ma_self]
          · unfold entU; rw [ma_self, ma_self, t7, tks]; exact z4
          · unfold entU; rw [ma_ne _ _ (by decide)]; exact t45
          · unfold entU; rw [ma_ne _ _ (by decide)]; exact to 46 (by decide) (by decide)
          · unfold entU; rw [ma_ne _ _ (by decide)]; exact to 47 (by decide) (by decide)
      · skip
        try simp only [b2_cast, b2_ncast, Classical.not_not, lcm_lt, lcm_ge, lcm_gt, lcm_le, lcm_eq, b2_0, b2_n0, b2_e1, b2_e0, Bool.not_eq_false, Bool.not_eq_true, decide_eq_true_eq, decide_eq_false_iff_not, Classical.not_not] at bh7
        obtain ⟨s', r', z1, z2, z3, z4, z5, z6, z7⟩ : ∃ s' r : Nat, s' < 320 ∧ r < 64 ∧ nxC K q p2 = (s' : Int) ∧ K 7 (kS K s') = (r : Int) ∧ Fi K L cp v pe c s' r ∧ pr K cp v c pe s' r = pr K cp v c pe s p2 - 1 ∧ c s' = pr K cp v c pe s p2 - 1 := by
          rcases q5 with ⟨-, w, -⟩ | q5
          · exfalso; omega
          · exact q5
        clear q5
        have z8 : I5 19 q * 8 + I5 6 p2 = (s' : Int) := by
          rw [t19, t6, ← z3]
          unfold nxC
          rw [if_pos (by omega)]
        refine V.blk [(121, .aload 0, 1), (122, .aload 0, 1), (123, .getfield 4001, 3), (126, .getfield 3008, 3), (129, .iload 1, 1), (130, .iaload, 1), (131, .aload 0, 1), (132, .getfield 4000, 3), (135, .getfield 6002, 3), (138, .aload 0, 1), (139, .getfield 4013, 3)] (ps := [0 ≤ (q : Int) ∧ (q : Int) < 400]) (z' := (142, [some (aR 44), some (aI (q : Int))], [aI (I5 44 13), aR 6, aI (I5 19 q), aR 44], MM N I5 JP)) (by decide +kernel) rfl (show (0 ≤ (q : Int) ∧ (q : Int) < 400) from (by first | omega | (simp [ma, hD5]; omega) | (rw [y5]; omega) | (rw [t6]; omega))) ?_
        rw [show I5 44 13 = (p2 : Int) from (tk 13 (by decide)).trans hD13]
        refine V.blk [(142, .iaload, 1)] (ps := [0 ≤ (p2 : Int) ∧ (p2 : Int) < 64]) (z' := (143, [some (aR 44), some (aI (q : Int))], [aI (I5 6 p2), aI (I5 19 q), aR 44], MM N I5 JP)) (by decide +kernel) rfl (show (0 ≤ (p2 : Int) ∧ (p2 : Int) < 64) from (by first | omega | (simp [ma, hD5]; omega) | (rw [y5]; omega) | (rw [t6]; omega))) ?_
        refine V.cs (c := 108) (na := 2) [aI (I5 6 p2), aI (I5 19 q)] [aR 44] (by decide +kernel) rfl rfl (V.pr (c_X9_spotOf (by omega)) ?_)
        show V 37 (146, [some (aR 44), some (aI (q : Int))], [aI ((I5 19 q) * 8 + (I5 6 p2)), aR 44], MM N I5 JP) _
        rw [z8]
        refine V.cv (c := 36) (na := 2) (o := 4) (a := 44) [aI (s' : Int)] [] (by decide +kernel) rfl rfl rfl rfl rfl ((c_enter z1 tkd).mono (fun rv M1 q => ?_))
        obtain ⟨rfl, rfl⟩ := q
        show V 37 (149, [some (aR 44), some (aI (q : Int))], [], MM N ((entU I5 s')) JP) _
        refine V.blk [(149, .goto 185, 3)] (ps := []) (z' := (185, [some (aR 44), some (aI (q : Int))], [], MM N ((entU I5 s')) JP)) (by decide +kernel) rfl trivial ?_
        refine V.nI (fun I12 eI12 => ?_)
        refine V.rv (by decide +kernel) ?_
        refine ⟨rfl, entU I5 s', JP, by subst_vars; rfl, fun i hi => ?_, fun k a b => ?_, p2o, ?_, Or.inr (Or.inr ⟨w2, s', r', hRD.tell (q := q) hn ?_ ?_ ?_ ?_ ?_ ?_ ?_ z5 (tale_next hX.1 (by omega) hnj q2 z3 z4 z5)⟩)⟩
        · unfold entU; rw [ma_ne _ _ (by omega), to i (by omega) (by omega)]; exact hoD i hi
        · unfold entU; rw [ma_self, ma_ne _ _ (by omega), ma_ne _ _ (by omega), tk k (by omega)]; exact h4D k a b
        · unfold entU; rw [ma_ne _ _ (by decide), to 43 (by decide) (by decide)]; exact h43D
        · unfold entU; rw [ma_self, ma_ne _ _ (by decide), ma_ne _ _ (by decide)]; exact t5
        · unfold entU; rw [ma_self, ma_ne _ _ (by decide), ma_ne _ _ (by decide)]; exact tk 11 (by decide)
        · unfold entU; rw [ma_self, ma_ne _ _ (by decide), ma_self]
        · unfold entU; rw [ma_self, ma_self, t7, tks]; exact z4
        · unfold entU; rw [ma_ne _ _ (by decide)]; exact t45
        · unfold entU; rw [ma_ne _ _ (by decide)]; exact to 46 (by decide) (by decide)
        · unfold entU; rw [ma_ne _ _ (by decide)]; exact to 47 (by decide) (by decide)
    · skip
      exfalso
      obtain ⟨-, q, q1, q2, -⟩ := hf2.leaf hX.1 (by omega) hnj
      have eq2 : lfQ ID cp (ID 42) pe s p2 = (q : Int) := (hXD.lf hp2).trans q2
      omega
  · skip
    try simp only [b2_cast, b2_ncast, Classical.not_not, lcm_lt, lcm_ge, lcm_gt, lcm_le, lcm_eq, b2_0, b2_n0, b2_e1, b2_e0, Bool.not_eq_false, Bool.not_eq_true, decide_eq_true_eq, decide_eq_false_iff_not, Classical.not_not] at bh2
    refine V.blk [(32, .aload 0, 1), (33, .aload 0, 1), (34, .getfield 4012, 3)] (ps := []) (z' := (37, [some (aR 44), none], [aI (ID 44 12), aR 44], MM N ID JP)) (by decide +kernel) rfl trivial ?_
    rw [hD12]
    refine V.blk [(37, .bipush 8, 2), (39, .idiv, 1), (40, .aload 0, 1), (41, .getfield 4000, 3), (44, .getfield 6001, 3), (47, .aload 0, 1), (48, .getfield 4013, 3)] (ps := [0 ≤ (s : Int) ∧ 0 < 8]) (z' := (51, [some (aR 44), none], [aI (ID 44 13), aR 5, aI ((s / 8 : Nat) : Int), aR 44], MM N ID JP)) (by decide +kernel) rfl (show (0 ≤ (s : Int) ∧ 0 < 8) from (by first | omega | (simp [ma, hD5]; omega) | (rw [y5]; omega) | (rw [t6]; omega))) ?_
    rw [hD13]
    refine V.blk [(51, .iaload, 1)] (ps := [0 ≤ (p2 : Int) ∧ (p2 : Int) < 64]) (z' := (52, [some (aR 44), none], [aI (ID 5 p2), aI ((s / 8 : Nat) : Int), aR 44], MM N ID JP)) (by decide +kernel) rfl (show (0 ≤ (p2 : Int) ∧ (p2 : Int) < 64) from (by first | omega | (simp [ma, hD5]; omega) | (rw [y5]; omega) | (rw [t6]; omega))) ?_
    refine V.cs (c := 108) (na := 2) [aI (ID 5 p2), aI ((s / 8 : Nat) : Int)] [aR 44] (by decide +kernel) rfl rfl (V.pr (c_spotOfN (by omega)) ?_)
    show V 37 (55, [some (aR 44), none], [aI (((s / 8) * 8 + (ID 5 p2).toNat : Nat) : Int), aR 44], MM N ID JP) _
    refine V.cv (c := 36) (na := 2) (o := 4) (a := 44) [aI (((s / 8) * 8 + (ID 5 p2).toNat : Nat) : Int)] [] (by decide +kernel) rfl rfl rfl rfl rfl ((c_enter (by omega) hkd).mono (fun rv M1 q => ?_))
    obtain ⟨rfl, rfl⟩ := q
    show V 37 (58, [some (aR 44), none], [], MM N ((entU ID ((s / 8) * 8 + (ID 5 p2).toNat))) JP) _
    refine V.nI (fun I13 eI13 => ?_)
    refine V.rv (by decide +kernel) ?_
    have k2 : K 4 p2 = 2 := by omega
    obtain ⟨r', z1, z2, z3, z4, z5, z6⟩ := hf2.also hX.1 k2
    have ez : entU ID (s / 8 * 8 + (ID 5 p2).toNat) = entU ID (s / 8 * 8 + (K 5 p2).toNat) := by rw [y5]
    refine ⟨rfl, entU ID (s / 8 * 8 + (K 5 p2).toNat), JP, ?_, fun i hi => ?_, fun k a b => ?_, p2o, ?_, Or.inl ⟨w2, _, r', hRD.jump ?_ ?_ ?_ ?_ ?_ ?_ ?_ z4 (tale_also hX.1 k2 z3 z4), by omega⟩⟩
    · rw [← ez]; subst_vars; rfl
    · unfold entU; rw [ma_ne _ _ (by omega)]; exact hoD i hi
    · unfold entU; rw [ma_self, ma_ne _ _ (by omega), ma_ne _ _ (by omega)]; exact h4D k a b
    · unfold entU; rw [ma_ne _ _ (by decide)]; exact h43D
    · unfold entU; rw [ma_self, ma_ne _ _ (by decide), ma_ne _ _ (by decide)]
    · unfold entU; rw [ma_self, ma_ne _ _ (by decide), ma_ne _ _ (by decide)]
    · unfold entU; rw [ma_self, ma_ne _ _ (by decide), ma_self]
    · unfold entU; rw [ma_self, ma_self, x7, xk]; exact z3
    · unfold entU; rw [ma_ne _ _ (by decide)]
    · unfold entU; rw [ma_ne _ _ (by decide)]
    · unfold entU; rw [ma_ne _ _ (by decide)]
/-- a reason is told -/
def Told (I : MI) (l : List Int) : Prop := ∃ n : Nat, I 44 5 = (n : Int) ∧ n ≤ 60 ∧ lsA (I 45) n = l.take 60
theorem RsA.told {K : MI} {L : MJ} {cp : Nat → Bool} {v : SV} {pe : Nat} {c : Nat → Int} {T0 : List Int} {I : MI} {n w s p : Nat} (h : RsA K L cp v pe c T0 I n w s p) (hn : n = 60) : Told I T0 := by
  obtain ⟨a1, a2, a3, a4, a5, a6, a7, a8, rest, a9, a10⟩ := h
  exact ⟨n, a1, a2, take_of a9 (lsA_len _ _) (Or.inr hn)⟩
theorem RsZ.told {T0 : List Int} {I : MI} {n : Nat} (h : RsZ T0 I n) : Told I T0 := by
  obtain ⟨a1, a2, a3, rest, a9, a10⟩ := h
  exact ⟨n, a1, a2, take_of a9 (lsA_len _ _) (by rcases a10 with a10 | a10; exact Or.inl ⟨a10, a2⟩; exact Or.inr (by omega))⟩
theorem l_find {N : Nat} {I : MI} {J : MJ} {K : MI} {L : MJ} {cp : Nat → Bool} {v : SV} {pe : Nat} {c : Nat → Int} {T0 : List Int} (hX : RMX K L cp v pe c I J) {w1 w2 w3 : Int} : ∀ (k st n : Nat) (I' : MI) (J' : MJ), 19600 ≤ k + st → (∀ i, (i < 43 ∨ 47 < i) → I' i = I i) → (∀ k, 6 ≤ k → k ≤ 8 → I' 44 k = I 44 k) → (∀ i, i ≠ 40 → J' i = J i) → (∀ q, q < 64 → I' 43 q = I' 43 q) → ((∃ w s p, RsA K L cp v pe c T0 I' n w s p ∧ st + pr K cp v c pe s p ≤ n * 321 + 320) ∨ (RsZ T0 I' n ∧ st ≤ 19260)) → V 35 (36, [some (aR 44), some (aI w1), some (aI w2), some (aI w3), some (aI (st : Int))], [], MM N I' J') (fun rv M' => rv = none ∧ ∃ I' J', M' = MM N I' J' ∧ (∀ i, (i < 43 ∨ 47 < i) → I' i = I i) ∧ (∀ k, 6 ≤ k → k ≤ 8 → I' 44 k = I 44 k) ∧ (∀ i, i ≠ 40 → J' i = J i) ∧ (∀ q, q < 64 → I' 43 q = I' 43 q) ∧ Told I' T0) := by
  intro k
  induction k with
  | zero =>
    intro st n I' J' h1 h2 h3 h4 h5 h6
    exfalso
    rcases h6 with ⟨w, s, p, hR, hst⟩ | ⟨hZ, hst⟩
    · have := hR.2.1
      have := hR.2.2.2.2.2.2.1.in_ hX.1
      omega
    · omega
  | succ k ih =>
    intro st n I' J' h1 ho h44 hj h43 h6
    have hX2 : RMX K L cp v pe c I' J' := hX.step (fun i hi => ho i (by omega)) hj h43
    have e5 : I' 44 5 = (n : Int) := by rcases h6 with ⟨w, s, p, hR, hst⟩ | ⟨hZ, hst⟩; exact hR.1; exact hZ.1
    refine V.blk [(36, .iload 4, 2), (38, .bipush 19260, 3), (41, .if_icmp .ge 71, 3)] (ps := []) (z' := (brc .ge (st : Int) 19260 71 44, [some (aR 44), some (aI w1), some (aI w2), some (aI w3), some (aI (st : Int))], [], MM N I' J')) (by decide +kernel) rfl trivial ?_
    refine V.ge (fun bh1 => ?_) (fun bh2 => ?_)
    · skip
      try simp only [b2_cast, b2_ncast, Classical.not_not, lcm_lt, lcm_ge, lcm_gt, lcm_le, lcm_eq, b2_0, b2_n0, b2_e1, b2_e0, Bool.not_eq_false, Bool.not_eq_true, decide_eq_true_eq, decide_eq_false_iff_not, Classical.not_not] at bh1
      refine V.rv (by decide +kernel) ?_
      refine ⟨rfl, I', J', rfl, ho, h44, hj, h43, ?_⟩
      rcases h6 with ⟨w, s, p, hR, hst⟩ | ⟨hZ, hst⟩
      · have hin := hR.2.2.2.2.2.2.1.in_ hX.1
        have h13 := hR.2.2.2.2.2.1
        have hn60 := hR.2.1
        exact hR.told (by omega)
      · exact hZ.told
    · skip
      try simp only [b2_cast, b2_ncast, Classical.not_not, lcm_lt, lcm_ge, lcm_gt, lcm_le, lcm_eq, b2_0, b2_n0, b2_e1, b2_e0, Bool.not_eq_false, Bool.not_eq_true, decide_eq_true_eq, decide_eq_false_iff_not, Classical.not_not] at bh2
      refine V.blk [(44, .aload 0, 1), (45, .getfield 4005, 3), (48, .bipush 60, 2), (50, .if_icmp .ge 71, 3)] (ps := []) (z' := (brc .ge (I' 44 5) 60 71 53, [some (aR 44), some (aI w1), some (aI w2), some (aI w3), some (aI (st : Int))], [], MM N I' J')) (by decide +kernel) rfl trivial ?_
      refine V.ge (fun bh3 => ?_) (fun bh4 => ?_)
      · skip
        try simp only [b2_cast, b2_ncast, Classical.not_not, lcm_lt, lcm_ge, lcm_gt, lcm_le, lcm_eq, b2_0, b2_n0, b2_e1, b2_e0, Bool.not_eq_false, Bool.not_eq_true, decide_eq_true_eq, decide_eq_false_iff_not, Classical.not_not] at bh3
        refine V.rv (by decide +kernel) ?_
        refine ⟨rfl, I', J', rfl, ho, h44, hj, h43, ?_⟩
        rcases h6 with ⟨w, s, p, hR, hst⟩ | ⟨hZ, hst⟩
        · have hin := hR.2.2.2.2.2.2.1.in_ hX.1
          have h13 := hR.2.2.2.2.2.1
          have hn60 := hR.2.1
          exact hR.told (by omega)
        · exact hZ.told
      · skip
        try simp only [b2_cast, b2_ncast, Classical.not_not, lcm_lt, lcm_ge, lcm_gt, lcm_le, lcm_eq, b2_0, b2_n0, b2_e1, b2_e0, Bool.not_eq_false, Bool.not_eq_true, decide_eq_true_eq, decide_eq_false_iff_not, Classical.not_not] at bh4
        refine V.blk [(53, .aload 0, 1), (54, .getfield 4013, 3), (57, .bipush (-1), 1), (58, .if_icmp .eq 71, 3)] (ps := []) (z' := (brc .eq (I' 44 13) (-1) 71 61, [some (aR 44), some (aI w1), some (aI w2), some (aI w3), some (aI (st : Int))], [], MM N I' J')) (by decide +kernel) rfl trivial ?_
        refine V.eq (fun bh5 => ?_) (fun bh6 => ?_)
        · skip
          try simp only [b2_cast, b2_ncast, Classical.not_not, lcm_lt, lcm_ge, lcm_gt, lcm_le, lcm_eq, b2_0, b2_n0, b2_e1, b2_e0, Bool.not_eq_false, Bool.not_eq_true, decide_eq_true_eq, decide_eq_false_iff_not, Classical.not_not] at bh5
          refine V.rv (by decide +kernel) ?_
          refine ⟨rfl, I', J', rfl, ho, h44, hj, h43, ?_⟩
          rcases h6 with ⟨w, s, p, hR, hst⟩ | ⟨hZ, hst⟩
          · have hin := hR.2.2.2.2.2.2.1.in_ hX.1
            have h13 := hR.2.2.2.2.2.1
            have hn60 := hR.2.1
            exact hR.told (by omega)
          · exact hZ.told
        · skip
          try simp only [b2_cast, b2_ncast, Classical.not_not, lcm_lt, lcm_ge, lcm_gt, lcm_le, lcm_eq, b2_0, b2_n0, b2_e1, b2_e0, Bool.not_eq_false, Bool.not_eq_true, decide_eq_true_eq, decide_eq_false_iff_not, Classical.not_not] at bh6
          obtain ⟨w, s, p, hR, hst⟩ : ∃ w s p, RsA K L cp v pe c T0 I' n w s p ∧ st + pr K cp v c pe s p ≤ n * 321 + 320 := by
            rcases h6 with h6 | ⟨hZ, hst⟩
            · exact h6
            · exact absurd hZ.2.2.1 (by omega)
          have hin := hR.2.2.2.2.2.2.1.in_ hX.1
          refine V.blk [(61, .aload 0, 1)] (ps := []) (z' := (62, [some (aR 44), some (aI w1), some (aI w2), some (aI w3), some (aI (st : Int))], [aR 44], MM N I' J')) (by decide +kernel) rfl trivial ?_
          refine V.cv (c := 37) (na := 1) (o := 4) (a := 44) [] [] (by decide +kernel) rfl rfl rfl rfl rfl ((c_follow hX2 hR (by omega)).mono (fun rv M1 q => ?_))
          obtain ⟨rfl, IF, JF, rfl, f1, f2, f3, f4, f5⟩ := q
          show V 35 (65, [some (aR 44), some (aI w1), some (aI w2), some (aI w3), some (aI (st : Int))], [], MM N IF JF) _
          refine V.blk [(65, .iinc 4 1, 3), (68, .goto 36, 3)] (ps := [inR ((st : Int) + 1)]) (z' := (36, [some (aR 44), some (aI w1), some (aI w2), some (aI w3), some (aI ((st + 1 : Nat) : Int))], [], MM N IF JF)) (by decide +kernel) rfl (show (inR ((st : Int) + 1)) from (by unfold inR; omega)) ?_
          have go : ∀ i, (i < 43 ∨ 47 < i) → IF i = I i := fun i hi => (f1 i hi).trans (ho i hi)
          have g4 : ∀ k, 6 ≤ k → k ≤ 8 → IF 44 k = I 44 k := fun k a b => (f2 k a b).trans (h44 k a b)
          have gj : ∀ i, i ≠ 40 → JF i = J i := fun i a => (f3 i a).trans (hj i a)
          rcases f5 with ⟨w', s', p', hN, hl⟩ | hN | ⟨w', s', p', hN⟩
          · exact ih (st + 1) n IF JF (by omega) go g4 gj f4 (Or.inl ⟨w', s', p', hN, by omega⟩)
          · exact ih (st + 1) (n + 1) IF JF (by omega) go g4 gj f4 (Or.inr ⟨hN, by omega⟩)
          · have hin2 := hN.2.2.2.2.2.2.1.2.2.2
            exact ih (st + 1) (n + 1) IF JF (by omega) go g4 gj f4 (Or.inl ⟨w', s', p', hN, by omega⟩)
theorem c_find {N : Nat} {I : MI} {J : MJ} {K : MI} {L : MJ} {cp : Nat → Bool} {v : SV} {pe : Nat} {c : Nat → Int} {s r : Nat} {pz t : Int} (hX : RMX K L cp v pe c I J) (hs : s < 320) (hc : c s < 1000000) (er : K 7 (kS K s) = (r : Int)) : CT 35 [aR 44, aI (s : Int), aI pz, aI t] (MM N I J) (fun rv M' => rv = none ∧ ∃ I' J', M' = MM N I' J' ∧ (∀ i, (i < 43 ∨ 47 < i) → I' i = I i) ∧ I' 44 6 = (s : Int) ∧ I' 44 7 = pz ∧ I' 44 8 = t ∧ (∀ i, i ≠ 40 → J' i = J i) ∧ Told I' (tale K cp v pe c s r)) := by
  have hkd : kdOK I := hX.2.1.1
  refine CT.ofV (n := 5) (ls := [some (aR 44), some (aI (s : Int)), some (aI pz), some (aI t), none]) rfl rfl rfl ?_
  refine V.blk [(0, .aload 0, 1), (1, .iload 1, 1), (2, .putfield 4006, 3), (5, .aload 0, 1), (6, .iload 2, 1), (7, .putfield 4007, 3), (10, .aload 0, 1), (11, .iload 3, 1), (12, .putfield 4008, 3), (15, .aload 0, 1), (16, .bipush 0, 1), (17, .putfield 4005, 3), (20, .aload 0, 1), (21, .bipush 0, 1), (22, .putfield 4011, 3), (25, .aload 0, 1), (26, .aload 0, 1)] (ps := []) (z' := (27, [some (aR 44), some (aI (s : Int)), some (aI pz), some (aI t), none], [aR 44, aR 44], MM N (ma (ma (ma (ma (ma I 44 (ma (I 44) 6 (s : Int))) 44 (ma ((ma I 44 (ma (I 44) 6 (s : Int))) 44) 7 pz)) 44 (ma ((ma (ma I 44 (ma (I 44) 6 (s : Int))) 44 (ma ((ma I 44 (ma (I 44) 6 (s : Int))) 44) 7 pz)) 44) 8 t)) 44 (ma ((ma (ma (ma I 44 (ma (I 44) 6 (s : Int))) 44 (ma ((ma I 44 (ma (I 44) 6 (s : Int))) 44) 7 pz)) 44 (ma ((ma (ma I 44 (ma (I 44) 6 (s : Int))) 44 (ma ((ma I 44 (ma (I 44) 6 (s : Int))) 44) 7 pz)) 44) 8 t)) 44) 5 0)) 44 (ma ((ma (ma (ma (ma I 44 (ma (I 44) 6 (s : Int))) 44 (ma ((ma I 44 (ma (I 44) 6 (s : Int))) 44) 7 pz)) 44 (ma ((ma (ma I 44 (ma (I 44) 6 (s : Int))) 44 (ma ((ma I 44 (ma (I 44) 6 (s : Int))) 44) 7 pz)) 44) 8 t)) 44 (ma ((ma (ma (ma I 44 (ma (I 44) 6 (s : Int))) 44 (ma ((ma I 44 (ma (I 44) 6 (s : Int))) 44) 7 pz)) 44 (ma ((ma (ma I 44 (ma (I 44) 6 (s : Int))) 44 (ma ((ma I 44 (ma (I 44) 6 (s : Int))) 44) 7 pz)) 44) 8 t)) 44) 5 0)) 44) 11 0)) J)) (by decide +kernel) rfl trivial ?_
  refine V.nI (fun I1 eI1 => ?_)
  have u6 : I1 44 6 = (s : Int) := by rw [eI1]; simp [ma_self, ma_ne]
  have u7 : I1 44 7 = pz := by rw [eI1]; simp [ma_self, ma_ne]
  have u8 : I1 44 8 = t := by rw [eI1]; simp [ma_self, ma_ne]
  have u5 : I1 44 5 = 0 := by rw [eI1]; simp [ma_self, ma_ne]
  have u11 : I1 44 11 = 0 := by rw [eI1]; simp [ma_self, ma_ne]
  have uo : ∀ i, i ≠ 44 → I1 i = I i := fun i a => by rw [eI1]; simp [ma_ne, a]
  clear eI1
  have uX : RMX K L cp v pe c I1 J := hX.step (fun i hi => uo i (by omega)) (fun _ _ => rfl) (by rw [uo 43 (by decide)]; exact hX.2.2.2.2.2.2.2.2)
  refine V.blk [(27, .getfield 4006, 3)] (ps := []) (z' := (30, [some (aR 44), some (aI (s : Int)), some (aI pz), some (aI t), none], [aI (I1 44 6), aR 44], MM N I1 J)) (by decide +kernel) rfl trivial ?_
  rw [u6]
  refine V.cv (c := 36) (na := 2) (o := 4) (a := 44) [aI (s : Int)] [] (by decide +kernel) rfl rfl rfl rfl rfl ((c_enter hs uX.2.1.1).mono (fun rv M1 q => ?_))
  obtain ⟨rfl, rfl⟩ := q
  show V 35 (33, [some (aR 44), some (aI (s : Int)), some (aI pz), some (aI t), none], [], MM N ((entU I1 s)) J) _
  refine V.blk [(33, .bipush 0, 1), (34, .istore 4, 2)] (ps := []) (z' := (36, [some (aR 44), some (aI (s : Int)), some (aI pz), some (aI t), some (aI 0)], [], MM N ((entU I1 s)) J)) (by decide +kernel) rfl trivial ?_
  refine V.nI (fun I2 eI2 => ?_)
  obtain ⟨r', z1, z2, z3, z4⟩ := hX.1.root hs hc
  have err : r' = r := by omega
  subst err
  have hin := z4.in_ hX.1
  have uk := uX.k
  have hRs : RsA K L cp v pe c (tale K cp v pe c s r') (entU I1 s) 0 0 s r' := by
    unfold entU
    refine ⟨?_, by omega, ?_, by omega, ?_, ?_, z4, fun i hi => by omega, [], ?_, Or.inl rfl⟩
    · rw [ma_self, ma_ne _ _ (by decide), ma_ne _ _ (by decide)]; exact u5
    · rw [ma_self, ma_ne _ _ (by decide), ma_ne _ _ (by decide)]; exact u11
    · rw [ma_self, ma_ne _ _ (by decide), ma_self]
    · rw [ma_self, ma_self, uk.2.2.2.1, uk.2.2.2.2.2.2.2.1]; exact z2
    · simp [lsA, flW]
  have eX : RMX K L cp v pe c (entU I1 s) J := uX.step (fun i hi => by unfold entU; exact ma_ne _ _ (by omega)) (fun _ _ => rfl) (by unfold entU; rw [ma_ne _ _ (by decide)]; exact uX.2.2.2.2.2.2.2.2)
  subst_vars
  refine (l_find (N := N) eX 19600 0 0 _ J (by omega) (fun _ _ => rfl) (fun _ _ _ => rfl) (fun _ _ => rfl) eX.2.2.2.2.2.2.2.2 (Or.inl ⟨0, s, r', hRs, by omega⟩)).mono (fun rv M2 q => ?_)
  obtain ⟨rfl, I9, J9, rfl, g1, g2, g3, g4, g5⟩ := q
  refine ⟨rfl, I9, J9, rfl, fun i hi => ?_, ?_, ?_, ?_, g3, g5⟩
  · rw [g1 i hi]; unfold entU; rw [ma_ne _ _ (by omega)]; exact uo i (by omega)
  · rw [g2 6 (by decide) (by decide)]; unfold entU; rw [ma_self, ma_ne _ _ (by decide), ma_ne _ _ (by decide)]; exact u6
  · rw [g2 7 (by decide) (by decide)]; unfold entU; rw [ma_self, ma_ne _ _ (by decide), ma_ne _ _ (by decide)]
  · rw [g2 8 (by decide) (by decide)]; unfold entU; rw [ma_self, ma_ne _ _ (by decide), ma_ne _ _ (by decide)]
