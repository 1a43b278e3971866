/-! ===== the reference: would ===== -/
theorem RO.opened {K : MI} {L : MJ} {I : MI} (hX : WX K L) (h : RA (closeU (finU K)) I) : RO K (finU K) I := by
  obtain ⟨h1, h2, h3, ⟨l1, l2, l3, l4⟩, -⟩ := h
  obtain ⟨v, v13, vk, v21⟩ := closeU_v (finU K)
  have f13 : finU K 10 13 = K 10 13 := runU_10 K (by decide) (by decide) _
  have f21 : finU K 21 = K 21 := runU_ne K (by omega) _
  have hch : finU K 10 11 = K 10 11 + (K 22 4).toNat := runU_ch K _
  have v9 := vk 9 (by decide)
  have v11 := vk 11 (by decide)
  have hl0 := hX.2.2.1.2.2.1
  have hupn := hX.2.2.1.2.2.2.2.2.2.2.2.1
  refine ⟨?_, by rw [l2, v13, f13], by rw [l1, v11], fun c hc => ?_, fun c hc => ?_, fun c t hc ht => ?_⟩
  · unfold RPr at h3 ⊢
    rw [v9, v 11 (by decide) (by decide), v 12 (by decide) (by decide), v 13 (by decide) (by decide), v 14 (by decide) (by decide), v 15 (by decide) (by decide), v 16 (by decide) (by decide)] at h3
    exact h3
  · have := l3 c (by rw [v11]; exact hc)
    rw [v 20 (by decide) (by decide)] at this
    exact this
  · have a := l4 c (K 10 13 + 1).toNat (by rw [v11]; exact hc) (by rw [v13, f13]; omega)
    rw [v21, f13, ma_self] at a
    have b := l4 c (K 10 13).toNat (by rw [v11]; exact hc) (by rw [v13, f13]; omega)
    rw [v21, f13, ma_ne _ _ (by omega), f21, hupn] at b
    have := a.mp hc
    exact ⟨fun w => by omega, fun w => by have := b.mp w; omega⟩
  · have b := l4 c t (by rw [v11]; omega) (by rw [v13, f13]; omega)
    rw [v21, f13, ma_ne _ _ (by omega), f21] at b
    exact b
theorem RO.frame {K P I I' : MI} (h : RO K P I) (e : ∀ i, 52 ≤ i → i ≤ 77 → I' i = I i) : RO K P I' := by
  unfold RO RPr at h ⊢
  rw [e 52 (by decide) (by decide), e 59 (by decide) (by decide), e 60 (by decide) (by decide), e 61 (by decide) (by decide), e 62 (by decide) (by decide), e 63 (by decide) (by decide), e 64 (by decide) (by decide), e 65 (by decide) (by decide), e 66 (by decide) (by decide), e 67 (by decide) (by decide)]
  exact h
theorem PO.base {U : MI} {L : MJ} {I I1 I' : MI} {J' : MJ} (h : PO U L I1 I' J') (e : I1 52 40 = I 52 40) : PO U L I I' J' := by
  unfold PO at h ⊢
  rw [e] at h
  exact h
theorem m_X10_would {N : Nat} {I : MI} {J : MJ} {K : MI} {L : MJ} {th rl op : Int} (hX : WX K L) (hA : RA K I) (hr : RfM I) (hV : Vok I) (hC : CA K L I J) : CT 190 [aR 52, aI th, aI rl, aI op] (MM N I J) (fun r M' => ∃ a U I' J', r = some a ∧ M' = MM N I' J' ∧ WouldR K L th rl op a U ∧ PO U L I I' J') := by
  have h40 := hX.prOK.1
  have g1 : I 52 1 = K 1 1 := hA.1.1
  have g18 : I 52 18 = K 10 13 := hA.2.2.2.1.2.1
  have hl0 := hX.2.2.1.2.2.1
  refine CT.ofV (n := 9) (ls := [some (aR 52), some (aI th), some (aI rl), some (aI op), none, none, none, none, none]) rfl rfl rfl ?_
  refine V.blk [(0, .aload 0, 1), (1, .iload 1, 1), (2, .iload 2, 1)] (ps := []) (z' := (3, [some (aR 52), some (aI th), some (aI rl), some (aI op), none, none, none, none, none], [aI rl, aI th, aR 52], MM N I J)) (by decide +kernel) rfl trivial ?_
  refine V.cv (c := 172) (na := 3) (o := 10) (a := 52) [aI rl, aI th] [] (by decide +kernel) rfl rfl rfl rfl rfl (V.pr (m_X10_isCell) ?_)
  show V 190 (6, [some (aR 52), some (aI th), some (aI rl), some (aI op), none, none, none, none, none], [aI (b2 (decide (0 ≤ th ∧ th < I 52 1 ∧ 0 ≤ rl ∧ rl < 8)))], MM N I J) _
  refine V.blk [(6, .ifCond .ne 19, 3)] (ps := []) (z' := (brc .ne (b2 (decide (0 ≤ th ∧ th < I 52 1 ∧ 0 ≤ rl ∧ rl < 8))) 0 19 9, [some (aR 52), some (aI th), some (aI rl), some (aI op), none, none, none, none, none], [], MM N I J)) (by decide +kernel) rfl trivial ?_
  refine V.ne (fun bh1 => ?_) (fun bh2 => ?_)
  · skip
    try simp only [b2_cast, b2_ncast, Classical.not_not, lcm_lt, lcm_ge, lcm_gt, lcm_le, lcm_eq, b2_0, b2_n0, Bool.not_eq_false, Bool.not_eq_true, decide_eq_true_eq, decide_eq_false_iff_not] at bh1
    refine V.blk [(19, .aload 0, 1), (20, .aload 0, 1), (21, .getfield 10018, 3)] (ps := []) (z' := (24, [some (aR 52), some (aI th), some (aI rl), some (aI op), none, none, none, none, none], [aI (I 52 18), aR 52], MM N I J)) (by decide +kernel) rfl trivial ?_
    refine V.cv (c := 171) (na := 2) (o := 10) (a := 52) [aI (I 52 18)] [] (by decide +kernel) rfl rfl rfl rfl rfl ((m_look hX hA hV hC).mono (fun rv M1 q => ?_))
    obtain ⟨rfl, IL, JL, rfl, hL⟩ := q
    have hVL := hL.vok hV
    have hAL := hL.ra hA
    have hCL := hL.ca
    have eL40 := hL.2.1 40 (by decide) (by decide)
    have hrL : RfM IL := by unfold RfM; rw [hL.1 77 (by decide) (by decide) (by decide) (by decide) (by decide) (by decide) (by decide) (by decide)]; exact hr
    have hSL := hL.2.2.2.2.2.1
    clear hL
    show V 190 (27, [some (aR 52), some (aI th), some (aI rl), some (aI op), none, none, none, none, none], [], MM N IL JL) _
    refine V.blk [(27, .aload 0, 1), (28, .getfield 10044, 3), (31, .bipush 8, 2), (33, .iload 1, 1), (34, .imul, 1), (35, .iload 2, 1), (36, .iadd, 1), (37, .laload, 1), (38, .lstore 4, 2), (40, .aload 0, 1)] (ps := [inR (8 * th), inR ((8 * th) + rl), 0 ≤ ((8 * th) + rl) ∧ ((8 * th) + rl) < 320]) (z' := (41, [some (aR 52), some (aI th), some (aI rl), some (aI op), some (aL (JL 83 (((8 * th) + rl).toNat))), none, none, none, none], [aR 52], MM N IL JL)) (by decide +kernel) rfl (show (inR (8 * th)) ∧ (inR ((8 * th) + rl)) ∧ (0 ≤ ((8 * th) + rl) ∧ ((8 * th) + rl) < 320) from ⟨(by unfold inR; omega), (by unfold inR; omega), (by omega)⟩) ?_
    refine V.cv (c := 150) (na := 1) (o := 10) (a := 52) [] [] (by decide +kernel) rfl rfl rfl rfl rfl ((m_makes hX hAL hVL.2.2.2.2.2).mono (fun rv M1 q => ?_))
    obtain ⟨z, IM, rfl, rfl, hM, hM4, hM37, hM7, hM8⟩ := q
    have hz : z = -9 ∨ z = -8 ∨ z = -7 ∨ z = 0 := by
      rcases hM with ⟨w, -⟩ | ⟨w, -⟩ | ⟨w, -⟩ | ⟨w, -⟩ <;> omega
    have hrM : RfM IM := by
      have h77 : ∀ k, k < 8 → IM 77 (k + 2) = IL 77 (k + 2) := by
        have a := hAL.2.2.2.2.2.1.2.2
        rcases hM with ⟨-, -, w⟩ | ⟨-, -, -, -, w⟩ | ⟨-, -, -, -, w⟩ | ⟨-, -, -, -, w⟩
        · exact fun k hk => (w.2.2.2.2.2.1.2.2 k hk).trans (a k hk).symm
        · exact fun k hk => (w.2.2.2.2.2.1.2.2 k hk).trans (a k hk).symm
        · exact fun k hk => (w.2.2.2.2.2.1.2.2 k hk).trans (a k hk).symm
        · intro k hk
          rw [w.2.2.2.2.2.1.2.2 k hk, a k hk, (closeU_v _).1 51 (by decide) (by decide)]
          exact congrFun (runU_ne K (by omega) _) k
      intro k a b
      have := h77 (k - 2) (by omega)
      rw [show k - 2 + 2 = k by omega] at this
      rw [this]
      exact hrL k a b
    have b40 := hM4 40 (by decide) (by decide)
    have b41 := hM4 41 (by decide) (by decide)
    have b43 := hM4 43 (by decide) (by decide)
    have hVM : Vok IM := by
      obtain ⟨v1, v2, v3, v4, v5, v6⟩ := hVL
      exact ⟨by omega, by omega, by omega, by omega, by omega, by omega⟩
    have hCM : CA K L IM JL := hCL.same (sameS.refl K) b40 b41 (hM4 42 (by decide) (by decide)) hM7 hM8 rfl
    have eM40 : IM 52 40 = I 52 40 := b40.trans eL40
    show V 190 (44, [some (aR 52), some (aI th), some (aI rl), some (aI op), some (aL (JL 83 (((8 * th) + rl).toNat))), none, none, none, none], [aI z], MM N IM JL) _
    refine V.blk [(44, .istore 6, 2), (46, .iload 6, 2), (48, .ifCond .eq 61, 3)] (ps := []) (z' := (brc .eq z 0 61 51, [some (aR 52), some (aI th), some (aI rl), some (aI op), some (aL (JL 83 (((8 * th) + rl).toNat))), none, some (aI z), none, none], [], MM N IM JL)) (by decide +kernel) rfl trivial ?_
    refine V.eq (fun bh3 => ?_) (fun bh4 => ?_)
    · skip
      try simp only [b2_cast, b2_ncast, Classical.not_not, lcm_lt, lcm_ge, lcm_gt, lcm_le, lcm_eq, b2_0, b2_n0, Bool.not_eq_false, Bool.not_eq_true, decide_eq_true_eq, decide_eq_false_iff_not] at bh3
      have hz0 : z = 0 := by omega
      obtain ⟨hroom, hpa, hnr, hAC⟩ : roomP K ∧ perfA K = -1 ∧ ¬ ringF (finU K) L ∧ RA (closeU (finU K)) IM := by
        rcases hM with ⟨w, -⟩ | ⟨w, -⟩ | ⟨w, -⟩ | ⟨w, hr, hp, hg, hE⟩
        · exfalso; omega
        · exfalso; omega
        · exfalso; omega
        · exact ⟨hr, hp, hg, hE⟩
      have hXc := WX_close hX hroom hpa hnr
      have hf13 : finU K 10 13 = K 10 13 := runU_10 K (by decide) (by decide) _
      have hl2 := hroom.1
      have eM18 : IM 52 18 = K 10 13 + 1 := by rw [hAC.2.2.2.1.2.1, (closeU_v _).2.1, hf13]
      have hRO := RO.opened hX hAC
      have hdr := drop_of hX (by omega)
      have hpn : perfN K = (K 22 4).toNat := (perf_ok hX.2.2.2.1.1).2.2 hpa
      rw [hpn] at hdr
      obtain ⟨hO, hd1, hd2, hd3, hd4, hd5, hd6⟩ := hdr
      have hc0 : 0 ≤ K 10 11 := by omega
      refine V.blk [(61, .aload 0, 1), (62, .aload 0, 1), (63, .getfield 10018, 3)] (ps := []) (z' := (66, [some (aR 52), some (aI th), some (aI rl), some (aI op), some (aL (JL 83 (((8 * th) + rl).toNat))), none, some (aI z), none, none], [aI (IM 52 18), aR 52], MM N IM JL)) (by decide +kernel) rfl trivial ?_
      refine V.cv (c := 170) (na := 2) (o := 10) (a := 52) [aI (IM 52 18)] [] (by decide +kernel) rfl rfl rfl rfl rfl ((m_findSets hXc hAC hVM.2.2.2.2.2).mono (fun rv M1 q => ?_))
      obtain ⟨rfl, IS, JS, rfl, s1, s2, s3, s4⟩ := q
      have hROS : RO K (runU K (K 22 4).toNat) IS := hRO.frame (fun i a b => s1 i (by omega) (by omega) (by omega) (by omega) (by omega) (by omega) (by omega))
      have s52 : IS 52 = IM 52 := s1 52 (by decide) (by decide) (by decide) (by decide) (by decide) (by decide) (by decide)
      rw [eM18, b43, hVL.2.2.2.2.1, (closeU_v _).1 0 (by decide) (by decide), show finU K 0 = K 0 from runU_ne K (by omega) _] at s3
      show V 190 (69, [some (aR 52), some (aI th), some (aI rl), some (aI op), some (aL (JL 83 (((8 * th) + rl).toNat))), none, some (aI z), none, none], [], MM N IS JS) _
      refine V.blk [(69, .aload 0, 1)] (ps := []) (z' := (70, [some (aR 52), some (aI th), some (aI rl), some (aI op), some (aL (JL 83 (((8 * th) + rl).toNat))), none, some (aI z), none, none], [aR 52], MM N IS JS)) (by decide +kernel) rfl trivial ?_
      refine V.cv (c := 152) (na := 1) (o := 10) (a := 52) [] [] (by decide +kernel) rfl rfl rfl rfl rfl ((m_takesBack hd5 hd6 hc0 hROS).mono (fun rv M1 q => ?_))
      obtain ⟨rfl, IT, rfl, t1, t2, t3, t4⟩ := q
      show V 190 (73, [some (aR 52), some (aI th), some (aI rl), some (aI op), some (aL (JL 83 (((8 * th) + rl).toNat))), none, some (aI z), none, none], [], MM N IT JS) _
      refine V.blk [(73, .aload 0, 1), (74, .bipush 0, 1), (75, .putfield 10041, 3)] (ps := []) (z' := (78, [some (aR 52), some (aI th), some (aI rl), some (aI op), some (aL (JL 83 (((8 * th) + rl).toNat))), none, some (aI z), none, none], [], MM N (ma IT 52 (ma (IT 52) 41 0)) JS)) (by decide +kernel) rfl trivial ?_
      refine V.nI (fun I5 eI5 => ?_)
      refine V.blk [(78, .aload 0, 1), (79, .getfield 10044, 3), (82, .bipush 8, 2), (84, .iload 1, 1), (85, .imul, 1), (86, .iload 2, 1), (87, .iadd, 1), (88, .laload, 1), (89, .lstore 7, 2), (91, .iload 3, 1), (92, .ifCond .eq 107, 3)] (ps := [inR (8 * th), inR ((8 * th) + rl), 0 ≤ ((8 * th) + rl) ∧ ((8 * th) + rl) < 320]) (z' := (brc .eq op 0 107 95, [some (aR 52), some (aI th), some (aI rl), some (aI op), some (aL (JL 83 (((8 * th) + rl).toNat))), none, some (aI z), some (aL (JS 83 (((8 * th) + rl).toNat))), none], [], MM N I5 JS)) (by decide +kernel) rfl (show (inR (8 * th)) ∧ (inR ((8 * th) + rl)) ∧ (0 ≤ ((8 * th) + rl) ∧ ((8 * th) + rl) < 320) from ⟨(by unfold inR; omega), (by unfold inR; omega), (by omega)⟩) ?_
      refine V.eq (fun bh6 => ?_) (fun bh7 => ?_)
      · skip
        try simp only [b2_cast, b2_ncast, Classical.not_not, lcm_lt, lcm_ge, lcm_gt, lcm_le, lcm_eq, b2_0, b2_n0, Bool.not_eq_false, Bool.not_eq_true, decide_eq_true_eq, decide_eq_false_iff_not] at bh6
        refine V.blk [(107, .lload 4, 2), (109, .lload 7, 2), (111, .jsr_w (-1), 3), (114, .lxor, 1), (115, .land, 1)] (ps := []) (z' := (116, [some (aR 52), some (aI th), some (aI rl), some (aI op), some (aL (JL 83 (((8 * th) + rl).toNat))), none, some (aI z), some (aL (JS 83 (((8 * th) + rl).toNat))), none], [aL ((JL 83 (((8 * th) + rl).toNat)) &&& ((JS 83 (((8 * th) + rl).toNat)) ^^^ (Int64.ofInt (-1))))], MM N I5 JS)) (by decide +kernel) rfl trivial ?_
        refine V.rl (by decide +kernel) ?_
        have k0 : ∀ i, i ≠ 52 → I5 i = IT i := fun i a => by rw [eI5, ma_ne _ _ a]
        have k41 : I5 52 41 = 0 := by rw [eI5, ma_self, ma_self]
        have k52 : ∀ k, k ≠ 41 → I5 52 k = IT 52 k := fun k a => by rw [eI5, ma_self, ma_ne _ _ a]
        have hAT : RA K IT := hAC.turn (fun i x y w => (t1 i x y).trans (s1 i (by omega) (by omega) (by omega) (by omega) (by omega) (by omega) (by omega))) (fun k x y z u v => by rw [t2 k x y z, s52]) (fun i hi => by
          rw [(closeU_v _).1 i (by omega) (by omega)]
          exact (runU_ne K (by omega) _).symm) t3 t4
        obtain ⟨v1, v2, v3, v4, v5, v6⟩ := hVM
        have u40 : I5 52 40 = I 52 40 := by rw [k52 40 (by decide), t2 40 (by decide) (by decide) (by decide), s52, eM40]
        have hSL2 : SETS K L (cnB K (K 10 13) (K 0 11) (-1)) (vw (JL 83)) := by rw [← g18]; exact hSL
        refine ⟨_, K, I5, JS, rfl, rfl, ⟨fun w => by exfalso; omega, fun _ => ⟨fun w => absurd hroom w, fun _ => ⟨fun w => absurd hpa w, fun _ => ⟨fun w => absurd w hnr, fun _ => ⟨rfl, _, _, s3, hSL2, congrArg aL ?_⟩⟩⟩⟩⟩, ?_, ⟨?_, ?_, ?_, ?_, ?_, ?_⟩, ?_⟩
        · rw [vw_lt (by omega), vw_lt (by omega), show th * 8 + rl = 8 * th + rl by omega]
          first
            | rw [if_pos (by omega)]
            | rw [if_neg (by omega)]
        · exact hAT.keep (fun i a b => k0 i (by omega)) (fun k _ _ _ a _ _ _ => k52 k a)
        · rw [k52 37 (by decide), t2 37 (by decide) (by decide) (by decide), s52]; exact v6
        · rw [k52 43 (by decide), t2 43 (by decide) (by decide) (by decide), s52]; exact v5
        · rw [k41]; exact Int.le_refl _
        · rw [k41, u40]; omega
        · rw [u40]; exact Int.le_refl _
        · rw [u40]; omega
        · intro w
          rw [k41, u40] at w
          omega
      · skip
        try simp only [b2_cast, b2_ncast, Classical.not_not, lcm_lt, lcm_ge, lcm_gt, lcm_le, lcm_eq, b2_0, b2_n0, Bool.not_eq_false, Bool.not_eq_true, decide_eq_true_eq, decide_eq_false_iff_not] at bh7
        refine V.blk [(95, .lload 7, 2), (97, .lload 4, 2), (99, .jsr_w (-1), 3), (102, .lxor, 1), (103, .land, 1), (104, .goto 116, 3)] (ps := []) (z' := (116, [some (aR 52), some (aI th), some (aI rl), some (aI op), some (aL (JL 83 (((8 * th) + rl).toNat))), none, some (aI z), some (aL (JS 83 (((8 * th) + rl).toNat))), none], [aL ((JS 83 (((8 * th) + rl).toNat)) &&& ((JL 83 (((8 * th) + rl).toNat)) ^^^ (Int64.ofInt (-1))))], MM N I5 JS)) (by decide +kernel) rfl trivial ?_
        refine V.rl (by decide +kernel) ?_
        have k0 : ∀ i, i ≠ 52 → I5 i = IT i := fun i a => by rw [eI5, ma_ne _ _ a]
        have k41 : I5 52 41 = 0 := by rw [eI5, ma_self, ma_self]
        have k52 : ∀ k, k ≠ 41 → I5 52 k = IT 52 k := fun k a => by rw [eI5, ma_self, ma_ne _ _ a]
        have hAT : RA K IT := hAC.turn (fun i x y w => (t1 i x y).trans (s1 i (by omega) (by omega) (by omega) (by omega) (by omega) (by omega) (by omega))) (fun k x y z u v => by rw [t2 k x y z, s52]) (fun i hi => by
          rw [(closeU_v _).1 i (by omega) (by omega)]
          exact (runU_ne K (by omega) _).symm) t3 t4
        obtain ⟨v1, v2, v3, v4, v5, v6⟩ := hVM
        have u40 : I5 52 40 = I 52 40 := by rw [k52 40 (by decide), t2 40 (by decide) (by decide) (by decide), s52, eM40]
        have hSL2 : SETS K L (cnB K (K 10 13) (K 0 11) (-1)) (vw (JL 83)) := by rw [← g18]; exact hSL
        refine ⟨_, K, I5, JS, rfl, rfl, ⟨fun w => by exfalso; omega, fun _ => ⟨fun w => absurd hroom w, fun _ => ⟨fun w => absurd hpa w, fun _ => ⟨fun w => absurd w hnr, fun _ => ⟨rfl, _, _, s3, hSL2, congrArg aL ?_⟩⟩⟩⟩⟩, ?_, ⟨?_, ?_, ?_, ?_, ?_, ?_⟩, ?_⟩
        · rw [vw_lt (by omega), vw_lt (by omega), show th * 8 + rl = 8 * th + rl by omega]
          first
            | rw [if_pos (by omega)]
            | rw [if_neg (by omega)]
        · exact hAT.keep (fun i a b => k0 i (by omega)) (fun k _ _ _ a _ _ _ => k52 k a)
        · rw [k52 37 (by decide), t2 37 (by decide) (by decide) (by decide), s52]; exact v6
        · rw [k52 43 (by decide), t2 43 (by decide) (by decide) (by decide), s52]; exact v5
        · rw [k41]; exact Int.le_refl _
        · rw [k41, u40]; omega
        · rw [u40]; exact Int.le_refl _
        · rw [u40]; omega
        · intro w
          rw [k41, u40] at w
          omega
    · skip
      try simp only [b2_cast, b2_ncast, Classical.not_not, lcm_lt, lcm_ge, lcm_gt, lcm_le, lcm_eq, b2_0, b2_n0, Bool.not_eq_false, Bool.not_eq_true, decide_eq_true_eq, decide_eq_false_iff_not] at bh4
      refine V.blk [(51, .aload 0, 1), (52, .iload 6, 2)] (ps := []) (z' := (54, [some (aR 52), some (aI th), some (aI rl), some (aI op), some (aL (JL 83 (((8 * th) + rl).toNat))), none, some (aI z), none, none], [aI z, aR 52], MM N IM JL)) (by decide +kernel) rfl trivial ?_
      refine V.cv (c := 116) (na := 2) (o := 10) (a := 52) [aI z] [] (by decide +kernel) rfl rfl rfl rfl rfl ((m_no (by assumption) (by omega)).mono (fun rv M1 q => ?_))
      obtain ⟨rfl, rfl⟩ := q
      show V 190 (57, [some (aR 52), some (aI th), some (aI rl), some (aI op), some (aL (JL 83 (((8 * th) + rl).toNat))), none, some (aI z), none, none], [aI z], MM N ((noU IM z)) JL) _
      refine V.blk [(57, .istore 7, 2), (59, .jsr_w 0, 1)] (ps := []) (z' := (60, [some (aR 52), some (aI th), some (aI rl), some (aI op), some (aL (JL 83 (((8 * th) + rl).toNat))), none, some (aI z), some (aI z), none], [aL (Int64.ofInt 0)], MM N ((noU IM z)) JL)) (by decide +kernel) rfl trivial ?_
      refine V.nI (fun I8 eI8 => ?_)
      refine V.rl (by decide +kernel) ?_
      rcases hM with ⟨w, hr, hE⟩ | ⟨w, hr, hp, h12, hE⟩ | ⟨w, hr, hp, hg, hE⟩ | ⟨w, -⟩
      · subst w
        exact ⟨_, rfU K (-9), noU IM (-9), JL, rfl, by subst_vars; rfl, ⟨fun w => by exfalso; omega, fun _ => ⟨fun _ => ⟨rfl, rfl⟩, fun w => absurd w hr⟩⟩, (PO.no hE hVM hCM (by decide)).base eM40⟩
      · subst w
        exact ⟨_, rfU K (-8), noU IM (-8), JL, rfl, by subst_vars; rfl, ⟨fun w => by exfalso; omega, fun _ => ⟨fun w => absurd hr w, fun _ => ⟨fun _ => ⟨rfl, rfl⟩, fun w => absurd w hp⟩⟩⟩, (PO.no hE hVM hCM (by decide)).base eM40⟩
      · subst w
        exact ⟨_, rfU K (-7), noU IM (-7), JL, rfl, by subst_vars; rfl, ⟨fun w => by exfalso; omega, fun _ => ⟨fun w => absurd hr w, fun _ => ⟨fun w => absurd hp w, fun _ => ⟨fun _ => ⟨rfl, rfl⟩, fun w => absurd hg w⟩⟩⟩⟩, (PO.no hE hVM hCM (by decide)).base eM40⟩
      · exfalso; omega
  · skip
    try simp only [b2_cast, b2_ncast, Classical.not_not, lcm_lt, lcm_ge, lcm_gt, lcm_le, lcm_eq, b2_0, b2_n0, Bool.not_eq_false, Bool.not_eq_true, decide_eq_true_eq, decide_eq_false_iff_not] at bh2
    refine V.blk [(9, .aload 0, 1), (10, .bipush (-3), 2)] (ps := []) (z' := (12, [some (aR 52), some (aI th), some (aI rl), some (aI op), none, none, none, none, none], [aI (-3), aR 52], MM N I J)) (by decide +kernel) rfl trivial ?_
    refine V.cv (c := 116) (na := 2) (o := 10) (a := 52) [aI (-3)] [] (by decide +kernel) rfl rfl rfl rfl rfl ((m_no (by assumption) (by omega)).mono (fun rv M1 q => ?_))
    obtain ⟨rfl, rfl⟩ := q
    show V 190 (15, [some (aR 52), some (aI th), some (aI rl), some (aI op), none, none, none, none, none], [aI (-3)], MM N ((noU I (-3))) J) _
    refine V.blk [(15, .istore 4, 2), (17, .jsr_w 0, 1)] (ps := []) (z' := (18, [some (aR 52), some (aI th), some (aI rl), some (aI op), some (aI (-3)), none, none, none, none], [aL (Int64.ofInt 0)], MM N ((noU I (-3))) J)) (by decide +kernel) rfl trivial ?_
    refine V.nI (fun I9 eI9 => ?_)
    refine V.rl (by decide +kernel) ?_
    refine ⟨_, rfU K (-3), noU I (-3), J, rfl, by subst_vars; rfl, ⟨fun _ => ⟨rfl, rfl⟩, fun w => by exfalso; omega⟩, PO.no hA hV hC (by decide)⟩
