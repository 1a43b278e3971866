/-! ===== the class: undo ===== -/
/-- the turn that is made, behind n changes taken back from change hi on downwards -/
def rev (I : MI) (hi : Nat) : Nat → MI
  | 0 => clrU I
  | n + 1 => actU (rev I hi n) (I 11 (I 20 (hi - 1 - n) / 2).toNat) (I 12 (I 20 (hi - 1 - n) / 2).toNat) (I 13 (I 20 (hi - 1 - n) / 2).toNat) (if I 20 (hi - 1 - n) % 2 = 1 then I 14 (I 20 (hi - 1 - n) / 2).toNat else -1)
theorem actU_ag (I : MI) (t r u e : Int) {i : Nat} (h : i < 22 ∨ 26 < i) : actU I t r u e i = I i := by
  unfold actU
  rw [ma_ne _ _ (by omega), ma_ne _ _ (by omega), ma_ne _ _ (by omega), ma_ne _ _ (by omega), ma_ne _ _ (by omega)]
theorem rev_ag (I : MI) (hi : Nat) {i : Nat} (h : i < 22 ∨ 26 < i) : ∀ n, rev I hi n i = I i
  | 0 => by unfold rev clrU; rw [ma_ne _ _ (by omega)]
  | n + 1 => by unfold rev; rw [actU_ag _ _ _ _ _ h, rev_ag I hi h n]
theorem rev_n (I : MI) (hi : Nat) : ∀ n : Nat, rev I hi n 22 4 = n ∧ rev I hi n 22 9 = 0
  | 0 => by simp [rev, clrU, ma]
  | n + 1 => by
    obtain ⟨h1, h2⟩ := rev_n I hi n
    unfold rev actU
    simp only [ma_self]
    exact ⟨by rw [h1]; rfl, by rw [ma_ne _ _ (by decide), h2]⟩
theorem l_reverse {N : Nat} {I : MI} {J : MJ} {t : Int} {lo hi : Nat} (ht : 1 ≤ t ∧ t ≤ 200) (hlo : I 21 (t - 1).toNat = lo) (h8 : hi ≤ 800) (hlh : lo ≤ hi) (h20 : hi ≤ lo + 20) (hch : ∀ c : Nat, c < hi → 0 ≤ I 20 c ∧ I 20 c / 2 < 400) : ∀ (k n : Nat) (x : Int) (I' : MI) (w4 w5 : Option AV), hi - lo + 1 ≤ k + n → n ≤ hi - lo → x = hi - 1 - n → I' = rev I hi n → V 15 (13, [some (aR 22), some (aR 10), some (aI t), some (aI x), w4, w5], [], MM N I' J) (QV N J (rev I hi (hi - lo))) := by
  intro k
  induction k with
  | zero => intro n x I' w4 w5 h1 h2; exfalso; omega
  | succ k ih =>
    intro n x I' w4 w5 h1 h2 hx hI
    have e11 : I' 11 = I 11 := by rw [hI, rev_ag _ _ (by omega)]
    have e12 : I' 12 = I 12 := by rw [hI, rev_ag _ _ (by omega)]
    have e13 : I' 13 = I 13 := by rw [hI, rev_ag _ _ (by omega)]
    have e14 : I' 14 = I 14 := by rw [hI, rev_ag _ _ (by omega)]
    have e20 : I' 20 = I 20 := by rw [hI, rev_ag _ _ (by omega)]
    have e21 : I' 21 = I 21 := by rw [hI, rev_ag _ _ (by omega)]
    have e22 : I' 22 4 = n := by rw [hI]; exact (rev_n I hi n).1
    rw [← e21] at hlo
    refine V.blk [(13, .iload 3, 1), (14, .aload 1, 1), (15, .getfield 3012, 3), (18, .iload 2, 1), (19, .bipush 1, 1), (20, .isub, 1), (21, .iaload, 1), (22, .if_icmp .lt 101, 3)] (ps := [inR (t - 1), 0 ≤ (t - 1) ∧ (t - 1) < 201]) (z' := (brc .lt x (I' 21 ((t - 1).toNat)) 101 25, [some (aR 22), some (aR 10), some (aI t), some (aI x), w4, w5], [], MM N I' J)) (by decide +kernel) rfl (show (inR (t - 1)) ∧ (0 ≤ (t - 1) ∧ (t - 1) < 201) from ⟨(by unfold inR; omega), (by omega)⟩) ?_
    refine V.lt (fun h1 => ?_) (fun h2 => ?_)
    · skip
      try simp only [b2_cast, b2_ncast, Classical.not_not] at h1
      refine V.rv (by decide +kernel) ?_
      refine ⟨rfl, congrArg (fun w => MM N w J) ?_⟩
      have e : n = hi - lo := by omega
      rw [hI, e]
    · skip
      try simp only [b2_cast, b2_ncast, Classical.not_not] at h2
      have hcx := hch x.toNat (by omega)
      rw [← e20] at hcx
      refine V.blk [(25, .aload 1, 1), (26, .getfield 3010, 3), (29, .iload 3, 1), (30, .iaload, 1), (31, .bipush 1, 1), (32, .ishr, 1), (33, .istore 4, 2), (35, .aload 1, 1), (36, .getfield 3010, 3), (39, .iload 3, 1), (40, .iaload, 1), (41, .bipush 1, 1), (42, .iand, 1), (43, .bipush 1, 1), (44, .if_icmp .ne 51, 3)] (ps := [0 ≤ x ∧ x < 800, 1 = 1, 0 ≤ x ∧ x < 800, 1 = 1 ∨ 1 = 63 ∨ 1 = 127]) (z' := (brc .ne ((I' 20 ((x).toNat)) % (1 + 1)) 1 51 47, [some (aR 22), some (aR 10), some (aI t), some (aI x), some (aI ((I' 20 ((x).toNat)) / 2)), w5], [], MM N I' J)) (by decide +kernel) rfl (show (0 ≤ x ∧ x < 800) ∧ (1 = 1) ∧ (0 ≤ x ∧ x < 800) ∧ (1 = 1 ∨ 1 = 63 ∨ 1 = 127) from ⟨(by omega), (by omega), (by omega), (by omega)⟩) ?_
      refine V.ne (fun h3 => ?_) (fun h4 => ?_)
      · skip
        try simp only [b2_cast, b2_ncast, Classical.not_not] at h3
        refine V.blk [(51, .bipush 0, 1), (52, .istore 5, 2), (54, .aload 0, 1), (55, .aload 1, 1), (56, .getfield 3000, 3), (59, .iload 4, 2), (61, .iaload, 1), (62, .aload 1, 1), (63, .getfield 3001, 3), (66, .iload 4, 2), (68, .iaload, 1), (69, .aload 1, 1), (70, .getfield 3002, 3), (73, .iload 4, 2), (75, .iaload, 1), (76, .iload 5, 2), (78, .ifCond .eq 91, 3)] (ps := [0 ≤ ((I' 20 ((x).toNat)) / 2) ∧ ((I' 20 ((x).toNat)) / 2) < 400, 0 ≤ ((I' 20 ((x).toNat)) / 2) ∧ ((I' 20 ((x).toNat)) / 2) < 400, 0 ≤ ((I' 20 ((x).toNat)) / 2) ∧ ((I' 20 ((x).toNat)) / 2) < 400]) (z' := (brc .eq 0 0 91 81, [some (aR 22), some (aR 10), some (aI t), some (aI x), some (aI ((I' 20 ((x).toNat)) / 2)), some (aI 0)], [aI (I' 13 (((I' 20 ((x).toNat)) / 2).toNat)), aI (I' 12 (((I' 20 ((x).toNat)) / 2).toNat)), aI (I' 11 (((I' 20 ((x).toNat)) / 2).toNat)), aR 22], MM N I' J)) (by decide +kernel) rfl (show (0 ≤ ((I' 20 ((x).toNat)) / 2) ∧ ((I' 20 ((x).toNat)) / 2) < 400) ∧ (0 ≤ ((I' 20 ((x).toNat)) / 2) ∧ ((I' 20 ((x).toNat)) / 2) < 400) ∧ (0 ≤ ((I' 20 ((x).toNat)) / 2) ∧ ((I' 20 ((x).toNat)) / 2) < 400) from ⟨(by omega), (by omega), (by omega)⟩) ?_
        refine V.eq (fun _ => ?_) (fun hz => absurd hz (by decide))
        refine V.blk [(91, .bipush (-1), 1)] (ps := []) (z' := (92, [some (aR 22), some (aR 10), some (aI t), some (aI x), some (aI ((I' 20 ((x).toNat)) / 2)), some (aI 0)], [aI (-1), aI (I' 13 (((I' 20 ((x).toNat)) / 2).toNat)), aI (I' 12 (((I' 20 ((x).toNat)) / 2).toNat)), aI (I' 11 (((I' 20 ((x).toNat)) / 2).toNat)), aR 22], MM N I' J)) (by decide +kernel) rfl trivial ?_
        refine V.cv (c := 10) (na := 5) (o := 1) (a := 22) [aI (-1), aI (I' 13 (((I' 20 ((x).toNat)) / 2).toNat)), aI (I' 12 (((I' 20 ((x).toNat)) / 2).toNat)), aI (I' 11 (((I' 20 ((x).toNat)) / 2).toNat))] [] (by decide +kernel) rfl rfl rfl rfl rfl ((c_addAct (by omega)).mono (fun rv M1 q => ?_))
        obtain ⟨rfl, rfl⟩ := q
        show V 15 (95, [some (aR 22), some (aR 10), some (aI t), some (aI x), some (aI ((I' 20 ((x).toNat)) / 2)), some (aI 0)], [], MM N ((actU I' (I' 11 (((I' 20 ((x).toNat)) / 2).toNat)) (I' 12 (((I' 20 ((x).toNat)) / 2).toNat)) (I' 13 (((I' 20 ((x).toNat)) / 2).toNat)) (-1))) J) _
        refine V.blk [(95, .iinc 3 (-1), 3), (98, .goto 13, 3)] (ps := [inR (x + (-1))]) (z' := (13, [some (aR 22), some (aR 10), some (aI t), some (aI (x + (-1))), some (aI ((I' 20 ((x).toNat)) / 2)), some (aI 0)], [], MM N ((actU I' (I' 11 (((I' 20 ((x).toNat)) / 2).toNat)) (I' 12 (((I' 20 ((x).toNat)) / 2).toNat)) (I' 13 (((I' 20 ((x).toNat)) / 2).toNat)) (-1))) J)) (by decide +kernel) rfl (show (inR (x + (-1))) from (by unfold inR; omega)) ?_
        refine V.nI (fun I5 eI5 => ?_)
        refine ih (n + 1) (x + (-1)) _ _ _ (by omega) (by omega) (by omega) ?_
        have ec : x.toNat = hi - 1 - n := by omega
        show _ = actU (rev I hi n) _ _ _ _
        rw [← hI, ← ec, ← e11, ← e12, ← e13, ← e14, ← e20, eI5]
        first | (rw [if_pos (by omega)]) | (rw [if_neg (by omega)])
      · skip
        try simp only [b2_cast, b2_ncast, Classical.not_not] at h4
        refine V.blk [(47, .bipush 1, 1), (48, .goto 52, 3), (52, .istore 5, 2), (54, .aload 0, 1), (55, .aload 1, 1), (56, .getfield 3000, 3), (59, .iload 4, 2), (61, .iaload, 1), (62, .aload 1, 1), (63, .getfield 3001, 3), (66, .iload 4, 2), (68, .iaload, 1), (69, .aload 1, 1), (70, .getfield 3002, 3), (73, .iload 4, 2), (75, .iaload, 1), (76, .iload 5, 2), (78, .ifCond .eq 91, 3)] (ps := [0 ≤ ((I' 20 ((x).toNat)) / 2) ∧ ((I' 20 ((x).toNat)) / 2) < 400, 0 ≤ ((I' 20 ((x).toNat)) / 2) ∧ ((I' 20 ((x).toNat)) / 2) < 400, 0 ≤ ((I' 20 ((x).toNat)) / 2) ∧ ((I' 20 ((x).toNat)) / 2) < 400]) (z' := (brc .eq 1 0 91 81, [some (aR 22), some (aR 10), some (aI t), some (aI x), some (aI ((I' 20 ((x).toNat)) / 2)), some (aI 1)], [aI (I' 13 (((I' 20 ((x).toNat)) / 2).toNat)), aI (I' 12 (((I' 20 ((x).toNat)) / 2).toNat)), aI (I' 11 (((I' 20 ((x).toNat)) / 2).toNat)), aR 22], MM N I' J)) (by decide +kernel) rfl (show (0 ≤ ((I' 20 ((x).toNat)) / 2) ∧ ((I' 20 ((x).toNat)) / 2) < 400) ∧ (0 ≤ ((I' 20 ((x).toNat)) / 2) ∧ ((I' 20 ((x).toNat)) / 2) < 400) ∧ (0 ≤ ((I' 20 ((x).toNat)) / 2) ∧ ((I' 20 ((x).toNat)) / 2) < 400) from ⟨(by omega), (by omega), (by omega)⟩) ?_
        refine V.eq (fun hz => absurd hz (by decide)) (fun _ => ?_)
        refine V.blk [(81, .aload 1, 1), (82, .getfield 3003, 3), (85, .iload 4, 2), (87, .iaload, 1), (88, .goto 92, 3)] (ps := [0 ≤ ((I' 20 ((x).toNat)) / 2) ∧ ((I' 20 ((x).toNat)) / 2) < 400]) (z' := (92, [some (aR 22), some (aR 10), some (aI t), some (aI x), some (aI ((I' 20 ((x).toNat)) / 2)), some (aI 1)], [aI (I' 14 (((I' 20 ((x).toNat)) / 2).toNat)), aI (I' 13 (((I' 20 ((x).toNat)) / 2).toNat)), aI (I' 12 (((I' 20 ((x).toNat)) / 2).toNat)), aI (I' 11 (((I' 20 ((x).toNat)) / 2).toNat)), aR 22], MM N I' J)) (by decide +kernel) rfl (show (0 ≤ ((I' 20 ((x).toNat)) / 2) ∧ ((I' 20 ((x).toNat)) / 2) < 400) from (by omega)) ?_
        refine V.cv (c := 10) (na := 5) (o := 1) (a := 22) [aI (I' 14 (((I' 20 ((x).toNat)) / 2).toNat)), aI (I' 13 (((I' 20 ((x).toNat)) / 2).toNat)), aI (I' 12 (((I' 20 ((x).toNat)) / 2).toNat)), aI (I' 11 (((I' 20 ((x).toNat)) / 2).toNat))] [] (by decide +kernel) rfl rfl rfl rfl rfl ((c_addAct (by omega)).mono (fun rv M1 q => ?_))
        obtain ⟨rfl, rfl⟩ := q
        show V 15 (95, [some (aR 22), some (aR 10), some (aI t), some (aI x), some (aI ((I' 20 ((x).toNat)) / 2)), some (aI 1)], [], MM N ((actU I' (I' 11 (((I' 20 ((x).toNat)) / 2).toNat)) (I' 12 (((I' 20 ((x).toNat)) / 2).toNat)) (I' 13 (((I' 20 ((x).toNat)) / 2).toNat)) (I' 14 (((I' 20 ((x).toNat)) / 2).toNat)))) J) _
        refine V.blk [(95, .iinc 3 (-1), 3), (98, .goto 13, 3)] (ps := [inR (x + (-1))]) (z' := (13, [some (aR 22), some (aR 10), some (aI t), some (aI (x + (-1))), some (aI ((I' 20 ((x).toNat)) / 2)), some (aI 1)], [], MM N ((actU I' (I' 11 (((I' 20 ((x).toNat)) / 2).toNat)) (I' 12 (((I' 20 ((x).toNat)) / 2).toNat)) (I' 13 (((I' 20 ((x).toNat)) / 2).toNat)) (I' 14 (((I' 20 ((x).toNat)) / 2).toNat)))) J)) (by decide +kernel) rfl (show (inR (x + (-1))) from (by unfold inR; omega)) ?_
        refine V.nI (fun I6 eI6 => ?_)
        refine ih (n + 1) (x + (-1)) _ _ _ (by omega) (by omega) (by omega) ?_
        have ec : x.toNat = hi - 1 - n := by omega
        show _ = actU (rev I hi n) _ _ _ _
        rw [← hI, ← ec, ← e11, ← e12, ← e13, ← e14, ← e20, eI6]
        first | (rw [if_pos (by omega)]) | (rw [if_neg (by omega)])
theorem c_reverse {N : Nat} {I : MI} {J : MJ} {t : Int} {lo hi : Nat} (ht : 1 ≤ t ∧ t ≤ 200) (hlo : I 21 (t - 1).toNat = lo) (hhi : I 21 t.toNat = hi) (h8 : hi ≤ 800) (hlh : lo ≤ hi) (h20 : hi ≤ lo + 20) (hch : ∀ c : Nat, c < hi → 0 ≤ I 20 c ∧ I 20 c / 2 < 400) : CT 15 [aR 22, aR 10, aI t] (MM N I J) (QV N J (rev I hi (hi - lo))) := by
  refine CT.ofV (n := 6) (ls := [some (aR 22), some (aR 10), some (aI t), none, none, none]) rfl rfl rfl ?_
  refine V.blk [(0, .aload 0, 1)] (ps := []) (z' := (1, [some (aR 22), some (aR 10), some (aI t), none, none, none], [aR 22], MM N I J)) (by decide +kernel) rfl trivial ?_
  refine V.cv (c := 9) (na := 1) (o := 1) (a := 22) [] [] (by decide +kernel) rfl rfl rfl rfl rfl ((c_clear).mono (fun rv M1 q => ?_))
  obtain ⟨rfl, rfl⟩ := q
  show V 15 (4, [some (aR 22), some (aR 10), some (aI t), none, none, none], [], MM N ((clrU I)) J) _
  have hhi2 : (clrU I) 21 t.toNat = hi := by unfold clrU; rw [ma_ne _ _ (by decide)]; exact hhi
  refine V.blk [(4, .aload 1, 1), (5, .getfield 3012, 3), (8, .iload 2, 1), (9, .iaload, 1), (10, .bipush 1, 1), (11, .isub, 1), (12, .istore 3, 1)] (ps := [0 ≤ t ∧ t < 201, inR (((clrU I) 21 ((t).toNat)) - 1)]) (z' := (13, [some (aR 22), some (aR 10), some (aI t), some (aI (((clrU I) 21 ((t).toNat)) - 1)), none, none], [], MM N ((clrU I)) J)) (by decide +kernel) rfl (show (0 ≤ t ∧ t < 201) ∧ (inR (((clrU I) 21 ((t).toNat)) - 1)) from ⟨(by omega), (by unfold inR; omega)⟩) ?_
  refine V.nI (fun I1 eI1 => ?_)
  exact l_reverse ht hlo h8 hlh h20 hch (hi - lo + 1) 0 _ _ _ _ (by omega) (by omega) (by first | omega | (rw [eI1]; omega)) (by rw [eI1]; rfl)
def undoA (I : MI) (t : Int) : Int := if 1 ≤ t ∧ t ≤ I 10 13 then I 21 t.toNat - I 21 (t - 1).toNat else -3
def undoU (I : MI) (t : Int) : MI := if 1 ≤ t ∧ t ≤ I 10 13 then rev I (I 21 t.toNat).toNat ((I 21 t.toNat).toNat - (I 21 (t - 1).toNat).toNat) else rfU I (-3)
theorem c_X9_undo {N : Nat} {I : MI} {J : MJ} {t : Int} (hr : Rf I) (hl : I 10 13 ≤ 200) (hup : ∀ t : Int, 1 ≤ t → t ≤ I 10 13 → 0 ≤ I 21 (t - 1).toNat ∧ I 21 (t - 1).toNat ≤ I 21 t.toNat ∧ I 21 t.toNat ≤ I 21 (t - 1).toNat + 20 ∧ I 21 t.toNat ≤ I 10 11) (hc8 : I 10 11 ≤ 800) (hch : ∀ c : Nat, (c : Int) < I 10 11 → 0 ≤ I 20 c ∧ I 20 c / 2 < 400) : CT 79 [aR 0, aI t] (MM N I J) (QU N J (aI (undoA I t)) (undoU I t)) := by
  refine CT.ofV (n := 2) (ls := [some (aR 0), some (aI t)]) rfl rfl rfl ?_
  refine V.blk [(0, .iload 1, 1), (1, .bipush 1, 1), (2, .if_icmp .lt 16, 3)] (ps := []) (z' := (brc .lt t 1 16 5, [some (aR 0), some (aI t)], [], MM N I J)) (by decide +kernel) rfl trivial ?_
  refine V.lt (fun h1 => ?_) (fun h2 => ?_)
  · skip
    try simp only [b2_cast, b2_ncast, Classical.not_not] at h1
    refine V.blk [(16, .aload 0, 1), (17, .bipush (-3), 2)] (ps := []) (z' := (19, [some (aR 0), some (aI t)], [aI (-3), aR 0], MM N I J)) (by decide +kernel) rfl trivial ?_
    refine V.cv (c := 98) (na := 2) (o := 9) (a := 0) [aI (-3)] [] (by decide +kernel) rfl rfl rfl rfl rfl ((c_refuse (by assumption) (by omega)).mono (fun rv M1 q => ?_))
    obtain ⟨rfl, rfl⟩ := q
    show V 79 (22, [some (aR 0), some (aI t)], [aI (-3)], MM N ((rfU I (-3))) J) _
    refine V.nI (fun I3 eI3 => ?_)
    refine V.ri (by decide +kernel) ?_
    refine ⟨congrArg (fun w => some (aI w)) ?_, congrArg (fun w => MM N w J) ?_⟩
    all_goals (first | unfold undoA | unfold undoU)
    all_goals (repeat' split)
    all_goals first | rfl | omega | (exfalso; omega) | (simp [actU, cndU, clrU, ma])
  · skip
    try simp only [b2_cast, b2_ncast, Classical.not_not] at h2
    refine V.blk [(5, .iload 1, 1), (6, .aload 0, 1), (7, .getfield 9002, 3), (10, .getfield 3013, 3), (13, .if_icmp .le 23, 3)] (ps := []) (z' := (brc .le t (I 10 13) 23 16, [some (aR 0), some (aI t)], [], MM N I J)) (by decide +kernel) rfl trivial ?_
    refine V.le (fun h4 => ?_) (fun h5 => ?_)
    · skip
      try simp only [b2_cast, b2_ncast, Classical.not_not] at h4
      have hu := hup t (by omega) (by omega)
      refine V.blk [(23, .aload 0, 1), (24, .getfield 9003, 3), (27, .aload 0, 1), (28, .getfield 9002, 3), (31, .iload 1, 1)] (ps := []) (z' := (32, [some (aR 0), some (aI t)], [aI t, aR 10, aR 22], MM N I J)) (by decide +kernel) rfl trivial ?_
      refine V.cv (c := 15) (na := 3) (o := 1) (a := 22) [aI t, aR 10] [] (by decide +kernel) rfl rfl rfl rfl rfl ((c_reverse (lo := (I 21 (t - 1).toNat).toNat) (hi := (I 21 t.toNat).toNat) (by omega) (by omega) (by omega) (by omega) (by omega) (by omega) (fun c hc => hch c (by omega))).mono (fun rv M1 q => ?_))
      obtain ⟨rfl, rfl⟩ := q
      show V 79 (35, [some (aR 0), some (aI t)], [], MM N ((rev I (I 21 t.toNat).toNat ((I 21 t.toNat).toNat - (I 21 (t - 1).toNat).toNat))) J) _
      have hn := (rev_n I (I 21 t.toNat).toNat ((I 21 t.toNat).toNat - (I 21 (t - 1).toNat).toNat)).1
      refine V.blk [(35, .aload 0, 1), (36, .getfield 9003, 3), (39, .getfield 1004, 3)] (ps := []) (z' := (42, [some (aR 0), some (aI t)], [aI (((rev I (I 21 t.toNat).toNat ((I 21 t.toNat).toNat - (I 21 (t - 1).toNat).toNat))) 22 4)], MM N ((rev I (I 21 t.toNat).toNat ((I 21 t.toNat).toNat - (I 21 (t - 1).toNat).toNat))) J)) (by decide +kernel) rfl trivial ?_
      refine V.nI (fun I6 eI6 => ?_)
      refine V.ri (by decide +kernel) ?_
      refine ⟨congrArg (fun w => some (aI w)) ?_, congrArg (fun w => MM N w J) ?_⟩
      all_goals (first | unfold undoA | unfold undoU)
      all_goals (repeat' split)
      all_goals first | rfl | omega | (exfalso; omega) | (simp [actU, cndU, clrU, ma])
    · skip
      try simp only [b2_cast, b2_ncast, Classical.not_not] at h5
      refine V.blk [(16, .aload 0, 1), (17, .bipush (-3), 2)] (ps := []) (z' := (19, [some (aR 0), some (aI t)], [aI (-3), aR 0], MM N I J)) (by decide +kernel) rfl trivial ?_
      refine V.cv (c := 98) (na := 2) (o := 9) (a := 0) [aI (-3)] [] (by decide +kernel) rfl rfl rfl rfl rfl ((c_refuse (by assumption) (by omega)).mono (fun rv M1 q => ?_))
      obtain ⟨rfl, rfl⟩ := q
      show V 79 (22, [some (aR 0), some (aI t)], [aI (-3)], MM N ((rfU I (-3))) J) _
      refine V.nI (fun I7 eI7 => ?_)
      refine V.ri (by decide +kernel) ?_
      refine ⟨congrArg (fun w => some (aI w)) ?_, congrArg (fun w => MM N w J) ?_⟩
      all_goals (first | unfold undoA | unfold undoU)
      all_goals (repeat' split)
      all_goals first | rfl | omega | (exfalso; omega) | (simp [actU, cndU, clrU, ma])
