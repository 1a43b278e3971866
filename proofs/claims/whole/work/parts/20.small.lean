/-! ===== the class: small methods that change nothing ===== -/
theorem c_X9_within {N : Nat} {I : Nat → Nat → Int} {J : Nat → Nat → Int64} {u v : Int}  : CT 103 [aI u, aI v] (MM N I J) (pure1 N I J (aI (b2 (decide (0 ≤ u ∧ u < v))))) := by
  refine CT.ofV (n := 2) (ls := [some (aI u), some (aI v)]) rfl rfl rfl ?_
  refine V.blk [(0, .iload 0, 1), (1, .ifCond .lt 13, 3)] (ps := []) (z' := (brc .lt u 0 13 4, [some (aI u), some (aI v)], [], MM N I J)) (by decide +kernel) rfl trivial ?_
  refine V.lt (fun h1 => ?_) (fun h2 => ?_)
  · skip
    refine V.blk [(13, .bipush 0, 1)] (ps := []) (z' := (14, [some (aI u), some (aI v)], [aI 0], MM N I J)) (by decide +kernel) rfl trivial ?_
    refine V.rz (by decide +kernel) (by first | exact b2_in _ | omega) ?_
    refine ⟨congrArg (fun w => some (aI w)) ?_, rfl⟩
    first | exact b2_td (by omega) | exact b2_fd (by omega)
  · skip
    refine V.blk [(4, .iload 0, 1), (5, .iload 1, 1), (6, .if_icmp .ge 13, 3)] (ps := []) (z' := (brc .ge u v 13 9, [some (aI u), some (aI v)], [], MM N I J)) (by decide +kernel) rfl trivial ?_
    refine V.ge (fun h3 => ?_) (fun h4 => ?_)
    · skip
      refine V.blk [(13, .bipush 0, 1)] (ps := []) (z' := (14, [some (aI u), some (aI v)], [aI 0], MM N I J)) (by decide +kernel) rfl trivial ?_
      refine V.rz (by decide +kernel) (by first | exact b2_in _ | omega) ?_
      refine ⟨congrArg (fun w => some (aI w)) ?_, rfl⟩
      first | exact b2_td (by omega) | exact b2_fd (by omega)
    · skip
      refine V.blk [(9, .bipush 1, 1), (10, .goto 14, 3)] (ps := []) (z' := (14, [some (aI u), some (aI v)], [aI 1], MM N I J)) (by decide +kernel) rfl trivial ?_
      refine V.rz (by decide +kernel) (by first | exact b2_in _ | omega) ?_
      refine ⟨congrArg (fun w => some (aI w)) ?_, rfl⟩
      first | exact b2_td (by omega) | exact b2_fd (by omega)
theorem c_X9_isJoin {N : Nat} {I : Nat → Nat → Int} {J : Nat → Nat → Int64} {u : Int}  : CT 106 [aI u] (MM N I J) (pure1 N I J (aI (b2 (decide (4 ≤ u ∧ u ≤ 6))))) := by
  refine CT.ofV (n := 1) (ls := [some (aI u)]) rfl rfl rfl ?_
  refine V.blk [(0, .iload 0, 1), (1, .bipush 4, 1), (2, .if_icmp .eq 16, 3)] (ps := []) (z' := (brc .eq u 4 16 5, [some (aI u)], [], MM N I J)) (by decide +kernel) rfl trivial ?_
  refine V.eq (fun h1 => ?_) (fun h2 => ?_)
  · skip
    refine V.blk [(16, .bipush 1, 1), (17, .goto 21, 3)] (ps := []) (z' := (21, [some (aI u)], [aI 1], MM N I J)) (by decide +kernel) rfl trivial ?_
    refine V.rz (by decide +kernel) (by first | exact b2_in _ | omega) ?_
    refine ⟨congrArg (fun w => some (aI w)) ?_, rfl⟩
    first | exact b2_td (by omega) | exact b2_fd (by omega)
  · skip
    refine V.blk [(5, .iload 0, 1), (6, .bipush 5, 1), (7, .if_icmp .eq 16, 3)] (ps := []) (z' := (brc .eq u 5 16 10, [some (aI u)], [], MM N I J)) (by decide +kernel) rfl trivial ?_
    refine V.eq (fun h3 => ?_) (fun h4 => ?_)
    · skip
      refine V.blk [(16, .bipush 1, 1), (17, .goto 21, 3)] (ps := []) (z' := (21, [some (aI u)], [aI 1], MM N I J)) (by decide +kernel) rfl trivial ?_
      refine V.rz (by decide +kernel) (by first | exact b2_in _ | omega) ?_
      refine ⟨congrArg (fun w => some (aI w)) ?_, rfl⟩
      first | exact b2_td (by omega) | exact b2_fd (by omega)
    · skip
      refine V.blk [(10, .iload 0, 1), (11, .bipush 6, 2), (13, .if_icmp .ne 20, 3)] (ps := []) (z' := (brc .ne u 6 20 16, [some (aI u)], [], MM N I J)) (by decide +kernel) rfl trivial ?_
      refine V.ne (fun h5 => ?_) (fun h6 => ?_)
      · skip
        refine V.blk [(20, .bipush 0, 1)] (ps := []) (z' := (21, [some (aI u)], [aI 0], MM N I J)) (by decide +kernel) rfl trivial ?_
        refine V.rz (by decide +kernel) (by first | exact b2_in _ | omega) ?_
        refine ⟨congrArg (fun w => some (aI w)) ?_, rfl⟩
        first | exact b2_td (by omega) | exact b2_fd (by omega)
      · skip
        refine V.blk [(16, .bipush 1, 1), (17, .goto 21, 3)] (ps := []) (z' := (21, [some (aI u)], [aI 1], MM N I J)) (by decide +kernel) rfl trivial ?_
        refine V.rz (by decide +kernel) (by first | exact b2_in _ | omega) ?_
        refine ⟨congrArg (fun w => some (aI w)) ?_, rfl⟩
        first | exact b2_td (by omega) | exact b2_fd (by omega)
theorem c_X9_isClub {N : Nat} {I : Nat → Nat → Int} {J : Nat → Nat → Int64} {u : Int}  : CT 111 [aI u] (MM N I J) (pure1 N I J (aI (b2 (decide (1000 ≤ u))))) := by
  refine CT.ofV (n := 1) (ls := [some (aI u)]) rfl rfl rfl ?_
  refine V.blk [(0, .iload 0, 1), (1, .bipush 1000, 3), (4, .if_icmp .lt 11, 3)] (ps := []) (z' := (brc .lt u 1000 11 7, [some (aI u)], [], MM N I J)) (by decide +kernel) rfl trivial ?_
  refine V.lt (fun h1 => ?_) (fun h2 => ?_)
  · skip
    refine V.blk [(11, .bipush 0, 1)] (ps := []) (z' := (12, [some (aI u)], [aI 0], MM N I J)) (by decide +kernel) rfl trivial ?_
    refine V.rz (by decide +kernel) (by first | exact b2_in _ | omega) ?_
    refine ⟨congrArg (fun w => some (aI w)) ?_, rfl⟩
    first | exact b2_td (by omega) | exact b2_fd (by omega)
  · skip
    refine V.blk [(7, .bipush 1, 1), (8, .goto 12, 3)] (ps := []) (z' := (12, [some (aI u)], [aI 1], MM N I J)) (by decide +kernel) rfl trivial ?_
    refine V.rz (by decide +kernel) (by first | exact b2_in _ | omega) ?_
    refine ⟨congrArg (fun w => some (aI w)) ?_, rfl⟩
    first | exact b2_td (by omega) | exact b2_fd (by omega)
theorem c_X9_isThingUser {N : Nat} {I : Nat → Nat → Int} {J : Nat → Nat → Int64} {u : Int}  : CT 110 [aI u] (MM N I J) (pure1 N I J (aI (b2 (decide (100 ≤ u ∧ u < 1000))))) := by
  refine CT.ofV (n := 1) (ls := [some (aI u)]) rfl rfl rfl ?_
  refine V.blk [(0, .iload 0, 1), (1, .bipush 100, 2), (3, .if_icmp .lt 17, 3)] (ps := []) (z' := (brc .lt u 100 17 6, [some (aI u)], [], MM N I J)) (by decide +kernel) rfl trivial ?_
  refine V.lt (fun h1 => ?_) (fun h2 => ?_)
  · skip
    refine V.blk [(17, .bipush 0, 1)] (ps := []) (z' := (18, [some (aI u)], [aI 0], MM N I J)) (by decide +kernel) rfl trivial ?_
    refine V.rz (by decide +kernel) (by first | exact b2_in _ | omega) ?_
    refine ⟨congrArg (fun w => some (aI w)) ?_, rfl⟩
    first | exact b2_td (by omega) | exact b2_fd (by omega)
  · skip
    refine V.blk [(6, .iload 0, 1), (7, .bipush 1000, 3), (10, .if_icmp .ge 17, 3)] (ps := []) (z' := (brc .ge u 1000 17 13, [some (aI u)], [], MM N I J)) (by decide +kernel) rfl trivial ?_
    refine V.ge (fun h3 => ?_) (fun h4 => ?_)
    · skip
      refine V.blk [(17, .bipush 0, 1)] (ps := []) (z' := (18, [some (aI u)], [aI 0], MM N I J)) (by decide +kernel) rfl trivial ?_
      refine V.rz (by decide +kernel) (by first | exact b2_in _ | omega) ?_
      refine ⟨congrArg (fun w => some (aI w)) ?_, rfl⟩
      first | exact b2_td (by omega) | exact b2_fd (by omega)
    · skip
      refine V.blk [(13, .bipush 1, 1), (14, .goto 18, 3)] (ps := []) (z' := (18, [some (aI u)], [aI 1], MM N I J)) (by decide +kernel) rfl trivial ?_
      refine V.rz (by decide +kernel) (by first | exact b2_in _ | omega) ?_
      refine ⟨congrArg (fun w => some (aI w)) ?_, rfl⟩
      first | exact b2_td (by omega) | exact b2_fd (by omega)
theorem c_X9_clubThing {N : Nat} {I : Nat → Nat → Int} {J : Nat → Nat → Int64} {u : Int} (h : 1000 ≤ u ∧ u ≤ 2147483647) : CT 112 [aI u] (MM N I J) (pure1 N I J (aI ((u - 1000) / 10))) := by
  refine CT.ofV (n := 1) (ls := [some (aI u)]) rfl rfl rfl ?_
  refine V.blk [(0, .iload 0, 1), (1, .bipush 1000, 3), (4, .isub, 1), (5, .bipush 10, 2), (7, .idiv, 1)] (ps := [inR (u - 1000), 0 ≤ (u - 1000) ∧ 0 < 10]) (z' := (8, [some (aI u)], [aI ((u - 1000) / 10)], MM N I J)) (by decide +kernel) rfl (show (inR (u - 1000)) ∧ (0 ≤ (u - 1000) ∧ 0 < 10) from ⟨(by unfold inR; omega), (by omega)⟩) ?_
  refine V.ri (by decide +kernel) ?_
  exact ⟨rfl, rfl⟩
theorem c_X9_clubRelation {N : Nat} {I : Nat → Nat → Int} {J : Nat → Nat → Int64} {u : Int} (h : 1000 ≤ u ∧ u ≤ 2147483647) : CT 113 [aI u] (MM N I J) (pure1 N I J (aI ((u - 1000) % 10))) := by
  refine CT.ofV (n := 1) (ls := [some (aI u)]) rfl rfl rfl ?_
  refine V.blk [(0, .iload 0, 1), (1, .bipush 1000, 3), (4, .isub, 1), (5, .bipush 10, 2), (7, .irem, 1)] (ps := [inR (u - 1000), 0 ≤ (u - 1000) ∧ 0 < 10]) (z' := (8, [some (aI u)], [aI ((u - 1000) % 10)], MM N I J)) (by decide +kernel) rfl (show (inR (u - 1000)) ∧ (0 ≤ (u - 1000) ∧ 0 < 10) from ⟨(by unfold inR; omega), (by omega)⟩) ?_
  refine V.ri (by decide +kernel) ?_
  exact ⟨rfl, rfl⟩
theorem c_X9_spotOf {N : Nat} {I : Nat → Nat → Int} {J : Nat → Nat → Int64} {u v : Int} (h : 0 ≤ u ∧ u ≤ 1000 ∧ 0 ≤ v ∧ v ≤ 1000) : CT 108 [aI u, aI v] (MM N I J) (pure1 N I J (aI (u * 8 + v))) := by
  refine CT.ofV (n := 2) (ls := [some (aI u), some (aI v)]) rfl rfl rfl ?_
  refine V.blk [(0, .iload 0, 1), (1, .bipush 8, 2), (3, .imul, 1), (4, .iload 1, 1), (5, .iadd, 1)] (ps := [inR (u * 8), inR ((u * 8) + v)]) (z' := (6, [some (aI u), some (aI v)], [aI ((u * 8) + v)], MM N I J)) (by decide +kernel) rfl (show (inR (u * 8)) ∧ (inR ((u * 8) + v)) from ⟨(by unfold inR; omega), (by unfold inR; omega)⟩) ?_
  refine V.ri (by decide +kernel) ?_
  exact ⟨rfl, rfl⟩
theorem c_X9_knotOf {N : Nat} {I : Nat → Nat → Int} {J : Nat → Nat → Int64} {u v : Int} (h : 0 ≤ u ∧ u ≤ 1000 ∧ 0 ≤ v ∧ v ≤ 1000) : CT 109 [aI u, aI v] (MM N I J) (pure1 N I J (aI (u * 8 + v))) := by
  refine CT.ofV (n := 2) (ls := [some (aI u), some (aI v)]) rfl rfl rfl ?_
  refine V.blk [(0, .iload 0, 1), (1, .bipush 8, 2), (3, .imul, 1), (4, .iload 1, 1), (5, .iadd, 1)] (ps := [inR (u * 8), inR ((u * 8) + v)]) (z' := (6, [some (aI u), some (aI v)], [aI ((u * 8) + v)], MM N I J)) (by decide +kernel) rfl (show (inR (u * 8)) ∧ (inR ((u * 8) + v)) from ⟨(by unfold inR; omega), (by unfold inR; omega)⟩) ?_
  refine V.ri (by decide +kernel) ?_
  exact ⟨rfl, rfl⟩
theorem c_X3_inForceAt {N : Nat} {I : Nat → Nat → Int} {J : Nat → Nat → Int64} {p : Nat} {t : Int} (hp : p < 400) : CT 25 [aR 10, aI (p : Int), aI t] (MM N I J) (pure1 N I J (aI (b2 (decide (I 15 p ≤ t ∧ (I 16 p = -1 ∨ t < I 16 p)))))) := by
  refine CT.ofV (n := 3) (ls := [some (aR 10), some (aI (p : Int)), some (aI t)]) rfl rfl rfl ?_
  refine V.blk [(0, .aload 0, 1), (1, .getfield 3004, 3), (4, .iload 1, 1), (5, .iaload, 1), (6, .iload 2, 1), (7, .if_icmp .gt 34, 3)] (ps := [0 ≤ (p : Int) ∧ (p : Int) < 400]) (z' := (brc .gt (I 15 p) t 34 10, [some (aR 10), some (aI (p : Int)), some (aI t)], [], MM N I J)) (by decide +kernel) rfl (show (0 ≤ (p : Int) ∧ (p : Int) < 400) from (by omega)) ?_
  refine V.gt (fun h1 => ?_) (fun h2 => ?_)
  · skip
    refine V.blk [(34, .bipush 0, 1)] (ps := []) (z' := (35, [some (aR 10), some (aI (p : Int)), some (aI t)], [aI 0], MM N I J)) (by decide +kernel) rfl trivial ?_
    refine V.rz (by decide +kernel) (by first | exact b2_in _ | omega) ?_
    refine ⟨congrArg (fun w => some (aI w)) ?_, rfl⟩
    first | exact b2_td (by omega) | exact b2_fd (by omega)
  · skip
    refine V.blk [(10, .aload 0, 1), (11, .getfield 3005, 3), (14, .iload 1, 1), (15, .iaload, 1), (16, .bipush (-1), 1), (17, .if_icmp .eq 30, 3)] (ps := [0 ≤ (p : Int) ∧ (p : Int) < 400]) (z' := (brc .eq (I 16 p) (-1) 30 20, [some (aR 10), some (aI (p : Int)), some (aI t)], [], MM N I J)) (by decide +kernel) rfl (show (0 ≤ (p : Int) ∧ (p : Int) < 400) from (by omega)) ?_
    refine V.eq (fun h3 => ?_) (fun h4 => ?_)
    · skip
      refine V.blk [(30, .bipush 1, 1), (31, .goto 35, 3)] (ps := []) (z' := (35, [some (aR 10), some (aI (p : Int)), some (aI t)], [aI 1], MM N I J)) (by decide +kernel) rfl trivial ?_
      refine V.rz (by decide +kernel) (by first | exact b2_in _ | omega) ?_
      refine ⟨congrArg (fun w => some (aI w)) ?_, rfl⟩
      first | exact b2_td (by omega) | exact b2_fd (by omega)
    · skip
      refine V.blk [(20, .aload 0, 1), (21, .getfield 3005, 3), (24, .iload 1, 1), (25, .iaload, 1), (26, .iload 2, 1), (27, .if_icmp .le 34, 3)] (ps := [0 ≤ (p : Int) ∧ (p : Int) < 400]) (z' := (brc .le (I 16 p) t 34 30, [some (aR 10), some (aI (p : Int)), some (aI t)], [], MM N I J)) (by decide +kernel) rfl (show (0 ≤ (p : Int) ∧ (p : Int) < 400) from (by omega)) ?_
      refine V.le (fun h5 => ?_) (fun h6 => ?_)
      · skip
        refine V.blk [(34, .bipush 0, 1)] (ps := []) (z' := (35, [some (aR 10), some (aI (p : Int)), some (aI t)], [aI 0], MM N I J)) (by decide +kernel) rfl trivial ?_
        refine V.rz (by decide +kernel) (by first | exact b2_in _ | omega) ?_
        refine ⟨congrArg (fun w => some (aI w)) ?_, rfl⟩
        first | exact b2_td (by omega) | exact b2_fd (by omega)
      · skip
        refine V.blk [(30, .bipush 1, 1), (31, .goto 35, 3)] (ps := []) (z' := (35, [some (aR 10), some (aI (p : Int)), some (aI t)], [aI 1], MM N I J)) (by decide +kernel) rfl trivial ?_
        refine V.rz (by decide +kernel) (by first | exact b2_in _ | omega) ?_
        refine ⟨congrArg (fun w => some (aI w)) ?_, rfl⟩
        first | exact b2_td (by omega) | exact b2_fd (by omega)
