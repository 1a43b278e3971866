/-! ===== the reference: calls that ask neither rules nor scenes ===== -/
theorem m_X10_isIn {N : Nat} {I : MI} {J : MJ} {u v w : Int} (hu : inR u) (hv : inR v) (hw : inR w) : CT 115 [aL (Int64.ofInt u), aL (Int64.ofInt v), aL (Int64.ofInt w)] (MM N I J) (pure1 N I J (aI (b2 (decide (v ≤ u ∧ u ≤ w))))) := by
  refine CT.ofV (n := 6) (ls := [some (aL (Int64.ofInt u)), none, some (aL (Int64.ofInt v)), none, some (aL (Int64.ofInt w)), none]) rfl rfl rfl ?_
  refine V.blk [(0, .lload 0, 1), (1, .lload 2, 1), (2, .lcmp, 1), (3, .ifCond .lt 17, 3)] (ps := []) (z' := (brc .lt (lcm (Int64.ofInt u) (Int64.ofInt v)) 0 17 6, [some (aL (Int64.ofInt u)), none, some (aL (Int64.ofInt v)), none, some (aL (Int64.ofInt w)), none], [], MM N I J)) (by decide +kernel) rfl trivial ?_
  refine V.lt (fun h1 => ?_) (fun h2 => ?_)
  · skip
    try simp only [b2_cast, b2_ncast, Classical.not_not, lcm_lt, lcm_ge, lcm_gt, lcm_le, lcm_eq, i64_toInt hu, i64_toInt hv, i64_toInt hw] at h1
    refine V.blk [(17, .bipush 0, 1)] (ps := []) (z' := (18, [some (aL (Int64.ofInt u)), none, some (aL (Int64.ofInt v)), none, some (aL (Int64.ofInt w)), none], [aI 0], MM N I J)) (by decide +kernel) rfl trivial ?_
    refine V.rz (by decide +kernel) (by first | exact b2_in _ | omega) ?_
    refine ⟨congrArg (fun w => some (aI w)) ?_, rfl⟩
    first | exact b2_td (by omega) | exact b2_fd (by omega)
  · skip
    try simp only [b2_cast, b2_ncast, Classical.not_not, lcm_lt, lcm_ge, lcm_gt, lcm_le, lcm_eq, i64_toInt hu, i64_toInt hv, i64_toInt hw] at h2
    refine V.blk [(6, .lload 0, 1), (7, .lload 4, 2), (9, .lcmp, 1), (10, .ifCond .gt 17, 3)] (ps := []) (z' := (brc .gt (lcm (Int64.ofInt u) (Int64.ofInt w)) 0 17 13, [some (aL (Int64.ofInt u)), none, some (aL (Int64.ofInt v)), none, some (aL (Int64.ofInt w)), none], [], MM N I J)) (by decide +kernel) rfl trivial ?_
    refine V.gt (fun h3 => ?_) (fun h4 => ?_)
    · skip
      try simp only [b2_cast, b2_ncast, Classical.not_not, lcm_lt, lcm_ge, lcm_gt, lcm_le, lcm_eq, i64_toInt hu, i64_toInt hv, i64_toInt hw] at h3
      refine V.blk [(17, .bipush 0, 1)] (ps := []) (z' := (18, [some (aL (Int64.ofInt u)), none, some (aL (Int64.ofInt v)), none, some (aL (Int64.ofInt w)), none], [aI 0], MM N I J)) (by decide +kernel) rfl trivial ?_
      refine V.rz (by decide +kernel) (by first | exact b2_in _ | omega) ?_
      refine ⟨congrArg (fun w => some (aI w)) ?_, rfl⟩
      first | exact b2_td (by omega) | exact b2_fd (by omega)
    · skip
      try simp only [b2_cast, b2_ncast, Classical.not_not, lcm_lt, lcm_ge, lcm_gt, lcm_le, lcm_eq, i64_toInt hu, i64_toInt hv, i64_toInt hw] at h4
      refine V.blk [(13, .bipush 1, 1), (14, .goto 18, 3)] (ps := []) (z' := (18, [some (aL (Int64.ofInt u)), none, some (aL (Int64.ofInt v)), none, some (aL (Int64.ofInt w)), none], [aI 1], MM N I J)) (by decide +kernel) rfl trivial ?_
      refine V.rz (by decide +kernel) (by first | exact b2_in _ | omega) ?_
      refine ⟨congrArg (fun w => some (aI w)) ?_, rfl⟩
      first | exact b2_td (by omega) | exact b2_fd (by omega)
theorem m_X10_isThing {N : Nat} {I : MI} {J : MJ} {u : Int}  : CT 117 [aR 52, aI u] (MM N I J) (pure1 N I J (aI (b2 (decide (0 ≤ u ∧ u < I 52 1))))) := by
  refine CT.ofV (n := 2) (ls := [some (aR 52), some (aI u)]) rfl rfl rfl ?_
  refine V.blk [(0, .iload 1, 1), (1, .ifCond .lt 16, 3)] (ps := []) (z' := (brc .lt u 0 16 4, [some (aR 52), some (aI u)], [], MM N I J)) (by decide +kernel) rfl trivial ?_
  refine V.lt (fun h1 => ?_) (fun h2 => ?_)
  · skip
    try simp only [b2_cast, b2_ncast, Classical.not_not, lcm_lt, lcm_ge, lcm_gt, lcm_le, lcm_eq] at h1
    refine V.blk [(16, .bipush 0, 1)] (ps := []) (z' := (17, [some (aR 52), some (aI u)], [aI 0], MM N I J)) (by decide +kernel) rfl trivial ?_
    refine V.rz (by decide +kernel) (by first | exact b2_in _ | omega) ?_
    refine ⟨congrArg (fun w => some (aI w)) ?_, rfl⟩
    first | exact b2_td (by omega) | exact b2_fd (by omega)
  · skip
    try simp only [b2_cast, b2_ncast, Classical.not_not, lcm_lt, lcm_ge, lcm_gt, lcm_le, lcm_eq] at h2
    refine V.blk [(4, .iload 1, 1), (5, .aload 0, 1), (6, .getfield 10001, 3), (9, .if_icmp .ge 16, 3)] (ps := []) (z' := (brc .ge u (I 52 1) 16 12, [some (aR 52), some (aI u)], [], MM N I J)) (by decide +kernel) rfl trivial ?_
    refine V.ge (fun h3 => ?_) (fun h4 => ?_)
    · skip
      try simp only [b2_cast, b2_ncast, Classical.not_not, lcm_lt, lcm_ge, lcm_gt, lcm_le, lcm_eq] at h3
      refine V.blk [(16, .bipush 0, 1)] (ps := []) (z' := (17, [some (aR 52), some (aI u)], [aI 0], MM N I J)) (by decide +kernel) rfl trivial ?_
      refine V.rz (by decide +kernel) (by first | exact b2_in _ | omega) ?_
      refine ⟨congrArg (fun w => some (aI w)) ?_, rfl⟩
      first | exact b2_td (by omega) | exact b2_fd (by omega)
    · skip
      try simp only [b2_cast, b2_ncast, Classical.not_not, lcm_lt, lcm_ge, lcm_gt, lcm_le, lcm_eq] at h4
      refine V.blk [(12, .bipush 1, 1), (13, .goto 17, 3)] (ps := []) (z' := (17, [some (aR 52), some (aI u)], [aI 1], MM N I J)) (by decide +kernel) rfl trivial ?_
      refine V.rz (by decide +kernel) (by first | exact b2_in _ | omega) ?_
      refine ⟨congrArg (fun w => some (aI w)) ?_, rfl⟩
      first | exact b2_td (by omega) | exact b2_fd (by omega)
theorem m_X10_isRelation {N : Nat} {I : MI} {J : MJ} {u : Int}  : CT 118 [aI u] (MM N I J) (pure1 N I J (aI (b2 (decide (0 ≤ u ∧ u < 8))))) := by
  refine CT.ofV (n := 1) (ls := [some (aI u)]) rfl rfl rfl ?_
  refine V.blk [(0, .iload 0, 1), (1, .ifCond .lt 14, 3)] (ps := []) (z' := (brc .lt u 0 14 4, [some (aI u)], [], MM N I J)) (by decide +kernel) rfl trivial ?_
  refine V.lt (fun h1 => ?_) (fun h2 => ?_)
  · skip
    try simp only [b2_cast, b2_ncast, Classical.not_not, lcm_lt, lcm_ge, lcm_gt, lcm_le, lcm_eq] at h1
    refine V.blk [(14, .bipush 0, 1)] (ps := []) (z' := (15, [some (aI u)], [aI 0], MM N I J)) (by decide +kernel) rfl trivial ?_
    refine V.rz (by decide +kernel) (by first | exact b2_in _ | omega) ?_
    refine ⟨congrArg (fun w => some (aI w)) ?_, rfl⟩
    first | exact b2_td (by omega) | exact b2_fd (by omega)
  · skip
    try simp only [b2_cast, b2_ncast, Classical.not_not, lcm_lt, lcm_ge, lcm_gt, lcm_le, lcm_eq] at h2
    refine V.blk [(4, .iload 0, 1), (5, .bipush 8, 2), (7, .if_icmp .ge 14, 3)] (ps := []) (z' := (brc .ge u 8 14 10, [some (aI u)], [], MM N I J)) (by decide +kernel) rfl trivial ?_
    refine V.ge (fun h3 => ?_) (fun h4 => ?_)
    · skip
      try simp only [b2_cast, b2_ncast, Classical.not_not, lcm_lt, lcm_ge, lcm_gt, lcm_le, lcm_eq] at h3
      refine V.blk [(14, .bipush 0, 1)] (ps := []) (z' := (15, [some (aI u)], [aI 0], MM N I J)) (by decide +kernel) rfl trivial ?_
      refine V.rz (by decide +kernel) (by first | exact b2_in _ | omega) ?_
      refine ⟨congrArg (fun w => some (aI w)) ?_, rfl⟩
      first | exact b2_td (by omega) | exact b2_fd (by omega)
    · skip
      try simp only [b2_cast, b2_ncast, Classical.not_not, lcm_lt, lcm_ge, lcm_gt, lcm_le, lcm_eq] at h4
      refine V.blk [(10, .bipush 1, 1), (11, .goto 15, 3)] (ps := []) (z' := (15, [some (aI u)], [aI 1], MM N I J)) (by decide +kernel) rfl trivial ?_
      refine V.rz (by decide +kernel) (by first | exact b2_in _ | omega) ?_
      refine ⟨congrArg (fun w => some (aI w)) ?_, rfl⟩
      first | exact b2_td (by omega) | exact b2_fd (by omega)
theorem m_X10_isPerson {N : Nat} {I : MI} {J : MJ} {u : Int}  : CT 119 [aI u] (MM N I J) (pure1 N I J (aI (b2 (decide (0 ≤ u ∧ u < 40))))) := by
  refine CT.ofV (n := 1) (ls := [some (aI u)]) rfl rfl rfl ?_
  refine V.blk [(0, .iload 0, 1), (1, .ifCond .lt 14, 3)] (ps := []) (z' := (brc .lt u 0 14 4, [some (aI u)], [], MM N I J)) (by decide +kernel) rfl trivial ?_
  refine V.lt (fun h1 => ?_) (fun h2 => ?_)
  · skip
    try simp only [b2_cast, b2_ncast, Classical.not_not, lcm_lt, lcm_ge, lcm_gt, lcm_le, lcm_eq] at h1
    refine V.blk [(14, .bipush 0, 1)] (ps := []) (z' := (15, [some (aI u)], [aI 0], MM N I J)) (by decide +kernel) rfl trivial ?_
    refine V.rz (by decide +kernel) (by first | exact b2_in _ | omega) ?_
    refine ⟨congrArg (fun w => some (aI w)) ?_, rfl⟩
    first | exact b2_td (by omega) | exact b2_fd (by omega)
  · skip
    try simp only [b2_cast, b2_ncast, Classical.not_not, lcm_lt, lcm_ge, lcm_gt, lcm_le, lcm_eq] at h2
    refine V.blk [(4, .iload 0, 1), (5, .bipush 40, 2), (7, .if_icmp .ge 14, 3)] (ps := []) (z' := (brc .ge u 40 14 10, [some (aI u)], [], MM N I J)) (by decide +kernel) rfl trivial ?_
    refine V.ge (fun h3 => ?_) (fun h4 => ?_)
    · skip
      try simp only [b2_cast, b2_ncast, Classical.not_not, lcm_lt, lcm_ge, lcm_gt, lcm_le, lcm_eq] at h3
      refine V.blk [(14, .bipush 0, 1)] (ps := []) (z' := (15, [some (aI u)], [aI 0], MM N I J)) (by decide +kernel) rfl trivial ?_
      refine V.rz (by decide +kernel) (by first | exact b2_in _ | omega) ?_
      refine ⟨congrArg (fun w => some (aI w)) ?_, rfl⟩
      first | exact b2_td (by omega) | exact b2_fd (by omega)
    · skip
      try simp only [b2_cast, b2_ncast, Classical.not_not, lcm_lt, lcm_ge, lcm_gt, lcm_le, lcm_eq] at h4
      refine V.blk [(10, .bipush 1, 1), (11, .goto 15, 3)] (ps := []) (z' := (15, [some (aI u)], [aI 1], MM N I J)) (by decide +kernel) rfl trivial ?_
      refine V.rz (by decide +kernel) (by first | exact b2_in _ | omega) ?_
      refine ⟨congrArg (fun w => some (aI w)) ?_, rfl⟩
      first | exact b2_td (by omega) | exact b2_fd (by omega)
theorem m_X10_isPlace {N : Nat} {I : MI} {J : MJ} {u : Int}  : CT 121 [aI u] (MM N I J) (pure1 N I J (aI (b2 (decide (0 ≤ u ∧ u < 64))))) := by
  refine CT.ofV (n := 1) (ls := [some (aI u)]) rfl rfl rfl ?_
  refine V.blk [(0, .iload 0, 1), (1, .ifCond .lt 14, 3)] (ps := []) (z' := (brc .lt u 0 14 4, [some (aI u)], [], MM N I J)) (by decide +kernel) rfl trivial ?_
  refine V.lt (fun h1 => ?_) (fun h2 => ?_)
  · skip
    try simp only [b2_cast, b2_ncast, Classical.not_not, lcm_lt, lcm_ge, lcm_gt, lcm_le, lcm_eq] at h1
    refine V.blk [(14, .bipush 0, 1)] (ps := []) (z' := (15, [some (aI u)], [aI 0], MM N I J)) (by decide +kernel) rfl trivial ?_
    refine V.rz (by decide +kernel) (by first | exact b2_in _ | omega) ?_
    refine ⟨congrArg (fun w => some (aI w)) ?_, rfl⟩
    first | exact b2_td (by omega) | exact b2_fd (by omega)
  · skip
    try simp only [b2_cast, b2_ncast, Classical.not_not, lcm_lt, lcm_ge, lcm_gt, lcm_le, lcm_eq] at h2
    refine V.blk [(4, .iload 0, 1), (5, .bipush 64, 2), (7, .if_icmp .ge 14, 3)] (ps := []) (z' := (brc .ge u 64 14 10, [some (aI u)], [], MM N I J)) (by decide +kernel) rfl trivial ?_
    refine V.ge (fun h3 => ?_) (fun h4 => ?_)
    · skip
      try simp only [b2_cast, b2_ncast, Classical.not_not, lcm_lt, lcm_ge, lcm_gt, lcm_le, lcm_eq] at h3
      refine V.blk [(14, .bipush 0, 1)] (ps := []) (z' := (15, [some (aI u)], [aI 0], MM N I J)) (by decide +kernel) rfl trivial ?_
      refine V.rz (by decide +kernel) (by first | exact b2_in _ | omega) ?_
      refine ⟨congrArg (fun w => some (aI w)) ?_, rfl⟩
      first | exact b2_td (by omega) | exact b2_fd (by omega)
    · skip
      try simp only [b2_cast, b2_ncast, Classical.not_not, lcm_lt, lcm_ge, lcm_gt, lcm_le, lcm_eq] at h4
      refine V.blk [(10, .bipush 1, 1), (11, .goto 15, 3)] (ps := []) (z' := (15, [some (aI u)], [aI 1], MM N I J)) (by decide +kernel) rfl trivial ?_
      refine V.rz (by decide +kernel) (by first | exact b2_in _ | omega) ?_
      refine ⟨congrArg (fun w => some (aI w)) ?_, rfl⟩
      first | exact b2_td (by omega) | exact b2_fd (by omega)
theorem m_X10_isClub {N : Nat} {I : MI} {J : MJ} {u : Int}  : CT 122 [aI u] (MM N I J) (pure1 N I J (aI (b2 (decide (1000 ≤ u))))) := by
  refine CT.ofV (n := 1) (ls := [some (aI u)]) rfl rfl rfl ?_
  refine V.blk [(0, .iload 0, 1), (1, .bipush 1000, 3), (4, .if_icmp .lt 11, 3)] (ps := []) (z' := (brc .lt u 1000 11 7, [some (aI u)], [], MM N I J)) (by decide +kernel) rfl trivial ?_
  refine V.lt (fun h1 => ?_) (fun h2 => ?_)
  · skip
    try simp only [b2_cast, b2_ncast, Classical.not_not, lcm_lt, lcm_ge, lcm_gt, lcm_le, lcm_eq] at h1
    refine V.blk [(11, .bipush 0, 1)] (ps := []) (z' := (12, [some (aI u)], [aI 0], MM N I J)) (by decide +kernel) rfl trivial ?_
    refine V.rz (by decide +kernel) (by first | exact b2_in _ | omega) ?_
    refine ⟨congrArg (fun w => some (aI w)) ?_, rfl⟩
    first | exact b2_td (by omega) | exact b2_fd (by omega)
  · skip
    try simp only [b2_cast, b2_ncast, Classical.not_not, lcm_lt, lcm_ge, lcm_gt, lcm_le, lcm_eq] at h2
    refine V.blk [(7, .bipush 1, 1), (8, .goto 12, 3)] (ps := []) (z' := (12, [some (aI u)], [aI 1], MM N I J)) (by decide +kernel) rfl trivial ?_
    refine V.rz (by decide +kernel) (by first | exact b2_in _ | omega) ?_
    refine ⟨congrArg (fun w => some (aI w)) ?_, rfl⟩
    first | exact b2_td (by omega) | exact b2_fd (by omega)
theorem m_X10_isTurn {N : Nat} {I : MI} {J : MJ} {u : Int}  : CT 120 [aR 52, aI u] (MM N I J) (pure1 N I J (aI (b2 (decide (0 ≤ u ∧ u ≤ I 52 18))))) := by
  refine CT.ofV (n := 2) (ls := [some (aR 52), some (aI u)]) rfl rfl rfl ?_
  refine V.blk [(0, .iload 1, 1), (1, .ifCond .lt 16, 3)] (ps := []) (z' := (brc .lt u 0 16 4, [some (aR 52), some (aI u)], [], MM N I J)) (by decide +kernel) rfl trivial ?_
  refine V.lt (fun h1 => ?_) (fun h2 => ?_)
  · skip
    try simp only [b2_cast, b2_ncast, Classical.not_not, lcm_lt, lcm_ge, lcm_gt, lcm_le, lcm_eq] at h1
    refine V.blk [(16, .bipush 0, 1)] (ps := []) (z' := (17, [some (aR 52), some (aI u)], [aI 0], MM N I J)) (by decide +kernel) rfl trivial ?_
    refine V.rz (by decide +kernel) (by first | exact b2_in _ | omega) ?_
    refine ⟨congrArg (fun w => some (aI w)) ?_, rfl⟩
    first | exact b2_td (by omega) | exact b2_fd (by omega)
  · skip
    try simp only [b2_cast, b2_ncast, Classical.not_not, lcm_lt, lcm_ge, lcm_gt, lcm_le, lcm_eq] at h2
    refine V.blk [(4, .iload 1, 1), (5, .aload 0, 1), (6, .getfield 10018, 3), (9, .if_icmp .gt 16, 3)] (ps := []) (z' := (brc .gt u (I 52 18) 16 12, [some (aR 52), some (aI u)], [], MM N I J)) (by decide +kernel) rfl trivial ?_
    refine V.gt (fun h3 => ?_) (fun h4 => ?_)
    · skip
      try simp only [b2_cast, b2_ncast, Classical.not_not, lcm_lt, lcm_ge, lcm_gt, lcm_le, lcm_eq] at h3
      refine V.blk [(16, .bipush 0, 1)] (ps := []) (z' := (17, [some (aR 52), some (aI u)], [aI 0], MM N I J)) (by decide +kernel) rfl trivial ?_
      refine V.rz (by decide +kernel) (by first | exact b2_in _ | omega) ?_
      refine ⟨congrArg (fun w => some (aI w)) ?_, rfl⟩
      first | exact b2_td (by omega) | exact b2_fd (by omega)
    · skip
      try simp only [b2_cast, b2_ncast, Classical.not_not, lcm_lt, lcm_ge, lcm_gt, lcm_le, lcm_eq] at h4
      refine V.blk [(12, .bipush 1, 1), (13, .goto 17, 3)] (ps := []) (z' := (17, [some (aR 52), some (aI u)], [aI 1], MM N I J)) (by decide +kernel) rfl trivial ?_
      refine V.rz (by decide +kernel) (by first | exact b2_in _ | omega) ?_
      refine ⟨congrArg (fun w => some (aI w)) ?_, rfl⟩
      first | exact b2_td (by omega) | exact b2_fd (by omega)
theorem m_X10_isLower {N : Nat} {I : MI} {J : MJ} {u v : Int}  : CT 134 [aR 52, aI u, aI v] (MM N I J) (pure1 N I J (aI (b2 (decide (0 ≤ u ∧ u < v))))) := by
  refine CT.ofV (n := 3) (ls := [some (aR 52), some (aI u), some (aI v)]) rfl rfl rfl ?_
  refine V.blk [(0, .iload 1, 1), (1, .ifCond .lt 13, 3)] (ps := []) (z' := (brc .lt u 0 13 4, [some (aR 52), some (aI u), some (aI v)], [], MM N I J)) (by decide +kernel) rfl trivial ?_
  refine V.lt (fun h1 => ?_) (fun h2 => ?_)
  · skip
    try simp only [b2_cast, b2_ncast, Classical.not_not, lcm_lt, lcm_ge, lcm_gt, lcm_le, lcm_eq] at h1
    refine V.blk [(13, .bipush 0, 1)] (ps := []) (z' := (14, [some (aR 52), some (aI u), some (aI v)], [aI 0], MM N I J)) (by decide +kernel) rfl trivial ?_
    refine V.rz (by decide +kernel) (by first | exact b2_in _ | omega) ?_
    refine ⟨congrArg (fun w => some (aI w)) ?_, rfl⟩
    first | exact b2_td (by omega) | exact b2_fd (by omega)
  · skip
    try simp only [b2_cast, b2_ncast, Classical.not_not, lcm_lt, lcm_ge, lcm_gt, lcm_le, lcm_eq] at h2
    refine V.blk [(4, .iload 1, 1), (5, .iload 2, 1), (6, .if_icmp .ge 13, 3)] (ps := []) (z' := (brc .ge u v 13 9, [some (aR 52), some (aI u), some (aI v)], [], MM N I J)) (by decide +kernel) rfl trivial ?_
    refine V.ge (fun h3 => ?_) (fun h4 => ?_)
    · skip
      try simp only [b2_cast, b2_ncast, Classical.not_not, lcm_lt, lcm_ge, lcm_gt, lcm_le, lcm_eq] at h3
      refine V.blk [(13, .bipush 0, 1)] (ps := []) (z' := (14, [some (aR 52), some (aI u), some (aI v)], [aI 0], MM N I J)) (by decide +kernel) rfl trivial ?_
      refine V.rz (by decide +kernel) (by first | exact b2_in _ | omega) ?_
      refine ⟨congrArg (fun w => some (aI w)) ?_, rfl⟩
      first | exact b2_td (by omega) | exact b2_fd (by omega)
    · skip
      try simp only [b2_cast, b2_ncast, Classical.not_not, lcm_lt, lcm_ge, lcm_gt, lcm_le, lcm_eq] at h4
      refine V.blk [(9, .bipush 1, 1), (10, .goto 14, 3)] (ps := []) (z' := (14, [some (aR 52), some (aI u), some (aI v)], [aI 1], MM N I J)) (by decide +kernel) rfl trivial ?_
      refine V.rz (by decide +kernel) (by first | exact b2_in _ | omega) ?_
      refine ⟨congrArg (fun w => some (aI w)) ?_, rfl⟩
      first | exact b2_td (by omega) | exact b2_fd (by omega)
theorem m_X10_clubCell {N : Nat} {I : MI} {J : MJ} {u : Int} (h : 1000 ≤ u ∧ u ≤ 100000) : CT 123 [aI u] (MM N I J) (pure1 N I J (aI ((u - 1000) / 10 * 8 + (u - 1000) % 10))) := by
  refine CT.ofV (n := 1) (ls := [some (aI u)]) rfl rfl rfl ?_
  refine V.blk [(0, .iload 0, 1), (1, .bipush 1000, 3), (4, .isub, 1), (5, .bipush 10, 2), (7, .idiv, 1), (8, .bipush 8, 2), (10, .imul, 1), (11, .iload 0, 1), (12, .bipush 1000, 3), (15, .isub, 1), (16, .bipush 10, 2), (18, .irem, 1), (19, .iadd, 1)] (ps := [inR (u - 1000), 0 ≤ (u - 1000) ∧ 0 < 10, inR (((u - 1000) / 10) * 8), inR (u - 1000), 0 ≤ (u - 1000) ∧ 0 < 10, inR ((((u - 1000) / 10) * 8) + ((u - 1000) % 10))]) (z' := (20, [some (aI u)], [aI ((((u - 1000) / 10) * 8) + ((u - 1000) % 10))], MM N I J)) (by decide +kernel) rfl (show (inR (u - 1000)) ∧ (0 ≤ (u - 1000) ∧ 0 < 10) ∧ (inR (((u - 1000) / 10) * 8)) ∧ (inR (u - 1000)) ∧ (0 ≤ (u - 1000) ∧ 0 < 10) ∧ (inR ((((u - 1000) / 10) * 8) + ((u - 1000) % 10))) from ⟨(by unfold inR; omega), (by omega), (by unfold inR; omega), (by unfold inR; omega), (by omega), (by unfold inR; omega)⟩) ?_
  refine V.ri (by decide +kernel) ?_
  exact ⟨rfl, rfl⟩
theorem m_X10_isUser {N : Nat} {I : MI} {J : MJ} {u : Int} (hu : inR u) (hn : I 52 1 ≤ 40) : CT 124 [aR 52, aI u] (MM N I J) (pure1 N I J (aI (b2 (decide (isUsr (I 52 1) u))))) := by
  refine CT.ofV (n := 2) (ls := [some (aR 52), some (aI u)]) rfl rfl rfl ?_
  unfold inR at hu
  refine V.blk [(0, .iload 1, 1), (1, .bipush 1000, 3), (4, .if_icmp .lt 49, 3)] (ps := []) (z' := (brc .lt u 1000 49 7, [some (aR 52), some (aI u)], [], MM N I J)) (by decide +kernel) rfl trivial ?_
  refine V.lt (fun h1 => ?_) (fun h2 => ?_)
  · skip
    try simp only [b2_cast, b2_ncast, Classical.not_not, lcm_lt, lcm_ge, lcm_gt, lcm_le, lcm_eq] at h1
    refine V.blk [(49, .iload 1, 1), (50, .bipush 100, 2), (52, .if_icmp .lt 66, 3)] (ps := []) (z' := (brc .lt u 100 66 55, [some (aR 52), some (aI u)], [], MM N I J)) (by decide +kernel) rfl trivial ?_
    refine V.lt (fun h3 => ?_) (fun h4 => ?_)
    · skip
      try simp only [b2_cast, b2_ncast, Classical.not_not, lcm_lt, lcm_ge, lcm_gt, lcm_le, lcm_eq] at h3
      refine V.blk [(66, .iload 1, 1)] (ps := []) (z' := (67, [some (aR 52), some (aI u)], [aI u], MM N I J)) (by decide +kernel) rfl trivial ?_
      refine V.cs (c := 119) (na := 1) [aI u] [] (by decide +kernel) rfl rfl (V.pr (m_X10_isPerson) ?_)
      show V 124 (70, [some (aR 52), some (aI u)], [aI (b2 (decide (0 ≤ u ∧ u < 40)))], MM N I J) _
      refine V.rz (by decide +kernel) (by first | exact b2_in _ | omega) ?_
      refine ⟨congrArg (fun w => some (aI w)) ?_, rfl⟩
      first | (refine b2_td ?_; simp only [isUsr]; omega) | (refine b2_fd ?_; simp only [isUsr]; omega) | (refine b2_dc ?_; simp only [isUsr]; omega)
    · skip
      try simp only [b2_cast, b2_ncast, Classical.not_not, lcm_lt, lcm_ge, lcm_gt, lcm_le, lcm_eq] at h4
      refine V.blk [(55, .aload 0, 1), (56, .iload 1, 1), (57, .bipush 100, 2), (59, .isub, 1)] (ps := [inR (u - 100)]) (z' := (60, [some (aR 52), some (aI u)], [aI (u - 100), aR 52], MM N I J)) (by decide +kernel) rfl (show (inR (u - 100)) from (by unfold inR; omega)) ?_
      refine V.cv (c := 117) (na := 2) (o := 10) (a := 52) [aI (u - 100)] [] (by decide +kernel) rfl rfl rfl rfl rfl (V.pr (m_X10_isThing) ?_)
      show V 124 (63, [some (aR 52), some (aI u)], [aI (b2 (decide (0 ≤ (u - 100) ∧ (u - 100) < I 52 1)))], MM N I J) _
      refine V.blk [(63, .goto 70, 3)] (ps := []) (z' := (70, [some (aR 52), some (aI u)], [aI (b2 (decide (0 ≤ (u - 100) ∧ (u - 100) < I 52 1)))], MM N I J)) (by decide +kernel) rfl trivial ?_
      refine V.rz (by decide +kernel) (by first | exact b2_in _ | omega) ?_
      refine ⟨congrArg (fun w => some (aI w)) ?_, rfl⟩
      first | (refine b2_td ?_; simp only [isUsr]; omega) | (refine b2_fd ?_; simp only [isUsr]; omega) | (refine b2_dc ?_; simp only [isUsr]; omega)
  · skip
    try simp only [b2_cast, b2_ncast, Classical.not_not, lcm_lt, lcm_ge, lcm_gt, lcm_le, lcm_eq] at h2
    refine V.blk [(7, .iload 1, 1), (8, .bipush 2000, 3), (11, .if_icmp .ge 47, 3)] (ps := []) (z' := (brc .ge u 2000 47 14, [some (aR 52), some (aI u)], [], MM N I J)) (by decide +kernel) rfl trivial ?_
    refine V.ge (fun h5 => ?_) (fun h6 => ?_)
    · skip
      try simp only [b2_cast, b2_ncast, Classical.not_not, lcm_lt, lcm_ge, lcm_gt, lcm_le, lcm_eq] at h5
      refine V.blk [(47, .bipush 0, 1)] (ps := []) (z' := (48, [some (aR 52), some (aI u)], [aI 0], MM N I J)) (by decide +kernel) rfl trivial ?_
      refine V.rz (by decide +kernel) (by first | exact b2_in _ | omega) ?_
      refine ⟨congrArg (fun w => some (aI w)) ?_, rfl⟩
      first | (refine b2_td ?_; simp only [isUsr]; omega) | (refine b2_fd ?_; simp only [isUsr]; omega) | (refine b2_dc ?_; simp only [isUsr]; omega)
    · skip
      try simp only [b2_cast, b2_ncast, Classical.not_not, lcm_lt, lcm_ge, lcm_gt, lcm_le, lcm_eq] at h6
      refine V.blk [(14, .aload 0, 1), (15, .iload 1, 1), (16, .bipush 1000, 3), (19, .isub, 1), (20, .bipush 10, 2), (22, .idiv, 1)] (ps := [inR (u - 1000), 0 ≤ (u - 1000) ∧ 0 < 10]) (z' := (23, [some (aR 52), some (aI u)], [aI ((u - 1000) / 10), aR 52], MM N I J)) (by decide +kernel) rfl (show (inR (u - 1000)) ∧ (0 ≤ (u - 1000) ∧ 0 < 10) from ⟨(by unfold inR; omega), (by omega)⟩) ?_
      refine V.cv (c := 117) (na := 2) (o := 10) (a := 52) [aI ((u - 1000) / 10)] [] (by decide +kernel) rfl rfl rfl rfl rfl (V.pr (m_X10_isThing) ?_)
      show V 124 (26, [some (aR 52), some (aI u)], [aI (b2 (decide (0 ≤ ((u - 1000) / 10) ∧ ((u - 1000) / 10) < I 52 1)))], MM N I J) _
      refine V.blk [(26, .ifCond .eq 47, 3)] (ps := []) (z' := (brc .eq (b2 (decide (0 ≤ ((u - 1000) / 10) ∧ ((u - 1000) / 10) < I 52 1))) 0 47 29, [some (aR 52), some (aI u)], [], MM N I J)) (by decide +kernel) rfl trivial ?_
      refine V.eq (fun h7 => ?_) (fun h8 => ?_)
      · skip
        try simp only [b2_cast, b2_ncast, Classical.not_not, lcm_lt, lcm_ge, lcm_gt, lcm_le, lcm_eq] at h7
        refine V.blk [(47, .bipush 0, 1)] (ps := []) (z' := (48, [some (aR 52), some (aI u)], [aI 0], MM N I J)) (by decide +kernel) rfl trivial ?_
        refine V.rz (by decide +kernel) (by first | exact b2_in _ | omega) ?_
        refine ⟨congrArg (fun w => some (aI w)) ?_, rfl⟩
        first | (refine b2_td ?_; simp only [isUsr]; omega) | (refine b2_fd ?_; simp only [isUsr]; omega) | (refine b2_dc ?_; simp only [isUsr]; omega)
      · skip
        try simp only [b2_cast, b2_ncast, Classical.not_not, lcm_lt, lcm_ge, lcm_gt, lcm_le, lcm_eq] at h8
        refine V.blk [(29, .iload 1, 1), (30, .bipush 1000, 3), (33, .isub, 1), (34, .bipush 10, 2), (36, .irem, 1)] (ps := [inR (u - 1000), 0 ≤ (u - 1000) ∧ 0 < 10]) (z' := (37, [some (aR 52), some (aI u)], [aI ((u - 1000) % 10)], MM N I J)) (by decide +kernel) rfl (show (inR (u - 1000)) ∧ (0 ≤ (u - 1000) ∧ 0 < 10) from ⟨(by unfold inR; omega), (by omega)⟩) ?_
        refine V.cs (c := 118) (na := 1) [aI ((u - 1000) % 10)] [] (by decide +kernel) rfl rfl (V.pr (m_X10_isRelation) ?_)
        show V 124 (40, [some (aR 52), some (aI u)], [aI (b2 (decide (0 ≤ ((u - 1000) % 10) ∧ ((u - 1000) % 10) < 8)))], MM N I J) _
        refine V.blk [(40, .ifCond .eq 47, 3)] (ps := []) (z' := (brc .eq (b2 (decide (0 ≤ ((u - 1000) % 10) ∧ ((u - 1000) % 10) < 8))) 0 47 43, [some (aR 52), some (aI u)], [], MM N I J)) (by decide +kernel) rfl trivial ?_
        refine V.eq (fun h9 => ?_) (fun h10 => ?_)
        · skip
          try simp only [b2_cast, b2_ncast, Classical.not_not, lcm_lt, lcm_ge, lcm_gt, lcm_le, lcm_eq] at h9
          refine V.blk [(47, .bipush 0, 1)] (ps := []) (z' := (48, [some (aR 52), some (aI u)], [aI 0], MM N I J)) (by decide +kernel) rfl trivial ?_
          refine V.rz (by decide +kernel) (by first | exact b2_in _ | omega) ?_
          refine ⟨congrArg (fun w => some (aI w)) ?_, rfl⟩
          first | (refine b2_td ?_; simp only [isUsr]; omega) | (refine b2_fd ?_; simp only [isUsr]; omega) | (refine b2_dc ?_; simp only [isUsr]; omega)
        · skip
          try simp only [b2_cast, b2_ncast, Classical.not_not, lcm_lt, lcm_ge, lcm_gt, lcm_le, lcm_eq] at h10
          refine V.blk [(43, .bipush 1, 1), (44, .goto 48, 3)] (ps := []) (z' := (48, [some (aR 52), some (aI u)], [aI 1], MM N I J)) (by decide +kernel) rfl trivial ?_
          refine V.rz (by decide +kernel) (by first | exact b2_in _ | omega) ?_
          refine ⟨congrArg (fun w => some (aI w)) ?_, rfl⟩
          first | (refine b2_td ?_; simp only [isUsr]; omega) | (refine b2_fd ?_; simp only [isUsr]; omega) | (refine b2_dc ?_; simp only [isUsr]; omega)
theorem m_X10_isPair {N : Nat} {I : MI} {J : MJ} {t r u : Int} (hu : inR u) (hn : I 52 1 ≤ 40) : CT 142 [aR 52, aI t, aI r, aI u] (MM N I J) (pure1 N I J (aI (b2 (decide ((0 ≤ t ∧ t < I 52 1 ∧ 0 ≤ r ∧ r < 8) ∧ isUsr (I 52 1) u))))) := by
  refine CT.ofV (n := 4) (ls := [some (aR 52), some (aI t), some (aI r), some (aI u)]) rfl rfl rfl ?_
  refine V.blk [(0, .aload 0, 1), (1, .iload 1, 1)] (ps := []) (z' := (2, [some (aR 52), some (aI t), some (aI r), some (aI u)], [aI t, aR 52], MM N I J)) (by decide +kernel) rfl trivial ?_
  refine V.cv (c := 117) (na := 2) (o := 10) (a := 52) [aI t] [] (by decide +kernel) rfl rfl rfl rfl rfl (V.pr (m_X10_isThing) ?_)
  show V 142 (5, [some (aR 52), some (aI t), some (aI r), some (aI u)], [aI (b2 (decide (0 ≤ t ∧ t < I 52 1)))], MM N I J) _
  refine V.blk [(5, .ifCond .eq 27, 3)] (ps := []) (z' := (brc .eq (b2 (decide (0 ≤ t ∧ t < I 52 1))) 0 27 8, [some (aR 52), some (aI t), some (aI r), some (aI u)], [], MM N I J)) (by decide +kernel) rfl trivial ?_
  refine V.eq (fun h1 => ?_) (fun h2 => ?_)
  · skip
    try simp only [b2_cast, b2_ncast, Classical.not_not, lcm_lt, lcm_ge, lcm_gt, lcm_le, lcm_eq] at h1
    refine V.blk [(27, .bipush 0, 1)] (ps := []) (z' := (28, [some (aR 52), some (aI t), some (aI r), some (aI u)], [aI 0], MM N I J)) (by decide +kernel) rfl trivial ?_
    refine V.rz (by decide +kernel) (by first | exact b2_in _ | omega) ?_
    refine ⟨congrArg (fun w => some (aI w)) ?_, rfl⟩
    first | (refine b2_td ?_; simp only [isUsr] at *; omega) | (refine b2_fd ?_; simp only [isUsr] at *; omega)
  · skip
    try simp only [b2_cast, b2_ncast, Classical.not_not, lcm_lt, lcm_ge, lcm_gt, lcm_le, lcm_eq] at h2
    refine V.blk [(8, .iload 2, 1)] (ps := []) (z' := (9, [some (aR 52), some (aI t), some (aI r), some (aI u)], [aI r], MM N I J)) (by decide +kernel) rfl trivial ?_
    refine V.cs (c := 118) (na := 1) [aI r] [] (by decide +kernel) rfl rfl (V.pr (m_X10_isRelation) ?_)
    show V 142 (12, [some (aR 52), some (aI t), some (aI r), some (aI u)], [aI (b2 (decide (0 ≤ r ∧ r < 8)))], MM N I J) _
    refine V.blk [(12, .ifCond .eq 27, 3)] (ps := []) (z' := (brc .eq (b2 (decide (0 ≤ r ∧ r < 8))) 0 27 15, [some (aR 52), some (aI t), some (aI r), some (aI u)], [], MM N I J)) (by decide +kernel) rfl trivial ?_
    refine V.eq (fun h3 => ?_) (fun h4 => ?_)
    · skip
      try simp only [b2_cast, b2_ncast, Classical.not_not, lcm_lt, lcm_ge, lcm_gt, lcm_le, lcm_eq] at h3
      refine V.blk [(27, .bipush 0, 1)] (ps := []) (z' := (28, [some (aR 52), some (aI t), some (aI r), some (aI u)], [aI 0], MM N I J)) (by decide +kernel) rfl trivial ?_
      refine V.rz (by decide +kernel) (by first | exact b2_in _ | omega) ?_
      refine ⟨congrArg (fun w => some (aI w)) ?_, rfl⟩
      first | (refine b2_td ?_; simp only [isUsr] at *; omega) | (refine b2_fd ?_; simp only [isUsr] at *; omega)
    · skip
      try simp only [b2_cast, b2_ncast, Classical.not_not, lcm_lt, lcm_ge, lcm_gt, lcm_le, lcm_eq] at h4
      refine V.blk [(15, .aload 0, 1), (16, .iload 3, 1)] (ps := []) (z' := (17, [some (aR 52), some (aI t), some (aI r), some (aI u)], [aI u, aR 52], MM N I J)) (by decide +kernel) rfl trivial ?_
      refine V.cv (c := 124) (na := 2) (o := 10) (a := 52) [aI u] [] (by decide +kernel) rfl rfl rfl rfl rfl (V.pr (m_X10_isUser (by assumption) (by assumption)) ?_)
      show V 142 (20, [some (aR 52), some (aI t), some (aI r), some (aI u)], [aI (b2 (decide (isUsr (I 52 1) u)))], MM N I J) _
      refine V.blk [(20, .ifCond .eq 27, 3)] (ps := []) (z' := (brc .eq (b2 (decide (isUsr (I 52 1) u))) 0 27 23, [some (aR 52), some (aI t), some (aI r), some (aI u)], [], MM N I J)) (by decide +kernel) rfl trivial ?_
      refine V.eq (fun h5 => ?_) (fun h6 => ?_)
      · skip
        try simp only [b2_cast, b2_ncast, Classical.not_not, lcm_lt, lcm_ge, lcm_gt, lcm_le, lcm_eq] at h5
        refine V.blk [(27, .bipush 0, 1)] (ps := []) (z' := (28, [some (aR 52), some (aI t), some (aI r), some (aI u)], [aI 0], MM N I J)) (by decide +kernel) rfl trivial ?_
        refine V.rz (by decide +kernel) (by first | exact b2_in _ | omega) ?_
        refine ⟨congrArg (fun w => some (aI w)) ?_, rfl⟩
        first | (refine b2_td ?_; simp only [isUsr] at *; omega) | (refine b2_fd ?_; simp only [isUsr] at *; omega)
      · skip
        try simp only [b2_cast, b2_ncast, Classical.not_not, lcm_lt, lcm_ge, lcm_gt, lcm_le, lcm_eq] at h6
        refine V.blk [(23, .bipush 1, 1), (24, .goto 28, 3)] (ps := []) (z' := (28, [some (aR 52), some (aI t), some (aI r), some (aI u)], [aI 1], MM N I J)) (by decide +kernel) rfl trivial ?_
        refine V.rz (by decide +kernel) (by first | exact b2_in _ | omega) ?_
        refine ⟨congrArg (fun w => some (aI w)) ?_, rfl⟩
        first | (refine b2_td ?_; simp only [isUsr] at *; omega) | (refine b2_fd ?_; simp only [isUsr] at *; omega)
theorem m_X10_isCell {N : Nat} {I : MI} {J : MJ} {u v : Int}  : CT 172 [aR 52, aI u, aI v] (MM N I J) (pure1 N I J (aI (b2 (decide (0 ≤ u ∧ u < I 52 1 ∧ 0 ≤ v ∧ v < 8))))) := by
  refine CT.ofV (n := 3) (ls := [some (aR 52), some (aI u), some (aI v)]) rfl rfl rfl ?_
  refine V.blk [(0, .aload 0, 1), (1, .iload 1, 1)] (ps := []) (z' := (2, [some (aR 52), some (aI u), some (aI v)], [aI u, aR 52], MM N I J)) (by decide +kernel) rfl trivial ?_
  refine V.cv (c := 117) (na := 2) (o := 10) (a := 52) [aI u] [] (by decide +kernel) rfl rfl rfl rfl rfl (V.pr (m_X10_isThing) ?_)
  show V 172 (5, [some (aR 52), some (aI u), some (aI v)], [aI (b2 (decide (0 ≤ u ∧ u < I 52 1)))], MM N I J) _
  refine V.blk [(5, .ifCond .eq 19, 3)] (ps := []) (z' := (brc .eq (b2 (decide (0 ≤ u ∧ u < I 52 1))) 0 19 8, [some (aR 52), some (aI u), some (aI v)], [], MM N I J)) (by decide +kernel) rfl trivial ?_
  refine V.eq (fun h1 => ?_) (fun h2 => ?_)
  · skip
    try simp only [b2_cast, b2_ncast, Classical.not_not, lcm_lt, lcm_ge, lcm_gt, lcm_le, lcm_eq] at h1
    refine V.blk [(19, .bipush 0, 1)] (ps := []) (z' := (20, [some (aR 52), some (aI u), some (aI v)], [aI 0], MM N I J)) (by decide +kernel) rfl trivial ?_
    refine V.rz (by decide +kernel) (by first | exact b2_in _ | omega) ?_
    refine ⟨congrArg (fun w => some (aI w)) ?_, rfl⟩
    first | exact b2_td (by omega) | exact b2_fd (by omega)
  · skip
    try simp only [b2_cast, b2_ncast, Classical.not_not, lcm_lt, lcm_ge, lcm_gt, lcm_le, lcm_eq] at h2
    refine V.blk [(8, .iload 2, 1)] (ps := []) (z' := (9, [some (aR 52), some (aI u), some (aI v)], [aI v], MM N I J)) (by decide +kernel) rfl trivial ?_
    refine V.cs (c := 118) (na := 1) [aI v] [] (by decide +kernel) rfl rfl (V.pr (m_X10_isRelation) ?_)
    show V 172 (12, [some (aR 52), some (aI u), some (aI v)], [aI (b2 (decide (0 ≤ v ∧ v < 8)))], MM N I J) _
    refine V.blk [(12, .ifCond .eq 19, 3)] (ps := []) (z' := (brc .eq (b2 (decide (0 ≤ v ∧ v < 8))) 0 19 15, [some (aR 52), some (aI u), some (aI v)], [], MM N I J)) (by decide +kernel) rfl trivial ?_
    refine V.eq (fun h3 => ?_) (fun h4 => ?_)
    · skip
      try simp only [b2_cast, b2_ncast, Classical.not_not, lcm_lt, lcm_ge, lcm_gt, lcm_le, lcm_eq] at h3
      refine V.blk [(19, .bipush 0, 1)] (ps := []) (z' := (20, [some (aR 52), some (aI u), some (aI v)], [aI 0], MM N I J)) (by decide +kernel) rfl trivial ?_
      refine V.rz (by decide +kernel) (by first | exact b2_in _ | omega) ?_
      refine ⟨congrArg (fun w => some (aI w)) ?_, rfl⟩
      first | exact b2_td (by omega) | exact b2_fd (by omega)
    · skip
      try simp only [b2_cast, b2_ncast, Classical.not_not, lcm_lt, lcm_ge, lcm_gt, lcm_le, lcm_eq] at h4
      refine V.blk [(15, .bipush 1, 1), (16, .goto 20, 3)] (ps := []) (z' := (20, [some (aR 52), some (aI u), some (aI v)], [aI 1], MM N I J)) (by decide +kernel) rfl trivial ?_
      refine V.rz (by decide +kernel) (by first | exact b2_in _ | omega) ?_
      refine ⟨congrArg (fun w => some (aI w)) ?_, rfl⟩
      first | exact b2_td (by omega) | exact b2_fd (by omega)
theorem m_X10_isAsked {N : Nat} {I : MI} {J : MJ} {u v w t : Int} (hu : inR u) : CT 175 [aR 52, aI u, aI v, aI w, aI t] (MM N I J) (pure1 N I J (aI (b2 (decide (0 ≤ u ∧ u < 6 ∧ 0 ≤ v ∧ v < 8 ∧ 0 ≤ w ∧ w < 40 ∧ 0 ≤ t ∧ t ≤ I 52 18))))) := by
  refine CT.ofV (n := 5) (ls := [some (aR 52), some (aI u), some (aI v), some (aI w), some (aI t)]) rfl rfl rfl ?_
  unfold inR at hu
  refine V.blk [(0, .iload 1, 1), (1, .i2l, 1), (2, .jsr_w 0, 1), (3, .jsr_w 5, 3)] (ps := []) (z' := (6, [some (aR 52), some (aI u), some (aI v), some (aI w), some (aI t)], [aL (Int64.ofInt 5), aL (Int64.ofInt 0), aL (Int64.ofInt u)], MM N I J)) (by decide +kernel) rfl trivial ?_
  refine V.cs (c := 115) (na := 3) [aL (Int64.ofInt 5), aL (Int64.ofInt 0), aL (Int64.ofInt u)] [] (by decide +kernel) rfl rfl (V.pr (m_X10_isIn (by unfold inR; omega) (by unfold inR; omega) (by unfold inR; omega)) ?_)
  show V 175 (9, [some (aR 52), some (aI u), some (aI v), some (aI w), some (aI t)], [aI (b2 (decide (0 ≤ u ∧ u ≤ 5)))], MM N I J) _
  refine V.blk [(9, .ifCond .eq 39, 3)] (ps := []) (z' := (brc .eq (b2 (decide (0 ≤ u ∧ u ≤ 5))) 0 39 12, [some (aR 52), some (aI u), some (aI v), some (aI w), some (aI t)], [], MM N I J)) (by decide +kernel) rfl trivial ?_
  refine V.eq (fun h1 => ?_) (fun h2 => ?_)
  · skip
    try simp only [b2_cast, b2_ncast, Classical.not_not, lcm_lt, lcm_ge, lcm_gt, lcm_le, lcm_eq] at h1
    refine V.blk [(39, .bipush 0, 1)] (ps := []) (z' := (40, [some (aR 52), some (aI u), some (aI v), some (aI w), some (aI t)], [aI 0], MM N I J)) (by decide +kernel) rfl trivial ?_
    refine V.rz (by decide +kernel) (by first | exact b2_in _ | omega) ?_
    refine ⟨congrArg (fun w => some (aI w)) ?_, rfl⟩
    first | exact b2_td (by omega) | exact b2_fd (by omega)
  · skip
    try simp only [b2_cast, b2_ncast, Classical.not_not, lcm_lt, lcm_ge, lcm_gt, lcm_le, lcm_eq] at h2
    refine V.blk [(12, .iload 2, 1)] (ps := []) (z' := (13, [some (aR 52), some (aI u), some (aI v), some (aI w), some (aI t)], [aI v], MM N I J)) (by decide +kernel) rfl trivial ?_
    refine V.cs (c := 118) (na := 1) [aI v] [] (by decide +kernel) rfl rfl (V.pr (m_X10_isRelation) ?_)
    show V 175 (16, [some (aR 52), some (aI u), some (aI v), some (aI w), some (aI t)], [aI (b2 (decide (0 ≤ v ∧ v < 8)))], MM N I J) _
    refine V.blk [(16, .ifCond .eq 39, 3)] (ps := []) (z' := (brc .eq (b2 (decide (0 ≤ v ∧ v < 8))) 0 39 19, [some (aR 52), some (aI u), some (aI v), some (aI w), some (aI t)], [], MM N I J)) (by decide +kernel) rfl trivial ?_
    refine V.eq (fun h3 => ?_) (fun h4 => ?_)
    · skip
      try simp only [b2_cast, b2_ncast, Classical.not_not, lcm_lt, lcm_ge, lcm_gt, lcm_le, lcm_eq] at h3
      refine V.blk [(39, .bipush 0, 1)] (ps := []) (z' := (40, [some (aR 52), some (aI u), some (aI v), some (aI w), some (aI t)], [aI 0], MM N I J)) (by decide +kernel) rfl trivial ?_
      refine V.rz (by decide +kernel) (by first | exact b2_in _ | omega) ?_
      refine ⟨congrArg (fun w => some (aI w)) ?_, rfl⟩
      first | exact b2_td (by omega) | exact b2_fd (by omega)
    · skip
      try simp only [b2_cast, b2_ncast, Classical.not_not, lcm_lt, lcm_ge, lcm_gt, lcm_le, lcm_eq] at h4
      refine V.blk [(19, .iload 3, 1)] (ps := []) (z' := (20, [some (aR 52), some (aI u), some (aI v), some (aI w), some (aI t)], [aI w], MM N I J)) (by decide +kernel) rfl trivial ?_
      refine V.cs (c := 119) (na := 1) [aI w] [] (by decide +kernel) rfl rfl (V.pr (m_X10_isPerson) ?_)
      show V 175 (23, [some (aR 52), some (aI u), some (aI v), some (aI w), some (aI t)], [aI (b2 (decide (0 ≤ w ∧ w < 40)))], MM N I J) _
      refine V.blk [(23, .ifCond .eq 39, 3)] (ps := []) (z' := (brc .eq (b2 (decide (0 ≤ w ∧ w < 40))) 0 39 26, [some (aR 52), some (aI u), some (aI v), some (aI w), some (aI t)], [], MM N I J)) (by decide +kernel) rfl trivial ?_
      refine V.eq (fun h5 => ?_) (fun h6 => ?_)
      · skip
        try simp only [b2_cast, b2_ncast, Classical.not_not, lcm_lt, lcm_ge, lcm_gt, lcm_le, lcm_eq] at h5
        refine V.blk [(39, .bipush 0, 1)] (ps := []) (z' := (40, [some (aR 52), some (aI u), some (aI v), some (aI w), some (aI t)], [aI 0], MM N I J)) (by decide +kernel) rfl trivial ?_
        refine V.rz (by decide +kernel) (by first | exact b2_in _ | omega) ?_
        refine ⟨congrArg (fun w => some (aI w)) ?_, rfl⟩
        first | exact b2_td (by omega) | exact b2_fd (by omega)
      · skip
        try simp only [b2_cast, b2_ncast, Classical.not_not, lcm_lt, lcm_ge, lcm_gt, lcm_le, lcm_eq] at h6
        refine V.blk [(26, .aload 0, 1), (27, .iload 4, 2)] (ps := []) (z' := (29, [some (aR 52), some (aI u), some (aI v), some (aI w), some (aI t)], [aI t, aR 52], MM N I J)) (by decide +kernel) rfl trivial ?_
        refine V.cv (c := 120) (na := 2) (o := 10) (a := 52) [aI t] [] (by decide +kernel) rfl rfl rfl rfl rfl (V.pr (m_X10_isTurn) ?_)
        show V 175 (32, [some (aR 52), some (aI u), some (aI v), some (aI w), some (aI t)], [aI (b2 (decide (0 ≤ t ∧ t ≤ I 52 18)))], MM N I J) _
        refine V.blk [(32, .ifCond .eq 39, 3)] (ps := []) (z' := (brc .eq (b2 (decide (0 ≤ t ∧ t ≤ I 52 18))) 0 39 35, [some (aR 52), some (aI u), some (aI v), some (aI w), some (aI t)], [], MM N I J)) (by decide +kernel) rfl trivial ?_
        refine V.eq (fun h7 => ?_) (fun h8 => ?_)
        · skip
          try simp only [b2_cast, b2_ncast, Classical.not_not, lcm_lt, lcm_ge, lcm_gt, lcm_le, lcm_eq] at h7
          refine V.blk [(39, .bipush 0, 1)] (ps := []) (z' := (40, [some (aR 52), some (aI u), some (aI v), some (aI w), some (aI t)], [aI 0], MM N I J)) (by decide +kernel) rfl trivial ?_
          refine V.rz (by decide +kernel) (by first | exact b2_in _ | omega) ?_
          refine ⟨congrArg (fun w => some (aI w)) ?_, rfl⟩
          first | exact b2_td (by omega) | exact b2_fd (by omega)
        · skip
          try simp only [b2_cast, b2_ncast, Classical.not_not, lcm_lt, lcm_ge, lcm_gt, lcm_le, lcm_eq] at h8
          refine V.blk [(35, .bipush 1, 1), (36, .goto 40, 3)] (ps := []) (z' := (40, [some (aR 52), some (aI u), some (aI v), some (aI w), some (aI t)], [aI 1], MM N I J)) (by decide +kernel) rfl trivial ?_
          refine V.rz (by decide +kernel) (by first | exact b2_in _ | omega) ?_
          refine ⟨congrArg (fun w => some (aI w)) ?_, rfl⟩
          first | exact b2_td (by omega) | exact b2_fd (by omega)
theorem m_X10_isInForce {N : Nat} {I : MI} {J : MJ} {p : Nat} {t : Int} (hp : p < 420) : CT 148 [aR 52, aI (p : Int), aI t] (MM N I J) (pure1 N I J (aI (b2 (decide (I 63 p ≤ t ∧ (I 64 p = -1 ∨ t < I 64 p)))))) := by
  refine CT.ofV (n := 3) (ls := [some (aR 52), some (aI (p : Int)), some (aI t)]) rfl rfl rfl ?_
  refine V.blk [(0, .aload 0, 1), (1, .getfield 10011, 3), (4, .iload 1, 1), (5, .iaload, 1), (6, .iload 2, 1), (7, .if_icmp .gt 34, 3)] (ps := [0 ≤ (p : Int) ∧ (p : Int) < 420]) (z' := (brc .gt (I 63 p) t 34 10, [some (aR 52), some (aI (p : Int)), some (aI t)], [], MM N I J)) (by decide +kernel) rfl (show (0 ≤ (p : Int) ∧ (p : Int) < 420) from (by omega)) ?_
  refine V.gt (fun h1 => ?_) (fun h2 => ?_)
  · skip
    try simp only [b2_cast, b2_ncast, Classical.not_not, lcm_lt, lcm_ge, lcm_gt, lcm_le, lcm_eq] at h1
    refine V.blk [(34, .bipush 0, 1)] (ps := []) (z' := (35, [some (aR 52), some (aI (p : Int)), some (aI t)], [aI 0], MM N I J)) (by decide +kernel) rfl trivial ?_
    refine V.rz (by decide +kernel) (by first | exact b2_in _ | omega) ?_
    refine ⟨congrArg (fun w => some (aI w)) ?_, rfl⟩
    first | exact b2_td (by omega) | exact b2_fd (by omega)
  · skip
    try simp only [b2_cast, b2_ncast, Classical.not_not, lcm_lt, lcm_ge, lcm_gt, lcm_le, lcm_eq] at h2
    refine V.blk [(10, .aload 0, 1), (11, .getfield 10012, 3), (14, .iload 1, 1), (15, .iaload, 1), (16, .bipush (-1), 1), (17, .if_icmp .eq 30, 3)] (ps := [0 ≤ (p : Int) ∧ (p : Int) < 420]) (z' := (brc .eq (I 64 p) (-1) 30 20, [some (aR 52), some (aI (p : Int)), some (aI t)], [], MM N I J)) (by decide +kernel) rfl (show (0 ≤ (p : Int) ∧ (p : Int) < 420) from (by omega)) ?_
    refine V.eq (fun h3 => ?_) (fun h4 => ?_)
    · skip
      try simp only [b2_cast, b2_ncast, Classical.not_not, lcm_lt, lcm_ge, lcm_gt, lcm_le, lcm_eq] at h3
      refine V.blk [(30, .bipush 1, 1), (31, .goto 35, 3)] (ps := []) (z' := (35, [some (aR 52), some (aI (p : Int)), some (aI t)], [aI 1], MM N I J)) (by decide +kernel) rfl trivial ?_
      refine V.rz (by decide +kernel) (by first | exact b2_in _ | omega) ?_
      refine ⟨congrArg (fun w => some (aI w)) ?_, rfl⟩
      first | exact b2_td (by omega) | exact b2_fd (by omega)
    · skip
      try simp only [b2_cast, b2_ncast, Classical.not_not, lcm_lt, lcm_ge, lcm_gt, lcm_le, lcm_eq] at h4
      refine V.blk [(20, .aload 0, 1), (21, .getfield 10012, 3), (24, .iload 1, 1), (25, .iaload, 1), (26, .iload 2, 1), (27, .if_icmp .le 34, 3)] (ps := [0 ≤ (p : Int) ∧ (p : Int) < 420]) (z' := (brc .le (I 64 p) t 34 30, [some (aR 52), some (aI (p : Int)), some (aI t)], [], MM N I J)) (by decide +kernel) rfl (show (0 ≤ (p : Int) ∧ (p : Int) < 420) from (by omega)) ?_
      refine V.le (fun h5 => ?_) (fun h6 => ?_)
      · skip
        try simp only [b2_cast, b2_ncast, Classical.not_not, lcm_lt, lcm_ge, lcm_gt, lcm_le, lcm_eq] at h5
        refine V.blk [(34, .bipush 0, 1)] (ps := []) (z' := (35, [some (aR 52), some (aI (p : Int)), some (aI t)], [aI 0], MM N I J)) (by decide +kernel) rfl trivial ?_
        refine V.rz (by decide +kernel) (by first | exact b2_in _ | omega) ?_
        refine ⟨congrArg (fun w => some (aI w)) ?_, rfl⟩
        first | exact b2_td (by omega) | exact b2_fd (by omega)
      · skip
        try simp only [b2_cast, b2_ncast, Classical.not_not, lcm_lt, lcm_ge, lcm_gt, lcm_le, lcm_eq] at h6
        refine V.blk [(30, .bipush 1, 1), (31, .goto 35, 3)] (ps := []) (z' := (35, [some (aR 52), some (aI (p : Int)), some (aI t)], [aI 1], MM N I J)) (by decide +kernel) rfl trivial ?_
        refine V.rz (by decide +kernel) (by first | exact b2_in _ | omega) ?_
        refine ⟨congrArg (fun w => some (aI w)) ?_, rfl⟩
        first | exact b2_td (by omega) | exact b2_fd (by omega)
def RfM (I : MI) : Prop := ∀ k, 2 ≤ k → k < 10 → 0 ≤ I 77 k ∧ I 77 k ≤ 1000
theorem m_no {N : Nat} {I : MI} {J : MJ} {z : Int} (hr : RfM I) (hz : -9 ≤ z ∧ z ≤ -2) : CT 116 [aR 52, aI z] (MM N I J) (QU N J (aI z) (noU I z)) := by
  have hb := hr (-z).toNat (by omega) (by omega)
  refine CT.ofV (n := 2) (ls := [some (aR 52), some (aI z)]) rfl rfl rfl ?_
  refine V.blk [(0, .aload 0, 1), (1, .getfield 10032, 3), (4, .iload 1, 1), (5, .ineg, 1), (6, .dup2, 1), (7, .iaload, 1), (8, .bipush 1, 1), (9, .iadd, 1), (10, .iastore, 1), (11, .iload 1, 1)] (ps := [inR (-z), 0 ≤ (-z) ∧ (-z) < 10, inR ((I 77 ((-z).toNat)) + 1), 0 ≤ (-z) ∧ (-z) < 10]) (z' := (12, [some (aR 52), some (aI z)], [aI z], MM N (ma I 77 (ma (I 77) ((-z).toNat) ((I 77 ((-z).toNat)) + 1))) J)) (by decide +kernel) rfl (show (inR (-z)) ∧ (0 ≤ (-z) ∧ (-z) < 10) ∧ (inR ((I 77 ((-z).toNat)) + 1)) ∧ (0 ≤ (-z) ∧ (-z) < 10) from ⟨(by unfold inR; omega), (by omega), (by unfold inR; omega), (by omega)⟩) ?_
  refine V.nI (fun I1 eI1 => ?_)
  refine V.ri (by decide +kernel) ?_
  exact ⟨rfl, by subst eI1; rfl⟩
def vnU (I : MI) : MI := ma I 52 (ma (I 52) 40 (I 52 40 + 1))
def actMU (I : MI) (w t r u e : Int) : MI := ma (ma (ma (ma (ma (ma I 68 (ma (I 68) (I 52 29).toNat w)) 70 (ma (I 70) (I 52 29).toNat t)) 71 (ma (I 71) (I 52 29).toNat r)) 72 (ma (I 72) (I 52 29).toNat u)) 73 (ma (I 73) (I 52 29).toNat e)) 52 (ma (I 52) 29 (I 52 29 + 1))
theorem m_act {N : Nat} {I : MI} {J : MJ} {w t r u e : Int} (h : 0 ≤ I 52 29 ∧ I 52 29 < 20) (hw : 0 ≤ w ∧ w ≤ 1) : CT 145 [aR 52, aI w, aI t, aI r, aI u, aI e] (MM N I J) (QU N J (aI (I 52 29 + 1)) (actMU I w t r u e)) := by
  refine CT.ofV (n := 6) (ls := [some (aR 52), some (aI w), some (aI t), some (aI r), some (aI u), some (aI e)]) rfl rfl rfl ?_
  refine V.blk [(0, .aload 0, 1), (1, .getfield 10020, 3), (4, .aload 0, 1), (5, .getfield 10029, 3), (8, .iload 1, 1), (9, .bastore, 1), (10, .aload 0, 1), (11, .getfield 10022, 3), (14, .aload 0, 1), (15, .getfield 10029, 3), (18, .iload 2, 1), (19, .iastore, 1), (20, .aload 0, 1), (21, .getfield 10023, 3), (24, .aload 0, 1), (25, .getfield 10029, 3), (28, .iload 3, 1), (29, .iastore, 1), (30, .aload 0, 1), (31, .getfield 10024, 3), (34, .aload 0, 1), (35, .getfield 10029, 3), (38, .iload 4, 2), (40, .iastore, 1), (41, .aload 0, 1), (42, .getfield 10025, 3), (45, .aload 0, 1), (46, .getfield 10029, 3), (49, .iload 5, 2), (51, .iastore, 1), (52, .aload 0, 1), (53, .dup, 1), (54, .getfield 10029, 3), (57, .bipush 1, 1), (58, .iadd, 1), (59, .putfield 10029, 3), (62, .aload 0, 1), (63, .getfield 10029, 3)] (ps := [0 ≤ (I 52 29) ∧ (I 52 29) < 20, 0 ≤ w ∧ w ≤ 1, 0 ≤ ((ma I 68 (ma (I 68) ((I 52 29).toNat) w)) 52 29) ∧ ((ma I 68 (ma (I 68) ((I 52 29).toNat) w)) 52 29) < 20, 0 ≤ ((ma (ma I 68 (ma (I 68) ((I 52 29).toNat) w)) 70 (ma ((ma I 68 (ma (I 68) ((I 52 29).toNat) w)) 70) (((ma I 68 (ma (I 68) ((I 52 29).toNat) w)) 52 29).toNat) t)) 52 29) ∧ ((ma (ma I 68 (ma (I 68) ((I 52 29).toNat) w)) 70 (ma ((ma I 68 (ma (I 68) ((I 52 29).toNat) w)) 70) (((ma I 68 (ma (I 68) ((I 52 29).toNat) w)) 52 29).toNat) t)) 52 29) < 20, 0 ≤ ((ma (ma (ma I 68 (ma (I 68) ((I 52 29).toNat) w)) 70 (ma ((ma I 68 (ma (I 68) ((I 52 29).toNat) w)) 70) (((ma I 68 (ma (I 68) ((I 52 29).toNat) w)) 52 29).toNat) t)) 71 (ma ((ma (ma I 68 (ma (I 68) ((I 52 29).toNat) w)) 70 (ma ((ma I 68 (ma (I 68) ((I 52 29).toNat) w)) 70) (((ma I 68 (ma (I 68) ((I 52 29).toNat) w)) 52 29).toNat) t)) 71) (((ma (ma I 68 (ma (I 68) ((I 52 29).toNat) w)) 70 (ma ((ma I 68 (ma (I 68) ((I 52 29).toNat) w)) 70) (((ma I 68 (ma (I 68) ((I 52 29).toNat) w)) 52 29).toNat) t)) 52 29).toNat) r)) 52 29) ∧ ((ma (ma (ma I 68 (ma (I 68) ((I 52 29).toNat) w)) 70 (ma ((ma I 68 (ma (I 68) ((I 52 29).toNat) w)) 70) (((ma I 68 (ma (I 68) ((I 52 29).toNat) w)) 52 29).toNat) t)) 71 (ma ((ma (ma I 68 (ma (I 68) ((I 52 29).toNat) w)) 70 (ma ((ma I 68 (ma (I 68) ((I 52 29).toNat) w)) 70) (((ma I 68 (ma (I 68) ((I 52 29).toNat) w)) 52 29).toNat) t)) 71) (((ma (ma I 68 (ma (I 68) ((I 52 29).toNat) w)) 70 (ma ((ma I 68 (ma (I 68) ((I 52 29).toNat) w)) 70) (((ma I 68 (ma (I 68) ((I 52 29).toNat) w)) 52 29).toNat) t)) 52 29).toNat) r)) 52 29) < 20, 0 ≤ ((ma (ma (ma (ma I 68 (ma (I 68) ((I 52 29).toNat) w)) 70 (ma ((ma I 68 (ma (I 68) ((I 52 29).toNat) w)) 70) (((ma I 68 (ma (I 68) ((I 52 29).toNat) w)) 52 29).toNat) t)) 71 (ma ((ma (ma I 68 (ma (I 68) ((I 52 29).toNat) w)) 70 (ma ((ma I 68 (ma (I 68) ((I 52 29).toNat) w)) 70) (((ma I 68 (ma (I 68) ((I 52 29).toNat) w)) 52 29).toNat) t)) 71) (((ma (ma I 68 (ma (I 68) ((I 52 29).toNat) w)) 70 (ma ((ma I 68 (ma (I 68) ((I 52 29).toNat) w)) 70) (((ma I 68 (ma (I 68) ((I 52 29).toNat) w)) 52 29).toNat) t)) 52 29).toNat) r)) 72 (ma ((ma (ma (ma I 68 (ma (I 68) ((I 52 29).toNat) w)) 70 (ma ((ma I 68 (ma (I 68) ((I 52 29).toNat) w)) 70) (((ma I 68 (ma (I 68) ((I 52 29).toNat) w)) 52 29).toNat) t)) 71 (ma ((ma (ma I 68 (ma (I 68) ((I 52 29).toNat) w)) 70 (ma ((ma I 68 (ma (I 68) ((I 52 29).toNat) w)) 70) (((ma I 68 (ma (I 68) ((I 52 29).toNat) w)) 52 29).toNat) t)) 71) (((ma (ma I 68 (ma (I 68) ((I 52 29).toNat) w)) 70 (ma ((ma I 68 (ma (I 68) ((I 52 29).toNat) w)) 70) (((ma I 68 (ma (I 68) ((I 52 29).toNat) w)) 52 29).toNat) t)) 52 29).toNat) r)) 72) (((ma (ma (ma I 68 (ma (I 68) ((I 52 29).toNat) w)) 70 (ma ((ma I 68 (ma (I 68) ((I 52 29).toNat) w)) 70) (((ma I 68 (ma (I 68) ((I 52 29).toNat) w)) 52 29).toNat) t)) 71 (ma ((ma (ma I 68 (ma (I 68) ((I 52 29).toNat) w)) 70 (ma ((ma I 68 (ma (I 68) ((I 52 29).toNat) w)) 70) (((ma I 68 (ma (I 68) ((I 52 29).toNat) w)) 52 29).toNat) t)) 71) (((ma (ma I 68 (ma (I 68) ((I 52 29).toNat) w)) 70 (ma ((ma I 68 (ma (I 68) ((I 52 29).toNat) w)) 70) (((ma I 68 (ma (I 68) ((I 52 29).toNat) w)) 52 29).toNat) t)) 52 29).toNat) r)) 52 29).toNat) u)) 52 29) ∧ ((ma (ma (ma (ma I 68 (ma (I 68) ((I 52 29).toNat) w)) 70 (ma ((ma I 68 (ma (I 68) ((I 52 29).toNat) w)) 70) (((ma I 68 (ma (I 68) ((I 52 29).toNat) w)) 52 29).toNat) t)) 71 (ma ((ma (ma I 68 (ma (I 68) ((I 52 29).toNat) w)) 70 (ma ((ma I 68 (ma (I 68) ((I 52 29).toNat) w)) 70) (((ma I 68 (ma (I 68) ((I 52 29).toNat) w)) 52 29).toNat) t)) 71) (((ma (ma I 68 (ma (I 68) ((I 52 29).toNat) w)) 70 (ma ((ma I 68 (ma (I 68) ((I 52 29).toNat) w)) 70) (((ma I 68 (ma (I 68) ((I 52 29).toNat) w)) 52 29).toNat) t)) 52 29).toNat) r)) 72 (ma ((ma (ma (ma I 68 (ma (I 68) ((I 52 29).toNat) w)) 70 (ma ((ma I 68 (ma (I 68) ((I 52 29).toNat) w)) 70) (((ma I 68 (ma (I 68) ((I 52 29).toNat) w)) 52 29).toNat) t)) 71 (ma ((ma (ma I 68 (ma (I 68) ((I 52 29).toNat) w)) 70 (ma ((ma I 68 (ma (I 68) ((I 52 29).toNat) w)) 70) (((ma I 68 (ma (I 68) ((I 52 29).toNat) w)) 52 29).toNat) t)) 71) (((ma (ma I 68 (ma (I 68) ((I 52 29).toNat) w)) 70 (ma ((ma I 68 (ma (I 68) ((I 52 29).toNat) w)) 70) (((ma I 68 (ma (I 68) ((I 52 29).toNat) w)) 52 29).toNat) t)) 52 29).toNat) r)) 72) (((ma (ma (ma I 68 (ma (I 68) ((I 52 29).toNat) w)) 70 (ma ((ma I 68 (ma (I 68) ((I 52 29).toNat) w)) 70) (((ma I 68 (ma (I 68) ((I 52 29).toNat) w)) 52 29).toNat) t)) 71 (ma ((ma (ma I 68 (ma (I 68) ((I 52 29).toNat) w)) 70 (ma ((ma I 68 (ma (I 68) ((I 52 29).toNat) w)) 70) (((ma I 68 (ma (I 68) ((I 52 29).toNat) w)) 52 29).toNat) t)) 71) (((ma (ma I 68 (ma (I 68) ((I 52 29).toNat) w)) 70 (ma ((ma I 68 (ma (I 68) ((I 52 29).toNat) w)) 70) (((ma I 68 (ma (I 68) ((I 52 29).toNat) w)) 52 29).toNat) t)) 52 29).toNat) r)) 52 29).toNat) u)) 52 29) < 20, inR (((ma (ma (ma (ma (ma I 68 (ma (I 68) ((I 52 29).toNat) w)) 70 (ma ((ma I 68 (ma (I 68) ((I 52 29).toNat) w)) 70) (((ma I 68 (ma (I 68) ((I 52 29).toNat) w)) 52 29).toNat) t)) 71 (ma ((ma (ma I 68 (ma (I 68) ((I 52 29).toNat) w)) 70 (ma ((ma I 68 (ma (I 68) ((I 52 29).toNat) w)) 70) (((ma I 68 (ma (I 68) ((I 52 29).toNat) w)) 52 29).toNat) t)) 71) (((ma (ma I 68 (ma (I 68) ((I 52 29).toNat) w)) 70 (ma ((ma I 68 (ma (I 68) ((I 52 29).toNat) w)) 70) (((ma I 68 (ma (I 68) ((I 52 29).toNat) w)) 52 29).toNat) t)) 52 29).toNat) r)) 72 (ma ((ma (ma (ma I 68 (ma (I 68) ((I 52 29).toNat) w)) 70 (ma ((ma I 68 (ma (I 68) ((I 52 29).toNat) w)) 70) (((ma I 68 (ma (I 68) ((I 52 29).toNat) w)) 52 29).toNat) t)) 71 (ma ((ma (ma I 68 (ma (I 68) ((I 52 29).toNat) w)) 70 (ma ((ma I 68 (ma (I 68) ((I 52 29).toNat) w)) 70) (((ma I 68 (ma (I 68) ((I 52 29).toNat) w)) 52 29).toNat) t)) 71) (((ma (ma I 68 (ma (I 68) ((I 52 29).toNat) w)) 70 (ma ((ma I 68 (ma (I 68) ((I 52 29).toNat) w)) 70) (((ma I 68 (ma (I 68) ((I 52 29).toNat) w)) 52 29).toNat) t)) 52 29).toNat) r)) 72) (((ma (ma (ma I 68 (ma (I 68) ((I 52 29).toNat) w)) 70 (ma ((ma I 68 (ma (I 68) ((I 52 29).toNat) w)) 70) (((ma I 68 (ma (I 68) ((I 52 29).toNat) w)) 52 29).toNat) t)) 71 (ma ((ma (ma I 68 (ma (I 68) ((I 52 29).toNat) w)) 70 (ma ((ma I 68 (ma (I 68) ((I 52 29).toNat) w)) 70) (((ma I 68 (ma (I 68) ((I 52 29).toNat) w)) 52 29).toNat) t)) 71) (((ma (ma I 68 (ma (I 68) ((I 52 29).toNat) w)) 70 (ma ((ma I 68 (ma (I 68) ((I 52 29).toNat) w)) 70) (((ma I 68 (ma (I 68) ((I 52 29).toNat) w)) 52 29).toNat) t)) 52 29).toNat) r)) 52 29).toNat) u)) 73 (ma ((ma (ma (ma (ma I 68 (ma (I 68) ((I 52 29).toNat) w)) 70 (ma ((ma I 68 (ma (I 68) ((I 52 29).toNat) w)) 70) (((ma I 68 (ma (I 68) ((I 52 29).toNat) w)) 52 29).toNat) t)) 71 (ma ((ma (ma I 68 (ma (I 68) ((I 52 29).toNat) w)) 70 (ma ((ma I 68 (ma (I 68) ((I 52 29).toNat) w)) 70) (((ma I 68 (ma (I 68) ((I 52 29).toNat) w)) 52 29).toNat) t)) 71) (((ma (ma I 68 (ma (I 68) ((I 52 29).toNat) w)) 70 (ma ((ma I 68 (ma (I 68) ((I 52 29).toNat) w)) 70) (((ma I 68 (ma (I 68) ((I 52 29).toNat) w)) 52 29).toNat) t)) 52 29).toNat) r)) 72 (ma ((ma (ma (ma I 68 (ma (I 68) ((I 52 29).toNat) w)) 70 (ma ((ma I 68 (ma (I 68) ((I 52 29).toNat) w)) 70) (((ma I 68 (ma (I 68) ((I 52 29).toNat) w)) 52 29).toNat) t)) 71 (ma ((ma (ma I 68 (ma (I 68) ((I 52 29).toNat) w)) 70 (ma ((ma I 68 (ma (I 68) ((I 52 29).toNat) w)) 70) (((ma I 68 (ma (I 68) ((I 52 29).toNat) w)) 52 29).toNat) t)) 71) (((ma (ma I 68 (ma (I 68) ((I 52 29).toNat) w)) 70 (ma ((ma I 68 (ma (I 68) ((I 52 29).toNat) w)) 70) (((ma I 68 (ma (I 68) ((I 52 29).toNat) w)) 52 29).toNat) t)) 52 29).toNat) r)) 72) (((ma (ma (ma I 68 (ma (I 68) ((I 52 29).toNat) w)) 70 (ma ((ma I 68 (ma (I 68) ((I 52 29).toNat) w)) 70) (((ma I 68 (ma (I 68) ((I 52 29).toNat) w)) 52 29).toNat) t)) 71 (ma ((ma (ma I 68 (ma (I 68) ((I 52 29).toNat) w)) 70 (ma ((ma I 68 (ma (I 68) ((I 52 29).toNat) w)) 70) (((ma I 68 (ma (I 68) ((I 52 29).toNat) w)) 52 29).toNat) t)) 71) (((ma (ma I 68 (ma (I 68) ((I 52 29).toNat) w)) 70 (ma ((ma I 68 (ma (I 68) ((I 52 29).toNat) w)) 70) (((ma I 68 (ma (I 68) ((I 52 29).toNat) w)) 52 29).toNat) t)) 52 29).toNat) r)) 52 29).toNat) u)) 73) (((ma (ma (ma (ma I 68 (ma (I 68) ((I 52 29).toNat) w)) 70 (ma ((ma I 68 (ma (I 68) ((I 52 29).toNat) w)) 70) (((ma I 68 (ma (I 68) ((I 52 29).toNat) w)) 52 29).toNat) t)) 71 (ma ((ma (ma I 68 (ma (I 68) ((I 52 29).toNat) w)) 70 (ma ((ma I 68 (ma (I 68) ((I 52 29).toNat) w)) 70) (((ma I 68 (ma (I 68) ((I 52 29).toNat) w)) 52 29).toNat) t)) 71) (((ma (ma I 68 (ma (I 68) ((I 52 29).toNat) w)) 70 (ma ((ma I 68 (ma (I 68) ((I 52 29).toNat) w)) 70) (((ma I 68 (ma (I 68) ((I 52 29).toNat) w)) 52 29).toNat) t)) 52 29).toNat) r)) 72 (ma ((ma (ma (ma I 68 (ma (I 68) ((I 52 29).toNat) w)) 70 (ma ((ma I 68 (ma (I 68) ((I 52 29).toNat) w)) 70) (((ma I 68 (ma (I 68) ((I 52 29).toNat) w)) 52 29).toNat) t)) 71 (ma ((ma (ma I 68 (ma (I 68) ((I 52 29).toNat) w)) 70 (ma ((ma I 68 (ma (I 68) ((I 52 29).toNat) w)) 70) (((ma I 68 (ma (I 68) ((I 52 29).toNat) w)) 52 29).toNat) t)) 71) (((ma (ma I 68 (ma (I 68) ((I 52 29).toNat) w)) 70 (ma ((ma I 68 (ma (I 68) ((I 52 29).toNat) w)) 70) (((ma I 68 (ma (I 68) ((I 52 29).toNat) w)) 52 29).toNat) t)) 52 29).toNat) r)) 72) (((ma (ma (ma I 68 (ma (I 68) ((I 52 29).toNat) w)) 70 (ma ((ma I 68 (ma (I 68) ((I 52 29).toNat) w)) 70) (((ma I 68 (ma (I 68) ((I 52 29).toNat) w)) 52 29).toNat) t)) 71 (ma ((ma (ma I 68 (ma (I 68) ((I 52 29).toNat) w)) 70 (ma ((ma I 68 (ma (I 68) ((I 52 29).toNat) w)) 70) (((ma I 68 (ma (I 68) ((I 52 29).toNat) w)) 52 29).toNat) t)) 71) (((ma (ma I 68 (ma (I 68) ((I 52 29).toNat) w)) 70 (ma ((ma I 68 (ma (I 68) ((I 52 29).toNat) w)) 70) (((ma I 68 (ma (I 68) ((I 52 29).toNat) w)) 52 29).toNat) t)) 52 29).toNat) r)) 52 29).toNat) u)) 52 29).toNat) e)) 52 29) + 1)]) (z' := (66, [some (aR 52), some (aI w), some (aI t), some (aI r), some (aI u), some (aI e)], [aI ((ma (ma (ma (ma (ma (ma I 68 (ma (I 68) ((I 52 29).toNat) w)) 70 (ma ((ma I 68 (ma (I 68) ((I 52 29).toNat) w)) 70) (((ma I 68 (ma (I 68) ((I 52 29).toNat) w)) 52 29).toNat) t)) 71 (ma ((ma (ma I 68 (ma (I 68) ((I 52 29).toNat) w)) 70 (ma ((ma I 68 (ma (I 68) ((I 52 29).toNat) w)) 70) (((ma I 68 (ma (I 68) ((I 52 29).toNat) w)) 52 29).toNat) t)) 71) (((ma (ma I 68 (ma (I 68) ((I 52 29).toNat) w)) 70 (ma ((ma I 68 (ma (I 68) ((I 52 29).toNat) w)) 70) (((ma I 68 (ma (I 68) ((I 52 29).toNat) w)) 52 29).toNat) t)) 52 29).toNat) r)) 72 (ma ((ma (ma (ma I 68 (ma (I 68) ((I 52 29).toNat) w)) 70 (ma ((ma I 68 (ma (I 68) ((I 52 29).toNat) w)) 70) (((ma I 68 (ma (I 68) ((I 52 29).toNat) w)) 52 29).toNat) t)) 71 (ma ((ma (ma I 68 (ma (I 68) ((I 52 29).toNat) w)) 70 (ma ((ma I 68 (ma (I 68) ((I 52 29).toNat) w)) 70) (((ma I 68 (ma (I 68) ((I 52 29).toNat) w)) 52 29).toNat) t)) 71) (((ma (ma I 68 (ma (I 68) ((I 52 29).toNat) w)) 70 (ma ((ma I 68 (ma (I 68) ((I 52 29).toNat) w)) 70) (((ma I 68 (ma (I 68) ((I 52 29).toNat) w)) 52 29).toNat) t)) 52 29).toNat) r)) 72) (((ma (ma (ma I 68 (ma (I 68) ((I 52 29).toNat) w)) 70 (ma ((ma I 68 (ma (I 68) ((I 52 29).toNat) w)) 70) (((ma I 68 (ma (I 68) ((I 52 29).toNat) w)) 52 29).toNat) t)) 71 (ma ((ma (ma I 68 (ma (I 68) ((I 52 29).toNat) w)) 70 (ma ((ma I 68 (ma (I 68) ((I 52 29).toNat) w)) 70) (((ma I 68 (ma (I 68) ((I 52 29).toNat) w)) 52 29).toNat) t)) 71) (((ma (ma I 68 (ma (I 68) ((I 52 29).toNat) w)) 70 (ma ((ma I 68 (ma (I 68) ((I 52 29).toNat) w)) 70) (((ma I 68 (ma (I 68) ((I 52 29).toNat) w)) 52 29).toNat) t)) 52 29).toNat) r)) 52 29).toNat) u)) 73 (ma ((ma (ma (ma (ma I 68 (ma (I 68) ((I 52 29).toNat) w)) 70 (ma ((ma I 68 (ma (I 68) ((I 52 29).toNat) w)) 70) (((ma I 68 (ma (I 68) ((I 52 29).toNat) w)) 52 29).toNat) t)) 71 (ma ((ma (ma I 68 (ma (I 68) ((I 52 29).toNat) w)) 70 (ma ((ma I 68 (ma (I 68) ((I 52 29).toNat) w)) 70) (((ma I 68 (ma (I 68) ((I 52 29).toNat) w)) 52 29).toNat) t)) 71) (((ma (ma I 68 (ma (I 68) ((I 52 29).toNat) w)) 70 (ma ((ma I 68 (ma (I 68) ((I 52 29).toNat) w)) 70) (((ma I 68 (ma (I 68) ((I 52 29).toNat) w)) 52 29).toNat) t)) 52 29).toNat) r)) 72 (ma ((ma (ma (ma I 68 (ma (I 68) ((I 52 29).toNat) w)) 70 (ma ((ma I 68 (ma (I 68) ((I 52 29).toNat) w)) 70) (((ma I 68 (ma (I 68) ((I 52 29).toNat) w)) 52 29).toNat) t)) 71 (ma ((ma (ma I 68 (ma (I 68) ((I 52 29).toNat) w)) 70 (ma ((ma I 68 (ma (I 68) ((I 52 29).toNat) w)) 70) (((ma I 68 (ma (I 68) ((I 52 29).toNat) w)) 52 29).toNat) t)) 71) (((ma (ma I 68 (ma (I 68) ((I 52 29).toNat) w)) 70 (ma ((ma I 68 (ma (I 68) ((I 52 29).toNat) w)) 70) (((ma I 68 (ma (I 68) ((I 52 29).toNat) w)) 52 29).toNat) t)) 52 29).toNat) r)) 72) (((ma (ma (ma I 68 (ma (I 68) ((I 52 29).toNat) w)) 70 (ma ((ma I 68 (ma (I 68) ((I 52 29).toNat) w)) 70) (((ma I 68 (ma (I 68) ((I 52 29).toNat) w)) 52 29).toNat) t)) 71 (ma ((ma (ma I 68 (ma (I 68) ((I 52 29).toNat) w)) 70 (ma ((ma I 68 (ma (I 68) ((I 52 29).toNat) w)) 70) (((ma I 68 (ma (I 68) ((I 52 29).toNat) w)) 52 29).toNat) t)) 71) (((ma (ma I 68 (ma (I 68) ((I 52 29).toNat) w)) 70 (ma ((ma I 68 (ma (I 68) ((I 52 29).toNat) w)) 70) (((ma I 68 (ma (I 68) ((I 52 29).toNat) w)) 52 29).toNat) t)) 52 29).toNat) r)) 52 29).toNat) u)) 73) (((ma (ma (ma (ma I 68 (ma (I 68) ((I 52 29).toNat) w)) 70 (ma ((ma I 68 (ma (I 68) ((I 52 29).toNat) w)) 70) (((ma I 68 (ma (I 68) ((I 52 29).toNat) w)) 52 29).toNat) t)) 71 (ma ((ma (ma I 68 (ma (I 68) ((I 52 29).toNat) w)) 70 (ma ((ma I 68 (ma (I 68) ((I 52 29).toNat) w)) 70) (((ma I 68 (ma (I 68) ((I 52 29).toNat) w)) 52 29).toNat) t)) 71) (((ma (ma I 68 (ma (I 68) ((I 52 29).toNat) w)) 70 (ma ((ma I 68 (ma (I 68) ((I 52 29).toNat) w)) 70) (((ma I 68 (ma (I 68) ((I 52 29).toNat) w)) 52 29).toNat) t)) 52 29).toNat) r)) 72 (ma ((ma (ma (ma I 68 (ma (I 68) ((I 52 29).toNat) w)) 70 (ma ((ma I 68 (ma (I 68) ((I 52 29).toNat) w)) 70) (((ma I 68 (ma (I 68) ((I 52 29).toNat) w)) 52 29).toNat) t)) 71 (ma ((ma (ma I 68 (ma (I 68) ((I 52 29).toNat) w)) 70 (ma ((ma I 68 (ma (I 68) ((I 52 29).toNat) w)) 70) (((ma I 68 (ma (I 68) ((I 52 29).toNat) w)) 52 29).toNat) t)) 71) (((ma (ma I 68 (ma (I 68) ((I 52 29).toNat) w)) 70 (ma ((ma I 68 (ma (I 68) ((I 52 29).toNat) w)) 70) (((ma I 68 (ma (I 68) ((I 52 29).toNat) w)) 52 29).toNat) t)) 52 29).toNat) r)) 72) (((ma (ma (ma I 68 (ma (I 68) ((I 52 29).toNat) w)) 70 (ma ((ma I 68 (ma (I 68) ((I 52 29).toNat) w)) 70) (((ma I 68 (ma (I 68) ((I 52 29).toNat) w)) 52 29).toNat) t)) 71 (ma ((ma (ma I 68 (ma (I 68) ((I 52 29).toNat) w)) 70 (ma ((ma I 68 (ma (I 68) ((I 52 29).toNat) w)) 70) (((ma I 68 (ma (I 68) ((I 52 29).toNat) w)) 52 29).toNat) t)) 71) (((ma (ma I 68 (ma (I 68) ((I 52 29).toNat) w)) 70 (ma ((ma I 68 (ma (I 68) ((I 52 29).toNat) w)) 70) (((ma I 68 (ma (I 68) ((I 52 29).toNat) w)) 52 29).toNat) t)) 52 29).toNat) r)) 52 29).toNat) u)) 52 29).toNat) e)) 52 (ma ((ma (ma (ma (ma (ma I 68 (ma (I 68) ((I 52 29).toNat) w)) 70 (ma ((ma I 68 (ma (I 68) ((I 52 29).toNat) w)) 70) (((ma I 68 (ma (I 68) ((I 52 29).toNat) w)) 52 29).toNat) t)) 71 (ma ((ma (ma I 68 (ma (I 68) ((I 52 29).toNat) w)) 70 (ma ((ma I 68 (ma (I 68) ((I 52 29).toNat) w)) 70) (((ma I 68 (ma (I 68) ((I 52 29).toNat) w)) 52 29).toNat) t)) 71) (((ma (ma I 68 (ma (I 68) ((I 52 29).toNat) w)) 70 (ma ((ma I 68 (ma (I 68) ((I 52 29).toNat) w)) 70) (((ma I 68 (ma (I 68) ((I 52 29).toNat) w)) 52 29).toNat) t)) 52 29).toNat) r)) 72 (ma ((ma (ma (ma I 68 (ma (I 68) ((I 52 29).toNat) w)) 70 (ma ((ma I 68 (ma (I 68) ((I 52 29).toNat) w)) 70) (((ma I 68 (ma (I 68) ((I 52 29).toNat) w)) 52 29).toNat) t)) 71 (ma ((ma (ma I 68 (ma (I 68) ((I 52 29).toNat) w)) 70 (ma ((ma I 68 (ma (I 68) ((I 52 29).toNat) w)) 70) (((ma I 68 (ma (I 68) ((I 52 29).toNat) w)) 52 29).toNat) t)) 71) (((ma (ma I 68 (ma (I 68) ((I 52 29).toNat) w)) 70 (ma ((ma I 68 (ma (I 68) ((I 52 29).toNat) w)) 70) (((ma I 68 (ma (I 68) ((I 52 29).toNat) w)) 52 29).toNat) t)) 52 29).toNat) r)) 72) (((ma (ma (ma I 68 (ma (I 68) ((I 52 29).toNat) w)) 70 (ma ((ma I 68 (ma (I 68) ((I 52 29).toNat) w)) 70) (((ma I 68 (ma (I 68) ((I 52 29).toNat) w)) 52 29).toNat) t)) 71 (ma ((ma (ma I 68 (ma (I 68) ((I 52 29).toNat) w)) 70 (ma ((ma I 68 (ma (I 68) ((I 52 29).toNat) w)) 70) (((ma I 68 (ma (I 68) ((I 52 29).toNat) w)) 52 29).toNat) t)) 71) (((ma (ma I 68 (ma (I 68) ((I 52 29).toNat) w)) 70 (ma ((ma I 68 (ma (I 68) ((I 52 29).toNat) w)) 70) (((ma I 68 (ma (I 68) ((I 52 29).toNat) w)) 52 29).toNat) t)) 52 29).toNat) r)) 52 29).toNat) u)) 73 (ma ((ma (ma (ma (ma I 68 (ma (I 68) ((I 52 29).toNat) w)) 70 (ma ((ma I 68 (ma (I 68) ((I 52 29).toNat) w)) 70) (((ma I 68 (ma (I 68) ((I 52 29).toNat) w)) 52 29).toNat) t)) 71 (ma ((ma (ma I 68 (ma (I 68) ((I 52 29).toNat) w)) 70 (ma ((ma I 68 (ma (I 68) ((I 52 29).toNat) w)) 70) (((ma I 68 (ma (I 68) ((I 52 29).toNat) w)) 52 29).toNat) t)) 71) (((ma (ma I 68 (ma (I 68) ((I 52 29).toNat) w)) 70 (ma ((ma I 68 (ma (I 68) ((I 52 29).toNat) w)) 70) (((ma I 68 (ma (I 68) ((I 52 29).toNat) w)) 52 29).toNat) t)) 52 29).toNat) r)) 72 (ma ((ma (ma (ma I 68 (ma (I 68) ((I 52 29).toNat) w)) 70 (ma ((ma I 68 (ma (I 68) ((I 52 29).toNat) w)) 70) (((ma I 68 (ma (I 68) ((I 52 29).toNat) w)) 52 29).toNat) t)) 71 (ma ((ma (ma I 68 (ma (I 68) ((I 52 29).toNat) w)) 70 (ma ((ma I 68 (ma (I 68) ((I 52 29).toNat) w)) 70) (((ma I 68 (ma (I 68) ((I 52 29).toNat) w)) 52 29).toNat) t)) 71) (((ma (ma I 68 (ma (I 68) ((I 52 29).toNat) w)) 70 (ma ((ma I 68 (ma (I 68) ((I 52 29).toNat) w)) 70) (((ma I 68 (ma (I 68) ((I 52 29).toNat) w)) 52 29).toNat) t)) 52 29).toNat) r)) 72) (((ma (ma (ma I 68 (ma (I 68) ((I 52 29).toNat) w)) 70 (ma ((ma I 68 (ma (I 68) ((I 52 29).toNat) w)) 70) (((ma I 68 (ma (I 68) ((I 52 29).toNat) w)) 52 29).toNat) t)) 71 (ma ((ma (ma I 68 (ma (I 68) ((I 52 29).toNat) w)) 70 (ma ((ma I 68 (ma (I 68) ((I 52 29).toNat) w)) 70) (((ma I 68 (ma (I 68) ((I 52 29).toNat) w)) 52 29).toNat) t)) 71) (((ma (ma I 68 (ma (I 68) ((I 52 29).toNat) w)) 70 (ma ((ma I 68 (ma (I 68) ((I 52 29).toNat) w)) 70) (((ma I 68 (ma (I 68) ((I 52 29).toNat) w)) 52 29).toNat) t)) 52 29).toNat) r)) 52 29).toNat) u)) 73) (((ma (ma (ma (ma I 68 (ma (I 68) ((I 52 29).toNat) w)) 70 (ma ((ma I 68 (ma (I 68) ((I 52 29).toNat) w)) 70) (((ma I 68 (ma (I 68) ((I 52 29).toNat) w)) 52 29).toNat) t)) 71 (ma ((ma (ma I 68 (ma (I 68) ((I 52 29).toNat) w)) 70 (ma ((ma I 68 (ma (I 68) ((I 52 29).toNat) w)) 70) (((ma I 68 (ma (I 68) ((I 52 29).toNat) w)) 52 29).toNat) t)) 71) (((ma (ma I 68 (ma (I 68) ((I 52 29).toNat) w)) 70 (ma ((ma I 68 (ma (I 68) ((I 52 29).toNat) w)) 70) (((ma I 68 (ma (I 68) ((I 52 29).toNat) w)) 52 29).toNat) t)) 52 29).toNat) r)) 72 (ma ((ma (ma (ma I 68 (ma (I 68) ((I 52 29).toNat) w)) 70 (ma ((ma I 68 (ma (I 68) ((I 52 29).toNat) w)) 70) (((ma I 68 (ma (I 68) ((I 52 29).toNat) w)) 52 29).toNat) t)) 71 (ma ((ma (ma I 68 (ma (I 68) ((I 52 29).toNat) w)) 70 (ma ((ma I 68 (ma (I 68) ((I 52 29).toNat) w)) 70) (((ma I 68 (ma (I 68) ((I 52 29).toNat) w)) 52 29).toNat) t)) 71) (((ma (ma I 68 (ma (I 68) ((I 52 29).toNat) w)) 70 (ma ((ma I 68 (ma (I 68) ((I 52 29).toNat) w)) 70) (((ma I 68 (ma (I 68) ((I 52 29).toNat) w)) 52 29).toNat) t)) 52 29).toNat) r)) 72) (((ma (ma (ma I 68 (ma (I 68) ((I 52 29).toNat) w)) 70 (ma ((ma I 68 (ma (I 68) ((I 52 29).toNat) w)) 70) (((ma I 68 (ma (I 68) ((I 52 29).toNat) w)) 52 29).toNat) t)) 71 (ma ((ma (ma I 68 (ma (I 68) ((I 52 29).toNat) w)) 70 (ma ((ma I 68 (ma (I 68) ((I 52 29).toNat) w)) 70) (((ma I 68 (ma (I 68) ((I 52 29).toNat) w)) 52 29).toNat) t)) 71) (((ma (ma I 68 (ma (I 68) ((I 52 29).toNat) w)) 70 (ma ((ma I 68 (ma (I 68) ((I 52 29).toNat) w)) 70) (((ma I 68 (ma (I 68) ((I 52 29).toNat) w)) 52 29).toNat) t)) 52 29).toNat) r)) 52 29).toNat) u)) 52 29).toNat) e)) 52) 29 (((ma (ma (ma (ma (ma I 68 (ma (I 68) ((I 52 29).toNat) w)) 70 (ma ((ma I 68 (ma (I 68) ((I 52 29).toNat) w)) 70) (((ma I 68 (ma (I 68) ((I 52 29).toNat) w)) 52 29).toNat) t)) 71 (ma ((ma (ma I 68 (ma (I 68) ((I 52 29).toNat) w)) 70 (ma ((ma I 68 (ma (I 68) ((I 52 29).toNat) w)) 70) (((ma I 68 (ma (I 68) ((I 52 29).toNat) w)) 52 29).toNat) t)) 71) (((ma (ma I 68 (ma (I 68) ((I 52 29).toNat) w)) 70 (ma ((ma I 68 (ma (I 68) ((I 52 29).toNat) w)) 70) (((ma I 68 (ma (I 68) ((I 52 29).toNat) w)) 52 29).toNat) t)) 52 29).toNat) r)) 72 (ma ((ma (ma (ma I 68 (ma (I 68) ((I 52 29).toNat) w)) 70 (ma ((ma I 68 (ma (I 68) ((I 52 29).toNat) w)) 70) (((ma I 68 (ma (I 68) ((I 52 29).toNat) w)) 52 29).toNat) t)) 71 (ma ((ma (ma I 68 (ma (I 68) ((I 52 29).toNat) w)) 70 (ma ((ma I 68 (ma (I 68) ((I 52 29).toNat) w)) 70) (((ma I 68 (ma (I 68) ((I 52 29).toNat) w)) 52 29).toNat) t)) 71) (((ma (ma I 68 (ma (I 68) ((I 52 29).toNat) w)) 70 (ma ((ma I 68 (ma (I 68) ((I 52 29).toNat) w)) 70) (((ma I 68 (ma (I 68) ((I 52 29).toNat) w)) 52 29).toNat) t)) 52 29).toNat) r)) 72) (((ma (ma (ma I 68 (ma (I 68) ((I 52 29).toNat) w)) 70 (ma ((ma I 68 (ma (I 68) ((I 52 29).toNat) w)) 70) (((ma I 68 (ma (I 68) ((I 52 29).toNat) w)) 52 29).toNat) t)) 71 (ma ((ma (ma I 68 (ma (I 68) ((I 52 29).toNat) w)) 70 (ma ((ma I 68 (ma (I 68) ((I 52 29).toNat) w)) 70) (((ma I 68 (ma (I 68) ((I 52 29).toNat) w)) 52 29).toNat) t)) 71) (((ma (ma I 68 (ma (I 68) ((I 52 29).toNat) w)) 70 (ma ((ma I 68 (ma (I 68) ((I 52 29).toNat) w)) 70) (((ma I 68 (ma (I 68) ((I 52 29).toNat) w)) 52 29).toNat) t)) 52 29).toNat) r)) 52 29).toNat) u)) 73 (ma ((ma (ma (ma (ma I 68 (ma (I 68) ((I 52 29).toNat) w)) 70 (ma ((ma I 68 (ma (I 68) ((I 52 29).toNat) w)) 70) (((ma I 68 (ma (I 68) ((I 52 29).toNat) w)) 52 29).toNat) t)) 71 (ma ((ma (ma I 68 (ma (I 68) ((I 52 29).toNat) w)) 70 (ma ((ma I 68 (ma (I 68) ((I 52 29).toNat) w)) 70) (((ma I 68 (ma (I 68) ((I 52 29).toNat) w)) 52 29).toNat) t)) 71) (((ma (ma I 68 (ma (I 68) ((I 52 29).toNat) w)) 70 (ma ((ma I 68 (ma (I 68) ((I 52 29).toNat) w)) 70) (((ma I 68 (ma (I 68) ((I 52 29).toNat) w)) 52 29).toNat) t)) 52 29).toNat) r)) 72 (ma ((ma (ma (ma I 68 (ma (I 68) ((I 52 29).toNat) w)) 70 (ma ((ma I 68 (ma (I 68) ((I 52 29).toNat) w)) 70) (((ma I 68 (ma (I 68) ((I 52 29).toNat) w)) 52 29).toNat) t)) 71 (ma ((ma (ma I 68 (ma (I 68) ((I 52 29).toNat) w)) 70 (ma ((ma I 68 (ma (I 68) ((I 52 29).toNat) w)) 70) (((ma I 68 (ma (I 68) ((I 52 29).toNat) w)) 52 29).toNat) t)) 71) (((ma (ma I 68 (ma (I 68) ((I 52 29).toNat) w)) 70 (ma ((ma I 68 (ma (I 68) ((I 52 29).toNat) w)) 70) (((ma I 68 (ma (I 68) ((I 52 29).toNat) w)) 52 29).toNat) t)) 52 29).toNat) r)) 72) (((ma (ma (ma I 68 (ma (I 68) ((I 52 29).toNat) w)) 70 (ma ((ma I 68 (ma (I 68) ((I 52 29).toNat) w)) 70) (((ma I 68 (ma (I 68) ((I 52 29).toNat) w)) 52 29).toNat) t)) 71 (ma ((ma (ma I 68 (ma (I 68) ((I 52 29).toNat) w)) 70 (ma ((ma I 68 (ma (I 68) ((I 52 29).toNat) w)) 70) (((ma I 68 (ma (I 68) ((I 52 29).toNat) w)) 52 29).toNat) t)) 71) (((ma (ma I 68 (ma (I 68) ((I 52 29).toNat) w)) 70 (ma ((ma I 68 (ma (I 68) ((I 52 29).toNat) w)) 70) (((ma I 68 (ma (I 68) ((I 52 29).toNat) w)) 52 29).toNat) t)) 52 29).toNat) r)) 52 29).toNat) u)) 73) (((ma (ma (ma (ma I 68 (ma (I 68) ((I 52 29).toNat) w)) 70 (ma ((ma I 68 (ma (I 68) ((I 52 29).toNat) w)) 70) (((ma I 68 (ma (I 68) ((I 52 29).toNat) w)) 52 29).toNat) t)) 71 (ma ((ma (ma I 68 (ma (I 68) ((I 52 29).toNat) w)) 70 (ma ((ma I 68 (ma (I 68) ((I 52 29).toNat) w)) 70) (((ma I 68 (ma (I 68) ((I 52 29).toNat) w)) 52 29).toNat) t)) 71) (((ma (ma I 68 (ma (I 68) ((I 52 29).toNat) w)) 70 (ma ((ma I 68 (ma (I 68) ((I 52 29).toNat) w)) 70) (((ma I 68 (ma (I 68) ((I 52 29).toNat) w)) 52 29).toNat) t)) 52 29).toNat) r)) 72 (ma ((ma (ma (ma I 68 (ma (I 68) ((I 52 29).toNat) w)) 70 (ma ((ma I 68 (ma (I 68) ((I 52 29).toNat) w)) 70) (((ma I 68 (ma (I 68) ((I 52 29).toNat) w)) 52 29).toNat) t)) 71 (ma ((ma (ma I 68 (ma (I 68) ((I 52 29).toNat) w)) 70 (ma ((ma I 68 (ma (I 68) ((I 52 29).toNat) w)) 70) (((ma I 68 (ma (I 68) ((I 52 29).toNat) w)) 52 29).toNat) t)) 71) (((ma (ma I 68 (ma (I 68) ((I 52 29).toNat) w)) 70 (ma ((ma I 68 (ma (I 68) ((I 52 29).toNat) w)) 70) (((ma I 68 (ma (I 68) ((I 52 29).toNat) w)) 52 29).toNat) t)) 52 29).toNat) r)) 72) (((ma (ma (ma I 68 (ma (I 68) ((I 52 29).toNat) w)) 70 (ma ((ma I 68 (ma (I 68) ((I 52 29).toNat) w)) 70) (((ma I 68 (ma (I 68) ((I 52 29).toNat) w)) 52 29).toNat) t)) 71 (ma ((ma (ma I 68 (ma (I 68) ((I 52 29).toNat) w)) 70 (ma ((ma I 68 (ma (I 68) ((I 52 29).toNat) w)) 70) (((ma I 68 (ma (I 68) ((I 52 29).toNat) w)) 52 29).toNat) t)) 71) (((ma (ma I 68 (ma (I 68) ((I 52 29).toNat) w)) 70 (ma ((ma I 68 (ma (I 68) ((I 52 29).toNat) w)) 70) (((ma I 68 (ma (I 68) ((I 52 29).toNat) w)) 52 29).toNat) t)) 52 29).toNat) r)) 52 29).toNat) u)) 52 29).toNat) e)) 52 29) + 1))) 52 29)], MM N (ma (ma (ma (ma (ma (ma I 68 (ma (I 68) ((I 52 29).toNat) w)) 70 (ma ((ma I 68 (ma (I 68) ((I 52 29).toNat) w)) 70) (((ma I 68 (ma (I 68) ((I 52 29).toNat) w)) 52 29).toNat) t)) 71 (ma ((ma (ma I 68 (ma (I 68) ((I 52 29).toNat) w)) 70 (ma ((ma I 68 (ma (I 68) ((I 52 29).toNat) w)) 70) (((ma I 68 (ma (I 68) ((I 52 29).toNat) w)) 52 29).toNat) t)) 71) (((ma (ma I 68 (ma (I 68) ((I 52 29).toNat) w)) 70 (ma ((ma I 68 (ma (I 68) ((I 52 29).toNat) w)) 70) (((ma I 68 (ma (I 68) ((I 52 29).toNat) w)) 52 29).toNat) t)) 52 29).toNat) r)) 72 (ma ((ma (ma (ma I 68 (ma (I 68) ((I 52 29).toNat) w)) 70 (ma ((ma I 68 (ma (I 68) ((I 52 29).toNat) w)) 70) (((ma I 68 (ma (I 68) ((I 52 29).toNat) w)) 52 29).toNat) t)) 71 (ma ((ma (ma I 68 (ma (I 68) ((I 52 29).toNat) w)) 70 (ma ((ma I 68 (ma (I 68) ((I 52 29).toNat) w)) 70) (((ma I 68 (ma (I 68) ((I 52 29).toNat) w)) 52 29).toNat) t)) 71) (((ma (ma I 68 (ma (I 68) ((I 52 29).toNat) w)) 70 (ma ((ma I 68 (ma (I 68) ((I 52 29).toNat) w)) 70) (((ma I 68 (ma (I 68) ((I 52 29).toNat) w)) 52 29).toNat) t)) 52 29).toNat) r)) 72) (((ma (ma (ma I 68 (ma (I 68) ((I 52 29).toNat) w)) 70 (ma ((ma I 68 (ma (I 68) ((I 52 29).toNat) w)) 70) (((ma I 68 (ma (I 68) ((I 52 29).toNat) w)) 52 29).toNat) t)) 71 (ma ((ma (ma I 68 (ma (I 68) ((I 52 29).toNat) w)) 70 (ma ((ma I 68 (ma (I 68) ((I 52 29).toNat) w)) 70) (((ma I 68 (ma (I 68) ((I 52 29).toNat) w)) 52 29).toNat) t)) 71) (((ma (ma I 68 (ma (I 68) ((I 52 29).toNat) w)) 70 (ma ((ma I 68 (ma (I 68) ((I 52 29).toNat) w)) 70) (((ma I 68 (ma (I 68) ((I 52 29).toNat) w)) 52 29).toNat) t)) 52 29).toNat) r)) 52 29).toNat) u)) 73 (ma ((ma (ma (ma (ma I 68 (ma (I 68) ((I 52 29).toNat) w)) 70 (ma ((ma I 68 (ma (I 68) ((I 52 29).toNat) w)) 70) (((ma I 68 (ma (I 68) ((I 52 29).toNat) w)) 52 29).toNat) t)) 71 (ma ((ma (ma I 68 (ma (I 68) ((I 52 29).toNat) w)) 70 (ma ((ma I 68 (ma (I 68) ((I 52 29).toNat) w)) 70) (((ma I 68 (ma (I 68) ((I 52 29).toNat) w)) 52 29).toNat) t)) 71) (((ma (ma I 68 (ma (I 68) ((I 52 29).toNat) w)) 70 (ma ((ma I 68 (ma (I 68) ((I 52 29).toNat) w)) 70) (((ma I 68 (ma (I 68) ((I 52 29).toNat) w)) 52 29).toNat) t)) 52 29).toNat) r)) 72 (ma ((ma (ma (ma I 68 (ma (I 68) ((I 52 29).toNat) w)) 70 (ma ((ma I 68 (ma (I 68) ((I 52 29).toNat) w)) 70) (((ma I 68 (ma (I 68) ((I 52 29).toNat) w)) 52 29).toNat) t)) 71 (ma ((ma (ma I 68 (ma (I 68) ((I 52 29).toNat) w)) 70 (ma ((ma I 68 (ma (I 68) ((I 52 29).toNat) w)) 70) (((ma I 68 (ma (I 68) ((I 52 29).toNat) w)) 52 29).toNat) t)) 71) (((ma (ma I 68 (ma (I 68) ((I 52 29).toNat) w)) 70 (ma ((ma I 68 (ma (I 68) ((I 52 29).toNat) w)) 70) (((ma I 68 (ma (I 68) ((I 52 29).toNat) w)) 52 29).toNat) t)) 52 29).toNat) r)) 72) (((ma (ma (ma I 68 (ma (I 68) ((I 52 29).toNat) w)) 70 (ma ((ma I 68 (ma (I 68) ((I 52 29).toNat) w)) 70) (((ma I 68 (ma (I 68) ((I 52 29).toNat) w)) 52 29).toNat) t)) 71 (ma ((ma (ma I 68 (ma (I 68) ((I 52 29).toNat) w)) 70 (ma ((ma I 68 (ma (I 68) ((I 52 29).toNat) w)) 70) (((ma I 68 (ma (I 68) ((I 52 29).toNat) w)) 52 29).toNat) t)) 71) (((ma (ma I 68 (ma (I 68) ((I 52 29).toNat) w)) 70 (ma ((ma I 68 (ma (I 68) ((I 52 29).toNat) w)) 70) (((ma I 68 (ma (I 68) ((I 52 29).toNat) w)) 52 29).toNat) t)) 52 29).toNat) r)) 52 29).toNat) u)) 73) (((ma (ma (ma (ma I 68 (ma (I 68) ((I 52 29).toNat) w)) 70 (ma ((ma I 68 (ma (I 68) ((I 52 29).toNat) w)) 70) (((ma I 68 (ma (I 68) ((I 52 29).toNat) w)) 52 29).toNat) t)) 71 (ma ((ma (ma I 68 (ma (I 68) ((I 52 29).toNat) w)) 70 (ma ((ma I 68 (ma (I 68) ((I 52 29).toNat) w)) 70) (((ma I 68 (ma (I 68) ((I 52 29).toNat) w)) 52 29).toNat) t)) 71) (((ma (ma I 68 (ma (I 68) ((I 52 29).toNat) w)) 70 (ma ((ma I 68 (ma (I 68) ((I 52 29).toNat) w)) 70) (((ma I 68 (ma (I 68) ((I 52 29).toNat) w)) 52 29).toNat) t)) 52 29).toNat) r)) 72 (ma ((ma (ma (ma I 68 (ma (I 68) ((I 52 29).toNat) w)) 70 (ma ((ma I 68 (ma (I 68) ((I 52 29).toNat) w)) 70) (((ma I 68 (ma (I 68) ((I 52 29).toNat) w)) 52 29).toNat) t)) 71 (ma ((ma (ma I 68 (ma (I 68) ((I 52 29).toNat) w)) 70 (ma ((ma I 68 (ma (I 68) ((I 52 29).toNat) w)) 70) (((ma I 68 (ma (I 68) ((I 52 29).toNat) w)) 52 29).toNat) t)) 71) (((ma (ma I 68 (ma (I 68) ((I 52 29).toNat) w)) 70 (ma ((ma I 68 (ma (I 68) ((I 52 29).toNat) w)) 70) (((ma I 68 (ma (I 68) ((I 52 29).toNat) w)) 52 29).toNat) t)) 52 29).toNat) r)) 72) (((ma (ma (ma I 68 (ma (I 68) ((I 52 29).toNat) w)) 70 (ma ((ma I 68 (ma (I 68) ((I 52 29).toNat) w)) 70) (((ma I 68 (ma (I 68) ((I 52 29).toNat) w)) 52 29).toNat) t)) 71 (ma ((ma (ma I 68 (ma (I 68) ((I 52 29).toNat) w)) 70 (ma ((ma I 68 (ma (I 68) ((I 52 29).toNat) w)) 70) (((ma I 68 (ma (I 68) ((I 52 29).toNat) w)) 52 29).toNat) t)) 71) (((ma (ma I 68 (ma (I 68) ((I 52 29).toNat) w)) 70 (ma ((ma I 68 (ma (I 68) ((I 52 29).toNat) w)) 70) (((ma I 68 (ma (I 68) ((I 52 29).toNat) w)) 52 29).toNat) t)) 52 29).toNat) r)) 52 29).toNat) u)) 52 29).toNat) e)) 52 (ma ((ma (ma (ma (ma (ma I 68 (ma (I 68) ((I 52 29).toNat) w)) 70 (ma ((ma I 68 (ma (I 68) ((I 52 29).toNat) w)) 70) (((ma I 68 (ma (I 68) ((I 52 29).toNat) w)) 52 29).toNat) t)) 71 (ma ((ma (ma I 68 (ma (I 68) ((I 52 29).toNat) w)) 70 (ma ((ma I 68 (ma (I 68) ((I 52 29).toNat) w)) 70) (((ma I 68 (ma (I 68) ((I 52 29).toNat) w)) 52 29).toNat) t)) 71) (((ma (ma I 68 (ma (I 68) ((I 52 29).toNat) w)) 70 (ma ((ma I 68 (ma (I 68) ((I 52 29).toNat) w)) 70) (((ma I 68 (ma (I 68) ((I 52 29).toNat) w)) 52 29).toNat) t)) 52 29).toNat) r)) 72 (ma ((ma (ma (ma I 68 (ma (I 68) ((I 52 29).toNat) w)) 70 (ma ((ma I 68 (ma (I 68) ((I 52 29).toNat) w)) 70) (((ma I 68 (ma (I 68) ((I 52 29).toNat) w)) 52 29).toNat) t)) 71 (ma ((ma (ma I 68 (ma (I 68) ((I 52 29).toNat) w)) 70 (ma ((ma I 68 (ma (I 68) ((I 52 29).toNat) w)) 70) (((ma I 68 (ma (I 68) ((I 52 29).toNat) w)) 52 29).toNat) t)) 71) (((ma (ma I 68 (ma (I 68) ((I 52 29).toNat) w)) 70 (ma ((ma I 68 (ma (I 68) ((I 52 29).toNat) w)) 70) (((ma I 68 (ma (I 68) ((I 52 29).toNat) w)) 52 29).toNat) t)) 52 29).toNat) r)) 72) (((ma (ma (ma I 68 (ma (I 68) ((I 52 29).toNat) w)) 70 (ma ((ma I 68 (ma (I 68) ((I 52 29).toNat) w)) 70) (((ma I 68 (ma (I 68) ((I 52 29).toNat) w)) 52 29).toNat) t)) 71 (ma ((ma (ma I 68 (ma (I 68) ((I 52 29).toNat) w)) 70 (ma ((ma I 68 (ma (I 68) ((I 52 29).toNat) w)) 70) (((ma I 68 (ma (I 68) ((I 52 29).toNat) w)) 52 29).toNat) t)) 71) (((ma (ma I 68 (ma (I 68) ((I 52 29).toNat) w)) 70 (ma ((ma I 68 (ma (I 68) ((I 52 29).toNat) w)) 70) (((ma I 68 (ma (I 68) ((I 52 29).toNat) w)) 52 29).toNat) t)) 52 29).toNat) r)) 52 29).toNat) u)) 73 (ma ((ma (ma (ma (ma I 68 (ma (I 68) ((I 52 29).toNat) w)) 70 (ma ((ma I 68 (ma (I 68) ((I 52 29).toNat) w)) 70) (((ma I 68 (ma (I 68) ((I 52 29).toNat) w)) 52 29).toNat) t)) 71 (ma ((ma (ma I 68 (ma (I 68) ((I 52 29).toNat) w)) 70 (ma ((ma I 68 (ma (I 68) ((I 52 29).toNat) w)) 70) (((ma I 68 (ma (I 68) ((I 52 29).toNat) w)) 52 29).toNat) t)) 71) (((ma (ma I 68 (ma (I 68) ((I 52 29).toNat) w)) 70 (ma ((ma I 68 (ma (I 68) ((I 52 29).toNat) w)) 70) (((ma I 68 (ma (I 68) ((I 52 29).toNat) w)) 52 29).toNat) t)) 52 29).toNat) r)) 72 (ma ((ma (ma (ma I 68 (ma (I 68) ((I 52 29).toNat) w)) 70 (ma ((ma I 68 (ma (I 68) ((I 52 29).toNat) w)) 70) (((ma I 68 (ma (I 68) ((I 52 29).toNat) w)) 52 29).toNat) t)) 71 (ma ((ma (ma I 68 (ma (I 68) ((I 52 29).toNat) w)) 70 (ma ((ma I 68 (ma (I 68) ((I 52 29).toNat) w)) 70) (((ma I 68 (ma (I 68) ((I 52 29).toNat) w)) 52 29).toNat) t)) 71) (((ma (ma I 68 (ma (I 68) ((I 52 29).toNat) w)) 70 (ma ((ma I 68 (ma (I 68) ((I 52 29).toNat) w)) 70) (((ma I 68 (ma (I 68) ((I 52 29).toNat) w)) 52 29).toNat) t)) 52 29).toNat) r)) 72) (((ma (ma (ma I 68 (ma (I 68) ((I 52 29).toNat) w)) 70 (ma ((ma I 68 (ma (I 68) ((I 52 29).toNat) w)) 70) (((ma I 68 (ma (I 68) ((I 52 29).toNat) w)) 52 29).toNat) t)) 71 (ma ((ma (ma I 68 (ma (I 68) ((I 52 29).toNat) w)) 70 (ma ((ma I 68 (ma (I 68) ((I 52 29).toNat) w)) 70) (((ma I 68 (ma (I 68) ((I 52 29).toNat) w)) 52 29).toNat) t)) 71) (((ma (ma I 68 (ma (I 68) ((I 52 29).toNat) w)) 70 (ma ((ma I 68 (ma (I 68) ((I 52 29).toNat) w)) 70) (((ma I 68 (ma (I 68) ((I 52 29).toNat) w)) 52 29).toNat) t)) 52 29).toNat) r)) 52 29).toNat) u)) 73) (((ma (ma (ma (ma I 68 (ma (I 68) ((I 52 29).toNat) w)) 70 (ma ((ma I 68 (ma (I 68) ((I 52 29).toNat) w)) 70) (((ma I 68 (ma (I 68) ((I 52 29).toNat) w)) 52 29).toNat) t)) 71 (ma ((ma (ma I 68 (ma (I 68) ((I 52 29).toNat) w)) 70 (ma ((ma I 68 (ma (I 68) ((I 52 29).toNat) w)) 70) (((ma I 68 (ma (I 68) ((I 52 29).toNat) w)) 52 29).toNat) t)) 71) (((ma (ma I 68 (ma (I 68) ((I 52 29).toNat) w)) 70 (ma ((ma I 68 (ma (I 68) ((I 52 29).toNat) w)) 70) (((ma I 68 (ma (I 68) ((I 52 29).toNat) w)) 52 29).toNat) t)) 52 29).toNat) r)) 72 (ma ((ma (ma (ma I 68 (ma (I 68) ((I 52 29).toNat) w)) 70 (ma ((ma I 68 (ma (I 68) ((I 52 29).toNat) w)) 70) (((ma I 68 (ma (I 68) ((I 52 29).toNat) w)) 52 29).toNat) t)) 71 (ma ((ma (ma I 68 (ma (I 68) ((I 52 29).toNat) w)) 70 (ma ((ma I 68 (ma (I 68) ((I 52 29).toNat) w)) 70) (((ma I 68 (ma (I 68) ((I 52 29).toNat) w)) 52 29).toNat) t)) 71) (((ma (ma I 68 (ma (I 68) ((I 52 29).toNat) w)) 70 (ma ((ma I 68 (ma (I 68) ((I 52 29).toNat) w)) 70) (((ma I 68 (ma (I 68) ((I 52 29).toNat) w)) 52 29).toNat) t)) 52 29).toNat) r)) 72) (((ma (ma (ma I 68 (ma (I 68) ((I 52 29).toNat) w)) 70 (ma ((ma I 68 (ma (I 68) ((I 52 29).toNat) w)) 70) (((ma I 68 (ma (I 68) ((I 52 29).toNat) w)) 52 29).toNat) t)) 71 (ma ((ma (ma I 68 (ma (I 68) ((I 52 29).toNat) w)) 70 (ma ((ma I 68 (ma (I 68) ((I 52 29).toNat) w)) 70) (((ma I 68 (ma (I 68) ((I 52 29).toNat) w)) 52 29).toNat) t)) 71) (((ma (ma I 68 (ma (I 68) ((I 52 29).toNat) w)) 70 (ma ((ma I 68 (ma (I 68) ((I 52 29).toNat) w)) 70) (((ma I 68 (ma (I 68) ((I 52 29).toNat) w)) 52 29).toNat) t)) 52 29).toNat) r)) 52 29).toNat) u)) 52 29).toNat) e)) 52) 29 (((ma (ma (ma (ma (ma I 68 (ma (I 68) ((I 52 29).toNat) w)) 70 (ma ((ma I 68 (ma (I 68) ((I 52 29).toNat) w)) 70) (((ma I 68 (ma (I 68) ((I 52 29).toNat) w)) 52 29).toNat) t)) 71 (ma ((ma (ma I 68 (ma (I 68) ((I 52 29).toNat) w)) 70 (ma ((ma I 68 (ma (I 68) ((I 52 29).toNat) w)) 70) (((ma I 68 (ma (I 68) ((I 52 29).toNat) w)) 52 29).toNat) t)) 71) (((ma (ma I 68 (ma (I 68) ((I 52 29).toNat) w)) 70 (ma ((ma I 68 (ma (I 68) ((I 52 29).toNat) w)) 70) (((ma I 68 (ma (I 68) ((I 52 29).toNat) w)) 52 29).toNat) t)) 52 29).toNat) r)) 72 (ma ((ma (ma (ma I 68 (ma (I 68) ((I 52 29).toNat) w)) 70 (ma ((ma I 68 (ma (I 68) ((I 52 29).toNat) w)) 70) (((ma I 68 (ma (I 68) ((I 52 29).toNat) w)) 52 29).toNat) t)) 71 (ma ((ma (ma I 68 (ma (I 68) ((I 52 29).toNat) w)) 70 (ma ((ma I 68 (ma (I 68) ((I 52 29).toNat) w)) 70) (((ma I 68 (ma (I 68) ((I 52 29).toNat) w)) 52 29).toNat) t)) 71) (((ma (ma I 68 (ma (I 68) ((I 52 29).toNat) w)) 70 (ma ((ma I 68 (ma (I 68) ((I 52 29).toNat) w)) 70) (((ma I 68 (ma (I 68) ((I 52 29).toNat) w)) 52 29).toNat) t)) 52 29).toNat) r)) 72) (((ma (ma (ma I 68 (ma (I 68) ((I 52 29).toNat) w)) 70 (ma ((ma I 68 (ma (I 68) ((I 52 29).toNat) w)) 70) (((ma I 68 (ma (I 68) ((I 52 29).toNat) w)) 52 29).toNat) t)) 71 (ma ((ma (ma I 68 (ma (I 68) ((I 52 29).toNat) w)) 70 (ma ((ma I 68 (ma (I 68) ((I 52 29).toNat) w)) 70) (((ma I 68 (ma (I 68) ((I 52 29).toNat) w)) 52 29).toNat) t)) 71) (((ma (ma I 68 (ma (I 68) ((I 52 29).toNat) w)) 70 (ma ((ma I 68 (ma (I 68) ((I 52 29).toNat) w)) 70) (((ma I 68 (ma (I 68) ((I 52 29).toNat) w)) 52 29).toNat) t)) 52 29).toNat) r)) 52 29).toNat) u)) 73 (ma ((ma (ma (ma (ma I 68 (ma (I 68) ((I 52 29).toNat) w)) 70 (ma ((ma I 68 (ma (I 68) ((I 52 29).toNat) w)) 70) (((ma I 68 (ma (I 68) ((I 52 29).toNat) w)) 52 29).toNat) t)) 71 (ma ((ma (ma I 68 (ma (I 68) ((I 52 29).toNat) w)) 70 (ma ((ma I 68 (ma (I 68) ((I 52 29).toNat) w)) 70) (((ma I 68 (ma (I 68) ((I 52 29).toNat) w)) 52 29).toNat) t)) 71) (((ma (ma I 68 (ma (I 68) ((I 52 29).toNat) w)) 70 (ma ((ma I 68 (ma (I 68) ((I 52 29).toNat) w)) 70) (((ma I 68 (ma (I 68) ((I 52 29).toNat) w)) 52 29).toNat) t)) 52 29).toNat) r)) 72 (ma ((ma (ma (ma I 68 (ma (I 68) ((I 52 29).toNat) w)) 70 (ma ((ma I 68 (ma (I 68) ((I 52 29).toNat) w)) 70) (((ma I 68 (ma (I 68) ((I 52 29).toNat) w)) 52 29).toNat) t)) 71 (ma ((ma (ma I 68 (ma (I 68) ((I 52 29).toNat) w)) 70 (ma ((ma I 68 (ma (I 68) ((I 52 29).toNat) w)) 70) (((ma I 68 (ma (I 68) ((I 52 29).toNat) w)) 52 29).toNat) t)) 71) (((ma (ma I 68 (ma (I 68) ((I 52 29).toNat) w)) 70 (ma ((ma I 68 (ma (I 68) ((I 52 29).toNat) w)) 70) (((ma I 68 (ma (I 68) ((I 52 29).toNat) w)) 52 29).toNat) t)) 52 29).toNat) r)) 72) (((ma (ma (ma I 68 (ma (I 68) ((I 52 29).toNat) w)) 70 (ma ((ma I 68 (ma (I 68) ((I 52 29).toNat) w)) 70) (((ma I 68 (ma (I 68) ((I 52 29).toNat) w)) 52 29).toNat) t)) 71 (ma ((ma (ma I 68 (ma (I 68) ((I 52 29).toNat) w)) 70 (ma ((ma I 68 (ma (I 68) ((I 52 29).toNat) w)) 70) (((ma I 68 (ma (I 68) ((I 52 29).toNat) w)) 52 29).toNat) t)) 71) (((ma (ma I 68 (ma (I 68) ((I 52 29).toNat) w)) 70 (ma ((ma I 68 (ma (I 68) ((I 52 29).toNat) w)) 70) (((ma I 68 (ma (I 68) ((I 52 29).toNat) w)) 52 29).toNat) t)) 52 29).toNat) r)) 52 29).toNat) u)) 73) (((ma (ma (ma (ma I 68 (ma (I 68) ((I 52 29).toNat) w)) 70 (ma ((ma I 68 (ma (I 68) ((I 52 29).toNat) w)) 70) (((ma I 68 (ma (I 68) ((I 52 29).toNat) w)) 52 29).toNat) t)) 71 (ma ((ma (ma I 68 (ma (I 68) ((I 52 29).toNat) w)) 70 (ma ((ma I 68 (ma (I 68) ((I 52 29).toNat) w)) 70) (((ma I 68 (ma (I 68) ((I 52 29).toNat) w)) 52 29).toNat) t)) 71) (((ma (ma I 68 (ma (I 68) ((I 52 29).toNat) w)) 70 (ma ((ma I 68 (ma (I 68) ((I 52 29).toNat) w)) 70) (((ma I 68 (ma (I 68) ((I 52 29).toNat) w)) 52 29).toNat) t)) 52 29).toNat) r)) 72 (ma ((ma (ma (ma I 68 (ma (I 68) ((I 52 29).toNat) w)) 70 (ma ((ma I 68 (ma (I 68) ((I 52 29).toNat) w)) 70) (((ma I 68 (ma (I 68) ((I 52 29).toNat) w)) 52 29).toNat) t)) 71 (ma ((ma (ma I 68 (ma (I 68) ((I 52 29).toNat) w)) 70 (ma ((ma I 68 (ma (I 68) ((I 52 29).toNat) w)) 70) (((ma I 68 (ma (I 68) ((I 52 29).toNat) w)) 52 29).toNat) t)) 71) (((ma (ma I 68 (ma (I 68) ((I 52 29).toNat) w)) 70 (ma ((ma I 68 (ma (I 68) ((I 52 29).toNat) w)) 70) (((ma I 68 (ma (I 68) ((I 52 29).toNat) w)) 52 29).toNat) t)) 52 29).toNat) r)) 72) (((ma (ma (ma I 68 (ma (I 68) ((I 52 29).toNat) w)) 70 (ma ((ma I 68 (ma (I 68) ((I 52 29).toNat) w)) 70) (((ma I 68 (ma (I 68) ((I 52 29).toNat) w)) 52 29).toNat) t)) 71 (ma ((ma (ma I 68 (ma (I 68) ((I 52 29).toNat) w)) 70 (ma ((ma I 68 (ma (I 68) ((I 52 29).toNat) w)) 70) (((ma I 68 (ma (I 68) ((I 52 29).toNat) w)) 52 29).toNat) t)) 71) (((ma (ma I 68 (ma (I 68) ((I 52 29).toNat) w)) 70 (ma ((ma I 68 (ma (I 68) ((I 52 29).toNat) w)) 70) (((ma I 68 (ma (I 68) ((I 52 29).toNat) w)) 52 29).toNat) t)) 52 29).toNat) r)) 52 29).toNat) u)) 52 29).toNat) e)) 52 29) + 1))) J)) (by decide +kernel) rfl (show (0 ≤ (I 52 29) ∧ (I 52 29) < 20) ∧ (0 ≤ w ∧ w ≤ 1) ∧ (0 ≤ ((ma I 68 (ma (I 68) ((I 52 29).toNat) w)) 52 29) ∧ ((ma I 68 (ma (I 68) ((I 52 29).toNat) w)) 52 29) < 20) ∧ (0 ≤ ((ma (ma I 68 (ma (I 68) ((I 52 29).toNat) w)) 70 (ma ((ma I 68 (ma (I 68) ((I 52 29).toNat) w)) 70) (((ma I 68 (ma (I 68) ((I 52 29).toNat) w)) 52 29).toNat) t)) 52 29) ∧ ((ma (ma I 68 (ma (I 68) ((I 52 29).toNat) w)) 70 (ma ((ma I 68 (ma (I 68) ((I 52 29).toNat) w)) 70) (((ma I 68 (ma (I 68) ((I 52 29).toNat) w)) 52 29).toNat) t)) 52 29) < 20) ∧ (0 ≤ ((ma (ma (ma I 68 (ma (I 68) ((I 52 29).toNat) w)) 70 (ma ((ma I 68 (ma (I 68) ((I 52 29).toNat) w)) 70) (((ma I 68 (ma (I 68) ((I 52 29).toNat) w)) 52 29).toNat) t)) 71 (ma ((ma (ma I 68 (ma (I 68) ((I 52 29).toNat) w)) 70 (ma ((ma I 68 (ma (I 68) ((I 52 29).toNat) w)) 70) (((ma I 68 (ma (I 68) ((I 52 29).toNat) w)) 52 29).toNat) t)) 71) (((ma (ma I 68 (ma (I 68) ((I 52 29).toNat) w)) 70 (ma ((ma I 68 (ma (I 68) ((I 52 29).toNat) w)) 70) (((ma I 68 (ma (I 68) ((I 52 29).toNat) w)) 52 29).toNat) t)) 52 29).toNat) r)) 52 29) ∧ ((ma (ma (ma I 68 (ma (I 68) ((I 52 29).toNat) w)) 70 (ma ((ma I 68 (ma (I 68) ((I 52 29).toNat) w)) 70) (((ma I 68 (ma (I 68) ((I 52 29).toNat) w)) 52 29).toNat) t)) 71 (ma ((ma (ma I 68 (ma (I 68) ((I 52 29).toNat) w)) 70 (ma ((ma I 68 (ma (I 68) ((I 52 29).toNat) w)) 70) (((ma I 68 (ma (I 68) ((I 52 29).toNat) w)) 52 29).toNat) t)) 71) (((ma (ma I 68 (ma (I 68) ((I 52 29).toNat) w)) 70 (ma ((ma I 68 (ma (I 68) ((I 52 29).toNat) w)) 70) (((ma I 68 (ma (I 68) ((I 52 29).toNat) w)) 52 29).toNat) t)) 52 29).toNat) r)) 52 29) < 20) ∧ (0 ≤ ((ma (ma (ma (ma I 68 (ma (I 68) ((I 52 29).toNat) w)) 70 (ma ((ma I 68 (ma (I 68) ((I 52 29).toNat) w)) 70) (((ma I 68 (ma (I 68) ((I 52 29).toNat) w)) 52 29).toNat) t)) 71 (ma ((ma (ma I 68 (ma (I 68) ((I 52 29).toNat) w)) 70 (ma ((ma I 68 (ma (I 68) ((I 52 29).toNat) w)) 70) (((ma I 68 (ma (I 68) ((I 52 29).toNat) w)) 52 29).toNat) t)) 71) (((ma (ma I 68 (ma (I 68) ((I 52 29).toNat) w)) 70 (ma ((ma I 68 (ma (I 68) ((I 52 29).toNat) w)) 70) (((ma I 68 (ma (I 68) ((I 52 29).toNat) w)) 52 29).toNat) t)) 52 29).toNat) r)) 72 (ma ((ma (ma (ma I 68 (ma (I 68) ((I 52 29).toNat) w)) 70 (ma ((ma I 68 (ma (I 68) ((I 52 29).toNat) w)) 70) (((ma I 68 (ma (I 68) ((I 52 29).toNat) w)) 52 29).toNat) t)) 71 (ma ((ma (ma I 68 (ma (I 68) ((I 52 29).toNat) w)) 70 (ma ((ma I 68 (ma (I 68) ((I 52 29).toNat) w)) 70) (((ma I 68 (ma (I 68) ((I 52 29).toNat) w)) 52 29).toNat) t)) 71) (((ma (ma I 68 (ma (I 68) ((I 52 29).toNat) w)) 70 (ma ((ma I 68 (ma (I 68) ((I 52 29).toNat) w)) 70) (((ma I 68 (ma (I 68) ((I 52 29).toNat) w)) 52 29).toNat) t)) 52 29).toNat) r)) 72) (((ma (ma (ma I 68 (ma (I 68) ((I 52 29).toNat) w)) 70 (ma ((ma I 68 (ma (I 68) ((I 52 29).toNat) w)) 70) (((ma I 68 (ma (I 68) ((I 52 29).toNat) w)) 52 29).toNat) t)) 71 (ma ((ma (ma I 68 (ma (I 68) ((I 52 29).toNat) w)) 70 (ma ((ma I 68 (ma (I 68) ((I 52 29).toNat) w)) 70) (((ma I 68 (ma (I 68) ((I 52 29).toNat) w)) 52 29).toNat) t)) 71) (((ma (ma I 68 (ma (I 68) ((I 52 29).toNat) w)) 70 (ma ((ma I 68 (ma (I 68) ((I 52 29).toNat) w)) 70) (((ma I 68 (ma (I 68) ((I 52 29).toNat) w)) 52 29).toNat) t)) 52 29).toNat) r)) 52 29).toNat) u)) 52 29) ∧ ((ma (ma (ma (ma I 68 (ma (I 68) ((I 52 29).toNat) w)) 70 (ma ((ma I 68 (ma (I 68) ((I 52 29).toNat) w)) 70) (((ma I 68 (ma (I 68) ((I 52 29).toNat) w)) 52 29).toNat) t)) 71 (ma ((ma (ma I 68 (ma (I 68) ((I 52 29).toNat) w)) 70 (ma ((ma I 68 (ma (I 68) ((I 52 29).toNat) w)) 70) (((ma I 68 (ma (I 68) ((I 52 29).toNat) w)) 52 29).toNat) t)) 71) (((ma (ma I 68 (ma (I 68) ((I 52 29).toNat) w)) 70 (ma ((ma I 68 (ma (I 68) ((I 52 29).toNat) w)) 70) (((ma I 68 (ma (I 68) ((I 52 29).toNat) w)) 52 29).toNat) t)) 52 29).toNat) r)) 72 (ma ((ma (ma (ma I 68 (ma (I 68) ((I 52 29).toNat) w)) 70 (ma ((ma I 68 (ma (I 68) ((I 52 29).toNat) w)) 70) (((ma I 68 (ma (I 68) ((I 52 29).toNat) w)) 52 29).toNat) t)) 71 (ma ((ma (ma I 68 (ma (I 68) ((I 52 29).toNat) w)) 70 (ma ((ma I 68 (ma (I 68) ((I 52 29).toNat) w)) 70) (((ma I 68 (ma (I 68) ((I 52 29).toNat) w)) 52 29).toNat) t)) 71) (((ma (ma I 68 (ma (I 68) ((I 52 29).toNat) w)) 70 (ma ((ma I 68 (ma (I 68) ((I 52 29).toNat) w)) 70) (((ma I 68 (ma (I 68) ((I 52 29).toNat) w)) 52 29).toNat) t)) 52 29).toNat) r)) 72) (((ma (ma (ma I 68 (ma (I 68) ((I 52 29).toNat) w)) 70 (ma ((ma I 68 (ma (I 68) ((I 52 29).toNat) w)) 70) (((ma I 68 (ma (I 68) ((I 52 29).toNat) w)) 52 29).toNat) t)) 71 (ma ((ma (ma I 68 (ma (I 68) ((I 52 29).toNat) w)) 70 (ma ((ma I 68 (ma (I 68) ((I 52 29).toNat) w)) 70) (((ma I 68 (ma (I 68) ((I 52 29).toNat) w)) 52 29).toNat) t)) 71) (((ma (ma I 68 (ma (I 68) ((I 52 29).toNat) w)) 70 (ma ((ma I 68 (ma (I 68) ((I 52 29).toNat) w)) 70) (((ma I 68 (ma (I 68) ((I 52 29).toNat) w)) 52 29).toNat) t)) 52 29).toNat) r)) 52 29).toNat) u)) 52 29) < 20) ∧ (inR (((ma (ma (ma (ma (ma I 68 (ma (I 68) ((I 52 29).toNat) w)) 70 (ma ((ma I 68 (ma (I 68) ((I 52 29).toNat) w)) 70) (((ma I 68 (ma (I 68) ((I 52 29).toNat) w)) 52 29).toNat) t)) 71 (ma ((ma (ma I 68 (ma (I 68) ((I 52 29).toNat) w)) 70 (ma ((ma I 68 (ma (I 68) ((I 52 29).toNat) w)) 70) (((ma I 68 (ma (I 68) ((I 52 29).toNat) w)) 52 29).toNat) t)) 71) (((ma (ma I 68 (ma (I 68) ((I 52 29).toNat) w)) 70 (ma ((ma I 68 (ma (I 68) ((I 52 29).toNat) w)) 70) (((ma I 68 (ma (I 68) ((I 52 29).toNat) w)) 52 29).toNat) t)) 52 29).toNat) r)) 72 (ma ((ma (ma (ma I 68 (ma (I 68) ((I 52 29).toNat) w)) 70 (ma ((ma I 68 (ma (I 68) ((I 52 29).toNat) w)) 70) (((ma I 68 (ma (I 68) ((I 52 29).toNat) w)) 52 29).toNat) t)) 71 (ma ((ma (ma I 68 (ma (I 68) ((I 52 29).toNat) w)) 70 (ma ((ma I 68 (ma (I 68) ((I 52 29).toNat) w)) 70) (((ma I 68 (ma (I 68) ((I 52 29).toNat) w)) 52 29).toNat) t)) 71) (((ma (ma I 68 (ma (I 68) ((I 52 29).toNat) w)) 70 (ma ((ma I 68 (ma (I 68) ((I 52 29).toNat) w)) 70) (((ma I 68 (ma (I 68) ((I 52 29).toNat) w)) 52 29).toNat) t)) 52 29).toNat) r)) 72) (((ma (ma (ma I 68 (ma (I 68) ((I 52 29).toNat) w)) 70 (ma ((ma I 68 (ma (I 68) ((I 52 29).toNat) w)) 70) (((ma I 68 (ma (I 68) ((I 52 29).toNat) w)) 52 29).toNat) t)) 71 (ma ((ma (ma I 68 (ma (I 68) ((I 52 29).toNat) w)) 70 (ma ((ma I 68 (ma (I 68) ((I 52 29).toNat) w)) 70) (((ma I 68 (ma (I 68) ((I 52 29).toNat) w)) 52 29).toNat) t)) 71) (((ma (ma I 68 (ma (I 68) ((I 52 29).toNat) w)) 70 (ma ((ma I 68 (ma (I 68) ((I 52 29).toNat) w)) 70) (((ma I 68 (ma (I 68) ((I 52 29).toNat) w)) 52 29).toNat) t)) 52 29).toNat) r)) 52 29).toNat) u)) 73 (ma ((ma (ma (ma (ma I 68 (ma (I 68) ((I 52 29).toNat) w)) 70 (ma ((ma I 68 (ma (I 68) ((I 52 29).toNat) w)) 70) (((ma I 68 (ma (I 68) ((I 52 29).toNat) w)) 52 29).toNat) t)) 71 (ma ((ma (ma I 68 (ma (I 68) ((I 52 29).toNat) w)) 70 (ma ((ma I 68 (ma (I 68) ((I 52 29).toNat) w)) 70) (((ma I 68 (ma (I 68) ((I 52 29).toNat) w)) 52 29).toNat) t)) 71) (((ma (ma I 68 (ma (I 68) ((I 52 29).toNat) w)) 70 (ma ((ma I 68 (ma (I 68) ((I 52 29).toNat) w)) 70) (((ma I 68 (ma (I 68) ((I 52 29).toNat) w)) 52 29).toNat) t)) 52 29).toNat) r)) 72 (ma ((ma (ma (ma I 68 (ma (I 68) ((I 52 29).toNat) w)) 70 (ma ((ma I 68 (ma (I 68) ((I 52 29).toNat) w)) 70) (((ma I 68 (ma (I 68) ((I 52 29).toNat) w)) 52 29).toNat) t)) 71 (ma ((ma (ma I 68 (ma (I 68) ((I 52 29).toNat) w)) 70 (ma ((ma I 68 (ma (I 68) ((I 52 29).toNat) w)) 70) (((ma I 68 (ma (I 68) ((I 52 29).toNat) w)) 52 29).toNat) t)) 71) (((ma (ma I 68 (ma (I 68) ((I 52 29).toNat) w)) 70 (ma ((ma I 68 (ma (I 68) ((I 52 29).toNat) w)) 70) (((ma I 68 (ma (I 68) ((I 52 29).toNat) w)) 52 29).toNat) t)) 52 29).toNat) r)) 72) (((ma (ma (ma I 68 (ma (I 68) ((I 52 29).toNat) w)) 70 (ma ((ma I 68 (ma (I 68) ((I 52 29).toNat) w)) 70) (((ma I 68 (ma (I 68) ((I 52 29).toNat) w)) 52 29).toNat) t)) 71 (ma ((ma (ma I 68 (ma (I 68) ((I 52 29).toNat) w)) 70 (ma ((ma I 68 (ma (I 68) ((I 52 29).toNat) w)) 70) (((ma I 68 (ma (I 68) ((I 52 29).toNat) w)) 52 29).toNat) t)) 71) (((ma (ma I 68 (ma (I 68) ((I 52 29).toNat) w)) 70 (ma ((ma I 68 (ma (I 68) ((I 52 29).toNat) w)) 70) (((ma I 68 (ma (I 68) ((I 52 29).toNat) w)) 52 29).toNat) t)) 52 29).toNat) r)) 52 29).toNat) u)) 73) (((ma (ma (ma (ma I 68 (ma (I 68) ((I 52 29).toNat) w)) 70 (ma ((ma I 68 (ma (I 68) ((I 52 29).toNat) w)) 70) (((ma I 68 (ma (I 68) ((I 52 29).toNat) w)) 52 29).toNat) t)) 71 (ma ((ma (ma I 68 (ma (I 68) ((I 52 29).toNat) w)) 70 (ma ((ma I 68 (ma (I 68) ((I 52 29).toNat) w)) 70) (((ma I 68 (ma (I 68) ((I 52 29).toNat) w)) 52 29).toNat) t)) 71) (((ma (ma I 68 (ma (I 68) ((I 52 29).toNat) w)) 70 (ma ((ma I 68 (ma (I 68) ((I 52 29).toNat) w)) 70) (((ma I 68 (ma (I 68) ((I 52 29).toNat) w)) 52 29).toNat) t)) 52 29).toNat) r)) 72 (ma ((ma (ma (ma I 68 (ma (I 68) ((I 52 29).toNat) w)) 70 (ma ((ma I 68 (ma (I 68) ((I 52 29).toNat) w)) 70) (((ma I 68 (ma (I 68) ((I 52 29).toNat) w)) 52 29).toNat) t)) 71 (ma ((ma (ma I 68 (ma (I 68) ((I 52 29).toNat) w)) 70 (ma ((ma I 68 (ma (I 68) ((I 52 29).toNat) w)) 70) (((ma I 68 (ma (I 68) ((I 52 29).toNat) w)) 52 29).toNat) t)) 71) (((ma (ma I 68 (ma (I 68) ((I 52 29).toNat) w)) 70 (ma ((ma I 68 (ma (I 68) ((I 52 29).toNat) w)) 70) (((ma I 68 (ma (I 68) ((I 52 29).toNat) w)) 52 29).toNat) t)) 52 29).toNat) r)) 72) (((ma (ma (ma I 68 (ma (I 68) ((I 52 29).toNat) w)) 70 (ma ((ma I 68 (ma (I 68) ((I 52 29).toNat) w)) 70) (((ma I 68 (ma (I 68) ((I 52 29).toNat) w)) 52 29).toNat) t)) 71 (ma ((ma (ma I 68 (ma (I 68) ((I 52 29).toNat) w)) 70 (ma ((ma I 68 (ma (I 68) ((I 52 29).toNat) w)) 70) (((ma I 68 (ma (I 68) ((I 52 29).toNat) w)) 52 29).toNat) t)) 71) (((ma (ma I 68 (ma (I 68) ((I 52 29).toNat) w)) 70 (ma ((ma I 68 (ma (I 68) ((I 52 29).toNat) w)) 70) (((ma I 68 (ma (I 68) ((I 52 29).toNat) w)) 52 29).toNat) t)) 52 29).toNat) r)) 52 29).toNat) u)) 52 29).toNat) e)) 52 29) + 1)) from ⟨(by first | omega | (simp [ma]; omega)), (by first | omega | (simp [ma]; omega)), (by first | omega | (simp [ma]; omega)), (by first | omega | (simp [ma]; omega)), (by first | omega | (simp [ma]; omega)), (by first | omega | (simp [ma]; omega)), (by unfold inR; first | omega | (simp [ma]; omega))⟩) ?_
  refine V.nI (fun I1 eI1 => ?_)
  refine V.ri (by decide +kernel) ?_
  refine ⟨congrArg (fun w => some (aI w)) ?_, congrArg (fun w => MM N w J) ?_⟩
  · subst eI1; simp [ma]
  · subst eI1; simp [ma, actMU]
def thingMA (I : MI) (k : Int) : Int := if 0 ≤ k ∧ k ≤ 5 then (if I 52 1 = 40 then -9 else I 52 1) else -3
def thingMU (I : MI) (k : Int) : MI := if 0 ≤ k ∧ k ≤ 5 then (if I 52 1 = 40 then noU I (-9) else vnU (ma (ma I 53 (ma (I 53) (I 52 1).toNat k)) 52 (ma (I 52) 1 (I 52 1 + 1)))) else noU I (-3)
theorem m_X10_thing {N : Nat} {I : MI} {J : MJ} {k : Int} (hr : RfM I) (h1 : 0 ≤ I 52 1 ∧ I 52 1 ≤ 40) (hv : 0 ≤ I 52 40 ∧ I 52 40 ≤ 2000) (hk : inR k) : CT 133 [aR 52, aI k] (MM N I J) (QU N J (aI (thingMA I k)) (thingMU I k)) := by
  refine CT.ofV (n := 2) (ls := [some (aR 52), some (aI k)]) rfl rfl rfl ?_
  unfold inR at hk
  refine V.blk [(0, .iload 1, 1), (1, .i2l, 1), (2, .jsr_w 0, 1), (3, .jsr_w 5, 3)] (ps := []) (z' := (6, [some (aR 52), some (aI k)], [aL (Int64.ofInt 5), aL (Int64.ofInt 0), aL (Int64.ofInt k)], MM N I J)) (by decide +kernel) rfl trivial ?_
  refine V.cs (c := 115) (na := 3) [aL (Int64.ofInt 5), aL (Int64.ofInt 0), aL (Int64.ofInt k)] [] (by decide +kernel) rfl rfl (V.pr (m_X10_isIn (by unfold inR; omega) (by unfold inR; omega) (by unfold inR; omega)) ?_)
  show V 133 (9, [some (aR 52), some (aI k)], [aI (b2 (decide (0 ≤ k ∧ k ≤ 5)))], MM N I J) _
  refine V.blk [(9, .ifCond .ne 19, 3)] (ps := []) (z' := (brc .ne (b2 (decide (0 ≤ k ∧ k ≤ 5))) 0 19 12, [some (aR 52), some (aI k)], [], MM N I J)) (by decide +kernel) rfl trivial ?_
  refine V.ne (fun h1 => ?_) (fun h2 => ?_)
  · skip
    try simp only [b2_cast, b2_ncast, Classical.not_not, lcm_lt, lcm_ge, lcm_gt, lcm_le, lcm_eq] at h1
    refine V.blk [(19, .aload 0, 1), (20, .getfield 10001, 3), (23, .bipush 40, 2), (25, .if_icmp .ne 35, 3)] (ps := []) (z' := (brc .ne (I 52 1) 40 35 28, [some (aR 52), some (aI k)], [], MM N I J)) (by decide +kernel) rfl trivial ?_
    refine V.ne (fun h3 => ?_) (fun h4 => ?_)
    · skip
      try simp only [b2_cast, b2_ncast, Classical.not_not, lcm_lt, lcm_ge, lcm_gt, lcm_le, lcm_eq] at h3
      refine V.blk [(35, .aload 0, 1), (36, .getfield 10000, 3), (39, .aload 0, 1), (40, .getfield 10001, 3), (43, .iload 1, 1), (44, .iastore, 1), (45, .aload 0, 1), (46, .dup, 1), (47, .getfield 10001, 3), (50, .bipush 1, 1), (51, .iadd, 1), (52, .putfield 10001, 3), (55, .aload 0, 1), (56, .dup, 1), (57, .getfield 10040, 3), (60, .bipush 1, 1), (61, .iadd, 1), (62, .putfield 10040, 3), (65, .aload 0, 1), (66, .getfield 10001, 3), (69, .bipush 1, 1), (70, .isub, 1)] (ps := [0 ≤ (I 52 1) ∧ (I 52 1) < 40, inR (((ma I 53 (ma (I 53) ((I 52 1).toNat) k)) 52 1) + 1), inR (((ma (ma I 53 (ma (I 53) ((I 52 1).toNat) k)) 52 (ma ((ma I 53 (ma (I 53) ((I 52 1).toNat) k)) 52) 1 (((ma I 53 (ma (I 53) ((I 52 1).toNat) k)) 52 1) + 1))) 52 40) + 1), inR (((ma (ma (ma I 53 (ma (I 53) ((I 52 1).toNat) k)) 52 (ma ((ma I 53 (ma (I 53) ((I 52 1).toNat) k)) 52) 1 (((ma I 53 (ma (I 53) ((I 52 1).toNat) k)) 52 1) + 1))) 52 (ma ((ma (ma I 53 (ma (I 53) ((I 52 1).toNat) k)) 52 (ma ((ma I 53 (ma (I 53) ((I 52 1).toNat) k)) 52) 1 (((ma I 53 (ma (I 53) ((I 52 1).toNat) k)) 52 1) + 1))) 52) 40 (((ma (ma I 53 (ma (I 53) ((I 52 1).toNat) k)) 52 (ma ((ma I 53 (ma (I 53) ((I 52 1).toNat) k)) 52) 1 (((ma I 53 (ma (I 53) ((I 52 1).toNat) k)) 52 1) + 1))) 52 40) + 1))) 52 1) - 1)]) (z' := (71, [some (aR 52), some (aI k)], [aI (((ma (ma (ma I 53 (ma (I 53) ((I 52 1).toNat) k)) 52 (ma ((ma I 53 (ma (I 53) ((I 52 1).toNat) k)) 52) 1 (((ma I 53 (ma (I 53) ((I 52 1).toNat) k)) 52 1) + 1))) 52 (ma ((ma (ma I 53 (ma (I 53) ((I 52 1).toNat) k)) 52 (ma ((ma I 53 (ma (I 53) ((I 52 1).toNat) k)) 52) 1 (((ma I 53 (ma (I 53) ((I 52 1).toNat) k)) 52 1) + 1))) 52) 40 (((ma (ma I 53 (ma (I 53) ((I 52 1).toNat) k)) 52 (ma ((ma I 53 (ma (I 53) ((I 52 1).toNat) k)) 52) 1 (((ma I 53 (ma (I 53) ((I 52 1).toNat) k)) 52 1) + 1))) 52 40) + 1))) 52 1) - 1)], MM N (ma (ma (ma I 53 (ma (I 53) ((I 52 1).toNat) k)) 52 (ma ((ma I 53 (ma (I 53) ((I 52 1).toNat) k)) 52) 1 (((ma I 53 (ma (I 53) ((I 52 1).toNat) k)) 52 1) + 1))) 52 (ma ((ma (ma I 53 (ma (I 53) ((I 52 1).toNat) k)) 52 (ma ((ma I 53 (ma (I 53) ((I 52 1).toNat) k)) 52) 1 (((ma I 53 (ma (I 53) ((I 52 1).toNat) k)) 52 1) + 1))) 52) 40 (((ma (ma I 53 (ma (I 53) ((I 52 1).toNat) k)) 52 (ma ((ma I 53 (ma (I 53) ((I 52 1).toNat) k)) 52) 1 (((ma I 53 (ma (I 53) ((I 52 1).toNat) k)) 52 1) + 1))) 52 40) + 1))) J)) (by decide +kernel) rfl (show (0 ≤ (I 52 1) ∧ (I 52 1) < 40) ∧ (inR (((ma I 53 (ma (I 53) ((I 52 1).toNat) k)) 52 1) + 1)) ∧ (inR (((ma (ma I 53 (ma (I 53) ((I 52 1).toNat) k)) 52 (ma ((ma I 53 (ma (I 53) ((I 52 1).toNat) k)) 52) 1 (((ma I 53 (ma (I 53) ((I 52 1).toNat) k)) 52 1) + 1))) 52 40) + 1)) ∧ (inR (((ma (ma (ma I 53 (ma (I 53) ((I 52 1).toNat) k)) 52 (ma ((ma I 53 (ma (I 53) ((I 52 1).toNat) k)) 52) 1 (((ma I 53 (ma (I 53) ((I 52 1).toNat) k)) 52 1) + 1))) 52 (ma ((ma (ma I 53 (ma (I 53) ((I 52 1).toNat) k)) 52 (ma ((ma I 53 (ma (I 53) ((I 52 1).toNat) k)) 52) 1 (((ma I 53 (ma (I 53) ((I 52 1).toNat) k)) 52 1) + 1))) 52) 40 (((ma (ma I 53 (ma (I 53) ((I 52 1).toNat) k)) 52 (ma ((ma I 53 (ma (I 53) ((I 52 1).toNat) k)) 52) 1 (((ma I 53 (ma (I 53) ((I 52 1).toNat) k)) 52 1) + 1))) 52 40) + 1))) 52 1) - 1)) from ⟨(by first | omega | (simp [ma]; omega)), (by unfold inR; first | omega | (simp [ma]; omega)), (by unfold inR; first | omega | (simp [ma]; omega)), (by unfold inR; first | omega | (simp [ma]; omega))⟩) ?_
      refine V.nI (fun I5 eI5 => ?_)
      refine V.ri (by decide +kernel) ?_
      refine ⟨congrArg (fun w => some (aI w)) ?_, congrArg (fun w => MM N w J) ?_⟩
      all_goals subst eI5
      all_goals (first | unfold thingMA | unfold thingMU)
      all_goals (repeat' split)
      all_goals first | rfl | omega | (exfalso; omega) | (simp [ma, ma_ma, actMU, vnU])
    · skip
      try simp only [b2_cast, b2_ncast, Classical.not_not, lcm_lt, lcm_ge, lcm_gt, lcm_le, lcm_eq] at h4
      refine V.blk [(28, .aload 0, 1), (29, .bipush (-9), 2)] (ps := []) (z' := (31, [some (aR 52), some (aI k)], [aI (-9), aR 52], MM N I J)) (by decide +kernel) rfl trivial ?_
      refine V.cv (c := 116) (na := 2) (o := 10) (a := 52) [aI (-9)] [] (by decide +kernel) rfl rfl rfl rfl rfl ((m_no (by assumption) (by omega)).mono (fun rv M1 q => ?_))
      obtain ⟨rfl, rfl⟩ := q
      show V 133 (34, [some (aR 52), some (aI k)], [aI (-9)], MM N ((noU I (-9))) J) _
      refine V.nI (fun I6 eI6 => ?_)
      refine V.ri (by decide +kernel) ?_
      refine ⟨congrArg (fun w => some (aI w)) ?_, congrArg (fun w => MM N w J) ?_⟩
      all_goals subst eI6
      all_goals (first | unfold thingMA | unfold thingMU)
      all_goals (repeat' split)
      all_goals first | rfl | omega | (exfalso; omega) | (simp [ma, ma_ma, actMU, vnU])
  · skip
    try simp only [b2_cast, b2_ncast, Classical.not_not, lcm_lt, lcm_ge, lcm_gt, lcm_le, lcm_eq] at h2
    refine V.blk [(12, .aload 0, 1), (13, .bipush (-3), 2)] (ps := []) (z' := (15, [some (aR 52), some (aI k)], [aI (-3), aR 52], MM N I J)) (by decide +kernel) rfl trivial ?_
    refine V.cv (c := 116) (na := 2) (o := 10) (a := 52) [aI (-3)] [] (by decide +kernel) rfl rfl rfl rfl rfl ((m_no (by assumption) (by omega)).mono (fun rv M1 q => ?_))
    obtain ⟨rfl, rfl⟩ := q
    show V 133 (18, [some (aR 52), some (aI k)], [aI (-3)], MM N ((noU I (-3))) J) _
    refine V.nI (fun I7 eI7 => ?_)
    refine V.ri (by decide +kernel) ?_
    refine ⟨congrArg (fun w => some (aI w)) ?_, congrArg (fun w => MM N w J) ?_⟩
    all_goals subst eI7
    all_goals (first | unfold thingMA | unfold thingMU)
    all_goals (repeat' split)
    all_goals first | rfl | omega | (exfalso; omega) | (simp [ma, ma_ma, actMU, vnU])
def nameMA (I : MI) (p v : Int) : Int := if 0 ≤ p ∧ p < 64 then 1 else -3
def nameMU (I : MI) (p v : Int) : MI := if 0 ≤ p ∧ p < 64 then vnU (ma (ma I 54 (ma (I 54) p.toNat 7)) 57 (ma (I 57) p.toNat v)) else noU I (-3)
theorem m_X10_name {N : Nat} {I : MI} {J : MJ} {p v : Int} (hr : RfM I) (hv : 0 ≤ I 52 40 ∧ I 52 40 ≤ 2000) : CT 136 [aR 52, aI p, aI v] (MM N I J) (QU N J (aI (nameMA I p v)) (nameMU I p v)) := by
  refine CT.ofV (n := 3) (ls := [some (aR 52), some (aI p), some (aI v)]) rfl rfl rfl ?_
  refine V.blk [(0, .iload 1, 1)] (ps := []) (z' := (1, [some (aR 52), some (aI p), some (aI v)], [aI p], MM N I J)) (by decide +kernel) rfl trivial ?_
  refine V.cs (c := 121) (na := 1) [aI p] [] (by decide +kernel) rfl rfl (V.pr (m_X10_isPlace) ?_)
  show V 136 (4, [some (aR 52), some (aI p), some (aI v)], [aI (b2 (decide (0 ≤ p ∧ p < 64)))], MM N I J) _
  refine V.blk [(4, .ifCond .ne 14, 3)] (ps := []) (z' := (brc .ne (b2 (decide (0 ≤ p ∧ p < 64))) 0 14 7, [some (aR 52), some (aI p), some (aI v)], [], MM N I J)) (by decide +kernel) rfl trivial ?_
  refine V.ne (fun h1 => ?_) (fun h2 => ?_)
  · skip
    try simp only [b2_cast, b2_ncast, Classical.not_not, lcm_lt, lcm_ge, lcm_gt, lcm_le, lcm_eq] at h1
    refine V.blk [(14, .aload 0, 1), (15, .getfield 10002, 3), (18, .iload 1, 1), (19, .bipush 7, 2), (21, .iastore, 1), (22, .aload 0, 1), (23, .getfield 10005, 3), (26, .iload 1, 1), (27, .iload 2, 1), (28, .iastore, 1), (29, .aload 0, 1), (30, .dup, 1), (31, .getfield 10040, 3), (34, .bipush 1, 1), (35, .iadd, 1), (36, .putfield 10040, 3), (39, .bipush 1, 1)] (ps := [0 ≤ p ∧ p < 64, 0 ≤ p ∧ p < 64, inR (((ma (ma I 54 (ma (I 54) ((p).toNat) 7)) 57 (ma ((ma I 54 (ma (I 54) ((p).toNat) 7)) 57) ((p).toNat) v)) 52 40) + 1)]) (z' := (40, [some (aR 52), some (aI p), some (aI v)], [aI 1], MM N (ma (ma (ma I 54 (ma (I 54) ((p).toNat) 7)) 57 (ma ((ma I 54 (ma (I 54) ((p).toNat) 7)) 57) ((p).toNat) v)) 52 (ma ((ma (ma I 54 (ma (I 54) ((p).toNat) 7)) 57 (ma ((ma I 54 (ma (I 54) ((p).toNat) 7)) 57) ((p).toNat) v)) 52) 40 (((ma (ma I 54 (ma (I 54) ((p).toNat) 7)) 57 (ma ((ma I 54 (ma (I 54) ((p).toNat) 7)) 57) ((p).toNat) v)) 52 40) + 1))) J)) (by decide +kernel) rfl (show (0 ≤ p ∧ p < 64) ∧ (0 ≤ p ∧ p < 64) ∧ (inR (((ma (ma I 54 (ma (I 54) ((p).toNat) 7)) 57 (ma ((ma I 54 (ma (I 54) ((p).toNat) 7)) 57) ((p).toNat) v)) 52 40) + 1)) from ⟨(by first | omega | (simp [ma]; omega)), (by first | omega | (simp [ma]; omega)), (by unfold inR; first | omega | (simp [ma]; omega))⟩) ?_
    refine V.nI (fun I3 eI3 => ?_)
    refine V.ri (by decide +kernel) ?_
    refine ⟨congrArg (fun w => some (aI w)) ?_, congrArg (fun w => MM N w J) ?_⟩
    all_goals subst eI3
    all_goals (first | unfold nameMA | unfold nameMU)
    all_goals (repeat' split)
    all_goals first | rfl | omega | (exfalso; omega) | (simp [ma, ma_ma, actMU, vnU])
  · skip
    try simp only [b2_cast, b2_ncast, Classical.not_not, lcm_lt, lcm_ge, lcm_gt, lcm_le, lcm_eq] at h2
    refine V.blk [(7, .aload 0, 1), (8, .bipush (-3), 2)] (ps := []) (z' := (10, [some (aR 52), some (aI p), some (aI v)], [aI (-3), aR 52], MM N I J)) (by decide +kernel) rfl trivial ?_
    refine V.cv (c := 116) (na := 2) (o := 10) (a := 52) [aI (-3)] [] (by decide +kernel) rfl rfl rfl rfl rfl ((m_no (by assumption) (by omega)).mono (fun rv M1 q => ?_))
    obtain ⟨rfl, rfl⟩ := q
    show V 136 (13, [some (aR 52), some (aI p), some (aI v)], [aI (-3)], MM N ((noU I (-3))) J) _
    refine V.nI (fun I4 eI4 => ?_)
    refine V.ri (by decide +kernel) ?_
    refine ⟨congrArg (fun w => some (aI w)) ?_, congrArg (fun w => MM N w J) ?_⟩
    all_goals subst eI4
    all_goals (first | unfold nameMA | unfold nameMU)
    all_goals (repeat' split)
    all_goals first | rfl | omega | (exfalso; omega) | (simp [ma, ma_ma, actMU, vnU])
def emptyMA (I : MI) (p : Int) : Int := if 0 ≤ p ∧ p < 64 then (if I 54 p.toNat = -1 then 0 else 1) else -3
def emptyMU (I : MI) (p : Int) : MI := if 0 ≤ p ∧ p < 64 then vnU (ma I 54 (ma (I 54) p.toNat (-1))) else noU I (-3)
theorem m_X10_empty {N : Nat} {I : MI} {J : MJ} {p : Int} (hr : RfM I) (hv : 0 ≤ I 52 40 ∧ I 52 40 ≤ 2000) : CT 137 [aR 52, aI p] (MM N I J) (QU N J (aI (emptyMA I p)) (emptyMU I p)) := by
  refine CT.ofV (n := 3) (ls := [some (aR 52), some (aI p), none]) rfl rfl rfl ?_
  refine V.blk [(0, .iload 1, 1)] (ps := []) (z' := (1, [some (aR 52), some (aI p), none], [aI p], MM N I J)) (by decide +kernel) rfl trivial ?_
  refine V.cs (c := 121) (na := 1) [aI p] [] (by decide +kernel) rfl rfl (V.pr (m_X10_isPlace) ?_)
  show V 137 (4, [some (aR 52), some (aI p), none], [aI (b2 (decide (0 ≤ p ∧ p < 64)))], MM N I J) _
  refine V.blk [(4, .ifCond .ne 14, 3)] (ps := []) (z' := (brc .ne (b2 (decide (0 ≤ p ∧ p < 64))) 0 14 7, [some (aR 52), some (aI p), none], [], MM N I J)) (by decide +kernel) rfl trivial ?_
  refine V.ne (fun h1 => ?_) (fun h2 => ?_)
  · skip
    try simp only [b2_cast, b2_ncast, Classical.not_not, lcm_lt, lcm_ge, lcm_gt, lcm_le, lcm_eq] at h1
    refine V.blk [(14, .aload 0, 1), (15, .getfield 10002, 3), (18, .iload 1, 1), (19, .iaload, 1), (20, .bipush (-1), 1), (21, .if_icmp .ne 28, 3)] (ps := [0 ≤ p ∧ p < 64]) (z' := (brc .ne (I 54 ((p).toNat)) (-1) 28 24, [some (aR 52), some (aI p), none], [], MM N I J)) (by decide +kernel) rfl (show (0 ≤ p ∧ p < 64) from (by first | omega | (simp [ma]; omega))) ?_
    refine V.ne (fun h3 => ?_) (fun h4 => ?_)
    · skip
      try simp only [b2_cast, b2_ncast, Classical.not_not, lcm_lt, lcm_ge, lcm_gt, lcm_le, lcm_eq] at h3
      refine V.blk [(28, .bipush 1, 1), (29, .istore 2, 1), (30, .aload 0, 1), (31, .getfield 10002, 3), (34, .iload 1, 1), (35, .bipush (-1), 1), (36, .iastore, 1), (37, .aload 0, 1), (38, .dup, 1), (39, .getfield 10040, 3), (42, .bipush 1, 1), (43, .iadd, 1), (44, .putfield 10040, 3), (47, .iload 2, 1)] (ps := [0 ≤ p ∧ p < 64, inR (((ma I 54 (ma (I 54) ((p).toNat) (-1))) 52 40) + 1)]) (z' := (48, [some (aR 52), some (aI p), some (aI 1)], [aI 1], MM N (ma (ma I 54 (ma (I 54) ((p).toNat) (-1))) 52 (ma ((ma I 54 (ma (I 54) ((p).toNat) (-1))) 52) 40 (((ma I 54 (ma (I 54) ((p).toNat) (-1))) 52 40) + 1))) J)) (by decide +kernel) rfl (show (0 ≤ p ∧ p < 64) ∧ (inR (((ma I 54 (ma (I 54) ((p).toNat) (-1))) 52 40) + 1)) from ⟨(by first | omega | (simp [ma]; omega)), (by unfold inR; first | omega | (simp [ma]; omega))⟩) ?_
      refine V.nI (fun I5 eI5 => ?_)
      refine V.ri (by decide +kernel) ?_
      refine ⟨congrArg (fun w => some (aI w)) ?_, congrArg (fun w => MM N w J) ?_⟩
      all_goals subst eI5
      all_goals (first | unfold emptyMA | unfold emptyMU)
      all_goals (repeat' split)
      all_goals first | rfl | omega | (exfalso; omega) | (simp [ma, ma_ma, actMU, vnU])
    · skip
      try simp only [b2_cast, b2_ncast, Classical.not_not, lcm_lt, lcm_ge, lcm_gt, lcm_le, lcm_eq] at h4
      refine V.blk [(24, .bipush 0, 1), (25, .goto 29, 3), (29, .istore 2, 1), (30, .aload 0, 1), (31, .getfield 10002, 3), (34, .iload 1, 1), (35, .bipush (-1), 1), (36, .iastore, 1), (37, .aload 0, 1), (38, .dup, 1), (39, .getfield 10040, 3), (42, .bipush 1, 1), (43, .iadd, 1), (44, .putfield 10040, 3), (47, .iload 2, 1)] (ps := [0 ≤ p ∧ p < 64, inR (((ma I 54 (ma (I 54) ((p).toNat) (-1))) 52 40) + 1)]) (z' := (48, [some (aR 52), some (aI p), some (aI 0)], [aI 0], MM N (ma (ma I 54 (ma (I 54) ((p).toNat) (-1))) 52 (ma ((ma I 54 (ma (I 54) ((p).toNat) (-1))) 52) 40 (((ma I 54 (ma (I 54) ((p).toNat) (-1))) 52 40) + 1))) J)) (by decide +kernel) rfl (show (0 ≤ p ∧ p < 64) ∧ (inR (((ma I 54 (ma (I 54) ((p).toNat) (-1))) 52 40) + 1)) from ⟨(by first | omega | (simp [ma]; omega)), (by unfold inR; first | omega | (simp [ma]; omega))⟩) ?_
      refine V.nI (fun I6 eI6 => ?_)
      refine V.ri (by decide +kernel) ?_
      refine ⟨congrArg (fun w => some (aI w)) ?_, congrArg (fun w => MM N w J) ?_⟩
      all_goals subst eI6
      all_goals (first | unfold emptyMA | unfold emptyMU)
      all_goals (repeat' split)
      all_goals first | rfl | omega | (exfalso; omega) | (simp [ma, ma_ma, actMU, vnU])
  · skip
    try simp only [b2_cast, b2_ncast, Classical.not_not, lcm_lt, lcm_ge, lcm_gt, lcm_le, lcm_eq] at h2
    refine V.blk [(7, .aload 0, 1), (8, .bipush (-3), 2)] (ps := []) (z' := (10, [some (aR 52), some (aI p), none], [aI (-3), aR 52], MM N I J)) (by decide +kernel) rfl trivial ?_
    refine V.cv (c := 116) (na := 2) (o := 10) (a := 52) [aI (-3)] [] (by decide +kernel) rfl rfl rfl rfl rfl ((m_no (by assumption) (by omega)).mono (fun rv M1 q => ?_))
    obtain ⟨rfl, rfl⟩ := q
    show V 137 (13, [some (aR 52), some (aI p), none], [aI (-3)], MM N ((noU I (-3))) J) _
    refine V.nI (fun I7 eI7 => ?_)
    refine V.ri (by decide +kernel) ?_
    refine ⟨congrArg (fun w => some (aI w)) ?_, congrArg (fun w => MM N w J) ?_⟩
    all_goals subst eI7
    all_goals (first | unfold emptyMA | unfold emptyMU)
    all_goals (repeat' split)
    all_goals first | rfl | omega | (exfalso; omega) | (simp [ma, ma_ma, actMU, vnU])
def holdsMA (I : MI) (p : Int) : Int := if 0 ≤ p ∧ p < 64 then I 54 p.toNat else -3
def holdsMU (I : MI) (p : Int) : MI := if 0 ≤ p ∧ p < 64 then I else noU I (-3)
theorem m_X10_holds {N : Nat} {I : MI} {J : MJ} {p : Int} (hr : RfM I) : CT 138 [aR 52, aI p] (MM N I J) (QU N J (aI (holdsMA I p)) (holdsMU I p)) := by
  refine CT.ofV (n := 2) (ls := [some (aR 52), some (aI p)]) rfl rfl rfl ?_
  refine V.blk [(0, .iload 1, 1)] (ps := []) (z' := (1, [some (aR 52), some (aI p)], [aI p], MM N I J)) (by decide +kernel) rfl trivial ?_
  refine V.cs (c := 121) (na := 1) [aI p] [] (by decide +kernel) rfl rfl (V.pr (m_X10_isPlace) ?_)
  show V 138 (4, [some (aR 52), some (aI p)], [aI (b2 (decide (0 ≤ p ∧ p < 64)))], MM N I J) _
  refine V.blk [(4, .ifCond .eq 16, 3)] (ps := []) (z' := (brc .eq (b2 (decide (0 ≤ p ∧ p < 64))) 0 16 7, [some (aR 52), some (aI p)], [], MM N I J)) (by decide +kernel) rfl trivial ?_
  refine V.eq (fun h1 => ?_) (fun h2 => ?_)
  · skip
    try simp only [b2_cast, b2_ncast, Classical.not_not, lcm_lt, lcm_ge, lcm_gt, lcm_le, lcm_eq] at h1
    refine V.blk [(16, .aload 0, 1), (17, .bipush (-3), 2)] (ps := []) (z' := (19, [some (aR 52), some (aI p)], [aI (-3), aR 52], MM N I J)) (by decide +kernel) rfl trivial ?_
    refine V.cv (c := 116) (na := 2) (o := 10) (a := 52) [aI (-3)] [] (by decide +kernel) rfl rfl rfl rfl rfl ((m_no (by assumption) (by omega)).mono (fun rv M1 q => ?_))
    obtain ⟨rfl, rfl⟩ := q
    show V 138 (22, [some (aR 52), some (aI p)], [aI (-3)], MM N ((noU I (-3))) J) _
    refine V.nI (fun I3 eI3 => ?_)
    refine V.ri (by decide +kernel) ?_
    refine ⟨congrArg (fun w => some (aI w)) ?_, congrArg (fun w => MM N w J) ?_⟩
    all_goals subst eI3
    all_goals (first | unfold holdsMA | unfold holdsMU)
    all_goals (repeat' split)
    all_goals first | rfl | omega | (exfalso; omega) | (simp [ma, ma_ma, actMU, vnU])
  · skip
    try simp only [b2_cast, b2_ncast, Classical.not_not, lcm_lt, lcm_ge, lcm_gt, lcm_le, lcm_eq] at h2
    refine V.blk [(7, .aload 0, 1), (8, .getfield 10002, 3), (11, .iload 1, 1), (12, .iaload, 1), (13, .goto 22, 3)] (ps := [0 ≤ p ∧ p < 64]) (z' := (22, [some (aR 52), some (aI p)], [aI (I 54 ((p).toNat))], MM N I J)) (by decide +kernel) rfl (show (0 ≤ p ∧ p < 64) from (by first | omega | (simp [ma]; omega))) ?_
    refine V.ri (by decide +kernel) ?_
    refine ⟨congrArg (fun w => some (aI w)) ?_, congrArg (fun w => MM N w J) ?_⟩
    all_goals (first | unfold holdsMA | unfold holdsMU)
    all_goals (repeat' split)
    all_goals first | rfl | omega | (exfalso; omega) | (simp [ma, ma_ma, actMU, vnU])
def asksMA (I : MI) (p w : Int) : Int := if 0 ≤ p ∧ p < 64 then (if I 54 p.toNat = -1 then -2 else if I 54 p.toNat = 7 then -5 else if w = 0 then (if 2 ≤ I 54 p.toNat then I 55 p.toNat else -1) else if w = 1 then (if 3 ≤ I 54 p.toNat then I 56 p.toNat else -1) else -8) else -3
def asksMU (I : MI) (p w : Int) : MI := if 0 ≤ p ∧ p < 64 then (if I 54 p.toNat = -1 then noU I (-2) else if I 54 p.toNat = 7 then noU I (-5) else if w = 0 then I else if w = 1 then I else noU I (-8)) else noU I (-3)
theorem m_X10_asks {N : Nat} {I : MI} {J : MJ} {p w : Int} (hr : RfM I) (hw : inR w) : CT 139 [aR 52, aI p, aI w] (MM N I J) (QU N J (aI (asksMA I p w)) (asksMU I p w)) := by
  refine CT.ofV (n := 3) (ls := [some (aR 52), some (aI p), some (aI w)]) rfl rfl rfl ?_
  unfold inR at hw
  refine V.blk [(0, .iload 1, 1)] (ps := []) (z' := (1, [some (aR 52), some (aI p), some (aI w)], [aI p], MM N I J)) (by decide +kernel) rfl trivial ?_
  refine V.cs (c := 121) (na := 1) [aI p] [] (by decide +kernel) rfl rfl (V.pr (m_X10_isPlace) ?_)
  show V 139 (4, [some (aR 52), some (aI p), some (aI w)], [aI (b2 (decide (0 ≤ p ∧ p < 64)))], MM N I J) _
  refine V.blk [(4, .ifCond .ne 14, 3)] (ps := []) (z' := (brc .ne (b2 (decide (0 ≤ p ∧ p < 64))) 0 14 7, [some (aR 52), some (aI p), some (aI w)], [], MM N I J)) (by decide +kernel) rfl trivial ?_
  refine V.ne (fun h1 => ?_) (fun h2 => ?_)
  · skip
    try simp only [b2_cast, b2_ncast, Classical.not_not, lcm_lt, lcm_ge, lcm_gt, lcm_le, lcm_eq] at h1
    refine V.blk [(14, .aload 0, 1), (15, .getfield 10002, 3), (18, .iload 1, 1), (19, .iaload, 1), (20, .bipush (-1), 1), (21, .if_icmp .ne 31, 3)] (ps := [0 ≤ p ∧ p < 64]) (z' := (brc .ne (I 54 ((p).toNat)) (-1) 31 24, [some (aR 52), some (aI p), some (aI w)], [], MM N I J)) (by decide +kernel) rfl (show (0 ≤ p ∧ p < 64) from (by first | omega | (simp [ma]; omega))) ?_
    refine V.ne (fun h3 => ?_) (fun h4 => ?_)
    · skip
      try simp only [b2_cast, b2_ncast, Classical.not_not, lcm_lt, lcm_ge, lcm_gt, lcm_le, lcm_eq] at h3
      refine V.blk [(31, .aload 0, 1), (32, .getfield 10002, 3), (35, .iload 1, 1), (36, .iaload, 1), (37, .bipush 7, 2), (39, .if_icmp .ne 49, 3)] (ps := [0 ≤ p ∧ p < 64]) (z' := (brc .ne (I 54 ((p).toNat)) 7 49 42, [some (aR 52), some (aI p), some (aI w)], [], MM N I J)) (by decide +kernel) rfl (show (0 ≤ p ∧ p < 64) from (by first | omega | (simp [ma]; omega))) ?_
      refine V.ne (fun h5 => ?_) (fun h6 => ?_)
      · skip
        try simp only [b2_cast, b2_ncast, Classical.not_not, lcm_lt, lcm_ge, lcm_gt, lcm_le, lcm_eq] at h5
        refine V.blk [(49, .iload 2, 1), (50, .i2l, 1), (51, .jsr_w 0, 1), (52, .jsr_w 1, 1)] (ps := []) (z' := (53, [some (aR 52), some (aI p), some (aI w)], [aL (Int64.ofInt 1), aL (Int64.ofInt 0), aL (Int64.ofInt w)], MM N I J)) (by decide +kernel) rfl trivial ?_
        refine V.cs (c := 115) (na := 3) [aL (Int64.ofInt 1), aL (Int64.ofInt 0), aL (Int64.ofInt w)] [] (by decide +kernel) rfl rfl (V.pr (m_X10_isIn (by unfold inR; omega) (by unfold inR; omega) (by unfold inR; omega)) ?_)
        show V 139 (56, [some (aR 52), some (aI p), some (aI w)], [aI (b2 (decide (0 ≤ w ∧ w ≤ 1)))], MM N I J) _
        refine V.blk [(56, .ifCond .ne 66, 3)] (ps := []) (z' := (brc .ne (b2 (decide (0 ≤ w ∧ w ≤ 1))) 0 66 59, [some (aR 52), some (aI p), some (aI w)], [], MM N I J)) (by decide +kernel) rfl trivial ?_
        refine V.ne (fun h7 => ?_) (fun h8 => ?_)
        · skip
          try simp only [b2_cast, b2_ncast, Classical.not_not, lcm_lt, lcm_ge, lcm_gt, lcm_le, lcm_eq] at h7
          refine V.blk [(66, .iload 2, 1), (67, .ifCond .ne 91, 3)] (ps := []) (z' := (brc .ne w 0 91 70, [some (aR 52), some (aI p), some (aI w)], [], MM N I J)) (by decide +kernel) rfl trivial ?_
          refine V.ne (fun h9 => ?_) (fun h10 => ?_)
          · skip
            try simp only [b2_cast, b2_ncast, Classical.not_not, lcm_lt, lcm_ge, lcm_gt, lcm_le, lcm_eq] at h9
            refine V.blk [(91, .aload 0, 1), (92, .getfield 10002, 3), (95, .iload 1, 1), (96, .iaload, 1), (97, .bipush 3, 1), (98, .if_icmp .lt 110, 3)] (ps := [0 ≤ p ∧ p < 64]) (z' := (brc .lt (I 54 ((p).toNat)) 3 110 101, [some (aR 52), some (aI p), some (aI w)], [], MM N I J)) (by decide +kernel) rfl (show (0 ≤ p ∧ p < 64) from (by first | omega | (simp [ma]; omega))) ?_
            refine V.lt (fun h11 => ?_) (fun h12 => ?_)
            · skip
              try simp only [b2_cast, b2_ncast, Classical.not_not, lcm_lt, lcm_ge, lcm_gt, lcm_le, lcm_eq] at h11
              refine V.blk [(110, .bipush (-1), 1)] (ps := []) (z' := (111, [some (aR 52), some (aI p), some (aI w)], [aI (-1)], MM N I J)) (by decide +kernel) rfl trivial ?_
              refine V.ri (by decide +kernel) ?_
              refine ⟨congrArg (fun w => some (aI w)) ?_, congrArg (fun w => MM N w J) ?_⟩
              all_goals (first | unfold asksMA | unfold asksMU)
              all_goals (repeat' split)
              all_goals first | rfl | omega | (exfalso; omega) | (simp [ma, ma_ma, actMU, vnU])
            · skip
              try simp only [b2_cast, b2_ncast, Classical.not_not, lcm_lt, lcm_ge, lcm_gt, lcm_le, lcm_eq] at h12
              refine V.blk [(101, .aload 0, 1), (102, .getfield 10004, 3), (105, .iload 1, 1), (106, .iaload, 1), (107, .goto 111, 3)] (ps := [0 ≤ p ∧ p < 64]) (z' := (111, [some (aR 52), some (aI p), some (aI w)], [aI (I 56 ((p).toNat))], MM N I J)) (by decide +kernel) rfl (show (0 ≤ p ∧ p < 64) from (by first | omega | (simp [ma]; omega))) ?_
              refine V.ri (by decide +kernel) ?_
              refine ⟨congrArg (fun w => some (aI w)) ?_, congrArg (fun w => MM N w J) ?_⟩
              all_goals (first | unfold asksMA | unfold asksMU)
              all_goals (repeat' split)
              all_goals first | rfl | omega | (exfalso; omega) | (simp [ma, ma_ma, actMU, vnU])
          · skip
            try simp only [b2_cast, b2_ncast, Classical.not_not, lcm_lt, lcm_ge, lcm_gt, lcm_le, lcm_eq] at h10
            refine V.blk [(70, .aload 0, 1), (71, .getfield 10002, 3), (74, .iload 1, 1), (75, .iaload, 1), (76, .bipush 2, 1), (77, .if_icmp .lt 89, 3)] (ps := [0 ≤ p ∧ p < 64]) (z' := (brc .lt (I 54 ((p).toNat)) 2 89 80, [some (aR 52), some (aI p), some (aI w)], [], MM N I J)) (by decide +kernel) rfl (show (0 ≤ p ∧ p < 64) from (by first | omega | (simp [ma]; omega))) ?_
            refine V.lt (fun h13 => ?_) (fun h14 => ?_)
            · skip
              try simp only [b2_cast, b2_ncast, Classical.not_not, lcm_lt, lcm_ge, lcm_gt, lcm_le, lcm_eq] at h13
              refine V.blk [(89, .bipush (-1), 1)] (ps := []) (z' := (90, [some (aR 52), some (aI p), some (aI w)], [aI (-1)], MM N I J)) (by decide +kernel) rfl trivial ?_
              refine V.ri (by decide +kernel) ?_
              refine ⟨congrArg (fun w => some (aI w)) ?_, congrArg (fun w => MM N w J) ?_⟩
              all_goals (first | unfold asksMA | unfold asksMU)
              all_goals (repeat' split)
              all_goals first | rfl | omega | (exfalso; omega) | (simp [ma, ma_ma, actMU, vnU])
            · skip
              try simp only [b2_cast, b2_ncast, Classical.not_not, lcm_lt, lcm_ge, lcm_gt, lcm_le, lcm_eq] at h14
              refine V.blk [(80, .aload 0, 1), (81, .getfield 10003, 3), (84, .iload 1, 1), (85, .iaload, 1), (86, .goto 90, 3)] (ps := [0 ≤ p ∧ p < 64]) (z' := (90, [some (aR 52), some (aI p), some (aI w)], [aI (I 55 ((p).toNat))], MM N I J)) (by decide +kernel) rfl (show (0 ≤ p ∧ p < 64) from (by first | omega | (simp [ma]; omega))) ?_
              refine V.ri (by decide +kernel) ?_
              refine ⟨congrArg (fun w => some (aI w)) ?_, congrArg (fun w => MM N w J) ?_⟩
              all_goals (first | unfold asksMA | unfold asksMU)
              all_goals (repeat' split)
              all_goals first | rfl | omega | (exfalso; omega) | (simp [ma, ma_ma, actMU, vnU])
        · skip
          try simp only [b2_cast, b2_ncast, Classical.not_not, lcm_lt, lcm_ge, lcm_gt, lcm_le, lcm_eq] at h8
          refine V.blk [(59, .aload 0, 1), (60, .bipush (-8), 2)] (ps := []) (z' := (62, [some (aR 52), some (aI p), some (aI w)], [aI (-8), aR 52], MM N I J)) (by decide +kernel) rfl trivial ?_
          refine V.cv (c := 116) (na := 2) (o := 10) (a := 52) [aI (-8)] [] (by decide +kernel) rfl rfl rfl rfl rfl ((m_no (by assumption) (by omega)).mono (fun rv M1 q => ?_))
          obtain ⟨rfl, rfl⟩ := q
          show V 139 (65, [some (aR 52), some (aI p), some (aI w)], [aI (-8)], MM N ((noU I (-8))) J) _
          refine V.nI (fun I15 eI15 => ?_)
          refine V.ri (by decide +kernel) ?_
          refine ⟨congrArg (fun w => some (aI w)) ?_, congrArg (fun w => MM N w J) ?_⟩
          all_goals subst eI15
          all_goals (first | unfold asksMA | unfold asksMU)
          all_goals (repeat' split)
          all_goals first | rfl | omega | (exfalso; omega) | (simp [ma, ma_ma, actMU, vnU])
      · skip
        try simp only [b2_cast, b2_ncast, Classical.not_not, lcm_lt, lcm_ge, lcm_gt, lcm_le, lcm_eq] at h6
        refine V.blk [(42, .aload 0, 1), (43, .bipush (-5), 2)] (ps := []) (z' := (45, [some (aR 52), some (aI p), some (aI w)], [aI (-5), aR 52], MM N I J)) (by decide +kernel) rfl trivial ?_
        refine V.cv (c := 116) (na := 2) (o := 10) (a := 52) [aI (-5)] [] (by decide +kernel) rfl rfl rfl rfl rfl ((m_no (by assumption) (by omega)).mono (fun rv M1 q => ?_))
        obtain ⟨rfl, rfl⟩ := q
        show V 139 (48, [some (aR 52), some (aI p), some (aI w)], [aI (-5)], MM N ((noU I (-5))) J) _
        refine V.nI (fun I16 eI16 => ?_)
        refine V.ri (by decide +kernel) ?_
        refine ⟨congrArg (fun w => some (aI w)) ?_, congrArg (fun w => MM N w J) ?_⟩
        all_goals subst eI16
        all_goals (first | unfold asksMA | unfold asksMU)
        all_goals (repeat' split)
        all_goals first | rfl | omega | (exfalso; omega) | (simp [ma, ma_ma, actMU, vnU])
    · skip
      try simp only [b2_cast, b2_ncast, Classical.not_not, lcm_lt, lcm_ge, lcm_gt, lcm_le, lcm_eq] at h4
      refine V.blk [(24, .aload 0, 1), (25, .bipush (-2), 2)] (ps := []) (z' := (27, [some (aR 52), some (aI p), some (aI w)], [aI (-2), aR 52], MM N I J)) (by decide +kernel) rfl trivial ?_
      refine V.cv (c := 116) (na := 2) (o := 10) (a := 52) [aI (-2)] [] (by decide +kernel) rfl rfl rfl rfl rfl ((m_no (by assumption) (by omega)).mono (fun rv M1 q => ?_))
      obtain ⟨rfl, rfl⟩ := q
      show V 139 (30, [some (aR 52), some (aI p), some (aI w)], [aI (-2)], MM N ((noU I (-2))) J) _
      refine V.nI (fun I17 eI17 => ?_)
      refine V.ri (by decide +kernel) ?_
      refine ⟨congrArg (fun w => some (aI w)) ?_, congrArg (fun w => MM N w J) ?_⟩
      all_goals subst eI17
      all_goals (first | unfold asksMA | unfold asksMU)
      all_goals (repeat' split)
      all_goals first | rfl | omega | (exfalso; omega) | (simp [ma, ma_ma, actMU, vnU])
  · skip
    try simp only [b2_cast, b2_ncast, Classical.not_not, lcm_lt, lcm_ge, lcm_gt, lcm_le, lcm_eq] at h2
    refine V.blk [(7, .aload 0, 1), (8, .bipush (-3), 2)] (ps := []) (z' := (10, [some (aR 52), some (aI p), some (aI w)], [aI (-3), aR 52], MM N I J)) (by decide +kernel) rfl trivial ?_
    refine V.cv (c := 116) (na := 2) (o := 10) (a := 52) [aI (-3)] [] (by decide +kernel) rfl rfl rfl rfl rfl ((m_no (by assumption) (by omega)).mono (fun rv M1 q => ?_))
    obtain ⟨rfl, rfl⟩ := q
    show V 139 (13, [some (aR 52), some (aI p), some (aI w)], [aI (-3)], MM N ((noU I (-3))) J) _
    refine V.nI (fun I18 eI18 => ?_)
    refine V.ri (by decide +kernel) ?_
    refine ⟨congrArg (fun w => some (aI w)) ?_, congrArg (fun w => MM N w J) ?_⟩
    all_goals subst eI18
    all_goals (first | unfold asksMA | unfold asksMU)
    all_goals (repeat' split)
    all_goals first | rfl | omega | (exfalso; omega) | (simp [ma, ma_ma, actMU, vnU])
def namedMA (I : MI) (p : Int) : Int := if 0 ≤ p ∧ p < 64 then (if I 54 p.toNat = -1 then -2 else if I 54 p.toNat = 7 then I 57 p.toNat else -5) else -3
def namedMU (I : MI) (p : Int) : MI := if 0 ≤ p ∧ p < 64 then (if I 54 p.toNat = -1 then noU I (-2) else if I 54 p.toNat = 7 then I else noU I (-5)) else noU I (-3)
theorem m_X10_named {N : Nat} {I : MI} {J : MJ} {p : Int} (hr : RfM I) : CT 140 [aR 52, aI p] (MM N I J) (QU N J (aI (namedMA I p)) (namedMU I p)) := by
  refine CT.ofV (n := 2) (ls := [some (aR 52), some (aI p)]) rfl rfl rfl ?_
  refine V.blk [(0, .iload 1, 1)] (ps := []) (z' := (1, [some (aR 52), some (aI p)], [aI p], MM N I J)) (by decide +kernel) rfl trivial ?_
  refine V.cs (c := 121) (na := 1) [aI p] [] (by decide +kernel) rfl rfl (V.pr (m_X10_isPlace) ?_)
  show V 140 (4, [some (aR 52), some (aI p)], [aI (b2 (decide (0 ≤ p ∧ p < 64)))], MM N I J) _
  refine V.blk [(4, .ifCond .ne 14, 3)] (ps := []) (z' := (brc .ne (b2 (decide (0 ≤ p ∧ p < 64))) 0 14 7, [some (aR 52), some (aI p)], [], MM N I J)) (by decide +kernel) rfl trivial ?_
  refine V.ne (fun h1 => ?_) (fun h2 => ?_)
  · skip
    try simp only [b2_cast, b2_ncast, Classical.not_not, lcm_lt, lcm_ge, lcm_gt, lcm_le, lcm_eq] at h1
    refine V.blk [(14, .aload 0, 1), (15, .getfield 10002, 3), (18, .iload 1, 1), (19, .iaload, 1), (20, .bipush (-1), 1), (21, .if_icmp .ne 31, 3)] (ps := [0 ≤ p ∧ p < 64]) (z' := (brc .ne (I 54 ((p).toNat)) (-1) 31 24, [some (aR 52), some (aI p)], [], MM N I J)) (by decide +kernel) rfl (show (0 ≤ p ∧ p < 64) from (by first | omega | (simp [ma]; omega))) ?_
    refine V.ne (fun h3 => ?_) (fun h4 => ?_)
    · skip
      try simp only [b2_cast, b2_ncast, Classical.not_not, lcm_lt, lcm_ge, lcm_gt, lcm_le, lcm_eq] at h3
      refine V.blk [(31, .aload 0, 1), (32, .getfield 10002, 3), (35, .iload 1, 1), (36, .iaload, 1), (37, .bipush 7, 2), (39, .if_icmp .ne 51, 3)] (ps := [0 ≤ p ∧ p < 64]) (z' := (brc .ne (I 54 ((p).toNat)) 7 51 42, [some (aR 52), some (aI p)], [], MM N I J)) (by decide +kernel) rfl (show (0 ≤ p ∧ p < 64) from (by first | omega | (simp [ma]; omega))) ?_
      refine V.ne (fun h5 => ?_) (fun h6 => ?_)
      · skip
        try simp only [b2_cast, b2_ncast, Classical.not_not, lcm_lt, lcm_ge, lcm_gt, lcm_le, lcm_eq] at h5
        refine V.blk [(51, .aload 0, 1), (52, .bipush (-5), 2)] (ps := []) (z' := (54, [some (aR 52), some (aI p)], [aI (-5), aR 52], MM N I J)) (by decide +kernel) rfl trivial ?_
        refine V.cv (c := 116) (na := 2) (o := 10) (a := 52) [aI (-5)] [] (by decide +kernel) rfl rfl rfl rfl rfl ((m_no (by assumption) (by omega)).mono (fun rv M1 q => ?_))
        obtain ⟨rfl, rfl⟩ := q
        show V 140 (57, [some (aR 52), some (aI p)], [aI (-5)], MM N ((noU I (-5))) J) _
        refine V.nI (fun I7 eI7 => ?_)
        refine V.ri (by decide +kernel) ?_
        refine ⟨congrArg (fun w => some (aI w)) ?_, congrArg (fun w => MM N w J) ?_⟩
        all_goals subst eI7
        all_goals (first | unfold namedMA | unfold namedMU)
        all_goals (repeat' split)
        all_goals first | rfl | omega | (exfalso; omega) | (simp [ma, ma_ma, actMU, vnU])
      · skip
        try simp only [b2_cast, b2_ncast, Classical.not_not, lcm_lt, lcm_ge, lcm_gt, lcm_le, lcm_eq] at h6
        refine V.blk [(42, .aload 0, 1), (43, .getfield 10005, 3), (46, .iload 1, 1), (47, .iaload, 1), (48, .goto 57, 3)] (ps := [0 ≤ p ∧ p < 64]) (z' := (57, [some (aR 52), some (aI p)], [aI (I 57 ((p).toNat))], MM N I J)) (by decide +kernel) rfl (show (0 ≤ p ∧ p < 64) from (by first | omega | (simp [ma]; omega))) ?_
        refine V.ri (by decide +kernel) ?_
        refine ⟨congrArg (fun w => some (aI w)) ?_, congrArg (fun w => MM N w J) ?_⟩
        all_goals (first | unfold namedMA | unfold namedMU)
        all_goals (repeat' split)
        all_goals first | rfl | omega | (exfalso; omega) | (simp [ma, ma_ma, actMU, vnU])
    · skip
      try simp only [b2_cast, b2_ncast, Classical.not_not, lcm_lt, lcm_ge, lcm_gt, lcm_le, lcm_eq] at h4
      refine V.blk [(24, .aload 0, 1), (25, .bipush (-2), 2)] (ps := []) (z' := (27, [some (aR 52), some (aI p)], [aI (-2), aR 52], MM N I J)) (by decide +kernel) rfl trivial ?_
      refine V.cv (c := 116) (na := 2) (o := 10) (a := 52) [aI (-2)] [] (by decide +kernel) rfl rfl rfl rfl rfl ((m_no (by assumption) (by omega)).mono (fun rv M1 q => ?_))
      obtain ⟨rfl, rfl⟩ := q
      show V 140 (30, [some (aR 52), some (aI p)], [aI (-2)], MM N ((noU I (-2))) J) _
      refine V.nI (fun I8 eI8 => ?_)
      refine V.ri (by decide +kernel) ?_
      refine ⟨congrArg (fun w => some (aI w)) ?_, congrArg (fun w => MM N w J) ?_⟩
      all_goals subst eI8
      all_goals (first | unfold namedMA | unfold namedMU)
      all_goals (repeat' split)
      all_goals first | rfl | omega | (exfalso; omega) | (simp [ma, ma_ma, actMU, vnU])
  · skip
    try simp only [b2_cast, b2_ncast, Classical.not_not, lcm_lt, lcm_ge, lcm_gt, lcm_le, lcm_eq] at h2
    refine V.blk [(7, .aload 0, 1), (8, .bipush (-3), 2)] (ps := []) (z' := (10, [some (aR 52), some (aI p)], [aI (-3), aR 52], MM N I J)) (by decide +kernel) rfl trivial ?_
    refine V.cv (c := 116) (na := 2) (o := 10) (a := 52) [aI (-3)] [] (by decide +kernel) rfl rfl rfl rfl rfl ((m_no (by assumption) (by omega)).mono (fun rv M1 q => ?_))
    obtain ⟨rfl, rfl⟩ := q
    show V 140 (13, [some (aR 52), some (aI p)], [aI (-3)], MM N ((noU I (-3))) J) _
    refine V.nI (fun I9 eI9 => ?_)
    refine V.ri (by decide +kernel) ?_
    refine ⟨congrArg (fun w => some (aI w)) ?_, congrArg (fun w => MM N w J) ?_⟩
    all_goals subst eI9
    all_goals (first | unfold namedMA | unfold namedMU)
    all_goals (repeat' split)
    all_goals first | rfl | omega | (exfalso; omega) | (simp [ma, ma_ma, actMU, vnU])
def writeMA (I : MI) (t r u e : Int) : Int := if (0 ≤ t ∧ t < I 52 1 ∧ 0 ≤ r ∧ r < 8) ∧ isUsr (I 52 1) u then (if 0 ≤ e ∧ e ≤ 1000000 then (if I 52 29 = 20 then -9 else I 52 29 + 1) else -8) else -3
def writeMU (I : MI) (t r u e : Int) : MI := if (0 ≤ t ∧ t < I 52 1 ∧ 0 ≤ r ∧ r < 8) ∧ isUsr (I 52 1) u then (if 0 ≤ e ∧ e ≤ 1000000 then (if I 52 29 = 20 then noU I (-9) else actMU I 1 t r u e) else noU I (-8)) else noU I (-3)
theorem m_X10_write {N : Nat} {I : MI} {J : MJ} {t r u e : Int} (hr : RfM I) (hd : 0 ≤ I 52 29 ∧ I 52 29 ≤ 20) (hu : inR u) (hn : I 52 1 ≤ 40) (he : inR e) : CT 143 [aR 52, aI t, aI r, aI u, aI e] (MM N I J) (QU N J (aI (writeMA I t r u e)) (writeMU I t r u e)) := by
  refine CT.ofV (n := 5) (ls := [some (aR 52), some (aI t), some (aI r), some (aI u), some (aI e)]) rfl rfl rfl ?_
  have he9 := he
  unfold inR at he9
  refine V.blk [(0, .aload 0, 1), (1, .iload 1, 1), (2, .iload 2, 1), (3, .iload 3, 1)] (ps := []) (z' := (4, [some (aR 52), some (aI t), some (aI r), some (aI u), some (aI e)], [aI u, aI r, aI t, aR 52], MM N I J)) (by decide +kernel) rfl trivial ?_
  refine V.cv (c := 142) (na := 4) (o := 10) (a := 52) [aI u, aI r, aI t] [] (by decide +kernel) rfl rfl rfl rfl rfl (V.pr (m_X10_isPair (by assumption) (by assumption)) ?_)
  show V 143 (7, [some (aR 52), some (aI t), some (aI r), some (aI u), some (aI e)], [aI (b2 (decide ((0 ≤ t ∧ t < I 52 1 ∧ 0 ≤ r ∧ r < 8) ∧ isUsr (I 52 1) u)))], MM N I J) _
  refine V.blk [(7, .ifCond .ne 17, 3)] (ps := []) (z' := (brc .ne (b2 (decide ((0 ≤ t ∧ t < I 52 1 ∧ 0 ≤ r ∧ r < 8) ∧ isUsr (I 52 1) u))) 0 17 10, [some (aR 52), some (aI t), some (aI r), some (aI u), some (aI e)], [], MM N I J)) (by decide +kernel) rfl trivial ?_
  refine V.ne (fun h1 => ?_) (fun h2 => ?_)
  · skip
    try simp only [b2_cast, b2_ncast, Classical.not_not, lcm_lt, lcm_ge, lcm_gt, lcm_le, lcm_eq] at h1
    refine V.blk [(17, .iload 4, 2), (19, .i2l, 1), (20, .jsr_w 0, 1), (21, .jsr_w 1000000, 3)] (ps := []) (z' := (24, [some (aR 52), some (aI t), some (aI r), some (aI u), some (aI e)], [aL (Int64.ofInt 1000000), aL (Int64.ofInt 0), aL (Int64.ofInt e)], MM N I J)) (by decide +kernel) rfl trivial ?_
    refine V.cs (c := 115) (na := 3) [aL (Int64.ofInt 1000000), aL (Int64.ofInt 0), aL (Int64.ofInt e)] [] (by decide +kernel) rfl rfl (V.pr (m_X10_isIn (by unfold inR; omega) (by unfold inR; omega) (by unfold inR; omega)) ?_)
    show V 143 (27, [some (aR 52), some (aI t), some (aI r), some (aI u), some (aI e)], [aI (b2 (decide (0 ≤ e ∧ e ≤ 1000000)))], MM N I J) _
    refine V.blk [(27, .ifCond .ne 37, 3)] (ps := []) (z' := (brc .ne (b2 (decide (0 ≤ e ∧ e ≤ 1000000))) 0 37 30, [some (aR 52), some (aI t), some (aI r), some (aI u), some (aI e)], [], MM N I J)) (by decide +kernel) rfl trivial ?_
    refine V.ne (fun h3 => ?_) (fun h4 => ?_)
    · skip
      try simp only [b2_cast, b2_ncast, Classical.not_not, lcm_lt, lcm_ge, lcm_gt, lcm_le, lcm_eq] at h3
      refine V.blk [(37, .aload 0, 1), (38, .getfield 10029, 3), (41, .bipush 20, 2), (43, .if_icmp .ne 55, 3)] (ps := []) (z' := (brc .ne (I 52 29) 20 55 46, [some (aR 52), some (aI t), some (aI r), some (aI u), some (aI e)], [], MM N I J)) (by decide +kernel) rfl trivial ?_
      refine V.ne (fun h5 => ?_) (fun h6 => ?_)
      · skip
        try simp only [b2_cast, b2_ncast, Classical.not_not, lcm_lt, lcm_ge, lcm_gt, lcm_le, lcm_eq] at h5
        refine V.blk [(55, .aload 0, 1), (56, .bipush 1, 1), (57, .iload 1, 1), (58, .iload 2, 1), (59, .iload 3, 1), (60, .iload 4, 2)] (ps := []) (z' := (62, [some (aR 52), some (aI t), some (aI r), some (aI u), some (aI e)], [aI e, aI u, aI r, aI t, aI 1, aR 52], MM N I J)) (by decide +kernel) rfl trivial ?_
        refine V.cv (c := 145) (na := 6) (o := 10) (a := 52) [aI e, aI u, aI r, aI t, aI 1] [] (by decide +kernel) rfl rfl rfl rfl rfl ((m_act (by first | omega | (simp [ma]; omega)) (by first | omega | assumption)).mono (fun rv M1 q => ?_))
        obtain ⟨rfl, rfl⟩ := q
        show V 143 (65, [some (aR 52), some (aI t), some (aI r), some (aI u), some (aI e)], [aI (I 52 29 + 1)], MM N ((actMU I 1 t r u e)) J) _
        refine V.nI (fun I7 eI7 => ?_)
        refine V.ri (by decide +kernel) ?_
        refine ⟨congrArg (fun w => some (aI w)) ?_, congrArg (fun w => MM N w J) ?_⟩
        all_goals subst eI7
        all_goals (first | unfold writeMA | unfold writeMU)
        all_goals (repeat' split)
        all_goals first | rfl | omega | (exfalso; omega) | (simp [ma, ma_ma, actMU, vnU])
      · skip
        try simp only [b2_cast, b2_ncast, Classical.not_not, lcm_lt, lcm_ge, lcm_gt, lcm_le, lcm_eq] at h6
        refine V.blk [(46, .aload 0, 1), (47, .bipush (-9), 2)] (ps := []) (z' := (49, [some (aR 52), some (aI t), some (aI r), some (aI u), some (aI e)], [aI (-9), aR 52], MM N I J)) (by decide +kernel) rfl trivial ?_
        refine V.cv (c := 116) (na := 2) (o := 10) (a := 52) [aI (-9)] [] (by decide +kernel) rfl rfl rfl rfl rfl ((m_no (by assumption) (by omega)).mono (fun rv M1 q => ?_))
        obtain ⟨rfl, rfl⟩ := q
        show V 143 (52, [some (aR 52), some (aI t), some (aI r), some (aI u), some (aI e)], [aI (-9)], MM N ((noU I (-9))) J) _
        refine V.blk [(52, .goto 65, 3)] (ps := []) (z' := (65, [some (aR 52), some (aI t), some (aI r), some (aI u), some (aI e)], [aI (-9)], MM N ((noU I (-9))) J)) (by decide +kernel) rfl trivial ?_
        refine V.nI (fun I8 eI8 => ?_)
        refine V.ri (by decide +kernel) ?_
        refine ⟨congrArg (fun w => some (aI w)) ?_, congrArg (fun w => MM N w J) ?_⟩
        all_goals subst eI8
        all_goals (first | unfold writeMA | unfold writeMU)
        all_goals (repeat' split)
        all_goals first | rfl | omega | (exfalso; omega) | (simp [ma, ma_ma, actMU, vnU])
    · skip
      try simp only [b2_cast, b2_ncast, Classical.not_not, lcm_lt, lcm_ge, lcm_gt, lcm_le, lcm_eq] at h4
      refine V.blk [(30, .aload 0, 1), (31, .bipush (-8), 2)] (ps := []) (z' := (33, [some (aR 52), some (aI t), some (aI r), some (aI u), some (aI e)], [aI (-8), aR 52], MM N I J)) (by decide +kernel) rfl trivial ?_
      refine V.cv (c := 116) (na := 2) (o := 10) (a := 52) [aI (-8)] [] (by decide +kernel) rfl rfl rfl rfl rfl ((m_no (by assumption) (by omega)).mono (fun rv M1 q => ?_))
      obtain ⟨rfl, rfl⟩ := q
      show V 143 (36, [some (aR 52), some (aI t), some (aI r), some (aI u), some (aI e)], [aI (-8)], MM N ((noU I (-8))) J) _
      refine V.nI (fun I9 eI9 => ?_)
      refine V.ri (by decide +kernel) ?_
      refine ⟨congrArg (fun w => some (aI w)) ?_, congrArg (fun w => MM N w J) ?_⟩
      all_goals subst eI9
      all_goals (first | unfold writeMA | unfold writeMU)
      all_goals (repeat' split)
      all_goals first | rfl | omega | (exfalso; omega) | (simp [ma, ma_ma, actMU, vnU])
  · skip
    try simp only [b2_cast, b2_ncast, Classical.not_not, lcm_lt, lcm_ge, lcm_gt, lcm_le, lcm_eq] at h2
    refine V.blk [(10, .aload 0, 1), (11, .bipush (-3), 2)] (ps := []) (z' := (13, [some (aR 52), some (aI t), some (aI r), some (aI u), some (aI e)], [aI (-3), aR 52], MM N I J)) (by decide +kernel) rfl trivial ?_
    refine V.cv (c := 116) (na := 2) (o := 10) (a := 52) [aI (-3)] [] (by decide +kernel) rfl rfl rfl rfl rfl ((m_no (by assumption) (by omega)).mono (fun rv M1 q => ?_))
    obtain ⟨rfl, rfl⟩ := q
    show V 143 (16, [some (aR 52), some (aI t), some (aI r), some (aI u), some (aI e)], [aI (-3)], MM N ((noU I (-3))) J) _
    refine V.nI (fun I10 eI10 => ?_)
    refine V.ri (by decide +kernel) ?_
    refine ⟨congrArg (fun w => some (aI w)) ?_, congrArg (fun w => MM N w J) ?_⟩
    all_goals subst eI10
    all_goals (first | unfold writeMA | unfold writeMU)
    all_goals (repeat' split)
    all_goals first | rfl | omega | (exfalso; omega) | (simp [ma, ma_ma, actMU, vnU])
def strikeMA (I : MI) (t r u : Int) : Int := if (0 ≤ t ∧ t < I 52 1 ∧ 0 ≤ r ∧ r < 8) ∧ isUsr (I 52 1) u then (if I 52 29 = 20 then -9 else I 52 29 + 1) else -3
def strikeMU (I : MI) (t r u : Int) : MI := if (0 ≤ t ∧ t < I 52 1 ∧ 0 ≤ r ∧ r < 8) ∧ isUsr (I 52 1) u then (if I 52 29 = 20 then noU I (-9) else actMU I 0 t r u 0) else noU I (-3)
theorem m_X10_strike {N : Nat} {I : MI} {J : MJ} {t r u : Int} (hr : RfM I) (hd : 0 ≤ I 52 29 ∧ I 52 29 ≤ 20) (hu : inR u) (hn : I 52 1 ≤ 40) : CT 144 [aR 52, aI t, aI r, aI u] (MM N I J) (QU N J (aI (strikeMA I t r u)) (strikeMU I t r u)) := by
  refine CT.ofV (n := 4) (ls := [some (aR 52), some (aI t), some (aI r), some (aI u)]) rfl rfl rfl ?_
  refine V.blk [(0, .aload 0, 1), (1, .iload 1, 1), (2, .iload 2, 1), (3, .iload 3, 1)] (ps := []) (z' := (4, [some (aR 52), some (aI t), some (aI r), some (aI u)], [aI u, aI r, aI t, aR 52], MM N I J)) (by decide +kernel) rfl trivial ?_
  refine V.cv (c := 142) (na := 4) (o := 10) (a := 52) [aI u, aI r, aI t] [] (by decide +kernel) rfl rfl rfl rfl rfl (V.pr (m_X10_isPair (by assumption) (by assumption)) ?_)
  show V 144 (7, [some (aR 52), some (aI t), some (aI r), some (aI u)], [aI (b2 (decide ((0 ≤ t ∧ t < I 52 1 ∧ 0 ≤ r ∧ r < 8) ∧ isUsr (I 52 1) u)))], MM N I J) _
  refine V.blk [(7, .ifCond .ne 17, 3)] (ps := []) (z' := (brc .ne (b2 (decide ((0 ≤ t ∧ t < I 52 1 ∧ 0 ≤ r ∧ r < 8) ∧ isUsr (I 52 1) u))) 0 17 10, [some (aR 52), some (aI t), some (aI r), some (aI u)], [], MM N I J)) (by decide +kernel) rfl trivial ?_
  refine V.ne (fun h1 => ?_) (fun h2 => ?_)
  · skip
    try simp only [b2_cast, b2_ncast, Classical.not_not, lcm_lt, lcm_ge, lcm_gt, lcm_le, lcm_eq] at h1
    refine V.blk [(17, .aload 0, 1), (18, .getfield 10029, 3), (21, .bipush 20, 2), (23, .if_icmp .ne 35, 3)] (ps := []) (z' := (brc .ne (I 52 29) 20 35 26, [some (aR 52), some (aI t), some (aI r), some (aI u)], [], MM N I J)) (by decide +kernel) rfl trivial ?_
    refine V.ne (fun h3 => ?_) (fun h4 => ?_)
    · skip
      try simp only [b2_cast, b2_ncast, Classical.not_not, lcm_lt, lcm_ge, lcm_gt, lcm_le, lcm_eq] at h3
      refine V.blk [(35, .aload 0, 1), (36, .bipush 0, 1), (37, .iload 1, 1), (38, .iload 2, 1), (39, .iload 3, 1), (40, .bipush 0, 1)] (ps := []) (z' := (41, [some (aR 52), some (aI t), some (aI r), some (aI u)], [aI 0, aI u, aI r, aI t, aI 0, aR 52], MM N I J)) (by decide +kernel) rfl trivial ?_
      refine V.cv (c := 145) (na := 6) (o := 10) (a := 52) [aI 0, aI u, aI r, aI t, aI 0] [] (by decide +kernel) rfl rfl rfl rfl rfl ((m_act (by first | omega | (simp [ma]; omega)) (by first | omega | assumption)).mono (fun rv M1 q => ?_))
      obtain ⟨rfl, rfl⟩ := q
      show V 144 (44, [some (aR 52), some (aI t), some (aI r), some (aI u)], [aI (I 52 29 + 1)], MM N ((actMU I 0 t r u 0)) J) _
      refine V.nI (fun I5 eI5 => ?_)
      refine V.ri (by decide +kernel) ?_
      refine ⟨congrArg (fun w => some (aI w)) ?_, congrArg (fun w => MM N w J) ?_⟩
      all_goals subst eI5
      all_goals (first | unfold strikeMA | unfold strikeMU)
      all_goals (repeat' split)
      all_goals first | rfl | omega | (exfalso; omega) | (simp [ma, ma_ma, actMU, vnU])
    · skip
      try simp only [b2_cast, b2_ncast, Classical.not_not, lcm_lt, lcm_ge, lcm_gt, lcm_le, lcm_eq] at h4
      refine V.blk [(26, .aload 0, 1), (27, .bipush (-9), 2)] (ps := []) (z' := (29, [some (aR 52), some (aI t), some (aI r), some (aI u)], [aI (-9), aR 52], MM N I J)) (by decide +kernel) rfl trivial ?_
      refine V.cv (c := 116) (na := 2) (o := 10) (a := 52) [aI (-9)] [] (by decide +kernel) rfl rfl rfl rfl rfl ((m_no (by assumption) (by omega)).mono (fun rv M1 q => ?_))
      obtain ⟨rfl, rfl⟩ := q
      show V 144 (32, [some (aR 52), some (aI t), some (aI r), some (aI u)], [aI (-9)], MM N ((noU I (-9))) J) _
      refine V.blk [(32, .goto 44, 3)] (ps := []) (z' := (44, [some (aR 52), some (aI t), some (aI r), some (aI u)], [aI (-9)], MM N ((noU I (-9))) J)) (by decide +kernel) rfl trivial ?_
      refine V.nI (fun I6 eI6 => ?_)
      refine V.ri (by decide +kernel) ?_
      refine ⟨congrArg (fun w => some (aI w)) ?_, congrArg (fun w => MM N w J) ?_⟩
      all_goals subst eI6
      all_goals (first | unfold strikeMA | unfold strikeMU)
      all_goals (repeat' split)
      all_goals first | rfl | omega | (exfalso; omega) | (simp [ma, ma_ma, actMU, vnU])
  · skip
    try simp only [b2_cast, b2_ncast, Classical.not_not, lcm_lt, lcm_ge, lcm_gt, lcm_le, lcm_eq] at h2
    refine V.blk [(10, .aload 0, 1), (11, .bipush (-3), 2)] (ps := []) (z' := (13, [some (aR 52), some (aI t), some (aI r), some (aI u)], [aI (-3), aR 52], MM N I J)) (by decide +kernel) rfl trivial ?_
    refine V.cv (c := 116) (na := 2) (o := 10) (a := 52) [aI (-3)] [] (by decide +kernel) rfl rfl rfl rfl rfl ((m_no (by assumption) (by omega)).mono (fun rv M1 q => ?_))
    obtain ⟨rfl, rfl⟩ := q
    show V 144 (16, [some (aR 52), some (aI t), some (aI r), some (aI u)], [aI (-3)], MM N ((noU I (-3))) J) _
    refine V.nI (fun I7 eI7 => ?_)
    refine V.ri (by decide +kernel) ?_
    refine ⟨congrArg (fun w => some (aI w)) ?_, congrArg (fun w => MM N w J) ?_⟩
    all_goals subst eI7
    all_goals (first | unfold strikeMA | unfold strikeMU)
    all_goals (repeat' split)
    all_goals first | rfl | omega | (exfalso; omega) | (simp [ma, ma_ma, actMU, vnU])
def cndMU (I : MI) (t r u b : Int) : MI := ma (ma (ma (ma (ma I 74 (ma (I 74) (I 52 30).toNat t)) 75 (ma (I 75) (I 52 30).toNat r)) 76 (ma (I 76) (I 52 30).toNat u)) 69 (ma (I 69) (I 52 30).toNat b)) 52 (ma (I 52) 30 (I 52 30 + 1))
def whenMA (I : MI) (t r u e : Int) : Int := if (0 ≤ t ∧ t < I 52 1 ∧ 0 ≤ r ∧ r < 8) ∧ isUsr (I 52 1) u then (if I 52 30 = 10 then -9 else I 52 30 + 1) else -3
def whenMU (I : MI) (t r u e : Int) : MI := if (0 ≤ t ∧ t < I 52 1 ∧ 0 ≤ r ∧ r < 8) ∧ isUsr (I 52 1) u then (if I 52 30 = 10 then noU I (-9) else cndMU I t r u e) else noU I (-3)
theorem m_X10_when {N : Nat} {I : MI} {J : MJ} {t r u e : Int} (hr : RfM I) (hd : 0 ≤ I 52 30 ∧ I 52 30 ≤ 10) (hu : inR u) (hn : I 52 1 ≤ 40) (he : 0 ≤ e ∧ e ≤ 1) : CT 146 [aR 52, aI t, aI r, aI u, aI e] (MM N I J) (QU N J (aI (whenMA I t r u e)) (whenMU I t r u e)) := by
  refine CT.ofV (n := 5) (ls := [some (aR 52), some (aI t), some (aI r), some (aI u), some (aI e)]) rfl rfl rfl ?_
  refine V.blk [(0, .aload 0, 1), (1, .iload 1, 1), (2, .iload 2, 1), (3, .iload 3, 1)] (ps := []) (z' := (4, [some (aR 52), some (aI t), some (aI r), some (aI u), some (aI e)], [aI u, aI r, aI t, aR 52], MM N I J)) (by decide +kernel) rfl trivial ?_
  refine V.cv (c := 142) (na := 4) (o := 10) (a := 52) [aI u, aI r, aI t] [] (by decide +kernel) rfl rfl rfl rfl rfl (V.pr (m_X10_isPair (by assumption) (by assumption)) ?_)
  show V 146 (7, [some (aR 52), some (aI t), some (aI r), some (aI u), some (aI e)], [aI (b2 (decide ((0 ≤ t ∧ t < I 52 1 ∧ 0 ≤ r ∧ r < 8) ∧ isUsr (I 52 1) u)))], MM N I J) _
  refine V.blk [(7, .ifCond .ne 17, 3)] (ps := []) (z' := (brc .ne (b2 (decide ((0 ≤ t ∧ t < I 52 1 ∧ 0 ≤ r ∧ r < 8) ∧ isUsr (I 52 1) u))) 0 17 10, [some (aR 52), some (aI t), some (aI r), some (aI u), some (aI e)], [], MM N I J)) (by decide +kernel) rfl trivial ?_
  refine V.ne (fun h1 => ?_) (fun h2 => ?_)
  · skip
    try simp only [b2_cast, b2_ncast, Classical.not_not, lcm_lt, lcm_ge, lcm_gt, lcm_le, lcm_eq] at h1
    refine V.blk [(17, .aload 0, 1), (18, .getfield 10030, 3), (21, .bipush 10, 2), (23, .if_icmp .ne 33, 3)] (ps := []) (z' := (brc .ne (I 52 30) 10 33 26, [some (aR 52), some (aI t), some (aI r), some (aI u), some (aI e)], [], MM N I J)) (by decide +kernel) rfl trivial ?_
    refine V.ne (fun h3 => ?_) (fun h4 => ?_)
    · skip
      try simp only [b2_cast, b2_ncast, Classical.not_not, lcm_lt, lcm_ge, lcm_gt, lcm_le, lcm_eq] at h3
      refine V.blk [(33, .aload 0, 1), (34, .getfield 10026, 3), (37, .aload 0, 1), (38, .getfield 10030, 3), (41, .iload 1, 1), (42, .iastore, 1), (43, .aload 0, 1), (44, .getfield 10027, 3), (47, .aload 0, 1), (48, .getfield 10030, 3), (51, .iload 2, 1), (52, .iastore, 1), (53, .aload 0, 1), (54, .getfield 10028, 3), (57, .aload 0, 1), (58, .getfield 10030, 3), (61, .iload 3, 1), (62, .iastore, 1), (63, .aload 0, 1), (64, .getfield 10021, 3), (67, .aload 0, 1), (68, .getfield 10030, 3), (71, .iload 4, 2), (73, .bastore, 1), (74, .aload 0, 1), (75, .dup, 1), (76, .getfield 10030, 3), (79, .bipush 1, 1), (80, .iadd, 1), (81, .putfield 10030, 3), (84, .aload 0, 1), (85, .getfield 10030, 3)] (ps := [0 ≤ (I 52 30) ∧ (I 52 30) < 10, 0 ≤ ((ma I 74 (ma (I 74) ((I 52 30).toNat) t)) 52 30) ∧ ((ma I 74 (ma (I 74) ((I 52 30).toNat) t)) 52 30) < 10, 0 ≤ ((ma (ma I 74 (ma (I 74) ((I 52 30).toNat) t)) 75 (ma ((ma I 74 (ma (I 74) ((I 52 30).toNat) t)) 75) (((ma I 74 (ma (I 74) ((I 52 30).toNat) t)) 52 30).toNat) r)) 52 30) ∧ ((ma (ma I 74 (ma (I 74) ((I 52 30).toNat) t)) 75 (ma ((ma I 74 (ma (I 74) ((I 52 30).toNat) t)) 75) (((ma I 74 (ma (I 74) ((I 52 30).toNat) t)) 52 30).toNat) r)) 52 30) < 10, 0 ≤ ((ma (ma (ma I 74 (ma (I 74) ((I 52 30).toNat) t)) 75 (ma ((ma I 74 (ma (I 74) ((I 52 30).toNat) t)) 75) (((ma I 74 (ma (I 74) ((I 52 30).toNat) t)) 52 30).toNat) r)) 76 (ma ((ma (ma I 74 (ma (I 74) ((I 52 30).toNat) t)) 75 (ma ((ma I 74 (ma (I 74) ((I 52 30).toNat) t)) 75) (((ma I 74 (ma (I 74) ((I 52 30).toNat) t)) 52 30).toNat) r)) 76) (((ma (ma I 74 (ma (I 74) ((I 52 30).toNat) t)) 75 (ma ((ma I 74 (ma (I 74) ((I 52 30).toNat) t)) 75) (((ma I 74 (ma (I 74) ((I 52 30).toNat) t)) 52 30).toNat) r)) 52 30).toNat) u)) 52 30) ∧ ((ma (ma (ma I 74 (ma (I 74) ((I 52 30).toNat) t)) 75 (ma ((ma I 74 (ma (I 74) ((I 52 30).toNat) t)) 75) (((ma I 74 (ma (I 74) ((I 52 30).toNat) t)) 52 30).toNat) r)) 76 (ma ((ma (ma I 74 (ma (I 74) ((I 52 30).toNat) t)) 75 (ma ((ma I 74 (ma (I 74) ((I 52 30).toNat) t)) 75) (((ma I 74 (ma (I 74) ((I 52 30).toNat) t)) 52 30).toNat) r)) 76) (((ma (ma I 74 (ma (I 74) ((I 52 30).toNat) t)) 75 (ma ((ma I 74 (ma (I 74) ((I 52 30).toNat) t)) 75) (((ma I 74 (ma (I 74) ((I 52 30).toNat) t)) 52 30).toNat) r)) 52 30).toNat) u)) 52 30) < 10, 0 ≤ e ∧ e ≤ 1, inR (((ma (ma (ma (ma I 74 (ma (I 74) ((I 52 30).toNat) t)) 75 (ma ((ma I 74 (ma (I 74) ((I 52 30).toNat) t)) 75) (((ma I 74 (ma (I 74) ((I 52 30).toNat) t)) 52 30).toNat) r)) 76 (ma ((ma (ma I 74 (ma (I 74) ((I 52 30).toNat) t)) 75 (ma ((ma I 74 (ma (I 74) ((I 52 30).toNat) t)) 75) (((ma I 74 (ma (I 74) ((I 52 30).toNat) t)) 52 30).toNat) r)) 76) (((ma (ma I 74 (ma (I 74) ((I 52 30).toNat) t)) 75 (ma ((ma I 74 (ma (I 74) ((I 52 30).toNat) t)) 75) (((ma I 74 (ma (I 74) ((I 52 30).toNat) t)) 52 30).toNat) r)) 52 30).toNat) u)) 69 (ma ((ma (ma (ma I 74 (ma (I 74) ((I 52 30).toNat) t)) 75 (ma ((ma I 74 (ma (I 74) ((I 52 30).toNat) t)) 75) (((ma I 74 (ma (I 74) ((I 52 30).toNat) t)) 52 30).toNat) r)) 76 (ma ((ma (ma I 74 (ma (I 74) ((I 52 30).toNat) t)) 75 (ma ((ma I 74 (ma (I 74) ((I 52 30).toNat) t)) 75) (((ma I 74 (ma (I 74) ((I 52 30).toNat) t)) 52 30).toNat) r)) 76) (((ma (ma I 74 (ma (I 74) ((I 52 30).toNat) t)) 75 (ma ((ma I 74 (ma (I 74) ((I 52 30).toNat) t)) 75) (((ma I 74 (ma (I 74) ((I 52 30).toNat) t)) 52 30).toNat) r)) 52 30).toNat) u)) 69) (((ma (ma (ma I 74 (ma (I 74) ((I 52 30).toNat) t)) 75 (ma ((ma I 74 (ma (I 74) ((I 52 30).toNat) t)) 75) (((ma I 74 (ma (I 74) ((I 52 30).toNat) t)) 52 30).toNat) r)) 76 (ma ((ma (ma I 74 (ma (I 74) ((I 52 30).toNat) t)) 75 (ma ((ma I 74 (ma (I 74) ((I 52 30).toNat) t)) 75) (((ma I 74 (ma (I 74) ((I 52 30).toNat) t)) 52 30).toNat) r)) 76) (((ma (ma I 74 (ma (I 74) ((I 52 30).toNat) t)) 75 (ma ((ma I 74 (ma (I 74) ((I 52 30).toNat) t)) 75) (((ma I 74 (ma (I 74) ((I 52 30).toNat) t)) 52 30).toNat) r)) 52 30).toNat) u)) 52 30).toNat) e)) 52 30) + 1)]) (z' := (88, [some (aR 52), some (aI t), some (aI r), some (aI u), some (aI e)], [aI ((ma (ma (ma (ma (ma I 74 (ma (I 74) ((I 52 30).toNat) t)) 75 (ma ((ma I 74 (ma (I 74) ((I 52 30).toNat) t)) 75) (((ma I 74 (ma (I 74) ((I 52 30).toNat) t)) 52 30).toNat) r)) 76 (ma ((ma (ma I 74 (ma (I 74) ((I 52 30).toNat) t)) 75 (ma ((ma I 74 (ma (I 74) ((I 52 30).toNat) t)) 75) (((ma I 74 (ma (I 74) ((I 52 30).toNat) t)) 52 30).toNat) r)) 76) (((ma (ma I 74 (ma (I 74) ((I 52 30).toNat) t)) 75 (ma ((ma I 74 (ma (I 74) ((I 52 30).toNat) t)) 75) (((ma I 74 (ma (I 74) ((I 52 30).toNat) t)) 52 30).toNat) r)) 52 30).toNat) u)) 69 (ma ((ma (ma (ma I 74 (ma (I 74) ((I 52 30).toNat) t)) 75 (ma ((ma I 74 (ma (I 74) ((I 52 30).toNat) t)) 75) (((ma I 74 (ma (I 74) ((I 52 30).toNat) t)) 52 30).toNat) r)) 76 (ma ((ma (ma I 74 (ma (I 74) ((I 52 30).toNat) t)) 75 (ma ((ma I 74 (ma (I 74) ((I 52 30).toNat) t)) 75) (((ma I 74 (ma (I 74) ((I 52 30).toNat) t)) 52 30).toNat) r)) 76) (((ma (ma I 74 (ma (I 74) ((I 52 30).toNat) t)) 75 (ma ((ma I 74 (ma (I 74) ((I 52 30).toNat) t)) 75) (((ma I 74 (ma (I 74) ((I 52 30).toNat) t)) 52 30).toNat) r)) 52 30).toNat) u)) 69) (((ma (ma (ma I 74 (ma (I 74) ((I 52 30).toNat) t)) 75 (ma ((ma I 74 (ma (I 74) ((I 52 30).toNat) t)) 75) (((ma I 74 (ma (I 74) ((I 52 30).toNat) t)) 52 30).toNat) r)) 76 (ma ((ma (ma I 74 (ma (I 74) ((I 52 30).toNat) t)) 75 (ma ((ma I 74 (ma (I 74) ((I 52 30).toNat) t)) 75) (((ma I 74 (ma (I 74) ((I 52 30).toNat) t)) 52 30).toNat) r)) 76) (((ma (ma I 74 (ma (I 74) ((I 52 30).toNat) t)) 75 (ma ((ma I 74 (ma (I 74) ((I 52 30).toNat) t)) 75) (((ma I 74 (ma (I 74) ((I 52 30).toNat) t)) 52 30).toNat) r)) 52 30).toNat) u)) 52 30).toNat) e)) 52 (ma ((ma (ma (ma (ma I 74 (ma (I 74) ((I 52 30).toNat) t)) 75 (ma ((ma I 74 (ma (I 74) ((I 52 30).toNat) t)) 75) (((ma I 74 (ma (I 74) ((I 52 30).toNat) t)) 52 30).toNat) r)) 76 (ma ((ma (ma I 74 (ma (I 74) ((I 52 30).toNat) t)) 75 (ma ((ma I 74 (ma (I 74) ((I 52 30).toNat) t)) 75) (((ma I 74 (ma (I 74) ((I 52 30).toNat) t)) 52 30).toNat) r)) 76) (((ma (ma I 74 (ma (I 74) ((I 52 30).toNat) t)) 75 (ma ((ma I 74 (ma (I 74) ((I 52 30).toNat) t)) 75) (((ma I 74 (ma (I 74) ((I 52 30).toNat) t)) 52 30).toNat) r)) 52 30).toNat) u)) 69 (ma ((ma (ma (ma I 74 (ma (I 74) ((I 52 30).toNat) t)) 75 (ma ((ma I 74 (ma (I 74) ((I 52 30).toNat) t)) 75) (((ma I 74 (ma (I 74) ((I 52 30).toNat) t)) 52 30).toNat) r)) 76 (ma ((ma (ma I 74 (ma (I 74) ((I 52 30).toNat) t)) 75 (ma ((ma I 74 (ma (I 74) ((I 52 30).toNat) t)) 75) (((ma I 74 (ma (I 74) ((I 52 30).toNat) t)) 52 30).toNat) r)) 76) (((ma (ma I 74 (ma (I 74) ((I 52 30).toNat) t)) 75 (ma ((ma I 74 (ma (I 74) ((I 52 30).toNat) t)) 75) (((ma I 74 (ma (I 74) ((I 52 30).toNat) t)) 52 30).toNat) r)) 52 30).toNat) u)) 69) (((ma (ma (ma I 74 (ma (I 74) ((I 52 30).toNat) t)) 75 (ma ((ma I 74 (ma (I 74) ((I 52 30).toNat) t)) 75) (((ma I 74 (ma (I 74) ((I 52 30).toNat) t)) 52 30).toNat) r)) 76 (ma ((ma (ma I 74 (ma (I 74) ((I 52 30).toNat) t)) 75 (ma ((ma I 74 (ma (I 74) ((I 52 30).toNat) t)) 75) (((ma I 74 (ma (I 74) ((I 52 30).toNat) t)) 52 30).toNat) r)) 76) (((ma (ma I 74 (ma (I 74) ((I 52 30).toNat) t)) 75 (ma ((ma I 74 (ma (I 74) ((I 52 30).toNat) t)) 75) (((ma I 74 (ma (I 74) ((I 52 30).toNat) t)) 52 30).toNat) r)) 52 30).toNat) u)) 52 30).toNat) e)) 52) 30 (((ma (ma (ma (ma I 74 (ma (I 74) ((I 52 30).toNat) t)) 75 (ma ((ma I 74 (ma (I 74) ((I 52 30).toNat) t)) 75) (((ma I 74 (ma (I 74) ((I 52 30).toNat) t)) 52 30).toNat) r)) 76 (ma ((ma (ma I 74 (ma (I 74) ((I 52 30).toNat) t)) 75 (ma ((ma I 74 (ma (I 74) ((I 52 30).toNat) t)) 75) (((ma I 74 (ma (I 74) ((I 52 30).toNat) t)) 52 30).toNat) r)) 76) (((ma (ma I 74 (ma (I 74) ((I 52 30).toNat) t)) 75 (ma ((ma I 74 (ma (I 74) ((I 52 30).toNat) t)) 75) (((ma I 74 (ma (I 74) ((I 52 30).toNat) t)) 52 30).toNat) r)) 52 30).toNat) u)) 69 (ma ((ma (ma (ma I 74 (ma (I 74) ((I 52 30).toNat) t)) 75 (ma ((ma I 74 (ma (I 74) ((I 52 30).toNat) t)) 75) (((ma I 74 (ma (I 74) ((I 52 30).toNat) t)) 52 30).toNat) r)) 76 (ma ((ma (ma I 74 (ma (I 74) ((I 52 30).toNat) t)) 75 (ma ((ma I 74 (ma (I 74) ((I 52 30).toNat) t)) 75) (((ma I 74 (ma (I 74) ((I 52 30).toNat) t)) 52 30).toNat) r)) 76) (((ma (ma I 74 (ma (I 74) ((I 52 30).toNat) t)) 75 (ma ((ma I 74 (ma (I 74) ((I 52 30).toNat) t)) 75) (((ma I 74 (ma (I 74) ((I 52 30).toNat) t)) 52 30).toNat) r)) 52 30).toNat) u)) 69) (((ma (ma (ma I 74 (ma (I 74) ((I 52 30).toNat) t)) 75 (ma ((ma I 74 (ma (I 74) ((I 52 30).toNat) t)) 75) (((ma I 74 (ma (I 74) ((I 52 30).toNat) t)) 52 30).toNat) r)) 76 (ma ((ma (ma I 74 (ma (I 74) ((I 52 30).toNat) t)) 75 (ma ((ma I 74 (ma (I 74) ((I 52 30).toNat) t)) 75) (((ma I 74 (ma (I 74) ((I 52 30).toNat) t)) 52 30).toNat) r)) 76) (((ma (ma I 74 (ma (I 74) ((I 52 30).toNat) t)) 75 (ma ((ma I 74 (ma (I 74) ((I 52 30).toNat) t)) 75) (((ma I 74 (ma (I 74) ((I 52 30).toNat) t)) 52 30).toNat) r)) 52 30).toNat) u)) 52 30).toNat) e)) 52 30) + 1))) 52 30)], MM N (ma (ma (ma (ma (ma I 74 (ma (I 74) ((I 52 30).toNat) t)) 75 (ma ((ma I 74 (ma (I 74) ((I 52 30).toNat) t)) 75) (((ma I 74 (ma (I 74) ((I 52 30).toNat) t)) 52 30).toNat) r)) 76 (ma ((ma (ma I 74 (ma (I 74) ((I 52 30).toNat) t)) 75 (ma ((ma I 74 (ma (I 74) ((I 52 30).toNat) t)) 75) (((ma I 74 (ma (I 74) ((I 52 30).toNat) t)) 52 30).toNat) r)) 76) (((ma (ma I 74 (ma (I 74) ((I 52 30).toNat) t)) 75 (ma ((ma I 74 (ma (I 74) ((I 52 30).toNat) t)) 75) (((ma I 74 (ma (I 74) ((I 52 30).toNat) t)) 52 30).toNat) r)) 52 30).toNat) u)) 69 (ma ((ma (ma (ma I 74 (ma (I 74) ((I 52 30).toNat) t)) 75 (ma ((ma I 74 (ma (I 74) ((I 52 30).toNat) t)) 75) (((ma I 74 (ma (I 74) ((I 52 30).toNat) t)) 52 30).toNat) r)) 76 (ma ((ma (ma I 74 (ma (I 74) ((I 52 30).toNat) t)) 75 (ma ((ma I 74 (ma (I 74) ((I 52 30).toNat) t)) 75) (((ma I 74 (ma (I 74) ((I 52 30).toNat) t)) 52 30).toNat) r)) 76) (((ma (ma I 74 (ma (I 74) ((I 52 30).toNat) t)) 75 (ma ((ma I 74 (ma (I 74) ((I 52 30).toNat) t)) 75) (((ma I 74 (ma (I 74) ((I 52 30).toNat) t)) 52 30).toNat) r)) 52 30).toNat) u)) 69) (((ma (ma (ma I 74 (ma (I 74) ((I 52 30).toNat) t)) 75 (ma ((ma I 74 (ma (I 74) ((I 52 30).toNat) t)) 75) (((ma I 74 (ma (I 74) ((I 52 30).toNat) t)) 52 30).toNat) r)) 76 (ma ((ma (ma I 74 (ma (I 74) ((I 52 30).toNat) t)) 75 (ma ((ma I 74 (ma (I 74) ((I 52 30).toNat) t)) 75) (((ma I 74 (ma (I 74) ((I 52 30).toNat) t)) 52 30).toNat) r)) 76) (((ma (ma I 74 (ma (I 74) ((I 52 30).toNat) t)) 75 (ma ((ma I 74 (ma (I 74) ((I 52 30).toNat) t)) 75) (((ma I 74 (ma (I 74) ((I 52 30).toNat) t)) 52 30).toNat) r)) 52 30).toNat) u)) 52 30).toNat) e)) 52 (ma ((ma (ma (ma (ma I 74 (ma (I 74) ((I 52 30).toNat) t)) 75 (ma ((ma I 74 (ma (I 74) ((I 52 30).toNat) t)) 75) (((ma I 74 (ma (I 74) ((I 52 30).toNat) t)) 52 30).toNat) r)) 76 (ma ((ma (ma I 74 (ma (I 74) ((I 52 30).toNat) t)) 75 (ma ((ma I 74 (ma (I 74) ((I 52 30).toNat) t)) 75) (((ma I 74 (ma (I 74) ((I 52 30).toNat) t)) 52 30).toNat) r)) 76) (((ma (ma I 74 (ma (I 74) ((I 52 30).toNat) t)) 75 (ma ((ma I 74 (ma (I 74) ((I 52 30).toNat) t)) 75) (((ma I 74 (ma (I 74) ((I 52 30).toNat) t)) 52 30).toNat) r)) 52 30).toNat) u)) 69 (ma ((ma (ma (ma I 74 (ma (I 74) ((I 52 30).toNat) t)) 75 (ma ((ma I 74 (ma (I 74) ((I 52 30).toNat) t)) 75) (((ma I 74 (ma (I 74) ((I 52 30).toNat) t)) 52 30).toNat) r)) 76 (ma ((ma (ma I 74 (ma (I 74) ((I 52 30).toNat) t)) 75 (ma ((ma I 74 (ma (I 74) ((I 52 30).toNat) t)) 75) (((ma I 74 (ma (I 74) ((I 52 30).toNat) t)) 52 30).toNat) r)) 76) (((ma (ma I 74 (ma (I 74) ((I 52 30).toNat) t)) 75 (ma ((ma I 74 (ma (I 74) ((I 52 30).toNat) t)) 75) (((ma I 74 (ma (I 74) ((I 52 30).toNat) t)) 52 30).toNat) r)) 52 30).toNat) u)) 69) (((ma (ma (ma I 74 (ma (I 74) ((I 52 30).toNat) t)) 75 (ma ((ma I 74 (ma (I 74) ((I 52 30).toNat) t)) 75) (((ma I 74 (ma (I 74) ((I 52 30).toNat) t)) 52 30).toNat) r)) 76 (ma ((ma (ma I 74 (ma (I 74) ((I 52 30).toNat) t)) 75 (ma ((ma I 74 (ma (I 74) ((I 52 30).toNat) t)) 75) (((ma I 74 (ma (I 74) ((I 52 30).toNat) t)) 52 30).toNat) r)) 76) (((ma (ma I 74 (ma (I 74) ((I 52 30).toNat) t)) 75 (ma ((ma I 74 (ma (I 74) ((I 52 30).toNat) t)) 75) (((ma I 74 (ma (I 74) ((I 52 30).toNat) t)) 52 30).toNat) r)) 52 30).toNat) u)) 52 30).toNat) e)) 52) 30 (((ma (ma (ma (ma I 74 (ma (I 74) ((I 52 30).toNat) t)) 75 (ma ((ma I 74 (ma (I 74) ((I 52 30).toNat) t)) 75) (((ma I 74 (ma (I 74) ((I 52 30).toNat) t)) 52 30).toNat) r)) 76 (ma ((ma (ma I 74 (ma (I 74) ((I 52 30).toNat) t)) 75 (ma ((ma I 74 (ma (I 74) ((I 52 30).toNat) t)) 75) (((ma I 74 (ma (I 74) ((I 52 30).toNat) t)) 52 30).toNat) r)) 76) (((ma (ma I 74 (ma (I 74) ((I 52 30).toNat) t)) 75 (ma ((ma I 74 (ma (I 74) ((I 52 30).toNat) t)) 75) (((ma I 74 (ma (I 74) ((I 52 30).toNat) t)) 52 30).toNat) r)) 52 30).toNat) u)) 69 (ma ((ma (ma (ma I 74 (ma (I 74) ((I 52 30).toNat) t)) 75 (ma ((ma I 74 (ma (I 74) ((I 52 30).toNat) t)) 75) (((ma I 74 (ma (I 74) ((I 52 30).toNat) t)) 52 30).toNat) r)) 76 (ma ((ma (ma I 74 (ma (I 74) ((I 52 30).toNat) t)) 75 (ma ((ma I 74 (ma (I 74) ((I 52 30).toNat) t)) 75) (((ma I 74 (ma (I 74) ((I 52 30).toNat) t)) 52 30).toNat) r)) 76) (((ma (ma I 74 (ma (I 74) ((I 52 30).toNat) t)) 75 (ma ((ma I 74 (ma (I 74) ((I 52 30).toNat) t)) 75) (((ma I 74 (ma (I 74) ((I 52 30).toNat) t)) 52 30).toNat) r)) 52 30).toNat) u)) 69) (((ma (ma (ma I 74 (ma (I 74) ((I 52 30).toNat) t)) 75 (ma ((ma I 74 (ma (I 74) ((I 52 30).toNat) t)) 75) (((ma I 74 (ma (I 74) ((I 52 30).toNat) t)) 52 30).toNat) r)) 76 (ma ((ma (ma I 74 (ma (I 74) ((I 52 30).toNat) t)) 75 (ma ((ma I 74 (ma (I 74) ((I 52 30).toNat) t)) 75) (((ma I 74 (ma (I 74) ((I 52 30).toNat) t)) 52 30).toNat) r)) 76) (((ma (ma I 74 (ma (I 74) ((I 52 30).toNat) t)) 75 (ma ((ma I 74 (ma (I 74) ((I 52 30).toNat) t)) 75) (((ma I 74 (ma (I 74) ((I 52 30).toNat) t)) 52 30).toNat) r)) 52 30).toNat) u)) 52 30).toNat) e)) 52 30) + 1))) J)) (by decide +kernel) rfl (show (0 ≤ (I 52 30) ∧ (I 52 30) < 10) ∧ (0 ≤ ((ma I 74 (ma (I 74) ((I 52 30).toNat) t)) 52 30) ∧ ((ma I 74 (ma (I 74) ((I 52 30).toNat) t)) 52 30) < 10) ∧ (0 ≤ ((ma (ma I 74 (ma (I 74) ((I 52 30).toNat) t)) 75 (ma ((ma I 74 (ma (I 74) ((I 52 30).toNat) t)) 75) (((ma I 74 (ma (I 74) ((I 52 30).toNat) t)) 52 30).toNat) r)) 52 30) ∧ ((ma (ma I 74 (ma (I 74) ((I 52 30).toNat) t)) 75 (ma ((ma I 74 (ma (I 74) ((I 52 30).toNat) t)) 75) (((ma I 74 (ma (I 74) ((I 52 30).toNat) t)) 52 30).toNat) r)) 52 30) < 10) ∧ (0 ≤ ((ma (ma (ma I 74 (ma (I 74) ((I 52 30).toNat) t)) 75 (ma ((ma I 74 (ma (I 74) ((I 52 30).toNat) t)) 75) (((ma I 74 (ma (I 74) ((I 52 30).toNat) t)) 52 30).toNat) r)) 76 (ma ((ma (ma I 74 (ma (I 74) ((I 52 30).toNat) t)) 75 (ma ((ma I 74 (ma (I 74) ((I 52 30).toNat) t)) 75) (((ma I 74 (ma (I 74) ((I 52 30).toNat) t)) 52 30).toNat) r)) 76) (((ma (ma I 74 (ma (I 74) ((I 52 30).toNat) t)) 75 (ma ((ma I 74 (ma (I 74) ((I 52 30).toNat) t)) 75) (((ma I 74 (ma (I 74) ((I 52 30).toNat) t)) 52 30).toNat) r)) 52 30).toNat) u)) 52 30) ∧ ((ma (ma (ma I 74 (ma (I 74) ((I 52 30).toNat) t)) 75 (ma ((ma I 74 (ma (I 74) ((I 52 30).toNat) t)) 75) (((ma I 74 (ma (I 74) ((I 52 30).toNat) t)) 52 30).toNat) r)) 76 (ma ((ma (ma I 74 (ma (I 74) ((I 52 30).toNat) t)) 75 (ma ((ma I 74 (ma (I 74) ((I 52 30).toNat) t)) 75) (((ma I 74 (ma (I 74) ((I 52 30).toNat) t)) 52 30).toNat) r)) 76) (((ma (ma I 74 (ma (I 74) ((I 52 30).toNat) t)) 75 (ma ((ma I 74 (ma (I 74) ((I 52 30).toNat) t)) 75) (((ma I 74 (ma (I 74) ((I 52 30).toNat) t)) 52 30).toNat) r)) 52 30).toNat) u)) 52 30) < 10) ∧ (0 ≤ e ∧ e ≤ 1) ∧ (inR (((ma (ma (ma (ma I 74 (ma (I 74) ((I 52 30).toNat) t)) 75 (ma ((ma I 74 (ma (I 74) ((I 52 30).toNat) t)) 75) (((ma I 74 (ma (I 74) ((I 52 30).toNat) t)) 52 30).toNat) r)) 76 (ma ((ma (ma I 74 (ma (I 74) ((I 52 30).toNat) t)) 75 (ma ((ma I 74 (ma (I 74) ((I 52 30).toNat) t)) 75) (((ma I 74 (ma (I 74) ((I 52 30).toNat) t)) 52 30).toNat) r)) 76) (((ma (ma I 74 (ma (I 74) ((I 52 30).toNat) t)) 75 (ma ((ma I 74 (ma (I 74) ((I 52 30).toNat) t)) 75) (((ma I 74 (ma (I 74) ((I 52 30).toNat) t)) 52 30).toNat) r)) 52 30).toNat) u)) 69 (ma ((ma (ma (ma I 74 (ma (I 74) ((I 52 30).toNat) t)) 75 (ma ((ma I 74 (ma (I 74) ((I 52 30).toNat) t)) 75) (((ma I 74 (ma (I 74) ((I 52 30).toNat) t)) 52 30).toNat) r)) 76 (ma ((ma (ma I 74 (ma (I 74) ((I 52 30).toNat) t)) 75 (ma ((ma I 74 (ma (I 74) ((I 52 30).toNat) t)) 75) (((ma I 74 (ma (I 74) ((I 52 30).toNat) t)) 52 30).toNat) r)) 76) (((ma (ma I 74 (ma (I 74) ((I 52 30).toNat) t)) 75 (ma ((ma I 74 (ma (I 74) ((I 52 30).toNat) t)) 75) (((ma I 74 (ma (I 74) ((I 52 30).toNat) t)) 52 30).toNat) r)) 52 30).toNat) u)) 69) (((ma (ma (ma I 74 (ma (I 74) ((I 52 30).toNat) t)) 75 (ma ((ma I 74 (ma (I 74) ((I 52 30).toNat) t)) 75) (((ma I 74 (ma (I 74) ((I 52 30).toNat) t)) 52 30).toNat) r)) 76 (ma ((ma (ma I 74 (ma (I 74) ((I 52 30).toNat) t)) 75 (ma ((ma I 74 (ma (I 74) ((I 52 30).toNat) t)) 75) (((ma I 74 (ma (I 74) ((I 52 30).toNat) t)) 52 30).toNat) r)) 76) (((ma (ma I 74 (ma (I 74) ((I 52 30).toNat) t)) 75 (ma ((ma I 74 (ma (I 74) ((I 52 30).toNat) t)) 75) (((ma I 74 (ma (I 74) ((I 52 30).toNat) t)) 52 30).toNat) r)) 52 30).toNat) u)) 52 30).toNat) e)) 52 30) + 1)) from ⟨(by first | omega | (simp [ma]; omega)), (by first | omega | (simp [ma]; omega)), (by first | omega | (simp [ma]; omega)), (by first | omega | (simp [ma]; omega)), (by first | omega | (simp [ma]; omega)), (by unfold inR; first | omega | (simp [ma]; omega))⟩) ?_
      refine V.nI (fun I5 eI5 => ?_)
      refine V.ri (by decide +kernel) ?_
      refine ⟨congrArg (fun w => some (aI w)) ?_, congrArg (fun w => MM N w J) ?_⟩
      all_goals subst eI5
      all_goals (first | unfold whenMA | unfold whenMU)
      all_goals (repeat' split)
      all_goals first | rfl | omega | (exfalso; omega) | (simp [ma, ma_ma, actMU, vnU]; first | done | simp [ma, cndMU])
    · skip
      try simp only [b2_cast, b2_ncast, Classical.not_not, lcm_lt, lcm_ge, lcm_gt, lcm_le, lcm_eq] at h4
      refine V.blk [(26, .aload 0, 1), (27, .bipush (-9), 2)] (ps := []) (z' := (29, [some (aR 52), some (aI t), some (aI r), some (aI u), some (aI e)], [aI (-9), aR 52], MM N I J)) (by decide +kernel) rfl trivial ?_
      refine V.cv (c := 116) (na := 2) (o := 10) (a := 52) [aI (-9)] [] (by decide +kernel) rfl rfl rfl rfl rfl ((m_no (by assumption) (by omega)).mono (fun rv M1 q => ?_))
      obtain ⟨rfl, rfl⟩ := q
      show V 146 (32, [some (aR 52), some (aI t), some (aI r), some (aI u), some (aI e)], [aI (-9)], MM N ((noU I (-9))) J) _
      refine V.nI (fun I6 eI6 => ?_)
      refine V.ri (by decide +kernel) ?_
      refine ⟨congrArg (fun w => some (aI w)) ?_, congrArg (fun w => MM N w J) ?_⟩
      all_goals subst eI6
      all_goals (first | unfold whenMA | unfold whenMU)
      all_goals (repeat' split)
      all_goals first | rfl | omega | (exfalso; omega) | (simp [ma, ma_ma, actMU, vnU]; first | done | simp [ma, cndMU])
  · skip
    try simp only [b2_cast, b2_ncast, Classical.not_not, lcm_lt, lcm_ge, lcm_gt, lcm_le, lcm_eq] at h2
    refine V.blk [(10, .aload 0, 1), (11, .bipush (-3), 2)] (ps := []) (z' := (13, [some (aR 52), some (aI t), some (aI r), some (aI u), some (aI e)], [aI (-3), aR 52], MM N I J)) (by decide +kernel) rfl trivial ?_
    refine V.cv (c := 116) (na := 2) (o := 10) (a := 52) [aI (-3)] [] (by decide +kernel) rfl rfl rfl rfl rfl ((m_no (by assumption) (by omega)).mono (fun rv M1 q => ?_))
    obtain ⟨rfl, rfl⟩ := q
    show V 146 (16, [some (aR 52), some (aI t), some (aI r), some (aI u), some (aI e)], [aI (-3)], MM N ((noU I (-3))) J) _
    refine V.nI (fun I7 eI7 => ?_)
    refine V.ri (by decide +kernel) ?_
    refine ⟨congrArg (fun w => some (aI w)) ?_, congrArg (fun w => MM N w J) ?_⟩
    all_goals subst eI7
    all_goals (first | unfold whenMA | unfold whenMU)
    all_goals (repeat' split)
    all_goals first | rfl | omega | (exfalso; omega) | (simp [ma, ma_ma, actMU, vnU]; first | done | simp [ma, cndMU])
def forgetMA (I : MI) : Int := I 52 29
def forgetMU (I : MI) : MI := ma I 52 (ma (ma (I 52) 29 0) 30 0)
theorem m_X10_forget {N : Nat} {I : MI} {J : MJ}   : CT 147 [aR 52] (MM N I J) (QU N J (aI (forgetMA I )) (forgetMU I )) := by
  refine CT.ofV (n := 2) (ls := [some (aR 52), none]) rfl rfl rfl ?_
  refine V.blk [(0, .aload 0, 1), (1, .getfield 10029, 3), (4, .istore 1, 1), (5, .aload 0, 1), (6, .bipush 0, 1), (7, .putfield 10029, 3), (10, .aload 0, 1), (11, .bipush 0, 1), (12, .putfield 10030, 3), (15, .iload 1, 1)] (ps := []) (z' := (16, [some (aR 52), some (aI (I 52 29))], [aI (I 52 29)], MM N (ma (ma I 52 (ma (I 52) 29 0)) 52 (ma ((ma I 52 (ma (I 52) 29 0)) 52) 30 0)) J)) (by decide +kernel) rfl trivial ?_
  refine V.nI (fun I1 eI1 => ?_)
  refine V.ri (by decide +kernel) ?_
  refine ⟨congrArg (fun w => some (aI w)) ?_, congrArg (fun w => MM N w J) ?_⟩
  all_goals subst eI1
  all_goals (first | unfold forgetMA | unfold forgetMU)
  all_goals (repeat' split)
  all_goals first | rfl | omega | (exfalso; omega) | (simp [ma, ma_ma, actMU, vnU])
def failedMA (I : MI) : Int := I 52 31
def failedMU (I : MI) : MI := I
theorem m_X10_failed {N : Nat} {I : MI} {J : MJ}   : CT 154 [aR 52] (MM N I J) (QU N J (aI (failedMA I )) (failedMU I )) := by
  refine CT.ofV (n := 1) (ls := [some (aR 52)]) rfl rfl rfl ?_
  refine V.blk [(0, .aload 0, 1), (1, .getfield 10031, 3)] (ps := []) (z' := (4, [some (aR 52)], [aI (I 52 31)], MM N I J)) (by decide +kernel) rfl trivial ?_
  refine V.ri (by decide +kernel) ?_
  refine ⟨congrArg (fun w => some (aI w)) ?_, congrArg (fun w => MM N w J) ?_⟩
  all_goals (first | unfold failedMA | unfold failedMU)
  all_goals (repeat' split)
  all_goals first | rfl | omega | (exfalso; omega) | (simp [ma, ma_ma, actMU, vnU])
def tickMA (I : MI) (n : Int) : Int := if n < 0 then -4 else if 1000000 - I 52 19 < n then -8 else I 52 19 + n
def tickMU (I : MI) (n : Int) : MI := if n < 0 then noU I (-4) else if 1000000 - I 52 19 < n then noU I (-8) else vnU (ma I 52 (ma (I 52) 19 (I 52 19 + n)))
theorem m_X10_tick {N : Nat} {I : MI} {J : MJ} {n : Int} (hr : RfM I) (ht : 0 ≤ I 52 19 ∧ I 52 19 ≤ 1000000) (hn : inR n) (hv : 0 ≤ I 52 40 ∧ I 52 40 ≤ 2000) : CT 156 [aR 52, aI n] (MM N I J) (QU N J (aI (tickMA I n)) (tickMU I n)) := by
  refine CT.ofV (n := 2) (ls := [some (aR 52), some (aI n)]) rfl rfl rfl ?_
  unfold inR at hn
  refine V.blk [(0, .iload 1, 1), (1, .ifCond .ge 11, 3)] (ps := []) (z' := (brc .ge n 0 11 4, [some (aR 52), some (aI n)], [], MM N I J)) (by decide +kernel) rfl trivial ?_
  refine V.ge (fun h1 => ?_) (fun h2 => ?_)
  · skip
    try simp only [b2_cast, b2_ncast, Classical.not_not, lcm_lt, lcm_ge, lcm_gt, lcm_le, lcm_eq] at h1
    refine V.blk [(11, .iload 1, 1), (12, .bipush 1000000, 3), (15, .aload 0, 1), (16, .getfield 10019, 3), (19, .isub, 1), (20, .if_icmp .le 30, 3)] (ps := [inR (1000000 - (I 52 19))]) (z' := (brc .le n (1000000 - (I 52 19)) 30 23, [some (aR 52), some (aI n)], [], MM N I J)) (by decide +kernel) rfl (show (inR (1000000 - (I 52 19))) from (by unfold inR; first | omega | (simp [ma]; omega))) ?_
    refine V.le (fun h3 => ?_) (fun h4 => ?_)
    · skip
      try simp only [b2_cast, b2_ncast, Classical.not_not, lcm_lt, lcm_ge, lcm_gt, lcm_le, lcm_eq] at h3
      refine V.blk [(30, .aload 0, 1), (31, .dup, 1), (32, .getfield 10019, 3), (35, .iload 1, 1), (36, .iadd, 1), (37, .putfield 10019, 3), (40, .aload 0, 1), (41, .dup, 1), (42, .getfield 10040, 3), (45, .bipush 1, 1), (46, .iadd, 1), (47, .putfield 10040, 3), (50, .aload 0, 1), (51, .getfield 10019, 3)] (ps := [inR ((I 52 19) + n), inR (((ma I 52 (ma (I 52) 19 ((I 52 19) + n))) 52 40) + 1)]) (z' := (54, [some (aR 52), some (aI n)], [aI ((ma (ma I 52 (ma (I 52) 19 ((I 52 19) + n))) 52 (ma ((ma I 52 (ma (I 52) 19 ((I 52 19) + n))) 52) 40 (((ma I 52 (ma (I 52) 19 ((I 52 19) + n))) 52 40) + 1))) 52 19)], MM N (ma (ma I 52 (ma (I 52) 19 ((I 52 19) + n))) 52 (ma ((ma I 52 (ma (I 52) 19 ((I 52 19) + n))) 52) 40 (((ma I 52 (ma (I 52) 19 ((I 52 19) + n))) 52 40) + 1))) J)) (by decide +kernel) rfl (show (inR ((I 52 19) + n)) ∧ (inR (((ma I 52 (ma (I 52) 19 ((I 52 19) + n))) 52 40) + 1)) from ⟨(by unfold inR; first | omega | (simp [ma]; omega)), (by unfold inR; first | omega | (simp [ma]; omega))⟩) ?_
      refine V.nI (fun I5 eI5 => ?_)
      refine V.ri (by decide +kernel) ?_
      refine ⟨congrArg (fun w => some (aI w)) ?_, congrArg (fun w => MM N w J) ?_⟩
      all_goals subst eI5
      all_goals (first | unfold tickMA | unfold tickMU)
      all_goals (repeat' split)
      all_goals first | rfl | omega | (exfalso; omega) | (simp [ma, ma_ma, actMU, vnU])
    · skip
      try simp only [b2_cast, b2_ncast, Classical.not_not, lcm_lt, lcm_ge, lcm_gt, lcm_le, lcm_eq] at h4
      refine V.blk [(23, .aload 0, 1), (24, .bipush (-8), 2)] (ps := []) (z' := (26, [some (aR 52), some (aI n)], [aI (-8), aR 52], MM N I J)) (by decide +kernel) rfl trivial ?_
      refine V.cv (c := 116) (na := 2) (o := 10) (a := 52) [aI (-8)] [] (by decide +kernel) rfl rfl rfl rfl rfl ((m_no (by assumption) (by omega)).mono (fun rv M1 q => ?_))
      obtain ⟨rfl, rfl⟩ := q
      show V 156 (29, [some (aR 52), some (aI n)], [aI (-8)], MM N ((noU I (-8))) J) _
      refine V.nI (fun I6 eI6 => ?_)
      refine V.ri (by decide +kernel) ?_
      refine ⟨congrArg (fun w => some (aI w)) ?_, congrArg (fun w => MM N w J) ?_⟩
      all_goals subst eI6
      all_goals (first | unfold tickMA | unfold tickMU)
      all_goals (repeat' split)
      all_goals first | rfl | omega | (exfalso; omega) | (simp [ma, ma_ma, actMU, vnU])
  · skip
    try simp only [b2_cast, b2_ncast, Classical.not_not, lcm_lt, lcm_ge, lcm_gt, lcm_le, lcm_eq] at h2
    refine V.blk [(4, .aload 0, 1), (5, .bipush (-4), 2)] (ps := []) (z' := (7, [some (aR 52), some (aI n)], [aI (-4), aR 52], MM N I J)) (by decide +kernel) rfl trivial ?_
    refine V.cv (c := 116) (na := 2) (o := 10) (a := 52) [aI (-4)] [] (by decide +kernel) rfl rfl rfl rfl rfl ((m_no (by assumption) (by omega)).mono (fun rv M1 q => ?_))
    obtain ⟨rfl, rfl⟩ := q
    show V 156 (10, [some (aR 52), some (aI n)], [aI (-4)], MM N ((noU I (-4))) J) _
    refine V.nI (fun I7 eI7 => ?_)
    refine V.ri (by decide +kernel) ?_
    refine ⟨congrArg (fun w => some (aI w)) ?_, congrArg (fun w => MM N w J) ?_⟩
    all_goals subst eI7
    all_goals (first | unfold tickMA | unfold tickMU)
    all_goals (repeat' split)
    all_goals first | rfl | omega | (exfalso; omega) | (simp [ma, ma_ma, actMU, vnU])
def countMA (I : MI) (w : Int) : Int := if w = 0 then I 52 18 else if w = 1 then I 52 19 else if w = 2 then I 52 29 else if w = 3 then I 52 30 else if w = 4 then I 52 13 else if w = 5 then I 52 1 else -8
def countMU (I : MI) (w : Int) : MI := if 0 ≤ w ∧ w ≤ 5 then I else noU I (-8)
theorem m_X10_count {N : Nat} {I : MI} {J : MJ} {w : Int} (hr : RfM I) : CT 157 [aR 52, aI w] (MM N I J) (QU N J (aI (countMA I w)) (countMU I w)) := by
  refine CT.ofV (n := 2) (ls := [some (aR 52), some (aI w)]) rfl rfl rfl ?_
  refine V.blk [(0, .iload 1, 1), (1, .tableswitch 70 0 5 #[40, 45, 50, 55, 60, 65], 39)] (ps := []) (z' := (tsw 70 0 5 [40, 45, 50, 55, 60, 65] w, [some (aR 52), some (aI w)], [], MM N I J)) (by decide +kernel) rfl trivial ?_
  refine V.ts (fun k t1 hlt hle => ?_) (by decide) (fun h2 => ?_)
  · match k, t1, hlt with
    | 0, t1, _ =>
      show V 157 (40, [some (aR 52), some (aI w)], [], MM N I J) _
      try simp only [b2_cast, b2_ncast, Classical.not_not, lcm_lt, lcm_ge, lcm_gt, lcm_le, lcm_eq] at t1
      refine V.blk [(40, .aload 0, 1), (41, .getfield 10018, 3)] (ps := []) (z' := (44, [some (aR 52), some (aI w)], [aI (I 52 18)], MM N I J)) (by decide +kernel) rfl trivial ?_
      refine V.ri (by decide +kernel) ?_
      refine ⟨congrArg (fun w => some (aI w)) ?_, congrArg (fun w => MM N w J) ?_⟩
      all_goals (first | unfold countMA | unfold countMU)
      all_goals (repeat' split)
      all_goals first | rfl | omega | (exfalso; omega) | (simp [ma, ma_ma, actMU, vnU])
    | 1, t1, _ =>
      show V 157 (45, [some (aR 52), some (aI w)], [], MM N I J) _
      try simp only [b2_cast, b2_ncast, Classical.not_not, lcm_lt, lcm_ge, lcm_gt, lcm_le, lcm_eq] at t1
      refine V.blk [(45, .aload 0, 1), (46, .getfield 10019, 3)] (ps := []) (z' := (49, [some (aR 52), some (aI w)], [aI (I 52 19)], MM N I J)) (by decide +kernel) rfl trivial ?_
      refine V.ri (by decide +kernel) ?_
      refine ⟨congrArg (fun w => some (aI w)) ?_, congrArg (fun w => MM N w J) ?_⟩
      all_goals (first | unfold countMA | unfold countMU)
      all_goals (repeat' split)
      all_goals first | rfl | omega | (exfalso; omega) | (simp [ma, ma_ma, actMU, vnU])
    | 2, t1, _ =>
      show V 157 (50, [some (aR 52), some (aI w)], [], MM N I J) _
      try simp only [b2_cast, b2_ncast, Classical.not_not, lcm_lt, lcm_ge, lcm_gt, lcm_le, lcm_eq] at t1
      refine V.blk [(50, .aload 0, 1), (51, .getfield 10029, 3)] (ps := []) (z' := (54, [some (aR 52), some (aI w)], [aI (I 52 29)], MM N I J)) (by decide +kernel) rfl trivial ?_
      refine V.ri (by decide +kernel) ?_
      refine ⟨congrArg (fun w => some (aI w)) ?_, congrArg (fun w => MM N w J) ?_⟩
      all_goals (first | unfold countMA | unfold countMU)
      all_goals (repeat' split)
      all_goals first | rfl | omega | (exfalso; omega) | (simp [ma, ma_ma, actMU, vnU])
    | 3, t1, _ =>
      show V 157 (55, [some (aR 52), some (aI w)], [], MM N I J) _
      try simp only [b2_cast, b2_ncast, Classical.not_not, lcm_lt, lcm_ge, lcm_gt, lcm_le, lcm_eq] at t1
      refine V.blk [(55, .aload 0, 1), (56, .getfield 10030, 3)] (ps := []) (z' := (59, [some (aR 52), some (aI w)], [aI (I 52 30)], MM N I J)) (by decide +kernel) rfl trivial ?_
      refine V.ri (by decide +kernel) ?_
      refine ⟨congrArg (fun w => some (aI w)) ?_, congrArg (fun w => MM N w J) ?_⟩
      all_goals (first | unfold countMA | unfold countMU)
      all_goals (repeat' split)
      all_goals first | rfl | omega | (exfalso; omega) | (simp [ma, ma_ma, actMU, vnU])
    | 4, t1, _ =>
      show V 157 (60, [some (aR 52), some (aI w)], [], MM N I J) _
      try simp only [b2_cast, b2_ncast, Classical.not_not, lcm_lt, lcm_ge, lcm_gt, lcm_le, lcm_eq] at t1
      refine V.blk [(60, .aload 0, 1), (61, .getfield 10013, 3)] (ps := []) (z' := (64, [some (aR 52), some (aI w)], [aI (I 52 13)], MM N I J)) (by decide +kernel) rfl trivial ?_
      refine V.ri (by decide +kernel) ?_
      refine ⟨congrArg (fun w => some (aI w)) ?_, congrArg (fun w => MM N w J) ?_⟩
      all_goals (first | unfold countMA | unfold countMU)
      all_goals (repeat' split)
      all_goals first | rfl | omega | (exfalso; omega) | (simp [ma, ma_ma, actMU, vnU])
    | 5, t1, _ =>
      show V 157 (65, [some (aR 52), some (aI w)], [], MM N I J) _
      try simp only [b2_cast, b2_ncast, Classical.not_not, lcm_lt, lcm_ge, lcm_gt, lcm_le, lcm_eq] at t1
      refine V.blk [(65, .aload 0, 1), (66, .getfield 10001, 3)] (ps := []) (z' := (69, [some (aR 52), some (aI w)], [aI (I 52 1)], MM N I J)) (by decide +kernel) rfl trivial ?_
      refine V.ri (by decide +kernel) ?_
      refine ⟨congrArg (fun w => some (aI w)) ?_, congrArg (fun w => MM N w J) ?_⟩
      all_goals (first | unfold countMA | unfold countMU)
      all_goals (repeat' split)
      all_goals first | rfl | omega | (exfalso; omega) | (simp [ma, ma_ma, actMU, vnU])
    | n + 6, _, hlt => exact absurd hlt (by simp)
  · show V 157 (70, [some (aR 52), some (aI w)], [], MM N I J) _
    try simp only [b2_cast, b2_ncast, Classical.not_not, lcm_lt, lcm_ge, lcm_gt, lcm_le, lcm_eq] at h2
    refine V.blk [(70, .aload 0, 1), (71, .bipush (-8), 2)] (ps := []) (z' := (73, [some (aR 52), some (aI w)], [aI (-8), aR 52], MM N I J)) (by decide +kernel) rfl trivial ?_
    refine V.cv (c := 116) (na := 2) (o := 10) (a := 52) [aI (-8)] [] (by decide +kernel) rfl rfl rfl rfl rfl ((m_no (by assumption) (by omega)).mono (fun rv M1 q => ?_))
    obtain ⟨rfl, rfl⟩ := q
    show V 157 (76, [some (aR 52), some (aI w)], [aI (-8)], MM N ((noU I (-8))) J) _
    refine V.nI (fun I3 eI3 => ?_)
    refine V.ri (by decide +kernel) ?_
    refine ⟨congrArg (fun w => some (aI w)) ?_, congrArg (fun w => MM N w J) ?_⟩
    all_goals subst eI3
    all_goals (first | unfold countMA | unfold countMU)
    all_goals (repeat' split)
    all_goals first | rfl | omega | (exfalso; omega) | (simp [ma, ma_ma, actMU, vnU])
def pairMA (I : MI) (p w : Int) : Int := if 0 ≤ p ∧ p ≤ I 52 13 - 1 then (if w = 0 then I 59 p.toNat else if w = 1 then I 60 p.toNat else if w = 2 then I 61 p.toNat else if w = 3 then I 62 p.toNat else if w = 4 then I 63 p.toNat else if w = 5 then I 64 p.toNat else -8) else -3
def pairMU (I : MI) (p w : Int) : MI := if 0 ≤ p ∧ p ≤ I 52 13 - 1 then (if 0 ≤ w ∧ w ≤ 5 then I else noU I (-8)) else noU I (-3)
theorem m_X10_pair {N : Nat} {I : MI} {J : MJ} {p w : Int} (hr : RfM I) (hm : 0 ≤ I 52 13 ∧ I 52 13 ≤ 400) (hp : inR p) : CT 159 [aR 52, aI p, aI w] (MM N I J) (QU N J (aI (pairMA I p w)) (pairMU I p w)) := by
  refine CT.ofV (n := 3) (ls := [some (aR 52), some (aI p), some (aI w)]) rfl rfl rfl ?_
  unfold inR at hp
  refine V.blk [(0, .iload 1, 1), (1, .i2l, 1), (2, .jsr_w 0, 1), (3, .aload 0, 1), (4, .getfield 10013, 3), (7, .bipush 1, 1), (8, .isub, 1), (9, .i2l, 1)] (ps := [inR ((I 52 13) - 1)]) (z' := (10, [some (aR 52), some (aI p), some (aI w)], [aL (Int64.ofInt ((I 52 13) - 1)), aL (Int64.ofInt 0), aL (Int64.ofInt p)], MM N I J)) (by decide +kernel) rfl (show (inR ((I 52 13) - 1)) from (by unfold inR; first | omega | (simp [ma]; omega))) ?_
  refine V.cs (c := 115) (na := 3) [aL (Int64.ofInt ((I 52 13) - 1)), aL (Int64.ofInt 0), aL (Int64.ofInt p)] [] (by decide +kernel) rfl rfl (V.pr (m_X10_isIn (by unfold inR; omega) (by unfold inR; omega) (by unfold inR; omega)) ?_)
  show V 159 (13, [some (aR 52), some (aI p), some (aI w)], [aI (b2 (decide (0 ≤ p ∧ p ≤ ((I 52 13) - 1))))], MM N I J) _
  refine V.blk [(13, .ifCond .ne 23, 3)] (ps := []) (z' := (brc .ne (b2 (decide (0 ≤ p ∧ p ≤ ((I 52 13) - 1)))) 0 23 16, [some (aR 52), some (aI p), some (aI w)], [], MM N I J)) (by decide +kernel) rfl trivial ?_
  refine V.ne (fun h1 => ?_) (fun h2 => ?_)
  · skip
    try simp only [b2_cast, b2_ncast, Classical.not_not, lcm_lt, lcm_ge, lcm_gt, lcm_le, lcm_eq] at h1
    refine V.blk [(23, .iload 2, 1), (24, .tableswitch 106 0 5 #[64, 71, 78, 85, 92, 99], 40)] (ps := []) (z' := (tsw 106 0 5 [64, 71, 78, 85, 92, 99] w, [some (aR 52), some (aI p), some (aI w)], [], MM N I J)) (by decide +kernel) rfl trivial ?_
    refine V.ts (fun k t3 hlt hle => ?_) (by decide) (fun h4 => ?_)
    · match k, t3, hlt with
      | 0, t3, _ =>
        show V 159 (64, [some (aR 52), some (aI p), some (aI w)], [], MM N I J) _
        try simp only [b2_cast, b2_ncast, Classical.not_not, lcm_lt, lcm_ge, lcm_gt, lcm_le, lcm_eq] at t3
        refine V.blk [(64, .aload 0, 1), (65, .getfield 10007, 3), (68, .iload 1, 1), (69, .iaload, 1)] (ps := [0 ≤ p ∧ p < 420]) (z' := (70, [some (aR 52), some (aI p), some (aI w)], [aI (I 59 ((p).toNat))], MM N I J)) (by decide +kernel) rfl (show (0 ≤ p ∧ p < 420) from (by first | omega | (simp [ma]; omega))) ?_
        refine V.ri (by decide +kernel) ?_
        refine ⟨congrArg (fun w => some (aI w)) ?_, congrArg (fun w => MM N w J) ?_⟩
        all_goals (first | unfold pairMA | unfold pairMU)
        all_goals (repeat' split)
        all_goals first | rfl | omega | (exfalso; omega) | (simp [ma, ma_ma, actMU, vnU])
      | 1, t3, _ =>
        show V 159 (71, [some (aR 52), some (aI p), some (aI w)], [], MM N I J) _
        try simp only [b2_cast, b2_ncast, Classical.not_not, lcm_lt, lcm_ge, lcm_gt, lcm_le, lcm_eq] at t3
        refine V.blk [(71, .aload 0, 1), (72, .getfield 10008, 3), (75, .iload 1, 1), (76, .iaload, 1)] (ps := [0 ≤ p ∧ p < 420]) (z' := (77, [some (aR 52), some (aI p), some (aI w)], [aI (I 60 ((p).toNat))], MM N I J)) (by decide +kernel) rfl (show (0 ≤ p ∧ p < 420) from (by first | omega | (simp [ma]; omega))) ?_
        refine V.ri (by decide +kernel) ?_
        refine ⟨congrArg (fun w => some (aI w)) ?_, congrArg (fun w => MM N w J) ?_⟩
        all_goals (first | unfold pairMA | unfold pairMU)
        all_goals (repeat' split)
        all_goals first | rfl | omega | (exfalso; omega) | (simp [ma, ma_ma, actMU, vnU])
      | 2, t3, _ =>
        show V 159 (78, [some (aR 52), some (aI p), some (aI w)], [], MM N I J) _
        try simp only [b2_cast, b2_ncast, Classical.not_not, lcm_lt, lcm_ge, lcm_gt, lcm_le, lcm_eq] at t3
        refine V.blk [(78, .aload 0, 1), (79, .getfield 10009, 3), (82, .iload 1, 1), (83, .iaload, 1)] (ps := [0 ≤ p ∧ p < 420]) (z' := (84, [some (aR 52), some (aI p), some (aI w)], [aI (I 61 ((p).toNat))], MM N I J)) (by decide +kernel) rfl (show (0 ≤ p ∧ p < 420) from (by first | omega | (simp [ma]; omega))) ?_
        refine V.ri (by decide +kernel) ?_
        refine ⟨congrArg (fun w => some (aI w)) ?_, congrArg (fun w => MM N w J) ?_⟩
        all_goals (first | unfold pairMA | unfold pairMU)
        all_goals (repeat' split)
        all_goals first | rfl | omega | (exfalso; omega) | (simp [ma, ma_ma, actMU, vnU])
      | 3, t3, _ =>
        show V 159 (85, [some (aR 52), some (aI p), some (aI w)], [], MM N I J) _
        try simp only [b2_cast, b2_ncast, Classical.not_not, lcm_lt, lcm_ge, lcm_gt, lcm_le, lcm_eq] at t3
        refine V.blk [(85, .aload 0, 1), (86, .getfield 10010, 3), (89, .iload 1, 1), (90, .iaload, 1)] (ps := [0 ≤ p ∧ p < 420]) (z' := (91, [some (aR 52), some (aI p), some (aI w)], [aI (I 62 ((p).toNat))], MM N I J)) (by decide +kernel) rfl (show (0 ≤ p ∧ p < 420) from (by first | omega | (simp [ma]; omega))) ?_
        refine V.ri (by decide +kernel) ?_
        refine ⟨congrArg (fun w => some (aI w)) ?_, congrArg (fun w => MM N w J) ?_⟩
        all_goals (first | unfold pairMA | unfold pairMU)
        all_goals (repeat' split)
        all_goals first | rfl | omega | (exfalso; omega) | (simp [ma, ma_ma, actMU, vnU])
      | 4, t3, _ =>
        show V 159 (92, [some (aR 52), some (aI p), some (aI w)], [], MM N I J) _
        try simp only [b2_cast, b2_ncast, Classical.not_not, lcm_lt, lcm_ge, lcm_gt, lcm_le, lcm_eq] at t3
        refine V.blk [(92, .aload 0, 1), (93, .getfield 10011, 3), (96, .iload 1, 1), (97, .iaload, 1)] (ps := [0 ≤ p ∧ p < 420]) (z' := (98, [some (aR 52), some (aI p), some (aI w)], [aI (I 63 ((p).toNat))], MM N I J)) (by decide +kernel) rfl (show (0 ≤ p ∧ p < 420) from (by first | omega | (simp [ma]; omega))) ?_
        refine V.ri (by decide +kernel) ?_
        refine ⟨congrArg (fun w => some (aI w)) ?_, congrArg (fun w => MM N w J) ?_⟩
        all_goals (first | unfold pairMA | unfold pairMU)
        all_goals (repeat' split)
        all_goals first | rfl | omega | (exfalso; omega) | (simp [ma, ma_ma, actMU, vnU])
      | 5, t3, _ =>
        show V 159 (99, [some (aR 52), some (aI p), some (aI w)], [], MM N I J) _
        try simp only [b2_cast, b2_ncast, Classical.not_not, lcm_lt, lcm_ge, lcm_gt, lcm_le, lcm_eq] at t3
        refine V.blk [(99, .aload 0, 1), (100, .getfield 10012, 3), (103, .iload 1, 1), (104, .iaload, 1)] (ps := [0 ≤ p ∧ p < 420]) (z' := (105, [some (aR 52), some (aI p), some (aI w)], [aI (I 64 ((p).toNat))], MM N I J)) (by decide +kernel) rfl (show (0 ≤ p ∧ p < 420) from (by first | omega | (simp [ma]; omega))) ?_
        refine V.ri (by decide +kernel) ?_
        refine ⟨congrArg (fun w => some (aI w)) ?_, congrArg (fun w => MM N w J) ?_⟩
        all_goals (first | unfold pairMA | unfold pairMU)
        all_goals (repeat' split)
        all_goals first | rfl | omega | (exfalso; omega) | (simp [ma, ma_ma, actMU, vnU])
      | n + 6, _, hlt => exact absurd hlt (by simp)
    · show V 159 (106, [some (aR 52), some (aI p), some (aI w)], [], MM N I J) _
      try simp only [b2_cast, b2_ncast, Classical.not_not, lcm_lt, lcm_ge, lcm_gt, lcm_le, lcm_eq] at h4
      refine V.blk [(106, .aload 0, 1), (107, .bipush (-8), 2)] (ps := []) (z' := (109, [some (aR 52), some (aI p), some (aI w)], [aI (-8), aR 52], MM N I J)) (by decide +kernel) rfl trivial ?_
      refine V.cv (c := 116) (na := 2) (o := 10) (a := 52) [aI (-8)] [] (by decide +kernel) rfl rfl rfl rfl rfl ((m_no (by assumption) (by omega)).mono (fun rv M1 q => ?_))
      obtain ⟨rfl, rfl⟩ := q
      show V 159 (112, [some (aR 52), some (aI p), some (aI w)], [aI (-8)], MM N ((noU I (-8))) J) _
      refine V.nI (fun I5 eI5 => ?_)
      refine V.ri (by decide +kernel) ?_
      refine ⟨congrArg (fun w => some (aI w)) ?_, congrArg (fun w => MM N w J) ?_⟩
      all_goals subst eI5
      all_goals (first | unfold pairMA | unfold pairMU)
      all_goals (repeat' split)
      all_goals first | rfl | omega | (exfalso; omega) | (simp [ma, ma_ma, actMU, vnU])
  · skip
    try simp only [b2_cast, b2_ncast, Classical.not_not, lcm_lt, lcm_ge, lcm_gt, lcm_le, lcm_eq] at h2
    refine V.blk [(16, .aload 0, 1), (17, .bipush (-3), 2)] (ps := []) (z' := (19, [some (aR 52), some (aI p), some (aI w)], [aI (-3), aR 52], MM N I J)) (by decide +kernel) rfl trivial ?_
    refine V.cv (c := 116) (na := 2) (o := 10) (a := 52) [aI (-3)] [] (by decide +kernel) rfl rfl rfl rfl rfl ((m_no (by assumption) (by omega)).mono (fun rv M1 q => ?_))
    obtain ⟨rfl, rfl⟩ := q
    show V 159 (22, [some (aR 52), some (aI p), some (aI w)], [aI (-3)], MM N ((noU I (-3))) J) _
    refine V.nI (fun I6 eI6 => ?_)
    refine V.ri (by decide +kernel) ?_
    refine ⟨congrArg (fun w => some (aI w)) ?_, congrArg (fun w => MM N w J) ?_⟩
    all_goals subst eI6
    all_goals (first | unfold pairMA | unfold pairMU)
    all_goals (repeat' split)
    all_goals first | rfl | omega | (exfalso; omega) | (simp [ma, ma_ma, actMU, vnU])
def reasonMA (I : MI) (i : Int) : Int := if 0 ≤ i ∧ i ≤ I 52 56 - 1 then I 93 i.toNat else -3
def reasonMU (I : MI) (i : Int) : MI := if 0 ≤ i ∧ i ≤ I 52 56 - 1 then I else noU I (-3)
theorem m_X10_reason {N : Nat} {I : MI} {J : MJ} {i : Int} (hr : RfM I) (hm : 0 ≤ I 52 56 ∧ I 52 56 ≤ 60) (hi : inR i) : CT 188 [aR 52, aI i] (MM N I J) (QU N J (aI (reasonMA I i)) (reasonMU I i)) := by
  refine CT.ofV (n := 2) (ls := [some (aR 52), some (aI i)]) rfl rfl rfl ?_
  unfold inR at hi
  refine V.blk [(0, .iload 1, 1), (1, .i2l, 1), (2, .jsr_w 0, 1), (3, .aload 0, 1), (4, .getfield 10056, 3), (7, .bipush 1, 1), (8, .isub, 1), (9, .i2l, 1)] (ps := [inR ((I 52 56) - 1)]) (z' := (10, [some (aR 52), some (aI i)], [aL (Int64.ofInt ((I 52 56) - 1)), aL (Int64.ofInt 0), aL (Int64.ofInt i)], MM N I J)) (by decide +kernel) rfl (show (inR ((I 52 56) - 1)) from (by unfold inR; first | omega | (simp [ma]; omega))) ?_
  refine V.cs (c := 115) (na := 3) [aL (Int64.ofInt ((I 52 56) - 1)), aL (Int64.ofInt 0), aL (Int64.ofInt i)] [] (by decide +kernel) rfl rfl (V.pr (m_X10_isIn (by unfold inR; omega) (by unfold inR; omega) (by unfold inR; omega)) ?_)
  show V 188 (13, [some (aR 52), some (aI i)], [aI (b2 (decide (0 ≤ i ∧ i ≤ ((I 52 56) - 1))))], MM N I J) _
  refine V.blk [(13, .ifCond .eq 25, 3)] (ps := []) (z' := (brc .eq (b2 (decide (0 ≤ i ∧ i ≤ ((I 52 56) - 1)))) 0 25 16, [some (aR 52), some (aI i)], [], MM N I J)) (by decide +kernel) rfl trivial ?_
  refine V.eq (fun h1 => ?_) (fun h2 => ?_)
  · skip
    try simp only [b2_cast, b2_ncast, Classical.not_not, lcm_lt, lcm_ge, lcm_gt, lcm_le, lcm_eq] at h1
    refine V.blk [(25, .aload 0, 1), (26, .bipush (-3), 2)] (ps := []) (z' := (28, [some (aR 52), some (aI i)], [aI (-3), aR 52], MM N I J)) (by decide +kernel) rfl trivial ?_
    refine V.cv (c := 116) (na := 2) (o := 10) (a := 52) [aI (-3)] [] (by decide +kernel) rfl rfl rfl rfl rfl ((m_no (by assumption) (by omega)).mono (fun rv M1 q => ?_))
    obtain ⟨rfl, rfl⟩ := q
    show V 188 (31, [some (aR 52), some (aI i)], [aI (-3)], MM N ((noU I (-3))) J) _
    refine V.nI (fun I3 eI3 => ?_)
    refine V.ri (by decide +kernel) ?_
    refine ⟨congrArg (fun w => some (aI w)) ?_, congrArg (fun w => MM N w J) ?_⟩
    all_goals subst eI3
    all_goals (first | unfold reasonMA | unfold reasonMU)
    all_goals (repeat' split)
    all_goals first | rfl | omega | (exfalso; omega) | (simp [ma, ma_ma, actMU, vnU])
  · skip
    try simp only [b2_cast, b2_ncast, Classical.not_not, lcm_lt, lcm_ge, lcm_gt, lcm_le, lcm_eq] at h2
    refine V.blk [(16, .aload 0, 1), (17, .getfield 10055, 3), (20, .iload 1, 1), (21, .iaload, 1), (22, .goto 31, 3)] (ps := [0 ≤ i ∧ i < 60]) (z' := (31, [some (aR 52), some (aI i)], [aI (I 93 ((i).toNat))], MM N I J)) (by decide +kernel) rfl (show (0 ≤ i ∧ i < 60) from (by first | omega | (simp [ma]; omega))) ?_
    refine V.ri (by decide +kernel) ?_
    refine ⟨congrArg (fun w => some (aI w)) ?_, congrArg (fun w => MM N w J) ?_⟩
    all_goals (first | unfold reasonMA | unfold reasonMU)
    all_goals (repeat' split)
    all_goals first | rfl | omega | (exfalso; omega) | (simp [ma, ma_ma, actMU, vnU])
def tearMA (I : MI) : Int := if 0 ≤ I 52 64 then 1 else 0
def tearMU (I : MI) : MI := ma I 52 (ma (I 52) 64 (-1))
theorem m_X10_tear {N : Nat} {I : MI} {J : MJ}   : CT 193 [aR 52] (MM N I J) (QU N J (aI (tearMA I )) (tearMU I )) := by
  refine CT.ofV (n := 2) (ls := [some (aR 52), none]) rfl rfl rfl ?_
  refine V.blk [(0, .aload 0, 1), (1, .getfield 10064, 3), (4, .ifCond .lt 11, 3)] (ps := []) (z' := (brc .lt (I 52 64) 0 11 7, [some (aR 52), none], [], MM N I J)) (by decide +kernel) rfl trivial ?_
  refine V.lt (fun h1 => ?_) (fun h2 => ?_)
  · skip
    try simp only [b2_cast, b2_ncast, Classical.not_not, lcm_lt, lcm_ge, lcm_gt, lcm_le, lcm_eq] at h1
    refine V.blk [(11, .bipush 0, 1), (12, .istore 1, 1), (13, .aload 0, 1), (14, .bipush (-1), 1), (15, .putfield 10064, 3), (18, .iload 1, 1)] (ps := []) (z' := (19, [some (aR 52), some (aI 0)], [aI 0], MM N (ma I 52 (ma (I 52) 64 (-1))) J)) (by decide +kernel) rfl trivial ?_
    refine V.nI (fun I3 eI3 => ?_)
    refine V.ri (by decide +kernel) ?_
    refine ⟨congrArg (fun w => some (aI w)) ?_, congrArg (fun w => MM N w J) ?_⟩
    all_goals subst eI3
    all_goals (first | unfold tearMA | unfold tearMU)
    all_goals (repeat' split)
    all_goals first | rfl | omega | (exfalso; omega) | (simp [ma, ma_ma, actMU, vnU])
  · skip
    try simp only [b2_cast, b2_ncast, Classical.not_not, lcm_lt, lcm_ge, lcm_gt, lcm_le, lcm_eq] at h2
    refine V.blk [(7, .bipush 1, 1), (8, .goto 12, 3), (12, .istore 1, 1), (13, .aload 0, 1), (14, .bipush (-1), 1), (15, .putfield 10064, 3), (18, .iload 1, 1)] (ps := []) (z' := (19, [some (aR 52), some (aI 1)], [aI 1], MM N (ma I 52 (ma (I 52) 64 (-1))) J)) (by decide +kernel) rfl trivial ?_
    refine V.nI (fun I4 eI4 => ?_)
    refine V.ri (by decide +kernel) ?_
    refine ⟨congrArg (fun w => some (aI w)) ?_, congrArg (fun w => MM N w J) ?_⟩
    all_goals subst eI4
    all_goals (first | unfold tearMA | unfold tearMU)
    all_goals (repeat' split)
    all_goals first | rfl | omega | (exfalso; omega) | (simp [ma, ma_ma, actMU, vnU])
def rowMA (I : MI) (i : Int) : Int := if I 52 64 < 0 then -2 else if 0 ≤ i ∧ i ≤ I 52 64 - 1 then I 94 i.toNat else -3
def rowMU (I : MI) (i : Int) : MI := if I 52 64 < 0 then noU I (-2) else if 0 ≤ i ∧ i ≤ I 52 64 - 1 then I else noU I (-3)
theorem m_X10_row {N : Nat} {I : MI} {J : MJ} {i : Int} (hr : RfM I) (hm : I 52 64 ≤ 40) (hi : inR i) : CT 194 [aR 52, aI i] (MM N I J) (QU N J (aI (rowMA I i)) (rowMU I i)) := by
  refine CT.ofV (n := 2) (ls := [some (aR 52), some (aI i)]) rfl rfl rfl ?_
  unfold inR at hi
  refine V.blk [(0, .aload 0, 1), (1, .getfield 10064, 3), (4, .ifCond .ge 14, 3)] (ps := []) (z' := (brc .ge (I 52 64) 0 14 7, [some (aR 52), some (aI i)], [], MM N I J)) (by decide +kernel) rfl trivial ?_
  refine V.ge (fun h1 => ?_) (fun h2 => ?_)
  · skip
    try simp only [b2_cast, b2_ncast, Classical.not_not, lcm_lt, lcm_ge, lcm_gt, lcm_le, lcm_eq] at h1
    refine V.blk [(14, .iload 1, 1), (15, .i2l, 1), (16, .jsr_w 0, 1), (17, .aload 0, 1), (18, .getfield 10064, 3), (21, .bipush 1, 1), (22, .isub, 1), (23, .i2l, 1)] (ps := [inR ((I 52 64) - 1)]) (z' := (24, [some (aR 52), some (aI i)], [aL (Int64.ofInt ((I 52 64) - 1)), aL (Int64.ofInt 0), aL (Int64.ofInt i)], MM N I J)) (by decide +kernel) rfl (show (inR ((I 52 64) - 1)) from (by unfold inR; first | omega | (simp [ma]; omega))) ?_
    refine V.cs (c := 115) (na := 3) [aL (Int64.ofInt ((I 52 64) - 1)), aL (Int64.ofInt 0), aL (Int64.ofInt i)] [] (by decide +kernel) rfl rfl (V.pr (m_X10_isIn (by unfold inR; omega) (by unfold inR; omega) (by unfold inR; omega)) ?_)
    show V 194 (27, [some (aR 52), some (aI i)], [aI (b2 (decide (0 ≤ i ∧ i ≤ ((I 52 64) - 1))))], MM N I J) _
    refine V.blk [(27, .ifCond .eq 39, 3)] (ps := []) (z' := (brc .eq (b2 (decide (0 ≤ i ∧ i ≤ ((I 52 64) - 1)))) 0 39 30, [some (aR 52), some (aI i)], [], MM N I J)) (by decide +kernel) rfl trivial ?_
    refine V.eq (fun h3 => ?_) (fun h4 => ?_)
    · skip
      try simp only [b2_cast, b2_ncast, Classical.not_not, lcm_lt, lcm_ge, lcm_gt, lcm_le, lcm_eq] at h3
      refine V.blk [(39, .aload 0, 1), (40, .bipush (-3), 2)] (ps := []) (z' := (42, [some (aR 52), some (aI i)], [aI (-3), aR 52], MM N I J)) (by decide +kernel) rfl trivial ?_
      refine V.cv (c := 116) (na := 2) (o := 10) (a := 52) [aI (-3)] [] (by decide +kernel) rfl rfl rfl rfl rfl ((m_no (by assumption) (by omega)).mono (fun rv M1 q => ?_))
      obtain ⟨rfl, rfl⟩ := q
      show V 194 (45, [some (aR 52), some (aI i)], [aI (-3)], MM N ((noU I (-3))) J) _
      refine V.nI (fun I5 eI5 => ?_)
      refine V.ri (by decide +kernel) ?_
      refine ⟨congrArg (fun w => some (aI w)) ?_, congrArg (fun w => MM N w J) ?_⟩
      all_goals subst eI5
      all_goals (first | unfold rowMA | unfold rowMU)
      all_goals (repeat' split)
      all_goals first | rfl | omega | (exfalso; omega) | (simp [ma, ma_ma, actMU, vnU])
    · skip
      try simp only [b2_cast, b2_ncast, Classical.not_not, lcm_lt, lcm_ge, lcm_gt, lcm_le, lcm_eq] at h4
      refine V.blk [(30, .aload 0, 1), (31, .getfield 10062, 3), (34, .iload 1, 1), (35, .iaload, 1), (36, .goto 45, 3)] (ps := [0 ≤ i ∧ i < 40]) (z' := (45, [some (aR 52), some (aI i)], [aI (I 94 ((i).toNat))], MM N I J)) (by decide +kernel) rfl (show (0 ≤ i ∧ i < 40) from (by first | omega | (simp [ma]; omega))) ?_
      refine V.ri (by decide +kernel) ?_
      refine ⟨congrArg (fun w => some (aI w)) ?_, congrArg (fun w => MM N w J) ?_⟩
      all_goals (first | unfold rowMA | unfold rowMU)
      all_goals (repeat' split)
      all_goals first | rfl | omega | (exfalso; omega) | (simp [ma, ma_ma, actMU, vnU])
  · skip
    try simp only [b2_cast, b2_ncast, Classical.not_not, lcm_lt, lcm_ge, lcm_gt, lcm_le, lcm_eq] at h2
    refine V.blk [(7, .aload 0, 1), (8, .bipush (-2), 2)] (ps := []) (z' := (10, [some (aR 52), some (aI i)], [aI (-2), aR 52], MM N I J)) (by decide +kernel) rfl trivial ?_
    refine V.cv (c := 116) (na := 2) (o := 10) (a := 52) [aI (-2)] [] (by decide +kernel) rfl rfl rfl rfl rfl ((m_no (by assumption) (by omega)).mono (fun rv M1 q => ?_))
    obtain ⟨rfl, rfl⟩ := q
    show V 194 (13, [some (aR 52), some (aI i)], [aI (-2)], MM N ((noU I (-2))) J) _
    refine V.nI (fun I6 eI6 => ?_)
    refine V.ri (by decide +kernel) ?_
    refine ⟨congrArg (fun w => some (aI w)) ?_, congrArg (fun w => MM N w J) ?_⟩
    all_goals subst eI6
    all_goals (first | unfold rowMA | unfold rowMU)
    all_goals (repeat' split)
    all_goals first | rfl | omega | (exfalso; omega) | (simp [ma, ma_ma, actMU, vnU])
def statusMA (I : MI) (z : Int) : Int := if -9 ≤ z ∧ z ≤ -2 then I 77 (-z).toNat else -8
def statusMU (I : MI) (z : Int) : MI := if -9 ≤ z ∧ z ≤ -2 then I else noU I (-8)
theorem m_X10_status {N : Nat} {I : MI} {J : MJ} {z : Int} (hr : RfM I) (hz : inR z) : CT 196 [aR 52, aI z] (MM N I J) (QU N J (aI (statusMA I z)) (statusMU I z)) := by
  refine CT.ofV (n := 2) (ls := [some (aR 52), some (aI z)]) rfl rfl rfl ?_
  unfold inR at hz
  refine V.blk [(0, .iload 1, 1), (1, .i2l, 1), (2, .jsr_w (-9), 3), (5, .jsr_w (-2), 3)] (ps := []) (z' := (8, [some (aR 52), some (aI z)], [aL (Int64.ofInt (-2)), aL (Int64.ofInt (-9)), aL (Int64.ofInt z)], MM N I J)) (by decide +kernel) rfl trivial ?_
  refine V.cs (c := 115) (na := 3) [aL (Int64.ofInt (-2)), aL (Int64.ofInt (-9)), aL (Int64.ofInt z)] [] (by decide +kernel) rfl rfl (V.pr (m_X10_isIn (by unfold inR; omega) (by unfold inR; omega) (by unfold inR; omega)) ?_)
  show V 196 (11, [some (aR 52), some (aI z)], [aI (b2 (decide ((-9) ≤ z ∧ z ≤ (-2))))], MM N I J) _
  refine V.blk [(11, .ifCond .eq 24, 3)] (ps := []) (z' := (brc .eq (b2 (decide ((-9) ≤ z ∧ z ≤ (-2)))) 0 24 14, [some (aR 52), some (aI z)], [], MM N I J)) (by decide +kernel) rfl trivial ?_
  refine V.eq (fun h1 => ?_) (fun h2 => ?_)
  · skip
    try simp only [b2_cast, b2_ncast, Classical.not_not, lcm_lt, lcm_ge, lcm_gt, lcm_le, lcm_eq] at h1
    refine V.blk [(24, .aload 0, 1), (25, .bipush (-8), 2)] (ps := []) (z' := (27, [some (aR 52), some (aI z)], [aI (-8), aR 52], MM N I J)) (by decide +kernel) rfl trivial ?_
    refine V.cv (c := 116) (na := 2) (o := 10) (a := 52) [aI (-8)] [] (by decide +kernel) rfl rfl rfl rfl rfl ((m_no (by assumption) (by omega)).mono (fun rv M1 q => ?_))
    obtain ⟨rfl, rfl⟩ := q
    show V 196 (30, [some (aR 52), some (aI z)], [aI (-8)], MM N ((noU I (-8))) J) _
    refine V.nI (fun I3 eI3 => ?_)
    refine V.ri (by decide +kernel) ?_
    refine ⟨congrArg (fun w => some (aI w)) ?_, congrArg (fun w => MM N w J) ?_⟩
    all_goals subst eI3
    all_goals (first | unfold statusMA | unfold statusMU)
    all_goals (repeat' split)
    all_goals first | rfl | omega | (exfalso; omega) | (simp [ma, ma_ma, actMU, vnU])
  · skip
    try simp only [b2_cast, b2_ncast, Classical.not_not, lcm_lt, lcm_ge, lcm_gt, lcm_le, lcm_eq] at h2
    refine V.blk [(14, .aload 0, 1), (15, .getfield 10032, 3), (18, .iload 1, 1), (19, .ineg, 1), (20, .iaload, 1), (21, .goto 30, 3)] (ps := [inR (-z), 0 ≤ (-z) ∧ (-z) < 10]) (z' := (30, [some (aR 52), some (aI z)], [aI (I 77 ((-z).toNat))], MM N I J)) (by decide +kernel) rfl (show (inR (-z)) ∧ (0 ≤ (-z) ∧ (-z) < 10) from ⟨(by unfold inR; first | omega | (simp [ma]; omega)), (by first | omega | (simp [ma]; omega))⟩) ?_
    refine V.ri (by decide +kernel) ?_
    refine ⟨congrArg (fun w => some (aI w)) ?_, congrArg (fun w => MM N w J) ?_⟩
    all_goals (first | unfold statusMA | unfold statusMU)
    all_goals (repeat' split)
    all_goals first | rfl | omega | (exfalso; omega) | (simp [ma, ma_ma, actMU, vnU])
