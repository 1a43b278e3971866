/-! ===== the class: calls that ask neither rules nor scenes ===== -/
theorem b2_n0 (p : Bool) : (¬ b2 p = 0) ↔ p = true := by cases p <;> simp [b2]
theorem b2_dc {p q : Prop} {hp : Decidable p} {hq : Decidable q} (h : p ↔ q) : b2 (decide p) = b2 (decide q) := by
  by_cases hh : p
  · simp [b2, hh, h.mp hh]
  · have h2 : ¬ q := fun w => hh (h.mpr w)
    simp [b2, hh, h2]
theorem b2_cast (p : Prop) {hp : Decidable p} : (b2 (decide p) = 0) ↔ ¬ p := by simp [b2_0]
theorem b2_ncast (p : Prop) {hp : Decidable p} : (¬ b2 (decide p) = 0) ↔ p := by simp [b2_n0]
theorem c_refuse {N : Nat} {I : MI} {J : MJ} {z : Int} (hr : Rf I) (hz : -9 ≤ z ∧ z ≤ -2) : CT 98 [aR 0, aI z] (MM N I J) (QU N J (aI z) (rfU I z)) := by
  have hb := hr (-2 - z).toNat (by omega)
  refine CT.ofV (n := 2) (ls := [some (aR 0), some (aI z)]) rfl rfl rfl ?_
  refine V.blk [(0, .iload 1, 1), (1, .bipush (-2), 2), (3, .if_icmp .gt 25, 3)] (ps := []) (z' := (brc .gt z (-2) 25 6, [some (aR 0), some (aI z)], [], MM N I J)) (by decide +kernel) rfl trivial ?_
  refine V.gt (fun h1 => ?_) (fun h2 => ?_)
  · skip
    refine V.blk [(25, .iload 1, 1)] (ps := []) (z' := (26, [some (aR 0), some (aI z)], [aI z], MM N I J)) (by decide +kernel) rfl trivial ?_
    refine V.ri (by decide +kernel) ?_
    first | exact ⟨rfl, by subst z; rfl⟩ | (exfalso; omega)
  · skip
    refine V.blk [(6, .iload 1, 1), (7, .bipush (-9), 2), (9, .if_icmp .lt 25, 3)] (ps := []) (z' := (brc .lt z (-9) 25 12, [some (aR 0), some (aI z)], [], MM N I J)) (by decide +kernel) rfl trivial ?_
    refine V.lt (fun h3 => ?_) (fun h4 => ?_)
    · skip
      refine V.blk [(25, .iload 1, 1)] (ps := []) (z' := (26, [some (aR 0), some (aI z)], [aI z], MM N I J)) (by decide +kernel) rfl trivial ?_
      refine V.ri (by decide +kernel) ?_
      first | exact ⟨rfl, by subst z; rfl⟩ | (exfalso; omega)
    · skip
      refine V.blk [(12, .aload 0, 1), (13, .getfield 9010, 3), (16, .bipush (-2), 2), (18, .iload 1, 1), (19, .isub, 1), (20, .dup2, 1), (21, .iaload, 1), (22, .bipush 1, 1), (23, .iadd, 1), (24, .iastore, 1), (25, .iload 1, 1)] (ps := [inR ((-2) - z), 0 ≤ ((-2) - z) ∧ ((-2) - z) < 8, inR ((I 51 (((-2) - z).toNat)) + 1), 0 ≤ ((-2) - z) ∧ ((-2) - z) < 8]) (z' := (26, [some (aR 0), some (aI z)], [aI z], MM N (ma I 51 (ma (I 51) (((-2) - z).toNat) ((I 51 (((-2) - z).toNat)) + 1))) J)) (by decide +kernel) rfl (show (inR ((-2) - z)) ∧ (0 ≤ ((-2) - z) ∧ ((-2) - z) < 8) ∧ (inR ((I 51 (((-2) - z).toNat)) + 1)) ∧ (0 ≤ ((-2) - z) ∧ ((-2) - z) < 8) from ⟨(by unfold inR; omega), (by omega), (by unfold inR; omega), (by omega)⟩) ?_
      refine V.nI (fun I5 eI5 => ?_)
      refine V.ri (by decide +kernel) ?_
      first | exact ⟨rfl, by subst eI5; rfl⟩ | (exfalso; omega)
theorem c_X9_isSpot {N : Nat} {I : MI} {J : MJ} {u v : Int}  : CT 100 [aR 0, aI u, aI v] (MM N I J) (pure1 N I J (aI (b2 (decide (0 ≤ u ∧ u < I 1 1 ∧ 0 ≤ v ∧ v < 8))))) := by
  refine CT.ofV (n := 3) (ls := [some (aR 0), some (aI u), some (aI v)]) rfl rfl rfl ?_
  refine V.blk [(0, .iload 1, 1), (1, .aload 0, 1), (2, .getfield 9000, 3), (5, .getfield 8001, 3)] (ps := []) (z' := (8, [some (aR 0), some (aI u), some (aI v)], [aI (I 1 1), aI u], MM N I J)) (by decide +kernel) rfl trivial ?_
  refine V.cs (c := 103) (na := 2) [aI (I 1 1), aI u] [] (by decide +kernel) rfl rfl (V.pr (c_X9_within) ?_)
  show V 100 (11, [some (aR 0), some (aI u), some (aI v)], [aI (b2 (decide (0 ≤ u ∧ u < (I 1 1))))], MM N I J) _
  refine V.blk [(11, .ifCond .eq 27, 3)] (ps := []) (z' := (brc .eq (b2 (decide (0 ≤ u ∧ u < (I 1 1)))) 0 27 14, [some (aR 0), some (aI u), some (aI v)], [], MM N I J)) (by decide +kernel) rfl trivial ?_
  refine V.eq (fun h1 => ?_) (fun h2 => ?_)
  · skip
    try simp only [b2_cast, b2_ncast, Classical.not_not] at h1
    refine V.blk [(27, .bipush 0, 1)] (ps := []) (z' := (28, [some (aR 0), some (aI u), some (aI v)], [aI 0], MM N I J)) (by decide +kernel) rfl trivial ?_
    refine V.rz (by decide +kernel) (by first | exact b2_in _ | omega) ?_
    refine ⟨congrArg (fun w => some (aI w)) ?_, rfl⟩
    first | exact b2_td (by omega) | exact b2_fd (by omega)
  · skip
    try simp only [b2_cast, b2_ncast, Classical.not_not] at h2
    refine V.blk [(14, .iload 2, 1), (15, .bipush 8, 2)] (ps := []) (z' := (17, [some (aR 0), some (aI u), some (aI v)], [aI 8, aI v], MM N I J)) (by decide +kernel) rfl trivial ?_
    refine V.cs (c := 103) (na := 2) [aI 8, aI v] [] (by decide +kernel) rfl rfl (V.pr (c_X9_within) ?_)
    show V 100 (20, [some (aR 0), some (aI u), some (aI v)], [aI (b2 (decide (0 ≤ v ∧ v < 8)))], MM N I J) _
    refine V.blk [(20, .ifCond .eq 27, 3)] (ps := []) (z' := (brc .eq (b2 (decide (0 ≤ v ∧ v < 8))) 0 27 23, [some (aR 0), some (aI u), some (aI v)], [], MM N I J)) (by decide +kernel) rfl trivial ?_
    refine V.eq (fun h3 => ?_) (fun h4 => ?_)
    · skip
      try simp only [b2_cast, b2_ncast, Classical.not_not] at h3
      refine V.blk [(27, .bipush 0, 1)] (ps := []) (z' := (28, [some (aR 0), some (aI u), some (aI v)], [aI 0], MM N I J)) (by decide +kernel) rfl trivial ?_
      refine V.rz (by decide +kernel) (by first | exact b2_in _ | omega) ?_
      refine ⟨congrArg (fun w => some (aI w)) ?_, rfl⟩
      first | exact b2_td (by omega) | exact b2_fd (by omega)
    · skip
      try simp only [b2_cast, b2_ncast, Classical.not_not] at h4
      refine V.blk [(23, .bipush 1, 1), (24, .goto 28, 3)] (ps := []) (z' := (28, [some (aR 0), some (aI u), some (aI v)], [aI 1], MM N I J)) (by decide +kernel) rfl trivial ?_
      refine V.rz (by decide +kernel) (by first | exact b2_in _ | omega) ?_
      refine ⟨congrArg (fun w => some (aI w)) ?_, rfl⟩
      first | exact b2_td (by omega) | exact b2_fd (by omega)
theorem c_X9_isTurn {N : Nat} {I : MI} {J : MJ} {u : Int}  : CT 101 [aR 0, aI u] (MM N I J) (pure1 N I J (aI (b2 (decide (0 ≤ u ∧ u ≤ I 10 13))))) := by
  refine CT.ofV (n := 2) (ls := [some (aR 0), some (aI u)]) rfl rfl rfl ?_
  refine V.blk [(0, .iload 1, 1), (1, .ifCond .lt 19, 3)] (ps := []) (z' := (brc .lt u 0 19 4, [some (aR 0), some (aI u)], [], MM N I J)) (by decide +kernel) rfl trivial ?_
  refine V.lt (fun h1 => ?_) (fun h2 => ?_)
  · skip
    try simp only [b2_cast, b2_ncast, Classical.not_not] at h1
    refine V.blk [(19, .bipush 0, 1)] (ps := []) (z' := (20, [some (aR 0), some (aI u)], [aI 0], MM N I J)) (by decide +kernel) rfl trivial ?_
    refine V.rz (by decide +kernel) (by first | exact b2_in _ | omega) ?_
    refine ⟨congrArg (fun w => some (aI w)) ?_, rfl⟩
    first | exact b2_td (by omega) | exact b2_fd (by omega)
  · skip
    try simp only [b2_cast, b2_ncast, Classical.not_not] at h2
    refine V.blk [(4, .iload 1, 1), (5, .aload 0, 1), (6, .getfield 9002, 3), (9, .getfield 3013, 3), (12, .if_icmp .gt 19, 3)] (ps := []) (z' := (brc .gt u (I 10 13) 19 15, [some (aR 0), some (aI u)], [], MM N I J)) (by decide +kernel) rfl trivial ?_
    refine V.gt (fun h3 => ?_) (fun h4 => ?_)
    · skip
      try simp only [b2_cast, b2_ncast, Classical.not_not] at h3
      refine V.blk [(19, .bipush 0, 1)] (ps := []) (z' := (20, [some (aR 0), some (aI u)], [aI 0], MM N I J)) (by decide +kernel) rfl trivial ?_
      refine V.rz (by decide +kernel) (by first | exact b2_in _ | omega) ?_
      refine ⟨congrArg (fun w => some (aI w)) ?_, rfl⟩
      first | exact b2_td (by omega) | exact b2_fd (by omega)
    · skip
      try simp only [b2_cast, b2_ncast, Classical.not_not] at h4
      refine V.blk [(15, .bipush 1, 1), (16, .goto 20, 3)] (ps := []) (z' := (20, [some (aR 0), some (aI u)], [aI 1], MM N I J)) (by decide +kernel) rfl trivial ?_
      refine V.rz (by decide +kernel) (by first | exact b2_in _ | omega) ?_
      refine ⟨congrArg (fun w => some (aI w)) ?_, rfl⟩
      first | exact b2_td (by omega) | exact b2_fd (by omega)
theorem c_X9_isSearch {N : Nat} {I : MI} {J : MJ} {u v w t : Int}  : CT 102 [aR 0, aI u, aI v, aI w, aI t] (MM N I J) (pure1 N I J (aI (b2 (decide (0 ≤ u ∧ u < 6 ∧ 0 ≤ v ∧ v < 8 ∧ 0 ≤ w ∧ w < 40 ∧ 0 ≤ t ∧ t ≤ I 10 13))))) := by
  refine CT.ofV (n := 5) (ls := [some (aR 0), some (aI u), some (aI v), some (aI w), some (aI t)]) rfl rfl rfl ?_
  refine V.blk [(0, .iload 1, 1), (1, .bipush 6, 2)] (ps := []) (z' := (3, [some (aR 0), some (aI u), some (aI v), some (aI w), some (aI t)], [aI 6, aI u], MM N I J)) (by decide +kernel) rfl trivial ?_
  refine V.cs (c := 103) (na := 2) [aI 6, aI u] [] (by decide +kernel) rfl rfl (V.pr (c_X9_within) ?_)
  show V 102 (6, [some (aR 0), some (aI u), some (aI v), some (aI w), some (aI t)], [aI (b2 (decide (0 ≤ u ∧ u < 6)))], MM N I J) _
  refine V.blk [(6, .ifCond .eq 40, 3)] (ps := []) (z' := (brc .eq (b2 (decide (0 ≤ u ∧ u < 6))) 0 40 9, [some (aR 0), some (aI u), some (aI v), some (aI w), some (aI t)], [], MM N I J)) (by decide +kernel) rfl trivial ?_
  refine V.eq (fun h1 => ?_) (fun h2 => ?_)
  · skip
    try simp only [b2_cast, b2_ncast, Classical.not_not] at h1
    refine V.blk [(40, .bipush 0, 1)] (ps := []) (z' := (41, [some (aR 0), some (aI u), some (aI v), some (aI w), some (aI t)], [aI 0], MM N I J)) (by decide +kernel) rfl trivial ?_
    refine V.rz (by decide +kernel) (by first | exact b2_in _ | omega) ?_
    refine ⟨congrArg (fun w => some (aI w)) ?_, rfl⟩
    first | exact b2_td (by omega) | exact b2_fd (by omega)
  · skip
    try simp only [b2_cast, b2_ncast, Classical.not_not] at h2
    refine V.blk [(9, .iload 2, 1), (10, .bipush 8, 2)] (ps := []) (z' := (12, [some (aR 0), some (aI u), some (aI v), some (aI w), some (aI t)], [aI 8, aI v], MM N I J)) (by decide +kernel) rfl trivial ?_
    refine V.cs (c := 103) (na := 2) [aI 8, aI v] [] (by decide +kernel) rfl rfl (V.pr (c_X9_within) ?_)
    show V 102 (15, [some (aR 0), some (aI u), some (aI v), some (aI w), some (aI t)], [aI (b2 (decide (0 ≤ v ∧ v < 8)))], MM N I J) _
    refine V.blk [(15, .ifCond .eq 40, 3)] (ps := []) (z' := (brc .eq (b2 (decide (0 ≤ v ∧ v < 8))) 0 40 18, [some (aR 0), some (aI u), some (aI v), some (aI w), some (aI t)], [], MM N I J)) (by decide +kernel) rfl trivial ?_
    refine V.eq (fun h3 => ?_) (fun h4 => ?_)
    · skip
      try simp only [b2_cast, b2_ncast, Classical.not_not] at h3
      refine V.blk [(40, .bipush 0, 1)] (ps := []) (z' := (41, [some (aR 0), some (aI u), some (aI v), some (aI w), some (aI t)], [aI 0], MM N I J)) (by decide +kernel) rfl trivial ?_
      refine V.rz (by decide +kernel) (by first | exact b2_in _ | omega) ?_
      refine ⟨congrArg (fun w => some (aI w)) ?_, rfl⟩
      first | exact b2_td (by omega) | exact b2_fd (by omega)
    · skip
      try simp only [b2_cast, b2_ncast, Classical.not_not] at h4
      refine V.blk [(18, .iload 3, 1), (19, .bipush 40, 2)] (ps := []) (z' := (21, [some (aR 0), some (aI u), some (aI v), some (aI w), some (aI t)], [aI 40, aI w], MM N I J)) (by decide +kernel) rfl trivial ?_
      refine V.cs (c := 103) (na := 2) [aI 40, aI w] [] (by decide +kernel) rfl rfl (V.pr (c_X9_within) ?_)
      show V 102 (24, [some (aR 0), some (aI u), some (aI v), some (aI w), some (aI t)], [aI (b2 (decide (0 ≤ w ∧ w < 40)))], MM N I J) _
      refine V.blk [(24, .ifCond .eq 40, 3)] (ps := []) (z' := (brc .eq (b2 (decide (0 ≤ w ∧ w < 40))) 0 40 27, [some (aR 0), some (aI u), some (aI v), some (aI w), some (aI t)], [], MM N I J)) (by decide +kernel) rfl trivial ?_
      refine V.eq (fun h5 => ?_) (fun h6 => ?_)
      · skip
        try simp only [b2_cast, b2_ncast, Classical.not_not] at h5
        refine V.blk [(40, .bipush 0, 1)] (ps := []) (z' := (41, [some (aR 0), some (aI u), some (aI v), some (aI w), some (aI t)], [aI 0], MM N I J)) (by decide +kernel) rfl trivial ?_
        refine V.rz (by decide +kernel) (by first | exact b2_in _ | omega) ?_
        refine ⟨congrArg (fun w => some (aI w)) ?_, rfl⟩
        first | exact b2_td (by omega) | exact b2_fd (by omega)
      · skip
        try simp only [b2_cast, b2_ncast, Classical.not_not] at h6
        refine V.blk [(27, .aload 0, 1), (28, .iload 4, 2)] (ps := []) (z' := (30, [some (aR 0), some (aI u), some (aI v), some (aI w), some (aI t)], [aI t, aR 0], MM N I J)) (by decide +kernel) rfl trivial ?_
        refine V.cv (c := 101) (na := 2) (o := 9) (a := 0) [aI t] [] (by decide +kernel) rfl rfl rfl rfl rfl (V.pr (c_X9_isTurn) ?_)
        show V 102 (33, [some (aR 0), some (aI u), some (aI v), some (aI w), some (aI t)], [aI (b2 (decide (0 ≤ t ∧ t ≤ I 10 13)))], MM N I J) _
        refine V.blk [(33, .ifCond .eq 40, 3)] (ps := []) (z' := (brc .eq (b2 (decide (0 ≤ t ∧ t ≤ I 10 13))) 0 40 36, [some (aR 0), some (aI u), some (aI v), some (aI w), some (aI t)], [], MM N I J)) (by decide +kernel) rfl trivial ?_
        refine V.eq (fun h7 => ?_) (fun h8 => ?_)
        · skip
          try simp only [b2_cast, b2_ncast, Classical.not_not] at h7
          refine V.blk [(40, .bipush 0, 1)] (ps := []) (z' := (41, [some (aR 0), some (aI u), some (aI v), some (aI w), some (aI t)], [aI 0], MM N I J)) (by decide +kernel) rfl trivial ?_
          refine V.rz (by decide +kernel) (by first | exact b2_in _ | omega) ?_
          refine ⟨congrArg (fun w => some (aI w)) ?_, rfl⟩
          first | exact b2_td (by omega) | exact b2_fd (by omega)
        · skip
          try simp only [b2_cast, b2_ncast, Classical.not_not] at h8
          refine V.blk [(36, .bipush 1, 1), (37, .goto 41, 3)] (ps := []) (z' := (41, [some (aR 0), some (aI u), some (aI v), some (aI w), some (aI t)], [aI 1], MM N I J)) (by decide +kernel) rfl trivial ?_
          refine V.rz (by decide +kernel) (by first | exact b2_in _ | omega) ?_
          refine ⟨congrArg (fun w => some (aI w)) ?_, rfl⟩
          first | exact b2_td (by omega) | exact b2_fd (by omega)
theorem c_X8_hasUser {N : Nat} {I : MI} {J : MJ} {u : Int} (hu : inR u) : CT 63 [aR 1, aI u] (MM N I J) (pure1 N I J (aI (b2 (decide (isUsr (I 1 1) u))))) := by
  refine CT.ofV (n := 2) (ls := [some (aR 1), some (aI u)]) rfl rfl rfl ?_
  have hu9 := hu
  unfold inR at hu9
  refine V.blk [(0, .iload 1, 1)] (ps := []) (z' := (1, [some (aR 1), some (aI u)], [aI u], MM N I J)) (by decide +kernel) rfl trivial ?_
  refine V.cs (c := 111) (na := 1) [aI u] [] (by decide +kernel) rfl rfl (V.pr (c_X9_isClub) ?_)
  show V 63 (4, [some (aR 1), some (aI u)], [aI (b2 (decide (1000 ≤ u)))], MM N I J) _
  refine V.blk [(4, .ifCond .eq 39, 3)] (ps := []) (z' := (brc .eq (b2 (decide (1000 ≤ u))) 0 39 7, [some (aR 1), some (aI u)], [], MM N I J)) (by decide +kernel) rfl trivial ?_
  refine V.eq (fun h1 => ?_) (fun h2 => ?_)
  · skip
    try simp only [b2_cast, b2_ncast, Classical.not_not] at h1
    refine V.blk [(39, .iload 1, 1)] (ps := []) (z' := (40, [some (aR 1), some (aI u)], [aI u], MM N I J)) (by decide +kernel) rfl trivial ?_
    refine V.cs (c := 110) (na := 1) [aI u] [] (by decide +kernel) rfl rfl (V.pr (c_X9_isThingUser) ?_)
    show V 63 (43, [some (aR 1), some (aI u)], [aI (b2 (decide (100 ≤ u ∧ u < 1000)))], MM N I J) _
    refine V.blk [(43, .ifCond .eq 60, 3)] (ps := []) (z' := (brc .eq (b2 (decide (100 ≤ u ∧ u < 1000))) 0 60 46, [some (aR 1), some (aI u)], [], MM N I J)) (by decide +kernel) rfl trivial ?_
    refine V.eq (fun h3 => ?_) (fun h4 => ?_)
    · skip
      try simp only [b2_cast, b2_ncast, Classical.not_not] at h3
      refine V.blk [(60, .iload 1, 1), (61, .bipush 40, 2)] (ps := []) (z' := (63, [some (aR 1), some (aI u)], [aI 40, aI u], MM N I J)) (by decide +kernel) rfl trivial ?_
      refine V.cs (c := 103) (na := 2) [aI 40, aI u] [] (by decide +kernel) rfl rfl (V.pr (c_X9_within) ?_)
      show V 63 (66, [some (aR 1), some (aI u)], [aI (b2 (decide (0 ≤ u ∧ u < 40)))], MM N I J) _
      refine V.rz (by decide +kernel) (by first | exact b2_in _ | omega) ?_
      refine ⟨congrArg (fun w => some (aI w)) ?_, rfl⟩
      unfold inR at hu
      first | (refine b2_td ?_; simp only [isUsr]; omega) | (refine b2_fd ?_; simp only [isUsr]; omega) | (refine b2_dc ?_; simp only [isUsr]; omega)
    · skip
      try simp only [b2_cast, b2_ncast, Classical.not_not] at h4
      refine V.blk [(46, .iload 1, 1), (47, .bipush 100, 2), (49, .isub, 1), (50, .aload 0, 1), (51, .getfield 8001, 3)] (ps := [inR (u - 100)]) (z' := (54, [some (aR 1), some (aI u)], [aI (I 1 1), aI (u - 100)], MM N I J)) (by decide +kernel) rfl (show (inR (u - 100)) from (by unfold inR; omega)) ?_
      refine V.cs (c := 103) (na := 2) [aI (I 1 1), aI (u - 100)] [] (by decide +kernel) rfl rfl (V.pr (c_X9_within) ?_)
      show V 63 (57, [some (aR 1), some (aI u)], [aI (b2 (decide (0 ≤ (u - 100) ∧ (u - 100) < (I 1 1))))], MM N I J) _
      refine V.blk [(57, .goto 66, 3)] (ps := []) (z' := (66, [some (aR 1), some (aI u)], [aI (b2 (decide (0 ≤ (u - 100) ∧ (u - 100) < (I 1 1))))], MM N I J)) (by decide +kernel) rfl trivial ?_
      refine V.rz (by decide +kernel) (by first | exact b2_in _ | omega) ?_
      refine ⟨congrArg (fun w => some (aI w)) ?_, rfl⟩
      unfold inR at hu
      first | (refine b2_td ?_; simp only [isUsr]; omega) | (refine b2_fd ?_; simp only [isUsr]; omega) | (refine b2_dc ?_; simp only [isUsr]; omega)
  · skip
    try simp only [b2_cast, b2_ncast, Classical.not_not] at h2
    refine V.blk [(7, .iload 1, 1)] (ps := []) (z' := (8, [some (aR 1), some (aI u)], [aI u], MM N I J)) (by decide +kernel) rfl trivial ?_
    refine V.cs (c := 112) (na := 1) [aI u] [] (by decide +kernel) rfl rfl (V.pr (c_X9_clubThing (by omega)) ?_)
    show V 63 (11, [some (aR 1), some (aI u)], [aI ((u - 1000) / 10)], MM N I J) _
    refine V.blk [(11, .aload 0, 1), (12, .getfield 8001, 3)] (ps := []) (z' := (15, [some (aR 1), some (aI u)], [aI (I 1 1), aI ((u - 1000) / 10)], MM N I J)) (by decide +kernel) rfl trivial ?_
    refine V.cs (c := 103) (na := 2) [aI (I 1 1), aI ((u - 1000) / 10)] [] (by decide +kernel) rfl rfl (V.pr (c_X9_within) ?_)
    show V 63 (18, [some (aR 1), some (aI u)], [aI (b2 (decide (0 ≤ ((u - 1000) / 10) ∧ ((u - 1000) / 10) < (I 1 1))))], MM N I J) _
    refine V.blk [(18, .ifCond .eq 37, 3)] (ps := []) (z' := (brc .eq (b2 (decide (0 ≤ ((u - 1000) / 10) ∧ ((u - 1000) / 10) < (I 1 1)))) 0 37 21, [some (aR 1), some (aI u)], [], MM N I J)) (by decide +kernel) rfl trivial ?_
    refine V.eq (fun h5 => ?_) (fun h6 => ?_)
    · skip
      try simp only [b2_cast, b2_ncast, Classical.not_not] at h5
      refine V.blk [(37, .bipush 0, 1)] (ps := []) (z' := (38, [some (aR 1), some (aI u)], [aI 0], MM N I J)) (by decide +kernel) rfl trivial ?_
      refine V.rz (by decide +kernel) (by first | exact b2_in _ | omega) ?_
      refine ⟨congrArg (fun w => some (aI w)) ?_, rfl⟩
      unfold inR at hu
      first | (refine b2_td ?_; simp only [isUsr]; omega) | (refine b2_fd ?_; simp only [isUsr]; omega) | (refine b2_dc ?_; simp only [isUsr]; omega)
    · skip
      try simp only [b2_cast, b2_ncast, Classical.not_not] at h6
      refine V.blk [(21, .iload 1, 1)] (ps := []) (z' := (22, [some (aR 1), some (aI u)], [aI u], MM N I J)) (by decide +kernel) rfl trivial ?_
      refine V.cs (c := 113) (na := 1) [aI u] [] (by decide +kernel) rfl rfl (V.pr (c_X9_clubRelation (by omega)) ?_)
      show V 63 (25, [some (aR 1), some (aI u)], [aI ((u - 1000) % 10)], MM N I J) _
      refine V.blk [(25, .bipush 8, 2)] (ps := []) (z' := (27, [some (aR 1), some (aI u)], [aI 8, aI ((u - 1000) % 10)], MM N I J)) (by decide +kernel) rfl trivial ?_
      refine V.cs (c := 103) (na := 2) [aI 8, aI ((u - 1000) % 10)] [] (by decide +kernel) rfl rfl (V.pr (c_X9_within) ?_)
      show V 63 (30, [some (aR 1), some (aI u)], [aI (b2 (decide (0 ≤ ((u - 1000) % 10) ∧ ((u - 1000) % 10) < 8)))], MM N I J) _
      refine V.blk [(30, .ifCond .eq 37, 3)] (ps := []) (z' := (brc .eq (b2 (decide (0 ≤ ((u - 1000) % 10) ∧ ((u - 1000) % 10) < 8))) 0 37 33, [some (aR 1), some (aI u)], [], MM N I J)) (by decide +kernel) rfl trivial ?_
      refine V.eq (fun h7 => ?_) (fun h8 => ?_)
      · skip
        try simp only [b2_cast, b2_ncast, Classical.not_not] at h7
        refine V.blk [(37, .bipush 0, 1)] (ps := []) (z' := (38, [some (aR 1), some (aI u)], [aI 0], MM N I J)) (by decide +kernel) rfl trivial ?_
        refine V.rz (by decide +kernel) (by first | exact b2_in _ | omega) ?_
        refine ⟨congrArg (fun w => some (aI w)) ?_, rfl⟩
        unfold inR at hu
        first | (refine b2_td ?_; simp only [isUsr]; omega) | (refine b2_fd ?_; simp only [isUsr]; omega) | (refine b2_dc ?_; simp only [isUsr]; omega)
      · skip
        try simp only [b2_cast, b2_ncast, Classical.not_not] at h8
        refine V.blk [(33, .bipush 1, 1), (34, .goto 38, 3)] (ps := []) (z' := (38, [some (aR 1), some (aI u)], [aI 1], MM N I J)) (by decide +kernel) rfl trivial ?_
        refine V.rz (by decide +kernel) (by first | exact b2_in _ | omega) ?_
        refine ⟨congrArg (fun w => some (aI w)) ?_, rfl⟩
        unfold inR at hu
        first | (refine b2_td ?_; simp only [isUsr]; omega) | (refine b2_fd ?_; simp only [isUsr]; omega) | (refine b2_dc ?_; simp only [isUsr]; omega)
theorem inR_abs {z : Int} (h : inR z) : -2147483648 ≤ z ∧ z ≤ 2147483647 := h
theorem c_X8_add {N : Nat} {I : MI} {J : MJ} {k : Int} (h : 0 ≤ I 1 1 ∧ I 1 1 < 40) : CT 61 [aR 1, aI k] (MM N I J) (QU N J (aI (I 1 1)) (ma (ma I 2 (ma (I 2) (I 1 1).toNat k)) 1 (ma (I 1) 1 (I 1 1 + 1)))) := by
  refine CT.ofV (n := 2) (ls := [some (aR 1), some (aI k)]) rfl rfl rfl ?_
  refine V.blk [(0, .aload 0, 1), (1, .getfield 8001, 3), (4, .bipush 40, 2), (6, .if_icmp .ge 29, 3)] (ps := []) (z' := (brc .ge (I 1 1) 40 29 9, [some (aR 1), some (aI k)], [], MM N I J)) (by decide +kernel) rfl trivial ?_
  refine V.ge (fun h1 => ?_) (fun h2 => ?_)
  · skip
    try simp only [b2_cast, b2_ncast, Classical.not_not] at h1
    refine V.blk [(29, .aload 0, 1), (30, .getfield 8001, 3), (33, .bipush 1, 1), (34, .isub, 1)] (ps := [inR ((I 1 1) - 1)]) (z' := (35, [some (aR 1), some (aI k)], [aI ((I 1 1) - 1)], MM N I J)) (by decide +kernel) rfl (show (inR ((I 1 1) - 1)) from (by unfold inR; first | omega | (simp [ma]; omega))) ?_
    refine V.ri (by decide +kernel) ?_
    exfalso; omega
  · skip
    try simp only [b2_cast, b2_ncast, Classical.not_not] at h2
    refine V.blk [(9, .aload 0, 1), (10, .getfield 8000, 3), (13, .aload 0, 1), (14, .getfield 8001, 3), (17, .iload 1, 1), (18, .iastore, 1), (19, .aload 0, 1), (20, .dup, 1), (21, .getfield 8001, 3), (24, .bipush 1, 1), (25, .iadd, 1), (26, .putfield 8001, 3), (29, .aload 0, 1), (30, .getfield 8001, 3), (33, .bipush 1, 1), (34, .isub, 1)] (ps := [0 ≤ (I 1 1) ∧ (I 1 1) < 40, inR (((ma I 2 (ma (I 2) ((I 1 1).toNat) k)) 1 1) + 1), inR (((ma (ma I 2 (ma (I 2) ((I 1 1).toNat) k)) 1 (ma ((ma I 2 (ma (I 2) ((I 1 1).toNat) k)) 1) 1 (((ma I 2 (ma (I 2) ((I 1 1).toNat) k)) 1 1) + 1))) 1 1) - 1)]) (z' := (35, [some (aR 1), some (aI k)], [aI (((ma (ma I 2 (ma (I 2) ((I 1 1).toNat) k)) 1 (ma ((ma I 2 (ma (I 2) ((I 1 1).toNat) k)) 1) 1 (((ma I 2 (ma (I 2) ((I 1 1).toNat) k)) 1 1) + 1))) 1 1) - 1)], MM N (ma (ma I 2 (ma (I 2) ((I 1 1).toNat) k)) 1 (ma ((ma I 2 (ma (I 2) ((I 1 1).toNat) k)) 1) 1 (((ma I 2 (ma (I 2) ((I 1 1).toNat) k)) 1 1) + 1))) J)) (by decide +kernel) rfl (show (0 ≤ (I 1 1) ∧ (I 1 1) < 40) ∧ (inR (((ma I 2 (ma (I 2) ((I 1 1).toNat) k)) 1 1) + 1)) ∧ (inR (((ma (ma I 2 (ma (I 2) ((I 1 1).toNat) k)) 1 (ma ((ma I 2 (ma (I 2) ((I 1 1).toNat) k)) 1) 1 (((ma I 2 (ma (I 2) ((I 1 1).toNat) k)) 1 1) + 1))) 1 1) - 1)) from ⟨(by first | omega | (simp [ma]; omega)), (by unfold inR; first | omega | (simp [ma]; omega)), (by unfold inR; first | omega | (simp [ma]; omega))⟩) ?_
    refine V.nI (fun I3 eI3 => ?_)
    refine V.ri (by decide +kernel) ?_
    refine ⟨congrArg (fun w => some (aI w)) ?_, congrArg (fun w => MM N w J) ?_⟩
    · subst eI3; simp [ma]
    · subst eI3; simp [ma]
def thingA (I : MI) (k : Int) : Int := if 0 ≤ k ∧ k < 6 then (if I 1 1 < 40 then I 1 1 else -9) else -3
def thingU (I : MI) (k : Int) : MI := if 0 ≤ k ∧ k < 6 then (if I 1 1 < 40 then ma (ma I 2 (ma (I 2) (I 1 1).toNat k)) 1 (ma (I 1) 1 (I 1 1 + 1)) else rfU I (-9)) else rfU I (-3)
theorem c_X9_thing {N : Nat} {I : MI} {J : MJ} {k : Int} (hr : Rf I) (h1 : 0 ≤ I 1 1) : CT 65 [aR 0, aI k] (MM N I J) (QU N J (aI (thingA I k)) (thingU I k)) := by
  refine CT.ofV (n := 2) (ls := [some (aR 0), some (aI k)]) rfl rfl rfl ?_
  refine V.blk [(0, .iload 1, 1), (1, .bipush 6, 2)] (ps := []) (z' := (3, [some (aR 0), some (aI k)], [aI 6, aI k], MM N I J)) (by decide +kernel) rfl trivial ?_
  refine V.cs (c := 103) (na := 2) [aI 6, aI k] [] (by decide +kernel) rfl rfl (V.pr (c_X9_within) ?_)
  show V 65 (6, [some (aR 0), some (aI k)], [aI (b2 (decide (0 ≤ k ∧ k < 6)))], MM N I J) _
  refine V.blk [(6, .ifCond .ne 16, 3)] (ps := []) (z' := (brc .ne (b2 (decide (0 ≤ k ∧ k < 6))) 0 16 9, [some (aR 0), some (aI k)], [], MM N I J)) (by decide +kernel) rfl trivial ?_
  refine V.ne (fun h1 => ?_) (fun h2 => ?_)
  · skip
    try simp only [b2_cast, b2_ncast, Classical.not_not] at h1
    refine V.blk [(16, .aload 0, 1), (17, .getfield 9000, 3), (20, .getfield 8001, 3), (23, .bipush 40, 2), (25, .if_icmp .lt 35, 3)] (ps := []) (z' := (brc .lt (I 1 1) 40 35 28, [some (aR 0), some (aI k)], [], MM N I J)) (by decide +kernel) rfl trivial ?_
    refine V.lt (fun h3 => ?_) (fun h4 => ?_)
    · skip
      try simp only [b2_cast, b2_ncast, Classical.not_not] at h3
      refine V.blk [(35, .aload 0, 1), (36, .getfield 9000, 3), (39, .iload 1, 1)] (ps := []) (z' := (40, [some (aR 0), some (aI k)], [aI k, aR 1], MM N I J)) (by decide +kernel) rfl trivial ?_
      refine V.cv (c := 61) (na := 2) (o := 8) (a := 1) [aI k] [] (by decide +kernel) rfl rfl rfl rfl rfl ((c_X8_add (by omega)).mono (fun rv M1 q => ?_))
      obtain ⟨rfl, rfl⟩ := q
      show V 65 (43, [some (aR 0), some (aI k)], [aI (I 1 1)], MM N ((ma (ma I 2 (ma (I 2) (I 1 1).toNat k)) 1 (ma (I 1) 1 (I 1 1 + 1)))) J) _
      refine V.nI (fun I5 eI5 => ?_)
      refine V.ri (by decide +kernel) ?_
      refine ⟨congrArg (fun w => some (aI w)) ?_, congrArg (fun w => MM N w J) ?_⟩
      subst eI5
      all_goals (first | unfold thingA | unfold thingU)
      all_goals (repeat' split)
      all_goals first | rfl | omega | (exfalso; omega)
    · skip
      try simp only [b2_cast, b2_ncast, Classical.not_not] at h4
      refine V.blk [(28, .aload 0, 1), (29, .bipush (-9), 2)] (ps := []) (z' := (31, [some (aR 0), some (aI k)], [aI (-9), aR 0], MM N I J)) (by decide +kernel) rfl trivial ?_
      refine V.cv (c := 98) (na := 2) (o := 9) (a := 0) [aI (-9)] [] (by decide +kernel) rfl rfl rfl rfl rfl ((c_refuse (by assumption) (by omega)).mono (fun rv M1 q => ?_))
      obtain ⟨rfl, rfl⟩ := q
      show V 65 (34, [some (aR 0), some (aI k)], [aI (-9)], MM N ((rfU I (-9))) J) _
      refine V.nI (fun I6 eI6 => ?_)
      refine V.ri (by decide +kernel) ?_
      refine ⟨congrArg (fun w => some (aI w)) ?_, congrArg (fun w => MM N w J) ?_⟩
      subst eI6
      all_goals (first | unfold thingA | unfold thingU)
      all_goals (repeat' split)
      all_goals first | rfl | omega | (exfalso; omega)
  · skip
    try simp only [b2_cast, b2_ncast, Classical.not_not] at h2
    refine V.blk [(9, .aload 0, 1), (10, .bipush (-3), 2)] (ps := []) (z' := (12, [some (aR 0), some (aI k)], [aI (-3), aR 0], MM N I J)) (by decide +kernel) rfl trivial ?_
    refine V.cv (c := 98) (na := 2) (o := 9) (a := 0) [aI (-3)] [] (by decide +kernel) rfl rfl rfl rfl rfl ((c_refuse (by assumption) (by omega)).mono (fun rv M1 q => ?_))
    obtain ⟨rfl, rfl⟩ := q
    show V 65 (15, [some (aR 0), some (aI k)], [aI (-3)], MM N ((rfU I (-3))) J) _
    refine V.nI (fun I7 eI7 => ?_)
    refine V.ri (by decide +kernel) ?_
    refine ⟨congrArg (fun w => some (aI w)) ?_, congrArg (fun w => MM N w J) ?_⟩
    subst eI7
    all_goals (first | unfold thingA | unfold thingU)
    all_goals (repeat' split)
    all_goals first | rfl | omega | (exfalso; omega)
def holdsA (I : MI) (p : Int) : Int := if 0 ≤ p ∧ p < 64 then I 4 p.toNat else -3
def holdsU (I : MI) (p : Int) : MI := if 0 ≤ p ∧ p < 64 then I else rfU I (-3)
theorem c_X9_holds {N : Nat} {I : MI} {J : MJ} {p : Int} (hr : Rf I) : CT 69 [aR 0, aI p] (MM N I J) (QU N J (aI (holdsA I p)) (holdsU I p)) := by
  refine CT.ofV (n := 2) (ls := [some (aR 0), some (aI p)]) rfl rfl rfl ?_
  refine V.blk [(0, .iload 1, 1), (1, .bipush 64, 2)] (ps := []) (z' := (3, [some (aR 0), some (aI p)], [aI 64, aI p], MM N I J)) (by decide +kernel) rfl trivial ?_
  refine V.cs (c := 103) (na := 2) [aI 64, aI p] [] (by decide +kernel) rfl rfl (V.pr (c_X9_within) ?_)
  show V 69 (6, [some (aR 0), some (aI p)], [aI (b2 (decide (0 ≤ p ∧ p < 64)))], MM N I J) _
  refine V.blk [(6, .ifCond .ne 16, 3)] (ps := []) (z' := (brc .ne (b2 (decide (0 ≤ p ∧ p < 64))) 0 16 9, [some (aR 0), some (aI p)], [], MM N I J)) (by decide +kernel) rfl trivial ?_
  refine V.ne (fun h1 => ?_) (fun h2 => ?_)
  · skip
    try simp only [b2_cast, b2_ncast, Classical.not_not] at h1
    refine V.blk [(16, .aload 0, 1), (17, .getfield 9001, 3), (20, .getfield 6000, 3), (23, .iload 1, 1), (24, .iaload, 1)] (ps := [0 ≤ p ∧ p < 64]) (z' := (25, [some (aR 0), some (aI p)], [aI (I 4 ((p).toNat))], MM N I J)) (by decide +kernel) rfl (show (0 ≤ p ∧ p < 64) from (by omega)) ?_
    refine V.ri (by decide +kernel) ?_
    refine ⟨congrArg (fun w => some (aI w)) ?_, congrArg (fun w => MM N w J) ?_⟩
    all_goals (first | unfold holdsA | unfold holdsU)
    all_goals (repeat' split)
    all_goals first | rfl | omega | (exfalso; omega)
  · skip
    try simp only [b2_cast, b2_ncast, Classical.not_not] at h2
    refine V.blk [(9, .aload 0, 1), (10, .bipush (-3), 2)] (ps := []) (z' := (12, [some (aR 0), some (aI p)], [aI (-3), aR 0], MM N I J)) (by decide +kernel) rfl trivial ?_
    refine V.cv (c := 98) (na := 2) (o := 9) (a := 0) [aI (-3)] [] (by decide +kernel) rfl rfl rfl rfl rfl ((c_refuse (by assumption) (by omega)).mono (fun rv M1 q => ?_))
    obtain ⟨rfl, rfl⟩ := q
    show V 69 (15, [some (aR 0), some (aI p)], [aI (-3)], MM N ((rfU I (-3))) J) _
    refine V.nI (fun I3 eI3 => ?_)
    refine V.ri (by decide +kernel) ?_
    refine ⟨congrArg (fun w => some (aI w)) ?_, congrArg (fun w => MM N w J) ?_⟩
    subst eI3
    all_goals (first | unfold holdsA | unfold holdsU)
    all_goals (repeat' split)
    all_goals first | rfl | omega | (exfalso; omega)
def asksA (I : MI) (p w : Int) : Int := if 0 ≤ p ∧ p < 64 then (if I 4 p.toNat = -1 then -2 else if I 4 p.toNat = 7 then -5 else if w = 0 then I 5 p.toNat else if w = 1 then I 6 p.toNat else -8) else -3
def asksU (I : MI) (p w : Int) : MI := if 0 ≤ p ∧ p < 64 then (if I 4 p.toNat = -1 then rfU I (-2) else if I 4 p.toNat = 7 then rfU I (-5) else if w = 0 then I else if w = 1 then I else rfU I (-8)) else rfU I (-3)
theorem c_X9_asks {N : Nat} {I : MI} {J : MJ} {p w : Int} (hr : Rf I) : CT 70 [aR 0, aI p, aI w] (MM N I J) (QU N J (aI (asksA I p w)) (asksU I p w)) := by
  refine CT.ofV (n := 3) (ls := [some (aR 0), some (aI p), some (aI w)]) rfl rfl rfl ?_
  refine V.blk [(0, .iload 1, 1), (1, .bipush 64, 2)] (ps := []) (z' := (3, [some (aR 0), some (aI p), some (aI w)], [aI 64, aI p], MM N I J)) (by decide +kernel) rfl trivial ?_
  refine V.cs (c := 103) (na := 2) [aI 64, aI p] [] (by decide +kernel) rfl rfl (V.pr (c_X9_within) ?_)
  show V 70 (6, [some (aR 0), some (aI p), some (aI w)], [aI (b2 (decide (0 ≤ p ∧ p < 64)))], MM N I J) _
  refine V.blk [(6, .ifCond .ne 16, 3)] (ps := []) (z' := (brc .ne (b2 (decide (0 ≤ p ∧ p < 64))) 0 16 9, [some (aR 0), some (aI p), some (aI w)], [], MM N I J)) (by decide +kernel) rfl trivial ?_
  refine V.ne (fun h1 => ?_) (fun h2 => ?_)
  · skip
    try simp only [b2_cast, b2_ncast, Classical.not_not] at h1
    refine V.blk [(16, .aload 0, 1), (17, .getfield 9001, 3), (20, .getfield 6000, 3), (23, .iload 1, 1), (24, .iaload, 1), (25, .bipush (-1), 1), (26, .if_icmp .ne 36, 3)] (ps := [0 ≤ p ∧ p < 64]) (z' := (brc .ne (I 4 ((p).toNat)) (-1) 36 29, [some (aR 0), some (aI p), some (aI w)], [], MM N I J)) (by decide +kernel) rfl (show (0 ≤ p ∧ p < 64) from (by omega)) ?_
    refine V.ne (fun h3 => ?_) (fun h4 => ?_)
    · skip
      try simp only [b2_cast, b2_ncast, Classical.not_not] at h3
      refine V.blk [(36, .aload 0, 1), (37, .getfield 9001, 3), (40, .getfield 6000, 3), (43, .iload 1, 1), (44, .iaload, 1), (45, .bipush 7, 2), (47, .if_icmp .ne 57, 3)] (ps := [0 ≤ p ∧ p < 64]) (z' := (brc .ne (I 4 ((p).toNat)) 7 57 50, [some (aR 0), some (aI p), some (aI w)], [], MM N I J)) (by decide +kernel) rfl (show (0 ≤ p ∧ p < 64) from (by omega)) ?_
      refine V.ne (fun h5 => ?_) (fun h6 => ?_)
      · skip
        try simp only [b2_cast, b2_ncast, Classical.not_not] at h5
        refine V.blk [(57, .iload 2, 1), (58, .ifCond .eq 73, 3)] (ps := []) (z' := (brc .eq w 0 73 61, [some (aR 0), some (aI p), some (aI w)], [], MM N I J)) (by decide +kernel) rfl trivial ?_
        refine V.eq (fun h7 => ?_) (fun h8 => ?_)
        · skip
          try simp only [b2_cast, b2_ncast, Classical.not_not] at h7
          refine V.blk [(73, .iload 2, 1), (74, .ifCond .ne 89, 3)] (ps := []) (z' := (brc .ne w 0 89 77, [some (aR 0), some (aI p), some (aI w)], [], MM N I J)) (by decide +kernel) rfl trivial ?_
          refine V.ne (fun h9 => ?_) (fun h10 => ?_)
          · skip
            try simp only [b2_cast, b2_ncast, Classical.not_not] at h9
            refine V.blk [(89, .aload 0, 1), (90, .getfield 9001, 3), (93, .getfield 6002, 3), (96, .iload 1, 1), (97, .iaload, 1)] (ps := [0 ≤ p ∧ p < 64]) (z' := (98, [some (aR 0), some (aI p), some (aI w)], [aI (I 6 ((p).toNat))], MM N I J)) (by decide +kernel) rfl (show (0 ≤ p ∧ p < 64) from (by omega)) ?_
            refine V.ri (by decide +kernel) ?_
            refine ⟨congrArg (fun w => some (aI w)) ?_, congrArg (fun w => MM N w J) ?_⟩
            all_goals (first | unfold asksA | unfold asksU)
            all_goals (repeat' split)
            all_goals first | rfl | omega | (exfalso; omega)
          · skip
            try simp only [b2_cast, b2_ncast, Classical.not_not] at h10
            refine V.blk [(77, .aload 0, 1), (78, .getfield 9001, 3), (81, .getfield 6001, 3), (84, .iload 1, 1), (85, .iaload, 1), (86, .goto 98, 3)] (ps := [0 ≤ p ∧ p < 64]) (z' := (98, [some (aR 0), some (aI p), some (aI w)], [aI (I 5 ((p).toNat))], MM N I J)) (by decide +kernel) rfl (show (0 ≤ p ∧ p < 64) from (by omega)) ?_
            refine V.ri (by decide +kernel) ?_
            refine ⟨congrArg (fun w => some (aI w)) ?_, congrArg (fun w => MM N w J) ?_⟩
            all_goals (first | unfold asksA | unfold asksU)
            all_goals (repeat' split)
            all_goals first | rfl | omega | (exfalso; omega)
        · skip
          try simp only [b2_cast, b2_ncast, Classical.not_not] at h8
          refine V.blk [(61, .iload 2, 1), (62, .bipush 1, 1), (63, .if_icmp .eq 73, 3)] (ps := []) (z' := (brc .eq w 1 73 66, [some (aR 0), some (aI p), some (aI w)], [], MM N I J)) (by decide +kernel) rfl trivial ?_
          refine V.eq (fun h11 => ?_) (fun h12 => ?_)
          · skip
            try simp only [b2_cast, b2_ncast, Classical.not_not] at h11
            refine V.blk [(73, .iload 2, 1), (74, .ifCond .ne 89, 3)] (ps := []) (z' := (brc .ne w 0 89 77, [some (aR 0), some (aI p), some (aI w)], [], MM N I J)) (by decide +kernel) rfl trivial ?_
            refine V.ne (fun h13 => ?_) (fun h14 => ?_)
            · skip
              try simp only [b2_cast, b2_ncast, Classical.not_not] at h13
              refine V.blk [(89, .aload 0, 1), (90, .getfield 9001, 3), (93, .getfield 6002, 3), (96, .iload 1, 1), (97, .iaload, 1)] (ps := [0 ≤ p ∧ p < 64]) (z' := (98, [some (aR 0), some (aI p), some (aI w)], [aI (I 6 ((p).toNat))], MM N I J)) (by decide +kernel) rfl (show (0 ≤ p ∧ p < 64) from (by omega)) ?_
              refine V.ri (by decide +kernel) ?_
              refine ⟨congrArg (fun w => some (aI w)) ?_, congrArg (fun w => MM N w J) ?_⟩
              all_goals (first | unfold asksA | unfold asksU)
              all_goals (repeat' split)
              all_goals first | rfl | omega | (exfalso; omega)
            · skip
              try simp only [b2_cast, b2_ncast, Classical.not_not] at h14
              refine V.blk [(77, .aload 0, 1), (78, .getfield 9001, 3), (81, .getfield 6001, 3), (84, .iload 1, 1), (85, .iaload, 1), (86, .goto 98, 3)] (ps := [0 ≤ p ∧ p < 64]) (z' := (98, [some (aR 0), some (aI p), some (aI w)], [aI (I 5 ((p).toNat))], MM N I J)) (by decide +kernel) rfl (show (0 ≤ p ∧ p < 64) from (by omega)) ?_
              refine V.ri (by decide +kernel) ?_
              refine ⟨congrArg (fun w => some (aI w)) ?_, congrArg (fun w => MM N w J) ?_⟩
              all_goals (first | unfold asksA | unfold asksU)
              all_goals (repeat' split)
              all_goals first | rfl | omega | (exfalso; omega)
          · skip
            try simp only [b2_cast, b2_ncast, Classical.not_not] at h12
            refine V.blk [(66, .aload 0, 1), (67, .bipush (-8), 2)] (ps := []) (z' := (69, [some (aR 0), some (aI p), some (aI w)], [aI (-8), aR 0], MM N I J)) (by decide +kernel) rfl trivial ?_
            refine V.cv (c := 98) (na := 2) (o := 9) (a := 0) [aI (-8)] [] (by decide +kernel) rfl rfl rfl rfl rfl ((c_refuse (by assumption) (by omega)).mono (fun rv M1 q => ?_))
            obtain ⟨rfl, rfl⟩ := q
            show V 70 (72, [some (aR 0), some (aI p), some (aI w)], [aI (-8)], MM N ((rfU I (-8))) J) _
            refine V.nI (fun I15 eI15 => ?_)
            refine V.ri (by decide +kernel) ?_
            refine ⟨congrArg (fun w => some (aI w)) ?_, congrArg (fun w => MM N w J) ?_⟩
            subst eI15
            all_goals (first | unfold asksA | unfold asksU)
            all_goals (repeat' split)
            all_goals first | rfl | omega | (exfalso; omega)
      · skip
        try simp only [b2_cast, b2_ncast, Classical.not_not] at h6
        refine V.blk [(50, .aload 0, 1), (51, .bipush (-5), 2)] (ps := []) (z' := (53, [some (aR 0), some (aI p), some (aI w)], [aI (-5), aR 0], MM N I J)) (by decide +kernel) rfl trivial ?_
        refine V.cv (c := 98) (na := 2) (o := 9) (a := 0) [aI (-5)] [] (by decide +kernel) rfl rfl rfl rfl rfl ((c_refuse (by assumption) (by omega)).mono (fun rv M1 q => ?_))
        obtain ⟨rfl, rfl⟩ := q
        show V 70 (56, [some (aR 0), some (aI p), some (aI w)], [aI (-5)], MM N ((rfU I (-5))) J) _
        refine V.nI (fun I16 eI16 => ?_)
        refine V.ri (by decide +kernel) ?_
        refine ⟨congrArg (fun w => some (aI w)) ?_, congrArg (fun w => MM N w J) ?_⟩
        subst eI16
        all_goals (first | unfold asksA | unfold asksU)
        all_goals (repeat' split)
        all_goals first | rfl | omega | (exfalso; omega)
    · skip
      try simp only [b2_cast, b2_ncast, Classical.not_not] at h4
      refine V.blk [(29, .aload 0, 1), (30, .bipush (-2), 2)] (ps := []) (z' := (32, [some (aR 0), some (aI p), some (aI w)], [aI (-2), aR 0], MM N I J)) (by decide +kernel) rfl trivial ?_
      refine V.cv (c := 98) (na := 2) (o := 9) (a := 0) [aI (-2)] [] (by decide +kernel) rfl rfl rfl rfl rfl ((c_refuse (by assumption) (by omega)).mono (fun rv M1 q => ?_))
      obtain ⟨rfl, rfl⟩ := q
      show V 70 (35, [some (aR 0), some (aI p), some (aI w)], [aI (-2)], MM N ((rfU I (-2))) J) _
      refine V.nI (fun I17 eI17 => ?_)
      refine V.ri (by decide +kernel) ?_
      refine ⟨congrArg (fun w => some (aI w)) ?_, congrArg (fun w => MM N w J) ?_⟩
      subst eI17
      all_goals (first | unfold asksA | unfold asksU)
      all_goals (repeat' split)
      all_goals first | rfl | omega | (exfalso; omega)
  · skip
    try simp only [b2_cast, b2_ncast, Classical.not_not] at h2
    refine V.blk [(9, .aload 0, 1), (10, .bipush (-3), 2)] (ps := []) (z' := (12, [some (aR 0), some (aI p), some (aI w)], [aI (-3), aR 0], MM N I J)) (by decide +kernel) rfl trivial ?_
    refine V.cv (c := 98) (na := 2) (o := 9) (a := 0) [aI (-3)] [] (by decide +kernel) rfl rfl rfl rfl rfl ((c_refuse (by assumption) (by omega)).mono (fun rv M1 q => ?_))
    obtain ⟨rfl, rfl⟩ := q
    show V 70 (15, [some (aR 0), some (aI p), some (aI w)], [aI (-3)], MM N ((rfU I (-3))) J) _
    refine V.nI (fun I18 eI18 => ?_)
    refine V.ri (by decide +kernel) ?_
    refine ⟨congrArg (fun w => some (aI w)) ?_, congrArg (fun w => MM N w J) ?_⟩
    subst eI18
    all_goals (first | unfold asksA | unfold asksU)
    all_goals (repeat' split)
    all_goals first | rfl | omega | (exfalso; omega)
def namedA (I : MI) (p : Int) : Int := if 0 ≤ p ∧ p < 64 then (if I 4 p.toNat = -1 then -2 else if I 4 p.toNat = 7 then I 5 p.toNat else -5) else -3
def namedU (I : MI) (p : Int) : MI := if 0 ≤ p ∧ p < 64 then (if I 4 p.toNat = -1 then rfU I (-2) else if I 4 p.toNat = 7 then I else rfU I (-5)) else rfU I (-3)
theorem c_X9_named {N : Nat} {I : MI} {J : MJ} {p : Int} (hr : Rf I) : CT 71 [aR 0, aI p] (MM N I J) (QU N J (aI (namedA I p)) (namedU I p)) := by
  refine CT.ofV (n := 2) (ls := [some (aR 0), some (aI p)]) rfl rfl rfl ?_
  refine V.blk [(0, .iload 1, 1), (1, .bipush 64, 2)] (ps := []) (z' := (3, [some (aR 0), some (aI p)], [aI 64, aI p], MM N I J)) (by decide +kernel) rfl trivial ?_
  refine V.cs (c := 103) (na := 2) [aI 64, aI p] [] (by decide +kernel) rfl rfl (V.pr (c_X9_within) ?_)
  show V 71 (6, [some (aR 0), some (aI p)], [aI (b2 (decide (0 ≤ p ∧ p < 64)))], MM N I J) _
  refine V.blk [(6, .ifCond .ne 16, 3)] (ps := []) (z' := (brc .ne (b2 (decide (0 ≤ p ∧ p < 64))) 0 16 9, [some (aR 0), some (aI p)], [], MM N I J)) (by decide +kernel) rfl trivial ?_
  refine V.ne (fun h1 => ?_) (fun h2 => ?_)
  · skip
    try simp only [b2_cast, b2_ncast, Classical.not_not] at h1
    refine V.blk [(16, .aload 0, 1), (17, .getfield 9001, 3), (20, .getfield 6000, 3), (23, .iload 1, 1), (24, .iaload, 1), (25, .bipush (-1), 1), (26, .if_icmp .ne 36, 3)] (ps := [0 ≤ p ∧ p < 64]) (z' := (brc .ne (I 4 ((p).toNat)) (-1) 36 29, [some (aR 0), some (aI p)], [], MM N I J)) (by decide +kernel) rfl (show (0 ≤ p ∧ p < 64) from (by omega)) ?_
    refine V.ne (fun h3 => ?_) (fun h4 => ?_)
    · skip
      try simp only [b2_cast, b2_ncast, Classical.not_not] at h3
      refine V.blk [(36, .aload 0, 1), (37, .getfield 9001, 3), (40, .getfield 6000, 3), (43, .iload 1, 1), (44, .iaload, 1), (45, .bipush 7, 2), (47, .if_icmp .eq 57, 3)] (ps := [0 ≤ p ∧ p < 64]) (z' := (brc .eq (I 4 ((p).toNat)) 7 57 50, [some (aR 0), some (aI p)], [], MM N I J)) (by decide +kernel) rfl (show (0 ≤ p ∧ p < 64) from (by omega)) ?_
      refine V.eq (fun h5 => ?_) (fun h6 => ?_)
      · skip
        try simp only [b2_cast, b2_ncast, Classical.not_not] at h5
        refine V.blk [(57, .aload 0, 1), (58, .getfield 9001, 3), (61, .getfield 6001, 3), (64, .iload 1, 1), (65, .iaload, 1)] (ps := [0 ≤ p ∧ p < 64]) (z' := (66, [some (aR 0), some (aI p)], [aI (I 5 ((p).toNat))], MM N I J)) (by decide +kernel) rfl (show (0 ≤ p ∧ p < 64) from (by omega)) ?_
        refine V.ri (by decide +kernel) ?_
        refine ⟨congrArg (fun w => some (aI w)) ?_, congrArg (fun w => MM N w J) ?_⟩
        all_goals (first | unfold namedA | unfold namedU)
        all_goals (repeat' split)
        all_goals first | rfl | omega | (exfalso; omega)
      · skip
        try simp only [b2_cast, b2_ncast, Classical.not_not] at h6
        refine V.blk [(50, .aload 0, 1), (51, .bipush (-5), 2)] (ps := []) (z' := (53, [some (aR 0), some (aI p)], [aI (-5), aR 0], MM N I J)) (by decide +kernel) rfl trivial ?_
        refine V.cv (c := 98) (na := 2) (o := 9) (a := 0) [aI (-5)] [] (by decide +kernel) rfl rfl rfl rfl rfl ((c_refuse (by assumption) (by omega)).mono (fun rv M1 q => ?_))
        obtain ⟨rfl, rfl⟩ := q
        show V 71 (56, [some (aR 0), some (aI p)], [aI (-5)], MM N ((rfU I (-5))) J) _
        refine V.nI (fun I7 eI7 => ?_)
        refine V.ri (by decide +kernel) ?_
        refine ⟨congrArg (fun w => some (aI w)) ?_, congrArg (fun w => MM N w J) ?_⟩
        subst eI7
        all_goals (first | unfold namedA | unfold namedU)
        all_goals (repeat' split)
        all_goals first | rfl | omega | (exfalso; omega)
    · skip
      try simp only [b2_cast, b2_ncast, Classical.not_not] at h4
      refine V.blk [(29, .aload 0, 1), (30, .bipush (-2), 2)] (ps := []) (z' := (32, [some (aR 0), some (aI p)], [aI (-2), aR 0], MM N I J)) (by decide +kernel) rfl trivial ?_
      refine V.cv (c := 98) (na := 2) (o := 9) (a := 0) [aI (-2)] [] (by decide +kernel) rfl rfl rfl rfl rfl ((c_refuse (by assumption) (by omega)).mono (fun rv M1 q => ?_))
      obtain ⟨rfl, rfl⟩ := q
      show V 71 (35, [some (aR 0), some (aI p)], [aI (-2)], MM N ((rfU I (-2))) J) _
      refine V.nI (fun I8 eI8 => ?_)
      refine V.ri (by decide +kernel) ?_
      refine ⟨congrArg (fun w => some (aI w)) ?_, congrArg (fun w => MM N w J) ?_⟩
      subst eI8
      all_goals (first | unfold namedA | unfold namedU)
      all_goals (repeat' split)
      all_goals first | rfl | omega | (exfalso; omega)
  · skip
    try simp only [b2_cast, b2_ncast, Classical.not_not] at h2
    refine V.blk [(9, .aload 0, 1), (10, .bipush (-3), 2)] (ps := []) (z' := (12, [some (aR 0), some (aI p)], [aI (-3), aR 0], MM N I J)) (by decide +kernel) rfl trivial ?_
    refine V.cv (c := 98) (na := 2) (o := 9) (a := 0) [aI (-3)] [] (by decide +kernel) rfl rfl rfl rfl rfl ((c_refuse (by assumption) (by omega)).mono (fun rv M1 q => ?_))
    obtain ⟨rfl, rfl⟩ := q
    show V 71 (15, [some (aR 0), some (aI p)], [aI (-3)], MM N ((rfU I (-3))) J) _
    refine V.nI (fun I9 eI9 => ?_)
    refine V.ri (by decide +kernel) ?_
    refine ⟨congrArg (fun w => some (aI w)) ?_, congrArg (fun w => MM N w J) ?_⟩
    subst eI9
    all_goals (first | unfold namedA | unfold namedU)
    all_goals (repeat' split)
    all_goals first | rfl | omega | (exfalso; omega)
def failedA (I : MI) : Int := I 0 13
def failedU (I : MI) : MI := I
theorem c_X9_failed {N : Nat} {I : MI} {J : MJ}   : CT 78 [aR 0] (MM N I J) (QU N J (aI (failedA I )) (failedU I )) := by
  refine CT.ofV (n := 1) (ls := [some (aR 0)]) rfl rfl rfl ?_
  refine V.blk [(0, .aload 0, 1), (1, .getfield 9013, 3)] (ps := []) (z' := (4, [some (aR 0)], [aI (I 0 13)], MM N I J)) (by decide +kernel) rfl trivial ?_
  refine V.ri (by decide +kernel) ?_
  refine ⟨congrArg (fun w => some (aI w)) ?_, congrArg (fun w => MM N w J) ?_⟩
  all_goals (first | unfold failedA | unfold failedU)
  all_goals (repeat' split)
  all_goals first | rfl | omega | (exfalso; omega)
def tickA (I : MI) (n : Int) : Int := if n < 0 then -4 else if 1000000 - I 0 11 < n then -8 else I 0 11 + n
def tickU (I : MI) (n : Int) : MI := if n < 0 then rfU I (-4) else if 1000000 - I 0 11 < n then rfU I (-8) else ma I 0 (ma (I 0) 11 (I 0 11 + n))
theorem c_X9_tick {N : Nat} {I : MI} {J : MJ} {n : Int} (hr : Rf I) (ht : WTk I) (hn : inR n) : CT 80 [aR 0, aI n] (MM N I J) (QU N J (aI (tickA I n)) (tickU I n)) := by
  refine CT.ofV (n := 2) (ls := [some (aR 0), some (aI n)]) rfl rfl rfl ?_
  obtain ⟨ht1, ht2⟩ := ht
  unfold inR at hn
  refine V.blk [(0, .iload 1, 1), (1, .ifCond .ge 11, 3)] (ps := []) (z' := (brc .ge n 0 11 4, [some (aR 0), some (aI n)], [], MM N I J)) (by decide +kernel) rfl trivial ?_
  refine V.ge (fun h1 => ?_) (fun h2 => ?_)
  · skip
    try simp only [b2_cast, b2_ncast, Classical.not_not] at h1
    refine V.blk [(11, .iload 1, 1), (12, .bipush 1000000, 2), (14, .aload 0, 1), (15, .getfield 9011, 3), (18, .isub, 1), (19, .if_icmp .le 29, 3)] (ps := [inR (1000000 - (I 0 11))]) (z' := (brc .le n (1000000 - (I 0 11)) 29 22, [some (aR 0), some (aI n)], [], MM N I J)) (by decide +kernel) rfl (show (inR (1000000 - (I 0 11))) from (by unfold inR; first | omega | (simp [ma]; omega))) ?_
    refine V.le (fun h3 => ?_) (fun h4 => ?_)
    · skip
      try simp only [b2_cast, b2_ncast, Classical.not_not] at h3
      refine V.blk [(29, .aload 0, 1), (30, .dup, 1), (31, .getfield 9011, 3), (34, .iload 1, 1), (35, .iadd, 1), (36, .putfield 9011, 3), (39, .aload 0, 1), (40, .getfield 9011, 3)] (ps := [inR ((I 0 11) + n)]) (z' := (43, [some (aR 0), some (aI n)], [aI ((ma I 0 (ma (I 0) 11 ((I 0 11) + n))) 0 11)], MM N (ma I 0 (ma (I 0) 11 ((I 0 11) + n))) J)) (by decide +kernel) rfl (show (inR ((I 0 11) + n)) from (by unfold inR; first | omega | (simp [ma]; omega))) ?_
      refine V.nI (fun I5 eI5 => ?_)
      refine V.ri (by decide +kernel) ?_
      refine ⟨congrArg (fun w => some (aI w)) ?_, congrArg (fun w => MM N w J) ?_⟩
      subst eI5
      all_goals (first | unfold tickA | unfold tickU)
      all_goals (repeat' split)
      all_goals first | rfl | omega | (exfalso; omega) | (simp [ma])
    · skip
      try simp only [b2_cast, b2_ncast, Classical.not_not] at h4
      refine V.blk [(22, .aload 0, 1), (23, .bipush (-8), 2)] (ps := []) (z' := (25, [some (aR 0), some (aI n)], [aI (-8), aR 0], MM N I J)) (by decide +kernel) rfl trivial ?_
      refine V.cv (c := 98) (na := 2) (o := 9) (a := 0) [aI (-8)] [] (by decide +kernel) rfl rfl rfl rfl rfl ((c_refuse (by assumption) (by omega)).mono (fun rv M1 q => ?_))
      obtain ⟨rfl, rfl⟩ := q
      show V 80 (28, [some (aR 0), some (aI n)], [aI (-8)], MM N ((rfU I (-8))) J) _
      refine V.nI (fun I6 eI6 => ?_)
      refine V.ri (by decide +kernel) ?_
      refine ⟨congrArg (fun w => some (aI w)) ?_, congrArg (fun w => MM N w J) ?_⟩
      subst eI6
      all_goals (first | unfold tickA | unfold tickU)
      all_goals (repeat' split)
      all_goals first | rfl | omega | (exfalso; omega) | (simp [ma])
  · skip
    try simp only [b2_cast, b2_ncast, Classical.not_not] at h2
    refine V.blk [(4, .aload 0, 1), (5, .bipush (-4), 2)] (ps := []) (z' := (7, [some (aR 0), some (aI n)], [aI (-4), aR 0], MM N I J)) (by decide +kernel) rfl trivial ?_
    refine V.cv (c := 98) (na := 2) (o := 9) (a := 0) [aI (-4)] [] (by decide +kernel) rfl rfl rfl rfl rfl ((c_refuse (by assumption) (by omega)).mono (fun rv M1 q => ?_))
    obtain ⟨rfl, rfl⟩ := q
    show V 80 (10, [some (aR 0), some (aI n)], [aI (-4)], MM N ((rfU I (-4))) J) _
    refine V.nI (fun I7 eI7 => ?_)
    refine V.ri (by decide +kernel) ?_
    refine ⟨congrArg (fun w => some (aI w)) ?_, congrArg (fun w => MM N w J) ?_⟩
    subst eI7
    all_goals (first | unfold tickA | unfold tickU)
    all_goals (repeat' split)
    all_goals first | rfl | omega | (exfalso; omega) | (simp [ma])
def countA (I : MI) (w : Int) : Int := if w = 0 then I 10 13 else if w = 1 then I 0 11 else if w = 2 then I 22 4 else if w = 3 then I 22 9 else if w = 4 then I 10 9 else if w = 5 then I 1 1 else -8
def countU (I : MI) (w : Int) : MI := if 0 ≤ w ∧ w ≤ 5 then I else rfU I (-8)
theorem c_X9_count {N : Nat} {I : MI} {J : MJ} {w : Int} (hr : Rf I) : CT 81 [aR 0, aI w] (MM N I J) (QU N J (aI (countA I w)) (countU I w)) := by
  refine CT.ofV (n := 2) (ls := [some (aR 0), some (aI w)]) rfl rfl rfl ?_
  refine V.blk [(0, .iload 1, 1), (1, .tableswitch 85 0 5 #[40, 48, 53, 61, 69, 77], 39)] (ps := []) (z' := (tsw 85 0 5 [40, 48, 53, 61, 69, 77] w, [some (aR 0), some (aI w)], [], MM N I J)) (by decide +kernel) rfl trivial ?_
  refine V.ts (fun k t1 hlt hle => ?_) (by decide) (fun h2 => ?_)
  · match k, t1, hlt with
    | 0, t1, _ =>
      show V 81 (40, [some (aR 0), some (aI w)], [], MM N I J) _
      try simp only [b2_cast, b2_ncast, Classical.not_not] at t1
      refine V.blk [(40, .aload 0, 1), (41, .getfield 9002, 3), (44, .getfield 3013, 3)] (ps := []) (z' := (47, [some (aR 0), some (aI w)], [aI (I 10 13)], MM N I J)) (by decide +kernel) rfl trivial ?_
      refine V.ri (by decide +kernel) ?_
      refine ⟨congrArg (fun w => some (aI w)) ?_, congrArg (fun w => MM N w J) ?_⟩
      all_goals (first | unfold countA | unfold countU)
      all_goals (repeat' split)
      all_goals first | rfl | omega | (exfalso; omega)
    | 1, t1, _ =>
      show V 81 (48, [some (aR 0), some (aI w)], [], MM N I J) _
      try simp only [b2_cast, b2_ncast, Classical.not_not] at t1
      refine V.blk [(48, .aload 0, 1), (49, .getfield 9011, 3)] (ps := []) (z' := (52, [some (aR 0), some (aI w)], [aI (I 0 11)], MM N I J)) (by decide +kernel) rfl trivial ?_
      refine V.ri (by decide +kernel) ?_
      refine ⟨congrArg (fun w => some (aI w)) ?_, congrArg (fun w => MM N w J) ?_⟩
      all_goals (first | unfold countA | unfold countU)
      all_goals (repeat' split)
      all_goals first | rfl | omega | (exfalso; omega)
    | 2, t1, _ =>
      show V 81 (53, [some (aR 0), some (aI w)], [], MM N I J) _
      try simp only [b2_cast, b2_ncast, Classical.not_not] at t1
      refine V.blk [(53, .aload 0, 1), (54, .getfield 9003, 3), (57, .getfield 1004, 3)] (ps := []) (z' := (60, [some (aR 0), some (aI w)], [aI (I 22 4)], MM N I J)) (by decide +kernel) rfl trivial ?_
      refine V.ri (by decide +kernel) ?_
      refine ⟨congrArg (fun w => some (aI w)) ?_, congrArg (fun w => MM N w J) ?_⟩
      all_goals (first | unfold countA | unfold countU)
      all_goals (repeat' split)
      all_goals first | rfl | omega | (exfalso; omega)
    | 3, t1, _ =>
      show V 81 (61, [some (aR 0), some (aI w)], [], MM N I J) _
      try simp only [b2_cast, b2_ncast, Classical.not_not] at t1
      refine V.blk [(61, .aload 0, 1), (62, .getfield 9003, 3), (65, .getfield 1009, 3)] (ps := []) (z' := (68, [some (aR 0), some (aI w)], [aI (I 22 9)], MM N I J)) (by decide +kernel) rfl trivial ?_
      refine V.ri (by decide +kernel) ?_
      refine ⟨congrArg (fun w => some (aI w)) ?_, congrArg (fun w => MM N w J) ?_⟩
      all_goals (first | unfold countA | unfold countU)
      all_goals (repeat' split)
      all_goals first | rfl | omega | (exfalso; omega)
    | 4, t1, _ =>
      show V 81 (69, [some (aR 0), some (aI w)], [], MM N I J) _
      try simp only [b2_cast, b2_ncast, Classical.not_not] at t1
      refine V.blk [(69, .aload 0, 1), (70, .getfield 9002, 3), (73, .getfield 3009, 3)] (ps := []) (z' := (76, [some (aR 0), some (aI w)], [aI (I 10 9)], MM N I J)) (by decide +kernel) rfl trivial ?_
      refine V.ri (by decide +kernel) ?_
      refine ⟨congrArg (fun w => some (aI w)) ?_, congrArg (fun w => MM N w J) ?_⟩
      all_goals (first | unfold countA | unfold countU)
      all_goals (repeat' split)
      all_goals first | rfl | omega | (exfalso; omega)
    | 5, t1, _ =>
      show V 81 (77, [some (aR 0), some (aI w)], [], MM N I J) _
      try simp only [b2_cast, b2_ncast, Classical.not_not] at t1
      refine V.blk [(77, .aload 0, 1), (78, .getfield 9000, 3), (81, .getfield 8001, 3)] (ps := []) (z' := (84, [some (aR 0), some (aI w)], [aI (I 1 1)], MM N I J)) (by decide +kernel) rfl trivial ?_
      refine V.ri (by decide +kernel) ?_
      refine ⟨congrArg (fun w => some (aI w)) ?_, congrArg (fun w => MM N w J) ?_⟩
      all_goals (first | unfold countA | unfold countU)
      all_goals (repeat' split)
      all_goals first | rfl | omega | (exfalso; omega)
    | n + 6, _, hlt => exact absurd hlt (by simp)
  · show V 81 (85, [some (aR 0), some (aI w)], [], MM N I J) _
    try simp only [b2_cast, b2_ncast, Classical.not_not] at h2
    refine V.blk [(85, .aload 0, 1), (86, .bipush (-8), 2)] (ps := []) (z' := (88, [some (aR 0), some (aI w)], [aI (-8), aR 0], MM N I J)) (by decide +kernel) rfl trivial ?_
    refine V.cv (c := 98) (na := 2) (o := 9) (a := 0) [aI (-8)] [] (by decide +kernel) rfl rfl rfl rfl rfl ((c_refuse (by assumption) (by omega)).mono (fun rv M1 q => ?_))
    obtain ⟨rfl, rfl⟩ := q
    show V 81 (91, [some (aR 0), some (aI w)], [aI (-8)], MM N ((rfU I (-8))) J) _
    refine V.nI (fun I3 eI3 => ?_)
    refine V.ri (by decide +kernel) ?_
    refine ⟨congrArg (fun w => some (aI w)) ?_, congrArg (fun w => MM N w J) ?_⟩
    subst eI3
    all_goals (first | unfold countA | unfold countU)
    all_goals (repeat' split)
    all_goals first | rfl | omega | (exfalso; omega)
def pairA (I : MI) (p w : Int) : Int := if 0 ≤ p ∧ p < I 10 9 then (if w = 0 then I 11 p.toNat else if w = 1 then I 12 p.toNat else if w = 2 then I 13 p.toNat else if w = 3 then I 14 p.toNat else if w = 4 then I 15 p.toNat else if w = 5 then I 16 p.toNat else -8) else -3
def pairU (I : MI) (p w : Int) : MI := if 0 ≤ p ∧ p < I 10 9 then (if 0 ≤ w ∧ w ≤ 5 then I else rfU I (-8)) else rfU I (-3)
theorem c_X9_pair {N : Nat} {I : MI} {J : MJ} {p w : Int} (hr : Rf I) (hm : I 10 9 ≤ 400) : CT 83 [aR 0, aI p, aI w] (MM N I J) (QU N J (aI (pairA I p w)) (pairU I p w)) := by
  refine CT.ofV (n := 3) (ls := [some (aR 0), some (aI p), some (aI w)]) rfl rfl rfl ?_
  refine V.blk [(0, .iload 1, 1), (1, .aload 0, 1), (2, .getfield 9002, 3), (5, .getfield 3009, 3)] (ps := []) (z' := (8, [some (aR 0), some (aI p), some (aI w)], [aI (I 10 9), aI p], MM N I J)) (by decide +kernel) rfl trivial ?_
  refine V.cs (c := 103) (na := 2) [aI (I 10 9), aI p] [] (by decide +kernel) rfl rfl (V.pr (c_X9_within) ?_)
  show V 83 (11, [some (aR 0), some (aI p), some (aI w)], [aI (b2 (decide (0 ≤ p ∧ p < (I 10 9))))], MM N I J) _
  refine V.blk [(11, .ifCond .ne 21, 3)] (ps := []) (z' := (brc .ne (b2 (decide (0 ≤ p ∧ p < (I 10 9)))) 0 21 14, [some (aR 0), some (aI p), some (aI w)], [], MM N I J)) (by decide +kernel) rfl trivial ?_
  refine V.ne (fun h1 => ?_) (fun h2 => ?_)
  · skip
    try simp only [b2_cast, b2_ncast, Classical.not_not] at h1
    refine V.blk [(21, .iload 2, 1), (22, .tableswitch 120 0 5 #[60, 70, 80, 90, 100, 110], 38)] (ps := []) (z' := (tsw 120 0 5 [60, 70, 80, 90, 100, 110] w, [some (aR 0), some (aI p), some (aI w)], [], MM N I J)) (by decide +kernel) rfl trivial ?_
    refine V.ts (fun k t3 hlt hle => ?_) (by decide) (fun h4 => ?_)
    · match k, t3, hlt with
      | 0, t3, _ =>
        show V 83 (60, [some (aR 0), some (aI p), some (aI w)], [], MM N I J) _
        try simp only [b2_cast, b2_ncast, Classical.not_not] at t3
        refine V.blk [(60, .aload 0, 1), (61, .getfield 9002, 3), (64, .getfield 3000, 3), (67, .iload 1, 1), (68, .iaload, 1)] (ps := [0 ≤ p ∧ p < 400]) (z' := (69, [some (aR 0), some (aI p), some (aI w)], [aI (I 11 ((p).toNat))], MM N I J)) (by decide +kernel) rfl (show (0 ≤ p ∧ p < 400) from (by omega)) ?_
        refine V.ri (by decide +kernel) ?_
        refine ⟨congrArg (fun w => some (aI w)) ?_, congrArg (fun w => MM N w J) ?_⟩
        all_goals (first | unfold pairA | unfold pairU)
        all_goals (repeat' split)
        all_goals first | rfl | omega | (exfalso; omega)
      | 1, t3, _ =>
        show V 83 (70, [some (aR 0), some (aI p), some (aI w)], [], MM N I J) _
        try simp only [b2_cast, b2_ncast, Classical.not_not] at t3
        refine V.blk [(70, .aload 0, 1), (71, .getfield 9002, 3), (74, .getfield 3001, 3), (77, .iload 1, 1), (78, .iaload, 1)] (ps := [0 ≤ p ∧ p < 400]) (z' := (79, [some (aR 0), some (aI p), some (aI w)], [aI (I 12 ((p).toNat))], MM N I J)) (by decide +kernel) rfl (show (0 ≤ p ∧ p < 400) from (by omega)) ?_
        refine V.ri (by decide +kernel) ?_
        refine ⟨congrArg (fun w => some (aI w)) ?_, congrArg (fun w => MM N w J) ?_⟩
        all_goals (first | unfold pairA | unfold pairU)
        all_goals (repeat' split)
        all_goals first | rfl | omega | (exfalso; omega)
      | 2, t3, _ =>
        show V 83 (80, [some (aR 0), some (aI p), some (aI w)], [], MM N I J) _
        try simp only [b2_cast, b2_ncast, Classical.not_not] at t3
        refine V.blk [(80, .aload 0, 1), (81, .getfield 9002, 3), (84, .getfield 3002, 3), (87, .iload 1, 1), (88, .iaload, 1)] (ps := [0 ≤ p ∧ p < 400]) (z' := (89, [some (aR 0), some (aI p), some (aI w)], [aI (I 13 ((p).toNat))], MM N I J)) (by decide +kernel) rfl (show (0 ≤ p ∧ p < 400) from (by omega)) ?_
        refine V.ri (by decide +kernel) ?_
        refine ⟨congrArg (fun w => some (aI w)) ?_, congrArg (fun w => MM N w J) ?_⟩
        all_goals (first | unfold pairA | unfold pairU)
        all_goals (repeat' split)
        all_goals first | rfl | omega | (exfalso; omega)
      | 3, t3, _ =>
        show V 83 (90, [some (aR 0), some (aI p), some (aI w)], [], MM N I J) _
        try simp only [b2_cast, b2_ncast, Classical.not_not] at t3
        refine V.blk [(90, .aload 0, 1), (91, .getfield 9002, 3), (94, .getfield 3003, 3), (97, .iload 1, 1), (98, .iaload, 1)] (ps := [0 ≤ p ∧ p < 400]) (z' := (99, [some (aR 0), some (aI p), some (aI w)], [aI (I 14 ((p).toNat))], MM N I J)) (by decide +kernel) rfl (show (0 ≤ p ∧ p < 400) from (by omega)) ?_
        refine V.ri (by decide +kernel) ?_
        refine ⟨congrArg (fun w => some (aI w)) ?_, congrArg (fun w => MM N w J) ?_⟩
        all_goals (first | unfold pairA | unfold pairU)
        all_goals (repeat' split)
        all_goals first | rfl | omega | (exfalso; omega)
      | 4, t3, _ =>
        show V 83 (100, [some (aR 0), some (aI p), some (aI w)], [], MM N I J) _
        try simp only [b2_cast, b2_ncast, Classical.not_not] at t3
        refine V.blk [(100, .aload 0, 1), (101, .getfield 9002, 3), (104, .getfield 3004, 3), (107, .iload 1, 1), (108, .iaload, 1)] (ps := [0 ≤ p ∧ p < 400]) (z' := (109, [some (aR 0), some (aI p), some (aI w)], [aI (I 15 ((p).toNat))], MM N I J)) (by decide +kernel) rfl (show (0 ≤ p ∧ p < 400) from (by omega)) ?_
        refine V.ri (by decide +kernel) ?_
        refine ⟨congrArg (fun w => some (aI w)) ?_, congrArg (fun w => MM N w J) ?_⟩
        all_goals (first | unfold pairA | unfold pairU)
        all_goals (repeat' split)
        all_goals first | rfl | omega | (exfalso; omega)
      | 5, t3, _ =>
        show V 83 (110, [some (aR 0), some (aI p), some (aI w)], [], MM N I J) _
        try simp only [b2_cast, b2_ncast, Classical.not_not] at t3
        refine V.blk [(110, .aload 0, 1), (111, .getfield 9002, 3), (114, .getfield 3005, 3), (117, .iload 1, 1), (118, .iaload, 1)] (ps := [0 ≤ p ∧ p < 400]) (z' := (119, [some (aR 0), some (aI p), some (aI w)], [aI (I 16 ((p).toNat))], MM N I J)) (by decide +kernel) rfl (show (0 ≤ p ∧ p < 400) from (by omega)) ?_
        refine V.ri (by decide +kernel) ?_
        refine ⟨congrArg (fun w => some (aI w)) ?_, congrArg (fun w => MM N w J) ?_⟩
        all_goals (first | unfold pairA | unfold pairU)
        all_goals (repeat' split)
        all_goals first | rfl | omega | (exfalso; omega)
      | n + 6, _, hlt => exact absurd hlt (by simp)
    · show V 83 (120, [some (aR 0), some (aI p), some (aI w)], [], MM N I J) _
      try simp only [b2_cast, b2_ncast, Classical.not_not] at h4
      refine V.blk [(120, .aload 0, 1), (121, .bipush (-8), 2)] (ps := []) (z' := (123, [some (aR 0), some (aI p), some (aI w)], [aI (-8), aR 0], MM N I J)) (by decide +kernel) rfl trivial ?_
      refine V.cv (c := 98) (na := 2) (o := 9) (a := 0) [aI (-8)] [] (by decide +kernel) rfl rfl rfl rfl rfl ((c_refuse (by assumption) (by omega)).mono (fun rv M1 q => ?_))
      obtain ⟨rfl, rfl⟩ := q
      show V 83 (126, [some (aR 0), some (aI p), some (aI w)], [aI (-8)], MM N ((rfU I (-8))) J) _
      refine V.nI (fun I5 eI5 => ?_)
      refine V.ri (by decide +kernel) ?_
      refine ⟨congrArg (fun w => some (aI w)) ?_, congrArg (fun w => MM N w J) ?_⟩
      subst eI5
      all_goals (first | unfold pairA | unfold pairU)
      all_goals (repeat' split)
      all_goals first | rfl | omega | (exfalso; omega)
  · skip
    try simp only [b2_cast, b2_ncast, Classical.not_not] at h2
    refine V.blk [(14, .aload 0, 1), (15, .bipush (-3), 2)] (ps := []) (z' := (17, [some (aR 0), some (aI p), some (aI w)], [aI (-3), aR 0], MM N I J)) (by decide +kernel) rfl trivial ?_
    refine V.cv (c := 98) (na := 2) (o := 9) (a := 0) [aI (-3)] [] (by decide +kernel) rfl rfl rfl rfl rfl ((c_refuse (by assumption) (by omega)).mono (fun rv M1 q => ?_))
    obtain ⟨rfl, rfl⟩ := q
    show V 83 (20, [some (aR 0), some (aI p), some (aI w)], [aI (-3)], MM N ((rfU I (-3))) J) _
    refine V.nI (fun I6 eI6 => ?_)
    refine V.ri (by decide +kernel) ?_
    refine ⟨congrArg (fun w => some (aI w)) ?_, congrArg (fun w => MM N w J) ?_⟩
    subst eI6
    all_goals (first | unfold pairA | unfold pairU)
    all_goals (repeat' split)
    all_goals first | rfl | omega | (exfalso; omega)
def changeA (I : MI) (t i : Int) : Int := if 0 ≤ t ∧ t ≤ I 10 13 then (if i < 0 then -4 else if i < I 10 11 - I 21 t.toNat then I 20 (I 21 t.toNat + i).toNat else -1) else -3
def changeU (I : MI) (t i : Int) : MI := if 0 ≤ t ∧ t ≤ I 10 13 then (if i < 0 then rfU I (-4) else I) else rfU I (-3)
theorem c_X9_change {N : Nat} {I : MI} {J : MJ} {t i : Int} (hr : Rf I) (h0 : I 10 13 ≤ 200) (h1 : 0 ≤ I 10 11 ∧ I 10 11 ≤ 800) (h2 : ∀ t : Nat, (t : Int) ≤ I 10 13 → 0 ≤ I 21 t ∧ I 21 t ≤ I 10 11) : CT 84 [aR 0, aI t, aI i] (MM N I J) (QU N J (aI (changeA I t i)) (changeU I t i)) := by
  refine CT.ofV (n := 4) (ls := [some (aR 0), some (aI t), some (aI i), none]) rfl rfl rfl ?_
  refine V.blk [(0, .aload 0, 1), (1, .iload 1, 1)] (ps := []) (z' := (2, [some (aR 0), some (aI t), some (aI i), none], [aI t, aR 0], MM N I J)) (by decide +kernel) rfl trivial ?_
  refine V.cv (c := 101) (na := 2) (o := 9) (a := 0) [aI t] [] (by decide +kernel) rfl rfl rfl rfl rfl (V.pr (c_X9_isTurn) ?_)
  show V 84 (5, [some (aR 0), some (aI t), some (aI i), none], [aI (b2 (decide (0 ≤ t ∧ t ≤ I 10 13)))], MM N I J) _
  refine V.blk [(5, .ifCond .ne 15, 3)] (ps := []) (z' := (brc .ne (b2 (decide (0 ≤ t ∧ t ≤ I 10 13))) 0 15 8, [some (aR 0), some (aI t), some (aI i), none], [], MM N I J)) (by decide +kernel) rfl trivial ?_
  refine V.ne (fun h1 => ?_) (fun h2 => ?_)
  · skip
    try simp only [b2_cast, b2_ncast, Classical.not_not] at h1
    refine V.blk [(15, .iload 2, 1), (16, .ifCond .ge 26, 3)] (ps := []) (z' := (brc .ge i 0 26 19, [some (aR 0), some (aI t), some (aI i), none], [], MM N I J)) (by decide +kernel) rfl trivial ?_
    refine V.ge (fun h3 => ?_) (fun h4 => ?_)
    · skip
      try simp only [b2_cast, b2_ncast, Classical.not_not] at h3
      have h9 := h2 t.toNat (by omega)
      refine V.blk [(26, .aload 0, 1), (27, .getfield 9002, 3), (30, .getfield 3012, 3), (33, .iload 1, 1), (34, .iaload, 1), (35, .istore 3, 1), (36, .iload 2, 1), (37, .aload 0, 1), (38, .getfield 9002, 3), (41, .getfield 3011, 3), (44, .iload 3, 1), (45, .isub, 1), (46, .if_icmp .ge 63, 3)] (ps := [0 ≤ t ∧ t < 201, inR ((I 10 11) - (I 21 ((t).toNat)))]) (z' := (brc .ge i ((I 10 11) - (I 21 ((t).toNat))) 63 49, [some (aR 0), some (aI t), some (aI i), some (aI (I 21 ((t).toNat)))], [], MM N I J)) (by decide +kernel) rfl (show (0 ≤ t ∧ t < 201) ∧ (inR ((I 10 11) - (I 21 ((t).toNat)))) from ⟨(by omega), (by unfold inR; omega)⟩) ?_
      refine V.ge (fun h5 => ?_) (fun h6 => ?_)
      · skip
        try simp only [b2_cast, b2_ncast, Classical.not_not] at h5
        refine V.blk [(63, .bipush (-1), 1)] (ps := []) (z' := (64, [some (aR 0), some (aI t), some (aI i), some (aI (I 21 ((t).toNat)))], [aI (-1)], MM N I J)) (by decide +kernel) rfl trivial ?_
        refine V.ri (by decide +kernel) ?_
        refine ⟨congrArg (fun w => some (aI w)) ?_, congrArg (fun w => MM N w J) ?_⟩
        all_goals (first | unfold changeA | unfold changeU)
        all_goals (repeat' split)
        all_goals first | rfl | omega | (exfalso; omega)
      · skip
        try simp only [b2_cast, b2_ncast, Classical.not_not] at h6
        refine V.blk [(49, .aload 0, 1), (50, .getfield 9002, 3), (53, .getfield 3010, 3), (56, .iload 3, 1), (57, .iload 2, 1), (58, .iadd, 1), (59, .iaload, 1), (60, .goto 64, 3)] (ps := [inR ((I 21 ((t).toNat)) + i), 0 ≤ ((I 21 ((t).toNat)) + i) ∧ ((I 21 ((t).toNat)) + i) < 800]) (z' := (64, [some (aR 0), some (aI t), some (aI i), some (aI (I 21 ((t).toNat)))], [aI (I 20 (((I 21 ((t).toNat)) + i).toNat))], MM N I J)) (by decide +kernel) rfl (show (inR ((I 21 ((t).toNat)) + i)) ∧ (0 ≤ ((I 21 ((t).toNat)) + i) ∧ ((I 21 ((t).toNat)) + i) < 800) from ⟨(by unfold inR; omega), (by omega)⟩) ?_
        refine V.ri (by decide +kernel) ?_
        refine ⟨congrArg (fun w => some (aI w)) ?_, congrArg (fun w => MM N w J) ?_⟩
        all_goals (first | unfold changeA | unfold changeU)
        all_goals (repeat' split)
        all_goals first | rfl | omega | (exfalso; omega)
    · skip
      try simp only [b2_cast, b2_ncast, Classical.not_not] at h4
      refine V.blk [(19, .aload 0, 1), (20, .bipush (-4), 2)] (ps := []) (z' := (22, [some (aR 0), some (aI t), some (aI i), none], [aI (-4), aR 0], MM N I J)) (by decide +kernel) rfl trivial ?_
      refine V.cv (c := 98) (na := 2) (o := 9) (a := 0) [aI (-4)] [] (by decide +kernel) rfl rfl rfl rfl rfl ((c_refuse (by assumption) (by omega)).mono (fun rv M1 q => ?_))
      obtain ⟨rfl, rfl⟩ := q
      show V 84 (25, [some (aR 0), some (aI t), some (aI i), none], [aI (-4)], MM N ((rfU I (-4))) J) _
      refine V.nI (fun I7 eI7 => ?_)
      refine V.ri (by decide +kernel) ?_
      refine ⟨congrArg (fun w => some (aI w)) ?_, congrArg (fun w => MM N w J) ?_⟩
      subst eI7
      all_goals (first | unfold changeA | unfold changeU)
      all_goals (repeat' split)
      all_goals first | rfl | omega | (exfalso; omega)
  · skip
    try simp only [b2_cast, b2_ncast, Classical.not_not] at h2
    refine V.blk [(8, .aload 0, 1), (9, .bipush (-3), 2)] (ps := []) (z' := (11, [some (aR 0), some (aI t), some (aI i), none], [aI (-3), aR 0], MM N I J)) (by decide +kernel) rfl trivial ?_
    refine V.cv (c := 98) (na := 2) (o := 9) (a := 0) [aI (-3)] [] (by decide +kernel) rfl rfl rfl rfl rfl ((c_refuse (by assumption) (by omega)).mono (fun rv M1 q => ?_))
    obtain ⟨rfl, rfl⟩ := q
    show V 84 (14, [some (aR 0), some (aI t), some (aI i), none], [aI (-3)], MM N ((rfU I (-3))) J) _
    refine V.nI (fun I8 eI8 => ?_)
    refine V.ri (by decide +kernel) ?_
    refine ⟨congrArg (fun w => some (aI w)) ?_, congrArg (fun w => MM N w J) ?_⟩
    subst eI8
    all_goals (first | unfold changeA | unfold changeU)
    all_goals (repeat' split)
    all_goals first | rfl | omega | (exfalso; omega)
def reasonA (I : MI) (i : Int) : Int := if 0 ≤ i ∧ i < I 44 5 then I 45 i.toNat else -3
def reasonU (I : MI) (i : Int) : MI := if 0 ≤ i ∧ i < I 44 5 then I else rfU I (-3)
theorem c_X9_reason {N : Nat} {I : MI} {J : MJ} {i : Int} (hr : Rf I) (hm : I 44 5 ≤ 60) : CT 89 [aR 0, aI i] (MM N I J) (QU N J (aI (reasonA I i)) (reasonU I i)) := by
  refine CT.ofV (n := 2) (ls := [some (aR 0), some (aI i)]) rfl rfl rfl ?_
  refine V.blk [(0, .iload 1, 1), (1, .aload 0, 1), (2, .getfield 9007, 3), (5, .getfield 4005, 3)] (ps := []) (z' := (8, [some (aR 0), some (aI i)], [aI (I 44 5), aI i], MM N I J)) (by decide +kernel) rfl trivial ?_
  refine V.cs (c := 103) (na := 2) [aI (I 44 5), aI i] [] (by decide +kernel) rfl rfl (V.pr (c_X9_within) ?_)
  show V 89 (11, [some (aR 0), some (aI i)], [aI (b2 (decide (0 ≤ i ∧ i < (I 44 5))))], MM N I J) _
  refine V.blk [(11, .ifCond .ne 21, 3)] (ps := []) (z' := (brc .ne (b2 (decide (0 ≤ i ∧ i < (I 44 5)))) 0 21 14, [some (aR 0), some (aI i)], [], MM N I J)) (by decide +kernel) rfl trivial ?_
  refine V.ne (fun h1 => ?_) (fun h2 => ?_)
  · skip
    try simp only [b2_cast, b2_ncast, Classical.not_not] at h1
    refine V.blk [(21, .aload 0, 1), (22, .getfield 9007, 3), (25, .getfield 4004, 3), (28, .iload 1, 1), (29, .iaload, 1)] (ps := [0 ≤ i ∧ i < 60]) (z' := (30, [some (aR 0), some (aI i)], [aI (I 45 ((i).toNat))], MM N I J)) (by decide +kernel) rfl (show (0 ≤ i ∧ i < 60) from (by omega)) ?_
    refine V.ri (by decide +kernel) ?_
    refine ⟨congrArg (fun w => some (aI w)) ?_, congrArg (fun w => MM N w J) ?_⟩
    all_goals (first | unfold reasonA | unfold reasonU)
    all_goals (repeat' split)
    all_goals first | rfl | omega | (exfalso; omega)
  · skip
    try simp only [b2_cast, b2_ncast, Classical.not_not] at h2
    refine V.blk [(14, .aload 0, 1), (15, .bipush (-3), 2)] (ps := []) (z' := (17, [some (aR 0), some (aI i)], [aI (-3), aR 0], MM N I J)) (by decide +kernel) rfl trivial ?_
    refine V.cv (c := 98) (na := 2) (o := 9) (a := 0) [aI (-3)] [] (by decide +kernel) rfl rfl rfl rfl rfl ((c_refuse (by assumption) (by omega)).mono (fun rv M1 q => ?_))
    obtain ⟨rfl, rfl⟩ := q
    show V 89 (20, [some (aR 0), some (aI i)], [aI (-3)], MM N ((rfU I (-3))) J) _
    refine V.nI (fun I3 eI3 => ?_)
    refine V.ri (by decide +kernel) ?_
    refine ⟨congrArg (fun w => some (aI w)) ?_, congrArg (fun w => MM N w J) ?_⟩
    subst eI3
    all_goals (first | unfold reasonA | unfold reasonU)
    all_goals (repeat' split)
    all_goals first | rfl | omega | (exfalso; omega)
def tearA (I : MI) : Int := if I 48 1 = -1 then 0 else 1
def tearU (I : MI) : MI := ma I 48 (ma (I 48) 1 (-1))
theorem c_X9_tear {N : Nat} {I : MI} {J : MJ}   : CT 94 [aR 0] (MM N I J) (QU N J (aI (tearA I )) (tearU I )) := by
  refine CT.ofV (n := 2) (ls := [some (aR 0), none]) rfl rfl rfl ?_
  refine V.blk [(0, .aload 0, 1), (1, .getfield 9008, 3), (4, .getfield 5001, 3), (7, .bipush (-1), 1), (8, .if_icmp .ne 15, 3)] (ps := []) (z' := (brc .ne (I 48 1) (-1) 15 11, [some (aR 0), none], [], MM N I J)) (by decide +kernel) rfl trivial ?_
  refine V.ne (fun h1 => ?_) (fun h2 => ?_)
  · skip
    try simp only [b2_cast, b2_ncast, Classical.not_not] at h1
    refine V.blk [(15, .bipush 1, 1), (16, .istore 1, 1), (17, .aload 0, 1), (18, .getfield 9008, 3), (21, .bipush (-1), 1), (22, .putfield 5001, 3), (25, .iload 1, 1)] (ps := []) (z' := (26, [some (aR 0), some (aI 1)], [aI 1], MM N (ma I 48 (ma (I 48) 1 (-1))) J)) (by decide +kernel) rfl trivial ?_
    refine V.nI (fun I3 eI3 => ?_)
    refine V.ri (by decide +kernel) ?_
    refine ⟨congrArg (fun w => some (aI w)) ?_, congrArg (fun w => MM N w J) ?_⟩
    subst eI3
    all_goals (first | unfold tearA | unfold tearU)
    all_goals (repeat' split)
    all_goals first | rfl | omega | (exfalso; omega)
  · skip
    try simp only [b2_cast, b2_ncast, Classical.not_not] at h2
    refine V.blk [(11, .bipush 0, 1), (12, .goto 16, 3), (16, .istore 1, 1), (17, .aload 0, 1), (18, .getfield 9008, 3), (21, .bipush (-1), 1), (22, .putfield 5001, 3), (25, .iload 1, 1)] (ps := []) (z' := (26, [some (aR 0), some (aI 0)], [aI 0], MM N (ma I 48 (ma (I 48) 1 (-1))) J)) (by decide +kernel) rfl trivial ?_
    refine V.nI (fun I4 eI4 => ?_)
    refine V.ri (by decide +kernel) ?_
    refine ⟨congrArg (fun w => some (aI w)) ?_, congrArg (fun w => MM N w J) ?_⟩
    subst eI4
    all_goals (first | unfold tearA | unfold tearU)
    all_goals (repeat' split)
    all_goals first | rfl | omega | (exfalso; omega)
def rowA (I : MI) (i : Int) : Int := if I 48 1 = -1 then -2 else if 0 ≤ i ∧ i < I 48 1 then I 49 i.toNat else -3
def rowU (I : MI) (i : Int) : MI := if I 48 1 = -1 then rfU I (-2) else if 0 ≤ i ∧ i < I 48 1 then I else rfU I (-3)
theorem c_X9_row {N : Nat} {I : MI} {J : MJ} {i : Int} (hr : Rf I) (hm : I 48 1 ≤ 40) : CT 95 [aR 0, aI i] (MM N I J) (QU N J (aI (rowA I i)) (rowU I i)) := by
  refine CT.ofV (n := 2) (ls := [some (aR 0), some (aI i)]) rfl rfl rfl ?_
  refine V.blk [(0, .aload 0, 1), (1, .getfield 9008, 3), (4, .getfield 5001, 3), (7, .bipush (-1), 1), (8, .if_icmp .ne 18, 3)] (ps := []) (z' := (brc .ne (I 48 1) (-1) 18 11, [some (aR 0), some (aI i)], [], MM N I J)) (by decide +kernel) rfl trivial ?_
  refine V.ne (fun h1 => ?_) (fun h2 => ?_)
  · skip
    try simp only [b2_cast, b2_ncast, Classical.not_not] at h1
    refine V.blk [(18, .iload 1, 1), (19, .aload 0, 1), (20, .getfield 9008, 3), (23, .getfield 5001, 3)] (ps := []) (z' := (26, [some (aR 0), some (aI i)], [aI (I 48 1), aI i], MM N I J)) (by decide +kernel) rfl trivial ?_
    refine V.cs (c := 103) (na := 2) [aI (I 48 1), aI i] [] (by decide +kernel) rfl rfl (V.pr (c_X9_within) ?_)
    show V 95 (29, [some (aR 0), some (aI i)], [aI (b2 (decide (0 ≤ i ∧ i < (I 48 1))))], MM N I J) _
    refine V.blk [(29, .ifCond .ne 39, 3)] (ps := []) (z' := (brc .ne (b2 (decide (0 ≤ i ∧ i < (I 48 1)))) 0 39 32, [some (aR 0), some (aI i)], [], MM N I J)) (by decide +kernel) rfl trivial ?_
    refine V.ne (fun h3 => ?_) (fun h4 => ?_)
    · skip
      try simp only [b2_cast, b2_ncast, Classical.not_not] at h3
      refine V.blk [(39, .aload 0, 1), (40, .getfield 9008, 3), (43, .getfield 5000, 3), (46, .iload 1, 1), (47, .iaload, 1)] (ps := [0 ≤ i ∧ i < 40]) (z' := (48, [some (aR 0), some (aI i)], [aI (I 49 ((i).toNat))], MM N I J)) (by decide +kernel) rfl (show (0 ≤ i ∧ i < 40) from (by omega)) ?_
      refine V.ri (by decide +kernel) ?_
      refine ⟨congrArg (fun w => some (aI w)) ?_, congrArg (fun w => MM N w J) ?_⟩
      all_goals (first | unfold rowA | unfold rowU)
      all_goals (repeat' split)
      all_goals first | rfl | omega | (exfalso; omega)
    · skip
      try simp only [b2_cast, b2_ncast, Classical.not_not] at h4
      refine V.blk [(32, .aload 0, 1), (33, .bipush (-3), 2)] (ps := []) (z' := (35, [some (aR 0), some (aI i)], [aI (-3), aR 0], MM N I J)) (by decide +kernel) rfl trivial ?_
      refine V.cv (c := 98) (na := 2) (o := 9) (a := 0) [aI (-3)] [] (by decide +kernel) rfl rfl rfl rfl rfl ((c_refuse (by assumption) (by omega)).mono (fun rv M1 q => ?_))
      obtain ⟨rfl, rfl⟩ := q
      show V 95 (38, [some (aR 0), some (aI i)], [aI (-3)], MM N ((rfU I (-3))) J) _
      refine V.nI (fun I5 eI5 => ?_)
      refine V.ri (by decide +kernel) ?_
      refine ⟨congrArg (fun w => some (aI w)) ?_, congrArg (fun w => MM N w J) ?_⟩
      subst eI5
      all_goals (first | unfold rowA | unfold rowU)
      all_goals (repeat' split)
      all_goals first | rfl | omega | (exfalso; omega)
  · skip
    try simp only [b2_cast, b2_ncast, Classical.not_not] at h2
    refine V.blk [(11, .aload 0, 1), (12, .bipush (-2), 2)] (ps := []) (z' := (14, [some (aR 0), some (aI i)], [aI (-2), aR 0], MM N I J)) (by decide +kernel) rfl trivial ?_
    refine V.cv (c := 98) (na := 2) (o := 9) (a := 0) [aI (-2)] [] (by decide +kernel) rfl rfl rfl rfl rfl ((c_refuse (by assumption) (by omega)).mono (fun rv M1 q => ?_))
    obtain ⟨rfl, rfl⟩ := q
    show V 95 (17, [some (aR 0), some (aI i)], [aI (-2)], MM N ((rfU I (-2))) J) _
    refine V.nI (fun I6 eI6 => ?_)
    refine V.ri (by decide +kernel) ?_
    refine ⟨congrArg (fun w => some (aI w)) ?_, congrArg (fun w => MM N w J) ?_⟩
    subst eI6
    all_goals (first | unfold rowA | unfold rowU)
    all_goals (repeat' split)
    all_goals first | rfl | omega | (exfalso; omega)
def copyA (I : MI) (i j n : Int) : Int := if I 48 1 = -1 then -2 else if n < 0 then -4 else if i < 0 ∨ j < 0 ∨ I 48 1 - i < n ∨ I 48 1 - j < n then -6 else n
def copyU (I : MI) (i j n : Int) : MI := if I 48 1 = -1 then rfU I (-2) else if n < 0 then rfU I (-4) else if i < 0 ∨ j < 0 ∨ I 48 1 - i < n ∨ I 48 1 - j < n then rfU I (-6) else ma I 49 (acp (I 49) (I 49) i.toNat j.toNat n.toNat)
theorem c_X9_copy {N : Nat} {I : MI} {J : MJ} {i j n : Int} (hr : Rf I) (hm : -1 ≤ I 48 1 ∧ I 48 1 ≤ 40) (hi : inR i ∧ inR j ∧ inR n) : CT 96 [aR 0, aI i, aI j, aI n] (MM N I J) (QU N J (aI (copyA I i j n)) (copyU I i j n)) := by
  refine CT.ofV (n := 4) (ls := [some (aR 0), some (aI i), some (aI j), some (aI n)]) rfl rfl rfl ?_
  unfold inR at hi
  refine V.blk [(0, .aload 0, 1), (1, .getfield 9008, 3), (4, .getfield 5001, 3), (7, .bipush (-1), 1), (8, .if_icmp .ne 18, 3)] (ps := []) (z' := (brc .ne (I 48 1) (-1) 18 11, [some (aR 0), some (aI i), some (aI j), some (aI n)], [], MM N I J)) (by decide +kernel) rfl trivial ?_
  refine V.ne (fun h1 => ?_) (fun h2 => ?_)
  · skip
    try simp only [b2_cast, b2_ncast, Classical.not_not] at h1
    refine V.blk [(18, .iload 3, 1), (19, .ifCond .ge 29, 3)] (ps := []) (z' := (brc .ge n 0 29 22, [some (aR 0), some (aI i), some (aI j), some (aI n)], [], MM N I J)) (by decide +kernel) rfl trivial ?_
    refine V.ge (fun h3 => ?_) (fun h4 => ?_)
    · skip
      try simp only [b2_cast, b2_ncast, Classical.not_not] at h3
      refine V.blk [(29, .iload 1, 1), (30, .ifCond .lt 63, 3)] (ps := []) (z' := (brc .lt i 0 63 33, [some (aR 0), some (aI i), some (aI j), some (aI n)], [], MM N I J)) (by decide +kernel) rfl trivial ?_
      refine V.lt (fun h5 => ?_) (fun h6 => ?_)
      · skip
        try simp only [b2_cast, b2_ncast, Classical.not_not] at h5
        refine V.blk [(63, .aload 0, 1), (64, .bipush (-6), 2)] (ps := []) (z' := (66, [some (aR 0), some (aI i), some (aI j), some (aI n)], [aI (-6), aR 0], MM N I J)) (by decide +kernel) rfl trivial ?_
        refine V.cv (c := 98) (na := 2) (o := 9) (a := 0) [aI (-6)] [] (by decide +kernel) rfl rfl rfl rfl rfl ((c_refuse (by assumption) (by omega)).mono (fun rv M1 q => ?_))
        obtain ⟨rfl, rfl⟩ := q
        show V 96 (69, [some (aR 0), some (aI i), some (aI j), some (aI n)], [aI (-6)], MM N ((rfU I (-6))) J) _
        refine V.nI (fun I7 eI7 => ?_)
        refine V.ri (by decide +kernel) ?_
        refine ⟨congrArg (fun w => some (aI w)) ?_, congrArg (fun w => MM N w J) ?_⟩
        subst eI7
        all_goals (first | unfold copyA | unfold copyU)
        all_goals (repeat' split)
        all_goals first | rfl | omega | (exfalso; omega)
      · skip
        try simp only [b2_cast, b2_ncast, Classical.not_not] at h6
        refine V.blk [(33, .iload 2, 1), (34, .ifCond .lt 63, 3)] (ps := []) (z' := (brc .lt j 0 63 37, [some (aR 0), some (aI i), some (aI j), some (aI n)], [], MM N I J)) (by decide +kernel) rfl trivial ?_
        refine V.lt (fun h8 => ?_) (fun h9 => ?_)
        · skip
          try simp only [b2_cast, b2_ncast, Classical.not_not] at h8
          refine V.blk [(63, .aload 0, 1), (64, .bipush (-6), 2)] (ps := []) (z' := (66, [some (aR 0), some (aI i), some (aI j), some (aI n)], [aI (-6), aR 0], MM N I J)) (by decide +kernel) rfl trivial ?_
          refine V.cv (c := 98) (na := 2) (o := 9) (a := 0) [aI (-6)] [] (by decide +kernel) rfl rfl rfl rfl rfl ((c_refuse (by assumption) (by omega)).mono (fun rv M1 q => ?_))
          obtain ⟨rfl, rfl⟩ := q
          show V 96 (69, [some (aR 0), some (aI i), some (aI j), some (aI n)], [aI (-6)], MM N ((rfU I (-6))) J) _
          refine V.nI (fun I10 eI10 => ?_)
          refine V.ri (by decide +kernel) ?_
          refine ⟨congrArg (fun w => some (aI w)) ?_, congrArg (fun w => MM N w J) ?_⟩
          subst eI10
          all_goals (first | unfold copyA | unfold copyU)
          all_goals (repeat' split)
          all_goals first | rfl | omega | (exfalso; omega)
        · skip
          try simp only [b2_cast, b2_ncast, Classical.not_not] at h9
          refine V.blk [(37, .iload 3, 1), (38, .aload 0, 1), (39, .getfield 9008, 3), (42, .getfield 5001, 3), (45, .iload 1, 1), (46, .isub, 1), (47, .if_icmp .gt 63, 3)] (ps := [inR ((I 48 1) - i)]) (z' := (brc .gt n ((I 48 1) - i) 63 50, [some (aR 0), some (aI i), some (aI j), some (aI n)], [], MM N I J)) (by decide +kernel) rfl (show (inR ((I 48 1) - i)) from (by unfold inR; omega)) ?_
          refine V.gt (fun h11 => ?_) (fun h12 => ?_)
          · skip
            try simp only [b2_cast, b2_ncast, Classical.not_not] at h11
            refine V.blk [(63, .aload 0, 1), (64, .bipush (-6), 2)] (ps := []) (z' := (66, [some (aR 0), some (aI i), some (aI j), some (aI n)], [aI (-6), aR 0], MM N I J)) (by decide +kernel) rfl trivial ?_
            refine V.cv (c := 98) (na := 2) (o := 9) (a := 0) [aI (-6)] [] (by decide +kernel) rfl rfl rfl rfl rfl ((c_refuse (by assumption) (by omega)).mono (fun rv M1 q => ?_))
            obtain ⟨rfl, rfl⟩ := q
            show V 96 (69, [some (aR 0), some (aI i), some (aI j), some (aI n)], [aI (-6)], MM N ((rfU I (-6))) J) _
            refine V.nI (fun I13 eI13 => ?_)
            refine V.ri (by decide +kernel) ?_
            refine ⟨congrArg (fun w => some (aI w)) ?_, congrArg (fun w => MM N w J) ?_⟩
            subst eI13
            all_goals (first | unfold copyA | unfold copyU)
            all_goals (repeat' split)
            all_goals first | rfl | omega | (exfalso; omega)
          · skip
            try simp only [b2_cast, b2_ncast, Classical.not_not] at h12
            refine V.blk [(50, .iload 3, 1), (51, .aload 0, 1), (52, .getfield 9008, 3), (55, .getfield 5001, 3), (58, .iload 2, 1), (59, .isub, 1), (60, .if_icmp .le 70, 3)] (ps := [inR ((I 48 1) - j)]) (z' := (brc .le n ((I 48 1) - j) 70 63, [some (aR 0), some (aI i), some (aI j), some (aI n)], [], MM N I J)) (by decide +kernel) rfl (show (inR ((I 48 1) - j)) from (by unfold inR; omega)) ?_
            refine V.le (fun h14 => ?_) (fun h15 => ?_)
            · skip
              try simp only [b2_cast, b2_ncast, Classical.not_not] at h14
              refine V.blk [(70, .aload 0, 1), (71, .getfield 9008, 3), (74, .getfield 5000, 3), (77, .iload 1, 1), (78, .aload 0, 1), (79, .getfield 9008, 3), (82, .getfield 5000, 3), (85, .iload 2, 1), (86, .iload 3, 1), (87, .invokestatic 1002, 3), (90, .iload 3, 1)] (ps := [0 ≤ i ∧ 0 ≤ j ∧ 0 ≤ n ∧ i + n ≤ 40 ∧ j + n ≤ 40]) (z' := (91, [some (aR 0), some (aI i), some (aI j), some (aI n)], [aI n], MM N (ma I 49 (acp (I 49) (I 49) ((i).toNat) ((j).toNat) ((n).toNat))) J)) (by decide +kernel) rfl (show (0 ≤ i ∧ 0 ≤ j ∧ 0 ≤ n ∧ i + n ≤ 40 ∧ j + n ≤ 40) from (by omega)) ?_
              refine V.nI (fun I16 eI16 => ?_)
              refine V.ri (by decide +kernel) ?_
              refine ⟨congrArg (fun w => some (aI w)) ?_, congrArg (fun w => MM N w J) ?_⟩
              subst eI16
              all_goals (first | unfold copyA | unfold copyU)
              all_goals (repeat' split)
              all_goals first | rfl | omega | (exfalso; omega)
            · skip
              try simp only [b2_cast, b2_ncast, Classical.not_not] at h15
              refine V.blk [(63, .aload 0, 1), (64, .bipush (-6), 2)] (ps := []) (z' := (66, [some (aR 0), some (aI i), some (aI j), some (aI n)], [aI (-6), aR 0], MM N I J)) (by decide +kernel) rfl trivial ?_
              refine V.cv (c := 98) (na := 2) (o := 9) (a := 0) [aI (-6)] [] (by decide +kernel) rfl rfl rfl rfl rfl ((c_refuse (by assumption) (by omega)).mono (fun rv M1 q => ?_))
              obtain ⟨rfl, rfl⟩ := q
              show V 96 (69, [some (aR 0), some (aI i), some (aI j), some (aI n)], [aI (-6)], MM N ((rfU I (-6))) J) _
              refine V.nI (fun I17 eI17 => ?_)
              refine V.ri (by decide +kernel) ?_
              refine ⟨congrArg (fun w => some (aI w)) ?_, congrArg (fun w => MM N w J) ?_⟩
              subst eI17
              all_goals (first | unfold copyA | unfold copyU)
              all_goals (repeat' split)
              all_goals first | rfl | omega | (exfalso; omega)
    · skip
      try simp only [b2_cast, b2_ncast, Classical.not_not] at h4
      refine V.blk [(22, .aload 0, 1), (23, .bipush (-4), 2)] (ps := []) (z' := (25, [some (aR 0), some (aI i), some (aI j), some (aI n)], [aI (-4), aR 0], MM N I J)) (by decide +kernel) rfl trivial ?_
      refine V.cv (c := 98) (na := 2) (o := 9) (a := 0) [aI (-4)] [] (by decide +kernel) rfl rfl rfl rfl rfl ((c_refuse (by assumption) (by omega)).mono (fun rv M1 q => ?_))
      obtain ⟨rfl, rfl⟩ := q
      show V 96 (28, [some (aR 0), some (aI i), some (aI j), some (aI n)], [aI (-4)], MM N ((rfU I (-4))) J) _
      refine V.nI (fun I18 eI18 => ?_)
      refine V.ri (by decide +kernel) ?_
      refine ⟨congrArg (fun w => some (aI w)) ?_, congrArg (fun w => MM N w J) ?_⟩
      subst eI18
      all_goals (first | unfold copyA | unfold copyU)
      all_goals (repeat' split)
      all_goals first | rfl | omega | (exfalso; omega)
  · skip
    try simp only [b2_cast, b2_ncast, Classical.not_not] at h2
    refine V.blk [(11, .aload 0, 1), (12, .bipush (-2), 2)] (ps := []) (z' := (14, [some (aR 0), some (aI i), some (aI j), some (aI n)], [aI (-2), aR 0], MM N I J)) (by decide +kernel) rfl trivial ?_
    refine V.cv (c := 98) (na := 2) (o := 9) (a := 0) [aI (-2)] [] (by decide +kernel) rfl rfl rfl rfl rfl ((c_refuse (by assumption) (by omega)).mono (fun rv M1 q => ?_))
    obtain ⟨rfl, rfl⟩ := q
    show V 96 (17, [some (aR 0), some (aI i), some (aI j), some (aI n)], [aI (-2)], MM N ((rfU I (-2))) J) _
    refine V.nI (fun I19 eI19 => ?_)
    refine V.ri (by decide +kernel) ?_
    refine ⟨congrArg (fun w => some (aI w)) ?_, congrArg (fun w => MM N w J) ?_⟩
    subst eI19
    all_goals (first | unfold copyA | unfold copyU)
    all_goals (repeat' split)
    all_goals first | rfl | omega | (exfalso; omega)
def statusA (I : MI) (z : Int) : Int := if -9 ≤ z ∧ z ≤ -2 then I 51 (-2 - z).toNat else -8
def statusU (I : MI) (z : Int) : MI := if -9 ≤ z ∧ z ≤ -2 then I else rfU I (-8)
theorem c_X9_status {N : Nat} {I : MI} {J : MJ} {z : Int} (hr : Rf I) (hz : inR z) : CT 97 [aR 0, aI z] (MM N I J) (QU N J (aI (statusA I z)) (statusU I z)) := by
  refine CT.ofV (n := 2) (ls := [some (aR 0), some (aI z)]) rfl rfl rfl ?_
  unfold inR at hz
  refine V.blk [(0, .iload 1, 1), (1, .bipush (-2), 2), (3, .if_icmp .gt 12, 3)] (ps := []) (z' := (brc .gt z (-2) 12 6, [some (aR 0), some (aI z)], [], MM N I J)) (by decide +kernel) rfl trivial ?_
  refine V.gt (fun h1 => ?_) (fun h2 => ?_)
  · skip
    try simp only [b2_cast, b2_ncast, Classical.not_not] at h1
    refine V.blk [(12, .aload 0, 1), (13, .bipush (-8), 2)] (ps := []) (z' := (15, [some (aR 0), some (aI z)], [aI (-8), aR 0], MM N I J)) (by decide +kernel) rfl trivial ?_
    refine V.cv (c := 98) (na := 2) (o := 9) (a := 0) [aI (-8)] [] (by decide +kernel) rfl rfl rfl rfl rfl ((c_refuse (by assumption) (by omega)).mono (fun rv M1 q => ?_))
    obtain ⟨rfl, rfl⟩ := q
    show V 97 (18, [some (aR 0), some (aI z)], [aI (-8)], MM N ((rfU I (-8))) J) _
    refine V.nI (fun I3 eI3 => ?_)
    refine V.ri (by decide +kernel) ?_
    refine ⟨congrArg (fun w => some (aI w)) ?_, congrArg (fun w => MM N w J) ?_⟩
    subst eI3
    all_goals (first | unfold statusA | unfold statusU)
    all_goals (repeat' split)
    all_goals first | rfl | omega | (exfalso; omega)
  · skip
    try simp only [b2_cast, b2_ncast, Classical.not_not] at h2
    refine V.blk [(6, .iload 1, 1), (7, .bipush (-9), 2), (9, .if_icmp .ge 19, 3)] (ps := []) (z' := (brc .ge z (-9) 19 12, [some (aR 0), some (aI z)], [], MM N I J)) (by decide +kernel) rfl trivial ?_
    refine V.ge (fun h4 => ?_) (fun h5 => ?_)
    · skip
      try simp only [b2_cast, b2_ncast, Classical.not_not] at h4
      refine V.blk [(19, .aload 0, 1), (20, .getfield 9010, 3), (23, .bipush (-2), 2), (25, .iload 1, 1), (26, .isub, 1), (27, .iaload, 1)] (ps := [inR ((-2) - z), 0 ≤ ((-2) - z) ∧ ((-2) - z) < 8]) (z' := (28, [some (aR 0), some (aI z)], [aI (I 51 (((-2) - z).toNat))], MM N I J)) (by decide +kernel) rfl (show (inR ((-2) - z)) ∧ (0 ≤ ((-2) - z) ∧ ((-2) - z) < 8) from ⟨(by unfold inR; omega), (by omega)⟩) ?_
      refine V.ri (by decide +kernel) ?_
      refine ⟨congrArg (fun w => some (aI w)) ?_, congrArg (fun w => MM N w J) ?_⟩
      all_goals (first | unfold statusA | unfold statusU)
      all_goals (repeat' split)
      all_goals first | rfl | omega | (exfalso; omega)
    · skip
      try simp only [b2_cast, b2_ncast, Classical.not_not] at h5
      refine V.blk [(12, .aload 0, 1), (13, .bipush (-8), 2)] (ps := []) (z' := (15, [some (aR 0), some (aI z)], [aI (-8), aR 0], MM N I J)) (by decide +kernel) rfl trivial ?_
      refine V.cv (c := 98) (na := 2) (o := 9) (a := 0) [aI (-8)] [] (by decide +kernel) rfl rfl rfl rfl rfl ((c_refuse (by assumption) (by omega)).mono (fun rv M1 q => ?_))
      obtain ⟨rfl, rfl⟩ := q
      show V 97 (18, [some (aR 0), some (aI z)], [aI (-8)], MM N ((rfU I (-8))) J) _
      refine V.nI (fun I6 eI6 => ?_)
      refine V.ri (by decide +kernel) ?_
      refine ⟨congrArg (fun w => some (aI w)) ?_, congrArg (fun w => MM N w J) ?_⟩
      subst eI6
      all_goals (first | unfold statusA | unfold statusU)
      all_goals (repeat' split)
      all_goals first | rfl | omega | (exfalso; omega)
