/-! ===== the reference: inForce, change, undo, copy ===== -/
theorem ma_id {α : Type} (f : Nat → α) (i : Nat) : ma f i (f i) = f := by
  funext j
  unfold ma
  split
  · rename_i h; rw [h]
  · rfl
theorem ma_mi (f : MI) (i : Nat) (g : Nat → Int) (k : Nat) (v : Int) : ma (ma f i g) i (ma (ma f i g i) k v) = ma f i (ma g k v) := by rw [ma_ma, ma_self]
def infMB (I : MI) (t : Int) (p : Nat) : Bool := decide (I 63 p ≤ t ∧ (I 64 p = -1 ∨ t < I 64 p))
theorem l_minForce {N : Nat} {I : MI} {J : MJ} {t : Int} {m : Nat} (hm : I 52 13 = m) (h4 : m ≤ 400) : ∀ (n p : Nat) (c : Int), m + 1 ≤ p + n → p ≤ m → c = cntF (infMB I t) p → V 158 (19, [some (aR 52), some (aI t), some (aI c), some (aI (p : Int))], [], MM N I J) (pure1 N I J (aI (cntF (infMB I t) m))) := by
  intro n
  induction n with
  | zero => intro p c h1 h2; exfalso; omega
  | succ n ih =>
    intro p c h1 h2 hc
    have hcb := cntF_in (infMB I t) p
    refine V.blk [(19, .iload 3, 1), (20, .aload 0, 1), (21, .getfield 10013, 3), (24, .if_icmp .ge 50, 3)] (ps := []) (z' := (brc .ge (p : Int) (I 52 13) 50 27, [some (aR 52), some (aI t), some (aI c), some (aI (p : Int))], [], MM N I J)) (by decide +kernel) rfl trivial ?_
    refine V.ge (fun h1 => ?_) (fun h2 => ?_)
    · skip
      try simp only [b2_cast, b2_ncast, Classical.not_not, lcm_lt, lcm_ge, lcm_gt, lcm_le, lcm_eq] at h1
      refine V.blk [(50, .iload 2, 1)] (ps := []) (z' := (51, [some (aR 52), some (aI t), some (aI c), some (aI (p : Int))], [aI c], MM N I J)) (by decide +kernel) rfl trivial ?_
      refine V.ri (by decide +kernel) ?_
      have e : p = m := by omega
      subst e
      exact ⟨by rw [hc], rfl⟩
    · skip
      try simp only [b2_cast, b2_ncast, Classical.not_not, lcm_lt, lcm_ge, lcm_gt, lcm_le, lcm_eq] at h2
      refine V.blk [(27, .iload 2, 1), (28, .aload 0, 1), (29, .iload 3, 1), (30, .iload 1, 1)] (ps := []) (z' := (31, [some (aR 52), some (aI t), some (aI c), some (aI (p : Int))], [aI t, aI (p : Int), aR 52, aI c], MM N I J)) (by decide +kernel) rfl trivial ?_
      refine V.cv (c := 148) (na := 3) (o := 10) (a := 52) [aI t, aI (p : Int)] [aI c] (by decide +kernel) rfl rfl rfl rfl rfl (V.pr (m_X10_isInForce (by omega)) ?_)
      show V 158 (34, [some (aR 52), some (aI t), some (aI c), some (aI (p : Int))], [aI (b2 (decide (I 63 p ≤ t ∧ (I 64 p = -1 ∨ t < I 64 p)))), aI c], MM N I J) _
      refine V.blk [(34, .ifCond .eq 41, 3)] (ps := []) (z' := (brc .eq (b2 (decide (I 63 p ≤ t ∧ (I 64 p = -1 ∨ t < I 64 p)))) 0 41 37, [some (aR 52), some (aI t), some (aI c), some (aI (p : Int))], [aI c], MM N I J)) (by decide +kernel) rfl trivial ?_
      refine V.eq (fun h3 => ?_) (fun h4 => ?_)
      · skip
        try simp only [b2_cast, b2_ncast, Classical.not_not, lcm_lt, lcm_ge, lcm_gt, lcm_le, lcm_eq] at h3
        refine V.blk [(41, .bipush 0, 1), (42, .iadd, 1), (43, .istore 2, 1), (44, .iinc 3 1, 3), (47, .goto 19, 3)] (ps := [inR (c + 0), inR ((p : Int) + 1)]) (z' := (19, [some (aR 52), some (aI t), some (aI (c + 0)), some (aI ((p + 1 : Nat) : Int))], [], MM N I J)) (by decide +kernel) rfl (show (inR (c + 0)) ∧ (inR ((p : Int) + 1)) from ⟨(by unfold inR; omega), (by unfold inR; omega)⟩) ?_
        exact ih (p + 1) (c + 0) (by omega) (by omega) (by first | (rw [cntF_t (decide_eq_true (by assumption))]; omega) | (rw [cntF_f (decide_eq_false (by assumption))]; omega))
      · skip
        try simp only [b2_cast, b2_ncast, Classical.not_not, lcm_lt, lcm_ge, lcm_gt, lcm_le, lcm_eq] at h4
        refine V.blk [(37, .bipush 1, 1), (38, .goto 42, 3), (42, .iadd, 1), (43, .istore 2, 1), (44, .iinc 3 1, 3), (47, .goto 19, 3)] (ps := [inR (c + 1), inR ((p : Int) + 1)]) (z' := (19, [some (aR 52), some (aI t), some (aI (c + 1)), some (aI ((p + 1 : Nat) : Int))], [], MM N I J)) (by decide +kernel) rfl (show (inR (c + 1)) ∧ (inR ((p : Int) + 1)) from ⟨(by unfold inR; omega), (by unfold inR; omega)⟩) ?_
        exact ih (p + 1) (c + 1) (by omega) (by omega) (by first | (rw [cntF_t (decide_eq_true (by assumption))]; omega) | (rw [cntF_f (decide_eq_false (by assumption))]; omega))
def inForceMA (I : MI) (t : Int) : Int := if 0 ≤ t ∧ t ≤ I 52 18 then cntF (infMB I t) (I 52 13).toNat else -3
def inForceMU (I : MI) (t : Int) : MI := if 0 ≤ t ∧ t ≤ I 52 18 then I else noU I (-3)
theorem m_X10_inForce {N : Nat} {I : MI} {J : MJ} {t : Int} (hr : RfM I) (hm : 0 ≤ I 52 13 ∧ I 52 13 ≤ 400) : CT 158 [aR 52, aI t] (MM N I J) (QU N J (aI (inForceMA I t)) (inForceMU I t)) := by
  refine CT.ofV (n := 4) (ls := [some (aR 52), some (aI t), none, none]) rfl rfl rfl ?_
  refine V.blk [(0, .aload 0, 1), (1, .iload 1, 1)] (ps := []) (z' := (2, [some (aR 52), some (aI t), none, none], [aI t, aR 52], MM N I J)) (by decide +kernel) rfl trivial ?_
  refine V.cv (c := 120) (na := 2) (o := 10) (a := 52) [aI t] [] (by decide +kernel) rfl rfl rfl rfl rfl (V.pr (m_X10_isTurn) ?_)
  show V 158 (5, [some (aR 52), some (aI t), none, none], [aI (b2 (decide (0 ≤ t ∧ t ≤ I 52 18)))], MM N I J) _
  refine V.blk [(5, .ifCond .ne 15, 3)] (ps := []) (z' := (brc .ne (b2 (decide (0 ≤ t ∧ t ≤ I 52 18))) 0 15 8, [some (aR 52), some (aI t), none, none], [], MM N I J)) (by decide +kernel) rfl trivial ?_
  refine V.ne (fun h1 => ?_) (fun h2 => ?_)
  · skip
    try simp only [b2_cast, b2_ncast, Classical.not_not, lcm_lt, lcm_ge, lcm_gt, lcm_le, lcm_eq] at h1
    refine V.blk [(15, .bipush 0, 1), (16, .istore 2, 1), (17, .bipush 0, 1), (18, .istore 3, 1)] (ps := []) (z' := (19, [some (aR 52), some (aI t), some (aI 0), some (aI 0)], [], MM N I J)) (by decide +kernel) rfl trivial ?_
    refine (l_minForce (m := (I 52 13).toNat) (by omega) (by omega) ((I 52 13).toNat + 1) 0 0 (by omega) (by omega) rfl).mono (fun r M' q => ?_)
    obtain ⟨rfl, rfl⟩ := q
    refine ⟨congrArg (fun w => some (aI w)) ?_, congrArg (fun w => MM N w J) ?_⟩
    · rw [inForceMA, if_pos (by omega)]
    · rw [inForceMU, if_pos (by omega)]
  · skip
    try simp only [b2_cast, b2_ncast, Classical.not_not, lcm_lt, lcm_ge, lcm_gt, lcm_le, lcm_eq] at h2
    refine V.blk [(8, .aload 0, 1), (9, .bipush (-3), 2)] (ps := []) (z' := (11, [some (aR 52), some (aI t), none, none], [aI (-3), aR 52], MM N I J)) (by decide +kernel) rfl trivial ?_
    refine V.cv (c := 116) (na := 2) (o := 10) (a := 52) [aI (-3)] [] (by decide +kernel) rfl rfl rfl rfl rfl ((m_no (by assumption) (by omega)).mono (fun rv M1 q => ?_))
    obtain ⟨rfl, rfl⟩ := q
    show V 158 (14, [some (aR 52), some (aI t), none, none], [aI (-3)], MM N ((noU I (-3))) J) _
    refine V.nI (fun I3 eI3 => ?_)
    refine V.ri (by decide +kernel) ?_
    refine ⟨congrArg (fun w => some (aI w)) ?_, congrArg (fun w => MM N w J) ?_⟩
    all_goals subst eI3
    all_goals (first | unfold inForceMA | unfold inForceMU)
    all_goals (repeat' split)
    all_goals first | rfl | omega | (exfalso; omega) | (simp [ma, ma_ma, actMU, vnU])
theorem l_mchange {N : Nat} {I : MI} {J : MJ} {t i : Int} {n f : Nat} (hn : I 52 17 = n) (h8 : n ≤ 800) (hfn : f ≤ n) (hi : 0 ≤ i ∧ i ≤ 2147483647) (hf : ∀ c : Nat, c < n → (I 65 c ≤ t ↔ c < f)) (hA : ∀ c : Nat, c < n → 0 ≤ I 66 c ∧ I 66 c ≤ 400 ∧ 0 ≤ I 67 c ∧ I 67 c ≤ 1) : ∀ (m k : Nat) (x : Int), n + 1 ≤ m + k → k ≤ n → (x = if k ≤ f then i else i - ((k : Int) - f)) → 0 ≤ x → V 160 (31, [some (aR 52), some (aI t), some (aI i), some (aI x), some (aI (k : Int))], [], MM N I J) (pure1 N I J (aI (if i < (n : Int) - f then 2 * I 66 (f + i.toNat) + I 67 (f + i.toNat) else -1))) := by
  intro m
  induction m with
  | zero => intro k x h1 h2; exfalso; omega
  | succ m ih =>
    intro k x h1 h2 hx hx0
    refine V.blk [(31, .iload 4, 2), (33, .aload 0, 1), (34, .getfield 10017, 3), (37, .if_icmp .ge 93, 3)] (ps := []) (z' := (brc .ge (k : Int) (I 52 17) 93 40, [some (aR 52), some (aI t), some (aI i), some (aI x), some (aI (k : Int))], [], MM N I J)) (by decide +kernel) rfl trivial ?_
    refine V.ge (fun h1 => ?_) (fun h2 => ?_)
    · skip
      try simp only [b2_cast, b2_ncast, Classical.not_not, lcm_lt, lcm_ge, lcm_gt, lcm_le, lcm_eq] at h1
      refine V.blk [(93, .bipush (-1), 1)] (ps := []) (z' := (94, [some (aR 52), some (aI t), some (aI i), some (aI x), some (aI (k : Int))], [aI (-1)], MM N I J)) (by decide +kernel) rfl trivial ?_
      refine V.ri (by decide +kernel) ?_
      refine ⟨congrArg (fun w => some (aI w)) ?_, rfl⟩
      split at hx
      · rw [if_neg (by omega)]
      · rw [if_neg (by omega)]
    · skip
      try simp only [b2_cast, b2_ncast, Classical.not_not, lcm_lt, lcm_ge, lcm_gt, lcm_le, lcm_eq] at h2
      have hfk := hf k (by omega)
      have hAk := hA k (by omega)
      refine V.blk [(40, .aload 0, 1), (41, .getfield 10014, 3), (44, .iload 4, 2), (46, .iaload, 1), (47, .iload 1, 1), (48, .if_icmp .gt 54, 3)] (ps := [0 ≤ (k : Int) ∧ (k : Int) < 4020]) (z' := (brc .gt (I 65 k) t 54 51, [some (aR 52), some (aI t), some (aI i), some (aI x), some (aI (k : Int))], [], MM N I J)) (by decide +kernel) rfl (show (0 ≤ (k : Int) ∧ (k : Int) < 4020) from (by omega)) ?_
      refine V.gt (fun h3 => ?_) (fun h4 => ?_)
      · skip
        try simp only [b2_cast, b2_ncast, Classical.not_not, lcm_lt, lcm_ge, lcm_gt, lcm_le, lcm_eq] at h3
        refine V.blk [(54, .iload 3, 1), (55, .ifCond .ne 84, 3)] (ps := []) (z' := (brc .ne x 0 84 58, [some (aR 52), some (aI t), some (aI i), some (aI x), some (aI (k : Int))], [], MM N I J)) (by decide +kernel) rfl trivial ?_
        refine V.ne (fun h5 => ?_) (fun h6 => ?_)
        · skip
          try simp only [b2_cast, b2_ncast, Classical.not_not, lcm_lt, lcm_ge, lcm_gt, lcm_le, lcm_eq] at h5
          refine V.blk [(84, .iinc 3 (-1), 3), (87, .iinc 4 1, 3), (90, .goto 31, 3)] (ps := [inR (x + (-1)), inR ((k : Int) + 1)]) (z' := (31, [some (aR 52), some (aI t), some (aI i), some (aI (x + (-1))), some (aI ((k + 1 : Nat) : Int))], [], MM N I J)) (by decide +kernel) rfl (show (inR (x + (-1))) ∧ (inR ((k : Int) + 1)) from ⟨(by unfold inR; omega), (by unfold inR; omega)⟩) ?_
          refine ih (k + 1) (x + (-1)) (by omega) (by omega) ?_ ?_
          · split at hx <;> split <;> omega
          · split at hx <;> omega
        · skip
          try simp only [b2_cast, b2_ncast, Classical.not_not, lcm_lt, lcm_ge, lcm_gt, lcm_le, lcm_eq] at h6
          refine V.blk [(58, .bipush 2, 1), (59, .aload 0, 1), (60, .getfield 10015, 3), (63, .iload 4, 2), (65, .iaload, 1), (66, .imul, 1), (67, .aload 0, 1), (68, .getfield 10016, 3), (71, .iload 4, 2), (73, .baload, 1), (74, .ifCond .eq 81, 3)] (ps := [0 ≤ (k : Int) ∧ (k : Int) < 4020, inR (2 * (I 66 k)), 0 ≤ (k : Int) ∧ (k : Int) < 4020]) (z' := (brc .eq (I 67 k) 0 81 77, [some (aR 52), some (aI t), some (aI i), some (aI x), some (aI (k : Int))], [aI (2 * (I 66 k))], MM N I J)) (by decide +kernel) rfl (show (0 ≤ (k : Int) ∧ (k : Int) < 4020) ∧ (inR (2 * (I 66 k))) ∧ (0 ≤ (k : Int) ∧ (k : Int) < 4020) from ⟨(by omega), (by unfold inR; omega), (by omega)⟩) ?_
          refine V.eq (fun h7 => ?_) (fun h8 => ?_)
          · skip
            try simp only [b2_cast, b2_ncast, Classical.not_not, lcm_lt, lcm_ge, lcm_gt, lcm_le, lcm_eq] at h7
            refine V.blk [(81, .bipush 0, 1), (82, .iadd, 1)] (ps := [inR ((2 * (I 66 k)) + 0)]) (z' := (83, [some (aR 52), some (aI t), some (aI i), some (aI x), some (aI (k : Int))], [aI ((2 * (I 66 k)) + 0)], MM N I J)) (by decide +kernel) rfl (show (inR ((2 * (I 66 k)) + 0)) from (by unfold inR; omega)) ?_
            refine V.ri (by decide +kernel) ?_
            refine ⟨congrArg (fun w => some (aI w)) ?_, rfl⟩
            split at hx
            · rw [if_pos (by omega)]
              rw [show f + i.toNat = k by omega]
              omega
            · rw [if_pos (by omega)]
              rw [show f + i.toNat = k by omega]
              omega
          · skip
            try simp only [b2_cast, b2_ncast, Classical.not_not, lcm_lt, lcm_ge, lcm_gt, lcm_le, lcm_eq] at h8
            refine V.blk [(77, .bipush 1, 1), (78, .goto 82, 3), (82, .iadd, 1)] (ps := [inR ((2 * (I 66 k)) + 1)]) (z' := (83, [some (aR 52), some (aI t), some (aI i), some (aI x), some (aI (k : Int))], [aI ((2 * (I 66 k)) + 1)], MM N I J)) (by decide +kernel) rfl (show (inR ((2 * (I 66 k)) + 1)) from (by unfold inR; omega)) ?_
            refine V.ri (by decide +kernel) ?_
            refine ⟨congrArg (fun w => some (aI w)) ?_, rfl⟩
            split at hx
            · rw [if_pos (by omega)]
              rw [show f + i.toNat = k by omega]
              omega
            · rw [if_pos (by omega)]
              rw [show f + i.toNat = k by omega]
              omega
      · skip
        try simp only [b2_cast, b2_ncast, Classical.not_not, lcm_lt, lcm_ge, lcm_gt, lcm_le, lcm_eq] at h4
        refine V.blk [(51, .goto 87, 3), (87, .iinc 4 1, 3), (90, .goto 31, 3)] (ps := [inR ((k : Int) + 1)]) (z' := (31, [some (aR 52), some (aI t), some (aI i), some (aI x), some (aI ((k + 1 : Nat) : Int))], [], MM N I J)) (by decide +kernel) rfl (show (inR ((k : Int) + 1)) from (by unfold inR; omega)) ?_
        refine ih (k + 1) x (by omega) (by omega) ?_ ?_
        · split at hx <;> split <;> omega
        · split at hx <;> omega
theorem m_X10_change {N : Nat} {I : MI} {J : MJ} {t i : Int} {n f : Nat} (hr : RfM I) (hn : I 52 17 = n) (h8 : n ≤ 800) (hfn : f ≤ n) (hi : inR i) (hf : ∀ c : Nat, c < n → (I 65 c ≤ t ↔ c < f)) (hA : ∀ c : Nat, c < n → 0 ≤ I 66 c ∧ I 66 c ≤ 400 ∧ 0 ≤ I 67 c ∧ I 67 c ≤ 1) : CT 160 [aR 52, aI t, aI i] (MM N I J) (QU N J (aI (if 0 ≤ t ∧ t ≤ I 52 18 then (if i < 0 then -4 else if i < (n : Int) - f then 2 * I 66 (f + i.toNat) + I 67 (f + i.toNat) else -1) else -3)) (if 0 ≤ t ∧ t ≤ I 52 18 then (if i < 0 then noU I (-4) else I) else noU I (-3))) := by
  unfold inR at hi
  refine CT.ofV (n := 5) (ls := [some (aR 52), some (aI t), some (aI i), none, none]) rfl rfl rfl ?_
  refine V.blk [(0, .aload 0, 1), (1, .iload 1, 1)] (ps := []) (z' := (2, [some (aR 52), some (aI t), some (aI i), none, none], [aI t, aR 52], MM N I J)) (by decide +kernel) rfl trivial ?_
  refine V.cv (c := 120) (na := 2) (o := 10) (a := 52) [aI t] [] (by decide +kernel) rfl rfl rfl rfl rfl (V.pr (m_X10_isTurn) ?_)
  show V 160 (5, [some (aR 52), some (aI t), some (aI i), none, none], [aI (b2 (decide (0 ≤ t ∧ t ≤ I 52 18)))], MM N I J) _
  refine V.blk [(5, .ifCond .ne 15, 3)] (ps := []) (z' := (brc .ne (b2 (decide (0 ≤ t ∧ t ≤ I 52 18))) 0 15 8, [some (aR 52), some (aI t), some (aI i), none, none], [], MM N I J)) (by decide +kernel) rfl trivial ?_
  refine V.ne (fun h1 => ?_) (fun h2 => ?_)
  · skip
    try simp only [b2_cast, b2_ncast, Classical.not_not, lcm_lt, lcm_ge, lcm_gt, lcm_le, lcm_eq] at h1
    refine V.blk [(15, .iload 2, 1), (16, .ifCond .ge 26, 3)] (ps := []) (z' := (brc .ge i 0 26 19, [some (aR 52), some (aI t), some (aI i), none, none], [], MM N I J)) (by decide +kernel) rfl trivial ?_
    refine V.ge (fun h3 => ?_) (fun h4 => ?_)
    · skip
      try simp only [b2_cast, b2_ncast, Classical.not_not, lcm_lt, lcm_ge, lcm_gt, lcm_le, lcm_eq] at h3
      refine V.blk [(26, .iload 2, 1), (27, .istore 3, 1), (28, .bipush 0, 1), (29, .istore 4, 2)] (ps := []) (z' := (31, [some (aR 52), some (aI t), some (aI i), some (aI i), some (aI 0)], [], MM N I J)) (by decide +kernel) rfl trivial ?_
      refine (l_mchange hn h8 hfn (by omega) hf hA (n + 1) 0 i (by omega) (by omega) (by rw [if_pos (by omega)]) (by omega)).mono (fun r M' q => ?_)
      obtain ⟨rfl, rfl⟩ := q
      refine ⟨congrArg (fun w => some (aI w)) ?_, congrArg (fun w => MM N w J) ?_⟩
      · rw [if_pos (show 0 ≤ t ∧ t ≤ I 52 18 by omega), if_neg (show ¬ i < 0 by omega)]
      · rw [if_pos (by omega), if_neg (by omega)]
    · skip
      try simp only [b2_cast, b2_ncast, Classical.not_not, lcm_lt, lcm_ge, lcm_gt, lcm_le, lcm_eq] at h4
      refine V.blk [(19, .aload 0, 1), (20, .bipush (-4), 2)] (ps := []) (z' := (22, [some (aR 52), some (aI t), some (aI i), none, none], [aI (-4), aR 52], MM N I J)) (by decide +kernel) rfl trivial ?_
      refine V.cv (c := 116) (na := 2) (o := 10) (a := 52) [aI (-4)] [] (by decide +kernel) rfl rfl rfl rfl rfl ((m_no (by assumption) (by omega)).mono (fun rv M1 q => ?_))
      obtain ⟨rfl, rfl⟩ := q
      show V 160 (25, [some (aR 52), some (aI t), some (aI i), none, none], [aI (-4)], MM N ((noU I (-4))) J) _
      refine V.nI (fun I5 eI5 => ?_)
      refine V.ri (by decide +kernel) ?_
      refine ⟨congrArg (fun w => some (aI w)) ?_, congrArg (fun w => MM N w J) ?_⟩
      all_goals (repeat' split)
      all_goals first | rfl | omega | (exfalso; omega)
  · skip
    try simp only [b2_cast, b2_ncast, Classical.not_not, lcm_lt, lcm_ge, lcm_gt, lcm_le, lcm_eq] at h2
    refine V.blk [(8, .aload 0, 1), (9, .bipush (-3), 2)] (ps := []) (z' := (11, [some (aR 52), some (aI t), some (aI i), none, none], [aI (-3), aR 52], MM N I J)) (by decide +kernel) rfl trivial ?_
    refine V.cv (c := 116) (na := 2) (o := 10) (a := 52) [aI (-3)] [] (by decide +kernel) rfl rfl rfl rfl rfl ((m_no (by assumption) (by omega)).mono (fun rv M1 q => ?_))
    obtain ⟨rfl, rfl⟩ := q
    show V 160 (14, [some (aR 52), some (aI t), some (aI i), none, none], [aI (-3)], MM N ((noU I (-3))) J) _
    refine V.nI (fun I6 eI6 => ?_)
    refine V.ri (by decide +kernel) ?_
    refine ⟨congrArg (fun w => some (aI w)) ?_, congrArg (fun w => MM N w J) ?_⟩
    all_goals (repeat' split)
    all_goals first | rfl | omega | (exfalso; omega)
def mrev (I : MI) (hi : Nat) : Nat → MI
  | 0 => ma I 52 (ma (ma (I 52) 29 0) 30 0)
  | n + 1 => actMU (mrev I hi n) (I 67 (hi - 1 - n)) (I 59 (I 66 (hi - 1 - n)).toNat) (I 60 (I 66 (hi - 1 - n)).toNat) (I 61 (I 66 (hi - 1 - n)).toNat) (if I 67 (hi - 1 - n) = 0 then 0 else I 62 (I 66 (hi - 1 - n)).toNat)
theorem actMU_ag (I : MI) (w t r u e : Int) {i : Nat} (h : i ≠ 52 ∧ (i < 68 ∨ 73 < i)) : actMU I w t r u e i = I i := by
  unfold actMU
  rw [ma_ne _ _ (by omega), ma_ne _ _ (by omega), ma_ne _ _ (by omega), ma_ne _ _ (by omega), ma_ne _ _ (by omega), ma_ne _ _ (by omega)]
theorem actMU_52 (I : MI) (w t r u e : Int) {k : Nat} (h : k ≠ 29) : actMU I w t r u e 52 k = I 52 k := by
  unfold actMU
  rw [ma_self, ma_ne _ _ h]
theorem mrev_ag (I : MI) (hi : Nat) {i : Nat} (h : i ≠ 52 ∧ (i < 68 ∨ 73 < i)) : ∀ n, mrev I hi n i = I i
  | 0 => by unfold mrev; rw [ma_ne _ _ (by omega)]
  | n + 1 => by unfold mrev; rw [actMU_ag _ _ _ _ _ _ h, mrev_ag I hi h n]
theorem mrev_n (I : MI) (hi : Nat) : ∀ n : Nat, mrev I hi n 52 29 = n ∧ mrev I hi n 52 30 = 0 ∧ ∀ k, k ≠ 29 → k ≠ 30 → mrev I hi n 52 k = I 52 k
  | 0 => by
    refine ⟨by simp [mrev, ma], by simp [mrev, ma], fun k h1 h2 => ?_⟩
    unfold mrev
    rw [ma_self, ma_ne _ _ h2, ma_ne _ _ h1]
  | n + 1 => by
    obtain ⟨h1, h2, h3⟩ := mrev_n I hi n
    unfold mrev
    refine ⟨?_, by rw [actMU_52 _ _ _ _ _ _ (by decide), h2], fun k q1 q2 => by rw [actMU_52 _ _ _ _ _ _ q1, h3 k q1 q2]⟩
    unfold actMU
    rw [ma_self, ma_self, h1]
    rfl
theorem l_mundo {N : Nat} {I : MI} {J : MJ} {t : Int} {nA lo hi : Nat} (h8 : nA ≤ 800) (hlh : lo ≤ hi) (hhn : hi ≤ nA) (h20 : hi ≤ lo + 20) (ht : ∀ c : Nat, c < nA → (I 65 c = t ↔ (lo ≤ c ∧ c < hi))) (hA : ∀ c : Nat, c < nA → 0 ≤ I 66 c ∧ I 66 c < 400 ∧ 0 ≤ I 67 c ∧ I 67 c ≤ 1) : ∀ (m n : Nat) (x : Int) (I' : MI) (w3 w4 : Option AV), x + 2 ≤ m → -1 ≤ x → x < nA → ((n : Int) = if (hi : Int) ≤ x then 0 else if lo ≤ x + 1 then hi - 1 - x else hi - lo) → I' = mrev I hi n → V 155 (38, [some (aR 52), some (aI t), some (aI x), w3, w4], [], MM N I' J) (QU N J (aI (hi - lo)) (mrev I hi (hi - lo))) := by
  intro m
  induction m with
  | zero => intro n x I' w3 w4 h1 h2; exfalso; omega
  | succ m ih =>
    intro n x I' w3 w4 h1 h2 hxn hn hI
    have e59 : I' 59 = I 59 := by rw [hI, mrev_ag _ _ (by omega)]
    have e60 : I' 60 = I 60 := by rw [hI, mrev_ag _ _ (by omega)]
    have e61 : I' 61 = I 61 := by rw [hI, mrev_ag _ _ (by omega)]
    have e62 : I' 62 = I 62 := by rw [hI, mrev_ag _ _ (by omega)]
    have e65 : I' 65 = I 65 := by rw [hI, mrev_ag _ _ (by omega)]
    have e66 : I' 66 = I 66 := by rw [hI, mrev_ag _ _ (by omega)]
    have e67 : I' 67 = I 67 := by rw [hI, mrev_ag _ _ (by omega)]
    have e29 : I' 52 29 = n := by rw [hI]; exact (mrev_n I hi n).1
    refine V.blk [(38, .iload 2, 1), (39, .ifCond .lt 117, 3)] (ps := []) (z' := (brc .lt x 0 117 42, [some (aR 52), some (aI t), some (aI x), w3, w4], [], MM N I' J)) (by decide +kernel) rfl trivial ?_
    refine V.lt (fun h1 => ?_) (fun h2 => ?_)
    · skip
      try simp only [b2_cast, b2_ncast, Classical.not_not, lcm_lt, lcm_ge, lcm_gt, lcm_le, lcm_eq] at h1
      refine V.blk [(117, .aload 0, 1), (118, .getfield 10029, 3)] (ps := []) (z' := (121, [some (aR 52), some (aI t), some (aI x), w3, w4], [aI (I' 52 29)], MM N I' J)) (by decide +kernel) rfl trivial ?_
      refine V.ri (by decide +kernel) ?_
      refine ⟨congrArg (fun w => some (aI w)) ?_, congrArg (fun w => MM N w J) ?_⟩
      · rw [e29]; split at hn <;> omega
      · have e : n = hi - lo := by split at hn <;> omega
        rw [hI, e]
    · skip
      try simp only [b2_cast, b2_ncast, Classical.not_not, lcm_lt, lcm_ge, lcm_gt, lcm_le, lcm_eq] at h2
      have htx := ht x.toNat (by omega)
      have hAx := hA x.toNat (by omega)
      rw [← e65] at htx
      rw [← e66, ← e67] at hAx
      refine V.blk [(42, .aload 0, 1), (43, .getfield 10015, 3), (46, .iload 2, 1), (47, .iaload, 1), (48, .istore 3, 1), (49, .aload 0, 1), (50, .getfield 10014, 3), (53, .iload 2, 1), (54, .iaload, 1), (55, .iload 1, 1), (56, .if_icmp .eq 62, 3)] (ps := [0 ≤ x ∧ x < 4020, 0 ≤ x ∧ x < 4020]) (z' := (brc .eq (I' 65 ((x).toNat)) t 62 59, [some (aR 52), some (aI t), some (aI x), some (aI (I' 66 ((x).toNat))), w4], [], MM N I' J)) (by decide +kernel) rfl (show (0 ≤ x ∧ x < 4020) ∧ (0 ≤ x ∧ x < 4020) from ⟨(by omega), (by omega)⟩) ?_
      refine V.eq (fun h3 => ?_) (fun h4 => ?_)
      · skip
        try simp only [b2_cast, b2_ncast, Classical.not_not, lcm_lt, lcm_ge, lcm_gt, lcm_le, lcm_eq] at h3
        have hn20 : n < 20 := by split at hn <;> omega
        refine V.blk [(62, .aload 0, 1), (63, .aload 0, 1), (64, .getfield 10016, 3), (67, .iload 2, 1), (68, .baload, 1), (69, .aload 0, 1), (70, .getfield 10007, 3), (73, .iload 3, 1), (74, .iaload, 1), (75, .aload 0, 1), (76, .getfield 10008, 3), (79, .iload 3, 1), (80, .iaload, 1), (81, .aload 0, 1), (82, .getfield 10009, 3), (85, .iload 3, 1), (86, .iaload, 1), (87, .aload 0, 1), (88, .getfield 10016, 3), (91, .iload 2, 1), (92, .baload, 1), (93, .ifCond .eq 105, 3)] (ps := [0 ≤ x ∧ x < 4020, 0 ≤ (I' 66 ((x).toNat)) ∧ (I' 66 ((x).toNat)) < 420, 0 ≤ (I' 66 ((x).toNat)) ∧ (I' 66 ((x).toNat)) < 420, 0 ≤ (I' 66 ((x).toNat)) ∧ (I' 66 ((x).toNat)) < 420, 0 ≤ x ∧ x < 4020]) (z' := (brc .eq (I' 67 ((x).toNat)) 0 105 96, [some (aR 52), some (aI t), some (aI x), some (aI (I' 66 ((x).toNat))), w4], [aI (I' 61 ((I' 66 ((x).toNat)).toNat)), aI (I' 60 ((I' 66 ((x).toNat)).toNat)), aI (I' 59 ((I' 66 ((x).toNat)).toNat)), aI (I' 67 ((x).toNat)), aR 52], MM N I' J)) (by decide +kernel) rfl (show (0 ≤ x ∧ x < 4020) ∧ (0 ≤ (I' 66 ((x).toNat)) ∧ (I' 66 ((x).toNat)) < 420) ∧ (0 ≤ (I' 66 ((x).toNat)) ∧ (I' 66 ((x).toNat)) < 420) ∧ (0 ≤ (I' 66 ((x).toNat)) ∧ (I' 66 ((x).toNat)) < 420) ∧ (0 ≤ x ∧ x < 4020) from ⟨(by omega), (by omega), (by omega), (by omega), (by omega)⟩) ?_
        refine V.eq (fun h5 => ?_) (fun h6 => ?_)
        · skip
          try simp only [b2_cast, b2_ncast, Classical.not_not, lcm_lt, lcm_ge, lcm_gt, lcm_le, lcm_eq] at h5
          refine V.blk [(105, .bipush 0, 1)] (ps := []) (z' := (106, [some (aR 52), some (aI t), some (aI x), some (aI (I' 66 ((x).toNat))), w4], [aI 0, aI (I' 61 ((I' 66 ((x).toNat)).toNat)), aI (I' 60 ((I' 66 ((x).toNat)).toNat)), aI (I' 59 ((I' 66 ((x).toNat)).toNat)), aI (I' 67 ((x).toNat)), aR 52], MM N I' J)) (by decide +kernel) rfl trivial ?_
          refine V.cv (c := 145) (na := 6) (o := 10) (a := 52) [aI 0, aI (I' 61 ((I' 66 ((x).toNat)).toNat)), aI (I' 60 ((I' 66 ((x).toNat)).toNat)), aI (I' 59 ((I' 66 ((x).toNat)).toNat)), aI (I' 67 ((x).toNat))] [] (by decide +kernel) rfl rfl rfl rfl rfl ((m_act (by first | omega | (simp [ma]; omega)) (by first | omega | assumption)).mono (fun rv M1 q => ?_))
          obtain ⟨rfl, rfl⟩ := q
          show V 155 (109, [some (aR 52), some (aI t), some (aI x), some (aI (I' 66 ((x).toNat))), w4], [aI (I' 52 29 + 1)], MM N ((actMU I' (I' 67 ((x).toNat)) (I' 59 ((I' 66 ((x).toNat)).toNat)) (I' 60 ((I' 66 ((x).toNat)).toNat)) (I' 61 ((I' 66 ((x).toNat)).toNat)) 0)) J) _
          refine V.blk [(109, .istore 4, 2), (111, .iinc 2 (-1), 3), (114, .goto 38, 3)] (ps := [inR (x + (-1))]) (z' := (38, [some (aR 52), some (aI t), some (aI (x + (-1))), some (aI (I' 66 ((x).toNat))), some (aI (I' 52 29 + 1))], [], MM N ((actMU I' (I' 67 ((x).toNat)) (I' 59 ((I' 66 ((x).toNat)).toNat)) (I' 60 ((I' 66 ((x).toNat)).toNat)) (I' 61 ((I' 66 ((x).toNat)).toNat)) 0)) J)) (by decide +kernel) rfl (show (inR (x + (-1))) from (by unfold inR; omega)) ?_
          refine V.nI (fun I7 eI7 => ?_)
          refine ih (n + 1) (x + (-1)) _ _ _ (by omega) (by omega) (by omega) ?_ ?_
          · split at hn <;> split <;> omega
          · have ec : x.toNat = hi - 1 - n := by split at hn <;> omega
            show _ = actMU (mrev I hi n) _ _ _ _ _
            rw [← hI, ← ec, ← e59, ← e60, ← e61, ← e62, ← e66, ← e67, eI7]
            first | (rw [if_pos (by omega)]) | (rw [if_neg (by omega)])
        · skip
          try simp only [b2_cast, b2_ncast, Classical.not_not, lcm_lt, lcm_ge, lcm_gt, lcm_le, lcm_eq] at h6
          refine V.blk [(96, .aload 0, 1), (97, .getfield 10010, 3), (100, .iload 3, 1), (101, .iaload, 1), (102, .goto 106, 3)] (ps := [0 ≤ (I' 66 ((x).toNat)) ∧ (I' 66 ((x).toNat)) < 420]) (z' := (106, [some (aR 52), some (aI t), some (aI x), some (aI (I' 66 ((x).toNat))), w4], [aI (I' 62 ((I' 66 ((x).toNat)).toNat)), aI (I' 61 ((I' 66 ((x).toNat)).toNat)), aI (I' 60 ((I' 66 ((x).toNat)).toNat)), aI (I' 59 ((I' 66 ((x).toNat)).toNat)), aI (I' 67 ((x).toNat)), aR 52], MM N I' J)) (by decide +kernel) rfl (show (0 ≤ (I' 66 ((x).toNat)) ∧ (I' 66 ((x).toNat)) < 420) from (by omega)) ?_
          refine V.cv (c := 145) (na := 6) (o := 10) (a := 52) [aI (I' 62 ((I' 66 ((x).toNat)).toNat)), aI (I' 61 ((I' 66 ((x).toNat)).toNat)), aI (I' 60 ((I' 66 ((x).toNat)).toNat)), aI (I' 59 ((I' 66 ((x).toNat)).toNat)), aI (I' 67 ((x).toNat))] [] (by decide +kernel) rfl rfl rfl rfl rfl ((m_act (by first | omega | (simp [ma]; omega)) (by first | omega | assumption)).mono (fun rv M1 q => ?_))
          obtain ⟨rfl, rfl⟩ := q
          show V 155 (109, [some (aR 52), some (aI t), some (aI x), some (aI (I' 66 ((x).toNat))), w4], [aI (I' 52 29 + 1)], MM N ((actMU I' (I' 67 ((x).toNat)) (I' 59 ((I' 66 ((x).toNat)).toNat)) (I' 60 ((I' 66 ((x).toNat)).toNat)) (I' 61 ((I' 66 ((x).toNat)).toNat)) (I' 62 ((I' 66 ((x).toNat)).toNat)))) J) _
          refine V.blk [(109, .istore 4, 2), (111, .iinc 2 (-1), 3), (114, .goto 38, 3)] (ps := [inR (x + (-1))]) (z' := (38, [some (aR 52), some (aI t), some (aI (x + (-1))), some (aI (I' 66 ((x).toNat))), some (aI (I' 52 29 + 1))], [], MM N ((actMU I' (I' 67 ((x).toNat)) (I' 59 ((I' 66 ((x).toNat)).toNat)) (I' 60 ((I' 66 ((x).toNat)).toNat)) (I' 61 ((I' 66 ((x).toNat)).toNat)) (I' 62 ((I' 66 ((x).toNat)).toNat)))) J)) (by decide +kernel) rfl (show (inR (x + (-1))) from (by unfold inR; omega)) ?_
          refine V.nI (fun I8 eI8 => ?_)
          refine ih (n + 1) (x + (-1)) _ _ _ (by omega) (by omega) (by omega) ?_ ?_
          · split at hn <;> split <;> omega
          · have ec : x.toNat = hi - 1 - n := by split at hn <;> omega
            show _ = actMU (mrev I hi n) _ _ _ _ _
            rw [← hI, ← ec, ← e59, ← e60, ← e61, ← e62, ← e66, ← e67, eI8]
            first | (rw [if_pos (by omega)]) | (rw [if_neg (by omega)])
      · skip
        try simp only [b2_cast, b2_ncast, Classical.not_not, lcm_lt, lcm_ge, lcm_gt, lcm_le, lcm_eq] at h4
        refine V.blk [(59, .goto 111, 3), (111, .iinc 2 (-1), 3), (114, .goto 38, 3)] (ps := [inR (x + (-1))]) (z' := (38, [some (aR 52), some (aI t), some (aI (x + (-1))), some (aI (I' 66 ((x).toNat))), w4], [], MM N I' J)) (by decide +kernel) rfl (show (inR (x + (-1))) from (by unfold inR; omega)) ?_
        refine ih n (x + (-1)) _ _ _ (by omega) (by omega) (by omega) ?_ hI
        split at hn <;> split <;> omega
theorem m_X10_undo {N : Nat} {I : MI} {J : MJ} {t : Int} {nA lo hi : Nat} (hr : RfM I) (hi3 : inR t) (hl : 0 ≤ I 52 18 ∧ I 52 18 ≤ 200) (hnA : I 52 17 = nA) (h8 : nA ≤ 800) (hlh : lo ≤ hi) (hhn : hi ≤ nA) (h20 : hi ≤ lo + 20) (ht : 1 ≤ t → t ≤ I 52 18 → ∀ c : Nat, c < nA → (I 65 c = t ↔ (lo ≤ c ∧ c < hi))) (hA : ∀ c : Nat, c < nA → 0 ≤ I 66 c ∧ I 66 c < 400 ∧ 0 ≤ I 67 c ∧ I 67 c ≤ 1) : CT 155 [aR 52, aI t] (MM N I J) (QU N J (aI (if 1 ≤ t ∧ t ≤ I 52 18 then hi - lo else -3)) (if 1 ≤ t ∧ t ≤ I 52 18 then mrev I hi (hi - lo) else noU I (-3))) := by
  unfold inR at hi3
  refine CT.ofV (n := 5) (ls := [some (aR 52), some (aI t), none, none, none]) rfl rfl rfl ?_
  refine V.blk [(0, .iload 1, 1), (1, .i2l, 1), (2, .jsr_w 1, 1), (3, .aload 0, 1), (4, .getfield 10018, 3), (7, .i2l, 1)] (ps := []) (z' := (8, [some (aR 52), some (aI t), none, none, none], [aL (Int64.ofInt (I 52 18)), aL (Int64.ofInt 1), aL (Int64.ofInt t)], MM N I J)) (by decide +kernel) rfl trivial ?_
  refine V.cs (c := 115) (na := 3) [aL (Int64.ofInt (I 52 18)), aL (Int64.ofInt 1), aL (Int64.ofInt t)] [] (by decide +kernel) rfl rfl (V.pr (m_X10_isIn (by unfold inR; omega) (by unfold inR; omega) (by unfold inR; omega)) ?_)
  show V 155 (11, [some (aR 52), some (aI t), none, none, none], [aI (b2 (decide (1 ≤ t ∧ t ≤ (I 52 18))))], MM N I J) _
  refine V.blk [(11, .ifCond .ne 21, 3)] (ps := []) (z' := (brc .ne (b2 (decide (1 ≤ t ∧ t ≤ (I 52 18)))) 0 21 14, [some (aR 52), some (aI t), none, none, none], [], MM N I J)) (by decide +kernel) rfl trivial ?_
  refine V.ne (fun h1 => ?_) (fun h2 => ?_)
  · skip
    try simp only [b2_cast, b2_ncast, Classical.not_not, lcm_lt, lcm_ge, lcm_gt, lcm_le, lcm_eq] at h1
    refine V.blk [(21, .aload 0, 1), (22, .bipush 0, 1), (23, .putfield 10029, 3), (26, .aload 0, 1), (27, .bipush 0, 1), (28, .putfield 10030, 3), (31, .aload 0, 1), (32, .getfield 10017, 3), (35, .bipush 1, 1), (36, .isub, 1), (37, .istore 2, 1)] (ps := [inR (((ma (ma I 52 (ma (I 52) 29 0)) 52 (ma ((ma I 52 (ma (I 52) 29 0)) 52) 30 0)) 52 17) - 1)]) (z' := (38, [some (aR 52), some (aI t), some (aI (((ma (ma I 52 (ma (I 52) 29 0)) 52 (ma ((ma I 52 (ma (I 52) 29 0)) 52) 30 0)) 52 17) - 1)), none, none], [], MM N (ma (ma I 52 (ma (I 52) 29 0)) 52 (ma ((ma I 52 (ma (I 52) 29 0)) 52) 30 0)) J)) (by decide +kernel) rfl (show (inR (((ma (ma I 52 (ma (I 52) 29 0)) 52 (ma ((ma I 52 (ma (I 52) 29 0)) 52) 30 0)) 52 17) - 1)) from (by unfold inR; first | omega | (simp [ma]; omega))) ?_
    refine V.nI (fun I3 eI3 => ?_)
    refine (l_mundo h8 hlh hhn h20 (ht (by omega) (by omega)) hA (nA + 2) 0 _ _ _ _ ?_ ?_ ?_ ?_ ?_).mono (fun r M' q => ?_)
    · subst eI3; simp [ma]; omega
    · subst eI3; simp [ma]; omega
    · subst eI3; simp [ma]; omega
    · subst eI3; simp [ma]; split <;> omega
    · subst eI3; simp [ma_self, ma_ma, mrev]
    obtain ⟨rfl, rfl⟩ := q
    refine ⟨congrArg (fun w => some (aI w)) ?_, congrArg (fun w => MM N w J) ?_⟩
    · rw [if_pos (by omega)]
    · rw [if_pos (by omega)]
  · skip
    try simp only [b2_cast, b2_ncast, Classical.not_not, lcm_lt, lcm_ge, lcm_gt, lcm_le, lcm_eq] at h2
    refine V.blk [(14, .aload 0, 1), (15, .bipush (-3), 2)] (ps := []) (z' := (17, [some (aR 52), some (aI t), none, none, none], [aI (-3), aR 52], MM N I J)) (by decide +kernel) rfl trivial ?_
    refine V.cv (c := 116) (na := 2) (o := 10) (a := 52) [aI (-3)] [] (by decide +kernel) rfl rfl rfl rfl rfl ((m_no (by assumption) (by omega)).mono (fun rv M1 q => ?_))
    obtain ⟨rfl, rfl⟩ := q
    show V 155 (20, [some (aR 52), some (aI t), none, none, none], [aI (-3)], MM N ((noU I (-3))) J) _
    refine V.nI (fun I4 eI4 => ?_)
    refine V.ri (by decide +kernel) ?_
    refine ⟨congrArg (fun w => some (aI w)) ?_, congrArg (fun w => MM N w J) ?_⟩
    all_goals (repeat' split)
    all_goals first | rfl | omega | (exfalso; omega)
theorem l_mcopy2 {N : Nat} {I : MI} {J : MJ} {i j n : Int} {g : Nat → Int} (hn : 0 ≤ n ∧ n ≤ 40) (hi : 0 ≤ i ∧ i + n ≤ 40) (hj : 0 ≤ j ∧ j + n ≤ 40) (hg : ∀ q : Nat, (q : Int) < n → g q = I 94 (i.toNat + q)) : ∀ (m k : Nat) (I' : MI), n + 1 ≤ (m : Int) + k → (k : Int) ≤ n → I' = ma (ma I 95 g) 94 (acp (I 94) (I 94) i.toNat j.toNat k) → V 195 (102, [some (aR 52), some (aI i), some (aI j), some (aI n), some (aI (k : Int))], [], MM N I' J) (fun r M' => r = some (aI n) ∧ ∃ g, M' = MM N (ma (ma I 95 g) 94 (acp (I 94) (I 94) i.toNat j.toNat n.toNat)) J) := by
  intro m
  induction m with
  | zero => intro k I' h1 h2; exfalso; omega
  | succ m ih =>
    intro k I' h1 h2 hI
    refine V.blk [(102, .iload 4, 2), (104, .iload 3, 1), (105, .if_icmp .ge 130, 3)] (ps := []) (z' := (brc .ge (k : Int) n 130 108, [some (aR 52), some (aI i), some (aI j), some (aI n), some (aI (k : Int))], [], MM N I' J)) (by decide +kernel) rfl trivial ?_
    refine V.ge (fun h1 => ?_) (fun h2 => ?_)
    · skip
      refine V.blk [(130, .iload 3, 1)] (ps := []) (z' := (131, [some (aR 52), some (aI i), some (aI j), some (aI n), some (aI (k : Int))], [aI n], MM N I' J)) (by decide +kernel) rfl trivial ?_
      refine V.ri (by decide +kernel) ?_
      refine ⟨rfl, g, congrArg (fun w => MM N w J) ?_⟩
      rw [hI, show n.toNat = k by omega]
    · skip
      refine V.blk [(108, .aload 0, 1), (109, .getfield 10062, 3), (112, .iload 2, 1), (113, .iload 4, 2), (115, .iadd, 1), (116, .aload 0, 1), (117, .getfield 10063, 3), (120, .iload 4, 2), (122, .iaload, 1), (123, .iastore, 1), (124, .iinc 4 1, 3), (127, .goto 102, 3)] (ps := [inR (j + (k : Int)), 0 ≤ (k : Int) ∧ (k : Int) < 40, 0 ≤ (j + (k : Int)) ∧ (j + (k : Int)) < 40, inR ((k : Int) + 1)]) (z' := (102, [some (aR 52), some (aI i), some (aI j), some (aI n), some (aI ((k + 1 : Nat) : Int))], [], MM N (ma I' 94 (ma (I' 94) ((j + (k : Int)).toNat) (I' 95 k))) J)) (by decide +kernel) rfl (show (inR (j + (k : Int))) ∧ (0 ≤ (k : Int) ∧ (k : Int) < 40) ∧ (0 ≤ (j + (k : Int)) ∧ (j + (k : Int)) < 40) ∧ (inR ((k : Int) + 1)) from ⟨(by unfold inR; omega), (by omega), (by omega), (by unfold inR; omega)⟩) ?_
      refine V.nI (fun I3 eI3 => ?_)
      refine ih (k + 1) _ (by omega) (by omega) ?_
      subst eI3 hI
      rw [ma_mi]
      congr 1
      have e95 : ma (ma I 95 g) 94 (acp (I 94) (I 94) i.toNat j.toNat k) 95 = g := by rw [ma_ne _ _ (by decide), ma_self]
      rw [e95, hg k (by omega)]
      funext q
      unfold ma acp
      by_cases h : q = (j + (k : Int)).toNat
      · rw [if_pos h, if_pos (by omega)]
        congr 1
        omega
      · rw [if_neg h]
        by_cases h3 : j.toNat ≤ q ∧ q < j.toNat + k
        · rw [if_pos h3, if_pos (by omega)]
        · rw [if_neg h3, if_neg (by omega)]
theorem l_mcopy1 {N : Nat} {I : MI} {J : MJ} {i j n : Int} (hn : 0 ≤ n ∧ n ≤ 40) (hi : 0 ≤ i ∧ i + n ≤ 40) (hj : 0 ≤ j ∧ j + n ≤ 40) : ∀ (m k : Nat) (g : Nat → Int) (I' : MI), n + 1 ≤ (m : Int) + k → (k : Int) ≤ n → (∀ q : Nat, q < k → g q = I 94 (i.toNat + q)) → I' = ma I 95 g → V 195 (71, [some (aR 52), some (aI i), some (aI j), some (aI n), some (aI (k : Int))], [], MM N I' J) (fun r M' => r = some (aI n) ∧ ∃ g, M' = MM N (ma (ma I 95 g) 94 (acp (I 94) (I 94) i.toNat j.toNat n.toNat)) J) := by
  intro m
  induction m with
  | zero => intro k g I' h1 h2; exfalso; omega
  | succ m ih =>
    intro k g I' h1 h2 hg hI
    refine V.blk [(71, .iload 4, 2), (73, .iload 3, 1), (74, .if_icmp .ge 99, 3)] (ps := []) (z' := (brc .ge (k : Int) n 99 77, [some (aR 52), some (aI i), some (aI j), some (aI n), some (aI (k : Int))], [], MM N I' J)) (by decide +kernel) rfl trivial ?_
    refine V.ge (fun h1 => ?_) (fun h2 => ?_)
    · skip
      refine V.blk [(99, .bipush 0, 1), (100, .istore 4, 2)] (ps := []) (z' := (102, [some (aR 52), some (aI i), some (aI j), some (aI n), some (aI 0)], [], MM N I' J)) (by decide +kernel) rfl trivial ?_
      refine l_mcopy2 (g := g) hn hi hj (fun q hq => hg q (by omega)) (n.toNat + 1) 0 _ (by omega) (by omega) ?_
      rw [hI]
      have : acp (I 94) (I 94) i.toNat j.toNat 0 = I 94 := by
        funext q
        unfold acp
        rw [if_neg (by omega)]
      rw [this]
      funext q
      unfold ma
      by_cases h : q = 94
      · rw [if_pos h, if_neg (by omega), h]
      · rw [if_neg h]
    · skip
      refine V.blk [(77, .aload 0, 1), (78, .getfield 10063, 3), (81, .iload 4, 2), (83, .aload 0, 1), (84, .getfield 10062, 3), (87, .iload 1, 1), (88, .iload 4, 2), (90, .iadd, 1), (91, .iaload, 1), (92, .iastore, 1), (93, .iinc 4 1, 3), (96, .goto 71, 3)] (ps := [inR (i + (k : Int)), 0 ≤ (i + (k : Int)) ∧ (i + (k : Int)) < 40, 0 ≤ (k : Int) ∧ (k : Int) < 40, inR ((k : Int) + 1)]) (z' := (71, [some (aR 52), some (aI i), some (aI j), some (aI n), some (aI ((k + 1 : Nat) : Int))], [], MM N (ma I' 95 (ma (I' 95) k (I' 94 ((i + (k : Int)).toNat)))) J)) (by decide +kernel) rfl (show (inR (i + (k : Int))) ∧ (0 ≤ (i + (k : Int)) ∧ (i + (k : Int)) < 40) ∧ (0 ≤ (k : Int) ∧ (k : Int) < 40) ∧ (inR ((k : Int) + 1)) from ⟨(by unfold inR; omega), (by omega), (by omega), (by unfold inR; omega)⟩) ?_
      refine V.nI (fun I3 eI3 => ?_)
      refine ih (k + 1) (ma g k (I 94 (i + (k : Int)).toNat)) _ (by omega) (by omega) ?_ ?_
      · intro q hq
        unfold ma
        by_cases h : q = k
        · rw [if_pos h]
          congr 1
          omega
        · rw [if_neg h, hg q (by omega)]
      · subst eI3 hI
        rw [ma_mi, ma_ne _ _ (by decide)]
def copyMA (I : MI) (i j n : Int) : Int := if I 52 64 < 0 then -2 else if n < 0 then -4 else if i < 0 ∨ j < 0 ∨ I 52 64 < i + n ∨ I 52 64 < j + n then -6 else n
def copyMU (I : MI) (i j n : Int) (g : Nat → Int) : MI := if I 52 64 < 0 then noU I (-2) else if n < 0 then noU I (-4) else if i < 0 ∨ j < 0 ∨ I 52 64 < i + n ∨ I 52 64 < j + n then noU I (-6) else ma (ma I 95 g) 94 (acp (I 94) (I 94) i.toNat j.toNat n.toNat)
theorem m_X10_copy {N : Nat} {I : MI} {J : MJ} {i j n : Int} (hr : RfM I) (hm : I 52 64 ≤ 40) (hi : inR i) (hj : inR j) (hn : inR n) : CT 195 [aR 52, aI i, aI j, aI n] (MM N I J) (fun r M' => ∃ g, r = some (aI (copyMA I i j n)) ∧ M' = MM N (copyMU I i j n g) J) := by
  have hi9 := hi
  have hj9 := hj
  have hn9 := hn
  unfold inR at hi9 hj9 hn9
  have hR : -1 ≤ I 52 64 → inR (I 52 64) := fun h => ⟨by omega, by omega⟩
  refine CT.ofV (n := 5) (ls := [some (aR 52), some (aI i), some (aI j), some (aI n), none]) rfl rfl rfl ?_
  refine V.blk [(0, .aload 0, 1), (1, .getfield 10064, 3), (4, .ifCond .ge 14, 3)] (ps := []) (z' := (brc .ge (I 52 64) 0 14 7, [some (aR 52), some (aI i), some (aI j), some (aI n), none], [], MM N I J)) (by decide +kernel) rfl trivial ?_
  refine V.ge (fun h1 => ?_) (fun h2 => ?_)
  · skip
    try simp only [b2_cast, b2_ncast, Classical.not_not, lcm_lt, lcm_ge, lcm_gt, lcm_le, lcm_eq, i64_toInt2 hi hn, i64_toInt2 hj hn, i64_toInt (hR (by omega))] at h1
    refine V.blk [(14, .iload 3, 1), (15, .ifCond .ge 25, 3)] (ps := []) (z' := (brc .ge n 0 25 18, [some (aR 52), some (aI i), some (aI j), some (aI n), none], [], MM N I J)) (by decide +kernel) rfl trivial ?_
    refine V.ge (fun h3 => ?_) (fun h4 => ?_)
    · skip
      try simp only [b2_cast, b2_ncast, Classical.not_not, lcm_lt, lcm_ge, lcm_gt, lcm_le, lcm_eq, i64_toInt2 hi hn, i64_toInt2 hj hn, i64_toInt (hR (by omega))] at h3
      refine V.blk [(25, .iload 1, 1), (26, .ifCond .lt 61, 3)] (ps := []) (z' := (brc .lt i 0 61 29, [some (aR 52), some (aI i), some (aI j), some (aI n), none], [], MM N I J)) (by decide +kernel) rfl trivial ?_
      refine V.lt (fun h5 => ?_) (fun h6 => ?_)
      · skip
        try simp only [b2_cast, b2_ncast, Classical.not_not, lcm_lt, lcm_ge, lcm_gt, lcm_le, lcm_eq, i64_toInt2 hi hn, i64_toInt2 hj hn, i64_toInt (hR (by omega))] at h5
        refine V.blk [(61, .aload 0, 1), (62, .bipush (-6), 2)] (ps := []) (z' := (64, [some (aR 52), some (aI i), some (aI j), some (aI n), none], [aI (-6), aR 52], MM N I J)) (by decide +kernel) rfl trivial ?_
        refine V.cv (c := 116) (na := 2) (o := 10) (a := 52) [aI (-6)] [] (by decide +kernel) rfl rfl rfl rfl rfl ((m_no (by assumption) (by omega)).mono (fun rv M1 q => ?_))
        obtain ⟨rfl, rfl⟩ := q
        show V 195 (67, [some (aR 52), some (aI i), some (aI j), some (aI n), none], [aI (-6)], MM N ((noU I (-6))) J) _
        refine V.nI (fun I7 eI7 => ?_)
        refine V.ri (by decide +kernel) ?_
        refine ⟨I 95, congrArg (fun w => some (aI w)) ?_, congrArg (fun w => MM N w J) ?_⟩
        all_goals (first | unfold copyMA | unfold copyMU)
        all_goals (repeat' split)
        all_goals first | rfl | omega | (exfalso; omega)
      · skip
        try simp only [b2_cast, b2_ncast, Classical.not_not, lcm_lt, lcm_ge, lcm_gt, lcm_le, lcm_eq, i64_toInt2 hi hn, i64_toInt2 hj hn, i64_toInt (hR (by omega))] at h6
        refine V.blk [(29, .iload 2, 1), (30, .ifCond .lt 61, 3)] (ps := []) (z' := (brc .lt j 0 61 33, [some (aR 52), some (aI i), some (aI j), some (aI n), none], [], MM N I J)) (by decide +kernel) rfl trivial ?_
        refine V.lt (fun h8 => ?_) (fun h9 => ?_)
        · skip
          try simp only [b2_cast, b2_ncast, Classical.not_not, lcm_lt, lcm_ge, lcm_gt, lcm_le, lcm_eq, i64_toInt2 hi hn, i64_toInt2 hj hn, i64_toInt (hR (by omega))] at h8
          refine V.blk [(61, .aload 0, 1), (62, .bipush (-6), 2)] (ps := []) (z' := (64, [some (aR 52), some (aI i), some (aI j), some (aI n), none], [aI (-6), aR 52], MM N I J)) (by decide +kernel) rfl trivial ?_
          refine V.cv (c := 116) (na := 2) (o := 10) (a := 52) [aI (-6)] [] (by decide +kernel) rfl rfl rfl rfl rfl ((m_no (by assumption) (by omega)).mono (fun rv M1 q => ?_))
          obtain ⟨rfl, rfl⟩ := q
          show V 195 (67, [some (aR 52), some (aI i), some (aI j), some (aI n), none], [aI (-6)], MM N ((noU I (-6))) J) _
          refine V.nI (fun I10 eI10 => ?_)
          refine V.ri (by decide +kernel) ?_
          refine ⟨I 95, congrArg (fun w => some (aI w)) ?_, congrArg (fun w => MM N w J) ?_⟩
          all_goals (first | unfold copyMA | unfold copyMU)
          all_goals (repeat' split)
          all_goals first | rfl | omega | (exfalso; omega)
        · skip
          try simp only [b2_cast, b2_ncast, Classical.not_not, lcm_lt, lcm_ge, lcm_gt, lcm_le, lcm_eq, i64_toInt2 hi hn, i64_toInt2 hj hn, i64_toInt (hR (by omega))] at h9
          refine V.blk [(33, .iload 1, 1), (34, .i2l, 1), (35, .iload 3, 1), (36, .i2l, 1), (37, .ladd, 1), (38, .aload 0, 1), (39, .getfield 10064, 3), (42, .i2l, 1), (43, .lcmp, 1), (44, .ifCond .gt 61, 3)] (ps := []) (z' := (brc .gt (lcm ((Int64.ofInt i) + (Int64.ofInt n)) (Int64.ofInt (I 52 64))) 0 61 47, [some (aR 52), some (aI i), some (aI j), some (aI n), none], [], MM N I J)) (by decide +kernel) rfl trivial ?_
          refine V.gt (fun h11 => ?_) (fun h12 => ?_)
          · skip
            try simp only [b2_cast, b2_ncast, Classical.not_not, lcm_lt, lcm_ge, lcm_gt, lcm_le, lcm_eq, i64_toInt2 hi hn, i64_toInt2 hj hn, i64_toInt (hR (by omega))] at h11
            refine V.blk [(61, .aload 0, 1), (62, .bipush (-6), 2)] (ps := []) (z' := (64, [some (aR 52), some (aI i), some (aI j), some (aI n), none], [aI (-6), aR 52], MM N I J)) (by decide +kernel) rfl trivial ?_
            refine V.cv (c := 116) (na := 2) (o := 10) (a := 52) [aI (-6)] [] (by decide +kernel) rfl rfl rfl rfl rfl ((m_no (by assumption) (by omega)).mono (fun rv M1 q => ?_))
            obtain ⟨rfl, rfl⟩ := q
            show V 195 (67, [some (aR 52), some (aI i), some (aI j), some (aI n), none], [aI (-6)], MM N ((noU I (-6))) J) _
            refine V.nI (fun I13 eI13 => ?_)
            refine V.ri (by decide +kernel) ?_
            refine ⟨I 95, congrArg (fun w => some (aI w)) ?_, congrArg (fun w => MM N w J) ?_⟩
            all_goals (first | unfold copyMA | unfold copyMU)
            all_goals (repeat' split)
            all_goals first | rfl | omega | (exfalso; omega)
          · skip
            try simp only [b2_cast, b2_ncast, Classical.not_not, lcm_lt, lcm_ge, lcm_gt, lcm_le, lcm_eq, i64_toInt2 hi hn, i64_toInt2 hj hn, i64_toInt (hR (by omega))] at h12
            refine V.blk [(47, .iload 2, 1), (48, .i2l, 1), (49, .iload 3, 1), (50, .i2l, 1), (51, .ladd, 1), (52, .aload 0, 1), (53, .getfield 10064, 3), (56, .i2l, 1), (57, .lcmp, 1), (58, .ifCond .le 68, 3)] (ps := []) (z' := (brc .le (lcm ((Int64.ofInt j) + (Int64.ofInt n)) (Int64.ofInt (I 52 64))) 0 68 61, [some (aR 52), some (aI i), some (aI j), some (aI n), none], [], MM N I J)) (by decide +kernel) rfl trivial ?_
            refine V.le (fun h14 => ?_) (fun h15 => ?_)
            · skip
              try simp only [b2_cast, b2_ncast, Classical.not_not, lcm_lt, lcm_ge, lcm_gt, lcm_le, lcm_eq, i64_toInt2 hi hn, i64_toInt2 hj hn, i64_toInt (hR (by omega))] at h14
              refine V.blk [(68, .bipush 0, 1), (69, .istore 4, 2)] (ps := []) (z' := (71, [some (aR 52), some (aI i), some (aI j), some (aI n), some (aI 0)], [], MM N I J)) (by decide +kernel) rfl trivial ?_
              refine (l_mcopy1 (by omega) (by omega) (by omega) (n.toNat + 1) 0 (I 95) _ (by omega) (by omega) (fun q hq => by omega) (ma_id _ _).symm).mono (fun r M' q => ?_)
              obtain ⟨rfl, g, rfl⟩ := q
              refine ⟨g, congrArg (fun w => some (aI w)) ?_, congrArg (fun w => MM N w J) ?_⟩
              all_goals (first | unfold copyMA | unfold copyMU)
              all_goals (repeat' split)
              all_goals first | rfl | omega | (exfalso; omega)
            · skip
              try simp only [b2_cast, b2_ncast, Classical.not_not, lcm_lt, lcm_ge, lcm_gt, lcm_le, lcm_eq, i64_toInt2 hi hn, i64_toInt2 hj hn, i64_toInt (hR (by omega))] at h15
              refine V.blk [(61, .aload 0, 1), (62, .bipush (-6), 2)] (ps := []) (z' := (64, [some (aR 52), some (aI i), some (aI j), some (aI n), none], [aI (-6), aR 52], MM N I J)) (by decide +kernel) rfl trivial ?_
              refine V.cv (c := 116) (na := 2) (o := 10) (a := 52) [aI (-6)] [] (by decide +kernel) rfl rfl rfl rfl rfl ((m_no (by assumption) (by omega)).mono (fun rv M1 q => ?_))
              obtain ⟨rfl, rfl⟩ := q
              show V 195 (67, [some (aR 52), some (aI i), some (aI j), some (aI n), none], [aI (-6)], MM N ((noU I (-6))) J) _
              refine V.nI (fun I16 eI16 => ?_)
              refine V.ri (by decide +kernel) ?_
              refine ⟨I 95, congrArg (fun w => some (aI w)) ?_, congrArg (fun w => MM N w J) ?_⟩
              all_goals (first | unfold copyMA | unfold copyMU)
              all_goals (repeat' split)
              all_goals first | rfl | omega | (exfalso; omega)
    · skip
      try simp only [b2_cast, b2_ncast, Classical.not_not, lcm_lt, lcm_ge, lcm_gt, lcm_le, lcm_eq, i64_toInt2 hi hn, i64_toInt2 hj hn, i64_toInt (hR (by omega))] at h4
      refine V.blk [(18, .aload 0, 1), (19, .bipush (-4), 2)] (ps := []) (z' := (21, [some (aR 52), some (aI i), some (aI j), some (aI n), none], [aI (-4), aR 52], MM N I J)) (by decide +kernel) rfl trivial ?_
      refine V.cv (c := 116) (na := 2) (o := 10) (a := 52) [aI (-4)] [] (by decide +kernel) rfl rfl rfl rfl rfl ((m_no (by assumption) (by omega)).mono (fun rv M1 q => ?_))
      obtain ⟨rfl, rfl⟩ := q
      show V 195 (24, [some (aR 52), some (aI i), some (aI j), some (aI n), none], [aI (-4)], MM N ((noU I (-4))) J) _
      refine V.nI (fun I17 eI17 => ?_)
      refine V.ri (by decide +kernel) ?_
      refine ⟨I 95, congrArg (fun w => some (aI w)) ?_, congrArg (fun w => MM N w J) ?_⟩
      all_goals (first | unfold copyMA | unfold copyMU)
      all_goals (repeat' split)
      all_goals first | rfl | omega | (exfalso; omega)
  · skip
    try simp only [b2_cast, b2_ncast, Classical.not_not, lcm_lt, lcm_ge, lcm_gt, lcm_le, lcm_eq, i64_toInt2 hi hn, i64_toInt2 hj hn, i64_toInt (hR (by omega))] at h2
    refine V.blk [(7, .aload 0, 1), (8, .bipush (-2), 2)] (ps := []) (z' := (10, [some (aR 52), some (aI i), some (aI j), some (aI n), none], [aI (-2), aR 52], MM N I J)) (by decide +kernel) rfl trivial ?_
    refine V.cv (c := 116) (na := 2) (o := 10) (a := 52) [aI (-2)] [] (by decide +kernel) rfl rfl rfl rfl rfl ((m_no (by assumption) (by omega)).mono (fun rv M1 q => ?_))
    obtain ⟨rfl, rfl⟩ := q
    show V 195 (13, [some (aR 52), some (aI i), some (aI j), some (aI n), none], [aI (-2)], MM N ((noU I (-2))) J) _
    refine V.nI (fun I18 eI18 => ?_)
    refine V.ri (by decide +kernel) ?_
    refine ⟨I 95, congrArg (fun w => some (aI w)) ?_, congrArg (fun w => MM N w J) ?_⟩
    all_goals (first | unfold copyMA | unfold copyMU)
    all_goals (repeat' split)
    all_goals first | rfl | omega | (exfalso; omega)
