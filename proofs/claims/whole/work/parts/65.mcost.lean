/-! ===== the reference: what it costs to be in, one place ===== -/
theorem mnF_at {b : Nat → Bool} {f : Nat → Int} {n q : Nat} (hb : b q = true) (h : ∀ r, n ≤ r → r < q → b r = false) (hn : n ≤ q) : mnF b f (q + 1) = if f q < mnF b f n then f q else mnF b f n := by
  have sk : ∀ d, n + d ≤ q → mnF b f (n + d) = mnF b f n := by
    intro d
    induction d with
    | zero => intro _; rfl
    | succ d ih =>
      intro hd
      show (if b (n + d) = true ∧ f (n + d) < mnF b f (n + d) then f (n + d) else mnF b f (n + d)) = _
      rw [h (n + d) (by omega) (by omega), if_neg (by simp), ih (by omega)]
  have e := sk (q - n) (by omega)
  rw [show n + (q - n) = q by omega] at e
  show (if b q = true ∧ f q < mnF b f q then f q else mnF b f q) = _
  rw [e, hb]
  simp only [true_and]
theorem mnF_end {b : Nat → Bool} {f : Nat → Int} {n m : Nat} (h : ∀ r, n ≤ r → r < m → b r = false) (hn : n ≤ m) : mnF b f m = mnF b f n := by
  have sk : ∀ d, n + d ≤ m → mnF b f (n + d) = mnF b f n := by
    intro d
    induction d with
    | zero => intro _; rfl
    | succ d ih =>
      intro hd
      show (if b (n + d) = true ∧ f (n + d) < mnF b f (n + d) then f (n + d) else mnF b f (n + d)) = _
      rw [h (n + d) (by omega) (by omega), if_neg (by simp), ih (by omega)]
  have e := sk (m - n) (by omega)
  rw [show n + (m - n) = m by omega] at e
  exact e
theorem up1_put {x f m cb : Int} (hx : x = up1 m) (hm : m ≤ 1000000) (hf : (cb = 1 + f ∧ 0 ≤ f ∧ f ≤ 1000000) ∨ (cb = 1000000 ∧ f = 1000000)) (h : cb < x) : cb = up1 (if f < m then f else m) := by
  unfold up1 at *
  split at hx
  · by_cases c : f < m
    · rw [if_pos c, if_pos (by omega)]; omega
    · omega
  · by_cases c : f < m
    · rw [if_pos c, if_pos (by omega)]; omega
    · omega
theorem up1_keep {x f m cb : Int} (hx : x = up1 m) (hm : m ≤ 1000000) (hf : (cb = 1 + f ∧ 0 ≤ f ∧ f ≤ 1000000) ∨ (cb = 1000000 ∧ f = 1000000)) (h : x ≤ cb) : x = up1 (if f < m then f else m) := by
  unfold up1 at *
  split at hx
  · by_cases c : f < m
    · omega
    · rw [if_neg c, if_pos (by omega)]; omega
  · by_cases c : f < m
    · rw [if_pos c]; split <;> omega
    · rw [if_neg c, if_neg (by omega)]; omega
theorem up1_far {x f m : Int} (hx : x = up1 m) (hm : m ≤ 1000000) (hf : f = 1000000) : x = up1 (if f < m then f else m) := up1_keep (cb := 1000000) hx hm (Or.inr ⟨rfl, hf⟩) (by unfold up1 at hx; split at hx <;> omega)
/-- what the reference takes one pair for -/
def cbM (K : MI) (c : Nat → Int) (pe q : Nat) : Int := if 1000 ≤ K 13 q then 1 + c ((K 13 q - 1000) / 10 * 8 + (K 13 q - 1000) % 10).toNat else if K 13 q = (pe : Int) then 1 else 1000000
theorem cbM_bh {K : MI} {c : Nat → Int} {pe q : Nat} {u : Bool} (hW : WPr K q) (h40 : K 1 1 ≤ 40) (hc : CPos c) (hu : decide (K 14 q ≠ 0) = u) : (cbM K c pe q = 1 + bhM K c pe u q ∧ 0 ≤ bhM K c pe u q ∧ bhM K c pe u q ≤ 1000000) ∨ (cbM K c pe q = 1000000 ∧ bhM K c pe u q = 1000000) := by
  obtain ⟨w1, w2, w3, w4, w5, w6, w7, w8, w9, w10⟩ := hW
  unfold cbM bhM
  rw [if_pos hu]
  by_cases h : 1000 ≤ K 13 q
  · have e18 : K 18 q = (K 13 q - 1000) / 10 * 8 + (K 13 q - 1000) % 10 := by
      rw [w9]
      unfold clubOf
      rw [if_pos h]
    have hin : (K 13 q - 1000) / 10 < K 1 1 ∧ (K 13 q - 1000) % 10 < 8 := by rcases w5 with w | w | w <;> omega
    rw [if_pos h, if_pos (show K 18 q ≠ -1 by omega), e18]
    have := hc ((K 13 q - 1000) / 10 * 8 + (K 13 q - 1000) % 10).toNat (by omega)
    left
    omega
  · have e18 : K 18 q = -1 := by
      rw [w9]
      unfold clubOf
      rw [if_neg h]
    rw [if_neg h, if_neg (show ¬ K 18 q ≠ -1 by omega)]
    by_cases g : K 13 q = (pe : Int)
    · rw [if_pos g, if_pos g]; left; omega
    · rw [if_neg g, if_neg g]; right; omega
theorem m_costBy {N : Nat} {I : MI} {J : MJ} {K : MI} {q pe : Nat} (hq : (q : Int) < K 10 9) (h4 : K 10 9 ≤ 400) (hP : RPr K I) (hW : WPr K q) (h40 : K 1 1 ≤ 40) (hc : CPos (I 89)) : CT 178 [aR 52, aI (q : Int), aI (pe : Int)] (MM N I J) (pure1 N I J (aI (cbM K (I 89) pe q))) := by
  obtain ⟨g1, g2, g3, g4, g5, g6⟩ := hP.2 q hq
  obtain ⟨w1, w2, w3, w4, w5, w6, w7, w8, w9, w10⟩ := hW
  refine CT.ofV (n := 3) (ls := [some (aR 52), some (aI (q : Int)), some (aI (pe : Int))]) rfl rfl rfl ?_
  refine V.blk [(0, .aload 0, 1), (1, .getfield 10009, 3), (4, .iload 1, 1), (5, .iaload, 1)] (ps := [0 ≤ (q : Int) ∧ (q : Int) < 420]) (z' := (6, [some (aR 52), some (aI (q : Int)), some (aI (pe : Int))], [aI (I 61 q)], MM N I J)) (by decide +kernel) rfl (show (0 ≤ (q : Int) ∧ (q : Int) < 420) from (by omega)) ?_
  refine V.cs (c := 122) (na := 1) [aI (I 61 q)] [] (by decide +kernel) rfl rfl (V.pr (m_X10_isClub) ?_)
  show V 178 (9, [some (aR 52), some (aI (q : Int)), some (aI (pe : Int))], [aI (b2 (decide (1000 ≤ (I 61 q))))], MM N I J) _
  refine V.blk [(9, .ifCond .eq 29, 3)] (ps := []) (z' := (brc .eq (b2 (decide (1000 ≤ (I 61 q)))) 0 29 12, [some (aR 52), some (aI (q : Int)), some (aI (pe : Int))], [], MM N I J)) (by decide +kernel) rfl trivial ?_
  refine V.eq (fun bh1 => ?_) (fun bh2 => ?_)
  · skip
    try simp only [b2_cast, b2_ncast, Classical.not_not, lcm_lt, lcm_ge, lcm_gt, lcm_le, lcm_eq, b2_0, b2_n0, b2_e1, b2_e0, Bool.not_eq_false, Bool.not_eq_true, decide_eq_true_eq, decide_eq_false_iff_not, Classical.not_not] at bh1
    refine V.blk [(29, .aload 0, 1), (30, .getfield 10009, 3), (33, .iload 1, 1), (34, .iaload, 1), (35, .iload 2, 1), (36, .if_icmp .ne 43, 3)] (ps := [0 ≤ (q : Int) ∧ (q : Int) < 420]) (z' := (brc .ne (I 61 q) (pe : Int) 43 39, [some (aR 52), some (aI (q : Int)), some (aI (pe : Int))], [], MM N I J)) (by decide +kernel) rfl (show (0 ≤ (q : Int) ∧ (q : Int) < 420) from (by omega)) ?_
    refine V.ne (fun bh3 => ?_) (fun bh4 => ?_)
    · skip
      try simp only [b2_cast, b2_ncast, Classical.not_not, lcm_lt, lcm_ge, lcm_gt, lcm_le, lcm_eq, b2_0, b2_n0, b2_e1, b2_e0, Bool.not_eq_false, Bool.not_eq_true, decide_eq_true_eq, decide_eq_false_iff_not, Classical.not_not] at bh3
      refine V.blk [(43, .bipush 1000000, 3)] (ps := []) (z' := (46, [some (aR 52), some (aI (q : Int)), some (aI (pe : Int))], [aI 1000000], MM N I J)) (by decide +kernel) rfl trivial ?_
      refine V.ri (by decide +kernel) ?_
      refine ⟨congrArg (fun w => some (aI w)) ?_, rfl⟩
      unfold cbM
      rw [if_neg (by omega)]
      first
        | rw [if_pos (by omega)]
        | rw [if_neg (by omega)]
    · skip
      try simp only [b2_cast, b2_ncast, Classical.not_not, lcm_lt, lcm_ge, lcm_gt, lcm_le, lcm_eq, b2_0, b2_n0, b2_e1, b2_e0, Bool.not_eq_false, Bool.not_eq_true, decide_eq_true_eq, decide_eq_false_iff_not, Classical.not_not] at bh4
      refine V.blk [(39, .bipush 1, 1), (40, .goto 46, 3)] (ps := []) (z' := (46, [some (aR 52), some (aI (q : Int)), some (aI (pe : Int))], [aI 1], MM N I J)) (by decide +kernel) rfl trivial ?_
      refine V.ri (by decide +kernel) ?_
      refine ⟨congrArg (fun w => some (aI w)) ?_, rfl⟩
      unfold cbM
      rw [if_neg (by omega)]
      first
        | rw [if_pos (by omega)]
        | rw [if_neg (by omega)]
  · skip
    try simp only [b2_cast, b2_ncast, Classical.not_not, lcm_lt, lcm_ge, lcm_gt, lcm_le, lcm_eq, b2_0, b2_n0, b2_e1, b2_e0, Bool.not_eq_false, Bool.not_eq_true, decide_eq_true_eq, decide_eq_false_iff_not, Classical.not_not] at bh2
    have hu5 : 1000 ≤ K 13 q ∧ (K 13 q - 1000) / 10 < K 1 1 ∧ (K 13 q - 1000) % 10 < 8 := by rcases w5 with w | w | w <;> omega
    have hcc := hc ((I 61 q - 1000) / 10 * 8 + (I 61 q - 1000) % 10).toNat (by omega)
    refine V.blk [(12, .bipush 1, 1), (13, .aload 0, 1), (14, .getfield 10050, 3), (17, .aload 0, 1), (18, .getfield 10009, 3), (21, .iload 1, 1), (22, .iaload, 1)] (ps := [0 ≤ (q : Int) ∧ (q : Int) < 420]) (z' := (23, [some (aR 52), some (aI (q : Int)), some (aI (pe : Int))], [aI (I 61 q), aR 89, aI 1], MM N I J)) (by decide +kernel) rfl (show (0 ≤ (q : Int) ∧ (q : Int) < 420) from (by omega)) ?_
    refine V.cs (c := 123) (na := 1) [aI (I 61 q)] [aR 89, aI 1] (by decide +kernel) rfl rfl (V.pr (m_X10_clubCell (by omega)) ?_)
    show V 178 (26, [some (aR 52), some (aI (q : Int)), some (aI (pe : Int))], [aI ((I 61 q - 1000) / 10 * 8 + (I 61 q - 1000) % 10), aR 89, aI 1], MM N I J) _
    refine V.blk [(26, .iaload, 1), (27, .iadd, 1)] (ps := [0 ≤ ((I 61 q - 1000) / 10 * 8 + (I 61 q - 1000) % 10) ∧ ((I 61 q - 1000) / 10 * 8 + (I 61 q - 1000) % 10) < 320, inR (1 + (I 89 (((I 61 q - 1000) / 10 * 8 + (I 61 q - 1000) % 10).toNat)))]) (z' := (28, [some (aR 52), some (aI (q : Int)), some (aI (pe : Int))], [aI (1 + (I 89 (((I 61 q - 1000) / 10 * 8 + (I 61 q - 1000) % 10).toNat)))], MM N I J)) (by decide +kernel) rfl (show (0 ≤ ((I 61 q - 1000) / 10 * 8 + (I 61 q - 1000) % 10) ∧ ((I 61 q - 1000) / 10 * 8 + (I 61 q - 1000) % 10) < 320) ∧ (inR (1 + (I 89 (((I 61 q - 1000) / 10 * 8 + (I 61 q - 1000) % 10).toNat)))) from ⟨(by omega), (by unfold inR; omega)⟩) ?_
    refine V.ri (by decide +kernel) ?_
    refine ⟨congrArg (fun w => some (aI w)) ?_, rfl⟩
    unfold cbM
    rw [if_pos (by omega), ← g3]
theorem l_ctold {N : Nat} {I : MI} {J : MJ} {K : MI} {L : MJ} {cp : Nat → Bool} {s m pe : Nat} (hm : K 10 9 = m) (hH : SH K L cp I) (hs : s < 320) (hc : CPos (I 89)) {u : Bool} : ∀ (k n : Nat) (x : Int), m + 1 ≤ k + n → n ≤ m → x = up1 (mnF (spB K cp s) (bhM K (I 89) pe u) n) → V 179 (13, [some (aR 52), some (aI (s : Int)), some (aI (b2 u)), some (aI (pe : Int)), some (aI x), some (aI (sr (spB K cp s) n m))], [], MM N I J) (pure1 N I J (aI (up1 (mnF (spB K cp s) (bhM K (I 89) pe u) m)))) := by
  intro k
  induction k with
  | zero => intro n x h1 h2; exfalso; omega
  | succ k ih =>
    intro n x h1 h2 hx
    have hP := hH.1.2.2.2.2.2.2.2.2.1
    have hm4 := hH.1.2.2.2.2.1
    have h40 := hH.1.1.2.1
    have hsc := sr_c (spB K cp s) h2
    have hml := mnF_le (spB K cp s) (bhM K (I 89) pe u) n
    refine V.blk [(13, .iload 5, 2), (15, .ifCond .lt 61, 3)] (ps := []) (z' := (brc .lt (sr (spB K cp s) n m) 0 61 18, [some (aR 52), some (aI (s : Int)), some (aI (b2 u)), some (aI (pe : Int)), some (aI x), some (aI (sr (spB K cp s) n m))], [], MM N I J)) (by decide +kernel) rfl trivial ?_
    refine V.lt (fun bh1 => ?_) (fun bh2 => ?_)
    · skip
      try simp only [b2_cast, b2_ncast, Classical.not_not, lcm_lt, lcm_ge, lcm_gt, lcm_le, lcm_eq, b2_0, b2_n0, b2_e1, b2_e0, Bool.not_eq_false, Bool.not_eq_true, decide_eq_true_eq, decide_eq_false_iff_not, Classical.not_not] at bh1
      refine V.blk [(61, .iload 4, 2)] (ps := []) (z' := (63, [some (aR 52), some (aI (s : Int)), some (aI (b2 u)), some (aI (pe : Int)), some (aI x), some (aI (sr (spB K cp s) n m))], [aI x], MM N I J)) (by decide +kernel) rfl trivial ?_
      refine V.ri (by decide +kernel) ?_
      refine ⟨congrArg (fun w => some (aI w)) ?_, rfl⟩
      rw [hx]
      refine congrArg up1 (mnF_end (fun r a b => ?_) h2).symm
      rcases hsc with ⟨-, w⟩ | ⟨q, q1, q2, q3, -⟩
      · exact w r a b
      · exfalso; omega
    · skip
      try simp only [b2_cast, b2_ncast, Classical.not_not, lcm_lt, lcm_ge, lcm_gt, lcm_le, lcm_eq, b2_0, b2_n0, b2_e1, b2_e0, Bool.not_eq_false, Bool.not_eq_true, decide_eq_true_eq, decide_eq_false_iff_not, Classical.not_not] at bh2
      obtain ⟨q, q1, q2, q3, q4, q5⟩ : ∃ q, n ≤ q ∧ q < m ∧ sr (spB K cp s) n m = (q : Int) ∧ spB K cp s q = true ∧ ∀ r, n ≤ r → r < q → spB K cp s r = false := by
        rcases hsc with ⟨w, -⟩ | w
        · exfalso; omega
        · exact w
      rw [q3]
      clear hsc
      obtain ⟨g1, g2, g3, g4, g5, g6⟩ := hP.2 q (by omega)
      obtain ⟨w1, w2, w3, w4, w5, w6, w7, w8, w9, w10⟩ := hH.1.2.2.2.1 q (by omega)
      have hqs := spB_t.mp q4
      have hnx : I 88 q = sr (spB K cp s) (q + 1) m := by
        have := hH.2.2.2 q (Nat.zero_le _) (by omega) hqs.1
        rw [this, show (K 17 q).toNat = s by omega, show (K 10 9).toNat = m by omega]
      have hcl : clubOf (K 13 q) = -1 ↔ K 13 q < 1000 := by
        unfold clubOf
        split <;> omega
      have htl : toldOf (K 13 q) = -1 ↔ ¬ (100 ≤ K 13 q ∧ K 13 q < 1000) := by
        unfold toldOf
        split <;> omega
      have hat := mnF_at (f := bhM K (I 89) pe u) q4 q5 q1
      have hcb := cbM_bh (pe := pe) (u := u) (hH.1.2.2.2.1 q (by omega)) h40 hc
      refine V.blk [(18, .aload 0, 1), (19, .iload 5, 2), (21, .iload 2, 1)] (ps := []) (z' := (22, [some (aR 52), some (aI (s : Int)), some (aI (b2 u)), some (aI (pe : Int)), some (aI x), some (aI (q : Int))], [aI (b2 u), aI (q : Int), aR 52], MM N I J)) (by decide +kernel) rfl trivial ?_
      refine V.cv (c := 164) (na := 3) (o := 10) (a := 52) [aI (b2 u), aI (q : Int)] [] (by decide +kernel) rfl rfl rfl rfl rfl (V.pr (m_isOf (K := K) (by omega) (by omega) hP) ?_)
      show V 179 (25, [some (aR 52), some (aI (s : Int)), some (aI (b2 u)), some (aI (pe : Int)), some (aI x), some (aI (q : Int))], [aI (b2 (decide (decide (K 14 q ≠ 0) = u)))], MM N I J) _
      refine V.blk [(25, .ifCond .eq 49, 3)] (ps := []) (z' := (brc .eq (b2 (decide (decide (K 14 q ≠ 0) = u))) 0 49 28, [some (aR 52), some (aI (s : Int)), some (aI (b2 u)), some (aI (pe : Int)), some (aI x), some (aI (q : Int))], [], MM N I J)) (by decide +kernel) rfl trivial ?_
      refine V.eq (fun bh3 => ?_) (fun bh4 => ?_)
      · skip
        try simp only [b2_cast, b2_ncast, Classical.not_not, lcm_lt, lcm_ge, lcm_gt, lcm_le, lcm_eq, b2_0, b2_n0, b2_e1, b2_e0, Bool.not_eq_false, Bool.not_eq_true, decide_eq_true_eq, decide_eq_false_iff_not, Classical.not_not] at bh3
        refine V.blk [(49, .aload 0, 1), (50, .getfield 10049, 3), (53, .iload 5, 2), (55, .iaload, 1), (56, .istore 5, 2), (58, .goto 13, 3)] (ps := [0 ≤ (q : Int) ∧ (q : Int) < 420]) (z' := (13, [some (aR 52), some (aI (s : Int)), some (aI (b2 u)), some (aI (pe : Int)), some (aI x), some (aI (I 88 q))], [], MM N I J)) (by decide +kernel) rfl (show (0 ≤ (q : Int) ∧ (q : Int) < 420) from (by omega)) ?_
        rw [hnx]
        refine ih (q + 1) x (by omega) (by omega) ?_
        rw [hat]
        by_cases hu : decide (K 14 q ≠ 0) = u
        · refine up1_keep hx hml (hcb hu) ?_
          first
            | omega
            | (exfalso; simp_all; done)
        · exact up1_far hx hml (by unfold bhM; rw [if_neg hu])
      · skip
        try simp only [b2_cast, b2_ncast, Classical.not_not, lcm_lt, lcm_ge, lcm_gt, lcm_le, lcm_eq, b2_0, b2_n0, b2_e1, b2_e0, Bool.not_eq_false, Bool.not_eq_true, decide_eq_true_eq, decide_eq_false_iff_not, Classical.not_not] at bh4
        refine V.blk [(28, .aload 0, 1), (29, .iload 5, 2), (31, .iload 3, 1)] (ps := []) (z' := (32, [some (aR 52), some (aI (s : Int)), some (aI (b2 u)), some (aI (pe : Int)), some (aI x), some (aI (q : Int))], [aI (pe : Int), aI (q : Int), aR 52], MM N I J)) (by decide +kernel) rfl trivial ?_
        refine V.cv (c := 178) (na := 3) (o := 10) (a := 52) [aI (pe : Int), aI (q : Int)] [] (by decide +kernel) rfl rfl rfl rfl rfl (V.pr (m_costBy (K := K) (by omega) (by omega) hP (hH.1.2.2.2.1 q (by omega)) h40 hc) ?_)
        show V 179 (35, [some (aR 52), some (aI (s : Int)), some (aI (b2 u)), some (aI (pe : Int)), some (aI x), some (aI (q : Int))], [aI (cbM K (I 89) pe q)], MM N I J) _
        refine V.blk [(35, .iload 4, 2), (37, .if_icmp .ge 49, 3)] (ps := []) (z' := (brc .ge (cbM K (I 89) pe q) x 49 40, [some (aR 52), some (aI (s : Int)), some (aI (b2 u)), some (aI (pe : Int)), some (aI x), some (aI (q : Int))], [], MM N I J)) (by decide +kernel) rfl trivial ?_
        refine V.ge (fun bh5 => ?_) (fun bh6 => ?_)
        · skip
          try simp only [b2_cast, b2_ncast, Classical.not_not, lcm_lt, lcm_ge, lcm_gt, lcm_le, lcm_eq, b2_0, b2_n0, b2_e1, b2_e0, Bool.not_eq_false, Bool.not_eq_true, decide_eq_true_eq, decide_eq_false_iff_not, Classical.not_not] at bh5
          refine V.blk [(49, .aload 0, 1), (50, .getfield 10049, 3), (53, .iload 5, 2), (55, .iaload, 1), (56, .istore 5, 2), (58, .goto 13, 3)] (ps := [0 ≤ (q : Int) ∧ (q : Int) < 420]) (z' := (13, [some (aR 52), some (aI (s : Int)), some (aI (b2 u)), some (aI (pe : Int)), some (aI x), some (aI (I 88 q))], [], MM N I J)) (by decide +kernel) rfl (show (0 ≤ (q : Int) ∧ (q : Int) < 420) from (by omega)) ?_
          rw [hnx]
          refine ih (q + 1) x (by omega) (by omega) ?_
          rw [hat]
          by_cases hu : decide (K 14 q ≠ 0) = u
          · refine up1_keep hx hml (hcb hu) ?_
            first
              | omega
              | (exfalso; simp_all; done)
          · exact up1_far hx hml (by unfold bhM; rw [if_neg hu])
        · skip
          try simp only [b2_cast, b2_ncast, Classical.not_not, lcm_lt, lcm_ge, lcm_gt, lcm_le, lcm_eq, b2_0, b2_n0, b2_e1, b2_e0, Bool.not_eq_false, Bool.not_eq_true, decide_eq_true_eq, decide_eq_false_iff_not, Classical.not_not] at bh6
          refine V.blk [(40, .aload 0, 1), (41, .iload 5, 2), (43, .iload 3, 1)] (ps := []) (z' := (44, [some (aR 52), some (aI (s : Int)), some (aI (b2 u)), some (aI (pe : Int)), some (aI x), some (aI (q : Int))], [aI (pe : Int), aI (q : Int), aR 52], MM N I J)) (by decide +kernel) rfl trivial ?_
          refine V.cv (c := 178) (na := 3) (o := 10) (a := 52) [aI (pe : Int), aI (q : Int)] [] (by decide +kernel) rfl rfl rfl rfl rfl (V.pr (m_costBy (K := K) (by omega) (by omega) hP (hH.1.2.2.2.1 q (by omega)) h40 hc) ?_)
          show V 179 (47, [some (aR 52), some (aI (s : Int)), some (aI (b2 u)), some (aI (pe : Int)), some (aI x), some (aI (q : Int))], [aI (cbM K (I 89) pe q)], MM N I J) _
          refine V.blk [(47, .istore 4, 2), (49, .aload 0, 1), (50, .getfield 10049, 3), (53, .iload 5, 2), (55, .iaload, 1), (56, .istore 5, 2), (58, .goto 13, 3)] (ps := [0 ≤ (q : Int) ∧ (q : Int) < 420]) (z' := (13, [some (aR 52), some (aI (s : Int)), some (aI (b2 u)), some (aI (pe : Int)), some (aI (cbM K (I 89) pe q)), some (aI (I 88 q))], [], MM N I J)) (by decide +kernel) rfl (show (0 ≤ (q : Int) ∧ (q : Int) < 420) from (by omega)) ?_
          rw [hnx]
          refine ih (q + 1) _ (by omega) (by omega) ?_
          rw [hat]
          exact up1_put hx hml (hcb (by simp_all)) (by omega)
theorem m_costTold {N : Nat} {I : MI} {J : MJ} {K : MI} {L : MJ} {cp : Nat → Bool} {s m pe : Nat} (hm : K 10 9 = m) (hH : SH K L cp I) (hs : s < 320) (hc : CPos (I 89)) {u : Bool} : CT 179 [aR 52, aI (s : Int), aI (b2 u), aI (pe : Int)] (MM N I J) (pure1 N I J (aI (up1 (mnF (spB K cp s) (bhM K (I 89) pe u) m)))) := by
  refine CT.ofV (n := 6) (ls := [some (aR 52), some (aI (s : Int)), some (aI (b2 u)), some (aI (pe : Int)), none, none]) rfl rfl rfl ?_
  refine V.blk [(0, .bipush 1000000, 3), (3, .istore 4, 2), (5, .aload 0, 1), (6, .getfield 10048, 3), (9, .iload 1, 1), (10, .iaload, 1), (11, .istore 5, 2)] (ps := [0 ≤ (s : Int) ∧ (s : Int) < 320]) (z' := (13, [some (aR 52), some (aI (s : Int)), some (aI (b2 u)), some (aI (pe : Int)), some (aI 1000000), some (aI (I 87 s))], [], MM N I J)) (by decide +kernel) rfl (show (0 ≤ (s : Int) ∧ (s : Int) < 320) from (by omega)) ?_
  rw [hH.2.2.1 s hs, show (K 10 9).toNat = m by omega]
  exact l_ctold hm hH hs hc (m + 1) 0 _ (by omega) (by omega) (by unfold mnF up1; rfl)
theorem l_cthr {N : Nat} {I : MI} {J : MJ} {K : MI} {L : MJ} {cp : Nat → Bool} {s m : Nat} (hm : K 10 9 = m) (hH : SH K L cp I) (hs : s < 320) (hc : CPos (I 89)) {y : Nat} (hy : y < 8) : ∀ (k n : Nat) (x : Int) (wo : Option AV), m + 1 ≤ k + n → n ≤ m → x = up1 (mnF (spB K cp s) (bhT K (I 89) y) n) → V 180 (12, [some (aR 52), some (aI (s : Int)), some (aI (y : Int)), some (aI x), some (aI (sr (spB K cp s) n m)), wo], [], MM N I J) (pure1 N I J (aI (up1 (mnF (spB K cp s) (bhT K (I 89) y) m)))) := by
  intro k
  induction k with
  | zero => intro n x wo h1 h2; exfalso; omega
  | succ k ih =>
    intro n x wo h1 h2 hx
    have hP := hH.1.2.2.2.2.2.2.2.2.1
    have hm4 := hH.1.2.2.2.2.1
    have h40 := hH.1.1.2.1
    have hsc := sr_c (spB K cp s) h2
    have hml := mnF_le (spB K cp s) (bhT K (I 89) y) n
    refine V.blk [(12, .iload 4, 2), (14, .ifCond .lt 90, 3)] (ps := []) (z' := (brc .lt (sr (spB K cp s) n m) 0 90 17, [some (aR 52), some (aI (s : Int)), some (aI (y : Int)), some (aI x), some (aI (sr (spB K cp s) n m)), wo], [], MM N I J)) (by decide +kernel) rfl trivial ?_
    refine V.lt (fun bh1 => ?_) (fun bh2 => ?_)
    · skip
      try simp only [b2_cast, b2_ncast, Classical.not_not, lcm_lt, lcm_ge, lcm_gt, lcm_le, lcm_eq, b2_0, b2_n0, b2_e1, b2_e0, Bool.not_eq_false, Bool.not_eq_true, decide_eq_true_eq, decide_eq_false_iff_not, Classical.not_not] at bh1
      refine V.blk [(90, .iload 3, 1)] (ps := []) (z' := (91, [some (aR 52), some (aI (s : Int)), some (aI (y : Int)), some (aI x), some (aI (sr (spB K cp s) n m)), wo], [aI x], MM N I J)) (by decide +kernel) rfl trivial ?_
      refine V.ri (by decide +kernel) ?_
      refine ⟨congrArg (fun w => some (aI w)) ?_, rfl⟩
      rw [hx]
      refine congrArg up1 (mnF_end (fun r a b => ?_) h2).symm
      rcases hsc with ⟨-, w⟩ | ⟨q, q1, q2, q3, -⟩
      · exact w r a b
      · exfalso; omega
    · skip
      try simp only [b2_cast, b2_ncast, Classical.not_not, lcm_lt, lcm_ge, lcm_gt, lcm_le, lcm_eq, b2_0, b2_n0, b2_e1, b2_e0, Bool.not_eq_false, Bool.not_eq_true, decide_eq_true_eq, decide_eq_false_iff_not, Classical.not_not] at bh2
      obtain ⟨q, q1, q2, q3, q4, q5⟩ : ∃ q, n ≤ q ∧ q < m ∧ sr (spB K cp s) n m = (q : Int) ∧ spB K cp s q = true ∧ ∀ r, n ≤ r → r < q → spB K cp s r = false := by
        rcases hsc with ⟨w, -⟩ | w
        · exfalso; omega
        · exact w
      rw [q3]
      clear hsc
      obtain ⟨g1, g2, g3, g4, g5, g6⟩ := hP.2 q (by omega)
      obtain ⟨w1, w2, w3, w4, w5, w6, w7, w8, w9, w10⟩ := hH.1.2.2.2.1 q (by omega)
      have hqs := spB_t.mp q4
      have hnx : I 88 q = sr (spB K cp s) (q + 1) m := by
        have := hH.2.2.2 q (Nat.zero_le _) (by omega) hqs.1
        rw [this, show (K 17 q).toNat = s by omega, show (K 10 9).toNat = m by omega]
      have hcl : clubOf (K 13 q) = -1 ↔ K 13 q < 1000 := by
        unfold clubOf
        split <;> omega
      have htl : toldOf (K 13 q) = -1 ↔ ¬ (100 ≤ K 13 q ∧ K 13 q < 1000) := by
        unfold toldOf
        split <;> omega
      have hat := mnF_at (f := bhT K (I 89) y) q4 q5 q1
      refine V.blk [(17, .aload 0, 1), (18, .getfield 10009, 3), (21, .iload 4, 2), (23, .iaload, 1), (24, .bipush 100, 2), (26, .if_icmp .lt 78, 3)] (ps := [0 ≤ (q : Int) ∧ (q : Int) < 420]) (z' := (brc .lt (I 61 q) 100 78 29, [some (aR 52), some (aI (s : Int)), some (aI (y : Int)), some (aI x), some (aI (q : Int)), wo], [], MM N I J)) (by decide +kernel) rfl (show (0 ≤ (q : Int) ∧ (q : Int) < 420) from (by omega)) ?_
      refine V.lt (fun bh3 => ?_) (fun bh4 => ?_)
      · skip
        try simp only [b2_cast, b2_ncast, Classical.not_not, lcm_lt, lcm_ge, lcm_gt, lcm_le, lcm_eq, b2_0, b2_n0, b2_e1, b2_e0, Bool.not_eq_false, Bool.not_eq_true, decide_eq_true_eq, decide_eq_false_iff_not, Classical.not_not] at bh3
        refine V.blk [(78, .aload 0, 1), (79, .getfield 10049, 3), (82, .iload 4, 2), (84, .iaload, 1), (85, .istore 4, 2), (87, .goto 12, 3)] (ps := [0 ≤ (q : Int) ∧ (q : Int) < 420]) (z' := (12, [some (aR 52), some (aI (s : Int)), some (aI (y : Int)), some (aI x), some (aI (I 88 q)), wo], [], MM N I J)) (by decide +kernel) rfl (show (0 ≤ (q : Int) ∧ (q : Int) < 420) from (by omega)) ?_
        rw [hnx]
        refine ih (q + 1) x _ (by omega) (by omega) ?_
        rw [hat]
        first
          | exact up1_keep hx hml (Or.inl ⟨rfl, by omega, by omega⟩) (by omega)
          | exact up1_far hx hml (by unfold bhT; rw [if_pos (by rw [w10, htl]; omega)])
      · skip
        try simp only [b2_cast, b2_ncast, Classical.not_not, lcm_lt, lcm_ge, lcm_gt, lcm_le, lcm_eq, b2_0, b2_n0, b2_e1, b2_e0, Bool.not_eq_false, Bool.not_eq_true, decide_eq_true_eq, decide_eq_false_iff_not, Classical.not_not] at bh4
        refine V.blk [(29, .aload 0, 1), (30, .getfield 10009, 3), (33, .iload 4, 2), (35, .iaload, 1), (36, .bipush 1000, 3), (39, .if_icmp .lt 45, 3)] (ps := [0 ≤ (q : Int) ∧ (q : Int) < 420]) (z' := (brc .lt (I 61 q) 1000 45 42, [some (aR 52), some (aI (s : Int)), some (aI (y : Int)), some (aI x), some (aI (q : Int)), wo], [], MM N I J)) (by decide +kernel) rfl (show (0 ≤ (q : Int) ∧ (q : Int) < 420) from (by omega)) ?_
        refine V.lt (fun bh5 => ?_) (fun bh6 => ?_)
        · skip
          try simp only [b2_cast, b2_ncast, Classical.not_not, lcm_lt, lcm_ge, lcm_gt, lcm_le, lcm_eq, b2_0, b2_n0, b2_e1, b2_e0, Bool.not_eq_false, Bool.not_eq_true, decide_eq_true_eq, decide_eq_false_iff_not, Classical.not_not] at bh5
          have hu5 : (K 13 q - 100) < K 1 1 := by rcases w5 with w | w | w <;> omega
          have e19 : (8 * (I 61 q - 100) + (y : Int)).toNat = (K 19 q).toNat * 8 + y := by
            rw [w10, g3]
            unfold toldOf
            rw [if_pos (by omega)]
            omega
          have hcc := hc ((K 19 q).toNat * 8 + y) (by rw [← e19]; omega)
          have ebh : bhT K (I 89) y q = I 89 ((K 19 q).toNat * 8 + y) := by
            unfold bhT
            rw [if_neg (by rw [w10, htl]; omega)]
          rw [← e19] at hcc ebh
          refine V.blk [(45, .bipush 1, 1), (46, .aload 0, 1), (47, .getfield 10050, 3), (50, .bipush 8, 2), (52, .aload 0, 1), (53, .getfield 10009, 3), (56, .iload 4, 2), (58, .iaload, 1), (59, .bipush 100, 2), (61, .isub, 1), (62, .imul, 1), (63, .iload 2, 1), (64, .iadd, 1), (65, .iaload, 1), (66, .iadd, 1), (67, .istore 5, 2), (69, .iload 5, 2), (71, .iload 3, 1), (72, .if_icmp .ge 78, 3)] (ps := [0 ≤ (q : Int) ∧ (q : Int) < 420, inR ((I 61 q) - 100), inR (8 * ((I 61 q) - 100)), inR ((8 * ((I 61 q) - 100)) + (y : Int)), 0 ≤ ((8 * ((I 61 q) - 100)) + (y : Int)) ∧ ((8 * ((I 61 q) - 100)) + (y : Int)) < 320, inR (1 + (I 89 (((8 * ((I 61 q) - 100)) + (y : Int)).toNat)))]) (z' := (brc .ge (1 + (I 89 (((8 * ((I 61 q) - 100)) + (y : Int)).toNat))) x 78 75, [some (aR 52), some (aI (s : Int)), some (aI (y : Int)), some (aI x), some (aI (q : Int)), some (aI (1 + (I 89 (((8 * ((I 61 q) - 100)) + (y : Int)).toNat))))], [], MM N I J)) (by decide +kernel) rfl (show (0 ≤ (q : Int) ∧ (q : Int) < 420) ∧ (inR ((I 61 q) - 100)) ∧ (inR (8 * ((I 61 q) - 100))) ∧ (inR ((8 * ((I 61 q) - 100)) + (y : Int))) ∧ (0 ≤ ((8 * ((I 61 q) - 100)) + (y : Int)) ∧ ((8 * ((I 61 q) - 100)) + (y : Int)) < 320) ∧ (inR (1 + (I 89 (((8 * ((I 61 q) - 100)) + (y : Int)).toNat)))) from ⟨(by omega), (by unfold inR; omega), (by unfold inR; omega), (by unfold inR; omega), (by omega), (by unfold inR; omega)⟩) ?_
          refine V.ge (fun bh7 => ?_) (fun bh8 => ?_)
          · skip
            try simp only [b2_cast, b2_ncast, Classical.not_not, lcm_lt, lcm_ge, lcm_gt, lcm_le, lcm_eq, b2_0, b2_n0, b2_e1, b2_e0, Bool.not_eq_false, Bool.not_eq_true, decide_eq_true_eq, decide_eq_false_iff_not, Classical.not_not] at bh7
            refine V.blk [(78, .aload 0, 1), (79, .getfield 10049, 3), (82, .iload 4, 2), (84, .iaload, 1), (85, .istore 4, 2), (87, .goto 12, 3)] (ps := [0 ≤ (q : Int) ∧ (q : Int) < 420]) (z' := (12, [some (aR 52), some (aI (s : Int)), some (aI (y : Int)), some (aI x), some (aI (I 88 q)), some (aI (1 + (I 89 (((8 * ((I 61 q) - 100)) + (y : Int)).toNat))))], [], MM N I J)) (by decide +kernel) rfl (show (0 ≤ (q : Int) ∧ (q : Int) < 420) from (by omega)) ?_
            rw [hnx]
            refine ih (q + 1) x _ (by omega) (by omega) ?_
            rw [hat]
            first
              | exact up1_keep hx hml (Or.inl ⟨rfl, by omega, by omega⟩) (by omega)
              | exact up1_far hx hml (by unfold bhT; rw [if_pos (by rw [w10, htl]; omega)])
          · skip
            try simp only [b2_cast, b2_ncast, Classical.not_not, lcm_lt, lcm_ge, lcm_gt, lcm_le, lcm_eq, b2_0, b2_n0, b2_e1, b2_e0, Bool.not_eq_false, Bool.not_eq_true, decide_eq_true_eq, decide_eq_false_iff_not, Classical.not_not] at bh8
            refine V.blk [(75, .iload 5, 2), (77, .istore 3, 1), (78, .aload 0, 1), (79, .getfield 10049, 3), (82, .iload 4, 2), (84, .iaload, 1), (85, .istore 4, 2), (87, .goto 12, 3)] (ps := [0 ≤ (q : Int) ∧ (q : Int) < 420]) (z' := (12, [some (aR 52), some (aI (s : Int)), some (aI (y : Int)), some (aI (1 + (I 89 (((8 * ((I 61 q) - 100)) + (y : Int)).toNat)))), some (aI (I 88 q)), some (aI (1 + (I 89 (((8 * ((I 61 q) - 100)) + (y : Int)).toNat))))], [], MM N I J)) (by decide +kernel) rfl (show (0 ≤ (q : Int) ∧ (q : Int) < 420) from (by omega)) ?_
            rw [hnx]
            refine ih (q + 1) _ _ (by omega) (by omega) ?_
            rw [hat]
            exact up1_put hx hml (Or.inl ⟨by omega, by omega, by omega⟩) (by omega)
        · skip
          try simp only [b2_cast, b2_ncast, Classical.not_not, lcm_lt, lcm_ge, lcm_gt, lcm_le, lcm_eq, b2_0, b2_n0, b2_e1, b2_e0, Bool.not_eq_false, Bool.not_eq_true, decide_eq_true_eq, decide_eq_false_iff_not, Classical.not_not] at bh6
          refine V.blk [(42, .goto 78, 3), (78, .aload 0, 1), (79, .getfield 10049, 3), (82, .iload 4, 2), (84, .iaload, 1), (85, .istore 4, 2), (87, .goto 12, 3)] (ps := [0 ≤ (q : Int) ∧ (q : Int) < 420]) (z' := (12, [some (aR 52), some (aI (s : Int)), some (aI (y : Int)), some (aI x), some (aI (I 88 q)), wo], [], MM N I J)) (by decide +kernel) rfl (show (0 ≤ (q : Int) ∧ (q : Int) < 420) from (by omega)) ?_
          rw [hnx]
          refine ih (q + 1) x _ (by omega) (by omega) ?_
          rw [hat]
          first
            | exact up1_keep hx hml (Or.inl ⟨rfl, by omega, by omega⟩) (by omega)
            | exact up1_far hx hml (by unfold bhT; rw [if_pos (by rw [w10, htl]; omega)])
theorem m_costThrough {N : Nat} {I : MI} {J : MJ} {K : MI} {L : MJ} {cp : Nat → Bool} {s m : Nat} (hm : K 10 9 = m) (hH : SH K L cp I) (hs : s < 320) (hc : CPos (I 89)) {y : Nat} (hy : y < 8) : CT 180 [aR 52, aI (s : Int), aI (y : Int)] (MM N I J) (pure1 N I J (aI (up1 (mnF (spB K cp s) (bhT K (I 89) y) m)))) := by
  refine CT.ofV (n := 6) (ls := [some (aR 52), some (aI (s : Int)), some (aI (y : Int)), none, none, none]) rfl rfl rfl ?_
  refine V.blk [(0, .bipush 1000000, 3), (3, .istore 3, 1), (4, .aload 0, 1), (5, .getfield 10048, 3), (8, .iload 1, 1), (9, .iaload, 1), (10, .istore 4, 2)] (ps := [0 ≤ (s : Int) ∧ (s : Int) < 320]) (z' := (12, [some (aR 52), some (aI (s : Int)), some (aI (y : Int)), some (aI 1000000), some (aI (I 87 s)), none], [], MM N I J)) (by decide +kernel) rfl (show (0 ≤ (s : Int) ∧ (s : Int) < 320) from (by omega)) ?_
  rw [hH.2.2.1 s hs, show (K 10 9).toNat = m by omega]
  exact l_cthr hm hH hs hc hy (m + 1) 0 _ _ (by omega) (by omega) (by unfold mnF up1; rfl)
theorem m_costOf {N : Nat} {I : MI} {J : MJ} {K : MI} {L : MJ} {cp : Nat → Bool} {s p pe : Nat} (hH : SH K L cp I) (hs : s < 320) (hp : p < 64) (hpe : pe < 64) (hc : CPos (I 89)) (hT : 4 ≤ K 4 p → K 4 p ≤ 6 → (1 ≤ I 90 (K 5 p).toNat ∧ I 90 (K 5 p).toNat ≤ 1000000) ∧ (1 ≤ I 90 (K 6 p).toNat ∧ I 90 (K 6 p).toNat ≤ 1000000)) (hV : K 4 p = 6 → J 85 (K 6 p).toNat = pl K cp (J 83) s (K 6 p).toNat) : CT 177 [aR 52, aI (p : Int), aI (s : Int), aI (pe : Int)] (MM N I J) (fun rv M' => ∃ r, rv = some (aI r) ∧ M' = MM N I J ∧ 1 ≤ r ∧ r ≤ 1000001 ∧ (if 1000000 < r then 1000000 else r) = prS K cp (J 83) (I 89) pe s (I 90) p) := by
  obtain ⟨m, hm⟩ : ∃ m : Nat, K 10 9 = m := ⟨(K 10 9).toNat, by have := hH.1.2.2.2.2.1; omega⟩
  obtain ⟨r54, r55, r56, -⟩ := hH.1.2.2.2.2.2.2.2.1.1 p hp
  have rr := hH.1.2.1.rt.1 p hp
  have ll := hH.1.2.1.rt.2.1 p hp
  have hm2 : (K 10 9).toNat = m := by omega
  have hm4 := hH.1.2.2.2.2.1
  have hq := hH.2.1.2.2.2.1
  refine CT.ofV (n := 7) (ls := [some (aR 52), some (aI (p : Int)), some (aI (s : Int)), some (aI (pe : Int)), none, none, none]) rfl rfl rfl ?_
  refine V.blk [(0, .iload 2, 1), (1, .bipush 8, 2), (3, .idiv, 1), (4, .bipush 8, 2), (6, .imul, 1), (7, .istore 4, 2), (9, .aload 0, 1), (10, .getfield 10003, 3), (13, .iload 1, 1), (14, .iaload, 1), (15, .istore 5, 2), (17, .aload 0, 1), (18, .getfield 10004, 3), (21, .iload 1, 1), (22, .iaload, 1), (23, .istore 6, 2), (25, .aload 0, 1), (26, .getfield 10002, 3), (29, .iload 1, 1), (30, .iaload, 1), (31, .tableswitch 210 0 6 #[72, 72, 85, 98, 110, 145, 180], 41)] (ps := [0 ≤ (s : Int) ∧ 0 < 8, inR (((s / 8 : Nat) : Int) * 8), 0 ≤ (p : Int) ∧ (p : Int) < 64, 0 ≤ (p : Int) ∧ (p : Int) < 64, 0 ≤ (p : Int) ∧ (p : Int) < 64]) (z' := (tsw 210 0 6 [72, 72, 85, 98, 110, 145, 180] (I 54 p), [some (aR 52), some (aI (p : Int)), some (aI (s : Int)), some (aI (pe : Int)), some (aI (((s / 8) * 8 : Nat) : Int)), some (aI (I 55 p)), some (aI (I 56 p))], [], MM N I J)) (by decide +kernel) rfl (show (0 ≤ (s : Int) ∧ 0 < 8) ∧ (inR (((s / 8 : Nat) : Int) * 8)) ∧ (0 ≤ (p : Int) ∧ (p : Int) < 64) ∧ (0 ≤ (p : Int) ∧ (p : Int) < 64) ∧ (0 ≤ (p : Int) ∧ (p : Int) < 64) from ⟨(by omega), (by unfold inR; omega), (by omega), (by omega), (by omega)⟩) ?_
  refine V.ts (fun k t1 hlt hle => ?_) (by decide) (fun bh2 => ?_)
  · match k, t1, hlt with
    | 0, t1, _ =>
      show V 177 (72, [some (aR 52), some (aI (p : Int)), some (aI (s : Int)), some (aI (pe : Int)), some (aI (((s / 8) * 8 : Nat) : Int)), some (aI (I 55 p)), some (aI (I 56 p))], [], MM N I J) _
      have e4 : K 4 p = 0 := by have := t1; omega
      refine V.blk [(72, .aload 0, 1), (73, .iload 2, 1), (74, .aload 0, 1), (75, .getfield 10002, 3), (78, .iload 1, 1), (79, .iaload, 1), (80, .iload 3, 1)] (ps := [0 ≤ (p : Int) ∧ (p : Int) < 64]) (z' := (81, [some (aR 52), some (aI (p : Int)), some (aI (s : Int)), some (aI (pe : Int)), some (aI (((s / 8) * 8 : Nat) : Int)), some (aI (I 55 p)), some (aI (I 56 p))], [aI (pe : Int), aI (I 54 p), aI (s : Int), aR 52], MM N I J)) (by decide +kernel) rfl (show (0 ≤ (p : Int) ∧ (p : Int) < 64) from (by omega)) ?_
      have eu : I 54 p = b2 (decide (K 4 p = 1)) := by
        rw [r54, e4]
        rfl
      rw [eu]
      refine V.cv (c := 179) (na := 4) (o := 10) (a := 52) [aI (pe : Int), aI (b2 (decide (K 4 p = 1))), aI (s : Int)] [] (by decide +kernel) rfl rfl rfl rfl rfl (V.pr (m_costTold hm hH hs hc) ?_)
      show V 177 (84, [some (aR 52), some (aI (p : Int)), some (aI (s : Int)), some (aI (pe : Int)), some (aI (((s / 8) * 8 : Nat) : Int)), some (aI (I 55 p)), some (aI (I 56 p))], [aI (up1 (mnF (spB K cp s) (bhM K (I 89) pe (decide (K 4 p = 1))) m))], MM N I J) _
      refine V.ri (by decide +kernel) ?_
      have hnn := mnF_nn (b := spB K cp s) (f := bhM K (I 89) pe (decide (K 4 p = 1))) m (fun q a b => bhM_nn hq hc (by omega))
      have hu := up1_in hnn
      refine ⟨_, rfl, rfl, hu.1, by omega, ?_⟩
      rw [if_neg (by omega)]
      unfold prS
      simp only [e4, hm2]
      rfl
    | 1, t1, _ =>
      show V 177 (72, [some (aR 52), some (aI (p : Int)), some (aI (s : Int)), some (aI (pe : Int)), some (aI (((s / 8) * 8 : Nat) : Int)), some (aI (I 55 p)), some (aI (I 56 p))], [], MM N I J) _
      have e4 : K 4 p = 1 := by have := t1; omega
      refine V.blk [(72, .aload 0, 1), (73, .iload 2, 1), (74, .aload 0, 1), (75, .getfield 10002, 3), (78, .iload 1, 1), (79, .iaload, 1), (80, .iload 3, 1)] (ps := [0 ≤ (p : Int) ∧ (p : Int) < 64]) (z' := (81, [some (aR 52), some (aI (p : Int)), some (aI (s : Int)), some (aI (pe : Int)), some (aI (((s / 8) * 8 : Nat) : Int)), some (aI (I 55 p)), some (aI (I 56 p))], [aI (pe : Int), aI (I 54 p), aI (s : Int), aR 52], MM N I J)) (by decide +kernel) rfl (show (0 ≤ (p : Int) ∧ (p : Int) < 64) from (by omega)) ?_
      have eu : I 54 p = b2 (decide (K 4 p = 1)) := by
        rw [r54, e4]
        rfl
      rw [eu]
      refine V.cv (c := 179) (na := 4) (o := 10) (a := 52) [aI (pe : Int), aI (b2 (decide (K 4 p = 1))), aI (s : Int)] [] (by decide +kernel) rfl rfl rfl rfl rfl (V.pr (m_costTold hm hH hs hc) ?_)
      show V 177 (84, [some (aR 52), some (aI (p : Int)), some (aI (s : Int)), some (aI (pe : Int)), some (aI (((s / 8) * 8 : Nat) : Int)), some (aI (I 55 p)), some (aI (I 56 p))], [aI (up1 (mnF (spB K cp s) (bhM K (I 89) pe (decide (K 4 p = 1))) m))], MM N I J) _
      refine V.ri (by decide +kernel) ?_
      have hnn := mnF_nn (b := spB K cp s) (f := bhM K (I 89) pe (decide (K 4 p = 1))) m (fun q a b => bhM_nn hq hc (by omega))
      have hu := up1_in hnn
      refine ⟨_, rfl, rfl, hu.1, by omega, ?_⟩
      rw [if_neg (by omega)]
      unfold prS
      simp only [e4, hm2]
      rfl
    | 2, t1, _ =>
      show V 177 (85, [some (aR 52), some (aI (p : Int)), some (aI (s : Int)), some (aI (pe : Int)), some (aI (((s / 8) * 8 : Nat) : Int)), some (aI (I 55 p)), some (aI (I 56 p))], [], MM N I J) _
      have e4 : K 4 p = 2 := by have := t1; omega
      have x55 := r55 (by omega) (by omega)
      refine V.blk [(85, .bipush 1, 1), (86, .aload 0, 1), (87, .getfield 10050, 3), (90, .iload 4, 2), (92, .iload 5, 2), (94, .iadd, 1)] (ps := [inR ((((s / 8) * 8 : Nat) : Int) + (I 55 p))]) (z' := (95, [some (aR 52), some (aI (p : Int)), some (aI (s : Int)), some (aI (pe : Int)), some (aI (((s / 8) * 8 : Nat) : Int)), some (aI (I 55 p)), some (aI (I 56 p))], [aI ((((s / 8) * 8 : Nat) : Int) + (I 55 p)), aR 89, aI 1], MM N I J)) (by decide +kernel) rfl (show (inR ((((s / 8) * 8 : Nat) : Int) + (I 55 p))) from (by unfold inR; omega)) ?_
      have hcc := hc (s / 8 * 8 + (K 5 p).toNat) (by omega)
      have ei : (((s / 8 * 8 : Nat) : Int) + I 55 p).toNat = s / 8 * 8 + (K 5 p).toNat := by omega
      rw [← ei] at hcc
      refine V.blk [(95, .iaload, 1), (96, .iadd, 1)] (ps := [0 ≤ ((((s / 8) * 8 : Nat) : Int) + (I 55 p)) ∧ ((((s / 8) * 8 : Nat) : Int) + (I 55 p)) < 320, inR (1 + (I 89 (((((s / 8) * 8 : Nat) : Int) + (I 55 p)).toNat)))]) (z' := (97, [some (aR 52), some (aI (p : Int)), some (aI (s : Int)), some (aI (pe : Int)), some (aI (((s / 8) * 8 : Nat) : Int)), some (aI (I 55 p)), some (aI (I 56 p))], [aI (1 + (I 89 (((((s / 8) * 8 : Nat) : Int) + (I 55 p)).toNat)))], MM N I J)) (by decide +kernel) rfl (show (0 ≤ ((((s / 8) * 8 : Nat) : Int) + (I 55 p)) ∧ ((((s / 8) * 8 : Nat) : Int) + (I 55 p)) < 320) ∧ (inR (1 + (I 89 (((((s / 8) * 8 : Nat) : Int) + (I 55 p)).toNat)))) from ⟨(by omega), (by unfold inR; omega)⟩) ?_
      refine V.ri (by decide +kernel) ?_
      have ei : (((s / 8 * 8 : Nat) : Int) + I 55 p).toNat = s / 8 * 8 + (K 5 p).toNat := by omega
      have hcc := hc (s / 8 * 8 + (K 5 p).toNat) (by omega)
      rw [ei]
      refine ⟨_, rfl, rfl, by omega, by omega, ?_⟩
      unfold prS
      rw [if_neg (show ¬ K 4 p = 0 by omega), if_neg (show ¬ K 4 p = 1 by omega), if_pos e4]
      unfold up1
      split <;> split <;> omega
    | 3, t1, _ =>
      show V 177 (98, [some (aR 52), some (aI (p : Int)), some (aI (s : Int)), some (aI (pe : Int)), some (aI (((s / 8) * 8 : Nat) : Int)), some (aI (I 55 p)), some (aI (I 56 p))], [], MM N I J) _
      have e4 : K 4 p = 3 := by have := t1; omega
      have x55 := r55 (by omega) (by omega)
      have x56 := r56 (by omega) (by omega)
      refine V.blk [(98, .aload 0, 1), (99, .iload 4, 2), (101, .iload 5, 2), (103, .iadd, 1), (104, .iload 6, 2)] (ps := [inR ((((s / 8) * 8 : Nat) : Int) + (I 55 p))]) (z' := (106, [some (aR 52), some (aI (p : Int)), some (aI (s : Int)), some (aI (pe : Int)), some (aI (((s / 8) * 8 : Nat) : Int)), some (aI (I 55 p)), some (aI (I 56 p))], [aI (I 56 p), aI ((((s / 8) * 8 : Nat) : Int) + (I 55 p)), aR 52], MM N I J)) (by decide +kernel) rfl (show (inR ((((s / 8) * 8 : Nat) : Int) + (I 55 p))) from (by unfold inR; omega)) ?_
      rw [show ((s / 8 * 8 : Nat) : Int) + I 55 p = ((s / 8 * 8 + (K 5 p).toNat : Nat) : Int) by omega, show I 56 p = (((K 6 p).toNat : Nat) : Int) by omega]
      refine V.cv (c := 180) (na := 3) (o := 10) (a := 52) [aI (((K 6 p).toNat : Nat) : Int), aI ((s / 8 * 8 + (K 5 p).toNat : Nat) : Int)] [] (by decide +kernel) rfl rfl rfl rfl rfl (V.pr (m_costThrough hm hH (by omega) hc (by omega)) ?_)
      show V 177 (109, [some (aR 52), some (aI (p : Int)), some (aI (s : Int)), some (aI (pe : Int)), some (aI (((s / 8) * 8 : Nat) : Int)), some (aI (I 55 p)), some (aI (((K 6 p).toNat : Nat) : Int))], [aI (up1 (mnF (spB K cp (s / 8 * 8 + (K 5 p).toNat)) (bhT K (I 89) (K 6 p).toNat) m))], MM N I J) _
      refine V.ri (by decide +kernel) ?_
      have hnn := mnF_nn (b := spB K cp (s / 8 * 8 + (K 5 p).toNat)) (f := bhT K (I 89) (K 6 p).toNat) m (fun q a b => bhT_nn hq hc (by omega) (by omega))
      have hu := up1_in hnn
      refine ⟨_, rfl, rfl, hu.1, by omega, ?_⟩
      rw [if_neg (by omega)]
      unfold prS
      simp only [e4, hm2]
      rfl
    | 4, t1, _ =>
      show V 177 (110, [some (aR 52), some (aI (p : Int)), some (aI (s : Int)), some (aI (pe : Int)), some (aI (((s / 8) * 8 : Nat) : Int)), some (aI (I 55 p)), some (aI (I 56 p))], [], MM N I J) _
      have e4 : K 4 p = 4 := by have := t1; omega
      have x55 := r55 (by omega) (by omega)
      have x56 := r56 (by omega) (by omega)
      obtain ⟨⟨t1, t2⟩, t3, t4⟩ := hT (by omega) (by omega)
      refine V.blk [(110, .aload 0, 1), (111, .getfield 10051, 3), (114, .iload 5, 2), (116, .iaload, 1), (117, .aload 0, 1), (118, .getfield 10051, 3), (121, .iload 6, 2), (123, .iaload, 1), (124, .if_icmp .ge 137, 3)] (ps := [0 ≤ (I 55 p) ∧ (I 55 p) < 64, 0 ≤ (I 56 p) ∧ (I 56 p) < 64]) (z' := (brc .ge (I 90 ((I 55 p).toNat)) (I 90 ((I 56 p).toNat)) 137 127, [some (aR 52), some (aI (p : Int)), some (aI (s : Int)), some (aI (pe : Int)), some (aI (((s / 8) * 8 : Nat) : Int)), some (aI (I 55 p)), some (aI (I 56 p))], [], MM N I J)) (by decide +kernel) rfl (show (0 ≤ (I 55 p) ∧ (I 55 p) < 64) ∧ (0 ≤ (I 56 p) ∧ (I 56 p) < 64) from ⟨(by omega), (by omega)⟩) ?_
      refine V.ge (fun bh3 => ?_) (fun bh4 => ?_)
      · skip
        try simp only [b2_cast, b2_ncast, Classical.not_not, lcm_lt, lcm_ge, lcm_gt, lcm_le, lcm_eq, b2_0, b2_n0, b2_e1, b2_e0, Bool.not_eq_false, Bool.not_eq_true, decide_eq_true_eq, decide_eq_false_iff_not, Classical.not_not] at bh3
        refine V.blk [(137, .aload 0, 1), (138, .getfield 10051, 3), (141, .iload 6, 2), (143, .iaload, 1)] (ps := [0 ≤ (I 56 p) ∧ (I 56 p) < 64]) (z' := (144, [some (aR 52), some (aI (p : Int)), some (aI (s : Int)), some (aI (pe : Int)), some (aI (((s / 8) * 8 : Nat) : Int)), some (aI (I 55 p)), some (aI (I 56 p))], [aI (I 90 ((I 56 p).toNat))], MM N I J)) (by decide +kernel) rfl (show (0 ≤ (I 56 p) ∧ (I 56 p) < 64) from (by omega)) ?_
        refine V.ri (by decide +kernel) ?_
        rw [x55, x56] at *
        refine ⟨_, rfl, rfl, by omega, by omega, ?_⟩
        rw [if_neg (by omega)]
        unfold prS
        rw [if_neg (show ¬ K 4 p = 0 by omega), if_neg (show ¬ K 4 p = 1 by omega), if_neg (show ¬ K 4 p = 2 by omega), if_neg (show ¬ K 4 p = 3 by omega), if_pos e4]
        split <;> omega
      · skip
        try simp only [b2_cast, b2_ncast, Classical.not_not, lcm_lt, lcm_ge, lcm_gt, lcm_le, lcm_eq, b2_0, b2_n0, b2_e1, b2_e0, Bool.not_eq_false, Bool.not_eq_true, decide_eq_true_eq, decide_eq_false_iff_not, Classical.not_not] at bh4
        refine V.blk [(127, .aload 0, 1), (128, .getfield 10051, 3), (131, .iload 5, 2), (133, .iaload, 1), (134, .goto 144, 3)] (ps := [0 ≤ (I 55 p) ∧ (I 55 p) < 64]) (z' := (144, [some (aR 52), some (aI (p : Int)), some (aI (s : Int)), some (aI (pe : Int)), some (aI (((s / 8) * 8 : Nat) : Int)), some (aI (I 55 p)), some (aI (I 56 p))], [aI (I 90 ((I 55 p).toNat))], MM N I J)) (by decide +kernel) rfl (show (0 ≤ (I 55 p) ∧ (I 55 p) < 64) from (by omega)) ?_
        refine V.ri (by decide +kernel) ?_
        rw [x55, x56] at *
        refine ⟨_, rfl, rfl, by omega, by omega, ?_⟩
        rw [if_neg (by omega)]
        unfold prS
        rw [if_neg (show ¬ K 4 p = 0 by omega), if_neg (show ¬ K 4 p = 1 by omega), if_neg (show ¬ K 4 p = 2 by omega), if_neg (show ¬ K 4 p = 3 by omega), if_pos e4]
        split <;> omega
    | 5, t1, _ =>
      show V 177 (145, [some (aR 52), some (aI (p : Int)), some (aI (s : Int)), some (aI (pe : Int)), some (aI (((s / 8) * 8 : Nat) : Int)), some (aI (I 55 p)), some (aI (I 56 p))], [], MM N I J) _
      have e4 : K 4 p = 5 := by have := t1; omega
      have x55 := r55 (by omega) (by omega)
      have x56 := r56 (by omega) (by omega)
      obtain ⟨⟨t1, t2⟩, t3, t4⟩ := hT (by omega) (by omega)
      refine V.blk [(145, .aload 0, 1), (146, .getfield 10051, 3), (149, .iload 5, 2), (151, .iaload, 1), (152, .aload 0, 1), (153, .getfield 10051, 3), (156, .iload 6, 2), (158, .iaload, 1), (159, .if_icmp .le 172, 3)] (ps := [0 ≤ (I 55 p) ∧ (I 55 p) < 64, 0 ≤ (I 56 p) ∧ (I 56 p) < 64]) (z' := (brc .le (I 90 ((I 55 p).toNat)) (I 90 ((I 56 p).toNat)) 172 162, [some (aR 52), some (aI (p : Int)), some (aI (s : Int)), some (aI (pe : Int)), some (aI (((s / 8) * 8 : Nat) : Int)), some (aI (I 55 p)), some (aI (I 56 p))], [], MM N I J)) (by decide +kernel) rfl (show (0 ≤ (I 55 p) ∧ (I 55 p) < 64) ∧ (0 ≤ (I 56 p) ∧ (I 56 p) < 64) from ⟨(by omega), (by omega)⟩) ?_
      refine V.le (fun bh5 => ?_) (fun bh6 => ?_)
      · skip
        try simp only [b2_cast, b2_ncast, Classical.not_not, lcm_lt, lcm_ge, lcm_gt, lcm_le, lcm_eq, b2_0, b2_n0, b2_e1, b2_e0, Bool.not_eq_false, Bool.not_eq_true, decide_eq_true_eq, decide_eq_false_iff_not, Classical.not_not] at bh5
        refine V.blk [(172, .aload 0, 1), (173, .getfield 10051, 3), (176, .iload 6, 2), (178, .iaload, 1)] (ps := [0 ≤ (I 56 p) ∧ (I 56 p) < 64]) (z' := (179, [some (aR 52), some (aI (p : Int)), some (aI (s : Int)), some (aI (pe : Int)), some (aI (((s / 8) * 8 : Nat) : Int)), some (aI (I 55 p)), some (aI (I 56 p))], [aI (I 90 ((I 56 p).toNat))], MM N I J)) (by decide +kernel) rfl (show (0 ≤ (I 56 p) ∧ (I 56 p) < 64) from (by omega)) ?_
        refine V.ri (by decide +kernel) ?_
        rw [x55, x56] at *
        refine ⟨_, rfl, rfl, by omega, by omega, ?_⟩
        rw [if_neg (by omega)]
        unfold prS
        rw [if_neg (show ¬ K 4 p = 0 by omega), if_neg (show ¬ K 4 p = 1 by omega), if_neg (show ¬ K 4 p = 2 by omega), if_neg (show ¬ K 4 p = 3 by omega), if_neg (show ¬ K 4 p = 4 by omega), if_pos e4]
        split <;> omega
      · skip
        try simp only [b2_cast, b2_ncast, Classical.not_not, lcm_lt, lcm_ge, lcm_gt, lcm_le, lcm_eq, b2_0, b2_n0, b2_e1, b2_e0, Bool.not_eq_false, Bool.not_eq_true, decide_eq_true_eq, decide_eq_false_iff_not, Classical.not_not] at bh6
        refine V.blk [(162, .aload 0, 1), (163, .getfield 10051, 3), (166, .iload 5, 2), (168, .iaload, 1), (169, .goto 179, 3)] (ps := [0 ≤ (I 55 p) ∧ (I 55 p) < 64]) (z' := (179, [some (aR 52), some (aI (p : Int)), some (aI (s : Int)), some (aI (pe : Int)), some (aI (((s / 8) * 8 : Nat) : Int)), some (aI (I 55 p)), some (aI (I 56 p))], [aI (I 90 ((I 55 p).toNat))], MM N I J)) (by decide +kernel) rfl (show (0 ≤ (I 55 p) ∧ (I 55 p) < 64) from (by omega)) ?_
        refine V.ri (by decide +kernel) ?_
        rw [x55, x56] at *
        refine ⟨_, rfl, rfl, by omega, by omega, ?_⟩
        rw [if_neg (by omega)]
        unfold prS
        rw [if_neg (show ¬ K 4 p = 0 by omega), if_neg (show ¬ K 4 p = 1 by omega), if_neg (show ¬ K 4 p = 2 by omega), if_neg (show ¬ K 4 p = 3 by omega), if_neg (show ¬ K 4 p = 4 by omega), if_pos e4]
        split <;> omega
    | 6, t1, _ =>
      show V 177 (180, [some (aR 52), some (aI (p : Int)), some (aI (s : Int)), some (aI (pe : Int)), some (aI (((s / 8) * 8 : Nat) : Int)), some (aI (I 55 p)), some (aI (I 56 p))], [], MM N I J) _
      have e4 : K 4 p = 6 := by have := t1; omega
      have x55 := r55 (by omega) (by omega)
      have x56 := r56 (by omega) (by omega)
      obtain ⟨⟨t1, t2⟩, t3, t4⟩ := hT (by omega) (by omega)
      refine V.blk [(180, .aload 0, 1), (181, .getfield 10046, 3), (184, .iload 6, 2), (186, .laload, 1), (187, .iload 3, 1), (188, .lshr, 1), (189, .jsr_w 1, 1), (190, .land, 1), (191, .jsr_w 1, 1), (192, .lcmp, 1), (193, .ifCond .ne 202, 3)] (ps := [0 ≤ (I 56 p) ∧ (I 56 p) < 64, 0 ≤ (pe : Int) ∧ (pe : Int) < 64]) (z' := (brc .ne (lcm ((shrl (J 85 ((I 56 p).toNat)) (pe : Int)) &&& (Int64.ofInt 1)) (Int64.ofInt 1)) 0 202 196, [some (aR 52), some (aI (p : Int)), some (aI (s : Int)), some (aI (pe : Int)), some (aI (((s / 8) * 8 : Nat) : Int)), some (aI (I 55 p)), some (aI (I 56 p))], [], MM N I J)) (by decide +kernel) rfl (show (0 ≤ (I 56 p) ∧ (I 56 p) < 64) ∧ (0 ≤ (pe : Int) ∧ (pe : Int) < 64) from ⟨(by omega), (by omega)⟩) ?_
      refine V.ne (fun bh7 => ?_) (fun bh8 => ?_)
      · skip
        try simp only [b2_cast, b2_ncast, Classical.not_not, lcm_lt, lcm_ge, lcm_gt, lcm_le, lcm_eq, b2_0, b2_n0, b2_e1, b2_e0, Bool.not_eq_false, Bool.not_eq_true, decide_eq_true_eq, decide_eq_false_iff_not, Classical.not_not] at bh7
        refine V.blk [(202, .aload 0, 1), (203, .getfield 10051, 3), (206, .iload 5, 2), (208, .iaload, 1)] (ps := [0 ≤ (I 55 p) ∧ (I 55 p) < 64]) (z' := (209, [some (aR 52), some (aI (p : Int)), some (aI (s : Int)), some (aI (pe : Int)), some (aI (((s / 8) * 8 : Nat) : Int)), some (aI (I 55 p)), some (aI (I 56 p))], [aI (I 90 ((I 55 p).toNat))], MM N I J)) (by decide +kernel) rfl (show (0 ≤ (I 55 p) ∧ (I 55 p) < 64) from (by omega)) ?_
        refine V.ri (by decide +kernel) ?_
        have hb := shrl_e1 (J 85 (I 56 p).toNat) (k := pe) (by omega)
        rw [x56, hV e4] at hb
        refine ⟨_, rfl, rfl, by first | omega | (rw [x55]; omega), by first | omega | (rw [x55]; omega), ?_⟩
        rw [if_neg (by first | omega | (rw [x55]; omega))]
        unfold prS
        rw [if_neg (show ¬ K 4 p = 0 by omega), if_neg (show ¬ K 4 p = 1 by omega), if_neg (show ¬ K 4 p = 2 by omega), if_neg (show ¬ K 4 p = 3 by omega), if_neg (show ¬ K 4 p = 4 by omega), if_neg (show ¬ K 4 p = 5 by omega), if_pos e4]
        rw [if_neg (fun w => absurd (hb.mpr w) (by rw [← hV e4, ← x56]; assumption)), x55]
      · skip
        try simp only [b2_cast, b2_ncast, Classical.not_not, lcm_lt, lcm_ge, lcm_gt, lcm_le, lcm_eq, b2_0, b2_n0, b2_e1, b2_e0, Bool.not_eq_false, Bool.not_eq_true, decide_eq_true_eq, decide_eq_false_iff_not, Classical.not_not] at bh8
        refine V.blk [(196, .bipush 1000000, 3), (199, .goto 209, 3)] (ps := []) (z' := (209, [some (aR 52), some (aI (p : Int)), some (aI (s : Int)), some (aI (pe : Int)), some (aI (((s / 8) * 8 : Nat) : Int)), some (aI (I 55 p)), some (aI (I 56 p))], [aI 1000000], MM N I J)) (by decide +kernel) rfl trivial ?_
        refine V.ri (by decide +kernel) ?_
        have hb := shrl_e1 (J 85 (I 56 p).toNat) (k := pe) (by omega)
        rw [x56, hV e4] at hb
        refine ⟨_, rfl, rfl, by first | omega | (rw [x55]; omega), by first | omega | (rw [x55]; omega), ?_⟩
        rw [if_neg (by first | omega | (rw [x55]; omega))]
        unfold prS
        rw [if_neg (show ¬ K 4 p = 0 by omega), if_neg (show ¬ K 4 p = 1 by omega), if_neg (show ¬ K 4 p = 2 by omega), if_neg (show ¬ K 4 p = 3 by omega), if_neg (show ¬ K 4 p = 4 by omega), if_neg (show ¬ K 4 p = 5 by omega), if_pos e4]
        rw [if_pos (hb.mp (by rw [← hV e4, ← x56]; assumption))]
    | n + 7, _, hlt => exact absurd hlt (by simp)
  · show V 177 (210, [some (aR 52), some (aI (p : Int)), some (aI (s : Int)), some (aI (pe : Int)), some (aI (((s / 8) * 8 : Nat) : Int)), some (aI (I 55 p)), some (aI (I 56 p))], [], MM N I J) _
    try simp only [b2_cast, b2_ncast, Classical.not_not, lcm_lt, lcm_ge, lcm_gt, lcm_le, lcm_eq, b2_0, b2_n0, b2_e1, b2_e0, Bool.not_eq_false, Bool.not_eq_true, decide_eq_true_eq, decide_eq_false_iff_not, Classical.not_not] at bh2
    refine V.blk [(210, .bipush 1000000, 3)] (ps := []) (z' := (213, [some (aR 52), some (aI (p : Int)), some (aI (s : Int)), some (aI (pe : Int)), some (aI (((s / 8) * 8 : Nat) : Int)), some (aI (I 55 p)), some (aI (I 56 p))], [aI 1000000], MM N I J)) (by decide +kernel) rfl trivial ?_
    refine V.ri (by decide +kernel) ?_
    refine ⟨_, rfl, rfl, ?_, ?_, ?_⟩
    all_goals first | omega | (unfold prS; rw [if_neg (show ¬ K 4 p = 0 by omega), if_neg (show ¬ K 4 p = 1 by omega), if_neg (show ¬ K 4 p = 2 by omega), if_neg (show ¬ K 4 p = 3 by omega), if_neg (show ¬ K 4 p = 4 by omega), if_neg (show ¬ K 4 p = 5 by omega), if_neg (show ¬ K 4 p = 6 by omega)]; rfl)
