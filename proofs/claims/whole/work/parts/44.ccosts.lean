/-! ===== the class: costs ===== -/
def bhX (K : MI) (c : Nat → Int) (pe q p : Nat) : Int := if K 4 p = 3 then bhT K c (K 6 p).toNat q else bhM K c pe (decide (K 4 p = 1)) q
def fsp (K : MI) (s p : Nat) : Nat := if K 4 p = 3 then s / 8 * 8 + (K 5 p).toNat else s
/-- the best pair of a place that pairs tell; -1 there is none -/
def lfQ (K : MI) (cp : Nat → Bool) (c : Nat → Int) (pe s p : Nat) : Int := bsF (spB K cp (fsp K s p)) (fun q => bhX K c pe q p) (K 10 9).toNat
theorem prS_lf {K : MI} {cp : Nat → Bool} {v : SV} {c : Nat → Int} {pe s p : Nat} {T : Nat → Int} (h : K 4 p = 0 ∨ K 4 p = 1 ∨ K 4 p = 3) : prS K cp v c pe s T p = up1 (mnF (spB K cp (fsp K s p)) (fun q => bhX K c pe q p) (K 10 9).toNat) := by
  unfold prS fsp
  rcases h with h | h | h
  · have e : (fun q => bhX K c pe q p) = bhM K c pe false := by
      funext q
      unfold bhX
      rw [if_neg (by omega), decide_eq_false (by omega)]
    rw [if_pos h, if_neg (by omega), e]
  · have e : (fun q => bhX K c pe q p) = bhM K c pe true := by
      funext q
      unfold bhX
      rw [if_neg (by omega), decide_eq_true h]
    rw [if_neg (by omega), if_pos h, if_neg (by omega), e]
  · have e : (fun q => bhX K c pe q p) = bhT K c (K 6 p).toNat := by
      funext q
      unfold bhX
      rw [if_pos h]
    rw [if_neg (by omega), if_neg (by omega), if_neg (by omega), if_pos h, if_pos h, e]
theorem bhX_in {K : MI} {c : Nat → Int} {pe q p : Nat} (hq : prOK K) (hr : rtOK K) (hc : CPos c) (hp : p < 64) (a : (q : Int) < K 10 9) : 0 ≤ bhX K c pe q p ∧ bhX K c pe q p ≤ 1000000 := by
  have w := hq.2 q a
  have w0 := hq.1
  have r := hr p hp
  unfold bhX bhT bhM
  split
  · split
    · omega
    · have := hc ((K 19 q).toNat * 8 + (K 6 p).toNat) (by omega); omega
  · split
    · split
      · have := hc (K 18 q).toNat (by omega); omega
      · split <;> omega
    · omega
theorem bs_skip {b : Nat → Bool} {f : Nat → Int} {n : Nat} : ∀ d, (∀ r, n ≤ r → r < n + d → b r = false) → mnF b f (n + d) = mnF b f n ∧ bsF b f (n + d) = bsF b f n
  | 0, _ => ⟨rfl, rfl⟩
  | d + 1, h => by
    have i := bs_skip (f := f) d fun r h1 h2 => h r h1 (by omega)
    have hb := h (n + d) (by omega) (by omega)
    have e1 : mnF b f (n + (d + 1)) = if b (n + d) = true ∧ f (n + d) < mnF b f (n + d) then f (n + d) else mnF b f (n + d) := rfl
    have e2 : bsF b f (n + (d + 1)) = if b (n + d) = true ∧ f (n + d) < mnF b f (n + d) then ((n + d : Nat) : Int) else bsF b f (n + d) := rfl
    rw [e1, e2, if_neg (by rw [hb]; simp), if_neg (by rw [hb]; simp)]
    exact i
theorem bs_skp {b : Nat → Bool} {f : Nat → Int} {n q : Nat} (h : n ≤ q) (hc : cntF b q ≤ cntF b n) : mnF b f q = mnF b f n ∧ bsF b f q = bsF b f n := by
  obtain ⟨d, rfl⟩ := Nat.le.dest h
  exact bs_skip (f := f) d fun r h1 h2 => cntF_none hc r h1 h2
section PCC
variable {K K' : MI}
theorem bhM_ce (h : ∀ i, rdC i → K' i = K i) : bhM K' = bhM K := by
  funext c pe u q
  unfold bhM
  rw [h 13 (by unfold rdC; omega), h 14 (by unfold rdC; omega), h 18 (by unfold rdC; omega)]
theorem bhT_ce (h : ∀ i, rdC i → K' i = K i) : bhT K' = bhT K := by
  funext c y q
  unfold bhT
  rw [h 19 (by unfold rdC; omega)]
theorem bhX_ce (h : ∀ i, rdC i → K' i = K i) : bhX K' = bhX K := by
  funext c pe q p
  unfold bhX
  rw [bhM_ce h, bhT_ce h, h 4 (by unfold rdC; omega), h 6 (by unfold rdC; omega)]
theorem spB_ce (h : ∀ i, rdC i → K' i = K i) : spB K' = spB K := by
  funext cp s p
  unfold spB
  rw [h 17 (by unfold rdC; omega)]
theorem lfQ_ce (h : ∀ i, rdC i → K' i = K i) : lfQ K' = lfQ K := by
  funext cp c pe s p
  unfold lfQ fsp
  rw [bhX_ce h, spB_ce h, h 4 (by unfold rdC; omega), h 5 (by unfold rdC; omega), h 10 (by unfold rdC; omega)]
theorem prS_ce (h : ∀ i, rdC i → K' i = K i) : prS K' = prS K := by
  funext cp v c pe s T p
  unfold prS
  rw [bhM_ce h, bhT_ce h, spB_ce h, pl_ce h, h 4 (by unfold rdC; omega), h 5 (by unfold rdC; omega), h 6 (by unfold rdC; omega), h 10 (by unfold rdC; omega)]
theorem prV_ce (h : ∀ i, rdC i → K' i = K i) : prV K' = prV K := by
  funext cp v c pe s f
  induction f with
  | zero => rfl
  | succ f ih =>
    funext p
    unfold prV
    rw [prS_ce h, ih]
theorem pr_ce (h : ∀ i, rdC i → K' i = K i) : pr K' = pr K := by
  funext cp v c pe s p
  unfold pr
  rw [prV_ce h]
theorem prT_ce (h : ∀ i, rdC i → K' i = K i) : prT K' = prT K := by
  funext cp v c pe s
  unfold prT
  rw [pr_ce h, kS_ce h, h 7 (by unfold rdC; omega)]
theorem csF_ce (h : ∀ i, rdC i → K' i = K i) : csF K' = csF K := by
  funext cp v pe n c
  induction n with
  | zero => rfl
  | succ n ih =>
    unfold csF
    rw [ih, prT_ce h]
theorem cit_ce (h : ∀ i, rdC i → K' i = K i) : cit K' = cit K := by
  funext cp v pe n
  induction n with
  | zero => rfl
  | succ n ih =>
    unfold cit
    rw [ih, csF_ce h]
theorem cst_ce (h : ∀ i, rdC i → K' i = K i) : cst K' = cst K := by
  funext cp v pe
  unfold cst
  rw [cit_ce h]
end PCC
def n4x (I I' : MI) : Prop := ∀ i, i ≠ 41 → i ≠ 42 → i ≠ 43 → I' i = I i
theorem n4x.rd {I I' : MI} (e : n4x I I') : ∀ i, rdC i → I' i = I i := fun i hi => by
  unfold rdC at hi
  exact e i (by omega) (by omega) (by omega)
theorem TelP.i {I I' : MI} {J : MJ} {cp : Nat → Bool} (h : TelP I J cp) (e : n4x I I') : TelP I' J cp := by
  obtain ⟨h1, h2, h3, h4, h5, h6, h7, h8⟩ := h
  unfold n4x at e
  refine ⟨?_, ?_, ?_, ?_, ?_, ?_, ?_, CntR_congr h8 (e 10 (by decide) (by decide) (by decide)) (e 17 (by decide) (by decide) (by decide)) (e 37 (by decide) (by decide) (by decide)) (e 38 (by decide) (by decide) (by decide))⟩
  · unfold kdOK; rw [e 2 (by decide) (by decide) (by decide)]; exact h1
  · unfold rlOK; rw [e 4 (by decide) (by decide) (by decide), e 5 (by decide) (by decide) (by decide), e 6 (by decide) (by decide) (by decide)]; exact h2
  · unfold rtOK; rw [e 4 (by decide) (by decide) (by decide), e 5 (by decide) (by decide) (by decide), e 6 (by decide) (by decide) (by decide)]; exact h3
  · unfold prOK; rw [e 1 (by decide) (by decide) (by decide), e 10 (by decide) (by decide) (by decide), e 13 (by decide) (by decide) (by decide), e 14 (by decide) (by decide) (by decide), e 17 (by decide) (by decide) (by decide), e 18 (by decide) (by decide) (by decide), e 19 (by decide) (by decide) (by decide)]; exact h4
  · rw [e 10 (by decide) (by decide) (by decide)]; exact h5
  · rw [e 7 (by decide) (by decide) (by decide)]; exact h6
  · exact svOK_congr h7 (e 4 (by decide) (by decide) (by decide)) (e 5 (by decide) (by decide) (by decide)) (e 6 (by decide) (by decide) (by decide)) rfl rfl
theorem c_behind {N : Nat} {I : MI} {J : MJ} {pe q p : Nat} (hq : prOK I) (hr : rtOK I) (hpe : I 41 5 = (pe : Int)) (hp : p < 64) (ha : (q : Int) < I 10 9) (h4 : I 10 9 ≤ 400) : CT 7 [aR 41, aI (q : Int), aI (p : Int)] (MM N I J) (pure1 N I J (aI (bhX I (I 42) pe q p))) := by
  have w := hq.2 q ha
  have w0 := hq.1
  have r := hr p hp
  refine CT.ofV (n := 4) (ls := [some (aR 41), some (aI (q : Int)), some (aI (p : Int)), none]) rfl rfl rfl ?_
  refine V.blk [(0, .aload 0, 1), (1, .getfield 0, 3), (4, .getfield 6000, 3), (7, .iload 2, 1), (8, .iaload, 1), (9, .bipush 3, 1), (10, .if_icmp .ne 53, 3)] (ps := [0 ≤ (p : Int) ∧ (p : Int) < 64]) (z' := (brc .ne (I 4 p) 3 53 13, [some (aR 41), some (aI (q : Int)), some (aI (p : Int)), none], [], MM N I J)) (by decide +kernel) rfl (show (0 ≤ (p : Int) ∧ (p : Int) < 64) from (by omega)) ?_
  refine V.ne (fun bh1 => ?_) (fun bh2 => ?_)
  · skip
    try simp only [b2_cast, b2_ncast, Classical.not_not, lcm_lt, lcm_ge, lcm_gt, lcm_le, lcm_eq, b2_0, b2_n0, b2_e1, b2_e0, Bool.not_eq_false, Bool.not_eq_true, decide_eq_true_eq, decide_eq_false_iff_not, Classical.not_not] at bh1
    refine V.blk [(53, .aload 0, 1), (54, .getfield 1, 3), (57, .getfield 3003, 3), (60, .iload 1, 1), (61, .iaload, 1), (62, .ifCond .eq 69, 3)] (ps := [0 ≤ (q : Int) ∧ (q : Int) < 400]) (z' := (brc .eq (I 14 q) 0 69 65, [some (aR 41), some (aI (q : Int)), some (aI (p : Int)), none], [], MM N I J)) (by decide +kernel) rfl (show (0 ≤ (q : Int) ∧ (q : Int) < 400) from (by omega)) ?_
    refine V.eq (fun bh3 => ?_) (fun bh4 => ?_)
    · skip
      try simp only [b2_cast, b2_ncast, Classical.not_not, lcm_lt, lcm_ge, lcm_gt, lcm_le, lcm_eq, b2_0, b2_n0, b2_e1, b2_e0, Bool.not_eq_false, Bool.not_eq_true, decide_eq_true_eq, decide_eq_false_iff_not, Classical.not_not] at bh3
      refine V.blk [(69, .bipush 0, 1), (70, .aload 0, 1), (71, .getfield 0, 3), (74, .getfield 6000, 3), (77, .iload 2, 1), (78, .iaload, 1), (79, .bipush 1, 1), (80, .if_icmp .ne 87, 3)] (ps := [0 ≤ (p : Int) ∧ (p : Int) < 64]) (z' := (brc .ne (I 4 p) 1 87 83, [some (aR 41), some (aI (q : Int)), some (aI (p : Int)), none], [aI 0], MM N I J)) (by decide +kernel) rfl (show (0 ≤ (p : Int) ∧ (p : Int) < 64) from (by omega)) ?_
      refine V.ne (fun bh5 => ?_) (fun bh6 => ?_)
      · skip
        try simp only [b2_cast, b2_ncast, Classical.not_not, lcm_lt, lcm_ge, lcm_gt, lcm_le, lcm_eq, b2_0, b2_n0, b2_e1, b2_e0, Bool.not_eq_false, Bool.not_eq_true, decide_eq_true_eq, decide_eq_false_iff_not, Classical.not_not] at bh5
        refine V.blk [(87, .bipush 0, 1), (88, .if_icmp .eq 94, 3)] (ps := []) (z' := (brc .eq 0 0 94 91, [some (aR 41), some (aI (q : Int)), some (aI (p : Int)), none], [], MM N I J)) (by decide +kernel) rfl trivial ?_
        refine V.eq (fun _ => ?_) (fun hz => absurd hz (by decide))
        refine V.blk [(94, .aload 0, 1), (95, .getfield 1, 3), (98, .getfield 3007, 3), (101, .iload 1, 1), (102, .iaload, 1), (103, .istore 3, 1), (104, .iload 3, 1), (105, .bipush (-1), 1), (106, .if_icmp .eq 116, 3)] (ps := [0 ≤ (q : Int) ∧ (q : Int) < 400]) (z' := (brc .eq (I 18 q) (-1) 116 109, [some (aR 41), some (aI (q : Int)), some (aI (p : Int)), some (aI (I 18 q))], [], MM N I J)) (by decide +kernel) rfl (show (0 ≤ (q : Int) ∧ (q : Int) < 400) from (by omega)) ?_
        refine V.eq (fun bh7 => ?_) (fun bh8 => ?_)
        · skip
          try simp only [b2_cast, b2_ncast, Classical.not_not, lcm_lt, lcm_ge, lcm_gt, lcm_le, lcm_eq, b2_0, b2_n0, b2_e1, b2_e0, Bool.not_eq_false, Bool.not_eq_true, decide_eq_true_eq, decide_eq_false_iff_not, Classical.not_not] at bh7
          refine V.blk [(116, .aload 0, 1), (117, .getfield 1, 3), (120, .getfield 3002, 3), (123, .iload 1, 1), (124, .iaload, 1), (125, .aload 0, 1), (126, .getfield 5, 3), (129, .if_icmp .ne 136, 3)] (ps := [0 ≤ (q : Int) ∧ (q : Int) < 400]) (z' := (brc .ne (I 13 q) (I 41 5) 136 132, [some (aR 41), some (aI (q : Int)), some (aI (p : Int)), some (aI (I 18 q))], [], MM N I J)) (by decide +kernel) rfl (show (0 ≤ (q : Int) ∧ (q : Int) < 400) from (by omega)) ?_
          refine V.ne (fun bh9 => ?_) (fun bh10 => ?_)
          · skip
            try simp only [b2_cast, b2_ncast, Classical.not_not, lcm_lt, lcm_ge, lcm_gt, lcm_le, lcm_eq, b2_0, b2_n0, b2_e1, b2_e0, Bool.not_eq_false, Bool.not_eq_true, decide_eq_true_eq, decide_eq_false_iff_not, Classical.not_not] at bh9
            refine V.blk [(136, .bipush 1000000, 2)] (ps := []) (z' := (138, [some (aR 41), some (aI (q : Int)), some (aI (p : Int)), some (aI (I 18 q))], [aI 1000000], MM N I J)) (by decide +kernel) rfl trivial ?_
            refine V.ri (by decide +kernel) ?_
            refine ⟨congrArg (fun w => some (aI w)) ?_, rfl⟩
            unfold bhX
            rw [if_neg (by omega)]
            unfold bhM
            rw [if_pos (decide_eq_decide.mpr (by omega)), if_neg (by omega), if_neg (by omega)]
          · skip
            try simp only [b2_cast, b2_ncast, Classical.not_not, lcm_lt, lcm_ge, lcm_gt, lcm_le, lcm_eq, b2_0, b2_n0, b2_e1, b2_e0, Bool.not_eq_false, Bool.not_eq_true, decide_eq_true_eq, decide_eq_false_iff_not, Classical.not_not] at bh10
            refine V.blk [(132, .bipush 0, 1), (133, .goto 138, 3)] (ps := []) (z' := (138, [some (aR 41), some (aI (q : Int)), some (aI (p : Int)), some (aI (I 18 q))], [aI 0], MM N I J)) (by decide +kernel) rfl trivial ?_
            refine V.ri (by decide +kernel) ?_
            refine ⟨congrArg (fun w => some (aI w)) ?_, rfl⟩
            unfold bhX
            rw [if_neg (by omega)]
            unfold bhM
            rw [if_pos (decide_eq_decide.mpr (by omega)), if_neg (by omega), if_pos (by omega)]
        · skip
          try simp only [b2_cast, b2_ncast, Classical.not_not, lcm_lt, lcm_ge, lcm_gt, lcm_le, lcm_eq, b2_0, b2_n0, b2_e1, b2_e0, Bool.not_eq_false, Bool.not_eq_true, decide_eq_true_eq, decide_eq_false_iff_not, Classical.not_not] at bh8
          refine V.blk [(109, .aload 0, 1), (110, .getfield 3, 3), (113, .iload 3, 1), (114, .iaload, 1)] (ps := [0 ≤ (I 18 q) ∧ (I 18 q) < 320]) (z' := (115, [some (aR 41), some (aI (q : Int)), some (aI (p : Int)), some (aI (I 18 q))], [aI (I 42 ((I 18 q).toNat))], MM N I J)) (by decide +kernel) rfl (show (0 ≤ (I 18 q) ∧ (I 18 q) < 320) from (by omega)) ?_
          refine V.ri (by decide +kernel) ?_
          refine ⟨congrArg (fun w => some (aI w)) ?_, rfl⟩
          unfold bhX
          rw [if_neg (by omega)]
          unfold bhM
          rw [if_pos (decide_eq_decide.mpr (by omega)), if_pos (by omega)]
      · skip
        try simp only [b2_cast, b2_ncast, Classical.not_not, lcm_lt, lcm_ge, lcm_gt, lcm_le, lcm_eq, b2_0, b2_n0, b2_e1, b2_e0, Bool.not_eq_false, Bool.not_eq_true, decide_eq_true_eq, decide_eq_false_iff_not, Classical.not_not] at bh6
        refine V.blk [(83, .bipush 1, 1), (84, .goto 88, 3), (88, .if_icmp .eq 94, 3)] (ps := []) (z' := (brc .eq 0 1 94 91, [some (aR 41), some (aI (q : Int)), some (aI (p : Int)), none], [], MM N I J)) (by decide +kernel) rfl trivial ?_
        refine V.eq (fun hz => absurd hz (by decide)) (fun _ => ?_)
        refine V.blk [(91, .bipush 1000000, 2)] (ps := []) (z' := (93, [some (aR 41), some (aI (q : Int)), some (aI (p : Int)), none], [aI 1000000], MM N I J)) (by decide +kernel) rfl trivial ?_
        refine V.ri (by decide +kernel) ?_
        refine ⟨congrArg (fun w => some (aI w)) ?_, rfl⟩
        unfold bhX
        rw [if_neg (by omega)]
        unfold bhM
        rw [if_neg]
        intro w9
        have w2 := decide_eq_decide.mp w9
        omega
    · skip
      try simp only [b2_cast, b2_ncast, Classical.not_not, lcm_lt, lcm_ge, lcm_gt, lcm_le, lcm_eq, b2_0, b2_n0, b2_e1, b2_e0, Bool.not_eq_false, Bool.not_eq_true, decide_eq_true_eq, decide_eq_false_iff_not, Classical.not_not] at bh4
      refine V.blk [(65, .bipush 1, 1), (66, .goto 70, 3), (70, .aload 0, 1), (71, .getfield 0, 3), (74, .getfield 6000, 3), (77, .iload 2, 1), (78, .iaload, 1), (79, .bipush 1, 1), (80, .if_icmp .ne 87, 3)] (ps := [0 ≤ (p : Int) ∧ (p : Int) < 64]) (z' := (brc .ne (I 4 p) 1 87 83, [some (aR 41), some (aI (q : Int)), some (aI (p : Int)), none], [aI 1], MM N I J)) (by decide +kernel) rfl (show (0 ≤ (p : Int) ∧ (p : Int) < 64) from (by omega)) ?_
      refine V.ne (fun bh11 => ?_) (fun bh12 => ?_)
      · skip
        try simp only [b2_cast, b2_ncast, Classical.not_not, lcm_lt, lcm_ge, lcm_gt, lcm_le, lcm_eq, b2_0, b2_n0, b2_e1, b2_e0, Bool.not_eq_false, Bool.not_eq_true, decide_eq_true_eq, decide_eq_false_iff_not, Classical.not_not] at bh11
        refine V.blk [(87, .bipush 0, 1), (88, .if_icmp .eq 94, 3)] (ps := []) (z' := (brc .eq 1 0 94 91, [some (aR 41), some (aI (q : Int)), some (aI (p : Int)), none], [], MM N I J)) (by decide +kernel) rfl trivial ?_
        refine V.eq (fun hz => absurd hz (by decide)) (fun _ => ?_)
        refine V.blk [(91, .bipush 1000000, 2)] (ps := []) (z' := (93, [some (aR 41), some (aI (q : Int)), some (aI (p : Int)), none], [aI 1000000], MM N I J)) (by decide +kernel) rfl trivial ?_
        refine V.ri (by decide +kernel) ?_
        refine ⟨congrArg (fun w => some (aI w)) ?_, rfl⟩
        unfold bhX
        rw [if_neg (by omega)]
        unfold bhM
        rw [if_neg]
        intro w9
        have w2 := decide_eq_decide.mp w9
        omega
      · skip
        try simp only [b2_cast, b2_ncast, Classical.not_not, lcm_lt, lcm_ge, lcm_gt, lcm_le, lcm_eq, b2_0, b2_n0, b2_e1, b2_e0, Bool.not_eq_false, Bool.not_eq_true, decide_eq_true_eq, decide_eq_false_iff_not, Classical.not_not] at bh12
        refine V.blk [(83, .bipush 1, 1), (84, .goto 88, 3), (88, .if_icmp .eq 94, 3)] (ps := []) (z' := (brc .eq 1 1 94 91, [some (aR 41), some (aI (q : Int)), some (aI (p : Int)), none], [], MM N I J)) (by decide +kernel) rfl trivial ?_
        refine V.eq (fun _ => ?_) (fun hz => absurd hz (by decide))
        refine V.blk [(94, .aload 0, 1), (95, .getfield 1, 3), (98, .getfield 3007, 3), (101, .iload 1, 1), (102, .iaload, 1), (103, .istore 3, 1), (104, .iload 3, 1), (105, .bipush (-1), 1), (106, .if_icmp .eq 116, 3)] (ps := [0 ≤ (q : Int) ∧ (q : Int) < 400]) (z' := (brc .eq (I 18 q) (-1) 116 109, [some (aR 41), some (aI (q : Int)), some (aI (p : Int)), some (aI (I 18 q))], [], MM N I J)) (by decide +kernel) rfl (show (0 ≤ (q : Int) ∧ (q : Int) < 400) from (by omega)) ?_
        refine V.eq (fun bh13 => ?_) (fun bh14 => ?_)
        · skip
          try simp only [b2_cast, b2_ncast, Classical.not_not, lcm_lt, lcm_ge, lcm_gt, lcm_le, lcm_eq, b2_0, b2_n0, b2_e1, b2_e0, Bool.not_eq_false, Bool.not_eq_true, decide_eq_true_eq, decide_eq_false_iff_not, Classical.not_not] at bh13
          refine V.blk [(116, .aload 0, 1), (117, .getfield 1, 3), (120, .getfield 3002, 3), (123, .iload 1, 1), (124, .iaload, 1), (125, .aload 0, 1), (126, .getfield 5, 3), (129, .if_icmp .ne 136, 3)] (ps := [0 ≤ (q : Int) ∧ (q : Int) < 400]) (z' := (brc .ne (I 13 q) (I 41 5) 136 132, [some (aR 41), some (aI (q : Int)), some (aI (p : Int)), some (aI (I 18 q))], [], MM N I J)) (by decide +kernel) rfl (show (0 ≤ (q : Int) ∧ (q : Int) < 400) from (by omega)) ?_
          refine V.ne (fun bh15 => ?_) (fun bh16 => ?_)
          · skip
            try simp only [b2_cast, b2_ncast, Classical.not_not, lcm_lt, lcm_ge, lcm_gt, lcm_le, lcm_eq, b2_0, b2_n0, b2_e1, b2_e0, Bool.not_eq_false, Bool.not_eq_true, decide_eq_true_eq, decide_eq_false_iff_not, Classical.not_not] at bh15
            refine V.blk [(136, .bipush 1000000, 2)] (ps := []) (z' := (138, [some (aR 41), some (aI (q : Int)), some (aI (p : Int)), some (aI (I 18 q))], [aI 1000000], MM N I J)) (by decide +kernel) rfl trivial ?_
            refine V.ri (by decide +kernel) ?_
            refine ⟨congrArg (fun w => some (aI w)) ?_, rfl⟩
            unfold bhX
            rw [if_neg (by omega)]
            unfold bhM
            rw [if_pos (decide_eq_decide.mpr (by omega)), if_neg (by omega), if_neg (by omega)]
          · skip
            try simp only [b2_cast, b2_ncast, Classical.not_not, lcm_lt, lcm_ge, lcm_gt, lcm_le, lcm_eq, b2_0, b2_n0, b2_e1, b2_e0, Bool.not_eq_false, Bool.not_eq_true, decide_eq_true_eq, decide_eq_false_iff_not, Classical.not_not] at bh16
            refine V.blk [(132, .bipush 0, 1), (133, .goto 138, 3)] (ps := []) (z' := (138, [some (aR 41), some (aI (q : Int)), some (aI (p : Int)), some (aI (I 18 q))], [aI 0], MM N I J)) (by decide +kernel) rfl trivial ?_
            refine V.ri (by decide +kernel) ?_
            refine ⟨congrArg (fun w => some (aI w)) ?_, rfl⟩
            unfold bhX
            rw [if_neg (by omega)]
            unfold bhM
            rw [if_pos (decide_eq_decide.mpr (by omega)), if_neg (by omega), if_pos (by omega)]
        · skip
          try simp only [b2_cast, b2_ncast, Classical.not_not, lcm_lt, lcm_ge, lcm_gt, lcm_le, lcm_eq, b2_0, b2_n0, b2_e1, b2_e0, Bool.not_eq_false, Bool.not_eq_true, decide_eq_true_eq, decide_eq_false_iff_not, Classical.not_not] at bh14
          refine V.blk [(109, .aload 0, 1), (110, .getfield 3, 3), (113, .iload 3, 1), (114, .iaload, 1)] (ps := [0 ≤ (I 18 q) ∧ (I 18 q) < 320]) (z' := (115, [some (aR 41), some (aI (q : Int)), some (aI (p : Int)), some (aI (I 18 q))], [aI (I 42 ((I 18 q).toNat))], MM N I J)) (by decide +kernel) rfl (show (0 ≤ (I 18 q) ∧ (I 18 q) < 320) from (by omega)) ?_
          refine V.ri (by decide +kernel) ?_
          refine ⟨congrArg (fun w => some (aI w)) ?_, rfl⟩
          unfold bhX
          rw [if_neg (by omega)]
          unfold bhM
          rw [if_pos (decide_eq_decide.mpr (by omega)), if_pos (by omega)]
  · skip
    try simp only [b2_cast, b2_ncast, Classical.not_not, lcm_lt, lcm_ge, lcm_gt, lcm_le, lcm_eq, b2_0, b2_n0, b2_e1, b2_e0, Bool.not_eq_false, Bool.not_eq_true, decide_eq_true_eq, decide_eq_false_iff_not, Classical.not_not] at bh2
    refine V.blk [(13, .aload 0, 1), (14, .getfield 1, 3), (17, .getfield 3008, 3), (20, .iload 1, 1), (21, .iaload, 1), (22, .istore 3, 1), (23, .iload 3, 1), (24, .bipush (-1), 1), (25, .if_icmp .ne 33, 3)] (ps := [0 ≤ (q : Int) ∧ (q : Int) < 400]) (z' := (brc .ne (I 19 q) (-1) 33 28, [some (aR 41), some (aI (q : Int)), some (aI (p : Int)), some (aI (I 19 q))], [], MM N I J)) (by decide +kernel) rfl (show (0 ≤ (q : Int) ∧ (q : Int) < 400) from (by omega)) ?_
    refine V.ne (fun bh17 => ?_) (fun bh18 => ?_)
    · skip
      try simp only [b2_cast, b2_ncast, Classical.not_not, lcm_lt, lcm_ge, lcm_gt, lcm_le, lcm_eq, b2_0, b2_n0, b2_e1, b2_e0, Bool.not_eq_false, Bool.not_eq_true, decide_eq_true_eq, decide_eq_false_iff_not, Classical.not_not] at bh17
      refine V.blk [(33, .aload 0, 1), (34, .getfield 3, 3), (37, .iload 3, 1), (38, .bipush 8, 2), (40, .imul, 1), (41, .aload 0, 1), (42, .getfield 0, 3), (45, .getfield 6002, 3), (48, .iload 2, 1), (49, .iaload, 1), (50, .iadd, 1), (51, .iaload, 1)] (ps := [inR ((I 19 q) * 8), 0 ≤ (p : Int) ∧ (p : Int) < 64, inR (((I 19 q) * 8) + (I 6 p)), 0 ≤ (((I 19 q) * 8) + (I 6 p)) ∧ (((I 19 q) * 8) + (I 6 p)) < 320]) (z' := (52, [some (aR 41), some (aI (q : Int)), some (aI (p : Int)), some (aI (I 19 q))], [aI (I 42 ((((I 19 q) * 8) + (I 6 p)).toNat))], MM N I J)) (by decide +kernel) rfl (show (inR ((I 19 q) * 8)) ∧ (0 ≤ (p : Int) ∧ (p : Int) < 64) ∧ (inR (((I 19 q) * 8) + (I 6 p))) ∧ (0 ≤ (((I 19 q) * 8) + (I 6 p)) ∧ (((I 19 q) * 8) + (I 6 p)) < 320) from ⟨(by unfold inR; omega), (by omega), (by unfold inR; omega), (by omega)⟩) ?_
      refine V.ri (by decide +kernel) ?_
      refine ⟨congrArg (fun w => some (aI w)) ?_, rfl⟩
      unfold bhX
      rw [if_pos (by omega)]
      unfold bhT
      rw [if_neg (by omega)]
      exact congrArg (I 42) (by omega)
    · skip
      try simp only [b2_cast, b2_ncast, Classical.not_not, lcm_lt, lcm_ge, lcm_gt, lcm_le, lcm_eq, b2_0, b2_n0, b2_e1, b2_e0, Bool.not_eq_false, Bool.not_eq_true, decide_eq_true_eq, decide_eq_false_iff_not, Classical.not_not] at bh18
      refine V.blk [(28, .bipush 1000000, 2), (30, .goto 52, 3)] (ps := []) (z' := (52, [some (aR 41), some (aI (q : Int)), some (aI (p : Int)), some (aI (I 19 q))], [aI 1000000], MM N I J)) (by decide +kernel) rfl trivial ?_
      refine V.ri (by decide +kernel) ?_
      refine ⟨congrArg (fun w => some (aI w)) ?_, rfl⟩
      unfold bhX
      rw [if_pos (by omega)]
      unfold bhT
      rw [if_pos (by omega)]
theorem l_best {N : Nat} {I : MI} {J : MJ} {cp : Nat → Bool} {pe p s m : Nat} (hm : I 10 9 = m) (h4 : m ≤ 400) (hc : CntR I cp) (hq : prOK I) (hr : rtOK I) (hpe : I 41 5 = (pe : Int)) (hp : p < 64) {f : Nat} (hf : f < 320) : ∀ (k n : Nat) (best least : Int) (w7 : Option AV), m + 1 ≤ k + n → n ≤ m → best = bsF (spB I cp f) (fun q => bhX I (I 42) pe q p) n → least = mnF (spB I cp f) (fun q => bhX I (I 42) pe q p) n → V 6 (50, [some (aR 41), some (aI (p : Int)), some (aI (s : Int)), some (aI (f : Int)), some (aI best), some (aI least), some (aI (prF I cp m f + cF I cp f n)), w7], [], MM N I J) (pure1 N I J (aI (bsF (spB I cp f) (fun q => bhX I (I 42) pe q p) m))) := by
  intro k
  induction k with
  | zero => intro n best least w7 h1 h2; exfalso; omega
  | succ k ih =>
    intro n best least w7 h1 h2 hb hl
    refine V.blk [(50, .iload 6, 2), (52, .aload 0, 1), (53, .getfield 2, 3), (56, .getfield 7005, 3), (59, .iload 3, 1), (60, .bipush 1, 1), (61, .iadd, 1), (62, .iaload, 1), (63, .if_icmp .ge 112, 3)] (ps := [inR ((f : Int) + 1), 0 ≤ ((f + 1 : Nat) : Int) ∧ ((f + 1 : Nat) : Int) < 321]) (z' := (brc .ge (prF I cp m f + cF I cp f n) (I 38 (f + 1)) 112 66, [some (aR 41), some (aI (p : Int)), some (aI (s : Int)), some (aI (f : Int)), some (aI best), some (aI least), some (aI (prF I cp m f + cF I cp f n)), w7], [], MM N I J)) (by decide +kernel) rfl (show (inR ((f : Int) + 1)) ∧ (0 ≤ ((f + 1 : Nat) : Int) ∧ ((f + 1 : Nat) : Int) < 321) from ⟨(by unfold inR; first | omega | (rw [q6]; omega)), (by first | omega | (rw [q6]; omega))⟩) ?_
    refine V.ge (fun bh1 => ?_) (fun bh2 => ?_)
    · skip
      try simp only [b2_cast, b2_ncast, Classical.not_not, lcm_lt, lcm_ge, lcm_gt, lcm_le, lcm_eq, b2_0, b2_n0, b2_e1, b2_e0, Bool.not_eq_false, Bool.not_eq_true, decide_eq_true_eq, decide_eq_false_iff_not, Classical.not_not] at bh1
      refine V.blk [(112, .iload 4, 2)] (ps := []) (z' := (114, [some (aR 41), some (aI (p : Int)), some (aI (s : Int)), some (aI (f : Int)), some (aI best), some (aI least), some (aI (prF I cp m f + cF I cp f n)), w7], [aI best], MM N I J)) (by decide +kernel) rfl trivial ?_
      refine V.ri (by decide +kernel) ?_
      refine ⟨congrArg (fun w => some (aI w)) ?_, rfl⟩
      rw [hb]
      exact (bs_skp (f := (fun q => bhX I (I 42) pe q p)) h2 (cnt_end hm hf hc (by assumption))).2.symm
    · skip
      try simp only [b2_cast, b2_ncast, Classical.not_not, lcm_lt, lcm_ge, lcm_gt, lcm_le, lcm_eq, b2_0, b2_n0, b2_e1, b2_e0, Bool.not_eq_false, Bool.not_eq_true, decide_eq_true_eq, decide_eq_false_iff_not, Classical.not_not] at bh2
      obtain ⟨q, q1, q2, q3, q4, q5, q6, q7, q8, q9⟩ := cnt_next hm hf hc (n := n) (by omega) (by omega)
      obtain ⟨k1, k2⟩ := bs_skp (f := (fun q => bhX I (I 42) pe q p)) q1 (Int.le_of_eq q4)
      refine V.blk [(66, .aload 0, 1), (67, .aload 0, 1), (68, .getfield 2, 3), (71, .getfield 7004, 3), (74, .iload 6, 2), (76, .iaload, 1)] (ps := [0 ≤ (prF I cp m f + cF I cp f n) ∧ (prF I cp m f + cF I cp f n) < 400]) (z' := (77, [some (aR 41), some (aI (p : Int)), some (aI (s : Int)), some (aI (f : Int)), some (aI best), some (aI least), some (aI (prF I cp m f + cF I cp f n)), w7], [aI (I 37 ((prF I cp m f + cF I cp f n).toNat)), aR 41], MM N I J)) (by decide +kernel) rfl (show (0 ≤ (prF I cp m f + cF I cp f n) ∧ (prF I cp m f + cF I cp f n) < 400) from (by first | omega | (rw [q6]; omega))) ?_
      rw [q6]
      refine V.blk [(77, .iload 1, 1)] (ps := []) (z' := (78, [some (aR 41), some (aI (p : Int)), some (aI (s : Int)), some (aI (f : Int)), some (aI best), some (aI least), some (aI (prF I cp m f + cF I cp f n)), w7], [aI (p : Int), aI (q : Int), aR 41], MM N I J)) (by decide +kernel) rfl trivial ?_
      refine V.cv (c := 7) (na := 3) (o := 0) (a := 41) [aI (p : Int), aI (q : Int)] [] (by decide +kernel) rfl rfl rfl rfl rfl (V.pr (c_behind hq hr hpe (by omega) (by omega) (by omega)) ?_)
      show V 6 (81, [some (aR 41), some (aI (p : Int)), some (aI (s : Int)), some (aI (f : Int)), some (aI best), some (aI least), some (aI (prF I cp m f + cF I cp f n)), w7], [aI (bhX I (I 42) pe q p)], MM N I J) _
      refine V.blk [(81, .istore 7, 2), (83, .iload 7, 2), (85, .iload 5, 2), (87, .if_icmp .ge 106, 3)] (ps := []) (z' := (brc .ge (bhX I (I 42) pe q p) least 106 90, [some (aR 41), some (aI (p : Int)), some (aI (s : Int)), some (aI (f : Int)), some (aI best), some (aI least), some (aI (prF I cp m f + cF I cp f n)), some (aI (bhX I (I 42) pe q p))], [], MM N I J)) (by decide +kernel) rfl trivial ?_
      refine V.ge (fun bh3 => ?_) (fun bh4 => ?_)
      · skip
        try simp only [b2_cast, b2_ncast, Classical.not_not, lcm_lt, lcm_ge, lcm_gt, lcm_le, lcm_eq, b2_0, b2_n0, b2_e1, b2_e0, Bool.not_eq_false, Bool.not_eq_true, decide_eq_true_eq, decide_eq_false_iff_not, Classical.not_not] at bh3
        refine V.blk [(106, .iinc 6 1, 3), (109, .goto 50, 3)] (ps := [inR ((prF I cp m f + cF I cp f n) + 1)]) (z' := (50, [some (aR 41), some (aI (p : Int)), some (aI (s : Int)), some (aI (f : Int)), some (aI best), some (aI least), some (aI ((prF I cp m f + cF I cp f n) + 1)), some (aI (bhX I (I 42) pe q p))], [], MM N I J)) (by decide +kernel) rfl (show (inR ((prF I cp m f + cF I cp f n) + 1)) from (by unfold inR; first | omega | (rw [q6]; omega))) ?_
        rw [show prF I cp m f + cF I cp f n + 1 = prF I cp m f + cF I cp f (q + 1) by omega]
        refine ih (q + 1) best least _ (by omega) (by omega) ?_ ?_
        · rw [bsF, if_neg (by rw [k1, ← hl]; omega), k2]; exact hb
        · rw [mnF, if_neg (by rw [k1, ← hl]; omega), k1]; exact hl
      · skip
        try simp only [b2_cast, b2_ncast, Classical.not_not, lcm_lt, lcm_ge, lcm_gt, lcm_le, lcm_eq, b2_0, b2_n0, b2_e1, b2_e0, Bool.not_eq_false, Bool.not_eq_true, decide_eq_true_eq, decide_eq_false_iff_not, Classical.not_not] at bh4
        refine V.blk [(90, .aload 0, 1), (91, .getfield 2, 3), (94, .getfield 7004, 3), (97, .iload 6, 2), (99, .iaload, 1)] (ps := [0 ≤ (prF I cp m f + cF I cp f n) ∧ (prF I cp m f + cF I cp f n) < 400]) (z' := (100, [some (aR 41), some (aI (p : Int)), some (aI (s : Int)), some (aI (f : Int)), some (aI best), some (aI least), some (aI (prF I cp m f + cF I cp f n)), some (aI (bhX I (I 42) pe q p))], [aI (I 37 ((prF I cp m f + cF I cp f n).toNat))], MM N I J)) (by decide +kernel) rfl (show (0 ≤ (prF I cp m f + cF I cp f n) ∧ (prF I cp m f + cF I cp f n) < 400) from (by first | omega | (rw [q6]; omega))) ?_
        rw [q6]
        refine V.blk [(100, .istore 4, 2), (102, .iload 7, 2), (104, .istore 5, 2), (106, .iinc 6 1, 3), (109, .goto 50, 3)] (ps := [inR ((prF I cp m f + cF I cp f n) + 1)]) (z' := (50, [some (aR 41), some (aI (p : Int)), some (aI (s : Int)), some (aI (f : Int)), some (aI (q : Int)), some (aI (bhX I (I 42) pe q p)), some (aI ((prF I cp m f + cF I cp f n) + 1)), some (aI (bhX I (I 42) pe q p))], [], MM N I J)) (by decide +kernel) rfl (show (inR ((prF I cp m f + cF I cp f n) + 1)) from (by unfold inR; first | omega | (rw [q6]; omega))) ?_
        rw [show prF I cp m f + cF I cp f n + 1 = prF I cp m f + cF I cp f (q + 1) by omega]
        refine ih (q + 1) _ _ _ (by omega) (by omega) ?_ ?_
        · rw [bsF, if_pos ⟨q3, by rw [k1, ← hl]; omega⟩]
        · rw [mnF, if_pos ⟨q3, by rw [k1, ← hl]; omega⟩]
theorem c_best {N : Nat} {I : MI} {J : MJ} {cp : Nat → Bool} {pe p s m : Nat} (hm : I 10 9 = m) (h4 : m ≤ 400) (hc : CntR I cp) (hq : prOK I) (hr : rtOK I) (hpe : I 41 5 = (pe : Int)) (hp : p < 64) (hs : s < 320) : CT 6 [aR 41, aI (p : Int), aI (s : Int)] (MM N I J) (pure1 N I J (aI (lfQ I cp (I 42) pe s p))) := by
  have r := hr p hp
  refine CT.ofV (n := 8) (ls := [some (aR 41), some (aI (p : Int)), some (aI (s : Int)), none, none, none, none, none]) rfl rfl rfl ?_
  refine V.blk [(0, .iload 2, 1), (1, .istore 3, 1), (2, .aload 0, 1), (3, .getfield 0, 3), (6, .getfield 6000, 3), (9, .iload 1, 1), (10, .iaload, 1), (11, .bipush 3, 1), (12, .if_icmp .ne 32, 3)] (ps := [0 ≤ (p : Int) ∧ (p : Int) < 64]) (z' := (brc .ne (I 4 p) 3 32 15, [some (aR 41), some (aI (p : Int)), some (aI (s : Int)), some (aI (s : Int)), none, none, none, none], [], MM N I J)) (by decide +kernel) rfl (show (0 ≤ (p : Int) ∧ (p : Int) < 64) from (by omega)) ?_
  refine V.ne (fun bh1 => ?_) (fun bh2 => ?_)
  · skip
    try simp only [b2_cast, b2_ncast, Classical.not_not, lcm_lt, lcm_ge, lcm_gt, lcm_le, lcm_eq, b2_0, b2_n0, b2_e1, b2_e0, Bool.not_eq_false, Bool.not_eq_true, decide_eq_true_eq, decide_eq_false_iff_not, Classical.not_not] at bh1
    refine V.blk [(32, .bipush (-1), 1), (33, .istore 4, 2), (35, .bipush 1000000, 2), (37, .istore 5, 2), (39, .aload 0, 1), (40, .getfield 2, 3), (43, .getfield 7005, 3), (46, .iload 3, 1), (47, .iaload, 1), (48, .istore 6, 2)] (ps := [0 ≤ (s : Int) ∧ (s : Int) < 321]) (z' := (50, [some (aR 41), some (aI (p : Int)), some (aI (s : Int)), some (aI (s : Int)), some (aI (-1)), some (aI 1000000), some (aI (I 38 s)), none], [], MM N I J)) (by decide +kernel) rfl (show (0 ≤ (s : Int) ∧ (s : Int) < 321) from (by omega)) ?_
    have e0 : I 38 (s) = prF I cp m (s) + cF I cp (s) 0 := by
      rw [hc.1 _ (by omega), hm]
      show _ = _ + (0 : Int)
      rw [show ((m : Int)).toNat = m from rfl]
      omega
    rw [e0]
    have ef : fsp I s p = s := by unfold fsp; rw [if_neg (by omega)]
    unfold lfQ
    rw [ef, hm]
    exact l_best hm h4 hc hq hr hpe hp (by omega) (m + 1) 0 _ _ _ (by omega) (by omega) rfl rfl
  · skip
    try simp only [b2_cast, b2_ncast, Classical.not_not, lcm_lt, lcm_ge, lcm_gt, lcm_le, lcm_eq, b2_0, b2_n0, b2_e1, b2_e0, Bool.not_eq_false, Bool.not_eq_true, decide_eq_true_eq, decide_eq_false_iff_not, Classical.not_not] at bh2
    refine V.blk [(15, .iload 2, 1), (16, .bipush 8, 2), (18, .idiv, 1), (19, .aload 0, 1), (20, .getfield 0, 3), (23, .getfield 6001, 3), (26, .iload 1, 1), (27, .iaload, 1)] (ps := [0 ≤ (s : Int) ∧ 0 < 8, 0 ≤ (p : Int) ∧ (p : Int) < 64]) (z' := (28, [some (aR 41), some (aI (p : Int)), some (aI (s : Int)), some (aI (s : Int)), none, none, none, none], [aI (I 5 p), aI ((s / 8 : Nat) : Int)], MM N I J)) (by decide +kernel) rfl (show (0 ≤ (s : Int) ∧ 0 < 8) ∧ (0 ≤ (p : Int) ∧ (p : Int) < 64) from ⟨(by omega), (by omega)⟩) ?_
    refine V.cs (c := 108) (na := 2) [aI (I 5 p), aI ((s / 8 : Nat) : Int)] [] (by decide +kernel) rfl rfl (V.pr (c_spotOfN (by omega)) ?_)
    show V 6 (31, [some (aR 41), some (aI (p : Int)), some (aI (s : Int)), some (aI (s : Int)), none, none, none, none], [aI (((s / 8) * 8 + (I 5 p).toNat : Nat) : Int)], MM N I J) _
    refine V.blk [(31, .istore 3, 1), (32, .bipush (-1), 1), (33, .istore 4, 2), (35, .bipush 1000000, 2), (37, .istore 5, 2), (39, .aload 0, 1), (40, .getfield 2, 3), (43, .getfield 7005, 3), (46, .iload 3, 1), (47, .iaload, 1), (48, .istore 6, 2)] (ps := [0 ≤ (((s / 8) * 8 + (I 5 p).toNat : Nat) : Int) ∧ (((s / 8) * 8 + (I 5 p).toNat : Nat) : Int) < 321]) (z' := (50, [some (aR 41), some (aI (p : Int)), some (aI (s : Int)), some (aI (((s / 8) * 8 + (I 5 p).toNat : Nat) : Int)), some (aI (-1)), some (aI 1000000), some (aI (I 38 ((s / 8) * 8 + (I 5 p).toNat))), none], [], MM N I J)) (by decide +kernel) rfl (show (0 ≤ (((s / 8) * 8 + (I 5 p).toNat : Nat) : Int) ∧ (((s / 8) * 8 + (I 5 p).toNat : Nat) : Int) < 321) from (by omega)) ?_
    have e0 : I 38 ((s / 8) * 8 + (I 5 p).toNat) = prF I cp m ((s / 8) * 8 + (I 5 p).toNat) + cF I cp ((s / 8) * 8 + (I 5 p).toNat) 0 := by
      rw [hc.1 _ (by omega), hm]
      show _ = _ + (0 : Int)
      rw [show ((m : Int)).toNat = m from rfl]
      omega
    rw [e0]
    have ef : fsp I s p = (s / 8) * 8 + (I 5 p).toNat := by unfold fsp; rw [if_pos (by omega)]
    unfold lfQ
    rw [ef, hm]
    exact l_best hm h4 hc hq hr hpe hp (by omega) (m + 1) 0 _ _ _ (by omega) (by omega) rfl rfl
theorem c_priceOf {N : Nat} {I : MI} {J : MJ} {cp : Nat → Bool} {pe p s m : Nat} (hm : I 10 9 = m) (h4 : m ≤ 400) (hc : CntR I cp) (hq : prOK I) (hr : rtOK I) (hpe : I 41 5 = (pe : Int)) (hp : p < 64) (hs : s < 320) (hcp : CPos (I 42)) (h43 : ∀ q, q < 64 → I 43 q = I 43 q) (hpe64 : pe < 64) (hl : rlOK I) (h40 : I 4 p = 6 → J 40 (I 6 p).toNat = pl I cp (J 39) s (I 6 p).toNat) : CT 5 [aR 41, aI (p : Int), aI (s : Int)] (MM N I J) (pure1 N I J (aI (prS I cp (J 39) (I 42) pe s (I 43) p))) := by
  have r := hr p hp
  have ll := hl p hp
  refine CT.ofV (n := 6) (ls := [some (aR 41), some (aI (p : Int)), some (aI (s : Int)), none, none, none]) rfl rfl rfl ?_
  refine V.blk [(0, .aload 0, 1), (1, .getfield 0, 3), (4, .getfield 6001, 3), (7, .iload 1, 1), (8, .iaload, 1), (9, .istore 3, 1), (10, .aload 0, 1), (11, .getfield 0, 3), (14, .getfield 6002, 3), (17, .iload 1, 1), (18, .iaload, 1), (19, .istore 4, 2), (21, .aload 0, 1), (22, .getfield 0, 3), (25, .getfield 6000, 3), (28, .iload 1, 1), (29, .iaload, 1), (30, .tableswitch 188 0 6 #[72, 72, 101, 72, 122, 139, 156], 42)] (ps := [0 ≤ (p : Int) ∧ (p : Int) < 64, 0 ≤ (p : Int) ∧ (p : Int) < 64, 0 ≤ (p : Int) ∧ (p : Int) < 64]) (z' := (tsw 188 0 6 [72, 72, 101, 72, 122, 139, 156] (I 4 p), [some (aR 41), some (aI (p : Int)), some (aI (s : Int)), some (aI (I 5 p)), some (aI (I 6 p)), none], [], MM N I J)) (by decide +kernel) rfl (show (0 ≤ (p : Int) ∧ (p : Int) < 64) ∧ (0 ≤ (p : Int) ∧ (p : Int) < 64) ∧ (0 ≤ (p : Int) ∧ (p : Int) < 64) from ⟨(by first | omega | (have := hcp (s / 8 * 8 + (I 5 p).toNat) (by omega); omega)), (by first | omega | (have := hcp (s / 8 * 8 + (I 5 p).toNat) (by omega); omega)), (by first | omega | (have := hcp (s / 8 * 8 + (I 5 p).toNat) (by omega); omega))⟩) ?_
  refine V.ts (fun k t1 hlt hle => ?_) (by decide) (fun bh2 => ?_)
  · match k, t1, hlt with
    | 0, t1, _ =>
      show V 5 (72, [some (aR 41), some (aI (p : Int)), some (aI (s : Int)), some (aI (I 5 p)), some (aI (I 6 p)), none], [], MM N I J) _
      have e4 : I 4 p = 0 := by have := t1; omega
      refine V.blk [(72, .aload 0, 1), (73, .iload 1, 1), (74, .iload 2, 1)] (ps := []) (z' := (75, [some (aR 41), some (aI (p : Int)), some (aI (s : Int)), some (aI (I 5 p)), some (aI (I 6 p)), none], [aI (s : Int), aI (p : Int), aR 41], MM N I J)) (by decide +kernel) rfl trivial ?_
      refine V.cv (c := 6) (na := 3) (o := 0) (a := 41) [aI (s : Int), aI (p : Int)] [] (by decide +kernel) rfl rfl rfl rfl rfl (V.pr (c_best hm h4 hc hq hr hpe hp hs) ?_)
      show V 5 (78, [some (aR 41), some (aI (p : Int)), some (aI (s : Int)), some (aI (I 5 p)), some (aI (I 6 p)), none], [aI (lfQ I cp (I 42) pe s p)], MM N I J) _
      refine V.blk [(78, .istore 5, 2), (80, .iload 5, 2), (82, .bipush (-1), 1), (83, .if_icmp .ne 91, 3)] (ps := []) (z' := (brc .ne (lfQ I cp (I 42) pe s p) (-1) 91 86, [some (aR 41), some (aI (p : Int)), some (aI (s : Int)), some (aI (I 5 p)), some (aI (I 6 p)), some (aI (lfQ I cp (I 42) pe s p))], [], MM N I J)) (by decide +kernel) rfl trivial ?_
      refine V.ne (fun bh3 => ?_) (fun bh4 => ?_)
      · skip
        try simp only [b2_cast, b2_ncast, Classical.not_not, lcm_lt, lcm_ge, lcm_gt, lcm_le, lcm_eq, b2_0, b2_n0, b2_e1, b2_e0, Bool.not_eq_false, Bool.not_eq_true, decide_eq_true_eq, decide_eq_false_iff_not, Classical.not_not] at bh3
        obtain ⟨-, hb⟩ := bs_mn (spB I cp (fsp I s p)) (fun q => bhX I (I 42) pe q p) (I 10 9).toNat
        rcases hb with ⟨hb, -⟩ | ⟨q, b1, b2, b3, b4, b5, -⟩
        · exact absurd hb (by assumption)
        have hbi := bhX_in (q := q) (pe := pe) hq hr hcp hp (by omega)
        rw [show lfQ I cp (I 42) pe s p = (q : Int) from b2]
        refine V.blk [(91, .aload 0, 1), (92, .iload 5, 2), (94, .iload 1, 1)] (ps := []) (z' := (95, [some (aR 41), some (aI (p : Int)), some (aI (s : Int)), some (aI (I 5 p)), some (aI (I 6 p)), some (aI (q : Int))], [aI (p : Int), aI (q : Int), aR 41], MM N I J)) (by decide +kernel) rfl trivial ?_
        refine V.cv (c := 7) (na := 3) (o := 0) (a := 41) [aI (p : Int), aI (q : Int)] [] (by decide +kernel) rfl rfl rfl rfl rfl (V.pr (c_behind hq hr hpe (by omega) (by omega) (by omega)) ?_)
        show V 5 (98, [some (aR 41), some (aI (p : Int)), some (aI (s : Int)), some (aI (I 5 p)), some (aI (I 6 p)), some (aI (q : Int))], [aI (bhX I (I 42) pe q p)], MM N I J) _
        refine V.blk [(98, .bipush 1, 1), (99, .iadd, 1)] (ps := [inR ((bhX I (I 42) pe q p) + 1)]) (z' := (100, [some (aR 41), some (aI (p : Int)), some (aI (s : Int)), some (aI (I 5 p)), some (aI (I 6 p)), some (aI (q : Int))], [aI ((bhX I (I 42) pe q p) + 1)], MM N I J)) (by decide +kernel) rfl (show (inR ((bhX I (I 42) pe q p) + 1)) from (by unfold inR; first | omega | (have := hcp (s / 8 * 8 + (I 5 p).toNat) (by omega); omega))) ?_
        refine V.ri (by decide +kernel) ?_
        refine ⟨congrArg (fun w => some (aI w)) ?_, rfl⟩
        rw [prS_lf (by omega), ← b4]
        unfold up1
        rw [if_pos (by rw [b4]; exact b5)]
      · skip
        try simp only [b2_cast, b2_ncast, Classical.not_not, lcm_lt, lcm_ge, lcm_gt, lcm_le, lcm_eq, b2_0, b2_n0, b2_e1, b2_e0, Bool.not_eq_false, Bool.not_eq_true, decide_eq_true_eq, decide_eq_false_iff_not, Classical.not_not] at bh4
        refine V.blk [(86, .bipush 1000000, 2), (88, .goto 100, 3)] (ps := []) (z' := (100, [some (aR 41), some (aI (p : Int)), some (aI (s : Int)), some (aI (I 5 p)), some (aI (I 6 p)), some (aI (lfQ I cp (I 42) pe s p))], [aI 1000000], MM N I J)) (by decide +kernel) rfl trivial ?_
        refine V.ri (by decide +kernel) ?_
        refine ⟨congrArg (fun w => some (aI w)) ?_, rfl⟩
        rw [prS_lf (by omega)]
        obtain ⟨-, hb⟩ := bs_mn (spB I cp (fsp I s p)) (fun q => bhX I (I 42) pe q p) (I 10 9).toNat
        rcases hb with ⟨-, hb⟩ | ⟨q, b1, b2, -⟩
        · rw [hb]; rfl
        · have : lfQ I cp (I 42) pe s p = q := b2
          exfalso; omega
    | 1, t1, _ =>
      show V 5 (72, [some (aR 41), some (aI (p : Int)), some (aI (s : Int)), some (aI (I 5 p)), some (aI (I 6 p)), none], [], MM N I J) _
      have e4 : I 4 p = 1 := by have := t1; omega
      refine V.blk [(72, .aload 0, 1), (73, .iload 1, 1), (74, .iload 2, 1)] (ps := []) (z' := (75, [some (aR 41), some (aI (p : Int)), some (aI (s : Int)), some (aI (I 5 p)), some (aI (I 6 p)), none], [aI (s : Int), aI (p : Int), aR 41], MM N I J)) (by decide +kernel) rfl trivial ?_
      refine V.cv (c := 6) (na := 3) (o := 0) (a := 41) [aI (s : Int), aI (p : Int)] [] (by decide +kernel) rfl rfl rfl rfl rfl (V.pr (c_best hm h4 hc hq hr hpe hp hs) ?_)
      show V 5 (78, [some (aR 41), some (aI (p : Int)), some (aI (s : Int)), some (aI (I 5 p)), some (aI (I 6 p)), none], [aI (lfQ I cp (I 42) pe s p)], MM N I J) _
      refine V.blk [(78, .istore 5, 2), (80, .iload 5, 2), (82, .bipush (-1), 1), (83, .if_icmp .ne 91, 3)] (ps := []) (z' := (brc .ne (lfQ I cp (I 42) pe s p) (-1) 91 86, [some (aR 41), some (aI (p : Int)), some (aI (s : Int)), some (aI (I 5 p)), some (aI (I 6 p)), some (aI (lfQ I cp (I 42) pe s p))], [], MM N I J)) (by decide +kernel) rfl trivial ?_
      refine V.ne (fun bh5 => ?_) (fun bh6 => ?_)
      · skip
        try simp only [b2_cast, b2_ncast, Classical.not_not, lcm_lt, lcm_ge, lcm_gt, lcm_le, lcm_eq, b2_0, b2_n0, b2_e1, b2_e0, Bool.not_eq_false, Bool.not_eq_true, decide_eq_true_eq, decide_eq_false_iff_not, Classical.not_not] at bh5
        obtain ⟨-, hb⟩ := bs_mn (spB I cp (fsp I s p)) (fun q => bhX I (I 42) pe q p) (I 10 9).toNat
        rcases hb with ⟨hb, -⟩ | ⟨q, b1, b2, b3, b4, b5, -⟩
        · exact absurd hb (by assumption)
        have hbi := bhX_in (q := q) (pe := pe) hq hr hcp hp (by omega)
        rw [show lfQ I cp (I 42) pe s p = (q : Int) from b2]
        refine V.blk [(91, .aload 0, 1), (92, .iload 5, 2), (94, .iload 1, 1)] (ps := []) (z' := (95, [some (aR 41), some (aI (p : Int)), some (aI (s : Int)), some (aI (I 5 p)), some (aI (I 6 p)), some (aI (q : Int))], [aI (p : Int), aI (q : Int), aR 41], MM N I J)) (by decide +kernel) rfl trivial ?_
        refine V.cv (c := 7) (na := 3) (o := 0) (a := 41) [aI (p : Int), aI (q : Int)] [] (by decide +kernel) rfl rfl rfl rfl rfl (V.pr (c_behind hq hr hpe (by omega) (by omega) (by omega)) ?_)
        show V 5 (98, [some (aR 41), some (aI (p : Int)), some (aI (s : Int)), some (aI (I 5 p)), some (aI (I 6 p)), some (aI (q : Int))], [aI (bhX I (I 42) pe q p)], MM N I J) _
        refine V.blk [(98, .bipush 1, 1), (99, .iadd, 1)] (ps := [inR ((bhX I (I 42) pe q p) + 1)]) (z' := (100, [some (aR 41), some (aI (p : Int)), some (aI (s : Int)), some (aI (I 5 p)), some (aI (I 6 p)), some (aI (q : Int))], [aI ((bhX I (I 42) pe q p) + 1)], MM N I J)) (by decide +kernel) rfl (show (inR ((bhX I (I 42) pe q p) + 1)) from (by unfold inR; first | omega | (have := hcp (s / 8 * 8 + (I 5 p).toNat) (by omega); omega))) ?_
        refine V.ri (by decide +kernel) ?_
        refine ⟨congrArg (fun w => some (aI w)) ?_, rfl⟩
        rw [prS_lf (by omega), ← b4]
        unfold up1
        rw [if_pos (by rw [b4]; exact b5)]
      · skip
        try simp only [b2_cast, b2_ncast, Classical.not_not, lcm_lt, lcm_ge, lcm_gt, lcm_le, lcm_eq, b2_0, b2_n0, b2_e1, b2_e0, Bool.not_eq_false, Bool.not_eq_true, decide_eq_true_eq, decide_eq_false_iff_not, Classical.not_not] at bh6
        refine V.blk [(86, .bipush 1000000, 2), (88, .goto 100, 3)] (ps := []) (z' := (100, [some (aR 41), some (aI (p : Int)), some (aI (s : Int)), some (aI (I 5 p)), some (aI (I 6 p)), some (aI (lfQ I cp (I 42) pe s p))], [aI 1000000], MM N I J)) (by decide +kernel) rfl trivial ?_
        refine V.ri (by decide +kernel) ?_
        refine ⟨congrArg (fun w => some (aI w)) ?_, rfl⟩
        rw [prS_lf (by omega)]
        obtain ⟨-, hb⟩ := bs_mn (spB I cp (fsp I s p)) (fun q => bhX I (I 42) pe q p) (I 10 9).toNat
        rcases hb with ⟨-, hb⟩ | ⟨q, b1, b2, -⟩
        · rw [hb]; rfl
        · have : lfQ I cp (I 42) pe s p = q := b2
          exfalso; omega
    | 2, t1, _ =>
      show V 5 (101, [some (aR 41), some (aI (p : Int)), some (aI (s : Int)), some (aI (I 5 p)), some (aI (I 6 p)), none], [], MM N I J) _
      have e4 : I 4 p = 2 := by have := t1; omega
      refine V.blk [(101, .aload 0, 1), (102, .getfield 3, 3), (105, .iload 2, 1), (106, .bipush 8, 2), (108, .idiv, 1), (109, .iload 3, 1)] (ps := [0 ≤ (s : Int) ∧ 0 < 8]) (z' := (110, [some (aR 41), some (aI (p : Int)), some (aI (s : Int)), some (aI (I 5 p)), some (aI (I 6 p)), none], [aI (I 5 p), aI ((s / 8 : Nat) : Int), aR 42], MM N I J)) (by decide +kernel) rfl (show (0 ≤ (s : Int) ∧ 0 < 8) from (by first | omega | (have := hcp (s / 8 * 8 + (I 5 p).toNat) (by omega); omega))) ?_
      refine V.cs (c := 108) (na := 2) [aI (I 5 p), aI ((s / 8 : Nat) : Int)] [aR 42] (by decide +kernel) rfl rfl (V.pr (c_spotOfN (by omega)) ?_)
      show V 5 (113, [some (aR 41), some (aI (p : Int)), some (aI (s : Int)), some (aI (I 5 p)), some (aI (I 6 p)), none], [aI (((s / 8) * 8 + (I 5 p).toNat : Nat) : Int), aR 42], MM N I J) _
      refine V.blk [(113, .iaload, 1), (114, .bipush 1, 1), (115, .iadd, 1), (116, .bipush 1000000, 2), (118, .invokestatic 1001, 3)] (ps := [0 ≤ (((s / 8) * 8 + (I 5 p).toNat : Nat) : Int) ∧ (((s / 8) * 8 + (I 5 p).toNat : Nat) : Int) < 320, inR ((I 42 ((s / 8) * 8 + (I 5 p).toNat)) + 1)]) (z' := (121, [some (aR 41), some (aI (p : Int)), some (aI (s : Int)), some (aI (I 5 p)), some (aI (I 6 p)), none], [aI (if 1000000 < ((I 42 ((s / 8) * 8 + (I 5 p).toNat)) + 1) then 1000000 else ((I 42 ((s / 8) * 8 + (I 5 p).toNat)) + 1))], MM N I J)) (by decide +kernel) rfl (show (0 ≤ (((s / 8) * 8 + (I 5 p).toNat : Nat) : Int) ∧ (((s / 8) * 8 + (I 5 p).toNat : Nat) : Int) < 320) ∧ (inR ((I 42 ((s / 8) * 8 + (I 5 p).toNat)) + 1)) from ⟨(by first | omega | (have := hcp (s / 8 * 8 + (I 5 p).toNat) (by omega); omega)), (by unfold inR; first | omega | (have := hcp (s / 8 * 8 + (I 5 p).toNat) (by omega); omega))⟩) ?_
      refine V.ri (by decide +kernel) ?_
      refine ⟨congrArg (fun w => some (aI w)) ?_, rfl⟩
      have e2 : prS I cp (J 39) (I 42) pe s (I 43) p = up1 (I 42 (s / 8 * 8 + (I 5 p).toNat)) := by
        unfold prS
        rw [if_neg (by omega), if_neg (by omega), if_pos e4]
      rw [e2]
      unfold up1
      have := hcp (s / 8 * 8 + (I 5 p).toNat) (by omega)
      split <;> split <;> omega
    | 3, t1, _ =>
      show V 5 (72, [some (aR 41), some (aI (p : Int)), some (aI (s : Int)), some (aI (I 5 p)), some (aI (I 6 p)), none], [], MM N I J) _
      have e4 : I 4 p = 3 := by have := t1; omega
      refine V.blk [(72, .aload 0, 1), (73, .iload 1, 1), (74, .iload 2, 1)] (ps := []) (z' := (75, [some (aR 41), some (aI (p : Int)), some (aI (s : Int)), some (aI (I 5 p)), some (aI (I 6 p)), none], [aI (s : Int), aI (p : Int), aR 41], MM N I J)) (by decide +kernel) rfl trivial ?_
      refine V.cv (c := 6) (na := 3) (o := 0) (a := 41) [aI (s : Int), aI (p : Int)] [] (by decide +kernel) rfl rfl rfl rfl rfl (V.pr (c_best hm h4 hc hq hr hpe hp hs) ?_)
      show V 5 (78, [some (aR 41), some (aI (p : Int)), some (aI (s : Int)), some (aI (I 5 p)), some (aI (I 6 p)), none], [aI (lfQ I cp (I 42) pe s p)], MM N I J) _
      refine V.blk [(78, .istore 5, 2), (80, .iload 5, 2), (82, .bipush (-1), 1), (83, .if_icmp .ne 91, 3)] (ps := []) (z' := (brc .ne (lfQ I cp (I 42) pe s p) (-1) 91 86, [some (aR 41), some (aI (p : Int)), some (aI (s : Int)), some (aI (I 5 p)), some (aI (I 6 p)), some (aI (lfQ I cp (I 42) pe s p))], [], MM N I J)) (by decide +kernel) rfl trivial ?_
      refine V.ne (fun bh7 => ?_) (fun bh8 => ?_)
      · skip
        try simp only [b2_cast, b2_ncast, Classical.not_not, lcm_lt, lcm_ge, lcm_gt, lcm_le, lcm_eq, b2_0, b2_n0, b2_e1, b2_e0, Bool.not_eq_false, Bool.not_eq_true, decide_eq_true_eq, decide_eq_false_iff_not, Classical.not_not] at bh7
        obtain ⟨-, hb⟩ := bs_mn (spB I cp (fsp I s p)) (fun q => bhX I (I 42) pe q p) (I 10 9).toNat
        rcases hb with ⟨hb, -⟩ | ⟨q, b1, b2, b3, b4, b5, -⟩
        · exact absurd hb (by assumption)
        have hbi := bhX_in (q := q) (pe := pe) hq hr hcp hp (by omega)
        rw [show lfQ I cp (I 42) pe s p = (q : Int) from b2]
        refine V.blk [(91, .aload 0, 1), (92, .iload 5, 2), (94, .iload 1, 1)] (ps := []) (z' := (95, [some (aR 41), some (aI (p : Int)), some (aI (s : Int)), some (aI (I 5 p)), some (aI (I 6 p)), some (aI (q : Int))], [aI (p : Int), aI (q : Int), aR 41], MM N I J)) (by decide +kernel) rfl trivial ?_
        refine V.cv (c := 7) (na := 3) (o := 0) (a := 41) [aI (p : Int), aI (q : Int)] [] (by decide +kernel) rfl rfl rfl rfl rfl (V.pr (c_behind hq hr hpe (by omega) (by omega) (by omega)) ?_)
        show V 5 (98, [some (aR 41), some (aI (p : Int)), some (aI (s : Int)), some (aI (I 5 p)), some (aI (I 6 p)), some (aI (q : Int))], [aI (bhX I (I 42) pe q p)], MM N I J) _
        refine V.blk [(98, .bipush 1, 1), (99, .iadd, 1)] (ps := [inR ((bhX I (I 42) pe q p) + 1)]) (z' := (100, [some (aR 41), some (aI (p : Int)), some (aI (s : Int)), some (aI (I 5 p)), some (aI (I 6 p)), some (aI (q : Int))], [aI ((bhX I (I 42) pe q p) + 1)], MM N I J)) (by decide +kernel) rfl (show (inR ((bhX I (I 42) pe q p) + 1)) from (by unfold inR; first | omega | (have := hcp (s / 8 * 8 + (I 5 p).toNat) (by omega); omega))) ?_
        refine V.ri (by decide +kernel) ?_
        refine ⟨congrArg (fun w => some (aI w)) ?_, rfl⟩
        rw [prS_lf (by omega), ← b4]
        unfold up1
        rw [if_pos (by rw [b4]; exact b5)]
      · skip
        try simp only [b2_cast, b2_ncast, Classical.not_not, lcm_lt, lcm_ge, lcm_gt, lcm_le, lcm_eq, b2_0, b2_n0, b2_e1, b2_e0, Bool.not_eq_false, Bool.not_eq_true, decide_eq_true_eq, decide_eq_false_iff_not, Classical.not_not] at bh8
        refine V.blk [(86, .bipush 1000000, 2), (88, .goto 100, 3)] (ps := []) (z' := (100, [some (aR 41), some (aI (p : Int)), some (aI (s : Int)), some (aI (I 5 p)), some (aI (I 6 p)), some (aI (lfQ I cp (I 42) pe s p))], [aI 1000000], MM N I J)) (by decide +kernel) rfl trivial ?_
        refine V.ri (by decide +kernel) ?_
        refine ⟨congrArg (fun w => some (aI w)) ?_, rfl⟩
        rw [prS_lf (by omega)]
        obtain ⟨-, hb⟩ := bs_mn (spB I cp (fsp I s p)) (fun q => bhX I (I 42) pe q p) (I 10 9).toNat
        rcases hb with ⟨-, hb⟩ | ⟨q, b1, b2, -⟩
        · rw [hb]; rfl
        · have : lfQ I cp (I 42) pe s p = q := b2
          exfalso; omega
    | 4, t1, _ =>
      show V 5 (122, [some (aR 41), some (aI (p : Int)), some (aI (s : Int)), some (aI (I 5 p)), some (aI (I 6 p)), none], [], MM N I J) _
      have e4 : I 4 p = 4 := by have := t1; omega
      refine V.blk [(122, .aload 0, 1), (123, .getfield 4, 3), (126, .iload 3, 1), (127, .iaload, 1), (128, .aload 0, 1), (129, .getfield 4, 3), (132, .iload 4, 2), (134, .iaload, 1), (135, .invokestatic 1001, 3)] (ps := [0 ≤ (I 5 p) ∧ (I 5 p) < 64, 0 ≤ (I 6 p) ∧ (I 6 p) < 64]) (z' := (138, [some (aR 41), some (aI (p : Int)), some (aI (s : Int)), some (aI (I 5 p)), some (aI (I 6 p)), none], [aI (if (I 43 ((I 6 p).toNat)) < (I 43 ((I 5 p).toNat)) then (I 43 ((I 6 p).toNat)) else (I 43 ((I 5 p).toNat)))], MM N I J)) (by decide +kernel) rfl (show (0 ≤ (I 5 p) ∧ (I 5 p) < 64) ∧ (0 ≤ (I 6 p) ∧ (I 6 p) < 64) from ⟨(by first | omega | (have := hcp (s / 8 * 8 + (I 5 p).toNat) (by omega); omega)), (by first | omega | (have := hcp (s / 8 * 8 + (I 5 p).toNat) (by omega); omega))⟩) ?_
      refine V.ri (by decide +kernel) ?_
      refine ⟨congrArg (fun w => some (aI w)) ?_, rfl⟩
      unfold prS
      simp only [e4]
      rfl
    | 5, t1, _ =>
      show V 5 (139, [some (aR 41), some (aI (p : Int)), some (aI (s : Int)), some (aI (I 5 p)), some (aI (I 6 p)), none], [], MM N I J) _
      have e4 : I 4 p = 5 := by have := t1; omega
      refine V.blk [(139, .aload 0, 1), (140, .getfield 4, 3), (143, .iload 3, 1), (144, .iaload, 1), (145, .aload 0, 1), (146, .getfield 4, 3), (149, .iload 4, 2), (151, .iaload, 1), (152, .invokestatic 1000, 3)] (ps := [0 ≤ (I 5 p) ∧ (I 5 p) < 64, 0 ≤ (I 6 p) ∧ (I 6 p) < 64]) (z' := (155, [some (aR 41), some (aI (p : Int)), some (aI (s : Int)), some (aI (I 5 p)), some (aI (I 6 p)), none], [aI (if (I 43 ((I 5 p).toNat)) < (I 43 ((I 6 p).toNat)) then (I 43 ((I 6 p).toNat)) else (I 43 ((I 5 p).toNat)))], MM N I J)) (by decide +kernel) rfl (show (0 ≤ (I 5 p) ∧ (I 5 p) < 64) ∧ (0 ≤ (I 6 p) ∧ (I 6 p) < 64) from ⟨(by first | omega | (have := hcp (s / 8 * 8 + (I 5 p).toNat) (by omega); omega)), (by first | omega | (have := hcp (s / 8 * 8 + (I 5 p).toNat) (by omega); omega))⟩) ?_
      refine V.ri (by decide +kernel) ?_
      refine ⟨congrArg (fun w => some (aI w)) ?_, rfl⟩
      unfold prS
      simp only [e4]
      rfl
    | 6, t1, _ =>
      show V 5 (156, [some (aR 41), some (aI (p : Int)), some (aI (s : Int)), some (aI (I 5 p)), some (aI (I 6 p)), none], [], MM N I J) _
      have e4 : I 4 p = 6 := by have := t1; omega
      refine V.blk [(156, .aload 0, 1), (157, .getfield 2, 3), (160, .getfield 7007, 3), (163, .iload 4, 2), (165, .laload, 1), (166, .aload 0, 1), (167, .getfield 5, 3)] (ps := [0 ≤ (I 6 p) ∧ (I 6 p) < 64]) (z' := (170, [some (aR 41), some (aI (p : Int)), some (aI (s : Int)), some (aI (I 5 p)), some (aI (I 6 p)), none], [aI (I 41 5), aL (J 40 ((I 6 p).toNat))], MM N I J)) (by decide +kernel) rfl (show (0 ≤ (I 6 p) ∧ (I 6 p) < 64) from (by first | omega | (have := hcp (s / 8 * 8 + (I 5 p).toNat) (by omega); omega))) ?_
      rw [hpe]
      refine V.cs (c := 107) (na := 2) [aI (pe : Int), aL (J 40 ((I 6 p).toNat))] [] (by decide +kernel) rfl rfl (V.pr (c_X9_hasBit (k := pe) (by omega)) ?_)
      show V 5 (173, [some (aR 41), some (aI (p : Int)), some (aI (s : Int)), some (aI (I 5 p)), some (aI (I 6 p)), none], [aI (b2 (tb (J 40 ((I 6 p).toNat)) pe))], MM N I J) _
      refine V.blk [(173, .ifCond .eq 181, 3)] (ps := []) (z' := (brc .eq (b2 (tb (J 40 ((I 6 p).toNat)) pe)) 0 181 176, [some (aR 41), some (aI (p : Int)), some (aI (s : Int)), some (aI (I 5 p)), some (aI (I 6 p)), none], [], MM N I J)) (by decide +kernel) rfl trivial ?_
      refine V.eq (fun bh9 => ?_) (fun bh10 => ?_)
      · skip
        try simp only [b2_cast, b2_ncast, Classical.not_not, lcm_lt, lcm_ge, lcm_gt, lcm_le, lcm_eq, b2_0, b2_n0, b2_e1, b2_e0, Bool.not_eq_false, Bool.not_eq_true, decide_eq_true_eq, decide_eq_false_iff_not, Classical.not_not] at bh9
        refine V.blk [(181, .aload 0, 1), (182, .getfield 4, 3), (185, .iload 3, 1), (186, .iaload, 1)] (ps := [0 ≤ (I 5 p) ∧ (I 5 p) < 64]) (z' := (187, [some (aR 41), some (aI (p : Int)), some (aI (s : Int)), some (aI (I 5 p)), some (aI (I 6 p)), none], [aI (I 43 ((I 5 p).toNat))], MM N I J)) (by decide +kernel) rfl (show (0 ≤ (I 5 p) ∧ (I 5 p) < 64) from (by first | omega | (have := hcp (s / 8 * 8 + (I 5 p).toNat) (by omega); omega))) ?_
        refine V.ri (by decide +kernel) ?_
        refine ⟨congrArg (fun w => some (aI w)) ?_, rfl⟩
        have hb : tb (J 40 (I 6 p).toNat) pe = false := by assumption
        rw [h40 e4] at hb
        unfold prS
        simp only [e4]
        rw [hb]
        rfl
      · skip
        try simp only [b2_cast, b2_ncast, Classical.not_not, lcm_lt, lcm_ge, lcm_gt, lcm_le, lcm_eq, b2_0, b2_n0, b2_e1, b2_e0, Bool.not_eq_false, Bool.not_eq_true, decide_eq_true_eq, decide_eq_false_iff_not, Classical.not_not] at bh10
        refine V.blk [(176, .bipush 1000000, 2), (178, .goto 187, 3)] (ps := []) (z' := (187, [some (aR 41), some (aI (p : Int)), some (aI (s : Int)), some (aI (I 5 p)), some (aI (I 6 p)), none], [aI 1000000], MM N I J)) (by decide +kernel) rfl trivial ?_
        refine V.ri (by decide +kernel) ?_
        refine ⟨congrArg (fun w => some (aI w)) ?_, rfl⟩
        have hb : tb (J 40 (I 6 p).toNat) pe = true := by assumption
        rw [h40 e4] at hb
        unfold prS
        simp only [e4]
        rw [hb]
        rfl
    | n + 7, _, hlt => exact absurd hlt (by simp)
  · show V 5 (188, [some (aR 41), some (aI (p : Int)), some (aI (s : Int)), some (aI (I 5 p)), some (aI (I 6 p)), none], [], MM N I J) _
    try simp only [b2_cast, b2_ncast, Classical.not_not, lcm_lt, lcm_ge, lcm_gt, lcm_le, lcm_eq, b2_0, b2_n0, b2_e1, b2_e0, Bool.not_eq_false, Bool.not_eq_true, decide_eq_true_eq, decide_eq_false_iff_not, Classical.not_not] at bh2
    refine V.blk [(188, .bipush 1000000, 2)] (ps := []) (z' := (190, [some (aR 41), some (aI (p : Int)), some (aI (s : Int)), some (aI (I 5 p)), some (aI (I 6 p)), none], [aI 1000000], MM N I J)) (by decide +kernel) rfl trivial ?_
    refine V.ri (by decide +kernel) ?_
    refine ⟨congrArg (fun w => some (aI w)) ?_, rfl⟩
    unfold prS
    rw [if_neg (by omega), if_neg (by omega), if_neg (by omega), if_neg (by omega), if_neg (by omega), if_neg (by omega), if_neg (by omega)]
theorem l_price {N : Nat} {I : MI} {J : MJ} {cp : Nat → Bool} {pe s r : Nat} (hT : TelP I J cp) (hpe : I 41 5 = (pe : Int)) (hpe64 : pe < 64) (hs : s < 320) (hr64 : r < 64) (hcp : CPos (I 42)) (htold : ∀ q, q < 64 → askd J r q = true → J 40 q = pl I cp (J 39) s q) : ∀ (k p : Nat) (I' : MI), r + 2 ≤ k + p → p ≤ r + 1 → (∀ i, i ≠ 43 → I' i = I i) → (∀ q, q < p → askd J r q = true → I' 43 q = pr I cp (J 39) (I 42) pe s q) → (∀ q, q < 64 → I' 43 q = I' 43 q) → V 4 (49, [some (aR 41), some (aI (s : Int)), some (aI (r : Int)), some (aL (J 8 r ||| J 9 r)), none, some (aI (p : Int))], [], MM N I' J) (fun rv M' => ∃ I', rv = some (aI (pr I cp (J 39) (I 42) pe s r)) ∧ M' = MM N I' J ∧ (∀ i, i ≠ 43 → I' i = I i) ∧ (∀ q, q < 64 → askd J r q = true → I' 43 q = pr I cp (J 39) (I 42) pe s q) ∧ ∀ q, q < 64 → I' 43 q = I' 43 q) := by
  intro k
  induction k with
  | zero => intro p I' h1 h2; exfalso; omega
  | succ k ih =>
    intro p I' h1 h2 ho ht h43
    have hn4 : n4x I I' := fun i _ _ a => ho i a
    have hT2 : TelP I' J cp := hT.i hn4
    have e42 : I' 42 = I 42 := ho 42 (by decide)
    refine V.blk [(49, .iload 5, 2), (51, .iload 2, 1), (52, .if_icmp .gt 84, 3)] (ps := []) (z' := (brc .gt (p : Int) (r : Int) 84 55, [some (aR 41), some (aI (s : Int)), some (aI (r : Int)), some (aL (J 8 r ||| J 9 r)), none, some (aI (p : Int))], [], MM N I' J)) (by decide +kernel) rfl trivial ?_
    refine V.gt (fun bh1 => ?_) (fun bh2 => ?_)
    · skip
      try simp only [b2_cast, b2_ncast, Classical.not_not, lcm_lt, lcm_ge, lcm_gt, lcm_le, lcm_eq, b2_0, b2_n0, b2_e1, b2_e0, Bool.not_eq_false, Bool.not_eq_true, decide_eq_true_eq, decide_eq_false_iff_not, Classical.not_not] at bh1
      refine V.blk [(84, .aload 0, 1), (85, .getfield 4, 3), (88, .iload 2, 1), (89, .iaload, 1)] (ps := [0 ≤ (r : Int) ∧ (r : Int) < 64]) (z' := (90, [some (aR 41), some (aI (s : Int)), some (aI (r : Int)), some (aL (J 8 r ||| J 9 r)), none, some (aI (p : Int))], [aI (I' 43 r)], MM N I' J)) (by decide +kernel) rfl (show (0 ≤ (r : Int) ∧ (r : Int) < 64) from (by omega)) ?_
      refine V.ri (by decide +kernel) ?_
      have hrr : askd J r r = true := by rw [askd_or]; exact Or.inl (sv_self hT.2.2.2.2.2.2.1 hr64)
      refine ⟨I', ?_, rfl, ho, fun q hq hqa => ?_, h43⟩
      · rw [ht r (by omega) hrr]
      · have : q ≤ r := by
          have := sv_lt hT.2.2.2.2.2.2.1 hT.2.1 r hr64 q hq
          rw [askd_or] at hqa
          rcases hqa with w | w
          · exact this.1 w
          · exact Nat.le_of_lt (this.2 w)
        exact ht q (by omega) hqa
    · skip
      try simp only [b2_cast, b2_ncast, Classical.not_not, lcm_lt, lcm_ge, lcm_gt, lcm_le, lcm_eq, b2_0, b2_n0, b2_e1, b2_e0, Bool.not_eq_false, Bool.not_eq_true, decide_eq_true_eq, decide_eq_false_iff_not, Classical.not_not] at bh2
      refine V.blk [(55, .lload 3, 1), (56, .iload 5, 2)] (ps := []) (z' := (58, [some (aR 41), some (aI (s : Int)), some (aI (r : Int)), some (aL (J 8 r ||| J 9 r)), none, some (aI (p : Int))], [aI (p : Int), aL (J 8 r ||| J 9 r)], MM N I' J)) (by decide +kernel) rfl trivial ?_
      refine V.cs (c := 107) (na := 2) [aI (p : Int), aL (J 8 r ||| J 9 r)] [] (by decide +kernel) rfl rfl (V.pr (c_X9_hasBit (k := p) (by omega)) ?_)
      show V 4 (61, [some (aR 41), some (aI (s : Int)), some (aI (r : Int)), some (aL (J 8 r ||| J 9 r)), none, some (aI (p : Int))], [aI (b2 (tb (J 8 r ||| J 9 r) p))], MM N I' J) _
      refine V.blk [(61, .ifCond .eq 78, 3)] (ps := []) (z' := (brc .eq (b2 (tb (J 8 r ||| J 9 r) p)) 0 78 64, [some (aR 41), some (aI (s : Int)), some (aI (r : Int)), some (aL (J 8 r ||| J 9 r)), none, some (aI (p : Int))], [], MM N I' J)) (by decide +kernel) rfl trivial ?_
      refine V.eq (fun bh3 => ?_) (fun bh4 => ?_)
      · skip
        try simp only [b2_cast, b2_ncast, Classical.not_not, lcm_lt, lcm_ge, lcm_gt, lcm_le, lcm_eq, b2_0, b2_n0, b2_e1, b2_e0, Bool.not_eq_false, Bool.not_eq_true, decide_eq_true_eq, decide_eq_false_iff_not, Classical.not_not] at bh3
        refine V.blk [(78, .iinc 5 1, 3), (81, .goto 49, 3)] (ps := [inR ((p : Int) + 1)]) (z' := (49, [some (aR 41), some (aI (s : Int)), some (aI (r : Int)), some (aL (J 8 r ||| J 9 r)), none, some (aI ((p + 1 : Nat) : Int))], [], MM N I' J)) (by decide +kernel) rfl (show (inR ((p : Int) + 1)) from (by unfold inR; omega)) ?_
        refine ih (p + 1) I' (by omega) (by omega) ho (fun q hq hqa => ?_) h43
        by_cases e : q = p
        · subst e
          unfold askd at hqa
          simp_all
        · exact ht q (by omega) hqa
      · skip
        try simp only [b2_cast, b2_ncast, Classical.not_not, lcm_lt, lcm_ge, lcm_gt, lcm_le, lcm_eq, b2_0, b2_n0, b2_e1, b2_e0, Bool.not_eq_false, Bool.not_eq_true, decide_eq_true_eq, decide_eq_false_iff_not, Classical.not_not] at bh4
        refine V.blk [(64, .aload 0, 1), (65, .getfield 4, 3), (68, .iload 5, 2), (70, .aload 0, 1), (71, .iload 5, 2), (73, .iload 1, 1)] (ps := []) (z' := (74, [some (aR 41), some (aI (s : Int)), some (aI (r : Int)), some (aL (J 8 r ||| J 9 r)), none, some (aI (p : Int))], [aI (s : Int), aI (p : Int), aR 41, aI (p : Int), aR 43], MM N I' J)) (by decide +kernel) rfl trivial ?_
        refine V.cv (c := 5) (na := 3) (o := 0) (a := 41) [aI (s : Int), aI (p : Int)] [aI (p : Int), aR 43] (by decide +kernel) rfl rfl rfl rfl rfl (V.pr (c_priceOf (m := (I' 10 9).toNat) (by have := hT2.2.2.2.2.1; omega) (by have := hT2.2.2.2.2.1; omega) hT2.2.2.2.2.2.2.2 hT2.2.2.2.1 hT2.2.2.1 ((congrFun (ho 41 (by decide)) 5).trans hpe) (by omega) hs (by rw [e42]; exact hcp) h43 hpe64 hT2.2.1 (fun e6 => by
          have ha : askd J r p = true := by unfold askd; assumption
          rw [ho 4 (by decide)] at e6
          rw [ho 6 (by decide), pl_ce hn4.rd]
          have l := hT.2.1 p (by omega) (by omega) (by omega)
          exact htold _ (by omega) (askd_clo hT.2.2.2.2.2.2.1 hT.2.1 hr64 (by omega) (by omega) (by omega) ha).2)) ?_)
        show V 4 (77, [some (aR 41), some (aI (s : Int)), some (aI (r : Int)), some (aL (J 8 r ||| J 9 r)), none, some (aI (p : Int))], [aI (prS I' cp (J 39) (I' 42) pe s (I' 43) p), aI (p : Int), aR 43], MM N I' J) _
        refine V.blk [(77, .iastore, 1), (78, .iinc 5 1, 3), (81, .goto 49, 3)] (ps := [0 ≤ (p : Int) ∧ (p : Int) < 64, inR ((p : Int) + 1)]) (z' := (49, [some (aR 41), some (aI (s : Int)), some (aI (r : Int)), some (aL (J 8 r ||| J 9 r)), none, some (aI ((p + 1 : Nat) : Int))], [], MM N (ma I' 43 (ma (I' 43) p (prS I' cp (J 39) (I' 42) pe s (I' 43) p))) J)) (by decide +kernel) rfl (show (0 ≤ (p : Int) ∧ (p : Int) < 64) ∧ (inR ((p : Int) + 1)) from ⟨(by omega), (by unfold inR; omega)⟩) ?_
        refine V.nI (fun I5 eI5 => ?_)
        have ha : askd J r p = true := by unfold askd; assumption
        have ep : prS I' cp (J 39) (I' 42) pe s (I' 43) p = pr I cp (J 39) (I 42) pe s p := by
          rw [prS_ce hn4.rd, e42, pr_eq hT.2.1 (by omega)]
          refine prS_T fun h4 h6 => ?_
          have hl := hT.2.1 p (by omega) h4 h6
          have cl := askd_clo hT.2.2.2.2.2.2.1 hT.2.1 hr64 (by omega) h4 h6 ha
          exact ⟨ht _ (by omega) cl.1, ht _ (by omega) cl.2⟩
        have pin := pr_in (cp := cp) (v := J 39) (c := I 42) (pe := pe) (s := s) hT.2.1 hT.2.2.1 hT.2.2.2.1 hs hcp p (by omega)
        rw [ep] at eI5
        refine ih (p + 1) _ (by omega) (by omega) (fun i h => ?_) (fun q hq hqa => ?_) (fun q hq => ?_)
        · subst eI5
          rw [ma_ne _ _ h]
          exact ho i h
        · subst eI5
          rw [ma_self]
          by_cases e : q = p
          · subst e
            rw [ma_self]
          · rw [ma_ne _ _ e]
            exact ht q (by omega) hqa
        · rfl
theorem c_priceSpot {N : Nat} {I : MI} {J : MJ} {cp : Nat → Bool} {pe s : Nat} (hT : TelP I J cp) (hpe : I 41 5 = (pe : Int)) (hpe64 : pe < 64) (hs : s < 320) (hcp : CPos (I 42)) (h43 : ∀ q, q < 64 → I 43 q = I 43 q) : CT 4 [aR 41, aI (s : Int)] (MM N I J) (fun rv M' => ∃ I' J', rv = some (aI (prT I cp (J 39) (I 42) pe s)) ∧ M' = MM N I' J' ∧ (∀ i, i ≠ 43 → I' i = I i) ∧ (∀ i, i ≠ 40 → J' i = J i) ∧ (I 7 (kS I s) ≠ -1 → ∀ q, q < 64 → askd J (I 7 (kS I s)).toNat q = true → I' 43 q = pr I cp (J 39) (I 42) pe s q) ∧ ∀ q, q < 64 → I' 43 q = I' 43 q) := by
  have hk := hT.1
  have h7 := hT.2.2.2.2.2.1 _ (kS_lt hk hs)
  refine CT.ofV (n := 6) (ls := [some (aR 41), some (aI (s : Int)), none, none, none, none]) rfl rfl rfl ?_
  refine V.blk [(0, .aload 0, 1), (1, .getfield 2, 3), (4, .iload 1, 1)] (ps := []) (z' := (5, [some (aR 41), some (aI (s : Int)), none, none, none, none], [aI (s : Int), aR 36], MM N I J)) (by decide +kernel) rfl trivial ?_
  refine V.cv (c := 53) (na := 2) (o := 7) (a := 36) [aI (s : Int)] [] (by decide +kernel) rfl rfl rfl rfl rfl (V.pr (c_rootOf (by omega) (by assumption)) ?_)
  show V 4 (8, [some (aR 41), some (aI (s : Int)), none, none, none, none], [aI (I 7 (kS I s))], MM N I J) _
  refine V.blk [(8, .istore 2, 1), (9, .iload 2, 1), (10, .bipush (-1), 1), (11, .if_icmp .ne 17, 3)] (ps := []) (z' := (brc .ne (I 7 (kS I s)) (-1) 17 14, [some (aR 41), some (aI (s : Int)), some (aI (I 7 (kS I s))), none, none, none], [], MM N I J)) (by decide +kernel) rfl trivial ?_
  refine V.ne (fun bh1 => ?_) (fun bh2 => ?_)
  · skip
    try simp only [b2_cast, b2_ncast, Classical.not_not, lcm_lt, lcm_ge, lcm_gt, lcm_le, lcm_eq, b2_0, b2_n0, b2_e1, b2_e0, Bool.not_eq_false, Bool.not_eq_true, decide_eq_true_eq, decide_eq_false_iff_not, Classical.not_not] at bh1
    obtain ⟨r, er⟩ : ∃ r : Nat, I 7 (kS I s) = r := ⟨(I 7 (kS I s)).toNat, by omega⟩
    rw [er]
    refine V.blk [(17, .aload 0, 1), (18, .getfield 2, 3), (21, .iload 1, 1)] (ps := []) (z' := (22, [some (aR 41), some (aI (s : Int)), some (aI (r : Int)), none, none, none], [aI (s : Int), aR 36], MM N I J)) (by decide +kernel) rfl trivial ?_
    refine V.cv (c := 54) (na := 2) (o := 7) (a := 36) [aI (s : Int)] [] (by decide +kernel) rfl rfl rfl rfl rfl ((c_tell hs hT).mono (fun rv M1 q => ?_))
    obtain ⟨JT, rfl, rfl, hTo, hTt⟩ := q
    show V 4 (25, [some (aR 41), some (aI (s : Int)), some (aI (r : Int)), none, none, none], [aL (tellV I cp (J 39) s)], MM N I JT) _
    refine V.blk [(25, .pop2, 1), (26, .aload 0, 1), (27, .getfield 0, 3), (30, .getfield 6004, 3), (33, .iload 2, 1), (34, .laload, 1), (35, .aload 0, 1), (36, .getfield 0, 3), (39, .getfield 6005, 3), (42, .iload 2, 1), (43, .laload, 1), (44, .lor, 1), (45, .lstore 3, 1), (46, .bipush 0, 1), (47, .istore 5, 2)] (ps := [0 ≤ (r : Int) ∧ (r : Int) < 64, 0 ≤ (r : Int) ∧ (r : Int) < 64]) (z' := (49, [some (aR 41), some (aI (s : Int)), some (aI (r : Int)), some (aL ((JT 8 r) ||| (JT 9 r))), none, some (aI 0)], [], MM N I JT)) (by decide +kernel) rfl (show (0 ≤ (r : Int) ∧ (r : Int) < 64) ∧ (0 ≤ (r : Int) ∧ (r : Int) < 64) from ⟨(by omega), (by omega)⟩) ?_
    have hT2 : TelP I JT cp := hT.j fun i a _ => hTo i a
    have e39 : JT 39 = J 39 := hTo 39 (by decide)
    have ea : askd JT = askd J := by funext a b; unfold askd; rw [hTo 8 (by decide), hTo 9 (by decide)]
    have ht2 : ∀ q, q < 64 → askd JT r q = true → JT 40 q = pl I cp (JT 39) s q := fun q hq ha => by
      rw [e39]
      have := hTt (by omega) q hq
      rw [er] at this
      rw [ea] at ha
      exact this ha
    refine (l_price (N := N) hT2 hpe hpe64 hs (by omega) hcp ht2 (r + 2) 0 I (by omega) (by omega) (fun _ _ => rfl) (fun q hq => by omega) h43).mono (fun rv M2 q => ?_)
    obtain ⟨I9, rfl, rfl, g1, g2, g3⟩ := q
    refine ⟨I9, JT, ?_, rfl, g1, hTo, fun _ q hq ha => ?_, g3⟩
    · rw [e39]
      unfold prT
      rw [if_neg (by omega), er]
      rfl
    · have ha : askd J r q = true := ha
      rw [← ea] at ha
      rw [g2 q hq ha, e39]
  · skip
    try simp only [b2_cast, b2_ncast, Classical.not_not, lcm_lt, lcm_ge, lcm_gt, lcm_le, lcm_eq, b2_0, b2_n0, b2_e1, b2_e0, Bool.not_eq_false, Bool.not_eq_true, decide_eq_true_eq, decide_eq_false_iff_not, Classical.not_not] at bh2
    refine V.blk [(14, .bipush 1000000, 2)] (ps := []) (z' := (16, [some (aR 41), some (aI (s : Int)), some (aI (I 7 (kS I s))), none, none, none], [aI 1000000], MM N I J)) (by decide +kernel) rfl trivial ?_
    refine V.ri (by decide +kernel) ?_
    refine ⟨I, J, ?_, rfl, fun _ _ => rfl, fun _ _ => rfl, fun w => absurd (by assumption) w, h43⟩
    unfold prT
    rw [if_pos (by assumption)]
theorem l_lower {N : Nat} {I : MI} {J : MJ} {cp : Nat → Bool} {pe : Nat} (hS : ScP I J) (hT : TelP I J cp) (hpe : I 41 5 = (pe : Int)) (hpe64 : pe < 64) (hqc : Qc I cp (J 39) pe (I 42)) (h43 : ∀ q, q < 64 → I 43 q = I 43 q) : ∀ (k s : Nat) (ro : Bool) (I' : MI) (J' : MJ) (w3 : Option AV), 322 ≤ k + s → s ≤ 320 → I' 42 = csF I cp (J 39) pe s (I 42) → (ro = true ↔ ∃ r, r < s ∧ csF I cp (J 39) pe s (I 42) r ≠ I 42 r) → (∀ i, i ≠ 42 → i ≠ 43 → I' i = I i) → (∀ i, i ≠ 40 → J' i = J i) → (∀ q, q < 64 → I' 43 q = I' 43 q) → V 3 (4, [some (aR 41), some (aI (b2 ro)), some (aI (s : Int)), w3], [], MM N I' J') (fun rv M' => ∃ ro I' J', rv = some (aI (b2 ro)) ∧ M' = MM N I' J' ∧ I' 42 = csF I cp (J 39) pe 320 (I 42) ∧ (ro = true ↔ ∃ r, r < 320 ∧ csF I cp (J 39) pe 320 (I 42) r ≠ I 42 r) ∧ (∀ i, i ≠ 42 → i ≠ 43 → I' i = I i) ∧ (∀ i, i ≠ 40 → J' i = J i) ∧ ∀ q, q < 64 → I' 43 q = I' 43 q) := by
  intro k
  induction k with
  | zero => intro s ro I' J' w3 h1 h2; exfalso; omega
  | succ k ih =>
    intro s ro I' J' w3 h1 h2 h42 hro ho hj h43
    have hn4 : n4x I I' := fun i _ a b => ho i a b
    have hT2 : TelP I' J' cp := (hT.i hn4).j fun i a _ => hj i a
    have e39 : J' 39 = J 39 := hj 39 (by decide)
    have hpe2 : I' 41 5 = (pe : Int) := (congrFun (ho 41 (by decide) (by decide)) 5).trans hpe
    refine V.blk [(4, .iload 2, 1), (5, .bipush 320, 3), (8, .if_icmp .ge 65, 3)] (ps := []) (z' := (brc .ge (s : Int) 320 65 11, [some (aR 41), some (aI (b2 ro)), some (aI (s : Int)), w3], [], MM N I' J')) (by decide +kernel) rfl trivial ?_
    refine V.ge (fun bh1 => ?_) (fun bh2 => ?_)
    · skip
      try simp only [b2_cast, b2_ncast, Classical.not_not, lcm_lt, lcm_ge, lcm_gt, lcm_le, lcm_eq, b2_0, b2_n0, b2_e1, b2_e0, Bool.not_eq_false, Bool.not_eq_true, decide_eq_true_eq, decide_eq_false_iff_not, Classical.not_not] at bh1
      refine V.blk [(65, .iload 1, 1)] (ps := []) (z' := (66, [some (aR 41), some (aI (b2 ro)), some (aI (s : Int)), w3], [aI (b2 ro)], MM N I' J')) (by decide +kernel) rfl trivial ?_
      refine V.rz (by decide +kernel) (by first | exact b2_in _ | omega) ?_
      have e : s = 320 := by omega
      subst e
      exact ⟨ro, I', J', rfl, rfl, h42, hro, ho, hj, h43⟩
    · skip
      try simp only [b2_cast, b2_ncast, Classical.not_not, lcm_lt, lcm_ge, lcm_gt, lcm_le, lcm_eq, b2_0, b2_n0, b2_e1, b2_e0, Bool.not_eq_false, Bool.not_eq_true, decide_eq_true_eq, decide_eq_false_iff_not, Classical.not_not] at bh2
      refine V.blk [(11, .aload 0, 1), (12, .getfield 2, 3), (15, .iload 2, 1), (16, .aload 0, 1), (17, .getfield 5, 3)] (ps := []) (z' := (20, [some (aR 41), some (aI (b2 ro)), some (aI (s : Int)), w3], [aI (I' 41 5), aI (s : Int), aR 36], MM N I' J')) (by decide +kernel) rfl trivial ?_
      rw [hpe2]
      refine V.cv (c := 58) (na := 3) (o := 7) (a := 36) [aI (pe : Int), aI (s : Int)] [] (by decide +kernel) rfl rfl rfl rfl rfl (V.pr (c_isIn (by omega) (by omega)) ?_)
      show V 3 (23, [some (aR 41), some (aI (b2 ro)), some (aI (s : Int)), w3], [aI (b2 (tb (J' 39 s) pe))], MM N I' J') _
      refine V.blk [(23, .ifCond .eq 59, 3)] (ps := []) (z' := (brc .eq (b2 (tb (J' 39 s) pe)) 0 59 26, [some (aR 41), some (aI (b2 ro)), some (aI (s : Int)), w3], [], MM N I' J')) (by decide +kernel) rfl trivial ?_
      refine V.eq (fun bh3 => ?_) (fun bh4 => ?_)
      · skip
        try simp only [b2_cast, b2_ncast, Classical.not_not, lcm_lt, lcm_ge, lcm_gt, lcm_le, lcm_eq, b2_0, b2_n0, b2_e1, b2_e0, Bool.not_eq_false, Bool.not_eq_true, decide_eq_true_eq, decide_eq_false_iff_not, Classical.not_not] at bh3
        refine V.blk [(59, .iinc 2 1, 3), (62, .goto 4, 3)] (ps := [inR ((s : Int) + 1)]) (z' := (4, [some (aR 41), some (aI (b2 ro)), some (aI ((s + 1 : Nat) : Int)), w3], [], MM N I' J')) (by decide +kernel) rfl (show (inR ((s : Int) + 1)) from (by unfold inR; omega)) ?_
        have hb : ¬ tb (J 39 s) pe = true := by rw [← e39]; simp_all
        have e1 : csF I cp (J 39) pe (s + 1) (I 42) = csF I cp (J 39) pe s (I 42) := by rw [csF, if_neg hb]
        refine ih (s + 1) ro _ _ _ (by omega) (by omega) (by rw [e1]; exact h42) ?_ ho hj h43
        rw [hro, e1]
        constructor
        · intro w
          obtain ⟨r, a, b⟩ := w
          exact ⟨r, by omega, b⟩
        · intro w
          obtain ⟨r, a, b⟩ := w
          by_cases e : r = s
          · exact absurd (csF_out s r (by omega)) b
          · exact ⟨r, by omega, b⟩
      · skip
        try simp only [b2_cast, b2_ncast, Classical.not_not, lcm_lt, lcm_ge, lcm_gt, lcm_le, lcm_eq, b2_0, b2_n0, b2_e1, b2_e0, Bool.not_eq_false, Bool.not_eq_true, decide_eq_true_eq, decide_eq_false_iff_not, Classical.not_not] at bh4
        have hqs := csF_dn hS hqc s (by omega)
        have hbit : tb (J 39 s) pe = true := by rw [← e39]; assumption
        refine V.blk [(26, .aload 0, 1), (27, .iload 2, 1)] (ps := []) (z' := (28, [some (aR 41), some (aI (b2 ro)), some (aI (s : Int)), w3], [aI (s : Int), aR 41], MM N I' J')) (by decide +kernel) rfl trivial ?_
        refine V.cv (c := 4) (na := 2) (o := 0) (a := 41) [aI (s : Int)] [] (by decide +kernel) rfl rfl rfl rfl rfl ((c_priceSpot hT2 hpe2 hpe64 (by omega) (by rw [h42]; exact hqs.1.1) h43).mono (fun rv M1 q => ?_))
        obtain ⟨IP, JP, rfl, rfl, p1, p2, -, p4⟩ := q
        show V 3 (31, [some (aR 41), some (aI (b2 ro)), some (aI (s : Int)), w3], [aI (prT I' cp (J' 39) (I' 42) pe s)], MM N IP JP) _
        refine V.blk [(31, .istore 3, 1), (32, .iload 1, 1), (33, .ifCond .ne 46, 3)] (ps := []) (z' := (brc .ne (b2 ro) 0 46 36, [some (aR 41), some (aI (b2 ro)), some (aI (s : Int)), some (aI (prT I' cp (J' 39) (I' 42) pe s))], [], MM N IP JP)) (by decide +kernel) rfl trivial ?_
        refine V.ne (fun bh5 => ?_) (fun bh6 => ?_)
        · skip
          try simp only [b2_cast, b2_ncast, Classical.not_not, lcm_lt, lcm_ge, lcm_gt, lcm_le, lcm_eq, b2_0, b2_n0, b2_e1, b2_e0, Bool.not_eq_false, Bool.not_eq_true, decide_eq_true_eq, decide_eq_false_iff_not, Classical.not_not] at bh5
          refine V.blk [(46, .bipush 1, 1), (47, .goto 51, 3), (51, .istore 1, 1), (52, .aload 0, 1), (53, .getfield 3, 3), (56, .iload 2, 1), (57, .iload 3, 1), (58, .iastore, 1), (59, .iinc 2 1, 3), (62, .goto 4, 3)] (ps := [0 ≤ (s : Int) ∧ (s : Int) < 320, inR ((s : Int) + 1)]) (z' := (4, [some (aR 41), some (aI 1), some (aI ((s + 1 : Nat) : Int)), some (aI (prT I' cp (J' 39) (I' 42) pe s))], [], MM N (ma IP 42 (ma (IP 42) s (prT I' cp (J' 39) (I' 42) pe s))) JP)) (by decide +kernel) rfl (show (0 ≤ (s : Int) ∧ (s : Int) < 320) ∧ (inR ((s : Int) + 1)) from ⟨(by omega), (by unfold inR; omega)⟩) ?_
          refine V.nI (fun I7 eI7 => ?_)
          have ep : prT I' cp (J' 39) (I' 42) pe s = prT I cp (J 39) (csF I cp (J 39) pe s (I 42)) pe s := by rw [prT_ce hn4.rd, e39, h42]
          have ec : IP 42 s = csF I cp (J 39) pe s (I 42) s := by rw [p1 42 (by decide), h42]
          have e0 := csF_out (K := I) (cp := cp) (v := J 39) (pe := pe) (c := I 42) s s (Nat.le_refl _)
          have le := hqs.1.2 s (by omega) hbit
          have e1 : csF I cp (J 39) pe (s + 1) (I 42) = ma (csF I cp (J 39) pe s (I 42)) s (prT I cp (J 39) (csF I cp (J 39) pe s (I 42)) pe s) := by rw [csF, if_pos hbit]
          refine ih (s + 1) true _ _ _ (by omega) (by omega) ?_ ?_ (fun i a b => ?_) (fun i a => (p2 i a).trans (hj i a)) ?_
          · subst eI7
            rw [ma_self, e1, p1 42 (by decide), ep, h42]
          · rw [e1]
            constructor
            · intro w
              rcases (show ro = true ∨ prT I cp (J 39) (csF I cp (J 39) pe s (I 42)) pe s < csF I cp (J 39) pe s (I 42) s by
                first
                  | exact Or.inl (by assumption)
                  | (right; omega)) with w | w
              · obtain ⟨r, a, b⟩ := hro.mp w
                exact ⟨r, by omega, by rw [ma_ne _ _ (by omega)]; exact b⟩
              · exact ⟨s, by omega, by rw [ma_self]; omega⟩
            · intro w
              rfl
          · subst eI7
            rw [ma_ne _ _ a, p1 i b]
            exact ho i a b
          · exact fun _ _ => rfl
        · skip
          try simp only [b2_cast, b2_ncast, Classical.not_not, lcm_lt, lcm_ge, lcm_gt, lcm_le, lcm_eq, b2_0, b2_n0, b2_e1, b2_e0, Bool.not_eq_false, Bool.not_eq_true, decide_eq_true_eq, decide_eq_false_iff_not, Classical.not_not] at bh6
          refine V.blk [(36, .iload 3, 1), (37, .aload 0, 1), (38, .getfield 3, 3), (41, .iload 2, 1), (42, .iaload, 1), (43, .if_icmp .ge 50, 3)] (ps := [0 ≤ (s : Int) ∧ (s : Int) < 320]) (z' := (brc .ge (prT I' cp (J' 39) (I' 42) pe s) (IP 42 s) 50 46, [some (aR 41), some (aI (b2 ro)), some (aI (s : Int)), some (aI (prT I' cp (J' 39) (I' 42) pe s))], [], MM N IP JP)) (by decide +kernel) rfl (show (0 ≤ (s : Int) ∧ (s : Int) < 320) from (by omega)) ?_
          refine V.ge (fun bh8 => ?_) (fun bh9 => ?_)
          · skip
            try simp only [b2_cast, b2_ncast, Classical.not_not, lcm_lt, lcm_ge, lcm_gt, lcm_le, lcm_eq, b2_0, b2_n0, b2_e1, b2_e0, Bool.not_eq_false, Bool.not_eq_true, decide_eq_true_eq, decide_eq_false_iff_not, Classical.not_not] at bh8
            refine V.blk [(50, .bipush 0, 1), (51, .istore 1, 1), (52, .aload 0, 1), (53, .getfield 3, 3), (56, .iload 2, 1), (57, .iload 3, 1), (58, .iastore, 1), (59, .iinc 2 1, 3), (62, .goto 4, 3)] (ps := [0 ≤ (s : Int) ∧ (s : Int) < 320, inR ((s : Int) + 1)]) (z' := (4, [some (aR 41), some (aI 0), some (aI ((s + 1 : Nat) : Int)), some (aI (prT I' cp (J' 39) (I' 42) pe s))], [], MM N (ma IP 42 (ma (IP 42) s (prT I' cp (J' 39) (I' 42) pe s))) JP)) (by decide +kernel) rfl (show (0 ≤ (s : Int) ∧ (s : Int) < 320) ∧ (inR ((s : Int) + 1)) from ⟨(by omega), (by unfold inR; omega)⟩) ?_
            refine V.nI (fun I10 eI10 => ?_)
            have ep : prT I' cp (J' 39) (I' 42) pe s = prT I cp (J 39) (csF I cp (J 39) pe s (I 42)) pe s := by rw [prT_ce hn4.rd, e39, h42]
            have ec : IP 42 s = csF I cp (J 39) pe s (I 42) s := by rw [p1 42 (by decide), h42]
            have e0 := csF_out (K := I) (cp := cp) (v := J 39) (pe := pe) (c := I 42) s s (Nat.le_refl _)
            have le := hqs.1.2 s (by omega) hbit
            have e1 : csF I cp (J 39) pe (s + 1) (I 42) = ma (csF I cp (J 39) pe s (I 42)) s (prT I cp (J 39) (csF I cp (J 39) pe s (I 42)) pe s) := by rw [csF, if_pos hbit]
            refine ih (s + 1) false _ _ _ (by omega) (by omega) ?_ ?_ (fun i a b => ?_) (fun i a => (p2 i a).trans (hj i a)) ?_
            · subst eI10
              rw [ma_self, e1, p1 42 (by decide), ep, h42]
            · rw [e1]
              constructor
              · intro w
                cases w
              · intro w
                exfalso
                have hrf : ¬ ro = true := by simp_all
                obtain ⟨r, a, b⟩ := w
                by_cases e : r = s
                · subst e
                  rw [ma_self] at b
                  omega
                · rw [ma_ne _ _ e] at b
                  exact hrf (hro.mpr ⟨r, by omega, b⟩)
            · subst eI10
              rw [ma_ne _ _ a, p1 i b]
              exact ho i a b
            · exact fun _ _ => rfl
          · skip
            try simp only [b2_cast, b2_ncast, Classical.not_not, lcm_lt, lcm_ge, lcm_gt, lcm_le, lcm_eq, b2_0, b2_n0, b2_e1, b2_e0, Bool.not_eq_false, Bool.not_eq_true, decide_eq_true_eq, decide_eq_false_iff_not, Classical.not_not] at bh9
            refine V.blk [(46, .bipush 1, 1), (47, .goto 51, 3), (51, .istore 1, 1), (52, .aload 0, 1), (53, .getfield 3, 3), (56, .iload 2, 1), (57, .iload 3, 1), (58, .iastore, 1), (59, .iinc 2 1, 3), (62, .goto 4, 3)] (ps := [0 ≤ (s : Int) ∧ (s : Int) < 320, inR ((s : Int) + 1)]) (z' := (4, [some (aR 41), some (aI 1), some (aI ((s + 1 : Nat) : Int)), some (aI (prT I' cp (J' 39) (I' 42) pe s))], [], MM N (ma IP 42 (ma (IP 42) s (prT I' cp (J' 39) (I' 42) pe s))) JP)) (by decide +kernel) rfl (show (0 ≤ (s : Int) ∧ (s : Int) < 320) ∧ (inR ((s : Int) + 1)) from ⟨(by omega), (by unfold inR; omega)⟩) ?_
            refine V.nI (fun I11 eI11 => ?_)
            have ep : prT I' cp (J' 39) (I' 42) pe s = prT I cp (J 39) (csF I cp (J 39) pe s (I 42)) pe s := by rw [prT_ce hn4.rd, e39, h42]
            have ec : IP 42 s = csF I cp (J 39) pe s (I 42) s := by rw [p1 42 (by decide), h42]
            have e0 := csF_out (K := I) (cp := cp) (v := J 39) (pe := pe) (c := I 42) s s (Nat.le_refl _)
            have le := hqs.1.2 s (by omega) hbit
            have e1 : csF I cp (J 39) pe (s + 1) (I 42) = ma (csF I cp (J 39) pe s (I 42)) s (prT I cp (J 39) (csF I cp (J 39) pe s (I 42)) pe s) := by rw [csF, if_pos hbit]
            refine ih (s + 1) true _ _ _ (by omega) (by omega) ?_ ?_ (fun i a b => ?_) (fun i a => (p2 i a).trans (hj i a)) ?_
            · subst eI11
              rw [ma_self, e1, p1 42 (by decide), ep, h42]
            · rw [e1]
              constructor
              · intro w
                rcases (show ro = true ∨ prT I cp (J 39) (csF I cp (J 39) pe s (I 42)) pe s < csF I cp (J 39) pe s (I 42) s by
                  first
                    | exact Or.inl (by assumption)
                    | (right; omega)) with w | w
                · obtain ⟨r, a, b⟩ := hro.mp w
                  exact ⟨r, by omega, by rw [ma_ne _ _ (by omega)]; exact b⟩
                · exact ⟨s, by omega, by rw [ma_self]; omega⟩
              · intro w
                rfl
            · subst eI11
              rw [ma_ne _ _ a, p1 i b]
              exact ho i a b
            · exact fun _ _ => rfl
theorem c_lower {N : Nat} {I : MI} {J : MJ} {cp : Nat → Bool} {pe : Nat} (hS : ScP I J) (hT : TelP I J cp) (hpe : I 41 5 = (pe : Int)) (hpe64 : pe < 64) (hqc : Qc I cp (J 39) pe (I 42)) (h43 : ∀ q, q < 64 → I 43 q = I 43 q) : CT 3 [aR 41] (MM N I J) (fun rv M' => ∃ ro I' J', rv = some (aI (b2 ro)) ∧ M' = MM N I' J' ∧ I' 42 = csF I cp (J 39) pe 320 (I 42) ∧ (ro = true ↔ ∃ r, r < 320 ∧ csF I cp (J 39) pe 320 (I 42) r ≠ I 42 r) ∧ (∀ i, i ≠ 42 → i ≠ 43 → I' i = I i) ∧ (∀ i, i ≠ 40 → J' i = J i) ∧ ∀ q, q < 64 → I' 43 q = I' 43 q) := by
  refine CT.ofV (n := 4) (ls := [some (aR 41), none, none, none]) rfl rfl rfl ?_
  refine V.blk [(0, .bipush 0, 1), (1, .istore 1, 1), (2, .bipush 0, 1), (3, .istore 2, 1)] (ps := []) (z' := (4, [some (aR 41), some (aI 0), some (aI 0), none], [], MM N I J)) (by decide +kernel) rfl trivial ?_
  exact l_lower hS hT hpe hpe64 hqc h43 322 0 false I J none (by omega) (by omega) rfl ⟨(fun w => by cases w), (fun w => by obtain ⟨r, a, _⟩ := w; omega)⟩ (fun _ _ _ => rfl) (fun _ _ => rfl) h43
theorem ScP.i {I I' : MI} {J J' : MJ} (h : ScP I J) (e : n4x I I') (ej : ∀ i, i ≠ 40 → J' i = J i) : ScP I' J' := by
  obtain ⟨h1, h2, h3, h4, h5, h6, h7, h8, h9⟩ := h
  unfold n4x at e
  have ee := EJ_congr (I := I) (I' := I') (J := J) (J' := J') (fun i hi => e i (by omega) (by omega) (by omega)) (ej 8 (by decide)) (ej 9 (by decide))
  have el := lv_congr ee.1 ee.2
  refine ⟨?_, ?_, ?_, ?_, ?_, ?_, ?_, ?_, ?_⟩
  · unfold kdOK; rw [e 2 (by decide) (by decide) (by decide)]; exact h1
  · unfold rlOK; rw [e 4 (by decide) (by decide) (by decide), e 5 (by decide) (by decide) (by decide), e 6 (by decide) (by decide) (by decide)]; exact h2
  · unfold rtOK; rw [e 4 (by decide) (by decide) (by decide), e 5 (by decide) (by decide) (by decide), e 6 (by decide) (by decide) (by decide)]; exact h3
  · unfold prOK; rw [e 1 (by decide) (by decide) (by decide), e 10 (by decide) (by decide) (by decide), e 13 (by decide) (by decide) (by decide), e 14 (by decide) (by decide) (by decide), e 17 (by decide) (by decide) (by decide), e 18 (by decide) (by decide) (by decide), e 19 (by decide) (by decide) (by decide)]; exact h4
  · rw [e 10 (by decide) (by decide) (by decide)]; exact h5
  · rw [e 7 (by decide) (by decide) (by decide)]; exact h6
  · exact svOK_congr h7 (e 4 (by decide) (by decide) (by decide)) (e 5 (by decide) (by decide) (by decide)) (e 6 (by decide) (by decide) (by decide)) (ej 8 (by decide)) (ej 9 (by decide))
  · rw [ee.1, ee.2, el]; exact h8
  · rw [el]; exact h9
theorem l_weigh {N : Nat} {I : MI} {J : MJ} {cp : Nat → Bool} {pe : Nat} (hS : ScP I J) (hT : TelP I J cp) (hpe : I 41 5 = (pe : Int)) (hpe64 : pe < 64) : ∀ (k r : Nat) (fl : Bool) (I' : MI) (J' : MJ), 322 ≤ k + r → r ≤ 321 → (∀ s, s < 320 → I' 42 s = cit I cp (J 39) pe r s) → (fl = false → ∀ s, s < 320 → cit I cp (J 39) pe (r + 1) s = cit I cp (J 39) pe r s) → (∀ i, i ≠ 42 → i ≠ 43 → I' i = I i) → (∀ i, i ≠ 40 → J' i = J i) → (∀ q, q < 64 → I' 43 q = I' 43 q) → V 2 (18, [some (aR 41), some (aI (pe : Int)), some (aI (b2 fl)), some (aI (r : Int))], [], MM N I' J') (fun rv M' => rv = none ∧ ∃ I' J', M' = MM N I' J' ∧ (∀ s, s < 320 → I' 42 s = cst I cp (J 39) pe s) ∧ (∀ i, i ≠ 42 → i ≠ 43 → I' i = I i) ∧ (∀ i, i ≠ 40 → J' i = J i) ∧ ∀ q, q < 64 → I' 43 q = I' 43 q) := by
  intro k
  induction k with
  | zero => intro r fl I' J' h1 h2; exfalso; omega
  | succ k ih =>
    intro r fl I' J' h1 h2 h42 hfl ho hj h43
    have hn4 : n4x I I' := fun i _ a b => ho i a b
    have hT2 : TelP I' J' cp := (hT.i hn4).j fun i a _ => hj i a
    have hS2 : ScP I' J' := hS.i hn4 hj
    have e39 : J' 39 = J 39 := hj 39 (by decide)
    have hpe2 : I' 41 5 = (pe : Int) := (congrFun (ho 41 (by decide) (by decide)) 5).trans hpe
    have hqc : Qc I' cp (J' 39) pe (I' 42) := by
      have q := cit_q hS (cp := cp) (v := J 39) (pe := pe) r
      refine ⟨fun s hs => by rw [h42 s hs]; exact q.1 s hs, fun s hs hb => ?_⟩
      rw [prT_ce hn4.rd, e39, h42 s hs]
      rw [e39] at hb
      refine Int.le_trans ?_ (q.2 s hs hb)
      exact prT_mono hS.2.1 hS.2.2.2.2.2.1 hS.1 hS.2.2.1 hS.2.2.2.1 hs fun t ht => Int.le_of_eq (h42 t ht)
    refine V.blk [(18, .iload 2, 1), (19, .ifCond .eq 40, 3)] (ps := []) (z' := (brc .eq (b2 fl) 0 40 22, [some (aR 41), some (aI (pe : Int)), some (aI (b2 fl)), some (aI (r : Int))], [], MM N I' J')) (by decide +kernel) rfl trivial ?_
    refine V.eq (fun bh1 => ?_) (fun bh2 => ?_)
    · skip
      try simp only [b2_cast, b2_ncast, Classical.not_not, lcm_lt, lcm_ge, lcm_gt, lcm_le, lcm_eq, b2_0, b2_n0, b2_e1, b2_e0, Bool.not_eq_false, Bool.not_eq_true, decide_eq_true_eq, decide_eq_false_iff_not, Classical.not_not] at bh1
      refine V.rv (by decide +kernel) ?_
      refine ⟨rfl, I', J', rfl, fun s hs => ?_, ho, hj, h43⟩
      rw [h42 s hs]
      first
        | exact cst_of hS (hfl (by assumption)) s hs
        | (have e : r = 320 + 1 := by omega
           rw [e]
           exact cst_more hS 1 s hs)
    · skip
      try simp only [b2_cast, b2_ncast, Classical.not_not, lcm_lt, lcm_ge, lcm_gt, lcm_le, lcm_eq, b2_0, b2_n0, b2_e1, b2_e0, Bool.not_eq_false, Bool.not_eq_true, decide_eq_true_eq, decide_eq_false_iff_not, Classical.not_not] at bh2
      refine V.blk [(22, .iload 3, 1), (23, .bipush 320, 3), (26, .if_icmp .gt 40, 3)] (ps := []) (z' := (brc .gt (r : Int) 320 40 29, [some (aR 41), some (aI (pe : Int)), some (aI (b2 fl)), some (aI (r : Int))], [], MM N I' J')) (by decide +kernel) rfl trivial ?_
      refine V.gt (fun bh3 => ?_) (fun bh4 => ?_)
      · skip
        try simp only [b2_cast, b2_ncast, Classical.not_not, lcm_lt, lcm_ge, lcm_gt, lcm_le, lcm_eq, b2_0, b2_n0, b2_e1, b2_e0, Bool.not_eq_false, Bool.not_eq_true, decide_eq_true_eq, decide_eq_false_iff_not, Classical.not_not] at bh3
        refine V.rv (by decide +kernel) ?_
        refine ⟨rfl, I', J', rfl, fun s hs => ?_, ho, hj, h43⟩
        rw [h42 s hs]
        first
          | exact cst_of hS (hfl (by assumption)) s hs
          | (have e : r = 320 + 1 := by omega
             rw [e]
             exact cst_more hS 1 s hs)
      · skip
        try simp only [b2_cast, b2_ncast, Classical.not_not, lcm_lt, lcm_ge, lcm_gt, lcm_le, lcm_eq, b2_0, b2_n0, b2_e1, b2_e0, Bool.not_eq_false, Bool.not_eq_true, decide_eq_true_eq, decide_eq_false_iff_not, Classical.not_not] at bh4
        refine V.blk [(29, .aload 0, 1)] (ps := []) (z' := (30, [some (aR 41), some (aI (pe : Int)), some (aI (b2 fl)), some (aI (r : Int))], [aR 41], MM N I' J')) (by decide +kernel) rfl trivial ?_
        refine V.cv (c := 3) (na := 1) (o := 0) (a := 41) [] [] (by decide +kernel) rfl rfl rfl rfl rfl ((c_lower hS2 hT2 hpe2 hpe64 hqc h43).mono (fun rv M1 q => ?_))
        obtain ⟨ro, IW, JW, rfl, rfl, w1, w2, w3, w4, w5⟩ := q
        show V 2 (33, [some (aR 41), some (aI (pe : Int)), some (aI (b2 fl)), some (aI (r : Int))], [aI (b2 ro)], MM N IW JW) _
        refine V.blk [(33, .istore 2, 1), (34, .iinc 3 1, 3), (37, .goto 18, 3)] (ps := [inR ((r : Int) + 1)]) (z' := (18, [some (aR 41), some (aI (pe : Int)), some (aI (b2 ro)), some (aI ((r + 1 : Nat) : Int))], [], MM N IW JW)) (by decide +kernel) rfl (show (inR ((r : Int) + 1)) from (by unfold inR; omega)) ?_
        have e1 : ∀ s, s < 320 → IW 42 s = cit I cp (J 39) pe (r + 1) s := by
          intro s hs
          rw [w1, csF_ce hn4.rd, e39]
          exact csF_congr hS h42 320 (Nat.le_refl _) s hs
        refine ih (r + 1) ro IW JW (by omega) (by omega) e1 (fun hf s hs => ?_) (fun i a b => (w3 i a b).trans (ho i a b)) (fun i a => (w4 i a).trans (hj i a)) w5
        have he : ∀ t, t < 320 → cit I cp (J 39) pe (r + 1) t = cit I cp (J 39) pe r t := by
          intro t ht
          apply Classical.byContradiction
          intro w
          have : ro = true := w2.mpr ⟨t, ht, by rw [← w1, e1 t ht, h42 t ht]; exact w⟩
          rw [hf] at this
          cases this
        show csF I cp (J 39) pe 320 (cit I cp (J 39) pe (r + 1)) s = csF I cp (J 39) pe 320 (cit I cp (J 39) pe r) s
        exact csF_congr hS he 320 (Nat.le_refl _) s hs
theorem c_weigh {N : Nat} {I : MI} {J : MJ} {cp : Nat → Bool} {pe : Nat} (hS : ScP I J) (hT : TelP I J cp) (hpe64 : pe < 64) (h43 : ∀ q, q < 64 → I 43 q = I 43 q) : CT 2 [aR 41, aI (pe : Int)] (MM N I J) (fun rv M' => rv = none ∧ ∃ I' J', M' = MM N I' J' ∧ (∀ s, s < 320 → I' 42 s = cst I cp (J 39) pe s) ∧ I' 41 5 = (pe : Int) ∧ n4x I I' ∧ (∀ i, i ≠ 40 → J' i = J i) ∧ ∀ q, q < 64 → I' 43 q = I' 43 q) := by
  refine CT.ofV (n := 4) (ls := [some (aR 41), some (aI (pe : Int)), none, none]) rfl rfl rfl ?_
  refine V.blk [(0, .aload 0, 1), (1, .iload 1, 1), (2, .putfield 5, 3), (5, .aload 0, 1), (6, .getfield 3, 3), (9, .bipush 1000000, 2)] (ps := []) (z' := (11, [some (aR 41), some (aI (pe : Int)), none, none], [aI 1000000, aR 42], MM N (ma I 41 (ma (I 41) 5 (pe : Int))) J)) (by decide +kernel) rfl trivial ?_
  refine V.nI (fun I1 eI1 => ?_)
  refine V.cs (c := 199) (na := 2) [aI 1000000, aR 42] [] (by decide +kernel) rfl rfl ((c_fillI_42).mono (fun rv M1 q => ?_))
  obtain ⟨rfl, IF, rfl, hFa, hFo⟩ := q
  show V 2 (14, [some (aR 41), some (aI (pe : Int)), none, none], [], MM N IF J) _
  refine V.blk [(14, .bipush 1, 1), (15, .istore 2, 1), (16, .bipush 0, 1), (17, .istore 3, 1)] (ps := []) (z' := (18, [some (aR 41), some (aI (pe : Int)), some (aI 1), some (aI 0)], [], MM N IF J)) (by decide +kernel) rfl trivial ?_
  have hn0 : n4x I IF := fun i a b _ => by rw [hFo i b]; subst_vars; exact ma_ne _ _ a
  have hpe0 : IF 41 5 = (pe : Int) := by rw [hFo 41 (by decide)]; subst_vars; rw [ma_self, ma_self]
  have h430 : ∀ q, q < 64 → IF 43 q = IF 43 q := fun _ _ => rfl
  have hS0 : ScP IF J := hS.i hn0 fun _ _ => rfl
  have hz : ∀ s, s < 320 → IF 42 s = cit IF cp (J 39) pe 0 s := fun s hs => hFa s hs
  refine (l_weigh (N := N) hS0 (hT.i hn0) hpe0 hpe64 322 0 true IF J (by omega) (by omega) hz (fun w => by cases w) (fun _ _ _ => rfl) (fun _ _ => rfl) h430).mono (fun rv M2 q => ?_)
  obtain ⟨rfl, I9, J9, rfl, g1, g2, g3, g4⟩ := q
  refine ⟨rfl, I9, J9, rfl, fun s hs => ?_, ?_, fun i a b c => (g2 i b c).trans (hn0 i a b c), g3, g4⟩
  · rw [g1 s hs, cst_ce hn0.rd]
  · rw [g2 41 (by decide) (by decide)]; exact hpe0
