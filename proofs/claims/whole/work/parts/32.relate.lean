/-! ===== the class: rule, name, empty, relate ===== -/
/-- cells that bear what the class is, not what it works with -/
def core (i : Nat) : Bool := Nat.blt i 52 && !(Nat.beq i 31 || Nat.beq i 35 || Nat.beq i 37 || Nat.beq i 38 || Nat.beq i 41 || Nat.beq i 42 || Nat.beq i 43 || Nat.beq i 44 || Nat.beq i 46 || Nat.beq i 47)
def CE (I I' : MI) : Prop := (∀ i, core i = true → I' i = I i) ∧ (∀ k, 5 ≤ k → k ≤ 8 → I' 44 k = I 44 k) ∧ ∀ i, 52 ≤ i → I' i = I i
theorem core_ne {i : Nat} (h : core i = true) : i < 52 ∧ i ≠ 31 ∧ i ≠ 35 ∧ i ≠ 37 ∧ i ≠ 38 ∧ i ≠ 41 ∧ i ≠ 42 ∧ i ≠ 43 ∧ i ≠ 44 ∧ i ≠ 46 ∧ i ≠ 47 := by
  have h0 : Nat.blt i 52 = true := by
    unfold core at h
    exact (Bool.and_eq_true _ _ ▸ h : _ ∧ _).1
  have h1 : i < 52 := Nat.le_of_ble_eq_true h0
  refine ⟨h1, ?_, ?_, ?_, ?_, ?_, ?_, ?_, ?_, ?_, ?_⟩ <;> (intro e; subst e; cases h)
theorem CE.refl (I : MI) : CE I I := ⟨fun _ _ => rfl, fun _ _ _ => rfl, fun _ _ => rfl⟩
theorem CE.trans {I1 I2 I3 : MI} (h : CE I1 I2) (g : CE I2 I3) : CE I1 I3 := ⟨fun i q => (g.1 i q).trans (h.1 i q), fun k a b => (g.2.1 k a b).trans (h.2.1 k a b), fun i q => (g.2.2 i q).trans (h.2.2 i q)⟩
theorem CE.ma {I I' : MI} {i k : Nat} {v : Int} (h : CE I I') (hi : core i = true) : CE (ma I i (ma (I i) k v)) (ma I' i (ma (I' i) k v)) := by
  refine ⟨fun j hj => ?_, fun k2 a b => ?_, fun j hj => ?_⟩
  · by_cases e : j = i
    · subst e; rw [ma_self, ma_self, h.1 j hi]
    · rw [ma_ne _ _ e, ma_ne _ _ e, h.1 j hj]
  · have := core_ne hi
    rw [ma_ne _ _ (show (44 : Nat) ≠ i by omega), ma_ne _ _ (show (44 : Nat) ≠ i by omega)]
    exact h.2.1 k2 a b
  · have := core_ne hi
    rw [ma_ne _ _ (show j ≠ i by omega), ma_ne _ _ (show j ≠ i by omega)]
    exact h.2.2 j hj
/-- scratch only -/
theorem CE.scr {I I' : MI} (h : ∀ i, i ≠ 31 → i ≠ 35 → i ≠ 37 → i ≠ 38 → i ≠ 41 → i ≠ 42 → i ≠ 43 → i ≠ 46 → i ≠ 47 → I' i = I i) : CE I I' :=
  ⟨fun i hi => by have := core_ne hi; exact h i (by omega) (by omega) (by omega) (by omega) (by omega) (by omega) (by omega) (by omega) (by omega), fun k _ _ => by rw [h 44 (by decide) (by decide) (by decide) (by decide) (by decide) (by decide) (by decide) (by decide) (by decide)], fun i hi => h i (by omega) (by omega) (by omega) (by omega) (by omega) (by omega) (by omega) (by omega) (by omega)⟩
theorem SetR.ce {I I' : MI} {J J' : MJ} {ok : Bool} (h : SetR I J I' J' ok) : CE I I' := CE.scr fun i h1 h2 _ _ _ _ _ _ _ => h.2.2.1 i h2 h1
theorem CE.rf {I I' : MI} (h : CE I I') (z : Int) : CE (rfU I z) (rfU I' z) := by
  unfold rfU
  have := h.ma (i := 51) (k := (-2 - z).toNat) (v := I' 51 (-2 - z).toNat + 1) rfl
  rw [h.1 51 rfl] at this
  rw [h.1 51 rfl]
  exact this
theorem CE.hld {I I' : MI} (h : CE I I') (p : Nat) (s x y : Int) : CE (hldU I p s x y) (hldU I' p s x y) := by
  have h1 := h.ma (i := 4) (k := p) (v := s) rfl
  have h2 := h1.ma (i := 5) (k := p) (v := x) rfl
  have h3 := h2.ma (i := 6) (k := p) (v := y) rfl
  rw [ma_ne _ _ (show (5 : Nat) ≠ 4 by decide), ma_ne _ _ (show (5 : Nat) ≠ 4 by decide), ma_ne _ _ (show (6 : Nat) ≠ 5 by decide), ma_ne _ _ (show (6 : Nat) ≠ 5 by decide), ma_ne _ _ (show (6 : Nat) ≠ 4 by decide), ma_ne _ _ (show (6 : Nat) ≠ 4 by decide)] at h3
  exact h3
theorem hld_back (I : MI) (p : Nat) (s x y : Int) : hldU (hldU I p s x y) p (I 4 p) (I 5 p) (I 6 p) = I := by
  funext i
  unfold hldU
  by_cases e6 : i = 6
  · subst e6; simp [ma_self, ma_ne, ma_ma, ma_id]
  · by_cases e5 : i = 5
    · subst e5; simp [ma_self, ma_ne, ma_ma, ma_id]
    · by_cases e4 : i = 4
      · subst e4; simp [ma_self, ma_ne, ma_ma, ma_id]
      · simp [ma_ne _ _ e6, ma_ne _ _ e5, ma_ne _ _ e4]
theorem svOK_congr {I I' : MI} {J J' : MJ} (h : svOK I J) (h4 : I' 4 = I 4) (h5 : I' 5 = I 5) (h6 : I' 6 = I 6) (h8 : J' 8 = J 8) (h9 : J' 9 = J 9) : svOK I' J' := by
  intro p hp
  have := h p hp
  unfold svEq at this ⊢
  rw [h4, h5, h6, h8, h9]
  exact this
theorem svOK_ce {I I' : MI} {J J' : MJ} (h : svOK I J) (hc : CE I I') (h8 : J' 8 = J 8) (h9 : J' 9 = J 9) : svOK I' J' := svOK_congr h (hc.1 4 rfl) (hc.1 5 rfl) (hc.1 6 rfl) h8 h9
theorem Rf_ce {I I' : MI} (h : Rf I) (hc : CE I I') : Rf I' := by
  unfold Rf
  rw [hc.1 51 rfl]
  exact h
theorem rlOK_ce {I I' : MI} (h : rlOK I) (hc : CE I I') : rlOK I' := by
  unfold rlOK
  rw [hc.1 4 rfl, hc.1 5 rfl, hc.1 6 rfl]
  exact h
def ringF (I : MI) (J : MJ) : Prop := ¬ ∃ z, stab (EJ I J) (ET I J) z ∧ nng z
theorem EJ_congr {I I' : MI} {J J' : MJ} (hc : ∀ i, i = 2 ∨ (4 ≤ i ∧ i ≤ 7) ∨ i = 10 ∨ i = 17 ∨ i = 18 → I' i = I i) (h8 : J' 8 = J 8) (h9 : J' 9 = J 9) : EJ I' J' = EJ I J ∧ ET I' J' = ET I J := by
  unfold EJ ET askQ clB kn
  rw [hc 2 (by omega), hc 4 (by omega), hc 5 (by omega), hc 6 (by omega), hc 7 (by omega), hc 10 (by omega), hc 17 (by omega), hc 18 (by omega), h8, h9]
  exact ⟨rfl, rfl⟩
theorem EJ_ce {I I' : MI} {J J' : MJ} (hc : CE I I') (h8 : J' 8 = J 8) (h9 : J' 9 = J 9) : EJ I' J' = EJ I J ∧ ET I' J' = ET I J := by
  refine EJ_congr (fun i hi => ?_) h8 h9
  rcases hi with e | e | e | e | e
  · subst e; exact hc.1 2 rfl
  · exact hc.1 i (by rcases (show i = 4 ∨ i = 5 ∨ i = 6 ∨ i = 7 by omega) with e | e | e | e <;> (subst e; rfl))
  · subst e; exact hc.1 10 rfl
  · subst e; exact hc.1 17 rfl
  · subst e; exact hc.1 18 rfl
theorem ringF_ce {I I' : MI} {J J' : MJ} (hc : CE I I') (h8 : J' 8 = J 8) (h9 : J' 9 = J 9) : ringF I' J' ↔ ringF I J := by
  unfold ringF
  rw [(EJ_ce hc h8 h9).1, (EJ_ce hc h8 h9).2]
/-- what settling asks for -/
def SetP (I : MI) : Prop := (0 ≤ I 10 9 ∧ I 10 9 ≤ 400) ∧ kdOK I ∧ spOK I (I 10 9).toNat ∧ rtOK I ∧ ∀ n, n < 48 → -1 ≤ I 7 n ∧ I 7 n < 64
def WX (I : MI) (J : MJ) : Prop := WTh I ∧ WRu I ∧ WLe I ∧ WDr I ∧ WTk I ∧ WRe I ∧ WRo I ∧ svOK I J ∧ ¬ ringF I J
theorem club_in {n u : Int} (hn : n ≤ 40) (h : isUsr n u) : clubOf u = -1 ∨ (0 ≤ clubOf u ∧ clubOf u < n * 8) := by
  unfold clubOf
  rcases h with h | h | h
  · left; rw [if_neg (by omega)]
  · left; rw [if_neg (by omega)]
  · right; rw [if_pos h.1]; omega
theorem WRu.rt {I : MI} (h : WRu I) : rtOK I ∧ rlOK I ∧ ∀ n, n < 48 → -1 ≤ I 7 n ∧ I 7 n < 64 := by
  refine ⟨fun p hp => ?_, fun p hp h4 h6 => (h.1 p hp).2.2.1 h4 h6, h.2⟩
  have q := h.1 p hp
  exact ⟨fun e => ⟨(q.2.2.2.1 e).1, (q.2.2.2.1 e).2.1⟩, q.2.2.2.2.1⟩
theorem WX.setP {I : MI} {J : MJ} (h : WX I J) : SetP I := by
  obtain ⟨a, b, c, -⟩ := h
  refine ⟨⟨c.1, c.2.1⟩, a.2.2, fun p hp => ?_, b.rt.1, b.rt.2.2⟩
  obtain ⟨w, -⟩ := c.2.2.2.2.2.1 p (by have := c.1; omega)
  obtain ⟨w1, w2, w3, w4, w5, w6, w7, w8, w9, w10⟩ := w
  have := club_in a.2.1 w5
  rw [w8, w9]
  have := a.2.1
  omega
theorem c_settleP {N : Nat} {I : MI} {J : MJ} (h : SetP I) : CT 17 [aR 31] (MM N I J) (fun r M' => ∃ ok I' J', r = some (aI (b2 ok)) ∧ M' = MM N I' J' ∧ SetR I J I' J' ok) := c_settle h.1 h.2.1 h.2.2.1 h.2.2.2.1 h.2.2.2.2
abbrev relP (s x y : Int) : Prop := (s = 2 → 0 ≤ x ∧ x < 8) ∧ (s = 3 → (0 ≤ x ∧ x < 8) ∧ (0 ≤ y ∧ y < 8))
abbrev lowP (p s x y : Int) : Prop := (4 ≤ s ∧ s ≤ 6) → (0 ≤ x ∧ x < p) ∧ (0 ≤ y ∧ y < p)
def ruU (I : MI) (p s x y : Int) : MI := hldU I p.toNat s (if 2 ≤ s then x else -1) (if 3 ≤ s then y else -1)
def RuleR (I : MI) (p s x y : Int) (L : MJ) (v : Int) (U : MI) : Prop :=
  (¬ ((0 ≤ p ∧ p < 64) ∧ relP s x y) → v = -3 ∧ U = rfU I (-3)) ∧ ((0 ≤ p ∧ p < 64) ∧ relP s x y → ¬ ((0 ≤ s ∧ s ≤ 6) ∧ lowP p s x y) → v = -8 ∧ U = rfU I (-8)) ∧
  ((0 ≤ p ∧ p < 64) ∧ relP s x y → (0 ≤ s ∧ s ≤ 6) ∧ lowP p s x y → svOK (ruU I p s x y) L ∧ (ringF (ruU I p s x y) L → v = -7 ∧ U = rfU I (-7)) ∧ (¬ ringF (ruU I p s x y) L → v = 1 ∧ U = ruU I p s x y))
theorem c_X9_areRelations {N : Nat} {I : MI} {J : MJ} {s x y : Int}  : CT 104 [aI s, aI x, aI y] (MM N I J) (pure1 N I J (aI (b2 (decide (relP s x y))))) := by
  refine CT.ofV (n := 3) (ls := [some (aI s), some (aI x), some (aI y)]) rfl rfl rfl ?_
  refine V.blk [(0, .iload 0, 1), (1, .bipush 2, 1), (2, .if_icmp .ne 12, 3)] (ps := []) (z' := (brc .ne s 2 12 5, [some (aI s), some (aI x), some (aI y)], [], MM N I J)) (by decide +kernel) rfl trivial ?_
  refine V.ne (fun h1 => ?_) (fun h2 => ?_)
  · skip
    try simp only [b2_cast, b2_ncast, Classical.not_not, lcm_lt, lcm_ge, lcm_gt, lcm_le, lcm_eq] at h1
    refine V.blk [(12, .iload 0, 1), (13, .bipush 3, 1), (14, .if_icmp .ne 35, 3)] (ps := []) (z' := (brc .ne s 3 35 17, [some (aI s), some (aI x), some (aI y)], [], MM N I J)) (by decide +kernel) rfl trivial ?_
    refine V.ne (fun h3 => ?_) (fun h4 => ?_)
    · skip
      try simp only [b2_cast, b2_ncast, Classical.not_not, lcm_lt, lcm_ge, lcm_gt, lcm_le, lcm_eq] at h3
      refine V.blk [(35, .bipush 1, 1), (36, .goto 40, 3)] (ps := []) (z' := (40, [some (aI s), some (aI x), some (aI y)], [aI 1], MM N I J)) (by decide +kernel) rfl trivial ?_
      refine V.rz (by decide +kernel) (by first | exact b2_in _ | omega) ?_
      refine ⟨congrArg (fun w => some (aI w)) ?_, rfl⟩
      first | (refine b2_td ?_; omega) | (refine b2_fd ?_; omega) | (refine b2_dc ?_; omega)
    · skip
      try simp only [b2_cast, b2_ncast, Classical.not_not, lcm_lt, lcm_ge, lcm_gt, lcm_le, lcm_eq] at h4
      refine V.blk [(17, .iload 1, 1), (18, .bipush 8, 2)] (ps := []) (z' := (20, [some (aI s), some (aI x), some (aI y)], [aI 8, aI x], MM N I J)) (by decide +kernel) rfl trivial ?_
      refine V.cs (c := 103) (na := 2) [aI 8, aI x] [] (by decide +kernel) rfl rfl (V.pr (c_X9_within) ?_)
      show V 104 (23, [some (aI s), some (aI x), some (aI y)], [aI (b2 (decide (0 ≤ x ∧ x < 8)))], MM N I J) _
      refine V.blk [(23, .ifCond .eq 39, 3)] (ps := []) (z' := (brc .eq (b2 (decide (0 ≤ x ∧ x < 8))) 0 39 26, [some (aI s), some (aI x), some (aI y)], [], MM N I J)) (by decide +kernel) rfl trivial ?_
      refine V.eq (fun h5 => ?_) (fun h6 => ?_)
      · skip
        try simp only [b2_cast, b2_ncast, Classical.not_not, lcm_lt, lcm_ge, lcm_gt, lcm_le, lcm_eq] at h5
        refine V.blk [(39, .bipush 0, 1)] (ps := []) (z' := (40, [some (aI s), some (aI x), some (aI y)], [aI 0], MM N I J)) (by decide +kernel) rfl trivial ?_
        refine V.rz (by decide +kernel) (by first | exact b2_in _ | omega) ?_
        refine ⟨congrArg (fun w => some (aI w)) ?_, rfl⟩
        first | (refine b2_td ?_; omega) | (refine b2_fd ?_; omega) | (refine b2_dc ?_; omega)
      · skip
        try simp only [b2_cast, b2_ncast, Classical.not_not, lcm_lt, lcm_ge, lcm_gt, lcm_le, lcm_eq] at h6
        refine V.blk [(26, .iload 2, 1), (27, .bipush 8, 2)] (ps := []) (z' := (29, [some (aI s), some (aI x), some (aI y)], [aI 8, aI y], MM N I J)) (by decide +kernel) rfl trivial ?_
        refine V.cs (c := 103) (na := 2) [aI 8, aI y] [] (by decide +kernel) rfl rfl (V.pr (c_X9_within) ?_)
        show V 104 (32, [some (aI s), some (aI x), some (aI y)], [aI (b2 (decide (0 ≤ y ∧ y < 8)))], MM N I J) _
        refine V.blk [(32, .ifCond .eq 39, 3)] (ps := []) (z' := (brc .eq (b2 (decide (0 ≤ y ∧ y < 8))) 0 39 35, [some (aI s), some (aI x), some (aI y)], [], MM N I J)) (by decide +kernel) rfl trivial ?_
        refine V.eq (fun h7 => ?_) (fun h8 => ?_)
        · skip
          try simp only [b2_cast, b2_ncast, Classical.not_not, lcm_lt, lcm_ge, lcm_gt, lcm_le, lcm_eq] at h7
          refine V.blk [(39, .bipush 0, 1)] (ps := []) (z' := (40, [some (aI s), some (aI x), some (aI y)], [aI 0], MM N I J)) (by decide +kernel) rfl trivial ?_
          refine V.rz (by decide +kernel) (by first | exact b2_in _ | omega) ?_
          refine ⟨congrArg (fun w => some (aI w)) ?_, rfl⟩
          first | (refine b2_td ?_; omega) | (refine b2_fd ?_; omega) | (refine b2_dc ?_; omega)
        · skip
          try simp only [b2_cast, b2_ncast, Classical.not_not, lcm_lt, lcm_ge, lcm_gt, lcm_le, lcm_eq] at h8
          refine V.blk [(35, .bipush 1, 1), (36, .goto 40, 3)] (ps := []) (z' := (40, [some (aI s), some (aI x), some (aI y)], [aI 1], MM N I J)) (by decide +kernel) rfl trivial ?_
          refine V.rz (by decide +kernel) (by first | exact b2_in _ | omega) ?_
          refine ⟨congrArg (fun w => some (aI w)) ?_, rfl⟩
          first | (refine b2_td ?_; omega) | (refine b2_fd ?_; omega) | (refine b2_dc ?_; omega)
  · skip
    try simp only [b2_cast, b2_ncast, Classical.not_not, lcm_lt, lcm_ge, lcm_gt, lcm_le, lcm_eq] at h2
    refine V.blk [(5, .iload 1, 1), (6, .bipush 8, 2)] (ps := []) (z' := (8, [some (aI s), some (aI x), some (aI y)], [aI 8, aI x], MM N I J)) (by decide +kernel) rfl trivial ?_
    refine V.cs (c := 103) (na := 2) [aI 8, aI x] [] (by decide +kernel) rfl rfl (V.pr (c_X9_within) ?_)
    show V 104 (11, [some (aI s), some (aI x), some (aI y)], [aI (b2 (decide (0 ≤ x ∧ x < 8)))], MM N I J) _
    refine V.rz (by decide +kernel) (by first | exact b2_in _ | omega) ?_
    refine ⟨congrArg (fun w => some (aI w)) ?_, rfl⟩
    first | (refine b2_td ?_; omega) | (refine b2_fd ?_; omega) | (refine b2_dc ?_; omega)
theorem c_X9_areLower {N : Nat} {I : MI} {J : MJ} {p s x y : Int}  : CT 105 [aI p, aI s, aI x, aI y] (MM N I J) (pure1 N I J (aI (b2 (decide (lowP p s x y))))) := by
  refine CT.ofV (n := 4) (ls := [some (aI p), some (aI s), some (aI x), some (aI y)]) rfl rfl rfl ?_
  refine V.blk [(0, .iload 1, 1)] (ps := []) (z' := (1, [some (aI p), some (aI s), some (aI x), some (aI y)], [aI s], MM N I J)) (by decide +kernel) rfl trivial ?_
  refine V.cs (c := 106) (na := 1) [aI s] [] (by decide +kernel) rfl rfl (V.pr (c_X9_isJoin) ?_)
  show V 105 (4, [some (aI p), some (aI s), some (aI x), some (aI y)], [aI (b2 (decide (4 ≤ s ∧ s ≤ 6)))], MM N I J) _
  refine V.blk [(4, .ifCond .eq 23, 3)] (ps := []) (z' := (brc .eq (b2 (decide (4 ≤ s ∧ s ≤ 6))) 0 23 7, [some (aI p), some (aI s), some (aI x), some (aI y)], [], MM N I J)) (by decide +kernel) rfl trivial ?_
  refine V.eq (fun h1 => ?_) (fun h2 => ?_)
  · skip
    try simp only [b2_cast, b2_ncast, Classical.not_not, lcm_lt, lcm_ge, lcm_gt, lcm_le, lcm_eq] at h1
    refine V.blk [(23, .bipush 1, 1), (24, .goto 28, 3)] (ps := []) (z' := (28, [some (aI p), some (aI s), some (aI x), some (aI y)], [aI 1], MM N I J)) (by decide +kernel) rfl trivial ?_
    refine V.rz (by decide +kernel) (by first | exact b2_in _ | omega) ?_
    refine ⟨congrArg (fun w => some (aI w)) ?_, rfl⟩
    first | (refine b2_td ?_; omega) | (refine b2_fd ?_; omega) | (refine b2_dc ?_; omega)
  · skip
    try simp only [b2_cast, b2_ncast, Classical.not_not, lcm_lt, lcm_ge, lcm_gt, lcm_le, lcm_eq] at h2
    refine V.blk [(7, .iload 2, 1), (8, .iload 0, 1)] (ps := []) (z' := (9, [some (aI p), some (aI s), some (aI x), some (aI y)], [aI p, aI x], MM N I J)) (by decide +kernel) rfl trivial ?_
    refine V.cs (c := 103) (na := 2) [aI p, aI x] [] (by decide +kernel) rfl rfl (V.pr (c_X9_within) ?_)
    show V 105 (12, [some (aI p), some (aI s), some (aI x), some (aI y)], [aI (b2 (decide (0 ≤ x ∧ x < p)))], MM N I J) _
    refine V.blk [(12, .ifCond .eq 27, 3)] (ps := []) (z' := (brc .eq (b2 (decide (0 ≤ x ∧ x < p))) 0 27 15, [some (aI p), some (aI s), some (aI x), some (aI y)], [], MM N I J)) (by decide +kernel) rfl trivial ?_
    refine V.eq (fun h3 => ?_) (fun h4 => ?_)
    · skip
      try simp only [b2_cast, b2_ncast, Classical.not_not, lcm_lt, lcm_ge, lcm_gt, lcm_le, lcm_eq] at h3
      refine V.blk [(27, .bipush 0, 1)] (ps := []) (z' := (28, [some (aI p), some (aI s), some (aI x), some (aI y)], [aI 0], MM N I J)) (by decide +kernel) rfl trivial ?_
      refine V.rz (by decide +kernel) (by first | exact b2_in _ | omega) ?_
      refine ⟨congrArg (fun w => some (aI w)) ?_, rfl⟩
      first | (refine b2_td ?_; omega) | (refine b2_fd ?_; omega) | (refine b2_dc ?_; omega)
    · skip
      try simp only [b2_cast, b2_ncast, Classical.not_not, lcm_lt, lcm_ge, lcm_gt, lcm_le, lcm_eq] at h4
      refine V.blk [(15, .iload 3, 1), (16, .iload 0, 1)] (ps := []) (z' := (17, [some (aI p), some (aI s), some (aI x), some (aI y)], [aI p, aI y], MM N I J)) (by decide +kernel) rfl trivial ?_
      refine V.cs (c := 103) (na := 2) [aI p, aI y] [] (by decide +kernel) rfl rfl (V.pr (c_X9_within) ?_)
      show V 105 (20, [some (aI p), some (aI s), some (aI x), some (aI y)], [aI (b2 (decide (0 ≤ y ∧ y < p)))], MM N I J) _
      refine V.blk [(20, .ifCond .eq 27, 3)] (ps := []) (z' := (brc .eq (b2 (decide (0 ≤ y ∧ y < p))) 0 27 23, [some (aI p), some (aI s), some (aI x), some (aI y)], [], MM N I J)) (by decide +kernel) rfl trivial ?_
      refine V.eq (fun h5 => ?_) (fun h6 => ?_)
      · skip
        try simp only [b2_cast, b2_ncast, Classical.not_not, lcm_lt, lcm_ge, lcm_gt, lcm_le, lcm_eq] at h5
        refine V.blk [(27, .bipush 0, 1)] (ps := []) (z' := (28, [some (aI p), some (aI s), some (aI x), some (aI y)], [aI 0], MM N I J)) (by decide +kernel) rfl trivial ?_
        refine V.rz (by decide +kernel) (by first | exact b2_in _ | omega) ?_
        refine ⟨congrArg (fun w => some (aI w)) ?_, rfl⟩
        first | (refine b2_td ?_; omega) | (refine b2_fd ?_; omega) | (refine b2_dc ?_; omega)
      · skip
        try simp only [b2_cast, b2_ncast, Classical.not_not, lcm_lt, lcm_ge, lcm_gt, lcm_le, lcm_eq] at h6
        refine V.blk [(23, .bipush 1, 1), (24, .goto 28, 3)] (ps := []) (z' := (28, [some (aI p), some (aI s), some (aI x), some (aI y)], [aI 1], MM N I J)) (by decide +kernel) rfl trivial ?_
        refine V.rz (by decide +kernel) (by first | exact b2_in _ | omega) ?_
        refine ⟨congrArg (fun w => some (aI w)) ?_, rfl⟩
        first | (refine b2_td ?_; omega) | (refine b2_fd ?_; omega) | (refine b2_dc ?_; omega)
theorem hld_rt {I : MI} {q : Nat} {s x y x' y' : Int} (hq : q < 64) (hw : WRu I) (hr : relP s x y) (hs : 0 ≤ s ∧ s ≤ 6) (hl : lowP q s x y) (hx : x' = if 2 ≤ s then x else -1) (hy : y' = if 3 ≤ s then y else -1) : WRu (hldU I q s x' y') := by
  unfold hldU WRu
  refine ⟨fun p hp => ?_, ?_⟩
  · have h := hw.1 p hp
    simp only [ma_self, ma_ne _ _ (show (4 : Nat) ≠ 5 by decide), ma_ne _ _ (show (4 : Nat) ≠ 6 by decide), ma_ne _ _ (show (5 : Nat) ≠ 6 by decide), ma_ne _ _ (show (5 : Nat) ≠ 4 by decide), ma_ne _ _ (show (6 : Nat) ≠ 5 by decide), ma_ne _ _ (show (6 : Nat) ≠ 4 by decide)]
    by_cases e : p = q
    · subst e
      simp only [ma_self]
      subst hx hy
      split <;> split <;> omega
    · simp only [ma_ne _ _ e]
      exact h
  · simp only [ma_ne _ _ (show (7 : Nat) ≠ 5 by decide), ma_ne _ _ (show (7 : Nat) ≠ 6 by decide), ma_ne _ _ (show (7 : Nat) ≠ 4 by decide)]
    exact hw.2
theorem setP_of {I I' : MI} (h : SetP I) (hw : WRu I') (h2 : I' 2 = I 2) (h10 : I' 10 = I 10) (h17 : I' 17 = I 17) (h18 : I' 18 = I 18) : SetP I' := by
  obtain ⟨a, b, c, d, e⟩ := h
  refine ⟨by rw [h10]; exact a, by unfold kdOK; rw [h2]; exact b, by unfold spOK; rw [h10, h17, h18]; exact c, hw.rt.1, hw.rt.2.2⟩
theorem hld_ne (I : MI) (q : Nat) (s x y : Int) {i : Nat} (h4 : i ≠ 4) (h5 : i ≠ 5) (h6 : i ≠ 6) : hldU I q s x y i = I i := by
  unfold hldU
  rw [ma_ne _ _ h6, ma_ne _ _ h5, ma_ne _ _ h4]
theorem l_rule {N : Nat} {I : MI} {J : MJ} {q : Nat} {s x y x' y' : Int} (hq : q < 64) (hX : WX I J) (hf : Rf I) (hr : relP s x y) (hs : 0 ≤ s ∧ s ≤ 6) (hl : lowP q s x y) (hx : x' = if 2 ≤ s then x else -1) (hy : y' = if 3 ≤ s then y else -1) : V 66 (114, [some (aR 0), some (aI (q : Int)), some (aI s), some (aI x), some (aI y), some (aI (I 4 q)), some (aI (I 5 q)), some (aI (I 6 q))], [aI y', aI x', aI s, aI (q : Int), aR 3], MM N I J) (fun r M' => ∃ v U L I' J', r = some (aI v) ∧ M' = MM N I' J' ∧ RuleR I q s x y L v U ∧ CE U I' ∧ svOK I' J') := by
  have hW1 := hld_rt hq hX.2.1 hr hs hl hx hy
  have eU : hldU I q s x' y' = ruU I q s x y := by
    subst hx hy
    rfl
  refine V.cv (c := 45) (na := 5) (o := 6) (a := 3) [aI y', aI x', aI s, aI (q : Int)] [] (by decide +kernel) rfl rfl rfl rfl rfl ((c_hold (by omega) (hW1.rt.2.1)).mono (fun rv M1 q => ?_))
  obtain ⟨rfl, L, rfl, hLs, hLo⟩ := q
  show V 66 (117, [some (aR 0), some (aI (q : Int)), some (aI s), some (aI x), some (aI y), some (aI (I 4 q)), some (aI (I 5 q)), some (aI (I 6 q))], [], MM N ((hldU I q s x' y')) L) _
  refine V.nI (fun I1 eI1 => ?_)
  have hS : SetP I1 := by
    subst_vars
    exact setP_of hX.setP hW1 (hld_ne _ _ _ _ _ (by decide) (by decide) (by decide)) (hld_ne _ _ _ _ _ (by decide) (by decide) (by decide)) (hld_ne _ _ _ _ _ (by decide) (by decide) (by decide)) (hld_ne _ _ _ _ _ (by decide) (by decide) (by decide))
  refine V.blk [(117, .aload 0, 1), (118, .getfield 9004, 3)] (ps := []) (z' := (121, [some (aR 0), some (aI (q : Int)), some (aI s), some (aI x), some (aI y), some (aI (I 4 q)), some (aI (I 5 q)), some (aI (I 6 q))], [aR 31], MM N I1 L)) (by decide +kernel) rfl trivial ?_
  refine V.cv (c := 17) (na := 1) (o := 2) (a := 31) [] [] (by decide +kernel) rfl rfl rfl rfl rfl ((c_settleP hS).mono (fun rv M1 q => ?_))
  obtain ⟨ok, IS, JS, rfl, rfl, hR⟩ := q
  show V 66 (124, [some (aR 0), some (aI (q : Int)), some (aI s), some (aI x), some (aI y), some (aI (I 4 q)), some (aI (I 5 q)), some (aI (I 6 q))], [aI (b2 ok)], MM N IS JS) _
  rw [eI1] at hR
  refine V.blk [(124, .ifCond .ne 148, 3)] (ps := []) (z' := (brc .ne (b2 ok) 0 148 127, [some (aR 0), some (aI (q : Int)), some (aI s), some (aI x), some (aI y), some (aI (I 4 q)), some (aI (I 5 q)), some (aI (I 6 q))], [], MM N IS JS)) (by decide +kernel) rfl trivial ?_
  refine V.ne (fun h2 => ?_) (fun h3 => ?_)
  · skip
    try simp only [b2_cast, b2_ncast, Classical.not_not, lcm_lt, lcm_ge, lcm_gt, lcm_le, lcm_eq, b2_0, b2_n0, Bool.not_eq_false] at h2
    refine V.blk [(148, .bipush 1, 1)] (ps := []) (z' := (149, [some (aR 0), some (aI (q : Int)), some (aI s), some (aI x), some (aI y), some (aI (I 4 q)), some (aI (I 5 q)), some (aI (I 6 q))], [aI 1], MM N IS JS)) (by decide +kernel) rfl trivial ?_
    refine V.ri (by decide +kernel) ?_
    refine ⟨1, ruU I q s x y, L, _, _, rfl, rfl, ⟨fun w => absurd ⟨by omega, hr⟩ w, fun _ w => absurd ⟨hs, hl⟩ w, fun _ _ => ⟨by rw [← eU]; exact hLs, fun w => ?_, fun _ => ⟨rfl, rfl⟩⟩⟩, ?_, ?_⟩
    · exfalso
      have e0 : ok = true := by assumption
      apply w
      rw [← eU]
      exact hR.1.mp e0
    · rw [← eU]
      exact hR.ce
    · exact svOK_ce hLs hR.ce (hR.2.2.2.2 8 (by decide) (by decide) (by decide)) (hR.2.2.2.2 9 (by decide) (by decide) (by decide))
  · skip
    try simp only [b2_cast, b2_ncast, Classical.not_not, lcm_lt, lcm_ge, lcm_gt, lcm_le, lcm_eq, b2_0, b2_n0, Bool.not_eq_false] at h3
    have hC : CE I (hldU IS q (I 4 q) (I 5 q) (I 6 q)) := by
      have := hR.ce.hld q (I 4 q) (I 5 q) (I 6 q)
      rw [hld_back] at this
      exact this
    refine V.blk [(127, .aload 0, 1), (128, .getfield 9001, 3), (131, .iload 1, 1), (132, .iload 5, 2), (134, .iload 6, 2), (136, .iload 7, 2)] (ps := []) (z' := (138, [some (aR 0), some (aI (q : Int)), some (aI s), some (aI x), some (aI y), some (aI (I 4 q)), some (aI (I 5 q)), some (aI (I 6 q))], [aI (I 6 q), aI (I 5 q), aI (I 4 q), aI (q : Int), aR 3], MM N IS JS)) (by decide +kernel) rfl trivial ?_
    refine V.cv (c := 45) (na := 5) (o := 6) (a := 3) [aI (I 6 q), aI (I 5 q), aI (I 4 q), aI (q : Int)] [] (by decide +kernel) rfl rfl rfl rfl rfl ((c_hold (by omega) (rlOK_ce hX.2.1.rt.2.1 hC)).mono (fun rv M1 q => ?_))
    obtain ⟨rfl, L2, rfl, hLs2, hLo2⟩ := q
    show V 66 (141, [some (aR 0), some (aI (q : Int)), some (aI s), some (aI x), some (aI y), some (aI (I 4 q)), some (aI (I 5 q)), some (aI (I 6 q))], [], MM N ((hldU IS q (I 4 q) (I 5 q) (I 6 q))) L2) _
    refine V.nI (fun I4 eI4 => ?_)
    have hf4 : Rf I4 := Rf_ce hf (by subst_vars; exact hC)
    refine V.blk [(141, .aload 0, 1), (142, .bipush (-7), 2)] (ps := []) (z' := (144, [some (aR 0), some (aI (q : Int)), some (aI s), some (aI x), some (aI y), some (aI (I 4 q)), some (aI (I 5 q)), some (aI (I 6 q))], [aI (-7), aR 0], MM N I4 L2)) (by decide +kernel) rfl trivial ?_
    refine V.cv (c := 98) (na := 2) (o := 9) (a := 0) [aI (-7)] [] (by decide +kernel) rfl rfl rfl rfl rfl ((c_refuse (by assumption) (by omega)).mono (fun rv M1 q => ?_))
    obtain ⟨rfl, rfl⟩ := q
    show V 66 (147, [some (aR 0), some (aI (q : Int)), some (aI s), some (aI x), some (aI y), some (aI (I 4 q)), some (aI (I 5 q)), some (aI (I 6 q))], [aI (-7)], MM N ((rfU I4 (-7))) L2) _
    refine V.nI (fun I5 eI5 => ?_)
    refine V.ri (by decide +kernel) ?_
    refine ⟨-7, rfU I (-7), L, _, _, rfl, rfl, ⟨fun w => absurd ⟨by omega, hr⟩ w, fun _ w => absurd ⟨hs, hl⟩ w, fun _ _ => ⟨by rw [← eU]; exact hLs, fun _ => ⟨rfl, rfl⟩, fun w => ?_⟩⟩, ?_, ?_⟩
    · exfalso
      have e0 : ok = false := by assumption
      apply w
      unfold ringF
      rw [← eU]
      intro g
      have := hR.1.mpr g
      rw [e0] at this
      cases this
    · subst_vars
      exact CE.rf hC _
    · subst_vars
      refine svOK_congr hLs2 ?_ ?_ ?_ rfl rfl
      all_goals (unfold rfU; exact ma_ne _ _ (by decide))
theorem c_X9_rule {N : Nat} {I : MI} {J : MJ} {p s x y : Int} (hX : WX I J) (hf : Rf I) : CT 66 [aR 0, aI p, aI s, aI x, aI y] (MM N I J) (fun r M' => ∃ v U L I' J', r = some (aI v) ∧ M' = MM N I' J' ∧ RuleR I p s x y L v U ∧ CE U I' ∧ svOK I' J') := by
  refine CT.ofV (n := 8) (ls := [some (aR 0), some (aI p), some (aI s), some (aI x), some (aI y), none, none, none]) rfl rfl rfl ?_
  refine V.blk [(0, .iload 1, 1), (1, .bipush 64, 2)] (ps := []) (z' := (3, [some (aR 0), some (aI p), some (aI s), some (aI x), some (aI y), none, none, none], [aI 64, aI p], MM N I J)) (by decide +kernel) rfl trivial ?_
  refine V.cs (c := 103) (na := 2) [aI 64, aI p] [] (by decide +kernel) rfl rfl (V.pr (c_X9_within) ?_)
  show V 66 (6, [some (aR 0), some (aI p), some (aI s), some (aI x), some (aI y), none, none, none], [aI (b2 (decide (0 ≤ p ∧ p < 64)))], MM N I J) _
  refine V.blk [(6, .ifCond .eq 19, 3)] (ps := []) (z' := (brc .eq (b2 (decide (0 ≤ p ∧ p < 64))) 0 19 9, [some (aR 0), some (aI p), some (aI s), some (aI x), some (aI y), none, none, none], [], MM N I J)) (by decide +kernel) rfl trivial ?_
  refine V.eq (fun h1 => ?_) (fun h2 => ?_)
  · skip
    try simp only [b2_cast, b2_ncast, Classical.not_not, lcm_lt, lcm_ge, lcm_gt, lcm_le, lcm_eq] at h1
    refine V.blk [(19, .aload 0, 1), (20, .bipush (-3), 2)] (ps := []) (z' := (22, [some (aR 0), some (aI p), some (aI s), some (aI x), some (aI y), none, none, none], [aI (-3), aR 0], MM N I J)) (by decide +kernel) rfl trivial ?_
    refine V.cv (c := 98) (na := 2) (o := 9) (a := 0) [aI (-3)] [] (by decide +kernel) rfl rfl rfl rfl rfl ((c_refuse (by assumption) (by omega)).mono (fun rv M1 q => ?_))
    obtain ⟨rfl, rfl⟩ := q
    show V 66 (25, [some (aR 0), some (aI p), some (aI s), some (aI x), some (aI y), none, none, none], [aI (-3)], MM N ((rfU I (-3))) J) _
    refine V.nI (fun I3 eI3 => ?_)
    refine V.ri (by decide +kernel) ?_
    refine ⟨-3, rfU I (-3), J, _, _, rfl, rfl, ⟨fun w => ⟨by first | rfl | omega, by first | rfl | omega⟩, fun _ w => ⟨by first | rfl | omega, by first | rfl | omega⟩, fun _ w => ?_⟩, ?_, ?_⟩
    · exfalso; omega
    · subst_vars; exact CE.refl _
    · refine svOK_congr hX.2.2.2.2.2.2.2.1 ?_ ?_ ?_ rfl rfl
      all_goals (subst_vars; unfold rfU; exact ma_ne _ _ (by decide))
  · skip
    try simp only [b2_cast, b2_ncast, Classical.not_not, lcm_lt, lcm_ge, lcm_gt, lcm_le, lcm_eq] at h2
    refine V.blk [(9, .iload 2, 1), (10, .iload 3, 1), (11, .iload 4, 2)] (ps := []) (z' := (13, [some (aR 0), some (aI p), some (aI s), some (aI x), some (aI y), none, none, none], [aI y, aI x, aI s], MM N I J)) (by decide +kernel) rfl trivial ?_
    refine V.cs (c := 104) (na := 3) [aI y, aI x, aI s] [] (by decide +kernel) rfl rfl (V.pr (c_X9_areRelations) ?_)
    show V 66 (16, [some (aR 0), some (aI p), some (aI s), some (aI x), some (aI y), none, none, none], [aI (b2 (decide (relP s x y)))], MM N I J) _
    refine V.blk [(16, .ifCond .ne 26, 3)] (ps := []) (z' := (brc .ne (b2 (decide (relP s x y))) 0 26 19, [some (aR 0), some (aI p), some (aI s), some (aI x), some (aI y), none, none, none], [], MM N I J)) (by decide +kernel) rfl trivial ?_
    refine V.ne (fun h4 => ?_) (fun h5 => ?_)
    · skip
      try simp only [b2_cast, b2_ncast, Classical.not_not, lcm_lt, lcm_ge, lcm_gt, lcm_le, lcm_eq] at h4
      refine V.blk [(26, .iload 2, 1), (27, .ifCond .lt 47, 3)] (ps := []) (z' := (brc .lt s 0 47 30, [some (aR 0), some (aI p), some (aI s), some (aI x), some (aI y), none, none, none], [], MM N I J)) (by decide +kernel) rfl trivial ?_
      refine V.lt (fun h6 => ?_) (fun h7 => ?_)
      · skip
        try simp only [b2_cast, b2_ncast, Classical.not_not, lcm_lt, lcm_ge, lcm_gt, lcm_le, lcm_eq] at h6
        refine V.blk [(47, .aload 0, 1), (48, .bipush (-8), 2)] (ps := []) (z' := (50, [some (aR 0), some (aI p), some (aI s), some (aI x), some (aI y), none, none, none], [aI (-8), aR 0], MM N I J)) (by decide +kernel) rfl trivial ?_
        refine V.cv (c := 98) (na := 2) (o := 9) (a := 0) [aI (-8)] [] (by decide +kernel) rfl rfl rfl rfl rfl ((c_refuse (by assumption) (by omega)).mono (fun rv M1 q => ?_))
        obtain ⟨rfl, rfl⟩ := q
        show V 66 (53, [some (aR 0), some (aI p), some (aI s), some (aI x), some (aI y), none, none, none], [aI (-8)], MM N ((rfU I (-8))) J) _
        refine V.nI (fun I8 eI8 => ?_)
        refine V.ri (by decide +kernel) ?_
        refine ⟨-8, rfU I (-8), J, _, _, rfl, rfl, ⟨fun w => ⟨by first | rfl | omega, by first | rfl | omega⟩, fun _ w => ⟨by first | rfl | omega, by first | rfl | omega⟩, fun _ w => ?_⟩, ?_, ?_⟩
        · exfalso; omega
        · subst_vars; exact CE.refl _
        · refine svOK_congr hX.2.2.2.2.2.2.2.1 ?_ ?_ ?_ rfl rfl
          all_goals (subst_vars; unfold rfU; exact ma_ne _ _ (by decide))
      · skip
        try simp only [b2_cast, b2_ncast, Classical.not_not, lcm_lt, lcm_ge, lcm_gt, lcm_le, lcm_eq] at h7
        refine V.blk [(30, .iload 2, 1), (31, .bipush 6, 2), (33, .if_icmp .gt 47, 3)] (ps := []) (z' := (brc .gt s 6 47 36, [some (aR 0), some (aI p), some (aI s), some (aI x), some (aI y), none, none, none], [], MM N I J)) (by decide +kernel) rfl trivial ?_
        refine V.gt (fun h9 => ?_) (fun h10 => ?_)
        · skip
          try simp only [b2_cast, b2_ncast, Classical.not_not, lcm_lt, lcm_ge, lcm_gt, lcm_le, lcm_eq] at h9
          refine V.blk [(47, .aload 0, 1), (48, .bipush (-8), 2)] (ps := []) (z' := (50, [some (aR 0), some (aI p), some (aI s), some (aI x), some (aI y), none, none, none], [aI (-8), aR 0], MM N I J)) (by decide +kernel) rfl trivial ?_
          refine V.cv (c := 98) (na := 2) (o := 9) (a := 0) [aI (-8)] [] (by decide +kernel) rfl rfl rfl rfl rfl ((c_refuse (by assumption) (by omega)).mono (fun rv M1 q => ?_))
          obtain ⟨rfl, rfl⟩ := q
          show V 66 (53, [some (aR 0), some (aI p), some (aI s), some (aI x), some (aI y), none, none, none], [aI (-8)], MM N ((rfU I (-8))) J) _
          refine V.nI (fun I11 eI11 => ?_)
          refine V.ri (by decide +kernel) ?_
          refine ⟨-8, rfU I (-8), J, _, _, rfl, rfl, ⟨fun w => ⟨by first | rfl | omega, by first | rfl | omega⟩, fun _ w => ⟨by first | rfl | omega, by first | rfl | omega⟩, fun _ w => ?_⟩, ?_, ?_⟩
          · exfalso; omega
          · subst_vars; exact CE.refl _
          · refine svOK_congr hX.2.2.2.2.2.2.2.1 ?_ ?_ ?_ rfl rfl
            all_goals (subst_vars; unfold rfU; exact ma_ne _ _ (by decide))
        · skip
          try simp only [b2_cast, b2_ncast, Classical.not_not, lcm_lt, lcm_ge, lcm_gt, lcm_le, lcm_eq] at h10
          refine V.blk [(36, .iload 1, 1), (37, .iload 2, 1), (38, .iload 3, 1), (39, .iload 4, 2)] (ps := []) (z' := (41, [some (aR 0), some (aI p), some (aI s), some (aI x), some (aI y), none, none, none], [aI y, aI x, aI s, aI p], MM N I J)) (by decide +kernel) rfl trivial ?_
          refine V.cs (c := 105) (na := 4) [aI y, aI x, aI s, aI p] [] (by decide +kernel) rfl rfl (V.pr (c_X9_areLower) ?_)
          show V 66 (44, [some (aR 0), some (aI p), some (aI s), some (aI x), some (aI y), none, none, none], [aI (b2 (decide (lowP p s x y)))], MM N I J) _
          refine V.blk [(44, .ifCond .ne 54, 3)] (ps := []) (z' := (brc .ne (b2 (decide (lowP p s x y))) 0 54 47, [some (aR 0), some (aI p), some (aI s), some (aI x), some (aI y), none, none, none], [], MM N I J)) (by decide +kernel) rfl trivial ?_
          refine V.ne (fun h12 => ?_) (fun h13 => ?_)
          · skip
            try simp only [b2_cast, b2_ncast, Classical.not_not, lcm_lt, lcm_ge, lcm_gt, lcm_le, lcm_eq] at h12
            obtain ⟨q, rfl⟩ : ∃ q : Nat, p = q := ⟨p.toNat, by omega⟩
            refine V.blk [(54, .aload 0, 1), (55, .getfield 9001, 3), (58, .getfield 6000, 3), (61, .iload 1, 1), (62, .iaload, 1), (63, .istore 5, 2), (65, .aload 0, 1), (66, .getfield 9001, 3), (69, .getfield 6001, 3), (72, .iload 1, 1), (73, .iaload, 1), (74, .istore 6, 2), (76, .aload 0, 1), (77, .getfield 9001, 3), (80, .getfield 6002, 3), (83, .iload 1, 1), (84, .iaload, 1), (85, .istore 7, 2), (87, .aload 0, 1), (88, .getfield 9001, 3), (91, .iload 1, 1), (92, .iload 2, 1), (93, .iload 2, 1), (94, .bipush 2, 1), (95, .if_icmp .lt 102, 3)] (ps := [0 ≤ (q : Int) ∧ (q : Int) < 64, 0 ≤ (q : Int) ∧ (q : Int) < 64, 0 ≤ (q : Int) ∧ (q : Int) < 64]) (z' := (brc .lt s 2 102 98, [some (aR 0), some (aI (q : Int)), some (aI s), some (aI x), some (aI y), some (aI (I 4 q)), some (aI (I 5 q)), some (aI (I 6 q))], [aI s, aI (q : Int), aR 3], MM N I J)) (by decide +kernel) rfl (show (0 ≤ (q : Int) ∧ (q : Int) < 64) ∧ (0 ≤ (q : Int) ∧ (q : Int) < 64) ∧ (0 ≤ (q : Int) ∧ (q : Int) < 64) from ⟨(by omega), (by omega), (by omega)⟩) ?_
            refine V.lt (fun h14 => ?_) (fun h15 => ?_)
            · skip
              try simp only [b2_cast, b2_ncast, Classical.not_not, lcm_lt, lcm_ge, lcm_gt, lcm_le, lcm_eq] at h14
              refine V.blk [(102, .bipush (-1), 1), (103, .iload 2, 1), (104, .bipush 3, 1), (105, .if_icmp .lt 113, 3)] (ps := []) (z' := (brc .lt s 3 113 108, [some (aR 0), some (aI (q : Int)), some (aI s), some (aI x), some (aI y), some (aI (I 4 q)), some (aI (I 5 q)), some (aI (I 6 q))], [aI (-1), aI s, aI (q : Int), aR 3], MM N I J)) (by decide +kernel) rfl trivial ?_
              refine V.lt (fun h16 => ?_) (fun h17 => ?_)
              · skip
                try simp only [b2_cast, b2_ncast, Classical.not_not, lcm_lt, lcm_ge, lcm_gt, lcm_le, lcm_eq] at h16
                refine V.blk [(113, .bipush (-1), 1)] (ps := []) (z' := (114, [some (aR 0), some (aI (q : Int)), some (aI s), some (aI x), some (aI y), some (aI (I 4 q)), some (aI (I 5 q)), some (aI (I 6 q))], [aI (-1), aI (-1), aI s, aI (q : Int), aR 3], MM N I J)) (by decide +kernel) rfl trivial ?_
                first
                | (exfalso; omega)
                | exact l_rule (by omega) hX hf (by assumption) (by omega) (by assumption) (by first | rw [if_pos (by omega)] | rw [if_neg (by omega)]) (by first | rw [if_pos (by omega)] | rw [if_neg (by omega)])
              · skip
                try simp only [b2_cast, b2_ncast, Classical.not_not, lcm_lt, lcm_ge, lcm_gt, lcm_le, lcm_eq] at h17
                refine V.blk [(108, .iload 4, 2), (110, .goto 114, 3)] (ps := []) (z' := (114, [some (aR 0), some (aI (q : Int)), some (aI s), some (aI x), some (aI y), some (aI (I 4 q)), some (aI (I 5 q)), some (aI (I 6 q))], [aI y, aI (-1), aI s, aI (q : Int), aR 3], MM N I J)) (by decide +kernel) rfl trivial ?_
                first
                | (exfalso; omega)
                | exact l_rule (by omega) hX hf (by assumption) (by omega) (by assumption) (by first | rw [if_pos (by omega)] | rw [if_neg (by omega)]) (by first | rw [if_pos (by omega)] | rw [if_neg (by omega)])
            · skip
              try simp only [b2_cast, b2_ncast, Classical.not_not, lcm_lt, lcm_ge, lcm_gt, lcm_le, lcm_eq] at h15
              refine V.blk [(98, .iload 3, 1), (99, .goto 103, 3), (103, .iload 2, 1), (104, .bipush 3, 1), (105, .if_icmp .lt 113, 3)] (ps := []) (z' := (brc .lt s 3 113 108, [some (aR 0), some (aI (q : Int)), some (aI s), some (aI x), some (aI y), some (aI (I 4 q)), some (aI (I 5 q)), some (aI (I 6 q))], [aI x, aI s, aI (q : Int), aR 3], MM N I J)) (by decide +kernel) rfl trivial ?_
              refine V.lt (fun h18 => ?_) (fun h19 => ?_)
              · skip
                try simp only [b2_cast, b2_ncast, Classical.not_not, lcm_lt, lcm_ge, lcm_gt, lcm_le, lcm_eq] at h18
                refine V.blk [(113, .bipush (-1), 1)] (ps := []) (z' := (114, [some (aR 0), some (aI (q : Int)), some (aI s), some (aI x), some (aI y), some (aI (I 4 q)), some (aI (I 5 q)), some (aI (I 6 q))], [aI (-1), aI x, aI s, aI (q : Int), aR 3], MM N I J)) (by decide +kernel) rfl trivial ?_
                first
                | (exfalso; omega)
                | exact l_rule (by omega) hX hf (by assumption) (by omega) (by assumption) (by first | rw [if_pos (by omega)] | rw [if_neg (by omega)]) (by first | rw [if_pos (by omega)] | rw [if_neg (by omega)])
              · skip
                try simp only [b2_cast, b2_ncast, Classical.not_not, lcm_lt, lcm_ge, lcm_gt, lcm_le, lcm_eq] at h19
                refine V.blk [(108, .iload 4, 2), (110, .goto 114, 3)] (ps := []) (z' := (114, [some (aR 0), some (aI (q : Int)), some (aI s), some (aI x), some (aI y), some (aI (I 4 q)), some (aI (I 5 q)), some (aI (I 6 q))], [aI y, aI x, aI s, aI (q : Int), aR 3], MM N I J)) (by decide +kernel) rfl trivial ?_
                first
                | (exfalso; omega)
                | exact l_rule (by omega) hX hf (by assumption) (by omega) (by assumption) (by first | rw [if_pos (by omega)] | rw [if_neg (by omega)]) (by first | rw [if_pos (by omega)] | rw [if_neg (by omega)])
          · skip
            try simp only [b2_cast, b2_ncast, Classical.not_not, lcm_lt, lcm_ge, lcm_gt, lcm_le, lcm_eq] at h13
            refine V.blk [(47, .aload 0, 1), (48, .bipush (-8), 2)] (ps := []) (z' := (50, [some (aR 0), some (aI p), some (aI s), some (aI x), some (aI y), none, none, none], [aI (-8), aR 0], MM N I J)) (by decide +kernel) rfl trivial ?_
            refine V.cv (c := 98) (na := 2) (o := 9) (a := 0) [aI (-8)] [] (by decide +kernel) rfl rfl rfl rfl rfl ((c_refuse (by assumption) (by omega)).mono (fun rv M1 q => ?_))
            obtain ⟨rfl, rfl⟩ := q
            show V 66 (53, [some (aR 0), some (aI p), some (aI s), some (aI x), some (aI y), none, none, none], [aI (-8)], MM N ((rfU I (-8))) J) _
            refine V.nI (fun I20 eI20 => ?_)
            refine V.ri (by decide +kernel) ?_
            refine ⟨-8, rfU I (-8), J, _, _, rfl, rfl, ⟨fun w => ⟨by first | rfl | omega, by first | rfl | omega⟩, fun _ w => ⟨by first | rfl | omega, by first | rfl | omega⟩, fun _ w => ?_⟩, ?_, ?_⟩
            · exfalso; omega
            · subst_vars; exact CE.refl _
            · refine svOK_congr hX.2.2.2.2.2.2.2.1 ?_ ?_ ?_ rfl rfl
              all_goals (subst_vars; unfold rfU; exact ma_ne _ _ (by decide))
    · skip
      try simp only [b2_cast, b2_ncast, Classical.not_not, lcm_lt, lcm_ge, lcm_gt, lcm_le, lcm_eq] at h5
      refine V.blk [(19, .aload 0, 1), (20, .bipush (-3), 2)] (ps := []) (z' := (22, [some (aR 0), some (aI p), some (aI s), some (aI x), some (aI y), none, none, none], [aI (-3), aR 0], MM N I J)) (by decide +kernel) rfl trivial ?_
      refine V.cv (c := 98) (na := 2) (o := 9) (a := 0) [aI (-3)] [] (by decide +kernel) rfl rfl rfl rfl rfl ((c_refuse (by assumption) (by omega)).mono (fun rv M1 q => ?_))
      obtain ⟨rfl, rfl⟩ := q
      show V 66 (25, [some (aR 0), some (aI p), some (aI s), some (aI x), some (aI y), none, none, none], [aI (-3)], MM N ((rfU I (-3))) J) _
      refine V.nI (fun I21 eI21 => ?_)
      refine V.ri (by decide +kernel) ?_
      refine ⟨-3, rfU I (-3), J, _, _, rfl, rfl, ⟨fun w => ⟨by first | rfl | omega, by first | rfl | omega⟩, fun _ w => ⟨by first | rfl | omega, by first | rfl | omega⟩, fun _ w => ?_⟩, ?_, ?_⟩
      · exfalso; omega
      · subst_vars; exact CE.refl _
      · refine svOK_congr hX.2.2.2.2.2.2.2.1 ?_ ?_ ?_ rfl rfl
        all_goals (subst_vars; unfold rfU; exact ma_ne _ _ (by decide))
theorem hld_rt2 {I : MI} {q : Nat} {s x y : Int} (hq : q < 64) (hw : WRu I) (hs : s = 7 ∨ s = -1) : WRu (hldU I q s x y) := by
  unfold hldU WRu
  refine ⟨fun p hp => ?_, ?_⟩
  · have h := hw.1 p hp
    simp only [ma_self, ma_ne _ _ (show (4 : Nat) ≠ 5 by decide), ma_ne _ _ (show (4 : Nat) ≠ 6 by decide), ma_ne _ _ (show (5 : Nat) ≠ 6 by decide), ma_ne _ _ (show (5 : Nat) ≠ 4 by decide), ma_ne _ _ (show (6 : Nat) ≠ 5 by decide), ma_ne _ _ (show (6 : Nat) ≠ 4 by decide)]
    by_cases e : p = q
    · subst e
      simp only [ma_self]
      omega
    · simp only [ma_ne _ _ e]
      exact h
  · simp only [ma_ne _ _ (show (7 : Nat) ≠ 5 by decide), ma_ne _ _ (show (7 : Nat) ≠ 6 by decide), ma_ne _ _ (show (7 : Nat) ≠ 4 by decide)]
    exact hw.2
def nameA (I : MI) (p v : Int) : Int := if 0 ≤ p ∧ p < 64 then 1 else -3
def nameU (I : MI) (p v : Int) : MI := if 0 ≤ p ∧ p < 64 then hldU I p.toNat 7 v (-1) else rfU I (-3)
def emptyA (I : MI) (p : Int) : Int := if 0 ≤ p ∧ p < 64 then (if I 4 p.toNat = -1 then 0 else 1) else -3
def emptyU (I : MI) (p : Int) : MI := if 0 ≤ p ∧ p < 64 then hldU I p.toNat (-1) (-1) (-1) else rfU I (-3)
abbrev QC (N : Nat) (v : Int) (U : MI) : Option AV → M5 → Prop := fun r M' => ∃ I' J', r = some (aI v) ∧ M' = MM N I' J' ∧ CE U I' ∧ svOK I' J'
theorem sv_rf {I : MI} {J : MJ} {z : Int} (h : svOK I J) : svOK (rfU I z) J := by
  refine svOK_congr h ?_ ?_ ?_ rfl rfl
  all_goals (unfold rfU; exact ma_ne _ _ (by decide))
theorem c_X9_name {N : Nat} {I : MI} {J : MJ} {p v : Int} (hX : WX I J) (hf : Rf I) : CT 67 [aR 0, aI p, aI v] (MM N I J) (QC N (nameA I p v) (nameU I p v)) := by
  refine CT.ofV (n := 3) (ls := [some (aR 0), some (aI p), some (aI v)]) rfl rfl rfl ?_
  refine V.blk [(0, .iload 1, 1), (1, .bipush 64, 2)] (ps := []) (z' := (3, [some (aR 0), some (aI p), some (aI v)], [aI 64, aI p], MM N I J)) (by decide +kernel) rfl trivial ?_
  refine V.cs (c := 103) (na := 2) [aI 64, aI p] [] (by decide +kernel) rfl rfl (V.pr (c_X9_within) ?_)
  show V 67 (6, [some (aR 0), some (aI p), some (aI v)], [aI (b2 (decide (0 ≤ p ∧ p < 64)))], MM N I J) _
  refine V.blk [(6, .ifCond .ne 16, 3)] (ps := []) (z' := (brc .ne (b2 (decide (0 ≤ p ∧ p < 64))) 0 16 9, [some (aR 0), some (aI p), some (aI v)], [], MM N I J)) (by decide +kernel) rfl trivial ?_
  refine V.ne (fun h1 => ?_) (fun h2 => ?_)
  · skip
    try simp only [b2_cast, b2_ncast, Classical.not_not, lcm_lt, lcm_ge, lcm_gt, lcm_le, lcm_eq] at h1
    obtain ⟨q, rfl⟩ : ∃ q : Nat, p = q := ⟨p.toNat, by omega⟩
    refine V.blk [(16, .aload 0, 1), (17, .getfield 9001, 3), (20, .iload 1, 1), (21, .bipush 7, 2), (23, .iload 2, 1), (24, .bipush (-1), 1)] (ps := []) (z' := (25, [some (aR 0), some (aI (q : Int)), some (aI v)], [aI (-1), aI v, aI 7, aI (q : Int), aR 3], MM N I J)) (by decide +kernel) rfl trivial ?_
    refine V.cv (c := 45) (na := 5) (o := 6) (a := 3) [aI (-1), aI v, aI 7, aI (q : Int)] [] (by decide +kernel) rfl rfl rfl rfl rfl ((c_hold (by omega) (hld_rt2 (by omega) hX.2.1 (by decide)).rt.2.1).mono (fun rv M1 q => ?_))
    obtain ⟨rfl, L, rfl, hLs, hLo⟩ := q
    show V 67 (28, [some (aR 0), some (aI (q : Int)), some (aI v)], [], MM N ((hldU I q (7) (v) (-1))) L) _
    refine V.blk [(28, .bipush 1, 1)] (ps := []) (z' := (29, [some (aR 0), some (aI (q : Int)), some (aI v)], [aI 1], MM N ((hldU I q (7) (v) (-1))) L)) (by decide +kernel) rfl trivial ?_
    refine V.nI (fun I3 eI3 => ?_)
    refine V.ri (by decide +kernel) ?_
    refine ⟨_, _, congrArg (fun w => some (aI w)) ?_, rfl, ?_, ?_⟩
    · unfold nameA
      first
        | rw [if_pos (by omega), Int.toNat_natCast, if_pos (by assumption)]
        | rw [if_pos (by omega), Int.toNat_natCast, if_neg (by assumption)]
        | rw [if_pos (by omega)]
        | rw [if_neg (by omega)]
    · unfold nameU
      subst_vars
      first
        | (rw [if_pos (by omega)]; exact CE.refl _)
        | (rw [if_neg (by omega)]; exact CE.refl _)
    · subst_vars
      first
        | exact hLs
        | exact sv_rf hX.2.2.2.2.2.2.2.1
  · skip
    try simp only [b2_cast, b2_ncast, Classical.not_not, lcm_lt, lcm_ge, lcm_gt, lcm_le, lcm_eq] at h2
    refine V.blk [(9, .aload 0, 1), (10, .bipush (-3), 2)] (ps := []) (z' := (12, [some (aR 0), some (aI p), some (aI v)], [aI (-3), aR 0], MM N I J)) (by decide +kernel) rfl trivial ?_
    refine V.cv (c := 98) (na := 2) (o := 9) (a := 0) [aI (-3)] [] (by decide +kernel) rfl rfl rfl rfl rfl ((c_refuse (by assumption) (by omega)).mono (fun rv M1 q => ?_))
    obtain ⟨rfl, rfl⟩ := q
    show V 67 (15, [some (aR 0), some (aI p), some (aI v)], [aI (-3)], MM N ((rfU I (-3))) J) _
    refine V.nI (fun I4 eI4 => ?_)
    refine V.ri (by decide +kernel) ?_
    refine ⟨_, _, congrArg (fun w => some (aI w)) ?_, rfl, ?_, ?_⟩
    · unfold nameA
      first
        | rw [if_pos (by omega), Int.toNat_natCast, if_pos (by assumption)]
        | rw [if_pos (by omega), Int.toNat_natCast, if_neg (by assumption)]
        | rw [if_pos (by omega)]
        | rw [if_neg (by omega)]
    · unfold nameU
      subst_vars
      first
        | (rw [if_pos (by omega)]; exact CE.refl _)
        | (rw [if_neg (by omega)]; exact CE.refl _)
    · subst_vars
      first
        | exact hLs
        | exact sv_rf hX.2.2.2.2.2.2.2.1
theorem c_X9_empty {N : Nat} {I : MI} {J : MJ} {p : Int} (hX : WX I J) (hf : Rf I) : CT 68 [aR 0, aI p] (MM N I J) (QC N (emptyA I p) (emptyU I p)) := by
  refine CT.ofV (n := 3) (ls := [some (aR 0), some (aI p), none]) rfl rfl rfl ?_
  refine V.blk [(0, .iload 1, 1), (1, .bipush 64, 2)] (ps := []) (z' := (3, [some (aR 0), some (aI p), none], [aI 64, aI p], MM N I J)) (by decide +kernel) rfl trivial ?_
  refine V.cs (c := 103) (na := 2) [aI 64, aI p] [] (by decide +kernel) rfl rfl (V.pr (c_X9_within) ?_)
  show V 68 (6, [some (aR 0), some (aI p), none], [aI (b2 (decide (0 ≤ p ∧ p < 64)))], MM N I J) _
  refine V.blk [(6, .ifCond .ne 16, 3)] (ps := []) (z' := (brc .ne (b2 (decide (0 ≤ p ∧ p < 64))) 0 16 9, [some (aR 0), some (aI p), none], [], MM N I J)) (by decide +kernel) rfl trivial ?_
  refine V.ne (fun h1 => ?_) (fun h2 => ?_)
  · skip
    try simp only [b2_cast, b2_ncast, Classical.not_not, lcm_lt, lcm_ge, lcm_gt, lcm_le, lcm_eq] at h1
    obtain ⟨q, rfl⟩ : ∃ q : Nat, p = q := ⟨p.toNat, by omega⟩
    refine V.blk [(16, .aload 0, 1), (17, .getfield 9001, 3), (20, .getfield 6000, 3), (23, .iload 1, 1), (24, .iaload, 1), (25, .bipush (-1), 1), (26, .if_icmp .ne 33, 3)] (ps := [0 ≤ (q : Int) ∧ (q : Int) < 64]) (z' := (brc .ne (I 4 q) (-1) 33 29, [some (aR 0), some (aI (q : Int)), none], [], MM N I J)) (by decide +kernel) rfl (show (0 ≤ (q : Int) ∧ (q : Int) < 64) from (by omega)) ?_
    refine V.ne (fun h3 => ?_) (fun h4 => ?_)
    · skip
      try simp only [b2_cast, b2_ncast, Classical.not_not, lcm_lt, lcm_ge, lcm_gt, lcm_le, lcm_eq] at h3
      refine V.blk [(33, .bipush 1, 1), (34, .istore 2, 1), (35, .aload 0, 1), (36, .getfield 9001, 3), (39, .iload 1, 1), (40, .bipush (-1), 1), (41, .bipush (-1), 1), (42, .bipush (-1), 1)] (ps := []) (z' := (43, [some (aR 0), some (aI (q : Int)), some (aI 1)], [aI (-1), aI (-1), aI (-1), aI (q : Int), aR 3], MM N I J)) (by decide +kernel) rfl trivial ?_
      refine V.cv (c := 45) (na := 5) (o := 6) (a := 3) [aI (-1), aI (-1), aI (-1), aI (q : Int)] [] (by decide +kernel) rfl rfl rfl rfl rfl ((c_hold (by omega) (hld_rt2 (by omega) hX.2.1 (by decide)).rt.2.1).mono (fun rv M1 q => ?_))
      obtain ⟨rfl, L, rfl, hLs, hLo⟩ := q
      show V 68 (46, [some (aR 0), some (aI (q : Int)), some (aI 1)], [], MM N ((hldU I q (-1) (-1) (-1))) L) _
      refine V.blk [(46, .iload 2, 1)] (ps := []) (z' := (47, [some (aR 0), some (aI (q : Int)), some (aI 1)], [aI 1], MM N ((hldU I q (-1) (-1) (-1))) L)) (by decide +kernel) rfl trivial ?_
      refine V.nI (fun I5 eI5 => ?_)
      refine V.ri (by decide +kernel) ?_
      refine ⟨_, _, congrArg (fun w => some (aI w)) ?_, rfl, ?_, ?_⟩
      · unfold emptyA
        first
          | rw [if_pos (by omega), Int.toNat_natCast, if_pos (by assumption)]
          | rw [if_pos (by omega), Int.toNat_natCast, if_neg (by assumption)]
          | rw [if_pos (by omega)]
          | rw [if_neg (by omega)]
      · unfold emptyU
        subst_vars
        first
          | (rw [if_pos (by omega)]; exact CE.refl _)
          | (rw [if_neg (by omega)]; exact CE.refl _)
      · subst_vars
        first
          | exact hLs
          | exact sv_rf hX.2.2.2.2.2.2.2.1
    · skip
      try simp only [b2_cast, b2_ncast, Classical.not_not, lcm_lt, lcm_ge, lcm_gt, lcm_le, lcm_eq] at h4
      refine V.blk [(29, .bipush 0, 1), (30, .goto 34, 3), (34, .istore 2, 1), (35, .aload 0, 1), (36, .getfield 9001, 3), (39, .iload 1, 1), (40, .bipush (-1), 1), (41, .bipush (-1), 1), (42, .bipush (-1), 1)] (ps := []) (z' := (43, [some (aR 0), some (aI (q : Int)), some (aI 0)], [aI (-1), aI (-1), aI (-1), aI (q : Int), aR 3], MM N I J)) (by decide +kernel) rfl trivial ?_
      refine V.cv (c := 45) (na := 5) (o := 6) (a := 3) [aI (-1), aI (-1), aI (-1), aI (q : Int)] [] (by decide +kernel) rfl rfl rfl rfl rfl ((c_hold (by omega) (hld_rt2 (by omega) hX.2.1 (by decide)).rt.2.1).mono (fun rv M1 q => ?_))
      obtain ⟨rfl, L, rfl, hLs, hLo⟩ := q
      show V 68 (46, [some (aR 0), some (aI (q : Int)), some (aI 0)], [], MM N ((hldU I q (-1) (-1) (-1))) L) _
      refine V.blk [(46, .iload 2, 1)] (ps := []) (z' := (47, [some (aR 0), some (aI (q : Int)), some (aI 0)], [aI 0], MM N ((hldU I q (-1) (-1) (-1))) L)) (by decide +kernel) rfl trivial ?_
      refine V.nI (fun I6 eI6 => ?_)
      refine V.ri (by decide +kernel) ?_
      refine ⟨_, _, congrArg (fun w => some (aI w)) ?_, rfl, ?_, ?_⟩
      · unfold emptyA
        first
          | rw [if_pos (by omega), Int.toNat_natCast, if_pos (by assumption)]
          | rw [if_pos (by omega), Int.toNat_natCast, if_neg (by assumption)]
          | rw [if_pos (by omega)]
          | rw [if_neg (by omega)]
      · unfold emptyU
        subst_vars
        first
          | (rw [if_pos (by omega)]; exact CE.refl _)
          | (rw [if_neg (by omega)]; exact CE.refl _)
      · subst_vars
        first
          | exact hLs
          | exact sv_rf hX.2.2.2.2.2.2.2.1
  · skip
    try simp only [b2_cast, b2_ncast, Classical.not_not, lcm_lt, lcm_ge, lcm_gt, lcm_le, lcm_eq] at h2
    refine V.blk [(9, .aload 0, 1), (10, .bipush (-3), 2)] (ps := []) (z' := (12, [some (aR 0), some (aI p), none], [aI (-3), aR 0], MM N I J)) (by decide +kernel) rfl trivial ?_
    refine V.cv (c := 98) (na := 2) (o := 9) (a := 0) [aI (-3)] [] (by decide +kernel) rfl rfl rfl rfl rfl ((c_refuse (by assumption) (by omega)).mono (fun rv M1 q => ?_))
    obtain ⟨rfl, rfl⟩ := q
    show V 68 (15, [some (aR 0), some (aI p), none], [aI (-3)], MM N ((rfU I (-3))) J) _
    refine V.nI (fun I7 eI7 => ?_)
    refine V.ri (by decide +kernel) ?_
    refine ⟨_, _, congrArg (fun w => some (aI w)) ?_, rfl, ?_, ?_⟩
    · unfold emptyA
      first
        | rw [if_pos (by omega), Int.toNat_natCast, if_pos (by assumption)]
        | rw [if_pos (by omega), Int.toNat_natCast, if_neg (by assumption)]
        | rw [if_pos (by omega)]
        | rw [if_neg (by omega)]
    · unfold emptyU
      subst_vars
      first
        | (rw [if_pos (by omega)]; exact CE.refl _)
        | (rw [if_neg (by omega)]; exact CE.refl _)
    · subst_vars
      first
        | exact hLs
        | exact sv_rf hX.2.2.2.2.2.2.2.1
def relU (I : MI) (k r p : Int) : MI := ma I 7 (ma (I 7) (k * 8 + r).toNat p)
theorem rel_back (I : MI) (n : Nat) (p : Int) : ma (ma I 7 (ma (I 7) n p)) 7 (ma (ma I 7 (ma (I 7) n p) 7) n (I 7 n)) = I := by
  rw [ma_ma, ma_self, ma_ma, ma_id, ma_id]
theorem rel_rt {I : MI} {n : Nat} {p : Int} (hw : WRu I) (hp : -1 ≤ p ∧ p < 64) : WRu (ma I 7 (ma (I 7) n p)) := by
  refine ⟨fun q hq => ?_, fun k hk => ?_⟩
  · rw [ma_ne _ _ (show (4 : Nat) ≠ 7 by decide), ma_ne _ _ (show (5 : Nat) ≠ 7 by decide), ma_ne _ _ (show (6 : Nat) ≠ 7 by decide)]
    exact hw.1 q hq
  · rw [ma_self]
    unfold ma
    split
    · exact hp
    · exact hw.2 k hk
def RelR (I : MI) (k r p : Int) (L : MJ) (v : Int) (U : MI) : Prop :=
  (¬ (((0 ≤ k ∧ k < 6) ∧ (0 ≤ r ∧ r < 8)) ∧ (-1 ≤ p ∧ p < 64)) → v = -3 ∧ U = rfU I (-3)) ∧
  (((0 ≤ k ∧ k < 6) ∧ (0 ≤ r ∧ r < 8)) ∧ (-1 ≤ p ∧ p < 64) → (ringF (relU I k r p) L → v = -7 ∧ U = rfU I (-7)) ∧ (¬ ringF (relU I k r p) L → v = 1 ∧ U = relU I k r p))
theorem c_X9_relate {N : Nat} {I : MI} {J : MJ} {k rl p : Int} (hX : WX I J) (hf : Rf I) : CT 72 [aR 0, aI k, aI rl, aI p] (MM N I J) (fun r M' => ∃ v U I' J', r = some (aI v) ∧ M' = MM N I' J' ∧ RelR I k rl p J v U ∧ CE U I' ∧ svOK I' J') := by
  refine CT.ofV (n := 6) (ls := [some (aR 0), some (aI k), some (aI rl), some (aI p), none, none]) rfl rfl rfl ?_
  refine V.blk [(0, .iload 1, 1), (1, .bipush 6, 2)] (ps := []) (z' := (3, [some (aR 0), some (aI k), some (aI rl), some (aI p), none, none], [aI 6, aI k], MM N I J)) (by decide +kernel) rfl trivial ?_
  refine V.cs (c := 103) (na := 2) [aI 6, aI k] [] (by decide +kernel) rfl rfl (V.pr (c_X9_within) ?_)
  show V 72 (6, [some (aR 0), some (aI k), some (aI rl), some (aI p), none, none], [aI (b2 (decide (0 ≤ k ∧ k < 6)))], MM N I J) _
  refine V.blk [(6, .ifCond .eq 18, 3)] (ps := []) (z' := (brc .eq (b2 (decide (0 ≤ k ∧ k < 6))) 0 18 9, [some (aR 0), some (aI k), some (aI rl), some (aI p), none, none], [], MM N I J)) (by decide +kernel) rfl trivial ?_
  refine V.eq (fun h1 => ?_) (fun h2 => ?_)
  · skip
    try simp only [b2_cast, b2_ncast, Classical.not_not, lcm_lt, lcm_ge, lcm_gt, lcm_le, lcm_eq, b2_0, b2_n0, Bool.not_eq_false, decide_eq_false_iff_not, decide_eq_true_eq] at h1
    refine V.blk [(18, .aload 0, 1), (19, .bipush (-3), 2)] (ps := []) (z' := (21, [some (aR 0), some (aI k), some (aI rl), some (aI p), none, none], [aI (-3), aR 0], MM N I J)) (by decide +kernel) rfl trivial ?_
    refine V.cv (c := 98) (na := 2) (o := 9) (a := 0) [aI (-3)] [] (by decide +kernel) rfl rfl rfl rfl rfl ((c_refuse (by assumption) (by omega)).mono (fun rv M1 q => ?_))
    obtain ⟨rfl, rfl⟩ := q
    show V 72 (24, [some (aR 0), some (aI k), some (aI rl), some (aI p), none, none], [aI (-3)], MM N ((rfU I (-3))) J) _
    refine V.nI (fun I3 eI3 => ?_)
    refine V.ri (by decide +kernel) ?_
    refine ⟨-3, rfU I (-3), _, _, rfl, rfl, ⟨fun _ => ⟨rfl, rfl⟩, fun w => by omega⟩, ?_, ?_⟩
    · subst_vars; exact CE.refl _
    · subst_vars; exact sv_rf hX.2.2.2.2.2.2.2.1
  · skip
    try simp only [b2_cast, b2_ncast, Classical.not_not, lcm_lt, lcm_ge, lcm_gt, lcm_le, lcm_eq, b2_0, b2_n0, Bool.not_eq_false, decide_eq_false_iff_not, decide_eq_true_eq] at h2
    refine V.blk [(9, .iload 2, 1), (10, .bipush 8, 2)] (ps := []) (z' := (12, [some (aR 0), some (aI k), some (aI rl), some (aI p), none, none], [aI 8, aI rl], MM N I J)) (by decide +kernel) rfl trivial ?_
    refine V.cs (c := 103) (na := 2) [aI 8, aI rl] [] (by decide +kernel) rfl rfl (V.pr (c_X9_within) ?_)
    show V 72 (15, [some (aR 0), some (aI k), some (aI rl), some (aI p), none, none], [aI (b2 (decide (0 ≤ rl ∧ rl < 8)))], MM N I J) _
    refine V.blk [(15, .ifCond .ne 25, 3)] (ps := []) (z' := (brc .ne (b2 (decide (0 ≤ rl ∧ rl < 8))) 0 25 18, [some (aR 0), some (aI k), some (aI rl), some (aI p), none, none], [], MM N I J)) (by decide +kernel) rfl trivial ?_
    refine V.ne (fun h4 => ?_) (fun h5 => ?_)
    · skip
      try simp only [b2_cast, b2_ncast, Classical.not_not, lcm_lt, lcm_ge, lcm_gt, lcm_le, lcm_eq, b2_0, b2_n0, Bool.not_eq_false, decide_eq_false_iff_not, decide_eq_true_eq] at h4
      refine V.blk [(25, .iload 3, 1), (26, .bipush (-1), 1), (27, .if_icmp .eq 46, 3)] (ps := []) (z' := (brc .eq p (-1) 46 30, [some (aR 0), some (aI k), some (aI rl), some (aI p), none, none], [], MM N I J)) (by decide +kernel) rfl trivial ?_
      refine V.eq (fun h6 => ?_) (fun h7 => ?_)
      · skip
        try simp only [b2_cast, b2_ncast, Classical.not_not, lcm_lt, lcm_ge, lcm_gt, lcm_le, lcm_eq, b2_0, b2_n0, Bool.not_eq_false, decide_eq_false_iff_not, decide_eq_true_eq] at h6
        refine V.blk [(46, .iload 1, 1), (47, .iload 2, 1)] (ps := []) (z' := (48, [some (aR 0), some (aI k), some (aI rl), some (aI p), none, none], [aI rl, aI k], MM N I J)) (by decide +kernel) rfl trivial ?_
        refine V.cs (c := 109) (na := 2) [aI rl, aI k] [] (by decide +kernel) rfl rfl (V.pr (c_X9_knotOf (by omega)) ?_)
        show V 72 (51, [some (aR 0), some (aI k), some (aI rl), some (aI p), none, none], [aI (k * 8 + rl)], MM N I J) _
        refine V.blk [(51, .istore 4, 2), (53, .aload 0, 1), (54, .getfield 9001, 3), (57, .getfield 6003, 3), (60, .iload 4, 2), (62, .iaload, 1), (63, .istore 5, 2), (65, .aload 0, 1), (66, .getfield 9001, 3), (69, .getfield 6003, 3), (72, .iload 4, 2), (74, .iload 3, 1), (75, .iastore, 1)] (ps := [0 ≤ (k * 8 + rl) ∧ (k * 8 + rl) < 48, 0 ≤ (k * 8 + rl) ∧ (k * 8 + rl) < 48]) (z' := (76, [some (aR 0), some (aI k), some (aI rl), some (aI p), some (aI (k * 8 + rl)), some (aI (I 7 ((k * 8 + rl).toNat)))], [], MM N (ma I 7 (ma (I 7) ((k * 8 + rl).toNat) p)) J)) (by decide +kernel) rfl (show (0 ≤ (k * 8 + rl) ∧ (k * 8 + rl) < 48) ∧ (0 ≤ (k * 8 + rl) ∧ (k * 8 + rl) < 48) from ⟨(by omega), (by omega)⟩) ?_
        refine V.nI (fun I8 eI8 => ?_)
        have eU : I8 = relU I k rl p := eI8
        have hS : SetP I8 := by
          rw [eI8]
          exact setP_of hX.setP (rel_rt hX.2.1 (by omega)) (ma_ne _ _ (by decide)) (ma_ne _ _ (by decide)) (ma_ne _ _ (by decide)) (ma_ne _ _ (by decide))
        refine V.blk [(76, .aload 0, 1), (77, .getfield 9004, 3)] (ps := []) (z' := (80, [some (aR 0), some (aI k), some (aI rl), some (aI p), some (aI (k * 8 + rl)), some (aI (I 7 ((k * 8 + rl).toNat)))], [aR 31], MM N I8 J)) (by decide +kernel) rfl trivial ?_
        refine V.cv (c := 17) (na := 1) (o := 2) (a := 31) [] [] (by decide +kernel) rfl rfl rfl rfl rfl ((c_settleP hS).mono (fun rv M1 q => ?_))
        obtain ⟨ok, IS, JS, rfl, rfl, hR⟩ := q
        show V 72 (83, [some (aR 0), some (aI k), some (aI rl), some (aI p), some (aI (k * 8 + rl)), some (aI (I 7 ((k * 8 + rl).toNat)))], [aI (b2 ok)], MM N IS JS) _
        refine V.blk [(83, .ifCond .ne 105, 3)] (ps := []) (z' := (brc .ne (b2 ok) 0 105 86, [some (aR 0), some (aI k), some (aI rl), some (aI p), some (aI (k * 8 + rl)), some (aI (I 7 ((k * 8 + rl).toNat)))], [], MM N IS JS)) (by decide +kernel) rfl trivial ?_
        refine V.ne (fun h9 => ?_) (fun h10 => ?_)
        · skip
          try simp only [b2_cast, b2_ncast, Classical.not_not, lcm_lt, lcm_ge, lcm_gt, lcm_le, lcm_eq, b2_0, b2_n0, Bool.not_eq_false, decide_eq_false_iff_not, decide_eq_true_eq] at h9
          refine V.blk [(105, .bipush 1, 1)] (ps := []) (z' := (106, [some (aR 0), some (aI k), some (aI rl), some (aI p), some (aI (k * 8 + rl)), some (aI (I 7 ((k * 8 + rl).toNat)))], [aI 1], MM N IS JS)) (by decide +kernel) rfl trivial ?_
          refine V.ri (by decide +kernel) ?_
          refine ⟨1, relU I k rl p, _, _, rfl, rfl, ⟨fun w => by omega, fun _ => ⟨fun w => ?_, fun _ => ⟨rfl, rfl⟩⟩⟩, ?_, ?_⟩
          · exfalso
            have e0 : ok = true := by assumption
            apply w
            rw [← eU]
            exact hR.1.mp e0
          · rw [← eU]
            exact hR.ce
          · have hs0 : svOK I8 J := by
              rw [eU]
              refine svOK_congr hX.2.2.2.2.2.2.2.1 ?_ ?_ ?_ rfl rfl
              all_goals (unfold relU; exact ma_ne _ _ (by decide))
            exact svOK_ce hs0 hR.ce (hR.2.2.2.2 8 (by decide) (by decide) (by decide)) (hR.2.2.2.2 9 (by decide) (by decide) (by decide))
        · skip
          try simp only [b2_cast, b2_ncast, Classical.not_not, lcm_lt, lcm_ge, lcm_gt, lcm_le, lcm_eq, b2_0, b2_n0, Bool.not_eq_false, decide_eq_false_iff_not, decide_eq_true_eq] at h10
          refine V.blk [(86, .aload 0, 1), (87, .getfield 9001, 3), (90, .getfield 6003, 3), (93, .iload 4, 2), (95, .iload 5, 2), (97, .iastore, 1)] (ps := [0 ≤ (k * 8 + rl) ∧ (k * 8 + rl) < 48]) (z' := (98, [some (aR 0), some (aI k), some (aI rl), some (aI p), some (aI (k * 8 + rl)), some (aI (I 7 ((k * 8 + rl).toNat)))], [], MM N (ma IS 7 (ma (IS 7) ((k * 8 + rl).toNat) (I 7 ((k * 8 + rl).toNat)))) JS)) (by decide +kernel) rfl (show (0 ≤ (k * 8 + rl) ∧ (k * 8 + rl) < 48) from (by omega)) ?_
          refine V.nI (fun I11 eI11 => ?_)
          have hC : CE I I11 := by
            have := hR.ce.ma (i := 7) (k := (k * 8 + rl).toNat) (v := I 7 (k * 8 + rl).toNat) rfl
            rw [eU] at this
            unfold relU at this
            rw [rel_back] at this
            rw [eI11]
            exact this
          have hf4 := Rf_ce hf hC
          refine V.blk [(98, .aload 0, 1), (99, .bipush (-7), 2)] (ps := []) (z' := (101, [some (aR 0), some (aI k), some (aI rl), some (aI p), some (aI (k * 8 + rl)), some (aI (I 7 ((k * 8 + rl).toNat)))], [aI (-7), aR 0], MM N I11 JS)) (by decide +kernel) rfl trivial ?_
          refine V.cv (c := 98) (na := 2) (o := 9) (a := 0) [aI (-7)] [] (by decide +kernel) rfl rfl rfl rfl rfl ((c_refuse (by assumption) (by omega)).mono (fun rv M1 q => ?_))
          obtain ⟨rfl, rfl⟩ := q
          show V 72 (104, [some (aR 0), some (aI k), some (aI rl), some (aI p), some (aI (k * 8 + rl)), some (aI (I 7 ((k * 8 + rl).toNat)))], [aI (-7)], MM N ((rfU I11 (-7))) JS) _
          refine V.nI (fun I12 eI12 => ?_)
          refine V.ri (by decide +kernel) ?_
          refine ⟨-7, rfU I (-7), _, _, rfl, rfl, ⟨fun w => by omega, fun _ => ⟨fun _ => ⟨rfl, rfl⟩, fun w => ?_⟩⟩, ?_, ?_⟩
          · exfalso
            have e0 : ok = false := by assumption
            apply w
            unfold ringF
            rw [← eU]
            intro g
            have := hR.1.mpr g
            rw [e0] at this
            cases this
          · subst_vars
            exact CE.rf hC _
          · subst_vars
            exact sv_rf (svOK_ce hX.2.2.2.2.2.2.2.1 hC (hR.2.2.2.2 8 (by decide) (by decide) (by decide)) (hR.2.2.2.2 9 (by decide) (by decide) (by decide)))
      · skip
        try simp only [b2_cast, b2_ncast, Classical.not_not, lcm_lt, lcm_ge, lcm_gt, lcm_le, lcm_eq, b2_0, b2_n0, Bool.not_eq_false, decide_eq_false_iff_not, decide_eq_true_eq] at h7
        refine V.blk [(30, .iload 3, 1), (31, .bipush 64, 2)] (ps := []) (z' := (33, [some (aR 0), some (aI k), some (aI rl), some (aI p), none, none], [aI 64, aI p], MM N I J)) (by decide +kernel) rfl trivial ?_
        refine V.cs (c := 103) (na := 2) [aI 64, aI p] [] (by decide +kernel) rfl rfl (V.pr (c_X9_within) ?_)
        show V 72 (36, [some (aR 0), some (aI k), some (aI rl), some (aI p), none, none], [aI (b2 (decide (0 ≤ p ∧ p < 64)))], MM N I J) _
        refine V.blk [(36, .ifCond .ne 46, 3)] (ps := []) (z' := (brc .ne (b2 (decide (0 ≤ p ∧ p < 64))) 0 46 39, [some (aR 0), some (aI k), some (aI rl), some (aI p), none, none], [], MM N I J)) (by decide +kernel) rfl trivial ?_
        refine V.ne (fun h13 => ?_) (fun h14 => ?_)
        · skip
          try simp only [b2_cast, b2_ncast, Classical.not_not, lcm_lt, lcm_ge, lcm_gt, lcm_le, lcm_eq, b2_0, b2_n0, Bool.not_eq_false, decide_eq_false_iff_not, decide_eq_true_eq] at h13
          refine V.blk [(46, .iload 1, 1), (47, .iload 2, 1)] (ps := []) (z' := (48, [some (aR 0), some (aI k), some (aI rl), some (aI p), none, none], [aI rl, aI k], MM N I J)) (by decide +kernel) rfl trivial ?_
          refine V.cs (c := 109) (na := 2) [aI rl, aI k] [] (by decide +kernel) rfl rfl (V.pr (c_X9_knotOf (by omega)) ?_)
          show V 72 (51, [some (aR 0), some (aI k), some (aI rl), some (aI p), none, none], [aI (k * 8 + rl)], MM N I J) _
          refine V.blk [(51, .istore 4, 2), (53, .aload 0, 1), (54, .getfield 9001, 3), (57, .getfield 6003, 3), (60, .iload 4, 2), (62, .iaload, 1), (63, .istore 5, 2), (65, .aload 0, 1), (66, .getfield 9001, 3), (69, .getfield 6003, 3), (72, .iload 4, 2), (74, .iload 3, 1), (75, .iastore, 1)] (ps := [0 ≤ (k * 8 + rl) ∧ (k * 8 + rl) < 48, 0 ≤ (k * 8 + rl) ∧ (k * 8 + rl) < 48]) (z' := (76, [some (aR 0), some (aI k), some (aI rl), some (aI p), some (aI (k * 8 + rl)), some (aI (I 7 ((k * 8 + rl).toNat)))], [], MM N (ma I 7 (ma (I 7) ((k * 8 + rl).toNat) p)) J)) (by decide +kernel) rfl (show (0 ≤ (k * 8 + rl) ∧ (k * 8 + rl) < 48) ∧ (0 ≤ (k * 8 + rl) ∧ (k * 8 + rl) < 48) from ⟨(by omega), (by omega)⟩) ?_
          refine V.nI (fun I15 eI15 => ?_)
          have eU : I15 = relU I k rl p := eI15
          have hS : SetP I15 := by
            rw [eI15]
            exact setP_of hX.setP (rel_rt hX.2.1 (by omega)) (ma_ne _ _ (by decide)) (ma_ne _ _ (by decide)) (ma_ne _ _ (by decide)) (ma_ne _ _ (by decide))
          refine V.blk [(76, .aload 0, 1), (77, .getfield 9004, 3)] (ps := []) (z' := (80, [some (aR 0), some (aI k), some (aI rl), some (aI p), some (aI (k * 8 + rl)), some (aI (I 7 ((k * 8 + rl).toNat)))], [aR 31], MM N I15 J)) (by decide +kernel) rfl trivial ?_
          refine V.cv (c := 17) (na := 1) (o := 2) (a := 31) [] [] (by decide +kernel) rfl rfl rfl rfl rfl ((c_settleP hS).mono (fun rv M1 q => ?_))
          obtain ⟨ok, IS, JS, rfl, rfl, hR⟩ := q
          show V 72 (83, [some (aR 0), some (aI k), some (aI rl), some (aI p), some (aI (k * 8 + rl)), some (aI (I 7 ((k * 8 + rl).toNat)))], [aI (b2 ok)], MM N IS JS) _
          refine V.blk [(83, .ifCond .ne 105, 3)] (ps := []) (z' := (brc .ne (b2 ok) 0 105 86, [some (aR 0), some (aI k), some (aI rl), some (aI p), some (aI (k * 8 + rl)), some (aI (I 7 ((k * 8 + rl).toNat)))], [], MM N IS JS)) (by decide +kernel) rfl trivial ?_
          refine V.ne (fun h16 => ?_) (fun h17 => ?_)
          · skip
            try simp only [b2_cast, b2_ncast, Classical.not_not, lcm_lt, lcm_ge, lcm_gt, lcm_le, lcm_eq, b2_0, b2_n0, Bool.not_eq_false, decide_eq_false_iff_not, decide_eq_true_eq] at h16
            refine V.blk [(105, .bipush 1, 1)] (ps := []) (z' := (106, [some (aR 0), some (aI k), some (aI rl), some (aI p), some (aI (k * 8 + rl)), some (aI (I 7 ((k * 8 + rl).toNat)))], [aI 1], MM N IS JS)) (by decide +kernel) rfl trivial ?_
            refine V.ri (by decide +kernel) ?_
            refine ⟨1, relU I k rl p, _, _, rfl, rfl, ⟨fun w => by omega, fun _ => ⟨fun w => ?_, fun _ => ⟨rfl, rfl⟩⟩⟩, ?_, ?_⟩
            · exfalso
              have e0 : ok = true := by assumption
              apply w
              rw [← eU]
              exact hR.1.mp e0
            · rw [← eU]
              exact hR.ce
            · have hs0 : svOK I15 J := by
                rw [eU]
                refine svOK_congr hX.2.2.2.2.2.2.2.1 ?_ ?_ ?_ rfl rfl
                all_goals (unfold relU; exact ma_ne _ _ (by decide))
              exact svOK_ce hs0 hR.ce (hR.2.2.2.2 8 (by decide) (by decide) (by decide)) (hR.2.2.2.2 9 (by decide) (by decide) (by decide))
          · skip
            try simp only [b2_cast, b2_ncast, Classical.not_not, lcm_lt, lcm_ge, lcm_gt, lcm_le, lcm_eq, b2_0, b2_n0, Bool.not_eq_false, decide_eq_false_iff_not, decide_eq_true_eq] at h17
            refine V.blk [(86, .aload 0, 1), (87, .getfield 9001, 3), (90, .getfield 6003, 3), (93, .iload 4, 2), (95, .iload 5, 2), (97, .iastore, 1)] (ps := [0 ≤ (k * 8 + rl) ∧ (k * 8 + rl) < 48]) (z' := (98, [some (aR 0), some (aI k), some (aI rl), some (aI p), some (aI (k * 8 + rl)), some (aI (I 7 ((k * 8 + rl).toNat)))], [], MM N (ma IS 7 (ma (IS 7) ((k * 8 + rl).toNat) (I 7 ((k * 8 + rl).toNat)))) JS)) (by decide +kernel) rfl (show (0 ≤ (k * 8 + rl) ∧ (k * 8 + rl) < 48) from (by omega)) ?_
            refine V.nI (fun I18 eI18 => ?_)
            have hC : CE I I18 := by
              have := hR.ce.ma (i := 7) (k := (k * 8 + rl).toNat) (v := I 7 (k * 8 + rl).toNat) rfl
              rw [eU] at this
              unfold relU at this
              rw [rel_back] at this
              rw [eI18]
              exact this
            have hf4 := Rf_ce hf hC
            refine V.blk [(98, .aload 0, 1), (99, .bipush (-7), 2)] (ps := []) (z' := (101, [some (aR 0), some (aI k), some (aI rl), some (aI p), some (aI (k * 8 + rl)), some (aI (I 7 ((k * 8 + rl).toNat)))], [aI (-7), aR 0], MM N I18 JS)) (by decide +kernel) rfl trivial ?_
            refine V.cv (c := 98) (na := 2) (o := 9) (a := 0) [aI (-7)] [] (by decide +kernel) rfl rfl rfl rfl rfl ((c_refuse (by assumption) (by omega)).mono (fun rv M1 q => ?_))
            obtain ⟨rfl, rfl⟩ := q
            show V 72 (104, [some (aR 0), some (aI k), some (aI rl), some (aI p), some (aI (k * 8 + rl)), some (aI (I 7 ((k * 8 + rl).toNat)))], [aI (-7)], MM N ((rfU I18 (-7))) JS) _
            refine V.nI (fun I19 eI19 => ?_)
            refine V.ri (by decide +kernel) ?_
            refine ⟨-7, rfU I (-7), _, _, rfl, rfl, ⟨fun w => by omega, fun _ => ⟨fun _ => ⟨rfl, rfl⟩, fun w => ?_⟩⟩, ?_, ?_⟩
            · exfalso
              have e0 : ok = false := by assumption
              apply w
              unfold ringF
              rw [← eU]
              intro g
              have := hR.1.mpr g
              rw [e0] at this
              cases this
            · subst_vars
              exact CE.rf hC _
            · subst_vars
              exact sv_rf (svOK_ce hX.2.2.2.2.2.2.2.1 hC (hR.2.2.2.2 8 (by decide) (by decide) (by decide)) (hR.2.2.2.2 9 (by decide) (by decide) (by decide)))
        · skip
          try simp only [b2_cast, b2_ncast, Classical.not_not, lcm_lt, lcm_ge, lcm_gt, lcm_le, lcm_eq, b2_0, b2_n0, Bool.not_eq_false, decide_eq_false_iff_not, decide_eq_true_eq] at h14
          refine V.blk [(39, .aload 0, 1), (40, .bipush (-3), 2)] (ps := []) (z' := (42, [some (aR 0), some (aI k), some (aI rl), some (aI p), none, none], [aI (-3), aR 0], MM N I J)) (by decide +kernel) rfl trivial ?_
          refine V.cv (c := 98) (na := 2) (o := 9) (a := 0) [aI (-3)] [] (by decide +kernel) rfl rfl rfl rfl rfl ((c_refuse (by assumption) (by omega)).mono (fun rv M1 q => ?_))
          obtain ⟨rfl, rfl⟩ := q
          show V 72 (45, [some (aR 0), some (aI k), some (aI rl), some (aI p), none, none], [aI (-3)], MM N ((rfU I (-3))) J) _
          refine V.nI (fun I20 eI20 => ?_)
          refine V.ri (by decide +kernel) ?_
          refine ⟨-3, rfU I (-3), _, _, rfl, rfl, ⟨fun _ => ⟨rfl, rfl⟩, fun w => by omega⟩, ?_, ?_⟩
          · subst_vars; exact CE.refl _
          · subst_vars; exact sv_rf hX.2.2.2.2.2.2.2.1
    · skip
      try simp only [b2_cast, b2_ncast, Classical.not_not, lcm_lt, lcm_ge, lcm_gt, lcm_le, lcm_eq, b2_0, b2_n0, Bool.not_eq_false, decide_eq_false_iff_not, decide_eq_true_eq] at h5
      refine V.blk [(18, .aload 0, 1), (19, .bipush (-3), 2)] (ps := []) (z' := (21, [some (aR 0), some (aI k), some (aI rl), some (aI p), none, none], [aI (-3), aR 0], MM N I J)) (by decide +kernel) rfl trivial ?_
      refine V.cv (c := 98) (na := 2) (o := 9) (a := 0) [aI (-3)] [] (by decide +kernel) rfl rfl rfl rfl rfl ((c_refuse (by assumption) (by omega)).mono (fun rv M1 q => ?_))
      obtain ⟨rfl, rfl⟩ := q
      show V 72 (24, [some (aR 0), some (aI k), some (aI rl), some (aI p), none, none], [aI (-3)], MM N ((rfU I (-3))) J) _
      refine V.nI (fun I21 eI21 => ?_)
      refine V.ri (by decide +kernel) ?_
      refine ⟨-3, rfU I (-3), _, _, rfl, rfl, ⟨fun _ => ⟨rfl, rfl⟩, fun w => by omega⟩, ?_, ?_⟩
      · subst_vars; exact CE.refl _
      · subst_vars; exact sv_rf hX.2.2.2.2.2.2.2.1
