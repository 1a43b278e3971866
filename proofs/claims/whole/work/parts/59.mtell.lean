/-! ===== the reference: what places tell ===== -/
/-- the reference stands for a scene -/
def SH (K : MI) (L : MJ) (cp : Nat → Bool) (I : MI) : Prop := EdH K L I ∧ ScP K L ∧ ChR K cp 0 (K 10 9).toNat I
theorem SH.keep {K : MI} {L : MJ} {cp : Nat → Bool} {I I' : MI} (h : SH K L cp I) (e : ∀ i, (i ≤ 76 ∨ i = 87 ∨ i = 88) → I' i = I i) : SH K L cp I' := by
  refine ⟨h.1.keep0 fun i hi => e i (Or.inl hi), h.2.1, ?_⟩
  unfold ChR
  rw [e 87 (by omega), e 88 (by omega)]
  exact h.2.2
theorem it_sr {P : Nat → Prop} {n q : Nat} (hn : n ≤ q) (h : ∀ r, n ≤ r → r < q → ¬ P r) : (∃ p, p < q + 1 ∧ P p) ↔ (∃ p, p < n ∧ P p) ∨ P q := by
  constructor
  · rintro ⟨p, hp, w⟩
    by_cases e : p = q
    · subst e; exact Or.inr w
    · by_cases c : p < n
      · exact Or.inl ⟨p, c, w⟩
      · exact absurd w (h p (by omega) (by omega))
  · rintro (⟨p, hp, w⟩ | w)
    · exact ⟨p, by omega, w⟩
    · exact ⟨q, by omega, w⟩
theorem m_isOf {N : Nat} {I : MI} {J : MJ} {K : MI} {q : Nat} {u : Bool} (hq : (q : Int) < K 10 9) (h4 : K 10 9 ≤ 400) (hP : RPr K I) : CT 164 [aR 52, aI (q : Int), aI (b2 u)] (MM N I J) (pure1 N I J (aI (b2 (decide (decide (K 14 q ≠ 0) = u))))) := by
  obtain ⟨g1, g2, g3, g4, g5, g6⟩ := hP.2 q hq
  refine CT.ofV (n := 3) (ls := [some (aR 52), some (aI (q : Int)), some (aI (b2 u))]) rfl rfl rfl ?_
  refine V.blk [(0, .iload 2, 1), (1, .ifCond .ne 21, 3)] (ps := []) (z' := (brc .ne (b2 u) 0 21 4, [some (aR 52), some (aI (q : Int)), some (aI (b2 u))], [], MM N I J)) (by decide +kernel) rfl trivial ?_
  refine V.ne (fun bh1 => ?_) (fun bh2 => ?_)
  · skip
    try simp only [b2_cast, b2_ncast, Classical.not_not, lcm_lt, lcm_ge, lcm_gt, lcm_le, lcm_eq, b2_0, b2_n0, Bool.not_eq_false, Bool.not_eq_true, decide_eq_true_eq, decide_eq_false_iff_not] at bh1
    refine V.blk [(21, .aload 0, 1), (22, .getfield 10010, 3), (25, .iload 1, 1), (26, .iaload, 1), (27, .ifCond .eq 34, 3)] (ps := [0 ≤ (q : Int) ∧ (q : Int) < 420]) (z' := (brc .eq (I 62 q) 0 34 30, [some (aR 52), some (aI (q : Int)), some (aI (b2 u))], [], MM N I J)) (by decide +kernel) rfl (show (0 ≤ (q : Int) ∧ (q : Int) < 420) from (by omega)) ?_
    refine V.eq (fun bh3 => ?_) (fun bh4 => ?_)
    · skip
      try simp only [b2_cast, b2_ncast, Classical.not_not, lcm_lt, lcm_ge, lcm_gt, lcm_le, lcm_eq, b2_0, b2_n0, Bool.not_eq_false, Bool.not_eq_true, decide_eq_true_eq, decide_eq_false_iff_not] at bh3
      refine V.blk [(34, .bipush 0, 1)] (ps := []) (z' := (35, [some (aR 52), some (aI (q : Int)), some (aI (b2 u))], [aI 0], MM N I J)) (by decide +kernel) rfl trivial ?_
      refine V.rz (by decide +kernel) (by first | exact b2_in _ | omega) ?_
      refine ⟨congrArg (fun w => some (aI w)) ?_, rfl⟩
      first | exact b2_td (by cases u <;> simp_all) | exact b2_fd (by cases u <;> simp_all)
    · skip
      try simp only [b2_cast, b2_ncast, Classical.not_not, lcm_lt, lcm_ge, lcm_gt, lcm_le, lcm_eq, b2_0, b2_n0, Bool.not_eq_false, Bool.not_eq_true, decide_eq_true_eq, decide_eq_false_iff_not] at bh4
      refine V.blk [(30, .bipush 1, 1), (31, .goto 35, 3)] (ps := []) (z' := (35, [some (aR 52), some (aI (q : Int)), some (aI (b2 u))], [aI 1], MM N I J)) (by decide +kernel) rfl trivial ?_
      refine V.rz (by decide +kernel) (by first | exact b2_in _ | omega) ?_
      refine ⟨congrArg (fun w => some (aI w)) ?_, rfl⟩
      first | exact b2_td (by cases u <;> simp_all) | exact b2_fd (by cases u <;> simp_all)
  · skip
    try simp only [b2_cast, b2_ncast, Classical.not_not, lcm_lt, lcm_ge, lcm_gt, lcm_le, lcm_eq, b2_0, b2_n0, Bool.not_eq_false, Bool.not_eq_true, decide_eq_true_eq, decide_eq_false_iff_not] at bh2
    refine V.blk [(4, .aload 0, 1), (5, .getfield 10010, 3), (8, .iload 1, 1), (9, .iaload, 1), (10, .ifCond .ne 17, 3)] (ps := [0 ≤ (q : Int) ∧ (q : Int) < 420]) (z' := (brc .ne (I 62 q) 0 17 13, [some (aR 52), some (aI (q : Int)), some (aI (b2 u))], [], MM N I J)) (by decide +kernel) rfl (show (0 ≤ (q : Int) ∧ (q : Int) < 420) from (by omega)) ?_
    refine V.ne (fun bh5 => ?_) (fun bh6 => ?_)
    · skip
      try simp only [b2_cast, b2_ncast, Classical.not_not, lcm_lt, lcm_ge, lcm_gt, lcm_le, lcm_eq, b2_0, b2_n0, Bool.not_eq_false, Bool.not_eq_true, decide_eq_true_eq, decide_eq_false_iff_not] at bh5
      refine V.blk [(17, .bipush 0, 1), (18, .goto 35, 3)] (ps := []) (z' := (35, [some (aR 52), some (aI (q : Int)), some (aI (b2 u))], [aI 0], MM N I J)) (by decide +kernel) rfl trivial ?_
      refine V.rz (by decide +kernel) (by first | exact b2_in _ | omega) ?_
      refine ⟨congrArg (fun w => some (aI w)) ?_, rfl⟩
      first | exact b2_td (by cases u <;> simp_all) | exact b2_fd (by cases u <;> simp_all)
    · skip
      try simp only [b2_cast, b2_ncast, Classical.not_not, lcm_lt, lcm_ge, lcm_gt, lcm_le, lcm_eq, b2_0, b2_n0, Bool.not_eq_false, Bool.not_eq_true, decide_eq_true_eq, decide_eq_false_iff_not] at bh6
      refine V.blk [(13, .bipush 1, 1), (14, .goto 35, 3)] (ps := []) (z' := (35, [some (aR 52), some (aI (q : Int)), some (aI (b2 u))], [aI 1], MM N I J)) (by decide +kernel) rfl trivial ?_
      refine V.rz (by decide +kernel) (by first | exact b2_in _ | omega) ?_
      refine ⟨congrArg (fun w => some (aI w)) ?_, rfl⟩
      first | exact b2_td (by cases u <;> simp_all) | exact b2_fd (by cases u <;> simp_all)
theorem l_told {N : Nat} {I : MI} {J : MJ} {K : MI} {L : MJ} {cp : Nat → Bool} {s m : Nat} (hm : K 10 9 = m) (hH : SH K L cp I) (hs : s < 320) {u : Bool} : ∀ (k n : Nat) (x : Int64), m + 1 ≤ k + n → n ≤ m → (∀ i, i < 64 → (tb x i = true ↔ ∃ p, p < n ∧ MemP K cp (J 83) s u i p)) → V 165 (10, [some (aR 52), some (aI (s : Int)), some (aI (b2 u)), some (aL (x)), none, some (aI (sr (spB K cp s) n m))], [], MM N I J) (pure1 N I J (aL (mkI (MemB K cp (J 83) s u)))) := by
  intro k
  induction k with
  | zero => intro n x h1 h2; exfalso; omega
  | succ k ih =>
    intro n x h1 h2 hx
    have hP := hH.1.2.2.2.2.2.2.2.2.1
    have hm4 := hH.1.2.2.2.2.1
    have h40 := hH.1.1.2.1
    have hsc := sr_c (spB K cp s) h2
    refine V.blk [(10, .iload 5, 2), (12, .ifCond .lt 98, 3)] (ps := []) (z' := (brc .lt (sr (spB K cp s) n m) 0 98 15, [some (aR 52), some (aI (s : Int)), some (aI (b2 u)), some (aL (x)), none, some (aI (sr (spB K cp s) n m))], [], MM N I J)) (by decide +kernel) rfl trivial ?_
    refine V.lt (fun bh1 => ?_) (fun bh2 => ?_)
    · skip
      try simp only [b2_cast, b2_ncast, Classical.not_not, lcm_lt, lcm_ge, lcm_gt, lcm_le, lcm_eq, b2_0, b2_n0, b2_e1, b2_e0, Bool.not_eq_false, Bool.not_eq_true, decide_eq_true_eq, decide_eq_false_iff_not, Classical.not_not] at bh1
      refine V.blk [(98, .lload 3, 1)] (ps := []) (z' := (99, [some (aR 52), some (aI (s : Int)), some (aI (b2 u)), some (aL (x)), none, some (aI (sr (spB K cp s) n m))], [aL (x)], MM N I J)) (by decide +kernel) rfl trivial ?_
      refine V.rl (by decide +kernel) ?_
      refine ⟨congrArg (fun w => some (aL w)) (mem_of (K := K) (v := J 83) hm (fun i hi => ?_)), rfl⟩
      rw [hx i hi]
      constructor
      · rintro ⟨p, a, b⟩
        exact ⟨p, by omega, b⟩
      · rintro ⟨p, a, b⟩
        by_cases c : p < n
        · exact ⟨p, c, b⟩
        · exfalso
          have hf := MemP.f i p b
          rcases hsc with ⟨-, w⟩ | ⟨q, q1, q2, q3, -⟩
          · rw [w p (by omega) a] at hf; cases hf
          · omega
    · skip
      try simp only [b2_cast, b2_ncast, Classical.not_not, lcm_lt, lcm_ge, lcm_gt, lcm_le, lcm_eq, b2_0, b2_n0, b2_e1, b2_e0, Bool.not_eq_false, Bool.not_eq_true, decide_eq_true_eq, decide_eq_false_iff_not, Classical.not_not] at bh2
      obtain ⟨q, q1, q2, q3, q4, q5⟩ : ∃ q, n ≤ q ∧ q < m ∧ sr (spB K cp s) n m = (q : Int) ∧ spB K cp s q = true ∧ ∀ r, n ≤ r → r < q → spB K cp s r = false := by
        rcases hsc with ⟨w, -⟩ | w
        · exfalso; omega
        · exact w
      rw [q3]
      clear hsc
      obtain ⟨g1, g2, g3, g4, g5, g6⟩ := hP.2 q (by omega)
      obtain ⟨w1, w2, w3, w4, w5, w6, w7, w8, w9, w10⟩ := hH.1.2.2.2.1 q (by omega)
      have hqs := spB_t.mp q4
      have hnx : I 88 q = sr (spB K cp s) (q + 1) m := by
        have := hH.2.2.2 q (Nat.zero_le _) (by omega) hqs.1
        rw [this, show (K 17 q).toNat = s by omega, show (K 10 9).toNat = m by omega]
      have hcl : clubOf (K 13 q) = -1 ↔ K 13 q < 1000 := by
        unfold clubOf
        split <;> omega
      have htl : toldOf (K 13 q) = -1 ↔ ¬ (100 ≤ K 13 q ∧ K 13 q < 1000) := by
        unfold toldOf
        split <;> omega
      refine V.blk [(15, .aload 0, 1), (16, .iload 5, 2), (18, .iload 2, 1)] (ps := []) (z' := (19, [some (aR 52), some (aI (s : Int)), some (aI (b2 u)), some (aL (x)), none, some (aI (q : Int))], [aI (b2 u), aI (q : Int), aR 52], MM N I J)) (by decide +kernel) rfl trivial ?_
      refine V.cv (c := 164) (na := 3) (o := 10) (a := 52) [aI (b2 u), aI (q : Int)] [] (by decide +kernel) rfl rfl rfl rfl rfl (V.pr (m_isOf (K := K) (by omega) (by omega) hP) ?_)
      show V 165 (22, [some (aR 52), some (aI (s : Int)), some (aI (b2 u)), some (aL (x)), none, some (aI (q : Int))], [aI (b2 (decide (decide (K 14 q ≠ 0) = u)))], MM N I J) _
      refine V.blk [(22, .ifCond .ne 28, 3)] (ps := []) (z' := (brc .ne (b2 (decide (decide (K 14 q ≠ 0) = u))) 0 28 25, [some (aR 52), some (aI (s : Int)), some (aI (b2 u)), some (aL (x)), none, some (aI (q : Int))], [], MM N I J)) (by decide +kernel) rfl trivial ?_
      refine V.ne (fun bh3 => ?_) (fun bh4 => ?_)
      · skip
        try simp only [b2_cast, b2_ncast, Classical.not_not, lcm_lt, lcm_ge, lcm_gt, lcm_le, lcm_eq, b2_0, b2_n0, b2_e1, b2_e0, Bool.not_eq_false, Bool.not_eq_true, decide_eq_true_eq, decide_eq_false_iff_not, Classical.not_not] at bh3
        refine V.blk [(28, .aload 0, 1), (29, .getfield 10009, 3), (32, .iload 5, 2), (34, .iaload, 1)] (ps := [0 ≤ (q : Int) ∧ (q : Int) < 420]) (z' := (35, [some (aR 52), some (aI (s : Int)), some (aI (b2 u)), some (aL (x)), none, some (aI (q : Int))], [aI (I 61 q)], MM N I J)) (by decide +kernel) rfl (show (0 ≤ (q : Int) ∧ (q : Int) < 420) from (by first | omega | (rcases w5 with w | w | w <;> omega))) ?_
        refine V.cs (c := 122) (na := 1) [aI (I 61 q)] [] (by decide +kernel) rfl rfl (V.pr (m_X10_isClub) ?_)
        show V 165 (38, [some (aR 52), some (aI (s : Int)), some (aI (b2 u)), some (aL (x)), none, some (aI (q : Int))], [aI (b2 (decide (1000 ≤ (I 61 q))))], MM N I J) _
        refine V.blk [(38, .ifCond .eq 62, 3)] (ps := []) (z' := (brc .eq (b2 (decide (1000 ≤ (I 61 q)))) 0 62 41, [some (aR 52), some (aI (s : Int)), some (aI (b2 u)), some (aL (x)), none, some (aI (q : Int))], [], MM N I J)) (by decide +kernel) rfl trivial ?_
        refine V.eq (fun bh5 => ?_) (fun bh6 => ?_)
        · skip
          try simp only [b2_cast, b2_ncast, Classical.not_not, lcm_lt, lcm_ge, lcm_gt, lcm_le, lcm_eq, b2_0, b2_n0, b2_e1, b2_e0, Bool.not_eq_false, Bool.not_eq_true, decide_eq_true_eq, decide_eq_false_iff_not, Classical.not_not] at bh5
          refine V.blk [(62, .aload 0, 1), (63, .getfield 10009, 3), (66, .iload 5, 2), (68, .iaload, 1), (69, .bipush 100, 2), (71, .if_icmp .ge 86, 3)] (ps := [0 ≤ (q : Int) ∧ (q : Int) < 420]) (z' := (brc .ge (I 61 q) 100 86 74, [some (aR 52), some (aI (s : Int)), some (aI (b2 u)), some (aL (x)), none, some (aI (q : Int))], [], MM N I J)) (by decide +kernel) rfl (show (0 ≤ (q : Int) ∧ (q : Int) < 420) from (by first | omega | (rcases w5 with w | w | w <;> omega))) ?_
          refine V.ge (fun bh7 => ?_) (fun bh8 => ?_)
          · skip
            try simp only [b2_cast, b2_ncast, Classical.not_not, lcm_lt, lcm_ge, lcm_gt, lcm_le, lcm_eq, b2_0, b2_n0, b2_e1, b2_e0, Bool.not_eq_false, Bool.not_eq_true, decide_eq_true_eq, decide_eq_false_iff_not, Classical.not_not] at bh7
            refine V.blk [(86, .aload 0, 1), (87, .getfield 10049, 3), (90, .iload 5, 2), (92, .iaload, 1), (93, .istore 5, 2), (95, .goto 10, 3)] (ps := [0 ≤ (q : Int) ∧ (q : Int) < 420]) (z' := (10, [some (aR 52), some (aI (s : Int)), some (aI (b2 u)), some (aL (x)), none, some (aI (I 88 q))], [], MM N I J)) (by decide +kernel) rfl (show (0 ≤ (q : Int) ∧ (q : Int) < 420) from (by first | omega | (rcases w5 with w | w | w <;> omega))) ?_
            rw [hnx]
            refine ih (q + 1) x (by omega) (by omega) (fun i hi => ?_)
            rw [it_sr q1 (fun r a b w => by have := MemP.f i r w; rw [q5 r a b] at this; cases this), hx i hi]
            refine ⟨fun w => Or.inl w, fun w => w.elim id fun w => ?_⟩
            exfalso
            obtain ⟨e1, e2, e3, e4, e5⟩ := w
            rw [w10, htl] at e4
            rw [w9, ne_eq, hcl] at e5
            first
              | (simp_all; done)
              | omega
          · skip
            try simp only [b2_cast, b2_ncast, Classical.not_not, lcm_lt, lcm_ge, lcm_gt, lcm_le, lcm_eq, b2_0, b2_n0, b2_e1, b2_e0, Bool.not_eq_false, Bool.not_eq_true, decide_eq_true_eq, decide_eq_false_iff_not, Classical.not_not] at bh8
            refine V.blk [(74, .lload 3, 1), (75, .jsr_w 1, 1), (76, .aload 0, 1), (77, .getfield 10009, 3), (80, .iload 5, 2), (82, .iaload, 1)] (ps := [0 ≤ (q : Int) ∧ (q : Int) < 420]) (z' := (83, [some (aR 52), some (aI (s : Int)), some (aI (b2 u)), some (aL (x)), none, some (aI (q : Int))], [aI (I 61 q), aL (Int64.ofInt 1), aL (x)], MM N I J)) (by decide +kernel) rfl (show (0 ≤ (q : Int) ∧ (q : Int) < 420) from (by first | omega | (rcases w5 with w | w | w <;> omega))) ?_
            obtain ⟨a, ea⟩ : ∃ a : Nat, I 61 q = a := ⟨(I 61 q).toNat, by rcases w5 with w | w | w <;> omega⟩
            have ha40 : a < 40 := by rcases w5 with w | w | w <;> omega
            rw [ea]
            refine V.blk [(83, .lshl, 1), (84, .lor, 1), (85, .lstore 3, 1), (86, .aload 0, 1), (87, .getfield 10049, 3), (90, .iload 5, 2), (92, .iaload, 1), (93, .istore 5, 2), (95, .goto 10, 3)] (ps := [0 ≤ (a : Int) ∧ (a : Int) < 64, 0 ≤ (q : Int) ∧ (q : Int) < 420]) (z' := (10, [some (aR 52), some (aI (s : Int)), some (aI (b2 u)), some (aL ((x) ||| (shll (Int64.ofInt 1) (a : Int)))), none, some (aI (I 88 q))], [], MM N I J)) (by decide +kernel) rfl (show (0 ≤ (a : Int) ∧ (a : Int) < 64) ∧ (0 ≤ (q : Int) ∧ (q : Int) < 420) from ⟨(by first | omega | (rcases w5 with w | w | w <;> omega)), (by first | omega | (rcases w5 with w | w | w <;> omega))⟩) ?_
            rw [hnx]
            refine ih (q + 1) _ (by omega) (by omega) (fun i hi => ?_)
            rw [it_sr q1 (fun r a b w => by have := MemP.f i r w; rw [q5 r a b] at this; cases this), tb_or, Bool.or_eq_true, hx i hi]
            refine or_congr Iff.rfl ?_
            have etb : tb (shll (Int64.ofInt 1) (a : Int)) i = decide (i = a) := tb_bt (by omega) i
            rw [etb, decide_eq_true_eq]
            unfold MemP
            constructor
            · intro w
              refine ⟨hqs.1, hqs.2, by simp_all, by rw [w10, htl]; omega, Or.inl ⟨by rw [w9, hcl]; omega, by omega⟩⟩
            · rintro ⟨-, -, -, -, w | w⟩
              · omega
              · exfalso
                have := w.1
                rw [w9, ne_eq, hcl] at this
                omega
        · skip
          try simp only [b2_cast, b2_ncast, Classical.not_not, lcm_lt, lcm_ge, lcm_gt, lcm_le, lcm_eq, b2_0, b2_n0, b2_e1, b2_e0, Bool.not_eq_false, Bool.not_eq_true, decide_eq_true_eq, decide_eq_false_iff_not, Classical.not_not] at bh6
          refine V.blk [(41, .lload 3, 1), (42, .aload 0, 1), (43, .getfield 10044, 3), (46, .aload 0, 1), (47, .getfield 10009, 3), (50, .iload 5, 2), (52, .iaload, 1)] (ps := [0 ≤ (q : Int) ∧ (q : Int) < 420]) (z' := (53, [some (aR 52), some (aI (s : Int)), some (aI (b2 u)), some (aL (x)), none, some (aI (q : Int))], [aI (I 61 q), aR 83, aL (x)], MM N I J)) (by decide +kernel) rfl (show (0 ≤ (q : Int) ∧ (q : Int) < 420) from (by first | omega | (rcases w5 with w | w | w <;> omega))) ?_
          have hu5 : 1000 ≤ K 13 q ∧ (K 13 q - 1000) / 10 < K 1 1 ∧ (K 13 q - 1000) % 10 < 8 := by rcases w5 with w | w | w <;> omega
          refine V.cs (c := 123) (na := 1) [aI (I 61 q)] [aR 83, aL (x)] (by decide +kernel) rfl rfl (V.pr (m_X10_clubCell (by omega)) ?_)
          show V 165 (56, [some (aR 52), some (aI (s : Int)), some (aI (b2 u)), some (aL (x)), none, some (aI (q : Int))], [aI ((I 61 q - 1000) / 10 * 8 + (I 61 q - 1000) % 10), aR 83, aL (x)], MM N I J) _
          refine V.blk [(56, .laload, 1), (57, .lor, 1), (58, .lstore 3, 1), (59, .goto 86, 3), (86, .aload 0, 1), (87, .getfield 10049, 3), (90, .iload 5, 2), (92, .iaload, 1), (93, .istore 5, 2), (95, .goto 10, 3)] (ps := [0 ≤ ((I 61 q - 1000) / 10 * 8 + (I 61 q - 1000) % 10) ∧ ((I 61 q - 1000) / 10 * 8 + (I 61 q - 1000) % 10) < 320, 0 ≤ (q : Int) ∧ (q : Int) < 420]) (z' := (10, [some (aR 52), some (aI (s : Int)), some (aI (b2 u)), some (aL ((x) ||| (J 83 (((I 61 q - 1000) / 10 * 8 + (I 61 q - 1000) % 10).toNat)))), none, some (aI (I 88 q))], [], MM N I J)) (by decide +kernel) rfl (show (0 ≤ ((I 61 q - 1000) / 10 * 8 + (I 61 q - 1000) % 10) ∧ ((I 61 q - 1000) / 10 * 8 + (I 61 q - 1000) % 10) < 320) ∧ (0 ≤ (q : Int) ∧ (q : Int) < 420) from ⟨(by first | omega | (rcases w5 with w | w | w <;> omega)), (by first | omega | (rcases w5 with w | w | w <;> omega))⟩) ?_
          rw [hnx]
          refine ih (q + 1) _ (by omega) (by omega) (fun i hi => ?_)
          rw [it_sr q1 (fun r a b w => by have := MemP.f i r w; rw [q5 r a b] at this; cases this), tb_or, Bool.or_eq_true, hx i hi]
          refine or_congr Iff.rfl ?_
          have e18 : (K 18 q).toNat = ((I 61 q - 1000) / 10 * 8 + (I 61 q - 1000) % 10).toNat := by
            rw [w9, g3]
            unfold clubOf
            rw [if_pos (by omega)]
          unfold MemP
          rw [e18]
          constructor
          · intro w
            refine ⟨hqs.1, hqs.2, by simp_all, by rw [w10, htl]; omega, Or.inr ⟨by rw [w9, ne_eq, hcl]; omega, w⟩⟩
          · rintro ⟨-, -, -, -, w | w⟩
            · exfalso
              rw [w9, hcl] at w
              omega
            · exact w.2
      · skip
        try simp only [b2_cast, b2_ncast, Classical.not_not, lcm_lt, lcm_ge, lcm_gt, lcm_le, lcm_eq, b2_0, b2_n0, b2_e1, b2_e0, Bool.not_eq_false, Bool.not_eq_true, decide_eq_true_eq, decide_eq_false_iff_not, Classical.not_not] at bh4
        refine V.blk [(25, .goto 86, 3), (86, .aload 0, 1), (87, .getfield 10049, 3), (90, .iload 5, 2), (92, .iaload, 1), (93, .istore 5, 2), (95, .goto 10, 3)] (ps := [0 ≤ (q : Int) ∧ (q : Int) < 420]) (z' := (10, [some (aR 52), some (aI (s : Int)), some (aI (b2 u)), some (aL (x)), none, some (aI (I 88 q))], [], MM N I J)) (by decide +kernel) rfl (show (0 ≤ (q : Int) ∧ (q : Int) < 420) from (by first | omega | (rcases w5 with w | w | w <;> omega))) ?_
        rw [hnx]
        refine ih (q + 1) x (by omega) (by omega) (fun i hi => ?_)
        rw [it_sr q1 (fun r a b w => by have := MemP.f i r w; rw [q5 r a b] at this; cases this), hx i hi]
        refine ⟨fun w => Or.inl w, fun w => w.elim id fun w => ?_⟩
        exfalso
        obtain ⟨e1, e2, e3, e4, e5⟩ := w
        rw [w10, htl] at e4
        rw [w9, ne_eq, hcl] at e5
        first
          | (simp_all; done)
          | omega
theorem m_told {N : Nat} {I : MI} {J : MJ} {K : MI} {L : MJ} {cp : Nat → Bool} {s m : Nat} (hm : K 10 9 = m) (hH : SH K L cp I) (hs : s < 320) {u : Bool} : CT 165 [aR 52, aI (s : Int), aI (b2 u)] (MM N I J) (pure1 N I J (aL (mkI (MemB K cp (J 83) s u)))) := by
  refine CT.ofV (n := 6) (ls := [some (aR 52), some (aI (s : Int)), some (aI (b2 u)), none, none, none]) rfl rfl rfl ?_
  refine V.blk [(0, .jsr_w 0, 1), (1, .lstore 3, 1), (2, .aload 0, 1), (3, .getfield 10048, 3), (6, .iload 1, 1), (7, .iaload, 1), (8, .istore 5, 2)] (ps := [0 ≤ (s : Int) ∧ (s : Int) < 320]) (z' := (10, [some (aR 52), some (aI (s : Int)), some (aI (b2 u)), some (aL (Int64.ofInt 0)), none, some (aI (I 87 s))], [], MM N I J)) (by decide +kernel) rfl (show (0 ≤ (s : Int) ∧ (s : Int) < 320) from (by omega)) ?_
  rw [hH.2.2.1 s hs, show (K 10 9).toNat = m by omega]
  exact l_told hm hH hs (m + 1) 0 _ (by omega) (by omega) (fun i _ => ⟨(fun w => by rw [tb_0] at w; cases w), (fun w => by obtain ⟨p, hp, _⟩ := w; omega)⟩)
theorem l_thrm {N : Nat} {I : MI} {J : MJ} {K : MI} {L : MJ} {cp : Nat → Bool} {s m : Nat} (hm : K 10 9 = m) (hH : SH K L cp I) (hs : s < 320) {y : Nat} (hy : y < 8) : ∀ (k n : Nat) (x : Int64), m + 1 ≤ k + n → n ≤ m → (∀ i, i < 64 → (tb x i = true ↔ ∃ p, p < n ∧ ThrP K cp (J 83) s y i p)) → V 166 (10, [some (aR 52), some (aI (s : Int)), some (aI (y : Int)), some (aL (x)), none, some (aI (sr (spB K cp s) n m))], [], MM N I J) (pure1 N I J (aL (mkI (ThrB K cp (J 83) s y)))) := by
  intro k
  induction k with
  | zero => intro n x h1 h2; exfalso; omega
  | succ k ih =>
    intro n x h1 h2 hx
    have hP := hH.1.2.2.2.2.2.2.2.2.1
    have hm4 := hH.1.2.2.2.2.1
    have h40 := hH.1.1.2.1
    have hsc := sr_c (spB K cp s) h2
    refine V.blk [(10, .iload 5, 2), (12, .ifCond .lt 75, 3)] (ps := []) (z' := (brc .lt (sr (spB K cp s) n m) 0 75 15, [some (aR 52), some (aI (s : Int)), some (aI (y : Int)), some (aL (x)), none, some (aI (sr (spB K cp s) n m))], [], MM N I J)) (by decide +kernel) rfl trivial ?_
    refine V.lt (fun bh1 => ?_) (fun bh2 => ?_)
    · skip
      try simp only [b2_cast, b2_ncast, Classical.not_not, lcm_lt, lcm_ge, lcm_gt, lcm_le, lcm_eq, b2_0, b2_n0, b2_e1, b2_e0, Bool.not_eq_false, Bool.not_eq_true, decide_eq_true_eq, decide_eq_false_iff_not, Classical.not_not] at bh1
      refine V.blk [(75, .lload 3, 1)] (ps := []) (z' := (76, [some (aR 52), some (aI (s : Int)), some (aI (y : Int)), some (aL (x)), none, some (aI (sr (spB K cp s) n m))], [aL (x)], MM N I J)) (by decide +kernel) rfl trivial ?_
      refine V.rl (by decide +kernel) ?_
      refine ⟨congrArg (fun w => some (aL w)) (thr_of (K := K) (v := J 83) hm (fun i hi => ?_)), rfl⟩
      rw [hx i hi]
      constructor
      · rintro ⟨p, a, b⟩
        exact ⟨p, by omega, b⟩
      · rintro ⟨p, a, b⟩
        by_cases c : p < n
        · exact ⟨p, c, b⟩
        · exfalso
          have hf := ThrP.f i p b
          rcases hsc with ⟨-, w⟩ | ⟨q, q1, q2, q3, -⟩
          · rw [w p (by omega) a] at hf; cases hf
          · omega
    · skip
      try simp only [b2_cast, b2_ncast, Classical.not_not, lcm_lt, lcm_ge, lcm_gt, lcm_le, lcm_eq, b2_0, b2_n0, b2_e1, b2_e0, Bool.not_eq_false, Bool.not_eq_true, decide_eq_true_eq, decide_eq_false_iff_not, Classical.not_not] at bh2
      obtain ⟨q, q1, q2, q3, q4, q5⟩ : ∃ q, n ≤ q ∧ q < m ∧ sr (spB K cp s) n m = (q : Int) ∧ spB K cp s q = true ∧ ∀ r, n ≤ r → r < q → spB K cp s r = false := by
        rcases hsc with ⟨w, -⟩ | w
        · exfalso; omega
        · exact w
      rw [q3]
      clear hsc
      obtain ⟨g1, g2, g3, g4, g5, g6⟩ := hP.2 q (by omega)
      obtain ⟨w1, w2, w3, w4, w5, w6, w7, w8, w9, w10⟩ := hH.1.2.2.2.1 q (by omega)
      have hqs := spB_t.mp q4
      have hnx : I 88 q = sr (spB K cp s) (q + 1) m := by
        have := hH.2.2.2 q (Nat.zero_le _) (by omega) hqs.1
        rw [this, show (K 17 q).toNat = s by omega, show (K 10 9).toNat = m by omega]
      have hcl : clubOf (K 13 q) = -1 ↔ K 13 q < 1000 := by
        unfold clubOf
        split <;> omega
      have htl : toldOf (K 13 q) = -1 ↔ ¬ (100 ≤ K 13 q ∧ K 13 q < 1000) := by
        unfold toldOf
        split <;> omega
      refine V.blk [(15, .aload 0, 1), (16, .getfield 10009, 3), (19, .iload 5, 2), (21, .iaload, 1), (22, .bipush 100, 2), (24, .if_icmp .lt 63, 3)] (ps := [0 ≤ (q : Int) ∧ (q : Int) < 420]) (z' := (brc .lt (I 61 q) 100 63 27, [some (aR 52), some (aI (s : Int)), some (aI (y : Int)), some (aL (x)), none, some (aI (q : Int))], [], MM N I J)) (by decide +kernel) rfl (show (0 ≤ (q : Int) ∧ (q : Int) < 420) from (by first | omega | (rcases w5 with w | w | w <;> omega))) ?_
      refine V.lt (fun bh3 => ?_) (fun bh4 => ?_)
      · skip
        try simp only [b2_cast, b2_ncast, Classical.not_not, lcm_lt, lcm_ge, lcm_gt, lcm_le, lcm_eq, b2_0, b2_n0, b2_e1, b2_e0, Bool.not_eq_false, Bool.not_eq_true, decide_eq_true_eq, decide_eq_false_iff_not, Classical.not_not] at bh3
        refine V.blk [(63, .aload 0, 1), (64, .getfield 10049, 3), (67, .iload 5, 2), (69, .iaload, 1), (70, .istore 5, 2), (72, .goto 10, 3)] (ps := [0 ≤ (q : Int) ∧ (q : Int) < 420]) (z' := (10, [some (aR 52), some (aI (s : Int)), some (aI (y : Int)), some (aL (x)), none, some (aI (I 88 q))], [], MM N I J)) (by decide +kernel) rfl (show (0 ≤ (q : Int) ∧ (q : Int) < 420) from (by first | omega | (rcases w5 with w | w | w <;> omega))) ?_
        rw [hnx]
        refine ih (q + 1) x (by omega) (by omega) (fun i hi => ?_)
        rw [it_sr q1 (fun r a b w => by have := ThrP.f i r w; rw [q5 r a b] at this; cases this), hx i hi]
        refine ⟨fun w => Or.inl w, fun w => w.elim id fun w => ?_⟩
        exfalso
        obtain ⟨e1, e2, e3, e4⟩ := w
        rw [w10, ne_eq, htl] at e3
        omega
      · skip
        try simp only [b2_cast, b2_ncast, Classical.not_not, lcm_lt, lcm_ge, lcm_gt, lcm_le, lcm_eq, b2_0, b2_n0, b2_e1, b2_e0, Bool.not_eq_false, Bool.not_eq_true, decide_eq_true_eq, decide_eq_false_iff_not, Classical.not_not] at bh4
        refine V.blk [(27, .aload 0, 1), (28, .getfield 10009, 3), (31, .iload 5, 2), (33, .iaload, 1), (34, .bipush 1000, 3), (37, .if_icmp .ge 63, 3)] (ps := [0 ≤ (q : Int) ∧ (q : Int) < 420]) (z' := (brc .ge (I 61 q) 1000 63 40, [some (aR 52), some (aI (s : Int)), some (aI (y : Int)), some (aL (x)), none, some (aI (q : Int))], [], MM N I J)) (by decide +kernel) rfl (show (0 ≤ (q : Int) ∧ (q : Int) < 420) from (by first | omega | (rcases w5 with w | w | w <;> omega))) ?_
        refine V.ge (fun bh5 => ?_) (fun bh6 => ?_)
        · skip
          try simp only [b2_cast, b2_ncast, Classical.not_not, lcm_lt, lcm_ge, lcm_gt, lcm_le, lcm_eq, b2_0, b2_n0, b2_e1, b2_e0, Bool.not_eq_false, Bool.not_eq_true, decide_eq_true_eq, decide_eq_false_iff_not, Classical.not_not] at bh5
          refine V.blk [(63, .aload 0, 1), (64, .getfield 10049, 3), (67, .iload 5, 2), (69, .iaload, 1), (70, .istore 5, 2), (72, .goto 10, 3)] (ps := [0 ≤ (q : Int) ∧ (q : Int) < 420]) (z' := (10, [some (aR 52), some (aI (s : Int)), some (aI (y : Int)), some (aL (x)), none, some (aI (I 88 q))], [], MM N I J)) (by decide +kernel) rfl (show (0 ≤ (q : Int) ∧ (q : Int) < 420) from (by first | omega | (rcases w5 with w | w | w <;> omega))) ?_
          rw [hnx]
          refine ih (q + 1) x (by omega) (by omega) (fun i hi => ?_)
          rw [it_sr q1 (fun r a b w => by have := ThrP.f i r w; rw [q5 r a b] at this; cases this), hx i hi]
          refine ⟨fun w => Or.inl w, fun w => w.elim id fun w => ?_⟩
          exfalso
          obtain ⟨e1, e2, e3, e4⟩ := w
          rw [w10, ne_eq, htl] at e3
          omega
        · skip
          try simp only [b2_cast, b2_ncast, Classical.not_not, lcm_lt, lcm_ge, lcm_gt, lcm_le, lcm_eq, b2_0, b2_n0, b2_e1, b2_e0, Bool.not_eq_false, Bool.not_eq_true, decide_eq_true_eq, decide_eq_false_iff_not, Classical.not_not] at bh6
          refine V.blk [(40, .lload 3, 1), (41, .aload 0, 1), (42, .getfield 10044, 3), (45, .bipush 8, 2), (47, .aload 0, 1), (48, .getfield 10009, 3), (51, .iload 5, 2), (53, .iaload, 1), (54, .bipush 100, 2), (56, .isub, 1), (57, .imul, 1), (58, .iload 2, 1), (59, .iadd, 1), (60, .laload, 1), (61, .lor, 1), (62, .lstore 3, 1), (63, .aload 0, 1), (64, .getfield 10049, 3), (67, .iload 5, 2), (69, .iaload, 1), (70, .istore 5, 2), (72, .goto 10, 3)] (ps := [0 ≤ (q : Int) ∧ (q : Int) < 420, inR ((I 61 q) - 100), inR (8 * ((I 61 q) - 100)), inR ((8 * ((I 61 q) - 100)) + (y : Int)), 0 ≤ ((8 * ((I 61 q) - 100)) + (y : Int)) ∧ ((8 * ((I 61 q) - 100)) + (y : Int)) < 320, 0 ≤ (q : Int) ∧ (q : Int) < 420]) (z' := (10, [some (aR 52), some (aI (s : Int)), some (aI (y : Int)), some (aL ((x) ||| (J 83 (((8 * ((I 61 q) - 100)) + (y : Int)).toNat)))), none, some (aI (I 88 q))], [], MM N I J)) (by decide +kernel) rfl (show (0 ≤ (q : Int) ∧ (q : Int) < 420) ∧ (inR ((I 61 q) - 100)) ∧ (inR (8 * ((I 61 q) - 100))) ∧ (inR ((8 * ((I 61 q) - 100)) + (y : Int))) ∧ (0 ≤ ((8 * ((I 61 q) - 100)) + (y : Int)) ∧ ((8 * ((I 61 q) - 100)) + (y : Int)) < 320) ∧ (0 ≤ (q : Int) ∧ (q : Int) < 420) from ⟨(by first | omega | (rcases w5 with w | w | w <;> omega)), (by unfold inR; first | omega | (rcases w5 with w | w | w <;> omega)), (by unfold inR; first | omega | (rcases w5 with w | w | w <;> omega)), (by unfold inR; first | omega | (rcases w5 with w | w | w <;> omega)), (by first | omega | (rcases w5 with w | w | w <;> omega)), (by first | omega | (rcases w5 with w | w | w <;> omega))⟩) ?_
          rw [hnx]
          refine ih (q + 1) _ (by omega) (by omega) (fun i hi => ?_)
          rw [it_sr q1 (fun r a b w => by have := ThrP.f i r w; rw [q5 r a b] at this; cases this), tb_or, Bool.or_eq_true, hx i hi]
          refine or_congr Iff.rfl ?_
          have e19 : (8 * (I 61 q - 100) + (y : Int)).toNat = (K 19 q).toNat * 8 + y := by
            rw [w10, g3]
            unfold toldOf
            rw [if_pos (by omega)]
            omega
          unfold ThrP
          rw [e19]
          exact ⟨fun w => ⟨hqs.1, hqs.2, by rw [w10, ne_eq, htl]; omega, w⟩, fun w => w.2.2.2⟩
theorem m_through {N : Nat} {I : MI} {J : MJ} {K : MI} {L : MJ} {cp : Nat → Bool} {s m : Nat} (hm : K 10 9 = m) (hH : SH K L cp I) (hs : s < 320) {y : Nat} (hy : y < 8) : CT 166 [aR 52, aI (s : Int), aI (y : Int)] (MM N I J) (pure1 N I J (aL (mkI (ThrB K cp (J 83) s y)))) := by
  refine CT.ofV (n := 6) (ls := [some (aR 52), some (aI (s : Int)), some (aI (y : Int)), none, none, none]) rfl rfl rfl ?_
  refine V.blk [(0, .jsr_w 0, 1), (1, .lstore 3, 1), (2, .aload 0, 1), (3, .getfield 10048, 3), (6, .iload 1, 1), (7, .iaload, 1), (8, .istore 5, 2)] (ps := [0 ≤ (s : Int) ∧ (s : Int) < 320]) (z' := (10, [some (aR 52), some (aI (s : Int)), some (aI (y : Int)), some (aL (Int64.ofInt 0)), none, some (aI (I 87 s))], [], MM N I J)) (by decide +kernel) rfl (show (0 ≤ (s : Int) ∧ (s : Int) < 320) from (by omega)) ?_
  rw [hH.2.2.1 s hs, show (K 10 9).toNat = m by omega]
  exact l_thrm hm hH hs hy (m + 1) 0 _ (by omega) (by omega) (fun i _ => ⟨(fun w => by rw [tb_0] at w; cases w), (fun w => by obtain ⟨p, hp, _⟩ := w; omega)⟩)
theorem m_ruled {N : Nat} {I : MI} {J : MJ} {K : MI} {L : MJ} {cp : Nat → Bool} {s p : Nat} (hH : SH K L cp I) (hs : s < 320) (hp : p < 64) : CT 167 [aR 52, aI (p : Int), aI (s : Int)] (MM N I J) (pure1 N I J (aL (plS K cp (J 83) s (J 85) p))) := by
  obtain ⟨m, hm⟩ : ∃ m : Nat, K 10 9 = m := ⟨(K 10 9).toNat, by have := hH.1.2.2.2.2.1; omega⟩
  obtain ⟨r54, r55, r56, -⟩ := hH.1.2.2.2.2.2.2.2.1.1 p hp
  have rr := hH.1.2.1.rt.1 p hp
  have ll := hH.1.2.1.rt.2.1 p hp
  refine CT.ofV (n := 4) (ls := [some (aR 52), some (aI (p : Int)), some (aI (s : Int)), none]) rfl rfl rfl ?_
  refine V.blk [(0, .iload 2, 1), (1, .bipush 8, 2), (3, .idiv, 1), (4, .bipush 8, 2), (6, .imul, 1), (7, .istore 3, 1), (8, .aload 0, 1), (9, .getfield 10002, 3), (12, .iload 1, 1), (13, .iaload, 1), (14, .tableswitch 177 0 6 #[56, 56, 68, 82, 101, 125, 149], 42)] (ps := [0 ≤ (s : Int) ∧ 0 < 8, inR (((s / 8 : Nat) : Int) * 8), 0 ≤ (p : Int) ∧ (p : Int) < 64]) (z' := (tsw 177 0 6 [56, 56, 68, 82, 101, 125, 149] (I 54 p), [some (aR 52), some (aI (p : Int)), some (aI (s : Int)), some (aI (((s / 8) * 8 : Nat) : Int))], [], MM N I J)) (by decide +kernel) rfl (show (0 ≤ (s : Int) ∧ 0 < 8) ∧ (inR (((s / 8 : Nat) : Int) * 8)) ∧ (0 ≤ (p : Int) ∧ (p : Int) < 64) from ⟨(by omega), (by unfold inR; omega), (by omega)⟩) ?_
  refine V.ts (fun k t1 hlt hle => ?_) (by decide) (fun bh2 => ?_)
  · match k, t1, hlt with
    | 0, t1, _ =>
      show V 167 (56, [some (aR 52), some (aI (p : Int)), some (aI (s : Int)), some (aI (((s / 8) * 8 : Nat) : Int))], [], MM N I J) _
      have e4 : K 4 p = 0 := by have := t1; omega
      refine V.blk [(56, .aload 0, 1), (57, .iload 2, 1), (58, .aload 0, 1), (59, .getfield 10002, 3), (62, .iload 1, 1), (63, .iaload, 1)] (ps := [0 ≤ (p : Int) ∧ (p : Int) < 64]) (z' := (64, [some (aR 52), some (aI (p : Int)), some (aI (s : Int)), some (aI (((s / 8) * 8 : Nat) : Int))], [aI (I 54 p), aI (s : Int), aR 52], MM N I J)) (by decide +kernel) rfl (show (0 ≤ (p : Int) ∧ (p : Int) < 64) from (by omega)) ?_
      have eu : I 54 p = b2 (decide (K 4 p = 1)) := by
        rw [r54, e4]
        rfl
      rw [eu]
      refine V.cv (c := 165) (na := 3) (o := 10) (a := 52) [aI (b2 (decide (K 4 p = 1))), aI (s : Int)] [] (by decide +kernel) rfl rfl rfl rfl rfl (V.pr (m_told hm hH hs) ?_)
      show V 167 (67, [some (aR 52), some (aI (p : Int)), some (aI (s : Int)), some (aI (((s / 8) * 8 : Nat) : Int))], [aL (mkI (MemB K cp (J 83) s (decide (K 4 p = 1))))], MM N I J) _
      refine V.rl (by decide +kernel) ?_
      refine ⟨congrArg (fun w => some (aL w)) ?_, rfl⟩
      unfold plS
      simp only [e4]
      rfl
    | 1, t1, _ =>
      show V 167 (56, [some (aR 52), some (aI (p : Int)), some (aI (s : Int)), some (aI (((s / 8) * 8 : Nat) : Int))], [], MM N I J) _
      have e4 : K 4 p = 1 := by have := t1; omega
      refine V.blk [(56, .aload 0, 1), (57, .iload 2, 1), (58, .aload 0, 1), (59, .getfield 10002, 3), (62, .iload 1, 1), (63, .iaload, 1)] (ps := [0 ≤ (p : Int) ∧ (p : Int) < 64]) (z' := (64, [some (aR 52), some (aI (p : Int)), some (aI (s : Int)), some (aI (((s / 8) * 8 : Nat) : Int))], [aI (I 54 p), aI (s : Int), aR 52], MM N I J)) (by decide +kernel) rfl (show (0 ≤ (p : Int) ∧ (p : Int) < 64) from (by omega)) ?_
      have eu : I 54 p = b2 (decide (K 4 p = 1)) := by
        rw [r54, e4]
        rfl
      rw [eu]
      refine V.cv (c := 165) (na := 3) (o := 10) (a := 52) [aI (b2 (decide (K 4 p = 1))), aI (s : Int)] [] (by decide +kernel) rfl rfl rfl rfl rfl (V.pr (m_told hm hH hs) ?_)
      show V 167 (67, [some (aR 52), some (aI (p : Int)), some (aI (s : Int)), some (aI (((s / 8) * 8 : Nat) : Int))], [aL (mkI (MemB K cp (J 83) s (decide (K 4 p = 1))))], MM N I J) _
      refine V.rl (by decide +kernel) ?_
      refine ⟨congrArg (fun w => some (aL w)) ?_, rfl⟩
      unfold plS
      simp only [e4]
      rfl
    | 2, t1, _ =>
      show V 167 (68, [some (aR 52), some (aI (p : Int)), some (aI (s : Int)), some (aI (((s / 8) * 8 : Nat) : Int))], [], MM N I J) _
      have e4 : K 4 p = 2 := by have := t1; omega
      have x55 := r55 (by omega) (by omega)
      refine V.blk [(68, .aload 0, 1), (69, .getfield 10044, 3), (72, .iload 3, 1), (73, .aload 0, 1), (74, .getfield 10003, 3), (77, .iload 1, 1), (78, .iaload, 1), (79, .iadd, 1), (80, .laload, 1)] (ps := [0 ≤ (p : Int) ∧ (p : Int) < 64, inR ((((s / 8) * 8 : Nat) : Int) + (I 55 p)), 0 ≤ ((((s / 8) * 8 : Nat) : Int) + (I 55 p)) ∧ ((((s / 8) * 8 : Nat) : Int) + (I 55 p)) < 320]) (z' := (81, [some (aR 52), some (aI (p : Int)), some (aI (s : Int)), some (aI (((s / 8) * 8 : Nat) : Int))], [aL (J 83 (((((s / 8) * 8 : Nat) : Int) + (I 55 p)).toNat))], MM N I J)) (by decide +kernel) rfl (show (0 ≤ (p : Int) ∧ (p : Int) < 64) ∧ (inR ((((s / 8) * 8 : Nat) : Int) + (I 55 p))) ∧ (0 ≤ ((((s / 8) * 8 : Nat) : Int) + (I 55 p)) ∧ ((((s / 8) * 8 : Nat) : Int) + (I 55 p)) < 320) from ⟨(by omega), (by unfold inR; omega), (by omega)⟩) ?_
      refine V.rl (by decide +kernel) ?_
      refine ⟨congrArg (fun w => some (aL w)) ?_, rfl⟩
      unfold plS
      simp only [e4]
      exact congrArg (J 83) (by omega)
    | 3, t1, _ =>
      show V 167 (82, [some (aR 52), some (aI (p : Int)), some (aI (s : Int)), some (aI (((s / 8) * 8 : Nat) : Int))], [], MM N I J) _
      have e4 : K 4 p = 3 := by have := t1; omega
      have x55 := r55 (by omega) (by omega)
      have x56 := r56 (by omega) (by omega)
      refine V.blk [(82, .aload 0, 1), (83, .iload 3, 1), (84, .aload 0, 1), (85, .getfield 10003, 3), (88, .iload 1, 1), (89, .iaload, 1), (90, .iadd, 1), (91, .aload 0, 1), (92, .getfield 10004, 3), (95, .iload 1, 1), (96, .iaload, 1)] (ps := [0 ≤ (p : Int) ∧ (p : Int) < 64, inR ((((s / 8) * 8 : Nat) : Int) + (I 55 p)), 0 ≤ (p : Int) ∧ (p : Int) < 64]) (z' := (97, [some (aR 52), some (aI (p : Int)), some (aI (s : Int)), some (aI (((s / 8) * 8 : Nat) : Int))], [aI (I 56 p), aI ((((s / 8) * 8 : Nat) : Int) + (I 55 p)), aR 52], MM N I J)) (by decide +kernel) rfl (show (0 ≤ (p : Int) ∧ (p : Int) < 64) ∧ (inR ((((s / 8) * 8 : Nat) : Int) + (I 55 p))) ∧ (0 ≤ (p : Int) ∧ (p : Int) < 64) from ⟨(by omega), (by unfold inR; omega), (by omega)⟩) ?_
      rw [show ((s / 8 * 8 : Nat) : Int) + I 55 p = ((s / 8 * 8 + (K 5 p).toNat : Nat) : Int) by omega, show I 56 p = (((K 6 p).toNat : Nat) : Int) by omega]
      refine V.cv (c := 166) (na := 3) (o := 10) (a := 52) [aI (((K 6 p).toNat : Nat) : Int), aI ((s / 8 * 8 + (K 5 p).toNat : Nat) : Int)] [] (by decide +kernel) rfl rfl rfl rfl rfl (V.pr (m_through hm hH (by omega) (by omega)) ?_)
      show V 167 (100, [some (aR 52), some (aI (p : Int)), some (aI (s : Int)), some (aI (((s / 8) * 8 : Nat) : Int))], [aL (mkI (ThrB K cp (J 83) (s / 8 * 8 + (K 5 p).toNat) (K 6 p).toNat))], MM N I J) _
      refine V.rl (by decide +kernel) ?_
      refine ⟨congrArg (fun w => some (aL w)) ?_, rfl⟩
      unfold plS
      simp only [e4]
      rfl
    | 4, t1, _ =>
      show V 167 (101, [some (aR 52), some (aI (p : Int)), some (aI (s : Int)), some (aI (((s / 8) * 8 : Nat) : Int))], [], MM N I J) _
      have e4 : K 4 p = 4 := by have := t1; omega
      have x55 := r55 (by omega) (by omega)
      have x56 := r56 (by omega) (by omega)
      refine V.blk [(101, .aload 0, 1), (102, .getfield 10046, 3), (105, .aload 0, 1), (106, .getfield 10003, 3), (109, .iload 1, 1), (110, .iaload, 1), (111, .laload, 1), (112, .aload 0, 1), (113, .getfield 10046, 3), (116, .aload 0, 1), (117, .getfield 10004, 3), (120, .iload 1, 1), (121, .iaload, 1), (122, .laload, 1), (123, .lor, 1)] (ps := [0 ≤ (p : Int) ∧ (p : Int) < 64, 0 ≤ (I 55 p) ∧ (I 55 p) < 64, 0 ≤ (p : Int) ∧ (p : Int) < 64, 0 ≤ (I 56 p) ∧ (I 56 p) < 64]) (z' := (124, [some (aR 52), some (aI (p : Int)), some (aI (s : Int)), some (aI (((s / 8) * 8 : Nat) : Int))], [aL ((J 85 ((I 55 p).toNat)) ||| (J 85 ((I 56 p).toNat)))], MM N I J)) (by decide +kernel) rfl (show (0 ≤ (p : Int) ∧ (p : Int) < 64) ∧ (0 ≤ (I 55 p) ∧ (I 55 p) < 64) ∧ (0 ≤ (p : Int) ∧ (p : Int) < 64) ∧ (0 ≤ (I 56 p) ∧ (I 56 p) < 64) from ⟨(by omega), (by omega), (by omega), (by omega)⟩) ?_
      refine V.rl (by decide +kernel) ?_
      refine ⟨congrArg (fun w => some (aL w)) ?_, rfl⟩
      unfold plS
      simp only [e4, x55, x56]
      rfl
    | 5, t1, _ =>
      show V 167 (125, [some (aR 52), some (aI (p : Int)), some (aI (s : Int)), some (aI (((s / 8) * 8 : Nat) : Int))], [], MM N I J) _
      have e4 : K 4 p = 5 := by have := t1; omega
      have x55 := r55 (by omega) (by omega)
      have x56 := r56 (by omega) (by omega)
      refine V.blk [(125, .aload 0, 1), (126, .getfield 10046, 3), (129, .aload 0, 1), (130, .getfield 10003, 3), (133, .iload 1, 1), (134, .iaload, 1), (135, .laload, 1), (136, .aload 0, 1), (137, .getfield 10046, 3), (140, .aload 0, 1), (141, .getfield 10004, 3), (144, .iload 1, 1), (145, .iaload, 1), (146, .laload, 1), (147, .land, 1)] (ps := [0 ≤ (p : Int) ∧ (p : Int) < 64, 0 ≤ (I 55 p) ∧ (I 55 p) < 64, 0 ≤ (p : Int) ∧ (p : Int) < 64, 0 ≤ (I 56 p) ∧ (I 56 p) < 64]) (z' := (148, [some (aR 52), some (aI (p : Int)), some (aI (s : Int)), some (aI (((s / 8) * 8 : Nat) : Int))], [aL ((J 85 ((I 55 p).toNat)) &&& (J 85 ((I 56 p).toNat)))], MM N I J)) (by decide +kernel) rfl (show (0 ≤ (p : Int) ∧ (p : Int) < 64) ∧ (0 ≤ (I 55 p) ∧ (I 55 p) < 64) ∧ (0 ≤ (p : Int) ∧ (p : Int) < 64) ∧ (0 ≤ (I 56 p) ∧ (I 56 p) < 64) from ⟨(by omega), (by omega), (by omega), (by omega)⟩) ?_
      refine V.rl (by decide +kernel) ?_
      refine ⟨congrArg (fun w => some (aL w)) ?_, rfl⟩
      unfold plS
      simp only [e4, x55, x56]
      rfl
    | 6, t1, _ =>
      show V 167 (149, [some (aR 52), some (aI (p : Int)), some (aI (s : Int)), some (aI (((s / 8) * 8 : Nat) : Int))], [], MM N I J) _
      have e4 : K 4 p = 6 := by have := t1; omega
      have x55 := r55 (by omega) (by omega)
      have x56 := r56 (by omega) (by omega)
      refine V.blk [(149, .aload 0, 1), (150, .getfield 10046, 3), (153, .aload 0, 1), (154, .getfield 10003, 3), (157, .iload 1, 1), (158, .iaload, 1), (159, .laload, 1), (160, .aload 0, 1), (161, .getfield 10046, 3), (164, .aload 0, 1), (165, .getfield 10004, 3), (168, .iload 1, 1), (169, .iaload, 1), (170, .laload, 1), (171, .jsr_w (-1), 3), (174, .lxor, 1), (175, .land, 1)] (ps := [0 ≤ (p : Int) ∧ (p : Int) < 64, 0 ≤ (I 55 p) ∧ (I 55 p) < 64, 0 ≤ (p : Int) ∧ (p : Int) < 64, 0 ≤ (I 56 p) ∧ (I 56 p) < 64]) (z' := (176, [some (aR 52), some (aI (p : Int)), some (aI (s : Int)), some (aI (((s / 8) * 8 : Nat) : Int))], [aL ((J 85 ((I 55 p).toNat)) &&& ((J 85 ((I 56 p).toNat)) ^^^ (Int64.ofInt (-1))))], MM N I J)) (by decide +kernel) rfl (show (0 ≤ (p : Int) ∧ (p : Int) < 64) ∧ (0 ≤ (I 55 p) ∧ (I 55 p) < 64) ∧ (0 ≤ (p : Int) ∧ (p : Int) < 64) ∧ (0 ≤ (I 56 p) ∧ (I 56 p) < 64) from ⟨(by omega), (by omega), (by omega), (by omega)⟩) ?_
      refine V.rl (by decide +kernel) ?_
      refine ⟨congrArg (fun w => some (aL w)) ?_, rfl⟩
      unfold plS
      simp only [e4, x55, x56]
      rfl
    | n + 7, _, hlt => exact absurd hlt (by simp)
  · show V 167 (177, [some (aR 52), some (aI (p : Int)), some (aI (s : Int)), some (aI (((s / 8) * 8 : Nat) : Int))], [], MM N I J) _
    try simp only [b2_cast, b2_ncast, Classical.not_not, lcm_lt, lcm_ge, lcm_gt, lcm_le, lcm_eq, b2_0, b2_n0, b2_e1, b2_e0, Bool.not_eq_false, Bool.not_eq_true, decide_eq_true_eq, decide_eq_false_iff_not, Classical.not_not] at bh2
    refine V.blk [(177, .jsr_w 0, 1)] (ps := []) (z' := (178, [some (aR 52), some (aI (p : Int)), some (aI (s : Int)), some (aI (((s / 8) * 8 : Nat) : Int))], [aL (Int64.ofInt 0)], MM N I J)) (by decide +kernel) rfl trivial ?_
    refine V.rl (by decide +kernel) ?_
    refine ⟨congrArg (fun w => some (aL w)) ?_, rfl⟩
    unfold plS
    rw [if_neg (by omega), if_neg (by omega), if_neg (by omega), if_neg (by omega), if_neg (by omega), if_neg (by omega), if_neg (by omega)]
theorem m_nodeOf {N : Nat} {I : MI} {J : MJ} {K : MI} {s : Nat} (hT : RTh K I) (hk : kdOK K) (hs : (s : Int) < K 1 1 * 8) (h40 : K 1 1 ≤ 40) : CT 168 [aR 52, aI (s : Int)] (MM N I J) (pure1 N I J (aI (kS K s : Nat))) := by
  have h53 := hT.2 (s / 8) (by omega)
  have hkd := hk (s / 8) (by omega)
  have hkn := kn_in hk (s := (s : Int)) (by omega)
  refine CT.ofV (n := 2) (ls := [some (aR 52), some (aI (s : Int))]) rfl rfl rfl ?_
  refine V.blk [(0, .bipush 8, 2), (2, .aload 0, 1), (3, .getfield 10000, 3), (6, .iload 1, 1), (7, .bipush 8, 2), (9, .idiv, 1), (10, .iaload, 1), (11, .imul, 1), (12, .iload 1, 1), (13, .bipush 8, 2), (15, .irem, 1), (16, .iadd, 1)] (ps := [0 ≤ (s : Int) ∧ 0 < 8, 0 ≤ ((s / 8 : Nat) : Int) ∧ ((s / 8 : Nat) : Int) < 40, inR (8 * (I 53 (s / 8))), 0 ≤ (s : Int) ∧ 0 < 8, inR ((8 * (I 53 (s / 8))) + ((s % 8 : Nat) : Int))]) (z' := (17, [some (aR 52), some (aI (s : Int))], [aI ((8 * (I 53 (s / 8))) + ((s % 8 : Nat) : Int))], MM N I J)) (by decide +kernel) rfl (show (0 ≤ (s : Int) ∧ 0 < 8) ∧ (0 ≤ ((s / 8 : Nat) : Int) ∧ ((s / 8 : Nat) : Int) < 40) ∧ (inR (8 * (I 53 (s / 8)))) ∧ (0 ≤ (s : Int) ∧ 0 < 8) ∧ (inR ((8 * (I 53 (s / 8))) + ((s % 8 : Nat) : Int))) from ⟨(by omega), (by omega), (by unfold inR; omega), (by omega), (by unfold inR; omega)⟩) ?_
  refine V.ri (by decide +kernel) ?_
  refine ⟨congrArg (fun w => some (aI w)) ?_, rfl⟩
  unfold kS
  unfold kn at hkn ⊢
  rw [show ((s : Int) / 8).toNat = s / 8 by omega] at hkn ⊢
  omega
theorem l_asked2 {N : Nat} {I : MI} {J : MJ} {K : MI} {L : MJ} {cp : Nat → Bool} {s r : Nat} (hH : SH K L cp I) (hs : (s : Int) < K 1 1 * 8) (er : K 7 (kS K s) = (r : Int)) (hr : r < 64) (hw : ∀ q, q < 64 → (I 80 q ≠ 0 ↔ askd L r q = true)) : ∀ (k p : Nat) (J' : MJ), r + 2 ≤ k + p → p ≤ r + 1 → (∀ i, i ≠ 85 → J' i = J i) → (∀ q, q < p → askd L r q = true → J' 85 q = pl K cp (J 83) s q) → V 169 (18, [some (aR 52), some (aI (s : Int)), some (aI (r : Int)), some (aI (p : Int))], [], MM N I J') (fun rv M' => ∃ J', rv = some (aL (tellV K cp (J 83) s)) ∧ M' = MM N I J' ∧ (∀ i, i ≠ 85 → J' i = J i) ∧ ∀ q, q < 64 → askd L r q = true → J' 85 q = pl K cp (J 83) s q) := by
  intro k
  induction k with
  | zero => intro p J' h1 h2; exfalso; omega
  | succ k ih =>
    intro p J' h1 h2 ho ht
    have h40 := hH.1.1.2.1
    have e83 : J' 83 = J 83 := ho 83 (by decide)
    have hsv := hH.1.2.2.1
    have hl := hH.1.2.1.rt.2.1
    refine V.blk [(18, .iload 3, 1), (19, .iload 2, 1), (20, .if_icmp .gt 50, 3)] (ps := []) (z' := (brc .gt (p : Int) (r : Int) 50 23, [some (aR 52), some (aI (s : Int)), some (aI (r : Int)), some (aI (p : Int))], [], MM N I J')) (by decide +kernel) rfl trivial ?_
    refine V.gt (fun bh1 => ?_) (fun bh2 => ?_)
    · skip
      try simp only [b2_cast, b2_ncast, Classical.not_not, lcm_lt, lcm_ge, lcm_gt, lcm_le, lcm_eq, b2_0, b2_n0, b2_e1, b2_e0, Bool.not_eq_false, Bool.not_eq_true, decide_eq_true_eq, decide_eq_false_iff_not, Classical.not_not] at bh1
      refine V.blk [(50, .aload 0, 1), (51, .getfield 10046, 3), (54, .iload 2, 1), (55, .laload, 1)] (ps := [0 ≤ (r : Int) ∧ (r : Int) < 64]) (z' := (56, [some (aR 52), some (aI (s : Int)), some (aI (r : Int)), some (aI (p : Int))], [aL (J' 85 r)], MM N I J')) (by decide +kernel) rfl (show (0 ≤ (r : Int) ∧ (r : Int) < 64) from (by omega)) ?_
      refine V.rl (by decide +kernel) ?_
      have hrr : askd L r r = true := by rw [askd_or]; exact Or.inl (sv_self hsv hr)
      refine ⟨J', ?_, rfl, ho, fun q hq hqa => ?_⟩
      · unfold tellV
        rw [if_neg (by omega), er, ht r (by omega) hrr]
        rfl
      · have : q ≤ r := by
          have := sv_lt hsv hl r hr q hq
          rw [askd_or] at hqa
          rcases hqa with w | w
          · exact this.1 w
          · exact Nat.le_of_lt (this.2 w)
        exact ht q (by omega) hqa
    · skip
      try simp only [b2_cast, b2_ncast, Classical.not_not, lcm_lt, lcm_ge, lcm_gt, lcm_le, lcm_eq, b2_0, b2_n0, b2_e1, b2_e0, Bool.not_eq_false, Bool.not_eq_true, decide_eq_true_eq, decide_eq_false_iff_not, Classical.not_not] at bh2
      refine V.blk [(23, .aload 0, 1), (24, .getfield 10035, 3), (27, .iload 3, 1), (28, .baload, 1), (29, .ifCond .eq 44, 3)] (ps := [0 ≤ (p : Int) ∧ (p : Int) < 64]) (z' := (brc .eq (I 80 p) 0 44 32, [some (aR 52), some (aI (s : Int)), some (aI (r : Int)), some (aI (p : Int))], [], MM N I J')) (by decide +kernel) rfl (show (0 ≤ (p : Int) ∧ (p : Int) < 64) from (by omega)) ?_
      refine V.eq (fun bh3 => ?_) (fun bh4 => ?_)
      · skip
        try simp only [b2_cast, b2_ncast, Classical.not_not, lcm_lt, lcm_ge, lcm_gt, lcm_le, lcm_eq, b2_0, b2_n0, b2_e1, b2_e0, Bool.not_eq_false, Bool.not_eq_true, decide_eq_true_eq, decide_eq_false_iff_not, Classical.not_not] at bh3
        refine V.blk [(44, .iinc 3 1, 3), (47, .goto 18, 3)] (ps := [inR ((p : Int) + 1)]) (z' := (18, [some (aR 52), some (aI (s : Int)), some (aI (r : Int)), some (aI ((p + 1 : Nat) : Int))], [], MM N I J')) (by decide +kernel) rfl (show (inR ((p : Int) + 1)) from (by unfold inR; omega)) ?_
        refine ih (p + 1) J' (by omega) (by omega) ho (fun q hq hqa => ?_)
        by_cases e : q = p
        · subst e
          exact absurd (by assumption) ((hw q (by omega)).mpr hqa)
        · exact ht q (by omega) hqa
      · skip
        try simp only [b2_cast, b2_ncast, Classical.not_not, lcm_lt, lcm_ge, lcm_gt, lcm_le, lcm_eq, b2_0, b2_n0, b2_e1, b2_e0, Bool.not_eq_false, Bool.not_eq_true, decide_eq_true_eq, decide_eq_false_iff_not, Classical.not_not] at bh4
        refine V.blk [(32, .aload 0, 1), (33, .getfield 10046, 3), (36, .iload 3, 1), (37, .aload 0, 1), (38, .iload 3, 1), (39, .iload 1, 1)] (ps := []) (z' := (40, [some (aR 52), some (aI (s : Int)), some (aI (r : Int)), some (aI (p : Int))], [aI (s : Int), aI (p : Int), aR 52, aI (p : Int), aR 85], MM N I J')) (by decide +kernel) rfl trivial ?_
        refine V.cv (c := 167) (na := 3) (o := 10) (a := 52) [aI (s : Int), aI (p : Int)] [aI (p : Int), aR 85] (by decide +kernel) rfl rfl rfl rfl rfl (V.pr (m_ruled (cp := cp) hH (by omega) (by omega)) ?_)
        show V 169 (43, [some (aR 52), some (aI (s : Int)), some (aI (r : Int)), some (aI (p : Int))], [aL (plS K cp (J' 83) s (J' 85) p), aI (p : Int), aR 85], MM N I J') _
        refine V.blk [(43, .lastore, 1), (44, .iinc 3 1, 3), (47, .goto 18, 3)] (ps := [0 ≤ (p : Int) ∧ (p : Int) < 64, inR ((p : Int) + 1)]) (z' := (18, [some (aR 52), some (aI (s : Int)), some (aI (r : Int)), some (aI ((p + 1 : Nat) : Int))], [], MM N I (ma J' 85 (ma (J' 85) p (plS K cp (J' 83) s (J' 85) p))))) (by decide +kernel) rfl (show (0 ≤ (p : Int) ∧ (p : Int) < 64) ∧ (inR ((p : Int) + 1)) from ⟨(by omega), (by unfold inR; omega)⟩) ?_
        refine V.nJ (fun J5 eJ5 => ?_)
        have ha : askd L r p = true := (hw p (by omega)).mp (by assumption)
        refine ih (p + 1) _ (by omega) (by omega) (fun i h85 => ?_) (fun q hq hqa => ?_)
        · subst eJ5
          rw [ma_ne _ _ h85]
          exact ho i h85
        · subst eJ5
          rw [ma_self]
          by_cases e : q = p
          · subst e
            rw [ma_self, pl_eq hl (by omega), e83]
            refine plS_T fun h4 h6 => ?_
            have hlq := hl q (by omega) h4 h6
            have cl := askd_clo hsv hl hr (by omega) h4 h6 ha
            exact ⟨ht _ (by omega) cl.1, ht _ (by omega) cl.2⟩
          · rw [ma_ne _ _ e]
            exact ht q (by omega) hqa
theorem m_asked {N : Nat} {I : MI} {J : MJ} {K : MI} {L : MJ} {cp : Nat → Bool} {s r : Nat} (hH : SH K L cp I) (hs : (s : Int) < K 1 1 * 8) (er : K 7 (kS K s) = (r : Int)) (hr : r < 64) : CT 169 [aR 52, aI (s : Int)] (MM N I J) (fun rv M' => ∃ I' J', rv = some (aL (tellV K cp (J 83) s)) ∧ M' = MM N I' J' ∧ (∀ i, i ≠ 80 → i ≠ 81 → I' i = I i) ∧ (∀ q, q < 64 → (I' 80 q ≠ 0 ↔ askd L r q = true)) ∧ (∀ i, i ≠ 85 → J' i = J i) ∧ ∀ q, q < 64 → askd L r q = true → J' 85 q = pl K cp (J 83) s q) := by
  have hT := hH.1.2.2.2.2.2.2.1
  have hkd := hH.1.1.2.2
  have h40 := hH.1.1.2.1
  have hks := kS_lt hkd (s := s) (by omega)
  have h58 : I 58 (kS K s) = (r : Int) := (hH.1.2.2.2.2.2.2.2.1.2 _ hks).trans er
  refine CT.ofV (n := 4) (ls := [some (aR 52), some (aI (s : Int)), none, none]) rfl rfl rfl ?_
  refine V.blk [(0, .aload 0, 1), (1, .getfield 10006, 3), (4, .aload 0, 1), (5, .iload 1, 1)] (ps := []) (z' := (6, [some (aR 52), some (aI (s : Int)), none, none], [aI (s : Int), aR 52, aR 58], MM N I J)) (by decide +kernel) rfl trivial ?_
  refine V.cv (c := 168) (na := 2) (o := 10) (a := 52) [aI (s : Int)] [aR 58] (by decide +kernel) rfl rfl rfl rfl rfl (V.pr (m_nodeOf (K := K) hT hkd (by omega) (by omega)) ?_)
  show V 169 (9, [some (aR 52), some (aI (s : Int)), none, none], [aI ((kS K s : Nat) : Int), aR 58], MM N I J) _
  refine V.blk [(9, .iaload, 1)] (ps := [0 ≤ ((kS K s : Nat) : Int) ∧ ((kS K s : Nat) : Int) < 48]) (z' := (10, [some (aR 52), some (aI (s : Int)), none, none], [aI (I 58 (kS K s))], MM N I J)) (by decide +kernel) rfl (show (0 ≤ ((kS K s : Nat) : Int) ∧ ((kS K s : Nat) : Int) < 48) from (by omega)) ?_
  rw [h58]
  refine V.blk [(10, .istore 2, 1), (11, .aload 0, 1), (12, .iload 2, 1)] (ps := []) (z' := (13, [some (aR 52), some (aI (s : Int)), some (aI (r : Int)), none], [aI (r : Int), aR 52], MM N I J)) (by decide +kernel) rfl trivial ?_
  refine V.cv (c := 126) (na := 2) (o := 10) (a := 52) [aI (r : Int)] [] (by decide +kernel) rfl rfl rfl rfl rfl ((m_want hr hH.1).mono (fun rv M1 q => ?_))
  obtain ⟨rfl, IW, rfl, w1, w2⟩ := q
  show V 169 (16, [some (aR 52), some (aI (s : Int)), some (aI (r : Int)), none], [], MM N IW J) _
  refine V.blk [(16, .bipush 0, 1), (17, .istore 3, 1)] (ps := []) (z' := (18, [some (aR 52), some (aI (s : Int)), some (aI (r : Int)), some (aI 0)], [], MM N IW J)) (by decide +kernel) rfl trivial ?_
  have hH2 : SH K L cp IW := hH.keep fun i hi => w1 i (by omega) (by omega)
  refine (l_asked2 (N := N) (J := J) hH2 hs er hr (fun q hq => (w2 q hq).1) (r + 2) 0 J (by omega) (by omega) (fun _ _ => rfl) (fun q hq => by omega)).mono (fun rv M2 q => ?_)
  obtain ⟨J9, rfl, rfl, g1, g2⟩ := q
  exact ⟨IW, J9, rfl, rfl, w1, fun q hq => (w2 q hq).1, g1, g2⟩
