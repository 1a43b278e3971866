/-! ===== the reference: turns that are made ===== -/
theorem l_mfind {N : Nat} {I : MI} {J : MJ} {P : MI} {th rl u t : Int} {m : Nat} (hm : P 10 9 = m) (h4 : m ≤ 400) (hP : RPr P I) (ht : ∀ p : Nat, p < m → P 15 p ≤ t ∧ (P 16 p = -1 ∨ P 16 p ≤ t)) : ∀ (k p : Nat), m + 1 ≤ k + p → p ≤ m → (∀ j, j < p → stB P th rl u j = false) → V 149 (3, [some (aR 52), some (aI th), some (aI rl), some (aI u), some (aI t), some (aI (p : Int))], [], MM N I J) (pure1 N I J (aI (stF P th rl u))) := by
  intro k
  induction k with
  | zero => intro p h1 h2; exfalso; omega
  | succ k ih =>
    intro p h1 h2 hn
    have e13 : I 52 13 = m := hP.1.trans hm
    have hp := hP.2 p
    have htp := ht p
    have em : (P 10 9).toNat = m := by omega
    refine V.blk [(3, .iload 5, 2), (5, .aload 0, 1), (6, .getfield 10013, 3), (9, .if_icmp .ge 65, 3)] (ps := []) (z' := (brc .ge (p : Int) (I 52 13) 65 12, [some (aR 52), some (aI th), some (aI rl), some (aI u), some (aI t), some (aI (p : Int))], [], MM N I J)) (by decide +kernel) rfl trivial ?_
    refine V.ge (fun bh1 => ?_) (fun bh2 => ?_)
    · skip
      try simp only [b2_cast, b2_ncast, Classical.not_not, lcm_lt, lcm_ge, lcm_gt, lcm_le, lcm_eq, b2_0, b2_n0, Bool.not_eq_false, Bool.not_eq_true, decide_eq_true_eq, decide_eq_false_iff_not] at bh1
      refine V.blk [(65, .bipush (-1), 1)] (ps := []) (z' := (66, [some (aR 52), some (aI th), some (aI rl), some (aI u), some (aI t), some (aI (p : Int))], [aI (-1)], MM N I J)) (by decide +kernel) rfl trivial ?_
      refine V.ri (by decide +kernel) ?_
      refine ⟨congrArg (fun w => some (aI w)) ?_, rfl⟩
      unfold stF
      rw [em, show m = p by omega]
      exact (fndF_no p hn).symm
    · skip
      try simp only [b2_cast, b2_ncast, Classical.not_not, lcm_lt, lcm_ge, lcm_gt, lcm_le, lcm_eq, b2_0, b2_n0, Bool.not_eq_false, Bool.not_eq_true, decide_eq_true_eq, decide_eq_false_iff_not] at bh2
      have hlt : p < m := by omega
      obtain ⟨g1, g2, g3, g4, g5, g6⟩ := hp (by omega)
      have htq := htp hlt
      refine V.blk [(12, .aload 0, 1), (13, .getfield 10007, 3), (16, .iload 5, 2), (18, .iaload, 1), (19, .iload 1, 1), (20, .if_icmp .ne 59, 3)] (ps := [0 ≤ (p : Int) ∧ (p : Int) < 420]) (z' := (brc .ne (I 59 p) th 59 23, [some (aR 52), some (aI th), some (aI rl), some (aI u), some (aI t), some (aI (p : Int))], [], MM N I J)) (by decide +kernel) rfl (show (0 ≤ (p : Int) ∧ (p : Int) < 420) from (by omega)) ?_
      refine V.ne (fun bh3 => ?_) (fun bh4 => ?_)
      · skip
        try simp only [b2_cast, b2_ncast, Classical.not_not, lcm_lt, lcm_ge, lcm_gt, lcm_le, lcm_eq, b2_0, b2_n0, Bool.not_eq_false, Bool.not_eq_true, decide_eq_true_eq, decide_eq_false_iff_not] at bh3
        refine V.blk [(59, .iinc 5 1, 3), (62, .goto 3, 3)] (ps := [inR ((p : Int) + 1)]) (z' := (3, [some (aR 52), some (aI th), some (aI rl), some (aI u), some (aI t), some (aI ((p + 1 : Nat) : Int))], [], MM N I J)) (by decide +kernel) rfl (show (inR ((p : Int) + 1)) from (by unfold inR; omega)) ?_
        refine ih (p + 1) (by omega) (by omega) (fun j hj => ?_)
        by_cases e : j = p
        · subst e
          unfold stB
          exact decide_eq_false (by omega)
        · exact hn j (by omega)
      · skip
        try simp only [b2_cast, b2_ncast, Classical.not_not, lcm_lt, lcm_ge, lcm_gt, lcm_le, lcm_eq, b2_0, b2_n0, Bool.not_eq_false, Bool.not_eq_true, decide_eq_true_eq, decide_eq_false_iff_not] at bh4
        refine V.blk [(23, .aload 0, 1), (24, .getfield 10008, 3), (27, .iload 5, 2), (29, .iaload, 1), (30, .iload 2, 1), (31, .if_icmp .ne 59, 3)] (ps := [0 ≤ (p : Int) ∧ (p : Int) < 420]) (z' := (brc .ne (I 60 p) rl 59 34, [some (aR 52), some (aI th), some (aI rl), some (aI u), some (aI t), some (aI (p : Int))], [], MM N I J)) (by decide +kernel) rfl (show (0 ≤ (p : Int) ∧ (p : Int) < 420) from (by omega)) ?_
        refine V.ne (fun bh5 => ?_) (fun bh6 => ?_)
        · skip
          try simp only [b2_cast, b2_ncast, Classical.not_not, lcm_lt, lcm_ge, lcm_gt, lcm_le, lcm_eq, b2_0, b2_n0, Bool.not_eq_false, Bool.not_eq_true, decide_eq_true_eq, decide_eq_false_iff_not] at bh5
          refine V.blk [(59, .iinc 5 1, 3), (62, .goto 3, 3)] (ps := [inR ((p : Int) + 1)]) (z' := (3, [some (aR 52), some (aI th), some (aI rl), some (aI u), some (aI t), some (aI ((p + 1 : Nat) : Int))], [], MM N I J)) (by decide +kernel) rfl (show (inR ((p : Int) + 1)) from (by unfold inR; omega)) ?_
          refine ih (p + 1) (by omega) (by omega) (fun j hj => ?_)
          by_cases e : j = p
          · subst e
            unfold stB
            exact decide_eq_false (by omega)
          · exact hn j (by omega)
        · skip
          try simp only [b2_cast, b2_ncast, Classical.not_not, lcm_lt, lcm_ge, lcm_gt, lcm_le, lcm_eq, b2_0, b2_n0, Bool.not_eq_false, Bool.not_eq_true, decide_eq_true_eq, decide_eq_false_iff_not] at bh6
          refine V.blk [(34, .aload 0, 1), (35, .getfield 10009, 3), (38, .iload 5, 2), (40, .iaload, 1), (41, .iload 3, 1), (42, .if_icmp .ne 59, 3)] (ps := [0 ≤ (p : Int) ∧ (p : Int) < 420]) (z' := (brc .ne (I 61 p) u 59 45, [some (aR 52), some (aI th), some (aI rl), some (aI u), some (aI t), some (aI (p : Int))], [], MM N I J)) (by decide +kernel) rfl (show (0 ≤ (p : Int) ∧ (p : Int) < 420) from (by omega)) ?_
          refine V.ne (fun bh7 => ?_) (fun bh8 => ?_)
          · skip
            try simp only [b2_cast, b2_ncast, Classical.not_not, lcm_lt, lcm_ge, lcm_gt, lcm_le, lcm_eq, b2_0, b2_n0, Bool.not_eq_false, Bool.not_eq_true, decide_eq_true_eq, decide_eq_false_iff_not] at bh7
            refine V.blk [(59, .iinc 5 1, 3), (62, .goto 3, 3)] (ps := [inR ((p : Int) + 1)]) (z' := (3, [some (aR 52), some (aI th), some (aI rl), some (aI u), some (aI t), some (aI ((p + 1 : Nat) : Int))], [], MM N I J)) (by decide +kernel) rfl (show (inR ((p : Int) + 1)) from (by unfold inR; omega)) ?_
            refine ih (p + 1) (by omega) (by omega) (fun j hj => ?_)
            by_cases e : j = p
            · subst e
              unfold stB
              exact decide_eq_false (by omega)
            · exact hn j (by omega)
          · skip
            try simp only [b2_cast, b2_ncast, Classical.not_not, lcm_lt, lcm_ge, lcm_gt, lcm_le, lcm_eq, b2_0, b2_n0, Bool.not_eq_false, Bool.not_eq_true, decide_eq_true_eq, decide_eq_false_iff_not] at bh8
            refine V.blk [(45, .aload 0, 1), (46, .iload 5, 2), (48, .iload 4, 2)] (ps := []) (z' := (50, [some (aR 52), some (aI th), some (aI rl), some (aI u), some (aI t), some (aI (p : Int))], [aI t, aI (p : Int), aR 52], MM N I J)) (by decide +kernel) rfl trivial ?_
            refine V.cv (c := 148) (na := 3) (o := 10) (a := 52) [aI t, aI (p : Int)] [] (by decide +kernel) rfl rfl rfl rfl rfl (V.pr (m_X10_isInForce (by omega)) ?_)
            show V 149 (53, [some (aR 52), some (aI th), some (aI rl), some (aI u), some (aI t), some (aI (p : Int))], [aI (b2 (decide (I 63 p ≤ t ∧ (I 64 p = -1 ∨ t < I 64 p))))], MM N I J) _
            refine V.blk [(53, .ifCond .eq 59, 3)] (ps := []) (z' := (brc .eq (b2 (decide (I 63 p ≤ t ∧ (I 64 p = -1 ∨ t < I 64 p)))) 0 59 56, [some (aR 52), some (aI th), some (aI rl), some (aI u), some (aI t), some (aI (p : Int))], [], MM N I J)) (by decide +kernel) rfl trivial ?_
            refine V.eq (fun bh9 => ?_) (fun bh10 => ?_)
            · skip
              try simp only [b2_cast, b2_ncast, Classical.not_not, lcm_lt, lcm_ge, lcm_gt, lcm_le, lcm_eq, b2_0, b2_n0, Bool.not_eq_false, Bool.not_eq_true, decide_eq_true_eq, decide_eq_false_iff_not] at bh9
              refine V.blk [(59, .iinc 5 1, 3), (62, .goto 3, 3)] (ps := [inR ((p : Int) + 1)]) (z' := (3, [some (aR 52), some (aI th), some (aI rl), some (aI u), some (aI t), some (aI ((p + 1 : Nat) : Int))], [], MM N I J)) (by decide +kernel) rfl (show (inR ((p : Int) + 1)) from (by unfold inR; omega)) ?_
              refine ih (p + 1) (by omega) (by omega) (fun j hj => ?_)
              by_cases e : j = p
              · subst e
                unfold stB
                exact decide_eq_false (by omega)
              · exact hn j (by omega)
            · skip
              try simp only [b2_cast, b2_ncast, Classical.not_not, lcm_lt, lcm_ge, lcm_gt, lcm_le, lcm_eq, b2_0, b2_n0, Bool.not_eq_false, Bool.not_eq_true, decide_eq_true_eq, decide_eq_false_iff_not] at bh10
              refine V.blk [(56, .iload 5, 2)] (ps := []) (z' := (58, [some (aR 52), some (aI th), some (aI rl), some (aI u), some (aI t), some (aI (p : Int))], [aI (p : Int)], MM N I J)) (by decide +kernel) rfl trivial ?_
              refine V.ri (by decide +kernel) ?_
              refine ⟨congrArg (fun w => some (aI w)) ?_, rfl⟩
              unfold stF
              rw [em]
              symm
              refine fndF_at hn ?_ m (by omega)
              unfold stB
              exact decide_eq_true (by omega)
theorem m_find {N : Nat} {I : MI} {J : MJ} {P : MI} {th rl u t : Int} {m : Nat} (hm : P 10 9 = m) (h4 : m ≤ 400) (hP : RPr P I) (ht : ∀ p : Nat, p < m → P 15 p ≤ t ∧ (P 16 p = -1 ∨ P 16 p ≤ t)) : CT 149 [aR 52, aI th, aI rl, aI u, aI t] (MM N I J) (pure1 N I J (aI (stF P th rl u))) := by
  refine CT.ofV (n := 6) (ls := [some (aR 52), some (aI th), some (aI rl), some (aI u), some (aI t), none]) rfl rfl rfl ?_
  refine V.blk [(0, .bipush 0, 1), (1, .istore 5, 2)] (ps := []) (z' := (3, [some (aR 52), some (aI th), some (aI rl), some (aI u), some (aI t), some (aI 0)], [], MM N I J)) (by decide +kernel) rfl trivial ?_
  exact l_mfind hm h4 hP ht (m + 1) 0 (by omega) (by omega) (fun j hj => by omega)
/-- a turn is open: its pairs are P's, of K are what lies before it -/
def RO (K P I : MI) : Prop := RPr P I ∧ I 52 18 = K 10 13 + 1 ∧ I 52 17 = P 10 11 ∧ (∀ c : Nat, (c : Int) < P 10 11 → 0 ≤ I 67 c ∧ I 67 c ≤ 1 ∧ P 20 c = 2 * I 66 c + I 67 c) ∧
  (∀ c : Nat, (c : Int) < P 10 11 → (K 10 11 ≤ (c : Int) → I 65 c = K 10 13 + 1) ∧ ((c : Int) < K 10 11 → I 65 c ≤ K 10 13)) ∧ ∀ c t : Nat, (c : Int) < K 10 11 → (t : Int) ≤ K 10 13 → ((c : Int) < K 21 t ↔ I 65 c ≤ t)
theorem RO.add {K P I I' : MI} {th rl u e : Int} (h : RO K P I) (hK : K 10 11 ≤ P 10 11) (h0 : 0 ≤ P 10 9) (h1 : 0 ≤ K 10 11) (h13 : P 10 13 = K 10 13)
    (e13 : I' 52 13 = I 52 13 + 1) (e18 : I' 52 18 = I 52 18) (e17 : I' 52 17 = I 52 17 + 1) (e59 : I' 59 = ma (I 59) (P 10 9).toNat th) (e60 : I' 60 = ma (I 60) (P 10 9).toNat rl) (e61 : I' 61 = ma (I 61) (P 10 9).toNat u) (e62 : I' 62 = ma (I 62) (P 10 9).toNat e) (e63 : I' 63 = ma (I 63) (P 10 9).toNat (K 10 13 + 1)) (e64 : I' 64 = ma (I 64) (P 10 9).toNat (-1))
    (e65 : I' 65 = ma (I 65) (P 10 11).toNat (K 10 13 + 1)) (e66 : I' 66 = ma (I 66) (P 10 11).toNat (P 10 9)) (e67 : I' 67 = ma (I 67) (P 10 11).toNat 0) : RO K (addU P th rl u e) I' := by
  obtain ⟨hP, g18, g17, gL, gT, gU⟩ := h
  obtain ⟨v, v11, v12, v13, v14, v15, v16, v17, v18, v19, v20, v9, vch, vk⟩ := addU_v P th rl u e
  refine ⟨⟨by rw [e13, v9, hP.1], fun p hp => ?_⟩, by rw [e18]; exact g18, by rw [e17, vch, g17], fun c hc => ?_, fun c hc => ?_, fun c t hc ht => ?_⟩
  · rw [v9] at hp
    rw [e59, e60, e61, e62, e63, e64, v11, v12, v13, v14, v15, v16]
    by_cases q : p = (P 10 9).toNat
    · subst q
      rw [ma_self, ma_self, ma_self, ma_self, ma_self, ma_self, ma_self, ma_self, ma_self, ma_self, ma_self, ma_self]
      exact ⟨rfl, rfl, rfl, rfl, by omega, rfl⟩
    · simp only [ma_ne _ _ q]
      exact hP.2 p (by omega)
  · rw [vch] at hc
    rw [v20, e66, e67]
    by_cases q : c = (P 10 11).toNat
    · subst q
      rw [ma_self, ma_self, ma_self]
      omega
    · rw [ma_ne _ _ q, ma_ne _ _ q, ma_ne _ _ q]
      exact gL c (by omega)
  · rw [vch] at hc
    rw [e65]
    by_cases q : c = (P 10 11).toNat
    · subst q
      rw [ma_self]
      exact ⟨fun _ => rfl, fun w => by omega⟩
    · rw [ma_ne _ _ q]
      exact gT c (by omega)
  · rw [e65, ma_ne _ _ (by omega)]
    exact gU c t hc ht
theorem RO.rem {K P I I' : MI} {p : Nat} (h : RO K P I) (hK : K 10 11 ≤ P 10 11) (h0 : 0 ≤ P 10 9) (h1 : 0 ≤ K 10 11) (h13 : P 10 13 = K 10 13)
    (e13 : I' 52 13 = I 52 13) (e18 : I' 52 18 = I 52 18) (e17 : I' 52 17 = I 52 17 + 1) (eo : ∀ i, 59 ≤ i → i ≤ 63 → I' i = I i) (e64 : I' 64 = ma (I 64) p (K 10 13 + 1))
    (e65 : I' 65 = ma (I 65) (P 10 11).toNat (K 10 13 + 1)) (e66 : I' 66 = ma (I 66) (P 10 11).toNat (p : Int)) (e67 : I' 67 = ma (I 67) (P 10 11).toNat 1) : RO K (remU P (p : Int)) I' := by
  obtain ⟨hP, g18, g17, gL, gT, gU⟩ := h
  obtain ⟨v, v16, v20, vch, vk⟩ := remU_v P (p : Int)
  have v9 := vk 9 (by decide)
  refine ⟨⟨by rw [e13, v9, hP.1], fun q hq => ?_⟩, by rw [e18]; exact g18, by rw [e17, vch, g17], fun c hc => ?_, fun c hc => ?_, fun c t hc ht => ?_⟩
  · rw [v9] at hq
    have g := hP.2 q hq
    rw [eo 59 (by decide) (by decide), eo 60 (by decide) (by decide), eo 61 (by decide) (by decide), eo 62 (by decide) (by decide), eo 63 (by decide) (by decide), e64, v 11 (by decide) (by decide) (by decide), v 12 (by decide) (by decide) (by decide), v 13 (by decide) (by decide) (by decide), v 14 (by decide) (by decide) (by decide), v 15 (by decide) (by decide) (by decide), v16]
    by_cases w : q = p
    · subst w
      have : ((q : Int)).toNat = q := rfl
      rw [this, ma_self, ma_self, h13]
      exact ⟨g.1, g.2.1, g.2.2.1, g.2.2.2.1, g.2.2.2.2.1, rfl⟩
    · have : ((p : Int)).toNat = p := rfl
      rw [this, ma_ne _ _ w, ma_ne _ _ w]
      exact g
  · rw [vch] at hc
    rw [v20, e66, e67]
    by_cases q : c = (P 10 11).toNat
    · subst q
      rw [ma_self, ma_self, ma_self]
      omega
    · rw [ma_ne _ _ q, ma_ne _ _ q, ma_ne _ _ q]
      exact gL c (by omega)
  · rw [vch] at hc
    rw [e65]
    by_cases q : c = (P 10 11).toNat
    · subst q
      rw [ma_self]
      exact ⟨fun _ => rfl, fun w => by omega⟩
    · rw [ma_ne _ _ q]
      exact gT c (by omega)
  · rw [e65, ma_ne _ _ (by omega)]
    exact gU c t hc ht
/-- undone, the last one first -/
theorem RO.unadd {K P I I' : MI} {th rl u e : Int} (h : RO K (addU P th rl u e) I) (h0 : 0 ≤ P 10 9) (h1 : 0 ≤ P 10 11) (e13 : I' 52 13 = I 52 13 - 1) (e18 : I' 52 18 = I 52 18) (e17 : I' 52 17 = I 52 17 - 1) (eo : ∀ i, 59 ≤ i → i ≤ 67 → I' i = I i) : RO K P I' := by
  obtain ⟨hP, g18, g17, gL, gT, gU⟩ := h
  obtain ⟨v, v11, v12, v13, v14, v15, v16, v17, v18, v19, v20, v9, vch, vk⟩ := addU_v P th rl u e
  refine ⟨⟨by rw [e13, hP.1, v9]; omega, fun p hp => ?_⟩, by rw [e18]; exact g18, by rw [e17, g17, vch]; omega, fun c hc => ?_, fun c hc => ?_, fun c t hc ht => ?_⟩
  · have g := hP.2 p (by rw [v9]; omega)
    have q : p ≠ (P 10 9).toNat := by omega
    rw [v11, v12, v13, v14, v15, v16, ma_ne _ _ q, ma_ne _ _ q, ma_ne _ _ q, ma_ne _ _ q, ma_ne _ _ q, ma_ne _ _ q] at g
    rw [eo 59 (by decide) (by decide), eo 60 (by decide) (by decide), eo 61 (by decide) (by decide), eo 62 (by decide) (by decide), eo 63 (by decide) (by decide), eo 64 (by decide) (by decide)]
    exact g
  · have g := gL c (by rw [vch]; omega)
    rw [v20, ma_ne _ _ (show c ≠ (P 10 11).toNat by omega)] at g
    rw [eo 66 (by decide) (by decide), eo 67 (by decide) (by decide)]
    exact g
  · rw [eo 65 (by decide) (by decide)]
    exact gT c (by rw [vch]; omega)
  · rw [eo 65 (by decide) (by decide)]
    exact gU c t hc ht
theorem RO.unrem {K P I I' : MI} {p : Nat} (h : RO K (remU P (p : Int)) I) (h0 : 0 ≤ P 10 9) (h1 : 0 ≤ P 10 11) (hp : P 16 p = -1) (e13 : I' 52 13 = I 52 13) (e18 : I' 52 18 = I 52 18) (e17 : I' 52 17 = I 52 17 - 1) (eo : ∀ i, 59 ≤ i → i ≤ 67 → i ≠ 64 → I' i = I i) (e64 : I' 64 = ma (I 64) p (-1)) : RO K P I' := by
  obtain ⟨hP, g18, g17, gL, gT, gU⟩ := h
  obtain ⟨v, v16, v20, vch, vk⟩ := remU_v P (p : Int)
  have v9 := vk 9 (by decide)
  have et : ((p : Int)).toNat = p := rfl
  refine ⟨⟨by rw [e13, hP.1, v9], fun q hq => ?_⟩, by rw [e18]; exact g18, by rw [e17, g17, vch]; omega, fun c hc => ?_, fun c hc => ?_, fun c t hc ht => ?_⟩
  · have g := hP.2 q (by rw [v9]; exact hq)
    rw [v 11 (by decide) (by decide) (by decide), v 12 (by decide) (by decide) (by decide), v 13 (by decide) (by decide) (by decide), v 14 (by decide) (by decide) (by decide), v 15 (by decide) (by decide) (by decide), v16, et] at g
    rw [eo 59 (by decide) (by decide) (by decide), eo 60 (by decide) (by decide) (by decide), eo 61 (by decide) (by decide) (by decide), eo 62 (by decide) (by decide) (by decide), eo 63 (by decide) (by decide) (by decide), e64]
    by_cases w : q = p
    · subst w
      rw [ma_self]
      exact ⟨g.1, g.2.1, g.2.2.1, g.2.2.2.1, g.2.2.2.2.1, hp.symm⟩
    · rw [ma_ne _ _ w]
      rw [ma_ne _ _ w] at g
      exact g
  · have g := gL c (by rw [vch]; omega)
    rw [v20, ma_ne _ _ (show c ≠ (P 10 11).toNat by omega)] at g
    rw [eo 66 (by decide) (by decide) (by decide), eo 67 (by decide) (by decide) (by decide)]
    exact g
  · rw [eo 65 (by decide) (by decide) (by decide)]
    exact gT c (by rw [vch]; omega)
  · rw [eo 65 (by decide) (by decide) (by decide)]
    exact gU c t hc ht
theorem m_does_s {N : Nat} {I : MI} {J : MJ} {K P : MI} {a : Nat} (hR : RO K P I) (hW : WOp P) (hD : RDr K I) (ha : (a : Int) < K 22 4) (ha20 : a < 20) (hA : WAct K a) (h40 : K 1 1 ≤ 40) (h13 : P 10 13 = K 10 13) (hK : K 10 11 ≤ P 10 11) (h1 : 0 ≤ K 10 11) (e23 : P 23 a = K 23 a) (e24 : P 24 a = K 24 a) (e25 : P 25 a = K 25 a) (e26 : P 26 a = K 26 a) (c : K 26 a = -1) : CT 151 [aR 52, aI (a : Int)] (MM N I J) (fun r M' => r = none ∧ ∃ I', M' = MM N I' J ∧ (∀ i, i ≠ 52 → (i < 59 ∨ 67 < i) → I' i = I i) ∧ (∀ k, k ≠ 13 → k ≠ 17 → k ≠ 39 → I' 52 k = I 52 k) ∧ ((aoB P a = true ∧ RO K (aoU P a) I' ∧ I' 52 39 = I 52 39) ∨ (aoB P a = false ∧ RO K P I' ∧ I' 52 39 = 100 + a))) := by
  obtain ⟨d1, d2, d3, d4, d5⟩ := hD.2.2.1 a ha
  rw [if_pos c] at d1
  obtain ⟨w1, w2, w3, w4, w5, w6, w7⟩ := hA
  have u2 := usr_in h40 w5
  have hm := hW.1
  have hl := hW.2.1
  have hch := hW.ch
  have hst := stF_in (K := P) (th := K 23 a) (rl := K 24 a) (u := K 25 a) hm.1
  obtain ⟨m, em⟩ : ∃ m : Nat, P 10 9 = m := ⟨(P 10 9).toNat, by omega⟩
  have g18 := hR.2.1
  have g17 := hR.2.2.1
  have g13 := hR.1.1
  have gch : I 52 17 < 4000 := by
    have h0 := cS_in P (P 10 9).toNat
    have h2 := hW.2.2.1
    omega
  have gch0 : 0 ≤ I 52 17 := by omega
  refine CT.ofV (n := 3) (ls := [some (aR 52), some (aI (a : Int)), none]) rfl rfl rfl ?_
  refine V.blk [(0, .aload 0, 1), (1, .aload 0, 1), (2, .getfield 10022, 3), (5, .iload 1, 1), (6, .iaload, 1), (7, .aload 0, 1), (8, .getfield 10023, 3), (11, .iload 1, 1), (12, .iaload, 1), (13, .aload 0, 1), (14, .getfield 10024, 3), (17, .iload 1, 1), (18, .iaload, 1), (19, .aload 0, 1), (20, .getfield 10018, 3)] (ps := [0 ≤ (a : Int) ∧ (a : Int) < 20, 0 ≤ (a : Int) ∧ (a : Int) < 20, 0 ≤ (a : Int) ∧ (a : Int) < 20]) (z' := (23, [some (aR 52), some (aI (a : Int)), none], [aI (I 52 18), aI (I 72 a), aI (I 71 a), aI (I 70 a), aR 52], MM N I J)) (by decide +kernel) rfl (show (0 ≤ (a : Int) ∧ (a : Int) < 20) ∧ (0 ≤ (a : Int) ∧ (a : Int) < 20) ∧ (0 ≤ (a : Int) ∧ (a : Int) < 20) from ⟨(by first | omega | (simp [ma]; omega) | (simp [ma, *]; omega)), (by first | omega | (simp [ma]; omega) | (simp [ma, *]; omega)), (by first | omega | (simp [ma]; omega) | (simp [ma, *]; omega))⟩) ?_
  refine V.cv (c := 149) (na := 5) (o := 10) (a := 52) [aI (I 52 18), aI (I 72 a), aI (I 71 a), aI (I 70 a)] [] (by decide +kernel) rfl rfl rfl rfl rfl (V.pr (m_find (P := P) em (by omega) hR.1 (fun p hp => by
    obtain ⟨-, x2, x3, x4⟩ := hW.2.2.2.1 p (by omega)
    omega)) ?_)
  show V 151 (26, [some (aR 52), some (aI (a : Int)), none], [aI (stF P (I 70 a) (I 71 a) (I 72 a))], MM N I J) _
  rw [d2, d3, d4]
  refine V.blk [(26, .istore 2, 1), (27, .iload 2, 1), (28, .ifCond .lt 35, 3)] (ps := []) (z' := (brc .lt (stF P (K 23 a) (K 24 a) (K 25 a)) 0 35 31, [some (aR 52), some (aI (a : Int)), some (aI (stF P (K 23 a) (K 24 a) (K 25 a)))], [], MM N I J)) (by decide +kernel) rfl trivial ?_
  refine V.lt (fun bh1 => ?_) (fun bh2 => ?_)
  · skip
    try simp only [b2_cast, b2_ncast, Classical.not_not, lcm_lt, lcm_ge, lcm_gt, lcm_le, lcm_eq, b2_0, b2_n0, Bool.not_eq_false, Bool.not_eq_true, decide_eq_true_eq, decide_eq_false_iff_not] at bh1
    refine V.blk [(35, .bipush 0, 1), (36, .aload 0, 1), (37, .getfield 10020, 3), (40, .iload 1, 1), (41, .baload, 1)] (ps := [0 ≤ (a : Int) ∧ (a : Int) < 20]) (z' := (42, [some (aR 52), some (aI (a : Int)), some (aI (stF P (K 23 a) (K 24 a) (K 25 a)))], [aI (I 68 a), aI 0], MM N I J)) (by decide +kernel) rfl (show (0 ≤ (a : Int) ∧ (a : Int) < 20) from (by first | omega | (simp [ma]; omega) | (simp [ma, *]; omega))) ?_
    rw [d1]
    refine V.blk [(42, .if_icmp .ne 54, 3)] (ps := []) (z' := (brc .ne 0 0 54 45, [some (aR 52), some (aI (a : Int)), some (aI (stF P (K 23 a) (K 24 a) (K 25 a)))], [], MM N I J)) (by decide +kernel) rfl trivial ?_
    refine V.ne (fun hz => absurd hz (by decide)) (fun _ => ?_)
    refine V.blk [(45, .aload 0, 1), (46, .bipush 100, 2), (48, .iload 1, 1), (49, .iadd, 1), (50, .putfield 10039, 3)] (ps := [inR (100 + (a : Int))]) (z' := (53, [some (aR 52), some (aI (a : Int)), some (aI (stF P (K 23 a) (K 24 a) (K 25 a)))], [], MM N (ma I 52 (ma (I 52) 39 ((100 + a : Nat) : Int))) J)) (by decide +kernel) rfl (show (inR (100 + (a : Int))) from (by unfold inR; first | omega | (simp [ma]; omega) | (simp [ma, *]; omega))) ?_
    refine V.nI (fun I3 eI3 => ?_)
    refine V.rv (by decide +kernel) ?_
    have hno : aoB P a = false := by
      unfold aoB rmB adB
      rw [e26, e23, e24, e25]
      first
        | (rw [if_pos c]; exact decide_eq_false (by omega))
        | (rw [if_neg c]; exact decide_eq_false (by omega))
    refine ⟨rfl, _, rfl, fun i x y => ?_, fun k x y z => ?_, Or.inr ⟨hno, ?_, ?_⟩⟩
    · subst_vars; rw [ma_ne _ _ x]
    · subst_vars; rw [ma_self, ma_ne _ _ z]
    · obtain ⟨r1, r2, r3, r4, r5, r6⟩ := hR
      have f : ∀ i, i ≠ 52 → I3 i = I i := fun i x => by rw [eI3, ma_ne _ _ x]
      have f2 : ∀ k, k ≠ 39 → I3 52 k = I 52 k := fun k x => by rw [eI3, ma_self, ma_ne _ _ x]
      refine ⟨?_, by rw [f2 18 (by decide)]; exact r2, by rw [f2 17 (by decide)]; exact r3, ?_, ?_, ?_⟩
      · unfold RPr; rw [f2 13 (by decide), f 59 (by decide), f 60 (by decide), f 61 (by decide), f 62 (by decide), f 63 (by decide), f 64 (by decide)]; exact r1
      · rw [f 66 (by decide), f 67 (by decide)]; exact r4
      · rw [f 65 (by decide)]; exact r5
      · rw [f 65 (by decide)]; exact r6
    · subst_vars; rw [ma_self, ma_self]; omega
  · skip
    try simp only [b2_cast, b2_ncast, Classical.not_not, lcm_lt, lcm_ge, lcm_gt, lcm_le, lcm_eq, b2_0, b2_n0, Bool.not_eq_false, Bool.not_eq_true, decide_eq_true_eq, decide_eq_false_iff_not] at bh2
    refine V.blk [(31, .bipush 1, 1), (32, .goto 36, 3), (36, .aload 0, 1), (37, .getfield 10020, 3), (40, .iload 1, 1), (41, .baload, 1)] (ps := [0 ≤ (a : Int) ∧ (a : Int) < 20]) (z' := (42, [some (aR 52), some (aI (a : Int)), some (aI (stF P (K 23 a) (K 24 a) (K 25 a)))], [aI (I 68 a), aI 1], MM N I J)) (by decide +kernel) rfl (show (0 ≤ (a : Int) ∧ (a : Int) < 20) from (by first | omega | (simp [ma]; omega) | (simp [ma, *]; omega))) ?_
    rw [d1]
    refine V.blk [(42, .if_icmp .ne 54, 3)] (ps := []) (z' := (brc .ne 1 0 54 45, [some (aR 52), some (aI (a : Int)), some (aI (stF P (K 23 a) (K 24 a) (K 25 a)))], [], MM N I J)) (by decide +kernel) rfl trivial ?_
    refine V.ne (fun _ => ?_) (fun hz => absurd hz (by decide))
    refine V.blk [(54, .aload 0, 1), (55, .getfield 10020, 3), (58, .iload 1, 1), (59, .baload, 1)] (ps := [0 ≤ (a : Int) ∧ (a : Int) < 20]) (z' := (60, [some (aR 52), some (aI (a : Int)), some (aI (stF P (K 23 a) (K 24 a) (K 25 a)))], [aI (I 68 a)], MM N I J)) (by decide +kernel) rfl (show (0 ≤ (a : Int) ∧ (a : Int) < 20) from (by first | omega | (simp [ma]; omega) | (simp [ma, *]; omega))) ?_
    rw [d1]
    refine V.blk [(60, .ifCond .eq 136, 3)] (ps := []) (z' := (brc .eq 0 0 136 63, [some (aR 52), some (aI (a : Int)), some (aI (stF P (K 23 a) (K 24 a) (K 25 a)))], [], MM N I J)) (by decide +kernel) rfl trivial ?_
    refine V.eq (fun _ => ?_) (fun hz => absurd hz (by decide))
    refine V.blk [(136, .aload 0, 1), (137, .getfield 10012, 3), (140, .iload 2, 1), (141, .aload 0, 1), (142, .getfield 10020, 3), (145, .iload 1, 1), (146, .baload, 1)] (ps := [0 ≤ (a : Int) ∧ (a : Int) < 20]) (z' := (147, [some (aR 52), some (aI (a : Int)), some (aI (stF P (K 23 a) (K 24 a) (K 25 a)))], [aI (I 68 a), aI (stF P (K 23 a) (K 24 a) (K 25 a)), aR 64], MM N I J)) (by decide +kernel) rfl (show (0 ≤ (a : Int) ∧ (a : Int) < 20) from (by first | omega | (simp [ma]; omega) | (simp [ma, *]; omega))) ?_
    rw [d1]
    refine V.blk [(147, .ifCond .eq 154, 3)] (ps := []) (z' := (brc .eq 0 0 154 150, [some (aR 52), some (aI (a : Int)), some (aI (stF P (K 23 a) (K 24 a) (K 25 a)))], [aI (stF P (K 23 a) (K 24 a) (K 25 a)), aR 64], MM N I J)) (by decide +kernel) rfl trivial ?_
    refine V.eq (fun _ => ?_) (fun hz => absurd hz (by decide))
    refine V.blk [(154, .aload 0, 1), (155, .getfield 10018, 3), (158, .iastore, 1), (159, .aload 0, 1), (160, .getfield 10014, 3), (163, .aload 0, 1), (164, .getfield 10017, 3), (167, .aload 0, 1), (168, .getfield 10018, 3), (171, .iastore, 1), (172, .aload 0, 1), (173, .getfield 10015, 3), (176, .aload 0, 1), (177, .getfield 10017, 3), (180, .iload 2, 1), (181, .iastore, 1)] (ps := [0 ≤ (stF P (K 23 a) (K 24 a) (K 25 a)) ∧ (stF P (K 23 a) (K 24 a) (K 25 a)) < 420, 0 ≤ ((ma I 64 (ma (I 64) ((stF P (K 23 a) (K 24 a) (K 25 a)).toNat) (I 52 18))) 52 17) ∧ ((ma I 64 (ma (I 64) ((stF P (K 23 a) (K 24 a) (K 25 a)).toNat) (I 52 18))) 52 17) < 4020, 0 ≤ ((ma (ma I 64 (ma (I 64) ((stF P (K 23 a) (K 24 a) (K 25 a)).toNat) (I 52 18))) 65 (ma ((ma I 64 (ma (I 64) ((stF P (K 23 a) (K 24 a) (K 25 a)).toNat) (I 52 18))) 65) (((ma I 64 (ma (I 64) ((stF P (K 23 a) (K 24 a) (K 25 a)).toNat) (I 52 18))) 52 17).toNat) ((ma I 64 (ma (I 64) ((stF P (K 23 a) (K 24 a) (K 25 a)).toNat) (I 52 18))) 52 18))) 52 17) ∧ ((ma (ma I 64 (ma (I 64) ((stF P (K 23 a) (K 24 a) (K 25 a)).toNat) (I 52 18))) 65 (ma ((ma I 64 (ma (I 64) ((stF P (K 23 a) (K 24 a) (K 25 a)).toNat) (I 52 18))) 65) (((ma I 64 (ma (I 64) ((stF P (K 23 a) (K 24 a) (K 25 a)).toNat) (I 52 18))) 52 17).toNat) ((ma I 64 (ma (I 64) ((stF P (K 23 a) (K 24 a) (K 25 a)).toNat) (I 52 18))) 52 18))) 52 17) < 4020]) (z' := (182, [some (aR 52), some (aI (a : Int)), some (aI (stF P (K 23 a) (K 24 a) (K 25 a)))], [], MM N (ma (ma (ma I 64 (ma (I 64) ((stF P (K 23 a) (K 24 a) (K 25 a)).toNat) (I 52 18))) 65 (ma ((ma I 64 (ma (I 64) ((stF P (K 23 a) (K 24 a) (K 25 a)).toNat) (I 52 18))) 65) (((ma I 64 (ma (I 64) ((stF P (K 23 a) (K 24 a) (K 25 a)).toNat) (I 52 18))) 52 17).toNat) ((ma I 64 (ma (I 64) ((stF P (K 23 a) (K 24 a) (K 25 a)).toNat) (I 52 18))) 52 18))) 66 (ma ((ma (ma I 64 (ma (I 64) ((stF P (K 23 a) (K 24 a) (K 25 a)).toNat) (I 52 18))) 65 (ma ((ma I 64 (ma (I 64) ((stF P (K 23 a) (K 24 a) (K 25 a)).toNat) (I 52 18))) 65) (((ma I 64 (ma (I 64) ((stF P (K 23 a) (K 24 a) (K 25 a)).toNat) (I 52 18))) 52 17).toNat) ((ma I 64 (ma (I 64) ((stF P (K 23 a) (K 24 a) (K 25 a)).toNat) (I 52 18))) 52 18))) 66) (((ma (ma I 64 (ma (I 64) ((stF P (K 23 a) (K 24 a) (K 25 a)).toNat) (I 52 18))) 65 (ma ((ma I 64 (ma (I 64) ((stF P (K 23 a) (K 24 a) (K 25 a)).toNat) (I 52 18))) 65) (((ma I 64 (ma (I 64) ((stF P (K 23 a) (K 24 a) (K 25 a)).toNat) (I 52 18))) 52 17).toNat) ((ma I 64 (ma (I 64) ((stF P (K 23 a) (K 24 a) (K 25 a)).toNat) (I 52 18))) 52 18))) 52 17).toNat) (stF P (K 23 a) (K 24 a) (K 25 a)))) J)) (by decide +kernel) rfl (show (0 ≤ (stF P (K 23 a) (K 24 a) (K 25 a)) ∧ (stF P (K 23 a) (K 24 a) (K 25 a)) < 420) ∧ (0 ≤ ((ma I 64 (ma (I 64) ((stF P (K 23 a) (K 24 a) (K 25 a)).toNat) (I 52 18))) 52 17) ∧ ((ma I 64 (ma (I 64) ((stF P (K 23 a) (K 24 a) (K 25 a)).toNat) (I 52 18))) 52 17) < 4020) ∧ (0 ≤ ((ma (ma I 64 (ma (I 64) ((stF P (K 23 a) (K 24 a) (K 25 a)).toNat) (I 52 18))) 65 (ma ((ma I 64 (ma (I 64) ((stF P (K 23 a) (K 24 a) (K 25 a)).toNat) (I 52 18))) 65) (((ma I 64 (ma (I 64) ((stF P (K 23 a) (K 24 a) (K 25 a)).toNat) (I 52 18))) 52 17).toNat) ((ma I 64 (ma (I 64) ((stF P (K 23 a) (K 24 a) (K 25 a)).toNat) (I 52 18))) 52 18))) 52 17) ∧ ((ma (ma I 64 (ma (I 64) ((stF P (K 23 a) (K 24 a) (K 25 a)).toNat) (I 52 18))) 65 (ma ((ma I 64 (ma (I 64) ((stF P (K 23 a) (K 24 a) (K 25 a)).toNat) (I 52 18))) 65) (((ma I 64 (ma (I 64) ((stF P (K 23 a) (K 24 a) (K 25 a)).toNat) (I 52 18))) 52 17).toNat) ((ma I 64 (ma (I 64) ((stF P (K 23 a) (K 24 a) (K 25 a)).toNat) (I 52 18))) 52 18))) 52 17) < 4020) from ⟨(by first | omega | (simp [ma]; omega) | (simp [ma, *]; omega)), (by first | omega | (simp [ma]; omega) | (simp [ma, *]; omega)), (by first | omega | (simp [ma]; omega) | (simp [ma, *]; omega))⟩) ?_
    refine V.nI (fun I4 eI4 => ?_)
    refine V.blk [(182, .aload 0, 1), (183, .getfield 10016, 3), (186, .aload 0, 1), (187, .getfield 10017, 3), (190, .aload 0, 1), (191, .getfield 10020, 3), (194, .iload 1, 1), (195, .baload, 1)] (ps := [0 ≤ (a : Int) ∧ (a : Int) < 20]) (z' := (196, [some (aR 52), some (aI (a : Int)), some (aI (stF P (K 23 a) (K 24 a) (K 25 a)))], [aI (I4 68 a), aI (I4 52 17), aR 67], MM N I4 J)) (by decide +kernel) rfl (show (0 ≤ (a : Int) ∧ (a : Int) < 20) from (by first | omega | (simp [ma]; omega) | (simp [ma, *]; omega))) ?_
    have m68_I4 : I4 68 a = 0 := by subst_vars; simp only [ma_ne, ne_eq, reduceCtorEq, not_false_eq_true, Nat.reduceEqDiff]; exact d1
    rw [m68_I4]
    refine V.blk [(196, .ifCond .ne 203, 3)] (ps := []) (z' := (brc .ne 0 0 203 199, [some (aR 52), some (aI (a : Int)), some (aI (stF P (K 23 a) (K 24 a) (K 25 a)))], [aI (I4 52 17), aR 67], MM N I4 J)) (by decide +kernel) rfl trivial ?_
    refine V.ne (fun hz => absurd hz (by decide)) (fun _ => ?_)
    refine V.blk [(199, .bipush 1, 1), (200, .goto 204, 3), (204, .bastore, 1), (205, .aload 0, 1), (206, .dup, 1), (207, .getfield 10017, 3), (210, .bipush 1, 1), (211, .iadd, 1), (212, .putfield 10017, 3)] (ps := [0 ≤ (I4 52 17) ∧ (I4 52 17) < 4020, 0 ≤ 1 ∧ 1 ≤ 1, inR (((ma I4 67 (ma (I4 67) ((I4 52 17).toNat) 1)) 52 17) + 1)]) (z' := (215, [some (aR 52), some (aI (a : Int)), some (aI (stF P (K 23 a) (K 24 a) (K 25 a)))], [], MM N (ma (ma I4 67 (ma (I4 67) ((I4 52 17).toNat) 1)) 52 (ma ((ma I4 67 (ma (I4 67) ((I4 52 17).toNat) 1)) 52) 17 (((ma I4 67 (ma (I4 67) ((I4 52 17).toNat) 1)) 52 17) + 1))) J)) (by decide +kernel) rfl (show (0 ≤ (I4 52 17) ∧ (I4 52 17) < 4020) ∧ (0 ≤ 1 ∧ 1 ≤ 1) ∧ (inR (((ma I4 67 (ma (I4 67) ((I4 52 17).toNat) 1)) 52 17) + 1)) from ⟨(by first | omega | (simp [ma]; omega) | (simp [ma, *]; omega)), (by first | omega | (simp [ma]; omega) | (simp [ma, *]; omega)), (by unfold inR; first | omega | (simp [ma]; omega) | (simp [ma, *]; omega))⟩) ?_
    refine V.nI (fun I5 eI5 => ?_)
    refine V.rv (by decide +kernel) ?_
    have fo : ∀ i, i ≠ 52 → (i < 59 ∨ 67 < i) → I5 i = I i := fun i x y => by
      subst_vars
      have n1 : i ≠ 59 := by omega
      have n2 : i ≠ 60 := by omega
      have n3 : i ≠ 61 := by omega
      have n4 : i ≠ 62 := by omega
      have n5 : i ≠ 63 := by omega
      have n6 : i ≠ 64 := by omega
      have n7 : i ≠ 65 := by omega
      have n8 : i ≠ 66 := by omega
      have n9 : i ≠ 67 := by omega
      simp only [ma_ne, ne_eq, x, n1, n2, n3, n4, n5, n6, n7, n8, n9, not_false_eq_true]
    have f52 : ∀ k, k ≠ 13 → k ≠ 17 → k ≠ 39 → I5 52 k = I 52 k := fun k x y z => by
      subst_vars
      simp only [ma_self, ma_ne, ne_eq, x, y, reduceCtorEq, not_false_eq_true, Nat.reduceEqDiff]
    have f39 : I5 52 39 = I 52 39 := by
      subst_vars
      simp only [ma_self, ma_ne, ne_eq, reduceCtorEq, not_false_eq_true, Nat.reduceEqDiff]
    refine ⟨rfl, I5, rfl, fo, f52, Or.inl ⟨?_, ?_, f39⟩⟩
    · unfold aoB rmB adB
      rw [e26, e23, e24, e25]
      first
        | (rw [if_pos c]; exact decide_eq_true (by omega))
        | (rw [if_neg c]; exact decide_eq_true (by omega))
    · unfold aoU
      rw [e26, e23, e24, e25]
      first
        | (have dd5 := d5 c
           rw [if_neg c]
           have hm13 : I 52 13 = P 10 9 := g13
           refine hR.add hK hm.1 h1 h13 ?_ ?_ ?_ ?_ ?_ ?_ ?_ ?_ ?_ ?_ ?_ ?_
           all_goals
             subst_vars
             simp only [ma_self, ma_ne, ma_ma, ne_eq, reduceCtorEq, not_false_eq_true, Nat.reduceEqDiff, d2, d3, d4, dd5, g18, g17, hm13])
        | (rw [if_pos c]
           obtain ⟨q, eq⟩ : ∃ q : Nat, stF P (K 23 a) (K 24 a) (K 25 a) = q := ⟨(stF P (K 23 a) (K 24 a) (K 25 a)).toNat, by omega⟩
           rw [eq]
           refine hR.rem hK hm.1 h1 h13 ?_ ?_ ?_ (fun i x y => ?_) ?_ ?_ ?_ ?_
           all_goals
             subst_vars
             simp only [ma_self, ma_ne, ma_ma, ne_eq, reduceCtorEq, not_false_eq_true, Nat.reduceEqDiff, d2, d3, d4, g18, g17, eq]
           · have n6 : i ≠ 64 := by omega
             have n7 : i ≠ 65 := by omega
             have n8 : i ≠ 66 := by omega
             have n9 : i ≠ 67 := by omega
             have n0 : i ≠ 52 := by omega
             simp only [ma_ne, ne_eq, n0, n6, n7, n8, n9, not_false_eq_true]
           · rfl)
theorem m_does_w {N : Nat} {I : MI} {J : MJ} {K P : MI} {a : Nat} (hR : RO K P I) (hW : WOp P) (hD : RDr K I) (ha : (a : Int) < K 22 4) (ha20 : a < 20) (hA : WAct K a) (h40 : K 1 1 ≤ 40) (h13 : P 10 13 = K 10 13) (hK : K 10 11 ≤ P 10 11) (h1 : 0 ≤ K 10 11) (e23 : P 23 a = K 23 a) (e24 : P 24 a = K 24 a) (e25 : P 25 a = K 25 a) (e26 : P 26 a = K 26 a) (c : K 26 a ≠ -1) (hroom : P 10 9 < 400) : CT 151 [aR 52, aI (a : Int)] (MM N I J) (fun r M' => r = none ∧ ∃ I', M' = MM N I' J ∧ (∀ i, i ≠ 52 → (i < 59 ∨ 67 < i) → I' i = I i) ∧ (∀ k, k ≠ 13 → k ≠ 17 → k ≠ 39 → I' 52 k = I 52 k) ∧ ((aoB P a = true ∧ RO K (aoU P a) I' ∧ I' 52 39 = I 52 39) ∨ (aoB P a = false ∧ RO K P I' ∧ I' 52 39 = 100 + a))) := by
  obtain ⟨d1, d2, d3, d4, d5⟩ := hD.2.2.1 a ha
  rw [if_neg c] at d1
  obtain ⟨w1, w2, w3, w4, w5, w6, w7⟩ := hA
  have u2 := usr_in h40 w5
  have hm := hW.1
  have hl := hW.2.1
  have hch := hW.ch
  have hst := stF_in (K := P) (th := K 23 a) (rl := K 24 a) (u := K 25 a) hm.1
  obtain ⟨m, em⟩ : ∃ m : Nat, P 10 9 = m := ⟨(P 10 9).toNat, by omega⟩
  have g18 := hR.2.1
  have g17 := hR.2.2.1
  have g13 := hR.1.1
  have gch : I 52 17 < 4000 := by
    have h0 := cS_in P (P 10 9).toNat
    have h2 := hW.2.2.1
    omega
  have gch0 : 0 ≤ I 52 17 := by omega
  refine CT.ofV (n := 3) (ls := [some (aR 52), some (aI (a : Int)), none]) rfl rfl rfl ?_
  refine V.blk [(0, .aload 0, 1), (1, .aload 0, 1), (2, .getfield 10022, 3), (5, .iload 1, 1), (6, .iaload, 1), (7, .aload 0, 1), (8, .getfield 10023, 3), (11, .iload 1, 1), (12, .iaload, 1), (13, .aload 0, 1), (14, .getfield 10024, 3), (17, .iload 1, 1), (18, .iaload, 1), (19, .aload 0, 1), (20, .getfield 10018, 3)] (ps := [0 ≤ (a : Int) ∧ (a : Int) < 20, 0 ≤ (a : Int) ∧ (a : Int) < 20, 0 ≤ (a : Int) ∧ (a : Int) < 20]) (z' := (23, [some (aR 52), some (aI (a : Int)), none], [aI (I 52 18), aI (I 72 a), aI (I 71 a), aI (I 70 a), aR 52], MM N I J)) (by decide +kernel) rfl (show (0 ≤ (a : Int) ∧ (a : Int) < 20) ∧ (0 ≤ (a : Int) ∧ (a : Int) < 20) ∧ (0 ≤ (a : Int) ∧ (a : Int) < 20) from ⟨(by first | omega | (simp [ma]; omega) | (simp [ma, *]; omega)), (by first | omega | (simp [ma]; omega) | (simp [ma, *]; omega)), (by first | omega | (simp [ma]; omega) | (simp [ma, *]; omega))⟩) ?_
  refine V.cv (c := 149) (na := 5) (o := 10) (a := 52) [aI (I 52 18), aI (I 72 a), aI (I 71 a), aI (I 70 a)] [] (by decide +kernel) rfl rfl rfl rfl rfl (V.pr (m_find (P := P) em (by omega) hR.1 (fun p hp => by
    obtain ⟨-, x2, x3, x4⟩ := hW.2.2.2.1 p (by omega)
    omega)) ?_)
  show V 151 (26, [some (aR 52), some (aI (a : Int)), none], [aI (stF P (I 70 a) (I 71 a) (I 72 a))], MM N I J) _
  rw [d2, d3, d4]
  refine V.blk [(26, .istore 2, 1), (27, .iload 2, 1), (28, .ifCond .lt 35, 3)] (ps := []) (z' := (brc .lt (stF P (K 23 a) (K 24 a) (K 25 a)) 0 35 31, [some (aR 52), some (aI (a : Int)), some (aI (stF P (K 23 a) (K 24 a) (K 25 a)))], [], MM N I J)) (by decide +kernel) rfl trivial ?_
  refine V.lt (fun bh1 => ?_) (fun bh2 => ?_)
  · skip
    try simp only [b2_cast, b2_ncast, Classical.not_not, lcm_lt, lcm_ge, lcm_gt, lcm_le, lcm_eq, b2_0, b2_n0, Bool.not_eq_false, Bool.not_eq_true, decide_eq_true_eq, decide_eq_false_iff_not] at bh1
    refine V.blk [(35, .bipush 0, 1), (36, .aload 0, 1), (37, .getfield 10020, 3), (40, .iload 1, 1), (41, .baload, 1)] (ps := [0 ≤ (a : Int) ∧ (a : Int) < 20]) (z' := (42, [some (aR 52), some (aI (a : Int)), some (aI (stF P (K 23 a) (K 24 a) (K 25 a)))], [aI (I 68 a), aI 0], MM N I J)) (by decide +kernel) rfl (show (0 ≤ (a : Int) ∧ (a : Int) < 20) from (by first | omega | (simp [ma]; omega) | (simp [ma, *]; omega))) ?_
    rw [d1]
    refine V.blk [(42, .if_icmp .ne 54, 3)] (ps := []) (z' := (brc .ne 0 1 54 45, [some (aR 52), some (aI (a : Int)), some (aI (stF P (K 23 a) (K 24 a) (K 25 a)))], [], MM N I J)) (by decide +kernel) rfl trivial ?_
    refine V.ne (fun _ => ?_) (fun hz => absurd hz (by decide))
    refine V.blk [(54, .aload 0, 1), (55, .getfield 10020, 3), (58, .iload 1, 1), (59, .baload, 1)] (ps := [0 ≤ (a : Int) ∧ (a : Int) < 20]) (z' := (60, [some (aR 52), some (aI (a : Int)), some (aI (stF P (K 23 a) (K 24 a) (K 25 a)))], [aI (I 68 a)], MM N I J)) (by decide +kernel) rfl (show (0 ≤ (a : Int) ∧ (a : Int) < 20) from (by first | omega | (simp [ma]; omega) | (simp [ma, *]; omega))) ?_
    rw [d1]
    refine V.blk [(60, .ifCond .eq 136, 3)] (ps := []) (z' := (brc .eq 1 0 136 63, [some (aR 52), some (aI (a : Int)), some (aI (stF P (K 23 a) (K 24 a) (K 25 a)))], [], MM N I J)) (by decide +kernel) rfl trivial ?_
    refine V.eq (fun hz => absurd hz (by decide)) (fun _ => ?_)
    refine V.blk [(63, .aload 0, 1), (64, .getfield 10013, 3), (67, .istore 2, 1), (68, .aload 0, 1), (69, .getfield 10007, 3), (72, .iload 2, 1), (73, .aload 0, 1), (74, .getfield 10022, 3), (77, .iload 1, 1), (78, .iaload, 1), (79, .iastore, 1), (80, .aload 0, 1), (81, .getfield 10008, 3), (84, .iload 2, 1), (85, .aload 0, 1), (86, .getfield 10023, 3), (89, .iload 1, 1), (90, .iaload, 1), (91, .iastore, 1), (92, .aload 0, 1), (93, .getfield 10009, 3), (96, .iload 2, 1), (97, .aload 0, 1), (98, .getfield 10024, 3), (101, .iload 1, 1), (102, .iaload, 1), (103, .iastore, 1), (104, .aload 0, 1), (105, .getfield 10010, 3), (108, .iload 2, 1), (109, .aload 0, 1), (110, .getfield 10025, 3), (113, .iload 1, 1), (114, .iaload, 1), (115, .iastore, 1), (116, .aload 0, 1), (117, .getfield 10011, 3), (120, .iload 2, 1), (121, .aload 0, 1), (122, .getfield 10018, 3), (125, .iastore, 1), (126, .aload 0, 1), (127, .dup, 1), (128, .getfield 10013, 3), (131, .bipush 1, 1), (132, .iadd, 1), (133, .putfield 10013, 3)] (ps := [0 ≤ (a : Int) ∧ (a : Int) < 20, 0 ≤ (I 52 13) ∧ (I 52 13) < 420, 0 ≤ (a : Int) ∧ (a : Int) < 20, 0 ≤ (I 52 13) ∧ (I 52 13) < 420, 0 ≤ (a : Int) ∧ (a : Int) < 20, 0 ≤ (I 52 13) ∧ (I 52 13) < 420, 0 ≤ (a : Int) ∧ (a : Int) < 20, 0 ≤ (I 52 13) ∧ (I 52 13) < 420, 0 ≤ (I 52 13) ∧ (I 52 13) < 420, inR (((ma (ma (ma (ma (ma I 59 (ma (I 59) ((I 52 13).toNat) (I 70 a))) 60 (ma ((ma I 59 (ma (I 59) ((I 52 13).toNat) (I 70 a))) 60) ((I 52 13).toNat) ((ma I 59 (ma (I 59) ((I 52 13).toNat) (I 70 a))) 71 a))) 61 (ma ((ma (ma I 59 (ma (I 59) ((I 52 13).toNat) (I 70 a))) 60 (ma ((ma I 59 (ma (I 59) ((I 52 13).toNat) (I 70 a))) 60) ((I 52 13).toNat) ((ma I 59 (ma (I 59) ((I 52 13).toNat) (I 70 a))) 71 a))) 61) ((I 52 13).toNat) ((ma (ma I 59 (ma (I 59) ((I 52 13).toNat) (I 70 a))) 60 (ma ((ma I 59 (ma (I 59) ((I 52 13).toNat) (I 70 a))) 60) ((I 52 13).toNat) ((ma I 59 (ma (I 59) ((I 52 13).toNat) (I 70 a))) 71 a))) 72 a))) 62 (ma ((ma (ma (ma I 59 (ma (I 59) ((I 52 13).toNat) (I 70 a))) 60 (ma ((ma I 59 (ma (I 59) ((I 52 13).toNat) (I 70 a))) 60) ((I 52 13).toNat) ((ma I 59 (ma (I 59) ((I 52 13).toNat) (I 70 a))) 71 a))) 61 (ma ((ma (ma I 59 (ma (I 59) ((I 52 13).toNat) (I 70 a))) 60 (ma ((ma I 59 (ma (I 59) ((I 52 13).toNat) (I 70 a))) 60) ((I 52 13).toNat) ((ma I 59 (ma (I 59) ((I 52 13).toNat) (I 70 a))) 71 a))) 61) ((I 52 13).toNat) ((ma (ma I 59 (ma (I 59) ((I 52 13).toNat) (I 70 a))) 60 (ma ((ma I 59 (ma (I 59) ((I 52 13).toNat) (I 70 a))) 60) ((I 52 13).toNat) ((ma I 59 (ma (I 59) ((I 52 13).toNat) (I 70 a))) 71 a))) 72 a))) 62) ((I 52 13).toNat) ((ma (ma (ma I 59 (ma (I 59) ((I 52 13).toNat) (I 70 a))) 60 (ma ((ma I 59 (ma (I 59) ((I 52 13).toNat) (I 70 a))) 60) ((I 52 13).toNat) ((ma I 59 (ma (I 59) ((I 52 13).toNat) (I 70 a))) 71 a))) 61 (ma ((ma (ma I 59 (ma (I 59) ((I 52 13).toNat) (I 70 a))) 60 (ma ((ma I 59 (ma (I 59) ((I 52 13).toNat) (I 70 a))) 60) ((I 52 13).toNat) ((ma I 59 (ma (I 59) ((I 52 13).toNat) (I 70 a))) 71 a))) 61) ((I 52 13).toNat) ((ma (ma I 59 (ma (I 59) ((I 52 13).toNat) (I 70 a))) 60 (ma ((ma I 59 (ma (I 59) ((I 52 13).toNat) (I 70 a))) 60) ((I 52 13).toNat) ((ma I 59 (ma (I 59) ((I 52 13).toNat) (I 70 a))) 71 a))) 72 a))) 73 a))) 63 (ma ((ma (ma (ma (ma I 59 (ma (I 59) ((I 52 13).toNat) (I 70 a))) 60 (ma ((ma I 59 (ma (I 59) ((I 52 13).toNat) (I 70 a))) 60) ((I 52 13).toNat) ((ma I 59 (ma (I 59) ((I 52 13).toNat) (I 70 a))) 71 a))) 61 (ma ((ma (ma I 59 (ma (I 59) ((I 52 13).toNat) (I 70 a))) 60 (ma ((ma I 59 (ma (I 59) ((I 52 13).toNat) (I 70 a))) 60) ((I 52 13).toNat) ((ma I 59 (ma (I 59) ((I 52 13).toNat) (I 70 a))) 71 a))) 61) ((I 52 13).toNat) ((ma (ma I 59 (ma (I 59) ((I 52 13).toNat) (I 70 a))) 60 (ma ((ma I 59 (ma (I 59) ((I 52 13).toNat) (I 70 a))) 60) ((I 52 13).toNat) ((ma I 59 (ma (I 59) ((I 52 13).toNat) (I 70 a))) 71 a))) 72 a))) 62 (ma ((ma (ma (ma I 59 (ma (I 59) ((I 52 13).toNat) (I 70 a))) 60 (ma ((ma I 59 (ma (I 59) ((I 52 13).toNat) (I 70 a))) 60) ((I 52 13).toNat) ((ma I 59 (ma (I 59) ((I 52 13).toNat) (I 70 a))) 71 a))) 61 (ma ((ma (ma I 59 (ma (I 59) ((I 52 13).toNat) (I 70 a))) 60 (ma ((ma I 59 (ma (I 59) ((I 52 13).toNat) (I 70 a))) 60) ((I 52 13).toNat) ((ma I 59 (ma (I 59) ((I 52 13).toNat) (I 70 a))) 71 a))) 61) ((I 52 13).toNat) ((ma (ma I 59 (ma (I 59) ((I 52 13).toNat) (I 70 a))) 60 (ma ((ma I 59 (ma (I 59) ((I 52 13).toNat) (I 70 a))) 60) ((I 52 13).toNat) ((ma I 59 (ma (I 59) ((I 52 13).toNat) (I 70 a))) 71 a))) 72 a))) 62) ((I 52 13).toNat) ((ma (ma (ma I 59 (ma (I 59) ((I 52 13).toNat) (I 70 a))) 60 (ma ((ma I 59 (ma (I 59) ((I 52 13).toNat) (I 70 a))) 60) ((I 52 13).toNat) ((ma I 59 (ma (I 59) ((I 52 13).toNat) (I 70 a))) 71 a))) 61 (ma ((ma (ma I 59 (ma (I 59) ((I 52 13).toNat) (I 70 a))) 60 (ma ((ma I 59 (ma (I 59) ((I 52 13).toNat) (I 70 a))) 60) ((I 52 13).toNat) ((ma I 59 (ma (I 59) ((I 52 13).toNat) (I 70 a))) 71 a))) 61) ((I 52 13).toNat) ((ma (ma I 59 (ma (I 59) ((I 52 13).toNat) (I 70 a))) 60 (ma ((ma I 59 (ma (I 59) ((I 52 13).toNat) (I 70 a))) 60) ((I 52 13).toNat) ((ma I 59 (ma (I 59) ((I 52 13).toNat) (I 70 a))) 71 a))) 72 a))) 73 a))) 63) ((I 52 13).toNat) ((ma (ma (ma (ma I 59 (ma (I 59) ((I 52 13).toNat) (I 70 a))) 60 (ma ((ma I 59 (ma (I 59) ((I 52 13).toNat) (I 70 a))) 60) ((I 52 13).toNat) ((ma I 59 (ma (I 59) ((I 52 13).toNat) (I 70 a))) 71 a))) 61 (ma ((ma (ma I 59 (ma (I 59) ((I 52 13).toNat) (I 70 a))) 60 (ma ((ma I 59 (ma (I 59) ((I 52 13).toNat) (I 70 a))) 60) ((I 52 13).toNat) ((ma I 59 (ma (I 59) ((I 52 13).toNat) (I 70 a))) 71 a))) 61) ((I 52 13).toNat) ((ma (ma I 59 (ma (I 59) ((I 52 13).toNat) (I 70 a))) 60 (ma ((ma I 59 (ma (I 59) ((I 52 13).toNat) (I 70 a))) 60) ((I 52 13).toNat) ((ma I 59 (ma (I 59) ((I 52 13).toNat) (I 70 a))) 71 a))) 72 a))) 62 (ma ((ma (ma (ma I 59 (ma (I 59) ((I 52 13).toNat) (I 70 a))) 60 (ma ((ma I 59 (ma (I 59) ((I 52 13).toNat) (I 70 a))) 60) ((I 52 13).toNat) ((ma I 59 (ma (I 59) ((I 52 13).toNat) (I 70 a))) 71 a))) 61 (ma ((ma (ma I 59 (ma (I 59) ((I 52 13).toNat) (I 70 a))) 60 (ma ((ma I 59 (ma (I 59) ((I 52 13).toNat) (I 70 a))) 60) ((I 52 13).toNat) ((ma I 59 (ma (I 59) ((I 52 13).toNat) (I 70 a))) 71 a))) 61) ((I 52 13).toNat) ((ma (ma I 59 (ma (I 59) ((I 52 13).toNat) (I 70 a))) 60 (ma ((ma I 59 (ma (I 59) ((I 52 13).toNat) (I 70 a))) 60) ((I 52 13).toNat) ((ma I 59 (ma (I 59) ((I 52 13).toNat) (I 70 a))) 71 a))) 72 a))) 62) ((I 52 13).toNat) ((ma (ma (ma I 59 (ma (I 59) ((I 52 13).toNat) (I 70 a))) 60 (ma ((ma I 59 (ma (I 59) ((I 52 13).toNat) (I 70 a))) 60) ((I 52 13).toNat) ((ma I 59 (ma (I 59) ((I 52 13).toNat) (I 70 a))) 71 a))) 61 (ma ((ma (ma I 59 (ma (I 59) ((I 52 13).toNat) (I 70 a))) 60 (ma ((ma I 59 (ma (I 59) ((I 52 13).toNat) (I 70 a))) 60) ((I 52 13).toNat) ((ma I 59 (ma (I 59) ((I 52 13).toNat) (I 70 a))) 71 a))) 61) ((I 52 13).toNat) ((ma (ma I 59 (ma (I 59) ((I 52 13).toNat) (I 70 a))) 60 (ma ((ma I 59 (ma (I 59) ((I 52 13).toNat) (I 70 a))) 60) ((I 52 13).toNat) ((ma I 59 (ma (I 59) ((I 52 13).toNat) (I 70 a))) 71 a))) 72 a))) 73 a))) 52 18))) 52 13) + 1)]) (z' := (136, [some (aR 52), some (aI (a : Int)), some (aI (I 52 13))], [], MM N (ma (ma (ma (ma (ma (ma I 59 (ma (I 59) ((I 52 13).toNat) (I 70 a))) 60 (ma ((ma I 59 (ma (I 59) ((I 52 13).toNat) (I 70 a))) 60) ((I 52 13).toNat) ((ma I 59 (ma (I 59) ((I 52 13).toNat) (I 70 a))) 71 a))) 61 (ma ((ma (ma I 59 (ma (I 59) ((I 52 13).toNat) (I 70 a))) 60 (ma ((ma I 59 (ma (I 59) ((I 52 13).toNat) (I 70 a))) 60) ((I 52 13).toNat) ((ma I 59 (ma (I 59) ((I 52 13).toNat) (I 70 a))) 71 a))) 61) ((I 52 13).toNat) ((ma (ma I 59 (ma (I 59) ((I 52 13).toNat) (I 70 a))) 60 (ma ((ma I 59 (ma (I 59) ((I 52 13).toNat) (I 70 a))) 60) ((I 52 13).toNat) ((ma I 59 (ma (I 59) ((I 52 13).toNat) (I 70 a))) 71 a))) 72 a))) 62 (ma ((ma (ma (ma I 59 (ma (I 59) ((I 52 13).toNat) (I 70 a))) 60 (ma ((ma I 59 (ma (I 59) ((I 52 13).toNat) (I 70 a))) 60) ((I 52 13).toNat) ((ma I 59 (ma (I 59) ((I 52 13).toNat) (I 70 a))) 71 a))) 61 (ma ((ma (ma I 59 (ma (I 59) ((I 52 13).toNat) (I 70 a))) 60 (ma ((ma I 59 (ma (I 59) ((I 52 13).toNat) (I 70 a))) 60) ((I 52 13).toNat) ((ma I 59 (ma (I 59) ((I 52 13).toNat) (I 70 a))) 71 a))) 61) ((I 52 13).toNat) ((ma (ma I 59 (ma (I 59) ((I 52 13).toNat) (I 70 a))) 60 (ma ((ma I 59 (ma (I 59) ((I 52 13).toNat) (I 70 a))) 60) ((I 52 13).toNat) ((ma I 59 (ma (I 59) ((I 52 13).toNat) (I 70 a))) 71 a))) 72 a))) 62) ((I 52 13).toNat) ((ma (ma (ma I 59 (ma (I 59) ((I 52 13).toNat) (I 70 a))) 60 (ma ((ma I 59 (ma (I 59) ((I 52 13).toNat) (I 70 a))) 60) ((I 52 13).toNat) ((ma I 59 (ma (I 59) ((I 52 13).toNat) (I 70 a))) 71 a))) 61 (ma ((ma (ma I 59 (ma (I 59) ((I 52 13).toNat) (I 70 a))) 60 (ma ((ma I 59 (ma (I 59) ((I 52 13).toNat) (I 70 a))) 60) ((I 52 13).toNat) ((ma I 59 (ma (I 59) ((I 52 13).toNat) (I 70 a))) 71 a))) 61) ((I 52 13).toNat) ((ma (ma I 59 (ma (I 59) ((I 52 13).toNat) (I 70 a))) 60 (ma ((ma I 59 (ma (I 59) ((I 52 13).toNat) (I 70 a))) 60) ((I 52 13).toNat) ((ma I 59 (ma (I 59) ((I 52 13).toNat) (I 70 a))) 71 a))) 72 a))) 73 a))) 63 (ma ((ma (ma (ma (ma I 59 (ma (I 59) ((I 52 13).toNat) (I 70 a))) 60 (ma ((ma I 59 (ma (I 59) ((I 52 13).toNat) (I 70 a))) 60) ((I 52 13).toNat) ((ma I 59 (ma (I 59) ((I 52 13).toNat) (I 70 a))) 71 a))) 61 (ma ((ma (ma I 59 (ma (I 59) ((I 52 13).toNat) (I 70 a))) 60 (ma ((ma I 59 (ma (I 59) ((I 52 13).toNat) (I 70 a))) 60) ((I 52 13).toNat) ((ma I 59 (ma (I 59) ((I 52 13).toNat) (I 70 a))) 71 a))) 61) ((I 52 13).toNat) ((ma (ma I 59 (ma (I 59) ((I 52 13).toNat) (I 70 a))) 60 (ma ((ma I 59 (ma (I 59) ((I 52 13).toNat) (I 70 a))) 60) ((I 52 13).toNat) ((ma I 59 (ma (I 59) ((I 52 13).toNat) (I 70 a))) 71 a))) 72 a))) 62 (ma ((ma (ma (ma I 59 (ma (I 59) ((I 52 13).toNat) (I 70 a))) 60 (ma ((ma I 59 (ma (I 59) ((I 52 13).toNat) (I 70 a))) 60) ((I 52 13).toNat) ((ma I 59 (ma (I 59) ((I 52 13).toNat) (I 70 a))) 71 a))) 61 (ma ((ma (ma I 59 (ma (I 59) ((I 52 13).toNat) (I 70 a))) 60 (ma ((ma I 59 (ma (I 59) ((I 52 13).toNat) (I 70 a))) 60) ((I 52 13).toNat) ((ma I 59 (ma (I 59) ((I 52 13).toNat) (I 70 a))) 71 a))) 61) ((I 52 13).toNat) ((ma (ma I 59 (ma (I 59) ((I 52 13).toNat) (I 70 a))) 60 (ma ((ma I 59 (ma (I 59) ((I 52 13).toNat) (I 70 a))) 60) ((I 52 13).toNat) ((ma I 59 (ma (I 59) ((I 52 13).toNat) (I 70 a))) 71 a))) 72 a))) 62) ((I 52 13).toNat) ((ma (ma (ma I 59 (ma (I 59) ((I 52 13).toNat) (I 70 a))) 60 (ma ((ma I 59 (ma (I 59) ((I 52 13).toNat) (I 70 a))) 60) ((I 52 13).toNat) ((ma I 59 (ma (I 59) ((I 52 13).toNat) (I 70 a))) 71 a))) 61 (ma ((ma (ma I 59 (ma (I 59) ((I 52 13).toNat) (I 70 a))) 60 (ma ((ma I 59 (ma (I 59) ((I 52 13).toNat) (I 70 a))) 60) ((I 52 13).toNat) ((ma I 59 (ma (I 59) ((I 52 13).toNat) (I 70 a))) 71 a))) 61) ((I 52 13).toNat) ((ma (ma I 59 (ma (I 59) ((I 52 13).toNat) (I 70 a))) 60 (ma ((ma I 59 (ma (I 59) ((I 52 13).toNat) (I 70 a))) 60) ((I 52 13).toNat) ((ma I 59 (ma (I 59) ((I 52 13).toNat) (I 70 a))) 71 a))) 72 a))) 73 a))) 63) ((I 52 13).toNat) ((ma (ma (ma (ma I 59 (ma (I 59) ((I 52 13).toNat) (I 70 a))) 60 (ma ((ma I 59 (ma (I 59) ((I 52 13).toNat) (I 70 a))) 60) ((I 52 13).toNat) ((ma I 59 (ma (I 59) ((I 52 13).toNat) (I 70 a))) 71 a))) 61 (ma ((ma (ma I 59 (ma (I 59) ((I 52 13).toNat) (I 70 a))) 60 (ma ((ma I 59 (ma (I 59) ((I 52 13).toNat) (I 70 a))) 60) ((I 52 13).toNat) ((ma I 59 (ma (I 59) ((I 52 13).toNat) (I 70 a))) 71 a))) 61) ((I 52 13).toNat) ((ma (ma I 59 (ma (I 59) ((I 52 13).toNat) (I 70 a))) 60 (ma ((ma I 59 (ma (I 59) ((I 52 13).toNat) (I 70 a))) 60) ((I 52 13).toNat) ((ma I 59 (ma (I 59) ((I 52 13).toNat) (I 70 a))) 71 a))) 72 a))) 62 (ma ((ma (ma (ma I 59 (ma (I 59) ((I 52 13).toNat) (I 70 a))) 60 (ma ((ma I 59 (ma (I 59) ((I 52 13).toNat) (I 70 a))) 60) ((I 52 13).toNat) ((ma I 59 (ma (I 59) ((I 52 13).toNat) (I 70 a))) 71 a))) 61 (ma ((ma (ma I 59 (ma (I 59) ((I 52 13).toNat) (I 70 a))) 60 (ma ((ma I 59 (ma (I 59) ((I 52 13).toNat) (I 70 a))) 60) ((I 52 13).toNat) ((ma I 59 (ma (I 59) ((I 52 13).toNat) (I 70 a))) 71 a))) 61) ((I 52 13).toNat) ((ma (ma I 59 (ma (I 59) ((I 52 13).toNat) (I 70 a))) 60 (ma ((ma I 59 (ma (I 59) ((I 52 13).toNat) (I 70 a))) 60) ((I 52 13).toNat) ((ma I 59 (ma (I 59) ((I 52 13).toNat) (I 70 a))) 71 a))) 72 a))) 62) ((I 52 13).toNat) ((ma (ma (ma I 59 (ma (I 59) ((I 52 13).toNat) (I 70 a))) 60 (ma ((ma I 59 (ma (I 59) ((I 52 13).toNat) (I 70 a))) 60) ((I 52 13).toNat) ((ma I 59 (ma (I 59) ((I 52 13).toNat) (I 70 a))) 71 a))) 61 (ma ((ma (ma I 59 (ma (I 59) ((I 52 13).toNat) (I 70 a))) 60 (ma ((ma I 59 (ma (I 59) ((I 52 13).toNat) (I 70 a))) 60) ((I 52 13).toNat) ((ma I 59 (ma (I 59) ((I 52 13).toNat) (I 70 a))) 71 a))) 61) ((I 52 13).toNat) ((ma (ma I 59 (ma (I 59) ((I 52 13).toNat) (I 70 a))) 60 (ma ((ma I 59 (ma (I 59) ((I 52 13).toNat) (I 70 a))) 60) ((I 52 13).toNat) ((ma I 59 (ma (I 59) ((I 52 13).toNat) (I 70 a))) 71 a))) 72 a))) 73 a))) 52 18))) 52 (ma ((ma (ma (ma (ma (ma I 59 (ma (I 59) ((I 52 13).toNat) (I 70 a))) 60 (ma ((ma I 59 (ma (I 59) ((I 52 13).toNat) (I 70 a))) 60) ((I 52 13).toNat) ((ma I 59 (ma (I 59) ((I 52 13).toNat) (I 70 a))) 71 a))) 61 (ma ((ma (ma I 59 (ma (I 59) ((I 52 13).toNat) (I 70 a))) 60 (ma ((ma I 59 (ma (I 59) ((I 52 13).toNat) (I 70 a))) 60) ((I 52 13).toNat) ((ma I 59 (ma (I 59) ((I 52 13).toNat) (I 70 a))) 71 a))) 61) ((I 52 13).toNat) ((ma (ma I 59 (ma (I 59) ((I 52 13).toNat) (I 70 a))) 60 (ma ((ma I 59 (ma (I 59) ((I 52 13).toNat) (I 70 a))) 60) ((I 52 13).toNat) ((ma I 59 (ma (I 59) ((I 52 13).toNat) (I 70 a))) 71 a))) 72 a))) 62 (ma ((ma (ma (ma I 59 (ma (I 59) ((I 52 13).toNat) (I 70 a))) 60 (ma ((ma I 59 (ma (I 59) ((I 52 13).toNat) (I 70 a))) 60) ((I 52 13).toNat) ((ma I 59 (ma (I 59) ((I 52 13).toNat) (I 70 a))) 71 a))) 61 (ma ((ma (ma I 59 (ma (I 59) ((I 52 13).toNat) (I 70 a))) 60 (ma ((ma I 59 (ma (I 59) ((I 52 13).toNat) (I 70 a))) 60) ((I 52 13).toNat) ((ma I 59 (ma (I 59) ((I 52 13).toNat) (I 70 a))) 71 a))) 61) ((I 52 13).toNat) ((ma (ma I 59 (ma (I 59) ((I 52 13).toNat) (I 70 a))) 60 (ma ((ma I 59 (ma (I 59) ((I 52 13).toNat) (I 70 a))) 60) ((I 52 13).toNat) ((ma I 59 (ma (I 59) ((I 52 13).toNat) (I 70 a))) 71 a))) 72 a))) 62) ((I 52 13).toNat) ((ma (ma (ma I 59 (ma (I 59) ((I 52 13).toNat) (I 70 a))) 60 (ma ((ma I 59 (ma (I 59) ((I 52 13).toNat) (I 70 a))) 60) ((I 52 13).toNat) ((ma I 59 (ma (I 59) ((I 52 13).toNat) (I 70 a))) 71 a))) 61 (ma ((ma (ma I 59 (ma (I 59) ((I 52 13).toNat) (I 70 a))) 60 (ma ((ma I 59 (ma (I 59) ((I 52 13).toNat) (I 70 a))) 60) ((I 52 13).toNat) ((ma I 59 (ma (I 59) ((I 52 13).toNat) (I 70 a))) 71 a))) 61) ((I 52 13).toNat) ((ma (ma I 59 (ma (I 59) ((I 52 13).toNat) (I 70 a))) 60 (ma ((ma I 59 (ma (I 59) ((I 52 13).toNat) (I 70 a))) 60) ((I 52 13).toNat) ((ma I 59 (ma (I 59) ((I 52 13).toNat) (I 70 a))) 71 a))) 72 a))) 73 a))) 63 (ma ((ma (ma (ma (ma I 59 (ma (I 59) ((I 52 13).toNat) (I 70 a))) 60 (ma ((ma I 59 (ma (I 59) ((I 52 13).toNat) (I 70 a))) 60) ((I 52 13).toNat) ((ma I 59 (ma (I 59) ((I 52 13).toNat) (I 70 a))) 71 a))) 61 (ma ((ma (ma I 59 (ma (I 59) ((I 52 13).toNat) (I 70 a))) 60 (ma ((ma I 59 (ma (I 59) ((I 52 13).toNat) (I 70 a))) 60) ((I 52 13).toNat) ((ma I 59 (ma (I 59) ((I 52 13).toNat) (I 70 a))) 71 a))) 61) ((I 52 13).toNat) ((ma (ma I 59 (ma (I 59) ((I 52 13).toNat) (I 70 a))) 60 (ma ((ma I 59 (ma (I 59) ((I 52 13).toNat) (I 70 a))) 60) ((I 52 13).toNat) ((ma I 59 (ma (I 59) ((I 52 13).toNat) (I 70 a))) 71 a))) 72 a))) 62 (ma ((ma (ma (ma I 59 (ma (I 59) ((I 52 13).toNat) (I 70 a))) 60 (ma ((ma I 59 (ma (I 59) ((I 52 13).toNat) (I 70 a))) 60) ((I 52 13).toNat) ((ma I 59 (ma (I 59) ((I 52 13).toNat) (I 70 a))) 71 a))) 61 (ma ((ma (ma I 59 (ma (I 59) ((I 52 13).toNat) (I 70 a))) 60 (ma ((ma I 59 (ma (I 59) ((I 52 13).toNat) (I 70 a))) 60) ((I 52 13).toNat) ((ma I 59 (ma (I 59) ((I 52 13).toNat) (I 70 a))) 71 a))) 61) ((I 52 13).toNat) ((ma (ma I 59 (ma (I 59) ((I 52 13).toNat) (I 70 a))) 60 (ma ((ma I 59 (ma (I 59) ((I 52 13).toNat) (I 70 a))) 60) ((I 52 13).toNat) ((ma I 59 (ma (I 59) ((I 52 13).toNat) (I 70 a))) 71 a))) 72 a))) 62) ((I 52 13).toNat) ((ma (ma (ma I 59 (ma (I 59) ((I 52 13).toNat) (I 70 a))) 60 (ma ((ma I 59 (ma (I 59) ((I 52 13).toNat) (I 70 a))) 60) ((I 52 13).toNat) ((ma I 59 (ma (I 59) ((I 52 13).toNat) (I 70 a))) 71 a))) 61 (ma ((ma (ma I 59 (ma (I 59) ((I 52 13).toNat) (I 70 a))) 60 (ma ((ma I 59 (ma (I 59) ((I 52 13).toNat) (I 70 a))) 60) ((I 52 13).toNat) ((ma I 59 (ma (I 59) ((I 52 13).toNat) (I 70 a))) 71 a))) 61) ((I 52 13).toNat) ((ma (ma I 59 (ma (I 59) ((I 52 13).toNat) (I 70 a))) 60 (ma ((ma I 59 (ma (I 59) ((I 52 13).toNat) (I 70 a))) 60) ((I 52 13).toNat) ((ma I 59 (ma (I 59) ((I 52 13).toNat) (I 70 a))) 71 a))) 72 a))) 73 a))) 63) ((I 52 13).toNat) ((ma (ma (ma (ma I 59 (ma (I 59) ((I 52 13).toNat) (I 70 a))) 60 (ma ((ma I 59 (ma (I 59) ((I 52 13).toNat) (I 70 a))) 60) ((I 52 13).toNat) ((ma I 59 (ma (I 59) ((I 52 13).toNat) (I 70 a))) 71 a))) 61 (ma ((ma (ma I 59 (ma (I 59) ((I 52 13).toNat) (I 70 a))) 60 (ma ((ma I 59 (ma (I 59) ((I 52 13).toNat) (I 70 a))) 60) ((I 52 13).toNat) ((ma I 59 (ma (I 59) ((I 52 13).toNat) (I 70 a))) 71 a))) 61) ((I 52 13).toNat) ((ma (ma I 59 (ma (I 59) ((I 52 13).toNat) (I 70 a))) 60 (ma ((ma I 59 (ma (I 59) ((I 52 13).toNat) (I 70 a))) 60) ((I 52 13).toNat) ((ma I 59 (ma (I 59) ((I 52 13).toNat) (I 70 a))) 71 a))) 72 a))) 62 (ma ((ma (ma (ma I 59 (ma (I 59) ((I 52 13).toNat) (I 70 a))) 60 (ma ((ma I 59 (ma (I 59) ((I 52 13).toNat) (I 70 a))) 60) ((I 52 13).toNat) ((ma I 59 (ma (I 59) ((I 52 13).toNat) (I 70 a))) 71 a))) 61 (ma ((ma (ma I 59 (ma (I 59) ((I 52 13).toNat) (I 70 a))) 60 (ma ((ma I 59 (ma (I 59) ((I 52 13).toNat) (I 70 a))) 60) ((I 52 13).toNat) ((ma I 59 (ma (I 59) ((I 52 13).toNat) (I 70 a))) 71 a))) 61) ((I 52 13).toNat) ((ma (ma I 59 (ma (I 59) ((I 52 13).toNat) (I 70 a))) 60 (ma ((ma I 59 (ma (I 59) ((I 52 13).toNat) (I 70 a))) 60) ((I 52 13).toNat) ((ma I 59 (ma (I 59) ((I 52 13).toNat) (I 70 a))) 71 a))) 72 a))) 62) ((I 52 13).toNat) ((ma (ma (ma I 59 (ma (I 59) ((I 52 13).toNat) (I 70 a))) 60 (ma ((ma I 59 (ma (I 59) ((I 52 13).toNat) (I 70 a))) 60) ((I 52 13).toNat) ((ma I 59 (ma (I 59) ((I 52 13).toNat) (I 70 a))) 71 a))) 61 (ma ((ma (ma I 59 (ma (I 59) ((I 52 13).toNat) (I 70 a))) 60 (ma ((ma I 59 (ma (I 59) ((I 52 13).toNat) (I 70 a))) 60) ((I 52 13).toNat) ((ma I 59 (ma (I 59) ((I 52 13).toNat) (I 70 a))) 71 a))) 61) ((I 52 13).toNat) ((ma (ma I 59 (ma (I 59) ((I 52 13).toNat) (I 70 a))) 60 (ma ((ma I 59 (ma (I 59) ((I 52 13).toNat) (I 70 a))) 60) ((I 52 13).toNat) ((ma I 59 (ma (I 59) ((I 52 13).toNat) (I 70 a))) 71 a))) 72 a))) 73 a))) 52 18))) 52) 13 (((ma (ma (ma (ma (ma I 59 (ma (I 59) ((I 52 13).toNat) (I 70 a))) 60 (ma ((ma I 59 (ma (I 59) ((I 52 13).toNat) (I 70 a))) 60) ((I 52 13).toNat) ((ma I 59 (ma (I 59) ((I 52 13).toNat) (I 70 a))) 71 a))) 61 (ma ((ma (ma I 59 (ma (I 59) ((I 52 13).toNat) (I 70 a))) 60 (ma ((ma I 59 (ma (I 59) ((I 52 13).toNat) (I 70 a))) 60) ((I 52 13).toNat) ((ma I 59 (ma (I 59) ((I 52 13).toNat) (I 70 a))) 71 a))) 61) ((I 52 13).toNat) ((ma (ma I 59 (ma (I 59) ((I 52 13).toNat) (I 70 a))) 60 (ma ((ma I 59 (ma (I 59) ((I 52 13).toNat) (I 70 a))) 60) ((I 52 13).toNat) ((ma I 59 (ma (I 59) ((I 52 13).toNat) (I 70 a))) 71 a))) 72 a))) 62 (ma ((ma (ma (ma I 59 (ma (I 59) ((I 52 13).toNat) (I 70 a))) 60 (ma ((ma I 59 (ma (I 59) ((I 52 13).toNat) (I 70 a))) 60) ((I 52 13).toNat) ((ma I 59 (ma (I 59) ((I 52 13).toNat) (I 70 a))) 71 a))) 61 (ma ((ma (ma I 59 (ma (I 59) ((I 52 13).toNat) (I 70 a))) 60 (ma ((ma I 59 (ma (I 59) ((I 52 13).toNat) (I 70 a))) 60) ((I 52 13).toNat) ((ma I 59 (ma (I 59) ((I 52 13).toNat) (I 70 a))) 71 a))) 61) ((I 52 13).toNat) ((ma (ma I 59 (ma (I 59) ((I 52 13).toNat) (I 70 a))) 60 (ma ((ma I 59 (ma (I 59) ((I 52 13).toNat) (I 70 a))) 60) ((I 52 13).toNat) ((ma I 59 (ma (I 59) ((I 52 13).toNat) (I 70 a))) 71 a))) 72 a))) 62) ((I 52 13).toNat) ((ma (ma (ma I 59 (ma (I 59) ((I 52 13).toNat) (I 70 a))) 60 (ma ((ma I 59 (ma (I 59) ((I 52 13).toNat) (I 70 a))) 60) ((I 52 13).toNat) ((ma I 59 (ma (I 59) ((I 52 13).toNat) (I 70 a))) 71 a))) 61 (ma ((ma (ma I 59 (ma (I 59) ((I 52 13).toNat) (I 70 a))) 60 (ma ((ma I 59 (ma (I 59) ((I 52 13).toNat) (I 70 a))) 60) ((I 52 13).toNat) ((ma I 59 (ma (I 59) ((I 52 13).toNat) (I 70 a))) 71 a))) 61) ((I 52 13).toNat) ((ma (ma I 59 (ma (I 59) ((I 52 13).toNat) (I 70 a))) 60 (ma ((ma I 59 (ma (I 59) ((I 52 13).toNat) (I 70 a))) 60) ((I 52 13).toNat) ((ma I 59 (ma (I 59) ((I 52 13).toNat) (I 70 a))) 71 a))) 72 a))) 73 a))) 63 (ma ((ma (ma (ma (ma I 59 (ma (I 59) ((I 52 13).toNat) (I 70 a))) 60 (ma ((ma I 59 (ma (I 59) ((I 52 13).toNat) (I 70 a))) 60) ((I 52 13).toNat) ((ma I 59 (ma (I 59) ((I 52 13).toNat) (I 70 a))) 71 a))) 61 (ma ((ma (ma I 59 (ma (I 59) ((I 52 13).toNat) (I 70 a))) 60 (ma ((ma I 59 (ma (I 59) ((I 52 13).toNat) (I 70 a))) 60) ((I 52 13).toNat) ((ma I 59 (ma (I 59) ((I 52 13).toNat) (I 70 a))) 71 a))) 61) ((I 52 13).toNat) ((ma (ma I 59 (ma (I 59) ((I 52 13).toNat) (I 70 a))) 60 (ma ((ma I 59 (ma (I 59) ((I 52 13).toNat) (I 70 a))) 60) ((I 52 13).toNat) ((ma I 59 (ma (I 59) ((I 52 13).toNat) (I 70 a))) 71 a))) 72 a))) 62 (ma ((ma (ma (ma I 59 (ma (I 59) ((I 52 13).toNat) (I 70 a))) 60 (ma ((ma I 59 (ma (I 59) ((I 52 13).toNat) (I 70 a))) 60) ((I 52 13).toNat) ((ma I 59 (ma (I 59) ((I 52 13).toNat) (I 70 a))) 71 a))) 61 (ma ((ma (ma I 59 (ma (I 59) ((I 52 13).toNat) (I 70 a))) 60 (ma ((ma I 59 (ma (I 59) ((I 52 13).toNat) (I 70 a))) 60) ((I 52 13).toNat) ((ma I 59 (ma (I 59) ((I 52 13).toNat) (I 70 a))) 71 a))) 61) ((I 52 13).toNat) ((ma (ma I 59 (ma (I 59) ((I 52 13).toNat) (I 70 a))) 60 (ma ((ma I 59 (ma (I 59) ((I 52 13).toNat) (I 70 a))) 60) ((I 52 13).toNat) ((ma I 59 (ma (I 59) ((I 52 13).toNat) (I 70 a))) 71 a))) 72 a))) 62) ((I 52 13).toNat) ((ma (ma (ma I 59 (ma (I 59) ((I 52 13).toNat) (I 70 a))) 60 (ma ((ma I 59 (ma (I 59) ((I 52 13).toNat) (I 70 a))) 60) ((I 52 13).toNat) ((ma I 59 (ma (I 59) ((I 52 13).toNat) (I 70 a))) 71 a))) 61 (ma ((ma (ma I 59 (ma (I 59) ((I 52 13).toNat) (I 70 a))) 60 (ma ((ma I 59 (ma (I 59) ((I 52 13).toNat) (I 70 a))) 60) ((I 52 13).toNat) ((ma I 59 (ma (I 59) ((I 52 13).toNat) (I 70 a))) 71 a))) 61) ((I 52 13).toNat) ((ma (ma I 59 (ma (I 59) ((I 52 13).toNat) (I 70 a))) 60 (ma ((ma I 59 (ma (I 59) ((I 52 13).toNat) (I 70 a))) 60) ((I 52 13).toNat) ((ma I 59 (ma (I 59) ((I 52 13).toNat) (I 70 a))) 71 a))) 72 a))) 73 a))) 63) ((I 52 13).toNat) ((ma (ma (ma (ma I 59 (ma (I 59) ((I 52 13).toNat) (I 70 a))) 60 (ma ((ma I 59 (ma (I 59) ((I 52 13).toNat) (I 70 a))) 60) ((I 52 13).toNat) ((ma I 59 (ma (I 59) ((I 52 13).toNat) (I 70 a))) 71 a))) 61 (ma ((ma (ma I 59 (ma (I 59) ((I 52 13).toNat) (I 70 a))) 60 (ma ((ma I 59 (ma (I 59) ((I 52 13).toNat) (I 70 a))) 60) ((I 52 13).toNat) ((ma I 59 (ma (I 59) ((I 52 13).toNat) (I 70 a))) 71 a))) 61) ((I 52 13).toNat) ((ma (ma I 59 (ma (I 59) ((I 52 13).toNat) (I 70 a))) 60 (ma ((ma I 59 (ma (I 59) ((I 52 13).toNat) (I 70 a))) 60) ((I 52 13).toNat) ((ma I 59 (ma (I 59) ((I 52 13).toNat) (I 70 a))) 71 a))) 72 a))) 62 (ma ((ma (ma (ma I 59 (ma (I 59) ((I 52 13).toNat) (I 70 a))) 60 (ma ((ma I 59 (ma (I 59) ((I 52 13).toNat) (I 70 a))) 60) ((I 52 13).toNat) ((ma I 59 (ma (I 59) ((I 52 13).toNat) (I 70 a))) 71 a))) 61 (ma ((ma (ma I 59 (ma (I 59) ((I 52 13).toNat) (I 70 a))) 60 (ma ((ma I 59 (ma (I 59) ((I 52 13).toNat) (I 70 a))) 60) ((I 52 13).toNat) ((ma I 59 (ma (I 59) ((I 52 13).toNat) (I 70 a))) 71 a))) 61) ((I 52 13).toNat) ((ma (ma I 59 (ma (I 59) ((I 52 13).toNat) (I 70 a))) 60 (ma ((ma I 59 (ma (I 59) ((I 52 13).toNat) (I 70 a))) 60) ((I 52 13).toNat) ((ma I 59 (ma (I 59) ((I 52 13).toNat) (I 70 a))) 71 a))) 72 a))) 62) ((I 52 13).toNat) ((ma (ma (ma I 59 (ma (I 59) ((I 52 13).toNat) (I 70 a))) 60 (ma ((ma I 59 (ma (I 59) ((I 52 13).toNat) (I 70 a))) 60) ((I 52 13).toNat) ((ma I 59 (ma (I 59) ((I 52 13).toNat) (I 70 a))) 71 a))) 61 (ma ((ma (ma I 59 (ma (I 59) ((I 52 13).toNat) (I 70 a))) 60 (ma ((ma I 59 (ma (I 59) ((I 52 13).toNat) (I 70 a))) 60) ((I 52 13).toNat) ((ma I 59 (ma (I 59) ((I 52 13).toNat) (I 70 a))) 71 a))) 61) ((I 52 13).toNat) ((ma (ma I 59 (ma (I 59) ((I 52 13).toNat) (I 70 a))) 60 (ma ((ma I 59 (ma (I 59) ((I 52 13).toNat) (I 70 a))) 60) ((I 52 13).toNat) ((ma I 59 (ma (I 59) ((I 52 13).toNat) (I 70 a))) 71 a))) 72 a))) 73 a))) 52 18))) 52 13) + 1))) J)) (by decide +kernel) rfl (show (0 ≤ (a : Int) ∧ (a : Int) < 20) ∧ (0 ≤ (I 52 13) ∧ (I 52 13) < 420) ∧ (0 ≤ (a : Int) ∧ (a : Int) < 20) ∧ (0 ≤ (I 52 13) ∧ (I 52 13) < 420) ∧ (0 ≤ (a : Int) ∧ (a : Int) < 20) ∧ (0 ≤ (I 52 13) ∧ (I 52 13) < 420) ∧ (0 ≤ (a : Int) ∧ (a : Int) < 20) ∧ (0 ≤ (I 52 13) ∧ (I 52 13) < 420) ∧ (0 ≤ (I 52 13) ∧ (I 52 13) < 420) ∧ (inR (((ma (ma (ma (ma (ma I 59 (ma (I 59) ((I 52 13).toNat) (I 70 a))) 60 (ma ((ma I 59 (ma (I 59) ((I 52 13).toNat) (I 70 a))) 60) ((I 52 13).toNat) ((ma I 59 (ma (I 59) ((I 52 13).toNat) (I 70 a))) 71 a))) 61 (ma ((ma (ma I 59 (ma (I 59) ((I 52 13).toNat) (I 70 a))) 60 (ma ((ma I 59 (ma (I 59) ((I 52 13).toNat) (I 70 a))) 60) ((I 52 13).toNat) ((ma I 59 (ma (I 59) ((I 52 13).toNat) (I 70 a))) 71 a))) 61) ((I 52 13).toNat) ((ma (ma I 59 (ma (I 59) ((I 52 13).toNat) (I 70 a))) 60 (ma ((ma I 59 (ma (I 59) ((I 52 13).toNat) (I 70 a))) 60) ((I 52 13).toNat) ((ma I 59 (ma (I 59) ((I 52 13).toNat) (I 70 a))) 71 a))) 72 a))) 62 (ma ((ma (ma (ma I 59 (ma (I 59) ((I 52 13).toNat) (I 70 a))) 60 (ma ((ma I 59 (ma (I 59) ((I 52 13).toNat) (I 70 a))) 60) ((I 52 13).toNat) ((ma I 59 (ma (I 59) ((I 52 13).toNat) (I 70 a))) 71 a))) 61 (ma ((ma (ma I 59 (ma (I 59) ((I 52 13).toNat) (I 70 a))) 60 (ma ((ma I 59 (ma (I 59) ((I 52 13).toNat) (I 70 a))) 60) ((I 52 13).toNat) ((ma I 59 (ma (I 59) ((I 52 13).toNat) (I 70 a))) 71 a))) 61) ((I 52 13).toNat) ((ma (ma I 59 (ma (I 59) ((I 52 13).toNat) (I 70 a))) 60 (ma ((ma I 59 (ma (I 59) ((I 52 13).toNat) (I 70 a))) 60) ((I 52 13).toNat) ((ma I 59 (ma (I 59) ((I 52 13).toNat) (I 70 a))) 71 a))) 72 a))) 62) ((I 52 13).toNat) ((ma (ma (ma I 59 (ma (I 59) ((I 52 13).toNat) (I 70 a))) 60 (ma ((ma I 59 (ma (I 59) ((I 52 13).toNat) (I 70 a))) 60) ((I 52 13).toNat) ((ma I 59 (ma (I 59) ((I 52 13).toNat) (I 70 a))) 71 a))) 61 (ma ((ma (ma I 59 (ma (I 59) ((I 52 13).toNat) (I 70 a))) 60 (ma ((ma I 59 (ma (I 59) ((I 52 13).toNat) (I 70 a))) 60) ((I 52 13).toNat) ((ma I 59 (ma (I 59) ((I 52 13).toNat) (I 70 a))) 71 a))) 61) ((I 52 13).toNat) ((ma (ma I 59 (ma (I 59) ((I 52 13).toNat) (I 70 a))) 60 (ma ((ma I 59 (ma (I 59) ((I 52 13).toNat) (I 70 a))) 60) ((I 52 13).toNat) ((ma I 59 (ma (I 59) ((I 52 13).toNat) (I 70 a))) 71 a))) 72 a))) 73 a))) 63 (ma ((ma (ma (ma (ma I 59 (ma (I 59) ((I 52 13).toNat) (I 70 a))) 60 (ma ((ma I 59 (ma (I 59) ((I 52 13).toNat) (I 70 a))) 60) ((I 52 13).toNat) ((ma I 59 (ma (I 59) ((I 52 13).toNat) (I 70 a))) 71 a))) 61 (ma ((ma (ma I 59 (ma (I 59) ((I 52 13).toNat) (I 70 a))) 60 (ma ((ma I 59 (ma (I 59) ((I 52 13).toNat) (I 70 a))) 60) ((I 52 13).toNat) ((ma I 59 (ma (I 59) ((I 52 13).toNat) (I 70 a))) 71 a))) 61) ((I 52 13).toNat) ((ma (ma I 59 (ma (I 59) ((I 52 13).toNat) (I 70 a))) 60 (ma ((ma I 59 (ma (I 59) ((I 52 13).toNat) (I 70 a))) 60) ((I 52 13).toNat) ((ma I 59 (ma (I 59) ((I 52 13).toNat) (I 70 a))) 71 a))) 72 a))) 62 (ma ((ma (ma (ma I 59 (ma (I 59) ((I 52 13).toNat) (I 70 a))) 60 (ma ((ma I 59 (ma (I 59) ((I 52 13).toNat) (I 70 a))) 60) ((I 52 13).toNat) ((ma I 59 (ma (I 59) ((I 52 13).toNat) (I 70 a))) 71 a))) 61 (ma ((ma (ma I 59 (ma (I 59) ((I 52 13).toNat) (I 70 a))) 60 (ma ((ma I 59 (ma (I 59) ((I 52 13).toNat) (I 70 a))) 60) ((I 52 13).toNat) ((ma I 59 (ma (I 59) ((I 52 13).toNat) (I 70 a))) 71 a))) 61) ((I 52 13).toNat) ((ma (ma I 59 (ma (I 59) ((I 52 13).toNat) (I 70 a))) 60 (ma ((ma I 59 (ma (I 59) ((I 52 13).toNat) (I 70 a))) 60) ((I 52 13).toNat) ((ma I 59 (ma (I 59) ((I 52 13).toNat) (I 70 a))) 71 a))) 72 a))) 62) ((I 52 13).toNat) ((ma (ma (ma I 59 (ma (I 59) ((I 52 13).toNat) (I 70 a))) 60 (ma ((ma I 59 (ma (I 59) ((I 52 13).toNat) (I 70 a))) 60) ((I 52 13).toNat) ((ma I 59 (ma (I 59) ((I 52 13).toNat) (I 70 a))) 71 a))) 61 (ma ((ma (ma I 59 (ma (I 59) ((I 52 13).toNat) (I 70 a))) 60 (ma ((ma I 59 (ma (I 59) ((I 52 13).toNat) (I 70 a))) 60) ((I 52 13).toNat) ((ma I 59 (ma (I 59) ((I 52 13).toNat) (I 70 a))) 71 a))) 61) ((I 52 13).toNat) ((ma (ma I 59 (ma (I 59) ((I 52 13).toNat) (I 70 a))) 60 (ma ((ma I 59 (ma (I 59) ((I 52 13).toNat) (I 70 a))) 60) ((I 52 13).toNat) ((ma I 59 (ma (I 59) ((I 52 13).toNat) (I 70 a))) 71 a))) 72 a))) 73 a))) 63) ((I 52 13).toNat) ((ma (ma (ma (ma I 59 (ma (I 59) ((I 52 13).toNat) (I 70 a))) 60 (ma ((ma I 59 (ma (I 59) ((I 52 13).toNat) (I 70 a))) 60) ((I 52 13).toNat) ((ma I 59 (ma (I 59) ((I 52 13).toNat) (I 70 a))) 71 a))) 61 (ma ((ma (ma I 59 (ma (I 59) ((I 52 13).toNat) (I 70 a))) 60 (ma ((ma I 59 (ma (I 59) ((I 52 13).toNat) (I 70 a))) 60) ((I 52 13).toNat) ((ma I 59 (ma (I 59) ((I 52 13).toNat) (I 70 a))) 71 a))) 61) ((I 52 13).toNat) ((ma (ma I 59 (ma (I 59) ((I 52 13).toNat) (I 70 a))) 60 (ma ((ma I 59 (ma (I 59) ((I 52 13).toNat) (I 70 a))) 60) ((I 52 13).toNat) ((ma I 59 (ma (I 59) ((I 52 13).toNat) (I 70 a))) 71 a))) 72 a))) 62 (ma ((ma (ma (ma I 59 (ma (I 59) ((I 52 13).toNat) (I 70 a))) 60 (ma ((ma I 59 (ma (I 59) ((I 52 13).toNat) (I 70 a))) 60) ((I 52 13).toNat) ((ma I 59 (ma (I 59) ((I 52 13).toNat) (I 70 a))) 71 a))) 61 (ma ((ma (ma I 59 (ma (I 59) ((I 52 13).toNat) (I 70 a))) 60 (ma ((ma I 59 (ma (I 59) ((I 52 13).toNat) (I 70 a))) 60) ((I 52 13).toNat) ((ma I 59 (ma (I 59) ((I 52 13).toNat) (I 70 a))) 71 a))) 61) ((I 52 13).toNat) ((ma (ma I 59 (ma (I 59) ((I 52 13).toNat) (I 70 a))) 60 (ma ((ma I 59 (ma (I 59) ((I 52 13).toNat) (I 70 a))) 60) ((I 52 13).toNat) ((ma I 59 (ma (I 59) ((I 52 13).toNat) (I 70 a))) 71 a))) 72 a))) 62) ((I 52 13).toNat) ((ma (ma (ma I 59 (ma (I 59) ((I 52 13).toNat) (I 70 a))) 60 (ma ((ma I 59 (ma (I 59) ((I 52 13).toNat) (I 70 a))) 60) ((I 52 13).toNat) ((ma I 59 (ma (I 59) ((I 52 13).toNat) (I 70 a))) 71 a))) 61 (ma ((ma (ma I 59 (ma (I 59) ((I 52 13).toNat) (I 70 a))) 60 (ma ((ma I 59 (ma (I 59) ((I 52 13).toNat) (I 70 a))) 60) ((I 52 13).toNat) ((ma I 59 (ma (I 59) ((I 52 13).toNat) (I 70 a))) 71 a))) 61) ((I 52 13).toNat) ((ma (ma I 59 (ma (I 59) ((I 52 13).toNat) (I 70 a))) 60 (ma ((ma I 59 (ma (I 59) ((I 52 13).toNat) (I 70 a))) 60) ((I 52 13).toNat) ((ma I 59 (ma (I 59) ((I 52 13).toNat) (I 70 a))) 71 a))) 72 a))) 73 a))) 52 18))) 52 13) + 1)) from ⟨(by first | omega | (simp [ma]; omega) | (simp [ma, *]; omega)), (by first | omega | (simp [ma]; omega) | (simp [ma, *]; omega)), (by first | omega | (simp [ma]; omega) | (simp [ma, *]; omega)), (by first | omega | (simp [ma]; omega) | (simp [ma, *]; omega)), (by first | omega | (simp [ma]; omega) | (simp [ma, *]; omega)), (by first | omega | (simp [ma]; omega) | (simp [ma, *]; omega)), (by first | omega | (simp [ma]; omega) | (simp [ma, *]; omega)), (by first | omega | (simp [ma]; omega) | (simp [ma, *]; omega)), (by first | omega | (simp [ma]; omega) | (simp [ma, *]; omega)), (by unfold inR; first | omega | (simp [ma]; omega) | (simp [ma, *]; omega))⟩) ?_
    refine V.nI (fun I3 eI3 => ?_)
    refine V.blk [(136, .aload 0, 1), (137, .getfield 10012, 3), (140, .iload 2, 1), (141, .aload 0, 1), (142, .getfield 10020, 3), (145, .iload 1, 1), (146, .baload, 1)] (ps := [0 ≤ (a : Int) ∧ (a : Int) < 20]) (z' := (147, [some (aR 52), some (aI (a : Int)), some (aI (I 52 13))], [aI (I3 68 a), aI (I 52 13), aR 64], MM N I3 J)) (by decide +kernel) rfl (show (0 ≤ (a : Int) ∧ (a : Int) < 20) from (by first | omega | (simp [ma]; omega) | (simp [ma, *]; omega))) ?_
    have m68_I3 : I3 68 a = 1 := by subst_vars; simp only [ma_ne, ne_eq, reduceCtorEq, not_false_eq_true, Nat.reduceEqDiff]; exact d1
    rw [m68_I3]
    refine V.blk [(147, .ifCond .eq 154, 3)] (ps := []) (z' := (brc .eq 1 0 154 150, [some (aR 52), some (aI (a : Int)), some (aI (I 52 13))], [aI (I 52 13), aR 64], MM N I3 J)) (by decide +kernel) rfl trivial ?_
    refine V.eq (fun hz => absurd hz (by decide)) (fun _ => ?_)
    refine V.blk [(150, .bipush (-1), 1), (151, .goto 158, 3), (158, .iastore, 1), (159, .aload 0, 1), (160, .getfield 10014, 3), (163, .aload 0, 1), (164, .getfield 10017, 3), (167, .aload 0, 1), (168, .getfield 10018, 3), (171, .iastore, 1), (172, .aload 0, 1), (173, .getfield 10015, 3), (176, .aload 0, 1), (177, .getfield 10017, 3), (180, .iload 2, 1), (181, .iastore, 1)] (ps := [0 ≤ (I 52 13) ∧ (I 52 13) < 420, 0 ≤ ((ma I3 64 (ma (I3 64) ((I 52 13).toNat) (-1))) 52 17) ∧ ((ma I3 64 (ma (I3 64) ((I 52 13).toNat) (-1))) 52 17) < 4020, 0 ≤ ((ma (ma I3 64 (ma (I3 64) ((I 52 13).toNat) (-1))) 65 (ma ((ma I3 64 (ma (I3 64) ((I 52 13).toNat) (-1))) 65) (((ma I3 64 (ma (I3 64) ((I 52 13).toNat) (-1))) 52 17).toNat) ((ma I3 64 (ma (I3 64) ((I 52 13).toNat) (-1))) 52 18))) 52 17) ∧ ((ma (ma I3 64 (ma (I3 64) ((I 52 13).toNat) (-1))) 65 (ma ((ma I3 64 (ma (I3 64) ((I 52 13).toNat) (-1))) 65) (((ma I3 64 (ma (I3 64) ((I 52 13).toNat) (-1))) 52 17).toNat) ((ma I3 64 (ma (I3 64) ((I 52 13).toNat) (-1))) 52 18))) 52 17) < 4020]) (z' := (182, [some (aR 52), some (aI (a : Int)), some (aI (I 52 13))], [], MM N (ma (ma (ma I3 64 (ma (I3 64) ((I 52 13).toNat) (-1))) 65 (ma ((ma I3 64 (ma (I3 64) ((I 52 13).toNat) (-1))) 65) (((ma I3 64 (ma (I3 64) ((I 52 13).toNat) (-1))) 52 17).toNat) ((ma I3 64 (ma (I3 64) ((I 52 13).toNat) (-1))) 52 18))) 66 (ma ((ma (ma I3 64 (ma (I3 64) ((I 52 13).toNat) (-1))) 65 (ma ((ma I3 64 (ma (I3 64) ((I 52 13).toNat) (-1))) 65) (((ma I3 64 (ma (I3 64) ((I 52 13).toNat) (-1))) 52 17).toNat) ((ma I3 64 (ma (I3 64) ((I 52 13).toNat) (-1))) 52 18))) 66) (((ma (ma I3 64 (ma (I3 64) ((I 52 13).toNat) (-1))) 65 (ma ((ma I3 64 (ma (I3 64) ((I 52 13).toNat) (-1))) 65) (((ma I3 64 (ma (I3 64) ((I 52 13).toNat) (-1))) 52 17).toNat) ((ma I3 64 (ma (I3 64) ((I 52 13).toNat) (-1))) 52 18))) 52 17).toNat) (I 52 13))) J)) (by decide +kernel) rfl (show (0 ≤ (I 52 13) ∧ (I 52 13) < 420) ∧ (0 ≤ ((ma I3 64 (ma (I3 64) ((I 52 13).toNat) (-1))) 52 17) ∧ ((ma I3 64 (ma (I3 64) ((I 52 13).toNat) (-1))) 52 17) < 4020) ∧ (0 ≤ ((ma (ma I3 64 (ma (I3 64) ((I 52 13).toNat) (-1))) 65 (ma ((ma I3 64 (ma (I3 64) ((I 52 13).toNat) (-1))) 65) (((ma I3 64 (ma (I3 64) ((I 52 13).toNat) (-1))) 52 17).toNat) ((ma I3 64 (ma (I3 64) ((I 52 13).toNat) (-1))) 52 18))) 52 17) ∧ ((ma (ma I3 64 (ma (I3 64) ((I 52 13).toNat) (-1))) 65 (ma ((ma I3 64 (ma (I3 64) ((I 52 13).toNat) (-1))) 65) (((ma I3 64 (ma (I3 64) ((I 52 13).toNat) (-1))) 52 17).toNat) ((ma I3 64 (ma (I3 64) ((I 52 13).toNat) (-1))) 52 18))) 52 17) < 4020) from ⟨(by first | omega | (simp [ma]; omega) | (simp [ma, *]; omega)), (by first | omega | (simp [ma]; omega) | (simp [ma, *]; omega)), (by first | omega | (simp [ma]; omega) | (simp [ma, *]; omega))⟩) ?_
    refine V.nI (fun I4 eI4 => ?_)
    refine V.blk [(182, .aload 0, 1), (183, .getfield 10016, 3), (186, .aload 0, 1), (187, .getfield 10017, 3), (190, .aload 0, 1), (191, .getfield 10020, 3), (194, .iload 1, 1), (195, .baload, 1)] (ps := [0 ≤ (a : Int) ∧ (a : Int) < 20]) (z' := (196, [some (aR 52), some (aI (a : Int)), some (aI (I 52 13))], [aI (I4 68 a), aI (I4 52 17), aR 67], MM N I4 J)) (by decide +kernel) rfl (show (0 ≤ (a : Int) ∧ (a : Int) < 20) from (by first | omega | (simp [ma]; omega) | (simp [ma, *]; omega))) ?_
    have m68_I4 : I4 68 a = 1 := by subst_vars; simp only [ma_ne, ne_eq, reduceCtorEq, not_false_eq_true, Nat.reduceEqDiff]; exact d1
    rw [m68_I4]
    refine V.blk [(196, .ifCond .ne 203, 3)] (ps := []) (z' := (brc .ne 1 0 203 199, [some (aR 52), some (aI (a : Int)), some (aI (I 52 13))], [aI (I4 52 17), aR 67], MM N I4 J)) (by decide +kernel) rfl trivial ?_
    refine V.ne (fun _ => ?_) (fun hz => absurd hz (by decide))
    refine V.blk [(203, .bipush 0, 1), (204, .bastore, 1), (205, .aload 0, 1), (206, .dup, 1), (207, .getfield 10017, 3), (210, .bipush 1, 1), (211, .iadd, 1), (212, .putfield 10017, 3)] (ps := [0 ≤ (I4 52 17) ∧ (I4 52 17) < 4020, 0 ≤ 0 ∧ 0 ≤ 1, inR (((ma I4 67 (ma (I4 67) ((I4 52 17).toNat) 0)) 52 17) + 1)]) (z' := (215, [some (aR 52), some (aI (a : Int)), some (aI (I 52 13))], [], MM N (ma (ma I4 67 (ma (I4 67) ((I4 52 17).toNat) 0)) 52 (ma ((ma I4 67 (ma (I4 67) ((I4 52 17).toNat) 0)) 52) 17 (((ma I4 67 (ma (I4 67) ((I4 52 17).toNat) 0)) 52 17) + 1))) J)) (by decide +kernel) rfl (show (0 ≤ (I4 52 17) ∧ (I4 52 17) < 4020) ∧ (0 ≤ 0 ∧ 0 ≤ 1) ∧ (inR (((ma I4 67 (ma (I4 67) ((I4 52 17).toNat) 0)) 52 17) + 1)) from ⟨(by first | omega | (simp [ma]; omega) | (simp [ma, *]; omega)), (by first | omega | (simp [ma]; omega) | (simp [ma, *]; omega)), (by unfold inR; first | omega | (simp [ma]; omega) | (simp [ma, *]; omega))⟩) ?_
    refine V.nI (fun I5 eI5 => ?_)
    refine V.rv (by decide +kernel) ?_
    have fo : ∀ i, i ≠ 52 → (i < 59 ∨ 67 < i) → I5 i = I i := fun i x y => by
      subst_vars
      have n1 : i ≠ 59 := by omega
      have n2 : i ≠ 60 := by omega
      have n3 : i ≠ 61 := by omega
      have n4 : i ≠ 62 := by omega
      have n5 : i ≠ 63 := by omega
      have n6 : i ≠ 64 := by omega
      have n7 : i ≠ 65 := by omega
      have n8 : i ≠ 66 := by omega
      have n9 : i ≠ 67 := by omega
      simp only [ma_ne, ne_eq, x, n1, n2, n3, n4, n5, n6, n7, n8, n9, not_false_eq_true]
    have f52 : ∀ k, k ≠ 13 → k ≠ 17 → k ≠ 39 → I5 52 k = I 52 k := fun k x y z => by
      subst_vars
      simp only [ma_self, ma_ne, ne_eq, x, y, reduceCtorEq, not_false_eq_true, Nat.reduceEqDiff]
    have f39 : I5 52 39 = I 52 39 := by
      subst_vars
      simp only [ma_self, ma_ne, ne_eq, reduceCtorEq, not_false_eq_true, Nat.reduceEqDiff]
    refine ⟨rfl, I5, rfl, fo, f52, Or.inl ⟨?_, ?_, f39⟩⟩
    · unfold aoB rmB adB
      rw [e26, e23, e24, e25]
      first
        | (rw [if_pos c]; exact decide_eq_true (by omega))
        | (rw [if_neg c]; exact decide_eq_true (by omega))
    · unfold aoU
      rw [e26, e23, e24, e25]
      first
        | (have dd5 := d5 c
           rw [if_neg c]
           have hm13 : I 52 13 = P 10 9 := g13
           refine hR.add hK hm.1 h1 h13 ?_ ?_ ?_ ?_ ?_ ?_ ?_ ?_ ?_ ?_ ?_ ?_
           all_goals
             subst_vars
             simp only [ma_self, ma_ne, ma_ma, ne_eq, reduceCtorEq, not_false_eq_true, Nat.reduceEqDiff, d2, d3, d4, dd5, g18, g17, hm13])
        | (rw [if_pos c]
           obtain ⟨q, eq⟩ : ∃ q : Nat, stF P (K 23 a) (K 24 a) (K 25 a) = q := ⟨(stF P (K 23 a) (K 24 a) (K 25 a)).toNat, by omega⟩
           rw [eq]
           refine hR.rem hK hm.1 h1 h13 ?_ ?_ ?_ (fun i x y => ?_) ?_ ?_ ?_ ?_
           all_goals
             subst_vars
             simp only [ma_self, ma_ne, ma_ma, ne_eq, reduceCtorEq, not_false_eq_true, Nat.reduceEqDiff, d2, d3, d4, g18, g17, eq]
           · have n6 : i ≠ 64 := by omega
             have n7 : i ≠ 65 := by omega
             have n8 : i ≠ 66 := by omega
             have n9 : i ≠ 67 := by omega
             have n0 : i ≠ 52 := by omega
             simp only [ma_ne, ne_eq, n0, n6, n7, n8, n9, not_false_eq_true]
           · rfl)
  · skip
    try simp only [b2_cast, b2_ncast, Classical.not_not, lcm_lt, lcm_ge, lcm_gt, lcm_le, lcm_eq, b2_0, b2_n0, Bool.not_eq_false, Bool.not_eq_true, decide_eq_true_eq, decide_eq_false_iff_not] at bh2
    refine V.blk [(31, .bipush 1, 1), (32, .goto 36, 3), (36, .aload 0, 1), (37, .getfield 10020, 3), (40, .iload 1, 1), (41, .baload, 1)] (ps := [0 ≤ (a : Int) ∧ (a : Int) < 20]) (z' := (42, [some (aR 52), some (aI (a : Int)), some (aI (stF P (K 23 a) (K 24 a) (K 25 a)))], [aI (I 68 a), aI 1], MM N I J)) (by decide +kernel) rfl (show (0 ≤ (a : Int) ∧ (a : Int) < 20) from (by first | omega | (simp [ma]; omega) | (simp [ma, *]; omega))) ?_
    rw [d1]
    refine V.blk [(42, .if_icmp .ne 54, 3)] (ps := []) (z' := (brc .ne 1 1 54 45, [some (aR 52), some (aI (a : Int)), some (aI (stF P (K 23 a) (K 24 a) (K 25 a)))], [], MM N I J)) (by decide +kernel) rfl trivial ?_
    refine V.ne (fun hz => absurd hz (by decide)) (fun _ => ?_)
    refine V.blk [(45, .aload 0, 1), (46, .bipush 100, 2), (48, .iload 1, 1), (49, .iadd, 1), (50, .putfield 10039, 3)] (ps := [inR (100 + (a : Int))]) (z' := (53, [some (aR 52), some (aI (a : Int)), some (aI (stF P (K 23 a) (K 24 a) (K 25 a)))], [], MM N (ma I 52 (ma (I 52) 39 ((100 + a : Nat) : Int))) J)) (by decide +kernel) rfl (show (inR (100 + (a : Int))) from (by unfold inR; first | omega | (simp [ma]; omega) | (simp [ma, *]; omega))) ?_
    refine V.nI (fun I6 eI6 => ?_)
    refine V.rv (by decide +kernel) ?_
    have hno : aoB P a = false := by
      unfold aoB rmB adB
      rw [e26, e23, e24, e25]
      first
        | (rw [if_pos c]; exact decide_eq_false (by omega))
        | (rw [if_neg c]; exact decide_eq_false (by omega))
    refine ⟨rfl, _, rfl, fun i x y => ?_, fun k x y z => ?_, Or.inr ⟨hno, ?_, ?_⟩⟩
    · subst_vars; rw [ma_ne _ _ x]
    · subst_vars; rw [ma_self, ma_ne _ _ z]
    · obtain ⟨r1, r2, r3, r4, r5, r6⟩ := hR
      have f : ∀ i, i ≠ 52 → I6 i = I i := fun i x => by rw [eI6, ma_ne _ _ x]
      have f2 : ∀ k, k ≠ 39 → I6 52 k = I 52 k := fun k x => by rw [eI6, ma_self, ma_ne _ _ x]
      refine ⟨?_, by rw [f2 18 (by decide)]; exact r2, by rw [f2 17 (by decide)]; exact r3, ?_, ?_, ?_⟩
      · unfold RPr; rw [f2 13 (by decide), f 59 (by decide), f 60 (by decide), f 61 (by decide), f 62 (by decide), f 63 (by decide), f 64 (by decide)]; exact r1
      · rw [f 66 (by decide), f 67 (by decide)]; exact r4
      · rw [f 65 (by decide)]; exact r5
      · rw [f 65 (by decide)]; exact r6
    · subst_vars; rw [ma_self, ma_self]; omega
